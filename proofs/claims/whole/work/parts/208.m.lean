theorem dX4_takes_0 : decode cX4_takes 0 = .ok (.iload_n 1, 1) := by decide +kernel
theorem dX4_takes_1 : decode cX4_takes 1 = .ok (.ifCond .ne 21, 3) := by decide +kernel
theorem dX4_takes_4 : decode cX4_takes 4 = .ok (.iload_n 2, 1) := by decide +kernel
theorem dX4_takes_5 : decode cX4_takes 5 = .ok (.iconst 0, 1) := by decide +kernel
theorem dX4_takes_6 : decode cX4_takes 6 = .ok (.aload_n 0, 1) := by decide +kernel
theorem dX4_takes_7 : decode cX4_takes 7 = .ok (.getfield 9, 3) := by decide +kernel
theorem dX4_takes_10 : decode cX4_takes 10 = .ok (.iconst 1, 1) := by decide +kernel
theorem dX4_takes_11 : decode cX4_takes 11 = .ok (.isub, 1) := by decide +kernel
theorem dX4_takes_12 : decode cX4_takes 12 = .ok (.invokestatic 18, 3) := by decide +kernel
theorem dX4_takes_15 : decode cX4_takes 15 = .ok (.ifCond .eq 7, 3) := by decide +kernel
theorem dX4_takes_18 : decode cX4_takes 18 = .ok (.iconst 1, 1) := by decide +kernel
theorem dX4_takes_19 : decode cX4_takes 19 = .ok (.goto 4, 3) := by decide +kernel
theorem dX4_takes_22 : decode cX4_takes 22 = .ok (.iconst 0, 1) := by decide +kernel
theorem dX4_takes_23 : decode cX4_takes 23 = .ok (.ireturn, 1) := by decide +kernel
def f_Di_takes (w0 : Nat) (a0 : Int32) (a1 : Int32) (I : Nat → Nat → Int32) (L : Nat → Nat → Int64) : Int32 := (if a0 = (0 : Int32) then (bnd (f_H_isWithin a1 (0 : Int32) ((I w0 2) - (1 : Int32))) fun x2 => (if x2 = (0 : Int32) then (0 : Int32) else (1 : Int32))) else (0 : Int32))
set_option maxRecDepth 100000 in
set_option maxHeartbeats 4000000 in
theorem c_Di_takes {G : xG} {S : List xSh} {Rf : Nat → Nat → Option Nat} (hT : xTH S Rf) {w0 : Nat} {a0 : Int32} {a1 : Int32} (hw0 : S[w0]? = some (.inl 4)) {I : Nat → Nat → Int32} {L : Nat → Nat → Int64} {q : Int32} (hf : f_Di_takes w0 a0 a1 I L = q) : CT G 2 m_Di_takes [.ref (xP G w0), .int a0, .int a1] (S, I, L, Rf) (some (.int q), (S, I, L, Rf)) := by
  refine CT.of (by decide +kernel) (Nat.le_of_ble_eq_true rfl) ?_
  show X G 2 m_Di_takes 0 [(0, .ref (xP G w0)), (1, .int a0), (2, .int a1)] [] (S, I, L, Rf) (some (.int q), (S, I, L, Rf))
  replace hf := (f_Di_takes.eq_1 _ _ _ _ _).symm.trans hf
  refine X_iload_n (pc := 0) (i := 1) 1 dX4_takes_0 rfl rfl ?_
  by_cases c1 : a0 = (0 : Int32)
  · replace hf := (if_pos c1).symm.trans hf
    refine X_if_ne_f (pc := 1) 22 dX4_takes_1 (by decide) c1 ?_
    refine X_iload_n (pc := 4) (i := 2) 2 dX4_takes_4 rfl rfl ?_
    refine X_iconst (pc := 5) (0 : Int32) dX4_takes_5 (by decide) ?_
    refine X_aload_n (pc := 6) (i := 0) 0 dX4_takes_6 rfl rfl ?_
    refine X_get (pc := 7) (a := w0) (ci := 4) (j := 2) (.int (I w0 2)) hw0 (by decide) k_361 rfl dX4_takes_7 ?_
    refine X_iconst (pc := 10) (1 : Int32) dX4_takes_10 (by decide) ?_
    refine X_isub (pc := 11) dX4_takes_11 ?_
    refine X_invSN_i (pc := 12) (c_H_isWithin hT rfl) ok_H_isWithin k_885 k_564 nd_6 (by decide) rfl (Nat.le_of_ble_eq_true rfl) dX4_takes_12 ?_
    obtain ⟨x2, ex2, hf⟩ := bnd_e hf
    refine X_tope ex2 ?_
    by_cases c3 : x2 = (0 : Int32)
    · replace hf := (if_pos c3).symm.trans hf
      refine X_if_eq_t (pc := 15) 22 dX4_takes_15 (by decide) c3 ?_
      refine X_iconst (pc := 22) (0 : Int32) dX4_takes_22 (by decide) ?_
      subst hf
      exact X_zreturn (pc := 23) rfl (nar_b (by decide)) dX4_takes_23
    · replace hf := (if_neg c3).symm.trans hf
      refine X_if_eq_f (pc := 15) 22 dX4_takes_15 (by decide) c3 ?_
      refine X_iconst (pc := 18) (1 : Int32) dX4_takes_18 (by decide) ?_
      refine X_goto (pc := 19) 23 dX4_takes_19 (by decide) ?_
      subst hf
      exact X_zreturn (pc := 23) rfl (nar_b (by decide)) dX4_takes_23
  · replace hf := (if_neg c1).symm.trans hf
    refine X_if_ne_t (pc := 1) 22 dX4_takes_1 (by decide) c1 ?_
    refine X_iconst (pc := 22) (0 : Int32) dX4_takes_22 (by decide) ?_
    subst hf
    exact X_zreturn (pc := 23) rfl (nar_b (by decide)) dX4_takes_23
theorem dX11_isBarred_0 : decode cX11_isBarred 0 = .ok (.aload_n 1, 1) := by decide +kernel
theorem dX11_isBarred_1 : decode cX11_isBarred 1 = .ok (.instanceof 33, 3) := by decide +kernel
theorem dX11_isBarred_4 : decode cX11_isBarred 4 = .ok (.ifCond .eq 28, 3) := by decide +kernel
theorem dX11_isBarred_7 : decode cX11_isBarred 7 = .ok (.aload_n 0, 1) := by decide +kernel
theorem dX11_isBarred_8 : decode cX11_isBarred 8 = .ok (.getfield 20, 3) := by decide +kernel
theorem dX11_isBarred_11 : decode cX11_isBarred 11 = .ok (.aload_n 1, 1) := by decide +kernel
theorem dX11_isBarred_12 : decode cX11_isBarred 12 = .ok (.getfield 385, 3) := by decide +kernel
theorem dX11_isBarred_15 : decode cX11_isBarred 15 = .ok (.aload_n 0, 1) := by decide +kernel
theorem dX11_isBarred_16 : decode cX11_isBarred 16 = .ok (.getfield 10, 3) := by decide +kernel
theorem dX11_isBarred_19 : decode cX11_isBarred 19 = .ok (.getfield 232, 3) := by decide +kernel
theorem dX11_isBarred_22 : decode cX11_isBarred 22 = .ok (.invokevirtual 389, 3) := by decide +kernel
theorem dX11_isBarred_25 : decode cX11_isBarred 25 = .ok (.ifCond .eq 7, 3) := by decide +kernel
theorem dX11_isBarred_28 : decode cX11_isBarred 28 = .ok (.iconst 1, 1) := by decide +kernel
theorem dX11_isBarred_29 : decode cX11_isBarred 29 = .ok (.goto 4, 3) := by decide +kernel
theorem dX11_isBarred_32 : decode cX11_isBarred 32 = .ok (.iconst 0, 1) := by decide +kernel
theorem dX11_isBarred_33 : decode cX11_isBarred 33 = .ok (.ireturn, 1) := by decide +kernel
def f_H_isBarred_D (a0 : Nat) : Int32 := (0 : Int32)
set_option maxRecDepth 100000 in
set_option maxHeartbeats 4000000 in
theorem c_H_isBarred_D {G : xG} {S : List xSh} {Rf : Nat → Nat → Option Nat} (hT : xTH S Rf) {a0 : Nat} (ha0 : S[a0]? = some (.inl 4)) {I : Nat → Nat → Int32} {L : Nat → Nat → Int64} {q : Int32} (hf : f_H_isBarred_D a0 = q) : CT G 1 m_H_isBarred [.ref (xP G 0), .ref (xP G a0)] (S, I, L, Rf) (some (.int q), (S, I, L, Rf)) := by
  refine CT.of (by decide +kernel) (Nat.le_of_ble_eq_true rfl) ?_
  show X G 1 m_H_isBarred 0 [(0, .ref (xP G 0)), (1, .ref (xP G a0))] [] (S, I, L, Rf) (some (.int q), (S, I, L, Rf))
  replace hf := (f_H_isBarred_D.eq_1 _).symm.trans hf
  refine X_aload_n (pc := 0) (i := 1) 1 dX11_isBarred_0 rfl rfl ?_
  refine X_instNo (pc := 1) (ci := 4) ha0 k_237 (by decide) dX11_isBarred_1 ?_
  refine X_if_eq_t (pc := 4) 32 dX11_isBarred_4 (by decide) (by decide) ?_
  refine X_iconst (pc := 32) (0 : Int32) dX11_isBarred_32 (by decide) ?_
  subst hf
  exact X_zreturn (pc := 33) rfl (nar_b (by decide)) dX11_isBarred_33
theorem dX4_put_0 : decode cX4_put 0 = .ok (.aload_n 0, 1) := by decide +kernel
theorem dX4_put_1 : decode cX4_put 1 = .ok (.iload_n 2, 1) := by decide +kernel
theorem dX4_put_2 : decode cX4_put 2 = .ok (.putfield 15, 3) := by decide +kernel
theorem dX4_put_5 : decode cX4_put 5 = .ok (.return_, 1) := by decide +kernel
def f_Di_put (w0 : Nat) (a0 : Int32) (a1 : Int32) (I : Nat → Nat → Int32) (L : Nat → Nat → Int64) : Option ((Nat → Nat → Int32) × (Nat → Nat → Int64)) := (some ((uI I w0 3 a1), L))
set_option maxRecDepth 100000 in
set_option maxHeartbeats 4000000 in
theorem c_Di_put {G : xG} {S : List xSh} {Rf : Nat → Nat → Option Nat} (hT : xTH S Rf) {w0 : Nat} {a0 : Int32} {a1 : Int32} (hw0 : S[w0]? = some (.inl 4)) {I : Nat → Nat → Int32} {L : Nat → Nat → Int64} {q : ((Nat → Nat → Int32) × (Nat → Nat → Int64))} (hf : f_Di_put w0 a0 a1 I L = some q) : CT G 1 m_Di_put [.ref (xP G w0), .int a0, .int a1] (S, I, L, Rf) (none, (S, q.1, q.2, Rf)) := by
  refine CT.of (by decide +kernel) (Nat.le_of_ble_eq_true rfl) ?_
  show X G 1 m_Di_put 0 [(0, .ref (xP G w0)), (1, .int a0), (2, .int a1)] [] (S, I, L, Rf) (none, (S, q.1, q.2, Rf))
  replace hf := (f_Di_put.eq_1 _ _ _ _ _).symm.trans hf
  refine X_aload_n (pc := 0) (i := 0) 0 dX4_put_0 rfl rfl ?_
  refine X_iload_n (pc := 1) (i := 2) 2 dX4_put_1 rfl rfl ?_
  refine X_puti (pc := 2) (a := w0) (ci := 4) (j := 3) 3 rfl false hw0 (by decide) k_362 rfl (fun h => by cases h) rfl dX4_put_2 ?_
  cases hf
  exact X_return (pc := 5) rfl dX4_put_5
theorem u_Di_put {S : List xSh} {w0 : Nat} {a0 : Int32} {a1 : Int32} (hw0 : S[w0]? = some (.inl 4)) {I : Nat → Nat → Int32} {L : Nat → Nat → Int64} {q : ((Nat → Nat → Int32) × (Nat → Nat → Int64))} (hf : f_Di_put w0 a0 a1 I L = some q) : FR S [] [] I q.1 L q.2 := by
  replace hf := (f_Di_put.eq_1 _ _ _ _ _).symm.trans hf
  cases hf
  exact (FR.dy FR.rf hw0 (by decide))
theorem dX1_put_0 : decode cX1_put 0 = .ok (.iload_n 1, 1) := by decide +kernel
theorem dX1_put_1 : decode cX1_put 1 = .ok (.tableswitch 63 0 3 #[31, 39, 47, 55], 31) := by decide +kernel
theorem dX1_put_32 : decode cX1_put 32 = .ok (.aload_n 0, 1) := by decide +kernel
theorem dX1_put_33 : decode cX1_put 33 = .ok (.iload_n 2, 1) := by decide +kernel
theorem dX1_put_34 : decode cX1_put 34 = .ok (.putfield 32, 3) := by decide +kernel
theorem dX1_put_37 : decode cX1_put 37 = .ok (.goto 27, 3) := by decide +kernel
theorem dX1_put_40 : decode cX1_put 40 = .ok (.aload_n 0, 1) := by decide +kernel
theorem dX1_put_41 : decode cX1_put 41 = .ok (.iload_n 2, 1) := by decide +kernel
theorem dX1_put_42 : decode cX1_put 42 = .ok (.putfield 35, 3) := by decide +kernel
theorem dX1_put_45 : decode cX1_put 45 = .ok (.goto 19, 3) := by decide +kernel
theorem dX1_put_48 : decode cX1_put 48 = .ok (.aload_n 0, 1) := by decide +kernel
theorem dX1_put_49 : decode cX1_put 49 = .ok (.iload_n 2, 1) := by decide +kernel
theorem dX1_put_50 : decode cX1_put 50 = .ok (.putfield 38, 3) := by decide +kernel
theorem dX1_put_53 : decode cX1_put 53 = .ok (.goto 11, 3) := by decide +kernel
theorem dX1_put_56 : decode cX1_put 56 = .ok (.aload_n 0, 1) := by decide +kernel
theorem dX1_put_57 : decode cX1_put 57 = .ok (.iload_n 2, 1) := by decide +kernel
theorem dX1_put_58 : decode cX1_put 58 = .ok (.putfield 44, 3) := by decide +kernel
theorem dX1_put_61 : decode cX1_put 61 = .ok (.goto 3, 3) := by decide +kernel
theorem dX1_put_64 : decode cX1_put 64 = .ok (.return_, 1) := by decide +kernel
def f_Ca_put (w0 : Nat) (a0 : Int32) (a1 : Int32) (I : Nat → Nat → Int32) (L : Nat → Nat → Int64) : Option ((Nat → Nat → Int32) × (Nat → Nat → Int64)) := (if a0 = (0 : Int32) then (some ((uI I w0 6 a1), L)) else (if a0 = (1 : Int32) then (some ((uI I w0 7 a1), L)) else (if a0 = (2 : Int32) then (some ((uI I w0 8 a1), L)) else (if a0 = (3 : Int32) then (some ((uI I w0 9 a1), L)) else (some (I, L))))))
set_option maxRecDepth 100000 in
set_option maxHeartbeats 4000000 in
theorem c_Ca_put {G : xG} {S : List xSh} {Rf : Nat → Nat → Option Nat} (hT : xTH S Rf) {w0 : Nat} {a0 : Int32} {a1 : Int32} (hw0 : S[w0]? = some (.inl 1)) {I : Nat → Nat → Int32} {L : Nat → Nat → Int64} {q : ((Nat → Nat → Int32) × (Nat → Nat → Int64))} (hf : f_Ca_put w0 a0 a1 I L = some q) : CT G 1 m_Ca_put [.ref (xP G w0), .int a0, .int a1] (S, I, L, Rf) (none, (S, q.1, q.2, Rf)) := by
  refine CT.of (by decide +kernel) (Nat.le_of_ble_eq_true rfl) ?_
  show X G 1 m_Ca_put 0 [(0, .ref (xP G w0)), (1, .int a0), (2, .int a1)] [] (S, I, L, Rf) (none, (S, q.1, q.2, Rf))
  replace hf := (f_Ca_put.eq_1 _ _ _ _ _).symm.trans hf
  refine X_iload_n (pc := 0) (i := 1) 1 dX1_put_0 rfl rfl ?_
  by_cases c1 : a0 = (0 : Int32)
  · replace hf := (if_pos c1).symm.trans hf
    refine X_tabIn (pc := 1) (off := 31) (0) 32 dX1_put_1 (by rw [c1]; rfl) (by decide) ?_
    refine X_aload_n (pc := 32) (i := 0) 0 dX1_put_32 rfl rfl ?_
    refine X_iload_n (pc := 33) (i := 2) 2 dX1_put_33 rfl rfl ?_
    refine X_puti (pc := 34) (a := w0) (ci := 1) (j := 6) 6 rfl false hw0 (by decide) k_383 rfl (fun h => by cases h) rfl dX1_put_34 ?_
    refine X_goto (pc := 37) 64 dX1_put_37 (by decide) ?_
    cases hf
    exact X_return (pc := 64) rfl dX1_put_64
  · replace hf := (if_neg c1).symm.trans hf
    by_cases c2 : a0 = (1 : Int32)
    · replace hf := (if_pos c2).symm.trans hf
      refine X_tabIn (pc := 1) (off := 39) (1) 40 dX1_put_1 (by rw [c2]; rfl) (by decide) ?_
      refine X_aload_n (pc := 40) (i := 0) 0 dX1_put_40 rfl rfl ?_
      refine X_iload_n (pc := 41) (i := 2) 2 dX1_put_41 rfl rfl ?_
      refine X_puti (pc := 42) (a := w0) (ci := 1) (j := 7) 7 rfl false hw0 (by decide) k_384 rfl (fun h => by cases h) rfl dX1_put_42 ?_
      refine X_goto (pc := 45) 64 dX1_put_45 (by decide) ?_
      cases hf
      exact X_return (pc := 64) rfl dX1_put_64
    · replace hf := (if_neg c2).symm.trans hf
      by_cases c3 : a0 = (2 : Int32)
      · replace hf := (if_pos c3).symm.trans hf
        refine X_tabIn (pc := 1) (off := 47) (2) 48 dX1_put_1 (by rw [c3]; rfl) (by decide) ?_
        refine X_aload_n (pc := 48) (i := 0) 0 dX1_put_48 rfl rfl ?_
        refine X_iload_n (pc := 49) (i := 2) 2 dX1_put_49 rfl rfl ?_
        refine X_puti (pc := 50) (a := w0) (ci := 1) (j := 8) 8 rfl false hw0 (by decide) k_385 rfl (fun h => by cases h) rfl dX1_put_50 ?_
        refine X_goto (pc := 53) 64 dX1_put_53 (by decide) ?_
        cases hf
        exact X_return (pc := 64) rfl dX1_put_64
      · replace hf := (if_neg c3).symm.trans hf
        by_cases c4 : a0 = (3 : Int32)
        · replace hf := (if_pos c4).symm.trans hf
          refine X_tabIn (pc := 1) (off := 55) (3) 56 dX1_put_1 (by rw [c4]; rfl) (by decide) ?_
          refine X_aload_n (pc := 56) (i := 0) 0 dX1_put_56 rfl rfl ?_
          refine X_iload_n (pc := 57) (i := 2) 2 dX1_put_57 rfl rfl ?_
          refine X_puti (pc := 58) (a := w0) (ci := 1) (j := 9) 9 rfl false hw0 (by decide) k_386 rfl (fun h => by cases h) rfl dX1_put_58 ?_
          refine X_goto (pc := 61) 64 dX1_put_61 (by decide) ?_
          cases hf
          exact X_return (pc := 64) rfl dX1_put_64
        · replace hf := (if_neg c4).symm.trans hf
          refine X_tabOut (pc := 1) 64 dX1_put_1 (by have zc1 := lv_neT (a := 0) c1 rfl; have zc2 := lv_neT (a := 1) c2 rfl; have zc3 := lv_neT (a := 2) c3 rfl; have zc4 := lv_neT (a := 3) c4 rfl; omega) (by decide) ?_
          cases hf
          exact X_return (pc := 64) rfl dX1_put_64
theorem u_Ca_put {S : List xSh} {w0 : Nat} {a0 : Int32} {a1 : Int32} (hw0 : S[w0]? = some (.inl 1)) {I : Nat → Nat → Int32} {L : Nat → Nat → Int64} {q : ((Nat → Nat → Int32) × (Nat → Nat → Int64))} (hf : f_Ca_put w0 a0 a1 I L = some q) : FR S [] [] I q.1 L q.2 := by
  replace hf := (f_Ca_put.eq_1 _ _ _ _ _).symm.trans hf
  by_cases c1 : a0 = (0 : Int32)
  · replace hf := (if_pos c1).symm.trans hf
    cases hf
    exact (FR.dy FR.rf hw0 (by decide))
  · replace hf := (if_neg c1).symm.trans hf
    by_cases c2 : a0 = (1 : Int32)
    · replace hf := (if_pos c2).symm.trans hf
      cases hf
      exact (FR.dy FR.rf hw0 (by decide))
    · replace hf := (if_neg c2).symm.trans hf
      by_cases c3 : a0 = (2 : Int32)
      · replace hf := (if_pos c3).symm.trans hf
        cases hf
        exact (FR.dy FR.rf hw0 (by decide))
      · replace hf := (if_neg c3).symm.trans hf
        by_cases c4 : a0 = (3 : Int32)
        · replace hf := (if_pos c4).symm.trans hf
          cases hf
          exact (FR.dy FR.rf hw0 (by decide))
        · replace hf := (if_neg c4).symm.trans hf
          cases hf
          exact FR.rf
theorem dX8_put_0 : decode cX8_put 0 = .ok (.iload_n 1, 1) := by decide +kernel
theorem dX8_put_1 : decode cX8_put 1 = .ok (.tableswitch 51 0 2 #[27, 35, 43], 27) := by decide +kernel
theorem dX8_put_28 : decode cX8_put 28 = .ok (.aload_n 0, 1) := by decide +kernel
theorem dX8_put_29 : decode cX8_put 29 = .ok (.iload_n 2, 1) := by decide +kernel
theorem dX8_put_30 : decode cX8_put 30 = .ok (.putfield 18, 3) := by decide +kernel
theorem dX8_put_33 : decode cX8_put 33 = .ok (.goto 19, 3) := by decide +kernel
theorem dX8_put_36 : decode cX8_put 36 = .ok (.aload_n 0, 1) := by decide +kernel
theorem dX8_put_37 : decode cX8_put 37 = .ok (.iload_n 2, 1) := by decide +kernel
theorem dX8_put_38 : decode cX8_put 38 = .ok (.putfield 21, 3) := by decide +kernel
theorem dX8_put_41 : decode cX8_put 41 = .ok (.goto 11, 3) := by decide +kernel
theorem dX8_put_44 : decode cX8_put 44 = .ok (.aload_n 0, 1) := by decide +kernel
theorem dX8_put_45 : decode cX8_put 45 = .ok (.iload_n 2, 1) := by decide +kernel
theorem dX8_put_46 : decode cX8_put 46 = .ok (.putfield 15, 3) := by decide +kernel
theorem dX8_put_49 : decode cX8_put 49 = .ok (.goto 3, 3) := by decide +kernel
theorem dX8_put_52 : decode cX8_put 52 = .ok (.return_, 1) := by decide +kernel
def f_St_put (w0 : Nat) (a0 : Int32) (a1 : Int32) (I : Nat → Nat → Int32) (L : Nat → Nat → Int64) : Option ((Nat → Nat → Int32) × (Nat → Nat → Int64)) := (if a0 = (0 : Int32) then (some ((uI I w0 5 a1), L)) else (if a0 = (1 : Int32) then (some ((uI I w0 6 a1), L)) else (if a0 = (2 : Int32) then (some ((uI I w0 7 a1), L)) else (some (I, L)))))
set_option maxRecDepth 100000 in
set_option maxHeartbeats 4000000 in
theorem c_St_put {G : xG} {S : List xSh} {Rf : Nat → Nat → Option Nat} (hT : xTH S Rf) {w0 : Nat} {a0 : Int32} {a1 : Int32} (hw0 : S[w0]? = some (.inl 8)) {I : Nat → Nat → Int32} {L : Nat → Nat → Int64} {q : ((Nat → Nat → Int32) × (Nat → Nat → Int64))} (hf : f_St_put w0 a0 a1 I L = some q) : CT G 1 m_St_put [.ref (xP G w0), .int a0, .int a1] (S, I, L, Rf) (none, (S, q.1, q.2, Rf)) := by
  refine CT.of (by decide +kernel) (Nat.le_of_ble_eq_true rfl) ?_
  show X G 1 m_St_put 0 [(0, .ref (xP G w0)), (1, .int a0), (2, .int a1)] [] (S, I, L, Rf) (none, (S, q.1, q.2, Rf))
  replace hf := (f_St_put.eq_1 _ _ _ _ _).symm.trans hf
  refine X_iload_n (pc := 0) (i := 1) 1 dX8_put_0 rfl rfl ?_
  by_cases c1 : a0 = (0 : Int32)
  · replace hf := (if_pos c1).symm.trans hf
    refine X_tabIn (pc := 1) (off := 27) (0) 28 dX8_put_1 (by rw [c1]; rfl) (by decide) ?_
    refine X_aload_n (pc := 28) (i := 0) 0 dX8_put_28 rfl rfl ?_
    refine X_iload_n (pc := 29) (i := 2) 2 dX8_put_29 rfl rfl ?_
    refine X_puti (pc := 30) (a := w0) (ci := 8) (j := 3) 5 rfl false hw0 (by decide) k_424 rfl (fun h => by cases h) rfl dX8_put_30 ?_
    refine X_goto (pc := 33) 52 dX8_put_33 (by decide) ?_
    cases hf
    exact X_return (pc := 52) rfl dX8_put_52
  · replace hf := (if_neg c1).symm.trans hf
    by_cases c2 : a0 = (1 : Int32)
    · replace hf := (if_pos c2).symm.trans hf
      refine X_tabIn (pc := 1) (off := 35) (1) 36 dX8_put_1 (by rw [c2]; rfl) (by decide) ?_
      refine X_aload_n (pc := 36) (i := 0) 0 dX8_put_36 rfl rfl ?_
      refine X_iload_n (pc := 37) (i := 2) 2 dX8_put_37 rfl rfl ?_
      refine X_puti (pc := 38) (a := w0) (ci := 8) (j := 4) 6 rfl false hw0 (by decide) k_425 rfl (fun h => by cases h) rfl dX8_put_38 ?_
      refine X_goto (pc := 41) 52 dX8_put_41 (by decide) ?_
      cases hf
      exact X_return (pc := 52) rfl dX8_put_52
    · replace hf := (if_neg c2).symm.trans hf
      by_cases c3 : a0 = (2 : Int32)
      · replace hf := (if_pos c3).symm.trans hf
        refine X_tabIn (pc := 1) (off := 43) (2) 44 dX8_put_1 (by rw [c3]; rfl) (by decide) ?_
        refine X_aload_n (pc := 44) (i := 0) 0 dX8_put_44 rfl rfl ?_
        refine X_iload_n (pc := 45) (i := 2) 2 dX8_put_45 rfl rfl ?_
        refine X_puti (pc := 46) (a := w0) (ci := 8) (j := 5) 7 rfl false hw0 (by decide) k_426 rfl (fun h => by cases h) rfl dX8_put_46 ?_
        refine X_goto (pc := 49) 52 dX8_put_49 (by decide) ?_
        cases hf
        exact X_return (pc := 52) rfl dX8_put_52
      · replace hf := (if_neg c3).symm.trans hf
        refine X_tabOut (pc := 1) 52 dX8_put_1 (by have zc1 := lv_neT (a := 0) c1 rfl; have zc2 := lv_neT (a := 1) c2 rfl; have zc3 := lv_neT (a := 2) c3 rfl; omega) (by decide) ?_
        cases hf
        exact X_return (pc := 52) rfl dX8_put_52
theorem u_St_put {S : List xSh} {w0 : Nat} {a0 : Int32} {a1 : Int32} (hw0 : S[w0]? = some (.inl 8)) {I : Nat → Nat → Int32} {L : Nat → Nat → Int64} {q : ((Nat → Nat → Int32) × (Nat → Nat → Int64))} (hf : f_St_put w0 a0 a1 I L = some q) : FR S [] [] I q.1 L q.2 := by
  replace hf := (f_St_put.eq_1 _ _ _ _ _).symm.trans hf
  by_cases c1 : a0 = (0 : Int32)
  · replace hf := (if_pos c1).symm.trans hf
    cases hf
    exact (FR.dy FR.rf hw0 (by decide))
  · replace hf := (if_neg c1).symm.trans hf
    by_cases c2 : a0 = (1 : Int32)
    · replace hf := (if_pos c2).symm.trans hf
      cases hf
      exact (FR.dy FR.rf hw0 (by decide))
    · replace hf := (if_neg c2).symm.trans hf
      by_cases c3 : a0 = (2 : Int32)
      · replace hf := (if_pos c3).symm.trans hf
        cases hf
        exact (FR.dy FR.rf hw0 (by decide))
      · replace hf := (if_neg c3).symm.trans hf
        cases hf
        exact FR.rf
theorem dX11_putRight_0 : decode cX11_putRight 0 = .ok (.aload_n 0, 1) := by decide +kernel
theorem dX11_putRight_1 : decode cX11_putRight 1 = .ok (.iload_n 1, 1) := by decide +kernel
theorem dX11_putRight_2 : decode cX11_putRight 2 = .ok (.invokevirtual 198, 3) := by decide +kernel
theorem dX11_putRight_5 : decode cX11_putRight 5 = .ok (.astore 4, 2) := by decide +kernel
theorem dX11_putRight_7 : decode cX11_putRight 7 = .ok (.aload 4, 2) := by decide +kernel
theorem dX11_putRight_9 : decode cX11_putRight 9 = .ok (.ifnonnull 5, 3) := by decide +kernel
theorem dX11_putRight_12 : decode cX11_putRight 12 = .ok (.iconst (-1), 1) := by decide +kernel
theorem dX11_putRight_13 : decode cX11_putRight 13 = .ok (.ireturn, 1) := by decide +kernel
theorem dX11_putRight_14 : decode cX11_putRight 14 = .ok (.aload 4, 2) := by decide +kernel
theorem dX11_putRight_16 : decode cX11_putRight 16 = .ok (.iload_n 2, 1) := by decide +kernel
theorem dX11_putRight_17 : decode cX11_putRight 17 = .ok (.iload_n 3, 1) := by decide +kernel
theorem dX11_putRight_18 : decode cX11_putRight 18 = .ok (.invokevirtual 421, 3) := by decide +kernel
theorem dX11_putRight_21 : decode cX11_putRight 21 = .ok (.iconst 0, 1) := by decide +kernel
theorem dX11_putRight_22 : decode cX11_putRight 22 = .ok (.ireturn, 1) := by decide +kernel
def f_H_putRight (S : List xSh) (Rf : Nat → Nat → Option Nat) (a0 : Int32) (a1 : Int32) (a2 : Int32) (I : Nat → Nat → Int32) (L : Nat → Nat → Int64) : Option (Int32 × (Nat → Nat → Int32) × (Nat → Nat → Int64)) := ((f_H_workAt S Rf a0 I L).bind fun q1 => (oc q1 (some ((-1 : Int32), I, L)) fun w3 => (if S[w3]? = some (.inl 4) then ((f_Di_put w3 a1 a2 I L).bind fun q6 => (some ((0 : Int32), q6.1, q6.2))) else (if S[w3]? = some (.inl 1) then ((f_Ca_put w3 a1 a2 I L).bind fun q9 => (some ((0 : Int32), q9.1, q9.2))) else (if S[w3]? = some (.inl 8) then ((f_St_put w3 a1 a2 I L).bind fun q12 => (some ((0 : Int32), q12.1, q12.2))) else none)))))
set_option maxRecDepth 100000 in
set_option maxHeartbeats 4000000 in
theorem c_H_putRight {G : xG} {S : List xSh} {Rf : Nat → Nat → Option Nat} (hT : xTH S Rf) {a0 : Int32} {a1 : Int32} {a2 : Int32} {I : Nat → Nat → Int32} {L : Nat → Nat → Int64} {q : (Int32 × (Nat → Nat → Int32) × (Nat → Nat → Int64))} (hf : f_H_putRight S Rf a0 a1 a2 I L = some q) : CT G 3 m_H_putRight [.ref (xP G 0), .int a0, .int a1, .int a2] (S, I, L, Rf) (some (.int q.1), (S, q.2.1, q.2.2, Rf)) := by
  refine CT.of (by decide +kernel) (Nat.le_of_ble_eq_true rfl) ?_
  show X G 3 m_H_putRight 0 [(0, .ref (xP G 0)), (1, .int a0), (2, .int a1), (3, .int a2)] [] (S, I, L, Rf) (some (.int q.1), (S, q.2.1, q.2.2, Rf))
  replace hf := (f_H_putRight.eq_1 _ _ _ _ _ _ _).symm.trans hf
  refine X_aload_n (pc := 0) (i := 0) 0 dX11_putRight_0 rfl rfl ?_
  refine X_iload_n (pc := 1) (i := 1) 1 dX11_putRight_1 rfl rfl ?_
  obtain ⟨q1, c2, hf⟩ := bd_some hf
  rcases oc_cases hf with ⟨hr4, hf⟩ | ⟨w3, hr4, hf⟩
  · rw [hr4] at c2
    refine X_invV_aN (pc := 2) (c_H_workAt hT c2) ok_H_workAt (ci := 10) (sh_0 hT) k_872 k_874 k_19 nd_24 (by decide) rfl (Nat.le_of_ble_eq_true rfl) dX11_putRight_2 ?_
    refine X_astoreN (pc := 5) [(4, .null), (0, .ref (xP G 0)), (1, .int a0), (2, .int a1), (3, .int a2)] dX11_putRight_5 (by decide) rfl ?_
    refine X_aloadN (pc := 7) (i := 4) 0 dX11_putRight_7 rfl ?_
    refine X_ifnonnull_f (pc := 9) dX11_putRight_9 ?_
    refine X_iconst (pc := 12) (-1 : Int32) dX11_putRight_12 (by decide) ?_
    cases hf
    exact X_ireturn (pc := 13) rfl dX11_putRight_13
  · rw [hr4] at c2
    refine X_invV_aS (pc := 2) (c_H_workAt hT c2) ok_H_workAt (ci := 10) (sh_0 hT) k_872 k_874 k_19 nd_24 (by decide) rfl (Nat.le_of_ble_eq_true rfl) dX11_putRight_2 ?_
    refine X_astore (pc := 5) [(4, .ref (xP G w3)), (0, .ref (xP G 0)), (1, .int a0), (2, .int a1), (3, .int a2)] dX11_putRight_5 (by decide) rfl ?_
    refine X_aload (pc := 7) 0 dX11_putRight_7 rfl ?_
    refine X_ifnonnull_t (pc := 9) 14 dX11_putRight_9 (by decide) ?_
    refine X_aload (pc := 14) 0 dX11_putRight_14 rfl ?_
    refine X_iload_n (pc := 16) (i := 2) 3 dX11_putRight_16 rfl rfl ?_
    refine X_iload_n (pc := 17) (i := 3) 4 dX11_putRight_17 rfl rfl ?_
    by_cases hs5 : S[w3]? = some (.inl 4)
    · replace hf := (if_pos hs5).symm.trans hf
      obtain ⟨q6, c7, hf⟩ := bd_some hf
      refine X_invU_v (pc := 18) (c_Di_put hT hs5 c7) ok_Di_put (ci := 4) hs5 k_904 k_906 k_905 (by decide +kernel) k_911 k_910 nd_10 (by decide) rfl (Nat.le_of_ble_eq_true rfl) dX11_putRight_18 ?_
      refine X_iconst (pc := 21) (0 : Int32) dX11_putRight_21 (by decide) ?_
      cases hf
      exact X_ireturn (pc := 22) rfl dX11_putRight_22
    · replace hf := (if_neg hs5).symm.trans hf
      by_cases hs8 : S[w3]? = some (.inl 1)
      · replace hf := (if_pos hs8).symm.trans hf
        obtain ⟨q9, c10, hf⟩ := bd_some hf
        refine X_invU_v (pc := 18) (c_Ca_put hT hs8 c10) ok_Ca_put (ci := 1) hs8 k_904 k_906 k_905 (by decide +kernel) k_908 k_907 nd_10 (by decide) rfl (Nat.le_of_ble_eq_true rfl) dX11_putRight_18 ?_
        refine X_iconst (pc := 21) (0 : Int32) dX11_putRight_21 (by decide) ?_
        cases hf
        exact X_ireturn (pc := 22) rfl dX11_putRight_22
      · replace hf := (if_neg hs8).symm.trans hf
        obtain ⟨hs11, hf⟩ := gd_some hf
        obtain ⟨q12, c13, hf⟩ := bd_some hf
        refine X_invU_v (pc := 18) (c_St_put hT hs11 c13) ok_St_put (ci := 8) hs11 k_904 k_906 k_905 (by decide +kernel) k_914 k_913 nd_10 (by decide) rfl (Nat.le_of_ble_eq_true rfl) dX11_putRight_18 ?_
        refine X_iconst (pc := 21) (0 : Int32) dX11_putRight_21 (by decide) ?_
        cases hf
        exact X_ireturn (pc := 22) rfl dX11_putRight_22
theorem u_H_putRight {S : List xSh} {Rf : Nat → Nat → Option Nat} {a0 : Int32} {a1 : Int32} {a2 : Int32} {I : Nat → Nat → Int32} {L : Nat → Nat → Int64} {q : (Int32 × (Nat → Nat → Int32) × (Nat → Nat → Int64))} (hf : f_H_putRight S Rf a0 a1 a2 I L = some q) : FR S [] [] I q.2.1 L q.2.2 := by
  replace hf := (f_H_putRight.eq_1 _ _ _ _ _ _ _).symm.trans hf
  obtain ⟨q1, c2, hf⟩ := bd_some hf
  rcases oc_cases hf with ⟨hr4, hf⟩ | ⟨w3, hr4, hf⟩
  · rw [hr4] at c2
    cases hf
    exact FR.rf
  · rw [hr4] at c2
    by_cases hs5 : S[w3]? = some (.inl 4)
    · replace hf := (if_pos hs5).symm.trans hf
      obtain ⟨q6, c7, hf⟩ := bd_some hf
      cases hf
      exact (FR.tr FR.rf (u_Di_put hs5 (q := q6) c7) (by decide) (by decide))
    · replace hf := (if_neg hs5).symm.trans hf
      by_cases hs8 : S[w3]? = some (.inl 1)
      · replace hf := (if_pos hs8).symm.trans hf
        obtain ⟨q9, c10, hf⟩ := bd_some hf
        cases hf
        exact (FR.tr FR.rf (u_Ca_put hs8 (q := q9) c10) (by decide) (by decide))
      · replace hf := (if_neg hs8).symm.trans hf
        obtain ⟨hs11, hf⟩ := gd_some hf
        obtain ⟨q12, c13, hf⟩ := bd_some hf
        cases hf
        exact (FR.tr FR.rf (u_St_put hs11 (q := q12) c13) (by decide) (by decide))
theorem dX1_takes_0 : decode cX1_takes 0 = .ok (.iload_n 1, 1) := by decide +kernel
theorem dX1_takes_1 : decode cX1_takes 1 = .ok (.tableswitch 64 0 3 #[31, 39, 47, 56], 31) := by decide +kernel
theorem dX1_takes_32 : decode cX1_takes 32 = .ok (.iload_n 2, 1) := by decide +kernel
theorem dX1_takes_33 : decode cX1_takes 33 = .ok (.iconst 1, 1) := by decide +kernel
theorem dX1_takes_34 : decode cX1_takes 34 = .ok (.bipush 31, 2) := by decide +kernel
theorem dX1_takes_36 : decode cX1_takes 36 = .ok (.invokestatic 24, 3) := by decide +kernel
theorem dX1_takes_39 : decode cX1_takes 39 = .ok (.ireturn, 1) := by decide +kernel
theorem dX1_takes_40 : decode cX1_takes 40 = .ok (.iload_n 2, 1) := by decide +kernel
theorem dX1_takes_41 : decode cX1_takes 41 = .ok (.iconst 1, 1) := by decide +kernel
theorem dX1_takes_42 : decode cX1_takes 42 = .ok (.bipush 12, 2) := by decide +kernel
theorem dX1_takes_44 : decode cX1_takes 44 = .ok (.invokestatic 24, 3) := by decide +kernel
theorem dX1_takes_47 : decode cX1_takes 47 = .ok (.ireturn, 1) := by decide +kernel
theorem dX1_takes_48 : decode cX1_takes 48 = .ok (.iload_n 2, 1) := by decide +kernel
theorem dX1_takes_49 : decode cX1_takes 49 = .ok (.iconst 1, 1) := by decide +kernel
theorem dX1_takes_50 : decode cX1_takes 50 = .ok (.sipush 9999, 3) := by decide +kernel
theorem dX1_takes_53 : decode cX1_takes 53 = .ok (.invokestatic 24, 3) := by decide +kernel
theorem dX1_takes_56 : decode cX1_takes 56 = .ok (.ireturn, 1) := by decide +kernel
theorem dX1_takes_57 : decode cX1_takes 57 = .ok (.iload_n 2, 1) := by decide +kernel
theorem dX1_takes_58 : decode cX1_takes 58 = .ok (.iconst 0, 1) := by decide +kernel
theorem dX1_takes_59 : decode cX1_takes 59 = .ok (.bipush 6, 2) := by decide +kernel
theorem dX1_takes_61 : decode cX1_takes 61 = .ok (.invokestatic 24, 3) := by decide +kernel
theorem dX1_takes_64 : decode cX1_takes 64 = .ok (.ireturn, 1) := by decide +kernel
theorem dX1_takes_65 : decode cX1_takes 65 = .ok (.iconst 0, 1) := by decide +kernel
theorem dX1_takes_66 : decode cX1_takes 66 = .ok (.ireturn, 1) := by decide +kernel
def f_Ca_takes (w0 : Nat) (a0 : Int32) (a1 : Int32) : Option Int32 := (if a0 = (0 : Int32) then (bnd (f_H_isWithin a1 (1 : Int32) (31 : Int32)) fun x5 => (if (x5 = (0 : Int32) ∨ x5 = (1 : Int32)) then (some x5) else none)) else (if a0 = (1 : Int32) then (bnd (f_H_isWithin a1 (1 : Int32) (12 : Int32)) fun x7 => (if (x7 = (0 : Int32) ∨ x7 = (1 : Int32)) then (some x7) else none)) else (if a0 = (2 : Int32) then (bnd (f_H_isWithin a1 (1 : Int32) (9999 : Int32)) fun x9 => (if (x9 = (0 : Int32) ∨ x9 = (1 : Int32)) then (some x9) else none)) else (if a0 = (3 : Int32) then (bnd (f_H_isWithin a1 (0 : Int32) (6 : Int32)) fun x11 => (if (x11 = (0 : Int32) ∨ x11 = (1 : Int32)) then (some x11) else none)) else (some (0 : Int32))))))
set_option maxRecDepth 100000 in
set_option maxHeartbeats 4000000 in
theorem c_Ca_takes {G : xG} {S : List xSh} {Rf : Nat → Nat → Option Nat} (hT : xTH S Rf) {w0 : Nat} {a0 : Int32} {a1 : Int32} (hw0 : S[w0]? = some (.inl 1)) {I : Nat → Nat → Int32} {L : Nat → Nat → Int64} {q : Int32} (hf : f_Ca_takes w0 a0 a1 = some q) : CT G 2 m_Ca_takes [.ref (xP G w0), .int a0, .int a1] (S, I, L, Rf) (some (.int q), (S, I, L, Rf)) := by
  refine CT.of (by decide +kernel) (Nat.le_of_ble_eq_true rfl) ?_
  show X G 2 m_Ca_takes 0 [(0, .ref (xP G w0)), (1, .int a0), (2, .int a1)] [] (S, I, L, Rf) (some (.int q), (S, I, L, Rf))
  replace hf := (f_Ca_takes.eq_1 _ _ _).symm.trans hf
  refine X_iload_n (pc := 0) (i := 1) 1 dX1_takes_0 rfl rfl ?_
  by_cases c1 : a0 = (0 : Int32)
  · replace hf := (if_pos c1).symm.trans hf
    refine X_tabIn (pc := 1) (off := 31) (0) 32 dX1_takes_1 (by rw [c1]; rfl) (by decide) ?_
    refine X_iload_n (pc := 32) (i := 2) 2 dX1_takes_32 rfl rfl ?_
    refine X_iconst (pc := 33) (1 : Int32) dX1_takes_33 (by decide) ?_
    refine X_bipush (pc := 34) (31 : Int32) dX1_takes_34 (by decide) ?_
    refine X_invSN_i (pc := 36) (c_H_isWithin hT rfl) ok_H_isWithin k_677 k_564 nd_6 (by decide) rfl (Nat.le_of_ble_eq_true rfl) dX1_takes_36 ?_
    obtain ⟨x5, ex5, hf⟩ := bnd_e hf
    refine X_tope ex5 ?_
    obtain ⟨c6, hf⟩ := gd_some hf
    cases hf
    exact X_zreturn (pc := 39) rfl (nar_b c6) dX1_takes_39
  · replace hf := (if_neg c1).symm.trans hf
    by_cases c2 : a0 = (1 : Int32)
    · replace hf := (if_pos c2).symm.trans hf
      refine X_tabIn (pc := 1) (off := 39) (1) 40 dX1_takes_1 (by rw [c2]; rfl) (by decide) ?_
      refine X_iload_n (pc := 40) (i := 2) 2 dX1_takes_40 rfl rfl ?_
      refine X_iconst (pc := 41) (1 : Int32) dX1_takes_41 (by decide) ?_
      refine X_bipush (pc := 42) (12 : Int32) dX1_takes_42 (by decide) ?_
      refine X_invSN_i (pc := 44) (c_H_isWithin hT rfl) ok_H_isWithin k_677 k_564 nd_6 (by decide) rfl (Nat.le_of_ble_eq_true rfl) dX1_takes_44 ?_
      obtain ⟨x7, ex7, hf⟩ := bnd_e hf
      refine X_tope ex7 ?_
      obtain ⟨c8, hf⟩ := gd_some hf
      cases hf
      exact X_zreturn (pc := 47) rfl (nar_b c8) dX1_takes_47
    · replace hf := (if_neg c2).symm.trans hf
      by_cases c3 : a0 = (2 : Int32)
      · replace hf := (if_pos c3).symm.trans hf
        refine X_tabIn (pc := 1) (off := 47) (2) 48 dX1_takes_1 (by rw [c3]; rfl) (by decide) ?_
        refine X_iload_n (pc := 48) (i := 2) 2 dX1_takes_48 rfl rfl ?_
        refine X_iconst (pc := 49) (1 : Int32) dX1_takes_49 (by decide) ?_
        refine X_sipush (pc := 50) (9999 : Int32) dX1_takes_50 (by decide) ?_
        refine X_invSN_i (pc := 53) (c_H_isWithin hT rfl) ok_H_isWithin k_677 k_564 nd_6 (by decide) rfl (Nat.le_of_ble_eq_true rfl) dX1_takes_53 ?_
        obtain ⟨x9, ex9, hf⟩ := bnd_e hf
        refine X_tope ex9 ?_
        obtain ⟨c10, hf⟩ := gd_some hf
        cases hf
        exact X_zreturn (pc := 56) rfl (nar_b c10) dX1_takes_56
      · replace hf := (if_neg c3).symm.trans hf
        by_cases c4 : a0 = (3 : Int32)
        · replace hf := (if_pos c4).symm.trans hf
          refine X_tabIn (pc := 1) (off := 56) (3) 57 dX1_takes_1 (by rw [c4]; rfl) (by decide) ?_
          refine X_iload_n (pc := 57) (i := 2) 2 dX1_takes_57 rfl rfl ?_
          refine X_iconst (pc := 58) (0 : Int32) dX1_takes_58 (by decide) ?_
          refine X_bipush (pc := 59) (6 : Int32) dX1_takes_59 (by decide) ?_
          refine X_invSN_i (pc := 61) (c_H_isWithin hT rfl) ok_H_isWithin k_677 k_564 nd_6 (by decide) rfl (Nat.le_of_ble_eq_true rfl) dX1_takes_61 ?_
          obtain ⟨x11, ex11, hf⟩ := bnd_e hf
          refine X_tope ex11 ?_
          obtain ⟨c12, hf⟩ := gd_some hf
          cases hf
          exact X_zreturn (pc := 64) rfl (nar_b c12) dX1_takes_64
        · replace hf := (if_neg c4).symm.trans hf
          refine X_tabOut (pc := 1) 65 dX1_takes_1 (by have zc1 := lv_neT (a := 0) c1 rfl; have zc2 := lv_neT (a := 1) c2 rfl; have zc3 := lv_neT (a := 2) c3 rfl; have zc4 := lv_neT (a := 3) c4 rfl; omega) (by decide) ?_
          refine X_iconst (pc := 65) (0 : Int32) dX1_takes_65 (by decide) ?_
          cases hf
          exact X_zreturn (pc := 66) rfl (nar_b (by decide)) dX1_takes_66
theorem dX6_isNearTurn_0 : decode cX6_isNearTurn 0 = .ok (.iload_n 1, 1) := by decide +kernel
theorem dX6_isNearTurn_1 : decode cX6_isNearTurn 1 = .ok (.ifCond .lt 20, 3) := by decide +kernel
theorem dX6_isNearTurn_4 : decode cX6_isNearTurn 4 = .ok (.iload_n 1, 1) := by decide +kernel
theorem dX6_isNearTurn_5 : decode cX6_isNearTurn 5 = .ok (.bipush 24, 2) := by decide +kernel
theorem dX6_isNearTurn_7 : decode cX6_isNearTurn 7 = .ok (.if_icmp .ge 14, 3) := by decide +kernel
theorem dX6_isNearTurn_10 : decode cX6_isNearTurn 10 = .ok (.aload_n 0, 1) := by decide +kernel
theorem dX6_isNearTurn_11 : decode cX6_isNearTurn 11 = .ok (.getfield 18, 3) := by decide +kernel
theorem dX6_isNearTurn_14 : decode cX6_isNearTurn 14 = .ok (.iload_n 1, 1) := by decide +kernel
theorem dX6_isNearTurn_15 : decode cX6_isNearTurn 15 = .ok (.laload, 1) := by decide +kernel
theorem dX6_isNearTurn_16 : decode cX6_isNearTurn 16 = .ok (.lconst 0, 1) := by decide +kernel
theorem dX6_isNearTurn_17 : decode cX6_isNearTurn 17 = .ok (.lcmp, 1) := by decide +kernel
theorem dX6_isNearTurn_18 : decode cX6_isNearTurn 18 = .ok (.ifCond .gt 5, 3) := by decide +kernel
theorem dX6_isNearTurn_21 : decode cX6_isNearTurn 21 = .ok (.iconst 0, 1) := by decide +kernel
theorem dX6_isNearTurn_22 : decode cX6_isNearTurn 22 = .ok (.ireturn, 1) := by decide +kernel
theorem dX6_isNearTurn_23 : decode cX6_isNearTurn 23 = .ok (.aload_n 0, 1) := by decide +kernel
theorem dX6_isNearTurn_24 : decode cX6_isNearTurn 24 = .ok (.getfield 11, 3) := by decide +kernel
theorem dX6_isNearTurn_27 : decode cX6_isNearTurn 27 = .ok (.iload_n 1, 1) := by decide +kernel
theorem dX6_isNearTurn_28 : decode cX6_isNearTurn 28 = .ok (.laload, 1) := by decide +kernel
theorem dX6_isNearTurn_29 : decode cX6_isNearTurn 29 = .ok (.invokestatic 62, 3) := by decide +kernel
theorem dX6_isNearTurn_32 : decode cX6_isNearTurn 32 = .ok (.iload_n 2, 1) := by decide +kernel
theorem dX6_isNearTurn_33 : decode cX6_isNearTurn 33 = .ok (.i2l, 1) := by decide +kernel
theorem dX6_isNearTurn_34 : decode cX6_isNearTurn 34 = .ok (.lmul, 1) := by decide +kernel
theorem dX6_isNearTurn_35 : decode cX6_isNearTurn 35 = .ok (.aload_n 0, 1) := by decide +kernel
theorem dX6_isNearTurn_36 : decode cX6_isNearTurn 36 = .ok (.getfield 18, 3) := by decide +kernel
theorem dX6_isNearTurn_39 : decode cX6_isNearTurn 39 = .ok (.iload_n 1, 1) := by decide +kernel
theorem dX6_isNearTurn_40 : decode cX6_isNearTurn 40 = .ok (.laload, 1) := by decide +kernel
theorem dX6_isNearTurn_41 : decode cX6_isNearTurn 41 = .ok (.lrem, 1) := by decide +kernel
theorem dX6_isNearTurn_42 : decode cX6_isNearTurn 42 = .ok (.ldc2_w 68, 3) := by decide +kernel
theorem dX6_isNearTurn_45 : decode cX6_isNearTurn 45 = .ok (.lmul, 1) := by decide +kernel
theorem dX6_isNearTurn_46 : decode cX6_isNearTurn 46 = .ok (.aload_n 0, 1) := by decide +kernel
theorem dX6_isNearTurn_47 : decode cX6_isNearTurn 47 = .ok (.getfield 18, 3) := by decide +kernel
theorem dX6_isNearTurn_50 : decode cX6_isNearTurn 50 = .ok (.iload_n 1, 1) := by decide +kernel
theorem dX6_isNearTurn_51 : decode cX6_isNearTurn 51 = .ok (.laload, 1) := by decide +kernel
theorem dX6_isNearTurn_52 : decode cX6_isNearTurn 52 = .ok (.ldc2_w 70, 3) := by decide +kernel
theorem dX6_isNearTurn_55 : decode cX6_isNearTurn 55 = .ok (.lmul, 1) := by decide +kernel
theorem dX6_isNearTurn_56 : decode cX6_isNearTurn 56 = .ok (.lcmp, 1) := by decide +kernel
theorem dX6_isNearTurn_57 : decode cX6_isNearTurn 57 = .ok (.ifCond .lt 7, 3) := by decide +kernel
theorem dX6_isNearTurn_60 : decode cX6_isNearTurn 60 = .ok (.iconst 1, 1) := by decide +kernel
theorem dX6_isNearTurn_61 : decode cX6_isNearTurn 61 = .ok (.goto 4, 3) := by decide +kernel
theorem dX6_isNearTurn_64 : decode cX6_isNearTurn 64 = .ok (.iconst 0, 1) := by decide +kernel
theorem dX6_isNearTurn_65 : decode cX6_isNearTurn 65 = .ok (.ireturn, 1) := by decide +kernel
def f_Ge_isNearTurn (a0 : Int32) (a1 : Int32) (I : Nat → Nat → Int32) (L : Nat → Nat → Int64) : Option Int32 := (if a0 < (0 : Int32) then (some (0 : Int32)) else (if (24 : Int32) ≤ a0 then (some (0 : Int32)) else (if (0 ≤ a0 ∧ a0 < (24 : Int32)) then (if (0 : Int64) < (L 5 (a0.toNatClampNeg)) then (if (0 ≤ a0 ∧ a0 < (24 : Int32)) then (if (0 ≤ a0 ∧ a0 < (24 : Int32)) then (if ¬ (L 5 (a0.toNatClampNeg)) = (0 : Int64) then (bnd ((lrem ((Jabs (L 3 (a0.toNatClampNeg))) * (Int32.toInt64 a1)) (L 5 (a0.toNatClampNeg))) * (4 : Int64)) fun x8 => (if (0 ≤ a0 ∧ a0 < (24 : Int32)) then (if x8 < ((L 5 (a0.toNatClampNeg)) * (3 : Int64)) then (some (0 : Int32)) else (some (1 : Int32))) else none)) else none) else none) else none) else (some (0 : Int32))) else none)))
set_option maxRecDepth 100000 in
set_option maxHeartbeats 4000000 in
theorem c_Ge_isNearTurn {G : xG} {S : List xSh} {Rf : Nat → Nat → Option Nat} (hT : xTH S Rf) {a0 : Int32} {a1 : Int32} {I : Nat → Nat → Int32} {L : Nat → Nat → Int64} {q : Int32} (hf : f_Ge_isNearTurn a0 a1 I L = some q) : CT G 1 m_Ge_isNearTurn [.ref (xP G 2), .int a0, .int a1] (S, I, L, Rf) (some (.int q), (S, I, L, Rf)) := by
  refine CT.of (by decide +kernel) (Nat.le_of_ble_eq_true rfl) ?_
  show X G 1 m_Ge_isNearTurn 0 [(0, .ref (xP G 2)), (1, .int a0), (2, .int a1)] [] (S, I, L, Rf) (some (.int q), (S, I, L, Rf))
  replace hf := (f_Ge_isNearTurn.eq_1 _ _ _ _).symm.trans hf
  refine X_iload_n (pc := 0) (i := 1) 1 dX6_isNearTurn_0 rfl rfl ?_
  by_cases c1 : a0 < (0 : Int32)
  · replace hf := (if_pos c1).symm.trans hf
    refine X_if_lt_t (pc := 1) 21 dX6_isNearTurn_1 (by decide) c1 ?_
    refine X_iconst (pc := 21) (0 : Int32) dX6_isNearTurn_21 (by decide) ?_
    cases hf
    exact X_zreturn (pc := 22) rfl (nar_b (by decide)) dX6_isNearTurn_22
  · replace hf := (if_neg c1).symm.trans hf
    refine X_if_lt_f (pc := 1) 21 dX6_isNearTurn_1 (by decide) c1 ?_
    refine X_iload_n (pc := 4) (i := 1) 1 dX6_isNearTurn_4 rfl rfl ?_
    refine X_bipush (pc := 5) (24 : Int32) dX6_isNearTurn_5 (by decide) ?_
    by_cases c2 : (24 : Int32) ≤ a0
    · replace hf := (if_pos c2).symm.trans hf
      refine X_icmp_ge_t (pc := 7) 21 dX6_isNearTurn_7 (by decide) c2 ?_
      refine X_iconst (pc := 21) (0 : Int32) dX6_isNearTurn_21 (by decide) ?_
      cases hf
      exact X_zreturn (pc := 22) rfl (nar_b (by decide)) dX6_isNearTurn_22
    · replace hf := (if_neg c2).symm.trans hf
      refine X_icmp_ge_f (pc := 7) 21 dX6_isNearTurn_7 (by decide) c2 ?_
      refine X_aload_n (pc := 10) (i := 0) 0 dX6_isNearTurn_10 rfl rfl ?_
      refine X_getr (pc := 11) (a := 2) (ci := 6) (j := 7) (c := 5) (sh_2 hT) (by decide) k_120 (rf_2_7 hT) (fun _ h => h) dX6_isNearTurn_11 ?_
      refine X_iload_n (pc := 14) (i := 1) 1 dX6_isNearTurn_14 rfl rfl ?_
      obtain ⟨c3, hf⟩ := gd_some hf
      refine X_laldj (pc := 15) (j := a0.toNatClampNeg) (L 5 (a0.toNatClampNeg)) (sh_5 hT) (vp_in_lit (N := 24) c3 (by decide)) rfl rfl dX6_isNearTurn_15 ?_
      refine X_lconst (pc := 16) (0 : Int64) dX6_isNearTurn_16 (by decide) ?_
      refine X_lcmp (pc := 17) dX6_isNearTurn_17 ?_
      by_cases c4 : (0 : Int64) < (L 5 (a0.toNatClampNeg))
      · replace hf := (if_pos c4).symm.trans hf
        refine X_if_gt_t (pc := 18) 23 dX6_isNearTurn_18 (by decide) ((lg_cmp_gt _ _).mpr c4) ?_
        refine X_aload_n (pc := 23) (i := 0) 0 dX6_isNearTurn_23 rfl rfl ?_
        refine X_getr (pc := 24) (a := 2) (ci := 6) (j := 5) (c := 3) (sh_2 hT) (by decide) k_116 (rf_2_5 hT) (fun _ h => h) dX6_isNearTurn_24 ?_
        refine X_iload_n (pc := 27) (i := 1) 1 dX6_isNearTurn_27 rfl rfl ?_
        obtain ⟨c5, hf⟩ := gd_some hf
        refine X_laldj (pc := 28) (j := a0.toNatClampNeg) (L 3 (a0.toNatClampNeg)) (sh_3 hT) (vp_in_lit (N := 24) c5 (by decide)) rfl rfl dX6_isNearTurn_28 ?_
        refine X_Jabs (pc := 29) k_602 (by decide) (Nat.le_of_ble_eq_true rfl) dX6_isNearTurn_29 ?_
        refine X_iload_n (pc := 32) (i := 2) 2 dX6_isNearTurn_32 rfl rfl ?_
        refine X_i2l (pc := 33) dX6_isNearTurn_33 ?_
        refine X_lmul (pc := 34) dX6_isNearTurn_34 ?_
        refine X_aload_n (pc := 35) (i := 0) 0 dX6_isNearTurn_35 rfl rfl ?_
        refine X_getr (pc := 36) (a := 2) (ci := 6) (j := 7) (c := 5) (sh_2 hT) (by decide) k_120 (rf_2_7 hT) (fun _ h => h) dX6_isNearTurn_36 ?_
        refine X_iload_n (pc := 39) (i := 1) 1 dX6_isNearTurn_39 rfl rfl ?_
        obtain ⟨c6, hf⟩ := gd_some hf
        refine X_laldj (pc := 40) (j := a0.toNatClampNeg) (L 5 (a0.toNatClampNeg)) (sh_5 hT) (vp_in_lit (N := 24) c6 (by decide)) rfl rfl dX6_isNearTurn_40 ?_
        obtain ⟨c7, hf⟩ := gd_some hf
        refine X_lrem (pc := 41) dX6_isNearTurn_41 c7 ?_
        refine X_ldc2 (pc := 42) (4 : Int64) k_898 dX6_isNearTurn_42 ?_
        refine X_lmul (pc := 45) dX6_isNearTurn_45 ?_
        obtain ⟨x8, ex8, hf⟩ := bnd_e hf
        refine X_tople ex8 ?_
        refine X_aload_n (pc := 46) (i := 0) 0 dX6_isNearTurn_46 rfl rfl ?_
        refine X_getr (pc := 47) (a := 2) (ci := 6) (j := 7) (c := 5) (sh_2 hT) (by decide) k_120 (rf_2_7 hT) (fun _ h => h) dX6_isNearTurn_47 ?_
        refine X_iload_n (pc := 50) (i := 1) 1 dX6_isNearTurn_50 rfl rfl ?_
        obtain ⟨c9, hf⟩ := gd_some hf
        refine X_laldj (pc := 51) (j := a0.toNatClampNeg) (L 5 (a0.toNatClampNeg)) (sh_5 hT) (vp_in_lit (N := 24) c9 (by decide)) rfl rfl dX6_isNearTurn_51 ?_
        refine X_ldc2 (pc := 52) (3 : Int64) k_899 dX6_isNearTurn_52 ?_
        refine X_lmul (pc := 55) dX6_isNearTurn_55 ?_
        refine X_lcmp (pc := 56) dX6_isNearTurn_56 ?_
        by_cases c10 : x8 < ((L 5 (a0.toNatClampNeg)) * (3 : Int64))
        · replace hf := (if_pos c10).symm.trans hf
          refine X_if_lt_t (pc := 57) 64 dX6_isNearTurn_57 (by decide) ((lg_cmp_lt _ _).mpr c10) ?_
          refine X_iconst (pc := 64) (0 : Int32) dX6_isNearTurn_64 (by decide) ?_
          cases hf
          exact X_zreturn (pc := 65) rfl (nar_b (by decide)) dX6_isNearTurn_65
        · replace hf := (if_neg c10).symm.trans hf
          refine X_if_lt_f (pc := 57) 64 dX6_isNearTurn_57 (by decide) (fun h => c10 ((lg_cmp_lt _ _).mp h)) ?_
          refine X_iconst (pc := 60) (1 : Int32) dX6_isNearTurn_60 (by decide) ?_
          refine X_goto (pc := 61) 65 dX6_isNearTurn_61 (by decide) ?_
          cases hf
          exact X_zreturn (pc := 65) rfl (nar_b (by decide)) dX6_isNearTurn_65
      · replace hf := (if_neg c4).symm.trans hf
        refine X_if_gt_f (pc := 18) 23 dX6_isNearTurn_18 (by decide) (fun h => c4 ((lg_cmp_gt _ _).mp h)) ?_
        refine X_iconst (pc := 21) (0 : Int32) dX6_isNearTurn_21 (by decide) ?_
        cases hf
        exact X_zreturn (pc := 22) rfl (nar_b (by decide)) dX6_isNearTurn_22
def f_H_isBarred_C (a0 : Nat) (I : Nat → Nat → Int32) (L : Nat → Nat → Int64) : Option Int32 := ((f_Ge_isNearTurn (I a0 0) (I 1 12) I L).bind fun q1 => (if q1 = (0 : Int32) then (some (0 : Int32)) else (some (1 : Int32))))
set_option maxRecDepth 100000 in
set_option maxHeartbeats 4000000 in
theorem c_H_isBarred_C {G : xG} {S : List xSh} {Rf : Nat → Nat → Option Nat} (hT : xTH S Rf) {a0 : Nat} (ha0 : S[a0]? = some (.inl 1)) {I : Nat → Nat → Int32} {L : Nat → Nat → Int64} {q : Int32} (hf : f_H_isBarred_C a0 I L = some q) : CT G 2 m_H_isBarred [.ref (xP G 0), .ref (xP G a0)] (S, I, L, Rf) (some (.int q), (S, I, L, Rf)) := by
  refine CT.of (by decide +kernel) (Nat.le_of_ble_eq_true rfl) ?_
  show X G 2 m_H_isBarred 0 [(0, .ref (xP G 0)), (1, .ref (xP G a0))] [] (S, I, L, Rf) (some (.int q), (S, I, L, Rf))
  replace hf := (f_H_isBarred_C.eq_1 _ _ _).symm.trans hf
  refine X_aload_n (pc := 0) (i := 1) 1 dX11_isBarred_0 rfl rfl ?_
  refine X_instYes (pc := 1) (ci := 1) ha0 k_237 dX11_isBarred_1 ?_
  refine X_if_eq_f (pc := 4) 32 dX11_isBarred_4 (by decide) (by decide) ?_
  refine X_aload_n (pc := 7) (i := 0) 0 dX11_isBarred_7 rfl rfl ?_
  refine X_getr (pc := 8) (a := 0) (ci := 10) (j := 1) (c := 2) (sh_0 hT) (by decide) k_495 (rf_0_1 hT) (fun _ h => h) dX11_isBarred_8 ?_
  refine X_aload_n (pc := 11) (i := 1) 1 dX11_isBarred_11 rfl rfl ?_
  refine X_get (pc := 12) (a := a0) (ci := 1) (j := 0) (.int (I a0 0)) ha0 (by decide) k_363 rfl dX11_isBarred_12 ?_
  refine X_aload_n (pc := 15) (i := 0) 0 dX11_isBarred_15 rfl rfl ?_
  refine X_getr (pc := 16) (a := 0) (ci := 10) (j := 0) (c := 1) (sh_0 hT) (by decide) k_494 (rf_0_0 hT) (fun _ h => h) dX11_isBarred_16 ?_
  refine X_get (pc := 19) (a := 1) (ci := 5) (j := 12) (.int (I 1 12)) (sh_1 hT) (by decide) k_193 rfl dX11_isBarred_19 ?_
  obtain ⟨q1, c2, hf⟩ := bd_some hf
  refine X_invV_i (pc := 22) (c_Ge_isNearTurn hT c2) ok_Ge_isNearTurn (ci := 6) (sh_2 hT) k_894 k_895 k_896 nd_25 (by decide) rfl (Nat.le_of_ble_eq_true rfl) dX11_isBarred_22 ?_
  by_cases c3 : q1 = (0 : Int32)
  · replace hf := (if_pos c3).symm.trans hf
    refine X_if_eq_t (pc := 25) 32 dX11_isBarred_25 (by decide) c3 ?_
    refine X_iconst (pc := 32) (0 : Int32) dX11_isBarred_32 (by decide) ?_
    cases hf
    exact X_zreturn (pc := 33) rfl (nar_b (by decide)) dX11_isBarred_33
  · replace hf := (if_neg c3).symm.trans hf
    refine X_if_eq_f (pc := 25) 32 dX11_isBarred_25 (by decide) c3 ?_
    refine X_iconst (pc := 28) (1 : Int32) dX11_isBarred_28 (by decide) ?_
    refine X_goto (pc := 29) 33 dX11_isBarred_29 (by decide) ?_
    cases hf
    exact X_zreturn (pc := 33) rfl (nar_b (by decide)) dX11_isBarred_33
theorem dX8_takes_0 : decode cX8_takes 0 = .ok (.iload_n 1, 1) := by decide +kernel
theorem dX8_takes_1 : decode cX8_takes 1 = .ok (.tableswitch 42 0 2 #[27, 27, 35], 27) := by decide +kernel
theorem dX8_takes_28 : decode cX8_takes 28 = .ok (.iload_n 2, 1) := by decide +kernel
theorem dX8_takes_29 : decode cX8_takes 29 = .ok (.iconst 1, 1) := by decide +kernel
theorem dX8_takes_30 : decode cX8_takes 30 = .ok (.bipush 12, 2) := by decide +kernel
theorem dX8_takes_32 : decode cX8_takes 32 = .ok (.invokestatic 28, 3) := by decide +kernel
theorem dX8_takes_35 : decode cX8_takes 35 = .ok (.ireturn, 1) := by decide +kernel
theorem dX8_takes_36 : decode cX8_takes 36 = .ok (.iload_n 2, 1) := by decide +kernel
theorem dX8_takes_37 : decode cX8_takes 37 = .ok (.iconst 0, 1) := by decide +kernel
theorem dX8_takes_38 : decode cX8_takes 38 = .ok (.iconst 1, 1) := by decide +kernel
theorem dX8_takes_39 : decode cX8_takes 39 = .ok (.invokestatic 28, 3) := by decide +kernel
theorem dX8_takes_42 : decode cX8_takes 42 = .ok (.ireturn, 1) := by decide +kernel
theorem dX8_takes_43 : decode cX8_takes 43 = .ok (.iconst 0, 1) := by decide +kernel
theorem dX8_takes_44 : decode cX8_takes 44 = .ok (.ireturn, 1) := by decide +kernel
def f_St_takes_L28 (w0 : Nat) (l2 : Int32) : Option Int32 := (bnd (f_H_isWithin l2 (1 : Int32) (12 : Int32)) fun x4 => (if (x4 = (0 : Int32) ∨ x4 = (1 : Int32)) then (some x4) else none))
set_option maxRecDepth 100000 in
set_option maxHeartbeats 4000000 in
theorem x_St_takes_L28 {G : xG} {S : List xSh} {Rf : Nat → Nat → Option Nat} (hT : xTH S Rf) {w0 : Nat} (hw0 : S[w0]? = some (.inl 8)) {l2 : Int32} {I : Nat → Nat → Int32} {L : Nat → Nat → Int64} {q : Int32} (hf : f_St_takes_L28 w0 l2 = some q) : X G 2 m_St_takes 28 [(2, .int l2)] [] (S, I, L, Rf) (some (.int q), (S, I, L, Rf)) := by
  replace hf := (f_St_takes_L28.eq_1 _ _).symm.trans hf
  refine X_iload_n (pc := 28) (i := 2) 0 dX8_takes_28 rfl rfl ?_
  refine X_iconst (pc := 29) (1 : Int32) dX8_takes_29 (by decide) ?_
  refine X_bipush (pc := 30) (12 : Int32) dX8_takes_30 (by decide) ?_
  refine X_invSN_i (pc := 32) (c_H_isWithin hT rfl) ok_H_isWithin k_889 k_564 nd_6 (by decide) rfl (Nat.le_of_ble_eq_true rfl) dX8_takes_32 ?_
  obtain ⟨x4, ex4, hf⟩ := bnd_e hf
  refine X_tope ex4 ?_
  obtain ⟨c5, hf⟩ := gd_some hf
  cases hf
  exact X_zreturn (pc := 35) rfl (nar_b c5) dX8_takes_35
def f_St_takes (w0 : Nat) (a0 : Int32) (a1 : Int32) : Option Int32 := (if a0 = (0 : Int32) then (f_St_takes_L28 w0 a1) else (if a0 = (1 : Int32) then (f_St_takes_L28 w0 a1) else (if a0 = (2 : Int32) then (bnd (f_H_isWithin a1 (0 : Int32) (1 : Int32)) fun x6 => (if (x6 = (0 : Int32) ∨ x6 = (1 : Int32)) then (some x6) else none)) else (some (0 : Int32)))))
set_option maxRecDepth 100000 in
set_option maxHeartbeats 4000000 in
theorem c_St_takes {G : xG} {S : List xSh} {Rf : Nat → Nat → Option Nat} (hT : xTH S Rf) {w0 : Nat} {a0 : Int32} {a1 : Int32} (hw0 : S[w0]? = some (.inl 8)) {I : Nat → Nat → Int32} {L : Nat → Nat → Int64} {q : Int32} (hf : f_St_takes w0 a0 a1 = some q) : CT G 2 m_St_takes [.ref (xP G w0), .int a0, .int a1] (S, I, L, Rf) (some (.int q), (S, I, L, Rf)) := by
  refine CT.of (by decide +kernel) (Nat.le_of_ble_eq_true rfl) ?_
  show X G 2 m_St_takes 0 [(0, .ref (xP G w0)), (1, .int a0), (2, .int a1)] [] (S, I, L, Rf) (some (.int q), (S, I, L, Rf))
  replace hf := (f_St_takes.eq_1 _ _ _).symm.trans hf
  refine X_iload_n (pc := 0) (i := 1) 1 dX8_takes_0 rfl rfl ?_
  by_cases c1 : a0 = (0 : Int32)
  · replace hf := (if_pos c1).symm.trans hf
    refine X_tabIn (pc := 1) (off := 27) (0) 28 dX8_takes_1 (by rw [c1]; rfl) (by decide) ?_
    exact X_lvs [2] rfl (x_St_takes_L28 hT hw0 hf)
  · replace hf := (if_neg c1).symm.trans hf
    by_cases c2 : a0 = (1 : Int32)
    · replace hf := (if_pos c2).symm.trans hf
      refine X_tabIn (pc := 1) (off := 27) (1) 28 dX8_takes_1 (by rw [c2]; rfl) (by decide) ?_
      exact X_lvs [2] rfl (x_St_takes_L28 hT hw0 hf)
    · replace hf := (if_neg c2).symm.trans hf
      by_cases c3 : a0 = (2 : Int32)
      · replace hf := (if_pos c3).symm.trans hf
        refine X_tabIn (pc := 1) (off := 35) (2) 36 dX8_takes_1 (by rw [c3]; rfl) (by decide) ?_
        refine X_iload_n (pc := 36) (i := 2) 2 dX8_takes_36 rfl rfl ?_
        refine X_iconst (pc := 37) (0 : Int32) dX8_takes_37 (by decide) ?_
        refine X_iconst (pc := 38) (1 : Int32) dX8_takes_38 (by decide) ?_
        refine X_invSN_i (pc := 39) (c_H_isWithin hT rfl) ok_H_isWithin k_889 k_564 nd_6 (by decide) rfl (Nat.le_of_ble_eq_true rfl) dX8_takes_39 ?_
        obtain ⟨x6, ex6, hf⟩ := bnd_e hf
        refine X_tope ex6 ?_
        obtain ⟨c7, hf⟩ := gd_some hf
        cases hf
        exact X_zreturn (pc := 42) rfl (nar_b c7) dX8_takes_42
      · replace hf := (if_neg c3).symm.trans hf
        refine X_tabOut (pc := 1) 43 dX8_takes_1 (by have zc1 := lv_neT (a := 0) c1 rfl; have zc2 := lv_neT (a := 1) c2 rfl; have zc3 := lv_neT (a := 2) c3 rfl; omega) (by decide) ?_
        refine X_iconst (pc := 43) (0 : Int32) dX8_takes_43 (by decide) ?_
        cases hf
        exact X_zreturn (pc := 44) rfl (nar_b (by decide)) dX8_takes_44
def f_H_isBarred_S (a0 : Nat) : Int32 := (0 : Int32)
set_option maxRecDepth 100000 in
set_option maxHeartbeats 4000000 in
theorem c_H_isBarred_S {G : xG} {S : List xSh} {Rf : Nat → Nat → Option Nat} (hT : xTH S Rf) {a0 : Nat} (ha0 : S[a0]? = some (.inl 8)) {I : Nat → Nat → Int32} {L : Nat → Nat → Int64} {q : Int32} (hf : f_H_isBarred_S a0 = q) : CT G 1 m_H_isBarred [.ref (xP G 0), .ref (xP G a0)] (S, I, L, Rf) (some (.int q), (S, I, L, Rf)) := by
  refine CT.of (by decide +kernel) (Nat.le_of_ble_eq_true rfl) ?_
  show X G 1 m_H_isBarred 0 [(0, .ref (xP G 0)), (1, .ref (xP G a0))] [] (S, I, L, Rf) (some (.int q), (S, I, L, Rf))
  replace hf := (f_H_isBarred_S.eq_1 _).symm.trans hf
  refine X_aload_n (pc := 0) (i := 1) 1 dX11_isBarred_0 rfl rfl ?_
  refine X_instNo (pc := 1) (ci := 8) ha0 k_237 (by decide) dX11_isBarred_1 ?_
  refine X_if_eq_t (pc := 4) 32 dX11_isBarred_4 (by decide) (by decide) ?_
  refine X_iconst (pc := 32) (0 : Int32) dX11_isBarred_32 (by decide) ?_
  subst hf
  exact X_zreturn (pc := 33) rfl (nar_b (by decide)) dX11_isBarred_33
theorem dX11_correct_0 : decode cX11_correct 0 = .ok (.aload_n 0, 1) := by decide +kernel
theorem dX11_correct_1 : decode cX11_correct 1 = .ok (.iload_n 1, 1) := by decide +kernel
theorem dX11_correct_2 : decode cX11_correct 2 = .ok (.invokevirtual 198, 3) := by decide +kernel
theorem dX11_correct_5 : decode cX11_correct 5 = .ok (.astore 4, 2) := by decide +kernel
theorem dX11_correct_7 : decode cX11_correct 7 = .ok (.aload 4, 2) := by decide +kernel
theorem dX11_correct_9 : decode cX11_correct 9 = .ok (.ifnull 13, 3) := by decide +kernel
theorem dX11_correct_12 : decode cX11_correct 12 = .ok (.aload 4, 2) := by decide +kernel
theorem dX11_correct_14 : decode cX11_correct 14 = .ok (.iload_n 2, 1) := by decide +kernel
theorem dX11_correct_15 : decode cX11_correct 15 = .ok (.iload_n 3, 1) := by decide +kernel
theorem dX11_correct_16 : decode cX11_correct 16 = .ok (.invokevirtual 202, 3) := by decide +kernel
theorem dX11_correct_19 : decode cX11_correct 19 = .ok (.ifCond .ne 5, 3) := by decide +kernel
theorem dX11_correct_22 : decode cX11_correct 22 = .ok (.iconst (-1), 1) := by decide +kernel
theorem dX11_correct_23 : decode cX11_correct 23 = .ok (.ireturn, 1) := by decide +kernel
theorem dX11_correct_24 : decode cX11_correct 24 = .ok (.aload_n 0, 1) := by decide +kernel
theorem dX11_correct_25 : decode cX11_correct 25 = .ok (.getfield 99, 3) := by decide +kernel
theorem dX11_correct_28 : decode cX11_correct 28 = .ok (.ifCond .eq 12, 3) := by decide +kernel
theorem dX11_correct_31 : decode cX11_correct 31 = .ok (.aload_n 0, 1) := by decide +kernel
theorem dX11_correct_32 : decode cX11_correct 32 = .ok (.aload 4, 2) := by decide +kernel
theorem dX11_correct_34 : decode cX11_correct 34 = .ok (.invokevirtual 206, 3) := by decide +kernel
theorem dX11_correct_37 : decode cX11_correct 37 = .ok (.ifCond .eq 6, 3) := by decide +kernel
theorem dX11_correct_40 : decode cX11_correct 40 = .ok (.bipush (-2), 2) := by decide +kernel
theorem dX11_correct_42 : decode cX11_correct 42 = .ok (.ireturn, 1) := by decide +kernel
theorem dX11_correct_43 : decode cX11_correct 43 = .ok (.aload_n 0, 1) := by decide +kernel
theorem dX11_correct_44 : decode cX11_correct 44 = .ok (.iconst 4, 1) := by decide +kernel
theorem dX11_correct_45 : decode cX11_correct 45 = .ok (.iload_n 1, 1) := by decide +kernel
theorem dX11_correct_46 : decode cX11_correct 46 = .ok (.iload_n 2, 1) := by decide +kernel
theorem dX11_correct_47 : decode cX11_correct 47 = .ok (.iload_n 3, 1) := by decide +kernel
theorem dX11_correct_48 : decode cX11_correct 48 = .ok (.invokevirtual 171, 3) := by decide +kernel
theorem dX11_correct_51 : decode cX11_correct 51 = .ok (.ifCond .eq 13, 3) := by decide +kernel
theorem dX11_correct_54 : decode cX11_correct 54 = .ok (.aload_n 0, 1) := by decide +kernel
theorem dX11_correct_55 : decode cX11_correct 55 = .ok (.iload_n 1, 1) := by decide +kernel
theorem dX11_correct_56 : decode cX11_correct 56 = .ok (.iload_n 2, 1) := by decide +kernel
theorem dX11_correct_57 : decode cX11_correct 57 = .ok (.iload_n 3, 1) := by decide +kernel
theorem dX11_correct_58 : decode cX11_correct 58 = .ok (.invokevirtual 210, 3) := by decide +kernel
theorem dX11_correct_61 : decode cX11_correct 61 = .ok (.goto 5, 3) := by decide +kernel
theorem dX11_correct_64 : decode cX11_correct 64 = .ok (.bipush (-3), 2) := by decide +kernel
theorem dX11_correct_66 : decode cX11_correct 66 = .ok (.ireturn, 1) := by decide +kernel
def f_H_correct (S : List xSh) (Rf : Nat → Nat → Option Nat) (a0 : Int32) (a1 : Int32) (a2 : Int32) (I : Nat → Nat → Int32) (L : Nat → Nat → Int64) : Option (Int32 × (Nat → Nat → Int32) × (Nat → Nat → Int64)) := ((f_H_workAt S Rf a0 I L).bind fun q1 => (oc q1 (some ((-1 : Int32), I, L)) fun w3 => (if S[w3]? = some (.inl 4) then (if (f_Di_takes w3 a1 a2 I L) = (0 : Int32) then (some ((-1 : Int32), I, L)) else (if (I 0 8) = (0 : Int32) then (some ((-2 : Int32), I, L)) else (if (f_H_isBarred_D w3) = (0 : Int32) then ((f_H_enter (4 : Int32) a0 a1 a2 I L).bind fun q9 => (if q9.1 = (0 : Int32) then (some ((-3 : Int32), q9.2.1, q9.2.2)) else ((f_H_putRight S Rf a0 a1 a2 q9.2.1 q9.2.2).bind fun q12 => (some (q12.1, q12.2.1, q12.2.2))))) else (some ((-2 : Int32), I, L))))) else (if S[w3]? = some (.inl 1) then ((f_Ca_takes w3 a1 a2).bind fun q15 => (if q15 = (0 : Int32) then (some ((-1 : Int32), I, L)) else (if (I 0 8) = (0 : Int32) then (some ((-2 : Int32), I, L)) else ((f_H_isBarred_C w3 I L).bind fun q19 => (if q19 = (0 : Int32) then ((f_H_enter (4 : Int32) a0 a1 a2 I L).bind fun q22 => (if q22.1 = (0 : Int32) then (some ((-3 : Int32), q22.2.1, q22.2.2)) else ((f_H_putRight S Rf a0 a1 a2 q22.2.1 q22.2.2).bind fun q25 => (some (q25.1, q25.2.1, q25.2.2))))) else (some ((-2 : Int32), I, L))))))) else (if S[w3]? = some (.inl 8) then ((f_St_takes w3 a1 a2).bind fun q28 => (if q28 = (0 : Int32) then (some ((-1 : Int32), I, L)) else (if (I 0 8) = (0 : Int32) then (some ((-2 : Int32), I, L)) else (if (f_H_isBarred_S w3) = (0 : Int32) then ((f_H_enter (4 : Int32) a0 a1 a2 I L).bind fun q33 => (if q33.1 = (0 : Int32) then (some ((-3 : Int32), q33.2.1, q33.2.2)) else ((f_H_putRight S Rf a0 a1 a2 q33.2.1 q33.2.2).bind fun q36 => (some (q36.1, q36.2.1, q36.2.2))))) else (some ((-2 : Int32), I, L)))))) else none)))))
set_option maxRecDepth 100000 in
set_option maxHeartbeats 4000000 in
theorem c_H_correct {G : xG} {S : List xSh} {Rf : Nat → Nat → Option Nat} (hT : xTH S Rf) {a0 : Int32} {a1 : Int32} {a2 : Int32} {I : Nat → Nat → Int32} {L : Nat → Nat → Int64} {q : (Int32 × (Nat → Nat → Int32) × (Nat → Nat → Int64))} (hf : f_H_correct S Rf a0 a1 a2 I L = some q) : CT G 4 m_H_correct [.ref (xP G 0), .int a0, .int a1, .int a2] (S, I, L, Rf) (some (.int q.1), (S, q.2.1, q.2.2, Rf)) := by
  refine CT.of (by decide +kernel) (Nat.le_of_ble_eq_true rfl) ?_
  show X G 4 m_H_correct 0 [(0, .ref (xP G 0)), (1, .int a0), (2, .int a1), (3, .int a2)] [] (S, I, L, Rf) (some (.int q.1), (S, q.2.1, q.2.2, Rf))
  replace hf := (f_H_correct.eq_1 _ _ _ _ _ _ _).symm.trans hf
  refine X_aload_n (pc := 0) (i := 0) 0 dX11_correct_0 rfl rfl ?_
  refine X_iload_n (pc := 1) (i := 1) 1 dX11_correct_1 rfl rfl ?_
  obtain ⟨q1, c2, hf⟩ := bd_some hf
  rcases oc_cases hf with ⟨hr4, hf⟩ | ⟨w3, hr4, hf⟩
  · rw [hr4] at c2
    refine X_invV_aN (pc := 2) (c_H_workAt hT c2) ok_H_workAt (ci := 10) (sh_0 hT) k_872 k_874 k_19 nd_24 (by decide) rfl (Nat.le_of_ble_eq_true rfl) dX11_correct_2 ?_
    refine X_astoreN (pc := 5) [(4, .null), (0, .ref (xP G 0)), (1, .int a0), (2, .int a1), (3, .int a2)] dX11_correct_5 (by decide) rfl ?_
    refine X_aloadN (pc := 7) (i := 4) 0 dX11_correct_7 rfl ?_
    refine X_ifnull_t (pc := 9) 22 dX11_correct_9 (by decide) ?_
    refine X_iconst (pc := 22) (-1 : Int32) dX11_correct_22 (by decide) ?_
    cases hf
    exact X_ireturn (pc := 23) rfl dX11_correct_23
  · rw [hr4] at c2
    refine X_invV_aS (pc := 2) (c_H_workAt hT c2) ok_H_workAt (ci := 10) (sh_0 hT) k_872 k_874 k_19 nd_24 (by decide) rfl (Nat.le_of_ble_eq_true rfl) dX11_correct_2 ?_
    refine X_astore (pc := 5) [(4, .ref (xP G w3)), (0, .ref (xP G 0)), (1, .int a0), (2, .int a1), (3, .int a2)] dX11_correct_5 (by decide) rfl ?_
    refine X_aload (pc := 7) 0 dX11_correct_7 rfl ?_
    refine X_ifnull_f (pc := 9) dX11_correct_9 ?_
    refine X_aload (pc := 12) 0 dX11_correct_12 rfl ?_
    refine X_iload_n (pc := 14) (i := 2) 3 dX11_correct_14 rfl rfl ?_
    refine X_iload_n (pc := 15) (i := 3) 4 dX11_correct_15 rfl rfl ?_
    by_cases hs5 : S[w3]? = some (.inl 4)
    · replace hf := (if_pos hs5).symm.trans hf
      refine X_invU_i (pc := 16) (c_Di_takes hT hs5 rfl) ok_Di_takes (ci := 4) hs5 k_876 k_878 k_877 (by decide +kernel) k_883 k_882 nd_25 (by decide) rfl (Nat.le_of_ble_eq_true rfl) dX11_correct_16 ?_
      by_cases c6 : (f_Di_takes w3 a1 a2 I L) = (0 : Int32)
      · replace hf := (if_pos c6).symm.trans hf
        refine X_if_ne_f (pc := 19) 24 dX11_correct_19 (by decide) c6 ?_
        refine X_iconst (pc := 22) (-1 : Int32) dX11_correct_22 (by decide) ?_
        cases hf
        exact X_ireturn (pc := 23) rfl dX11_correct_23
      · replace hf := (if_neg c6).symm.trans hf
        refine X_if_ne_t (pc := 19) 24 dX11_correct_19 (by decide) c6 ?_
        refine X_aload_n (pc := 24) (i := 0) 1 dX11_correct_24 rfl rfl ?_
        refine X_get (pc := 25) (a := 0) (ci := 10) (j := 11) (.int (I 0 8)) (sh_0 hT) (by decide) k_505 rfl dX11_correct_25 ?_
        by_cases c7 : (I 0 8) = (0 : Int32)
        · replace hf := (if_pos c7).symm.trans hf
          refine X_if_eq_t (pc := 28) 40 dX11_correct_28 (by decide) c7 ?_
          refine X_bipush (pc := 40) (-2 : Int32) dX11_correct_40 (by decide) ?_
          cases hf
          exact X_ireturn (pc := 42) rfl dX11_correct_42
        · replace hf := (if_neg c7).symm.trans hf
          refine X_if_eq_f (pc := 28) 40 dX11_correct_28 (by decide) c7 ?_
          refine X_aload_n (pc := 31) (i := 0) 1 dX11_correct_31 rfl rfl ?_
          refine X_aload (pc := 32) 0 dX11_correct_32 rfl ?_
          refine X_invV_i (pc := 34) (c_H_isBarred_D hT hs5 rfl) ok_H_isBarred (ci := 10) (sh_0 hT) k_890 k_892 k_20 nd_26 (by decide) rfl (Nat.le_of_ble_eq_true rfl) dX11_correct_34 ?_
          by_cases c8 : (f_H_isBarred_D w3) = (0 : Int32)
          · replace hf := (if_pos c8).symm.trans hf
            refine X_if_eq_t (pc := 37) 43 dX11_correct_37 (by decide) c8 ?_
            refine X_aload_n (pc := 43) (i := 0) 1 dX11_correct_43 rfl rfl ?_
            refine X_iconst (pc := 44) (4 : Int32) dX11_correct_44 (by decide) ?_
            refine X_iload_n (pc := 45) (i := 1) 2 dX11_correct_45 rfl rfl ?_
            refine X_iload_n (pc := 46) (i := 2) 3 dX11_correct_46 rfl rfl ?_
            refine X_iload_n (pc := 47) (i := 3) 4 dX11_correct_47 rfl rfl ?_
            obtain ⟨q9, c10, hf⟩ := bd_some hf
            refine X_invV_i (pc := 48) (c_H_enter hT c10) ok_H_enter (ci := 10) (sh_0 hT) k_723 k_725 k_11 nd_17 (by decide) rfl (Nat.le_of_ble_eq_true rfl) dX11_correct_48 ?_
            by_cases c11 : q9.1 = (0 : Int32)
            · replace hf := (if_pos c11).symm.trans hf
              refine X_if_eq_t (pc := 51) 64 dX11_correct_51 (by decide) c11 ?_
              refine X_bipush (pc := 64) (-3 : Int32) dX11_correct_64 (by decide) ?_
              cases hf
              exact X_ireturn (pc := 66) rfl dX11_correct_66
            · replace hf := (if_neg c11).symm.trans hf
              refine X_if_eq_f (pc := 51) 64 dX11_correct_51 (by decide) c11 ?_
              refine X_aload_n (pc := 54) (i := 0) 1 dX11_correct_54 rfl rfl ?_
              refine X_iload_n (pc := 55) (i := 1) 2 dX11_correct_55 rfl rfl ?_
              refine X_iload_n (pc := 56) (i := 2) 3 dX11_correct_56 rfl rfl ?_
              refine X_iload_n (pc := 57) (i := 3) 4 dX11_correct_57 rfl rfl ?_
              obtain ⟨q12, c13, hf⟩ := bd_some hf
              refine X_invV_i (pc := 58) (c_H_putRight hT c13) ok_H_putRight (ci := 10) (sh_0 hT) k_900 k_902 k_21 nd_16 (by decide) rfl (Nat.le_of_ble_eq_true rfl) dX11_correct_58 ?_
              refine X_goto (pc := 61) 66 dX11_correct_61 (by decide) ?_
              cases hf
              exact X_ireturn (pc := 66) rfl dX11_correct_66
          · replace hf := (if_neg c8).symm.trans hf
            refine X_if_eq_f (pc := 37) 43 dX11_correct_37 (by decide) c8 ?_
            refine X_bipush (pc := 40) (-2 : Int32) dX11_correct_40 (by decide) ?_
            cases hf
            exact X_ireturn (pc := 42) rfl dX11_correct_42
    · replace hf := (if_neg hs5).symm.trans hf
      by_cases hs14 : S[w3]? = some (.inl 1)
      · replace hf := (if_pos hs14).symm.trans hf
        obtain ⟨q15, c16, hf⟩ := bd_some hf
        refine X_invU_i (pc := 16) (c_Ca_takes hT hs14 c16) ok_Ca_takes (ci := 1) hs14 k_876 k_878 k_877 (by decide +kernel) k_880 k_879 nd_25 (by decide) rfl (Nat.le_of_ble_eq_true rfl) dX11_correct_16 ?_
        by_cases c17 : q15 = (0 : Int32)
        · replace hf := (if_pos c17).symm.trans hf
          refine X_if_ne_f (pc := 19) 24 dX11_correct_19 (by decide) c17 ?_
          refine X_iconst (pc := 22) (-1 : Int32) dX11_correct_22 (by decide) ?_
          cases hf
          exact X_ireturn (pc := 23) rfl dX11_correct_23
        · replace hf := (if_neg c17).symm.trans hf
          refine X_if_ne_t (pc := 19) 24 dX11_correct_19 (by decide) c17 ?_
          refine X_aload_n (pc := 24) (i := 0) 1 dX11_correct_24 rfl rfl ?_
          refine X_get (pc := 25) (a := 0) (ci := 10) (j := 11) (.int (I 0 8)) (sh_0 hT) (by decide) k_505 rfl dX11_correct_25 ?_
          by_cases c18 : (I 0 8) = (0 : Int32)
          · replace hf := (if_pos c18).symm.trans hf
            refine X_if_eq_t (pc := 28) 40 dX11_correct_28 (by decide) c18 ?_
            refine X_bipush (pc := 40) (-2 : Int32) dX11_correct_40 (by decide) ?_
            cases hf
            exact X_ireturn (pc := 42) rfl dX11_correct_42
          · replace hf := (if_neg c18).symm.trans hf
            refine X_if_eq_f (pc := 28) 40 dX11_correct_28 (by decide) c18 ?_
            refine X_aload_n (pc := 31) (i := 0) 1 dX11_correct_31 rfl rfl ?_
            refine X_aload (pc := 32) 0 dX11_correct_32 rfl ?_
            obtain ⟨q19, c20, hf⟩ := bd_some hf
            refine X_invV_i (pc := 34) (c_H_isBarred_C hT hs14 c20) ok_H_isBarred (ci := 10) (sh_0 hT) k_890 k_892 k_20 nd_26 (by decide) rfl (Nat.le_of_ble_eq_true rfl) dX11_correct_34 ?_
            by_cases c21 : q19 = (0 : Int32)
            · replace hf := (if_pos c21).symm.trans hf
              refine X_if_eq_t (pc := 37) 43 dX11_correct_37 (by decide) c21 ?_
              refine X_aload_n (pc := 43) (i := 0) 1 dX11_correct_43 rfl rfl ?_
              refine X_iconst (pc := 44) (4 : Int32) dX11_correct_44 (by decide) ?_
              refine X_iload_n (pc := 45) (i := 1) 2 dX11_correct_45 rfl rfl ?_
              refine X_iload_n (pc := 46) (i := 2) 3 dX11_correct_46 rfl rfl ?_
              refine X_iload_n (pc := 47) (i := 3) 4 dX11_correct_47 rfl rfl ?_
              obtain ⟨q22, c23, hf⟩ := bd_some hf
              refine X_invV_i (pc := 48) (c_H_enter hT c23) ok_H_enter (ci := 10) (sh_0 hT) k_723 k_725 k_11 nd_17 (by decide) rfl (Nat.le_of_ble_eq_true rfl) dX11_correct_48 ?_
              by_cases c24 : q22.1 = (0 : Int32)
              · replace hf := (if_pos c24).symm.trans hf
                refine X_if_eq_t (pc := 51) 64 dX11_correct_51 (by decide) c24 ?_
                refine X_bipush (pc := 64) (-3 : Int32) dX11_correct_64 (by decide) ?_
                cases hf
                exact X_ireturn (pc := 66) rfl dX11_correct_66
              · replace hf := (if_neg c24).symm.trans hf
                refine X_if_eq_f (pc := 51) 64 dX11_correct_51 (by decide) c24 ?_
                refine X_aload_n (pc := 54) (i := 0) 1 dX11_correct_54 rfl rfl ?_
                refine X_iload_n (pc := 55) (i := 1) 2 dX11_correct_55 rfl rfl ?_
                refine X_iload_n (pc := 56) (i := 2) 3 dX11_correct_56 rfl rfl ?_
                refine X_iload_n (pc := 57) (i := 3) 4 dX11_correct_57 rfl rfl ?_
                obtain ⟨q25, c26, hf⟩ := bd_some hf
                refine X_invV_i (pc := 58) (c_H_putRight hT c26) ok_H_putRight (ci := 10) (sh_0 hT) k_900 k_902 k_21 nd_16 (by decide) rfl (Nat.le_of_ble_eq_true rfl) dX11_correct_58 ?_
                refine X_goto (pc := 61) 66 dX11_correct_61 (by decide) ?_
                cases hf
                exact X_ireturn (pc := 66) rfl dX11_correct_66
            · replace hf := (if_neg c21).symm.trans hf
              refine X_if_eq_f (pc := 37) 43 dX11_correct_37 (by decide) c21 ?_
              refine X_bipush (pc := 40) (-2 : Int32) dX11_correct_40 (by decide) ?_
              cases hf
              exact X_ireturn (pc := 42) rfl dX11_correct_42
      · replace hf := (if_neg hs14).symm.trans hf
        obtain ⟨hs27, hf⟩ := gd_some hf
        obtain ⟨q28, c29, hf⟩ := bd_some hf
        refine X_invU_i (pc := 16) (c_St_takes hT hs27 c29) ok_St_takes (ci := 8) hs27 k_876 k_878 k_877 (by decide +kernel) k_887 k_886 nd_25 (by decide) rfl (Nat.le_of_ble_eq_true rfl) dX11_correct_16 ?_
        by_cases c30 : q28 = (0 : Int32)
        · replace hf := (if_pos c30).symm.trans hf
          refine X_if_ne_f (pc := 19) 24 dX11_correct_19 (by decide) c30 ?_
          refine X_iconst (pc := 22) (-1 : Int32) dX11_correct_22 (by decide) ?_
          cases hf
          exact X_ireturn (pc := 23) rfl dX11_correct_23
        · replace hf := (if_neg c30).symm.trans hf
          refine X_if_ne_t (pc := 19) 24 dX11_correct_19 (by decide) c30 ?_
          refine X_aload_n (pc := 24) (i := 0) 1 dX11_correct_24 rfl rfl ?_
          refine X_get (pc := 25) (a := 0) (ci := 10) (j := 11) (.int (I 0 8)) (sh_0 hT) (by decide) k_505 rfl dX11_correct_25 ?_
          by_cases c31 : (I 0 8) = (0 : Int32)
          · replace hf := (if_pos c31).symm.trans hf
            refine X_if_eq_t (pc := 28) 40 dX11_correct_28 (by decide) c31 ?_
            refine X_bipush (pc := 40) (-2 : Int32) dX11_correct_40 (by decide) ?_
            cases hf
            exact X_ireturn (pc := 42) rfl dX11_correct_42
          · replace hf := (if_neg c31).symm.trans hf
            refine X_if_eq_f (pc := 28) 40 dX11_correct_28 (by decide) c31 ?_
            refine X_aload_n (pc := 31) (i := 0) 1 dX11_correct_31 rfl rfl ?_
            refine X_aload (pc := 32) 0 dX11_correct_32 rfl ?_
            refine X_invV_i (pc := 34) (c_H_isBarred_S hT hs27 rfl) ok_H_isBarred (ci := 10) (sh_0 hT) k_890 k_892 k_20 nd_26 (by decide) rfl (Nat.le_of_ble_eq_true rfl) dX11_correct_34 ?_
            by_cases c32 : (f_H_isBarred_S w3) = (0 : Int32)
            · replace hf := (if_pos c32).symm.trans hf
              refine X_if_eq_t (pc := 37) 43 dX11_correct_37 (by decide) c32 ?_
              refine X_aload_n (pc := 43) (i := 0) 1 dX11_correct_43 rfl rfl ?_
              refine X_iconst (pc := 44) (4 : Int32) dX11_correct_44 (by decide) ?_
              refine X_iload_n (pc := 45) (i := 1) 2 dX11_correct_45 rfl rfl ?_
              refine X_iload_n (pc := 46) (i := 2) 3 dX11_correct_46 rfl rfl ?_
              refine X_iload_n (pc := 47) (i := 3) 4 dX11_correct_47 rfl rfl ?_
              obtain ⟨q33, c34, hf⟩ := bd_some hf
              refine X_invV_i (pc := 48) (c_H_enter hT c34) ok_H_enter (ci := 10) (sh_0 hT) k_723 k_725 k_11 nd_17 (by decide) rfl (Nat.le_of_ble_eq_true rfl) dX11_correct_48 ?_
              by_cases c35 : q33.1 = (0 : Int32)
              · replace hf := (if_pos c35).symm.trans hf
                refine X_if_eq_t (pc := 51) 64 dX11_correct_51 (by decide) c35 ?_
                refine X_bipush (pc := 64) (-3 : Int32) dX11_correct_64 (by decide) ?_
                cases hf
                exact X_ireturn (pc := 66) rfl dX11_correct_66
              · replace hf := (if_neg c35).symm.trans hf
                refine X_if_eq_f (pc := 51) 64 dX11_correct_51 (by decide) c35 ?_
                refine X_aload_n (pc := 54) (i := 0) 1 dX11_correct_54 rfl rfl ?_
                refine X_iload_n (pc := 55) (i := 1) 2 dX11_correct_55 rfl rfl ?_
                refine X_iload_n (pc := 56) (i := 2) 3 dX11_correct_56 rfl rfl ?_
                refine X_iload_n (pc := 57) (i := 3) 4 dX11_correct_57 rfl rfl ?_
                obtain ⟨q36, c37, hf⟩ := bd_some hf
                refine X_invV_i (pc := 58) (c_H_putRight hT c37) ok_H_putRight (ci := 10) (sh_0 hT) k_900 k_902 k_21 nd_16 (by decide) rfl (Nat.le_of_ble_eq_true rfl) dX11_correct_58 ?_
                refine X_goto (pc := 61) 66 dX11_correct_61 (by decide) ?_
                cases hf
                exact X_ireturn (pc := 66) rfl dX11_correct_66
            · replace hf := (if_neg c32).symm.trans hf
              refine X_if_eq_f (pc := 37) 43 dX11_correct_37 (by decide) c32 ?_
              refine X_bipush (pc := 40) (-2 : Int32) dX11_correct_40 (by decide) ?_
              cases hf
              exact X_ireturn (pc := 42) rfl dX11_correct_42
theorem u_H_correct {S : List xSh} {Rf : Nat → Nat → Option Nat} {a0 : Int32} {a1 : Int32} {a2 : Int32} {I : Nat → Nat → Int32} {L : Nat → Nat → Int64} {q : (Int32 × (Nat → Nat → Int32) × (Nat → Nat → Int64))} (hf : f_H_correct S Rf a0 a1 a2 I L = some q) : FR S [16, 2503] [] I q.2.1 L q.2.2 := by
  replace hf := (f_H_correct.eq_1 _ _ _ _ _ _ _).symm.trans hf
  obtain ⟨q1, c2, hf⟩ := bd_some hf
  rcases oc_cases hf with ⟨hr4, hf⟩ | ⟨w3, hr4, hf⟩
  · rw [hr4] at c2
    cases hf
    exact FR.rf
  · rw [hr4] at c2
    by_cases hs5 : S[w3]? = some (.inl 4)
    · replace hf := (if_pos hs5).symm.trans hf
      by_cases c6 : (f_Di_takes w3 a1 a2 I L) = (0 : Int32)
      · replace hf := (if_pos c6).symm.trans hf
        cases hf
        exact FR.rf
      · replace hf := (if_neg c6).symm.trans hf
        by_cases c7 : (I 0 8) = (0 : Int32)
        · replace hf := (if_pos c7).symm.trans hf
          cases hf
          exact FR.rf
        · replace hf := (if_neg c7).symm.trans hf
          by_cases c8 : (f_H_isBarred_D w3) = (0 : Int32)
          · replace hf := (if_pos c8).symm.trans hf
            obtain ⟨q9, c10, hf⟩ := bd_some hf
            by_cases c11 : q9.1 = (0 : Int32)
            · replace hf := (if_pos c11).symm.trans hf
              cases hf
              exact (FR.tr FR.rf (u_H_enter (q := q9) c10) (by decide) (by decide))
            · replace hf := (if_neg c11).symm.trans hf
              obtain ⟨q12, c13, hf⟩ := bd_some hf
              cases hf
              exact (FR.tr (FR.tr FR.rf (u_H_enter (q := q9) c10) (by decide) (by decide)) (u_H_putRight (q := q12) c13) (by decide) (by decide))
          · replace hf := (if_neg c8).symm.trans hf
            cases hf
            exact FR.rf
    · replace hf := (if_neg hs5).symm.trans hf
      by_cases hs14 : S[w3]? = some (.inl 1)
      · replace hf := (if_pos hs14).symm.trans hf
        obtain ⟨q15, c16, hf⟩ := bd_some hf
        by_cases c17 : q15 = (0 : Int32)
        · replace hf := (if_pos c17).symm.trans hf
          cases hf
          exact FR.rf
        · replace hf := (if_neg c17).symm.trans hf
          by_cases c18 : (I 0 8) = (0 : Int32)
          · replace hf := (if_pos c18).symm.trans hf
            cases hf
            exact FR.rf
          · replace hf := (if_neg c18).symm.trans hf
            obtain ⟨q19, c20, hf⟩ := bd_some hf
            by_cases c21 : q19 = (0 : Int32)
            · replace hf := (if_pos c21).symm.trans hf
              obtain ⟨q22, c23, hf⟩ := bd_some hf
              by_cases c24 : q22.1 = (0 : Int32)
              · replace hf := (if_pos c24).symm.trans hf
                cases hf
                exact (FR.tr FR.rf (u_H_enter (q := q22) c23) (by decide) (by decide))
              · replace hf := (if_neg c24).symm.trans hf
                obtain ⟨q25, c26, hf⟩ := bd_some hf
                cases hf
                exact (FR.tr (FR.tr FR.rf (u_H_enter (q := q22) c23) (by decide) (by decide)) (u_H_putRight (q := q25) c26) (by decide) (by decide))
            · replace hf := (if_neg c21).symm.trans hf
              cases hf
              exact FR.rf
      · replace hf := (if_neg hs14).symm.trans hf
        obtain ⟨hs27, hf⟩ := gd_some hf
        obtain ⟨q28, c29, hf⟩ := bd_some hf
        by_cases c30 : q28 = (0 : Int32)
        · replace hf := (if_pos c30).symm.trans hf
          cases hf
          exact FR.rf
        · replace hf := (if_neg c30).symm.trans hf
          by_cases c31 : (I 0 8) = (0 : Int32)
          · replace hf := (if_pos c31).symm.trans hf
            cases hf
            exact FR.rf
          · replace hf := (if_neg c31).symm.trans hf
            by_cases c32 : (f_H_isBarred_S w3) = (0 : Int32)
            · replace hf := (if_pos c32).symm.trans hf
              obtain ⟨q33, c34, hf⟩ := bd_some hf
              by_cases c35 : q33.1 = (0 : Int32)
              · replace hf := (if_pos c35).symm.trans hf
                cases hf
                exact (FR.tr FR.rf (u_H_enter (q := q33) c34) (by decide) (by decide))
              · replace hf := (if_neg c35).symm.trans hf
                obtain ⟨q36, c37, hf⟩ := bd_some hf
                cases hf
                exact (FR.tr (FR.tr FR.rf (u_H_enter (q := q33) c34) (by decide) (by decide)) (u_H_putRight (q := q36) c37) (by decide) (by decide))
            · replace hf := (if_neg c32).symm.trans hf
              cases hf
              exact FR.rf
theorem dX11_strikeNow_0 : decode cX11_strikeNow 0 = .ok (.aload_n 0, 1) := by decide +kernel
theorem dX11_strikeNow_1 : decode cX11_strikeNow 1 = .ok (.iload_n 1, 1) := by decide +kernel
theorem dX11_strikeNow_2 : decode cX11_strikeNow 2 = .ok (.invokevirtual 198, 3) := by decide +kernel
theorem dX11_strikeNow_5 : decode cX11_strikeNow 5 = .ok (.astore_n 3, 1) := by decide +kernel
theorem dX11_strikeNow_6 : decode cX11_strikeNow 6 = .ok (.aload_n 3, 1) := by decide +kernel
theorem dX11_strikeNow_7 : decode cX11_strikeNow 7 = .ok (.instanceof 39, 3) := by decide +kernel
theorem dX11_strikeNow_10 : decode cX11_strikeNow 10 = .ok (.ifCond .eq 17, 3) := by decide +kernel
theorem dX11_strikeNow_13 : decode cX11_strikeNow 13 = .ok (.aload_n 3, 1) := by decide +kernel
theorem dX11_strikeNow_14 : decode cX11_strikeNow 14 = .ok (.checkcast 39, 3) := by decide +kernel
theorem dX11_strikeNow_17 : decode cX11_strikeNow 17 = .ok (.astore_n 2, 1) := by decide +kernel
theorem dX11_strikeNow_18 : decode cX11_strikeNow 18 = .ok (.aload_n 0, 1) := by decide +kernel
theorem dX11_strikeNow_19 : decode cX11_strikeNow 19 = .ok (.iload_n 1, 1) := by decide +kernel
theorem dX11_strikeNow_20 : decode cX11_strikeNow 20 = .ok (.aload_n 2, 1) := by decide +kernel
theorem dX11_strikeNow_21 : decode cX11_strikeNow 21 = .ok (.invokevirtual 417, 3) := by decide +kernel
theorem dX11_strikeNow_24 : decode cX11_strikeNow 24 = .ok (.goto 4, 3) := by decide +kernel
theorem dX11_strikeNow_27 : decode cX11_strikeNow 27 = .ok (.iconst (-1), 1) := by decide +kernel
theorem dX11_strikeNow_28 : decode cX11_strikeNow 28 = .ok (.ireturn, 1) := by decide +kernel
def f_H_strikeNow (S : List xSh) (Rf : Nat → Nat → Option Nat) (a0 : Int32) (I : Nat → Nat → Int32) (L : Nat → Nat → Int64) : Option (Int32 × (Nat → Nat → Int32) × (Nat → Nat → Int64)) := ((f_H_workAt S Rf a0 I L).bind fun q1 => (oc q1 (some ((-1 : Int32), I, L)) fun w3 => (if S[w3]? = some (.inl 4) then (some ((-1 : Int32), I, L)) else (if S[w3]? = some (.inl 1) then (some ((-1 : Int32), I, L)) else (if S[w3]? = some (.inl 8) then ((f_H_tellStrike_S a0 w3 I L).bind fun q8 => (some (q8.1, q8.2.1, q8.2.2))) else none)))))
set_option maxRecDepth 100000 in
set_option maxHeartbeats 4000000 in
theorem c_H_strikeNow {G : xG} {S : List xSh} {Rf : Nat → Nat → Option Nat} (hT : xTH S Rf) {a0 : Int32} {I : Nat → Nat → Int32} {L : Nat → Nat → Int64} {q : (Int32 × (Nat → Nat → Int32) × (Nat → Nat → Int64))} (hf : f_H_strikeNow S Rf a0 I L = some q) : CT G 4 m_H_strikeNow [.ref (xP G 0), .int a0] (S, I, L, Rf) (some (.int q.1), (S, q.2.1, q.2.2, Rf)) := by
  refine CT.of (by decide +kernel) (Nat.le_of_ble_eq_true rfl) ?_
  show X G 4 m_H_strikeNow 0 [(0, .ref (xP G 0)), (1, .int a0)] [] (S, I, L, Rf) (some (.int q.1), (S, q.2.1, q.2.2, Rf))
  replace hf := (f_H_strikeNow.eq_1 _ _ _ _ _).symm.trans hf
  refine X_aload_n (pc := 0) (i := 0) 0 dX11_strikeNow_0 rfl rfl ?_
  refine X_iload_n (pc := 1) (i := 1) 1 dX11_strikeNow_1 rfl rfl ?_
  obtain ⟨q1, c2, hf⟩ := bd_some hf
  rcases oc_cases hf with ⟨hr4, hf⟩ | ⟨w3, hr4, hf⟩
  · rw [hr4] at c2
    refine X_invV_aN (pc := 2) (c_H_workAt hT c2) ok_H_workAt (ci := 10) (sh_0 hT) k_872 k_874 k_19 nd_24 (by decide) rfl (Nat.le_of_ble_eq_true rfl) dX11_strikeNow_2 ?_
    refine X_astore_nN (pc := 5) (i := 3) [(3, .null), (0, .ref (xP G 0)), (1, .int a0)] dX11_strikeNow_5 rfl (by decide) rfl ?_
    refine X_aload_nN (pc := 6) (i := 3) 0 dX11_strikeNow_6 rfl rfl ?_
    refine X_instN (pc := 7) dX11_strikeNow_7 ?_
    refine X_if_eq_t (pc := 10) 27 dX11_strikeNow_10 (by decide) (by decide) ?_
    refine X_iconst (pc := 27) (-1 : Int32) dX11_strikeNow_27 (by decide) ?_
    cases hf
    exact X_ireturn (pc := 28) rfl dX11_strikeNow_28
  · rw [hr4] at c2
    refine X_invV_aS (pc := 2) (c_H_workAt hT c2) ok_H_workAt (ci := 10) (sh_0 hT) k_872 k_874 k_19 nd_24 (by decide) rfl (Nat.le_of_ble_eq_true rfl) dX11_strikeNow_2 ?_
    refine X_astore_n (pc := 5) (i := 3) [(3, .ref (xP G w3)), (0, .ref (xP G 0)), (1, .int a0)] dX11_strikeNow_5 rfl (by decide) rfl ?_
    refine X_aload_n (pc := 6) (i := 3) 0 dX11_strikeNow_6 rfl rfl ?_
    by_cases hs5 : S[w3]? = some (.inl 4)
    · replace hf := (if_pos hs5).symm.trans hf
      refine X_instNo (pc := 7) (ci := 4) hs5 k_239 (by decide) dX11_strikeNow_7 ?_
      refine X_if_eq_t (pc := 10) 27 dX11_strikeNow_10 (by decide) (by decide) ?_
      refine X_iconst (pc := 27) (-1 : Int32) dX11_strikeNow_27 (by decide) ?_
      cases hf
      exact X_ireturn (pc := 28) rfl dX11_strikeNow_28
    · replace hf := (if_neg hs5).symm.trans hf
      by_cases hs6 : S[w3]? = some (.inl 1)
      · replace hf := (if_pos hs6).symm.trans hf
        refine X_instNo (pc := 7) (ci := 1) hs6 k_239 (by decide) dX11_strikeNow_7 ?_
        refine X_if_eq_t (pc := 10) 27 dX11_strikeNow_10 (by decide) (by decide) ?_
        refine X_iconst (pc := 27) (-1 : Int32) dX11_strikeNow_27 (by decide) ?_
        cases hf
        exact X_ireturn (pc := 28) rfl dX11_strikeNow_28
      · replace hf := (if_neg hs6).symm.trans hf
        obtain ⟨hs7, hf⟩ := gd_some hf
        refine X_instYes (pc := 7) (ci := 8) hs7 k_239 dX11_strikeNow_7 ?_
        refine X_if_eq_f (pc := 10) 27 dX11_strikeNow_10 (by decide) (by decide) ?_
        refine X_aload_n (pc := 13) (i := 3) 0 dX11_strikeNow_13 rfl rfl ?_
        refine X_castYes (pc := 14) (ci := 8) hs7 k_239 dX11_strikeNow_14 ?_
        refine X_astore_n (pc := 17) (i := 2) [(2, .ref (xP G w3)), (3, .ref (xP G w3)), (0, .ref (xP G 0)), (1, .int a0)] dX11_strikeNow_17 rfl (by decide) rfl ?_
        refine X_aload_n (pc := 18) (i := 0) 2 dX11_strikeNow_18 rfl rfl ?_
        refine X_iload_n (pc := 19) (i := 1) 3 dX11_strikeNow_19 rfl rfl ?_
        refine X_aload_n (pc := 20) (i := 2) 0 dX11_strikeNow_20 rfl rfl ?_
        obtain ⟨q8, c9, hf⟩ := bd_some hf
        refine X_invV_i (pc := 21) (c_H_tellStrike_S hT hs7 c9) ok_H_tellStrike (ci := 10) (sh_0 hT) k_825 k_827 k_17 nd_22 (by decide) rfl (Nat.le_of_ble_eq_true rfl) dX11_strikeNow_21 ?_
        refine X_goto (pc := 24) 28 dX11_strikeNow_24 (by decide) ?_
        cases hf
        exact X_ireturn (pc := 28) rfl dX11_strikeNow_28
theorem u_H_strikeNow {S : List xSh} {Rf : Nat → Nat → Option Nat} {a0 : Int32} {I : Nat → Nat → Int32} {L : Nat → Nat → Int64} {q : (Int32 × (Nat → Nat → Int32) × (Nat → Nat → Int64))} (hf : f_H_strikeNow S Rf a0 I L = some q) : FR S [14, 2303] [] I q.2.1 L q.2.2 := by
  replace hf := (f_H_strikeNow.eq_1 _ _ _ _ _).symm.trans hf
  obtain ⟨q1, c2, hf⟩ := bd_some hf
  rcases oc_cases hf with ⟨hr4, hf⟩ | ⟨w3, hr4, hf⟩
  · rw [hr4] at c2
    cases hf
    exact FR.rf
  · rw [hr4] at c2
    by_cases hs5 : S[w3]? = some (.inl 4)
    · replace hf := (if_pos hs5).symm.trans hf
      cases hf
      exact FR.rf
    · replace hf := (if_neg hs5).symm.trans hf
      by_cases hs6 : S[w3]? = some (.inl 1)
      · replace hf := (if_pos hs6).symm.trans hf
        cases hf
        exact FR.rf
      · replace hf := (if_neg hs6).symm.trans hf
        obtain ⟨hs7, hf⟩ := gd_some hf
        obtain ⟨q8, c9, hf⟩ := bd_some hf
        cases hf
        exact (FR.tr FR.rf (u_H_tellStrike_S hs7 (q := q8) c9) (by decide) (by decide))
theorem dX11_trip_0 : decode cX11_trip 0 = .ok (.aload_n 0, 1) := by decide +kernel
theorem dX11_trip_1 : decode cX11_trip 1 = .ok (.iload_n 1, 1) := by decide +kernel
theorem dX11_trip_2 : decode cX11_trip 2 = .ok (.invokevirtual 198, 3) := by decide +kernel
theorem dX11_trip_5 : decode cX11_trip 5 = .ok (.instanceof 39, 3) := by decide +kernel
theorem dX11_trip_8 : decode cX11_trip 8 = .ok (.ifCond .ne 5, 3) := by decide +kernel
theorem dX11_trip_11 : decode cX11_trip 11 = .ok (.iconst (-1), 1) := by decide +kernel
theorem dX11_trip_12 : decode cX11_trip 12 = .ok (.ireturn, 1) := by decide +kernel
theorem dX11_trip_13 : decode cX11_trip 13 = .ok (.aload_n 0, 1) := by decide +kernel
theorem dX11_trip_14 : decode cX11_trip 14 = .ok (.getfield 99, 3) := by decide +kernel
theorem dX11_trip_17 : decode cX11_trip 17 = .ok (.ifCond .ne 6, 3) := by decide +kernel
theorem dX11_trip_20 : decode cX11_trip 20 = .ok (.bipush (-2), 2) := by decide +kernel
theorem dX11_trip_22 : decode cX11_trip 22 = .ok (.ireturn, 1) := by decide +kernel
theorem dX11_trip_23 : decode cX11_trip 23 = .ok (.aload_n 0, 1) := by decide +kernel
theorem dX11_trip_24 : decode cX11_trip 24 = .ok (.iconst 5, 1) := by decide +kernel
theorem dX11_trip_25 : decode cX11_trip 25 = .ok (.iload_n 1, 1) := by decide +kernel
theorem dX11_trip_26 : decode cX11_trip 26 = .ok (.iconst 0, 1) := by decide +kernel
theorem dX11_trip_27 : decode cX11_trip 27 = .ok (.iconst 0, 1) := by decide +kernel
theorem dX11_trip_28 : decode cX11_trip 28 = .ok (.invokevirtual 171, 3) := by decide +kernel
theorem dX11_trip_31 : decode cX11_trip 31 = .ok (.ifCond .eq 11, 3) := by decide +kernel
theorem dX11_trip_34 : decode cX11_trip 34 = .ok (.aload_n 0, 1) := by decide +kernel
theorem dX11_trip_35 : decode cX11_trip 35 = .ok (.iload_n 1, 1) := by decide +kernel
theorem dX11_trip_36 : decode cX11_trip 36 = .ok (.invokevirtual 214, 3) := by decide +kernel
theorem dX11_trip_39 : decode cX11_trip 39 = .ok (.goto 5, 3) := by decide +kernel
theorem dX11_trip_42 : decode cX11_trip 42 = .ok (.bipush (-3), 2) := by decide +kernel
theorem dX11_trip_44 : decode cX11_trip 44 = .ok (.ireturn, 1) := by decide +kernel
def f_H_trip (S : List xSh) (Rf : Nat → Nat → Option Nat) (a0 : Int32) (I : Nat → Nat → Int32) (L : Nat → Nat → Int64) : Option (Int32 × (Nat → Nat → Int32) × (Nat → Nat → Int64)) := ((f_H_workAt S Rf a0 I L).bind fun q1 => (oc q1 (some ((-1 : Int32), I, L)) fun w3 => (if S[w3]? = some (.inl 4) then (some ((-1 : Int32), I, L)) else (if S[w3]? = some (.inl 1) then (some ((-1 : Int32), I, L)) else (if S[w3]? = some (.inl 8) then (if (I 0 8) = (0 : Int32) then (some ((-2 : Int32), I, L)) else ((f_H_enter (5 : Int32) a0 (0 : Int32) (0 : Int32) I L).bind fun q9 => (if q9.1 = (0 : Int32) then (some ((-3 : Int32), q9.2.1, q9.2.2)) else ((f_H_strikeNow S Rf a0 q9.2.1 q9.2.2).bind fun q12 => (some (q12.1, q12.2.1, q12.2.2)))))) else none)))))
set_option maxRecDepth 100000 in
set_option maxHeartbeats 4000000 in
theorem c_H_trip {G : xG} {S : List xSh} {Rf : Nat → Nat → Option Nat} (hT : xTH S Rf) {a0 : Int32} {I : Nat → Nat → Int32} {L : Nat → Nat → Int64} {q : (Int32 × (Nat → Nat → Int32) × (Nat → Nat → Int64))} (hf : f_H_trip S Rf a0 I L = some q) : CT G 5 m_H_trip [.ref (xP G 0), .int a0] (S, I, L, Rf) (some (.int q.1), (S, q.2.1, q.2.2, Rf)) := by
  refine CT.of (by decide +kernel) (Nat.le_of_ble_eq_true rfl) ?_
  show X G 5 m_H_trip 0 [(0, .ref (xP G 0)), (1, .int a0)] [] (S, I, L, Rf) (some (.int q.1), (S, q.2.1, q.2.2, Rf))
  replace hf := (f_H_trip.eq_1 _ _ _ _ _).symm.trans hf
  refine X_aload_n (pc := 0) (i := 0) 0 dX11_trip_0 rfl rfl ?_
  refine X_iload_n (pc := 1) (i := 1) 1 dX11_trip_1 rfl rfl ?_
  obtain ⟨q1, c2, hf⟩ := bd_some hf
  rcases oc_cases hf with ⟨hr4, hf⟩ | ⟨w3, hr4, hf⟩
  · rw [hr4] at c2
    refine X_invV_aN (pc := 2) (c_H_workAt hT c2) ok_H_workAt (ci := 10) (sh_0 hT) k_872 k_874 k_19 nd_24 (by decide) rfl (Nat.le_of_ble_eq_true rfl) dX11_trip_2 ?_
    refine X_instN (pc := 5) dX11_trip_5 ?_
    refine X_if_ne_f (pc := 8) 13 dX11_trip_8 (by decide) (by decide) ?_
    refine X_iconst (pc := 11) (-1 : Int32) dX11_trip_11 (by decide) ?_
    cases hf
    exact X_ireturn (pc := 12) rfl dX11_trip_12
  · rw [hr4] at c2
    refine X_invV_aS (pc := 2) (c_H_workAt hT c2) ok_H_workAt (ci := 10) (sh_0 hT) k_872 k_874 k_19 nd_24 (by decide) rfl (Nat.le_of_ble_eq_true rfl) dX11_trip_2 ?_
    by_cases hs5 : S[w3]? = some (.inl 4)
    · replace hf := (if_pos hs5).symm.trans hf
      refine X_instNo (pc := 5) (ci := 4) hs5 k_239 (by decide) dX11_trip_5 ?_
      refine X_if_ne_f (pc := 8) 13 dX11_trip_8 (by decide) (by decide) ?_
      refine X_iconst (pc := 11) (-1 : Int32) dX11_trip_11 (by decide) ?_
      cases hf
      exact X_ireturn (pc := 12) rfl dX11_trip_12
    · replace hf := (if_neg hs5).symm.trans hf
      by_cases hs6 : S[w3]? = some (.inl 1)
      · replace hf := (if_pos hs6).symm.trans hf
        refine X_instNo (pc := 5) (ci := 1) hs6 k_239 (by decide) dX11_trip_5 ?_
        refine X_if_ne_f (pc := 8) 13 dX11_trip_8 (by decide) (by decide) ?_
        refine X_iconst (pc := 11) (-1 : Int32) dX11_trip_11 (by decide) ?_
        cases hf
        exact X_ireturn (pc := 12) rfl dX11_trip_12
      · replace hf := (if_neg hs6).symm.trans hf
        obtain ⟨hs7, hf⟩ := gd_some hf
        refine X_instYes (pc := 5) (ci := 8) hs7 k_239 dX11_trip_5 ?_
        refine X_if_ne_t (pc := 8) 13 dX11_trip_8 (by decide) (by decide) ?_
        refine X_aload_n (pc := 13) (i := 0) 0 dX11_trip_13 rfl rfl ?_
        refine X_get (pc := 14) (a := 0) (ci := 10) (j := 11) (.int (I 0 8)) (sh_0 hT) (by decide) k_505 rfl dX11_trip_14 ?_
        by_cases c8 : (I 0 8) = (0 : Int32)
        · replace hf := (if_pos c8).symm.trans hf
          refine X_if_ne_f (pc := 17) 23 dX11_trip_17 (by decide) c8 ?_
          refine X_bipush (pc := 20) (-2 : Int32) dX11_trip_20 (by decide) ?_
          cases hf
          exact X_ireturn (pc := 22) rfl dX11_trip_22
        · replace hf := (if_neg c8).symm.trans hf
          refine X_if_ne_t (pc := 17) 23 dX11_trip_17 (by decide) c8 ?_
          refine X_aload_n (pc := 23) (i := 0) 0 dX11_trip_23 rfl rfl ?_
          refine X_iconst (pc := 24) (5 : Int32) dX11_trip_24 (by decide) ?_
          refine X_iload_n (pc := 25) (i := 1) 1 dX11_trip_25 rfl rfl ?_
          refine X_iconst (pc := 26) (0 : Int32) dX11_trip_26 (by decide) ?_
          refine X_iconst (pc := 27) (0 : Int32) dX11_trip_27 (by decide) ?_
          obtain ⟨q9, c10, hf⟩ := bd_some hf
          refine X_invV_i (pc := 28) (c_H_enter hT c10) ok_H_enter (ci := 10) (sh_0 hT) k_723 k_725 k_11 nd_17 (by decide) rfl (Nat.le_of_ble_eq_true rfl) dX11_trip_28 ?_
          by_cases c11 : q9.1 = (0 : Int32)
          · replace hf := (if_pos c11).symm.trans hf
            refine X_if_eq_t (pc := 31) 42 dX11_trip_31 (by decide) c11 ?_
            refine X_bipush (pc := 42) (-3 : Int32) dX11_trip_42 (by decide) ?_
            cases hf
            exact X_ireturn (pc := 44) rfl dX11_trip_44
          · replace hf := (if_neg c11).symm.trans hf
            refine X_if_eq_f (pc := 31) 42 dX11_trip_31 (by decide) c11 ?_
            refine X_aload_n (pc := 34) (i := 0) 0 dX11_trip_34 rfl rfl ?_
            refine X_iload_n (pc := 35) (i := 1) 1 dX11_trip_35 rfl rfl ?_
            obtain ⟨q12, c13, hf⟩ := bd_some hf
            refine X_invV_i (pc := 36) (c_H_strikeNow hT c13) ok_H_strikeNow (ci := 10) (sh_0 hT) k_920 k_922 k_22 nd_8 (by decide) rfl (Nat.le_of_ble_eq_true rfl) dX11_trip_36 ?_
            refine X_goto (pc := 39) 44 dX11_trip_39 (by decide) ?_
            cases hf
            exact X_ireturn (pc := 44) rfl dX11_trip_44
theorem u_H_trip {S : List xSh} {Rf : Nat → Nat → Option Nat} {a0 : Int32} {I : Nat → Nat → Int32} {L : Nat → Nat → Int64} {q : (Int32 × (Nat → Nat → Int32) × (Nat → Nat → Int64))} (hf : f_H_trip S Rf a0 I L = some q) : FR S [14, 16, 2303, 2503] [] I q.2.1 L q.2.2 := by
  replace hf := (f_H_trip.eq_1 _ _ _ _ _).symm.trans hf
  obtain ⟨q1, c2, hf⟩ := bd_some hf
  rcases oc_cases hf with ⟨hr4, hf⟩ | ⟨w3, hr4, hf⟩
  · rw [hr4] at c2
    cases hf
    exact FR.rf
  · rw [hr4] at c2
    by_cases hs5 : S[w3]? = some (.inl 4)
    · replace hf := (if_pos hs5).symm.trans hf
      cases hf
      exact FR.rf
    · replace hf := (if_neg hs5).symm.trans hf
      by_cases hs6 : S[w3]? = some (.inl 1)
      · replace hf := (if_pos hs6).symm.trans hf
        cases hf
        exact FR.rf
      · replace hf := (if_neg hs6).symm.trans hf
        obtain ⟨hs7, hf⟩ := gd_some hf
        by_cases c8 : (I 0 8) = (0 : Int32)
        · replace hf := (if_pos c8).symm.trans hf
          cases hf
          exact FR.rf
        · replace hf := (if_neg c8).symm.trans hf
          obtain ⟨q9, c10, hf⟩ := bd_some hf
          by_cases c11 : q9.1 = (0 : Int32)
          · replace hf := (if_pos c11).symm.trans hf
            cases hf
            exact (FR.tr FR.rf (u_H_enter (q := q9) c10) (by decide) (by decide))
          · replace hf := (if_neg c11).symm.trans hf
            obtain ⟨q12, c13, hf⟩ := bd_some hf
            cases hf
            exact (FR.tr (FR.tr FR.rf (u_H_enter (q := q9) c10) (by decide) (by decide)) (u_H_strikeNow (q := q12) c13) (by decide) (by decide))

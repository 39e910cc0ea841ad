theorem dX1_advanceTrue_0 : decode cX1_advanceTrue 0 = .ok (.aload_n 0, 1) := by decide +kernel
theorem dX1_advanceTrue_1 : decode cX1_advanceTrue 1 = .ok (.getfield 47, 3) := by decide +kernel
theorem dX1_advanceTrue_4 : decode cX1_advanceTrue 4 = .ok (.iconst 3, 1) := by decide +kernel
theorem dX1_advanceTrue_5 : decode cX1_advanceTrue 5 = .ok (.aload_n 0, 1) := by decide +kernel
theorem dX1_advanceTrue_6 : decode cX1_advanceTrue 6 = .ok (.getfield 50, 3) := by decide +kernel
theorem dX1_advanceTrue_9 : decode cX1_advanceTrue 9 = .ok (.aload_n 0, 1) := by decide +kernel
theorem dX1_advanceTrue_10 : decode cX1_advanceTrue 10 = .ok (.getfield 53, 3) := by decide +kernel
theorem dX1_advanceTrue_13 : decode cX1_advanceTrue 13 = .ok (.invokestatic 28, 3) := by decide +kernel
theorem dX1_advanceTrue_16 : decode cX1_advanceTrue 16 = .ok (.if_icmp .ge 14, 3) := by decide +kernel
theorem dX1_advanceTrue_19 : decode cX1_advanceTrue 19 = .ok (.aload_n 0, 1) := by decide +kernel
theorem dX1_advanceTrue_20 : decode cX1_advanceTrue 20 = .ok (.dup, 1) := by decide +kernel
theorem dX1_advanceTrue_21 : decode cX1_advanceTrue 21 = .ok (.getfield 47, 3) := by decide +kernel
theorem dX1_advanceTrue_24 : decode cX1_advanceTrue 24 = .ok (.iconst 1, 1) := by decide +kernel
theorem dX1_advanceTrue_25 : decode cX1_advanceTrue 25 = .ok (.iadd, 1) := by decide +kernel
theorem dX1_advanceTrue_26 : decode cX1_advanceTrue 26 = .ok (.putfield 47, 3) := by decide +kernel
theorem dX1_advanceTrue_29 : decode cX1_advanceTrue 29 = .ok (.return_, 1) := by decide +kernel
theorem dX1_advanceTrue_30 : decode cX1_advanceTrue 30 = .ok (.aload_n 0, 1) := by decide +kernel
theorem dX1_advanceTrue_31 : decode cX1_advanceTrue 31 = .ok (.iconst 1, 1) := by decide +kernel
theorem dX1_advanceTrue_32 : decode cX1_advanceTrue 32 = .ok (.putfield 47, 3) := by decide +kernel
theorem dX1_advanceTrue_35 : decode cX1_advanceTrue 35 = .ok (.aload_n 0, 1) := by decide +kernel
theorem dX1_advanceTrue_36 : decode cX1_advanceTrue 36 = .ok (.aload_n 0, 1) := by decide +kernel
theorem dX1_advanceTrue_37 : decode cX1_advanceTrue 37 = .ok (.getfield 50, 3) := by decide +kernel
theorem dX1_advanceTrue_40 : decode cX1_advanceTrue 40 = .ok (.invokestatic 65, 3) := by decide +kernel
theorem dX1_advanceTrue_43 : decode cX1_advanceTrue 43 = .ok (.putfield 50, 3) := by decide +kernel
theorem dX1_advanceTrue_46 : decode cX1_advanceTrue 46 = .ok (.aload_n 0, 1) := by decide +kernel
theorem dX1_advanceTrue_47 : decode cX1_advanceTrue 47 = .ok (.aload_n 0, 1) := by decide +kernel
theorem dX1_advanceTrue_48 : decode cX1_advanceTrue 48 = .ok (.getfield 50, 3) := by decide +kernel
theorem dX1_advanceTrue_51 : decode cX1_advanceTrue 51 = .ok (.aload_n 0, 1) := by decide +kernel
theorem dX1_advanceTrue_52 : decode cX1_advanceTrue 52 = .ok (.getfield 53, 3) := by decide +kernel
theorem dX1_advanceTrue_55 : decode cX1_advanceTrue 55 = .ok (.invokestatic 69, 3) := by decide +kernel
theorem dX1_advanceTrue_58 : decode cX1_advanceTrue 58 = .ok (.putfield 53, 3) := by decide +kernel
theorem dX1_advanceTrue_61 : decode cX1_advanceTrue 61 = .ok (.return_, 1) := by decide +kernel
def f_Ca_advanceTrue (w0 : Nat) (I : Nat → Nat → Int32) (L : Nat → Nat → Int64) : Option ((Nat → Nat → Int32) × (Nat → Nat → Int64)) := (bnd (f_Ca_length (3 : Int32) (I w0 11) (I w0 12)) fun x1 => (if x1 ≤ (I w0 10) then (bnd (f_Ca_nextMonth ((uI I w0 10 (1 : Int32)) w0 11)) fun x3 => (bnd (f_Ca_yearBehind ((uI (uI I w0 10 (1 : Int32)) w0 11 x3) w0 11) ((uI (uI I w0 10 (1 : Int32)) w0 11 x3) w0 12)) fun x4 => (some ((uI (uI (uI I w0 10 (1 : Int32)) w0 11 x3) w0 12 x4), L)))) else (bnd ((I w0 10) + (1 : Int32)) fun x5 => (some ((uI I w0 10 x5), L)))))
set_option maxRecDepth 100000 in
set_option maxHeartbeats 4000000 in
theorem c_Ca_advanceTrue {G : xG} {S : List xSh} {Rf : Nat → Nat → Option Nat} (hT : xTH S Rf) {w0 : Nat} (hw0 : S[w0]? = some (.inl 1)) {I : Nat → Nat → Int32} {L : Nat → Nat → Int64} {q : ((Nat → Nat → Int32) × (Nat → Nat → Int64))} (hf : f_Ca_advanceTrue w0 I L = some q) : CT G 2 m_Ca_advanceTrue [.ref (xP G w0)] (S, I, L, Rf) (none, (S, q.1, q.2, Rf)) := by
  refine CT.of (by decide +kernel) (Nat.le_of_ble_eq_true rfl) ?_
  show X G 2 m_Ca_advanceTrue 0 [(0, .ref (xP G w0))] [] (S, I, L, Rf) (none, (S, q.1, q.2, Rf))
  replace hf := (f_Ca_advanceTrue.eq_1 _ _ _).symm.trans hf
  refine X_aload_n (pc := 0) (i := 0) 0 dX1_advanceTrue_0 rfl rfl ?_
  refine X_get (pc := 1) (a := w0) (ci := 1) (j := 10) (.int (I w0 10)) hw0 (by decide) k_387 rfl dX1_advanceTrue_1 ?_
  refine X_iconst (pc := 4) (3 : Int32) dX1_advanceTrue_4 (by decide) ?_
  refine X_aload_n (pc := 5) (i := 0) 0 dX1_advanceTrue_5 rfl rfl ?_
  refine X_get (pc := 6) (a := w0) (ci := 1) (j := 11) (.int (I w0 11)) hw0 (by decide) k_388 rfl dX1_advanceTrue_6 ?_
  refine X_aload_n (pc := 9) (i := 0) 0 dX1_advanceTrue_9 rfl rfl ?_
  refine X_get (pc := 10) (a := w0) (ci := 1) (j := 12) (.int (I w0 12)) hw0 (by decide) k_389 rfl dX1_advanceTrue_10 ?_
  refine X_invS_i (pc := 13) (c_Ca_length hT rfl) ok_Ca_length k_661 k_662 nd_16 (by decide) rfl (Nat.le_of_ble_eq_true rfl) dX1_advanceTrue_13 ?_
  obtain ⟨x1, ex1, hf⟩ := bnd_e hf
  refine X_tope ex1 ?_
  by_cases c2 : x1 ≤ (I w0 10)
  · replace hf := (if_pos c2).symm.trans hf
    refine X_icmp_ge_t (pc := 16) 30 dX1_advanceTrue_16 (by decide) c2 ?_
    refine X_aload_n (pc := 30) (i := 0) 0 dX1_advanceTrue_30 rfl rfl ?_
    refine X_iconst (pc := 31) (1 : Int32) dX1_advanceTrue_31 (by decide) ?_
    refine X_puti (pc := 32) (a := w0) (ci := 1) (j := 10) 10 rfl false hw0 (by decide) k_387 rfl (fun h => by cases h) rfl dX1_advanceTrue_32 ?_
    refine X_aload_n (pc := 35) (i := 0) 0 dX1_advanceTrue_35 rfl rfl ?_
    refine X_aload_n (pc := 36) (i := 0) 0 dX1_advanceTrue_36 rfl rfl ?_
    refine X_get (pc := 37) (a := w0) (ci := 1) (j := 11) (.int ((uI I w0 10 (1 : Int32)) w0 11)) hw0 (by decide) k_388 rfl dX1_advanceTrue_37 ?_
    refine X_invS_i (pc := 40) (c_Ca_nextMonth hT rfl) ok_Ca_nextMonth k_802 k_803 nd_8 (by decide) rfl (Nat.le_of_ble_eq_true rfl) dX1_advanceTrue_40 ?_
    obtain ⟨x3, ex3, hf⟩ := bnd_e hf
    refine X_tope ex3 ?_
    refine X_puti (pc := 43) (a := w0) (ci := 1) (j := 11) 11 rfl false hw0 (by decide) k_388 rfl (fun h => by cases h) rfl dX1_advanceTrue_43 ?_
    refine X_aload_n (pc := 46) (i := 0) 0 dX1_advanceTrue_46 rfl rfl ?_
    refine X_aload_n (pc := 47) (i := 0) 0 dX1_advanceTrue_47 rfl rfl ?_
    refine X_get (pc := 48) (a := w0) (ci := 1) (j := 11) (.int ((uI (uI I w0 10 (1 : Int32)) w0 11 x3) w0 11)) hw0 (by decide) k_388 rfl dX1_advanceTrue_48 ?_
    refine X_aload_n (pc := 51) (i := 0) 0 dX1_advanceTrue_51 rfl rfl ?_
    refine X_get (pc := 52) (a := w0) (ci := 1) (j := 12) (.int ((uI (uI I w0 10 (1 : Int32)) w0 11 x3) w0 12)) hw0 (by decide) k_389 rfl dX1_advanceTrue_52 ?_
    refine X_invS_i (pc := 55) (c_Ca_yearBehind hT rfl) ok_Ca_yearBehind k_805 k_806 nd_21 (by decide) rfl (Nat.le_of_ble_eq_true rfl) dX1_advanceTrue_55 ?_
    obtain ⟨x4, ex4, hf⟩ := bnd_e hf
    refine X_tope ex4 ?_
    refine X_puti (pc := 58) (a := w0) (ci := 1) (j := 12) 12 rfl false hw0 (by decide) k_389 rfl (fun h => by cases h) rfl dX1_advanceTrue_58 ?_
    cases hf
    exact X_return (pc := 61) rfl dX1_advanceTrue_61
  · replace hf := (if_neg c2).symm.trans hf
    refine X_icmp_ge_f (pc := 16) 30 dX1_advanceTrue_16 (by decide) c2 ?_
    refine X_aload_n (pc := 19) (i := 0) 0 dX1_advanceTrue_19 rfl rfl ?_
    refine X_dup (pc := 20) dX1_advanceTrue_20 rfl ?_
    refine X_get (pc := 21) (a := w0) (ci := 1) (j := 10) (.int (I w0 10)) hw0 (by decide) k_387 rfl dX1_advanceTrue_21 ?_
    refine X_iconst (pc := 24) (1 : Int32) dX1_advanceTrue_24 (by decide) ?_
    refine X_iadd (pc := 25) dX1_advanceTrue_25 ?_
    obtain ⟨x5, ex5, hf⟩ := bnd_e hf
    refine X_tope ex5 ?_
    refine X_puti (pc := 26) (a := w0) (ci := 1) (j := 10) 10 rfl false hw0 (by decide) k_387 rfl (fun h => by cases h) rfl dX1_advanceTrue_26 ?_
    cases hf
    exact X_return (pc := 29) rfl dX1_advanceTrue_29
theorem u_Ca_advanceTrue {S : List xSh} {w0 : Nat} (hw0 : S[w0]? = some (.inl 1)) {I : Nat → Nat → Int32} {L : Nat → Nat → Int64} {q : ((Nat → Nat → Int32) × (Nat → Nat → Int64))} (hf : f_Ca_advanceTrue w0 I L = some q) : FR S [] [] I q.1 L q.2 := by
  replace hf := (f_Ca_advanceTrue.eq_1 _ _ _).symm.trans hf
  obtain ⟨x1, ex1, hf⟩ := bnd_e hf
  by_cases c2 : x1 ≤ (I w0 10)
  · replace hf := (if_pos c2).symm.trans hf
    obtain ⟨x3, ex3, hf⟩ := bnd_e hf
    obtain ⟨x4, ex4, hf⟩ := bnd_e hf
    cases hf
    exact (FR.dy (FR.dy (FR.dy FR.rf hw0 (by decide)) hw0 (by decide)) hw0 (by decide))
  · replace hf := (if_neg c2).symm.trans hf
    obtain ⟨x5, ex5, hf⟩ := bnd_e hf
    cases hf
    exact (FR.dy FR.rf hw0 (by decide))
theorem dX1_advanceShown_0 : decode cX1_advanceShown 0 = .ok (.aload_n 0, 1) := by decide +kernel
theorem dX1_advanceShown_1 : decode cX1_advanceShown 1 = .ok (.aload_n 0, 1) := by decide +kernel
theorem dX1_advanceShown_2 : decode cX1_advanceShown 2 = .ok (.getfield 44, 3) := by decide +kernel
theorem dX1_advanceShown_5 : decode cX1_advanceShown 5 = .ok (.bipush 6, 2) := by decide +kernel
theorem dX1_advanceShown_7 : decode cX1_advanceShown 7 = .ok (.if_icmp .ge 12, 3) := by decide +kernel
theorem dX1_advanceShown_10 : decode cX1_advanceShown 10 = .ok (.aload_n 0, 1) := by decide +kernel
theorem dX1_advanceShown_11 : decode cX1_advanceShown 11 = .ok (.getfield 44, 3) := by decide +kernel
theorem dX1_advanceShown_14 : decode cX1_advanceShown 14 = .ok (.iconst 1, 1) := by decide +kernel
theorem dX1_advanceShown_15 : decode cX1_advanceShown 15 = .ok (.iadd, 1) := by decide +kernel
theorem dX1_advanceShown_16 : decode cX1_advanceShown 16 = .ok (.goto 4, 3) := by decide +kernel
theorem dX1_advanceShown_19 : decode cX1_advanceShown 19 = .ok (.iconst 0, 1) := by decide +kernel
theorem dX1_advanceShown_20 : decode cX1_advanceShown 20 = .ok (.putfield 44, 3) := by decide +kernel
theorem dX1_advanceShown_23 : decode cX1_advanceShown 23 = .ok (.aload_n 0, 1) := by decide +kernel
theorem dX1_advanceShown_24 : decode cX1_advanceShown 24 = .ok (.getfield 32, 3) := by decide +kernel
theorem dX1_advanceShown_27 : decode cX1_advanceShown 27 = .ok (.aload_n 0, 1) := by decide +kernel
theorem dX1_advanceShown_28 : decode cX1_advanceShown 28 = .ok (.getfield 9, 3) := by decide +kernel
theorem dX1_advanceShown_31 : decode cX1_advanceShown 31 = .ok (.aload_n 0, 1) := by decide +kernel
theorem dX1_advanceShown_32 : decode cX1_advanceShown 32 = .ok (.getfield 35, 3) := by decide +kernel
theorem dX1_advanceShown_35 : decode cX1_advanceShown 35 = .ok (.aload_n 0, 1) := by decide +kernel
theorem dX1_advanceShown_36 : decode cX1_advanceShown 36 = .ok (.getfield 38, 3) := by decide +kernel
theorem dX1_advanceShown_39 : decode cX1_advanceShown 39 = .ok (.invokestatic 28, 3) := by decide +kernel
theorem dX1_advanceShown_42 : decode cX1_advanceShown 42 = .ok (.if_icmp .ge 14, 3) := by decide +kernel
theorem dX1_advanceShown_45 : decode cX1_advanceShown 45 = .ok (.aload_n 0, 1) := by decide +kernel
theorem dX1_advanceShown_46 : decode cX1_advanceShown 46 = .ok (.dup, 1) := by decide +kernel
theorem dX1_advanceShown_47 : decode cX1_advanceShown 47 = .ok (.getfield 32, 3) := by decide +kernel
theorem dX1_advanceShown_50 : decode cX1_advanceShown 50 = .ok (.iconst 1, 1) := by decide +kernel
theorem dX1_advanceShown_51 : decode cX1_advanceShown 51 = .ok (.iadd, 1) := by decide +kernel
theorem dX1_advanceShown_52 : decode cX1_advanceShown 52 = .ok (.putfield 32, 3) := by decide +kernel
theorem dX1_advanceShown_55 : decode cX1_advanceShown 55 = .ok (.return_, 1) := by decide +kernel
theorem dX1_advanceShown_56 : decode cX1_advanceShown 56 = .ok (.aload_n 0, 1) := by decide +kernel
theorem dX1_advanceShown_57 : decode cX1_advanceShown 57 = .ok (.iconst 1, 1) := by decide +kernel
theorem dX1_advanceShown_58 : decode cX1_advanceShown 58 = .ok (.putfield 32, 3) := by decide +kernel
theorem dX1_advanceShown_61 : decode cX1_advanceShown 61 = .ok (.aload_n 0, 1) := by decide +kernel
theorem dX1_advanceShown_62 : decode cX1_advanceShown 62 = .ok (.aload_n 0, 1) := by decide +kernel
theorem dX1_advanceShown_63 : decode cX1_advanceShown 63 = .ok (.getfield 35, 3) := by decide +kernel
theorem dX1_advanceShown_66 : decode cX1_advanceShown 66 = .ok (.invokestatic 65, 3) := by decide +kernel
theorem dX1_advanceShown_69 : decode cX1_advanceShown 69 = .ok (.putfield 35, 3) := by decide +kernel
theorem dX1_advanceShown_72 : decode cX1_advanceShown 72 = .ok (.aload_n 0, 1) := by decide +kernel
theorem dX1_advanceShown_73 : decode cX1_advanceShown 73 = .ok (.aload_n 0, 1) := by decide +kernel
theorem dX1_advanceShown_74 : decode cX1_advanceShown 74 = .ok (.getfield 35, 3) := by decide +kernel
theorem dX1_advanceShown_77 : decode cX1_advanceShown 77 = .ok (.aload_n 0, 1) := by decide +kernel
theorem dX1_advanceShown_78 : decode cX1_advanceShown 78 = .ok (.getfield 38, 3) := by decide +kernel
theorem dX1_advanceShown_81 : decode cX1_advanceShown 81 = .ok (.invokestatic 69, 3) := by decide +kernel
theorem dX1_advanceShown_84 : decode cX1_advanceShown 84 = .ok (.putfield 38, 3) := by decide +kernel
theorem dX1_advanceShown_87 : decode cX1_advanceShown 87 = .ok (.return_, 1) := by decide +kernel
def f_Ca_advanceShown_L20 (w0 : Nat) (l0 : Nat) (s0 : Nat) (s1 : Int32) (I : (Nat → Nat → Int32)) (L : (Nat → Nat → Int64)) : Option ((Nat → Nat → Int32) × (Nat → Nat → Int64)) := (bnd (f_Ca_length ((uI I s0 9 s1) l0 2) ((uI I s0 9 s1) l0 7) ((uI I s0 9 s1) l0 8)) fun x2 => (if x2 ≤ ((uI I s0 9 s1) l0 6) then (bnd (f_Ca_nextMonth ((uI (uI I s0 9 s1) l0 6 (1 : Int32)) l0 7)) fun x4 => (bnd (f_Ca_yearBehind ((uI (uI (uI I s0 9 s1) l0 6 (1 : Int32)) l0 7 x4) l0 7) ((uI (uI (uI I s0 9 s1) l0 6 (1 : Int32)) l0 7 x4) l0 8)) fun x5 => (some ((uI (uI (uI (uI I s0 9 s1) l0 6 (1 : Int32)) l0 7 x4) l0 8 x5), L)))) else (bnd (((uI I s0 9 s1) l0 6) + (1 : Int32)) fun x6 => (some ((uI (uI I s0 9 s1) l0 6 x6), L)))))
set_option maxRecDepth 100000 in
set_option maxHeartbeats 4000000 in
theorem x_Ca_advanceShown_L20 {G : xG} {S : List xSh} {Rf : Nat → Nat → Option Nat} (hT : xTH S Rf) {w0 : Nat} (hw0 : S[w0]? = some (.inl 1)) {l0 : Nat} {s0 : Nat} {s1 : Int32} {I : Nat → Nat → Int32} {L : Nat → Nat → Int64} {q : ((Nat → Nat → Int32) × (Nat → Nat → Int64))} (hl0 : S[l0]? = some (.inl 1)) (hs0 : S[s0]? = some (.inl 1)) (hf : f_Ca_advanceShown_L20 w0 l0 s0 s1 I L = some q) : X G 2 m_Ca_advanceShown 20 [(0, .ref (xP G l0))] [.int s1, .ref (xP G s0)] (S, I, L, Rf) (none, (S, q.1, q.2, Rf)) := by
  replace hf := (f_Ca_advanceShown_L20.eq_1 _ _ _ _ _ _).symm.trans hf
  refine X_puti (pc := 20) (a := s0) (ci := 1) (j := 9) 9 rfl false hs0 (by decide) k_386 rfl (fun h => by cases h) rfl dX1_advanceShown_20 ?_
  refine X_aload_n (pc := 23) (i := 0) 0 dX1_advanceShown_23 rfl rfl ?_
  refine X_get (pc := 24) (a := l0) (ci := 1) (j := 6) (.int ((uI I s0 9 s1) l0 6)) hl0 (by decide) k_383 rfl dX1_advanceShown_24 ?_
  refine X_aload_n (pc := 27) (i := 0) 0 dX1_advanceShown_27 rfl rfl ?_
  refine X_get (pc := 28) (a := l0) (ci := 1) (j := 2) (.int ((uI I s0 9 s1) l0 2)) hl0 (by decide) k_379 rfl dX1_advanceShown_28 ?_
  refine X_aload_n (pc := 31) (i := 0) 0 dX1_advanceShown_31 rfl rfl ?_
  refine X_get (pc := 32) (a := l0) (ci := 1) (j := 7) (.int ((uI I s0 9 s1) l0 7)) hl0 (by decide) k_384 rfl dX1_advanceShown_32 ?_
  refine X_aload_n (pc := 35) (i := 0) 0 dX1_advanceShown_35 rfl rfl ?_
  refine X_get (pc := 36) (a := l0) (ci := 1) (j := 8) (.int ((uI I s0 9 s1) l0 8)) hl0 (by decide) k_385 rfl dX1_advanceShown_36 ?_
  refine X_invS_i (pc := 39) (c_Ca_length hT rfl) ok_Ca_length k_661 k_662 nd_16 (by decide) rfl (Nat.le_of_ble_eq_true rfl) dX1_advanceShown_39 ?_
  obtain ⟨x2, ex2, hf⟩ := bnd_e hf
  refine X_tope ex2 ?_
  by_cases c3 : x2 ≤ ((uI I s0 9 s1) l0 6)
  · replace hf := (if_pos c3).symm.trans hf
    refine X_icmp_ge_t (pc := 42) 56 dX1_advanceShown_42 (by decide) c3 ?_
    refine X_aload_n (pc := 56) (i := 0) 0 dX1_advanceShown_56 rfl rfl ?_
    refine X_iconst (pc := 57) (1 : Int32) dX1_advanceShown_57 (by decide) ?_
    refine X_puti (pc := 58) (a := l0) (ci := 1) (j := 6) 6 rfl false hl0 (by decide) k_383 rfl (fun h => by cases h) rfl dX1_advanceShown_58 ?_
    refine X_aload_n (pc := 61) (i := 0) 0 dX1_advanceShown_61 rfl rfl ?_
    refine X_aload_n (pc := 62) (i := 0) 0 dX1_advanceShown_62 rfl rfl ?_
    refine X_get (pc := 63) (a := l0) (ci := 1) (j := 7) (.int ((uI (uI I s0 9 s1) l0 6 (1 : Int32)) l0 7)) hl0 (by decide) k_384 rfl dX1_advanceShown_63 ?_
    refine X_invS_i (pc := 66) (c_Ca_nextMonth hT rfl) ok_Ca_nextMonth k_802 k_803 nd_8 (by decide) rfl (Nat.le_of_ble_eq_true rfl) dX1_advanceShown_66 ?_
    obtain ⟨x4, ex4, hf⟩ := bnd_e hf
    refine X_tope ex4 ?_
    refine X_puti (pc := 69) (a := l0) (ci := 1) (j := 7) 7 rfl false hl0 (by decide) k_384 rfl (fun h => by cases h) rfl dX1_advanceShown_69 ?_
    refine X_aload_n (pc := 72) (i := 0) 0 dX1_advanceShown_72 rfl rfl ?_
    refine X_aload_n (pc := 73) (i := 0) 0 dX1_advanceShown_73 rfl rfl ?_
    refine X_get (pc := 74) (a := l0) (ci := 1) (j := 7) (.int ((uI (uI (uI I s0 9 s1) l0 6 (1 : Int32)) l0 7 x4) l0 7)) hl0 (by decide) k_384 rfl dX1_advanceShown_74 ?_
    refine X_aload_n (pc := 77) (i := 0) 0 dX1_advanceShown_77 rfl rfl ?_
    refine X_get (pc := 78) (a := l0) (ci := 1) (j := 8) (.int ((uI (uI (uI I s0 9 s1) l0 6 (1 : Int32)) l0 7 x4) l0 8)) hl0 (by decide) k_385 rfl dX1_advanceShown_78 ?_
    refine X_invS_i (pc := 81) (c_Ca_yearBehind hT rfl) ok_Ca_yearBehind k_805 k_806 nd_21 (by decide) rfl (Nat.le_of_ble_eq_true rfl) dX1_advanceShown_81 ?_
    obtain ⟨x5, ex5, hf⟩ := bnd_e hf
    refine X_tope ex5 ?_
    refine X_puti (pc := 84) (a := l0) (ci := 1) (j := 8) 8 rfl false hl0 (by decide) k_385 rfl (fun h => by cases h) rfl dX1_advanceShown_84 ?_
    cases hf
    exact X_return (pc := 87) rfl dX1_advanceShown_87
  · replace hf := (if_neg c3).symm.trans hf
    refine X_icmp_ge_f (pc := 42) 56 dX1_advanceShown_42 (by decide) c3 ?_
    refine X_aload_n (pc := 45) (i := 0) 0 dX1_advanceShown_45 rfl rfl ?_
    refine X_dup (pc := 46) dX1_advanceShown_46 rfl ?_
    refine X_get (pc := 47) (a := l0) (ci := 1) (j := 6) (.int ((uI I s0 9 s1) l0 6)) hl0 (by decide) k_383 rfl dX1_advanceShown_47 ?_
    refine X_iconst (pc := 50) (1 : Int32) dX1_advanceShown_50 (by decide) ?_
    refine X_iadd (pc := 51) dX1_advanceShown_51 ?_
    obtain ⟨x6, ex6, hf⟩ := bnd_e hf
    refine X_tope ex6 ?_
    refine X_puti (pc := 52) (a := l0) (ci := 1) (j := 6) 6 rfl false hl0 (by decide) k_383 rfl (fun h => by cases h) rfl dX1_advanceShown_52 ?_
    cases hf
    exact X_return (pc := 55) rfl dX1_advanceShown_55
theorem u_Ca_advanceShown_L20 {S : List xSh} {w0 : Nat} (hw0 : S[w0]? = some (.inl 1)) {l0 : Nat} {s0 : Nat} {s1 : Int32} {I : Nat → Nat → Int32} {L : Nat → Nat → Int64} {q : ((Nat → Nat → Int32) × (Nat → Nat → Int64))} (hl0 : S[l0]? = some (.inl 1)) (hs0 : S[s0]? = some (.inl 1)) (hf : f_Ca_advanceShown_L20 w0 l0 s0 s1 I L = some q) : FR S [] [] I q.1 L q.2 := by
  replace hf := (f_Ca_advanceShown_L20.eq_1 _ _ _ _ _ _).symm.trans hf
  obtain ⟨x2, ex2, hf⟩ := bnd_e hf
  by_cases c3 : x2 ≤ ((uI I s0 9 s1) l0 6)
  · replace hf := (if_pos c3).symm.trans hf
    obtain ⟨x4, ex4, hf⟩ := bnd_e hf
    obtain ⟨x5, ex5, hf⟩ := bnd_e hf
    cases hf
    exact (FR.dy (FR.dy (FR.dy (FR.dy FR.rf hs0 (by decide)) hl0 (by decide)) hl0 (by decide)) hl0 (by decide))
  · replace hf := (if_neg c3).symm.trans hf
    obtain ⟨x6, ex6, hf⟩ := bnd_e hf
    cases hf
    exact (FR.dy (FR.dy FR.rf hs0 (by decide)) hl0 (by decide))
def f_Ca_advanceShown (w0 : Nat) (I : Nat → Nat → Int32) (L : Nat → Nat → Int64) : Option ((Nat → Nat → Int32) × (Nat → Nat → Int64)) := (if (6 : Int32) ≤ (I w0 9) then (f_Ca_advanceShown_L20 w0 w0 w0 (0 : Int32) I L) else (f_Ca_advanceShown_L20 w0 w0 w0 ((I w0 9) + (1 : Int32)) I L))
set_option maxRecDepth 100000 in
set_option maxHeartbeats 4000000 in
theorem c_Ca_advanceShown {G : xG} {S : List xSh} {Rf : Nat → Nat → Option Nat} (hT : xTH S Rf) {w0 : Nat} (hw0 : S[w0]? = some (.inl 1)) {I : Nat → Nat → Int32} {L : Nat → Nat → Int64} {q : ((Nat → Nat → Int32) × (Nat → Nat → Int64))} (hf : f_Ca_advanceShown w0 I L = some q) : CT G 2 m_Ca_advanceShown [.ref (xP G w0)] (S, I, L, Rf) (none, (S, q.1, q.2, Rf)) := by
  refine CT.of (by decide +kernel) (Nat.le_of_ble_eq_true rfl) ?_
  show X G 2 m_Ca_advanceShown 0 [(0, .ref (xP G w0))] [] (S, I, L, Rf) (none, (S, q.1, q.2, Rf))
  replace hf := (f_Ca_advanceShown.eq_1 _ _ _).symm.trans hf
  refine X_aload_n (pc := 0) (i := 0) 0 dX1_advanceShown_0 rfl rfl ?_
  refine X_aload_n (pc := 1) (i := 0) 0 dX1_advanceShown_1 rfl rfl ?_
  refine X_get (pc := 2) (a := w0) (ci := 1) (j := 9) (.int (I w0 9)) hw0 (by decide) k_386 rfl dX1_advanceShown_2 ?_
  refine X_bipush (pc := 5) (6 : Int32) dX1_advanceShown_5 (by decide) ?_
  by_cases c1 : (6 : Int32) ≤ (I w0 9)
  · replace hf := (if_pos c1).symm.trans hf
    refine X_icmp_ge_t (pc := 7) 19 dX1_advanceShown_7 (by decide) c1 ?_
    refine X_iconst (pc := 19) (0 : Int32) dX1_advanceShown_19 (by decide) ?_
    exact X_lvs [0] rfl (x_Ca_advanceShown_L20 hT hw0 hw0 hw0 hf)
  · replace hf := (if_neg c1).symm.trans hf
    refine X_icmp_ge_f (pc := 7) 19 dX1_advanceShown_7 (by decide) c1 ?_
    refine X_aload_n (pc := 10) (i := 0) 0 dX1_advanceShown_10 rfl rfl ?_
    refine X_get (pc := 11) (a := w0) (ci := 1) (j := 9) (.int (I w0 9)) hw0 (by decide) k_386 rfl dX1_advanceShown_11 ?_
    refine X_iconst (pc := 14) (1 : Int32) dX1_advanceShown_14 (by decide) ?_
    refine X_iadd (pc := 15) dX1_advanceShown_15 ?_
    refine X_goto (pc := 16) 20 dX1_advanceShown_16 (by decide) ?_
    exact X_lvs [0] rfl (x_Ca_advanceShown_L20 hT hw0 hw0 hw0 hf)
theorem u_Ca_advanceShown {S : List xSh} {w0 : Nat} (hw0 : S[w0]? = some (.inl 1)) {I : Nat → Nat → Int32} {L : Nat → Nat → Int64} {q : ((Nat → Nat → Int32) × (Nat → Nat → Int64))} (hf : f_Ca_advanceShown w0 I L = some q) : FR S [] [] I q.1 L q.2 := by
  replace hf := (f_Ca_advanceShown.eq_1 _ _ _).symm.trans hf
  by_cases c1 : (6 : Int32) ≤ (I w0 9)
  · replace hf := (if_pos c1).symm.trans hf
    exact FR.tr FR.rf (u_Ca_advanceShown_L20 hw0 hw0 hw0 hf) (by decide) (by decide)
  · replace hf := (if_neg c1).symm.trans hf
    exact FR.tr FR.rf (u_Ca_advanceShown_L20 hw0 hw0 hw0 hf) (by decide) (by decide)
theorem dX1_advance_0 : decode cX1_advance 0 = .ok (.aload_n 0, 1) := by decide +kernel
theorem dX1_advance_1 : decode cX1_advance 1 = .ok (.invokevirtual 59, 3) := by decide +kernel
theorem dX1_advance_4 : decode cX1_advance 4 = .ok (.aload_n 0, 1) := by decide +kernel
theorem dX1_advance_5 : decode cX1_advance 5 = .ok (.invokevirtual 62, 3) := by decide +kernel
theorem dX1_advance_8 : decode cX1_advance 8 = .ok (.aload_n 0, 1) := by decide +kernel
theorem dX1_advance_9 : decode cX1_advance 9 = .ok (.getfield 32, 3) := by decide +kernel
theorem dX1_advance_12 : decode cX1_advance 12 = .ok (.aload_n 0, 1) := by decide +kernel
theorem dX1_advance_13 : decode cX1_advance 13 = .ok (.getfield 47, 3) := by decide +kernel
theorem dX1_advance_16 : decode cX1_advance 16 = .ok (.if_icmp .ne 14, 3) := by decide +kernel
theorem dX1_advance_19 : decode cX1_advance 19 = .ok (.aload_n 0, 1) := by decide +kernel
theorem dX1_advance_20 : decode cX1_advance 20 = .ok (.getfield 35, 3) := by decide +kernel
theorem dX1_advance_23 : decode cX1_advance 23 = .ok (.aload_n 0, 1) := by decide +kernel
theorem dX1_advance_24 : decode cX1_advance 24 = .ok (.getfield 50, 3) := by decide +kernel
theorem dX1_advance_27 : decode cX1_advance 27 = .ok (.if_icmp .eq 13, 3) := by decide +kernel
theorem dX1_advance_30 : decode cX1_advance 30 = .ok (.aload_n 0, 1) := by decide +kernel
theorem dX1_advance_31 : decode cX1_advance 31 = .ok (.dup, 1) := by decide +kernel
theorem dX1_advance_32 : decode cX1_advance 32 = .ok (.getfield 56, 3) := by decide +kernel
theorem dX1_advance_35 : decode cX1_advance 35 = .ok (.iconst 1, 1) := by decide +kernel
theorem dX1_advance_36 : decode cX1_advance 36 = .ok (.iadd, 1) := by decide +kernel
theorem dX1_advance_37 : decode cX1_advance 37 = .ok (.putfield 56, 3) := by decide +kernel
theorem dX1_advance_40 : decode cX1_advance 40 = .ok (.return_, 1) := by decide +kernel
def f_Ca_advance (w0 : Nat) (I : Nat → Nat → Int32) (L : Nat → Nat → Int64) : Option ((Nat → Nat → Int32) × (Nat → Nat → Int64)) := ((f_Ca_advanceTrue w0 I L).bind fun q1 => ((f_Ca_advanceShown w0 q1.1 q1.2).bind fun q3 => (if (q3.1 w0 6) = (q3.1 w0 10) then (if (q3.1 w0 7) = (q3.1 w0 11) then (some (q3.1, q3.2)) else (bnd ((q3.1 w0 13) + (1 : Int32)) fun x7 => (some ((uI q3.1 w0 13 x7), q3.2)))) else (bnd ((q3.1 w0 13) + (1 : Int32)) fun x8 => (some ((uI q3.1 w0 13 x8), q3.2))))))
set_option maxRecDepth 100000 in
set_option maxHeartbeats 4000000 in
theorem c_Ca_advance {G : xG} {S : List xSh} {Rf : Nat → Nat → Option Nat} (hT : xTH S Rf) {w0 : Nat} (hw0 : S[w0]? = some (.inl 1)) {I : Nat → Nat → Int32} {L : Nat → Nat → Int64} {q : ((Nat → Nat → Int32) × (Nat → Nat → Int64))} (hf : f_Ca_advance w0 I L = some q) : CT G 3 m_Ca_advance [.ref (xP G w0)] (S, I, L, Rf) (none, (S, q.1, q.2, Rf)) := by
  refine CT.of (by decide +kernel) (Nat.le_of_ble_eq_true rfl) ?_
  show X G 3 m_Ca_advance 0 [(0, .ref (xP G w0))] [] (S, I, L, Rf) (none, (S, q.1, q.2, Rf))
  replace hf := (f_Ca_advance.eq_1 _ _ _).symm.trans hf
  refine X_aload_n (pc := 0) (i := 0) 0 dX1_advance_0 rfl rfl ?_
  obtain ⟨q1, c2, hf⟩ := bd_some hf
  refine X_invV_v (pc := 1) (c_Ca_advanceTrue hT hw0 c2) ok_Ca_advanceTrue (ci := 1) hw0 k_798 k_800 k_15 nd_1 (by decide) rfl (Nat.le_of_ble_eq_true rfl) dX1_advance_1 ?_
  refine X_aload_n (pc := 4) (i := 0) 0 dX1_advance_4 rfl rfl ?_
  obtain ⟨q3, c4, hf⟩ := bd_some hf
  refine X_invV_v (pc := 5) (c_Ca_advanceShown hT hw0 c4) ok_Ca_advanceShown (ci := 1) hw0 k_808 k_810 k_16 nd_1 (by decide) rfl (Nat.le_of_ble_eq_true rfl) dX1_advance_5 ?_
  refine X_aload_n (pc := 8) (i := 0) 0 dX1_advance_8 rfl rfl ?_
  refine X_get (pc := 9) (a := w0) (ci := 1) (j := 6) (.int (q3.1 w0 6)) hw0 (by decide) k_383 rfl dX1_advance_9 ?_
  refine X_aload_n (pc := 12) (i := 0) 0 dX1_advance_12 rfl rfl ?_
  refine X_get (pc := 13) (a := w0) (ci := 1) (j := 10) (.int (q3.1 w0 10)) hw0 (by decide) k_387 rfl dX1_advance_13 ?_
  by_cases c5 : (q3.1 w0 6) = (q3.1 w0 10)
  · replace hf := (if_pos c5).symm.trans hf
    refine X_icmp_ne_f (pc := 16) 30 dX1_advance_16 (by decide) c5 ?_
    refine X_aload_n (pc := 19) (i := 0) 0 dX1_advance_19 rfl rfl ?_
    refine X_get (pc := 20) (a := w0) (ci := 1) (j := 7) (.int (q3.1 w0 7)) hw0 (by decide) k_384 rfl dX1_advance_20 ?_
    refine X_aload_n (pc := 23) (i := 0) 0 dX1_advance_23 rfl rfl ?_
    refine X_get (pc := 24) (a := w0) (ci := 1) (j := 11) (.int (q3.1 w0 11)) hw0 (by decide) k_388 rfl dX1_advance_24 ?_
    by_cases c6 : (q3.1 w0 7) = (q3.1 w0 11)
    · replace hf := (if_pos c6).symm.trans hf
      refine X_icmp_eq_t (pc := 27) 40 dX1_advance_27 (by decide) c6 ?_
      cases hf
      exact X_return (pc := 40) rfl dX1_advance_40
    · replace hf := (if_neg c6).symm.trans hf
      refine X_icmp_eq_f (pc := 27) 40 dX1_advance_27 (by decide) c6 ?_
      refine X_aload_n (pc := 30) (i := 0) 0 dX1_advance_30 rfl rfl ?_
      refine X_dup (pc := 31) dX1_advance_31 rfl ?_
      refine X_get (pc := 32) (a := w0) (ci := 1) (j := 13) (.int (q3.1 w0 13)) hw0 (by decide) k_390 rfl dX1_advance_32 ?_
      refine X_iconst (pc := 35) (1 : Int32) dX1_advance_35 (by decide) ?_
      refine X_iadd (pc := 36) dX1_advance_36 ?_
      obtain ⟨x7, ex7, hf⟩ := bnd_e hf
      refine X_tope ex7 ?_
      refine X_puti (pc := 37) (a := w0) (ci := 1) (j := 13) 13 rfl false hw0 (by decide) k_390 rfl (fun h => by cases h) rfl dX1_advance_37 ?_
      cases hf
      exact X_return (pc := 40) rfl dX1_advance_40
  · replace hf := (if_neg c5).symm.trans hf
    refine X_icmp_ne_t (pc := 16) 30 dX1_advance_16 (by decide) c5 ?_
    refine X_aload_n (pc := 30) (i := 0) 0 dX1_advance_30 rfl rfl ?_
    refine X_dup (pc := 31) dX1_advance_31 rfl ?_
    refine X_get (pc := 32) (a := w0) (ci := 1) (j := 13) (.int (q3.1 w0 13)) hw0 (by decide) k_390 rfl dX1_advance_32 ?_
    refine X_iconst (pc := 35) (1 : Int32) dX1_advance_35 (by decide) ?_
    refine X_iadd (pc := 36) dX1_advance_36 ?_
    obtain ⟨x8, ex8, hf⟩ := bnd_e hf
    refine X_tope ex8 ?_
    refine X_puti (pc := 37) (a := w0) (ci := 1) (j := 13) 13 rfl false hw0 (by decide) k_390 rfl (fun h => by cases h) rfl dX1_advance_37 ?_
    cases hf
    exact X_return (pc := 40) rfl dX1_advance_40
theorem u_Ca_advance {S : List xSh} {w0 : Nat} (hw0 : S[w0]? = some (.inl 1)) {I : Nat → Nat → Int32} {L : Nat → Nat → Int64} {q : ((Nat → Nat → Int32) × (Nat → Nat → Int64))} (hf : f_Ca_advance w0 I L = some q) : FR S [] [] I q.1 L q.2 := by
  replace hf := (f_Ca_advance.eq_1 _ _ _).symm.trans hf
  obtain ⟨q1, c2, hf⟩ := bd_some hf
  obtain ⟨q3, c4, hf⟩ := bd_some hf
  by_cases c5 : (q3.1 w0 6) = (q3.1 w0 10)
  · replace hf := (if_pos c5).symm.trans hf
    by_cases c6 : (q3.1 w0 7) = (q3.1 w0 11)
    · replace hf := (if_pos c6).symm.trans hf
      cases hf
      exact (FR.tr (FR.tr FR.rf (u_Ca_advanceTrue hw0 (q := q1) c2) (by decide) (by decide)) (u_Ca_advanceShown hw0 (q := q3) c4) (by decide) (by decide))
    · replace hf := (if_neg c6).symm.trans hf
      obtain ⟨x7, ex7, hf⟩ := bnd_e hf
      cases hf
      exact (FR.dy (FR.tr (FR.tr FR.rf (u_Ca_advanceTrue hw0 (q := q1) c2) (by decide) (by decide)) (u_Ca_advanceShown hw0 (q := q3) c4) (by decide) (by decide)) hw0 (by decide))
  · replace hf := (if_neg c5).symm.trans hf
    obtain ⟨x8, ex8, hf⟩ := bnd_e hf
    cases hf
    exact (FR.dy (FR.tr (FR.tr FR.rf (u_Ca_advanceTrue hw0 (q := q1) c2) (by decide) (by decide)) (u_Ca_advanceShown hw0 (q := q3) c4) (by decide) (by decide)) hw0 (by decide))
theorem dX8_nextOfTwelve_0 : decode cX8_nextOfTwelve 0 = .ok (.iload_n 0, 1) := by decide +kernel
theorem dX8_nextOfTwelve_1 : decode cX8_nextOfTwelve 1 = .ok (.bipush 12, 2) := by decide +kernel
theorem dX8_nextOfTwelve_3 : decode cX8_nextOfTwelve 3 = .ok (.if_icmp .ge 9, 3) := by decide +kernel
theorem dX8_nextOfTwelve_6 : decode cX8_nextOfTwelve 6 = .ok (.iload_n 0, 1) := by decide +kernel
theorem dX8_nextOfTwelve_7 : decode cX8_nextOfTwelve 7 = .ok (.iconst 1, 1) := by decide +kernel
theorem dX8_nextOfTwelve_8 : decode cX8_nextOfTwelve 8 = .ok (.iadd, 1) := by decide +kernel
theorem dX8_nextOfTwelve_9 : decode cX8_nextOfTwelve 9 = .ok (.goto 4, 3) := by decide +kernel
theorem dX8_nextOfTwelve_12 : decode cX8_nextOfTwelve 12 = .ok (.iconst 1, 1) := by decide +kernel
theorem dX8_nextOfTwelve_13 : decode cX8_nextOfTwelve 13 = .ok (.ireturn, 1) := by decide +kernel
def f_St_nextOfTwelve (a0 : Int32) : Int32 := (if (12 : Int32) ≤ a0 then (1 : Int32) else (a0 + (1 : Int32)))
set_option maxRecDepth 100000 in
set_option maxHeartbeats 4000000 in
theorem c_St_nextOfTwelve {G : xG} {S : List xSh} {Rf : Nat → Nat → Option Nat} (hT : xTH S Rf) {a0 : Int32} {I : Nat → Nat → Int32} {L : Nat → Nat → Int64} {q : Int32} (hf : f_St_nextOfTwelve a0 = q) : CT G 1 m_St_nextOfTwelve [.int a0] (S, I, L, Rf) (some (.int q), (S, I, L, Rf)) := by
  refine CT.of (by decide +kernel) (Nat.le_of_ble_eq_true rfl) ?_
  show X G 1 m_St_nextOfTwelve 0 [(0, .int a0)] [] (S, I, L, Rf) (some (.int q), (S, I, L, Rf))
  replace hf := (f_St_nextOfTwelve.eq_1 _).symm.trans hf
  refine X_iload_n (pc := 0) (i := 0) 0 dX8_nextOfTwelve_0 rfl rfl ?_
  refine X_bipush (pc := 1) (12 : Int32) dX8_nextOfTwelve_1 (by decide) ?_
  by_cases c1 : (12 : Int32) ≤ a0
  · replace hf := (if_pos c1).symm.trans hf
    refine X_icmp_ge_t (pc := 3) 12 dX8_nextOfTwelve_3 (by decide) c1 ?_
    refine X_iconst (pc := 12) (1 : Int32) dX8_nextOfTwelve_12 (by decide) ?_
    subst hf
    exact X_ireturn (pc := 13) rfl dX8_nextOfTwelve_13
  · replace hf := (if_neg c1).symm.trans hf
    refine X_icmp_ge_f (pc := 3) 12 dX8_nextOfTwelve_3 (by decide) c1 ?_
    refine X_iload_n (pc := 6) (i := 0) 0 dX8_nextOfTwelve_6 rfl rfl ?_
    refine X_iconst (pc := 7) (1 : Int32) dX8_nextOfTwelve_7 (by decide) ?_
    refine X_iadd (pc := 8) dX8_nextOfTwelve_8 ?_
    refine X_goto (pc := 9) 13 dX8_nextOfTwelve_9 (by decide) ?_
    subst hf
    exact X_ireturn (pc := 13) rfl dX8_nextOfTwelve_13
theorem dX8_advance_0 : decode cX8_advance 0 = .ok (.aload_n 0, 1) := by decide +kernel
theorem dX8_advance_1 : decode cX8_advance 1 = .ok (.aload_n 0, 1) := by decide +kernel
theorem dX8_advance_2 : decode cX8_advance 2 = .ok (.getfield 18, 3) := by decide +kernel
theorem dX8_advance_5 : decode cX8_advance 5 = .ok (.invokestatic 24, 3) := by decide +kernel
theorem dX8_advance_8 : decode cX8_advance 8 = .ok (.putfield 18, 3) := by decide +kernel
theorem dX8_advance_11 : decode cX8_advance 11 = .ok (.return_, 1) := by decide +kernel
def f_St_advance (w0 : Nat) (I : Nat → Nat → Int32) (L : Nat → Nat → Int64) : Option ((Nat → Nat → Int32) × (Nat → Nat → Int64)) := (bnd (f_St_nextOfTwelve (I w0 5)) fun x1 => (some ((uI I w0 5 x1), L)))
set_option maxRecDepth 100000 in
set_option maxHeartbeats 4000000 in
theorem c_St_advance {G : xG} {S : List xSh} {Rf : Nat → Nat → Option Nat} (hT : xTH S Rf) {w0 : Nat} (hw0 : S[w0]? = some (.inl 8)) {I : Nat → Nat → Int32} {L : Nat → Nat → Int64} {q : ((Nat → Nat → Int32) × (Nat → Nat → Int64))} (hf : f_St_advance w0 I L = some q) : CT G 2 m_St_advance [.ref (xP G w0)] (S, I, L, Rf) (none, (S, q.1, q.2, Rf)) := by
  refine CT.of (by decide +kernel) (Nat.le_of_ble_eq_true rfl) ?_
  show X G 2 m_St_advance 0 [(0, .ref (xP G w0))] [] (S, I, L, Rf) (none, (S, q.1, q.2, Rf))
  replace hf := (f_St_advance.eq_1 _ _ _).symm.trans hf
  refine X_aload_n (pc := 0) (i := 0) 0 dX8_advance_0 rfl rfl ?_
  refine X_aload_n (pc := 1) (i := 0) 0 dX8_advance_1 rfl rfl ?_
  refine X_get (pc := 2) (a := w0) (ci := 8) (j := 3) (.int (I w0 5)) hw0 (by decide) k_424 rfl dX8_advance_2 ?_
  refine X_invS_i (pc := 5) (c_St_nextOfTwelve hT rfl) ok_St_nextOfTwelve k_818 k_819 nd_8 (by decide) rfl (Nat.le_of_ble_eq_true rfl) dX8_advance_5 ?_
  obtain ⟨x1, ex1, hf⟩ := bnd_e hf
  refine X_tope ex1 ?_
  refine X_puti (pc := 8) (a := w0) (ci := 8) (j := 3) 5 rfl false hw0 (by decide) k_424 rfl (fun h => by cases h) rfl dX8_advance_8 ?_
  cases hf
  exact X_return (pc := 11) rfl dX8_advance_11
theorem u_St_advance {S : List xSh} {w0 : Nat} (hw0 : S[w0]? = some (.inl 8)) {I : Nat → Nat → Int32} {L : Nat → Nat → Int64} {q : ((Nat → Nat → Int32) × (Nat → Nat → Int64))} (hf : f_St_advance w0 I L = some q) : FR S [] [] I q.1 L q.2 := by
  replace hf := (f_St_advance.eq_1 _ _ _).symm.trans hf
  obtain ⟨x1, ex1, hf⟩ := bnd_e hf
  cases hf
  exact (FR.dy FR.rf hw0 (by decide))
theorem dX8_isSilent_0 : decode cX8_isSilent 0 = .ok (.aload_n 0, 1) := by decide +kernel
theorem dX8_isSilent_1 : decode cX8_isSilent 1 = .ok (.getfield 15, 3) := by decide +kernel
theorem dX8_isSilent_4 : decode cX8_isSilent 4 = .ok (.iconst 1, 1) := by decide +kernel
theorem dX8_isSilent_5 : decode cX8_isSilent 5 = .ok (.if_icmp .ne 7, 3) := by decide +kernel
theorem dX8_isSilent_8 : decode cX8_isSilent 8 = .ok (.iconst 1, 1) := by decide +kernel
theorem dX8_isSilent_9 : decode cX8_isSilent 9 = .ok (.goto 4, 3) := by decide +kernel
theorem dX8_isSilent_12 : decode cX8_isSilent 12 = .ok (.iconst 0, 1) := by decide +kernel
theorem dX8_isSilent_13 : decode cX8_isSilent 13 = .ok (.ireturn, 1) := by decide +kernel
def f_St_isSilent (w0 : Nat) (I : Nat → Nat → Int32) (L : Nat → Nat → Int64) : Int32 := (if (I w0 7) = (1 : Int32) then (1 : Int32) else (0 : Int32))
set_option maxRecDepth 100000 in
set_option maxHeartbeats 4000000 in
theorem c_St_isSilent {G : xG} {S : List xSh} {Rf : Nat → Nat → Option Nat} (hT : xTH S Rf) {w0 : Nat} (hw0 : S[w0]? = some (.inl 8)) {I : Nat → Nat → Int32} {L : Nat → Nat → Int64} {q : Int32} (hf : f_St_isSilent w0 I L = q) : CT G 1 m_St_isSilent [.ref (xP G w0)] (S, I, L, Rf) (some (.int q), (S, I, L, Rf)) := by
  refine CT.of (by decide +kernel) (Nat.le_of_ble_eq_true rfl) ?_
  show X G 1 m_St_isSilent 0 [(0, .ref (xP G w0))] [] (S, I, L, Rf) (some (.int q), (S, I, L, Rf))
  replace hf := (f_St_isSilent.eq_1 _ _ _).symm.trans hf
  refine X_aload_n (pc := 0) (i := 0) 0 dX8_isSilent_0 rfl rfl ?_
  refine X_get (pc := 1) (a := w0) (ci := 8) (j := 5) (.int (I w0 7)) hw0 (by decide) k_426 rfl dX8_isSilent_1 ?_
  refine X_iconst (pc := 4) (1 : Int32) dX8_isSilent_4 (by decide) ?_
  by_cases c1 : (I w0 7) = (1 : Int32)
  · replace hf := (if_pos c1).symm.trans hf
    refine X_icmp_ne_f (pc := 5) 12 dX8_isSilent_5 (by decide) c1 ?_
    refine X_iconst (pc := 8) (1 : Int32) dX8_isSilent_8 (by decide) ?_
    refine X_goto (pc := 9) 13 dX8_isSilent_9 (by decide) ?_
    subst hf
    exact X_zreturn (pc := 13) rfl (nar_b (by decide)) dX8_isSilent_13
  · replace hf := (if_neg c1).symm.trans hf
    refine X_icmp_ne_t (pc := 5) 12 dX8_isSilent_5 (by decide) c1 ?_
    refine X_iconst (pc := 12) (0 : Int32) dX8_isSilent_12 (by decide) ?_
    subst hf
    exact X_zreturn (pc := 13) rfl (nar_b (by decide)) dX8_isSilent_13
theorem dX8_sound_0 : decode cX8_sound 0 = .ok (.aload_n 0, 1) := by decide +kernel
theorem dX8_sound_1 : decode cX8_sound 1 = .ok (.getfield 9, 3) := by decide +kernel
theorem dX8_sound_4 : decode cX8_sound 4 = .ok (.ifCond .ne 8, 3) := by decide +kernel
theorem dX8_sound_7 : decode cX8_sound 7 = .ok (.aload_n 0, 1) := by decide +kernel
theorem dX8_sound_8 : decode cX8_sound 8 = .ok (.getfield 18, 3) := by decide +kernel
theorem dX8_sound_11 : decode cX8_sound 11 = .ok (.ireturn, 1) := by decide +kernel
theorem dX8_sound_12 : decode cX8_sound 12 = .ok (.aload_n 0, 1) := by decide +kernel
theorem dX8_sound_13 : decode cX8_sound 13 = .ok (.getfield 21, 3) := by decide +kernel
theorem dX8_sound_16 : decode cX8_sound 16 = .ok (.istore_n 1, 1) := by decide +kernel
theorem dX8_sound_17 : decode cX8_sound 17 = .ok (.aload_n 0, 1) := by decide +kernel
theorem dX8_sound_18 : decode cX8_sound 18 = .ok (.aload_n 0, 1) := by decide +kernel
theorem dX8_sound_19 : decode cX8_sound 19 = .ok (.getfield 21, 3) := by decide +kernel
theorem dX8_sound_22 : decode cX8_sound 22 = .ok (.invokestatic 24, 3) := by decide +kernel
theorem dX8_sound_25 : decode cX8_sound 25 = .ok (.putfield 21, 3) := by decide +kernel
theorem dX8_sound_28 : decode cX8_sound 28 = .ok (.iload_n 1, 1) := by decide +kernel
theorem dX8_sound_29 : decode cX8_sound 29 = .ok (.ireturn, 1) := by decide +kernel
def f_St_sound (w0 : Nat) (I : Nat → Nat → Int32) (L : Nat → Nat → Int64) : Option (Int32 × (Nat → Nat → Int32) × (Nat → Nat → Int64)) := (if (I w0 2) = (0 : Int32) then (some ((I w0 5), I, L)) else (bnd (I w0 6) fun x2 => (bnd (f_St_nextOfTwelve (I w0 6)) fun x3 => (some (x2, (uI I w0 6 x3), L)))))
set_option maxRecDepth 100000 in
set_option maxHeartbeats 4000000 in
theorem c_St_sound {G : xG} {S : List xSh} {Rf : Nat → Nat → Option Nat} (hT : xTH S Rf) {w0 : Nat} (hw0 : S[w0]? = some (.inl 8)) {I : Nat → Nat → Int32} {L : Nat → Nat → Int64} {q : (Int32 × (Nat → Nat → Int32) × (Nat → Nat → Int64))} (hf : f_St_sound w0 I L = some q) : CT G 2 m_St_sound [.ref (xP G w0)] (S, I, L, Rf) (some (.int q.1), (S, q.2.1, q.2.2, Rf)) := by
  refine CT.of (by decide +kernel) (Nat.le_of_ble_eq_true rfl) ?_
  show X G 2 m_St_sound 0 [(0, .ref (xP G w0))] [] (S, I, L, Rf) (some (.int q.1), (S, q.2.1, q.2.2, Rf))
  replace hf := (f_St_sound.eq_1 _ _ _).symm.trans hf
  refine X_aload_n (pc := 0) (i := 0) 0 dX8_sound_0 rfl rfl ?_
  refine X_get (pc := 1) (a := w0) (ci := 8) (j := 2) (.int (I w0 2)) hw0 (by decide) k_423 rfl dX8_sound_1 ?_
  by_cases c1 : (I w0 2) = (0 : Int32)
  · replace hf := (if_pos c1).symm.trans hf
    refine X_if_ne_f (pc := 4) 12 dX8_sound_4 (by decide) c1 ?_
    refine X_aload_n (pc := 7) (i := 0) 0 dX8_sound_7 rfl rfl ?_
    refine X_get (pc := 8) (a := w0) (ci := 8) (j := 3) (.int (I w0 5)) hw0 (by decide) k_424 rfl dX8_sound_8 ?_
    cases hf
    exact X_ireturn (pc := 11) rfl dX8_sound_11
  · replace hf := (if_neg c1).symm.trans hf
    refine X_if_ne_t (pc := 4) 12 dX8_sound_4 (by decide) c1 ?_
    refine X_aload_n (pc := 12) (i := 0) 0 dX8_sound_12 rfl rfl ?_
    refine X_get (pc := 13) (a := w0) (ci := 8) (j := 4) (.int (I w0 6)) hw0 (by decide) k_425 rfl dX8_sound_13 ?_
    obtain ⟨x2, ex2, hf⟩ := bnd_e hf
    refine X_tope ex2 ?_
    refine X_istore_n (pc := 16) (i := 1) [(1, .int x2), (0, .ref (xP G w0))] dX8_sound_16 rfl (by decide) rfl ?_
    refine X_aload_n (pc := 17) (i := 0) 1 dX8_sound_17 rfl rfl ?_
    refine X_aload_n (pc := 18) (i := 0) 1 dX8_sound_18 rfl rfl ?_
    refine X_get (pc := 19) (a := w0) (ci := 8) (j := 4) (.int (I w0 6)) hw0 (by decide) k_425 rfl dX8_sound_19 ?_
    refine X_invS_i (pc := 22) (c_St_nextOfTwelve hT rfl) ok_St_nextOfTwelve k_818 k_819 nd_8 (by decide) rfl (Nat.le_of_ble_eq_true rfl) dX8_sound_22 ?_
    obtain ⟨x3, ex3, hf⟩ := bnd_e hf
    refine X_tope ex3 ?_
    refine X_puti (pc := 25) (a := w0) (ci := 8) (j := 4) 6 rfl false hw0 (by decide) k_425 rfl (fun h => by cases h) rfl dX8_sound_25 ?_
    refine X_iload_n (pc := 28) (i := 1) 0 dX8_sound_28 rfl rfl ?_
    cases hf
    exact X_ireturn (pc := 29) rfl dX8_sound_29
theorem u_St_sound {S : List xSh} {w0 : Nat} (hw0 : S[w0]? = some (.inl 8)) {I : Nat → Nat → Int32} {L : Nat → Nat → Int64} {q : (Int32 × (Nat → Nat → Int32) × (Nat → Nat → Int64))} (hf : f_St_sound w0 I L = some q) : FR S [] [] I q.2.1 L q.2.2 := by
  replace hf := (f_St_sound.eq_1 _ _ _).symm.trans hf
  by_cases c1 : (I w0 2) = (0 : Int32)
  · replace hf := (if_pos c1).symm.trans hf
    cases hf
    exact FR.rf
  · replace hf := (if_neg c1).symm.trans hf
    obtain ⟨x2, ex2, hf⟩ := bnd_e hf
    obtain ⟨x3, ex3, hf⟩ := bnd_e hf
    cases hf
    exact (FR.dy FR.rf hw0 (by decide))
def f_Ro_open_13 (I : Nat → Nat → Int32) (L : Nat → Nat → Int64) : Option (Int32 × (Nat → Nat → Int32) × (Nat → Nat → Int64)) := (bnd ((I 13 3) + (1 : Int32)) fun x1 => (if (I 13 1) < x1 then (some ((-1 : Int32), (uI I 13 3 x1), L)) else (some ((x1 - (1 : Int32)), (uI I 13 3 x1), L))))
set_option maxRecDepth 100000 in
set_option maxHeartbeats 4000000 in
theorem c_Ro_open_13 {G : xG} {S : List xSh} {Rf : Nat → Nat → Option Nat} (hT : xTH S Rf) {I : Nat → Nat → Int32} {L : Nat → Nat → Int64} {q : (Int32 × (Nat → Nat → Int32) × (Nat → Nat → Int64))} (hf : f_Ro_open_13 I L = some q) : CT G 1 m_Ro_open [.ref (xP G 13)] (S, I, L, Rf) (some (.int q.1), (S, q.2.1, q.2.2, Rf)) := by
  refine CT.of (by decide +kernel) (Nat.le_of_ble_eq_true rfl) ?_
  show X G 1 m_Ro_open 0 [(0, .ref (xP G 13))] [] (S, I, L, Rf) (some (.int q.1), (S, q.2.1, q.2.2, Rf))
  replace hf := (f_Ro_open_13.eq_1 _ _).symm.trans hf
  refine X_aload_n (pc := 0) (i := 0) 0 dX7_open_0 rfl rfl ?_
  refine X_dup (pc := 1) dX7_open_1 rfl ?_
  refine X_get (pc := 2) (a := 13) (ci := 7) (j := 3) (.int (I 13 3)) (sh_13 hT) (by decide) k_161 rfl dX7_open_2 ?_
  refine X_iconst (pc := 5) (1 : Int32) dX7_open_5 (by decide) ?_
  refine X_iadd (pc := 6) dX7_open_6 ?_
  obtain ⟨x1, ex1, hf⟩ := bnd_e hf
  refine X_tope ex1 ?_
  refine X_puti (pc := 7) (a := 13) (ci := 7) (j := 3) 3 rfl false (sh_13 hT) (by decide) k_161 rfl (fun h => by cases h) rfl dX7_open_7 ?_
  refine X_aload_n (pc := 10) (i := 0) 0 dX7_open_10 rfl rfl ?_
  refine X_get (pc := 11) (a := 13) (ci := 7) (j := 3) (.int x1) (sh_13 hT) (by decide) k_161 rfl dX7_open_11 ?_
  refine X_aload_n (pc := 14) (i := 0) 0 dX7_open_14 rfl rfl ?_
  refine X_get (pc := 15) (a := 13) (ci := 7) (j := 1) (.int (I 13 1)) (sh_13 hT) (by decide) k_159 rfl dX7_open_15 ?_
  by_cases c2 : (I 13 1) < x1
  · replace hf := (if_pos c2).symm.trans hf
    refine X_icmp_gt_t (pc := 18) 30 dX7_open_18 (by decide) c2 ?_
    refine X_iconst (pc := 30) (-1 : Int32) dX7_open_30 (by decide) ?_
    cases hf
    exact X_ireturn (pc := 31) rfl dX7_open_31
  · replace hf := (if_neg c2).symm.trans hf
    refine X_icmp_gt_f (pc := 18) 30 dX7_open_18 (by decide) c2 ?_
    refine X_aload_n (pc := 21) (i := 0) 0 dX7_open_21 rfl rfl ?_
    refine X_get (pc := 22) (a := 13) (ci := 7) (j := 3) (.int x1) (sh_13 hT) (by decide) k_161 rfl dX7_open_22 ?_
    refine X_iconst (pc := 25) (1 : Int32) dX7_open_25 (by decide) ?_
    refine X_isub (pc := 26) dX7_open_26 ?_
    refine X_goto (pc := 27) 31 dX7_open_27 (by decide) ?_
    cases hf
    exact X_ireturn (pc := 31) rfl dX7_open_31
theorem u_Ro_open_13 {S : List xSh} {I : Nat → Nat → Int32} {L : Nat → Nat → Int64} {q : (Int32 × (Nat → Nat → Int32) × (Nat → Nat → Int64))} (hf : f_Ro_open_13 I L = some q) : FR S [2303] [] I q.2.1 L q.2.2 := by
  replace hf := (f_Ro_open_13.eq_1 _ _).symm.trans hf
  obtain ⟨x1, ex1, hf⟩ := bnd_e hf
  by_cases c2 : (I 13 1) < x1
  · replace hf := (if_pos c2).symm.trans hf
    cases hf
    exact (FR.fi FR.rf (by decide))
  · replace hf := (if_neg c2).symm.trans hf
    cases hf
    exact (FR.fi FR.rf (by decide))
def f_Ro_write_13 (a0 : Int32) (a1 : Int32) (a2 : Int32) (I : Nat → Nat → Int32) (L : Nat → Nat → Int64) : Option ((Nat → Nat → Int32) × (Nat → Nat → Int64)) := (bnd ((a0 * (I 13 0)) + a1) fun x1 => (if a0 < (0 : Int32) then (some (I, L)) else (if a1 < (0 : Int32) then (some (I, L)) else (if (I 13 0) ≤ a1 then (some (I, L)) else (if (3000 : Int32) ≤ x1 then (some (I, L)) else (if (0 ≤ x1 ∧ x1 < (3000 : Int32)) then (some ((uI I 14 (x1.toNatClampNeg) a2), L)) else none))))))
set_option maxRecDepth 100000 in
set_option maxHeartbeats 4000000 in
theorem c_Ro_write_13 {G : xG} {S : List xSh} {Rf : Nat → Nat → Option Nat} (hT : xTH S Rf) {a0 : Int32} {a1 : Int32} {a2 : Int32} {I : Nat → Nat → Int32} {L : Nat → Nat → Int64} {q : ((Nat → Nat → Int32) × (Nat → Nat → Int64))} (hf : f_Ro_write_13 a0 a1 a2 I L = some q) : CT G 1 m_Ro_write [.ref (xP G 13), .int a0, .int a1, .int a2] (S, I, L, Rf) (none, (S, q.1, q.2, Rf)) := by
  refine CT.of (by decide +kernel) (Nat.le_of_ble_eq_true rfl) ?_
  show X G 1 m_Ro_write 0 [(0, .ref (xP G 13)), (1, .int a0), (2, .int a1), (3, .int a2)] [] (S, I, L, Rf) (none, (S, q.1, q.2, Rf))
  replace hf := (f_Ro_write_13.eq_1 _ _ _ _ _).symm.trans hf
  refine X_iload_n (pc := 0) (i := 1) 1 dX7_write_0 rfl rfl ?_
  refine X_aload_n (pc := 1) (i := 0) 0 dX7_write_1 rfl rfl ?_
  refine X_get (pc := 2) (a := 13) (ci := 7) (j := 0) (.int (I 13 0)) (sh_13 hT) (by decide) k_158 rfl dX7_write_2 ?_
  refine X_imul (pc := 5) dX7_write_5 ?_
  refine X_iload_n (pc := 6) (i := 2) 2 dX7_write_6 rfl rfl ?_
  refine X_iadd (pc := 7) dX7_write_7 ?_
  obtain ⟨x1, ex1, hf⟩ := bnd_e hf
  refine X_tope ex1 ?_
  refine X_istore (pc := 8) [(4, .int x1), (0, .ref (xP G 13)), (1, .int a0), (2, .int a1), (3, .int a2)] dX7_write_8 (by decide) rfl ?_
  refine X_iload_n (pc := 10) (i := 1) 2 dX7_write_10 rfl rfl ?_
  by_cases c2 : a0 < (0 : Int32)
  · replace hf := (if_pos c2).symm.trans hf
    refine X_if_lt_t (pc := 11) 44 dX7_write_11 (by decide) c2 ?_
    cases hf
    exact X_return (pc := 44) rfl dX7_write_44
  · replace hf := (if_neg c2).symm.trans hf
    refine X_if_lt_f (pc := 11) 44 dX7_write_11 (by decide) c2 ?_
    refine X_iload_n (pc := 14) (i := 2) 3 dX7_write_14 rfl rfl ?_
    by_cases c3 : a1 < (0 : Int32)
    · replace hf := (if_pos c3).symm.trans hf
      refine X_if_lt_t (pc := 15) 44 dX7_write_15 (by decide) c3 ?_
      cases hf
      exact X_return (pc := 44) rfl dX7_write_44
    · replace hf := (if_neg c3).symm.trans hf
      refine X_if_lt_f (pc := 15) 44 dX7_write_15 (by decide) c3 ?_
      refine X_iload_n (pc := 18) (i := 2) 3 dX7_write_18 rfl rfl ?_
      refine X_aload_n (pc := 19) (i := 0) 1 dX7_write_19 rfl rfl ?_
      refine X_get (pc := 20) (a := 13) (ci := 7) (j := 0) (.int (I 13 0)) (sh_13 hT) (by decide) k_158 rfl dX7_write_20 ?_
      by_cases c4 : (I 13 0) ≤ a1
      · replace hf := (if_pos c4).symm.trans hf
        refine X_icmp_ge_t (pc := 23) 44 dX7_write_23 (by decide) c4 ?_
        cases hf
        exact X_return (pc := 44) rfl dX7_write_44
      · replace hf := (if_neg c4).symm.trans hf
        refine X_icmp_ge_f (pc := 23) 44 dX7_write_23 (by decide) c4 ?_
        refine X_iload (pc := 26) 0 dX7_write_26 rfl ?_
        refine X_aload_n (pc := 28) (i := 0) 1 dX7_write_28 rfl rfl ?_
        refine X_getr (pc := 29) (a := 13) (ci := 7) (j := 2) (c := 14) (sh_13 hT) (by decide) k_160 (rf_13_2 hT) (fun _ h => h) dX7_write_29 ?_
        refine X_alen (pc := 32) (3000 : Int32) (by decide) (sh_14 hT) (by decide) dX7_write_32 ?_
        by_cases c5 : (3000 : Int32) ≤ x1
        · replace hf := (if_pos c5).symm.trans hf
          refine X_icmp_ge_t (pc := 33) 44 dX7_write_33 (by decide) c5 ?_
          cases hf
          exact X_return (pc := 44) rfl dX7_write_44
        · replace hf := (if_neg c5).symm.trans hf
          refine X_icmp_ge_f (pc := 33) 44 dX7_write_33 (by decide) c5 ?_
          refine X_aload_n (pc := 36) (i := 0) 1 dX7_write_36 rfl rfl ?_
          refine X_getr (pc := 37) (a := 13) (ci := 7) (j := 2) (c := 14) (sh_13 hT) (by decide) k_160 (rf_13_2 hT) (fun _ h => h) dX7_write_37 ?_
          refine X_iload (pc := 40) 0 dX7_write_40 rfl ?_
          refine X_iload_n (pc := 42) (i := 3) 4 dX7_write_42 rfl rfl ?_
          obtain ⟨c6, hf⟩ := gd_some hf
          refine X_iastj (pc := 43) (j := (x1.toNatClampNeg)) (sh_14 hT) (vp_in_lit (N := 3000) c6 (by decide)) rfl dX7_write_43 ?_
          cases hf
          exact X_return (pc := 44) rfl dX7_write_44
theorem u_Ro_write_13 {S : List xSh} {a0 : Int32} {a1 : Int32} {a2 : Int32} {I : Nat → Nat → Int32} {L : Nat → Nat → Int64} {q : ((Nat → Nat → Int32) × (Nat → Nat → Int64))} (hf : f_Ro_write_13 a0 a1 a2 I L = some q) : FR S [14] [] I q.1 L q.2 := by
  replace hf := (f_Ro_write_13.eq_1 _ _ _ _ _).symm.trans hf
  obtain ⟨x1, ex1, hf⟩ := bnd_e hf
  by_cases c2 : a0 < (0 : Int32)
  · replace hf := (if_pos c2).symm.trans hf
    cases hf
    exact FR.rf
  · replace hf := (if_neg c2).symm.trans hf
    by_cases c3 : a1 < (0 : Int32)
    · replace hf := (if_pos c3).symm.trans hf
      cases hf
      exact FR.rf
    · replace hf := (if_neg c3).symm.trans hf
      by_cases c4 : (I 13 0) ≤ a1
      · replace hf := (if_pos c4).symm.trans hf
        cases hf
        exact FR.rf
      · replace hf := (if_neg c4).symm.trans hf
        by_cases c5 : (3000 : Int32) ≤ x1
        · replace hf := (if_pos c5).symm.trans hf
          cases hf
          exact FR.rf
        · replace hf := (if_neg c5).symm.trans hf
          obtain ⟨c6, hf⟩ := gd_some hf
          cases hf
          exact (FR.ai FR.rf (by decide))
theorem dX11_tellStrike_0 : decode cX11_tellStrike 0 = .ok (.aload_n 2, 1) := by decide +kernel
theorem dX11_tellStrike_1 : decode cX11_tellStrike 1 = .ok (.invokevirtual 423, 3) := by decide +kernel
theorem dX11_tellStrike_4 : decode cX11_tellStrike 4 = .ok (.istore_n 3, 1) := by decide +kernel
theorem dX11_tellStrike_5 : decode cX11_tellStrike 5 = .ok (.aload_n 0, 1) := by decide +kernel
theorem dX11_tellStrike_6 : decode cX11_tellStrike 6 = .ok (.getfield 56, 3) := by decide +kernel
theorem dX11_tellStrike_9 : decode cX11_tellStrike 9 = .ok (.invokevirtual 392, 3) := by decide +kernel
theorem dX11_tellStrike_12 : decode cX11_tellStrike 12 = .ok (.istore 4, 2) := by decide +kernel
theorem dX11_tellStrike_14 : decode cX11_tellStrike 14 = .ok (.aload_n 0, 1) := by decide +kernel
theorem dX11_tellStrike_15 : decode cX11_tellStrike 15 = .ok (.getfield 56, 3) := by decide +kernel
theorem dX11_tellStrike_18 : decode cX11_tellStrike 18 = .ok (.iload 4, 2) := by decide +kernel
theorem dX11_tellStrike_20 : decode cX11_tellStrike 20 = .ok (.iconst 0, 1) := by decide +kernel
theorem dX11_tellStrike_21 : decode cX11_tellStrike 21 = .ok (.aload_n 0, 1) := by decide +kernel
theorem dX11_tellStrike_22 : decode cX11_tellStrike 22 = .ok (.getfield 10, 3) := by decide +kernel
theorem dX11_tellStrike_25 : decode cX11_tellStrike 25 = .ok (.getfield 232, 3) := by decide +kernel
theorem dX11_tellStrike_28 : decode cX11_tellStrike 28 = .ok (.invokevirtual 395, 3) := by decide +kernel
theorem dX11_tellStrike_31 : decode cX11_tellStrike 31 = .ok (.aload_n 0, 1) := by decide +kernel
theorem dX11_tellStrike_32 : decode cX11_tellStrike 32 = .ok (.getfield 56, 3) := by decide +kernel
theorem dX11_tellStrike_35 : decode cX11_tellStrike 35 = .ok (.iload 4, 2) := by decide +kernel
theorem dX11_tellStrike_37 : decode cX11_tellStrike 37 = .ok (.iconst 1, 1) := by decide +kernel
theorem dX11_tellStrike_38 : decode cX11_tellStrike 38 = .ok (.iload_n 1, 1) := by decide +kernel
theorem dX11_tellStrike_39 : decode cX11_tellStrike 39 = .ok (.invokevirtual 395, 3) := by decide +kernel
theorem dX11_tellStrike_42 : decode cX11_tellStrike 42 = .ok (.aload_n 0, 1) := by decide +kernel
theorem dX11_tellStrike_43 : decode cX11_tellStrike 43 = .ok (.getfield 56, 3) := by decide +kernel
theorem dX11_tellStrike_46 : decode cX11_tellStrike 46 = .ok (.iload 4, 2) := by decide +kernel
theorem dX11_tellStrike_48 : decode cX11_tellStrike 48 = .ok (.iconst 2, 1) := by decide +kernel
theorem dX11_tellStrike_49 : decode cX11_tellStrike 49 = .ok (.iload_n 3, 1) := by decide +kernel
theorem dX11_tellStrike_50 : decode cX11_tellStrike 50 = .ok (.invokevirtual 395, 3) := by decide +kernel
theorem dX11_tellStrike_53 : decode cX11_tellStrike 53 = .ok (.iload_n 3, 1) := by decide +kernel
theorem dX11_tellStrike_54 : decode cX11_tellStrike 54 = .ok (.ireturn, 1) := by decide +kernel
def f_H_tellStrike_S (a0 : Int32) (a1 : Nat) (I : Nat → Nat → Int32) (L : Nat → Nat → Int64) : Option (Int32 × (Nat → Nat → Int32) × (Nat → Nat → Int64)) := ((f_St_sound a1 I L).bind fun q1 => ((f_Ro_open_13 q1.2.1 q1.2.2).bind fun q3 => ((f_Ro_write_13 q3.1 (0 : Int32) (q3.2.1 1 12) q3.2.1 q3.2.2).bind fun q5 => ((f_Ro_write_13 q3.1 (1 : Int32) a0 q5.1 q5.2).bind fun q7 => ((f_Ro_write_13 q3.1 (2 : Int32) q1.1 q7.1 q7.2).bind fun q9 => (some (q1.1, q9.1, q9.2)))))))
set_option maxRecDepth 100000 in
set_option maxHeartbeats 4000000 in
theorem c_H_tellStrike_S {G : xG} {S : List xSh} {Rf : Nat → Nat → Option Nat} (hT : xTH S Rf) {a0 : Int32} {a1 : Nat} (ha1 : S[a1]? = some (.inl 8)) {I : Nat → Nat → Int32} {L : Nat → Nat → Int64} {q : (Int32 × (Nat → Nat → Int32) × (Nat → Nat → Int64))} (hf : f_H_tellStrike_S a0 a1 I L = some q) : CT G 3 m_H_tellStrike [.ref (xP G 0), .int a0, .ref (xP G a1)] (S, I, L, Rf) (some (.int q.1), (S, q.2.1, q.2.2, Rf)) := by
  refine CT.of (by decide +kernel) (Nat.le_of_ble_eq_true rfl) ?_
  show X G 3 m_H_tellStrike 0 [(0, .ref (xP G 0)), (1, .int a0), (2, .ref (xP G a1))] [] (S, I, L, Rf) (some (.int q.1), (S, q.2.1, q.2.2, Rf))
  replace hf := (f_H_tellStrike_S.eq_1 _ _ _ _).symm.trans hf
  refine X_aload_n (pc := 0) (i := 2) 2 dX11_tellStrike_0 rfl rfl ?_
  obtain ⟨q1, c2, hf⟩ := bd_some hf
  refine X_invV_i (pc := 1) (c_St_sound hT ha1 c2) ok_St_sound (ci := 8) ha1 k_829 k_830 k_831 nd_4 (by decide) rfl (Nat.le_of_ble_eq_true rfl) dX11_tellStrike_1 ?_
  refine X_istore_n (pc := 4) (i := 3) [(3, .int q1.1), (0, .ref (xP G 0)), (1, .int a0), (2, .ref (xP G a1))] dX11_tellStrike_4 rfl (by decide) rfl ?_
  refine X_aload_n (pc := 5) (i := 0) 1 dX11_tellStrike_5 rfl rfl ?_
  refine X_getr (pc := 6) (a := 0) (ci := 10) (j := 7) (c := 13) (sh_0 hT) (by decide) k_501 (rf_0_4 hT) (fun _ h => h) dX11_tellStrike_6 ?_
  obtain ⟨q3, c4, hf⟩ := bd_some hf
  refine X_invV_i (pc := 9) (c_Ro_open_13 hT c4) ok_Ro_open (ci := 7) (sh_13 hT) k_727 k_728 k_729 nd_4 (by decide) rfl (Nat.le_of_ble_eq_true rfl) dX11_tellStrike_9 ?_
  refine X_istore (pc := 12) [(4, .int q3.1), (3, .int q1.1), (0, .ref (xP G 0)), (1, .int a0), (2, .ref (xP G a1))] dX11_tellStrike_12 (by decide) rfl ?_
  refine X_aload_n (pc := 14) (i := 0) 2 dX11_tellStrike_14 rfl rfl ?_
  refine X_getr (pc := 15) (a := 0) (ci := 10) (j := 7) (c := 13) (sh_0 hT) (by decide) k_501 (rf_0_4 hT) (fun _ h => h) dX11_tellStrike_15 ?_
  refine X_iload (pc := 18) 0 dX11_tellStrike_18 rfl ?_
  refine X_iconst (pc := 20) (0 : Int32) dX11_tellStrike_20 (by decide) ?_
  refine X_aload_n (pc := 21) (i := 0) 2 dX11_tellStrike_21 rfl rfl ?_
  refine X_getr (pc := 22) (a := 0) (ci := 10) (j := 0) (c := 1) (sh_0 hT) (by decide) k_494 (rf_0_0 hT) (fun _ h => h) dX11_tellStrike_22 ?_
  refine X_get (pc := 25) (a := 1) (ci := 5) (j := 12) (.int (q3.2.1 1 12)) (sh_1 hT) (by decide) k_193 rfl dX11_tellStrike_25 ?_
  obtain ⟨q5, c6, hf⟩ := bd_some hf
  refine X_invV_v (pc := 28) (c_Ro_write_13 hT c6) ok_Ro_write (ci := 7) (sh_13 hT) k_731 k_732 k_733 nd_7 (by decide) rfl (Nat.le_of_ble_eq_true rfl) dX11_tellStrike_28 ?_
  refine X_aload_n (pc := 31) (i := 0) 2 dX11_tellStrike_31 rfl rfl ?_
  refine X_getr (pc := 32) (a := 0) (ci := 10) (j := 7) (c := 13) (sh_0 hT) (by decide) k_501 (rf_0_4 hT) (fun _ h => h) dX11_tellStrike_32 ?_
  refine X_iload (pc := 35) 0 dX11_tellStrike_35 rfl ?_
  refine X_iconst (pc := 37) (1 : Int32) dX11_tellStrike_37 (by decide) ?_
  refine X_iload_n (pc := 38) (i := 1) 3 dX11_tellStrike_38 rfl rfl ?_
  obtain ⟨q7, c8, hf⟩ := bd_some hf
  refine X_invV_v (pc := 39) (c_Ro_write_13 hT c8) ok_Ro_write (ci := 7) (sh_13 hT) k_731 k_732 k_733 nd_7 (by decide) rfl (Nat.le_of_ble_eq_true rfl) dX11_tellStrike_39 ?_
  refine X_aload_n (pc := 42) (i := 0) 2 dX11_tellStrike_42 rfl rfl ?_
  refine X_getr (pc := 43) (a := 0) (ci := 10) (j := 7) (c := 13) (sh_0 hT) (by decide) k_501 (rf_0_4 hT) (fun _ h => h) dX11_tellStrike_43 ?_
  refine X_iload (pc := 46) 0 dX11_tellStrike_46 rfl ?_
  refine X_iconst (pc := 48) (2 : Int32) dX11_tellStrike_48 (by decide) ?_
  refine X_iload_n (pc := 49) (i := 3) 1 dX11_tellStrike_49 rfl rfl ?_
  obtain ⟨q9, c10, hf⟩ := bd_some hf
  refine X_invV_v (pc := 50) (c_Ro_write_13 hT c10) ok_Ro_write (ci := 7) (sh_13 hT) k_731 k_732 k_733 nd_7 (by decide) rfl (Nat.le_of_ble_eq_true rfl) dX11_tellStrike_50 ?_
  refine X_iload_n (pc := 53) (i := 3) 1 dX11_tellStrike_53 rfl rfl ?_
  cases hf
  exact X_ireturn (pc := 54) rfl dX11_tellStrike_54
theorem u_H_tellStrike_S {S : List xSh} {a0 : Int32} {a1 : Nat} (ha1 : S[a1]? = some (.inl 8)) {I : Nat → Nat → Int32} {L : Nat → Nat → Int64} {q : (Int32 × (Nat → Nat → Int32) × (Nat → Nat → Int64))} (hf : f_H_tellStrike_S a0 a1 I L = some q) : FR S [14, 2303] [] I q.2.1 L q.2.2 := by
  replace hf := (f_H_tellStrike_S.eq_1 _ _ _ _).symm.trans hf
  obtain ⟨q1, c2, hf⟩ := bd_some hf
  obtain ⟨q3, c4, hf⟩ := bd_some hf
  obtain ⟨q5, c6, hf⟩ := bd_some hf
  obtain ⟨q7, c8, hf⟩ := bd_some hf
  obtain ⟨q9, c10, hf⟩ := bd_some hf
  cases hf
  exact (FR.tr (FR.tr (FR.tr (FR.tr (FR.tr FR.rf (u_St_sound ha1 (q := q1) c2) (by decide) (by decide)) (u_Ro_open_13 (q := q3) c4) (by decide) (by decide)) (u_Ro_write_13 (q := q5) c6) (by decide) (by decide)) (u_Ro_write_13 (q := q7) c8) (by decide) (by decide)) (u_Ro_write_13 (q := q9) c10) (by decide) (by decide))
theorem dX3_countTick_0 : decode cX3_countTick 0 = .ok (.aload_n 0, 1) := by decide +kernel
theorem dX3_countTick_1 : decode cX3_countTick 1 = .ok (.getfield 16, 3) := by decide +kernel
theorem dX3_countTick_4 : decode cX3_countTick 4 = .ok (.iconst 1, 1) := by decide +kernel
theorem dX3_countTick_5 : decode cX3_countTick 5 = .ok (.if_icmp .ne 13, 3) := by decide +kernel
theorem dX3_countTick_8 : decode cX3_countTick 8 = .ok (.aload_n 0, 1) := by decide +kernel
theorem dX3_countTick_9 : decode cX3_countTick 9 = .ok (.aload_n 0, 1) := by decide +kernel
theorem dX3_countTick_10 : decode cX3_countTick 10 = .ok (.getfield 27, 3) := by decide +kernel
theorem dX3_countTick_13 : decode cX3_countTick 13 = .ok (.iconst 1, 1) := by decide +kernel
theorem dX3_countTick_14 : decode cX3_countTick 14 = .ok (.iadd, 1) := by decide +kernel
theorem dX3_countTick_15 : decode cX3_countTick 15 = .ok (.invokevirtual 23, 3) := by decide +kernel
theorem dX3_countTick_18 : decode cX3_countTick 18 = .ok (.return_, 1) := by decide +kernel
def f_Cr_countTick (w0 : Nat) (I : Nat → Nat → Int32) (L : Nat → Nat → Int64) : Option ((Nat → Nat → Int32) × (Nat → Nat → Int64)) := (if (I w0 1) = (1 : Int32) then ((f_Cr_setCount w0 ((I w0 2) + (1 : Int32)) I L).bind fun q2 => (some (q2.1, q2.2))) else (some (I, L)))
set_option maxRecDepth 100000 in
set_option maxHeartbeats 4000000 in
theorem c_Cr_countTick {G : xG} {S : List xSh} {Rf : Nat → Nat → Option Nat} (hT : xTH S Rf) {w0 : Nat} (hw0 : S[w0]? = some (.inl 3)) {I : Nat → Nat → Int32} {L : Nat → Nat → Int64} {q : ((Nat → Nat → Int32) × (Nat → Nat → Int64))} (hf : f_Cr_countTick w0 I L = some q) : CT G 2 m_Cr_countTick [.ref (xP G w0)] (S, I, L, Rf) (none, (S, q.1, q.2, Rf)) := by
  refine CT.of (by decide +kernel) (Nat.le_of_ble_eq_true rfl) ?_
  show X G 2 m_Cr_countTick 0 [(0, .ref (xP G w0))] [] (S, I, L, Rf) (none, (S, q.1, q.2, Rf))
  replace hf := (f_Cr_countTick.eq_1 _ _ _).symm.trans hf
  refine X_aload_n (pc := 0) (i := 0) 0 dX3_countTick_0 rfl rfl ?_
  refine X_get (pc := 1) (a := w0) (ci := 3) (j := 1) (.int (I w0 1)) hw0 (by decide) k_444 rfl dX3_countTick_1 ?_
  refine X_iconst (pc := 4) (1 : Int32) dX3_countTick_4 (by decide) ?_
  by_cases c1 : (I w0 1) = (1 : Int32)
  · replace hf := (if_pos c1).symm.trans hf
    refine X_icmp_ne_f (pc := 5) 18 dX3_countTick_5 (by decide) c1 ?_
    refine X_aload_n (pc := 8) (i := 0) 0 dX3_countTick_8 rfl rfl ?_
    refine X_aload_n (pc := 9) (i := 0) 0 dX3_countTick_9 rfl rfl ?_
    refine X_get (pc := 10) (a := w0) (ci := 3) (j := 2) (.int (I w0 2)) hw0 (by decide) k_446 rfl dX3_countTick_10 ?_
    refine X_iconst (pc := 13) (1 : Int32) dX3_countTick_13 (by decide) ?_
    refine X_iadd (pc := 14) dX3_countTick_14 ?_
    obtain ⟨q2, c3, hf⟩ := bd_some hf
    refine X_invV_v (pc := 15) (c_Cr_setCount hT hw0 c3) ok_Cr_setCount (ci := 3) hw0 k_702 k_704 k_10 nd_13 (by decide) rfl (Nat.le_of_ble_eq_true rfl) dX3_countTick_15 ?_
    cases hf
    exact X_return (pc := 18) rfl dX3_countTick_18
  · replace hf := (if_neg c1).symm.trans hf
    refine X_icmp_ne_t (pc := 5) 18 dX3_countTick_5 (by decide) c1 ?_
    cases hf
    exact X_return (pc := 18) rfl dX3_countTick_18
theorem u_Cr_countTick {S : List xSh} {w0 : Nat} (hw0 : S[w0]? = some (.inl 3)) {I : Nat → Nat → Int32} {L : Nat → Nat → Int64} {q : ((Nat → Nat → Int32) × (Nat → Nat → Int64))} (hf : f_Cr_countTick w0 I L = some q) : FR S [] [] I q.1 L q.2 := by
  replace hf := (f_Cr_countTick.eq_1 _ _ _).symm.trans hf
  by_cases c1 : (I w0 1) = (1 : Int32)
  · replace hf := (if_pos c1).symm.trans hf
    obtain ⟨q2, c3, hf⟩ := bd_some hf
    cases hf
    exact (FR.tr FR.rf (u_Cr_setCount hw0 (q := q2) c3) (by decide) (by decide))
  · replace hf := (if_neg c1).symm.trans hf
    cases hf
    exact FR.rf
theorem dX11_passTick_0 : decode cX11_passTick 0 = .ok (.iconst 0, 1) := by decide +kernel
theorem dX11_passTick_1 : decode cX11_passTick 1 = .ok (.istore_n 1, 1) := by decide +kernel
theorem dX11_passTick_2 : decode cX11_passTick 2 = .ok (.iload_n 1, 1) := by decide +kernel
theorem dX11_passTick_3 : decode cX11_passTick 3 = .ok (.aload_n 0, 1) := by decide +kernel
theorem dX11_passTick_4 : decode cX11_passTick 4 = .ok (.getfield 154, 3) := by decide +kernel
theorem dX11_passTick_7 : decode cX11_passTick 7 = .ok (.if_icmp .ge 24, 3) := by decide +kernel
theorem dX11_passTick_10 : decode cX11_passTick 10 = .ok (.aload_n 0, 1) := by decide +kernel
theorem dX11_passTick_11 : decode cX11_passTick 11 = .ok (.getfield 47, 3) := by decide +kernel
theorem dX11_passTick_14 : decode cX11_passTick 14 = .ok (.iload_n 1, 1) := by decide +kernel
theorem dX11_passTick_15 : decode cX11_passTick 15 = .ok (.aaload, 1) := by decide +kernel
theorem dX11_passTick_16 : decode cX11_passTick 16 = .ok (.astore_n 2, 1) := by decide +kernel
theorem dX11_passTick_17 : decode cX11_passTick 17 = .ok (.aload_n 2, 1) := by decide +kernel
theorem dX11_passTick_18 : decode cX11_passTick 18 = .ok (.ifnull 7, 3) := by decide +kernel
theorem dX11_passTick_21 : decode cX11_passTick 21 = .ok (.aload_n 2, 1) := by decide +kernel
theorem dX11_passTick_22 : decode cX11_passTick 22 = .ok (.invokevirtual 408, 3) := by decide +kernel
theorem dX11_passTick_25 : decode cX11_passTick 25 = .ok (.iinc 1 1, 3) := by decide +kernel
theorem dX11_passTick_28 : decode cX11_passTick 28 = .ok (.goto (-26), 3) := by decide +kernel
theorem dX11_passTick_31 : decode cX11_passTick 31 = .ok (.aload_n 0, 1) := by decide +kernel
theorem dX11_passTick_32 : decode cX11_passTick 32 = .ok (.getfield 10, 3) := by decide +kernel
theorem dX11_passTick_35 : decode cX11_passTick 35 = .ok (.getfield 232, 3) := by decide +kernel
theorem dX11_passTick_38 : decode cX11_passTick 38 = .ok (.istore_n 1, 1) := by decide +kernel
theorem dX11_passTick_39 : decode cX11_passTick 39 = .ok (.iconst 0, 1) := by decide +kernel
theorem dX11_passTick_40 : decode cX11_passTick 40 = .ok (.istore_n 2, 1) := by decide +kernel
theorem dX11_passTick_41 : decode cX11_passTick 41 = .ok (.iload_n 2, 1) := by decide +kernel
theorem dX11_passTick_42 : decode cX11_passTick 42 = .ok (.aload_n 0, 1) := by decide +kernel
theorem dX11_passTick_43 : decode cX11_passTick 43 = .ok (.getfield 137, 3) := by decide +kernel
theorem dX11_passTick_46 : decode cX11_passTick 46 = .ok (.if_icmp .ge 95, 3) := by decide +kernel
theorem dX11_passTick_49 : decode cX11_passTick 49 = .ok (.aload_n 0, 1) := by decide +kernel
theorem dX11_passTick_50 : decode cX11_passTick 50 = .ok (.getfield 23, 3) := by decide +kernel
theorem dX11_passTick_53 : decode cX11_passTick 53 = .ok (.iload_n 2, 1) := by decide +kernel
theorem dX11_passTick_54 : decode cX11_passTick 54 = .ok (.aaload, 1) := by decide +kernel
theorem dX11_passTick_55 : decode cX11_passTick 55 = .ok (.astore_n 3, 1) := by decide +kernel
theorem dX11_passTick_56 : decode cX11_passTick 56 = .ok (.aload_n 3, 1) := by decide +kernel
theorem dX11_passTick_57 : decode cX11_passTick 57 = .ok (.ifnull 78, 3) := by decide +kernel
theorem dX11_passTick_60 : decode cX11_passTick 60 = .ok (.aload_n 0, 1) := by decide +kernel
theorem dX11_passTick_61 : decode cX11_passTick 61 = .ok (.getfield 20, 3) := by decide +kernel
theorem dX11_passTick_64 : decode cX11_passTick 64 = .ok (.aload_n 3, 1) := by decide +kernel
theorem dX11_passTick_65 : decode cX11_passTick 65 = .ok (.getfield 385, 3) := by decide +kernel
theorem dX11_passTick_68 : decode cX11_passTick 68 = .ok (.iload_n 1, 1) := by decide +kernel
theorem dX11_passTick_69 : decode cX11_passTick 69 = .ok (.iconst 1, 1) := by decide +kernel
theorem dX11_passTick_70 : decode cX11_passTick 70 = .ok (.invokevirtual 235, 3) := by decide +kernel
theorem dX11_passTick_73 : decode cX11_passTick 73 = .ok (.aload_n 0, 1) := by decide +kernel
theorem dX11_passTick_74 : decode cX11_passTick 74 = .ok (.getfield 20, 3) := by decide +kernel
theorem dX11_passTick_77 : decode cX11_passTick 77 = .ok (.aload_n 3, 1) := by decide +kernel
theorem dX11_passTick_78 : decode cX11_passTick 78 = .ok (.getfield 385, 3) := by decide +kernel
theorem dX11_passTick_81 : decode cX11_passTick 81 = .ok (.iload_n 1, 1) := by decide +kernel
theorem dX11_passTick_82 : decode cX11_passTick 82 = .ok (.iconst 1, 1) := by decide +kernel
theorem dX11_passTick_83 : decode cX11_passTick 83 = .ok (.isub, 1) := by decide +kernel
theorem dX11_passTick_84 : decode cX11_passTick 84 = .ok (.iconst 1, 1) := by decide +kernel
theorem dX11_passTick_85 : decode cX11_passTick 85 = .ok (.invokevirtual 235, 3) := by decide +kernel
theorem dX11_passTick_88 : decode cX11_passTick 88 = .ok (.lcmp, 1) := by decide +kernel
theorem dX11_passTick_89 : decode cX11_passTick 89 = .ok (.ifCond .le 46, 3) := by decide +kernel
theorem dX11_passTick_92 : decode cX11_passTick 92 = .ok (.aload_n 3, 1) := by decide +kernel
theorem dX11_passTick_93 : decode cX11_passTick 93 = .ok (.dup, 1) := by decide +kernel
theorem dX11_passTick_94 : decode cX11_passTick 94 = .ok (.getfield 271, 3) := by decide +kernel
theorem dX11_passTick_97 : decode cX11_passTick 97 = .ok (.iconst 1, 1) := by decide +kernel
theorem dX11_passTick_98 : decode cX11_passTick 98 = .ok (.iadd, 1) := by decide +kernel
theorem dX11_passTick_99 : decode cX11_passTick 99 = .ok (.putfield 271, 3) := by decide +kernel
theorem dX11_passTick_102 : decode cX11_passTick 102 = .ok (.aload_n 3, 1) := by decide +kernel
theorem dX11_passTick_103 : decode cX11_passTick 103 = .ok (.invokevirtual 411, 3) := by decide +kernel
theorem dX11_passTick_106 : decode cX11_passTick 106 = .ok (.aload_n 3, 1) := by decide +kernel
theorem dX11_passTick_107 : decode cX11_passTick 107 = .ok (.instanceof 39, 3) := by decide +kernel
theorem dX11_passTick_110 : decode cX11_passTick 110 = .ok (.ifCond .eq 25, 3) := by decide +kernel
theorem dX11_passTick_113 : decode cX11_passTick 113 = .ok (.aload_n 3, 1) := by decide +kernel
theorem dX11_passTick_114 : decode cX11_passTick 114 = .ok (.checkcast 39, 3) := by decide +kernel
theorem dX11_passTick_117 : decode cX11_passTick 117 = .ok (.astore 4, 2) := by decide +kernel
theorem dX11_passTick_119 : decode cX11_passTick 119 = .ok (.aload 4, 2) := by decide +kernel
theorem dX11_passTick_121 : decode cX11_passTick 121 = .ok (.invokevirtual 414, 3) := by decide +kernel
theorem dX11_passTick_124 : decode cX11_passTick 124 = .ok (.ifCond .ne 11, 3) := by decide +kernel
theorem dX11_passTick_127 : decode cX11_passTick 127 = .ok (.aload_n 0, 1) := by decide +kernel
theorem dX11_passTick_128 : decode cX11_passTick 128 = .ok (.iload_n 2, 1) := by decide +kernel
theorem dX11_passTick_129 : decode cX11_passTick 129 = .ok (.aload 4, 2) := by decide +kernel
theorem dX11_passTick_131 : decode cX11_passTick 131 = .ok (.invokevirtual 417, 3) := by decide +kernel
theorem dX11_passTick_134 : decode cX11_passTick 134 = .ok (.pop, 1) := by decide +kernel
theorem dX11_passTick_135 : decode cX11_passTick 135 = .ok (.iinc 2 1, 3) := by decide +kernel
theorem dX11_passTick_138 : decode cX11_passTick 138 = .ok (.goto (-97), 3) := by decide +kernel
theorem dX11_passTick_141 : decode cX11_passTick 141 = .ok (.return_, 1) := by decide +kernel
def f_H_passTick_L41 (S : List xSh) (Rf : Nat → Nat → Option Nat) : Nat → Int32 → Int32 → (Nat → Nat → Int32) → (Nat → Nat → Int64) → Option ((Nat → Nat → Int32) × (Nat → Nat → Int64))
  | 0, _, _, _, _ => none
  | n + 1, l1, l2, I, L => (if (I 0 6) ≤ l2 then (some (I, L)) else (if (0 ≤ l2 ∧ l2 < (8 : Int32)) then (oc (Rf 11 (l2.toNatClampNeg)) (f_H_passTick_L41 S Rf n l1 (l2 + (1 : Int32)) I L) fun w5 => (if S[w5]? = some (.inl 4) then ((f_Ge_turned (I w5 0) l1 (1 : Int32) I L).bind fun q8 => ((f_Ge_turned (I w5 0) (l1 - (1 : Int32)) (1 : Int32) I L).bind fun q10 => (if q8 ≤ q10 then (f_H_passTick_L41 S Rf n l1 (l2 + (1 : Int32)) I L) else (bnd ((I w5 1) + (1 : Int32)) fun x13 => ((f_Di_advance w5 (uI I w5 1 x13) L).bind fun q14 => (f_H_passTick_L41 S Rf n l1 (l2 + (1 : Int32)) q14.1 q14.2)))))) else (if S[w5]? = some (.inl 1) then ((f_Ge_turned (I w5 0) l1 (1 : Int32) I L).bind fun q17 => ((f_Ge_turned (I w5 0) (l1 - (1 : Int32)) (1 : Int32) I L).bind fun q19 => (if q17 ≤ q19 then (f_H_passTick_L41 S Rf n l1 (l2 + (1 : Int32)) I L) else (bnd ((I w5 1) + (1 : Int32)) fun x22 => ((f_Ca_advance w5 (uI I w5 1 x22) L).bind fun q23 => (f_H_passTick_L41 S Rf n l1 (l2 + (1 : Int32)) q23.1 q23.2)))))) else (if S[w5]? = some (.inl 8) then ((f_Ge_turned (I w5 0) l1 (1 : Int32) I L).bind fun q26 => ((f_Ge_turned (I w5 0) (l1 - (1 : Int32)) (1 : Int32) I L).bind fun q28 => (if q26 ≤ q28 then (f_H_passTick_L41 S Rf n l1 (l2 + (1 : Int32)) I L) else (bnd ((I w5 1) + (1 : Int32)) fun x31 => ((f_St_advance w5 (uI I w5 1 x31) L).bind fun q32 => (if (f_St_isSilent w5 q32.1 q32.2) = (0 : Int32) then ((f_H_tellStrike_S l2 w5 q32.1 q32.2).bind fun q35 => (f_H_passTick_L41 S Rf n l1 (l2 + (1 : Int32)) q35.2.1 q35.2.2)) else (f_H_passTick_L41 S Rf n l1 (l2 + (1 : Int32)) q32.1 q32.2))))))) else none)))) else none))
set_option maxRecDepth 100000 in
set_option maxHeartbeats 4000000 in
theorem x_H_passTick_L41 {G : xG} {S : List xSh} {Rf : Nat → Nat → Option Nat} (hT : xTH S Rf) : ∀ (n : Nat) {l1 : Int32} {l2 : Int32} {I : Nat → Nat → Int32} {L : Nat → Nat → Int64} {q : ((Nat → Nat → Int32) × (Nat → Nat → Int64))}, f_H_passTick_L41 S Rf n l1 l2 I L = some q → X G 4 m_H_passTick 41 [(0, .ref (xP G 0)), (1, .int l1), (2, .int l2)] [] (S, I, L, Rf) (none, (S, q.1, q.2, Rf)) := by
  intro n
  induction n with
  | zero =>
    intro l1 l2 I L q hf
    exact absurd (show none = some q from hf) (by simp)
  | succ n ih =>
    intro l1 l2 I L q hf
    replace hf := (f_H_passTick_L41.eq_2 _ _ _ _ _ _ _).symm.trans hf
    refine X_iload_n (pc := 41) (i := 2) 2 dX11_passTick_41 rfl rfl ?_
    refine X_aload_n (pc := 42) (i := 0) 0 dX11_passTick_42 rfl rfl ?_
    refine X_get (pc := 43) (a := 0) (ci := 10) (j := 9) (.int (I 0 6)) (sh_0 hT) (by decide) k_503 rfl dX11_passTick_43 ?_
    by_cases c3 : (I 0 6) ≤ l2
    · replace hf := (if_pos c3).symm.trans hf
      refine X_icmp_ge_t (pc := 46) 141 dX11_passTick_46 (by decide) c3 ?_
      cases hf
      exact X_return (pc := 141) rfl dX11_passTick_141
    · replace hf := (if_neg c3).symm.trans hf
      refine X_icmp_ge_f (pc := 46) 141 dX11_passTick_46 (by decide) c3 ?_
      refine X_aload_n (pc := 49) (i := 0) 0 dX11_passTick_49 rfl rfl ?_
      refine X_getr (pc := 50) (a := 0) (ci := 10) (j := 2) (c := 11) (sh_0 hT) (by decide) k_496 (rf_0_2 hT) (fun _ h => h) dX11_passTick_50 ?_
      refine X_iload_n (pc := 53) (i := 2) 2 dX11_passTick_53 rfl rfl ?_
      obtain ⟨c4, hf⟩ := gd_some hf
      rcases oc_cases hf with ⟨hr6, hf⟩ | ⟨w5, hr6, hf⟩
      · refine X_aaldN (pc := 54) (by decide) (sh_11 hT) (vp_in_lit (N := 8) c4 (by decide)) hr6 dX11_passTick_54 ?_
        refine X_astore_nN (pc := 55) (i := 3) [(3, .null), (0, .ref (xP G 0)), (1, .int l1), (2, .int l2)] dX11_passTick_55 rfl (by decide) rfl ?_
        refine X_aload_nN (pc := 56) (i := 3) 0 dX11_passTick_56 rfl rfl ?_
        refine X_ifnull_t (pc := 57) 135 dX11_passTick_57 (by decide) ?_
        refine X_iinc (pc := 135) (i := 2) (q := 3) (v := (l2 + (1 : Int32))) [(2, .int (l2 + (1 : Int32))), (3, .null), (0, .ref (xP G 0)), (1, .int l1)] dX11_passTick_135 rfl rfl (by decide) rfl ?_
        refine X_goto (pc := 138) 41 dX11_passTick_138 (by decide) ?_
        exact X_lvs [2, 3, 0] rfl (ih hf)
      · refine X_aaldS (pc := 54) (by decide) (sh_11 hT) (vp_in_lit (N := 8) c4 (by decide)) hr6 dX11_passTick_54 ?_
        refine X_astore_n (pc := 55) (i := 3) [(3, .ref (xP G w5)), (0, .ref (xP G 0)), (1, .int l1), (2, .int l2)] dX11_passTick_55 rfl (by decide) rfl ?_
        refine X_aload_n (pc := 56) (i := 3) 0 dX11_passTick_56 rfl rfl ?_
        refine X_ifnull_f (pc := 57) dX11_passTick_57 ?_
        refine X_aload_n (pc := 60) (i := 0) 1 dX11_passTick_60 rfl rfl ?_
        refine X_getr (pc := 61) (a := 0) (ci := 10) (j := 1) (c := 2) (sh_0 hT) (by decide) k_495 (rf_0_1 hT) (fun _ h => h) dX11_passTick_61 ?_
        refine X_aload_n (pc := 64) (i := 3) 0 dX11_passTick_64 rfl rfl ?_
        by_cases hs7 : S[w5]? = some (.inl 4)
        · replace hf := (if_pos hs7).symm.trans hf
          refine X_get (pc := 65) (a := w5) (ci := 4) (j := 0) (.int (I w5 0)) hs7 (by decide) k_363 rfl dX11_passTick_65 ?_
          refine X_iload_n (pc := 68) (i := 1) 2 dX11_passTick_68 rfl rfl ?_
          refine X_iconst (pc := 69) (1 : Int32) dX11_passTick_69 (by decide) ?_
          obtain ⟨q8, c9, hf⟩ := bd_some hf
          refine X_invV_l (pc := 70) (c_Ge_turned hT c9) ok_Ge_turned (ci := 6) (sh_2 hT) k_791 k_772 k_773 nd_19 (by decide) rfl (Nat.le_of_ble_eq_true rfl) dX11_passTick_70 ?_
          refine X_aload_n (pc := 73) (i := 0) 1 dX11_passTick_73 rfl rfl ?_
          refine X_getr (pc := 74) (a := 0) (ci := 10) (j := 1) (c := 2) (sh_0 hT) (by decide) k_495 (rf_0_1 hT) (fun _ h => h) dX11_passTick_74 ?_
          refine X_aload_n (pc := 77) (i := 3) 0 dX11_passTick_77 rfl rfl ?_
          refine X_get (pc := 78) (a := w5) (ci := 4) (j := 0) (.int (I w5 0)) hs7 (by decide) k_363 rfl dX11_passTick_78 ?_
          refine X_iload_n (pc := 81) (i := 1) 2 dX11_passTick_81 rfl rfl ?_
          refine X_iconst (pc := 82) (1 : Int32) dX11_passTick_82 (by decide) ?_
          refine X_isub (pc := 83) dX11_passTick_83 ?_
          refine X_iconst (pc := 84) (1 : Int32) dX11_passTick_84 (by decide) ?_
          obtain ⟨q10, c11, hf⟩ := bd_some hf
          refine X_invV_l (pc := 85) (c_Ge_turned hT c11) ok_Ge_turned (ci := 6) (sh_2 hT) k_791 k_772 k_773 nd_19 (by decide) rfl (Nat.le_of_ble_eq_true rfl) dX11_passTick_85 ?_
          refine X_lcmp (pc := 88) dX11_passTick_88 ?_
          by_cases c12 : q8 ≤ q10
          · replace hf := (if_pos c12).symm.trans hf
            refine X_if_le_t (pc := 89) 135 dX11_passTick_89 (by decide) ((lg_cmp_le _ _).mpr c12) ?_
            refine X_iinc (pc := 135) (i := 2) (q := 3) (v := (l2 + (1 : Int32))) [(2, .int (l2 + (1 : Int32))), (3, .ref (xP G w5)), (0, .ref (xP G 0)), (1, .int l1)] dX11_passTick_135 rfl rfl (by decide) rfl ?_
            refine X_goto (pc := 138) 41 dX11_passTick_138 (by decide) ?_
            exact X_lvs [2, 3, 0] rfl (ih hf)
          · replace hf := (if_neg c12).symm.trans hf
            refine X_if_le_f (pc := 89) 135 dX11_passTick_89 (by decide) (fun h => c12 ((lg_cmp_le _ _).mp h)) ?_
            refine X_aload_n (pc := 92) (i := 3) 0 dX11_passTick_92 rfl rfl ?_
            refine X_dup (pc := 93) dX11_passTick_93 rfl ?_
            refine X_get (pc := 94) (a := w5) (ci := 4) (j := 1) (.int (I w5 1)) hs7 (by decide) k_364 rfl dX11_passTick_94 ?_
            refine X_iconst (pc := 97) (1 : Int32) dX11_passTick_97 (by decide) ?_
            refine X_iadd (pc := 98) dX11_passTick_98 ?_
            obtain ⟨x13, ex13, hf⟩ := bnd_e hf
            refine X_tope ex13 ?_
            refine X_puti (pc := 99) (a := w5) (ci := 4) (j := 1) 1 rfl false hs7 (by decide) k_364 rfl (fun h => by cases h) rfl dX11_passTick_99 ?_
            refine X_aload_n (pc := 102) (i := 3) 0 dX11_passTick_102 rfl rfl ?_
            obtain ⟨q14, c15, hf⟩ := bd_some hf
            refine X_invU_v (pc := 103) (c_Di_advance hT hs7 c15) ok_Di_advance (ci := 4) hs7 k_792 k_794 k_793 (by decide +kernel) k_813 k_812 nd_1 (by decide) rfl (Nat.le_of_ble_eq_true rfl) dX11_passTick_103 ?_
            refine X_aload_n (pc := 106) (i := 3) 0 dX11_passTick_106 rfl rfl ?_
            refine X_instNo (pc := 107) (ci := 4) hs7 k_239 (by decide) dX11_passTick_107 ?_
            refine X_if_eq_t (pc := 110) 135 dX11_passTick_110 (by decide) (by decide) ?_
            refine X_iinc (pc := 135) (i := 2) (q := 3) (v := (l2 + (1 : Int32))) [(2, .int (l2 + (1 : Int32))), (3, .ref (xP G w5)), (0, .ref (xP G 0)), (1, .int l1)] dX11_passTick_135 rfl rfl (by decide) rfl ?_
            refine X_goto (pc := 138) 41 dX11_passTick_138 (by decide) ?_
            exact X_lvs [2, 3, 0] rfl (ih hf)
        · replace hf := (if_neg hs7).symm.trans hf
          by_cases hs16 : S[w5]? = some (.inl 1)
          · replace hf := (if_pos hs16).symm.trans hf
            refine X_get (pc := 65) (a := w5) (ci := 1) (j := 0) (.int (I w5 0)) hs16 (by decide) k_363 rfl dX11_passTick_65 ?_
            refine X_iload_n (pc := 68) (i := 1) 2 dX11_passTick_68 rfl rfl ?_
            refine X_iconst (pc := 69) (1 : Int32) dX11_passTick_69 (by decide) ?_
            obtain ⟨q17, c18, hf⟩ := bd_some hf
            refine X_invV_l (pc := 70) (c_Ge_turned hT c18) ok_Ge_turned (ci := 6) (sh_2 hT) k_791 k_772 k_773 nd_19 (by decide) rfl (Nat.le_of_ble_eq_true rfl) dX11_passTick_70 ?_
            refine X_aload_n (pc := 73) (i := 0) 1 dX11_passTick_73 rfl rfl ?_
            refine X_getr (pc := 74) (a := 0) (ci := 10) (j := 1) (c := 2) (sh_0 hT) (by decide) k_495 (rf_0_1 hT) (fun _ h => h) dX11_passTick_74 ?_
            refine X_aload_n (pc := 77) (i := 3) 0 dX11_passTick_77 rfl rfl ?_
            refine X_get (pc := 78) (a := w5) (ci := 1) (j := 0) (.int (I w5 0)) hs16 (by decide) k_363 rfl dX11_passTick_78 ?_
            refine X_iload_n (pc := 81) (i := 1) 2 dX11_passTick_81 rfl rfl ?_
            refine X_iconst (pc := 82) (1 : Int32) dX11_passTick_82 (by decide) ?_
            refine X_isub (pc := 83) dX11_passTick_83 ?_
            refine X_iconst (pc := 84) (1 : Int32) dX11_passTick_84 (by decide) ?_
            obtain ⟨q19, c20, hf⟩ := bd_some hf
            refine X_invV_l (pc := 85) (c_Ge_turned hT c20) ok_Ge_turned (ci := 6) (sh_2 hT) k_791 k_772 k_773 nd_19 (by decide) rfl (Nat.le_of_ble_eq_true rfl) dX11_passTick_85 ?_
            refine X_lcmp (pc := 88) dX11_passTick_88 ?_
            by_cases c21 : q17 ≤ q19
            · replace hf := (if_pos c21).symm.trans hf
              refine X_if_le_t (pc := 89) 135 dX11_passTick_89 (by decide) ((lg_cmp_le _ _).mpr c21) ?_
              refine X_iinc (pc := 135) (i := 2) (q := 3) (v := (l2 + (1 : Int32))) [(2, .int (l2 + (1 : Int32))), (3, .ref (xP G w5)), (0, .ref (xP G 0)), (1, .int l1)] dX11_passTick_135 rfl rfl (by decide) rfl ?_
              refine X_goto (pc := 138) 41 dX11_passTick_138 (by decide) ?_
              exact X_lvs [2, 3, 0] rfl (ih hf)
            · replace hf := (if_neg c21).symm.trans hf
              refine X_if_le_f (pc := 89) 135 dX11_passTick_89 (by decide) (fun h => c21 ((lg_cmp_le _ _).mp h)) ?_
              refine X_aload_n (pc := 92) (i := 3) 0 dX11_passTick_92 rfl rfl ?_
              refine X_dup (pc := 93) dX11_passTick_93 rfl ?_
              refine X_get (pc := 94) (a := w5) (ci := 1) (j := 1) (.int (I w5 1)) hs16 (by decide) k_364 rfl dX11_passTick_94 ?_
              refine X_iconst (pc := 97) (1 : Int32) dX11_passTick_97 (by decide) ?_
              refine X_iadd (pc := 98) dX11_passTick_98 ?_
              obtain ⟨x22, ex22, hf⟩ := bnd_e hf
              refine X_tope ex22 ?_
              refine X_puti (pc := 99) (a := w5) (ci := 1) (j := 1) 1 rfl false hs16 (by decide) k_364 rfl (fun h => by cases h) rfl dX11_passTick_99 ?_
              refine X_aload_n (pc := 102) (i := 3) 0 dX11_passTick_102 rfl rfl ?_
              obtain ⟨q23, c24, hf⟩ := bd_some hf
              refine X_invU_v (pc := 103) (c_Ca_advance hT hs16 c24) ok_Ca_advance (ci := 1) hs16 k_792 k_794 k_793 (by decide +kernel) k_796 k_795 nd_1 (by decide) rfl (Nat.le_of_ble_eq_true rfl) dX11_passTick_103 ?_
              refine X_aload_n (pc := 106) (i := 3) 0 dX11_passTick_106 rfl rfl ?_
              refine X_instNo (pc := 107) (ci := 1) hs16 k_239 (by decide) dX11_passTick_107 ?_
              refine X_if_eq_t (pc := 110) 135 dX11_passTick_110 (by decide) (by decide) ?_
              refine X_iinc (pc := 135) (i := 2) (q := 3) (v := (l2 + (1 : Int32))) [(2, .int (l2 + (1 : Int32))), (3, .ref (xP G w5)), (0, .ref (xP G 0)), (1, .int l1)] dX11_passTick_135 rfl rfl (by decide) rfl ?_
              refine X_goto (pc := 138) 41 dX11_passTick_138 (by decide) ?_
              exact X_lvs [2, 3, 0] rfl (ih hf)
          · replace hf := (if_neg hs16).symm.trans hf
            obtain ⟨hs25, hf⟩ := gd_some hf
            refine X_get (pc := 65) (a := w5) (ci := 8) (j := 0) (.int (I w5 0)) hs25 (by decide) k_363 rfl dX11_passTick_65 ?_
            refine X_iload_n (pc := 68) (i := 1) 2 dX11_passTick_68 rfl rfl ?_
            refine X_iconst (pc := 69) (1 : Int32) dX11_passTick_69 (by decide) ?_
            obtain ⟨q26, c27, hf⟩ := bd_some hf
            refine X_invV_l (pc := 70) (c_Ge_turned hT c27) ok_Ge_turned (ci := 6) (sh_2 hT) k_791 k_772 k_773 nd_19 (by decide) rfl (Nat.le_of_ble_eq_true rfl) dX11_passTick_70 ?_
            refine X_aload_n (pc := 73) (i := 0) 1 dX11_passTick_73 rfl rfl ?_
            refine X_getr (pc := 74) (a := 0) (ci := 10) (j := 1) (c := 2) (sh_0 hT) (by decide) k_495 (rf_0_1 hT) (fun _ h => h) dX11_passTick_74 ?_
            refine X_aload_n (pc := 77) (i := 3) 0 dX11_passTick_77 rfl rfl ?_
            refine X_get (pc := 78) (a := w5) (ci := 8) (j := 0) (.int (I w5 0)) hs25 (by decide) k_363 rfl dX11_passTick_78 ?_
            refine X_iload_n (pc := 81) (i := 1) 2 dX11_passTick_81 rfl rfl ?_
            refine X_iconst (pc := 82) (1 : Int32) dX11_passTick_82 (by decide) ?_
            refine X_isub (pc := 83) dX11_passTick_83 ?_
            refine X_iconst (pc := 84) (1 : Int32) dX11_passTick_84 (by decide) ?_
            obtain ⟨q28, c29, hf⟩ := bd_some hf
            refine X_invV_l (pc := 85) (c_Ge_turned hT c29) ok_Ge_turned (ci := 6) (sh_2 hT) k_791 k_772 k_773 nd_19 (by decide) rfl (Nat.le_of_ble_eq_true rfl) dX11_passTick_85 ?_
            refine X_lcmp (pc := 88) dX11_passTick_88 ?_
            by_cases c30 : q26 ≤ q28
            · replace hf := (if_pos c30).symm.trans hf
              refine X_if_le_t (pc := 89) 135 dX11_passTick_89 (by decide) ((lg_cmp_le _ _).mpr c30) ?_
              refine X_iinc (pc := 135) (i := 2) (q := 3) (v := (l2 + (1 : Int32))) [(2, .int (l2 + (1 : Int32))), (3, .ref (xP G w5)), (0, .ref (xP G 0)), (1, .int l1)] dX11_passTick_135 rfl rfl (by decide) rfl ?_
              refine X_goto (pc := 138) 41 dX11_passTick_138 (by decide) ?_
              exact X_lvs [2, 3, 0] rfl (ih hf)
            · replace hf := (if_neg c30).symm.trans hf
              refine X_if_le_f (pc := 89) 135 dX11_passTick_89 (by decide) (fun h => c30 ((lg_cmp_le _ _).mp h)) ?_
              refine X_aload_n (pc := 92) (i := 3) 0 dX11_passTick_92 rfl rfl ?_
              refine X_dup (pc := 93) dX11_passTick_93 rfl ?_
              refine X_get (pc := 94) (a := w5) (ci := 8) (j := 1) (.int (I w5 1)) hs25 (by decide) k_364 rfl dX11_passTick_94 ?_
              refine X_iconst (pc := 97) (1 : Int32) dX11_passTick_97 (by decide) ?_
              refine X_iadd (pc := 98) dX11_passTick_98 ?_
              obtain ⟨x31, ex31, hf⟩ := bnd_e hf
              refine X_tope ex31 ?_
              refine X_puti (pc := 99) (a := w5) (ci := 8) (j := 1) 1 rfl false hs25 (by decide) k_364 rfl (fun h => by cases h) rfl dX11_passTick_99 ?_
              refine X_aload_n (pc := 102) (i := 3) 0 dX11_passTick_102 rfl rfl ?_
              obtain ⟨q32, c33, hf⟩ := bd_some hf
              refine X_invU_v (pc := 103) (c_St_advance hT hs25 c33) ok_St_advance (ci := 8) hs25 k_792 k_794 k_793 (by decide +kernel) k_816 k_815 nd_1 (by decide) rfl (Nat.le_of_ble_eq_true rfl) dX11_passTick_103 ?_
              refine X_aload_n (pc := 106) (i := 3) 0 dX11_passTick_106 rfl rfl ?_
              refine X_instYes (pc := 107) (ci := 8) hs25 k_239 dX11_passTick_107 ?_
              refine X_if_eq_f (pc := 110) 135 dX11_passTick_110 (by decide) (by decide) ?_
              refine X_aload_n (pc := 113) (i := 3) 0 dX11_passTick_113 rfl rfl ?_
              refine X_castYes (pc := 114) (ci := 8) hs25 k_239 dX11_passTick_114 ?_
              refine X_astore (pc := 117) [(4, .ref (xP G w5)), (3, .ref (xP G w5)), (0, .ref (xP G 0)), (1, .int l1), (2, .int l2)] dX11_passTick_117 (by decide) rfl ?_
              refine X_aload (pc := 119) 0 dX11_passTick_119 rfl ?_
              refine X_invV_i (pc := 121) (c_St_isSilent hT hs25 rfl) ok_St_isSilent (ci := 8) hs25 k_821 k_822 k_823 nd_11 (by decide) rfl (Nat.le_of_ble_eq_true rfl) dX11_passTick_121 ?_
              by_cases c34 : (f_St_isSilent w5 q32.1 q32.2) = (0 : Int32)
              · replace hf := (if_pos c34).symm.trans hf
                refine X_if_ne_f (pc := 124) 135 dX11_passTick_124 (by decide) c34 ?_
                refine X_aload_n (pc := 127) (i := 0) 2 dX11_passTick_127 rfl rfl ?_
                refine X_iload_n (pc := 128) (i := 2) 4 dX11_passTick_128 rfl rfl ?_
                refine X_aload (pc := 129) 0 dX11_passTick_129 rfl ?_
                obtain ⟨q35, c36, hf⟩ := bd_some hf
                refine X_invV_i (pc := 131) (c_H_tellStrike_S hT hs25 c36) ok_H_tellStrike (ci := 10) (sh_0 hT) k_825 k_827 k_17 nd_22 (by decide) rfl (Nat.le_of_ble_eq_true rfl) dX11_passTick_131 ?_
                refine X_pop (pc := 134) dX11_passTick_134 rfl ?_
                refine X_iinc (pc := 135) (i := 2) (q := 4) (v := (l2 + (1 : Int32))) [(2, .int (l2 + (1 : Int32))), (4, .ref (xP G w5)), (3, .ref (xP G w5)), (0, .ref (xP G 0)), (1, .int l1)] dX11_passTick_135 rfl rfl (by decide) rfl ?_
                refine X_goto (pc := 138) 41 dX11_passTick_138 (by decide) ?_
                exact X_lvs [3, 4, 0] rfl (ih hf)
              · replace hf := (if_neg c34).symm.trans hf
                refine X_if_ne_t (pc := 124) 135 dX11_passTick_124 (by decide) c34 ?_
                refine X_iinc (pc := 135) (i := 2) (q := 4) (v := (l2 + (1 : Int32))) [(2, .int (l2 + (1 : Int32))), (4, .ref (xP G w5)), (3, .ref (xP G w5)), (0, .ref (xP G 0)), (1, .int l1)] dX11_passTick_135 rfl rfl (by decide) rfl ?_
                refine X_goto (pc := 138) 41 dX11_passTick_138 (by decide) ?_
                exact X_lvs [3, 4, 0] rfl (ih hf)
theorem u_H_passTick_L41 {S : List xSh} {Rf : Nat → Nat → Option Nat} : ∀ (n : Nat) {l1 : Int32} {l2 : Int32} {I : Nat → Nat → Int32} {L : Nat → Nat → Int64} {q : ((Nat → Nat → Int32) × (Nat → Nat → Int64))}, f_H_passTick_L41 S Rf n l1 l2 I L = some q → FR S [14, 2303] [] I q.1 L q.2 := by
  intro n
  induction n with
  | zero =>
    intro l1 l2 I L q hf
    exact absurd (show none = some q from hf) (by simp)
  | succ n ih =>
    intro l1 l2 I L q hf
    replace hf := (f_H_passTick_L41.eq_2 _ _ _ _ _ _ _).symm.trans hf
    by_cases c3 : (I 0 6) ≤ l2
    · replace hf := (if_pos c3).symm.trans hf
      cases hf
      exact FR.rf
    · replace hf := (if_neg c3).symm.trans hf
      obtain ⟨c4, hf⟩ := gd_some hf
      rcases oc_cases hf with ⟨hr6, hf⟩ | ⟨w5, hr6, hf⟩
      · exact FR.tr FR.rf (ih hf) (by decide) (by decide)
      · by_cases hs7 : S[w5]? = some (.inl 4)
        · replace hf := (if_pos hs7).symm.trans hf
          obtain ⟨q8, c9, hf⟩ := bd_some hf
          obtain ⟨q10, c11, hf⟩ := bd_some hf
          by_cases c12 : q8 ≤ q10
          · replace hf := (if_pos c12).symm.trans hf
            exact FR.tr FR.rf (ih hf) (by decide) (by decide)
          · replace hf := (if_neg c12).symm.trans hf
            obtain ⟨x13, ex13, hf⟩ := bnd_e hf
            obtain ⟨q14, c15, hf⟩ := bd_some hf
            exact FR.tr (FR.tr (FR.dy FR.rf hs7 (by decide)) (u_Di_advance hs7 (q := q14) c15) (by decide) (by decide)) (ih hf) (by decide) (by decide)
        · replace hf := (if_neg hs7).symm.trans hf
          by_cases hs16 : S[w5]? = some (.inl 1)
          · replace hf := (if_pos hs16).symm.trans hf
            obtain ⟨q17, c18, hf⟩ := bd_some hf
            obtain ⟨q19, c20, hf⟩ := bd_some hf
            by_cases c21 : q17 ≤ q19
            · replace hf := (if_pos c21).symm.trans hf
              exact FR.tr FR.rf (ih hf) (by decide) (by decide)
            · replace hf := (if_neg c21).symm.trans hf
              obtain ⟨x22, ex22, hf⟩ := bnd_e hf
              obtain ⟨q23, c24, hf⟩ := bd_some hf
              exact FR.tr (FR.tr (FR.dy FR.rf hs16 (by decide)) (u_Ca_advance hs16 (q := q23) c24) (by decide) (by decide)) (ih hf) (by decide) (by decide)
          · replace hf := (if_neg hs16).symm.trans hf
            obtain ⟨hs25, hf⟩ := gd_some hf
            obtain ⟨q26, c27, hf⟩ := bd_some hf
            obtain ⟨q28, c29, hf⟩ := bd_some hf
            by_cases c30 : q26 ≤ q28
            · replace hf := (if_pos c30).symm.trans hf
              exact FR.tr FR.rf (ih hf) (by decide) (by decide)
            · replace hf := (if_neg c30).symm.trans hf
              obtain ⟨x31, ex31, hf⟩ := bnd_e hf
              obtain ⟨q32, c33, hf⟩ := bd_some hf
              by_cases c34 : (f_St_isSilent w5 q32.1 q32.2) = (0 : Int32)
              · replace hf := (if_pos c34).symm.trans hf
                obtain ⟨q35, c36, hf⟩ := bd_some hf
                exact FR.tr (FR.tr (FR.tr (FR.dy FR.rf hs25 (by decide)) (u_St_advance hs25 (q := q32) c33) (by decide) (by decide)) (u_H_tellStrike_S hs25 (q := q35) c36) (by decide) (by decide)) (ih hf) (by decide) (by decide)
              · replace hf := (if_neg c34).symm.trans hf
                exact FR.tr (FR.tr (FR.dy FR.rf hs25 (by decide)) (u_St_advance hs25 (q := q32) c33) (by decide) (by decide)) (ih hf) (by decide) (by decide)
def f_H_passTick_L2 (S : List xSh) (Rf : Nat → Nat → Option Nat) : Nat → Int32 → (Nat → Nat → Int32) → (Nat → Nat → Int64) → Option ((Nat → Nat → Int32) × (Nat → Nat → Int64))
  | 0, _, _, _ => none
  | n + 1, l1, I, L => (if (I 0 7) ≤ l1 then (bnd (I 1 12) fun x2 => (f_H_passTick_L41 S Rf xF x2 (0 : Int32) I L)) else (if (0 ≤ l1 ∧ l1 < (4 : Int32)) then (oc (Rf 12 (l1.toNatClampNeg)) (f_H_passTick_L2 S Rf n (l1 + (1 : Int32)) I L) fun w38 => (if S[w38]? = some (.inl 3) then ((f_Cr_countTick w38 I L).bind fun q41 => (f_H_passTick_L2 S Rf n (l1 + (1 : Int32)) q41.1 q41.2)) else none)) else none))
set_option maxRecDepth 100000 in
set_option maxHeartbeats 4000000 in
theorem x_H_passTick_L2 {G : xG} {S : List xSh} {Rf : Nat → Nat → Option Nat} (hT : xTH S Rf) : ∀ (n : Nat) {l1 : Int32} {I : Nat → Nat → Int32} {L : Nat → Nat → Int64} {q : ((Nat → Nat → Int32) × (Nat → Nat → Int64))}, f_H_passTick_L2 S Rf n l1 I L = some q → X G 4 m_H_passTick 2 [(0, .ref (xP G 0)), (1, .int l1)] [] (S, I, L, Rf) (none, (S, q.1, q.2, Rf)) := by
  intro n
  induction n with
  | zero =>
    intro l1 I L q hf
    exact absurd (show none = some q from hf) (by simp)
  | succ n ih =>
    intro l1 I L q hf
    replace hf := (f_H_passTick_L2.eq_2 _ _ _ _ _ _).symm.trans hf
    refine X_iload_n (pc := 2) (i := 1) 1 dX11_passTick_2 rfl rfl ?_
    refine X_aload_n (pc := 3) (i := 0) 0 dX11_passTick_3 rfl rfl ?_
    refine X_get (pc := 4) (a := 0) (ci := 10) (j := 10) (.int (I 0 7)) (sh_0 hT) (by decide) k_504 rfl dX11_passTick_4 ?_
    by_cases c1 : (I 0 7) ≤ l1
    · replace hf := (if_pos c1).symm.trans hf
      refine X_icmp_ge_t (pc := 7) 31 dX11_passTick_7 (by decide) c1 ?_
      refine X_aload_n (pc := 31) (i := 0) 0 dX11_passTick_31 rfl rfl ?_
      refine X_getr (pc := 32) (a := 0) (ci := 10) (j := 0) (c := 1) (sh_0 hT) (by decide) k_494 (rf_0_0 hT) (fun _ h => h) dX11_passTick_32 ?_
      refine X_get (pc := 35) (a := 1) (ci := 5) (j := 12) (.int (I 1 12)) (sh_1 hT) (by decide) k_193 rfl dX11_passTick_35 ?_
      obtain ⟨x2, ex2, hf⟩ := bnd_e hf
      refine X_tope ex2 ?_
      refine X_istore_n (pc := 38) (i := 1) [(1, .int x2), (0, .ref (xP G 0))] dX11_passTick_38 rfl (by decide) rfl ?_
      refine X_iconst (pc := 39) (0 : Int32) dX11_passTick_39 (by decide) ?_
      refine X_istore_n (pc := 40) (i := 2) [(2, .int (0 : Int32)), (1, .int x2), (0, .ref (xP G 0))] dX11_passTick_40 rfl (by decide) rfl ?_
      exact X_lvs [2, 1, 0] rfl (x_H_passTick_L41 hT xF hf)
    · replace hf := (if_neg c1).symm.trans hf
      refine X_icmp_ge_f (pc := 7) 31 dX11_passTick_7 (by decide) c1 ?_
      refine X_aload_n (pc := 10) (i := 0) 0 dX11_passTick_10 rfl rfl ?_
      refine X_getr (pc := 11) (a := 0) (ci := 10) (j := 6) (c := 12) (sh_0 hT) (by decide) k_500 (rf_0_3 hT) (fun _ h => h) dX11_passTick_11 ?_
      refine X_iload_n (pc := 14) (i := 1) 1 dX11_passTick_14 rfl rfl ?_
      obtain ⟨c37, hf⟩ := gd_some hf
      rcases oc_cases hf with ⟨hr39, hf⟩ | ⟨w38, hr39, hf⟩
      · refine X_aaldN (pc := 15) (by decide) (sh_12 hT) (vp_in_lit (N := 4) c37 (by decide)) hr39 dX11_passTick_15 ?_
        refine X_astore_nN (pc := 16) (i := 2) [(2, .null), (0, .ref (xP G 0)), (1, .int l1)] dX11_passTick_16 rfl (by decide) rfl ?_
        refine X_aload_nN (pc := 17) (i := 2) 0 dX11_passTick_17 rfl rfl ?_
        refine X_ifnull_t (pc := 18) 25 dX11_passTick_18 (by decide) ?_
        refine X_iinc (pc := 25) (i := 1) (q := 2) (v := (l1 + (1 : Int32))) [(1, .int (l1 + (1 : Int32))), (2, .null), (0, .ref (xP G 0))] dX11_passTick_25 rfl rfl (by decide) rfl ?_
        refine X_goto (pc := 28) 2 dX11_passTick_28 (by decide) ?_
        exact X_lvs [2, 0] rfl (ih hf)
      · obtain ⟨hs40, hf⟩ := gd_some hf
        refine X_aaldS (pc := 15) (by decide) (sh_12 hT) (vp_in_lit (N := 4) c37 (by decide)) hr39 dX11_passTick_15 ?_
        refine X_astore_n (pc := 16) (i := 2) [(2, .ref (xP G w38)), (0, .ref (xP G 0)), (1, .int l1)] dX11_passTick_16 rfl (by decide) rfl ?_
        refine X_aload_n (pc := 17) (i := 2) 0 dX11_passTick_17 rfl rfl ?_
        refine X_ifnull_f (pc := 18) dX11_passTick_18 ?_
        refine X_aload_n (pc := 21) (i := 2) 0 dX11_passTick_21 rfl rfl ?_
        obtain ⟨q41, c42, hf⟩ := bd_some hf
        refine X_invV_v (pc := 22) (c_Cr_countTick hT hs40 c42) ok_Cr_countTick (ci := 3) hs40 k_787 k_788 k_789 nd_1 (by decide) rfl (Nat.le_of_ble_eq_true rfl) dX11_passTick_22 ?_
        refine X_iinc (pc := 25) (i := 1) (q := 2) (v := (l1 + (1 : Int32))) [(1, .int (l1 + (1 : Int32))), (2, .ref (xP G w38)), (0, .ref (xP G 0))] dX11_passTick_25 rfl rfl (by decide) rfl ?_
        refine X_goto (pc := 28) 2 dX11_passTick_28 (by decide) ?_
        exact X_lvs [2, 0] rfl (ih hf)
theorem u_H_passTick_L2 {S : List xSh} {Rf : Nat → Nat → Option Nat} : ∀ (n : Nat) {l1 : Int32} {I : Nat → Nat → Int32} {L : Nat → Nat → Int64} {q : ((Nat → Nat → Int32) × (Nat → Nat → Int64))}, f_H_passTick_L2 S Rf n l1 I L = some q → FR S [14, 2303] [] I q.1 L q.2 := by
  intro n
  induction n with
  | zero =>
    intro l1 I L q hf
    exact absurd (show none = some q from hf) (by simp)
  | succ n ih =>
    intro l1 I L q hf
    replace hf := (f_H_passTick_L2.eq_2 _ _ _ _ _ _).symm.trans hf
    by_cases c1 : (I 0 7) ≤ l1
    · replace hf := (if_pos c1).symm.trans hf
      obtain ⟨x2, ex2, hf⟩ := bnd_e hf
      exact FR.tr FR.rf (u_H_passTick_L41 xF hf) (by decide) (by decide)
    · replace hf := (if_neg c1).symm.trans hf
      obtain ⟨c37, hf⟩ := gd_some hf
      rcases oc_cases hf with ⟨hr39, hf⟩ | ⟨w38, hr39, hf⟩
      · exact FR.tr FR.rf (ih hf) (by decide) (by decide)
      · obtain ⟨hs40, hf⟩ := gd_some hf
        obtain ⟨q41, c42, hf⟩ := bd_some hf
        exact FR.tr (FR.tr FR.rf (u_Cr_countTick hs40 (q := q41) c42) (by decide) (by decide)) (ih hf) (by decide) (by decide)
def f_H_passTick (S : List xSh) (Rf : Nat → Nat → Option Nat) (I : Nat → Nat → Int32) (L : Nat → Nat → Int64) : Option ((Nat → Nat → Int32) × (Nat → Nat → Int64)) := (f_H_passTick_L2 S Rf xF (0 : Int32) I L)
set_option maxRecDepth 100000 in
set_option maxHeartbeats 4000000 in
theorem c_H_passTick {G : xG} {S : List xSh} {Rf : Nat → Nat → Option Nat} (hT : xTH S Rf) {I : Nat → Nat → Int32} {L : Nat → Nat → Int64} {q : ((Nat → Nat → Int32) × (Nat → Nat → Int64))} (hf : f_H_passTick S Rf I L = some q) : CT G 4 m_H_passTick [.ref (xP G 0)] (S, I, L, Rf) (none, (S, q.1, q.2, Rf)) := by
  refine CT.of (by decide +kernel) (Nat.le_of_ble_eq_true rfl) ?_
  show X G 4 m_H_passTick 0 [(0, .ref (xP G 0))] [] (S, I, L, Rf) (none, (S, q.1, q.2, Rf))
  replace hf := (f_H_passTick.eq_1 _ _ _ _).symm.trans hf
  refine X_iconst (pc := 0) (0 : Int32) dX11_passTick_0 (by decide) ?_
  refine X_istore_n (pc := 1) (i := 1) [(1, .int (0 : Int32)), (0, .ref (xP G 0))] dX11_passTick_1 rfl (by decide) rfl ?_
  exact X_lvs [1, 0] rfl (x_H_passTick_L2 hT xF hf)
theorem u_H_passTick {S : List xSh} {Rf : Nat → Nat → Option Nat} {I : Nat → Nat → Int32} {L : Nat → Nat → Int64} {q : ((Nat → Nat → Int32) × (Nat → Nat → Int64))} (hf : f_H_passTick S Rf I L = some q) : FR S [14, 2303] [] I q.1 L q.2 := by
  replace hf := (f_H_passTick.eq_1 _ _ _ _).symm.trans hf
  exact FR.tr FR.rf (u_H_passTick_L2 xF hf) (by decide) (by decide)

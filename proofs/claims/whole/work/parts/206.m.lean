theorem dX8_nextOfTwelve_0 : decode cX8_nextOfTwelve 0 = .ok (.iload_n 0, 1) := by decide +kernel
theorem dX8_nextOfTwelve_1 : decode cX8_nextOfTwelve 1 = .ok (.bipush 12, 2) := by decide +kernel
theorem dX8_nextOfTwelve_3 : decode cX8_nextOfTwelve 3 = .ok (.if_icmp .ge 9, 3) := by decide +kernel
theorem dX8_nextOfTwelve_6 : decode cX8_nextOfTwelve 6 = .ok (.iload_n 0, 1) := by decide +kernel
theorem dX8_nextOfTwelve_7 : decode cX8_nextOfTwelve 7 = .ok (.iconst 1, 1) := by decide +kernel
theorem dX8_nextOfTwelve_8 : decode cX8_nextOfTwelve 8 = .ok (.iadd, 1) := by decide +kernel
theorem dX8_nextOfTwelve_9 : decode cX8_nextOfTwelve 9 = .ok (.goto 4, 3) := by decide +kernel
theorem dX8_nextOfTwelve_12 : decode cX8_nextOfTwelve 12 = .ok (.iconst 1, 1) := by decide +kernel
theorem dX8_nextOfTwelve_13 : decode cX8_nextOfTwelve 13 = .ok (.ireturn, 1) := by decide +kernel
def f_St_nextOfTwelve (a0 : Int32) : Int32 := (if (12 : Int32) ≤ a0 then (1 : Int32) else (a0 + (1 : Int32)))
set_option maxRecDepth 100000 in
set_option maxHeartbeats 4000000 in
theorem c_St_nextOfTwelve {G : xG} {S : List xSh} {Rf : Nat → Nat → Option Nat} (hT : xTH S Rf) {a0 : Int32} {I : Nat → Nat → Int32} {L : Nat → Nat → Int64} {q : Int32} (hf : f_St_nextOfTwelve a0 = q) : CT G 1 m_St_nextOfTwelve [.int a0] (S, I, L, Rf) (some (.int q), (S, I, L, Rf)) := by
  refine CT.of (by decide +kernel) (Nat.le_of_ble_eq_true rfl) ?_
  show X G 1 m_St_nextOfTwelve 0 [(0, .int a0)] [] (S, I, L, Rf) (some (.int q), (S, I, L, Rf))
  replace hf := (f_St_nextOfTwelve.eq_1 _).symm.trans hf
  refine X_iload_n (pc := 0) (i := 0) 0 dX8_nextOfTwelve_0 rfl rfl ?_
  refine X_bipush (pc := 1) (12 : Int32) dX8_nextOfTwelve_1 (by decide) ?_
  by_cases c1 : (12 : Int32) ≤ a0
  · replace hf := (if_pos c1).symm.trans hf
    refine X_icmp_ge_t (pc := 3) 12 dX8_nextOfTwelve_3 (by decide) c1 ?_
    refine X_iconst (pc := 12) (1 : Int32) dX8_nextOfTwelve_12 (by decide) ?_
    subst hf
    exact X_ireturn (pc := 13) rfl dX8_nextOfTwelve_13
  · replace hf := (if_neg c1).symm.trans hf
    refine X_icmp_ge_f (pc := 3) 12 dX8_nextOfTwelve_3 (by decide) c1 ?_
    refine X_iload_n (pc := 6) (i := 0) 0 dX8_nextOfTwelve_6 rfl rfl ?_
    refine X_iconst (pc := 7) (1 : Int32) dX8_nextOfTwelve_7 (by decide) ?_
    refine X_iadd (pc := 8) dX8_nextOfTwelve_8 ?_
    refine X_goto (pc := 9) 13 dX8_nextOfTwelve_9 (by decide) ?_
    subst hf
    exact X_ireturn (pc := 13) rfl dX8_nextOfTwelve_13
def f_Ro_open_13 (I : Nat → Nat → Int32) (L : Nat → Nat → Int64) : Option (Int32 × (Nat → Nat → Int32) × (Nat → Nat → Int64)) := (bnd ((I 13 3) + (1 : Int32)) fun x1 => (if (I 13 1) < x1 then (some ((-1 : Int32), (uI I 13 3 x1), L)) else (some ((x1 - (1 : Int32)), (uI I 13 3 x1), L))))
set_option maxRecDepth 100000 in
set_option maxHeartbeats 4000000 in
theorem c_Ro_open_13 {G : xG} {S : List xSh} {Rf : Nat → Nat → Option Nat} (hT : xTH S Rf) {I : Nat → Nat → Int32} {L : Nat → Nat → Int64} {q : (Int32 × (Nat → Nat → Int32) × (Nat → Nat → Int64))} (hf : f_Ro_open_13 I L = some q) : CT G 1 m_Ro_open [.ref (xB G + 13)] (S, I, L, Rf) (some (.int q.1), (S, q.2.1, q.2.2, Rf)) := by
  refine CT.of (by decide +kernel) (Nat.le_of_ble_eq_true rfl) ?_
  show X G 1 m_Ro_open 0 [(0, .ref (xB G + 13))] [] (S, I, L, Rf) (some (.int q.1), (S, q.2.1, q.2.2, Rf))
  replace hf := (f_Ro_open_13.eq_1 _ _).symm.trans hf
  refine X_aload_n (pc := 0) (i := 0) 0 dX7_open_0 rfl rfl ?_
  refine X_dup (pc := 1) dX7_open_1 rfl ?_
  refine X_get (pc := 2) (a := 13) (ci := 7) (j := 3) (.int (I 13 3)) (sh_13 hT) (by decide) k_160 rfl dX7_open_2 ?_
  refine X_iconst (pc := 5) (1 : Int32) dX7_open_5 (by decide) ?_
  refine X_iadd (pc := 6) dX7_open_6 ?_
  obtain ⟨x1, ex1, hf⟩ := bnd_e hf
  refine X_tope ex1 ?_
  refine X_puti (pc := 7) (a := 13) (ci := 7) (j := 3) false (sh_13 hT) (by decide) k_160 rfl (fun h => by cases h) rfl dX7_open_7 ?_
  refine X_aload_n (pc := 10) (i := 0) 0 dX7_open_10 rfl rfl ?_
  refine X_get (pc := 11) (a := 13) (ci := 7) (j := 3) (.int x1) (sh_13 hT) (by decide) k_160 rfl dX7_open_11 ?_
  refine X_aload_n (pc := 14) (i := 0) 0 dX7_open_14 rfl rfl ?_
  refine X_get (pc := 15) (a := 13) (ci := 7) (j := 1) (.int (I 13 1)) (sh_13 hT) (by decide) k_158 rfl dX7_open_15 ?_
  by_cases c2 : (I 13 1) < x1
  · replace hf := (if_pos c2).symm.trans hf
    refine X_icmp_gt_t (pc := 18) 30 dX7_open_18 (by decide) c2 ?_
    refine X_iconst (pc := 30) (-1 : Int32) dX7_open_30 (by decide) ?_
    cases hf
    exact X_ireturn (pc := 31) rfl dX7_open_31
  · replace hf := (if_neg c2).symm.trans hf
    refine X_icmp_gt_f (pc := 18) 30 dX7_open_18 (by decide) c2 ?_
    refine X_aload_n (pc := 21) (i := 0) 0 dX7_open_21 rfl rfl ?_
    refine X_get (pc := 22) (a := 13) (ci := 7) (j := 3) (.int x1) (sh_13 hT) (by decide) k_160 rfl dX7_open_22 ?_
    refine X_iconst (pc := 25) (1 : Int32) dX7_open_25 (by decide) ?_
    refine X_isub (pc := 26) dX7_open_26 ?_
    refine X_goto (pc := 27) 31 dX7_open_27 (by decide) ?_
    cases hf
    exact X_ireturn (pc := 31) rfl dX7_open_31
theorem u_Ro_open_13 {S : List xSh} {I : Nat → Nat → Int32} {L : Nat → Nat → Int64} {q : (Int32 × (Nat → Nat → Int32) × (Nat → Nat → Int64))} (hf : f_Ro_open_13 I L = some q) : FR S [2303] [] I q.2.1 L q.2.2 := by
  replace hf := (f_Ro_open_13.eq_1 _ _).symm.trans hf
  obtain ⟨x1, ex1, hf⟩ := bnd_e hf
  by_cases c2 : (I 13 1) < x1
  · replace hf := (if_pos c2).symm.trans hf
    cases hf
    exact (FR.fi FR.rf (by decide))
  · replace hf := (if_neg c2).symm.trans hf
    cases hf
    exact (FR.fi FR.rf (by decide))
def f_Ro_write_13 (a0 : Int32) (a1 : Int32) (a2 : Int32) (I : Nat → Nat → Int32) (L : Nat → Nat → Int64) : Option ((Nat → Nat → Int32) × (Nat → Nat → Int64)) := (bnd ((a0 * (I 13 0)) + a1) fun x1 => (if a0 < (0 : Int32) then (some (I, L)) else (if a1 < (0 : Int32) then (some (I, L)) else (if (I 13 0) ≤ a1 then (some (I, L)) else (if (3000 : Int32) ≤ x1 then (some (I, L)) else (if (0 ≤ x1 ∧ x1 < (3000 : Int32)) then (some ((uI I 14 (x1.toNatClampNeg) a2), L)) else none))))))
set_option maxRecDepth 100000 in
set_option maxHeartbeats 4000000 in
theorem c_Ro_write_13 {G : xG} {S : List xSh} {Rf : Nat → Nat → Option Nat} (hT : xTH S Rf) {a0 : Int32} {a1 : Int32} {a2 : Int32} {I : Nat → Nat → Int32} {L : Nat → Nat → Int64} {q : ((Nat → Nat → Int32) × (Nat → Nat → Int64))} (hf : f_Ro_write_13 a0 a1 a2 I L = some q) : CT G 1 m_Ro_write [.ref (xB G + 13), .int a0, .int a1, .int a2] (S, I, L, Rf) (none, (S, q.1, q.2, Rf)) := by
  refine CT.of (by decide +kernel) (Nat.le_of_ble_eq_true rfl) ?_
  show X G 1 m_Ro_write 0 [(0, .ref (xB G + 13)), (1, .int a0), (2, .int a1), (3, .int a2)] [] (S, I, L, Rf) (none, (S, q.1, q.2, Rf))
  replace hf := (f_Ro_write_13.eq_1 _ _ _ _ _).symm.trans hf
  refine X_iload_n (pc := 0) (i := 1) 1 dX7_write_0 rfl rfl ?_
  refine X_aload_n (pc := 1) (i := 0) 0 dX7_write_1 rfl rfl ?_
  refine X_get (pc := 2) (a := 13) (ci := 7) (j := 0) (.int (I 13 0)) (sh_13 hT) (by decide) k_157 rfl dX7_write_2 ?_
  refine X_imul (pc := 5) dX7_write_5 ?_
  refine X_iload_n (pc := 6) (i := 2) 2 dX7_write_6 rfl rfl ?_
  refine X_iadd (pc := 7) dX7_write_7 ?_
  obtain ⟨x1, ex1, hf⟩ := bnd_e hf
  refine X_tope ex1 ?_
  refine X_istore (pc := 8) [(4, .int x1), (0, .ref (xB G + 13)), (1, .int a0), (2, .int a1), (3, .int a2)] dX7_write_8 (by decide) rfl ?_
  refine X_iload_n (pc := 10) (i := 1) 2 dX7_write_10 rfl rfl ?_
  by_cases c2 : a0 < (0 : Int32)
  · replace hf := (if_pos c2).symm.trans hf
    refine X_if_lt_t (pc := 11) 44 dX7_write_11 (by decide) c2 ?_
    cases hf
    exact X_return (pc := 44) rfl dX7_write_44
  · replace hf := (if_neg c2).symm.trans hf
    refine X_if_lt_f (pc := 11) 44 dX7_write_11 (by decide) c2 ?_
    refine X_iload_n (pc := 14) (i := 2) 3 dX7_write_14 rfl rfl ?_
    by_cases c3 : a1 < (0 : Int32)
    · replace hf := (if_pos c3).symm.trans hf
      refine X_if_lt_t (pc := 15) 44 dX7_write_15 (by decide) c3 ?_
      cases hf
      exact X_return (pc := 44) rfl dX7_write_44
    · replace hf := (if_neg c3).symm.trans hf
      refine X_if_lt_f (pc := 15) 44 dX7_write_15 (by decide) c3 ?_
      refine X_iload_n (pc := 18) (i := 2) 3 dX7_write_18 rfl rfl ?_
      refine X_aload_n (pc := 19) (i := 0) 1 dX7_write_19 rfl rfl ?_
      refine X_get (pc := 20) (a := 13) (ci := 7) (j := 0) (.int (I 13 0)) (sh_13 hT) (by decide) k_157 rfl dX7_write_20 ?_
      by_cases c4 : (I 13 0) ≤ a1
      · replace hf := (if_pos c4).symm.trans hf
        refine X_icmp_ge_t (pc := 23) 44 dX7_write_23 (by decide) c4 ?_
        cases hf
        exact X_return (pc := 44) rfl dX7_write_44
      · replace hf := (if_neg c4).symm.trans hf
        refine X_icmp_ge_f (pc := 23) 44 dX7_write_23 (by decide) c4 ?_
        refine X_iload (pc := 26) 0 dX7_write_26 rfl ?_
        refine X_aload_n (pc := 28) (i := 0) 1 dX7_write_28 rfl rfl ?_
        refine X_getr (pc := 29) (a := 13) (ci := 7) (j := 2) (c := 14) (sh_13 hT) (by decide) k_159 (rf_13_2 hT) (fun _ h => h) dX7_write_29 ?_
        refine X_alen (pc := 32) (3000 : Int32) (by decide) (sh_14 hT) (by decide) dX7_write_32 ?_
        by_cases c5 : (3000 : Int32) ≤ x1
        · replace hf := (if_pos c5).symm.trans hf
          refine X_icmp_ge_t (pc := 33) 44 dX7_write_33 (by decide) c5 ?_
          cases hf
          exact X_return (pc := 44) rfl dX7_write_44
        · replace hf := (if_neg c5).symm.trans hf
          refine X_icmp_ge_f (pc := 33) 44 dX7_write_33 (by decide) c5 ?_
          refine X_aload_n (pc := 36) (i := 0) 1 dX7_write_36 rfl rfl ?_
          refine X_getr (pc := 37) (a := 13) (ci := 7) (j := 2) (c := 14) (sh_13 hT) (by decide) k_159 (rf_13_2 hT) (fun _ h => h) dX7_write_37 ?_
          refine X_iload (pc := 40) 0 dX7_write_40 rfl ?_
          refine X_iload_n (pc := 42) (i := 3) 4 dX7_write_42 rfl rfl ?_
          obtain ⟨c6, hf⟩ := gd_some hf
          refine X_iastj (pc := 43) (j := (x1.toNatClampNeg)) (sh_14 hT) (vp_in_lit (N := 3000) c6 (by decide)) rfl dX7_write_43 ?_
          cases hf
          exact X_return (pc := 44) rfl dX7_write_44
theorem u_Ro_write_13 {S : List xSh} {a0 : Int32} {a1 : Int32} {a2 : Int32} {I : Nat → Nat → Int32} {L : Nat → Nat → Int64} {q : ((Nat → Nat → Int32) × (Nat → Nat → Int64))} (hf : f_Ro_write_13 a0 a1 a2 I L = some q) : FR S [14] [] I q.1 L q.2 := by
  replace hf := (f_Ro_write_13.eq_1 _ _ _ _ _).symm.trans hf
  obtain ⟨x1, ex1, hf⟩ := bnd_e hf
  by_cases c2 : a0 < (0 : Int32)
  · replace hf := (if_pos c2).symm.trans hf
    cases hf
    exact FR.rf
  · replace hf := (if_neg c2).symm.trans hf
    by_cases c3 : a1 < (0 : Int32)
    · replace hf := (if_pos c3).symm.trans hf
      cases hf
      exact FR.rf
    · replace hf := (if_neg c3).symm.trans hf
      by_cases c4 : (I 13 0) ≤ a1
      · replace hf := (if_pos c4).symm.trans hf
        cases hf
        exact FR.rf
      · replace hf := (if_neg c4).symm.trans hf
        by_cases c5 : (3000 : Int32) ≤ x1
        · replace hf := (if_pos c5).symm.trans hf
          cases hf
          exact FR.rf
        · replace hf := (if_neg c5).symm.trans hf
          obtain ⟨c6, hf⟩ := gd_some hf
          cases hf
          exact (FR.ai FR.rf (by decide))
theorem dX8_sound_0 : decode cX8_sound 0 = .ok (.aload_n 0, 1) := by decide +kernel
theorem dX8_sound_1 : decode cX8_sound 1 = .ok (.getfield 22, 3) := by decide +kernel
theorem dX8_sound_4 : decode cX8_sound 4 = .ok (.istore_n 2, 1) := by decide +kernel
theorem dX8_sound_5 : decode cX8_sound 5 = .ok (.aload_n 0, 1) := by decide +kernel
theorem dX8_sound_6 : decode cX8_sound 6 = .ok (.getfield 9, 3) := by decide +kernel
theorem dX8_sound_9 : decode cX8_sound 9 = .ok (.iconst 1, 1) := by decide +kernel
theorem dX8_sound_10 : decode cX8_sound 10 = .ok (.if_icmp .ne 19, 3) := by decide +kernel
theorem dX8_sound_13 : decode cX8_sound 13 = .ok (.aload_n 0, 1) := by decide +kernel
theorem dX8_sound_14 : decode cX8_sound 14 = .ok (.getfield 25, 3) := by decide +kernel
theorem dX8_sound_17 : decode cX8_sound 17 = .ok (.istore_n 2, 1) := by decide +kernel
theorem dX8_sound_18 : decode cX8_sound 18 = .ok (.aload_n 0, 1) := by decide +kernel
theorem dX8_sound_19 : decode cX8_sound 19 = .ok (.aload_n 0, 1) := by decide +kernel
theorem dX8_sound_20 : decode cX8_sound 20 = .ok (.getfield 25, 3) := by decide +kernel
theorem dX8_sound_23 : decode cX8_sound 23 = .ok (.invokestatic 31, 3) := by decide +kernel
theorem dX8_sound_26 : decode cX8_sound 26 = .ok (.putfield 25, 3) := by decide +kernel
theorem dX8_sound_29 : decode cX8_sound 29 = .ok (.aload_n 0, 1) := by decide +kernel
theorem dX8_sound_30 : decode cX8_sound 30 = .ok (.getfield 18, 3) := by decide +kernel
theorem dX8_sound_33 : decode cX8_sound 33 = .ok (.invokevirtual 38, 3) := by decide +kernel
theorem dX8_sound_36 : decode cX8_sound 36 = .ok (.istore_n 3, 1) := by decide +kernel
theorem dX8_sound_37 : decode cX8_sound 37 = .ok (.aload_n 0, 1) := by decide +kernel
theorem dX8_sound_38 : decode cX8_sound 38 = .ok (.getfield 18, 3) := by decide +kernel
theorem dX8_sound_41 : decode cX8_sound 41 = .ok (.iload_n 3, 1) := by decide +kernel
theorem dX8_sound_42 : decode cX8_sound 42 = .ok (.iconst 0, 1) := by decide +kernel
theorem dX8_sound_43 : decode cX8_sound 43 = .ok (.iload_n 1, 1) := by decide +kernel
theorem dX8_sound_44 : decode cX8_sound 44 = .ok (.invokevirtual 44, 3) := by decide +kernel
theorem dX8_sound_47 : decode cX8_sound 47 = .ok (.aload_n 0, 1) := by decide +kernel
theorem dX8_sound_48 : decode cX8_sound 48 = .ok (.getfield 18, 3) := by decide +kernel
theorem dX8_sound_51 : decode cX8_sound 51 = .ok (.iload_n 3, 1) := by decide +kernel
theorem dX8_sound_52 : decode cX8_sound 52 = .ok (.iconst 1, 1) := by decide +kernel
theorem dX8_sound_53 : decode cX8_sound 53 = .ok (.aload_n 0, 1) := by decide +kernel
theorem dX8_sound_54 : decode cX8_sound 54 = .ok (.getfield 15, 3) := by decide +kernel
theorem dX8_sound_57 : decode cX8_sound 57 = .ok (.invokevirtual 44, 3) := by decide +kernel
theorem dX8_sound_60 : decode cX8_sound 60 = .ok (.aload_n 0, 1) := by decide +kernel
theorem dX8_sound_61 : decode cX8_sound 61 = .ok (.getfield 18, 3) := by decide +kernel
theorem dX8_sound_64 : decode cX8_sound 64 = .ok (.iload_n 3, 1) := by decide +kernel
theorem dX8_sound_65 : decode cX8_sound 65 = .ok (.iconst 2, 1) := by decide +kernel
theorem dX8_sound_66 : decode cX8_sound 66 = .ok (.iload_n 2, 1) := by decide +kernel
theorem dX8_sound_67 : decode cX8_sound 67 = .ok (.invokevirtual 44, 3) := by decide +kernel
theorem dX8_sound_70 : decode cX8_sound 70 = .ok (.iload_n 2, 1) := by decide +kernel
theorem dX8_sound_71 : decode cX8_sound 71 = .ok (.ireturn, 1) := by decide +kernel
def f_St_sound_L29 (S : List xSh) (Rf : Nat → Nat → Option Nat) (w0 : Nat) (l0 : Nat) (l1 : Int32) (l2 : Int32) (I : (Nat → Nat → Int32)) (L : (Nat → Nat → Int64)) : Option (Int32 × (Nat → Nat → Int32) × (Nat → Nat → Int64)) := (if Rf l0 4 = some 13 then ((f_Ro_open_13 I L).bind fun q6 => (if Rf l0 4 = some 13 then ((f_Ro_write_13 q6.1 (0 : Int32) l1 q6.2.1 q6.2.2).bind fun q9 => (if Rf l0 4 = some 13 then ((f_Ro_write_13 q6.1 (1 : Int32) (q9.1 l0 3) q9.1 q9.2).bind fun q12 => (if Rf l0 4 = some 13 then ((f_Ro_write_13 q6.1 (2 : Int32) l2 q12.1 q12.2).bind fun q15 => (some (l2, q15.1, q15.2))) else none)) else none)) else none)) else none)
set_option maxRecDepth 100000 in
set_option maxHeartbeats 4000000 in
theorem x_St_sound_L29 {G : xG} {S : List xSh} {Rf : Nat → Nat → Option Nat} (hT : xTH S Rf) {w0 : Nat} (hw0 : S[w0]? = some (.inl 8)) {l0 : Nat} {l1 : Int32} {l2 : Int32} {I : Nat → Nat → Int32} {L : Nat → Nat → Int64} {q : (Int32 × (Nat → Nat → Int32) × (Nat → Nat → Int64))} (hl0 : S[l0]? = some (.inl 8)) (hf : f_St_sound_L29 S Rf w0 l0 l1 l2 I L = some q) : X G 2 m_St_sound 29 [(0, .ref (xB G + l0)), (1, .int l1), (2, .int l2)] [] (S, I, L, Rf) (some (.int q.1), (S, q.2.1, q.2.2, Rf)) := by
  replace hf := (f_St_sound_L29.eq_1 _ _ _ _ _ _ _ _).symm.trans hf
  refine X_aload_n (pc := 29) (i := 0) 0 dX8_sound_29 rfl rfl ?_
  obtain ⟨c5, hf⟩ := gd_some hf
  refine X_getr (pc := 30) (a := l0) (ci := 8) (j := 4) (c := 13) hl0 (by decide) k_625 c5 (fun _ h => h) dX8_sound_30 ?_
  obtain ⟨q6, c7, hf⟩ := bd_some hf
  refine X_invV_i (pc := 33) (c_Ro_open_13 hT c7) ok_Ro_open (ci := 7) (sh_13 hT) k_796 k_695 k_696 nd_4 (by decide) rfl (Nat.le_of_ble_eq_true rfl) dX8_sound_33 ?_
  refine X_istore_n (pc := 36) (i := 3) [(3, .int q6.1), (0, .ref (xB G + l0)), (1, .int l1), (2, .int l2)] dX8_sound_36 rfl (by decide) rfl ?_
  refine X_aload_n (pc := 37) (i := 0) 1 dX8_sound_37 rfl rfl ?_
  obtain ⟨c8, hf⟩ := gd_some hf
  refine X_getr (pc := 38) (a := l0) (ci := 8) (j := 4) (c := 13) hl0 (by decide) k_625 c8 (fun _ h => h) dX8_sound_38 ?_
  refine X_iload_n (pc := 41) (i := 3) 0 dX8_sound_41 rfl rfl ?_
  refine X_iconst (pc := 42) (0 : Int32) dX8_sound_42 (by decide) ?_
  refine X_iload_n (pc := 43) (i := 1) 2 dX8_sound_43 rfl rfl ?_
  obtain ⟨q9, c10, hf⟩ := bd_some hf
  refine X_invV_v (pc := 44) (c_Ro_write_13 hT c10) ok_Ro_write (ci := 7) (sh_13 hT) k_797 k_699 k_700 nd_7 (by decide) rfl (Nat.le_of_ble_eq_true rfl) dX8_sound_44 ?_
  refine X_aload_n (pc := 47) (i := 0) 1 dX8_sound_47 rfl rfl ?_
  obtain ⟨c11, hf⟩ := gd_some hf
  refine X_getr (pc := 48) (a := l0) (ci := 8) (j := 4) (c := 13) hl0 (by decide) k_625 c11 (fun _ h => h) dX8_sound_48 ?_
  refine X_iload_n (pc := 51) (i := 3) 0 dX8_sound_51 rfl rfl ?_
  refine X_iconst (pc := 52) (1 : Int32) dX8_sound_52 (by decide) ?_
  refine X_aload_n (pc := 53) (i := 0) 1 dX8_sound_53 rfl rfl ?_
  refine X_get (pc := 54) (a := l0) (ci := 8) (j := 3) (.int (q9.1 l0 3)) hl0 (by decide) k_624 rfl dX8_sound_54 ?_
  obtain ⟨q12, c13, hf⟩ := bd_some hf
  refine X_invV_v (pc := 57) (c_Ro_write_13 hT c13) ok_Ro_write (ci := 7) (sh_13 hT) k_797 k_699 k_700 nd_7 (by decide) rfl (Nat.le_of_ble_eq_true rfl) dX8_sound_57 ?_
  refine X_aload_n (pc := 60) (i := 0) 1 dX8_sound_60 rfl rfl ?_
  obtain ⟨c14, hf⟩ := gd_some hf
  refine X_getr (pc := 61) (a := l0) (ci := 8) (j := 4) (c := 13) hl0 (by decide) k_625 c14 (fun _ h => h) dX8_sound_61 ?_
  refine X_iload_n (pc := 64) (i := 3) 0 dX8_sound_64 rfl rfl ?_
  refine X_iconst (pc := 65) (2 : Int32) dX8_sound_65 (by decide) ?_
  refine X_iload_n (pc := 66) (i := 2) 3 dX8_sound_66 rfl rfl ?_
  obtain ⟨q15, c16, hf⟩ := bd_some hf
  refine X_invV_v (pc := 67) (c_Ro_write_13 hT c16) ok_Ro_write (ci := 7) (sh_13 hT) k_797 k_699 k_700 nd_7 (by decide) rfl (Nat.le_of_ble_eq_true rfl) dX8_sound_67 ?_
  refine X_iload_n (pc := 70) (i := 2) 3 dX8_sound_70 rfl rfl ?_
  cases hf
  exact X_ireturn (pc := 71) rfl dX8_sound_71
theorem u_St_sound_L29 {S : List xSh} {Rf : Nat → Nat → Option Nat} {w0 : Nat} (hw0 : S[w0]? = some (.inl 8)) {l0 : Nat} {l1 : Int32} {l2 : Int32} {I : Nat → Nat → Int32} {L : Nat → Nat → Int64} {q : (Int32 × (Nat → Nat → Int32) × (Nat → Nat → Int64))} (hl0 : S[l0]? = some (.inl 8)) (hf : f_St_sound_L29 S Rf w0 l0 l1 l2 I L = some q) : FR S [14, 2303] [] I q.2.1 L q.2.2 := by
  replace hf := (f_St_sound_L29.eq_1 _ _ _ _ _ _ _ _).symm.trans hf
  obtain ⟨c5, hf⟩ := gd_some hf
  obtain ⟨q6, c7, hf⟩ := bd_some hf
  obtain ⟨c8, hf⟩ := gd_some hf
  obtain ⟨q9, c10, hf⟩ := bd_some hf
  obtain ⟨c11, hf⟩ := gd_some hf
  obtain ⟨q12, c13, hf⟩ := bd_some hf
  obtain ⟨c14, hf⟩ := gd_some hf
  obtain ⟨q15, c16, hf⟩ := bd_some hf
  cases hf
  exact (FR.tr (FR.tr (FR.tr (FR.tr FR.rf (u_Ro_open_13 (q := q6) c7) (by decide) (by decide)) (u_Ro_write_13 (q := q9) c10) (by decide) (by decide)) (u_Ro_write_13 (q := q12) c13) (by decide) (by decide)) (u_Ro_write_13 (q := q15) c16) (by decide) (by decide))
def f_St_sound (S : List xSh) (Rf : Nat → Nat → Option Nat) (w0 : Nat) (a0 : Int32) (I : Nat → Nat → Int32) (L : Nat → Nat → Int64) : Option (Int32 × (Nat → Nat → Int32) × (Nat → Nat → Int64)) := (bnd (I w0 5) fun x1 => (if (I w0 2) = (1 : Int32) then (bnd (I w0 6) fun x3 => (bnd (f_St_nextOfTwelve (I w0 6)) fun x4 => (f_St_sound_L29 S Rf w0 w0 a0 x3 (uI I w0 6 x4) L))) else (f_St_sound_L29 S Rf w0 w0 a0 x1 I L)))
set_option maxRecDepth 100000 in
set_option maxHeartbeats 4000000 in
theorem c_St_sound {G : xG} {S : List xSh} {Rf : Nat → Nat → Option Nat} (hT : xTH S Rf) {w0 : Nat} {a0 : Int32} (hw0 : S[w0]? = some (.inl 8)) {I : Nat → Nat → Int32} {L : Nat → Nat → Int64} {q : (Int32 × (Nat → Nat → Int32) × (Nat → Nat → Int64))} (hf : f_St_sound S Rf w0 a0 I L = some q) : CT G 2 m_St_sound [.ref (xB G + w0), .int a0] (S, I, L, Rf) (some (.int q.1), (S, q.2.1, q.2.2, Rf)) := by
  refine CT.of (by decide +kernel) (Nat.le_of_ble_eq_true rfl) ?_
  show X G 2 m_St_sound 0 [(0, .ref (xB G + w0)), (1, .int a0)] [] (S, I, L, Rf) (some (.int q.1), (S, q.2.1, q.2.2, Rf))
  replace hf := (f_St_sound.eq_1 _ _ _ _ _ _).symm.trans hf
  refine X_aload_n (pc := 0) (i := 0) 0 dX8_sound_0 rfl rfl ?_
  refine X_get (pc := 1) (a := w0) (ci := 8) (j := 5) (.int (I w0 5)) hw0 (by decide) k_626 rfl dX8_sound_1 ?_
  obtain ⟨x1, ex1, hf⟩ := bnd_e hf
  refine X_tope ex1 ?_
  refine X_istore_n (pc := 4) (i := 2) [(2, .int x1), (0, .ref (xB G + w0)), (1, .int a0)] dX8_sound_4 rfl (by decide) rfl ?_
  refine X_aload_n (pc := 5) (i := 0) 1 dX8_sound_5 rfl rfl ?_
  refine X_get (pc := 6) (a := w0) (ci := 8) (j := 2) (.int (I w0 2)) hw0 (by decide) k_623 rfl dX8_sound_6 ?_
  refine X_iconst (pc := 9) (1 : Int32) dX8_sound_9 (by decide) ?_
  by_cases c2 : (I w0 2) = (1 : Int32)
  · replace hf := (if_pos c2).symm.trans hf
    refine X_icmp_ne_f (pc := 10) 29 dX8_sound_10 (by decide) c2 ?_
    refine X_aload_n (pc := 13) (i := 0) 1 dX8_sound_13 rfl rfl ?_
    refine X_get (pc := 14) (a := w0) (ci := 8) (j := 6) (.int (I w0 6)) hw0 (by decide) k_627 rfl dX8_sound_14 ?_
    obtain ⟨x3, ex3, hf⟩ := bnd_e hf
    refine X_tope ex3 ?_
    refine X_istore_n (pc := 17) (i := 2) [(2, .int x3), (0, .ref (xB G + w0)), (1, .int a0)] dX8_sound_17 rfl (by decide) rfl ?_
    refine X_aload_n (pc := 18) (i := 0) 1 dX8_sound_18 rfl rfl ?_
    refine X_aload_n (pc := 19) (i := 0) 1 dX8_sound_19 rfl rfl ?_
    refine X_get (pc := 20) (a := w0) (ci := 8) (j := 6) (.int (I w0 6)) hw0 (by decide) k_627 rfl dX8_sound_20 ?_
    refine X_invS_i (pc := 23) (c_St_nextOfTwelve hT rfl) ok_St_nextOfTwelve k_789 k_790 nd_8 (by decide) rfl (Nat.le_of_ble_eq_true rfl) dX8_sound_23 ?_
    obtain ⟨x4, ex4, hf⟩ := bnd_e hf
    refine X_tope ex4 ?_
    refine X_puti (pc := 26) (a := w0) (ci := 8) (j := 6) false hw0 (by decide) k_627 rfl (fun h => by cases h) rfl dX8_sound_26 ?_
    exact X_lvs [1, 2, 0] rfl (x_St_sound_L29 hT hw0 hw0 hf)
  · replace hf := (if_neg c2).symm.trans hf
    refine X_icmp_ne_t (pc := 10) 29 dX8_sound_10 (by decide) c2 ?_
    exact X_lvs [1, 2, 0] rfl (x_St_sound_L29 hT hw0 hw0 hf)
theorem u_St_sound {S : List xSh} {Rf : Nat → Nat → Option Nat} {w0 : Nat} {a0 : Int32} (hw0 : S[w0]? = some (.inl 8)) {I : Nat → Nat → Int32} {L : Nat → Nat → Int64} {q : (Int32 × (Nat → Nat → Int32) × (Nat → Nat → Int64))} (hf : f_St_sound S Rf w0 a0 I L = some q) : FR S [14, 2303] [] I q.2.1 L q.2.2 := by
  replace hf := (f_St_sound.eq_1 _ _ _ _ _ _).symm.trans hf
  obtain ⟨x1, ex1, hf⟩ := bnd_e hf
  by_cases c2 : (I w0 2) = (1 : Int32)
  · replace hf := (if_pos c2).symm.trans hf
    obtain ⟨x3, ex3, hf⟩ := bnd_e hf
    obtain ⟨x4, ex4, hf⟩ := bnd_e hf
    exact FR.tr (FR.dy FR.rf hw0 (by decide)) (u_St_sound_L29 hw0 hw0 hf) (by decide) (by decide)
  · replace hf := (if_neg c2).symm.trans hf
    exact FR.tr FR.rf (u_St_sound_L29 hw0 hw0 hf) (by decide) (by decide)
theorem dX8_advance_0 : decode cX8_advance 0 = .ok (.aload_n 0, 1) := by decide +kernel
theorem dX8_advance_1 : decode cX8_advance 1 = .ok (.aload_n 0, 1) := by decide +kernel
theorem dX8_advance_2 : decode cX8_advance 2 = .ok (.getfield 22, 3) := by decide +kernel
theorem dX8_advance_5 : decode cX8_advance 5 = .ok (.invokestatic 31, 3) := by decide +kernel
theorem dX8_advance_8 : decode cX8_advance 8 = .ok (.putfield 22, 3) := by decide +kernel
theorem dX8_advance_11 : decode cX8_advance 11 = .ok (.aload_n 0, 1) := by decide +kernel
theorem dX8_advance_12 : decode cX8_advance 12 = .ok (.getfield 28, 3) := by decide +kernel
theorem dX8_advance_15 : decode cX8_advance 15 = .ok (.ifCond .ne 9, 3) := by decide +kernel
theorem dX8_advance_18 : decode cX8_advance 18 = .ok (.aload_n 0, 1) := by decide +kernel
theorem dX8_advance_19 : decode cX8_advance 19 = .ok (.iload_n 1, 1) := by decide +kernel
theorem dX8_advance_20 : decode cX8_advance 20 = .ok (.invokevirtual 35, 3) := by decide +kernel
theorem dX8_advance_23 : decode cX8_advance 23 = .ok (.pop, 1) := by decide +kernel
theorem dX8_advance_24 : decode cX8_advance 24 = .ok (.return_, 1) := by decide +kernel
def f_St_advance (S : List xSh) (Rf : Nat → Nat → Option Nat) (w0 : Nat) (a0 : Int32) (I : Nat → Nat → Int32) (L : Nat → Nat → Int64) : Option ((Nat → Nat → Int32) × (Nat → Nat → Int64)) := (bnd (f_St_nextOfTwelve (I w0 5)) fun x1 => (if ((uI I w0 5 x1) w0 7) = (0 : Int32) then ((f_St_sound S Rf w0 a0 (uI I w0 5 x1) L).bind fun q3 => (some (q3.2.1, q3.2.2))) else (some ((uI I w0 5 x1), L))))
set_option maxRecDepth 100000 in
set_option maxHeartbeats 4000000 in
theorem c_St_advance {G : xG} {S : List xSh} {Rf : Nat → Nat → Option Nat} (hT : xTH S Rf) {w0 : Nat} {a0 : Int32} (hw0 : S[w0]? = some (.inl 8)) {I : Nat → Nat → Int32} {L : Nat → Nat → Int64} {q : ((Nat → Nat → Int32) × (Nat → Nat → Int64))} (hf : f_St_advance S Rf w0 a0 I L = some q) : CT G 3 m_St_advance [.ref (xB G + w0), .int a0] (S, I, L, Rf) (none, (S, q.1, q.2, Rf)) := by
  refine CT.of (by decide +kernel) (Nat.le_of_ble_eq_true rfl) ?_
  show X G 3 m_St_advance 0 [(0, .ref (xB G + w0)), (1, .int a0)] [] (S, I, L, Rf) (none, (S, q.1, q.2, Rf))
  replace hf := (f_St_advance.eq_1 _ _ _ _ _ _).symm.trans hf
  refine X_aload_n (pc := 0) (i := 0) 0 dX8_advance_0 rfl rfl ?_
  refine X_aload_n (pc := 1) (i := 0) 0 dX8_advance_1 rfl rfl ?_
  refine X_get (pc := 2) (a := w0) (ci := 8) (j := 5) (.int (I w0 5)) hw0 (by decide) k_626 rfl dX8_advance_2 ?_
  refine X_invS_i (pc := 5) (c_St_nextOfTwelve hT rfl) ok_St_nextOfTwelve k_789 k_790 nd_8 (by decide) rfl (Nat.le_of_ble_eq_true rfl) dX8_advance_5 ?_
  obtain ⟨x1, ex1, hf⟩ := bnd_e hf
  refine X_tope ex1 ?_
  refine X_puti (pc := 8) (a := w0) (ci := 8) (j := 5) false hw0 (by decide) k_626 rfl (fun h => by cases h) rfl dX8_advance_8 ?_
  refine X_aload_n (pc := 11) (i := 0) 0 dX8_advance_11 rfl rfl ?_
  refine X_get (pc := 12) (a := w0) (ci := 8) (j := 7) (.int ((uI I w0 5 x1) w0 7)) hw0 (by decide) k_628 rfl dX8_advance_12 ?_
  by_cases c2 : ((uI I w0 5 x1) w0 7) = (0 : Int32)
  · replace hf := (if_pos c2).symm.trans hf
    refine X_if_ne_f (pc := 15) 24 dX8_advance_15 (by decide) c2 ?_
    refine X_aload_n (pc := 18) (i := 0) 0 dX8_advance_18 rfl rfl ?_
    refine X_iload_n (pc := 19) (i := 1) 1 dX8_advance_19 rfl rfl ?_
    obtain ⟨q3, c4, hf⟩ := bd_some hf
    refine X_invV_i (pc := 20) (c_St_sound hT hw0 c4) ok_St_sound (ci := 8) hw0 k_792 k_793 k_794 nd_8 (by decide) rfl (Nat.le_of_ble_eq_true rfl) dX8_advance_20 ?_
    refine X_pop (pc := 23) dX8_advance_23 rfl ?_
    cases hf
    exact X_return (pc := 24) rfl dX8_advance_24
  · replace hf := (if_neg c2).symm.trans hf
    refine X_if_ne_t (pc := 15) 24 dX8_advance_15 (by decide) c2 ?_
    cases hf
    exact X_return (pc := 24) rfl dX8_advance_24
theorem u_St_advance {S : List xSh} {Rf : Nat → Nat → Option Nat} {w0 : Nat} {a0 : Int32} (hw0 : S[w0]? = some (.inl 8)) {I : Nat → Nat → Int32} {L : Nat → Nat → Int64} {q : ((Nat → Nat → Int32) × (Nat → Nat → Int64))} (hf : f_St_advance S Rf w0 a0 I L = some q) : FR S [14, 2303] [] I q.1 L q.2 := by
  replace hf := (f_St_advance.eq_1 _ _ _ _ _ _).symm.trans hf
  obtain ⟨x1, ex1, hf⟩ := bnd_e hf
  by_cases c2 : ((uI I w0 5 x1) w0 7) = (0 : Int32)
  · replace hf := (if_pos c2).symm.trans hf
    obtain ⟨q3, c4, hf⟩ := bd_some hf
    cases hf
    exact (FR.tr (FR.dy FR.rf hw0 (by decide)) (u_St_sound hw0 (q := q3) c4) (by decide) (by decide))
  · replace hf := (if_neg c2).symm.trans hf
    cases hf
    exact (FR.dy FR.rf hw0 (by decide))
theorem dX3_setCount_0 : decode cX3_setCount 0 = .ok (.aload_n 0, 1) := by decide +kernel
theorem dX3_setCount_1 : decode cX3_setCount 1 = .ok (.iload_n 1, 1) := by decide +kernel
theorem dX3_setCount_2 : decode cX3_setCount 2 = .ok (.putfield 24, 3) := by decide +kernel
theorem dX3_setCount_5 : decode cX3_setCount 5 = .ok (.aload_n 0, 1) := by decide +kernel
theorem dX3_setCount_6 : decode cX3_setCount 6 = .ok (.getfield 16, 3) := by decide +kernel
theorem dX3_setCount_9 : decode cX3_setCount 9 = .ok (.ifCond .ne 8, 3) := by decide +kernel
theorem dX3_setCount_12 : decode cX3_setCount 12 = .ok (.aload_n 0, 1) := by decide +kernel
theorem dX3_setCount_13 : decode cX3_setCount 13 = .ok (.iload_n 1, 1) := by decide +kernel
theorem dX3_setCount_14 : decode cX3_setCount 14 = .ok (.putfield 27, 3) := by decide +kernel
theorem dX3_setCount_17 : decode cX3_setCount 17 = .ok (.return_, 1) := by decide +kernel
def f_Cr_setCount (w0 : Nat) (a0 : Int32) (I : Nat → Nat → Int32) (L : Nat → Nat → Int64) : Option ((Nat → Nat → Int32) × (Nat → Nat → Int64)) := (if ((uI I w0 2 a0) w0 4) = (0 : Int32) then (some ((uI (uI I w0 2 a0) w0 3 a0), L)) else (some ((uI I w0 2 a0), L)))
set_option maxRecDepth 100000 in
set_option maxHeartbeats 4000000 in
theorem c_Cr_setCount {G : xG} {S : List xSh} {Rf : Nat → Nat → Option Nat} (hT : xTH S Rf) {w0 : Nat} {a0 : Int32} (hw0 : S[w0]? = some (.inl 3)) {I : Nat → Nat → Int32} {L : Nat → Nat → Int64} {q : ((Nat → Nat → Int32) × (Nat → Nat → Int64))} (hf : f_Cr_setCount w0 a0 I L = some q) : CT G 1 m_Cr_setCount [.ref (xB G + w0), .int a0] (S, I, L, Rf) (none, (S, q.1, q.2, Rf)) := by
  refine CT.of (by decide +kernel) (Nat.le_of_ble_eq_true rfl) ?_
  show X G 1 m_Cr_setCount 0 [(0, .ref (xB G + w0)), (1, .int a0)] [] (S, I, L, Rf) (none, (S, q.1, q.2, Rf))
  replace hf := (f_Cr_setCount.eq_1 _ _ _ _).symm.trans hf
  refine X_aload_n (pc := 0) (i := 0) 0 dX3_setCount_0 rfl rfl ?_
  refine X_iload_n (pc := 1) (i := 1) 1 dX3_setCount_1 rfl rfl ?_
  refine X_puti (pc := 2) (a := w0) (ci := 3) (j := 2) false hw0 (by decide) k_656 rfl (fun h => by cases h) rfl dX3_setCount_2 ?_
  refine X_aload_n (pc := 5) (i := 0) 0 dX3_setCount_5 rfl rfl ?_
  refine X_get (pc := 6) (a := w0) (ci := 3) (j := 4) (.int ((uI I w0 2 a0) w0 4)) hw0 (by decide) k_660 rfl dX3_setCount_6 ?_
  by_cases c1 : ((uI I w0 2 a0) w0 4) = (0 : Int32)
  · replace hf := (if_pos c1).symm.trans hf
    refine X_if_ne_f (pc := 9) 17 dX3_setCount_9 (by decide) c1 ?_
    refine X_aload_n (pc := 12) (i := 0) 0 dX3_setCount_12 rfl rfl ?_
    refine X_iload_n (pc := 13) (i := 1) 1 dX3_setCount_13 rfl rfl ?_
    refine X_puti (pc := 14) (a := w0) (ci := 3) (j := 3) false hw0 (by decide) k_658 rfl (fun h => by cases h) rfl dX3_setCount_14 ?_
    cases hf
    exact X_return (pc := 17) rfl dX3_setCount_17
  · replace hf := (if_neg c1).symm.trans hf
    refine X_if_ne_t (pc := 9) 17 dX3_setCount_9 (by decide) c1 ?_
    cases hf
    exact X_return (pc := 17) rfl dX3_setCount_17
theorem u_Cr_setCount {S : List xSh} {w0 : Nat} {a0 : Int32} (hw0 : S[w0]? = some (.inl 3)) {I : Nat → Nat → Int32} {L : Nat → Nat → Int64} {q : ((Nat → Nat → Int32) × (Nat → Nat → Int64))} (hf : f_Cr_setCount w0 a0 I L = some q) : FR S [] [] I q.1 L q.2 := by
  replace hf := (f_Cr_setCount.eq_1 _ _ _ _).symm.trans hf
  by_cases c1 : ((uI I w0 2 a0) w0 4) = (0 : Int32)
  · replace hf := (if_pos c1).symm.trans hf
    cases hf
    exact (FR.dy (FR.dy FR.rf hw0 (by decide)) hw0 (by decide))
  · replace hf := (if_neg c1).symm.trans hf
    cases hf
    exact (FR.dy FR.rf hw0 (by decide))
theorem dX3_passTick_0 : decode cX3_passTick 0 = .ok (.aload_n 0, 1) := by decide +kernel
theorem dX3_passTick_1 : decode cX3_passTick 1 = .ok (.getfield 13, 3) := by decide +kernel
theorem dX3_passTick_4 : decode cX3_passTick 4 = .ok (.iconst 1, 1) := by decide +kernel
theorem dX3_passTick_5 : decode cX3_passTick 5 = .ok (.if_icmp .ne 13, 3) := by decide +kernel
theorem dX3_passTick_8 : decode cX3_passTick 8 = .ok (.aload_n 0, 1) := by decide +kernel
theorem dX3_passTick_9 : decode cX3_passTick 9 = .ok (.aload_n 0, 1) := by decide +kernel
theorem dX3_passTick_10 : decode cX3_passTick 10 = .ok (.getfield 24, 3) := by decide +kernel
theorem dX3_passTick_13 : decode cX3_passTick 13 = .ok (.iconst 1, 1) := by decide +kernel
theorem dX3_passTick_14 : decode cX3_passTick 14 = .ok (.iadd, 1) := by decide +kernel
theorem dX3_passTick_15 : decode cX3_passTick 15 = .ok (.invokevirtual 20, 3) := by decide +kernel
theorem dX3_passTick_18 : decode cX3_passTick 18 = .ok (.return_, 1) := by decide +kernel
def f_Cr_passTick (w0 : Nat) (I : Nat → Nat → Int32) (L : Nat → Nat → Int64) : Option ((Nat → Nat → Int32) × (Nat → Nat → Int64)) := (if (I w0 1) = (1 : Int32) then ((f_Cr_setCount w0 ((I w0 2) + (1 : Int32)) I L).bind fun q2 => (some (q2.1, q2.2))) else (some (I, L)))
set_option maxRecDepth 100000 in
set_option maxHeartbeats 4000000 in
theorem c_Cr_passTick {G : xG} {S : List xSh} {Rf : Nat → Nat → Option Nat} (hT : xTH S Rf) {w0 : Nat} (hw0 : S[w0]? = some (.inl 3)) {I : Nat → Nat → Int32} {L : Nat → Nat → Int64} {q : ((Nat → Nat → Int32) × (Nat → Nat → Int64))} (hf : f_Cr_passTick w0 I L = some q) : CT G 2 m_Cr_passTick [.ref (xB G + w0)] (S, I, L, Rf) (none, (S, q.1, q.2, Rf)) := by
  refine CT.of (by decide +kernel) (Nat.le_of_ble_eq_true rfl) ?_
  show X G 2 m_Cr_passTick 0 [(0, .ref (xB G + w0))] [] (S, I, L, Rf) (none, (S, q.1, q.2, Rf))
  replace hf := (f_Cr_passTick.eq_1 _ _ _).symm.trans hf
  refine X_aload_n (pc := 0) (i := 0) 0 dX3_passTick_0 rfl rfl ?_
  refine X_get (pc := 1) (a := w0) (ci := 3) (j := 1) (.int (I w0 1)) hw0 (by decide) k_654 rfl dX3_passTick_1 ?_
  refine X_iconst (pc := 4) (1 : Int32) dX3_passTick_4 (by decide) ?_
  by_cases c1 : (I w0 1) = (1 : Int32)
  · replace hf := (if_pos c1).symm.trans hf
    refine X_icmp_ne_f (pc := 5) 18 dX3_passTick_5 (by decide) c1 ?_
    refine X_aload_n (pc := 8) (i := 0) 0 dX3_passTick_8 rfl rfl ?_
    refine X_aload_n (pc := 9) (i := 0) 0 dX3_passTick_9 rfl rfl ?_
    refine X_get (pc := 10) (a := w0) (ci := 3) (j := 2) (.int (I w0 2)) hw0 (by decide) k_656 rfl dX3_passTick_10 ?_
    refine X_iconst (pc := 13) (1 : Int32) dX3_passTick_13 (by decide) ?_
    refine X_iadd (pc := 14) dX3_passTick_14 ?_
    obtain ⟨q2, c3, hf⟩ := bd_some hf
    refine X_invV_v (pc := 15) (c_Cr_setCount hT hw0 c3) ok_Cr_setCount (ci := 3) hw0 k_758 k_760 k_14 nd_13 (by decide) rfl (Nat.le_of_ble_eq_true rfl) dX3_passTick_15 ?_
    cases hf
    exact X_return (pc := 18) rfl dX3_passTick_18
  · replace hf := (if_neg c1).symm.trans hf
    refine X_icmp_ne_t (pc := 5) 18 dX3_passTick_5 (by decide) c1 ?_
    cases hf
    exact X_return (pc := 18) rfl dX3_passTick_18
theorem u_Cr_passTick {S : List xSh} {w0 : Nat} (hw0 : S[w0]? = some (.inl 3)) {I : Nat → Nat → Int32} {L : Nat → Nat → Int64} {q : ((Nat → Nat → Int32) × (Nat → Nat → Int64))} (hf : f_Cr_passTick w0 I L = some q) : FR S [] [] I q.1 L q.2 := by
  replace hf := (f_Cr_passTick.eq_1 _ _ _).symm.trans hf
  by_cases c1 : (I w0 1) = (1 : Int32)
  · replace hf := (if_pos c1).symm.trans hf
    obtain ⟨q2, c3, hf⟩ := bd_some hf
    cases hf
    exact (FR.tr FR.rf (u_Cr_setCount hw0 (q := q2) c3) (by decide) (by decide))
  · replace hf := (if_neg c1).symm.trans hf
    cases hf
    exact FR.rf
theorem dX11_passTick_0 : decode cX11_passTick 0 = .ok (.iconst 0, 1) := by decide +kernel
theorem dX11_passTick_1 : decode cX11_passTick 1 = .ok (.istore_n 1, 1) := by decide +kernel
theorem dX11_passTick_2 : decode cX11_passTick 2 = .ok (.iload_n 1, 1) := by decide +kernel
theorem dX11_passTick_3 : decode cX11_passTick 3 = .ok (.aload_n 0, 1) := by decide +kernel
theorem dX11_passTick_4 : decode cX11_passTick 4 = .ok (.getfield 138, 3) := by decide +kernel
theorem dX11_passTick_7 : decode cX11_passTick 7 = .ok (.if_icmp .ge 24, 3) := by decide +kernel
theorem dX11_passTick_10 : decode cX11_passTick 10 = .ok (.aload_n 0, 1) := by decide +kernel
theorem dX11_passTick_11 : decode cX11_passTick 11 = .ok (.getfield 29, 3) := by decide +kernel
theorem dX11_passTick_14 : decode cX11_passTick 14 = .ok (.iload_n 1, 1) := by decide +kernel
theorem dX11_passTick_15 : decode cX11_passTick 15 = .ok (.aaload, 1) := by decide +kernel
theorem dX11_passTick_16 : decode cX11_passTick 16 = .ok (.astore_n 2, 1) := by decide +kernel
theorem dX11_passTick_17 : decode cX11_passTick 17 = .ok (.aload_n 2, 1) := by decide +kernel
theorem dX11_passTick_18 : decode cX11_passTick 18 = .ok (.ifnull 7, 3) := by decide +kernel
theorem dX11_passTick_21 : decode cX11_passTick 21 = .ok (.aload_n 2, 1) := by decide +kernel
theorem dX11_passTick_22 : decode cX11_passTick 22 = .ok (.invokevirtual 390, 3) := by decide +kernel
theorem dX11_passTick_25 : decode cX11_passTick 25 = .ok (.iinc 1 1, 3) := by decide +kernel
theorem dX11_passTick_28 : decode cX11_passTick 28 = .ok (.goto (-26), 3) := by decide +kernel
theorem dX11_passTick_31 : decode cX11_passTick 31 = .ok (.aload_n 0, 1) := by decide +kernel
theorem dX11_passTick_32 : decode cX11_passTick 32 = .ok (.getfield 10, 3) := by decide +kernel
theorem dX11_passTick_35 : decode cX11_passTick 35 = .ok (.getfield 218, 3) := by decide +kernel
theorem dX11_passTick_38 : decode cX11_passTick 38 = .ok (.istore_n 1, 1) := by decide +kernel
theorem dX11_passTick_39 : decode cX11_passTick 39 = .ok (.iconst 0, 1) := by decide +kernel
theorem dX11_passTick_40 : decode cX11_passTick 40 = .ok (.istore_n 2, 1) := by decide +kernel
theorem dX11_passTick_41 : decode cX11_passTick 41 = .ok (.iload_n 2, 1) := by decide +kernel
theorem dX11_passTick_42 : decode cX11_passTick 42 = .ok (.aload_n 0, 1) := by decide +kernel
theorem dX11_passTick_43 : decode cX11_passTick 43 = .ok (.getfield 132, 3) := by decide +kernel
theorem dX11_passTick_46 : decode cX11_passTick 46 = .ok (.if_icmp .ge 67, 3) := by decide +kernel
theorem dX11_passTick_49 : decode cX11_passTick 49 = .ok (.aload_n 0, 1) := by decide +kernel
theorem dX11_passTick_50 : decode cX11_passTick 50 = .ok (.getfield 23, 3) := by decide +kernel
theorem dX11_passTick_53 : decode cX11_passTick 53 = .ok (.iload_n 2, 1) := by decide +kernel
theorem dX11_passTick_54 : decode cX11_passTick 54 = .ok (.aaload, 1) := by decide +kernel
theorem dX11_passTick_55 : decode cX11_passTick 55 = .ok (.astore_n 3, 1) := by decide +kernel
theorem dX11_passTick_56 : decode cX11_passTick 56 = .ok (.aload_n 3, 1) := by decide +kernel
theorem dX11_passTick_57 : decode cX11_passTick 57 = .ok (.ifnull 50, 3) := by decide +kernel
theorem dX11_passTick_60 : decode cX11_passTick 60 = .ok (.aload_n 0, 1) := by decide +kernel
theorem dX11_passTick_61 : decode cX11_passTick 61 = .ok (.getfield 20, 3) := by decide +kernel
theorem dX11_passTick_64 : decode cX11_passTick 64 = .ok (.aload_n 3, 1) := by decide +kernel
theorem dX11_passTick_65 : decode cX11_passTick 65 = .ok (.getfield 368, 3) := by decide +kernel
theorem dX11_passTick_68 : decode cX11_passTick 68 = .ok (.iload_n 1, 1) := by decide +kernel
theorem dX11_passTick_69 : decode cX11_passTick 69 = .ok (.iconst 1, 1) := by decide +kernel
theorem dX11_passTick_70 : decode cX11_passTick 70 = .ok (.invokevirtual 221, 3) := by decide +kernel
theorem dX11_passTick_73 : decode cX11_passTick 73 = .ok (.aload_n 0, 1) := by decide +kernel
theorem dX11_passTick_74 : decode cX11_passTick 74 = .ok (.getfield 20, 3) := by decide +kernel
theorem dX11_passTick_77 : decode cX11_passTick 77 = .ok (.aload_n 3, 1) := by decide +kernel
theorem dX11_passTick_78 : decode cX11_passTick 78 = .ok (.getfield 368, 3) := by decide +kernel
theorem dX11_passTick_81 : decode cX11_passTick 81 = .ok (.iload_n 1, 1) := by decide +kernel
theorem dX11_passTick_82 : decode cX11_passTick 82 = .ok (.iconst 1, 1) := by decide +kernel
theorem dX11_passTick_83 : decode cX11_passTick 83 = .ok (.isub, 1) := by decide +kernel
theorem dX11_passTick_84 : decode cX11_passTick 84 = .ok (.iconst 1, 1) := by decide +kernel
theorem dX11_passTick_85 : decode cX11_passTick 85 = .ok (.invokevirtual 221, 3) := by decide +kernel
theorem dX11_passTick_88 : decode cX11_passTick 88 = .ok (.lcmp, 1) := by decide +kernel
theorem dX11_passTick_89 : decode cX11_passTick 89 = .ok (.ifCond .le 18, 3) := by decide +kernel
theorem dX11_passTick_92 : decode cX11_passTick 92 = .ok (.aload_n 3, 1) := by decide +kernel
theorem dX11_passTick_93 : decode cX11_passTick 93 = .ok (.dup, 1) := by decide +kernel
theorem dX11_passTick_94 : decode cX11_passTick 94 = .ok (.getfield 257, 3) := by decide +kernel
theorem dX11_passTick_97 : decode cX11_passTick 97 = .ok (.iconst 1, 1) := by decide +kernel
theorem dX11_passTick_98 : decode cX11_passTick 98 = .ok (.iadd, 1) := by decide +kernel
theorem dX11_passTick_99 : decode cX11_passTick 99 = .ok (.putfield 257, 3) := by decide +kernel
theorem dX11_passTick_102 : decode cX11_passTick 102 = .ok (.aload_n 3, 1) := by decide +kernel
theorem dX11_passTick_103 : decode cX11_passTick 103 = .ok (.iload_n 1, 1) := by decide +kernel
theorem dX11_passTick_104 : decode cX11_passTick 104 = .ok (.invokevirtual 391, 3) := by decide +kernel
theorem dX11_passTick_107 : decode cX11_passTick 107 = .ok (.iinc 2 1, 3) := by decide +kernel
theorem dX11_passTick_110 : decode cX11_passTick 110 = .ok (.goto (-69), 3) := by decide +kernel
theorem dX11_passTick_113 : decode cX11_passTick 113 = .ok (.return_, 1) := by decide +kernel
def f_H_passTick_L41 (S : List xSh) (Rf : Nat → Nat → Option Nat) : Nat → Int32 → Int32 → (Nat → Nat → Int32) → (Nat → Nat → Int64) → Option ((Nat → Nat → Int32) × (Nat → Nat → Int64))
  | 0, _, _, _, _ => none
  | n + 1, l1, l2, I, L => (if (I 0 6) ≤ l2 then (some (I, L)) else (if (0 ≤ l2 ∧ l2 < (8 : Int32)) then (oc (Rf 11 (l2.toNatClampNeg)) (f_H_passTick_L41 S Rf n l1 (l2 + (1 : Int32)) I L) fun w5 => (if S[w5]? = some (.inl 4) then ((f_Ge_turned (I w5 0) l1 (1 : Int32) I L).bind fun q8 => ((f_Ge_turned (I w5 0) (l1 - (1 : Int32)) (1 : Int32) I L).bind fun q10 => (if q8 ≤ q10 then (f_H_passTick_L41 S Rf n l1 (l2 + (1 : Int32)) I L) else (bnd ((I w5 1) + (1 : Int32)) fun x13 => ((f_Di_advance w5 l1 (uI I w5 1 x13) L).bind fun q14 => (f_H_passTick_L41 S Rf n l1 (l2 + (1 : Int32)) q14.1 q14.2)))))) else (if S[w5]? = some (.inl 1) then ((f_Ge_turned (I w5 0) l1 (1 : Int32) I L).bind fun q17 => ((f_Ge_turned (I w5 0) (l1 - (1 : Int32)) (1 : Int32) I L).bind fun q19 => (if q17 ≤ q19 then (f_H_passTick_L41 S Rf n l1 (l2 + (1 : Int32)) I L) else (bnd ((I w5 1) + (1 : Int32)) fun x22 => ((f_Ca_advance w5 l1 (uI I w5 1 x22) L).bind fun q23 => (f_H_passTick_L41 S Rf n l1 (l2 + (1 : Int32)) q23.1 q23.2)))))) else (if S[w5]? = some (.inl 8) then ((f_Ge_turned (I w5 0) l1 (1 : Int32) I L).bind fun q26 => ((f_Ge_turned (I w5 0) (l1 - (1 : Int32)) (1 : Int32) I L).bind fun q28 => (if q26 ≤ q28 then (f_H_passTick_L41 S Rf n l1 (l2 + (1 : Int32)) I L) else (bnd ((I w5 1) + (1 : Int32)) fun x31 => ((f_St_advance S Rf w5 l1 (uI I w5 1 x31) L).bind fun q32 => (f_H_passTick_L41 S Rf n l1 (l2 + (1 : Int32)) q32.1 q32.2)))))) else none)))) else none))
set_option maxRecDepth 100000 in
set_option maxHeartbeats 4000000 in
theorem x_H_passTick_L41 {G : xG} {S : List xSh} {Rf : Nat → Nat → Option Nat} (hT : xTH S Rf) : ∀ (n : Nat) {l1 : Int32} {l2 : Int32} {I : Nat → Nat → Int32} {L : Nat → Nat → Int64} {q : ((Nat → Nat → Int32) × (Nat → Nat → Int64))}, f_H_passTick_L41 S Rf n l1 l2 I L = some q → X G 4 m_H_passTick 41 [(0, .ref (xB G + 0)), (1, .int l1), (2, .int l2)] [] (S, I, L, Rf) (none, (S, q.1, q.2, Rf)) := by
  intro n
  induction n with
  | zero =>
    intro l1 l2 I L q hf
    exact absurd (show none = some q from hf) (by simp)
  | succ n ih =>
    intro l1 l2 I L q hf
    replace hf := (f_H_passTick_L41.eq_2 _ _ _ _ _ _ _).symm.trans hf
    refine X_iload_n (pc := 41) (i := 2) 2 dX11_passTick_41 rfl rfl ?_
    refine X_aload_n (pc := 42) (i := 0) 0 dX11_passTick_42 rfl rfl ?_
    refine X_get (pc := 43) (a := 0) (ci := 10) (j := 6) (.int (I 0 6)) (sh_0 hT) (by decide) k_383 rfl dX11_passTick_43 ?_
    by_cases c3 : (I 0 6) ≤ l2
    · replace hf := (if_pos c3).symm.trans hf
      refine X_icmp_ge_t (pc := 46) 113 dX11_passTick_46 (by decide) c3 ?_
      cases hf
      exact X_return (pc := 113) rfl dX11_passTick_113
    · replace hf := (if_neg c3).symm.trans hf
      refine X_icmp_ge_f (pc := 46) 113 dX11_passTick_46 (by decide) c3 ?_
      refine X_aload_n (pc := 49) (i := 0) 0 dX11_passTick_49 rfl rfl ?_
      refine X_getr (pc := 50) (a := 0) (ci := 10) (j := 2) (c := 11) (sh_0 hT) (by decide) k_379 (rf_0_2 hT) (fun _ h => h) dX11_passTick_50 ?_
      refine X_iload_n (pc := 53) (i := 2) 2 dX11_passTick_53 rfl rfl ?_
      obtain ⟨c4, hf⟩ := gd_some hf
      rcases oc_cases hf with ⟨hr6, hf⟩ | ⟨w5, hr6, hf⟩
      · refine X_aaldN (pc := 54) (Or.inl rfl) (sh_11 hT) (vp_in_lit (N := 8) c4 (by decide)) hr6 dX11_passTick_54 ?_
        refine X_astore_nN (pc := 55) (i := 3) [(3, .null), (0, .ref (xB G + 0)), (1, .int l1), (2, .int l2)] dX11_passTick_55 rfl (by decide) rfl ?_
        refine X_aload_nN (pc := 56) (i := 3) 0 dX11_passTick_56 rfl rfl ?_
        refine X_ifnull_t (pc := 57) 107 dX11_passTick_57 (by decide) ?_
        refine X_iinc (pc := 107) (i := 2) (q := 3) (v := (l2 + (1 : Int32))) [(2, .int (l2 + (1 : Int32))), (3, .null), (0, .ref (xB G + 0)), (1, .int l1)] dX11_passTick_107 rfl rfl (by decide) rfl ?_
        refine X_goto (pc := 110) 41 dX11_passTick_110 (by decide) ?_
        exact X_lvs [2, 3, 0] rfl (ih hf)
      · refine X_aaldS (pc := 54) (Or.inl rfl) (sh_11 hT) (vp_in_lit (N := 8) c4 (by decide)) hr6 dX11_passTick_54 ?_
        refine X_astore_n (pc := 55) (i := 3) [(3, .ref (xB G + w5)), (0, .ref (xB G + 0)), (1, .int l1), (2, .int l2)] dX11_passTick_55 rfl (by decide) rfl ?_
        refine X_aload_n (pc := 56) (i := 3) 0 dX11_passTick_56 rfl rfl ?_
        refine X_ifnull_f (pc := 57) dX11_passTick_57 ?_
        refine X_aload_n (pc := 60) (i := 0) 1 dX11_passTick_60 rfl rfl ?_
        refine X_getr (pc := 61) (a := 0) (ci := 10) (j := 1) (c := 2) (sh_0 hT) (by decide) k_378 (rf_0_1 hT) (fun _ h => h) dX11_passTick_61 ?_
        refine X_aload_n (pc := 64) (i := 3) 0 dX11_passTick_64 rfl rfl ?_
        by_cases hs7 : S[w5]? = some (.inl 4)
        · replace hf := (if_pos hs7).symm.trans hf
          refine X_get (pc := 65) (a := w5) (ci := 4) (j := 0) (.int (I w5 0)) hs7 (by decide) k_527 rfl dX11_passTick_65 ?_
          refine X_iload_n (pc := 68) (i := 1) 2 dX11_passTick_68 rfl rfl ?_
          refine X_iconst (pc := 69) (1 : Int32) dX11_passTick_69 (by decide) ?_
          obtain ⟨q8, c9, hf⟩ := bd_some hf
          refine X_invV_l (pc := 70) (c_Ge_turned hT c9) ok_Ge_turned (ci := 6) (sh_2 hT) k_762 k_739 k_740 nd_20 (by decide) rfl (Nat.le_of_ble_eq_true rfl) dX11_passTick_70 ?_
          refine X_aload_n (pc := 73) (i := 0) 1 dX11_passTick_73 rfl rfl ?_
          refine X_getr (pc := 74) (a := 0) (ci := 10) (j := 1) (c := 2) (sh_0 hT) (by decide) k_378 (rf_0_1 hT) (fun _ h => h) dX11_passTick_74 ?_
          refine X_aload_n (pc := 77) (i := 3) 0 dX11_passTick_77 rfl rfl ?_
          refine X_get (pc := 78) (a := w5) (ci := 4) (j := 0) (.int (I w5 0)) hs7 (by decide) k_527 rfl dX11_passTick_78 ?_
          refine X_iload_n (pc := 81) (i := 1) 2 dX11_passTick_81 rfl rfl ?_
          refine X_iconst (pc := 82) (1 : Int32) dX11_passTick_82 (by decide) ?_
          refine X_isub (pc := 83) dX11_passTick_83 ?_
          refine X_iconst (pc := 84) (1 : Int32) dX11_passTick_84 (by decide) ?_
          obtain ⟨q10, c11, hf⟩ := bd_some hf
          refine X_invV_l (pc := 85) (c_Ge_turned hT c11) ok_Ge_turned (ci := 6) (sh_2 hT) k_762 k_739 k_740 nd_20 (by decide) rfl (Nat.le_of_ble_eq_true rfl) dX11_passTick_85 ?_
          refine X_lcmp (pc := 88) dX11_passTick_88 ?_
          by_cases c12 : q8 ≤ q10
          · replace hf := (if_pos c12).symm.trans hf
            refine X_if_le_t (pc := 89) 107 dX11_passTick_89 (by decide) ((lg_cmp_le _ _).mpr c12) ?_
            refine X_iinc (pc := 107) (i := 2) (q := 3) (v := (l2 + (1 : Int32))) [(2, .int (l2 + (1 : Int32))), (3, .ref (xB G + w5)), (0, .ref (xB G + 0)), (1, .int l1)] dX11_passTick_107 rfl rfl (by decide) rfl ?_
            refine X_goto (pc := 110) 41 dX11_passTick_110 (by decide) ?_
            exact X_lvs [2, 3, 0] rfl (ih hf)
          · replace hf := (if_neg c12).symm.trans hf
            refine X_if_le_f (pc := 89) 107 dX11_passTick_89 (by decide) (fun h => c12 ((lg_cmp_le _ _).mp h)) ?_
            refine X_aload_n (pc := 92) (i := 3) 0 dX11_passTick_92 rfl rfl ?_
            refine X_dup (pc := 93) dX11_passTick_93 rfl ?_
            refine X_get (pc := 94) (a := w5) (ci := 4) (j := 1) (.int (I w5 1)) hs7 (by decide) k_528 rfl dX11_passTick_94 ?_
            refine X_iconst (pc := 97) (1 : Int32) dX11_passTick_97 (by decide) ?_
            refine X_iadd (pc := 98) dX11_passTick_98 ?_
            obtain ⟨x13, ex13, hf⟩ := bnd_e hf
            refine X_tope ex13 ?_
            refine X_puti (pc := 99) (a := w5) (ci := 4) (j := 1) false hs7 (by decide) k_528 rfl (fun h => by cases h) rfl dX11_passTick_99 ?_
            refine X_aload_n (pc := 102) (i := 3) 0 dX11_passTick_102 rfl rfl ?_
            refine X_iload_n (pc := 103) (i := 1) 2 dX11_passTick_103 rfl rfl ?_
            obtain ⟨q14, c15, hf⟩ := bd_some hf
            refine X_invU_v (pc := 104) (c_Di_advance hT hs7 c15) ok_Di_advance (ci := 4) hs7 k_763 k_765 k_764 (by decide +kernel) k_784 k_783 nd_13 (by decide) rfl (Nat.le_of_ble_eq_true rfl) dX11_passTick_104 ?_
            refine X_iinc (pc := 107) (i := 2) (q := 3) (v := (l2 + (1 : Int32))) [(2, .int (l2 + (1 : Int32))), (3, .ref (xB G + w5)), (0, .ref (xB G + 0)), (1, .int l1)] dX11_passTick_107 rfl rfl (by decide) rfl ?_
            refine X_goto (pc := 110) 41 dX11_passTick_110 (by decide) ?_
            exact X_lvs [2, 3, 0] rfl (ih hf)
        · replace hf := (if_neg hs7).symm.trans hf
          by_cases hs16 : S[w5]? = some (.inl 1)
          · replace hf := (if_pos hs16).symm.trans hf
            refine X_get (pc := 65) (a := w5) (ci := 1) (j := 0) (.int (I w5 0)) hs16 (by decide) k_527 rfl dX11_passTick_65 ?_
            refine X_iload_n (pc := 68) (i := 1) 2 dX11_passTick_68 rfl rfl ?_
            refine X_iconst (pc := 69) (1 : Int32) dX11_passTick_69 (by decide) ?_
            obtain ⟨q17, c18, hf⟩ := bd_some hf
            refine X_invV_l (pc := 70) (c_Ge_turned hT c18) ok_Ge_turned (ci := 6) (sh_2 hT) k_762 k_739 k_740 nd_20 (by decide) rfl (Nat.le_of_ble_eq_true rfl) dX11_passTick_70 ?_
            refine X_aload_n (pc := 73) (i := 0) 1 dX11_passTick_73 rfl rfl ?_
            refine X_getr (pc := 74) (a := 0) (ci := 10) (j := 1) (c := 2) (sh_0 hT) (by decide) k_378 (rf_0_1 hT) (fun _ h => h) dX11_passTick_74 ?_
            refine X_aload_n (pc := 77) (i := 3) 0 dX11_passTick_77 rfl rfl ?_
            refine X_get (pc := 78) (a := w5) (ci := 1) (j := 0) (.int (I w5 0)) hs16 (by decide) k_527 rfl dX11_passTick_78 ?_
            refine X_iload_n (pc := 81) (i := 1) 2 dX11_passTick_81 rfl rfl ?_
            refine X_iconst (pc := 82) (1 : Int32) dX11_passTick_82 (by decide) ?_
            refine X_isub (pc := 83) dX11_passTick_83 ?_
            refine X_iconst (pc := 84) (1 : Int32) dX11_passTick_84 (by decide) ?_
            obtain ⟨q19, c20, hf⟩ := bd_some hf
            refine X_invV_l (pc := 85) (c_Ge_turned hT c20) ok_Ge_turned (ci := 6) (sh_2 hT) k_762 k_739 k_740 nd_20 (by decide) rfl (Nat.le_of_ble_eq_true rfl) dX11_passTick_85 ?_
            refine X_lcmp (pc := 88) dX11_passTick_88 ?_
            by_cases c21 : q17 ≤ q19
            · replace hf := (if_pos c21).symm.trans hf
              refine X_if_le_t (pc := 89) 107 dX11_passTick_89 (by decide) ((lg_cmp_le _ _).mpr c21) ?_
              refine X_iinc (pc := 107) (i := 2) (q := 3) (v := (l2 + (1 : Int32))) [(2, .int (l2 + (1 : Int32))), (3, .ref (xB G + w5)), (0, .ref (xB G + 0)), (1, .int l1)] dX11_passTick_107 rfl rfl (by decide) rfl ?_
              refine X_goto (pc := 110) 41 dX11_passTick_110 (by decide) ?_
              exact X_lvs [2, 3, 0] rfl (ih hf)
            · replace hf := (if_neg c21).symm.trans hf
              refine X_if_le_f (pc := 89) 107 dX11_passTick_89 (by decide) (fun h => c21 ((lg_cmp_le _ _).mp h)) ?_
              refine X_aload_n (pc := 92) (i := 3) 0 dX11_passTick_92 rfl rfl ?_
              refine X_dup (pc := 93) dX11_passTick_93 rfl ?_
              refine X_get (pc := 94) (a := w5) (ci := 1) (j := 1) (.int (I w5 1)) hs16 (by decide) k_528 rfl dX11_passTick_94 ?_
              refine X_iconst (pc := 97) (1 : Int32) dX11_passTick_97 (by decide) ?_
              refine X_iadd (pc := 98) dX11_passTick_98 ?_
              obtain ⟨x22, ex22, hf⟩ := bnd_e hf
              refine X_tope ex22 ?_
              refine X_puti (pc := 99) (a := w5) (ci := 1) (j := 1) false hs16 (by decide) k_528 rfl (fun h => by cases h) rfl dX11_passTick_99 ?_
              refine X_aload_n (pc := 102) (i := 3) 0 dX11_passTick_102 rfl rfl ?_
              refine X_iload_n (pc := 103) (i := 1) 2 dX11_passTick_103 rfl rfl ?_
              obtain ⟨q23, c24, hf⟩ := bd_some hf
              refine X_invU_v (pc := 104) (c_Ca_advance hT hs16 c24) ok_Ca_advance (ci := 1) hs16 k_763 k_765 k_764 (by decide +kernel) k_767 k_766 nd_13 (by decide) rfl (Nat.le_of_ble_eq_true rfl) dX11_passTick_104 ?_
              refine X_iinc (pc := 107) (i := 2) (q := 3) (v := (l2 + (1 : Int32))) [(2, .int (l2 + (1 : Int32))), (3, .ref (xB G + w5)), (0, .ref (xB G + 0)), (1, .int l1)] dX11_passTick_107 rfl rfl (by decide) rfl ?_
              refine X_goto (pc := 110) 41 dX11_passTick_110 (by decide) ?_
              exact X_lvs [2, 3, 0] rfl (ih hf)
          · replace hf := (if_neg hs16).symm.trans hf
            obtain ⟨hs25, hf⟩ := gd_some hf
            refine X_get (pc := 65) (a := w5) (ci := 8) (j := 0) (.int (I w5 0)) hs25 (by decide) k_527 rfl dX11_passTick_65 ?_
            refine X_iload_n (pc := 68) (i := 1) 2 dX11_passTick_68 rfl rfl ?_
            refine X_iconst (pc := 69) (1 : Int32) dX11_passTick_69 (by decide) ?_
            obtain ⟨q26, c27, hf⟩ := bd_some hf
            refine X_invV_l (pc := 70) (c_Ge_turned hT c27) ok_Ge_turned (ci := 6) (sh_2 hT) k_762 k_739 k_740 nd_20 (by decide) rfl (Nat.le_of_ble_eq_true rfl) dX11_passTick_70 ?_
            refine X_aload_n (pc := 73) (i := 0) 1 dX11_passTick_73 rfl rfl ?_
            refine X_getr (pc := 74) (a := 0) (ci := 10) (j := 1) (c := 2) (sh_0 hT) (by decide) k_378 (rf_0_1 hT) (fun _ h => h) dX11_passTick_74 ?_
            refine X_aload_n (pc := 77) (i := 3) 0 dX11_passTick_77 rfl rfl ?_
            refine X_get (pc := 78) (a := w5) (ci := 8) (j := 0) (.int (I w5 0)) hs25 (by decide) k_527 rfl dX11_passTick_78 ?_
            refine X_iload_n (pc := 81) (i := 1) 2 dX11_passTick_81 rfl rfl ?_
            refine X_iconst (pc := 82) (1 : Int32) dX11_passTick_82 (by decide) ?_
            refine X_isub (pc := 83) dX11_passTick_83 ?_
            refine X_iconst (pc := 84) (1 : Int32) dX11_passTick_84 (by decide) ?_
            obtain ⟨q28, c29, hf⟩ := bd_some hf
            refine X_invV_l (pc := 85) (c_Ge_turned hT c29) ok_Ge_turned (ci := 6) (sh_2 hT) k_762 k_739 k_740 nd_20 (by decide) rfl (Nat.le_of_ble_eq_true rfl) dX11_passTick_85 ?_
            refine X_lcmp (pc := 88) dX11_passTick_88 ?_
            by_cases c30 : q26 ≤ q28
            · replace hf := (if_pos c30).symm.trans hf
              refine X_if_le_t (pc := 89) 107 dX11_passTick_89 (by decide) ((lg_cmp_le _ _).mpr c30) ?_
              refine X_iinc (pc := 107) (i := 2) (q := 3) (v := (l2 + (1 : Int32))) [(2, .int (l2 + (1 : Int32))), (3, .ref (xB G + w5)), (0, .ref (xB G + 0)), (1, .int l1)] dX11_passTick_107 rfl rfl (by decide) rfl ?_
              refine X_goto (pc := 110) 41 dX11_passTick_110 (by decide) ?_
              exact X_lvs [2, 3, 0] rfl (ih hf)
            · replace hf := (if_neg c30).symm.trans hf
              refine X_if_le_f (pc := 89) 107 dX11_passTick_89 (by decide) (fun h => c30 ((lg_cmp_le _ _).mp h)) ?_
              refine X_aload_n (pc := 92) (i := 3) 0 dX11_passTick_92 rfl rfl ?_
              refine X_dup (pc := 93) dX11_passTick_93 rfl ?_
              refine X_get (pc := 94) (a := w5) (ci := 8) (j := 1) (.int (I w5 1)) hs25 (by decide) k_528 rfl dX11_passTick_94 ?_
              refine X_iconst (pc := 97) (1 : Int32) dX11_passTick_97 (by decide) ?_
              refine X_iadd (pc := 98) dX11_passTick_98 ?_
              obtain ⟨x31, ex31, hf⟩ := bnd_e hf
              refine X_tope ex31 ?_
              refine X_puti (pc := 99) (a := w5) (ci := 8) (j := 1) false hs25 (by decide) k_528 rfl (fun h => by cases h) rfl dX11_passTick_99 ?_
              refine X_aload_n (pc := 102) (i := 3) 0 dX11_passTick_102 rfl rfl ?_
              refine X_iload_n (pc := 103) (i := 1) 2 dX11_passTick_103 rfl rfl ?_
              obtain ⟨q32, c33, hf⟩ := bd_some hf
              refine X_invU_v (pc := 104) (c_St_advance hT hs25 c33) ok_St_advance (ci := 8) hs25 k_763 k_765 k_764 (by decide +kernel) k_787 k_786 nd_13 (by decide) rfl (Nat.le_of_ble_eq_true rfl) dX11_passTick_104 ?_
              refine X_iinc (pc := 107) (i := 2) (q := 3) (v := (l2 + (1 : Int32))) [(2, .int (l2 + (1 : Int32))), (3, .ref (xB G + w5)), (0, .ref (xB G + 0)), (1, .int l1)] dX11_passTick_107 rfl rfl (by decide) rfl ?_
              refine X_goto (pc := 110) 41 dX11_passTick_110 (by decide) ?_
              exact X_lvs [2, 3, 0] rfl (ih hf)
theorem u_H_passTick_L41 {S : List xSh} {Rf : Nat → Nat → Option Nat} : ∀ (n : Nat) {l1 : Int32} {l2 : Int32} {I : Nat → Nat → Int32} {L : Nat → Nat → Int64} {q : ((Nat → Nat → Int32) × (Nat → Nat → Int64))}, f_H_passTick_L41 S Rf n l1 l2 I L = some q → FR S [14, 2303] [] I q.1 L q.2 := by
  intro n
  induction n with
  | zero =>
    intro l1 l2 I L q hf
    exact absurd (show none = some q from hf) (by simp)
  | succ n ih =>
    intro l1 l2 I L q hf
    replace hf := (f_H_passTick_L41.eq_2 _ _ _ _ _ _ _).symm.trans hf
    by_cases c3 : (I 0 6) ≤ l2
    · replace hf := (if_pos c3).symm.trans hf
      cases hf
      exact FR.rf
    · replace hf := (if_neg c3).symm.trans hf
      obtain ⟨c4, hf⟩ := gd_some hf
      rcases oc_cases hf with ⟨hr6, hf⟩ | ⟨w5, hr6, hf⟩
      · exact FR.tr FR.rf (ih hf) (by decide) (by decide)
      · by_cases hs7 : S[w5]? = some (.inl 4)
        · replace hf := (if_pos hs7).symm.trans hf
          obtain ⟨q8, c9, hf⟩ := bd_some hf
          obtain ⟨q10, c11, hf⟩ := bd_some hf
          by_cases c12 : q8 ≤ q10
          · replace hf := (if_pos c12).symm.trans hf
            exact FR.tr FR.rf (ih hf) (by decide) (by decide)
          · replace hf := (if_neg c12).symm.trans hf
            obtain ⟨x13, ex13, hf⟩ := bnd_e hf
            obtain ⟨q14, c15, hf⟩ := bd_some hf
            exact FR.tr (FR.tr (FR.dy FR.rf hs7 (by decide)) (u_Di_advance hs7 (q := q14) c15) (by decide) (by decide)) (ih hf) (by decide) (by decide)
        · replace hf := (if_neg hs7).symm.trans hf
          by_cases hs16 : S[w5]? = some (.inl 1)
          · replace hf := (if_pos hs16).symm.trans hf
            obtain ⟨q17, c18, hf⟩ := bd_some hf
            obtain ⟨q19, c20, hf⟩ := bd_some hf
            by_cases c21 : q17 ≤ q19
            · replace hf := (if_pos c21).symm.trans hf
              exact FR.tr FR.rf (ih hf) (by decide) (by decide)
            · replace hf := (if_neg c21).symm.trans hf
              obtain ⟨x22, ex22, hf⟩ := bnd_e hf
              obtain ⟨q23, c24, hf⟩ := bd_some hf
              exact FR.tr (FR.tr (FR.dy FR.rf hs16 (by decide)) (u_Ca_advance hs16 (q := q23) c24) (by decide) (by decide)) (ih hf) (by decide) (by decide)
          · replace hf := (if_neg hs16).symm.trans hf
            obtain ⟨hs25, hf⟩ := gd_some hf
            obtain ⟨q26, c27, hf⟩ := bd_some hf
            obtain ⟨q28, c29, hf⟩ := bd_some hf
            by_cases c30 : q26 ≤ q28
            · replace hf := (if_pos c30).symm.trans hf
              exact FR.tr FR.rf (ih hf) (by decide) (by decide)
            · replace hf := (if_neg c30).symm.trans hf
              obtain ⟨x31, ex31, hf⟩ := bnd_e hf
              obtain ⟨q32, c33, hf⟩ := bd_some hf
              exact FR.tr (FR.tr (FR.dy FR.rf hs25 (by decide)) (u_St_advance hs25 (q := q32) c33) (by decide) (by decide)) (ih hf) (by decide) (by decide)
def f_H_passTick_L2 (S : List xSh) (Rf : Nat → Nat → Option Nat) : Nat → Int32 → (Nat → Nat → Int32) → (Nat → Nat → Int64) → Option ((Nat → Nat → Int32) × (Nat → Nat → Int64))
  | 0, _, _, _ => none
  | n + 1, l1, I, L => (if (I 0 7) ≤ l1 then (bnd (I 1 12) fun x2 => (f_H_passTick_L41 S Rf xF x2 (0 : Int32) I L)) else (if (0 ≤ l1 ∧ l1 < (4 : Int32)) then (oc (Rf 12 (l1.toNatClampNeg)) (f_H_passTick_L2 S Rf n (l1 + (1 : Int32)) I L) fun w35 => (if S[w35]? = some (.inl 3) then ((f_Cr_passTick w35 I L).bind fun q38 => (f_H_passTick_L2 S Rf n (l1 + (1 : Int32)) q38.1 q38.2)) else none)) else none))
set_option maxRecDepth 100000 in
set_option maxHeartbeats 4000000 in
theorem x_H_passTick_L2 {G : xG} {S : List xSh} {Rf : Nat → Nat → Option Nat} (hT : xTH S Rf) : ∀ (n : Nat) {l1 : Int32} {I : Nat → Nat → Int32} {L : Nat → Nat → Int64} {q : ((Nat → Nat → Int32) × (Nat → Nat → Int64))}, f_H_passTick_L2 S Rf n l1 I L = some q → X G 4 m_H_passTick 2 [(0, .ref (xB G + 0)), (1, .int l1)] [] (S, I, L, Rf) (none, (S, q.1, q.2, Rf)) := by
  intro n
  induction n with
  | zero =>
    intro l1 I L q hf
    exact absurd (show none = some q from hf) (by simp)
  | succ n ih =>
    intro l1 I L q hf
    replace hf := (f_H_passTick_L2.eq_2 _ _ _ _ _ _).symm.trans hf
    refine X_iload_n (pc := 2) (i := 1) 1 dX11_passTick_2 rfl rfl ?_
    refine X_aload_n (pc := 3) (i := 0) 0 dX11_passTick_3 rfl rfl ?_
    refine X_get (pc := 4) (a := 0) (ci := 10) (j := 7) (.int (I 0 7)) (sh_0 hT) (by decide) k_384 rfl dX11_passTick_4 ?_
    by_cases c1 : (I 0 7) ≤ l1
    · replace hf := (if_pos c1).symm.trans hf
      refine X_icmp_ge_t (pc := 7) 31 dX11_passTick_7 (by decide) c1 ?_
      refine X_aload_n (pc := 31) (i := 0) 0 dX11_passTick_31 rfl rfl ?_
      refine X_getr (pc := 32) (a := 0) (ci := 10) (j := 0) (c := 1) (sh_0 hT) (by decide) k_377 (rf_0_0 hT) (fun _ h => h) dX11_passTick_32 ?_
      refine X_get (pc := 35) (a := 1) (ci := 5) (j := 12) (.int (I 1 12)) (sh_1 hT) (by decide) k_192 rfl dX11_passTick_35 ?_
      obtain ⟨x2, ex2, hf⟩ := bnd_e hf
      refine X_tope ex2 ?_
      refine X_istore_n (pc := 38) (i := 1) [(1, .int x2), (0, .ref (xB G + 0))] dX11_passTick_38 rfl (by decide) rfl ?_
      refine X_iconst (pc := 39) (0 : Int32) dX11_passTick_39 (by decide) ?_
      refine X_istore_n (pc := 40) (i := 2) [(2, .int (0 : Int32)), (1, .int x2), (0, .ref (xB G + 0))] dX11_passTick_40 rfl (by decide) rfl ?_
      exact X_lvs [2, 1, 0] rfl (x_H_passTick_L41 hT xF hf)
    · replace hf := (if_neg c1).symm.trans hf
      refine X_icmp_ge_f (pc := 7) 31 dX11_passTick_7 (by decide) c1 ?_
      refine X_aload_n (pc := 10) (i := 0) 0 dX11_passTick_10 rfl rfl ?_
      refine X_getr (pc := 11) (a := 0) (ci := 10) (j := 3) (c := 12) (sh_0 hT) (by decide) k_380 (rf_0_3 hT) (fun _ h => h) dX11_passTick_11 ?_
      refine X_iload_n (pc := 14) (i := 1) 1 dX11_passTick_14 rfl rfl ?_
      obtain ⟨c34, hf⟩ := gd_some hf
      rcases oc_cases hf with ⟨hr36, hf⟩ | ⟨w35, hr36, hf⟩
      · refine X_aaldN (pc := 15) (Or.inr rfl) (sh_12 hT) (vp_in_lit (N := 4) c34 (by decide)) hr36 dX11_passTick_15 ?_
        refine X_astore_nN (pc := 16) (i := 2) [(2, .null), (0, .ref (xB G + 0)), (1, .int l1)] dX11_passTick_16 rfl (by decide) rfl ?_
        refine X_aload_nN (pc := 17) (i := 2) 0 dX11_passTick_17 rfl rfl ?_
        refine X_ifnull_t (pc := 18) 25 dX11_passTick_18 (by decide) ?_
        refine X_iinc (pc := 25) (i := 1) (q := 2) (v := (l1 + (1 : Int32))) [(1, .int (l1 + (1 : Int32))), (2, .null), (0, .ref (xB G + 0))] dX11_passTick_25 rfl rfl (by decide) rfl ?_
        refine X_goto (pc := 28) 2 dX11_passTick_28 (by decide) ?_
        exact X_lvs [2, 0] rfl (ih hf)
      · obtain ⟨hs37, hf⟩ := gd_some hf
        refine X_aaldS (pc := 15) (Or.inr rfl) (sh_12 hT) (vp_in_lit (N := 4) c34 (by decide)) hr36 dX11_passTick_15 ?_
        refine X_astore_n (pc := 16) (i := 2) [(2, .ref (xB G + w35)), (0, .ref (xB G + 0)), (1, .int l1)] dX11_passTick_16 rfl (by decide) rfl ?_
        refine X_aload_n (pc := 17) (i := 2) 0 dX11_passTick_17 rfl rfl ?_
        refine X_ifnull_f (pc := 18) dX11_passTick_18 ?_
        refine X_aload_n (pc := 21) (i := 2) 0 dX11_passTick_21 rfl rfl ?_
        obtain ⟨q38, c39, hf⟩ := bd_some hf
        refine X_invV_v (pc := 22) (c_Cr_passTick hT hs37 c39) ok_Cr_passTick (ci := 3) hs37 k_754 k_755 k_756 nd_1 (by decide) rfl (Nat.le_of_ble_eq_true rfl) dX11_passTick_22 ?_
        refine X_iinc (pc := 25) (i := 1) (q := 2) (v := (l1 + (1 : Int32))) [(1, .int (l1 + (1 : Int32))), (2, .ref (xB G + w35)), (0, .ref (xB G + 0))] dX11_passTick_25 rfl rfl (by decide) rfl ?_
        refine X_goto (pc := 28) 2 dX11_passTick_28 (by decide) ?_
        exact X_lvs [2, 0] rfl (ih hf)
theorem u_H_passTick_L2 {S : List xSh} {Rf : Nat → Nat → Option Nat} : ∀ (n : Nat) {l1 : Int32} {I : Nat → Nat → Int32} {L : Nat → Nat → Int64} {q : ((Nat → Nat → Int32) × (Nat → Nat → Int64))}, f_H_passTick_L2 S Rf n l1 I L = some q → FR S [14, 2303] [] I q.1 L q.2 := by
  intro n
  induction n with
  | zero =>
    intro l1 I L q hf
    exact absurd (show none = some q from hf) (by simp)
  | succ n ih =>
    intro l1 I L q hf
    replace hf := (f_H_passTick_L2.eq_2 _ _ _ _ _ _).symm.trans hf
    by_cases c1 : (I 0 7) ≤ l1
    · replace hf := (if_pos c1).symm.trans hf
      obtain ⟨x2, ex2, hf⟩ := bnd_e hf
      exact FR.tr FR.rf (u_H_passTick_L41 xF hf) (by decide) (by decide)
    · replace hf := (if_neg c1).symm.trans hf
      obtain ⟨c34, hf⟩ := gd_some hf
      rcases oc_cases hf with ⟨hr36, hf⟩ | ⟨w35, hr36, hf⟩
      · exact FR.tr FR.rf (ih hf) (by decide) (by decide)
      · obtain ⟨hs37, hf⟩ := gd_some hf
        obtain ⟨q38, c39, hf⟩ := bd_some hf
        exact FR.tr (FR.tr FR.rf (u_Cr_passTick hs37 (q := q38) c39) (by decide) (by decide)) (ih hf) (by decide) (by decide)
def f_H_passTick (S : List xSh) (Rf : Nat → Nat → Option Nat) (I : Nat → Nat → Int32) (L : Nat → Nat → Int64) : Option ((Nat → Nat → Int32) × (Nat → Nat → Int64)) := (f_H_passTick_L2 S Rf xF (0 : Int32) I L)
set_option maxRecDepth 100000 in
set_option maxHeartbeats 4000000 in
theorem c_H_passTick {G : xG} {S : List xSh} {Rf : Nat → Nat → Option Nat} (hT : xTH S Rf) {I : Nat → Nat → Int32} {L : Nat → Nat → Int64} {q : ((Nat → Nat → Int32) × (Nat → Nat → Int64))} (hf : f_H_passTick S Rf I L = some q) : CT G 4 m_H_passTick [.ref (xB G + 0)] (S, I, L, Rf) (none, (S, q.1, q.2, Rf)) := by
  refine CT.of (by decide +kernel) (Nat.le_of_ble_eq_true rfl) ?_
  show X G 4 m_H_passTick 0 [(0, .ref (xB G + 0))] [] (S, I, L, Rf) (none, (S, q.1, q.2, Rf))
  replace hf := (f_H_passTick.eq_1 _ _ _ _).symm.trans hf
  refine X_iconst (pc := 0) (0 : Int32) dX11_passTick_0 (by decide) ?_
  refine X_istore_n (pc := 1) (i := 1) [(1, .int (0 : Int32)), (0, .ref (xB G + 0))] dX11_passTick_1 rfl (by decide) rfl ?_
  exact X_lvs [1, 0] rfl (x_H_passTick_L2 hT xF hf)
theorem u_H_passTick {S : List xSh} {Rf : Nat → Nat → Option Nat} {I : Nat → Nat → Int32} {L : Nat → Nat → Int64} {q : ((Nat → Nat → Int32) × (Nat → Nat → Int64))} (hf : f_H_passTick S Rf I L = some q) : FR S [14, 2303] [] I q.1 L q.2 := by
  replace hf := (f_H_passTick.eq_1 _ _ _ _).symm.trans hf
  exact FR.tr FR.rf (u_H_passTick_L2 xF hf) (by decide) (by decide)
theorem dX11_takeSteps_0 : decode cX11_takeSteps 0 = .ok (.aload_n 0, 1) := by decide +kernel
theorem dX11_takeSteps_1 : decode cX11_takeSteps 1 = .ok (.getfield 10, 3) := by decide +kernel
theorem dX11_takeSteps_4 : decode cX11_takeSteps 4 = .ok (.getfield 218, 3) := by decide +kernel
theorem dX11_takeSteps_7 : decode cX11_takeSteps 7 = .ok (.istore_n 2, 1) := by decide +kernel
theorem dX11_takeSteps_8 : decode cX11_takeSteps 8 = .ok (.iconst 0, 1) := by decide +kernel
theorem dX11_takeSteps_9 : decode cX11_takeSteps 9 = .ok (.istore_n 3, 1) := by decide +kernel
theorem dX11_takeSteps_10 : decode cX11_takeSteps 10 = .ok (.iload_n 3, 1) := by decide +kernel
theorem dX11_takeSteps_11 : decode cX11_takeSteps 11 = .ok (.iload_n 1, 1) := by decide +kernel
theorem dX11_takeSteps_12 : decode cX11_takeSteps 12 = .ok (.if_icmp .ge 23, 3) := by decide +kernel
theorem dX11_takeSteps_15 : decode cX11_takeSteps 15 = .ok (.aload_n 0, 1) := by decide +kernel
theorem dX11_takeSteps_16 : decode cX11_takeSteps 16 = .ok (.getfield 10, 3) := by decide +kernel
theorem dX11_takeSteps_19 : decode cX11_takeSteps 19 = .ok (.invokevirtual 383, 3) := by decide +kernel
theorem dX11_takeSteps_22 : decode cX11_takeSteps 22 = .ok (.ifCond .eq 7, 3) := by decide +kernel
theorem dX11_takeSteps_25 : decode cX11_takeSteps 25 = .ok (.aload_n 0, 1) := by decide +kernel
theorem dX11_takeSteps_26 : decode cX11_takeSteps 26 = .ok (.invokevirtual 387, 3) := by decide +kernel
theorem dX11_takeSteps_29 : decode cX11_takeSteps 29 = .ok (.iinc 3 1, 3) := by decide +kernel
theorem dX11_takeSteps_32 : decode cX11_takeSteps 32 = .ok (.goto (-22), 3) := by decide +kernel
theorem dX11_takeSteps_35 : decode cX11_takeSteps 35 = .ok (.aload_n 0, 1) := by decide +kernel
theorem dX11_takeSteps_36 : decode cX11_takeSteps 36 = .ok (.getfield 10, 3) := by decide +kernel
theorem dX11_takeSteps_39 : decode cX11_takeSteps 39 = .ok (.getfield 218, 3) := by decide +kernel
theorem dX11_takeSteps_42 : decode cX11_takeSteps 42 = .ok (.iload_n 2, 1) := by decide +kernel
theorem dX11_takeSteps_43 : decode cX11_takeSteps 43 = .ok (.isub, 1) := by decide +kernel
theorem dX11_takeSteps_44 : decode cX11_takeSteps 44 = .ok (.ireturn, 1) := by decide +kernel
def f_H_takeSteps_L10 (S : List xSh) (Rf : Nat → Nat → Option Nat) : Nat → Int32 → Int32 → Int32 → (Nat → Nat → Int32) → (Nat → Nat → Int64) → Option (Int32 × (Nat → Nat → Int32) × (Nat → Nat → Int64))
  | 0, _, _, _, _, _ => none
  | n + 1, l1, l2, l3, I, L => (if l1 ≤ l3 then (some (((I 1 12) - l2), I, L)) else ((f_Es_step I L).bind fun q3 => (if q3.1 = (0 : Int32) then (f_H_takeSteps_L10 S Rf n l1 l2 (l3 + (1 : Int32)) q3.2.1 q3.2.2) else ((f_H_passTick S Rf q3.2.1 q3.2.2).bind fun q6 => (f_H_takeSteps_L10 S Rf n l1 l2 (l3 + (1 : Int32)) q6.1 q6.2)))))
set_option maxRecDepth 100000 in
set_option maxHeartbeats 4000000 in
theorem x_H_takeSteps_L10 {G : xG} {S : List xSh} {Rf : Nat → Nat → Option Nat} (hT : xTH S Rf) : ∀ (n : Nat) {l1 : Int32} {l2 : Int32} {l3 : Int32} {I : Nat → Nat → Int32} {L : Nat → Nat → Int64} {q : (Int32 × (Nat → Nat → Int32) × (Nat → Nat → Int64))}, f_H_takeSteps_L10 S Rf n l1 l2 l3 I L = some q → X G 5 m_H_takeSteps 10 [(0, .ref (xB G + 0)), (1, .int l1), (2, .int l2), (3, .int l3)] [] (S, I, L, Rf) (some (.int q.1), (S, q.2.1, q.2.2, Rf)) := by
  intro n
  induction n with
  | zero =>
    intro l1 l2 l3 I L q hf
    exact absurd (show none = some q from hf) (by simp)
  | succ n ih =>
    intro l1 l2 l3 I L q hf
    replace hf := (f_H_takeSteps_L10.eq_2 _ _ _ _ _ _ _ _).symm.trans hf
    refine X_iload_n (pc := 10) (i := 3) 3 dX11_takeSteps_10 rfl rfl ?_
    refine X_iload_n (pc := 11) (i := 1) 1 dX11_takeSteps_11 rfl rfl ?_
    by_cases c2 : l1 ≤ l3
    · replace hf := (if_pos c2).symm.trans hf
      refine X_icmp_ge_t (pc := 12) 35 dX11_takeSteps_12 (by decide) c2 ?_
      refine X_aload_n (pc := 35) (i := 0) 0 dX11_takeSteps_35 rfl rfl ?_
      refine X_getr (pc := 36) (a := 0) (ci := 10) (j := 0) (c := 1) (sh_0 hT) (by decide) k_377 (rf_0_0 hT) (fun _ h => h) dX11_takeSteps_36 ?_
      refine X_get (pc := 39) (a := 1) (ci := 5) (j := 12) (.int (I 1 12)) (sh_1 hT) (by decide) k_192 rfl dX11_takeSteps_39 ?_
      refine X_iload_n (pc := 42) (i := 2) 2 dX11_takeSteps_42 rfl rfl ?_
      refine X_isub (pc := 43) dX11_takeSteps_43 ?_
      cases hf
      exact X_ireturn (pc := 44) rfl dX11_takeSteps_44
    · replace hf := (if_neg c2).symm.trans hf
      refine X_icmp_ge_f (pc := 12) 35 dX11_takeSteps_12 (by decide) c2 ?_
      refine X_aload_n (pc := 15) (i := 0) 0 dX11_takeSteps_15 rfl rfl ?_
      refine X_getr (pc := 16) (a := 0) (ci := 10) (j := 0) (c := 1) (sh_0 hT) (by decide) k_377 (rf_0_0 hT) (fun _ h => h) dX11_takeSteps_16 ?_
      obtain ⟨q3, c4, hf⟩ := bd_some hf
      refine X_invV_i (pc := 19) (c_Es_step hT c4) ok_Es_step (ci := 5) (sh_1 hT) k_706 k_707 k_708 nd_11 (by decide) rfl (Nat.le_of_ble_eq_true rfl) dX11_takeSteps_19 ?_
      by_cases c5 : q3.1 = (0 : Int32)
      · replace hf := (if_pos c5).symm.trans hf
        refine X_if_eq_t (pc := 22) 29 dX11_takeSteps_22 (by decide) c5 ?_
        refine X_iinc (pc := 29) (i := 3) (q := 3) (v := (l3 + (1 : Int32))) [(3, .int (l3 + (1 : Int32))), (0, .ref (xB G + 0)), (1, .int l1), (2, .int l2)] dX11_takeSteps_29 rfl rfl (by decide) rfl ?_
        refine X_goto (pc := 32) 10 dX11_takeSteps_32 (by decide) ?_
        exact X_lvs [1, 2, 3, 0] rfl (ih hf)
      · replace hf := (if_neg c5).symm.trans hf
        refine X_if_eq_f (pc := 22) 29 dX11_takeSteps_22 (by decide) c5 ?_
        refine X_aload_n (pc := 25) (i := 0) 0 dX11_takeSteps_25 rfl rfl ?_
        obtain ⟨q6, c7, hf⟩ := bd_some hf
        refine X_invV_v (pc := 26) (c_H_passTick hT c7) ok_H_passTick (ci := 10) (sh_0 hT) k_750 k_752 k_13 nd_1 (by decide) rfl (Nat.le_of_ble_eq_true rfl) dX11_takeSteps_26 ?_
        refine X_iinc (pc := 29) (i := 3) (q := 3) (v := (l3 + (1 : Int32))) [(3, .int (l3 + (1 : Int32))), (0, .ref (xB G + 0)), (1, .int l1), (2, .int l2)] dX11_takeSteps_29 rfl rfl (by decide) rfl ?_
        refine X_goto (pc := 32) 10 dX11_takeSteps_32 (by decide) ?_
        exact X_lvs [1, 2, 3, 0] rfl (ih hf)
theorem u_H_takeSteps_L10 {S : List xSh} {Rf : Nat → Nat → Option Nat} : ∀ (n : Nat) {l1 : Int32} {l2 : Int32} {l3 : Int32} {I : Nat → Nat → Int32} {L : Nat → Nat → Int64} {q : (Int32 × (Nat → Nat → Int32) × (Nat → Nat → Int64))}, f_H_takeSteps_L10 S Rf n l1 l2 l3 I L = some q → FR S [10, 14, 1108, 1109, 1110, 1111, 1112, 1113, 1114, 1903, 2303] [] I q.2.1 L q.2.2 := by
  intro n
  induction n with
  | zero =>
    intro l1 l2 l3 I L q hf
    exact absurd (show none = some q from hf) (by simp)
  | succ n ih =>
    intro l1 l2 l3 I L q hf
    replace hf := (f_H_takeSteps_L10.eq_2 _ _ _ _ _ _ _ _).symm.trans hf
    by_cases c2 : l1 ≤ l3
    · replace hf := (if_pos c2).symm.trans hf
      cases hf
      exact FR.rf
    · replace hf := (if_neg c2).symm.trans hf
      obtain ⟨q3, c4, hf⟩ := bd_some hf
      by_cases c5 : q3.1 = (0 : Int32)
      · replace hf := (if_pos c5).symm.trans hf
        exact FR.tr (FR.tr FR.rf (u_Es_step (q := q3) c4) (by decide) (by decide)) (ih hf) (by decide) (by decide)
      · replace hf := (if_neg c5).symm.trans hf
        obtain ⟨q6, c7, hf⟩ := bd_some hf
        exact FR.tr (FR.tr (FR.tr FR.rf (u_Es_step (q := q3) c4) (by decide) (by decide)) (u_H_passTick (q := q6) c7) (by decide) (by decide)) (ih hf) (by decide) (by decide)
def f_H_takeSteps (S : List xSh) (Rf : Nat → Nat → Option Nat) (a0 : Int32) (I : Nat → Nat → Int32) (L : Nat → Nat → Int64) : Option (Int32 × (Nat → Nat → Int32) × (Nat → Nat → Int64)) := (bnd (I 1 12) fun x1 => (f_H_takeSteps_L10 S Rf xF a0 x1 (0 : Int32) I L))
set_option maxRecDepth 100000 in
set_option maxHeartbeats 4000000 in
theorem c_H_takeSteps {G : xG} {S : List xSh} {Rf : Nat → Nat → Option Nat} (hT : xTH S Rf) {a0 : Int32} {I : Nat → Nat → Int32} {L : Nat → Nat → Int64} {q : (Int32 × (Nat → Nat → Int32) × (Nat → Nat → Int64))} (hf : f_H_takeSteps S Rf a0 I L = some q) : CT G 5 m_H_takeSteps [.ref (xB G + 0), .int a0] (S, I, L, Rf) (some (.int q.1), (S, q.2.1, q.2.2, Rf)) := by
  refine CT.of (by decide +kernel) (Nat.le_of_ble_eq_true rfl) ?_
  show X G 5 m_H_takeSteps 0 [(0, .ref (xB G + 0)), (1, .int a0)] [] (S, I, L, Rf) (some (.int q.1), (S, q.2.1, q.2.2, Rf))
  replace hf := (f_H_takeSteps.eq_1 _ _ _ _ _).symm.trans hf
  refine X_aload_n (pc := 0) (i := 0) 0 dX11_takeSteps_0 rfl rfl ?_
  refine X_getr (pc := 1) (a := 0) (ci := 10) (j := 0) (c := 1) (sh_0 hT) (by decide) k_377 (rf_0_0 hT) (fun _ h => h) dX11_takeSteps_1 ?_
  refine X_get (pc := 4) (a := 1) (ci := 5) (j := 12) (.int (I 1 12)) (sh_1 hT) (by decide) k_192 rfl dX11_takeSteps_4 ?_
  obtain ⟨x1, ex1, hf⟩ := bnd_e hf
  refine X_tope ex1 ?_
  refine X_istore_n (pc := 7) (i := 2) [(2, .int x1), (0, .ref (xB G + 0)), (1, .int a0)] dX11_takeSteps_7 rfl (by decide) rfl ?_
  refine X_iconst (pc := 8) (0 : Int32) dX11_takeSteps_8 (by decide) ?_
  refine X_istore_n (pc := 9) (i := 3) [(3, .int (0 : Int32)), (2, .int x1), (0, .ref (xB G + 0)), (1, .int a0)] dX11_takeSteps_9 rfl (by decide) rfl ?_
  exact X_lvs [2, 3, 1, 0] rfl (x_H_takeSteps_L10 hT xF hf)
theorem u_H_takeSteps {S : List xSh} {Rf : Nat → Nat → Option Nat} {a0 : Int32} {I : Nat → Nat → Int32} {L : Nat → Nat → Int64} {q : (Int32 × (Nat → Nat → Int32) × (Nat → Nat → Int64))} (hf : f_H_takeSteps S Rf a0 I L = some q) : FR S [10, 14, 1108, 1109, 1110, 1111, 1112, 1113, 1114, 1903, 2303] [] I q.2.1 L q.2.2 := by
  replace hf := (f_H_takeSteps.eq_1 _ _ _ _ _).symm.trans hf
  obtain ⟨x1, ex1, hf⟩ := bnd_e hf
  exact FR.tr FR.rf (u_H_takeSteps_L10 xF hf) (by decide) (by decide)
theorem dX11_run_0 : decode cX11_run 0 = .ok (.iload_n 1, 1) := by decide +kernel
theorem dX11_run_1 : decode cX11_run 1 = .ok (.iconst 0, 1) := by decide +kernel
theorem dX11_run_2 : decode cX11_run 2 = .ok (.sipush 20000, 3) := by decide +kernel
theorem dX11_run_5 : decode cX11_run 5 = .ok (.invokestatic 91, 3) := by decide +kernel
theorem dX11_run_8 : decode cX11_run 8 = .ok (.ifCond .ne 5, 3) := by decide +kernel
theorem dX11_run_11 : decode cX11_run 11 = .ok (.iconst (-1), 1) := by decide +kernel
theorem dX11_run_12 : decode cX11_run 12 = .ok (.ireturn, 1) := by decide +kernel
theorem dX11_run_13 : decode cX11_run 13 = .ok (.aload_n 0, 1) := by decide +kernel
theorem dX11_run_14 : decode cX11_run 14 = .ok (.getfield 77, 3) := by decide +kernel
theorem dX11_run_17 : decode cX11_run 17 = .ok (.ifCond .ne 6, 3) := by decide +kernel
theorem dX11_run_20 : decode cX11_run 20 = .ok (.bipush (-2), 2) := by decide +kernel
theorem dX11_run_22 : decode cX11_run 22 = .ok (.ireturn, 1) := by decide +kernel
theorem dX11_run_23 : decode cX11_run 23 = .ok (.aload_n 0, 1) := by decide +kernel
theorem dX11_run_24 : decode cX11_run 24 = .ok (.getfield 10, 3) := by decide +kernel
theorem dX11_run_27 : decode cX11_run 27 = .ok (.getfield 153, 3) := by decide +kernel
theorem dX11_run_30 : decode cX11_run 30 = .ok (.iload_n 1, 1) := by decide +kernel
theorem dX11_run_31 : decode cX11_run 31 = .ok (.iadd, 1) := by decide +kernel
theorem dX11_run_32 : decode cX11_run 32 = .ok (.ldc 156, 2) := by decide +kernel
theorem dX11_run_34 : decode cX11_run 34 = .ok (.if_icmp .gt 22, 3) := by decide +kernel
theorem dX11_run_37 : decode cX11_run 37 = .ok (.aload_n 0, 1) := by decide +kernel
theorem dX11_run_38 : decode cX11_run 38 = .ok (.iconst 0, 1) := by decide +kernel
theorem dX11_run_39 : decode cX11_run 39 = .ok (.iload_n 1, 1) := by decide +kernel
theorem dX11_run_40 : decode cX11_run 40 = .ok (.iconst 0, 1) := by decide +kernel
theorem dX11_run_41 : decode cX11_run 41 = .ok (.iconst 0, 1) := by decide +kernel
theorem dX11_run_42 : decode cX11_run 42 = .ok (.invokevirtual 157, 3) := by decide +kernel
theorem dX11_run_45 : decode cX11_run 45 = .ok (.ifCond .eq 11, 3) := by decide +kernel
theorem dX11_run_48 : decode cX11_run 48 = .ok (.aload_n 0, 1) := by decide +kernel
theorem dX11_run_49 : decode cX11_run 49 = .ok (.iload_n 1, 1) := by decide +kernel
theorem dX11_run_50 : decode cX11_run 50 = .ok (.invokevirtual 161, 3) := by decide +kernel
theorem dX11_run_53 : decode cX11_run 53 = .ok (.goto 5, 3) := by decide +kernel
theorem dX11_run_56 : decode cX11_run 56 = .ok (.bipush (-3), 2) := by decide +kernel
theorem dX11_run_58 : decode cX11_run 58 = .ok (.ireturn, 1) := by decide +kernel
def f_H_run (S : List xSh) (Rf : Nat → Nat → Option Nat) (a0 : Int32) (I : Nat → Nat → Int32) (L : Nat → Nat → Int64) : Option (Int32 × (Nat → Nat → Int32) × (Nat → Nat → Int64)) := (bnd (f_H_isWithin a0 (0 : Int32) (20000 : Int32)) fun x1 => (if x1 = (0 : Int32) then (some ((-1 : Int32), I, L)) else (if (I 0 8) = (0 : Int32) then (some ((-2 : Int32), I, L)) else (if (200000 : Int32) < ((I 1 11) + a0) then (some ((-3 : Int32), I, L)) else ((f_H_enter (0 : Int32) a0 (0 : Int32) (0 : Int32) I L).bind fun q5 => (if q5.1 = (0 : Int32) then (some ((-3 : Int32), q5.2.1, q5.2.2)) else ((f_H_takeSteps S Rf a0 q5.2.1 q5.2.2).bind fun q8 => (some (q8.1, q8.2.1, q8.2.2)))))))))
set_option maxRecDepth 100000 in
set_option maxHeartbeats 4000000 in
theorem c_H_run {G : xG} {S : List xSh} {Rf : Nat → Nat → Option Nat} (hT : xTH S Rf) {a0 : Int32} {I : Nat → Nat → Int32} {L : Nat → Nat → Int64} {q : (Int32 × (Nat → Nat → Int32) × (Nat → Nat → Int64))} (hf : f_H_run S Rf a0 I L = some q) : CT G 6 m_H_run [.ref (xB G + 0), .int a0] (S, I, L, Rf) (some (.int q.1), (S, q.2.1, q.2.2, Rf)) := by
  refine CT.of (by decide +kernel) (Nat.le_of_ble_eq_true rfl) ?_
  show X G 6 m_H_run 0 [(0, .ref (xB G + 0)), (1, .int a0)] [] (S, I, L, Rf) (some (.int q.1), (S, q.2.1, q.2.2, Rf))
  replace hf := (f_H_run.eq_1 _ _ _ _ _).symm.trans hf
  refine X_iload_n (pc := 0) (i := 1) 1 dX11_run_0 rfl rfl ?_
  refine X_iconst (pc := 1) (0 : Int32) dX11_run_1 (by decide) ?_
  refine X_sipush (pc := 2) (20000 : Int32) dX11_run_2 (by decide) ?_
  refine X_invS_i (pc := 5) (c_H_isWithin hT rfl) ok_H_isWithin k_437 k_438 nd_6 (by decide) rfl (Nat.le_of_ble_eq_true rfl) dX11_run_5 ?_
  obtain ⟨x1, ex1, hf⟩ := bnd_e hf
  refine X_tope ex1 ?_
  by_cases c2 : x1 = (0 : Int32)
  · replace hf := (if_pos c2).symm.trans hf
    refine X_if_ne_f (pc := 8) 13 dX11_run_8 (by decide) c2 ?_
    refine X_iconst (pc := 11) (-1 : Int32) dX11_run_11 (by decide) ?_
    cases hf
    exact X_ireturn (pc := 12) rfl dX11_run_12
  · replace hf := (if_neg c2).symm.trans hf
    refine X_if_ne_t (pc := 8) 13 dX11_run_8 (by decide) c2 ?_
    refine X_aload_n (pc := 13) (i := 0) 0 dX11_run_13 rfl rfl ?_
    refine X_get (pc := 14) (a := 0) (ci := 10) (j := 8) (.int (I 0 8)) (sh_0 hT) (by decide) k_385 rfl dX11_run_14 ?_
    by_cases c3 : (I 0 8) = (0 : Int32)
    · replace hf := (if_pos c3).symm.trans hf
      refine X_if_ne_f (pc := 17) 23 dX11_run_17 (by decide) c3 ?_
      refine X_bipush (pc := 20) (-2 : Int32) dX11_run_20 (by decide) ?_
      cases hf
      exact X_ireturn (pc := 22) rfl dX11_run_22
    · replace hf := (if_neg c3).symm.trans hf
      refine X_if_ne_t (pc := 17) 23 dX11_run_17 (by decide) c3 ?_
      refine X_aload_n (pc := 23) (i := 0) 0 dX11_run_23 rfl rfl ?_
      refine X_getr (pc := 24) (a := 0) (ci := 10) (j := 0) (c := 1) (sh_0 hT) (by decide) k_377 (rf_0_0 hT) (fun _ h => h) dX11_run_24 ?_
      refine X_get (pc := 27) (a := 1) (ci := 5) (j := 11) (.int (I 1 11)) (sh_1 hT) (by decide) k_190 rfl dX11_run_27 ?_
      refine X_iload_n (pc := 30) (i := 1) 1 dX11_run_30 rfl rfl ?_
      refine X_iadd (pc := 31) dX11_run_31 ?_
      refine X_ldc (pc := 32) (200000 : Int32) k_689 dX11_run_32 ?_
      by_cases c4 : (200000 : Int32) < ((I 1 11) + a0)
      · replace hf := (if_pos c4).symm.trans hf
        refine X_icmp_gt_t (pc := 34) 56 dX11_run_34 (by decide) c4 ?_
        refine X_bipush (pc := 56) (-3 : Int32) dX11_run_56 (by decide) ?_
        cases hf
        exact X_ireturn (pc := 58) rfl dX11_run_58
      · replace hf := (if_neg c4).symm.trans hf
        refine X_icmp_gt_f (pc := 34) 56 dX11_run_34 (by decide) c4 ?_
        refine X_aload_n (pc := 37) (i := 0) 0 dX11_run_37 rfl rfl ?_
        refine X_iconst (pc := 38) (0 : Int32) dX11_run_38 (by decide) ?_
        refine X_iload_n (pc := 39) (i := 1) 1 dX11_run_39 rfl rfl ?_
        refine X_iconst (pc := 40) (0 : Int32) dX11_run_40 (by decide) ?_
        refine X_iconst (pc := 41) (0 : Int32) dX11_run_41 (by decide) ?_
        obtain ⟨q5, c6, hf⟩ := bd_some hf
        refine X_invV_i (pc := 42) (c_H_enter hT c6) ok_H_enter (ci := 10) (sh_0 hT) k_690 k_692 k_10 nd_18 (by decide) rfl (Nat.le_of_ble_eq_true rfl) dX11_run_42 ?_
        by_cases c7 : q5.1 = (0 : Int32)
        · replace hf := (if_pos c7).symm.trans hf
          refine X_if_eq_t (pc := 45) 56 dX11_run_45 (by decide) c7 ?_
          refine X_bipush (pc := 56) (-3 : Int32) dX11_run_56 (by decide) ?_
          cases hf
          exact X_ireturn (pc := 58) rfl dX11_run_58
        · replace hf := (if_neg c7).symm.trans hf
          refine X_if_eq_f (pc := 45) 56 dX11_run_45 (by decide) c7 ?_
          refine X_aload_n (pc := 48) (i := 0) 0 dX11_run_48 rfl rfl ?_
          refine X_iload_n (pc := 49) (i := 1) 1 dX11_run_49 rfl rfl ?_
          obtain ⟨q8, c9, hf⟩ := bd_some hf
          refine X_invV_i (pc := 50) (c_H_takeSteps hT c9) ok_H_takeSteps (ci := 10) (sh_0 hT) k_702 k_704 k_11 nd_8 (by decide) rfl (Nat.le_of_ble_eq_true rfl) dX11_run_50 ?_
          refine X_goto (pc := 53) 58 dX11_run_53 (by decide) ?_
          cases hf
          exact X_ireturn (pc := 58) rfl dX11_run_58
theorem u_H_run {S : List xSh} {Rf : Nat → Nat → Option Nat} {a0 : Int32} {I : Nat → Nat → Int32} {L : Nat → Nat → Int64} {q : (Int32 × (Nat → Nat → Int32) × (Nat → Nat → Int64))} (hf : f_H_run S Rf a0 I L = some q) : FR S [10, 14, 16, 1108, 1109, 1110, 1111, 1112, 1113, 1114, 1903, 2303, 2503] [] I q.2.1 L q.2.2 := by
  replace hf := (f_H_run.eq_1 _ _ _ _ _).symm.trans hf
  obtain ⟨x1, ex1, hf⟩ := bnd_e hf
  by_cases c2 : x1 = (0 : Int32)
  · replace hf := (if_pos c2).symm.trans hf
    cases hf
    exact FR.rf
  · replace hf := (if_neg c2).symm.trans hf
    by_cases c3 : (I 0 8) = (0 : Int32)
    · replace hf := (if_pos c3).symm.trans hf
      cases hf
      exact FR.rf
    · replace hf := (if_neg c3).symm.trans hf
      by_cases c4 : (200000 : Int32) < ((I 1 11) + a0)
      · replace hf := (if_pos c4).symm.trans hf
        cases hf
        exact FR.rf
      · replace hf := (if_neg c4).symm.trans hf
        obtain ⟨q5, c6, hf⟩ := bd_some hf
        by_cases c7 : q5.1 = (0 : Int32)
        · replace hf := (if_pos c7).symm.trans hf
          cases hf
          exact (FR.tr FR.rf (u_H_enter (q := q5) c6) (by decide) (by decide))
        · replace hf := (if_neg c7).symm.trans hf
          obtain ⟨q8, c9, hf⟩ := bd_some hf
          cases hf
          exact (FR.tr (FR.tr FR.rf (u_H_enter (q := q5) c6) (by decide) (by decide)) (u_H_takeSteps (q := q8) c9) (by decide) (by decide))
theorem dX5_push_0 : decode cX5_push 0 = .ok (.aload_n 0, 1) := by decide +kernel
theorem dX5_push_1 : decode cX5_push 1 = .ok (.aload_n 0, 1) := by decide +kernel
theorem dX5_push_2 : decode cX5_push 2 = .ok (.getfield 66, 3) := by decide +kernel
theorem dX5_push_5 : decode cX5_push 5 = .ok (.i2l, 1) := by decide +kernel
theorem dX5_push_6 : decode cX5_push 6 = .ok (.iload_n 1, 1) := by decide +kernel
theorem dX5_push_7 : decode cX5_push 7 = .ok (.i2l, 1) := by decide +kernel
theorem dX5_push_8 : decode cX5_push 8 = .ok (.ladd, 1) := by decide +kernel
theorem dX5_push_9 : decode cX5_push 9 = .ok (.invokestatic 87, 3) := by decide +kernel
theorem dX5_push_12 : decode cX5_push 12 = .ok (.putfield 66, 3) := by decide +kernel
theorem dX5_push_15 : decode cX5_push 15 = .ok (.aload_n 0, 1) := by decide +kernel
theorem dX5_push_16 : decode cX5_push 16 = .ok (.getfield 66, 3) := by decide +kernel
theorem dX5_push_19 : decode cX5_push 19 = .ok (.ireturn, 1) := by decide +kernel
def f_Es_push (a0 : Int32) (I : Nat → Nat → Int32) (L : Nat → Nat → Int64) : Option (Int32 × (Nat → Nat → Int32) × (Nat → Nat → Int64)) := (bnd (f_Es_held ((Int32.toInt64 (I 1 9)) + (Int32.toInt64 a0))) fun x1 => (some (x1, (uI I 1 9 x1), L)))
set_option maxRecDepth 100000 in
set_option maxHeartbeats 4000000 in
theorem c_Es_push {G : xG} {S : List xSh} {Rf : Nat → Nat → Option Nat} (hT : xTH S Rf) {a0 : Int32} {I : Nat → Nat → Int32} {L : Nat → Nat → Int64} {q : (Int32 × (Nat → Nat → Int32) × (Nat → Nat → Int64))} (hf : f_Es_push a0 I L = some q) : CT G 2 m_Es_push [.ref (xB G + 1), .int a0] (S, I, L, Rf) (some (.int q.1), (S, q.2.1, q.2.2, Rf)) := by
  refine CT.of (by decide +kernel) (Nat.le_of_ble_eq_true rfl) ?_
  show X G 2 m_Es_push 0 [(0, .ref (xB G + 1)), (1, .int a0)] [] (S, I, L, Rf) (some (.int q.1), (S, q.2.1, q.2.2, Rf))
  replace hf := (f_Es_push.eq_1 _ _ _).symm.trans hf
  refine X_aload_n (pc := 0) (i := 0) 0 dX5_push_0 rfl rfl ?_
  refine X_aload_n (pc := 1) (i := 0) 0 dX5_push_1 rfl rfl ?_
  refine X_get (pc := 2) (a := 1) (ci := 5) (j := 9) (.int (I 1 9)) (sh_1 hT) (by decide) k_185 rfl dX5_push_2 ?_
  refine X_i2l (pc := 5) dX5_push_5 ?_
  refine X_iload_n (pc := 6) (i := 1) 1 dX5_push_6 rfl rfl ?_
  refine X_i2l (pc := 7) dX5_push_7 ?_
  refine X_ladd (pc := 8) dX5_push_8 ?_
  refine X_invS_i (pc := 9) (c_Es_held hT rfl) ok_Es_held k_710 k_711 nd_19 (by decide) rfl (Nat.le_of_ble_eq_true rfl) dX5_push_9 ?_
  obtain ⟨x1, ex1, hf⟩ := bnd_e hf
  refine X_tope ex1 ?_
  refine X_puti (pc := 12) (a := 1) (ci := 5) (j := 9) false (sh_1 hT) (by decide) k_185 rfl (fun h => by cases h) rfl dX5_push_12 ?_
  refine X_aload_n (pc := 15) (i := 0) 0 dX5_push_15 rfl rfl ?_
  refine X_get (pc := 16) (a := 1) (ci := 5) (j := 9) (.int x1) (sh_1 hT) (by decide) k_185 rfl dX5_push_16 ?_
  cases hf
  exact X_ireturn (pc := 19) rfl dX5_push_19
theorem u_Es_push {S : List xSh} {a0 : Int32} {I : Nat → Nat → Int32} {L : Nat → Nat → Int64} {q : (Int32 × (Nat → Nat → Int32) × (Nat → Nat → Int64))} (hf : f_Es_push a0 I L = some q) : FR S [1109] [] I q.2.1 L q.2.2 := by
  replace hf := (f_Es_push.eq_1 _ _ _).symm.trans hf
  obtain ⟨x1, ex1, hf⟩ := bnd_e hf
  cases hf
  exact (FR.fi FR.rf (by decide))
theorem dX11_shock_0 : decode cX11_shock 0 = .ok (.iload_n 1, 1) := by decide +kernel
theorem dX11_shock_1 : decode cX11_shock 1 = .ok (.ldc 165, 2) := by decide +kernel
theorem dX11_shock_3 : decode cX11_shock 3 = .ok (.ldc 111, 2) := by decide +kernel
theorem dX11_shock_5 : decode cX11_shock 5 = .ok (.invokestatic 91, 3) := by decide +kernel
theorem dX11_shock_8 : decode cX11_shock 8 = .ok (.ifCond .ne 5, 3) := by decide +kernel
theorem dX11_shock_11 : decode cX11_shock 11 = .ok (.iconst (-1), 1) := by decide +kernel
theorem dX11_shock_12 : decode cX11_shock 12 = .ok (.ireturn, 1) := by decide +kernel
theorem dX11_shock_13 : decode cX11_shock 13 = .ok (.aload_n 0, 1) := by decide +kernel
theorem dX11_shock_14 : decode cX11_shock 14 = .ok (.getfield 77, 3) := by decide +kernel
theorem dX11_shock_17 : decode cX11_shock 17 = .ok (.ifCond .ne 6, 3) := by decide +kernel
theorem dX11_shock_20 : decode cX11_shock 20 = .ok (.bipush (-2), 2) := by decide +kernel
theorem dX11_shock_22 : decode cX11_shock 22 = .ok (.ireturn, 1) := by decide +kernel
theorem dX11_shock_23 : decode cX11_shock 23 = .ok (.aload_n 0, 1) := by decide +kernel
theorem dX11_shock_24 : decode cX11_shock 24 = .ok (.iconst 1, 1) := by decide +kernel
theorem dX11_shock_25 : decode cX11_shock 25 = .ok (.iload_n 1, 1) := by decide +kernel
theorem dX11_shock_26 : decode cX11_shock 26 = .ok (.iconst 0, 1) := by decide +kernel
theorem dX11_shock_27 : decode cX11_shock 27 = .ok (.iconst 0, 1) := by decide +kernel
theorem dX11_shock_28 : decode cX11_shock 28 = .ok (.invokevirtual 157, 3) := by decide +kernel
theorem dX11_shock_31 : decode cX11_shock 31 = .ok (.ifCond .eq 14, 3) := by decide +kernel
theorem dX11_shock_34 : decode cX11_shock 34 = .ok (.aload_n 0, 1) := by decide +kernel
theorem dX11_shock_35 : decode cX11_shock 35 = .ok (.getfield 10, 3) := by decide +kernel
theorem dX11_shock_38 : decode cX11_shock 38 = .ok (.iload_n 1, 1) := by decide +kernel
theorem dX11_shock_39 : decode cX11_shock 39 = .ok (.invokevirtual 166, 3) := by decide +kernel
theorem dX11_shock_42 : decode cX11_shock 42 = .ok (.goto 5, 3) := by decide +kernel
theorem dX11_shock_45 : decode cX11_shock 45 = .ok (.bipush (-3), 2) := by decide +kernel
theorem dX11_shock_47 : decode cX11_shock 47 = .ok (.ireturn, 1) := by decide +kernel
def f_H_shock (a0 : Int32) (I : Nat → Nat → Int32) (L : Nat → Nat → Int64) : Option (Int32 × (Nat → Nat → Int32) × (Nat → Nat → Int64)) := (bnd (f_H_isWithin a0 (-1000000 : Int32) (1000000 : Int32)) fun x1 => (if x1 = (0 : Int32) then (some ((-1 : Int32), I, L)) else (if (I 0 8) = (0 : Int32) then (some ((-2 : Int32), I, L)) else ((f_H_enter (1 : Int32) a0 (0 : Int32) (0 : Int32) I L).bind fun q4 => (if q4.1 = (0 : Int32) then (some ((-3 : Int32), q4.2.1, q4.2.2)) else ((f_Es_push a0 q4.2.1 q4.2.2).bind fun q7 => (some (q7.1, q7.2.1, q7.2.2))))))))
set_option maxRecDepth 100000 in
set_option maxHeartbeats 4000000 in
theorem c_H_shock {G : xG} {S : List xSh} {Rf : Nat → Nat → Option Nat} (hT : xTH S Rf) {a0 : Int32} {I : Nat → Nat → Int32} {L : Nat → Nat → Int64} {q : (Int32 × (Nat → Nat → Int32) × (Nat → Nat → Int64))} (hf : f_H_shock a0 I L = some q) : CT G 3 m_H_shock [.ref (xB G + 0), .int a0] (S, I, L, Rf) (some (.int q.1), (S, q.2.1, q.2.2, Rf)) := by
  refine CT.of (by decide +kernel) (Nat.le_of_ble_eq_true rfl) ?_
  show X G 3 m_H_shock 0 [(0, .ref (xB G + 0)), (1, .int a0)] [] (S, I, L, Rf) (some (.int q.1), (S, q.2.1, q.2.2, Rf))
  replace hf := (f_H_shock.eq_1 _ _ _).symm.trans hf
  refine X_iload_n (pc := 0) (i := 1) 1 dX11_shock_0 rfl rfl ?_
  refine X_ldc (pc := 1) (-1000000 : Int32) k_802 dX11_shock_1 ?_
  refine X_ldc (pc := 3) (1000000 : Int32) k_510 dX11_shock_3 ?_
  refine X_invS_i (pc := 5) (c_H_isWithin hT rfl) ok_H_isWithin k_437 k_438 nd_6 (by decide) rfl (Nat.le_of_ble_eq_true rfl) dX11_shock_5 ?_
  obtain ⟨x1, ex1, hf⟩ := bnd_e hf
  refine X_tope ex1 ?_
  by_cases c2 : x1 = (0 : Int32)
  · replace hf := (if_pos c2).symm.trans hf
    refine X_if_ne_f (pc := 8) 13 dX11_shock_8 (by decide) c2 ?_
    refine X_iconst (pc := 11) (-1 : Int32) dX11_shock_11 (by decide) ?_
    cases hf
    exact X_ireturn (pc := 12) rfl dX11_shock_12
  · replace hf := (if_neg c2).symm.trans hf
    refine X_if_ne_t (pc := 8) 13 dX11_shock_8 (by decide) c2 ?_
    refine X_aload_n (pc := 13) (i := 0) 0 dX11_shock_13 rfl rfl ?_
    refine X_get (pc := 14) (a := 0) (ci := 10) (j := 8) (.int (I 0 8)) (sh_0 hT) (by decide) k_385 rfl dX11_shock_14 ?_
    by_cases c3 : (I 0 8) = (0 : Int32)
    · replace hf := (if_pos c3).symm.trans hf
      refine X_if_ne_f (pc := 17) 23 dX11_shock_17 (by decide) c3 ?_
      refine X_bipush (pc := 20) (-2 : Int32) dX11_shock_20 (by decide) ?_
      cases hf
      exact X_ireturn (pc := 22) rfl dX11_shock_22
    · replace hf := (if_neg c3).symm.trans hf
      refine X_if_ne_t (pc := 17) 23 dX11_shock_17 (by decide) c3 ?_
      refine X_aload_n (pc := 23) (i := 0) 0 dX11_shock_23 rfl rfl ?_
      refine X_iconst (pc := 24) (1 : Int32) dX11_shock_24 (by decide) ?_
      refine X_iload_n (pc := 25) (i := 1) 1 dX11_shock_25 rfl rfl ?_
      refine X_iconst (pc := 26) (0 : Int32) dX11_shock_26 (by decide) ?_
      refine X_iconst (pc := 27) (0 : Int32) dX11_shock_27 (by decide) ?_
      obtain ⟨q4, c5, hf⟩ := bd_some hf
      refine X_invV_i (pc := 28) (c_H_enter hT c5) ok_H_enter (ci := 10) (sh_0 hT) k_690 k_692 k_10 nd_18 (by decide) rfl (Nat.le_of_ble_eq_true rfl) dX11_shock_28 ?_
      by_cases c6 : q4.1 = (0 : Int32)
      · replace hf := (if_pos c6).symm.trans hf
        refine X_if_eq_t (pc := 31) 45 dX11_shock_31 (by decide) c6 ?_
        refine X_bipush (pc := 45) (-3 : Int32) dX11_shock_45 (by decide) ?_
        cases hf
        exact X_ireturn (pc := 47) rfl dX11_shock_47
      · replace hf := (if_neg c6).symm.trans hf
        refine X_if_eq_f (pc := 31) 45 dX11_shock_31 (by decide) c6 ?_
        refine X_aload_n (pc := 34) (i := 0) 0 dX11_shock_34 rfl rfl ?_
        refine X_getr (pc := 35) (a := 0) (ci := 10) (j := 0) (c := 1) (sh_0 hT) (by decide) k_377 (rf_0_0 hT) (fun _ h => h) dX11_shock_35 ?_
        refine X_iload_n (pc := 38) (i := 1) 1 dX11_shock_38 rfl rfl ?_
        obtain ⟨q7, c8, hf⟩ := bd_some hf
        refine X_invV_i (pc := 39) (c_Es_push hT c8) ok_Es_push (ci := 5) (sh_1 hT) k_803 k_804 k_805 nd_8 (by decide) rfl (Nat.le_of_ble_eq_true rfl) dX11_shock_39 ?_
        refine X_goto (pc := 42) 47 dX11_shock_42 (by decide) ?_
        cases hf
        exact X_ireturn (pc := 47) rfl dX11_shock_47
theorem u_H_shock {S : List xSh} {a0 : Int32} {I : Nat → Nat → Int32} {L : Nat → Nat → Int64} {q : (Int32 × (Nat → Nat → Int32) × (Nat → Nat → Int64))} (hf : f_H_shock a0 I L = some q) : FR S [16, 1109, 2503] [] I q.2.1 L q.2.2 := by
  replace hf := (f_H_shock.eq_1 _ _ _).symm.trans hf
  obtain ⟨x1, ex1, hf⟩ := bnd_e hf
  by_cases c2 : x1 = (0 : Int32)
  · replace hf := (if_pos c2).symm.trans hf
    cases hf
    exact FR.rf
  · replace hf := (if_neg c2).symm.trans hf
    by_cases c3 : (I 0 8) = (0 : Int32)
    · replace hf := (if_pos c3).symm.trans hf
      cases hf
      exact FR.rf
    · replace hf := (if_neg c3).symm.trans hf
      obtain ⟨q4, c5, hf⟩ := bd_some hf
      by_cases c6 : q4.1 = (0 : Int32)
      · replace hf := (if_pos c6).symm.trans hf
        cases hf
        exact (FR.tr FR.rf (u_H_enter (q := q4) c5) (by decide) (by decide))
      · replace hf := (if_neg c6).symm.trans hf
        obtain ⟨q7, c8, hf⟩ := bd_some hf
        cases hf
        exact (FR.tr (FR.tr FR.rf (u_H_enter (q := q4) c5) (by decide) (by decide)) (u_Es_push (q := q7) c8) (by decide) (by decide))

/-! constructors -/
section XCn
variable {G : xG} {d : Nat} {M : xM} {pc : Nat} {lv : List (Nat × Value)} {st : List Value} {S : List xSh} {I : Nat → Nat → Int32} {L : Nat → Nat → Int64} {Rf : Nat → Nat → Option Nat} {o : Option Value × xH}
theorem X_newC {ci idx : Nat} (hci : ci < 12) (hcl : Cond.classLink M.1.cls idx (xcl ci).1 ∈ xtbl) (hinst : Cond.instantiable (xcl ci).1 (xnf ci) ∈ xtbl) (hini : Cond.initialized (xcl ci).1 ∈ xtbl) (S' : List xSh) (n : Nat) (hS : S ++ [.inl ci] = S') (hn : S.length = n) (hd : decode M.2.1 pc = .ok (.new idx, 3)) (k : X (x0 G) d M (pc + 3) lv (.ref (xP (x0 G) n) :: st) (S', uZ I n 0, uZ L n 0, uZ Rf n none) o) : X (x0 G) d M pc lv st (S, I, L, Rf) o := by
  subst hS; subst hn; exact X_new hci hcl hinst hini hd k
theorem X_newaC {t N : Nat} {n : Int32} {atype : ArrayType} (ht : t < 3) (hty : newarray.typeOf atype = xaty t) (hw : Cond.arrayClass (newarray.typeOf atype) ∈ xtbl) (hn : ¬ n < 0) (hN : n.toNatClampNeg = N) (hb : N * 8 ≤ 536870912) (S' : List xSh) (m : Nat) (hS : S ++ [.inr (t, N)] = S') (hm : S.length = m) (hd : decode M.2.1 pc = .ok (.newarray atype, 2)) (k : X (x0 G) d M (pc + 2) lv (.ref (xP (x0 G) m) :: st) (S', uZ I m 0, uZ L m 0, uZ Rf m none) o) : X (x0 G) d M pc lv (.int n :: st) (S, I, L, Rf) o := by
  subst hS; subst hm; exact X_newa (idx := 0) ht hty hw hn hN hb hd k
theorem X_anewC {t N idx : Nat} {n : Int32} {C : String} (ht : (t = 3 ∧ C = "WatchHouse$Work") ∨ (t = 4 ∧ C = "WatchHouse$Chronograph") ∨ (t = 5 ∧ C = "WatchHouse$Dial") ∨ (t = 6 ∧ C = "WatchHouse$Calendar") ∨ (t = 7 ∧ C = "WatchHouse$Strike")) (hcl : Cond.classLink M.1.cls idx C ∈ xtbl) (hn : ¬ n < 0) (hN : n.toNatClampNeg = N) (hb : N * 4 ≤ 536870912) (S' : List xSh) (m : Nat) (hS : S ++ [.inr (t, N)] = S') (hm : S.length = m) (hd : decode M.2.1 pc = .ok (.anewarray idx, 3)) (k : X (x0 G) d M (pc + 3) lv (.ref (xP (x0 G) m) :: st) (S', uZ I m 0, uZ L m 0, uZ Rf m none) o) : X (x0 G) d M pc lv (.int n :: st) (S, I, L, Rf) o := by
  subst hS; subst hm; exact X_anew ht hcl hn hN hb hd k
theorem X_aastCj {a v n t ci j : Nat} {i : Int32} (ht : (t = 4 ∧ ci = 3) ∨ (t = 5 ∧ ci = 4) ∨ (t = 6 ∧ ci = 1) ∨ (t = 7 ∧ ci = 8)) (hs : S[a]? = some (.inr (t, n))) (hv : S[v]? = some (.inl ci)) (hin : vp_in i n) (hj : i.toNatClampNeg = j) (hd : decode M.2.1 pc = .ok (.aastore, 1)) (k : X G d M (pc + 1) lv st (S, I, L, uR Rf a j (some v)) o) : X G d M pc lv (.ref (xP G v) :: .int i :: .ref (xP G a) :: st) (S, I, L, Rf) o := by
  subst hj; exact X_aastC ht hs hv hin hd k
end XCn
section XVv
variable {I : Nat → Nat → Int32} {L : Nat → Nat → Int64} {R : Nat → Nat → Option Nat}
theorem vw_ic : VW 65 (xSc, oI I, oL L, oR R) (xSm 65, I, L, R) := vw_mk rfl rfl vw_c0 (fun _ _ => rfl) (fun _ _ => rfl) (fun _ _ => rfl)
theorem vw_bc : VW 65 (xSc, I, L, oR R) (xSm 65, bI I, bL L, R) := vw_mk rfl rfl vw_c0 (fun k _ => by unfold bI; rw [xrh_xsg]) (fun k _ => by unfold bL; rw [xrh_xsg]) (fun _ _ => rfl)
theorem vw_il : VW 106 (xSl, oI I, oL L, oR R) (xSm 106, I, L, R) := vw_mk rfl rfl vw_l0 (fun _ _ => rfl) (fun _ _ => rfl) (fun _ _ => rfl)
theorem vw_bl : VW 106 (xSl, I, L, oR R) (xSm 106, bI I, bL L, R) := vw_mk rfl rfl vw_l0 (fun k _ => by unfold bI; rw [xrh_xsg]) (fun k _ => by unfold bL; rw [xrh_xsg]) (fun _ _ => rfl)
theorem vw_br : VW 106 (xSl, I, L, R) (xSm 106, bI I, bL L, bR R) := vw_mk rfl rfl vw_l0 (fun k _ => by unfold bI; rw [xrh_xsg]) (fun k _ => by unfold bL; rw [xrh_xsg]) (fun k _ => by unfold bR; rw [xrh_xsg, map_sr])
end XVv
theorem dX6_init_0 : decode cX6_init 0 = .ok (.aload_n 0, 1) := by decide +kernel
theorem dX6_init_1 : decode cX6_init 1 = .ok (.invokespecial 3, 3) := by decide +kernel
theorem dX6_init_4 : decode cX6_init 4 = .ok (.aload_n 0, 1) := by decide +kernel
theorem dX6_init_5 : decode cX6_init 5 = .ok (.bipush 24, 2) := by decide +kernel
theorem dX6_init_7 : decode cX6_init 7 = .ok (.newarray .long, 2) := by decide +kernel
theorem dX6_init_9 : decode cX6_init 9 = .ok (.putfield 11, 3) := by decide +kernel
theorem dX6_init_12 : decode cX6_init 12 = .ok (.aload_n 0, 1) := by decide +kernel
theorem dX6_init_13 : decode cX6_init 13 = .ok (.bipush 24, 2) := by decide +kernel
theorem dX6_init_15 : decode cX6_init 15 = .ok (.newarray .long, 2) := by decide +kernel
theorem dX6_init_17 : decode cX6_init 17 = .ok (.putfield 15, 3) := by decide +kernel
theorem dX6_init_20 : decode cX6_init 20 = .ok (.aload_n 0, 1) := by decide +kernel
theorem dX6_init_21 : decode cX6_init 21 = .ok (.bipush 24, 2) := by decide +kernel
theorem dX6_init_23 : decode cX6_init 23 = .ok (.newarray .long, 2) := by decide +kernel
theorem dX6_init_25 : decode cX6_init 25 = .ok (.putfield 18, 3) := by decide +kernel
theorem dX6_init_28 : decode cX6_init 28 = .ok (.aload_n 0, 1) := by decide +kernel
theorem dX6_init_29 : decode cX6_init 29 = .ok (.bipush 120, 2) := by decide +kernel
theorem dX6_init_31 : decode cX6_init 31 = .ok (.newarray .int, 2) := by decide +kernel
theorem dX6_init_33 : decode cX6_init 33 = .ok (.putfield 21, 3) := by decide +kernel
theorem dX6_init_36 : decode cX6_init 36 = .ok (.aload_n 0, 1) := by decide +kernel
theorem dX6_init_37 : decode cX6_init 37 = .ok (.bipush 120, 2) := by decide +kernel
theorem dX6_init_39 : decode cX6_init 39 = .ok (.newarray .int, 2) := by decide +kernel
theorem dX6_init_41 : decode cX6_init 41 = .ok (.putfield 25, 3) := by decide +kernel
theorem dX6_init_44 : decode cX6_init 44 = .ok (.return_, 1) := by decide +kernel
def iI_Ge_init_2 (I : Nat → Nat → Int32) : Nat → Nat → Int32 := (uZ (uZ (uZ (uZ (uZ I 3 0) 4 0) 5 0) 6 0) 7 0)
def iL_Ge_init_2 (L : Nat → Nat → Int64) : Nat → Nat → Int64 := (uZ (uZ (uZ (uZ (uZ L 3 0) 4 0) 5 0) 6 0) 7 0)
def iR_Ge_init_2 (Rf : Nat → Nat → Option Nat) : Nat → Nat → Option Nat := (uR (uZ (uR (uZ (uR (uZ (uR (uZ (uR (uZ Rf 3 none) 2 5 (some 3)) 4 none) 2 6 (some 4)) 5 none) 2 7 (some 5)) 6 none) 2 8 (some 6)) 7 none) 2 9 (some 7))
set_option maxRecDepth 100000 in
set_option maxHeartbeats 4000000 in
theorem c_Ge_init_2 {G : xG} {I : Nat → Nat → Int32} {L : Nat → Nat → Int64} {Rf : Nat → Nat → Option Nat}  : CT (x0 G) 1 m_Ge_init [.ref (xP (x0 G) 2)] (xSm 3, I, L, Rf) (none, (xSm 8, iI_Ge_init_2 I, iL_Ge_init_2 L, iR_Ge_init_2 Rf)) := by
  refine CT.of (by decide +kernel) (Nat.le_of_ble_eq_true rfl) ?_
  show X (x0 G) 1 m_Ge_init 0 [(0, .ref (xP (x0 G) 2))] [] _ _
  refine X_aload_n (pc := 0) (i := 0) 0 dX6_init_0 rfl rfl ?_
  refine X_objInit (pc := 1) k_106 k_93 k_94 (by decide) (by decide) dX6_init_1 ?_
  refine X_aload_n (pc := 4) (i := 0) 0 dX6_init_4 rfl rfl ?_
  refine X_bipush (pc := 5) (24 : Int32) dX6_init_5 (by decide) ?_
  refine X_newaC (pc := 7) (atype := .long) (t := 1) (N := 24) (by decide) rfl k_150 (by decide) (by decide) (by decide) (xSm 4) 3 rfl rfl dX6_init_7 ?_
  refine X_putr (pc := 9) (a := 2) (ci := 6) (j := 5) 5 rfl true rfl (by decide) k_116 rfl (fun _ => ⟨rfl, rfl⟩) (by first | exact Or.inl ⟨_, rfl⟩ | exact Or.inr ⟨_, rfl⟩) dX6_init_9 ?_
  refine X_aload_n (pc := 12) (i := 0) 0 dX6_init_12 rfl rfl ?_
  refine X_bipush (pc := 13) (24 : Int32) dX6_init_13 (by decide) ?_
  refine X_newaC (pc := 15) (atype := .long) (t := 1) (N := 24) (by decide) rfl k_150 (by decide) (by decide) (by decide) (xSm 5) 4 rfl rfl dX6_init_15 ?_
  refine X_putr (pc := 17) (a := 2) (ci := 6) (j := 6) 6 rfl true rfl (by decide) k_118 rfl (fun _ => ⟨rfl, rfl⟩) (by first | exact Or.inl ⟨_, rfl⟩ | exact Or.inr ⟨_, rfl⟩) dX6_init_17 ?_
  refine X_aload_n (pc := 20) (i := 0) 0 dX6_init_20 rfl rfl ?_
  refine X_bipush (pc := 21) (24 : Int32) dX6_init_21 (by decide) ?_
  refine X_newaC (pc := 23) (atype := .long) (t := 1) (N := 24) (by decide) rfl k_150 (by decide) (by decide) (by decide) (xSm 6) 5 rfl rfl dX6_init_23 ?_
  refine X_putr (pc := 25) (a := 2) (ci := 6) (j := 7) 7 rfl true rfl (by decide) k_120 rfl (fun _ => ⟨rfl, rfl⟩) (by first | exact Or.inl ⟨_, rfl⟩ | exact Or.inr ⟨_, rfl⟩) dX6_init_25 ?_
  refine X_aload_n (pc := 28) (i := 0) 0 dX6_init_28 rfl rfl ?_
  refine X_bipush (pc := 29) (120 : Int32) dX6_init_29 (by decide) ?_
  refine X_newaC (pc := 31) (atype := .int) (t := 0) (N := 120) (by decide) rfl k_151 (by decide) (by decide) (by decide) (xSm 7) 6 rfl rfl dX6_init_31 ?_
  refine X_putr (pc := 33) (a := 2) (ci := 6) (j := 8) 8 rfl true rfl (by decide) k_121 rfl (fun _ => ⟨rfl, rfl⟩) (by first | exact Or.inl ⟨_, rfl⟩ | exact Or.inr ⟨_, rfl⟩) dX6_init_33 ?_
  refine X_aload_n (pc := 36) (i := 0) 0 dX6_init_36 rfl rfl ?_
  refine X_bipush (pc := 37) (120 : Int32) dX6_init_37 (by decide) ?_
  refine X_newaC (pc := 39) (atype := .int) (t := 0) (N := 120) (by decide) rfl k_151 (by decide) (by decide) (by decide) (xSm 8) 7 rfl rfl dX6_init_39 ?_
  refine X_putr (pc := 41) (a := 2) (ci := 6) (j := 9) 9 rfl true rfl (by decide) k_122 rfl (fun _ => ⟨rfl, rfl⟩) (by first | exact Or.inl ⟨_, rfl⟩ | exact Or.inr ⟨_, rfl⟩) dX6_init_41 ?_
  exact X_return (pc := 44) rfl dX6_init_44
theorem dX7_init_0 : decode cX7_init 0 = .ok (.aload_n 0, 1) := by decide +kernel
theorem dX7_init_1 : decode cX7_init 1 = .ok (.invokespecial 3, 3) := by decide +kernel
theorem dX7_init_4 : decode cX7_init 4 = .ok (.aload_n 0, 1) := by decide +kernel
theorem dX7_init_5 : decode cX7_init 5 = .ok (.iload_n 1, 1) := by decide +kernel
theorem dX7_init_6 : decode cX7_init 6 = .ok (.putfield 9, 3) := by decide +kernel
theorem dX7_init_9 : decode cX7_init 9 = .ok (.aload_n 0, 1) := by decide +kernel
theorem dX7_init_10 : decode cX7_init 10 = .ok (.iload_n 2, 1) := by decide +kernel
theorem dX7_init_11 : decode cX7_init 11 = .ok (.putfield 15, 3) := by decide +kernel
theorem dX7_init_14 : decode cX7_init 14 = .ok (.aload_n 0, 1) := by decide +kernel
theorem dX7_init_15 : decode cX7_init 15 = .ok (.iload_n 1, 1) := by decide +kernel
theorem dX7_init_16 : decode cX7_init 16 = .ok (.iload_n 2, 1) := by decide +kernel
theorem dX7_init_17 : decode cX7_init 17 = .ok (.imul, 1) := by decide +kernel
theorem dX7_init_18 : decode cX7_init 18 = .ok (.newarray .int, 2) := by decide +kernel
theorem dX7_init_20 : decode cX7_init 20 = .ok (.putfield 18, 3) := by decide +kernel
theorem dX7_init_23 : decode cX7_init 23 = .ok (.return_, 1) := by decide +kernel
def iI_Ro_init_9 (I : Nat → Nat → Int32) : Nat → Nat → Int32 := (uZ (uI (uI I 9 0 (2 : Int32)) 9 1 (3000 : Int32)) 10 0)
def iL_Ro_init_9 (L : Nat → Nat → Int64) : Nat → Nat → Int64 := (uZ L 10 0)
def iR_Ro_init_9 (Rf : Nat → Nat → Option Nat) : Nat → Nat → Option Nat := (uR (uZ Rf 10 none) 9 2 (some 10))
set_option maxRecDepth 100000 in
set_option maxHeartbeats 4000000 in
theorem c_Ro_init_9 {G : xG} {I : Nat → Nat → Int32} {L : Nat → Nat → Int64} {Rf : Nat → Nat → Option Nat}  : CT (x0 G) 1 m_Ro_init [.ref (xP (x0 G) 9), .int (2 : Int32), .int (3000 : Int32)] (xSm 10, I, L, Rf) (none, (xSm 11, iI_Ro_init_9 I, iL_Ro_init_9 L, iR_Ro_init_9 Rf)) := by
  refine CT.of (by decide +kernel) (Nat.le_of_ble_eq_true rfl) ?_
  show X (x0 G) 1 m_Ro_init 0 [(0, .ref (xP (x0 G) 9)), (1, .int (2 : Int32)), (2, .int (3000 : Int32))] [] _ _
  refine X_aload_n (pc := 0) (i := 0) 0 dX7_init_0 rfl rfl ?_
  refine X_objInit (pc := 1) k_157 k_93 k_94 (by decide) (by decide) dX7_init_1 ?_
  refine X_aload_n (pc := 4) (i := 0) 0 dX7_init_4 rfl rfl ?_
  refine X_iload_n (pc := 5) (i := 1) 1 dX7_init_5 rfl rfl ?_
  refine X_puti (pc := 6) (a := 9) (ci := 7) (j := 0) 0 rfl true rfl (by decide) k_158 rfl (fun _ => ⟨rfl, rfl⟩) rfl dX7_init_6 ?_
  refine X_aload_n (pc := 9) (i := 0) 0 dX7_init_9 rfl rfl ?_
  refine X_iload_n (pc := 10) (i := 2) 2 dX7_init_10 rfl rfl ?_
  refine X_puti (pc := 11) (a := 9) (ci := 7) (j := 1) 1 rfl true rfl (by decide) k_159 rfl (fun _ => ⟨rfl, rfl⟩) rfl dX7_init_11 ?_
  refine X_aload_n (pc := 14) (i := 0) 0 dX7_init_14 rfl rfl ?_
  refine X_iload_n (pc := 15) (i := 1) 1 dX7_init_15 rfl rfl ?_
  refine X_iload_n (pc := 16) (i := 2) 2 dX7_init_16 rfl rfl ?_
  refine X_imul (pc := 17) dX7_init_17 ?_
  refine X_newaC (pc := 18) (atype := .int) (t := 0) (N := 6000) (by decide) rfl k_151 (by decide) (by decide) (by decide) (xSm 11) 10 rfl rfl dX7_init_18 ?_
  refine X_putr (pc := 20) (a := 9) (ci := 7) (j := 2) 2 rfl true rfl (by decide) k_160 rfl (fun _ => ⟨rfl, rfl⟩) (by first | exact Or.inl ⟨_, rfl⟩ | exact Or.inr ⟨_, rfl⟩) dX7_init_20 ?_
  exact X_return (pc := 23) rfl dX7_init_23
theorem dX5_init_0 : decode cX5_init 0 = .ok (.aload_n 0, 1) := by decide +kernel
theorem dX5_init_1 : decode cX5_init 1 = .ok (.invokespecial 1, 3) := by decide +kernel
theorem dX5_init_4 : decode cX5_init 4 = .ok (.aload_n 0, 1) := by decide +kernel
theorem dX5_init_5 : decode cX5_init 5 = .ok (.new 7, 3) := by decide +kernel
theorem dX5_init_8 : decode cX5_init 8 = .ok (.dup, 1) := by decide +kernel
theorem dX5_init_9 : decode cX5_init 9 = .ok (.invokespecial 9, 3) := by decide +kernel
theorem dX5_init_12 : decode cX5_init 12 = .ok (.putfield 10, 3) := by decide +kernel
theorem dX5_init_15 : decode cX5_init 15 = .ok (.aload_n 0, 1) := by decide +kernel
theorem dX5_init_16 : decode cX5_init 16 = .ok (.bipush 9, 2) := by decide +kernel
theorem dX5_init_18 : decode cX5_init 18 = .ok (.newarray .int, 2) := by decide +kernel
theorem dX5_init_20 : decode cX5_init 20 = .ok (.putfield 16, 3) := by decide +kernel
theorem dX5_init_23 : decode cX5_init 23 = .ok (.aload_n 0, 1) := by decide +kernel
theorem dX5_init_24 : decode cX5_init 24 = .ok (.new 20, 3) := by decide +kernel
theorem dX5_init_27 : decode cX5_init 27 = .ok (.dup, 1) := by decide +kernel
theorem dX5_init_28 : decode cX5_init 28 = .ok (.iconst 2, 1) := by decide +kernel
theorem dX5_init_29 : decode cX5_init 29 = .ok (.sipush 3000, 3) := by decide +kernel
theorem dX5_init_32 : decode cX5_init 32 = .ok (.invokespecial 22, 3) := by decide +kernel
theorem dX5_init_35 : decode cX5_init 35 = .ok (.putfield 25, 3) := by decide +kernel
theorem dX5_init_38 : decode cX5_init 38 = .ok (.return_, 1) := by decide +kernel
def iI_Es_init_1 (I : Nat → Nat → Int32) : Nat → Nat → Int32 := (iI_Ro_init_9 (uZ (uZ (iI_Ge_init_2 (uZ I 2 0)) 8 0) 9 0))
def iL_Es_init_1 (L : Nat → Nat → Int64) : Nat → Nat → Int64 := (iL_Ro_init_9 (uZ (uZ (iL_Ge_init_2 (uZ L 2 0)) 8 0) 9 0))
def iR_Es_init_1 (Rf : Nat → Nat → Option Nat) : Nat → Nat → Option Nat := (uR (iR_Ro_init_9 (uZ (uR (uZ (uR (iR_Ge_init_2 (uZ Rf 2 none)) 1 0 (some 2)) 8 none) 1 6 (some 8)) 9 none)) 1 15 (some 9))
set_option maxRecDepth 100000 in
set_option maxHeartbeats 4000000 in
theorem c_Es_init_1 {G : xG} {I : Nat → Nat → Int32} {L : Nat → Nat → Int64} {Rf : Nat → Nat → Option Nat}  : CT (x0 G) 2 m_Es_init [.ref (xP (x0 G) 1)] (xSm 2, I, L, Rf) (none, (xSm 11, iI_Es_init_1 I, iL_Es_init_1 L, iR_Es_init_1 Rf)) := by
  refine CT.of (by decide +kernel) (Nat.le_of_ble_eq_true rfl) ?_
  show X (x0 G) 2 m_Es_init 0 [(0, .ref (xP (x0 G) 1))] [] _ _
  refine X_aload_n (pc := 0) (i := 0) 0 dX5_init_0 rfl rfl ?_
  refine X_objInit (pc := 1) k_100 k_93 k_94 (by decide) (by decide) dX5_init_1 ?_
  refine X_aload_n (pc := 4) (i := 0) 0 dX5_init_4 rfl rfl ?_
  refine X_newC (pc := 5) (ci := 6) (by decide) k_101 k_102 k_73 (xSm 3) 2 rfl rfl dX5_init_5 ?_
  refine X_dup (pc := 8) dX5_init_8 rfl ?_
  refine X_invIN_v (pc := 9) c_Ge_init_2 ok_Ge_init rfl rfl k_103 k_104 nd_1 (by decide) rfl (Nat.le_of_ble_eq_true rfl) dX5_init_9 ?_
  refine X_putr (pc := 12) (a := 1) (ci := 5) (j := 0) 0 rfl true rfl (by decide) k_173 rfl (fun _ => ⟨rfl, rfl⟩) (by first | exact Or.inl ⟨_, rfl⟩ | exact Or.inr ⟨_, rfl⟩) dX5_init_12 ?_
  refine X_aload_n (pc := 15) (i := 0) 0 dX5_init_15 rfl rfl ?_
  refine X_bipush (pc := 16) (9 : Int32) dX5_init_16 (by decide) ?_
  refine X_newaC (pc := 18) (atype := .int) (t := 0) (N := 9) (by decide) rfl k_151 (by decide) (by decide) (by decide) (xSm 9) 8 rfl rfl dX5_init_18 ?_
  refine X_putr (pc := 20) (a := 1) (ci := 5) (j := 6) 6 rfl true rfl (by decide) k_181 rfl (fun _ => ⟨rfl, rfl⟩) (by first | exact Or.inl ⟨_, rfl⟩ | exact Or.inr ⟨_, rfl⟩) dX5_init_20 ?_
  refine X_aload_n (pc := 23) (i := 0) 0 dX5_init_23 rfl rfl ?_
  refine X_newC (pc := 24) (ci := 7) (by decide) k_152 k_153 k_74 (xSm 10) 9 rfl rfl dX5_init_24 ?_
  refine X_dup (pc := 27) dX5_init_27 rfl ?_
  refine X_iconst (pc := 28) (2 : Int32) dX5_init_28 (by decide) ?_
  refine X_sipush (pc := 29) (3000 : Int32) dX5_init_29 (by decide) ?_
  refine X_invI_v (pc := 32) c_Ro_init_9 ok_Ro_init rfl rfl k_154 k_155 nd_10 (by decide) rfl (Nat.le_of_ble_eq_true rfl) dX5_init_32 ?_
  refine X_putr (pc := 35) (a := 1) (ci := 5) (j := 15) 15 rfl true rfl (by decide) k_198 rfl (fun _ => ⟨rfl, rfl⟩) (by first | exact Or.inl ⟨_, rfl⟩ | exact Or.inr ⟨_, rfl⟩) dX5_init_35 ?_
  exact X_return (pc := 38) rfl dX5_init_38
def iI_Ro_init_16 (I : Nat → Nat → Int32) : Nat → Nat → Int32 := (uZ (uI (uI I 16 0 (3 : Int32)) 16 1 (1000 : Int32)) 17 0)
def iL_Ro_init_16 (L : Nat → Nat → Int64) : Nat → Nat → Int64 := (uZ L 17 0)
def iR_Ro_init_16 (Rf : Nat → Nat → Option Nat) : Nat → Nat → Option Nat := (uR (uZ Rf 17 none) 16 2 (some 17))
set_option maxRecDepth 100000 in
set_option maxHeartbeats 4000000 in
theorem c_Ro_init_16 {G : xG} {I : Nat → Nat → Int32} {L : Nat → Nat → Int64} {Rf : Nat → Nat → Option Nat}  : CT (x0 G) 1 m_Ro_init [.ref (xP (x0 G) 16), .int (3 : Int32), .int (1000 : Int32)] (xSm 17, I, L, Rf) (none, (xSm 18, iI_Ro_init_16 I, iL_Ro_init_16 L, iR_Ro_init_16 Rf)) := by
  refine CT.of (by decide +kernel) (Nat.le_of_ble_eq_true rfl) ?_
  show X (x0 G) 1 m_Ro_init 0 [(0, .ref (xP (x0 G) 16)), (1, .int (3 : Int32)), (2, .int (1000 : Int32))] [] _ _
  refine X_aload_n (pc := 0) (i := 0) 0 dX7_init_0 rfl rfl ?_
  refine X_objInit (pc := 1) k_157 k_93 k_94 (by decide) (by decide) dX7_init_1 ?_
  refine X_aload_n (pc := 4) (i := 0) 0 dX7_init_4 rfl rfl ?_
  refine X_iload_n (pc := 5) (i := 1) 1 dX7_init_5 rfl rfl ?_
  refine X_puti (pc := 6) (a := 16) (ci := 7) (j := 0) 0 rfl true rfl (by decide) k_158 rfl (fun _ => ⟨rfl, rfl⟩) rfl dX7_init_6 ?_
  refine X_aload_n (pc := 9) (i := 0) 0 dX7_init_9 rfl rfl ?_
  refine X_iload_n (pc := 10) (i := 2) 2 dX7_init_10 rfl rfl ?_
  refine X_puti (pc := 11) (a := 16) (ci := 7) (j := 1) 1 rfl true rfl (by decide) k_159 rfl (fun _ => ⟨rfl, rfl⟩) rfl dX7_init_11 ?_
  refine X_aload_n (pc := 14) (i := 0) 0 dX7_init_14 rfl rfl ?_
  refine X_iload_n (pc := 15) (i := 1) 1 dX7_init_15 rfl rfl ?_
  refine X_iload_n (pc := 16) (i := 2) 2 dX7_init_16 rfl rfl ?_
  refine X_imul (pc := 17) dX7_init_17 ?_
  refine X_newaC (pc := 18) (atype := .int) (t := 0) (N := 3000) (by decide) rfl k_151 (by decide) (by decide) (by decide) (xSm 18) 17 rfl rfl dX7_init_18 ?_
  refine X_putr (pc := 20) (a := 16) (ci := 7) (j := 2) 2 rfl true rfl (by decide) k_160 rfl (fun _ => ⟨rfl, rfl⟩) (by first | exact Or.inl ⟨_, rfl⟩ | exact Or.inr ⟨_, rfl⟩) dX7_init_20 ?_
  exact X_return (pc := 23) rfl dX7_init_23
def iI_Ro_init_18 (I : Nat → Nat → Int32) : Nat → Nat → Int32 := (uZ (uI (uI I 18 0 (4 : Int32)) 18 1 (2000 : Int32)) 19 0)
def iL_Ro_init_18 (L : Nat → Nat → Int64) : Nat → Nat → Int64 := (uZ L 19 0)
def iR_Ro_init_18 (Rf : Nat → Nat → Option Nat) : Nat → Nat → Option Nat := (uR (uZ Rf 19 none) 18 2 (some 19))
set_option maxRecDepth 100000 in
set_option maxHeartbeats 4000000 in
theorem c_Ro_init_18 {G : xG} {I : Nat → Nat → Int32} {L : Nat → Nat → Int64} {Rf : Nat → Nat → Option Nat}  : CT (x0 G) 1 m_Ro_init [.ref (xP (x0 G) 18), .int (4 : Int32), .int (2000 : Int32)] (xSm 19, I, L, Rf) (none, (xSm 20, iI_Ro_init_18 I, iL_Ro_init_18 L, iR_Ro_init_18 Rf)) := by
  refine CT.of (by decide +kernel) (Nat.le_of_ble_eq_true rfl) ?_
  show X (x0 G) 1 m_Ro_init 0 [(0, .ref (xP (x0 G) 18)), (1, .int (4 : Int32)), (2, .int (2000 : Int32))] [] _ _
  refine X_aload_n (pc := 0) (i := 0) 0 dX7_init_0 rfl rfl ?_
  refine X_objInit (pc := 1) k_157 k_93 k_94 (by decide) (by decide) dX7_init_1 ?_
  refine X_aload_n (pc := 4) (i := 0) 0 dX7_init_4 rfl rfl ?_
  refine X_iload_n (pc := 5) (i := 1) 1 dX7_init_5 rfl rfl ?_
  refine X_puti (pc := 6) (a := 18) (ci := 7) (j := 0) 0 rfl true rfl (by decide) k_158 rfl (fun _ => ⟨rfl, rfl⟩) rfl dX7_init_6 ?_
  refine X_aload_n (pc := 9) (i := 0) 0 dX7_init_9 rfl rfl ?_
  refine X_iload_n (pc := 10) (i := 2) 2 dX7_init_10 rfl rfl ?_
  refine X_puti (pc := 11) (a := 18) (ci := 7) (j := 1) 1 rfl true rfl (by decide) k_159 rfl (fun _ => ⟨rfl, rfl⟩) rfl dX7_init_11 ?_
  refine X_aload_n (pc := 14) (i := 0) 0 dX7_init_14 rfl rfl ?_
  refine X_iload_n (pc := 15) (i := 1) 1 dX7_init_15 rfl rfl ?_
  refine X_iload_n (pc := 16) (i := 2) 2 dX7_init_16 rfl rfl ?_
  refine X_imul (pc := 17) dX7_init_17 ?_
  refine X_newaC (pc := 18) (atype := .int) (t := 0) (N := 8000) (by decide) rfl k_151 (by decide) (by decide) (by decide) (xSm 20) 19 rfl rfl dX7_init_18 ?_
  refine X_putr (pc := 20) (a := 18) (ci := 7) (j := 2) 2 rfl true rfl (by decide) k_160 rfl (fun _ => ⟨rfl, rfl⟩) (by first | exact Or.inl ⟨_, rfl⟩ | exact Or.inr ⟨_, rfl⟩) dX7_init_20 ?_
  exact X_return (pc := 23) rfl dX7_init_23
theorem dX9_init_0 : decode cX9_init 0 = .ok (.aload_n 0, 1) := by decide +kernel
theorem dX9_init_1 : decode cX9_init 1 = .ok (.invokespecial 3, 3) := by decide +kernel
theorem dX9_init_4 : decode cX9_init 4 = .ok (.aload_n 0, 1) := by decide +kernel
theorem dX9_init_5 : decode cX9_init 5 = .ok (.bipush 20, 2) := by decide +kernel
theorem dX9_init_7 : decode cX9_init 7 = .ok (.putfield 9, 3) := by decide +kernel
theorem dX9_init_10 : decode cX9_init 10 = .ok (.aload_n 0, 1) := by decide +kernel
theorem dX9_init_11 : decode cX9_init 11 = .ok (.bipush 40, 2) := by decide +kernel
theorem dX9_init_13 : decode cX9_init 13 = .ok (.putfield 15, 3) := by decide +kernel
theorem dX9_init_16 : decode cX9_init 16 = .ok (.aload_n 0, 1) := by decide +kernel
theorem dX9_init_17 : decode cX9_init 17 = .ok (.bipush 6, 2) := by decide +kernel
theorem dX9_init_19 : decode cX9_init 19 = .ok (.putfield 18, 3) := by decide +kernel
theorem dX9_init_22 : decode cX9_init 22 = .ok (.aload_n 0, 1) := by decide +kernel
theorem dX9_init_23 : decode cX9_init 23 = .ok (.bipush 12, 2) := by decide +kernel
theorem dX9_init_25 : decode cX9_init 25 = .ok (.putfield 21, 3) := by decide +kernel
theorem dX9_init_28 : decode cX9_init 28 = .ok (.aload_n 0, 1) := by decide +kernel
theorem dX9_init_29 : decode cX9_init 29 = .ok (.iconst 3, 1) := by decide +kernel
theorem dX9_init_30 : decode cX9_init 30 = .ok (.newarray .int, 2) := by decide +kernel
theorem dX9_init_32 : decode cX9_init 32 = .ok (.putfield 24, 3) := by decide +kernel
theorem dX9_init_35 : decode cX9_init 35 = .ok (.aload_n 0, 1) := by decide +kernel
theorem dX9_init_36 : decode cX9_init 36 = .ok (.iconst 3, 1) := by decide +kernel
theorem dX9_init_37 : decode cX9_init 37 = .ok (.newarray .int, 2) := by decide +kernel
theorem dX9_init_39 : decode cX9_init 39 = .ok (.putfield 28, 3) := by decide +kernel
theorem dX9_init_42 : decode cX9_init 42 = .ok (.aload_n 0, 1) := by decide +kernel
theorem dX9_init_43 : decode cX9_init 43 = .ok (.iconst 3, 1) := by decide +kernel
theorem dX9_init_44 : decode cX9_init 44 = .ok (.newarray .int, 2) := by decide +kernel
theorem dX9_init_46 : decode cX9_init 46 = .ok (.putfield 31, 3) := by decide +kernel
theorem dX9_init_49 : decode cX9_init 49 = .ok (.aload_n 0, 1) := by decide +kernel
theorem dX9_init_50 : decode cX9_init 50 = .ok (.iconst 3, 1) := by decide +kernel
theorem dX9_init_51 : decode cX9_init 51 = .ok (.newarray .int, 2) := by decide +kernel
theorem dX9_init_53 : decode cX9_init 53 = .ok (.putfield 34, 3) := by decide +kernel
theorem dX9_init_56 : decode cX9_init 56 = .ok (.return_, 1) := by decide +kernel
def iI_Tr_init_20 (I : Nat → Nat → Int32) : Nat → Nat → Int32 := (uZ (uZ (uZ (uZ (uI (uI (uI (uI I 20 0 (20 : Int32)) 20 1 (40 : Int32)) 20 2 (6 : Int32)) 20 3 (12 : Int32)) 21 0) 22 0) 23 0) 24 0)
def iL_Tr_init_20 (L : Nat → Nat → Int64) : Nat → Nat → Int64 := (uZ (uZ (uZ (uZ L 21 0) 22 0) 23 0) 24 0)
def iR_Tr_init_20 (Rf : Nat → Nat → Option Nat) : Nat → Nat → Option Nat := (uR (uZ (uR (uZ (uR (uZ (uR (uZ Rf 21 none) 20 5 (some 21)) 22 none) 20 6 (some 22)) 23 none) 20 13 (some 23)) 24 none) 20 14 (some 24))
set_option maxRecDepth 100000 in
set_option maxHeartbeats 4000000 in
theorem c_Tr_init_20 {G : xG} {I : Nat → Nat → Int32} {L : Nat → Nat → Int64} {Rf : Nat → Nat → Option Nat}  : CT (x0 G) 1 m_Tr_init [.ref (xP (x0 G) 20)] (xSm 21, I, L, Rf) (none, (xSm 25, iI_Tr_init_20 I, iL_Tr_init_20 L, iR_Tr_init_20 Rf)) := by
  refine CT.of (by decide +kernel) (Nat.le_of_ble_eq_true rfl) ?_
  show X (x0 G) 1 m_Tr_init 0 [(0, .ref (xP (x0 G) 20))] [] _ _
  refine X_aload_n (pc := 0) (i := 0) 0 dX9_init_0 rfl rfl ?_
  refine X_objInit (pc := 1) k_250 k_93 k_94 (by decide) (by decide) dX9_init_1 ?_
  refine X_aload_n (pc := 4) (i := 0) 0 dX9_init_4 rfl rfl ?_
  refine X_bipush (pc := 5) (20 : Int32) dX9_init_5 (by decide) ?_
  refine X_puti (pc := 7) (a := 20) (ci := 9) (j := 0) 0 rfl false rfl (by decide) k_251 rfl (fun h => by cases h) rfl dX9_init_7 ?_
  refine X_aload_n (pc := 10) (i := 0) 0 dX9_init_10 rfl rfl ?_
  refine X_bipush (pc := 11) (40 : Int32) dX9_init_11 (by decide) ?_
  refine X_puti (pc := 13) (a := 20) (ci := 9) (j := 1) 1 rfl false rfl (by decide) k_252 rfl (fun h => by cases h) rfl dX9_init_13 ?_
  refine X_aload_n (pc := 16) (i := 0) 0 dX9_init_16 rfl rfl ?_
  refine X_bipush (pc := 17) (6 : Int32) dX9_init_17 (by decide) ?_
  refine X_puti (pc := 19) (a := 20) (ci := 9) (j := 2) 2 rfl false rfl (by decide) k_253 rfl (fun h => by cases h) rfl dX9_init_19 ?_
  refine X_aload_n (pc := 22) (i := 0) 0 dX9_init_22 rfl rfl ?_
  refine X_bipush (pc := 23) (12 : Int32) dX9_init_23 (by decide) ?_
  refine X_puti (pc := 25) (a := 20) (ci := 9) (j := 3) 3 rfl false rfl (by decide) k_254 rfl (fun h => by cases h) rfl dX9_init_25 ?_
  refine X_aload_n (pc := 28) (i := 0) 0 dX9_init_28 rfl rfl ?_
  refine X_iconst (pc := 29) (3 : Int32) dX9_init_29 (by decide) ?_
  refine X_newaC (pc := 30) (atype := .int) (t := 0) (N := 3) (by decide) rfl k_151 (by decide) (by decide) (by decide) (xSm 22) 21 rfl rfl dX9_init_30 ?_
  refine X_putr (pc := 32) (a := 20) (ci := 9) (j := 5) 5 rfl true rfl (by decide) k_257 rfl (fun _ => ⟨rfl, rfl⟩) (by first | exact Or.inl ⟨_, rfl⟩ | exact Or.inr ⟨_, rfl⟩) dX9_init_32 ?_
  refine X_aload_n (pc := 35) (i := 0) 0 dX9_init_35 rfl rfl ?_
  refine X_iconst (pc := 36) (3 : Int32) dX9_init_36 (by decide) ?_
  refine X_newaC (pc := 37) (atype := .int) (t := 0) (N := 3) (by decide) rfl k_151 (by decide) (by decide) (by decide) (xSm 23) 22 rfl rfl dX9_init_37 ?_
  refine X_putr (pc := 39) (a := 20) (ci := 9) (j := 6) 6 rfl true rfl (by decide) k_259 rfl (fun _ => ⟨rfl, rfl⟩) (by first | exact Or.inl ⟨_, rfl⟩ | exact Or.inr ⟨_, rfl⟩) dX9_init_39 ?_
  refine X_aload_n (pc := 42) (i := 0) 0 dX9_init_42 rfl rfl ?_
  refine X_iconst (pc := 43) (3 : Int32) dX9_init_43 (by decide) ?_
  refine X_newaC (pc := 44) (atype := .int) (t := 0) (N := 3) (by decide) rfl k_151 (by decide) (by decide) (by decide) (xSm 24) 23 rfl rfl dX9_init_44 ?_
  refine X_putr (pc := 46) (a := 20) (ci := 9) (j := 13) 13 rfl true rfl (by decide) k_269 rfl (fun _ => ⟨rfl, rfl⟩) (by first | exact Or.inl ⟨_, rfl⟩ | exact Or.inr ⟨_, rfl⟩) dX9_init_46 ?_
  refine X_aload_n (pc := 49) (i := 0) 0 dX9_init_49 rfl rfl ?_
  refine X_iconst (pc := 50) (3 : Int32) dX9_init_50 (by decide) ?_
  refine X_newaC (pc := 51) (atype := .int) (t := 0) (N := 3) (by decide) rfl k_151 (by decide) (by decide) (by decide) (xSm 25) 24 rfl rfl dX9_init_51 ?_
  refine X_putr (pc := 53) (a := 20) (ci := 9) (j := 14) 14 rfl true rfl (by decide) k_270 rfl (fun _ => ⟨rfl, rfl⟩) (by first | exact Or.inl ⟨_, rfl⟩ | exact Or.inr ⟨_, rfl⟩) dX9_init_53 ?_
  exact X_return (pc := 56) rfl dX9_init_56
theorem dX2_init_0 : decode cX2_init 0 = .ok (.aload_n 0, 1) := by decide +kernel
theorem dX2_init_1 : decode cX2_init 1 = .ok (.invokespecial 5, 3) := by decide +kernel
theorem dX2_init_4 : decode cX2_init 4 = .ok (.aload_n 0, 1) := by decide +kernel
theorem dX2_init_5 : decode cX2_init 5 = .ok (.bipush 8, 2) := by decide +kernel
theorem dX2_init_7 : decode cX2_init 7 = .ok (.newarray .int, 2) := by decide +kernel
theorem dX2_init_9 : decode cX2_init 9 = .ok (.putfield 11, 3) := by decide +kernel
theorem dX2_init_12 : decode cX2_init 12 = .ok (.aload_n 0, 1) := by decide +kernel
theorem dX2_init_13 : decode cX2_init 13 = .ok (.bipush 8, 2) := by decide +kernel
theorem dX2_init_15 : decode cX2_init 15 = .ok (.newarray .int, 2) := by decide +kernel
theorem dX2_init_17 : decode cX2_init 17 = .ok (.putfield 15, 3) := by decide +kernel
theorem dX2_init_20 : decode cX2_init 20 = .ok (.aload_n 0, 1) := by decide +kernel
theorem dX2_init_21 : decode cX2_init 21 = .ok (.bipush 8, 2) := by decide +kernel
theorem dX2_init_23 : decode cX2_init 23 = .ok (.newarray .int, 2) := by decide +kernel
theorem dX2_init_25 : decode cX2_init 25 = .ok (.putfield 18, 3) := by decide +kernel
theorem dX2_init_28 : decode cX2_init 28 = .ok (.aload_n 0, 1) := by decide +kernel
theorem dX2_init_29 : decode cX2_init 29 = .ok (.bipush 8, 2) := by decide +kernel
theorem dX2_init_31 : decode cX2_init 31 = .ok (.newarray .int, 2) := by decide +kernel
theorem dX2_init_33 : decode cX2_init 33 = .ok (.putfield 21, 3) := by decide +kernel
theorem dX2_init_36 : decode cX2_init 36 = .ok (.aload_n 0, 1) := by decide +kernel
theorem dX2_init_37 : decode cX2_init 37 = .ok (.sipush 793, 3) := by decide +kernel
theorem dX2_init_40 : decode cX2_init 40 = .ok (.newarray .long, 2) := by decide +kernel
theorem dX2_init_42 : decode cX2_init 42 = .ok (.putfield 24, 3) := by decide +kernel
theorem dX2_init_45 : decode cX2_init 45 = .ok (.return_, 1) := by decide +kernel
def iI_Ch_init_25 (I : Nat → Nat → Int32) : Nat → Nat → Int32 := (uZ (uZ (uZ (uZ (uZ I 26 0) 27 0) 28 0) 29 0) 30 0)
def iL_Ch_init_25 (L : Nat → Nat → Int64) : Nat → Nat → Int64 := (uZ (uZ (uZ (uZ (uZ L 26 0) 27 0) 28 0) 29 0) 30 0)
def iR_Ch_init_25 (Rf : Nat → Nat → Option Nat) : Nat → Nat → Option Nat := (uR (uZ (uR (uZ (uR (uZ (uR (uZ (uR (uZ Rf 26 none) 25 1 (some 26)) 27 none) 25 2 (some 27)) 28 none) 25 3 (some 28)) 29 none) 25 4 (some 29)) 30 none) 25 5 (some 30))
set_option maxRecDepth 100000 in
set_option maxHeartbeats 4000000 in
theorem c_Ch_init_25 {G : xG} {I : Nat → Nat → Int32} {L : Nat → Nat → Int64} {Rf : Nat → Nat → Option Nat}  : CT (x0 G) 1 m_Ch_init [.ref (xP (x0 G) 25)] (xSm 26, I, L, Rf) (none, (xSm 31, iI_Ch_init_25 I, iL_Ch_init_25 L, iR_Ch_init_25 Rf)) := by
  refine CT.of (by decide +kernel) (Nat.le_of_ble_eq_true rfl) ?_
  show X (x0 G) 1 m_Ch_init 0 [(0, .ref (xP (x0 G) 25))] [] _ _
  refine X_aload_n (pc := 0) (i := 0) 0 dX2_init_0 rfl rfl ?_
  refine X_objInit (pc := 1) k_307 k_93 k_94 (by decide) (by decide) dX2_init_1 ?_
  refine X_aload_n (pc := 4) (i := 0) 0 dX2_init_4 rfl rfl ?_
  refine X_bipush (pc := 5) (8 : Int32) dX2_init_5 (by decide) ?_
  refine X_newaC (pc := 7) (atype := .int) (t := 0) (N := 8) (by decide) rfl k_151 (by decide) (by decide) (by decide) (xSm 27) 26 rfl rfl dX2_init_7 ?_
  refine X_putr (pc := 9) (a := 25) (ci := 2) (j := 1) 1 rfl true rfl (by decide) k_310 rfl (fun _ => ⟨rfl, rfl⟩) (by first | exact Or.inl ⟨_, rfl⟩ | exact Or.inr ⟨_, rfl⟩) dX2_init_9 ?_
  refine X_aload_n (pc := 12) (i := 0) 0 dX2_init_12 rfl rfl ?_
  refine X_bipush (pc := 13) (8 : Int32) dX2_init_13 (by decide) ?_
  refine X_newaC (pc := 15) (atype := .int) (t := 0) (N := 8) (by decide) rfl k_151 (by decide) (by decide) (by decide) (xSm 28) 27 rfl rfl dX2_init_15 ?_
  refine X_putr (pc := 17) (a := 25) (ci := 2) (j := 2) 2 rfl true rfl (by decide) k_311 rfl (fun _ => ⟨rfl, rfl⟩) (by first | exact Or.inl ⟨_, rfl⟩ | exact Or.inr ⟨_, rfl⟩) dX2_init_17 ?_
  refine X_aload_n (pc := 20) (i := 0) 0 dX2_init_20 rfl rfl ?_
  refine X_bipush (pc := 21) (8 : Int32) dX2_init_21 (by decide) ?_
  refine X_newaC (pc := 23) (atype := .int) (t := 0) (N := 8) (by decide) rfl k_151 (by decide) (by decide) (by decide) (xSm 29) 28 rfl rfl dX2_init_23 ?_
  refine X_putr (pc := 25) (a := 25) (ci := 2) (j := 3) 3 rfl true rfl (by decide) k_312 rfl (fun _ => ⟨rfl, rfl⟩) (by first | exact Or.inl ⟨_, rfl⟩ | exact Or.inr ⟨_, rfl⟩) dX2_init_25 ?_
  refine X_aload_n (pc := 28) (i := 0) 0 dX2_init_28 rfl rfl ?_
  refine X_bipush (pc := 29) (8 : Int32) dX2_init_29 (by decide) ?_
  refine X_newaC (pc := 31) (atype := .int) (t := 0) (N := 8) (by decide) rfl k_151 (by decide) (by decide) (by decide) (xSm 30) 29 rfl rfl dX2_init_31 ?_
  refine X_putr (pc := 33) (a := 25) (ci := 2) (j := 4) 4 rfl true rfl (by decide) k_313 rfl (fun _ => ⟨rfl, rfl⟩) (by first | exact Or.inl ⟨_, rfl⟩ | exact Or.inr ⟨_, rfl⟩) dX2_init_33 ?_
  refine X_aload_n (pc := 36) (i := 0) 0 dX2_init_36 rfl rfl ?_
  refine X_sipush (pc := 37) (793 : Int32) dX2_init_37 (by decide) ?_
  refine X_newaC (pc := 40) (atype := .long) (t := 1) (N := 793) (by decide) rfl k_150 (by decide) (by decide) (by decide) (xSm 31) 30 rfl rfl dX2_init_40 ?_
  refine X_putr (pc := 42) (a := 25) (ci := 2) (j := 5) 5 rfl true rfl (by decide) k_314 rfl (fun _ => ⟨rfl, rfl⟩) (by first | exact Or.inl ⟨_, rfl⟩ | exact Or.inr ⟨_, rfl⟩) dX2_init_42 ?_
  exact X_return (pc := 45) rfl dX2_init_45
theorem dX0_init_0 : decode cX0_init 0 = .ok (.aload_n 0, 1) := by decide +kernel
theorem dX0_init_1 : decode cX0_init 1 = .ok (.invokespecial 3, 3) := by decide +kernel
theorem dX0_init_4 : decode cX0_init 4 = .ok (.aload_n 0, 1) := by decide +kernel
theorem dX0_init_5 : decode cX0_init 5 = .ok (.iconst 4, 1) := by decide +kernel
theorem dX0_init_6 : decode cX0_init 6 = .ok (.newarray .int, 2) := by decide +kernel
theorem dX0_init_8 : decode cX0_init 8 = .ok (.putfield 11, 3) := by decide +kernel
theorem dX0_init_11 : decode cX0_init 11 = .ok (.aload_n 0, 1) := by decide +kernel
theorem dX0_init_12 : decode cX0_init 12 = .ok (.sipush 16032, 3) := by decide +kernel
theorem dX0_init_15 : decode cX0_init 15 = .ok (.newarray .int, 2) := by decide +kernel
theorem dX0_init_17 : decode cX0_init 17 = .ok (.putfield 15, 3) := by decide +kernel
theorem dX0_init_20 : decode cX0_init 20 = .ok (.aload_n 0, 1) := by decide +kernel
theorem dX0_init_21 : decode cX0_init 21 = .ok (.sipush 128, 3) := by decide +kernel
theorem dX0_init_24 : decode cX0_init 24 = .ok (.newarray .int, 2) := by decide +kernel
theorem dX0_init_26 : decode cX0_init 26 = .ok (.putfield 18, 3) := by decide +kernel
theorem dX0_init_29 : decode cX0_init 29 = .ok (.aload_n 0, 1) := by decide +kernel
theorem dX0_init_30 : decode cX0_init 30 = .ok (.sipush 128, 3) := by decide +kernel
theorem dX0_init_33 : decode cX0_init 33 = .ok (.newarray .boolean, 2) := by decide +kernel
theorem dX0_init_35 : decode cX0_init 35 = .ok (.putfield 21, 3) := by decide +kernel
theorem dX0_init_38 : decode cX0_init 38 = .ok (.return_, 1) := by decide +kernel
def iI_Be_init_32 (I : Nat → Nat → Int32) : Nat → Nat → Int32 := (uZ (uZ (uZ (uZ I 33 0) 34 0) 35 0) 36 0)
def iL_Be_init_32 (L : Nat → Nat → Int64) : Nat → Nat → Int64 := (uZ (uZ (uZ (uZ L 33 0) 34 0) 35 0) 36 0)
def iR_Be_init_32 (Rf : Nat → Nat → Option Nat) : Nat → Nat → Option Nat := (uR (uZ (uR (uZ (uR (uZ (uR (uZ Rf 33 none) 32 1 (some 33)) 34 none) 32 2 (some 34)) 35 none) 32 3 (some 35)) 36 none) 32 4 (some 36))
set_option maxRecDepth 100000 in
set_option maxHeartbeats 4000000 in
theorem c_Be_init_32 {G : xG} {I : Nat → Nat → Int32} {L : Nat → Nat → Int64} {Rf : Nat → Nat → Option Nat}  : CT (x0 G) 1 m_Be_init [.ref (xP (x0 G) 32)] (xSm 33, I, L, Rf) (none, (xSm 37, iI_Be_init_32 I, iL_Be_init_32 L, iR_Be_init_32 Rf)) := by
  refine CT.of (by decide +kernel) (Nat.le_of_ble_eq_true rfl) ?_
  show X (x0 G) 1 m_Be_init 0 [(0, .ref (xP (x0 G) 32))] [] _ _
  refine X_aload_n (pc := 0) (i := 0) 0 dX0_init_0 rfl rfl ?_
  refine X_objInit (pc := 1) k_333 k_93 k_94 (by decide) (by decide) dX0_init_1 ?_
  refine X_aload_n (pc := 4) (i := 0) 0 dX0_init_4 rfl rfl ?_
  refine X_iconst (pc := 5) (4 : Int32) dX0_init_5 (by decide) ?_
  refine X_newaC (pc := 6) (atype := .int) (t := 0) (N := 4) (by decide) rfl k_151 (by decide) (by decide) (by decide) (xSm 34) 33 rfl rfl dX0_init_6 ?_
  refine X_putr (pc := 8) (a := 32) (ci := 0) (j := 1) 1 rfl true rfl (by decide) k_336 rfl (fun _ => ⟨rfl, rfl⟩) (by first | exact Or.inl ⟨_, rfl⟩ | exact Or.inr ⟨_, rfl⟩) dX0_init_8 ?_
  refine X_aload_n (pc := 11) (i := 0) 0 dX0_init_11 rfl rfl ?_
  refine X_sipush (pc := 12) (16032 : Int32) dX0_init_12 (by decide) ?_
  refine X_newaC (pc := 15) (atype := .int) (t := 0) (N := 16032) (by decide) rfl k_151 (by decide) (by decide) (by decide) (xSm 35) 34 rfl rfl dX0_init_15 ?_
  refine X_putr (pc := 17) (a := 32) (ci := 0) (j := 2) 2 rfl true rfl (by decide) k_338 rfl (fun _ => ⟨rfl, rfl⟩) (by first | exact Or.inl ⟨_, rfl⟩ | exact Or.inr ⟨_, rfl⟩) dX0_init_17 ?_
  refine X_aload_n (pc := 20) (i := 0) 0 dX0_init_20 rfl rfl ?_
  refine X_sipush (pc := 21) (128 : Int32) dX0_init_21 (by decide) ?_
  refine X_newaC (pc := 24) (atype := .int) (t := 0) (N := 128) (by decide) rfl k_151 (by decide) (by decide) (by decide) (xSm 36) 35 rfl rfl dX0_init_24 ?_
  refine X_putr (pc := 26) (a := 32) (ci := 0) (j := 3) 3 rfl true rfl (by decide) k_339 rfl (fun _ => ⟨rfl, rfl⟩) (by first | exact Or.inl ⟨_, rfl⟩ | exact Or.inr ⟨_, rfl⟩) dX0_init_26 ?_
  refine X_aload_n (pc := 29) (i := 0) 0 dX0_init_29 rfl rfl ?_
  refine X_sipush (pc := 30) (128 : Int32) dX0_init_30 (by decide) ?_
  refine X_newaC (pc := 33) (atype := .boolean) (t := 2) (N := 128) (by decide) rfl k_352 (by decide) (by decide) (by decide) (xSm 37) 36 rfl rfl dX0_init_33 ?_
  refine X_putr (pc := 35) (a := 32) (ci := 0) (j := 4) 4 rfl true rfl (by decide) k_340 rfl (fun _ => ⟨rfl, rfl⟩) (by first | exact Or.inl ⟨_, rfl⟩ | exact Or.inr ⟨_, rfl⟩) dX0_init_35 ?_
  exact X_return (pc := 38) rfl dX0_init_38
theorem dX10_init_0 : decode cX10_init 0 = .ok (.aload_n 0, 1) := by decide +kernel
theorem dX10_init_1 : decode cX10_init 1 = .ok (.invokespecial 1, 3) := by decide +kernel
theorem dX10_init_4 : decode cX10_init 4 = .ok (.return_, 1) := by decide +kernel
set_option maxRecDepth 100000 in
set_option maxHeartbeats 4000000 in
theorem c_Wo_init_37 {G : xG} {I : Nat → Nat → Int32} {L : Nat → Nat → Int64} {Rf : Nat → Nat → Option Nat}  : CT (x0 G) 1 m_Wo_init [.ref (xP (x0 G) 37)] (xSm 38, I, L, Rf) (none, (xSm 38, I, L, Rf)) := by
  refine CT.of (by decide +kernel) (Nat.le_of_ble_eq_true rfl) ?_
  show X (x0 G) 1 m_Wo_init 0 [(0, .ref (xP (x0 G) 37))] [] _ _
  refine X_aload_n (pc := 0) (i := 0) 0 dX10_init_0 rfl rfl ?_
  refine X_objInit (pc := 1) k_360 k_93 k_94 (by decide) (by decide) dX10_init_1 ?_
  exact X_return (pc := 4) rfl dX10_init_4
theorem dX4_init_0 : decode cX4_init 0 = .ok (.aload_n 0, 1) := by decide +kernel
theorem dX4_init_1 : decode cX4_init 1 = .ok (.invokespecial 3, 3) := by decide +kernel
theorem dX4_init_4 : decode cX4_init 4 = .ok (.return_, 1) := by decide +kernel
set_option maxRecDepth 100000 in
set_option maxHeartbeats 4000000 in
theorem c_Di_init_37 {G : xG} {I : Nat → Nat → Int32} {L : Nat → Nat → Int64} {Rf : Nat → Nat → Option Nat}  : CT (x0 G) 2 m_Di_init [.ref (xP (x0 G) 37)] (xSm 38, I, L, Rf) (none, (xSm 38, I, L, Rf)) := by
  refine CT.of (by decide +kernel) (Nat.le_of_ble_eq_true rfl) ?_
  show X (x0 G) 2 m_Di_init 0 [(0, .ref (xP (x0 G) 37))] [] _ _
  refine X_aload_n (pc := 0) (i := 0) 0 dX4_init_0 rfl rfl ?_
  refine X_invIN_v (pc := 1) c_Wo_init_37 ok_Wo_init rfl rfl k_357 k_358 nd_1 (by decide) rfl (Nat.le_of_ble_eq_true rfl) dX4_init_1 ?_
  exact X_return (pc := 4) rfl dX4_init_4
set_option maxRecDepth 100000 in
set_option maxHeartbeats 4000000 in
theorem c_Wo_init_38 {G : xG} {I : Nat → Nat → Int32} {L : Nat → Nat → Int64} {Rf : Nat → Nat → Option Nat}  : CT (x0 G) 1 m_Wo_init [.ref (xP (x0 G) 38)] (xSm 39, I, L, Rf) (none, (xSm 39, I, L, Rf)) := by
  refine CT.of (by decide +kernel) (Nat.le_of_ble_eq_true rfl) ?_
  show X (x0 G) 1 m_Wo_init 0 [(0, .ref (xP (x0 G) 38))] [] _ _
  refine X_aload_n (pc := 0) (i := 0) 0 dX10_init_0 rfl rfl ?_
  refine X_objInit (pc := 1) k_360 k_93 k_94 (by decide) (by decide) dX10_init_1 ?_
  exact X_return (pc := 4) rfl dX10_init_4
theorem dX1_init_0 : decode cX1_init 0 = .ok (.aload_n 0, 1) := by decide +kernel
theorem dX1_init_1 : decode cX1_init 1 = .ok (.invokespecial 3, 3) := by decide +kernel
theorem dX1_init_4 : decode cX1_init 4 = .ok (.return_, 1) := by decide +kernel
set_option maxRecDepth 100000 in
set_option maxHeartbeats 4000000 in
theorem c_Ca_init_38 {G : xG} {I : Nat → Nat → Int32} {L : Nat → Nat → Int64} {Rf : Nat → Nat → Option Nat}  : CT (x0 G) 2 m_Ca_init [.ref (xP (x0 G) 38)] (xSm 39, I, L, Rf) (none, (xSm 39, I, L, Rf)) := by
  refine CT.of (by decide +kernel) (Nat.le_of_ble_eq_true rfl) ?_
  show X (x0 G) 2 m_Ca_init 0 [(0, .ref (xP (x0 G) 38))] [] _ _
  refine X_aload_n (pc := 0) (i := 0) 0 dX1_init_0 rfl rfl ?_
  refine X_invIN_v (pc := 1) c_Wo_init_38 ok_Wo_init rfl rfl k_378 k_358 nd_1 (by decide) rfl (Nat.le_of_ble_eq_true rfl) dX1_init_1 ?_
  exact X_return (pc := 4) rfl dX1_init_4
set_option maxRecDepth 100000 in
set_option maxHeartbeats 4000000 in
theorem c_Wo_init_39 {G : xG} {I : Nat → Nat → Int32} {L : Nat → Nat → Int64} {Rf : Nat → Nat → Option Nat}  : CT (x0 G) 1 m_Wo_init [.ref (xP (x0 G) 39)] (xSm 40, I, L, Rf) (none, (xSm 40, I, L, Rf)) := by
  refine CT.of (by decide +kernel) (Nat.le_of_ble_eq_true rfl) ?_
  show X (x0 G) 1 m_Wo_init 0 [(0, .ref (xP (x0 G) 39))] [] _ _
  refine X_aload_n (pc := 0) (i := 0) 0 dX10_init_0 rfl rfl ?_
  refine X_objInit (pc := 1) k_360 k_93 k_94 (by decide) (by decide) dX10_init_1 ?_
  exact X_return (pc := 4) rfl dX10_init_4
theorem dX8_init_0 : decode cX8_init 0 = .ok (.aload_n 0, 1) := by decide +kernel
theorem dX8_init_1 : decode cX8_init 1 = .ok (.invokespecial 3, 3) := by decide +kernel
theorem dX8_init_4 : decode cX8_init 4 = .ok (.return_, 1) := by decide +kernel
set_option maxRecDepth 100000 in
set_option maxHeartbeats 4000000 in
theorem c_St_init_39 {G : xG} {I : Nat → Nat → Int32} {L : Nat → Nat → Int64} {Rf : Nat → Nat → Option Nat}  : CT (x0 G) 2 m_St_init [.ref (xP (x0 G) 39)] (xSm 40, I, L, Rf) (none, (xSm 40, I, L, Rf)) := by
  refine CT.of (by decide +kernel) (Nat.le_of_ble_eq_true rfl) ?_
  show X (x0 G) 2 m_St_init 0 [(0, .ref (xP (x0 G) 39))] [] _ _
  refine X_aload_n (pc := 0) (i := 0) 0 dX8_init_0 rfl rfl ?_
  refine X_invIN_v (pc := 1) c_Wo_init_39 ok_Wo_init rfl rfl k_422 k_358 nd_1 (by decide) rfl (Nat.le_of_ble_eq_true rfl) dX8_init_1 ?_
  exact X_return (pc := 4) rfl dX8_init_4
set_option maxRecDepth 100000 in
set_option maxHeartbeats 4000000 in
theorem c_Wo_init_40 {G : xG} {I : Nat → Nat → Int32} {L : Nat → Nat → Int64} {Rf : Nat → Nat → Option Nat}  : CT (x0 G) 1 m_Wo_init [.ref (xP (x0 G) 40)] (xSm 41, I, L, Rf) (none, (xSm 41, I, L, Rf)) := by
  refine CT.of (by decide +kernel) (Nat.le_of_ble_eq_true rfl) ?_
  show X (x0 G) 1 m_Wo_init 0 [(0, .ref (xP (x0 G) 40))] [] _ _
  refine X_aload_n (pc := 0) (i := 0) 0 dX10_init_0 rfl rfl ?_
  refine X_objInit (pc := 1) k_360 k_93 k_94 (by decide) (by decide) dX10_init_1 ?_
  exact X_return (pc := 4) rfl dX10_init_4
set_option maxRecDepth 100000 in
set_option maxHeartbeats 4000000 in
theorem c_Di_init_40 {G : xG} {I : Nat → Nat → Int32} {L : Nat → Nat → Int64} {Rf : Nat → Nat → Option Nat}  : CT (x0 G) 2 m_Di_init [.ref (xP (x0 G) 40)] (xSm 41, I, L, Rf) (none, (xSm 41, I, L, Rf)) := by
  refine CT.of (by decide +kernel) (Nat.le_of_ble_eq_true rfl) ?_
  show X (x0 G) 2 m_Di_init 0 [(0, .ref (xP (x0 G) 40))] [] _ _
  refine X_aload_n (pc := 0) (i := 0) 0 dX4_init_0 rfl rfl ?_
  refine X_invIN_v (pc := 1) c_Wo_init_40 ok_Wo_init rfl rfl k_357 k_358 nd_1 (by decide) rfl (Nat.le_of_ble_eq_true rfl) dX4_init_1 ?_
  exact X_return (pc := 4) rfl dX4_init_4
set_option maxRecDepth 100000 in
set_option maxHeartbeats 4000000 in
theorem c_Wo_init_41 {G : xG} {I : Nat → Nat → Int32} {L : Nat → Nat → Int64} {Rf : Nat → Nat → Option Nat}  : CT (x0 G) 1 m_Wo_init [.ref (xP (x0 G) 41)] (xSm 42, I, L, Rf) (none, (xSm 42, I, L, Rf)) := by
  refine CT.of (by decide +kernel) (Nat.le_of_ble_eq_true rfl) ?_
  show X (x0 G) 1 m_Wo_init 0 [(0, .ref (xP (x0 G) 41))] [] _ _
  refine X_aload_n (pc := 0) (i := 0) 0 dX10_init_0 rfl rfl ?_
  refine X_objInit (pc := 1) k_360 k_93 k_94 (by decide) (by decide) dX10_init_1 ?_
  exact X_return (pc := 4) rfl dX10_init_4
set_option maxRecDepth 100000 in
set_option maxHeartbeats 4000000 in
theorem c_Ca_init_41 {G : xG} {I : Nat → Nat → Int32} {L : Nat → Nat → Int64} {Rf : Nat → Nat → Option Nat}  : CT (x0 G) 2 m_Ca_init [.ref (xP (x0 G) 41)] (xSm 42, I, L, Rf) (none, (xSm 42, I, L, Rf)) := by
  refine CT.of (by decide +kernel) (Nat.le_of_ble_eq_true rfl) ?_
  show X (x0 G) 2 m_Ca_init 0 [(0, .ref (xP (x0 G) 41))] [] _ _
  refine X_aload_n (pc := 0) (i := 0) 0 dX1_init_0 rfl rfl ?_
  refine X_invIN_v (pc := 1) c_Wo_init_41 ok_Wo_init rfl rfl k_378 k_358 nd_1 (by decide) rfl (Nat.le_of_ble_eq_true rfl) dX1_init_1 ?_
  exact X_return (pc := 4) rfl dX1_init_4
set_option maxRecDepth 100000 in
set_option maxHeartbeats 4000000 in
theorem c_Wo_init_42 {G : xG} {I : Nat → Nat → Int32} {L : Nat → Nat → Int64} {Rf : Nat → Nat → Option Nat}  : CT (x0 G) 1 m_Wo_init [.ref (xP (x0 G) 42)] (xSm 43, I, L, Rf) (none, (xSm 43, I, L, Rf)) := by
  refine CT.of (by decide +kernel) (Nat.le_of_ble_eq_true rfl) ?_
  show X (x0 G) 1 m_Wo_init 0 [(0, .ref (xP (x0 G) 42))] [] _ _
  refine X_aload_n (pc := 0) (i := 0) 0 dX10_init_0 rfl rfl ?_
  refine X_objInit (pc := 1) k_360 k_93 k_94 (by decide) (by decide) dX10_init_1 ?_
  exact X_return (pc := 4) rfl dX10_init_4
set_option maxRecDepth 100000 in
set_option maxHeartbeats 4000000 in
theorem c_St_init_42 {G : xG} {I : Nat → Nat → Int32} {L : Nat → Nat → Int64} {Rf : Nat → Nat → Option Nat}  : CT (x0 G) 2 m_St_init [.ref (xP (x0 G) 42)] (xSm 43, I, L, Rf) (none, (xSm 43, I, L, Rf)) := by
  refine CT.of (by decide +kernel) (Nat.le_of_ble_eq_true rfl) ?_
  show X (x0 G) 2 m_St_init 0 [(0, .ref (xP (x0 G) 42))] [] _ _
  refine X_aload_n (pc := 0) (i := 0) 0 dX8_init_0 rfl rfl ?_
  refine X_invIN_v (pc := 1) c_Wo_init_42 ok_Wo_init rfl rfl k_422 k_358 nd_1 (by decide) rfl (Nat.le_of_ble_eq_true rfl) dX8_init_1 ?_
  exact X_return (pc := 4) rfl dX8_init_4
set_option maxRecDepth 100000 in
set_option maxHeartbeats 4000000 in
theorem c_Wo_init_43 {G : xG} {I : Nat → Nat → Int32} {L : Nat → Nat → Int64} {Rf : Nat → Nat → Option Nat}  : CT (x0 G) 1 m_Wo_init [.ref (xP (x0 G) 43)] (xSm 44, I, L, Rf) (none, (xSm 44, I, L, Rf)) := by
  refine CT.of (by decide +kernel) (Nat.le_of_ble_eq_true rfl) ?_
  show X (x0 G) 1 m_Wo_init 0 [(0, .ref (xP (x0 G) 43))] [] _ _
  refine X_aload_n (pc := 0) (i := 0) 0 dX10_init_0 rfl rfl ?_
  refine X_objInit (pc := 1) k_360 k_93 k_94 (by decide) (by decide) dX10_init_1 ?_
  exact X_return (pc := 4) rfl dX10_init_4
set_option maxRecDepth 100000 in
set_option maxHeartbeats 4000000 in
theorem c_Di_init_43 {G : xG} {I : Nat → Nat → Int32} {L : Nat → Nat → Int64} {Rf : Nat → Nat → Option Nat}  : CT (x0 G) 2 m_Di_init [.ref (xP (x0 G) 43)] (xSm 44, I, L, Rf) (none, (xSm 44, I, L, Rf)) := by
  refine CT.of (by decide +kernel) (Nat.le_of_ble_eq_true rfl) ?_
  show X (x0 G) 2 m_Di_init 0 [(0, .ref (xP (x0 G) 43))] [] _ _
  refine X_aload_n (pc := 0) (i := 0) 0 dX4_init_0 rfl rfl ?_
  refine X_invIN_v (pc := 1) c_Wo_init_43 ok_Wo_init rfl rfl k_357 k_358 nd_1 (by decide) rfl (Nat.le_of_ble_eq_true rfl) dX4_init_1 ?_
  exact X_return (pc := 4) rfl dX4_init_4
set_option maxRecDepth 100000 in
set_option maxHeartbeats 4000000 in
theorem c_Wo_init_44 {G : xG} {I : Nat → Nat → Int32} {L : Nat → Nat → Int64} {Rf : Nat → Nat → Option Nat}  : CT (x0 G) 1 m_Wo_init [.ref (xP (x0 G) 44)] (xSm 45, I, L, Rf) (none, (xSm 45, I, L, Rf)) := by
  refine CT.of (by decide +kernel) (Nat.le_of_ble_eq_true rfl) ?_
  show X (x0 G) 1 m_Wo_init 0 [(0, .ref (xP (x0 G) 44))] [] _ _
  refine X_aload_n (pc := 0) (i := 0) 0 dX10_init_0 rfl rfl ?_
  refine X_objInit (pc := 1) k_360 k_93 k_94 (by decide) (by decide) dX10_init_1 ?_
  exact X_return (pc := 4) rfl dX10_init_4
set_option maxRecDepth 100000 in
set_option maxHeartbeats 4000000 in
theorem c_Ca_init_44 {G : xG} {I : Nat → Nat → Int32} {L : Nat → Nat → Int64} {Rf : Nat → Nat → Option Nat}  : CT (x0 G) 2 m_Ca_init [.ref (xP (x0 G) 44)] (xSm 45, I, L, Rf) (none, (xSm 45, I, L, Rf)) := by
  refine CT.of (by decide +kernel) (Nat.le_of_ble_eq_true rfl) ?_
  show X (x0 G) 2 m_Ca_init 0 [(0, .ref (xP (x0 G) 44))] [] _ _
  refine X_aload_n (pc := 0) (i := 0) 0 dX1_init_0 rfl rfl ?_
  refine X_invIN_v (pc := 1) c_Wo_init_44 ok_Wo_init rfl rfl k_378 k_358 nd_1 (by decide) rfl (Nat.le_of_ble_eq_true rfl) dX1_init_1 ?_
  exact X_return (pc := 4) rfl dX1_init_4
set_option maxRecDepth 100000 in
set_option maxHeartbeats 4000000 in
theorem c_Wo_init_45 {G : xG} {I : Nat → Nat → Int32} {L : Nat → Nat → Int64} {Rf : Nat → Nat → Option Nat}  : CT (x0 G) 1 m_Wo_init [.ref (xP (x0 G) 45)] (xSm 46, I, L, Rf) (none, (xSm 46, I, L, Rf)) := by
  refine CT.of (by decide +kernel) (Nat.le_of_ble_eq_true rfl) ?_
  show X (x0 G) 1 m_Wo_init 0 [(0, .ref (xP (x0 G) 45))] [] _ _
  refine X_aload_n (pc := 0) (i := 0) 0 dX10_init_0 rfl rfl ?_
  refine X_objInit (pc := 1) k_360 k_93 k_94 (by decide) (by decide) dX10_init_1 ?_
  exact X_return (pc := 4) rfl dX10_init_4
set_option maxRecDepth 100000 in
set_option maxHeartbeats 4000000 in
theorem c_St_init_45 {G : xG} {I : Nat → Nat → Int32} {L : Nat → Nat → Int64} {Rf : Nat → Nat → Option Nat}  : CT (x0 G) 2 m_St_init [.ref (xP (x0 G) 45)] (xSm 46, I, L, Rf) (none, (xSm 46, I, L, Rf)) := by
  refine CT.of (by decide +kernel) (Nat.le_of_ble_eq_true rfl) ?_
  show X (x0 G) 2 m_St_init 0 [(0, .ref (xP (x0 G) 45))] [] _ _
  refine X_aload_n (pc := 0) (i := 0) 0 dX8_init_0 rfl rfl ?_
  refine X_invIN_v (pc := 1) c_Wo_init_45 ok_Wo_init rfl rfl k_422 k_358 nd_1 (by decide) rfl (Nat.le_of_ble_eq_true rfl) dX8_init_1 ?_
  exact X_return (pc := 4) rfl dX8_init_4
set_option maxRecDepth 100000 in
set_option maxHeartbeats 4000000 in
theorem c_Wo_init_46 {G : xG} {I : Nat → Nat → Int32} {L : Nat → Nat → Int64} {Rf : Nat → Nat → Option Nat}  : CT (x0 G) 1 m_Wo_init [.ref (xP (x0 G) 46)] (xSm 47, I, L, Rf) (none, (xSm 47, I, L, Rf)) := by
  refine CT.of (by decide +kernel) (Nat.le_of_ble_eq_true rfl) ?_
  show X (x0 G) 1 m_Wo_init 0 [(0, .ref (xP (x0 G) 46))] [] _ _
  refine X_aload_n (pc := 0) (i := 0) 0 dX10_init_0 rfl rfl ?_
  refine X_objInit (pc := 1) k_360 k_93 k_94 (by decide) (by decide) dX10_init_1 ?_
  exact X_return (pc := 4) rfl dX10_init_4
set_option maxRecDepth 100000 in
set_option maxHeartbeats 4000000 in
theorem c_Di_init_46 {G : xG} {I : Nat → Nat → Int32} {L : Nat → Nat → Int64} {Rf : Nat → Nat → Option Nat}  : CT (x0 G) 2 m_Di_init [.ref (xP (x0 G) 46)] (xSm 47, I, L, Rf) (none, (xSm 47, I, L, Rf)) := by
  refine CT.of (by decide +kernel) (Nat.le_of_ble_eq_true rfl) ?_
  show X (x0 G) 2 m_Di_init 0 [(0, .ref (xP (x0 G) 46))] [] _ _
  refine X_aload_n (pc := 0) (i := 0) 0 dX4_init_0 rfl rfl ?_
  refine X_invIN_v (pc := 1) c_Wo_init_46 ok_Wo_init rfl rfl k_357 k_358 nd_1 (by decide) rfl (Nat.le_of_ble_eq_true rfl) dX4_init_1 ?_
  exact X_return (pc := 4) rfl dX4_init_4
set_option maxRecDepth 100000 in
set_option maxHeartbeats 4000000 in
theorem c_Wo_init_47 {G : xG} {I : Nat → Nat → Int32} {L : Nat → Nat → Int64} {Rf : Nat → Nat → Option Nat}  : CT (x0 G) 1 m_Wo_init [.ref (xP (x0 G) 47)] (xSm 48, I, L, Rf) (none, (xSm 48, I, L, Rf)) := by
  refine CT.of (by decide +kernel) (Nat.le_of_ble_eq_true rfl) ?_
  show X (x0 G) 1 m_Wo_init 0 [(0, .ref (xP (x0 G) 47))] [] _ _
  refine X_aload_n (pc := 0) (i := 0) 0 dX10_init_0 rfl rfl ?_
  refine X_objInit (pc := 1) k_360 k_93 k_94 (by decide) (by decide) dX10_init_1 ?_
  exact X_return (pc := 4) rfl dX10_init_4
set_option maxRecDepth 100000 in
set_option maxHeartbeats 4000000 in
theorem c_Ca_init_47 {G : xG} {I : Nat → Nat → Int32} {L : Nat → Nat → Int64} {Rf : Nat → Nat → Option Nat}  : CT (x0 G) 2 m_Ca_init [.ref (xP (x0 G) 47)] (xSm 48, I, L, Rf) (none, (xSm 48, I, L, Rf)) := by
  refine CT.of (by decide +kernel) (Nat.le_of_ble_eq_true rfl) ?_
  show X (x0 G) 2 m_Ca_init 0 [(0, .ref (xP (x0 G) 47))] [] _ _
  refine X_aload_n (pc := 0) (i := 0) 0 dX1_init_0 rfl rfl ?_
  refine X_invIN_v (pc := 1) c_Wo_init_47 ok_Wo_init rfl rfl k_378 k_358 nd_1 (by decide) rfl (Nat.le_of_ble_eq_true rfl) dX1_init_1 ?_
  exact X_return (pc := 4) rfl dX1_init_4
set_option maxRecDepth 100000 in
set_option maxHeartbeats 4000000 in
theorem c_Wo_init_48 {G : xG} {I : Nat → Nat → Int32} {L : Nat → Nat → Int64} {Rf : Nat → Nat → Option Nat}  : CT (x0 G) 1 m_Wo_init [.ref (xP (x0 G) 48)] (xSm 49, I, L, Rf) (none, (xSm 49, I, L, Rf)) := by
  refine CT.of (by decide +kernel) (Nat.le_of_ble_eq_true rfl) ?_
  show X (x0 G) 1 m_Wo_init 0 [(0, .ref (xP (x0 G) 48))] [] _ _
  refine X_aload_n (pc := 0) (i := 0) 0 dX10_init_0 rfl rfl ?_
  refine X_objInit (pc := 1) k_360 k_93 k_94 (by decide) (by decide) dX10_init_1 ?_
  exact X_return (pc := 4) rfl dX10_init_4
set_option maxRecDepth 100000 in
set_option maxHeartbeats 4000000 in
theorem c_St_init_48 {G : xG} {I : Nat → Nat → Int32} {L : Nat → Nat → Int64} {Rf : Nat → Nat → Option Nat}  : CT (x0 G) 2 m_St_init [.ref (xP (x0 G) 48)] (xSm 49, I, L, Rf) (none, (xSm 49, I, L, Rf)) := by
  refine CT.of (by decide +kernel) (Nat.le_of_ble_eq_true rfl) ?_
  show X (x0 G) 2 m_St_init 0 [(0, .ref (xP (x0 G) 48))] [] _ _
  refine X_aload_n (pc := 0) (i := 0) 0 dX8_init_0 rfl rfl ?_
  refine X_invIN_v (pc := 1) c_Wo_init_48 ok_Wo_init rfl rfl k_422 k_358 nd_1 (by decide) rfl (Nat.le_of_ble_eq_true rfl) dX8_init_1 ?_
  exact X_return (pc := 4) rfl dX8_init_4
set_option maxRecDepth 100000 in
set_option maxHeartbeats 4000000 in
theorem c_Wo_init_49 {G : xG} {I : Nat → Nat → Int32} {L : Nat → Nat → Int64} {Rf : Nat → Nat → Option Nat}  : CT (x0 G) 1 m_Wo_init [.ref (xP (x0 G) 49)] (xSm 50, I, L, Rf) (none, (xSm 50, I, L, Rf)) := by
  refine CT.of (by decide +kernel) (Nat.le_of_ble_eq_true rfl) ?_
  show X (x0 G) 1 m_Wo_init 0 [(0, .ref (xP (x0 G) 49))] [] _ _
  refine X_aload_n (pc := 0) (i := 0) 0 dX10_init_0 rfl rfl ?_
  refine X_objInit (pc := 1) k_360 k_93 k_94 (by decide) (by decide) dX10_init_1 ?_
  exact X_return (pc := 4) rfl dX10_init_4
set_option maxRecDepth 100000 in
set_option maxHeartbeats 4000000 in
theorem c_Di_init_49 {G : xG} {I : Nat → Nat → Int32} {L : Nat → Nat → Int64} {Rf : Nat → Nat → Option Nat}  : CT (x0 G) 2 m_Di_init [.ref (xP (x0 G) 49)] (xSm 50, I, L, Rf) (none, (xSm 50, I, L, Rf)) := by
  refine CT.of (by decide +kernel) (Nat.le_of_ble_eq_true rfl) ?_
  show X (x0 G) 2 m_Di_init 0 [(0, .ref (xP (x0 G) 49))] [] _ _
  refine X_aload_n (pc := 0) (i := 0) 0 dX4_init_0 rfl rfl ?_
  refine X_invIN_v (pc := 1) c_Wo_init_49 ok_Wo_init rfl rfl k_357 k_358 nd_1 (by decide) rfl (Nat.le_of_ble_eq_true rfl) dX4_init_1 ?_
  exact X_return (pc := 4) rfl dX4_init_4
set_option maxRecDepth 100000 in
set_option maxHeartbeats 4000000 in
theorem c_Wo_init_50 {G : xG} {I : Nat → Nat → Int32} {L : Nat → Nat → Int64} {Rf : Nat → Nat → Option Nat}  : CT (x0 G) 1 m_Wo_init [.ref (xP (x0 G) 50)] (xSm 51, I, L, Rf) (none, (xSm 51, I, L, Rf)) := by
  refine CT.of (by decide +kernel) (Nat.le_of_ble_eq_true rfl) ?_
  show X (x0 G) 1 m_Wo_init 0 [(0, .ref (xP (x0 G) 50))] [] _ _
  refine X_aload_n (pc := 0) (i := 0) 0 dX10_init_0 rfl rfl ?_
  refine X_objInit (pc := 1) k_360 k_93 k_94 (by decide) (by decide) dX10_init_1 ?_
  exact X_return (pc := 4) rfl dX10_init_4
set_option maxRecDepth 100000 in
set_option maxHeartbeats 4000000 in
theorem c_Ca_init_50 {G : xG} {I : Nat → Nat → Int32} {L : Nat → Nat → Int64} {Rf : Nat → Nat → Option Nat}  : CT (x0 G) 2 m_Ca_init [.ref (xP (x0 G) 50)] (xSm 51, I, L, Rf) (none, (xSm 51, I, L, Rf)) := by
  refine CT.of (by decide +kernel) (Nat.le_of_ble_eq_true rfl) ?_
  show X (x0 G) 2 m_Ca_init 0 [(0, .ref (xP (x0 G) 50))] [] _ _
  refine X_aload_n (pc := 0) (i := 0) 0 dX1_init_0 rfl rfl ?_
  refine X_invIN_v (pc := 1) c_Wo_init_50 ok_Wo_init rfl rfl k_378 k_358 nd_1 (by decide) rfl (Nat.le_of_ble_eq_true rfl) dX1_init_1 ?_
  exact X_return (pc := 4) rfl dX1_init_4
set_option maxRecDepth 100000 in
set_option maxHeartbeats 4000000 in
theorem c_Wo_init_51 {G : xG} {I : Nat → Nat → Int32} {L : Nat → Nat → Int64} {Rf : Nat → Nat → Option Nat}  : CT (x0 G) 1 m_Wo_init [.ref (xP (x0 G) 51)] (xSm 52, I, L, Rf) (none, (xSm 52, I, L, Rf)) := by
  refine CT.of (by decide +kernel) (Nat.le_of_ble_eq_true rfl) ?_
  show X (x0 G) 1 m_Wo_init 0 [(0, .ref (xP (x0 G) 51))] [] _ _
  refine X_aload_n (pc := 0) (i := 0) 0 dX10_init_0 rfl rfl ?_
  refine X_objInit (pc := 1) k_360 k_93 k_94 (by decide) (by decide) dX10_init_1 ?_
  exact X_return (pc := 4) rfl dX10_init_4
set_option maxRecDepth 100000 in
set_option maxHeartbeats 4000000 in
theorem c_St_init_51 {G : xG} {I : Nat → Nat → Int32} {L : Nat → Nat → Int64} {Rf : Nat → Nat → Option Nat}  : CT (x0 G) 2 m_St_init [.ref (xP (x0 G) 51)] (xSm 52, I, L, Rf) (none, (xSm 52, I, L, Rf)) := by
  refine CT.of (by decide +kernel) (Nat.le_of_ble_eq_true rfl) ?_
  show X (x0 G) 2 m_St_init 0 [(0, .ref (xP (x0 G) 51))] [] _ _
  refine X_aload_n (pc := 0) (i := 0) 0 dX8_init_0 rfl rfl ?_
  refine X_invIN_v (pc := 1) c_Wo_init_51 ok_Wo_init rfl rfl k_422 k_358 nd_1 (by decide) rfl (Nat.le_of_ble_eq_true rfl) dX8_init_1 ?_
  exact X_return (pc := 4) rfl dX8_init_4
set_option maxRecDepth 100000 in
set_option maxHeartbeats 4000000 in
theorem c_Wo_init_52 {G : xG} {I : Nat → Nat → Int32} {L : Nat → Nat → Int64} {Rf : Nat → Nat → Option Nat}  : CT (x0 G) 1 m_Wo_init [.ref (xP (x0 G) 52)] (xSm 53, I, L, Rf) (none, (xSm 53, I, L, Rf)) := by
  refine CT.of (by decide +kernel) (Nat.le_of_ble_eq_true rfl) ?_
  show X (x0 G) 1 m_Wo_init 0 [(0, .ref (xP (x0 G) 52))] [] _ _
  refine X_aload_n (pc := 0) (i := 0) 0 dX10_init_0 rfl rfl ?_
  refine X_objInit (pc := 1) k_360 k_93 k_94 (by decide) (by decide) dX10_init_1 ?_
  exact X_return (pc := 4) rfl dX10_init_4
set_option maxRecDepth 100000 in
set_option maxHeartbeats 4000000 in
theorem c_Di_init_52 {G : xG} {I : Nat → Nat → Int32} {L : Nat → Nat → Int64} {Rf : Nat → Nat → Option Nat}  : CT (x0 G) 2 m_Di_init [.ref (xP (x0 G) 52)] (xSm 53, I, L, Rf) (none, (xSm 53, I, L, Rf)) := by
  refine CT.of (by decide +kernel) (Nat.le_of_ble_eq_true rfl) ?_
  show X (x0 G) 2 m_Di_init 0 [(0, .ref (xP (x0 G) 52))] [] _ _
  refine X_aload_n (pc := 0) (i := 0) 0 dX4_init_0 rfl rfl ?_
  refine X_invIN_v (pc := 1) c_Wo_init_52 ok_Wo_init rfl rfl k_357 k_358 nd_1 (by decide) rfl (Nat.le_of_ble_eq_true rfl) dX4_init_1 ?_
  exact X_return (pc := 4) rfl dX4_init_4
set_option maxRecDepth 100000 in
set_option maxHeartbeats 4000000 in
theorem c_Wo_init_53 {G : xG} {I : Nat → Nat → Int32} {L : Nat → Nat → Int64} {Rf : Nat → Nat → Option Nat}  : CT (x0 G) 1 m_Wo_init [.ref (xP (x0 G) 53)] (xSm 54, I, L, Rf) (none, (xSm 54, I, L, Rf)) := by
  refine CT.of (by decide +kernel) (Nat.le_of_ble_eq_true rfl) ?_
  show X (x0 G) 1 m_Wo_init 0 [(0, .ref (xP (x0 G) 53))] [] _ _
  refine X_aload_n (pc := 0) (i := 0) 0 dX10_init_0 rfl rfl ?_
  refine X_objInit (pc := 1) k_360 k_93 k_94 (by decide) (by decide) dX10_init_1 ?_
  exact X_return (pc := 4) rfl dX10_init_4
set_option maxRecDepth 100000 in
set_option maxHeartbeats 4000000 in
theorem c_Ca_init_53 {G : xG} {I : Nat → Nat → Int32} {L : Nat → Nat → Int64} {Rf : Nat → Nat → Option Nat}  : CT (x0 G) 2 m_Ca_init [.ref (xP (x0 G) 53)] (xSm 54, I, L, Rf) (none, (xSm 54, I, L, Rf)) := by
  refine CT.of (by decide +kernel) (Nat.le_of_ble_eq_true rfl) ?_
  show X (x0 G) 2 m_Ca_init 0 [(0, .ref (xP (x0 G) 53))] [] _ _
  refine X_aload_n (pc := 0) (i := 0) 0 dX1_init_0 rfl rfl ?_
  refine X_invIN_v (pc := 1) c_Wo_init_53 ok_Wo_init rfl rfl k_378 k_358 nd_1 (by decide) rfl (Nat.le_of_ble_eq_true rfl) dX1_init_1 ?_
  exact X_return (pc := 4) rfl dX1_init_4
set_option maxRecDepth 100000 in
set_option maxHeartbeats 4000000 in
theorem c_Wo_init_54 {G : xG} {I : Nat → Nat → Int32} {L : Nat → Nat → Int64} {Rf : Nat → Nat → Option Nat}  : CT (x0 G) 1 m_Wo_init [.ref (xP (x0 G) 54)] (xSm 55, I, L, Rf) (none, (xSm 55, I, L, Rf)) := by
  refine CT.of (by decide +kernel) (Nat.le_of_ble_eq_true rfl) ?_
  show X (x0 G) 1 m_Wo_init 0 [(0, .ref (xP (x0 G) 54))] [] _ _
  refine X_aload_n (pc := 0) (i := 0) 0 dX10_init_0 rfl rfl ?_
  refine X_objInit (pc := 1) k_360 k_93 k_94 (by decide) (by decide) dX10_init_1 ?_
  exact X_return (pc := 4) rfl dX10_init_4
set_option maxRecDepth 100000 in
set_option maxHeartbeats 4000000 in
theorem c_St_init_54 {G : xG} {I : Nat → Nat → Int32} {L : Nat → Nat → Int64} {Rf : Nat → Nat → Option Nat}  : CT (x0 G) 2 m_St_init [.ref (xP (x0 G) 54)] (xSm 55, I, L, Rf) (none, (xSm 55, I, L, Rf)) := by
  refine CT.of (by decide +kernel) (Nat.le_of_ble_eq_true rfl) ?_
  show X (x0 G) 2 m_St_init 0 [(0, .ref (xP (x0 G) 54))] [] _ _
  refine X_aload_n (pc := 0) (i := 0) 0 dX8_init_0 rfl rfl ?_
  refine X_invIN_v (pc := 1) c_Wo_init_54 ok_Wo_init rfl rfl k_422 k_358 nd_1 (by decide) rfl (Nat.le_of_ble_eq_true rfl) dX8_init_1 ?_
  exact X_return (pc := 4) rfl dX8_init_4
set_option maxRecDepth 100000 in
set_option maxHeartbeats 4000000 in
theorem c_Wo_init_55 {G : xG} {I : Nat → Nat → Int32} {L : Nat → Nat → Int64} {Rf : Nat → Nat → Option Nat}  : CT (x0 G) 1 m_Wo_init [.ref (xP (x0 G) 55)] (xSm 56, I, L, Rf) (none, (xSm 56, I, L, Rf)) := by
  refine CT.of (by decide +kernel) (Nat.le_of_ble_eq_true rfl) ?_
  show X (x0 G) 1 m_Wo_init 0 [(0, .ref (xP (x0 G) 55))] [] _ _
  refine X_aload_n (pc := 0) (i := 0) 0 dX10_init_0 rfl rfl ?_
  refine X_objInit (pc := 1) k_360 k_93 k_94 (by decide) (by decide) dX10_init_1 ?_
  exact X_return (pc := 4) rfl dX10_init_4
set_option maxRecDepth 100000 in
set_option maxHeartbeats 4000000 in
theorem c_Di_init_55 {G : xG} {I : Nat → Nat → Int32} {L : Nat → Nat → Int64} {Rf : Nat → Nat → Option Nat}  : CT (x0 G) 2 m_Di_init [.ref (xP (x0 G) 55)] (xSm 56, I, L, Rf) (none, (xSm 56, I, L, Rf)) := by
  refine CT.of (by decide +kernel) (Nat.le_of_ble_eq_true rfl) ?_
  show X (x0 G) 2 m_Di_init 0 [(0, .ref (xP (x0 G) 55))] [] _ _
  refine X_aload_n (pc := 0) (i := 0) 0 dX4_init_0 rfl rfl ?_
  refine X_invIN_v (pc := 1) c_Wo_init_55 ok_Wo_init rfl rfl k_357 k_358 nd_1 (by decide) rfl (Nat.le_of_ble_eq_true rfl) dX4_init_1 ?_
  exact X_return (pc := 4) rfl dX4_init_4
set_option maxRecDepth 100000 in
set_option maxHeartbeats 4000000 in
theorem c_Wo_init_56 {G : xG} {I : Nat → Nat → Int32} {L : Nat → Nat → Int64} {Rf : Nat → Nat → Option Nat}  : CT (x0 G) 1 m_Wo_init [.ref (xP (x0 G) 56)] (xSm 57, I, L, Rf) (none, (xSm 57, I, L, Rf)) := by
  refine CT.of (by decide +kernel) (Nat.le_of_ble_eq_true rfl) ?_
  show X (x0 G) 1 m_Wo_init 0 [(0, .ref (xP (x0 G) 56))] [] _ _
  refine X_aload_n (pc := 0) (i := 0) 0 dX10_init_0 rfl rfl ?_
  refine X_objInit (pc := 1) k_360 k_93 k_94 (by decide) (by decide) dX10_init_1 ?_
  exact X_return (pc := 4) rfl dX10_init_4
set_option maxRecDepth 100000 in
set_option maxHeartbeats 4000000 in
theorem c_Ca_init_56 {G : xG} {I : Nat → Nat → Int32} {L : Nat → Nat → Int64} {Rf : Nat → Nat → Option Nat}  : CT (x0 G) 2 m_Ca_init [.ref (xP (x0 G) 56)] (xSm 57, I, L, Rf) (none, (xSm 57, I, L, Rf)) := by
  refine CT.of (by decide +kernel) (Nat.le_of_ble_eq_true rfl) ?_
  show X (x0 G) 2 m_Ca_init 0 [(0, .ref (xP (x0 G) 56))] [] _ _
  refine X_aload_n (pc := 0) (i := 0) 0 dX1_init_0 rfl rfl ?_
  refine X_invIN_v (pc := 1) c_Wo_init_56 ok_Wo_init rfl rfl k_378 k_358 nd_1 (by decide) rfl (Nat.le_of_ble_eq_true rfl) dX1_init_1 ?_
  exact X_return (pc := 4) rfl dX1_init_4
set_option maxRecDepth 100000 in
set_option maxHeartbeats 4000000 in
theorem c_Wo_init_57 {G : xG} {I : Nat → Nat → Int32} {L : Nat → Nat → Int64} {Rf : Nat → Nat → Option Nat}  : CT (x0 G) 1 m_Wo_init [.ref (xP (x0 G) 57)] (xSm 58, I, L, Rf) (none, (xSm 58, I, L, Rf)) := by
  refine CT.of (by decide +kernel) (Nat.le_of_ble_eq_true rfl) ?_
  show X (x0 G) 1 m_Wo_init 0 [(0, .ref (xP (x0 G) 57))] [] _ _
  refine X_aload_n (pc := 0) (i := 0) 0 dX10_init_0 rfl rfl ?_
  refine X_objInit (pc := 1) k_360 k_93 k_94 (by decide) (by decide) dX10_init_1 ?_
  exact X_return (pc := 4) rfl dX10_init_4
set_option maxRecDepth 100000 in
set_option maxHeartbeats 4000000 in
theorem c_St_init_57 {G : xG} {I : Nat → Nat → Int32} {L : Nat → Nat → Int64} {Rf : Nat → Nat → Option Nat}  : CT (x0 G) 2 m_St_init [.ref (xP (x0 G) 57)] (xSm 58, I, L, Rf) (none, (xSm 58, I, L, Rf)) := by
  refine CT.of (by decide +kernel) (Nat.le_of_ble_eq_true rfl) ?_
  show X (x0 G) 2 m_St_init 0 [(0, .ref (xP (x0 G) 57))] [] _ _
  refine X_aload_n (pc := 0) (i := 0) 0 dX8_init_0 rfl rfl ?_
  refine X_invIN_v (pc := 1) c_Wo_init_57 ok_Wo_init rfl rfl k_422 k_358 nd_1 (by decide) rfl (Nat.le_of_ble_eq_true rfl) dX8_init_1 ?_
  exact X_return (pc := 4) rfl dX8_init_4
set_option maxRecDepth 100000 in
set_option maxHeartbeats 4000000 in
theorem c_Wo_init_58 {G : xG} {I : Nat → Nat → Int32} {L : Nat → Nat → Int64} {Rf : Nat → Nat → Option Nat}  : CT (x0 G) 1 m_Wo_init [.ref (xP (x0 G) 58)] (xSm 59, I, L, Rf) (none, (xSm 59, I, L, Rf)) := by
  refine CT.of (by decide +kernel) (Nat.le_of_ble_eq_true rfl) ?_
  show X (x0 G) 1 m_Wo_init 0 [(0, .ref (xP (x0 G) 58))] [] _ _
  refine X_aload_n (pc := 0) (i := 0) 0 dX10_init_0 rfl rfl ?_
  refine X_objInit (pc := 1) k_360 k_93 k_94 (by decide) (by decide) dX10_init_1 ?_
  exact X_return (pc := 4) rfl dX10_init_4
set_option maxRecDepth 100000 in
set_option maxHeartbeats 4000000 in
theorem c_Di_init_58 {G : xG} {I : Nat → Nat → Int32} {L : Nat → Nat → Int64} {Rf : Nat → Nat → Option Nat}  : CT (x0 G) 2 m_Di_init [.ref (xP (x0 G) 58)] (xSm 59, I, L, Rf) (none, (xSm 59, I, L, Rf)) := by
  refine CT.of (by decide +kernel) (Nat.le_of_ble_eq_true rfl) ?_
  show X (x0 G) 2 m_Di_init 0 [(0, .ref (xP (x0 G) 58))] [] _ _
  refine X_aload_n (pc := 0) (i := 0) 0 dX4_init_0 rfl rfl ?_
  refine X_invIN_v (pc := 1) c_Wo_init_58 ok_Wo_init rfl rfl k_357 k_358 nd_1 (by decide) rfl (Nat.le_of_ble_eq_true rfl) dX4_init_1 ?_
  exact X_return (pc := 4) rfl dX4_init_4
set_option maxRecDepth 100000 in
set_option maxHeartbeats 4000000 in
theorem c_Wo_init_59 {G : xG} {I : Nat → Nat → Int32} {L : Nat → Nat → Int64} {Rf : Nat → Nat → Option Nat}  : CT (x0 G) 1 m_Wo_init [.ref (xP (x0 G) 59)] (xSm 60, I, L, Rf) (none, (xSm 60, I, L, Rf)) := by
  refine CT.of (by decide +kernel) (Nat.le_of_ble_eq_true rfl) ?_
  show X (x0 G) 1 m_Wo_init 0 [(0, .ref (xP (x0 G) 59))] [] _ _
  refine X_aload_n (pc := 0) (i := 0) 0 dX10_init_0 rfl rfl ?_
  refine X_objInit (pc := 1) k_360 k_93 k_94 (by decide) (by decide) dX10_init_1 ?_
  exact X_return (pc := 4) rfl dX10_init_4
set_option maxRecDepth 100000 in
set_option maxHeartbeats 4000000 in
theorem c_Ca_init_59 {G : xG} {I : Nat → Nat → Int32} {L : Nat → Nat → Int64} {Rf : Nat → Nat → Option Nat}  : CT (x0 G) 2 m_Ca_init [.ref (xP (x0 G) 59)] (xSm 60, I, L, Rf) (none, (xSm 60, I, L, Rf)) := by
  refine CT.of (by decide +kernel) (Nat.le_of_ble_eq_true rfl) ?_
  show X (x0 G) 2 m_Ca_init 0 [(0, .ref (xP (x0 G) 59))] [] _ _
  refine X_aload_n (pc := 0) (i := 0) 0 dX1_init_0 rfl rfl ?_
  refine X_invIN_v (pc := 1) c_Wo_init_59 ok_Wo_init rfl rfl k_378 k_358 nd_1 (by decide) rfl (Nat.le_of_ble_eq_true rfl) dX1_init_1 ?_
  exact X_return (pc := 4) rfl dX1_init_4
set_option maxRecDepth 100000 in
set_option maxHeartbeats 4000000 in
theorem c_Wo_init_60 {G : xG} {I : Nat → Nat → Int32} {L : Nat → Nat → Int64} {Rf : Nat → Nat → Option Nat}  : CT (x0 G) 1 m_Wo_init [.ref (xP (x0 G) 60)] (xSm 61, I, L, Rf) (none, (xSm 61, I, L, Rf)) := by
  refine CT.of (by decide +kernel) (Nat.le_of_ble_eq_true rfl) ?_
  show X (x0 G) 1 m_Wo_init 0 [(0, .ref (xP (x0 G) 60))] [] _ _
  refine X_aload_n (pc := 0) (i := 0) 0 dX10_init_0 rfl rfl ?_
  refine X_objInit (pc := 1) k_360 k_93 k_94 (by decide) (by decide) dX10_init_1 ?_
  exact X_return (pc := 4) rfl dX10_init_4
set_option maxRecDepth 100000 in
set_option maxHeartbeats 4000000 in
theorem c_St_init_60 {G : xG} {I : Nat → Nat → Int32} {L : Nat → Nat → Int64} {Rf : Nat → Nat → Option Nat}  : CT (x0 G) 2 m_St_init [.ref (xP (x0 G) 60)] (xSm 61, I, L, Rf) (none, (xSm 61, I, L, Rf)) := by
  refine CT.of (by decide +kernel) (Nat.le_of_ble_eq_true rfl) ?_
  show X (x0 G) 2 m_St_init 0 [(0, .ref (xP (x0 G) 60))] [] _ _
  refine X_aload_n (pc := 0) (i := 0) 0 dX8_init_0 rfl rfl ?_
  refine X_invIN_v (pc := 1) c_Wo_init_60 ok_Wo_init rfl rfl k_422 k_358 nd_1 (by decide) rfl (Nat.le_of_ble_eq_true rfl) dX8_init_1 ?_
  exact X_return (pc := 4) rfl dX8_init_4
theorem dX3_init_0 : decode cX3_init 0 = .ok (.aload_n 0, 1) := by decide +kernel
theorem dX3_init_1 : decode cX3_init 1 = .ok (.invokespecial 1, 3) := by decide +kernel
theorem dX3_init_4 : decode cX3_init 4 = .ok (.return_, 1) := by decide +kernel
set_option maxRecDepth 100000 in
set_option maxHeartbeats 4000000 in
theorem c_Cr_init_61 {G : xG} {I : Nat → Nat → Int32} {L : Nat → Nat → Int64} {Rf : Nat → Nat → Option Nat}  : CT (x0 G) 1 m_Cr_init [.ref (xP (x0 G) 61)] (xSm 62, I, L, Rf) (none, (xSm 62, I, L, Rf)) := by
  refine CT.of (by decide +kernel) (Nat.le_of_ble_eq_true rfl) ?_
  show X (x0 G) 1 m_Cr_init 0 [(0, .ref (xP (x0 G) 61))] [] _ _
  refine X_aload_n (pc := 0) (i := 0) 0 dX3_init_0 rfl rfl ?_
  refine X_objInit (pc := 1) k_442 k_93 k_94 (by decide) (by decide) dX3_init_1 ?_
  exact X_return (pc := 4) rfl dX3_init_4
set_option maxRecDepth 100000 in
set_option maxHeartbeats 4000000 in
theorem c_Cr_init_62 {G : xG} {I : Nat → Nat → Int32} {L : Nat → Nat → Int64} {Rf : Nat → Nat → Option Nat}  : CT (x0 G) 1 m_Cr_init [.ref (xP (x0 G) 62)] (xSm 63, I, L, Rf) (none, (xSm 63, I, L, Rf)) := by
  refine CT.of (by decide +kernel) (Nat.le_of_ble_eq_true rfl) ?_
  show X (x0 G) 1 m_Cr_init 0 [(0, .ref (xP (x0 G) 62))] [] _ _
  refine X_aload_n (pc := 0) (i := 0) 0 dX3_init_0 rfl rfl ?_
  refine X_objInit (pc := 1) k_442 k_93 k_94 (by decide) (by decide) dX3_init_1 ?_
  exact X_return (pc := 4) rfl dX3_init_4
set_option maxRecDepth 100000 in
set_option maxHeartbeats 4000000 in
theorem c_Cr_init_63 {G : xG} {I : Nat → Nat → Int32} {L : Nat → Nat → Int64} {Rf : Nat → Nat → Option Nat}  : CT (x0 G) 1 m_Cr_init [.ref (xP (x0 G) 63)] (xSm 64, I, L, Rf) (none, (xSm 64, I, L, Rf)) := by
  refine CT.of (by decide +kernel) (Nat.le_of_ble_eq_true rfl) ?_
  show X (x0 G) 1 m_Cr_init 0 [(0, .ref (xP (x0 G) 63))] [] _ _
  refine X_aload_n (pc := 0) (i := 0) 0 dX3_init_0 rfl rfl ?_
  refine X_objInit (pc := 1) k_442 k_93 k_94 (by decide) (by decide) dX3_init_1 ?_
  exact X_return (pc := 4) rfl dX3_init_4
set_option maxRecDepth 100000 in
set_option maxHeartbeats 4000000 in
theorem c_Cr_init_64 {G : xG} {I : Nat → Nat → Int32} {L : Nat → Nat → Int64} {Rf : Nat → Nat → Option Nat}  : CT (x0 G) 1 m_Cr_init [.ref (xP (x0 G) 64)] (xSm 65, I, L, Rf) (none, (xSm 65, I, L, Rf)) := by
  refine CT.of (by decide +kernel) (Nat.le_of_ble_eq_true rfl) ?_
  show X (x0 G) 1 m_Cr_init 0 [(0, .ref (xP (x0 G) 64))] [] _ _
  refine X_aload_n (pc := 0) (i := 0) 0 dX3_init_0 rfl rfl ?_
  refine X_objInit (pc := 1) k_442 k_93 k_94 (by decide) (by decide) dX3_init_1 ?_
  exact X_return (pc := 4) rfl dX3_init_4
theorem dX11_init_0 : decode cX11_init 0 = .ok (.aload_n 0, 1) := by decide +kernel
theorem dX11_init_1 : decode cX11_init 1 = .ok (.invokespecial 1, 3) := by decide +kernel
theorem dX11_init_4 : decode cX11_init 4 = .ok (.aload_n 0, 1) := by decide +kernel
theorem dX11_init_5 : decode cX11_init 5 = .ok (.new 7, 3) := by decide +kernel
theorem dX11_init_8 : decode cX11_init 8 = .ok (.dup, 1) := by decide +kernel
theorem dX11_init_9 : decode cX11_init 9 = .ok (.invokespecial 9, 3) := by decide +kernel
theorem dX11_init_12 : decode cX11_init 12 = .ok (.putfield 10, 3) := by decide +kernel
theorem dX11_init_15 : decode cX11_init 15 = .ok (.aload_n 0, 1) := by decide +kernel
theorem dX11_init_16 : decode cX11_init 16 = .ok (.aload_n 0, 1) := by decide +kernel
theorem dX11_init_17 : decode cX11_init 17 = .ok (.getfield 10, 3) := by decide +kernel
theorem dX11_init_20 : decode cX11_init 20 = .ok (.getfield 16, 3) := by decide +kernel
theorem dX11_init_23 : decode cX11_init 23 = .ok (.putfield 20, 3) := by decide +kernel
theorem dX11_init_26 : decode cX11_init 26 = .ok (.aload_n 0, 1) := by decide +kernel
theorem dX11_init_27 : decode cX11_init 27 = .ok (.bipush 8, 2) := by decide +kernel
theorem dX11_init_29 : decode cX11_init 29 = .ok (.anewarray 21, 3) := by decide +kernel
theorem dX11_init_32 : decode cX11_init 32 = .ok (.putfield 23, 3) := by decide +kernel
theorem dX11_init_35 : decode cX11_init 35 = .ok (.aload_n 0, 1) := by decide +kernel
theorem dX11_init_36 : decode cX11_init 36 = .ok (.bipush 8, 2) := by decide +kernel
theorem dX11_init_38 : decode cX11_init 38 = .ok (.anewarray 27, 3) := by decide +kernel
theorem dX11_init_41 : decode cX11_init 41 = .ok (.putfield 29, 3) := by decide +kernel
theorem dX11_init_44 : decode cX11_init 44 = .ok (.aload_n 0, 1) := by decide +kernel
theorem dX11_init_45 : decode cX11_init 45 = .ok (.bipush 8, 2) := by decide +kernel
theorem dX11_init_47 : decode cX11_init 47 = .ok (.anewarray 33, 3) := by decide +kernel
theorem dX11_init_50 : decode cX11_init 50 = .ok (.putfield 35, 3) := by decide +kernel
theorem dX11_init_53 : decode cX11_init 53 = .ok (.aload_n 0, 1) := by decide +kernel
theorem dX11_init_54 : decode cX11_init 54 = .ok (.bipush 8, 2) := by decide +kernel
theorem dX11_init_56 : decode cX11_init 56 = .ok (.anewarray 39, 3) := by decide +kernel
theorem dX11_init_59 : decode cX11_init 59 = .ok (.putfield 41, 3) := by decide +kernel
theorem dX11_init_62 : decode cX11_init 62 = .ok (.aload_n 0, 1) := by decide +kernel
theorem dX11_init_63 : decode cX11_init 63 = .ok (.iconst 4, 1) := by decide +kernel
theorem dX11_init_64 : decode cX11_init 64 = .ok (.anewarray 45, 3) := by decide +kernel
theorem dX11_init_67 : decode cX11_init 67 = .ok (.putfield 47, 3) := by decide +kernel
theorem dX11_init_70 : decode cX11_init 70 = .ok (.aload_n 0, 1) := by decide +kernel
theorem dX11_init_71 : decode cX11_init 71 = .ok (.new 51, 3) := by decide +kernel
theorem dX11_init_74 : decode cX11_init 74 = .ok (.dup, 1) := by decide +kernel
theorem dX11_init_75 : decode cX11_init 75 = .ok (.iconst 3, 1) := by decide +kernel
theorem dX11_init_76 : decode cX11_init 76 = .ok (.sipush 1000, 3) := by decide +kernel
theorem dX11_init_79 : decode cX11_init 79 = .ok (.invokespecial 53, 3) := by decide +kernel
theorem dX11_init_82 : decode cX11_init 82 = .ok (.putfield 56, 3) := by decide +kernel
theorem dX11_init_85 : decode cX11_init 85 = .ok (.aload_n 0, 1) := by decide +kernel
theorem dX11_init_86 : decode cX11_init 86 = .ok (.new 51, 3) := by decide +kernel
theorem dX11_init_89 : decode cX11_init 89 = .ok (.dup, 1) := by decide +kernel
theorem dX11_init_90 : decode cX11_init 90 = .ok (.iconst 4, 1) := by decide +kernel
theorem dX11_init_91 : decode cX11_init 91 = .ok (.sipush 2000, 3) := by decide +kernel
theorem dX11_init_94 : decode cX11_init 94 = .ok (.invokespecial 53, 3) := by decide +kernel
theorem dX11_init_97 : decode cX11_init 97 = .ok (.putfield 60, 3) := by decide +kernel
theorem dX11_init_100 : decode cX11_init 100 = .ok (.aload_n 0, 1) := by decide +kernel
theorem dX11_init_101 : decode cX11_init 101 = .ok (.new 63, 3) := by decide +kernel
theorem dX11_init_104 : decode cX11_init 104 = .ok (.dup, 1) := by decide +kernel
theorem dX11_init_105 : decode cX11_init 105 = .ok (.invokespecial 65, 3) := by decide +kernel
theorem dX11_init_108 : decode cX11_init 108 = .ok (.putfield 66, 3) := by decide +kernel
theorem dX11_init_111 : decode cX11_init 111 = .ok (.aload_n 0, 1) := by decide +kernel
theorem dX11_init_112 : decode cX11_init 112 = .ok (.new 70, 3) := by decide +kernel
theorem dX11_init_115 : decode cX11_init 115 = .ok (.dup, 1) := by decide +kernel
theorem dX11_init_116 : decode cX11_init 116 = .ok (.invokespecial 72, 3) := by decide +kernel
theorem dX11_init_119 : decode cX11_init 119 = .ok (.putfield 73, 3) := by decide +kernel
theorem dX11_init_122 : decode cX11_init 122 = .ok (.aload_n 0, 1) := by decide +kernel
theorem dX11_init_123 : decode cX11_init 123 = .ok (.bipush 15, 2) := by decide +kernel
theorem dX11_init_125 : decode cX11_init 125 = .ok (.newarray .int, 2) := by decide +kernel
theorem dX11_init_127 : decode cX11_init 127 = .ok (.putfield 77, 3) := by decide +kernel
theorem dX11_init_130 : decode cX11_init 130 = .ok (.aload_n 0, 1) := by decide +kernel
theorem dX11_init_131 : decode cX11_init 131 = .ok (.new 81, 3) := by decide +kernel
theorem dX11_init_134 : decode cX11_init 134 = .ok (.dup, 1) := by decide +kernel
theorem dX11_init_135 : decode cX11_init 135 = .ok (.invokespecial 83, 3) := by decide +kernel
theorem dX11_init_138 : decode cX11_init 138 = .ok (.putfield 84, 3) := by decide +kernel
theorem dX11_init_141 : decode cX11_init 141 = .ok (.iconst 0, 1) := by decide +kernel
theorem dX11_init_142 : decode cX11_init 142 = .ok (.istore_n 1, 1) := by decide +kernel
theorem dX11_init_143 : decode cX11_init 143 = .ok (.iload_n 1, 1) := by decide +kernel
theorem dX11_init_144 : decode cX11_init 144 = .ok (.bipush 8, 2) := by decide +kernel
theorem dX11_init_146 : decode cX11_init 146 = .ok (.if_icmp .ge 48, 3) := by decide +kernel
theorem dX11_init_149 : decode cX11_init 149 = .ok (.aload_n 0, 1) := by decide +kernel
theorem dX11_init_150 : decode cX11_init 150 = .ok (.getfield 29, 3) := by decide +kernel
theorem dX11_init_153 : decode cX11_init 153 = .ok (.iload_n 1, 1) := by decide +kernel
theorem dX11_init_154 : decode cX11_init 154 = .ok (.new 27, 3) := by decide +kernel
theorem dX11_init_157 : decode cX11_init 157 = .ok (.dup, 1) := by decide +kernel
theorem dX11_init_158 : decode cX11_init 158 = .ok (.invokespecial 88, 3) := by decide +kernel
theorem dX11_init_161 : decode cX11_init 161 = .ok (.aastore, 1) := by decide +kernel
theorem dX11_init_162 : decode cX11_init 162 = .ok (.aload_n 0, 1) := by decide +kernel
theorem dX11_init_163 : decode cX11_init 163 = .ok (.getfield 35, 3) := by decide +kernel
theorem dX11_init_166 : decode cX11_init 166 = .ok (.iload_n 1, 1) := by decide +kernel
theorem dX11_init_167 : decode cX11_init 167 = .ok (.new 33, 3) := by decide +kernel
theorem dX11_init_170 : decode cX11_init 170 = .ok (.dup, 1) := by decide +kernel
theorem dX11_init_171 : decode cX11_init 171 = .ok (.invokespecial 89, 3) := by decide +kernel
theorem dX11_init_174 : decode cX11_init 174 = .ok (.aastore, 1) := by decide +kernel
theorem dX11_init_175 : decode cX11_init 175 = .ok (.aload_n 0, 1) := by decide +kernel
theorem dX11_init_176 : decode cX11_init 176 = .ok (.getfield 41, 3) := by decide +kernel
theorem dX11_init_179 : decode cX11_init 179 = .ok (.iload_n 1, 1) := by decide +kernel
theorem dX11_init_180 : decode cX11_init 180 = .ok (.new 39, 3) := by decide +kernel
theorem dX11_init_183 : decode cX11_init 183 = .ok (.dup, 1) := by decide +kernel
theorem dX11_init_184 : decode cX11_init 184 = .ok (.invokespecial 90, 3) := by decide +kernel
theorem dX11_init_187 : decode cX11_init 187 = .ok (.aastore, 1) := by decide +kernel
theorem dX11_init_188 : decode cX11_init 188 = .ok (.iinc 1 1, 3) := by decide +kernel
theorem dX11_init_191 : decode cX11_init 191 = .ok (.goto (-48), 3) := by decide +kernel
theorem dX11_init_194 : decode cX11_init 194 = .ok (.iconst 0, 1) := by decide +kernel
theorem dX11_init_195 : decode cX11_init 195 = .ok (.istore_n 1, 1) := by decide +kernel
theorem dX11_init_196 : decode cX11_init 196 = .ok (.iload_n 1, 1) := by decide +kernel
theorem dX11_init_197 : decode cX11_init 197 = .ok (.iconst 4, 1) := by decide +kernel
theorem dX11_init_198 : decode cX11_init 198 = .ok (.if_icmp .ge 22, 3) := by decide +kernel
theorem dX11_init_201 : decode cX11_init 201 = .ok (.aload_n 0, 1) := by decide +kernel
theorem dX11_init_202 : decode cX11_init 202 = .ok (.getfield 47, 3) := by decide +kernel
theorem dX11_init_205 : decode cX11_init 205 = .ok (.iload_n 1, 1) := by decide +kernel
theorem dX11_init_206 : decode cX11_init 206 = .ok (.new 45, 3) := by decide +kernel
theorem dX11_init_209 : decode cX11_init 209 = .ok (.dup, 1) := by decide +kernel
theorem dX11_init_210 : decode cX11_init 210 = .ok (.invokespecial 91, 3) := by decide +kernel
theorem dX11_init_213 : decode cX11_init 213 = .ok (.aastore, 1) := by decide +kernel
theorem dX11_init_214 : decode cX11_init 214 = .ok (.iinc 1 1, 3) := by decide +kernel
theorem dX11_init_217 : decode cX11_init 217 = .ok (.goto (-21), 3) := by decide +kernel
theorem dX11_init_220 : decode cX11_init 220 = .ok (.aload_n 0, 1) := by decide +kernel
theorem dX11_init_221 : decode cX11_init 221 = .ok (.invokevirtual 92, 3) := by decide +kernel
theorem dX11_init_224 : decode cX11_init 224 = .ok (.return_, 1) := by decide +kernel
def iI_H_init_0 (I : Nat → Nat → Int32) : Nat → Nat → Int32 := (uZ (uZ (uZ (uZ (uZ (uZ (uZ (uZ (uZ (uZ (uZ (uZ (uZ (uZ (uZ (uZ (uZ (uZ (uZ (uZ (uZ (uZ (uZ (uZ (uZ (uZ (uZ (uZ (iI_Be_init_32 (uZ (uZ (iI_Ch_init_25 (uZ (iI_Tr_init_20 (uZ (iI_Ro_init_18 (uZ (iI_Ro_init_16 (uZ (uZ (uZ (uZ (uZ (uZ (iI_Es_init_1 (uZ I 1 0)) 11 0) 12 0) 13 0) 14 0) 15 0) 16 0)) 18 0)) 20 0)) 25 0)) 31 0) 32 0)) 37 0) 38 0) 39 0) 40 0) 41 0) 42 0) 43 0) 44 0) 45 0) 46 0) 47 0) 48 0) 49 0) 50 0) 51 0) 52 0) 53 0) 54 0) 55 0) 56 0) 57 0) 58 0) 59 0) 60 0) 61 0) 62 0) 63 0) 64 0)
def iL_H_init_0 (L : Nat → Nat → Int64) : Nat → Nat → Int64 := (uZ (uZ (uZ (uZ (uZ (uZ (uZ (uZ (uZ (uZ (uZ (uZ (uZ (uZ (uZ (uZ (uZ (uZ (uZ (uZ (uZ (uZ (uZ (uZ (uZ (uZ (uZ (uZ (iL_Be_init_32 (uZ (uZ (iL_Ch_init_25 (uZ (iL_Tr_init_20 (uZ (iL_Ro_init_18 (uZ (iL_Ro_init_16 (uZ (uZ (uZ (uZ (uZ (uZ (iL_Es_init_1 (uZ L 1 0)) 11 0) 12 0) 13 0) 14 0) 15 0) 16 0)) 18 0)) 20 0)) 25 0)) 31 0) 32 0)) 37 0) 38 0) 39 0) 40 0) 41 0) 42 0) 43 0) 44 0) 45 0) 46 0) 47 0) 48 0) 49 0) 50 0) 51 0) 52 0) 53 0) 54 0) 55 0) 56 0) 57 0) 58 0) 59 0) 60 0) 61 0) 62 0) 63 0) 64 0)
def iR_H_init_0 (Rf : Nat → Nat → Option Nat) : Nat → Nat → Option Nat := (uR (uZ (uR (uZ (uR (uZ (uR (uZ (uR (uZ (uR (uZ (uR (uZ (uR (uZ (uR (uZ (uR (uZ (uR (uZ (uR (uZ (uR (uZ (uR (uZ (uR (uZ (uR (uZ (uR (uZ (uR (uZ (uR (uZ (uR (uZ (uR (uZ (uR (uZ (uR (uZ (uR (uZ (uR (uZ (uR (uZ (uR (uZ (uR (uZ (uR (iR_Be_init_32 (uZ (uR (uZ (uR (iR_Ch_init_25 (uZ (uR (iR_Tr_init_20 (uZ (uR (iR_Ro_init_18 (uZ (uR (iR_Ro_init_16 (uZ (uR (uZ (uR (uZ (uR (uZ (uR (uZ (uR (uZ (uR (uR (iR_Es_init_1 (uZ Rf 1 none)) 0 0 (some 1)) 0 1 (some 2)) 11 none) 0 2 (some 11)) 12 none) 0 13 (some 12)) 13 none) 0 14 (some 13)) 14 none) 0 15 (some 14)) 15 none) 0 3 (some 15)) 16 none)) 0 4 (some 16)) 18 none)) 0 5 (some 18)) 20 none)) 0 9 (some 20)) 25 none)) 0 10 (some 25)) 31 none) 0 11 (some 31)) 32 none)) 0 12 (some 32)) 37 none) 12 0 (some 37)) 38 none) 13 0 (some 38)) 39 none) 14 0 (some 39)) 40 none) 12 1 (some 40)) 41 none) 13 1 (some 41)) 42 none) 14 1 (some 42)) 43 none) 12 2 (some 43)) 44 none) 13 2 (some 44)) 45 none) 14 2 (some 45)) 46 none) 12 3 (some 46)) 47 none) 13 3 (some 47)) 48 none) 14 3 (some 48)) 49 none) 12 4 (some 49)) 50 none) 13 4 (some 50)) 51 none) 14 4 (some 51)) 52 none) 12 5 (some 52)) 53 none) 13 5 (some 53)) 54 none) 14 5 (some 54)) 55 none) 12 6 (some 55)) 56 none) 13 6 (some 56)) 57 none) 14 6 (some 57)) 58 none) 12 7 (some 58)) 59 none) 13 7 (some 59)) 60 none) 14 7 (some 60)) 61 none) 15 0 (some 61)) 62 none) 15 1 (some 62)) 63 none) 15 2 (some 63)) 64 none) 15 3 (some 64))
set_option maxRecDepth 100000 in
theorem T_H_init_0 (Rf : Nat → Nat → Option Nat) : xTH xSc (oR (iR_H_init_0 Rf)) := ⟨by decide, (List.forall_mem_cons.mpr ⟨rfl, (List.forall_mem_cons.mpr ⟨rfl, (List.forall_mem_cons.mpr ⟨rfl, (List.forall_mem_cons.mpr ⟨rfl, (List.forall_mem_cons.mpr ⟨rfl, (List.forall_mem_cons.mpr ⟨rfl, (List.forall_mem_cons.mpr ⟨rfl, (List.forall_mem_cons.mpr ⟨rfl, (List.forall_mem_cons.mpr ⟨rfl, (List.forall_mem_cons.mpr ⟨rfl, (List.forall_mem_cons.mpr ⟨rfl, (List.forall_mem_cons.mpr ⟨rfl, (List.forall_mem_cons.mpr ⟨rfl, (List.forall_mem_cons.mpr ⟨rfl, (List.forall_mem_cons.mpr ⟨rfl, (List.forall_mem_cons.mpr ⟨rfl, (List.forall_mem_cons.mpr ⟨rfl, (List.forall_mem_cons.mpr ⟨rfl, (List.forall_mem_cons.mpr ⟨rfl, (List.forall_mem_cons.mpr ⟨rfl, (List.forall_mem_cons.mpr ⟨rfl, (List.forall_mem_cons.mpr ⟨rfl, (List.forall_mem_cons.mpr ⟨rfl, (List.forall_mem_cons.mpr ⟨rfl, (List.forall_mem_cons.mpr ⟨rfl, (List.forall_mem_cons.mpr ⟨rfl, (List.forall_mem_cons.mpr ⟨rfl, (List.forall_mem_cons.mpr ⟨rfl, (List.forall_mem_cons.mpr ⟨rfl, (List.forall_mem_cons.mpr ⟨rfl, (List.forall_mem_cons.mpr ⟨rfl, (List.forall_mem_cons.mpr ⟨rfl, (List.forall_mem_cons.mpr ⟨rfl, (List.forall_mem_cons.mpr ⟨rfl, (List.forall_mem_cons.mpr ⟨rfl, (List.forall_mem_cons.mpr ⟨rfl, (List.forall_mem_cons.mpr ⟨rfl, (List.forall_mem_cons.mpr ⟨rfl, (List.forall_mem_cons.mpr ⟨rfl, (List.forall_mem_cons.mpr ⟨rfl, (List.forall_mem_cons.mpr ⟨rfl, (List.forall_mem_cons.mpr ⟨rfl, (List.forall_mem_cons.mpr ⟨rfl, (List.forall_mem_cons.mpr ⟨rfl, (List.forall_mem_cons.mpr ⟨rfl, (List.forall_mem_cons.mpr ⟨rfl, (List.forall_mem_cons.mpr ⟨rfl, (List.forall_mem_cons.mpr ⟨rfl, (List.forall_mem_cons.mpr ⟨rfl, (List.forall_mem_cons.mpr ⟨rfl, (List.forall_mem_cons.mpr ⟨rfl, (List.forall_mem_cons.mpr ⟨rfl, (List.forall_mem_cons.mpr ⟨rfl, (List.forall_mem_cons.mpr ⟨rfl, (List.forall_mem_cons.mpr ⟨rfl, (List.forall_mem_cons.mpr ⟨rfl, (List.forall_mem_cons.mpr ⟨rfl, (List.forall_mem_cons.mpr ⟨rfl, (List.forall_mem_cons.mpr ⟨rfl, (List.forall_mem_cons.mpr ⟨rfl, (List.forall_mem_cons.mpr ⟨rfl, (List.forall_mem_cons.mpr ⟨rfl, (List.forall_mem_cons.mpr ⟨rfl, (List.forall_mem_cons.mpr ⟨rfl, (List.forall_mem_cons.mpr ⟨rfl, (fun _ h => absurd h List.not_mem_nil)⟩)⟩)⟩)⟩)⟩)⟩)⟩)⟩)⟩)⟩)⟩)⟩)⟩)⟩)⟩)⟩)⟩)⟩)⟩)⟩)⟩)⟩)⟩)⟩)⟩)⟩)⟩)⟩)⟩)⟩)⟩)⟩)⟩)⟩)⟩)⟩)⟩)⟩)⟩)⟩)⟩)⟩)⟩)⟩)⟩)⟩)⟩)⟩)⟩)⟩)⟩)⟩)⟩)⟩)⟩)⟩)⟩)⟩)⟩)⟩)⟩)⟩)⟩)⟩)⟩)⟩
set_option maxRecDepth 100000 in
set_option maxHeartbeats 4000000 in
theorem c_H_init_0 {G : xG} {I : Nat → Nat → Int32} {L : Nat → Nat → Int64} {Rf : Nat → Nat → Option Nat} {q : (Nat → Nat → Int32) × (Nat → Nat → Int64)} (hq : f_H_clearMovement (oI (iI_H_init_0 I)) (oL (iL_H_init_0 L)) = some q) : CT (x0 G) 5 m_H_init [.ref (xP (x0 G) 0)] (xSm 1, I, L, Rf) (none, (xSm 65, bI q.1, bL q.2, iR_H_init_0 Rf)) := by
  refine CT.of (by decide +kernel) (Nat.le_of_ble_eq_true rfl) ?_
  show X (x0 G) 5 m_H_init 0 [(0, .ref (xP (x0 G) 0))] [] _ _
  refine X_aload_n (pc := 0) (i := 0) 0 dX11_init_0 rfl rfl ?_
  refine X_objInit (pc := 1) k_92 k_93 k_94 (by decide) (by decide) dX11_init_1 ?_
  refine X_aload_n (pc := 4) (i := 0) 0 dX11_init_4 rfl rfl ?_
  refine X_newC (pc := 5) (ci := 5) (by decide) k_95 k_96 k_72 (xSm 2) 1 rfl rfl dX11_init_5 ?_
  refine X_dup (pc := 8) dX11_init_8 rfl ?_
  refine X_invIN_v (pc := 9) c_Es_init_1 ok_Es_init rfl rfl k_97 k_98 nd_1 (by decide) rfl (Nat.le_of_ble_eq_true rfl) dX11_init_9 ?_
  refine X_putr (pc := 12) (a := 0) (ci := 10) (j := 0) 0 rfl true rfl (by decide) k_494 rfl (fun _ => ⟨rfl, rfl⟩) (by first | exact Or.inl ⟨_, rfl⟩ | exact Or.inr ⟨_, rfl⟩) dX11_init_12 ?_
  refine X_aload_n (pc := 15) (i := 0) 0 dX11_init_15 rfl rfl ?_
  refine X_aload_n (pc := 16) (i := 0) 0 dX11_init_16 rfl rfl ?_
  refine X_getr (pc := 17) (a := 0) (ci := 10) (j := 0) (jl := 0) (c := 1) rfl (by decide) k_494 rfl (fun _ h => h) dX11_init_17 ?_
  refine X_getr (pc := 20) (a := 1) (ci := 5) (j := 0) (jl := 0) (c := 2) rfl (by decide) k_174 rfl (fun _ h => h) dX11_init_20 ?_
  refine X_putr (pc := 23) (a := 0) (ci := 10) (j := 1) 1 rfl true rfl (by decide) k_495 rfl (fun _ => ⟨rfl, rfl⟩) (by first | exact Or.inl ⟨_, rfl⟩ | exact Or.inr ⟨_, rfl⟩) dX11_init_23 ?_
  refine X_aload_n (pc := 26) (i := 0) 0 dX11_init_26 rfl rfl ?_
  refine X_bipush (pc := 27) (8 : Int32) dX11_init_27 (by decide) ?_
  refine X_anewC (pc := 29) (t := 3) (N := 8) (by simp) k_233 (by decide) (by decide) (by decide) (xSm 12) 11 rfl rfl dX11_init_29 ?_
  refine X_putr (pc := 32) (a := 0) (ci := 10) (j := 2) 2 rfl true rfl (by decide) k_496 rfl (fun _ => ⟨rfl, rfl⟩) (by first | exact Or.inl ⟨_, rfl⟩ | exact Or.inr ⟨_, rfl⟩) dX11_init_32 ?_
  refine X_aload_n (pc := 35) (i := 0) 0 dX11_init_35 rfl rfl ?_
  refine X_bipush (pc := 36) (8 : Int32) dX11_init_36 (by decide) ?_
  refine X_anewC (pc := 38) (t := 5) (N := 8) (by simp) k_235 (by decide) (by decide) (by decide) (xSm 13) 12 rfl rfl dX11_init_38 ?_
  refine X_putr (pc := 41) (a := 0) (ci := 10) (j := 3) 13 rfl true rfl (by decide) k_497 rfl (fun _ => ⟨rfl, rfl⟩) (by first | exact Or.inl ⟨_, rfl⟩ | exact Or.inr ⟨_, rfl⟩) dX11_init_41 ?_
  refine X_aload_n (pc := 44) (i := 0) 0 dX11_init_44 rfl rfl ?_
  refine X_bipush (pc := 45) (8 : Int32) dX11_init_45 (by decide) ?_
  refine X_anewC (pc := 47) (t := 6) (N := 8) (by simp) k_237 (by decide) (by decide) (by decide) (xSm 14) 13 rfl rfl dX11_init_47 ?_
  refine X_putr (pc := 50) (a := 0) (ci := 10) (j := 4) 14 rfl true rfl (by decide) k_498 rfl (fun _ => ⟨rfl, rfl⟩) (by first | exact Or.inl ⟨_, rfl⟩ | exact Or.inr ⟨_, rfl⟩) dX11_init_50 ?_
  refine X_aload_n (pc := 53) (i := 0) 0 dX11_init_53 rfl rfl ?_
  refine X_bipush (pc := 54) (8 : Int32) dX11_init_54 (by decide) ?_
  refine X_anewC (pc := 56) (t := 7) (N := 8) (by simp) k_239 (by decide) (by decide) (by decide) (xSm 15) 14 rfl rfl dX11_init_56 ?_
  refine X_putr (pc := 59) (a := 0) (ci := 10) (j := 5) 15 rfl true rfl (by decide) k_499 rfl (fun _ => ⟨rfl, rfl⟩) (by first | exact Or.inl ⟨_, rfl⟩ | exact Or.inr ⟨_, rfl⟩) dX11_init_59 ?_
  refine X_aload_n (pc := 62) (i := 0) 0 dX11_init_62 rfl rfl ?_
  refine X_iconst (pc := 63) (4 : Int32) dX11_init_63 (by decide) ?_
  refine X_anewC (pc := 64) (t := 4) (N := 4) (by simp) k_241 (by decide) (by decide) (by decide) (xSm 16) 15 rfl rfl dX11_init_64 ?_
  refine X_putr (pc := 67) (a := 0) (ci := 10) (j := 6) 3 rfl true rfl (by decide) k_500 rfl (fun _ => ⟨rfl, rfl⟩) (by first | exact Or.inl ⟨_, rfl⟩ | exact Or.inr ⟨_, rfl⟩) dX11_init_67 ?_
  refine X_aload_n (pc := 70) (i := 0) 0 dX11_init_70 rfl rfl ?_
  refine X_newC (pc := 71) (ci := 7) (by decide) k_243 k_153 k_74 (xSm 17) 16 rfl rfl dX11_init_71 ?_
  refine X_dup (pc := 74) dX11_init_74 rfl ?_
  refine X_iconst (pc := 75) (3 : Int32) dX11_init_75 (by decide) ?_
  refine X_sipush (pc := 76) (1000 : Int32) dX11_init_76 (by decide) ?_
  refine X_invI_v (pc := 79) c_Ro_init_16 ok_Ro_init rfl rfl k_244 k_155 nd_10 (by decide) rfl (Nat.le_of_ble_eq_true rfl) dX11_init_79 ?_
  refine X_putr (pc := 82) (a := 0) (ci := 10) (j := 7) 4 rfl true rfl (by decide) k_501 rfl (fun _ => ⟨rfl, rfl⟩) (by first | exact Or.inl ⟨_, rfl⟩ | exact Or.inr ⟨_, rfl⟩) dX11_init_82 ?_
  refine X_aload_n (pc := 85) (i := 0) 0 dX11_init_85 rfl rfl ?_
  refine X_newC (pc := 86) (ci := 7) (by decide) k_243 k_153 k_74 (xSm 19) 18 rfl rfl dX11_init_86 ?_
  refine X_dup (pc := 89) dX11_init_89 rfl ?_
  refine X_iconst (pc := 90) (4 : Int32) dX11_init_90 (by decide) ?_
  refine X_sipush (pc := 91) (2000 : Int32) dX11_init_91 (by decide) ?_
  refine X_invI_v (pc := 94) c_Ro_init_18 ok_Ro_init rfl rfl k_244 k_155 nd_10 (by decide) rfl (Nat.le_of_ble_eq_true rfl) dX11_init_94 ?_
  refine X_putr (pc := 97) (a := 0) (ci := 10) (j := 8) 5 rfl true rfl (by decide) k_502 rfl (fun _ => ⟨rfl, rfl⟩) (by first | exact Or.inl ⟨_, rfl⟩ | exact Or.inr ⟨_, rfl⟩) dX11_init_97 ?_
  refine X_aload_n (pc := 100) (i := 0) 0 dX11_init_100 rfl rfl ?_
  refine X_newC (pc := 101) (ci := 9) (by decide) k_245 k_246 k_75 (xSm 21) 20 rfl rfl dX11_init_101 ?_
  refine X_dup (pc := 104) dX11_init_104 rfl ?_
  refine X_invIN_v (pc := 105) c_Tr_init_20 ok_Tr_init rfl rfl k_247 k_248 nd_1 (by decide) rfl (Nat.le_of_ble_eq_true rfl) dX11_init_105 ?_
  refine X_putr (pc := 108) (a := 0) (ci := 10) (j := 12) 9 rfl true rfl (by decide) k_506 rfl (fun _ => ⟨rfl, rfl⟩) (by first | exact Or.inl ⟨_, rfl⟩ | exact Or.inr ⟨_, rfl⟩) dX11_init_108 ?_
  refine X_aload_n (pc := 111) (i := 0) 0 dX11_init_111 rfl rfl ?_
  refine X_newC (pc := 112) (ci := 2) (by decide) k_302 k_303 k_76 (xSm 26) 25 rfl rfl dX11_init_112 ?_
  refine X_dup (pc := 115) dX11_init_115 rfl ?_
  refine X_invIN_v (pc := 116) c_Ch_init_25 ok_Ch_init rfl rfl k_304 k_305 nd_1 (by decide) rfl (Nat.le_of_ble_eq_true rfl) dX11_init_116 ?_
  refine X_putr (pc := 119) (a := 0) (ci := 10) (j := 13) 10 rfl true rfl (by decide) k_507 rfl (fun _ => ⟨rfl, rfl⟩) (by first | exact Or.inl ⟨_, rfl⟩ | exact Or.inr ⟨_, rfl⟩) dX11_init_119 ?_
  refine X_aload_n (pc := 122) (i := 0) 0 dX11_init_122 rfl rfl ?_
  refine X_bipush (pc := 123) (15 : Int32) dX11_init_123 (by decide) ?_
  refine X_newaC (pc := 125) (atype := .int) (t := 0) (N := 15) (by decide) rfl k_151 (by decide) (by decide) (by decide) (xSm 32) 31 rfl rfl dX11_init_125 ?_
  refine X_putr (pc := 127) (a := 0) (ci := 10) (j := 14) 11 rfl true rfl (by decide) k_508 rfl (fun _ => ⟨rfl, rfl⟩) (by first | exact Or.inl ⟨_, rfl⟩ | exact Or.inr ⟨_, rfl⟩) dX11_init_127 ?_
  refine X_aload_n (pc := 130) (i := 0) 0 dX11_init_130 rfl rfl ?_
  refine X_newC (pc := 131) (ci := 0) (by decide) k_328 k_329 k_77 (xSm 33) 32 rfl rfl dX11_init_131 ?_
  refine X_dup (pc := 134) dX11_init_134 rfl ?_
  refine X_invIN_v (pc := 135) c_Be_init_32 ok_Be_init rfl rfl k_330 k_331 nd_1 (by decide) rfl (Nat.le_of_ble_eq_true rfl) dX11_init_135 ?_
  refine X_putr (pc := 138) (a := 0) (ci := 10) (j := 15) 12 rfl true rfl (by decide) k_509 rfl (fun _ => ⟨rfl, rfl⟩) (by first | exact Or.inl ⟨_, rfl⟩ | exact Or.inr ⟨_, rfl⟩) dX11_init_138 ?_
  refine X_iconst (pc := 141) (0 : Int32) dX11_init_141 (by decide) ?_
  refine X_istore_n (pc := 142) (i := 1) [(1, .int (0 : Int32)), (0, .ref (xP (x0 G) 0))] dX11_init_142 rfl (by decide) rfl ?_
  refine X_iload_n (pc := 143) (i := 1) 0 dX11_init_143 rfl rfl ?_
  refine X_bipush (pc := 144) (8 : Int32) dX11_init_144 (by decide) ?_
  refine X_icmp_ge_f (pc := 146) 194 dX11_init_146 (by decide) (by decide) ?_
  refine X_aload_n (pc := 149) (i := 0) 1 dX11_init_149 rfl rfl ?_
  refine X_getr (pc := 150) (a := 0) (ci := 10) (j := 3) (jl := 13) (c := 12) rfl (by decide) k_497 rfl (fun _ h => h) dX11_init_150 ?_
  refine X_iload_n (pc := 153) (i := 1) 0 dX11_init_153 rfl rfl ?_
  refine X_newC (pc := 154) (ci := 4) (by decide) k_235 k_353 k_79 (xSm 38) 37 rfl rfl dX11_init_154 ?_
  refine X_dup (pc := 157) dX11_init_157 rfl ?_
  refine X_invIN_v (pc := 158) c_Di_init_37 ok_Di_init rfl rfl k_354 k_355 nd_1 (by decide) rfl (Nat.le_of_ble_eq_true rfl) dX11_init_158 ?_
  refine X_aastCj (pc := 161) (t := 5) (ci := 4) (j := 0) (by decide) rfl rfl (vp_in_lit (N := 8) (by decide) (by decide)) (by decide) dX11_init_161 ?_
  refine X_aload_n (pc := 162) (i := 0) 1 dX11_init_162 rfl rfl ?_
  refine X_getr (pc := 163) (a := 0) (ci := 10) (j := 4) (jl := 14) (c := 13) rfl (by decide) k_498 rfl (fun _ h => h) dX11_init_163 ?_
  refine X_iload_n (pc := 166) (i := 1) 0 dX11_init_166 rfl rfl ?_
  refine X_newC (pc := 167) (ci := 1) (by decide) k_237 k_374 k_80 (xSm 39) 38 rfl rfl dX11_init_167 ?_
  refine X_dup (pc := 170) dX11_init_170 rfl ?_
  refine X_invIN_v (pc := 171) c_Ca_init_38 ok_Ca_init rfl rfl k_375 k_376 nd_1 (by decide) rfl (Nat.le_of_ble_eq_true rfl) dX11_init_171 ?_
  refine X_aastCj (pc := 174) (t := 6) (ci := 1) (j := 0) (by decide) rfl rfl (vp_in_lit (N := 8) (by decide) (by decide)) (by decide) dX11_init_174 ?_
  refine X_aload_n (pc := 175) (i := 0) 1 dX11_init_175 rfl rfl ?_
  refine X_getr (pc := 176) (a := 0) (ci := 10) (j := 5) (jl := 15) (c := 14) rfl (by decide) k_499 rfl (fun _ h => h) dX11_init_176 ?_
  refine X_iload_n (pc := 179) (i := 1) 0 dX11_init_179 rfl rfl ?_
  refine X_newC (pc := 180) (ci := 8) (by decide) k_239 k_418 k_81 (xSm 40) 39 rfl rfl dX11_init_180 ?_
  refine X_dup (pc := 183) dX11_init_183 rfl ?_
  refine X_invIN_v (pc := 184) c_St_init_39 ok_St_init rfl rfl k_419 k_420 nd_1 (by decide) rfl (Nat.le_of_ble_eq_true rfl) dX11_init_184 ?_
  refine X_aastCj (pc := 187) (t := 7) (ci := 8) (j := 0) (by decide) rfl rfl (vp_in_lit (N := 8) (by decide) (by decide)) (by decide) dX11_init_187 ?_
  refine X_iinc (pc := 188) (i := 1) (q := 0) (v := (1 : Int32)) [(1, .int (1 : Int32)), (0, .ref (xP (x0 G) 0))] dX11_init_188 rfl (by decide) (by decide) rfl ?_
  refine X_goto (pc := 191) 143 dX11_init_191 (by decide) ?_
  refine X_iload_n (pc := 143) (i := 1) 0 dX11_init_143 rfl rfl ?_
  refine X_bipush (pc := 144) (8 : Int32) dX11_init_144 (by decide) ?_
  refine X_icmp_ge_f (pc := 146) 194 dX11_init_146 (by decide) (by decide) ?_
  refine X_aload_n (pc := 149) (i := 0) 1 dX11_init_149 rfl rfl ?_
  refine X_getr (pc := 150) (a := 0) (ci := 10) (j := 3) (jl := 13) (c := 12) rfl (by decide) k_497 rfl (fun _ h => h) dX11_init_150 ?_
  refine X_iload_n (pc := 153) (i := 1) 0 dX11_init_153 rfl rfl ?_
  refine X_newC (pc := 154) (ci := 4) (by decide) k_235 k_353 k_79 (xSm 41) 40 rfl rfl dX11_init_154 ?_
  refine X_dup (pc := 157) dX11_init_157 rfl ?_
  refine X_invIN_v (pc := 158) c_Di_init_40 ok_Di_init rfl rfl k_354 k_355 nd_1 (by decide) rfl (Nat.le_of_ble_eq_true rfl) dX11_init_158 ?_
  refine X_aastCj (pc := 161) (t := 5) (ci := 4) (j := 1) (by decide) rfl rfl (vp_in_lit (N := 8) (by decide) (by decide)) (by decide) dX11_init_161 ?_
  refine X_aload_n (pc := 162) (i := 0) 1 dX11_init_162 rfl rfl ?_
  refine X_getr (pc := 163) (a := 0) (ci := 10) (j := 4) (jl := 14) (c := 13) rfl (by decide) k_498 rfl (fun _ h => h) dX11_init_163 ?_
  refine X_iload_n (pc := 166) (i := 1) 0 dX11_init_166 rfl rfl ?_
  refine X_newC (pc := 167) (ci := 1) (by decide) k_237 k_374 k_80 (xSm 42) 41 rfl rfl dX11_init_167 ?_
  refine X_dup (pc := 170) dX11_init_170 rfl ?_
  refine X_invIN_v (pc := 171) c_Ca_init_41 ok_Ca_init rfl rfl k_375 k_376 nd_1 (by decide) rfl (Nat.le_of_ble_eq_true rfl) dX11_init_171 ?_
  refine X_aastCj (pc := 174) (t := 6) (ci := 1) (j := 1) (by decide) rfl rfl (vp_in_lit (N := 8) (by decide) (by decide)) (by decide) dX11_init_174 ?_
  refine X_aload_n (pc := 175) (i := 0) 1 dX11_init_175 rfl rfl ?_
  refine X_getr (pc := 176) (a := 0) (ci := 10) (j := 5) (jl := 15) (c := 14) rfl (by decide) k_499 rfl (fun _ h => h) dX11_init_176 ?_
  refine X_iload_n (pc := 179) (i := 1) 0 dX11_init_179 rfl rfl ?_
  refine X_newC (pc := 180) (ci := 8) (by decide) k_239 k_418 k_81 (xSm 43) 42 rfl rfl dX11_init_180 ?_
  refine X_dup (pc := 183) dX11_init_183 rfl ?_
  refine X_invIN_v (pc := 184) c_St_init_42 ok_St_init rfl rfl k_419 k_420 nd_1 (by decide) rfl (Nat.le_of_ble_eq_true rfl) dX11_init_184 ?_
  refine X_aastCj (pc := 187) (t := 7) (ci := 8) (j := 1) (by decide) rfl rfl (vp_in_lit (N := 8) (by decide) (by decide)) (by decide) dX11_init_187 ?_
  refine X_iinc (pc := 188) (i := 1) (q := 0) (v := (2 : Int32)) [(1, .int (2 : Int32)), (0, .ref (xP (x0 G) 0))] dX11_init_188 rfl (by decide) (by decide) rfl ?_
  refine X_goto (pc := 191) 143 dX11_init_191 (by decide) ?_
  refine X_iload_n (pc := 143) (i := 1) 0 dX11_init_143 rfl rfl ?_
  refine X_bipush (pc := 144) (8 : Int32) dX11_init_144 (by decide) ?_
  refine X_icmp_ge_f (pc := 146) 194 dX11_init_146 (by decide) (by decide) ?_
  refine X_aload_n (pc := 149) (i := 0) 1 dX11_init_149 rfl rfl ?_
  refine X_getr (pc := 150) (a := 0) (ci := 10) (j := 3) (jl := 13) (c := 12) rfl (by decide) k_497 rfl (fun _ h => h) dX11_init_150 ?_
  refine X_iload_n (pc := 153) (i := 1) 0 dX11_init_153 rfl rfl ?_
  refine X_newC (pc := 154) (ci := 4) (by decide) k_235 k_353 k_79 (xSm 44) 43 rfl rfl dX11_init_154 ?_
  refine X_dup (pc := 157) dX11_init_157 rfl ?_
  refine X_invIN_v (pc := 158) c_Di_init_43 ok_Di_init rfl rfl k_354 k_355 nd_1 (by decide) rfl (Nat.le_of_ble_eq_true rfl) dX11_init_158 ?_
  refine X_aastCj (pc := 161) (t := 5) (ci := 4) (j := 2) (by decide) rfl rfl (vp_in_lit (N := 8) (by decide) (by decide)) (by decide) dX11_init_161 ?_
  refine X_aload_n (pc := 162) (i := 0) 1 dX11_init_162 rfl rfl ?_
  refine X_getr (pc := 163) (a := 0) (ci := 10) (j := 4) (jl := 14) (c := 13) rfl (by decide) k_498 rfl (fun _ h => h) dX11_init_163 ?_
  refine X_iload_n (pc := 166) (i := 1) 0 dX11_init_166 rfl rfl ?_
  refine X_newC (pc := 167) (ci := 1) (by decide) k_237 k_374 k_80 (xSm 45) 44 rfl rfl dX11_init_167 ?_
  refine X_dup (pc := 170) dX11_init_170 rfl ?_
  refine X_invIN_v (pc := 171) c_Ca_init_44 ok_Ca_init rfl rfl k_375 k_376 nd_1 (by decide) rfl (Nat.le_of_ble_eq_true rfl) dX11_init_171 ?_
  refine X_aastCj (pc := 174) (t := 6) (ci := 1) (j := 2) (by decide) rfl rfl (vp_in_lit (N := 8) (by decide) (by decide)) (by decide) dX11_init_174 ?_
  refine X_aload_n (pc := 175) (i := 0) 1 dX11_init_175 rfl rfl ?_
  refine X_getr (pc := 176) (a := 0) (ci := 10) (j := 5) (jl := 15) (c := 14) rfl (by decide) k_499 rfl (fun _ h => h) dX11_init_176 ?_
  refine X_iload_n (pc := 179) (i := 1) 0 dX11_init_179 rfl rfl ?_
  refine X_newC (pc := 180) (ci := 8) (by decide) k_239 k_418 k_81 (xSm 46) 45 rfl rfl dX11_init_180 ?_
  refine X_dup (pc := 183) dX11_init_183 rfl ?_
  refine X_invIN_v (pc := 184) c_St_init_45 ok_St_init rfl rfl k_419 k_420 nd_1 (by decide) rfl (Nat.le_of_ble_eq_true rfl) dX11_init_184 ?_
  refine X_aastCj (pc := 187) (t := 7) (ci := 8) (j := 2) (by decide) rfl rfl (vp_in_lit (N := 8) (by decide) (by decide)) (by decide) dX11_init_187 ?_
  refine X_iinc (pc := 188) (i := 1) (q := 0) (v := (3 : Int32)) [(1, .int (3 : Int32)), (0, .ref (xP (x0 G) 0))] dX11_init_188 rfl (by decide) (by decide) rfl ?_
  refine X_goto (pc := 191) 143 dX11_init_191 (by decide) ?_
  refine X_iload_n (pc := 143) (i := 1) 0 dX11_init_143 rfl rfl ?_
  refine X_bipush (pc := 144) (8 : Int32) dX11_init_144 (by decide) ?_
  refine X_icmp_ge_f (pc := 146) 194 dX11_init_146 (by decide) (by decide) ?_
  refine X_aload_n (pc := 149) (i := 0) 1 dX11_init_149 rfl rfl ?_
  refine X_getr (pc := 150) (a := 0) (ci := 10) (j := 3) (jl := 13) (c := 12) rfl (by decide) k_497 rfl (fun _ h => h) dX11_init_150 ?_
  refine X_iload_n (pc := 153) (i := 1) 0 dX11_init_153 rfl rfl ?_
  refine X_newC (pc := 154) (ci := 4) (by decide) k_235 k_353 k_79 (xSm 47) 46 rfl rfl dX11_init_154 ?_
  refine X_dup (pc := 157) dX11_init_157 rfl ?_
  refine X_invIN_v (pc := 158) c_Di_init_46 ok_Di_init rfl rfl k_354 k_355 nd_1 (by decide) rfl (Nat.le_of_ble_eq_true rfl) dX11_init_158 ?_
  refine X_aastCj (pc := 161) (t := 5) (ci := 4) (j := 3) (by decide) rfl rfl (vp_in_lit (N := 8) (by decide) (by decide)) (by decide) dX11_init_161 ?_
  refine X_aload_n (pc := 162) (i := 0) 1 dX11_init_162 rfl rfl ?_
  refine X_getr (pc := 163) (a := 0) (ci := 10) (j := 4) (jl := 14) (c := 13) rfl (by decide) k_498 rfl (fun _ h => h) dX11_init_163 ?_
  refine X_iload_n (pc := 166) (i := 1) 0 dX11_init_166 rfl rfl ?_
  refine X_newC (pc := 167) (ci := 1) (by decide) k_237 k_374 k_80 (xSm 48) 47 rfl rfl dX11_init_167 ?_
  refine X_dup (pc := 170) dX11_init_170 rfl ?_
  refine X_invIN_v (pc := 171) c_Ca_init_47 ok_Ca_init rfl rfl k_375 k_376 nd_1 (by decide) rfl (Nat.le_of_ble_eq_true rfl) dX11_init_171 ?_
  refine X_aastCj (pc := 174) (t := 6) (ci := 1) (j := 3) (by decide) rfl rfl (vp_in_lit (N := 8) (by decide) (by decide)) (by decide) dX11_init_174 ?_
  refine X_aload_n (pc := 175) (i := 0) 1 dX11_init_175 rfl rfl ?_
  refine X_getr (pc := 176) (a := 0) (ci := 10) (j := 5) (jl := 15) (c := 14) rfl (by decide) k_499 rfl (fun _ h => h) dX11_init_176 ?_
  refine X_iload_n (pc := 179) (i := 1) 0 dX11_init_179 rfl rfl ?_
  refine X_newC (pc := 180) (ci := 8) (by decide) k_239 k_418 k_81 (xSm 49) 48 rfl rfl dX11_init_180 ?_
  refine X_dup (pc := 183) dX11_init_183 rfl ?_
  refine X_invIN_v (pc := 184) c_St_init_48 ok_St_init rfl rfl k_419 k_420 nd_1 (by decide) rfl (Nat.le_of_ble_eq_true rfl) dX11_init_184 ?_
  refine X_aastCj (pc := 187) (t := 7) (ci := 8) (j := 3) (by decide) rfl rfl (vp_in_lit (N := 8) (by decide) (by decide)) (by decide) dX11_init_187 ?_
  refine X_iinc (pc := 188) (i := 1) (q := 0) (v := (4 : Int32)) [(1, .int (4 : Int32)), (0, .ref (xP (x0 G) 0))] dX11_init_188 rfl (by decide) (by decide) rfl ?_
  refine X_goto (pc := 191) 143 dX11_init_191 (by decide) ?_
  refine X_iload_n (pc := 143) (i := 1) 0 dX11_init_143 rfl rfl ?_
  refine X_bipush (pc := 144) (8 : Int32) dX11_init_144 (by decide) ?_
  refine X_icmp_ge_f (pc := 146) 194 dX11_init_146 (by decide) (by decide) ?_
  refine X_aload_n (pc := 149) (i := 0) 1 dX11_init_149 rfl rfl ?_
  refine X_getr (pc := 150) (a := 0) (ci := 10) (j := 3) (jl := 13) (c := 12) rfl (by decide) k_497 rfl (fun _ h => h) dX11_init_150 ?_
  refine X_iload_n (pc := 153) (i := 1) 0 dX11_init_153 rfl rfl ?_
  refine X_newC (pc := 154) (ci := 4) (by decide) k_235 k_353 k_79 (xSm 50) 49 rfl rfl dX11_init_154 ?_
  refine X_dup (pc := 157) dX11_init_157 rfl ?_
  refine X_invIN_v (pc := 158) c_Di_init_49 ok_Di_init rfl rfl k_354 k_355 nd_1 (by decide) rfl (Nat.le_of_ble_eq_true rfl) dX11_init_158 ?_
  refine X_aastCj (pc := 161) (t := 5) (ci := 4) (j := 4) (by decide) rfl rfl (vp_in_lit (N := 8) (by decide) (by decide)) (by decide) dX11_init_161 ?_
  refine X_aload_n (pc := 162) (i := 0) 1 dX11_init_162 rfl rfl ?_
  refine X_getr (pc := 163) (a := 0) (ci := 10) (j := 4) (jl := 14) (c := 13) rfl (by decide) k_498 rfl (fun _ h => h) dX11_init_163 ?_
  refine X_iload_n (pc := 166) (i := 1) 0 dX11_init_166 rfl rfl ?_
  refine X_newC (pc := 167) (ci := 1) (by decide) k_237 k_374 k_80 (xSm 51) 50 rfl rfl dX11_init_167 ?_
  refine X_dup (pc := 170) dX11_init_170 rfl ?_
  refine X_invIN_v (pc := 171) c_Ca_init_50 ok_Ca_init rfl rfl k_375 k_376 nd_1 (by decide) rfl (Nat.le_of_ble_eq_true rfl) dX11_init_171 ?_
  refine X_aastCj (pc := 174) (t := 6) (ci := 1) (j := 4) (by decide) rfl rfl (vp_in_lit (N := 8) (by decide) (by decide)) (by decide) dX11_init_174 ?_
  refine X_aload_n (pc := 175) (i := 0) 1 dX11_init_175 rfl rfl ?_
  refine X_getr (pc := 176) (a := 0) (ci := 10) (j := 5) (jl := 15) (c := 14) rfl (by decide) k_499 rfl (fun _ h => h) dX11_init_176 ?_
  refine X_iload_n (pc := 179) (i := 1) 0 dX11_init_179 rfl rfl ?_
  refine X_newC (pc := 180) (ci := 8) (by decide) k_239 k_418 k_81 (xSm 52) 51 rfl rfl dX11_init_180 ?_
  refine X_dup (pc := 183) dX11_init_183 rfl ?_
  refine X_invIN_v (pc := 184) c_St_init_51 ok_St_init rfl rfl k_419 k_420 nd_1 (by decide) rfl (Nat.le_of_ble_eq_true rfl) dX11_init_184 ?_
  refine X_aastCj (pc := 187) (t := 7) (ci := 8) (j := 4) (by decide) rfl rfl (vp_in_lit (N := 8) (by decide) (by decide)) (by decide) dX11_init_187 ?_
  refine X_iinc (pc := 188) (i := 1) (q := 0) (v := (5 : Int32)) [(1, .int (5 : Int32)), (0, .ref (xP (x0 G) 0))] dX11_init_188 rfl (by decide) (by decide) rfl ?_
  refine X_goto (pc := 191) 143 dX11_init_191 (by decide) ?_
  refine X_iload_n (pc := 143) (i := 1) 0 dX11_init_143 rfl rfl ?_
  refine X_bipush (pc := 144) (8 : Int32) dX11_init_144 (by decide) ?_
  refine X_icmp_ge_f (pc := 146) 194 dX11_init_146 (by decide) (by decide) ?_
  refine X_aload_n (pc := 149) (i := 0) 1 dX11_init_149 rfl rfl ?_
  refine X_getr (pc := 150) (a := 0) (ci := 10) (j := 3) (jl := 13) (c := 12) rfl (by decide) k_497 rfl (fun _ h => h) dX11_init_150 ?_
  refine X_iload_n (pc := 153) (i := 1) 0 dX11_init_153 rfl rfl ?_
  refine X_newC (pc := 154) (ci := 4) (by decide) k_235 k_353 k_79 (xSm 53) 52 rfl rfl dX11_init_154 ?_
  refine X_dup (pc := 157) dX11_init_157 rfl ?_
  refine X_invIN_v (pc := 158) c_Di_init_52 ok_Di_init rfl rfl k_354 k_355 nd_1 (by decide) rfl (Nat.le_of_ble_eq_true rfl) dX11_init_158 ?_
  refine X_aastCj (pc := 161) (t := 5) (ci := 4) (j := 5) (by decide) rfl rfl (vp_in_lit (N := 8) (by decide) (by decide)) (by decide) dX11_init_161 ?_
  refine X_aload_n (pc := 162) (i := 0) 1 dX11_init_162 rfl rfl ?_
  refine X_getr (pc := 163) (a := 0) (ci := 10) (j := 4) (jl := 14) (c := 13) rfl (by decide) k_498 rfl (fun _ h => h) dX11_init_163 ?_
  refine X_iload_n (pc := 166) (i := 1) 0 dX11_init_166 rfl rfl ?_
  refine X_newC (pc := 167) (ci := 1) (by decide) k_237 k_374 k_80 (xSm 54) 53 rfl rfl dX11_init_167 ?_
  refine X_dup (pc := 170) dX11_init_170 rfl ?_
  refine X_invIN_v (pc := 171) c_Ca_init_53 ok_Ca_init rfl rfl k_375 k_376 nd_1 (by decide) rfl (Nat.le_of_ble_eq_true rfl) dX11_init_171 ?_
  refine X_aastCj (pc := 174) (t := 6) (ci := 1) (j := 5) (by decide) rfl rfl (vp_in_lit (N := 8) (by decide) (by decide)) (by decide) dX11_init_174 ?_
  refine X_aload_n (pc := 175) (i := 0) 1 dX11_init_175 rfl rfl ?_
  refine X_getr (pc := 176) (a := 0) (ci := 10) (j := 5) (jl := 15) (c := 14) rfl (by decide) k_499 rfl (fun _ h => h) dX11_init_176 ?_
  refine X_iload_n (pc := 179) (i := 1) 0 dX11_init_179 rfl rfl ?_
  refine X_newC (pc := 180) (ci := 8) (by decide) k_239 k_418 k_81 (xSm 55) 54 rfl rfl dX11_init_180 ?_
  refine X_dup (pc := 183) dX11_init_183 rfl ?_
  refine X_invIN_v (pc := 184) c_St_init_54 ok_St_init rfl rfl k_419 k_420 nd_1 (by decide) rfl (Nat.le_of_ble_eq_true rfl) dX11_init_184 ?_
  refine X_aastCj (pc := 187) (t := 7) (ci := 8) (j := 5) (by decide) rfl rfl (vp_in_lit (N := 8) (by decide) (by decide)) (by decide) dX11_init_187 ?_
  refine X_iinc (pc := 188) (i := 1) (q := 0) (v := (6 : Int32)) [(1, .int (6 : Int32)), (0, .ref (xP (x0 G) 0))] dX11_init_188 rfl (by decide) (by decide) rfl ?_
  refine X_goto (pc := 191) 143 dX11_init_191 (by decide) ?_
  refine X_iload_n (pc := 143) (i := 1) 0 dX11_init_143 rfl rfl ?_
  refine X_bipush (pc := 144) (8 : Int32) dX11_init_144 (by decide) ?_
  refine X_icmp_ge_f (pc := 146) 194 dX11_init_146 (by decide) (by decide) ?_
  refine X_aload_n (pc := 149) (i := 0) 1 dX11_init_149 rfl rfl ?_
  refine X_getr (pc := 150) (a := 0) (ci := 10) (j := 3) (jl := 13) (c := 12) rfl (by decide) k_497 rfl (fun _ h => h) dX11_init_150 ?_
  refine X_iload_n (pc := 153) (i := 1) 0 dX11_init_153 rfl rfl ?_
  refine X_newC (pc := 154) (ci := 4) (by decide) k_235 k_353 k_79 (xSm 56) 55 rfl rfl dX11_init_154 ?_
  refine X_dup (pc := 157) dX11_init_157 rfl ?_
  refine X_invIN_v (pc := 158) c_Di_init_55 ok_Di_init rfl rfl k_354 k_355 nd_1 (by decide) rfl (Nat.le_of_ble_eq_true rfl) dX11_init_158 ?_
  refine X_aastCj (pc := 161) (t := 5) (ci := 4) (j := 6) (by decide) rfl rfl (vp_in_lit (N := 8) (by decide) (by decide)) (by decide) dX11_init_161 ?_
  refine X_aload_n (pc := 162) (i := 0) 1 dX11_init_162 rfl rfl ?_
  refine X_getr (pc := 163) (a := 0) (ci := 10) (j := 4) (jl := 14) (c := 13) rfl (by decide) k_498 rfl (fun _ h => h) dX11_init_163 ?_
  refine X_iload_n (pc := 166) (i := 1) 0 dX11_init_166 rfl rfl ?_
  refine X_newC (pc := 167) (ci := 1) (by decide) k_237 k_374 k_80 (xSm 57) 56 rfl rfl dX11_init_167 ?_
  refine X_dup (pc := 170) dX11_init_170 rfl ?_
  refine X_invIN_v (pc := 171) c_Ca_init_56 ok_Ca_init rfl rfl k_375 k_376 nd_1 (by decide) rfl (Nat.le_of_ble_eq_true rfl) dX11_init_171 ?_
  refine X_aastCj (pc := 174) (t := 6) (ci := 1) (j := 6) (by decide) rfl rfl (vp_in_lit (N := 8) (by decide) (by decide)) (by decide) dX11_init_174 ?_
  refine X_aload_n (pc := 175) (i := 0) 1 dX11_init_175 rfl rfl ?_
  refine X_getr (pc := 176) (a := 0) (ci := 10) (j := 5) (jl := 15) (c := 14) rfl (by decide) k_499 rfl (fun _ h => h) dX11_init_176 ?_
  refine X_iload_n (pc := 179) (i := 1) 0 dX11_init_179 rfl rfl ?_
  refine X_newC (pc := 180) (ci := 8) (by decide) k_239 k_418 k_81 (xSm 58) 57 rfl rfl dX11_init_180 ?_
  refine X_dup (pc := 183) dX11_init_183 rfl ?_
  refine X_invIN_v (pc := 184) c_St_init_57 ok_St_init rfl rfl k_419 k_420 nd_1 (by decide) rfl (Nat.le_of_ble_eq_true rfl) dX11_init_184 ?_
  refine X_aastCj (pc := 187) (t := 7) (ci := 8) (j := 6) (by decide) rfl rfl (vp_in_lit (N := 8) (by decide) (by decide)) (by decide) dX11_init_187 ?_
  refine X_iinc (pc := 188) (i := 1) (q := 0) (v := (7 : Int32)) [(1, .int (7 : Int32)), (0, .ref (xP (x0 G) 0))] dX11_init_188 rfl (by decide) (by decide) rfl ?_
  refine X_goto (pc := 191) 143 dX11_init_191 (by decide) ?_
  refine X_iload_n (pc := 143) (i := 1) 0 dX11_init_143 rfl rfl ?_
  refine X_bipush (pc := 144) (8 : Int32) dX11_init_144 (by decide) ?_
  refine X_icmp_ge_f (pc := 146) 194 dX11_init_146 (by decide) (by decide) ?_
  refine X_aload_n (pc := 149) (i := 0) 1 dX11_init_149 rfl rfl ?_
  refine X_getr (pc := 150) (a := 0) (ci := 10) (j := 3) (jl := 13) (c := 12) rfl (by decide) k_497 rfl (fun _ h => h) dX11_init_150 ?_
  refine X_iload_n (pc := 153) (i := 1) 0 dX11_init_153 rfl rfl ?_
  refine X_newC (pc := 154) (ci := 4) (by decide) k_235 k_353 k_79 (xSm 59) 58 rfl rfl dX11_init_154 ?_
  refine X_dup (pc := 157) dX11_init_157 rfl ?_
  refine X_invIN_v (pc := 158) c_Di_init_58 ok_Di_init rfl rfl k_354 k_355 nd_1 (by decide) rfl (Nat.le_of_ble_eq_true rfl) dX11_init_158 ?_
  refine X_aastCj (pc := 161) (t := 5) (ci := 4) (j := 7) (by decide) rfl rfl (vp_in_lit (N := 8) (by decide) (by decide)) (by decide) dX11_init_161 ?_
  refine X_aload_n (pc := 162) (i := 0) 1 dX11_init_162 rfl rfl ?_
  refine X_getr (pc := 163) (a := 0) (ci := 10) (j := 4) (jl := 14) (c := 13) rfl (by decide) k_498 rfl (fun _ h => h) dX11_init_163 ?_
  refine X_iload_n (pc := 166) (i := 1) 0 dX11_init_166 rfl rfl ?_
  refine X_newC (pc := 167) (ci := 1) (by decide) k_237 k_374 k_80 (xSm 60) 59 rfl rfl dX11_init_167 ?_
  refine X_dup (pc := 170) dX11_init_170 rfl ?_
  refine X_invIN_v (pc := 171) c_Ca_init_59 ok_Ca_init rfl rfl k_375 k_376 nd_1 (by decide) rfl (Nat.le_of_ble_eq_true rfl) dX11_init_171 ?_
  refine X_aastCj (pc := 174) (t := 6) (ci := 1) (j := 7) (by decide) rfl rfl (vp_in_lit (N := 8) (by decide) (by decide)) (by decide) dX11_init_174 ?_
  refine X_aload_n (pc := 175) (i := 0) 1 dX11_init_175 rfl rfl ?_
  refine X_getr (pc := 176) (a := 0) (ci := 10) (j := 5) (jl := 15) (c := 14) rfl (by decide) k_499 rfl (fun _ h => h) dX11_init_176 ?_
  refine X_iload_n (pc := 179) (i := 1) 0 dX11_init_179 rfl rfl ?_
  refine X_newC (pc := 180) (ci := 8) (by decide) k_239 k_418 k_81 (xSm 61) 60 rfl rfl dX11_init_180 ?_
  refine X_dup (pc := 183) dX11_init_183 rfl ?_
  refine X_invIN_v (pc := 184) c_St_init_60 ok_St_init rfl rfl k_419 k_420 nd_1 (by decide) rfl (Nat.le_of_ble_eq_true rfl) dX11_init_184 ?_
  refine X_aastCj (pc := 187) (t := 7) (ci := 8) (j := 7) (by decide) rfl rfl (vp_in_lit (N := 8) (by decide) (by decide)) (by decide) dX11_init_187 ?_
  refine X_iinc (pc := 188) (i := 1) (q := 0) (v := (8 : Int32)) [(1, .int (8 : Int32)), (0, .ref (xP (x0 G) 0))] dX11_init_188 rfl (by decide) (by decide) rfl ?_
  refine X_goto (pc := 191) 143 dX11_init_191 (by decide) ?_
  refine X_iload_n (pc := 143) (i := 1) 0 dX11_init_143 rfl rfl ?_
  refine X_bipush (pc := 144) (8 : Int32) dX11_init_144 (by decide) ?_
  refine X_icmp_ge_t (pc := 146) 194 dX11_init_146 (by decide) (by decide) ?_
  refine X_iconst (pc := 194) (0 : Int32) dX11_init_194 (by decide) ?_
  refine X_istore_n (pc := 195) (i := 1) [(1, .int (0 : Int32)), (0, .ref (xP (x0 G) 0))] dX11_init_195 rfl (by decide) rfl ?_
  refine X_iload_n (pc := 196) (i := 1) 0 dX11_init_196 rfl rfl ?_
  refine X_iconst (pc := 197) (4 : Int32) dX11_init_197 (by decide) ?_
  refine X_icmp_ge_f (pc := 198) 220 dX11_init_198 (by decide) (by decide) ?_
  refine X_aload_n (pc := 201) (i := 0) 1 dX11_init_201 rfl rfl ?_
  refine X_getr (pc := 202) (a := 0) (ci := 10) (j := 6) (jl := 3) (c := 15) rfl (by decide) k_500 rfl (fun _ h => h) dX11_init_202 ?_
  refine X_iload_n (pc := 205) (i := 1) 0 dX11_init_205 rfl rfl ?_
  refine X_newC (pc := 206) (ci := 3) (by decide) k_241 k_438 k_82 (xSm 62) 61 rfl rfl dX11_init_206 ?_
  refine X_dup (pc := 209) dX11_init_209 rfl ?_
  refine X_invIN_v (pc := 210) c_Cr_init_61 ok_Cr_init rfl rfl k_439 k_440 nd_1 (by decide) rfl (Nat.le_of_ble_eq_true rfl) dX11_init_210 ?_
  refine X_aastCj (pc := 213) (t := 4) (ci := 3) (j := 0) (by decide) rfl rfl (vp_in_lit (N := 4) (by decide) (by decide)) (by decide) dX11_init_213 ?_
  refine X_iinc (pc := 214) (i := 1) (q := 0) (v := (1 : Int32)) [(1, .int (1 : Int32)), (0, .ref (xP (x0 G) 0))] dX11_init_214 rfl (by decide) (by decide) rfl ?_
  refine X_goto (pc := 217) 196 dX11_init_217 (by decide) ?_
  refine X_iload_n (pc := 196) (i := 1) 0 dX11_init_196 rfl rfl ?_
  refine X_iconst (pc := 197) (4 : Int32) dX11_init_197 (by decide) ?_
  refine X_icmp_ge_f (pc := 198) 220 dX11_init_198 (by decide) (by decide) ?_
  refine X_aload_n (pc := 201) (i := 0) 1 dX11_init_201 rfl rfl ?_
  refine X_getr (pc := 202) (a := 0) (ci := 10) (j := 6) (jl := 3) (c := 15) rfl (by decide) k_500 rfl (fun _ h => h) dX11_init_202 ?_
  refine X_iload_n (pc := 205) (i := 1) 0 dX11_init_205 rfl rfl ?_
  refine X_newC (pc := 206) (ci := 3) (by decide) k_241 k_438 k_82 (xSm 63) 62 rfl rfl dX11_init_206 ?_
  refine X_dup (pc := 209) dX11_init_209 rfl ?_
  refine X_invIN_v (pc := 210) c_Cr_init_62 ok_Cr_init rfl rfl k_439 k_440 nd_1 (by decide) rfl (Nat.le_of_ble_eq_true rfl) dX11_init_210 ?_
  refine X_aastCj (pc := 213) (t := 4) (ci := 3) (j := 1) (by decide) rfl rfl (vp_in_lit (N := 4) (by decide) (by decide)) (by decide) dX11_init_213 ?_
  refine X_iinc (pc := 214) (i := 1) (q := 0) (v := (2 : Int32)) [(1, .int (2 : Int32)), (0, .ref (xP (x0 G) 0))] dX11_init_214 rfl (by decide) (by decide) rfl ?_
  refine X_goto (pc := 217) 196 dX11_init_217 (by decide) ?_
  refine X_iload_n (pc := 196) (i := 1) 0 dX11_init_196 rfl rfl ?_
  refine X_iconst (pc := 197) (4 : Int32) dX11_init_197 (by decide) ?_
  refine X_icmp_ge_f (pc := 198) 220 dX11_init_198 (by decide) (by decide) ?_
  refine X_aload_n (pc := 201) (i := 0) 1 dX11_init_201 rfl rfl ?_
  refine X_getr (pc := 202) (a := 0) (ci := 10) (j := 6) (jl := 3) (c := 15) rfl (by decide) k_500 rfl (fun _ h => h) dX11_init_202 ?_
  refine X_iload_n (pc := 205) (i := 1) 0 dX11_init_205 rfl rfl ?_
  refine X_newC (pc := 206) (ci := 3) (by decide) k_241 k_438 k_82 (xSm 64) 63 rfl rfl dX11_init_206 ?_
  refine X_dup (pc := 209) dX11_init_209 rfl ?_
  refine X_invIN_v (pc := 210) c_Cr_init_63 ok_Cr_init rfl rfl k_439 k_440 nd_1 (by decide) rfl (Nat.le_of_ble_eq_true rfl) dX11_init_210 ?_
  refine X_aastCj (pc := 213) (t := 4) (ci := 3) (j := 2) (by decide) rfl rfl (vp_in_lit (N := 4) (by decide) (by decide)) (by decide) dX11_init_213 ?_
  refine X_iinc (pc := 214) (i := 1) (q := 0) (v := (3 : Int32)) [(1, .int (3 : Int32)), (0, .ref (xP (x0 G) 0))] dX11_init_214 rfl (by decide) (by decide) rfl ?_
  refine X_goto (pc := 217) 196 dX11_init_217 (by decide) ?_
  refine X_iload_n (pc := 196) (i := 1) 0 dX11_init_196 rfl rfl ?_
  refine X_iconst (pc := 197) (4 : Int32) dX11_init_197 (by decide) ?_
  refine X_icmp_ge_f (pc := 198) 220 dX11_init_198 (by decide) (by decide) ?_
  refine X_aload_n (pc := 201) (i := 0) 1 dX11_init_201 rfl rfl ?_
  refine X_getr (pc := 202) (a := 0) (ci := 10) (j := 6) (jl := 3) (c := 15) rfl (by decide) k_500 rfl (fun _ h => h) dX11_init_202 ?_
  refine X_iload_n (pc := 205) (i := 1) 0 dX11_init_205 rfl rfl ?_
  refine X_newC (pc := 206) (ci := 3) (by decide) k_241 k_438 k_82 (xSm 65) 64 rfl rfl dX11_init_206 ?_
  refine X_dup (pc := 209) dX11_init_209 rfl ?_
  refine X_invIN_v (pc := 210) c_Cr_init_64 ok_Cr_init rfl rfl k_439 k_440 nd_1 (by decide) rfl (Nat.le_of_ble_eq_true rfl) dX11_init_210 ?_
  refine X_aastCj (pc := 213) (t := 4) (ci := 3) (j := 3) (by decide) rfl rfl (vp_in_lit (N := 4) (by decide) (by decide)) (by decide) dX11_init_213 ?_
  refine X_iinc (pc := 214) (i := 1) (q := 0) (v := (4 : Int32)) [(1, .int (4 : Int32)), (0, .ref (xP (x0 G) 0))] dX11_init_214 rfl (by decide) (by decide) rfl ?_
  refine X_goto (pc := 217) 196 dX11_init_217 (by decide) ?_
  refine X_iload_n (pc := 196) (i := 1) 0 dX11_init_196 rfl rfl ?_
  refine X_iconst (pc := 197) (4 : Int32) dX11_init_197 (by decide) ?_
  refine X_icmp_ge_t (pc := 198) 220 dX11_init_198 (by decide) (by decide) ?_
  refine X_aload_n (pc := 220) (i := 0) 1 dX11_init_220 rfl rfl ?_
  have hv : CT (x0 G) 4 m_H_clearMovement [.ref (xP (x0 G) 0)] (xSm 65, iI_H_init_0 I, iL_H_init_0 L, iR_H_init_0 Rf) (none, (xSm 65, bI q.1, bL q.2, iR_H_init_0 Rf)) := CT.view (c_H_clearMovement (G := x1 G 65) (S := xSc) (Rf := oR (iR_H_init_0 Rf)) (T_H_init_0 Rf) hq) vw_ic vw_bc rfl rfl
  refine X_invV_v (pc := 221) hv ok_H_clearMovement (ci := 10) rfl k_463 k_465 k_0 nd_1 (by decide) rfl (Nat.le_of_ble_eq_true rfl) dX11_init_221 ?_
  exact X_return (pc := 224) rfl dX11_init_224
theorem dX12_init_0 : decode cX12_init 0 = .ok (.aload_n 0, 1) := by decide +kernel
theorem dX12_init_1 : decode cX12_init 1 = .ok (.invokespecial 1, 3) := by decide +kernel
theorem dX12_init_4 : decode cX12_init 4 = .ok (.aload_n 0, 1) := by decide +kernel
theorem dX12_init_5 : decode cX12_init 5 = .ok (.bipush 40, 2) := by decide +kernel
theorem dX12_init_7 : decode cX12_init 7 = .ok (.newarray .int, 2) := by decide +kernel
theorem dX12_init_9 : decode cX12_init 9 = .ok (.putfield 9, 3) := by decide +kernel
theorem dX12_init_12 : decode cX12_init 12 = .ok (.aload_n 0, 1) := by decide +kernel
theorem dX12_init_13 : decode cX12_init 13 = .ok (.bipush 40, 2) := by decide +kernel
theorem dX12_init_15 : decode cX12_init 15 = .ok (.newarray .int, 2) := by decide +kernel
theorem dX12_init_17 : decode cX12_init 17 = .ok (.putfield 13, 3) := by decide +kernel
theorem dX12_init_20 : decode cX12_init 20 = .ok (.aload_n 0, 1) := by decide +kernel
theorem dX12_init_21 : decode cX12_init 21 = .ok (.bipush 40, 2) := by decide +kernel
theorem dX12_init_23 : decode cX12_init 23 = .ok (.newarray .int, 2) := by decide +kernel
theorem dX12_init_25 : decode cX12_init 25 = .ok (.putfield 16, 3) := by decide +kernel
theorem dX12_init_28 : decode cX12_init 28 = .ok (.aload_n 0, 1) := by decide +kernel
theorem dX12_init_29 : decode cX12_init 29 = .ok (.bipush 40, 2) := by decide +kernel
theorem dX12_init_31 : decode cX12_init 31 = .ok (.newarray .int, 2) := by decide +kernel
theorem dX12_init_33 : decode cX12_init 33 = .ok (.putfield 19, 3) := by decide +kernel
theorem dX12_init_36 : decode cX12_init 36 = .ok (.aload_n 0, 1) := by decide +kernel
theorem dX12_init_37 : decode cX12_init 37 = .ok (.bipush 40, 2) := by decide +kernel
theorem dX12_init_39 : decode cX12_init 39 = .ok (.newarray .int, 2) := by decide +kernel
theorem dX12_init_41 : decode cX12_init 41 = .ok (.putfield 22, 3) := by decide +kernel
theorem dX12_init_44 : decode cX12_init 44 = .ok (.aload_n 0, 1) := by decide +kernel
theorem dX12_init_45 : decode cX12_init 45 = .ok (.bipush 40, 2) := by decide +kernel
theorem dX12_init_47 : decode cX12_init 47 = .ok (.newarray .int, 2) := by decide +kernel
theorem dX12_init_49 : decode cX12_init 49 = .ok (.putfield 25, 3) := by decide +kernel
theorem dX12_init_52 : decode cX12_init 52 = .ok (.aload_n 0, 1) := by decide +kernel
theorem dX12_init_53 : decode cX12_init 53 = .ok (.bipush 9, 2) := by decide +kernel
theorem dX12_init_55 : decode cX12_init 55 = .ok (.newarray .int, 2) := by decide +kernel
theorem dX12_init_57 : decode cX12_init 57 = .ok (.putfield 28, 3) := by decide +kernel
theorem dX12_init_60 : decode cX12_init 60 = .ok (.aload_n 0, 1) := by decide +kernel
theorem dX12_init_61 : decode cX12_init 61 = .ok (.bipush 8, 2) := by decide +kernel
theorem dX12_init_63 : decode cX12_init 63 = .ok (.newarray .int, 2) := by decide +kernel
theorem dX12_init_65 : decode cX12_init 65 = .ok (.putfield 31, 3) := by decide +kernel
theorem dX12_init_68 : decode cX12_init 68 = .ok (.aload_n 0, 1) := by decide +kernel
theorem dX12_init_69 : decode cX12_init 69 = .ok (.bipush 8, 2) := by decide +kernel
theorem dX12_init_71 : decode cX12_init 71 = .ok (.newarray .int, 2) := by decide +kernel
theorem dX12_init_73 : decode cX12_init 73 = .ok (.putfield 34, 3) := by decide +kernel
theorem dX12_init_76 : decode cX12_init 76 = .ok (.aload_n 0, 1) := by decide +kernel
theorem dX12_init_77 : decode cX12_init 77 = .ok (.bipush 8, 2) := by decide +kernel
theorem dX12_init_79 : decode cX12_init 79 = .ok (.newarray .int, 2) := by decide +kernel
theorem dX12_init_81 : decode cX12_init 81 = .ok (.putfield 37, 3) := by decide +kernel
theorem dX12_init_84 : decode cX12_init 84 = .ok (.aload_n 0, 1) := by decide +kernel
theorem dX12_init_85 : decode cX12_init 85 = .ok (.bipush 8, 2) := by decide +kernel
theorem dX12_init_87 : decode cX12_init 87 = .ok (.newarray .int, 2) := by decide +kernel
theorem dX12_init_89 : decode cX12_init 89 = .ok (.putfield 40, 3) := by decide +kernel
theorem dX12_init_92 : decode cX12_init 92 = .ok (.aload_n 0, 1) := by decide +kernel
theorem dX12_init_93 : decode cX12_init 93 = .ok (.bipush 8, 2) := by decide +kernel
theorem dX12_init_95 : decode cX12_init 95 = .ok (.newarray .int, 2) := by decide +kernel
theorem dX12_init_97 : decode cX12_init 97 = .ok (.putfield 43, 3) := by decide +kernel
theorem dX12_init_100 : decode cX12_init 100 = .ok (.aload_n 0, 1) := by decide +kernel
theorem dX12_init_101 : decode cX12_init 101 = .ok (.iconst 4, 1) := by decide +kernel
theorem dX12_init_102 : decode cX12_init 102 = .ok (.newarray .int, 2) := by decide +kernel
theorem dX12_init_104 : decode cX12_init 104 = .ok (.putfield 46, 3) := by decide +kernel
theorem dX12_init_107 : decode cX12_init 107 = .ok (.aload_n 0, 1) := by decide +kernel
theorem dX12_init_108 : decode cX12_init 108 = .ok (.bipush 80, 2) := by decide +kernel
theorem dX12_init_110 : decode cX12_init 110 = .ok (.newarray .int, 2) := by decide +kernel
theorem dX12_init_112 : decode cX12_init 112 = .ok (.putfield 49, 3) := by decide +kernel
theorem dX12_init_115 : decode cX12_init 115 = .ok (.aload_n 0, 1) := by decide +kernel
theorem dX12_init_116 : decode cX12_init 116 = .ok (.iconst 4, 1) := by decide +kernel
theorem dX12_init_117 : decode cX12_init 117 = .ok (.newarray .int, 2) := by decide +kernel
theorem dX12_init_119 : decode cX12_init 119 = .ok (.putfield 52, 3) := by decide +kernel
theorem dX12_init_122 : decode cX12_init 122 = .ok (.aload_n 0, 1) := by decide +kernel
theorem dX12_init_123 : decode cX12_init 123 = .ok (.iconst 4, 1) := by decide +kernel
theorem dX12_init_124 : decode cX12_init 124 = .ok (.newarray .int, 2) := by decide +kernel
theorem dX12_init_126 : decode cX12_init 126 = .ok (.putfield 55, 3) := by decide +kernel
theorem dX12_init_129 : decode cX12_init 129 = .ok (.aload_n 0, 1) := by decide +kernel
theorem dX12_init_130 : decode cX12_init 130 = .ok (.iconst 4, 1) := by decide +kernel
theorem dX12_init_131 : decode cX12_init 131 = .ok (.newarray .int, 2) := by decide +kernel
theorem dX12_init_133 : decode cX12_init 133 = .ok (.putfield 58, 3) := by decide +kernel
theorem dX12_init_136 : decode cX12_init 136 = .ok (.aload_n 0, 1) := by decide +kernel
theorem dX12_init_137 : decode cX12_init 137 = .ok (.iconst 4, 1) := by decide +kernel
theorem dX12_init_138 : decode cX12_init 138 = .ok (.newarray .boolean, 2) := by decide +kernel
theorem dX12_init_140 : decode cX12_init 140 = .ok (.putfield 61, 3) := by decide +kernel
theorem dX12_init_143 : decode cX12_init 143 = .ok (.aload_n 0, 1) := by decide +kernel
theorem dX12_init_144 : decode cX12_init 144 = .ok (.sipush 6000, 3) := by decide +kernel
theorem dX12_init_147 : decode cX12_init 147 = .ok (.newarray .int, 2) := by decide +kernel
theorem dX12_init_149 : decode cX12_init 149 = .ok (.putfield 65, 3) := by decide +kernel
theorem dX12_init_152 : decode cX12_init 152 = .ok (.aload_n 0, 1) := by decide +kernel
theorem dX12_init_153 : decode cX12_init 153 = .ok (.sipush 3000, 3) := by decide +kernel
theorem dX12_init_156 : decode cX12_init 156 = .ok (.newarray .int, 2) := by decide +kernel
theorem dX12_init_158 : decode cX12_init 158 = .ok (.putfield 68, 3) := by decide +kernel
theorem dX12_init_161 : decode cX12_init 161 = .ok (.aload_n 0, 1) := by decide +kernel
theorem dX12_init_162 : decode cX12_init 162 = .ok (.sipush 8000, 3) := by decide +kernel
theorem dX12_init_165 : decode cX12_init 165 = .ok (.newarray .int, 2) := by decide +kernel
theorem dX12_init_167 : decode cX12_init 167 = .ok (.putfield 71, 3) := by decide +kernel
theorem dX12_init_170 : decode cX12_init 170 = .ok (.aload_n 0, 1) := by decide +kernel
theorem dX12_init_171 : decode cX12_init 171 = .ok (.iconst 5, 1) := by decide +kernel
theorem dX12_init_172 : decode cX12_init 172 = .ok (.newarray .int, 2) := by decide +kernel
theorem dX12_init_174 : decode cX12_init 174 = .ok (.putfield 74, 3) := by decide +kernel
theorem dX12_init_177 : decode cX12_init 177 = .ok (.aload_n 0, 1) := by decide +kernel
theorem dX12_init_178 : decode cX12_init 178 = .ok (.bipush 24, 2) := by decide +kernel
theorem dX12_init_180 : decode cX12_init 180 = .ok (.newarray .boolean, 2) := by decide +kernel
theorem dX12_init_182 : decode cX12_init 182 = .ok (.putfield 77, 3) := by decide +kernel
theorem dX12_init_185 : decode cX12_init 185 = .ok (.aload_n 0, 1) := by decide +kernel
theorem dX12_init_186 : decode cX12_init 186 = .ok (.bipush 24, 2) := by decide +kernel
theorem dX12_init_188 : decode cX12_init 188 = .ok (.newarray .long, 2) := by decide +kernel
theorem dX12_init_190 : decode cX12_init 190 = .ok (.putfield 80, 3) := by decide +kernel
theorem dX12_init_193 : decode cX12_init 193 = .ok (.aload_n 0, 1) := by decide +kernel
theorem dX12_init_194 : decode cX12_init 194 = .ok (.bipush 24, 2) := by decide +kernel
theorem dX12_init_196 : decode cX12_init 196 = .ok (.newarray .long, 2) := by decide +kernel
theorem dX12_init_198 : decode cX12_init 198 = .ok (.putfield 84, 3) := by decide +kernel
theorem dX12_init_201 : decode cX12_init 201 = .ok (.aload_n 0, 1) := by decide +kernel
theorem dX12_init_202 : decode cX12_init 202 = .ok (.iconst 4, 1) := by decide +kernel
theorem dX12_init_203 : decode cX12_init 203 = .ok (.newarray .int, 2) := by decide +kernel
theorem dX12_init_205 : decode cX12_init 205 = .ok (.putfield 87, 3) := by decide +kernel
theorem dX12_init_208 : decode cX12_init 208 = .ok (.aload_n 0, 1) := by decide +kernel
theorem dX12_init_209 : decode cX12_init 209 = .ok (.bipush 6, 2) := by decide +kernel
theorem dX12_init_211 : decode cX12_init 211 = .ok (.newarray .int, 2) := by decide +kernel
theorem dX12_init_213 : decode cX12_init 213 = .ok (.putfield 90, 3) := by decide +kernel
theorem dX12_init_216 : decode cX12_init 216 = .ok (.aload_n 0, 1) := by decide +kernel
theorem dX12_init_217 : decode cX12_init 217 = .ok (.bipush 6, 2) := by decide +kernel
theorem dX12_init_219 : decode cX12_init 219 = .ok (.newarray .int, 2) := by decide +kernel
theorem dX12_init_221 : decode cX12_init 221 = .ok (.putfield 93, 3) := by decide +kernel
theorem dX12_init_224 : decode cX12_init 224 = .ok (.aload_n 0, 1) := by decide +kernel
theorem dX12_init_225 : decode cX12_init 225 = .ok (.bipush 6, 2) := by decide +kernel
theorem dX12_init_227 : decode cX12_init 227 = .ok (.newarray .int, 2) := by decide +kernel
theorem dX12_init_229 : decode cX12_init 229 = .ok (.putfield 96, 3) := by decide +kernel
theorem dX12_init_232 : decode cX12_init 232 = .ok (.aload_n 0, 1) := by decide +kernel
theorem dX12_init_233 : decode cX12_init 233 = .ok (.bipush 8, 2) := by decide +kernel
theorem dX12_init_235 : decode cX12_init 235 = .ok (.newarray .int, 2) := by decide +kernel
theorem dX12_init_237 : decode cX12_init 237 = .ok (.putfield 99, 3) := by decide +kernel
theorem dX12_init_240 : decode cX12_init 240 = .ok (.aload_n 0, 1) := by decide +kernel
theorem dX12_init_241 : decode cX12_init 241 = .ok (.bipush 8, 2) := by decide +kernel
theorem dX12_init_243 : decode cX12_init 243 = .ok (.newarray .int, 2) := by decide +kernel
theorem dX12_init_245 : decode cX12_init 245 = .ok (.putfield 102, 3) := by decide +kernel
theorem dX12_init_248 : decode cX12_init 248 = .ok (.aload_n 0, 1) := by decide +kernel
theorem dX12_init_249 : decode cX12_init 249 = .ok (.bipush 8, 2) := by decide +kernel
theorem dX12_init_251 : decode cX12_init 251 = .ok (.newarray .int, 2) := by decide +kernel
theorem dX12_init_253 : decode cX12_init 253 = .ok (.putfield 105, 3) := by decide +kernel
theorem dX12_init_256 : decode cX12_init 256 = .ok (.aload_n 0, 1) := by decide +kernel
theorem dX12_init_257 : decode cX12_init 257 = .ok (.bipush 8, 2) := by decide +kernel
theorem dX12_init_259 : decode cX12_init 259 = .ok (.newarray .int, 2) := by decide +kernel
theorem dX12_init_261 : decode cX12_init 261 = .ok (.putfield 108, 3) := by decide +kernel
theorem dX12_init_264 : decode cX12_init 264 = .ok (.aload_n 0, 1) := by decide +kernel
theorem dX12_init_265 : decode cX12_init 265 = .ok (.sipush 800, 3) := by decide +kernel
theorem dX12_init_268 : decode cX12_init 268 = .ok (.newarray .long, 2) := by decide +kernel
theorem dX12_init_270 : decode cX12_init 270 = .ok (.putfield 111, 3) := by decide +kernel
theorem dX12_init_273 : decode cX12_init 273 = .ok (.aload_n 0, 1) := by decide +kernel
theorem dX12_init_274 : decode cX12_init 274 = .ok (.sipush 800, 3) := by decide +kernel
theorem dX12_init_277 : decode cX12_init 277 = .ok (.newarray .long, 2) := by decide +kernel
theorem dX12_init_279 : decode cX12_init 279 = .ok (.putfield 114, 3) := by decide +kernel
theorem dX12_init_282 : decode cX12_init 282 = .ok (.aload_n 0, 1) := by decide +kernel
theorem dX12_init_283 : decode cX12_init 283 = .ok (.bipush 15, 2) := by decide +kernel
theorem dX12_init_285 : decode cX12_init 285 = .ok (.newarray .int, 2) := by decide +kernel
theorem dX12_init_287 : decode cX12_init 287 = .ok (.putfield 117, 3) := by decide +kernel
theorem dX12_init_290 : decode cX12_init 290 = .ok (.aload_n 0, 1) := by decide +kernel
theorem dX12_init_291 : decode cX12_init 291 = .ok (.sipush 16032, 3) := by decide +kernel
theorem dX12_init_294 : decode cX12_init 294 = .ok (.newarray .int, 2) := by decide +kernel
theorem dX12_init_296 : decode cX12_init 296 = .ok (.putfield 120, 3) := by decide +kernel
theorem dX12_init_299 : decode cX12_init 299 = .ok (.aload_n 0, 1) := by decide +kernel
theorem dX12_init_300 : decode cX12_init 300 = .ok (.sipush 128, 3) := by decide +kernel
theorem dX12_init_303 : decode cX12_init 303 = .ok (.newarray .int, 2) := by decide +kernel
theorem dX12_init_305 : decode cX12_init 305 = .ok (.putfield 123, 3) := by decide +kernel
theorem dX12_init_308 : decode cX12_init 308 = .ok (.aload_n 0, 1) := by decide +kernel
theorem dX12_init_309 : decode cX12_init 309 = .ok (.iconst 4, 1) := by decide +kernel
theorem dX12_init_310 : decode cX12_init 310 = .ok (.newarray .int, 2) := by decide +kernel
theorem dX12_init_312 : decode cX12_init 312 = .ok (.putfield 126, 3) := by decide +kernel
theorem dX12_init_315 : decode cX12_init 315 = .ok (.aload_n 0, 1) := by decide +kernel
theorem dX12_init_316 : decode cX12_init 316 = .ok (.sipush 128, 3) := by decide +kernel
theorem dX12_init_319 : decode cX12_init 319 = .ok (.newarray .boolean, 2) := by decide +kernel
theorem dX12_init_321 : decode cX12_init 321 = .ok (.putfield 129, 3) := by decide +kernel
theorem dX12_init_324 : decode cX12_init 324 = .ok (.aload_n 0, 1) := by decide +kernel
theorem dX12_init_325 : decode cX12_init 325 = .ok (.getfield 87, 3) := by decide +kernel
theorem dX12_init_328 : decode cX12_init 328 = .ok (.iconst 0, 1) := by decide +kernel
theorem dX12_init_329 : decode cX12_init 329 = .ok (.bipush 20, 2) := by decide +kernel
theorem dX12_init_331 : decode cX12_init 331 = .ok (.iastore, 1) := by decide +kernel
theorem dX12_init_332 : decode cX12_init 332 = .ok (.aload_n 0, 1) := by decide +kernel
theorem dX12_init_333 : decode cX12_init 333 = .ok (.getfield 87, 3) := by decide +kernel
theorem dX12_init_336 : decode cX12_init 336 = .ok (.iconst 1, 1) := by decide +kernel
theorem dX12_init_337 : decode cX12_init 337 = .ok (.bipush 40, 2) := by decide +kernel
theorem dX12_init_339 : decode cX12_init 339 = .ok (.iastore, 1) := by decide +kernel
theorem dX12_init_340 : decode cX12_init 340 = .ok (.aload_n 0, 1) := by decide +kernel
theorem dX12_init_341 : decode cX12_init 341 = .ok (.getfield 87, 3) := by decide +kernel
theorem dX12_init_344 : decode cX12_init 344 = .ok (.iconst 2, 1) := by decide +kernel
theorem dX12_init_345 : decode cX12_init 345 = .ok (.bipush 6, 2) := by decide +kernel
theorem dX12_init_347 : decode cX12_init 347 = .ok (.iastore, 1) := by decide +kernel
theorem dX12_init_348 : decode cX12_init 348 = .ok (.aload_n 0, 1) := by decide +kernel
theorem dX12_init_349 : decode cX12_init 349 = .ok (.getfield 87, 3) := by decide +kernel
theorem dX12_init_352 : decode cX12_init 352 = .ok (.iconst 3, 1) := by decide +kernel
theorem dX12_init_353 : decode cX12_init 353 = .ok (.bipush 12, 2) := by decide +kernel
theorem dX12_init_355 : decode cX12_init 355 = .ok (.iastore, 1) := by decide +kernel
theorem dX12_init_356 : decode cX12_init 356 = .ok (.aload_n 0, 1) := by decide +kernel
theorem dX12_init_357 : decode cX12_init 357 = .ok (.invokevirtual 132, 3) := by decide +kernel
theorem dX12_init_360 : decode cX12_init 360 = .ok (.pop, 1) := by decide +kernel
theorem dX12_init_361 : decode cX12_init 361 = .ok (.return_, 1) := by decide +kernel
def iI_Md_init_65 (I : Nat → Nat → Int32) : Nat → Nat → Int32 := (uI (uI (uI (uI (uZ (uZ (uZ (uZ (uZ (uZ (uZ (uZ (uZ (uZ (uZ (uZ (uZ (uZ (uZ (uZ (uZ (uZ (uZ (uZ (uZ (uZ (uZ (uZ (uZ (uZ (uZ (uZ (uZ (uZ (uZ (uZ (uZ (uZ (uZ (uZ (uZ (uZ (uZ (uZ I 66 0) 67 0) 68 0) 69 0) 70 0) 71 0) 72 0) 73 0) 74 0) 75 0) 76 0) 77 0) 78 0) 79 0) 80 0) 81 0) 82 0) 83 0) 84 0) 85 0) 86 0) 87 0) 88 0) 89 0) 90 0) 91 0) 92 0) 93 0) 94 0) 95 0) 96 0) 97 0) 98 0) 99 0) 100 0) 101 0) 102 0) 103 0) 104 0) 105 0) 91 0 (20 : Int32)) 91 1 (40 : Int32)) 91 2 (6 : Int32)) 91 3 (12 : Int32))
def iL_Md_init_65 (L : Nat → Nat → Int64) : Nat → Nat → Int64 := (uZ (uZ (uZ (uZ (uZ (uZ (uZ (uZ (uZ (uZ (uZ (uZ (uZ (uZ (uZ (uZ (uZ (uZ (uZ (uZ (uZ (uZ (uZ (uZ (uZ (uZ (uZ (uZ (uZ (uZ (uZ (uZ (uZ (uZ (uZ (uZ (uZ (uZ (uZ (uZ L 66 0) 67 0) 68 0) 69 0) 70 0) 71 0) 72 0) 73 0) 74 0) 75 0) 76 0) 77 0) 78 0) 79 0) 80 0) 81 0) 82 0) 83 0) 84 0) 85 0) 86 0) 87 0) 88 0) 89 0) 90 0) 91 0) 92 0) 93 0) 94 0) 95 0) 96 0) 97 0) 98 0) 99 0) 100 0) 101 0) 102 0) 103 0) 104 0) 105 0)
def iR_Md_init_65 (Rf : Nat → Nat → Option Nat) : Nat → Nat → Option Nat := (uR (uZ (uR (uZ (uR (uZ (uR (uZ (uR (uZ (uR (uZ (uR (uZ (uR (uZ (uR (uZ (uR (uZ (uR (uZ (uR (uZ (uR (uZ (uR (uZ (uR (uZ (uR (uZ (uR (uZ (uR (uZ (uR (uZ (uR (uZ (uR (uZ (uR (uZ (uR (uZ (uR (uZ (uR (uZ (uR (uZ (uR (uZ (uR (uZ (uR (uZ (uR (uZ (uR (uZ (uR (uZ (uR (uZ (uR (uZ (uR (uZ (uR (uZ (uR (uZ (uR (uZ (uR (uZ (uR (uZ Rf 66 none) 65 2 (some 66)) 67 none) 65 3 (some 67)) 68 none) 65 4 (some 68)) 69 none) 65 5 (some 69)) 70 none) 65 6 (some 70)) 71 none) 65 7 (some 71)) 72 none) 65 15 (some 72)) 73 none) 65 17 (some 73)) 74 none) 65 18 (some 74)) 75 none) 65 19 (some 75)) 76 none) 65 20 (some 76)) 77 none) 65 21 (some 77)) 78 none) 65 23 (some 78)) 79 none) 65 33 (some 79)) 80 none) 65 34 (some 80)) 81 none) 65 35 (some 81)) 82 none) 65 36 (some 82)) 83 none) 65 37 (some 83)) 84 none) 65 38 (some 84)) 85 none) 65 39 (some 85)) 86 none) 65 41 (some 86)) 87 none) 65 44 (some 87)) 88 none) 65 48 (some 88)) 89 none) 65 49 (some 89)) 90 none) 65 50 (some 90)) 91 none) 65 53 (some 91)) 92 none) 65 55 (some 92)) 93 none) 65 60 (some 93)) 94 none) 65 64 (some 94)) 95 none) 65 68 (some 95)) 96 none) 65 69 (some 96)) 97 none) 65 70 (some 97)) 98 none) 65 71 (some 98)) 99 none) 65 72 (some 99)) 100 none) 65 73 (some 100)) 101 none) 65 74 (some 101)) 102 none) 65 76 (some 102)) 103 none) 65 77 (some 103)) 104 none) 65 78 (some 104)) 105 none) 65 79 (some 105))
set_option maxRecDepth 100000 in
theorem T_Md_init_65 (Rf : Nat → Nat → Option Nat) : xTM xSl (oR (iR_Md_init_65 Rf)) := ⟨by decide, (List.forall_mem_cons.mpr ⟨rfl, (List.forall_mem_cons.mpr ⟨rfl, (List.forall_mem_cons.mpr ⟨rfl, (List.forall_mem_cons.mpr ⟨rfl, (List.forall_mem_cons.mpr ⟨rfl, (List.forall_mem_cons.mpr ⟨rfl, (List.forall_mem_cons.mpr ⟨rfl, (List.forall_mem_cons.mpr ⟨rfl, (List.forall_mem_cons.mpr ⟨rfl, (List.forall_mem_cons.mpr ⟨rfl, (List.forall_mem_cons.mpr ⟨rfl, (List.forall_mem_cons.mpr ⟨rfl, (List.forall_mem_cons.mpr ⟨rfl, (List.forall_mem_cons.mpr ⟨rfl, (List.forall_mem_cons.mpr ⟨rfl, (List.forall_mem_cons.mpr ⟨rfl, (List.forall_mem_cons.mpr ⟨rfl, (List.forall_mem_cons.mpr ⟨rfl, (List.forall_mem_cons.mpr ⟨rfl, (List.forall_mem_cons.mpr ⟨rfl, (List.forall_mem_cons.mpr ⟨rfl, (List.forall_mem_cons.mpr ⟨rfl, (List.forall_mem_cons.mpr ⟨rfl, (List.forall_mem_cons.mpr ⟨rfl, (List.forall_mem_cons.mpr ⟨rfl, (List.forall_mem_cons.mpr ⟨rfl, (List.forall_mem_cons.mpr ⟨rfl, (List.forall_mem_cons.mpr ⟨rfl, (List.forall_mem_cons.mpr ⟨rfl, (List.forall_mem_cons.mpr ⟨rfl, (List.forall_mem_cons.mpr ⟨rfl, (List.forall_mem_cons.mpr ⟨rfl, (List.forall_mem_cons.mpr ⟨rfl, (List.forall_mem_cons.mpr ⟨rfl, (List.forall_mem_cons.mpr ⟨rfl, (List.forall_mem_cons.mpr ⟨rfl, (List.forall_mem_cons.mpr ⟨rfl, (List.forall_mem_cons.mpr ⟨rfl, (List.forall_mem_cons.mpr ⟨rfl, (List.forall_mem_cons.mpr ⟨rfl, (fun _ h => absurd h List.not_mem_nil)⟩)⟩)⟩)⟩)⟩)⟩)⟩)⟩)⟩)⟩)⟩)⟩)⟩)⟩)⟩)⟩)⟩)⟩)⟩)⟩)⟩)⟩)⟩)⟩)⟩)⟩)⟩)⟩)⟩)⟩)⟩)⟩)⟩)⟩)⟩)⟩)⟩)⟩)⟩)⟩)⟩
set_option maxRecDepth 100000 in
set_option maxHeartbeats 4000000 in
theorem c_Md_init_65 {G : xG} {I : Nat → Nat → Int32} {L : Nat → Nat → Int64} {Rf : Nat → Nat → Option Nat} {q : Int32 × (Nat → Nat → Int32) × (Nat → Nat → Int64)} (hq : f_Md_build (oI (iI_Md_init_65 I)) (oL (iL_Md_init_65 L)) = some q) : CT (x0 G) 7 m_Md_init [.ref (xP (x0 G) 65)] (xSm 66, I, L, Rf) (none, (xSm 106, bI q.2.1, bL q.2.2, iR_Md_init_65 Rf)) := by
  refine CT.of (by decide +kernel) (Nat.le_of_ble_eq_true rfl) ?_
  show X (x0 G) 7 m_Md_init 0 [(0, .ref (xP (x0 G) 65))] [] _ _
  refine X_aload_n (pc := 0) (i := 0) 0 dX12_init_0 rfl rfl ?_
  refine X_objInit (pc := 1) k_1201 k_93 k_94 (by decide) (by decide) dX12_init_1 ?_
  refine X_aload_n (pc := 4) (i := 0) 0 dX12_init_4 rfl rfl ?_
  refine X_bipush (pc := 5) (40 : Int32) dX12_init_5 (by decide) ?_
  refine X_newaC (pc := 7) (atype := .int) (t := 0) (N := 40) (by decide) rfl k_151 (by decide) (by decide) (by decide) (xSm 67) 66 rfl rfl dX12_init_7 ?_
  refine X_putr (pc := 9) (a := 65) (ci := 11) (j := 2) 2 rfl true rfl (by decide) k_1230 rfl (fun _ => ⟨rfl, rfl⟩) (by first | exact Or.inl ⟨_, rfl⟩ | exact Or.inr ⟨_, rfl⟩) dX12_init_9 ?_
  refine X_aload_n (pc := 12) (i := 0) 0 dX12_init_12 rfl rfl ?_
  refine X_bipush (pc := 13) (40 : Int32) dX12_init_13 (by decide) ?_
  refine X_newaC (pc := 15) (atype := .int) (t := 0) (N := 40) (by decide) rfl k_151 (by decide) (by decide) (by decide) (xSm 68) 67 rfl rfl dX12_init_15 ?_
  refine X_putr (pc := 17) (a := 65) (ci := 11) (j := 3) 3 rfl true rfl (by decide) k_1231 rfl (fun _ => ⟨rfl, rfl⟩) (by first | exact Or.inl ⟨_, rfl⟩ | exact Or.inr ⟨_, rfl⟩) dX12_init_17 ?_
  refine X_aload_n (pc := 20) (i := 0) 0 dX12_init_20 rfl rfl ?_
  refine X_bipush (pc := 21) (40 : Int32) dX12_init_21 (by decide) ?_
  refine X_newaC (pc := 23) (atype := .int) (t := 0) (N := 40) (by decide) rfl k_151 (by decide) (by decide) (by decide) (xSm 69) 68 rfl rfl dX12_init_23 ?_
  refine X_putr (pc := 25) (a := 65) (ci := 11) (j := 4) 4 rfl true rfl (by decide) k_1232 rfl (fun _ => ⟨rfl, rfl⟩) (by first | exact Or.inl ⟨_, rfl⟩ | exact Or.inr ⟨_, rfl⟩) dX12_init_25 ?_
  refine X_aload_n (pc := 28) (i := 0) 0 dX12_init_28 rfl rfl ?_
  refine X_bipush (pc := 29) (40 : Int32) dX12_init_29 (by decide) ?_
  refine X_newaC (pc := 31) (atype := .int) (t := 0) (N := 40) (by decide) rfl k_151 (by decide) (by decide) (by decide) (xSm 70) 69 rfl rfl dX12_init_31 ?_
  refine X_putr (pc := 33) (a := 65) (ci := 11) (j := 5) 5 rfl true rfl (by decide) k_1233 rfl (fun _ => ⟨rfl, rfl⟩) (by first | exact Or.inl ⟨_, rfl⟩ | exact Or.inr ⟨_, rfl⟩) dX12_init_33 ?_
  refine X_aload_n (pc := 36) (i := 0) 0 dX12_init_36 rfl rfl ?_
  refine X_bipush (pc := 37) (40 : Int32) dX12_init_37 (by decide) ?_
  refine X_newaC (pc := 39) (atype := .int) (t := 0) (N := 40) (by decide) rfl k_151 (by decide) (by decide) (by decide) (xSm 71) 70 rfl rfl dX12_init_39 ?_
  refine X_putr (pc := 41) (a := 65) (ci := 11) (j := 6) 6 rfl true rfl (by decide) k_1234 rfl (fun _ => ⟨rfl, rfl⟩) (by first | exact Or.inl ⟨_, rfl⟩ | exact Or.inr ⟨_, rfl⟩) dX12_init_41 ?_
  refine X_aload_n (pc := 44) (i := 0) 0 dX12_init_44 rfl rfl ?_
  refine X_bipush (pc := 45) (40 : Int32) dX12_init_45 (by decide) ?_
  refine X_newaC (pc := 47) (atype := .int) (t := 0) (N := 40) (by decide) rfl k_151 (by decide) (by decide) (by decide) (xSm 72) 71 rfl rfl dX12_init_47 ?_
  refine X_putr (pc := 49) (a := 65) (ci := 11) (j := 7) 7 rfl true rfl (by decide) k_1235 rfl (fun _ => ⟨rfl, rfl⟩) (by first | exact Or.inl ⟨_, rfl⟩ | exact Or.inr ⟨_, rfl⟩) dX12_init_49 ?_
  refine X_aload_n (pc := 52) (i := 0) 0 dX12_init_52 rfl rfl ?_
  refine X_bipush (pc := 53) (9 : Int32) dX12_init_53 (by decide) ?_
  refine X_newaC (pc := 55) (atype := .int) (t := 0) (N := 9) (by decide) rfl k_151 (by decide) (by decide) (by decide) (xSm 73) 72 rfl rfl dX12_init_55 ?_
  refine X_putr (pc := 57) (a := 65) (ci := 11) (j := 15) 15 rfl true rfl (by decide) k_1243 rfl (fun _ => ⟨rfl, rfl⟩) (by first | exact Or.inl ⟨_, rfl⟩ | exact Or.inr ⟨_, rfl⟩) dX12_init_57 ?_
  refine X_aload_n (pc := 60) (i := 0) 0 dX12_init_60 rfl rfl ?_
  refine X_bipush (pc := 61) (8 : Int32) dX12_init_61 (by decide) ?_
  refine X_newaC (pc := 63) (atype := .int) (t := 0) (N := 8) (by decide) rfl k_151 (by decide) (by decide) (by decide) (xSm 74) 73 rfl rfl dX12_init_63 ?_
  refine X_putr (pc := 65) (a := 65) (ci := 11) (j := 17) 17 rfl true rfl (by decide) k_1245 rfl (fun _ => ⟨rfl, rfl⟩) (by first | exact Or.inl ⟨_, rfl⟩ | exact Or.inr ⟨_, rfl⟩) dX12_init_65 ?_
  refine X_aload_n (pc := 68) (i := 0) 0 dX12_init_68 rfl rfl ?_
  refine X_bipush (pc := 69) (8 : Int32) dX12_init_69 (by decide) ?_
  refine X_newaC (pc := 71) (atype := .int) (t := 0) (N := 8) (by decide) rfl k_151 (by decide) (by decide) (by decide) (xSm 75) 74 rfl rfl dX12_init_71 ?_
  refine X_putr (pc := 73) (a := 65) (ci := 11) (j := 18) 18 rfl true rfl (by decide) k_1246 rfl (fun _ => ⟨rfl, rfl⟩) (by first | exact Or.inl ⟨_, rfl⟩ | exact Or.inr ⟨_, rfl⟩) dX12_init_73 ?_
  refine X_aload_n (pc := 76) (i := 0) 0 dX12_init_76 rfl rfl ?_
  refine X_bipush (pc := 77) (8 : Int32) dX12_init_77 (by decide) ?_
  refine X_newaC (pc := 79) (atype := .int) (t := 0) (N := 8) (by decide) rfl k_151 (by decide) (by decide) (by decide) (xSm 76) 75 rfl rfl dX12_init_79 ?_
  refine X_putr (pc := 81) (a := 65) (ci := 11) (j := 19) 19 rfl true rfl (by decide) k_1247 rfl (fun _ => ⟨rfl, rfl⟩) (by first | exact Or.inl ⟨_, rfl⟩ | exact Or.inr ⟨_, rfl⟩) dX12_init_81 ?_
  refine X_aload_n (pc := 84) (i := 0) 0 dX12_init_84 rfl rfl ?_
  refine X_bipush (pc := 85) (8 : Int32) dX12_init_85 (by decide) ?_
  refine X_newaC (pc := 87) (atype := .int) (t := 0) (N := 8) (by decide) rfl k_151 (by decide) (by decide) (by decide) (xSm 77) 76 rfl rfl dX12_init_87 ?_
  refine X_putr (pc := 89) (a := 65) (ci := 11) (j := 20) 20 rfl true rfl (by decide) k_1248 rfl (fun _ => ⟨rfl, rfl⟩) (by first | exact Or.inl ⟨_, rfl⟩ | exact Or.inr ⟨_, rfl⟩) dX12_init_89 ?_
  refine X_aload_n (pc := 92) (i := 0) 0 dX12_init_92 rfl rfl ?_
  refine X_bipush (pc := 93) (8 : Int32) dX12_init_93 (by decide) ?_
  refine X_newaC (pc := 95) (atype := .int) (t := 0) (N := 8) (by decide) rfl k_151 (by decide) (by decide) (by decide) (xSm 78) 77 rfl rfl dX12_init_95 ?_
  refine X_putr (pc := 97) (a := 65) (ci := 11) (j := 21) 21 rfl true rfl (by decide) k_1249 rfl (fun _ => ⟨rfl, rfl⟩) (by first | exact Or.inl ⟨_, rfl⟩ | exact Or.inr ⟨_, rfl⟩) dX12_init_97 ?_
  refine X_aload_n (pc := 100) (i := 0) 0 dX12_init_100 rfl rfl ?_
  refine X_iconst (pc := 101) (4 : Int32) dX12_init_101 (by decide) ?_
  refine X_newaC (pc := 102) (atype := .int) (t := 0) (N := 4) (by decide) rfl k_151 (by decide) (by decide) (by decide) (xSm 79) 78 rfl rfl dX12_init_102 ?_
  refine X_putr (pc := 104) (a := 65) (ci := 11) (j := 23) 23 rfl true rfl (by decide) k_1251 rfl (fun _ => ⟨rfl, rfl⟩) (by first | exact Or.inl ⟨_, rfl⟩ | exact Or.inr ⟨_, rfl⟩) dX12_init_104 ?_
  refine X_aload_n (pc := 107) (i := 0) 0 dX12_init_107 rfl rfl ?_
  refine X_bipush (pc := 108) (80 : Int32) dX12_init_108 (by decide) ?_
  refine X_newaC (pc := 110) (atype := .int) (t := 0) (N := 80) (by decide) rfl k_151 (by decide) (by decide) (by decide) (xSm 80) 79 rfl rfl dX12_init_110 ?_
  refine X_putr (pc := 112) (a := 65) (ci := 11) (j := 33) 33 rfl true rfl (by decide) k_1261 rfl (fun _ => ⟨rfl, rfl⟩) (by first | exact Or.inl ⟨_, rfl⟩ | exact Or.inr ⟨_, rfl⟩) dX12_init_112 ?_
  refine X_aload_n (pc := 115) (i := 0) 0 dX12_init_115 rfl rfl ?_
  refine X_iconst (pc := 116) (4 : Int32) dX12_init_116 (by decide) ?_
  refine X_newaC (pc := 117) (atype := .int) (t := 0) (N := 4) (by decide) rfl k_151 (by decide) (by decide) (by decide) (xSm 81) 80 rfl rfl dX12_init_117 ?_
  refine X_putr (pc := 119) (a := 65) (ci := 11) (j := 34) 34 rfl true rfl (by decide) k_1262 rfl (fun _ => ⟨rfl, rfl⟩) (by first | exact Or.inl ⟨_, rfl⟩ | exact Or.inr ⟨_, rfl⟩) dX12_init_119 ?_
  refine X_aload_n (pc := 122) (i := 0) 0 dX12_init_122 rfl rfl ?_
  refine X_iconst (pc := 123) (4 : Int32) dX12_init_123 (by decide) ?_
  refine X_newaC (pc := 124) (atype := .int) (t := 0) (N := 4) (by decide) rfl k_151 (by decide) (by decide) (by decide) (xSm 82) 81 rfl rfl dX12_init_124 ?_
  refine X_putr (pc := 126) (a := 65) (ci := 11) (j := 35) 35 rfl true rfl (by decide) k_1263 rfl (fun _ => ⟨rfl, rfl⟩) (by first | exact Or.inl ⟨_, rfl⟩ | exact Or.inr ⟨_, rfl⟩) dX12_init_126 ?_
  refine X_aload_n (pc := 129) (i := 0) 0 dX12_init_129 rfl rfl ?_
  refine X_iconst (pc := 130) (4 : Int32) dX12_init_130 (by decide) ?_
  refine X_newaC (pc := 131) (atype := .int) (t := 0) (N := 4) (by decide) rfl k_151 (by decide) (by decide) (by decide) (xSm 83) 82 rfl rfl dX12_init_131 ?_
  refine X_putr (pc := 133) (a := 65) (ci := 11) (j := 36) 36 rfl true rfl (by decide) k_1264 rfl (fun _ => ⟨rfl, rfl⟩) (by first | exact Or.inl ⟨_, rfl⟩ | exact Or.inr ⟨_, rfl⟩) dX12_init_133 ?_
  refine X_aload_n (pc := 136) (i := 0) 0 dX12_init_136 rfl rfl ?_
  refine X_iconst (pc := 137) (4 : Int32) dX12_init_137 (by decide) ?_
  refine X_newaC (pc := 138) (atype := .boolean) (t := 2) (N := 4) (by decide) rfl k_352 (by decide) (by decide) (by decide) (xSm 84) 83 rfl rfl dX12_init_138 ?_
  refine X_putr (pc := 140) (a := 65) (ci := 11) (j := 37) 37 rfl true rfl (by decide) k_1265 rfl (fun _ => ⟨rfl, rfl⟩) (by first | exact Or.inl ⟨_, rfl⟩ | exact Or.inr ⟨_, rfl⟩) dX12_init_140 ?_
  refine X_aload_n (pc := 143) (i := 0) 0 dX12_init_143 rfl rfl ?_
  refine X_sipush (pc := 144) (6000 : Int32) dX12_init_144 (by decide) ?_
  refine X_newaC (pc := 147) (atype := .int) (t := 0) (N := 6000) (by decide) rfl k_151 (by decide) (by decide) (by decide) (xSm 85) 84 rfl rfl dX12_init_147 ?_
  refine X_putr (pc := 149) (a := 65) (ci := 11) (j := 38) 38 rfl true rfl (by decide) k_1266 rfl (fun _ => ⟨rfl, rfl⟩) (by first | exact Or.inl ⟨_, rfl⟩ | exact Or.inr ⟨_, rfl⟩) dX12_init_149 ?_
  refine X_aload_n (pc := 152) (i := 0) 0 dX12_init_152 rfl rfl ?_
  refine X_sipush (pc := 153) (3000 : Int32) dX12_init_153 (by decide) ?_
  refine X_newaC (pc := 156) (atype := .int) (t := 0) (N := 3000) (by decide) rfl k_151 (by decide) (by decide) (by decide) (xSm 86) 85 rfl rfl dX12_init_156 ?_
  refine X_putr (pc := 158) (a := 65) (ci := 11) (j := 39) 39 rfl true rfl (by decide) k_1267 rfl (fun _ => ⟨rfl, rfl⟩) (by first | exact Or.inl ⟨_, rfl⟩ | exact Or.inr ⟨_, rfl⟩) dX12_init_158 ?_
  refine X_aload_n (pc := 161) (i := 0) 0 dX12_init_161 rfl rfl ?_
  refine X_sipush (pc := 162) (8000 : Int32) dX12_init_162 (by decide) ?_
  refine X_newaC (pc := 165) (atype := .int) (t := 0) (N := 8000) (by decide) rfl k_151 (by decide) (by decide) (by decide) (xSm 87) 86 rfl rfl dX12_init_165 ?_
  refine X_putr (pc := 167) (a := 65) (ci := 11) (j := 41) 41 rfl true rfl (by decide) k_1269 rfl (fun _ => ⟨rfl, rfl⟩) (by first | exact Or.inl ⟨_, rfl⟩ | exact Or.inr ⟨_, rfl⟩) dX12_init_167 ?_
  refine X_aload_n (pc := 170) (i := 0) 0 dX12_init_170 rfl rfl ?_
  refine X_iconst (pc := 171) (5 : Int32) dX12_init_171 (by decide) ?_
  refine X_newaC (pc := 172) (atype := .int) (t := 0) (N := 5) (by decide) rfl k_151 (by decide) (by decide) (by decide) (xSm 88) 87 rfl rfl dX12_init_172 ?_
  refine X_putr (pc := 174) (a := 65) (ci := 11) (j := 44) 44 rfl true rfl (by decide) k_1272 rfl (fun _ => ⟨rfl, rfl⟩) (by first | exact Or.inl ⟨_, rfl⟩ | exact Or.inr ⟨_, rfl⟩) dX12_init_174 ?_
  refine X_aload_n (pc := 177) (i := 0) 0 dX12_init_177 rfl rfl ?_
  refine X_bipush (pc := 178) (24 : Int32) dX12_init_178 (by decide) ?_
  refine X_newaC (pc := 180) (atype := .boolean) (t := 2) (N := 24) (by decide) rfl k_352 (by decide) (by decide) (by decide) (xSm 89) 88 rfl rfl dX12_init_180 ?_
  refine X_putr (pc := 182) (a := 65) (ci := 11) (j := 48) 48 rfl true rfl (by decide) k_1276 rfl (fun _ => ⟨rfl, rfl⟩) (by first | exact Or.inl ⟨_, rfl⟩ | exact Or.inr ⟨_, rfl⟩) dX12_init_182 ?_
  refine X_aload_n (pc := 185) (i := 0) 0 dX12_init_185 rfl rfl ?_
  refine X_bipush (pc := 186) (24 : Int32) dX12_init_186 (by decide) ?_
  refine X_newaC (pc := 188) (atype := .long) (t := 1) (N := 24) (by decide) rfl k_150 (by decide) (by decide) (by decide) (xSm 90) 89 rfl rfl dX12_init_188 ?_
  refine X_putr (pc := 190) (a := 65) (ci := 11) (j := 49) 49 rfl true rfl (by decide) k_1277 rfl (fun _ => ⟨rfl, rfl⟩) (by first | exact Or.inl ⟨_, rfl⟩ | exact Or.inr ⟨_, rfl⟩) dX12_init_190 ?_
  refine X_aload_n (pc := 193) (i := 0) 0 dX12_init_193 rfl rfl ?_
  refine X_bipush (pc := 194) (24 : Int32) dX12_init_194 (by decide) ?_
  refine X_newaC (pc := 196) (atype := .long) (t := 1) (N := 24) (by decide) rfl k_150 (by decide) (by decide) (by decide) (xSm 91) 90 rfl rfl dX12_init_196 ?_
  refine X_putr (pc := 198) (a := 65) (ci := 11) (j := 50) 50 rfl true rfl (by decide) k_1278 rfl (fun _ => ⟨rfl, rfl⟩) (by first | exact Or.inl ⟨_, rfl⟩ | exact Or.inr ⟨_, rfl⟩) dX12_init_198 ?_
  refine X_aload_n (pc := 201) (i := 0) 0 dX12_init_201 rfl rfl ?_
  refine X_iconst (pc := 202) (4 : Int32) dX12_init_202 (by decide) ?_
  refine X_newaC (pc := 203) (atype := .int) (t := 0) (N := 4) (by decide) rfl k_151 (by decide) (by decide) (by decide) (xSm 92) 91 rfl rfl dX12_init_203 ?_
  refine X_putr (pc := 205) (a := 65) (ci := 11) (j := 53) 53 rfl true rfl (by decide) k_1281 rfl (fun _ => ⟨rfl, rfl⟩) (by first | exact Or.inl ⟨_, rfl⟩ | exact Or.inr ⟨_, rfl⟩) dX12_init_205 ?_
  refine X_aload_n (pc := 208) (i := 0) 0 dX12_init_208 rfl rfl ?_
  refine X_bipush (pc := 209) (6 : Int32) dX12_init_209 (by decide) ?_
  refine X_newaC (pc := 211) (atype := .int) (t := 0) (N := 6) (by decide) rfl k_151 (by decide) (by decide) (by decide) (xSm 93) 92 rfl rfl dX12_init_211 ?_
  refine X_putr (pc := 213) (a := 65) (ci := 11) (j := 55) 55 rfl true rfl (by decide) k_1283 rfl (fun _ => ⟨rfl, rfl⟩) (by first | exact Or.inl ⟨_, rfl⟩ | exact Or.inr ⟨_, rfl⟩) dX12_init_213 ?_
  refine X_aload_n (pc := 216) (i := 0) 0 dX12_init_216 rfl rfl ?_
  refine X_bipush (pc := 217) (6 : Int32) dX12_init_217 (by decide) ?_
  refine X_newaC (pc := 219) (atype := .int) (t := 0) (N := 6) (by decide) rfl k_151 (by decide) (by decide) (by decide) (xSm 94) 93 rfl rfl dX12_init_219 ?_
  refine X_putr (pc := 221) (a := 65) (ci := 11) (j := 60) 60 rfl true rfl (by decide) k_1288 rfl (fun _ => ⟨rfl, rfl⟩) (by first | exact Or.inl ⟨_, rfl⟩ | exact Or.inr ⟨_, rfl⟩) dX12_init_221 ?_
  refine X_aload_n (pc := 224) (i := 0) 0 dX12_init_224 rfl rfl ?_
  refine X_bipush (pc := 225) (6 : Int32) dX12_init_225 (by decide) ?_
  refine X_newaC (pc := 227) (atype := .int) (t := 0) (N := 6) (by decide) rfl k_151 (by decide) (by decide) (by decide) (xSm 95) 94 rfl rfl dX12_init_227 ?_
  refine X_putr (pc := 229) (a := 65) (ci := 11) (j := 64) 64 rfl true rfl (by decide) k_1292 rfl (fun _ => ⟨rfl, rfl⟩) (by first | exact Or.inl ⟨_, rfl⟩ | exact Or.inr ⟨_, rfl⟩) dX12_init_229 ?_
  refine X_aload_n (pc := 232) (i := 0) 0 dX12_init_232 rfl rfl ?_
  refine X_bipush (pc := 233) (8 : Int32) dX12_init_233 (by decide) ?_
  refine X_newaC (pc := 235) (atype := .int) (t := 0) (N := 8) (by decide) rfl k_151 (by decide) (by decide) (by decide) (xSm 96) 95 rfl rfl dX12_init_235 ?_
  refine X_putr (pc := 237) (a := 65) (ci := 11) (j := 68) 68 rfl true rfl (by decide) k_1296 rfl (fun _ => ⟨rfl, rfl⟩) (by first | exact Or.inl ⟨_, rfl⟩ | exact Or.inr ⟨_, rfl⟩) dX12_init_237 ?_
  refine X_aload_n (pc := 240) (i := 0) 0 dX12_init_240 rfl rfl ?_
  refine X_bipush (pc := 241) (8 : Int32) dX12_init_241 (by decide) ?_
  refine X_newaC (pc := 243) (atype := .int) (t := 0) (N := 8) (by decide) rfl k_151 (by decide) (by decide) (by decide) (xSm 97) 96 rfl rfl dX12_init_243 ?_
  refine X_putr (pc := 245) (a := 65) (ci := 11) (j := 69) 69 rfl true rfl (by decide) k_1297 rfl (fun _ => ⟨rfl, rfl⟩) (by first | exact Or.inl ⟨_, rfl⟩ | exact Or.inr ⟨_, rfl⟩) dX12_init_245 ?_
  refine X_aload_n (pc := 248) (i := 0) 0 dX12_init_248 rfl rfl ?_
  refine X_bipush (pc := 249) (8 : Int32) dX12_init_249 (by decide) ?_
  refine X_newaC (pc := 251) (atype := .int) (t := 0) (N := 8) (by decide) rfl k_151 (by decide) (by decide) (by decide) (xSm 98) 97 rfl rfl dX12_init_251 ?_
  refine X_putr (pc := 253) (a := 65) (ci := 11) (j := 70) 70 rfl true rfl (by decide) k_1298 rfl (fun _ => ⟨rfl, rfl⟩) (by first | exact Or.inl ⟨_, rfl⟩ | exact Or.inr ⟨_, rfl⟩) dX12_init_253 ?_
  refine X_aload_n (pc := 256) (i := 0) 0 dX12_init_256 rfl rfl ?_
  refine X_bipush (pc := 257) (8 : Int32) dX12_init_257 (by decide) ?_
  refine X_newaC (pc := 259) (atype := .int) (t := 0) (N := 8) (by decide) rfl k_151 (by decide) (by decide) (by decide) (xSm 99) 98 rfl rfl dX12_init_259 ?_
  refine X_putr (pc := 261) (a := 65) (ci := 11) (j := 71) 71 rfl true rfl (by decide) k_1299 rfl (fun _ => ⟨rfl, rfl⟩) (by first | exact Or.inl ⟨_, rfl⟩ | exact Or.inr ⟨_, rfl⟩) dX12_init_261 ?_
  refine X_aload_n (pc := 264) (i := 0) 0 dX12_init_264 rfl rfl ?_
  refine X_sipush (pc := 265) (800 : Int32) dX12_init_265 (by decide) ?_
  refine X_newaC (pc := 268) (atype := .long) (t := 1) (N := 800) (by decide) rfl k_150 (by decide) (by decide) (by decide) (xSm 100) 99 rfl rfl dX12_init_268 ?_
  refine X_putr (pc := 270) (a := 65) (ci := 11) (j := 72) 72 rfl true rfl (by decide) k_1300 rfl (fun _ => ⟨rfl, rfl⟩) (by first | exact Or.inl ⟨_, rfl⟩ | exact Or.inr ⟨_, rfl⟩) dX12_init_270 ?_
  refine X_aload_n (pc := 273) (i := 0) 0 dX12_init_273 rfl rfl ?_
  refine X_sipush (pc := 274) (800 : Int32) dX12_init_274 (by decide) ?_
  refine X_newaC (pc := 277) (atype := .long) (t := 1) (N := 800) (by decide) rfl k_150 (by decide) (by decide) (by decide) (xSm 101) 100 rfl rfl dX12_init_277 ?_
  refine X_putr (pc := 279) (a := 65) (ci := 11) (j := 73) 73 rfl true rfl (by decide) k_1301 rfl (fun _ => ⟨rfl, rfl⟩) (by first | exact Or.inl ⟨_, rfl⟩ | exact Or.inr ⟨_, rfl⟩) dX12_init_279 ?_
  refine X_aload_n (pc := 282) (i := 0) 0 dX12_init_282 rfl rfl ?_
  refine X_bipush (pc := 283) (15 : Int32) dX12_init_283 (by decide) ?_
  refine X_newaC (pc := 285) (atype := .int) (t := 0) (N := 15) (by decide) rfl k_151 (by decide) (by decide) (by decide) (xSm 102) 101 rfl rfl dX12_init_285 ?_
  refine X_putr (pc := 287) (a := 65) (ci := 11) (j := 74) 74 rfl true rfl (by decide) k_1302 rfl (fun _ => ⟨rfl, rfl⟩) (by first | exact Or.inl ⟨_, rfl⟩ | exact Or.inr ⟨_, rfl⟩) dX12_init_287 ?_
  refine X_aload_n (pc := 290) (i := 0) 0 dX12_init_290 rfl rfl ?_
  refine X_sipush (pc := 291) (16032 : Int32) dX12_init_291 (by decide) ?_
  refine X_newaC (pc := 294) (atype := .int) (t := 0) (N := 16032) (by decide) rfl k_151 (by decide) (by decide) (by decide) (xSm 103) 102 rfl rfl dX12_init_294 ?_
  refine X_putr (pc := 296) (a := 65) (ci := 11) (j := 76) 76 rfl true rfl (by decide) k_1304 rfl (fun _ => ⟨rfl, rfl⟩) (by first | exact Or.inl ⟨_, rfl⟩ | exact Or.inr ⟨_, rfl⟩) dX12_init_296 ?_
  refine X_aload_n (pc := 299) (i := 0) 0 dX12_init_299 rfl rfl ?_
  refine X_sipush (pc := 300) (128 : Int32) dX12_init_300 (by decide) ?_
  refine X_newaC (pc := 303) (atype := .int) (t := 0) (N := 128) (by decide) rfl k_151 (by decide) (by decide) (by decide) (xSm 104) 103 rfl rfl dX12_init_303 ?_
  refine X_putr (pc := 305) (a := 65) (ci := 11) (j := 77) 77 rfl true rfl (by decide) k_1305 rfl (fun _ => ⟨rfl, rfl⟩) (by first | exact Or.inl ⟨_, rfl⟩ | exact Or.inr ⟨_, rfl⟩) dX12_init_305 ?_
  refine X_aload_n (pc := 308) (i := 0) 0 dX12_init_308 rfl rfl ?_
  refine X_iconst (pc := 309) (4 : Int32) dX12_init_309 (by decide) ?_
  refine X_newaC (pc := 310) (atype := .int) (t := 0) (N := 4) (by decide) rfl k_151 (by decide) (by decide) (by decide) (xSm 105) 104 rfl rfl dX12_init_310 ?_
  refine X_putr (pc := 312) (a := 65) (ci := 11) (j := 78) 78 rfl true rfl (by decide) k_1306 rfl (fun _ => ⟨rfl, rfl⟩) (by first | exact Or.inl ⟨_, rfl⟩ | exact Or.inr ⟨_, rfl⟩) dX12_init_312 ?_
  refine X_aload_n (pc := 315) (i := 0) 0 dX12_init_315 rfl rfl ?_
  refine X_sipush (pc := 316) (128 : Int32) dX12_init_316 (by decide) ?_
  refine X_newaC (pc := 319) (atype := .boolean) (t := 2) (N := 128) (by decide) rfl k_352 (by decide) (by decide) (by decide) (xSm 106) 105 rfl rfl dX12_init_319 ?_
  refine X_putr (pc := 321) (a := 65) (ci := 11) (j := 79) 79 rfl true rfl (by decide) k_1307 rfl (fun _ => ⟨rfl, rfl⟩) (by first | exact Or.inl ⟨_, rfl⟩ | exact Or.inr ⟨_, rfl⟩) dX12_init_321 ?_
  refine X_aload_n (pc := 324) (i := 0) 0 dX12_init_324 rfl rfl ?_
  refine X_getr (pc := 325) (a := 65) (ci := 11) (j := 53) (jl := 53) (c := 91) rfl (by decide) k_1281 rfl (fun _ h => h) dX12_init_325 ?_
  refine X_iconst (pc := 328) (0 : Int32) dX12_init_328 (by decide) ?_
  refine X_bipush (pc := 329) (20 : Int32) dX12_init_329 (by decide) ?_
  refine X_iastj (pc := 331) (j := 0) rfl (vp_in_lit (N := 4) (by decide) (by decide)) (by decide) dX12_init_331 ?_
  refine X_aload_n (pc := 332) (i := 0) 0 dX12_init_332 rfl rfl ?_
  refine X_getr (pc := 333) (a := 65) (ci := 11) (j := 53) (jl := 53) (c := 91) rfl (by decide) k_1281 rfl (fun _ h => h) dX12_init_333 ?_
  refine X_iconst (pc := 336) (1 : Int32) dX12_init_336 (by decide) ?_
  refine X_bipush (pc := 337) (40 : Int32) dX12_init_337 (by decide) ?_
  refine X_iastj (pc := 339) (j := 1) rfl (vp_in_lit (N := 4) (by decide) (by decide)) (by decide) dX12_init_339 ?_
  refine X_aload_n (pc := 340) (i := 0) 0 dX12_init_340 rfl rfl ?_
  refine X_getr (pc := 341) (a := 65) (ci := 11) (j := 53) (jl := 53) (c := 91) rfl (by decide) k_1281 rfl (fun _ h => h) dX12_init_341 ?_
  refine X_iconst (pc := 344) (2 : Int32) dX12_init_344 (by decide) ?_
  refine X_bipush (pc := 345) (6 : Int32) dX12_init_345 (by decide) ?_
  refine X_iastj (pc := 347) (j := 2) rfl (vp_in_lit (N := 4) (by decide) (by decide)) (by decide) dX12_init_347 ?_
  refine X_aload_n (pc := 348) (i := 0) 0 dX12_init_348 rfl rfl ?_
  refine X_getr (pc := 349) (a := 65) (ci := 11) (j := 53) (jl := 53) (c := 91) rfl (by decide) k_1281 rfl (fun _ h => h) dX12_init_349 ?_
  refine X_iconst (pc := 352) (3 : Int32) dX12_init_352 (by decide) ?_
  refine X_bipush (pc := 353) (12 : Int32) dX12_init_353 (by decide) ?_
  refine X_iastj (pc := 355) (j := 3) rfl (vp_in_lit (N := 4) (by decide) (by decide)) (by decide) dX12_init_355 ?_
  refine X_aload_n (pc := 356) (i := 0) 0 dX12_init_356 rfl rfl ?_
  have hv : CT (x0 G) 6 m_Md_build [.ref (xP (x0 G) 65)] (xSm 106, iI_Md_init_65 I, iL_Md_init_65 L, iR_Md_init_65 Rf) (some (.int q.1), (xSm 106, bI q.2.1, bL q.2.2, iR_Md_init_65 Rf)) := CT.view (c_Md_build (G := x1 G 106) (S := xSl) (Rf := oR (iR_Md_init_65 Rf)) (T_Md_init_65 Rf) hq) vw_il vw_bl rfl rfl
  refine X_invV_i (pc := 357) hv ok_Md_build (ci := 11) rfl k_1202 k_1203 k_1204 nd_4 (by decide) rfl (Nat.le_of_ble_eq_true rfl) dX12_init_357 ?_
  refine X_pop (pc := 360) dX12_init_360 rfl ?_
  exact X_return (pc := 361) rfl dX12_init_361

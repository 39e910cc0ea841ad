/-! constructors -/
def xshA : List xSh := [.inl 10, .inl 5, .inl 6, .inr (1, 24), .inr (1, 24), .inr (1, 24), .inr (0, 120), .inr (0, 120), .inr (0, 9), .inl 7, .inr (0, 6000), .inr (3, 8), .inr (4, 4), .inl 7, .inr (0, 3000), .inl 7, .inr (0, 8000), .inl 9, .inr (0, 3), .inr (0, 3), .inr (0, 3), .inr (0, 3), .inl 2, .inr (0, 8), .inr (0, 8), .inr (0, 8), .inr (0, 8), .inr (1, 793), .inr (0, 15), .inl 0, .inr (0, 4), .inr (0, 16032), .inr (0, 128), .inr (2, 128), .inl 11, .inr (0, 40), .inr (0, 40), .inr (0, 40), .inr (0, 40), .inr (0, 40), .inr (0, 40), .inr (0, 9), .inr (0, 8), .inr (0, 8), .inr (0, 8), .inr (0, 8), .inr (0, 8), .inr (0, 4), .inr (0, 80), .inr (0, 4), .inr (0, 4), .inr (0, 4), .inr (2, 4), .inr (0, 6000), .inr (0, 3000), .inr (0, 8000), .inr (0, 5), .inr (2, 24), .inr (1, 24), .inr (1, 24), .inr (0, 4), .inr (0, 6), .inr (0, 6), .inr (0, 6), .inr (0, 8), .inr (0, 8), .inr (0, 8), .inr (0, 8), .inr (1, 800), .inr (1, 800), .inr (0, 15), .inr (0, 16032), .inr (0, 128), .inr (0, 4), .inr (2, 128)]
def xSl (k : Nat) : List xSh := xshA.take k
section XCn
variable {G : xG} {d : Nat} {M : xM} {pc : Nat} {lv : List (Nat × Value)} {st : List Value} {S : List xSh} {I : Nat → Nat → Int32} {L : Nat → Nat → Int64} {Rf : Nat → Nat → Option Nat} {o : Option Value × xH}
theorem X_newC {ci idx : Nat} (hci : ci < 12) (hcl : Cond.classLink M.1.cls idx (xcl ci).1 ∈ xtbl) (hinst : Cond.instantiable (xcl ci).1 (xnf ci) ∈ xtbl) (hini : Cond.initialized (xcl ci).1 ∈ xtbl) (S' : List xSh) (n : Nat) (hS : S ++ [.inl ci] = S') (hn : S.length = n) (hd : decode M.2.1 pc = .ok (.new idx, 3)) (k : X G d M (pc + 3) lv (.ref (xB G + n) :: st) (S', uZ I n 0, uZ L n 0, uZ Rf n none) o) : X G d M pc lv st (S, I, L, Rf) o := by
  subst hS; subst hn; exact X_new hci hcl hinst hini hd k
theorem X_newaC {t N : Nat} {n : Int32} {atype : ArrayType} (ht : t < 3) (hty : newarray.typeOf atype = xaty t) (hw : Cond.arrayClass (newarray.typeOf atype) ∈ xtbl) (hn : ¬ n < 0) (hN : n.toNatClampNeg = N) (hb : N * 8 ≤ 536870912) (S' : List xSh) (m : Nat) (hS : S ++ [.inr (t, N)] = S') (hm : S.length = m) (hd : decode M.2.1 pc = .ok (.newarray atype, 2)) (k : X G d M (pc + 2) lv (.ref (xB G + m) :: st) (S', uZ I m 0, uZ L m 0, uZ Rf m none) o) : X G d M pc lv (.int n :: st) (S, I, L, Rf) o := by
  subst hS; subst hm; exact X_newa (idx := 0) ht hty hw hn hN hb hd k
theorem X_anewC {t N idx : Nat} {n : Int32} {C : String} (ht : (t = 3 ∧ C = "WatchHouse$Work") ∨ (t = 4 ∧ C = "WatchHouse$Chronograph")) (hcl : Cond.classLink M.1.cls idx C ∈ xtbl) (hn : ¬ n < 0) (hN : n.toNatClampNeg = N) (hb : N * 4 ≤ 536870912) (S' : List xSh) (m : Nat) (hS : S ++ [.inr (t, N)] = S') (hm : S.length = m) (hd : decode M.2.1 pc = .ok (.anewarray idx, 3)) (k : X G d M (pc + 3) lv (.ref (xB G + m) :: st) (S', uZ I m 0, uZ L m 0, uZ Rf m none) o) : X G d M pc lv (.int n :: st) (S, I, L, Rf) o := by
  subst hS; subst hm; exact X_anew ht hcl hn hN hb hd k
end XCn
theorem dX6_init_0 : decode cX6_init 0 = .ok (.aload_n 0, 1) := by decide +kernel
theorem dX6_init_1 : decode cX6_init 1 = .ok (.invokespecial 3, 3) := by decide +kernel
theorem dX6_init_4 : decode cX6_init 4 = .ok (.aload_n 0, 1) := by decide +kernel
theorem dX6_init_5 : decode cX6_init 5 = .ok (.bipush 24, 2) := by decide +kernel
theorem dX6_init_7 : decode cX6_init 7 = .ok (.newarray .long, 2) := by decide +kernel
theorem dX6_init_9 : decode cX6_init 9 = .ok (.putfield 11, 3) := by decide +kernel
theorem dX6_init_12 : decode cX6_init 12 = .ok (.aload_n 0, 1) := by decide +kernel
theorem dX6_init_13 : decode cX6_init 13 = .ok (.bipush 24, 2) := by decide +kernel
theorem dX6_init_15 : decode cX6_init 15 = .ok (.newarray .long, 2) := by decide +kernel
theorem dX6_init_17 : decode cX6_init 17 = .ok (.putfield 15, 3) := by decide +kernel
theorem dX6_init_20 : decode cX6_init 20 = .ok (.aload_n 0, 1) := by decide +kernel
theorem dX6_init_21 : decode cX6_init 21 = .ok (.bipush 24, 2) := by decide +kernel
theorem dX6_init_23 : decode cX6_init 23 = .ok (.newarray .long, 2) := by decide +kernel
theorem dX6_init_25 : decode cX6_init 25 = .ok (.putfield 18, 3) := by decide +kernel
theorem dX6_init_28 : decode cX6_init 28 = .ok (.aload_n 0, 1) := by decide +kernel
theorem dX6_init_29 : decode cX6_init 29 = .ok (.bipush 120, 2) := by decide +kernel
theorem dX6_init_31 : decode cX6_init 31 = .ok (.newarray .int, 2) := by decide +kernel
theorem dX6_init_33 : decode cX6_init 33 = .ok (.putfield 21, 3) := by decide +kernel
theorem dX6_init_36 : decode cX6_init 36 = .ok (.aload_n 0, 1) := by decide +kernel
theorem dX6_init_37 : decode cX6_init 37 = .ok (.bipush 120, 2) := by decide +kernel
theorem dX6_init_39 : decode cX6_init 39 = .ok (.newarray .int, 2) := by decide +kernel
theorem dX6_init_41 : decode cX6_init 41 = .ok (.putfield 25, 3) := by decide +kernel
theorem dX6_init_44 : decode cX6_init 44 = .ok (.return_, 1) := by decide +kernel
def iI_Ge_init_2 (I : Nat → Nat → Int32) : Nat → Nat → Int32 := (uZ (uZ (uZ (uZ (uZ I 3 0) 4 0) 5 0) 6 0) 7 0)
def iL_Ge_init_2 (L : Nat → Nat → Int64) : Nat → Nat → Int64 := (uZ (uZ (uZ (uZ (uZ L 3 0) 4 0) 5 0) 6 0) 7 0)
def iR_Ge_init_2 (Rf : Nat → Nat → Option Nat) : Nat → Nat → Option Nat := (uR (uZ (uR (uZ (uR (uZ (uR (uZ (uR (uZ Rf 3 none) 2 5 (some 3)) 4 none) 2 6 (some 4)) 5 none) 2 7 (some 5)) 6 none) 2 8 (some 6)) 7 none) 2 9 (some 7))
set_option maxRecDepth 100000 in
set_option maxHeartbeats 4000000 in
theorem c_Ge_init_2 {G : xG} {I : Nat → Nat → Int32} {L : Nat → Nat → Int64} {Rf : Nat → Nat → Option Nat}  : CT G 1 m_Ge_init [.ref (xB G + 2)] (xSl 3, I, L, Rf) (none, (xSl 8, iI_Ge_init_2 I, iL_Ge_init_2 L, iR_Ge_init_2 Rf)) := by
  refine CT.of (by decide +kernel) (Nat.le_of_ble_eq_true rfl) ?_
  show X G 1 m_Ge_init 0 [(0, .ref (xB G + 2))] [] _ _
  refine X_aload_n (pc := 0) (i := 0) 0 dX6_init_0 rfl rfl ?_
  refine X_objInit (pc := 1) k_105 k_92 k_93 (by decide) (by decide) dX6_init_1 ?_
  refine X_aload_n (pc := 4) (i := 0) 0 dX6_init_4 rfl rfl ?_
  refine X_bipush (pc := 5) (24 : Int32) dX6_init_5 (by decide) ?_
  refine X_newaC (pc := 7) (atype := .long) (t := 1) (N := 24) (by decide) rfl k_149 (by decide) (by decide) (by decide) (xSl 4) 3 rfl rfl dX6_init_7 ?_
  refine X_putr (pc := 9) (a := 2) (ci := 6) (j := 5) true rfl (by decide) k_115 rfl (fun _ => ⟨rfl, rfl⟩) (by first | exact Or.inl ⟨_, rfl⟩ | exact Or.inr ⟨_, rfl⟩) dX6_init_9 ?_
  refine X_aload_n (pc := 12) (i := 0) 0 dX6_init_12 rfl rfl ?_
  refine X_bipush (pc := 13) (24 : Int32) dX6_init_13 (by decide) ?_
  refine X_newaC (pc := 15) (atype := .long) (t := 1) (N := 24) (by decide) rfl k_149 (by decide) (by decide) (by decide) (xSl 5) 4 rfl rfl dX6_init_15 ?_
  refine X_putr (pc := 17) (a := 2) (ci := 6) (j := 6) true rfl (by decide) k_117 rfl (fun _ => ⟨rfl, rfl⟩) (by first | exact Or.inl ⟨_, rfl⟩ | exact Or.inr ⟨_, rfl⟩) dX6_init_17 ?_
  refine X_aload_n (pc := 20) (i := 0) 0 dX6_init_20 rfl rfl ?_
  refine X_bipush (pc := 21) (24 : Int32) dX6_init_21 (by decide) ?_
  refine X_newaC (pc := 23) (atype := .long) (t := 1) (N := 24) (by decide) rfl k_149 (by decide) (by decide) (by decide) (xSl 6) 5 rfl rfl dX6_init_23 ?_
  refine X_putr (pc := 25) (a := 2) (ci := 6) (j := 7) true rfl (by decide) k_119 rfl (fun _ => ⟨rfl, rfl⟩) (by first | exact Or.inl ⟨_, rfl⟩ | exact Or.inr ⟨_, rfl⟩) dX6_init_25 ?_
  refine X_aload_n (pc := 28) (i := 0) 0 dX6_init_28 rfl rfl ?_
  refine X_bipush (pc := 29) (120 : Int32) dX6_init_29 (by decide) ?_
  refine X_newaC (pc := 31) (atype := .int) (t := 0) (N := 120) (by decide) rfl k_150 (by decide) (by decide) (by decide) (xSl 7) 6 rfl rfl dX6_init_31 ?_
  refine X_putr (pc := 33) (a := 2) (ci := 6) (j := 8) true rfl (by decide) k_120 rfl (fun _ => ⟨rfl, rfl⟩) (by first | exact Or.inl ⟨_, rfl⟩ | exact Or.inr ⟨_, rfl⟩) dX6_init_33 ?_
  refine X_aload_n (pc := 36) (i := 0) 0 dX6_init_36 rfl rfl ?_
  refine X_bipush (pc := 37) (120 : Int32) dX6_init_37 (by decide) ?_
  refine X_newaC (pc := 39) (atype := .int) (t := 0) (N := 120) (by decide) rfl k_150 (by decide) (by decide) (by decide) (xSl 8) 7 rfl rfl dX6_init_39 ?_
  refine X_putr (pc := 41) (a := 2) (ci := 6) (j := 9) true rfl (by decide) k_121 rfl (fun _ => ⟨rfl, rfl⟩) (by first | exact Or.inl ⟨_, rfl⟩ | exact Or.inr ⟨_, rfl⟩) dX6_init_41 ?_
  exact X_return (pc := 44) rfl dX6_init_44
theorem dX7_init_0 : decode cX7_init 0 = .ok (.aload_n 0, 1) := by decide +kernel
theorem dX7_init_1 : decode cX7_init 1 = .ok (.invokespecial 3, 3) := by decide +kernel
theorem dX7_init_4 : decode cX7_init 4 = .ok (.aload_n 0, 1) := by decide +kernel
theorem dX7_init_5 : decode cX7_init 5 = .ok (.iload_n 1, 1) := by decide +kernel
theorem dX7_init_6 : decode cX7_init 6 = .ok (.putfield 9, 3) := by decide +kernel
theorem dX7_init_9 : decode cX7_init 9 = .ok (.aload_n 0, 1) := by decide +kernel
theorem dX7_init_10 : decode cX7_init 10 = .ok (.iload_n 2, 1) := by decide +kernel
theorem dX7_init_11 : decode cX7_init 11 = .ok (.putfield 15, 3) := by decide +kernel
theorem dX7_init_14 : decode cX7_init 14 = .ok (.aload_n 0, 1) := by decide +kernel
theorem dX7_init_15 : decode cX7_init 15 = .ok (.iload_n 1, 1) := by decide +kernel
theorem dX7_init_16 : decode cX7_init 16 = .ok (.iload_n 2, 1) := by decide +kernel
theorem dX7_init_17 : decode cX7_init 17 = .ok (.imul, 1) := by decide +kernel
theorem dX7_init_18 : decode cX7_init 18 = .ok (.newarray .int, 2) := by decide +kernel
theorem dX7_init_20 : decode cX7_init 20 = .ok (.putfield 18, 3) := by decide +kernel
theorem dX7_init_23 : decode cX7_init 23 = .ok (.return_, 1) := by decide +kernel
def iI_Ro_init_9 (I : Nat → Nat → Int32) : Nat → Nat → Int32 := (uZ (uI (uI I 9 0 (2 : Int32)) 9 1 (3000 : Int32)) 10 0)
def iL_Ro_init_9 (L : Nat → Nat → Int64) : Nat → Nat → Int64 := (uZ L 10 0)
def iR_Ro_init_9 (Rf : Nat → Nat → Option Nat) : Nat → Nat → Option Nat := (uR (uZ Rf 10 none) 9 2 (some 10))
set_option maxRecDepth 100000 in
set_option maxHeartbeats 4000000 in
theorem c_Ro_init_9 {G : xG} {I : Nat → Nat → Int32} {L : Nat → Nat → Int64} {Rf : Nat → Nat → Option Nat}  : CT G 1 m_Ro_init [.ref (xB G + 9), .int (2 : Int32), .int (3000 : Int32)] (xSl 10, I, L, Rf) (none, (xSl 11, iI_Ro_init_9 I, iL_Ro_init_9 L, iR_Ro_init_9 Rf)) := by
  refine CT.of (by decide +kernel) (Nat.le_of_ble_eq_true rfl) ?_
  show X G 1 m_Ro_init 0 [(0, .ref (xB G + 9)), (1, .int (2 : Int32)), (2, .int (3000 : Int32))] [] _ _
  refine X_aload_n (pc := 0) (i := 0) 0 dX7_init_0 rfl rfl ?_
  refine X_objInit (pc := 1) k_156 k_92 k_93 (by decide) (by decide) dX7_init_1 ?_
  refine X_aload_n (pc := 4) (i := 0) 0 dX7_init_4 rfl rfl ?_
  refine X_iload_n (pc := 5) (i := 1) 1 dX7_init_5 rfl rfl ?_
  refine X_puti (pc := 6) (a := 9) (ci := 7) (j := 0) true rfl (by decide) k_157 rfl (fun _ => ⟨rfl, rfl⟩) rfl dX7_init_6 ?_
  refine X_aload_n (pc := 9) (i := 0) 0 dX7_init_9 rfl rfl ?_
  refine X_iload_n (pc := 10) (i := 2) 2 dX7_init_10 rfl rfl ?_
  refine X_puti (pc := 11) (a := 9) (ci := 7) (j := 1) true rfl (by decide) k_158 rfl (fun _ => ⟨rfl, rfl⟩) rfl dX7_init_11 ?_
  refine X_aload_n (pc := 14) (i := 0) 0 dX7_init_14 rfl rfl ?_
  refine X_iload_n (pc := 15) (i := 1) 1 dX7_init_15 rfl rfl ?_
  refine X_iload_n (pc := 16) (i := 2) 2 dX7_init_16 rfl rfl ?_
  refine X_imul (pc := 17) dX7_init_17 ?_
  refine X_newaC (pc := 18) (atype := .int) (t := 0) (N := 6000) (by decide) rfl k_150 (by decide) (by decide) (by decide) (xSl 11) 10 rfl rfl dX7_init_18 ?_
  refine X_putr (pc := 20) (a := 9) (ci := 7) (j := 2) true rfl (by decide) k_159 rfl (fun _ => ⟨rfl, rfl⟩) (by first | exact Or.inl ⟨_, rfl⟩ | exact Or.inr ⟨_, rfl⟩) dX7_init_20 ?_
  exact X_return (pc := 23) rfl dX7_init_23
theorem dX5_init_0 : decode cX5_init 0 = .ok (.aload_n 0, 1) := by decide +kernel
theorem dX5_init_1 : decode cX5_init 1 = .ok (.invokespecial 1, 3) := by decide +kernel
theorem dX5_init_4 : decode cX5_init 4 = .ok (.aload_n 0, 1) := by decide +kernel
theorem dX5_init_5 : decode cX5_init 5 = .ok (.new 7, 3) := by decide +kernel
theorem dX5_init_8 : decode cX5_init 8 = .ok (.dup, 1) := by decide +kernel
theorem dX5_init_9 : decode cX5_init 9 = .ok (.invokespecial 9, 3) := by decide +kernel
theorem dX5_init_12 : decode cX5_init 12 = .ok (.putfield 10, 3) := by decide +kernel
theorem dX5_init_15 : decode cX5_init 15 = .ok (.aload_n 0, 1) := by decide +kernel
theorem dX5_init_16 : decode cX5_init 16 = .ok (.bipush 9, 2) := by decide +kernel
theorem dX5_init_18 : decode cX5_init 18 = .ok (.newarray .int, 2) := by decide +kernel
theorem dX5_init_20 : decode cX5_init 20 = .ok (.putfield 16, 3) := by decide +kernel
theorem dX5_init_23 : decode cX5_init 23 = .ok (.aload_n 0, 1) := by decide +kernel
theorem dX5_init_24 : decode cX5_init 24 = .ok (.new 20, 3) := by decide +kernel
theorem dX5_init_27 : decode cX5_init 27 = .ok (.dup, 1) := by decide +kernel
theorem dX5_init_28 : decode cX5_init 28 = .ok (.iconst 2, 1) := by decide +kernel
theorem dX5_init_29 : decode cX5_init 29 = .ok (.sipush 3000, 3) := by decide +kernel
theorem dX5_init_32 : decode cX5_init 32 = .ok (.invokespecial 22, 3) := by decide +kernel
theorem dX5_init_35 : decode cX5_init 35 = .ok (.putfield 25, 3) := by decide +kernel
theorem dX5_init_38 : decode cX5_init 38 = .ok (.return_, 1) := by decide +kernel
def iI_Es_init_1 (I : Nat → Nat → Int32) : Nat → Nat → Int32 := (iI_Ro_init_9 (uZ (uZ (iI_Ge_init_2 (uZ I 2 0)) 8 0) 9 0))
def iL_Es_init_1 (L : Nat → Nat → Int64) : Nat → Nat → Int64 := (iL_Ro_init_9 (uZ (uZ (iL_Ge_init_2 (uZ L 2 0)) 8 0) 9 0))
def iR_Es_init_1 (Rf : Nat → Nat → Option Nat) : Nat → Nat → Option Nat := (uR (iR_Ro_init_9 (uZ (uR (uZ (uR (iR_Ge_init_2 (uZ Rf 2 none)) 1 0 (some 2)) 8 none) 1 6 (some 8)) 9 none)) 1 15 (some 9))
set_option maxRecDepth 100000 in
set_option maxHeartbeats 4000000 in
theorem c_Es_init_1 {G : xG} {I : Nat → Nat → Int32} {L : Nat → Nat → Int64} {Rf : Nat → Nat → Option Nat}  : CT G 2 m_Es_init [.ref (xB G + 1)] (xSl 2, I, L, Rf) (none, (xSl 11, iI_Es_init_1 I, iL_Es_init_1 L, iR_Es_init_1 Rf)) := by
  refine CT.of (by decide +kernel) (Nat.le_of_ble_eq_true rfl) ?_
  show X G 2 m_Es_init 0 [(0, .ref (xB G + 1))] [] _ _
  refine X_aload_n (pc := 0) (i := 0) 0 dX5_init_0 rfl rfl ?_
  refine X_objInit (pc := 1) k_99 k_92 k_93 (by decide) (by decide) dX5_init_1 ?_
  refine X_aload_n (pc := 4) (i := 0) 0 dX5_init_4 rfl rfl ?_
  refine X_newC (pc := 5) (ci := 6) (by decide) k_100 k_101 k_72 (xSl 3) 2 rfl rfl dX5_init_5 ?_
  refine X_dup (pc := 8) dX5_init_8 rfl ?_
  refine X_invIN_v (pc := 9) c_Ge_init_2 ok_Ge_init rfl rfl k_102 k_103 nd_1 (by decide) rfl (Nat.le_of_ble_eq_true rfl) dX5_init_9 ?_
  refine X_putr (pc := 12) (a := 1) (ci := 5) (j := 0) true rfl (by decide) k_172 rfl (fun _ => ⟨rfl, rfl⟩) (by first | exact Or.inl ⟨_, rfl⟩ | exact Or.inr ⟨_, rfl⟩) dX5_init_12 ?_
  refine X_aload_n (pc := 15) (i := 0) 0 dX5_init_15 rfl rfl ?_
  refine X_bipush (pc := 16) (9 : Int32) dX5_init_16 (by decide) ?_
  refine X_newaC (pc := 18) (atype := .int) (t := 0) (N := 9) (by decide) rfl k_150 (by decide) (by decide) (by decide) (xSl 9) 8 rfl rfl dX5_init_18 ?_
  refine X_putr (pc := 20) (a := 1) (ci := 5) (j := 6) true rfl (by decide) k_180 rfl (fun _ => ⟨rfl, rfl⟩) (by first | exact Or.inl ⟨_, rfl⟩ | exact Or.inr ⟨_, rfl⟩) dX5_init_20 ?_
  refine X_aload_n (pc := 23) (i := 0) 0 dX5_init_23 rfl rfl ?_
  refine X_newC (pc := 24) (ci := 7) (by decide) k_151 k_152 k_73 (xSl 10) 9 rfl rfl dX5_init_24 ?_
  refine X_dup (pc := 27) dX5_init_27 rfl ?_
  refine X_iconst (pc := 28) (2 : Int32) dX5_init_28 (by decide) ?_
  refine X_sipush (pc := 29) (3000 : Int32) dX5_init_29 (by decide) ?_
  refine X_invI_v (pc := 32) c_Ro_init_9 ok_Ro_init rfl rfl k_153 k_154 nd_10 (by decide) rfl (Nat.le_of_ble_eq_true rfl) dX5_init_32 ?_
  refine X_putr (pc := 35) (a := 1) (ci := 5) (j := 15) true rfl (by decide) k_197 rfl (fun _ => ⟨rfl, rfl⟩) (by first | exact Or.inl ⟨_, rfl⟩ | exact Or.inr ⟨_, rfl⟩) dX5_init_35 ?_
  exact X_return (pc := 38) rfl dX5_init_38
def iI_Ro_init_13 (I : Nat → Nat → Int32) : Nat → Nat → Int32 := (uZ (uI (uI I 13 0 (3 : Int32)) 13 1 (1000 : Int32)) 14 0)
def iL_Ro_init_13 (L : Nat → Nat → Int64) : Nat → Nat → Int64 := (uZ L 14 0)
def iR_Ro_init_13 (Rf : Nat → Nat → Option Nat) : Nat → Nat → Option Nat := (uR (uZ Rf 14 none) 13 2 (some 14))
set_option maxRecDepth 100000 in
set_option maxHeartbeats 4000000 in
theorem c_Ro_init_13 {G : xG} {I : Nat → Nat → Int32} {L : Nat → Nat → Int64} {Rf : Nat → Nat → Option Nat}  : CT G 1 m_Ro_init [.ref (xB G + 13), .int (3 : Int32), .int (1000 : Int32)] (xSl 14, I, L, Rf) (none, (xSl 15, iI_Ro_init_13 I, iL_Ro_init_13 L, iR_Ro_init_13 Rf)) := by
  refine CT.of (by decide +kernel) (Nat.le_of_ble_eq_true rfl) ?_
  show X G 1 m_Ro_init 0 [(0, .ref (xB G + 13)), (1, .int (3 : Int32)), (2, .int (1000 : Int32))] [] _ _
  refine X_aload_n (pc := 0) (i := 0) 0 dX7_init_0 rfl rfl ?_
  refine X_objInit (pc := 1) k_156 k_92 k_93 (by decide) (by decide) dX7_init_1 ?_
  refine X_aload_n (pc := 4) (i := 0) 0 dX7_init_4 rfl rfl ?_
  refine X_iload_n (pc := 5) (i := 1) 1 dX7_init_5 rfl rfl ?_
  refine X_puti (pc := 6) (a := 13) (ci := 7) (j := 0) true rfl (by decide) k_157 rfl (fun _ => ⟨rfl, rfl⟩) rfl dX7_init_6 ?_
  refine X_aload_n (pc := 9) (i := 0) 0 dX7_init_9 rfl rfl ?_
  refine X_iload_n (pc := 10) (i := 2) 2 dX7_init_10 rfl rfl ?_
  refine X_puti (pc := 11) (a := 13) (ci := 7) (j := 1) true rfl (by decide) k_158 rfl (fun _ => ⟨rfl, rfl⟩) rfl dX7_init_11 ?_
  refine X_aload_n (pc := 14) (i := 0) 0 dX7_init_14 rfl rfl ?_
  refine X_iload_n (pc := 15) (i := 1) 1 dX7_init_15 rfl rfl ?_
  refine X_iload_n (pc := 16) (i := 2) 2 dX7_init_16 rfl rfl ?_
  refine X_imul (pc := 17) dX7_init_17 ?_
  refine X_newaC (pc := 18) (atype := .int) (t := 0) (N := 3000) (by decide) rfl k_150 (by decide) (by decide) (by decide) (xSl 15) 14 rfl rfl dX7_init_18 ?_
  refine X_putr (pc := 20) (a := 13) (ci := 7) (j := 2) true rfl (by decide) k_159 rfl (fun _ => ⟨rfl, rfl⟩) (by first | exact Or.inl ⟨_, rfl⟩ | exact Or.inr ⟨_, rfl⟩) dX7_init_20 ?_
  exact X_return (pc := 23) rfl dX7_init_23
def iI_Ro_init_15 (I : Nat → Nat → Int32) : Nat → Nat → Int32 := (uZ (uI (uI I 15 0 (4 : Int32)) 15 1 (2000 : Int32)) 16 0)
def iL_Ro_init_15 (L : Nat → Nat → Int64) : Nat → Nat → Int64 := (uZ L 16 0)
def iR_Ro_init_15 (Rf : Nat → Nat → Option Nat) : Nat → Nat → Option Nat := (uR (uZ Rf 16 none) 15 2 (some 16))
set_option maxRecDepth 100000 in
set_option maxHeartbeats 4000000 in
theorem c_Ro_init_15 {G : xG} {I : Nat → Nat → Int32} {L : Nat → Nat → Int64} {Rf : Nat → Nat → Option Nat}  : CT G 1 m_Ro_init [.ref (xB G + 15), .int (4 : Int32), .int (2000 : Int32)] (xSl 16, I, L, Rf) (none, (xSl 17, iI_Ro_init_15 I, iL_Ro_init_15 L, iR_Ro_init_15 Rf)) := by
  refine CT.of (by decide +kernel) (Nat.le_of_ble_eq_true rfl) ?_
  show X G 1 m_Ro_init 0 [(0, .ref (xB G + 15)), (1, .int (4 : Int32)), (2, .int (2000 : Int32))] [] _ _
  refine X_aload_n (pc := 0) (i := 0) 0 dX7_init_0 rfl rfl ?_
  refine X_objInit (pc := 1) k_156 k_92 k_93 (by decide) (by decide) dX7_init_1 ?_
  refine X_aload_n (pc := 4) (i := 0) 0 dX7_init_4 rfl rfl ?_
  refine X_iload_n (pc := 5) (i := 1) 1 dX7_init_5 rfl rfl ?_
  refine X_puti (pc := 6) (a := 15) (ci := 7) (j := 0) true rfl (by decide) k_157 rfl (fun _ => ⟨rfl, rfl⟩) rfl dX7_init_6 ?_
  refine X_aload_n (pc := 9) (i := 0) 0 dX7_init_9 rfl rfl ?_
  refine X_iload_n (pc := 10) (i := 2) 2 dX7_init_10 rfl rfl ?_
  refine X_puti (pc := 11) (a := 15) (ci := 7) (j := 1) true rfl (by decide) k_158 rfl (fun _ => ⟨rfl, rfl⟩) rfl dX7_init_11 ?_
  refine X_aload_n (pc := 14) (i := 0) 0 dX7_init_14 rfl rfl ?_
  refine X_iload_n (pc := 15) (i := 1) 1 dX7_init_15 rfl rfl ?_
  refine X_iload_n (pc := 16) (i := 2) 2 dX7_init_16 rfl rfl ?_
  refine X_imul (pc := 17) dX7_init_17 ?_
  refine X_newaC (pc := 18) (atype := .int) (t := 0) (N := 8000) (by decide) rfl k_150 (by decide) (by decide) (by decide) (xSl 17) 16 rfl rfl dX7_init_18 ?_
  refine X_putr (pc := 20) (a := 15) (ci := 7) (j := 2) true rfl (by decide) k_159 rfl (fun _ => ⟨rfl, rfl⟩) (by first | exact Or.inl ⟨_, rfl⟩ | exact Or.inr ⟨_, rfl⟩) dX7_init_20 ?_
  exact X_return (pc := 23) rfl dX7_init_23
theorem dX9_init_0 : decode cX9_init 0 = .ok (.aload_n 0, 1) := by decide +kernel
theorem dX9_init_1 : decode cX9_init 1 = .ok (.invokespecial 3, 3) := by decide +kernel
theorem dX9_init_4 : decode cX9_init 4 = .ok (.aload_n 0, 1) := by decide +kernel
theorem dX9_init_5 : decode cX9_init 5 = .ok (.bipush 20, 2) := by decide +kernel
theorem dX9_init_7 : decode cX9_init 7 = .ok (.putfield 9, 3) := by decide +kernel
theorem dX9_init_10 : decode cX9_init 10 = .ok (.aload_n 0, 1) := by decide +kernel
theorem dX9_init_11 : decode cX9_init 11 = .ok (.bipush 40, 2) := by decide +kernel
theorem dX9_init_13 : decode cX9_init 13 = .ok (.putfield 15, 3) := by decide +kernel
theorem dX9_init_16 : decode cX9_init 16 = .ok (.aload_n 0, 1) := by decide +kernel
theorem dX9_init_17 : decode cX9_init 17 = .ok (.bipush 6, 2) := by decide +kernel
theorem dX9_init_19 : decode cX9_init 19 = .ok (.putfield 18, 3) := by decide +kernel
theorem dX9_init_22 : decode cX9_init 22 = .ok (.aload_n 0, 1) := by decide +kernel
theorem dX9_init_23 : decode cX9_init 23 = .ok (.bipush 12, 2) := by decide +kernel
theorem dX9_init_25 : decode cX9_init 25 = .ok (.putfield 21, 3) := by decide +kernel
theorem dX9_init_28 : decode cX9_init 28 = .ok (.aload_n 0, 1) := by decide +kernel
theorem dX9_init_29 : decode cX9_init 29 = .ok (.iconst 3, 1) := by decide +kernel
theorem dX9_init_30 : decode cX9_init 30 = .ok (.newarray .int, 2) := by decide +kernel
theorem dX9_init_32 : decode cX9_init 32 = .ok (.putfield 24, 3) := by decide +kernel
theorem dX9_init_35 : decode cX9_init 35 = .ok (.aload_n 0, 1) := by decide +kernel
theorem dX9_init_36 : decode cX9_init 36 = .ok (.iconst 3, 1) := by decide +kernel
theorem dX9_init_37 : decode cX9_init 37 = .ok (.newarray .int, 2) := by decide +kernel
theorem dX9_init_39 : decode cX9_init 39 = .ok (.putfield 28, 3) := by decide +kernel
theorem dX9_init_42 : decode cX9_init 42 = .ok (.aload_n 0, 1) := by decide +kernel
theorem dX9_init_43 : decode cX9_init 43 = .ok (.iconst 3, 1) := by decide +kernel
theorem dX9_init_44 : decode cX9_init 44 = .ok (.newarray .int, 2) := by decide +kernel
theorem dX9_init_46 : decode cX9_init 46 = .ok (.putfield 31, 3) := by decide +kernel
theorem dX9_init_49 : decode cX9_init 49 = .ok (.aload_n 0, 1) := by decide +kernel
theorem dX9_init_50 : decode cX9_init 50 = .ok (.iconst 3, 1) := by decide +kernel
theorem dX9_init_51 : decode cX9_init 51 = .ok (.newarray .int, 2) := by decide +kernel
theorem dX9_init_53 : decode cX9_init 53 = .ok (.putfield 34, 3) := by decide +kernel
theorem dX9_init_56 : decode cX9_init 56 = .ok (.return_, 1) := by decide +kernel
def iI_Tr_init_17 (I : Nat → Nat → Int32) : Nat → Nat → Int32 := (uZ (uZ (uZ (uZ (uI (uI (uI (uI I 17 0 (20 : Int32)) 17 1 (40 : Int32)) 17 2 (6 : Int32)) 17 3 (12 : Int32)) 18 0) 19 0) 20 0) 21 0)
def iL_Tr_init_17 (L : Nat → Nat → Int64) : Nat → Nat → Int64 := (uZ (uZ (uZ (uZ L 18 0) 19 0) 20 0) 21 0)
def iR_Tr_init_17 (Rf : Nat → Nat → Option Nat) : Nat → Nat → Option Nat := (uR (uZ (uR (uZ (uR (uZ (uR (uZ Rf 18 none) 17 5 (some 18)) 19 none) 17 6 (some 19)) 20 none) 17 13 (some 20)) 21 none) 17 14 (some 21))
set_option maxRecDepth 100000 in
set_option maxHeartbeats 4000000 in
theorem c_Tr_init_17 {G : xG} {I : Nat → Nat → Int32} {L : Nat → Nat → Int64} {Rf : Nat → Nat → Option Nat}  : CT G 1 m_Tr_init [.ref (xB G + 17)] (xSl 18, I, L, Rf) (none, (xSl 22, iI_Tr_init_17 I, iL_Tr_init_17 L, iR_Tr_init_17 Rf)) := by
  refine CT.of (by decide +kernel) (Nat.le_of_ble_eq_true rfl) ?_
  show X G 1 m_Tr_init 0 [(0, .ref (xB G + 17))] [] _ _
  refine X_aload_n (pc := 0) (i := 0) 0 dX9_init_0 rfl rfl ?_
  refine X_objInit (pc := 1) k_243 k_92 k_93 (by decide) (by decide) dX9_init_1 ?_
  refine X_aload_n (pc := 4) (i := 0) 0 dX9_init_4 rfl rfl ?_
  refine X_bipush (pc := 5) (20 : Int32) dX9_init_5 (by decide) ?_
  refine X_puti (pc := 7) (a := 17) (ci := 9) (j := 0) false rfl (by decide) k_244 rfl (fun h => by cases h) rfl dX9_init_7 ?_
  refine X_aload_n (pc := 10) (i := 0) 0 dX9_init_10 rfl rfl ?_
  refine X_bipush (pc := 11) (40 : Int32) dX9_init_11 (by decide) ?_
  refine X_puti (pc := 13) (a := 17) (ci := 9) (j := 1) false rfl (by decide) k_245 rfl (fun h => by cases h) rfl dX9_init_13 ?_
  refine X_aload_n (pc := 16) (i := 0) 0 dX9_init_16 rfl rfl ?_
  refine X_bipush (pc := 17) (6 : Int32) dX9_init_17 (by decide) ?_
  refine X_puti (pc := 19) (a := 17) (ci := 9) (j := 2) false rfl (by decide) k_246 rfl (fun h => by cases h) rfl dX9_init_19 ?_
  refine X_aload_n (pc := 22) (i := 0) 0 dX9_init_22 rfl rfl ?_
  refine X_bipush (pc := 23) (12 : Int32) dX9_init_23 (by decide) ?_
  refine X_puti (pc := 25) (a := 17) (ci := 9) (j := 3) false rfl (by decide) k_247 rfl (fun h => by cases h) rfl dX9_init_25 ?_
  refine X_aload_n (pc := 28) (i := 0) 0 dX9_init_28 rfl rfl ?_
  refine X_iconst (pc := 29) (3 : Int32) dX9_init_29 (by decide) ?_
  refine X_newaC (pc := 30) (atype := .int) (t := 0) (N := 3) (by decide) rfl k_150 (by decide) (by decide) (by decide) (xSl 19) 18 rfl rfl dX9_init_30 ?_
  refine X_putr (pc := 32) (a := 17) (ci := 9) (j := 5) true rfl (by decide) k_250 rfl (fun _ => ⟨rfl, rfl⟩) (by first | exact Or.inl ⟨_, rfl⟩ | exact Or.inr ⟨_, rfl⟩) dX9_init_32 ?_
  refine X_aload_n (pc := 35) (i := 0) 0 dX9_init_35 rfl rfl ?_
  refine X_iconst (pc := 36) (3 : Int32) dX9_init_36 (by decide) ?_
  refine X_newaC (pc := 37) (atype := .int) (t := 0) (N := 3) (by decide) rfl k_150 (by decide) (by decide) (by decide) (xSl 20) 19 rfl rfl dX9_init_37 ?_
  refine X_putr (pc := 39) (a := 17) (ci := 9) (j := 6) true rfl (by decide) k_252 rfl (fun _ => ⟨rfl, rfl⟩) (by first | exact Or.inl ⟨_, rfl⟩ | exact Or.inr ⟨_, rfl⟩) dX9_init_39 ?_
  refine X_aload_n (pc := 42) (i := 0) 0 dX9_init_42 rfl rfl ?_
  refine X_iconst (pc := 43) (3 : Int32) dX9_init_43 (by decide) ?_
  refine X_newaC (pc := 44) (atype := .int) (t := 0) (N := 3) (by decide) rfl k_150 (by decide) (by decide) (by decide) (xSl 21) 20 rfl rfl dX9_init_44 ?_
  refine X_putr (pc := 46) (a := 17) (ci := 9) (j := 13) true rfl (by decide) k_262 rfl (fun _ => ⟨rfl, rfl⟩) (by first | exact Or.inl ⟨_, rfl⟩ | exact Or.inr ⟨_, rfl⟩) dX9_init_46 ?_
  refine X_aload_n (pc := 49) (i := 0) 0 dX9_init_49 rfl rfl ?_
  refine X_iconst (pc := 50) (3 : Int32) dX9_init_50 (by decide) ?_
  refine X_newaC (pc := 51) (atype := .int) (t := 0) (N := 3) (by decide) rfl k_150 (by decide) (by decide) (by decide) (xSl 22) 21 rfl rfl dX9_init_51 ?_
  refine X_putr (pc := 53) (a := 17) (ci := 9) (j := 14) true rfl (by decide) k_263 rfl (fun _ => ⟨rfl, rfl⟩) (by first | exact Or.inl ⟨_, rfl⟩ | exact Or.inr ⟨_, rfl⟩) dX9_init_53 ?_
  exact X_return (pc := 56) rfl dX9_init_56
theorem dX2_init_0 : decode cX2_init 0 = .ok (.aload_n 0, 1) := by decide +kernel
theorem dX2_init_1 : decode cX2_init 1 = .ok (.invokespecial 5, 3) := by decide +kernel
theorem dX2_init_4 : decode cX2_init 4 = .ok (.aload_n 0, 1) := by decide +kernel
theorem dX2_init_5 : decode cX2_init 5 = .ok (.bipush 8, 2) := by decide +kernel
theorem dX2_init_7 : decode cX2_init 7 = .ok (.newarray .int, 2) := by decide +kernel
theorem dX2_init_9 : decode cX2_init 9 = .ok (.putfield 11, 3) := by decide +kernel
theorem dX2_init_12 : decode cX2_init 12 = .ok (.aload_n 0, 1) := by decide +kernel
theorem dX2_init_13 : decode cX2_init 13 = .ok (.bipush 8, 2) := by decide +kernel
theorem dX2_init_15 : decode cX2_init 15 = .ok (.newarray .int, 2) := by decide +kernel
theorem dX2_init_17 : decode cX2_init 17 = .ok (.putfield 15, 3) := by decide +kernel
theorem dX2_init_20 : decode cX2_init 20 = .ok (.aload_n 0, 1) := by decide +kernel
theorem dX2_init_21 : decode cX2_init 21 = .ok (.bipush 8, 2) := by decide +kernel
theorem dX2_init_23 : decode cX2_init 23 = .ok (.newarray .int, 2) := by decide +kernel
theorem dX2_init_25 : decode cX2_init 25 = .ok (.putfield 18, 3) := by decide +kernel
theorem dX2_init_28 : decode cX2_init 28 = .ok (.aload_n 0, 1) := by decide +kernel
theorem dX2_init_29 : decode cX2_init 29 = .ok (.bipush 8, 2) := by decide +kernel
theorem dX2_init_31 : decode cX2_init 31 = .ok (.newarray .int, 2) := by decide +kernel
theorem dX2_init_33 : decode cX2_init 33 = .ok (.putfield 21, 3) := by decide +kernel
theorem dX2_init_36 : decode cX2_init 36 = .ok (.aload_n 0, 1) := by decide +kernel
theorem dX2_init_37 : decode cX2_init 37 = .ok (.sipush 793, 3) := by decide +kernel
theorem dX2_init_40 : decode cX2_init 40 = .ok (.newarray .long, 2) := by decide +kernel
theorem dX2_init_42 : decode cX2_init 42 = .ok (.putfield 24, 3) := by decide +kernel
theorem dX2_init_45 : decode cX2_init 45 = .ok (.return_, 1) := by decide +kernel
def iI_Ch_init_22 (I : Nat → Nat → Int32) : Nat → Nat → Int32 := (uZ (uZ (uZ (uZ (uZ I 23 0) 24 0) 25 0) 26 0) 27 0)
def iL_Ch_init_22 (L : Nat → Nat → Int64) : Nat → Nat → Int64 := (uZ (uZ (uZ (uZ (uZ L 23 0) 24 0) 25 0) 26 0) 27 0)
def iR_Ch_init_22 (Rf : Nat → Nat → Option Nat) : Nat → Nat → Option Nat := (uR (uZ (uR (uZ (uR (uZ (uR (uZ (uR (uZ Rf 23 none) 22 1 (some 23)) 24 none) 22 2 (some 24)) 25 none) 22 3 (some 25)) 26 none) 22 4 (some 26)) 27 none) 22 5 (some 27))
set_option maxRecDepth 100000 in
set_option maxHeartbeats 4000000 in
theorem c_Ch_init_22 {G : xG} {I : Nat → Nat → Int32} {L : Nat → Nat → Int64} {Rf : Nat → Nat → Option Nat}  : CT G 1 m_Ch_init [.ref (xB G + 22)] (xSl 23, I, L, Rf) (none, (xSl 28, iI_Ch_init_22 I, iL_Ch_init_22 L, iR_Ch_init_22 Rf)) := by
  refine CT.of (by decide +kernel) (Nat.le_of_ble_eq_true rfl) ?_
  show X G 1 m_Ch_init 0 [(0, .ref (xB G + 22))] [] _ _
  refine X_aload_n (pc := 0) (i := 0) 0 dX2_init_0 rfl rfl ?_
  refine X_objInit (pc := 1) k_300 k_92 k_93 (by decide) (by decide) dX2_init_1 ?_
  refine X_aload_n (pc := 4) (i := 0) 0 dX2_init_4 rfl rfl ?_
  refine X_bipush (pc := 5) (8 : Int32) dX2_init_5 (by decide) ?_
  refine X_newaC (pc := 7) (atype := .int) (t := 0) (N := 8) (by decide) rfl k_150 (by decide) (by decide) (by decide) (xSl 24) 23 rfl rfl dX2_init_7 ?_
  refine X_putr (pc := 9) (a := 22) (ci := 2) (j := 1) true rfl (by decide) k_303 rfl (fun _ => ⟨rfl, rfl⟩) (by first | exact Or.inl ⟨_, rfl⟩ | exact Or.inr ⟨_, rfl⟩) dX2_init_9 ?_
  refine X_aload_n (pc := 12) (i := 0) 0 dX2_init_12 rfl rfl ?_
  refine X_bipush (pc := 13) (8 : Int32) dX2_init_13 (by decide) ?_
  refine X_newaC (pc := 15) (atype := .int) (t := 0) (N := 8) (by decide) rfl k_150 (by decide) (by decide) (by decide) (xSl 25) 24 rfl rfl dX2_init_15 ?_
  refine X_putr (pc := 17) (a := 22) (ci := 2) (j := 2) true rfl (by decide) k_304 rfl (fun _ => ⟨rfl, rfl⟩) (by first | exact Or.inl ⟨_, rfl⟩ | exact Or.inr ⟨_, rfl⟩) dX2_init_17 ?_
  refine X_aload_n (pc := 20) (i := 0) 0 dX2_init_20 rfl rfl ?_
  refine X_bipush (pc := 21) (8 : Int32) dX2_init_21 (by decide) ?_
  refine X_newaC (pc := 23) (atype := .int) (t := 0) (N := 8) (by decide) rfl k_150 (by decide) (by decide) (by decide) (xSl 26) 25 rfl rfl dX2_init_23 ?_
  refine X_putr (pc := 25) (a := 22) (ci := 2) (j := 3) true rfl (by decide) k_305 rfl (fun _ => ⟨rfl, rfl⟩) (by first | exact Or.inl ⟨_, rfl⟩ | exact Or.inr ⟨_, rfl⟩) dX2_init_25 ?_
  refine X_aload_n (pc := 28) (i := 0) 0 dX2_init_28 rfl rfl ?_
  refine X_bipush (pc := 29) (8 : Int32) dX2_init_29 (by decide) ?_
  refine X_newaC (pc := 31) (atype := .int) (t := 0) (N := 8) (by decide) rfl k_150 (by decide) (by decide) (by decide) (xSl 27) 26 rfl rfl dX2_init_31 ?_
  refine X_putr (pc := 33) (a := 22) (ci := 2) (j := 4) true rfl (by decide) k_306 rfl (fun _ => ⟨rfl, rfl⟩) (by first | exact Or.inl ⟨_, rfl⟩ | exact Or.inr ⟨_, rfl⟩) dX2_init_33 ?_
  refine X_aload_n (pc := 36) (i := 0) 0 dX2_init_36 rfl rfl ?_
  refine X_sipush (pc := 37) (793 : Int32) dX2_init_37 (by decide) ?_
  refine X_newaC (pc := 40) (atype := .long) (t := 1) (N := 793) (by decide) rfl k_149 (by decide) (by decide) (by decide) (xSl 28) 27 rfl rfl dX2_init_40 ?_
  refine X_putr (pc := 42) (a := 22) (ci := 2) (j := 5) true rfl (by decide) k_307 rfl (fun _ => ⟨rfl, rfl⟩) (by first | exact Or.inl ⟨_, rfl⟩ | exact Or.inr ⟨_, rfl⟩) dX2_init_42 ?_
  exact X_return (pc := 45) rfl dX2_init_45
theorem dX0_init_0 : decode cX0_init 0 = .ok (.aload_n 0, 1) := by decide +kernel
theorem dX0_init_1 : decode cX0_init 1 = .ok (.invokespecial 3, 3) := by decide +kernel
theorem dX0_init_4 : decode cX0_init 4 = .ok (.aload_n 0, 1) := by decide +kernel
theorem dX0_init_5 : decode cX0_init 5 = .ok (.iconst 4, 1) := by decide +kernel
theorem dX0_init_6 : decode cX0_init 6 = .ok (.newarray .int, 2) := by decide +kernel
theorem dX0_init_8 : decode cX0_init 8 = .ok (.putfield 11, 3) := by decide +kernel
theorem dX0_init_11 : decode cX0_init 11 = .ok (.aload_n 0, 1) := by decide +kernel
theorem dX0_init_12 : decode cX0_init 12 = .ok (.sipush 16032, 3) := by decide +kernel
theorem dX0_init_15 : decode cX0_init 15 = .ok (.newarray .int, 2) := by decide +kernel
theorem dX0_init_17 : decode cX0_init 17 = .ok (.putfield 15, 3) := by decide +kernel
theorem dX0_init_20 : decode cX0_init 20 = .ok (.aload_n 0, 1) := by decide +kernel
theorem dX0_init_21 : decode cX0_init 21 = .ok (.sipush 128, 3) := by decide +kernel
theorem dX0_init_24 : decode cX0_init 24 = .ok (.newarray .int, 2) := by decide +kernel
theorem dX0_init_26 : decode cX0_init 26 = .ok (.putfield 18, 3) := by decide +kernel
theorem dX0_init_29 : decode cX0_init 29 = .ok (.aload_n 0, 1) := by decide +kernel
theorem dX0_init_30 : decode cX0_init 30 = .ok (.sipush 128, 3) := by decide +kernel
theorem dX0_init_33 : decode cX0_init 33 = .ok (.newarray .boolean, 2) := by decide +kernel
theorem dX0_init_35 : decode cX0_init 35 = .ok (.putfield 21, 3) := by decide +kernel
theorem dX0_init_38 : decode cX0_init 38 = .ok (.return_, 1) := by decide +kernel
def iI_Be_init_29 (I : Nat → Nat → Int32) : Nat → Nat → Int32 := (uZ (uZ (uZ (uZ I 30 0) 31 0) 32 0) 33 0)
def iL_Be_init_29 (L : Nat → Nat → Int64) : Nat → Nat → Int64 := (uZ (uZ (uZ (uZ L 30 0) 31 0) 32 0) 33 0)
def iR_Be_init_29 (Rf : Nat → Nat → Option Nat) : Nat → Nat → Option Nat := (uR (uZ (uR (uZ (uR (uZ (uR (uZ Rf 30 none) 29 1 (some 30)) 31 none) 29 2 (some 31)) 32 none) 29 3 (some 32)) 33 none) 29 4 (some 33))
set_option maxRecDepth 100000 in
set_option maxHeartbeats 4000000 in
theorem c_Be_init_29 {G : xG} {I : Nat → Nat → Int32} {L : Nat → Nat → Int64} {Rf : Nat → Nat → Option Nat}  : CT G 1 m_Be_init [.ref (xB G + 29)] (xSl 30, I, L, Rf) (none, (xSl 34, iI_Be_init_29 I, iL_Be_init_29 L, iR_Be_init_29 Rf)) := by
  refine CT.of (by decide +kernel) (Nat.le_of_ble_eq_true rfl) ?_
  show X G 1 m_Be_init 0 [(0, .ref (xB G + 29))] [] _ _
  refine X_aload_n (pc := 0) (i := 0) 0 dX0_init_0 rfl rfl ?_
  refine X_objInit (pc := 1) k_326 k_92 k_93 (by decide) (by decide) dX0_init_1 ?_
  refine X_aload_n (pc := 4) (i := 0) 0 dX0_init_4 rfl rfl ?_
  refine X_iconst (pc := 5) (4 : Int32) dX0_init_5 (by decide) ?_
  refine X_newaC (pc := 6) (atype := .int) (t := 0) (N := 4) (by decide) rfl k_150 (by decide) (by decide) (by decide) (xSl 31) 30 rfl rfl dX0_init_6 ?_
  refine X_putr (pc := 8) (a := 29) (ci := 0) (j := 1) true rfl (by decide) k_329 rfl (fun _ => ⟨rfl, rfl⟩) (by first | exact Or.inl ⟨_, rfl⟩ | exact Or.inr ⟨_, rfl⟩) dX0_init_8 ?_
  refine X_aload_n (pc := 11) (i := 0) 0 dX0_init_11 rfl rfl ?_
  refine X_sipush (pc := 12) (16032 : Int32) dX0_init_12 (by decide) ?_
  refine X_newaC (pc := 15) (atype := .int) (t := 0) (N := 16032) (by decide) rfl k_150 (by decide) (by decide) (by decide) (xSl 32) 31 rfl rfl dX0_init_15 ?_
  refine X_putr (pc := 17) (a := 29) (ci := 0) (j := 2) true rfl (by decide) k_331 rfl (fun _ => ⟨rfl, rfl⟩) (by first | exact Or.inl ⟨_, rfl⟩ | exact Or.inr ⟨_, rfl⟩) dX0_init_17 ?_
  refine X_aload_n (pc := 20) (i := 0) 0 dX0_init_20 rfl rfl ?_
  refine X_sipush (pc := 21) (128 : Int32) dX0_init_21 (by decide) ?_
  refine X_newaC (pc := 24) (atype := .int) (t := 0) (N := 128) (by decide) rfl k_150 (by decide) (by decide) (by decide) (xSl 33) 32 rfl rfl dX0_init_24 ?_
  refine X_putr (pc := 26) (a := 29) (ci := 0) (j := 3) true rfl (by decide) k_332 rfl (fun _ => ⟨rfl, rfl⟩) (by first | exact Or.inl ⟨_, rfl⟩ | exact Or.inr ⟨_, rfl⟩) dX0_init_26 ?_
  refine X_aload_n (pc := 29) (i := 0) 0 dX0_init_29 rfl rfl ?_
  refine X_sipush (pc := 30) (128 : Int32) dX0_init_30 (by decide) ?_
  refine X_newaC (pc := 33) (atype := .boolean) (t := 2) (N := 128) (by decide) rfl k_345 (by decide) (by decide) (by decide) (xSl 34) 33 rfl rfl dX0_init_33 ?_
  refine X_putr (pc := 35) (a := 29) (ci := 0) (j := 4) true rfl (by decide) k_333 rfl (fun _ => ⟨rfl, rfl⟩) (by first | exact Or.inl ⟨_, rfl⟩ | exact Or.inr ⟨_, rfl⟩) dX0_init_35 ?_
  exact X_return (pc := 38) rfl dX0_init_38
theorem dX11_init_0 : decode cX11_init 0 = .ok (.aload_n 0, 1) := by decide +kernel
theorem dX11_init_1 : decode cX11_init 1 = .ok (.invokespecial 1, 3) := by decide +kernel
theorem dX11_init_4 : decode cX11_init 4 = .ok (.aload_n 0, 1) := by decide +kernel
theorem dX11_init_5 : decode cX11_init 5 = .ok (.new 7, 3) := by decide +kernel
theorem dX11_init_8 : decode cX11_init 8 = .ok (.dup, 1) := by decide +kernel
theorem dX11_init_9 : decode cX11_init 9 = .ok (.invokespecial 9, 3) := by decide +kernel
theorem dX11_init_12 : decode cX11_init 12 = .ok (.putfield 10, 3) := by decide +kernel
theorem dX11_init_15 : decode cX11_init 15 = .ok (.aload_n 0, 1) := by decide +kernel
theorem dX11_init_16 : decode cX11_init 16 = .ok (.aload_n 0, 1) := by decide +kernel
theorem dX11_init_17 : decode cX11_init 17 = .ok (.getfield 10, 3) := by decide +kernel
theorem dX11_init_20 : decode cX11_init 20 = .ok (.getfield 16, 3) := by decide +kernel
theorem dX11_init_23 : decode cX11_init 23 = .ok (.putfield 20, 3) := by decide +kernel
theorem dX11_init_26 : decode cX11_init 26 = .ok (.aload_n 0, 1) := by decide +kernel
theorem dX11_init_27 : decode cX11_init 27 = .ok (.bipush 8, 2) := by decide +kernel
theorem dX11_init_29 : decode cX11_init 29 = .ok (.anewarray 21, 3) := by decide +kernel
theorem dX11_init_32 : decode cX11_init 32 = .ok (.putfield 23, 3) := by decide +kernel
theorem dX11_init_35 : decode cX11_init 35 = .ok (.aload_n 0, 1) := by decide +kernel
theorem dX11_init_36 : decode cX11_init 36 = .ok (.iconst 4, 1) := by decide +kernel
theorem dX11_init_37 : decode cX11_init 37 = .ok (.anewarray 27, 3) := by decide +kernel
theorem dX11_init_40 : decode cX11_init 40 = .ok (.putfield 29, 3) := by decide +kernel
theorem dX11_init_43 : decode cX11_init 43 = .ok (.aload_n 0, 1) := by decide +kernel
theorem dX11_init_44 : decode cX11_init 44 = .ok (.new 33, 3) := by decide +kernel
theorem dX11_init_47 : decode cX11_init 47 = .ok (.dup, 1) := by decide +kernel
theorem dX11_init_48 : decode cX11_init 48 = .ok (.iconst 3, 1) := by decide +kernel
theorem dX11_init_49 : decode cX11_init 49 = .ok (.sipush 1000, 3) := by decide +kernel
theorem dX11_init_52 : decode cX11_init 52 = .ok (.invokespecial 35, 3) := by decide +kernel
theorem dX11_init_55 : decode cX11_init 55 = .ok (.putfield 38, 3) := by decide +kernel
theorem dX11_init_58 : decode cX11_init 58 = .ok (.aload_n 0, 1) := by decide +kernel
theorem dX11_init_59 : decode cX11_init 59 = .ok (.new 33, 3) := by decide +kernel
theorem dX11_init_62 : decode cX11_init 62 = .ok (.dup, 1) := by decide +kernel
theorem dX11_init_63 : decode cX11_init 63 = .ok (.iconst 4, 1) := by decide +kernel
theorem dX11_init_64 : decode cX11_init 64 = .ok (.sipush 2000, 3) := by decide +kernel
theorem dX11_init_67 : decode cX11_init 67 = .ok (.invokespecial 35, 3) := by decide +kernel
theorem dX11_init_70 : decode cX11_init 70 = .ok (.putfield 42, 3) := by decide +kernel
theorem dX11_init_73 : decode cX11_init 73 = .ok (.aload_n 0, 1) := by decide +kernel
theorem dX11_init_74 : decode cX11_init 74 = .ok (.new 45, 3) := by decide +kernel
theorem dX11_init_77 : decode cX11_init 77 = .ok (.dup, 1) := by decide +kernel
theorem dX11_init_78 : decode cX11_init 78 = .ok (.invokespecial 47, 3) := by decide +kernel
theorem dX11_init_81 : decode cX11_init 81 = .ok (.putfield 48, 3) := by decide +kernel
theorem dX11_init_84 : decode cX11_init 84 = .ok (.aload_n 0, 1) := by decide +kernel
theorem dX11_init_85 : decode cX11_init 85 = .ok (.new 52, 3) := by decide +kernel
theorem dX11_init_88 : decode cX11_init 88 = .ok (.dup, 1) := by decide +kernel
theorem dX11_init_89 : decode cX11_init 89 = .ok (.invokespecial 54, 3) := by decide +kernel
theorem dX11_init_92 : decode cX11_init 92 = .ok (.putfield 55, 3) := by decide +kernel
theorem dX11_init_95 : decode cX11_init 95 = .ok (.aload_n 0, 1) := by decide +kernel
theorem dX11_init_96 : decode cX11_init 96 = .ok (.bipush 15, 2) := by decide +kernel
theorem dX11_init_98 : decode cX11_init 98 = .ok (.newarray .int, 2) := by decide +kernel
theorem dX11_init_100 : decode cX11_init 100 = .ok (.putfield 59, 3) := by decide +kernel
theorem dX11_init_103 : decode cX11_init 103 = .ok (.aload_n 0, 1) := by decide +kernel
theorem dX11_init_104 : decode cX11_init 104 = .ok (.new 63, 3) := by decide +kernel
theorem dX11_init_107 : decode cX11_init 107 = .ok (.dup, 1) := by decide +kernel
theorem dX11_init_108 : decode cX11_init 108 = .ok (.invokespecial 65, 3) := by decide +kernel
theorem dX11_init_111 : decode cX11_init 111 = .ok (.putfield 66, 3) := by decide +kernel
theorem dX11_init_114 : decode cX11_init 114 = .ok (.aload_n 0, 1) := by decide +kernel
theorem dX11_init_115 : decode cX11_init 115 = .ok (.invokevirtual 70, 3) := by decide +kernel
theorem dX11_init_118 : decode cX11_init 118 = .ok (.return_, 1) := by decide +kernel
def iI_H_init_0 (I : Nat → Nat → Int32) : Nat → Nat → Int32 := (iI_Be_init_29 (uZ (uZ (iI_Ch_init_22 (uZ (iI_Tr_init_17 (uZ (iI_Ro_init_15 (uZ (iI_Ro_init_13 (uZ (uZ (uZ (iI_Es_init_1 (uZ I 1 0)) 11 0) 12 0) 13 0)) 15 0)) 17 0)) 22 0)) 28 0) 29 0))
def iL_H_init_0 (L : Nat → Nat → Int64) : Nat → Nat → Int64 := (iL_Be_init_29 (uZ (uZ (iL_Ch_init_22 (uZ (iL_Tr_init_17 (uZ (iL_Ro_init_15 (uZ (iL_Ro_init_13 (uZ (uZ (uZ (iL_Es_init_1 (uZ L 1 0)) 11 0) 12 0) 13 0)) 15 0)) 17 0)) 22 0)) 28 0) 29 0))
def iR_H_init_0 (Rf : Nat → Nat → Option Nat) : Nat → Nat → Option Nat := (uR (iR_Be_init_29 (uZ (uR (uZ (uR (iR_Ch_init_22 (uZ (uR (iR_Tr_init_17 (uZ (uR (iR_Ro_init_15 (uZ (uR (iR_Ro_init_13 (uZ (uR (uZ (uR (uZ (uR (uR (iR_Es_init_1 (uZ Rf 1 none)) 0 0 (some 1)) 0 1 (some 2)) 11 none) 0 2 (some 11)) 12 none) 0 3 (some 12)) 13 none)) 0 4 (some 13)) 15 none)) 0 5 (some 15)) 17 none)) 0 9 (some 17)) 22 none)) 0 10 (some 22)) 28 none) 0 11 (some 28)) 29 none)) 0 12 (some 29))
theorem T_H_init_0 (Rf : Nat → Nat → Option Nat) : xTH (xSl 34) (iR_H_init_0 Rf) := ⟨by decide, (List.forall_mem_cons.mpr ⟨rfl, (List.forall_mem_cons.mpr ⟨rfl, (List.forall_mem_cons.mpr ⟨rfl, (List.forall_mem_cons.mpr ⟨rfl, (List.forall_mem_cons.mpr ⟨rfl, (List.forall_mem_cons.mpr ⟨rfl, (List.forall_mem_cons.mpr ⟨rfl, (List.forall_mem_cons.mpr ⟨rfl, (List.forall_mem_cons.mpr ⟨rfl, (List.forall_mem_cons.mpr ⟨rfl, (List.forall_mem_cons.mpr ⟨rfl, (List.forall_mem_cons.mpr ⟨rfl, (List.forall_mem_cons.mpr ⟨rfl, (List.forall_mem_cons.mpr ⟨rfl, (List.forall_mem_cons.mpr ⟨rfl, (List.forall_mem_cons.mpr ⟨rfl, (List.forall_mem_cons.mpr ⟨rfl, (List.forall_mem_cons.mpr ⟨rfl, (List.forall_mem_cons.mpr ⟨rfl, (List.forall_mem_cons.mpr ⟨rfl, (List.forall_mem_cons.mpr ⟨rfl, (List.forall_mem_cons.mpr ⟨rfl, (List.forall_mem_cons.mpr ⟨rfl, (List.forall_mem_cons.mpr ⟨rfl, (List.forall_mem_cons.mpr ⟨rfl, (List.forall_mem_cons.mpr ⟨rfl, (List.forall_mem_cons.mpr ⟨rfl, (List.forall_mem_cons.mpr ⟨rfl, (List.forall_mem_cons.mpr ⟨rfl, (List.forall_mem_cons.mpr ⟨rfl, (List.forall_mem_cons.mpr ⟨rfl, (List.forall_mem_cons.mpr ⟨rfl, (List.forall_mem_cons.mpr ⟨rfl, (List.forall_mem_cons.mpr ⟨rfl, (fun _ h => absurd h List.not_mem_nil)⟩)⟩)⟩)⟩)⟩)⟩)⟩)⟩)⟩)⟩)⟩)⟩)⟩)⟩)⟩)⟩)⟩)⟩)⟩)⟩)⟩)⟩)⟩)⟩)⟩)⟩)⟩)⟩)⟩)⟩)⟩)⟩)⟩)⟩)⟩
set_option maxRecDepth 100000 in
set_option maxHeartbeats 4000000 in
theorem c_H_init_0 {G : xG} {I : Nat → Nat → Int32} {L : Nat → Nat → Int64} {Rf : Nat → Nat → Option Nat} {q : xH} (hq : f_H_clearMovement (xSl 34) (iR_H_init_0 Rf) (iI_H_init_0 I) (iL_H_init_0 L) = some q) : CT G 5 m_H_init [.ref (xB G + 0)] (xSl 1, I, L, Rf) (none, q) := by
  refine CT.of (by decide +kernel) (Nat.le_of_ble_eq_true rfl) ?_
  show X G 5 m_H_init 0 [(0, .ref (xB G + 0))] [] _ _
  refine X_aload_n (pc := 0) (i := 0) 0 dX11_init_0 rfl rfl ?_
  refine X_objInit (pc := 1) k_91 k_92 k_93 (by decide) (by decide) dX11_init_1 ?_
  refine X_aload_n (pc := 4) (i := 0) 0 dX11_init_4 rfl rfl ?_
  refine X_newC (pc := 5) (ci := 5) (by decide) k_94 k_95 k_71 (xSl 2) 1 rfl rfl dX11_init_5 ?_
  refine X_dup (pc := 8) dX11_init_8 rfl ?_
  refine X_invIN_v (pc := 9) c_Es_init_1 ok_Es_init rfl rfl k_96 k_97 nd_1 (by decide) rfl (Nat.le_of_ble_eq_true rfl) dX11_init_9 ?_
  refine X_putr (pc := 12) (a := 0) (ci := 10) (j := 0) true rfl (by decide) k_377 rfl (fun _ => ⟨rfl, rfl⟩) (by first | exact Or.inl ⟨_, rfl⟩ | exact Or.inr ⟨_, rfl⟩) dX11_init_12 ?_
  refine X_aload_n (pc := 15) (i := 0) 0 dX11_init_15 rfl rfl ?_
  refine X_aload_n (pc := 16) (i := 0) 0 dX11_init_16 rfl rfl ?_
  refine X_getr (pc := 17) (a := 0) (ci := 10) (j := 0) (c := 1) rfl (by decide) k_377 rfl (fun _ h => h) dX11_init_17 ?_
  refine X_getr (pc := 20) (a := 1) (ci := 5) (j := 0) (c := 2) rfl (by decide) k_173 rfl (fun _ h => h) dX11_init_20 ?_
  refine X_putr (pc := 23) (a := 0) (ci := 10) (j := 1) true rfl (by decide) k_378 rfl (fun _ => ⟨rfl, rfl⟩) (by first | exact Or.inl ⟨_, rfl⟩ | exact Or.inr ⟨_, rfl⟩) dX11_init_23 ?_
  refine X_aload_n (pc := 26) (i := 0) 0 dX11_init_26 rfl rfl ?_
  refine X_bipush (pc := 27) (8 : Int32) dX11_init_27 (by decide) ?_
  refine X_anewC (pc := 29) (t := 3) (N := 8) (Or.inl ⟨rfl, rfl⟩) k_232 (by decide) (by decide) (by decide) (xSl 12) 11 rfl rfl dX11_init_29 ?_
  refine X_putr (pc := 32) (a := 0) (ci := 10) (j := 2) true rfl (by decide) k_379 rfl (fun _ => ⟨rfl, rfl⟩) (by first | exact Or.inl ⟨_, rfl⟩ | exact Or.inr ⟨_, rfl⟩) dX11_init_32 ?_
  refine X_aload_n (pc := 35) (i := 0) 0 dX11_init_35 rfl rfl ?_
  refine X_iconst (pc := 36) (4 : Int32) dX11_init_36 (by decide) ?_
  refine X_anewC (pc := 37) (t := 4) (N := 4) (Or.inr ⟨rfl, rfl⟩) k_234 (by decide) (by decide) (by decide) (xSl 13) 12 rfl rfl dX11_init_37 ?_
  refine X_putr (pc := 40) (a := 0) (ci := 10) (j := 3) true rfl (by decide) k_380 rfl (fun _ => ⟨rfl, rfl⟩) (by first | exact Or.inl ⟨_, rfl⟩ | exact Or.inr ⟨_, rfl⟩) dX11_init_40 ?_
  refine X_aload_n (pc := 43) (i := 0) 0 dX11_init_43 rfl rfl ?_
  refine X_newC (pc := 44) (ci := 7) (by decide) k_236 k_152 k_73 (xSl 14) 13 rfl rfl dX11_init_44 ?_
  refine X_dup (pc := 47) dX11_init_47 rfl ?_
  refine X_iconst (pc := 48) (3 : Int32) dX11_init_48 (by decide) ?_
  refine X_sipush (pc := 49) (1000 : Int32) dX11_init_49 (by decide) ?_
  refine X_invI_v (pc := 52) c_Ro_init_13 ok_Ro_init rfl rfl k_237 k_154 nd_10 (by decide) rfl (Nat.le_of_ble_eq_true rfl) dX11_init_52 ?_
  refine X_putr (pc := 55) (a := 0) (ci := 10) (j := 4) true rfl (by decide) k_381 rfl (fun _ => ⟨rfl, rfl⟩) (by first | exact Or.inl ⟨_, rfl⟩ | exact Or.inr ⟨_, rfl⟩) dX11_init_55 ?_
  refine X_aload_n (pc := 58) (i := 0) 0 dX11_init_58 rfl rfl ?_
  refine X_newC (pc := 59) (ci := 7) (by decide) k_236 k_152 k_73 (xSl 16) 15 rfl rfl dX11_init_59 ?_
  refine X_dup (pc := 62) dX11_init_62 rfl ?_
  refine X_iconst (pc := 63) (4 : Int32) dX11_init_63 (by decide) ?_
  refine X_sipush (pc := 64) (2000 : Int32) dX11_init_64 (by decide) ?_
  refine X_invI_v (pc := 67) c_Ro_init_15 ok_Ro_init rfl rfl k_237 k_154 nd_10 (by decide) rfl (Nat.le_of_ble_eq_true rfl) dX11_init_67 ?_
  refine X_putr (pc := 70) (a := 0) (ci := 10) (j := 5) true rfl (by decide) k_382 rfl (fun _ => ⟨rfl, rfl⟩) (by first | exact Or.inl ⟨_, rfl⟩ | exact Or.inr ⟨_, rfl⟩) dX11_init_70 ?_
  refine X_aload_n (pc := 73) (i := 0) 0 dX11_init_73 rfl rfl ?_
  refine X_newC (pc := 74) (ci := 9) (by decide) k_238 k_239 k_74 (xSl 18) 17 rfl rfl dX11_init_74 ?_
  refine X_dup (pc := 77) dX11_init_77 rfl ?_
  refine X_invIN_v (pc := 78) c_Tr_init_17 ok_Tr_init rfl rfl k_240 k_241 nd_1 (by decide) rfl (Nat.le_of_ble_eq_true rfl) dX11_init_78 ?_
  refine X_putr (pc := 81) (a := 0) (ci := 10) (j := 9) true rfl (by decide) k_386 rfl (fun _ => ⟨rfl, rfl⟩) (by first | exact Or.inl ⟨_, rfl⟩ | exact Or.inr ⟨_, rfl⟩) dX11_init_81 ?_
  refine X_aload_n (pc := 84) (i := 0) 0 dX11_init_84 rfl rfl ?_
  refine X_newC (pc := 85) (ci := 2) (by decide) k_295 k_296 k_75 (xSl 23) 22 rfl rfl dX11_init_85 ?_
  refine X_dup (pc := 88) dX11_init_88 rfl ?_
  refine X_invIN_v (pc := 89) c_Ch_init_22 ok_Ch_init rfl rfl k_297 k_298 nd_1 (by decide) rfl (Nat.le_of_ble_eq_true rfl) dX11_init_89 ?_
  refine X_putr (pc := 92) (a := 0) (ci := 10) (j := 10) true rfl (by decide) k_387 rfl (fun _ => ⟨rfl, rfl⟩) (by first | exact Or.inl ⟨_, rfl⟩ | exact Or.inr ⟨_, rfl⟩) dX11_init_92 ?_
  refine X_aload_n (pc := 95) (i := 0) 0 dX11_init_95 rfl rfl ?_
  refine X_bipush (pc := 96) (15 : Int32) dX11_init_96 (by decide) ?_
  refine X_newaC (pc := 98) (atype := .int) (t := 0) (N := 15) (by decide) rfl k_150 (by decide) (by decide) (by decide) (xSl 29) 28 rfl rfl dX11_init_98 ?_
  refine X_putr (pc := 100) (a := 0) (ci := 10) (j := 11) true rfl (by decide) k_388 rfl (fun _ => ⟨rfl, rfl⟩) (by first | exact Or.inl ⟨_, rfl⟩ | exact Or.inr ⟨_, rfl⟩) dX11_init_100 ?_
  refine X_aload_n (pc := 103) (i := 0) 0 dX11_init_103 rfl rfl ?_
  refine X_newC (pc := 104) (ci := 0) (by decide) k_321 k_322 k_76 (xSl 30) 29 rfl rfl dX11_init_104 ?_
  refine X_dup (pc := 107) dX11_init_107 rfl ?_
  refine X_invIN_v (pc := 108) c_Be_init_29 ok_Be_init rfl rfl k_323 k_324 nd_1 (by decide) rfl (Nat.le_of_ble_eq_true rfl) dX11_init_108 ?_
  refine X_putr (pc := 111) (a := 0) (ci := 10) (j := 12) true rfl (by decide) k_389 rfl (fun _ => ⟨rfl, rfl⟩) (by first | exact Or.inl ⟨_, rfl⟩ | exact Or.inr ⟨_, rfl⟩) dX11_init_111 ?_
  refine X_aload_n (pc := 114) (i := 0) 0 dX11_init_114 rfl rfl ?_
  refine X_invV_v (pc := 115) (c_H_clearMovement (T_H_init_0 Rf) hq) ok_H_clearMovement (ci := 10) rfl k_346 k_348 k_0 nd_1 (by decide) rfl (Nat.le_of_ble_eq_true rfl) dX11_init_115 ?_
  exact X_return (pc := 118) rfl dX11_init_118
theorem dX12_init_0 : decode cX12_init 0 = .ok (.aload_n 0, 1) := by decide +kernel
theorem dX12_init_1 : decode cX12_init 1 = .ok (.invokespecial 1, 3) := by decide +kernel
theorem dX12_init_4 : decode cX12_init 4 = .ok (.aload_n 0, 1) := by decide +kernel
theorem dX12_init_5 : decode cX12_init 5 = .ok (.bipush 40, 2) := by decide +kernel
theorem dX12_init_7 : decode cX12_init 7 = .ok (.newarray .int, 2) := by decide +kernel
theorem dX12_init_9 : decode cX12_init 9 = .ok (.putfield 9, 3) := by decide +kernel
theorem dX12_init_12 : decode cX12_init 12 = .ok (.aload_n 0, 1) := by decide +kernel
theorem dX12_init_13 : decode cX12_init 13 = .ok (.bipush 40, 2) := by decide +kernel
theorem dX12_init_15 : decode cX12_init 15 = .ok (.newarray .int, 2) := by decide +kernel
theorem dX12_init_17 : decode cX12_init 17 = .ok (.putfield 13, 3) := by decide +kernel
theorem dX12_init_20 : decode cX12_init 20 = .ok (.aload_n 0, 1) := by decide +kernel
theorem dX12_init_21 : decode cX12_init 21 = .ok (.bipush 40, 2) := by decide +kernel
theorem dX12_init_23 : decode cX12_init 23 = .ok (.newarray .int, 2) := by decide +kernel
theorem dX12_init_25 : decode cX12_init 25 = .ok (.putfield 16, 3) := by decide +kernel
theorem dX12_init_28 : decode cX12_init 28 = .ok (.aload_n 0, 1) := by decide +kernel
theorem dX12_init_29 : decode cX12_init 29 = .ok (.bipush 40, 2) := by decide +kernel
theorem dX12_init_31 : decode cX12_init 31 = .ok (.newarray .int, 2) := by decide +kernel
theorem dX12_init_33 : decode cX12_init 33 = .ok (.putfield 19, 3) := by decide +kernel
theorem dX12_init_36 : decode cX12_init 36 = .ok (.aload_n 0, 1) := by decide +kernel
theorem dX12_init_37 : decode cX12_init 37 = .ok (.bipush 40, 2) := by decide +kernel
theorem dX12_init_39 : decode cX12_init 39 = .ok (.newarray .int, 2) := by decide +kernel
theorem dX12_init_41 : decode cX12_init 41 = .ok (.putfield 22, 3) := by decide +kernel
theorem dX12_init_44 : decode cX12_init 44 = .ok (.aload_n 0, 1) := by decide +kernel
theorem dX12_init_45 : decode cX12_init 45 = .ok (.bipush 40, 2) := by decide +kernel
theorem dX12_init_47 : decode cX12_init 47 = .ok (.newarray .int, 2) := by decide +kernel
theorem dX12_init_49 : decode cX12_init 49 = .ok (.putfield 25, 3) := by decide +kernel
theorem dX12_init_52 : decode cX12_init 52 = .ok (.aload_n 0, 1) := by decide +kernel
theorem dX12_init_53 : decode cX12_init 53 = .ok (.bipush 9, 2) := by decide +kernel
theorem dX12_init_55 : decode cX12_init 55 = .ok (.newarray .int, 2) := by decide +kernel
theorem dX12_init_57 : decode cX12_init 57 = .ok (.putfield 28, 3) := by decide +kernel
theorem dX12_init_60 : decode cX12_init 60 = .ok (.aload_n 0, 1) := by decide +kernel
theorem dX12_init_61 : decode cX12_init 61 = .ok (.bipush 8, 2) := by decide +kernel
theorem dX12_init_63 : decode cX12_init 63 = .ok (.newarray .int, 2) := by decide +kernel
theorem dX12_init_65 : decode cX12_init 65 = .ok (.putfield 31, 3) := by decide +kernel
theorem dX12_init_68 : decode cX12_init 68 = .ok (.aload_n 0, 1) := by decide +kernel
theorem dX12_init_69 : decode cX12_init 69 = .ok (.bipush 8, 2) := by decide +kernel
theorem dX12_init_71 : decode cX12_init 71 = .ok (.newarray .int, 2) := by decide +kernel
theorem dX12_init_73 : decode cX12_init 73 = .ok (.putfield 34, 3) := by decide +kernel
theorem dX12_init_76 : decode cX12_init 76 = .ok (.aload_n 0, 1) := by decide +kernel
theorem dX12_init_77 : decode cX12_init 77 = .ok (.bipush 8, 2) := by decide +kernel
theorem dX12_init_79 : decode cX12_init 79 = .ok (.newarray .int, 2) := by decide +kernel
theorem dX12_init_81 : decode cX12_init 81 = .ok (.putfield 37, 3) := by decide +kernel
theorem dX12_init_84 : decode cX12_init 84 = .ok (.aload_n 0, 1) := by decide +kernel
theorem dX12_init_85 : decode cX12_init 85 = .ok (.bipush 8, 2) := by decide +kernel
theorem dX12_init_87 : decode cX12_init 87 = .ok (.newarray .int, 2) := by decide +kernel
theorem dX12_init_89 : decode cX12_init 89 = .ok (.putfield 40, 3) := by decide +kernel
theorem dX12_init_92 : decode cX12_init 92 = .ok (.aload_n 0, 1) := by decide +kernel
theorem dX12_init_93 : decode cX12_init 93 = .ok (.bipush 8, 2) := by decide +kernel
theorem dX12_init_95 : decode cX12_init 95 = .ok (.newarray .int, 2) := by decide +kernel
theorem dX12_init_97 : decode cX12_init 97 = .ok (.putfield 43, 3) := by decide +kernel
theorem dX12_init_100 : decode cX12_init 100 = .ok (.aload_n 0, 1) := by decide +kernel
theorem dX12_init_101 : decode cX12_init 101 = .ok (.iconst 4, 1) := by decide +kernel
theorem dX12_init_102 : decode cX12_init 102 = .ok (.newarray .int, 2) := by decide +kernel
theorem dX12_init_104 : decode cX12_init 104 = .ok (.putfield 46, 3) := by decide +kernel
theorem dX12_init_107 : decode cX12_init 107 = .ok (.aload_n 0, 1) := by decide +kernel
theorem dX12_init_108 : decode cX12_init 108 = .ok (.bipush 80, 2) := by decide +kernel
theorem dX12_init_110 : decode cX12_init 110 = .ok (.newarray .int, 2) := by decide +kernel
theorem dX12_init_112 : decode cX12_init 112 = .ok (.putfield 49, 3) := by decide +kernel
theorem dX12_init_115 : decode cX12_init 115 = .ok (.aload_n 0, 1) := by decide +kernel
theorem dX12_init_116 : decode cX12_init 116 = .ok (.iconst 4, 1) := by decide +kernel
theorem dX12_init_117 : decode cX12_init 117 = .ok (.newarray .int, 2) := by decide +kernel
theorem dX12_init_119 : decode cX12_init 119 = .ok (.putfield 52, 3) := by decide +kernel
theorem dX12_init_122 : decode cX12_init 122 = .ok (.aload_n 0, 1) := by decide +kernel
theorem dX12_init_123 : decode cX12_init 123 = .ok (.iconst 4, 1) := by decide +kernel
theorem dX12_init_124 : decode cX12_init 124 = .ok (.newarray .int, 2) := by decide +kernel
theorem dX12_init_126 : decode cX12_init 126 = .ok (.putfield 55, 3) := by decide +kernel
theorem dX12_init_129 : decode cX12_init 129 = .ok (.aload_n 0, 1) := by decide +kernel
theorem dX12_init_130 : decode cX12_init 130 = .ok (.iconst 4, 1) := by decide +kernel
theorem dX12_init_131 : decode cX12_init 131 = .ok (.newarray .int, 2) := by decide +kernel
theorem dX12_init_133 : decode cX12_init 133 = .ok (.putfield 58, 3) := by decide +kernel
theorem dX12_init_136 : decode cX12_init 136 = .ok (.aload_n 0, 1) := by decide +kernel
theorem dX12_init_137 : decode cX12_init 137 = .ok (.iconst 4, 1) := by decide +kernel
theorem dX12_init_138 : decode cX12_init 138 = .ok (.newarray .boolean, 2) := by decide +kernel
theorem dX12_init_140 : decode cX12_init 140 = .ok (.putfield 61, 3) := by decide +kernel
theorem dX12_init_143 : decode cX12_init 143 = .ok (.aload_n 0, 1) := by decide +kernel
theorem dX12_init_144 : decode cX12_init 144 = .ok (.sipush 6000, 3) := by decide +kernel
theorem dX12_init_147 : decode cX12_init 147 = .ok (.newarray .int, 2) := by decide +kernel
theorem dX12_init_149 : decode cX12_init 149 = .ok (.putfield 65, 3) := by decide +kernel
theorem dX12_init_152 : decode cX12_init 152 = .ok (.aload_n 0, 1) := by decide +kernel
theorem dX12_init_153 : decode cX12_init 153 = .ok (.sipush 3000, 3) := by decide +kernel
theorem dX12_init_156 : decode cX12_init 156 = .ok (.newarray .int, 2) := by decide +kernel
theorem dX12_init_158 : decode cX12_init 158 = .ok (.putfield 68, 3) := by decide +kernel
theorem dX12_init_161 : decode cX12_init 161 = .ok (.aload_n 0, 1) := by decide +kernel
theorem dX12_init_162 : decode cX12_init 162 = .ok (.sipush 8000, 3) := by decide +kernel
theorem dX12_init_165 : decode cX12_init 165 = .ok (.newarray .int, 2) := by decide +kernel
theorem dX12_init_167 : decode cX12_init 167 = .ok (.putfield 71, 3) := by decide +kernel
theorem dX12_init_170 : decode cX12_init 170 = .ok (.aload_n 0, 1) := by decide +kernel
theorem dX12_init_171 : decode cX12_init 171 = .ok (.iconst 5, 1) := by decide +kernel
theorem dX12_init_172 : decode cX12_init 172 = .ok (.newarray .int, 2) := by decide +kernel
theorem dX12_init_174 : decode cX12_init 174 = .ok (.putfield 74, 3) := by decide +kernel
theorem dX12_init_177 : decode cX12_init 177 = .ok (.aload_n 0, 1) := by decide +kernel
theorem dX12_init_178 : decode cX12_init 178 = .ok (.bipush 24, 2) := by decide +kernel
theorem dX12_init_180 : decode cX12_init 180 = .ok (.newarray .boolean, 2) := by decide +kernel
theorem dX12_init_182 : decode cX12_init 182 = .ok (.putfield 77, 3) := by decide +kernel
theorem dX12_init_185 : decode cX12_init 185 = .ok (.aload_n 0, 1) := by decide +kernel
theorem dX12_init_186 : decode cX12_init 186 = .ok (.bipush 24, 2) := by decide +kernel
theorem dX12_init_188 : decode cX12_init 188 = .ok (.newarray .long, 2) := by decide +kernel
theorem dX12_init_190 : decode cX12_init 190 = .ok (.putfield 80, 3) := by decide +kernel
theorem dX12_init_193 : decode cX12_init 193 = .ok (.aload_n 0, 1) := by decide +kernel
theorem dX12_init_194 : decode cX12_init 194 = .ok (.bipush 24, 2) := by decide +kernel
theorem dX12_init_196 : decode cX12_init 196 = .ok (.newarray .long, 2) := by decide +kernel
theorem dX12_init_198 : decode cX12_init 198 = .ok (.putfield 84, 3) := by decide +kernel
theorem dX12_init_201 : decode cX12_init 201 = .ok (.aload_n 0, 1) := by decide +kernel
theorem dX12_init_202 : decode cX12_init 202 = .ok (.iconst 4, 1) := by decide +kernel
theorem dX12_init_203 : decode cX12_init 203 = .ok (.newarray .int, 2) := by decide +kernel
theorem dX12_init_205 : decode cX12_init 205 = .ok (.putfield 87, 3) := by decide +kernel
theorem dX12_init_208 : decode cX12_init 208 = .ok (.aload_n 0, 1) := by decide +kernel
theorem dX12_init_209 : decode cX12_init 209 = .ok (.bipush 6, 2) := by decide +kernel
theorem dX12_init_211 : decode cX12_init 211 = .ok (.newarray .int, 2) := by decide +kernel
theorem dX12_init_213 : decode cX12_init 213 = .ok (.putfield 90, 3) := by decide +kernel
theorem dX12_init_216 : decode cX12_init 216 = .ok (.aload_n 0, 1) := by decide +kernel
theorem dX12_init_217 : decode cX12_init 217 = .ok (.bipush 6, 2) := by decide +kernel
theorem dX12_init_219 : decode cX12_init 219 = .ok (.newarray .int, 2) := by decide +kernel
theorem dX12_init_221 : decode cX12_init 221 = .ok (.putfield 93, 3) := by decide +kernel
theorem dX12_init_224 : decode cX12_init 224 = .ok (.aload_n 0, 1) := by decide +kernel
theorem dX12_init_225 : decode cX12_init 225 = .ok (.bipush 6, 2) := by decide +kernel
theorem dX12_init_227 : decode cX12_init 227 = .ok (.newarray .int, 2) := by decide +kernel
theorem dX12_init_229 : decode cX12_init 229 = .ok (.putfield 96, 3) := by decide +kernel
theorem dX12_init_232 : decode cX12_init 232 = .ok (.aload_n 0, 1) := by decide +kernel
theorem dX12_init_233 : decode cX12_init 233 = .ok (.bipush 8, 2) := by decide +kernel
theorem dX12_init_235 : decode cX12_init 235 = .ok (.newarray .int, 2) := by decide +kernel
theorem dX12_init_237 : decode cX12_init 237 = .ok (.putfield 99, 3) := by decide +kernel
theorem dX12_init_240 : decode cX12_init 240 = .ok (.aload_n 0, 1) := by decide +kernel
theorem dX12_init_241 : decode cX12_init 241 = .ok (.bipush 8, 2) := by decide +kernel
theorem dX12_init_243 : decode cX12_init 243 = .ok (.newarray .int, 2) := by decide +kernel
theorem dX12_init_245 : decode cX12_init 245 = .ok (.putfield 102, 3) := by decide +kernel
theorem dX12_init_248 : decode cX12_init 248 = .ok (.aload_n 0, 1) := by decide +kernel
theorem dX12_init_249 : decode cX12_init 249 = .ok (.bipush 8, 2) := by decide +kernel
theorem dX12_init_251 : decode cX12_init 251 = .ok (.newarray .int, 2) := by decide +kernel
theorem dX12_init_253 : decode cX12_init 253 = .ok (.putfield 105, 3) := by decide +kernel
theorem dX12_init_256 : decode cX12_init 256 = .ok (.aload_n 0, 1) := by decide +kernel
theorem dX12_init_257 : decode cX12_init 257 = .ok (.bipush 8, 2) := by decide +kernel
theorem dX12_init_259 : decode cX12_init 259 = .ok (.newarray .int, 2) := by decide +kernel
theorem dX12_init_261 : decode cX12_init 261 = .ok (.putfield 108, 3) := by decide +kernel
theorem dX12_init_264 : decode cX12_init 264 = .ok (.aload_n 0, 1) := by decide +kernel
theorem dX12_init_265 : decode cX12_init 265 = .ok (.sipush 800, 3) := by decide +kernel
theorem dX12_init_268 : decode cX12_init 268 = .ok (.newarray .long, 2) := by decide +kernel
theorem dX12_init_270 : decode cX12_init 270 = .ok (.putfield 111, 3) := by decide +kernel
theorem dX12_init_273 : decode cX12_init 273 = .ok (.aload_n 0, 1) := by decide +kernel
theorem dX12_init_274 : decode cX12_init 274 = .ok (.sipush 800, 3) := by decide +kernel
theorem dX12_init_277 : decode cX12_init 277 = .ok (.newarray .long, 2) := by decide +kernel
theorem dX12_init_279 : decode cX12_init 279 = .ok (.putfield 114, 3) := by decide +kernel
theorem dX12_init_282 : decode cX12_init 282 = .ok (.aload_n 0, 1) := by decide +kernel
theorem dX12_init_283 : decode cX12_init 283 = .ok (.bipush 15, 2) := by decide +kernel
theorem dX12_init_285 : decode cX12_init 285 = .ok (.newarray .int, 2) := by decide +kernel
theorem dX12_init_287 : decode cX12_init 287 = .ok (.putfield 117, 3) := by decide +kernel
theorem dX12_init_290 : decode cX12_init 290 = .ok (.aload_n 0, 1) := by decide +kernel
theorem dX12_init_291 : decode cX12_init 291 = .ok (.sipush 16032, 3) := by decide +kernel
theorem dX12_init_294 : decode cX12_init 294 = .ok (.newarray .int, 2) := by decide +kernel
theorem dX12_init_296 : decode cX12_init 296 = .ok (.putfield 120, 3) := by decide +kernel
theorem dX12_init_299 : decode cX12_init 299 = .ok (.aload_n 0, 1) := by decide +kernel
theorem dX12_init_300 : decode cX12_init 300 = .ok (.sipush 128, 3) := by decide +kernel
theorem dX12_init_303 : decode cX12_init 303 = .ok (.newarray .int, 2) := by decide +kernel
theorem dX12_init_305 : decode cX12_init 305 = .ok (.putfield 123, 3) := by decide +kernel
theorem dX12_init_308 : decode cX12_init 308 = .ok (.aload_n 0, 1) := by decide +kernel
theorem dX12_init_309 : decode cX12_init 309 = .ok (.iconst 4, 1) := by decide +kernel
theorem dX12_init_310 : decode cX12_init 310 = .ok (.newarray .int, 2) := by decide +kernel
theorem dX12_init_312 : decode cX12_init 312 = .ok (.putfield 126, 3) := by decide +kernel
theorem dX12_init_315 : decode cX12_init 315 = .ok (.aload_n 0, 1) := by decide +kernel
theorem dX12_init_316 : decode cX12_init 316 = .ok (.sipush 128, 3) := by decide +kernel
theorem dX12_init_319 : decode cX12_init 319 = .ok (.newarray .boolean, 2) := by decide +kernel
theorem dX12_init_321 : decode cX12_init 321 = .ok (.putfield 129, 3) := by decide +kernel
theorem dX12_init_324 : decode cX12_init 324 = .ok (.aload_n 0, 1) := by decide +kernel
theorem dX12_init_325 : decode cX12_init 325 = .ok (.getfield 87, 3) := by decide +kernel
theorem dX12_init_328 : decode cX12_init 328 = .ok (.iconst 0, 1) := by decide +kernel
theorem dX12_init_329 : decode cX12_init 329 = .ok (.bipush 20, 2) := by decide +kernel
theorem dX12_init_331 : decode cX12_init 331 = .ok (.iastore, 1) := by decide +kernel
theorem dX12_init_332 : decode cX12_init 332 = .ok (.aload_n 0, 1) := by decide +kernel
theorem dX12_init_333 : decode cX12_init 333 = .ok (.getfield 87, 3) := by decide +kernel
theorem dX12_init_336 : decode cX12_init 336 = .ok (.iconst 1, 1) := by decide +kernel
theorem dX12_init_337 : decode cX12_init 337 = .ok (.bipush 40, 2) := by decide +kernel
theorem dX12_init_339 : decode cX12_init 339 = .ok (.iastore, 1) := by decide +kernel
theorem dX12_init_340 : decode cX12_init 340 = .ok (.aload_n 0, 1) := by decide +kernel
theorem dX12_init_341 : decode cX12_init 341 = .ok (.getfield 87, 3) := by decide +kernel
theorem dX12_init_344 : decode cX12_init 344 = .ok (.iconst 2, 1) := by decide +kernel
theorem dX12_init_345 : decode cX12_init 345 = .ok (.bipush 6, 2) := by decide +kernel
theorem dX12_init_347 : decode cX12_init 347 = .ok (.iastore, 1) := by decide +kernel
theorem dX12_init_348 : decode cX12_init 348 = .ok (.aload_n 0, 1) := by decide +kernel
theorem dX12_init_349 : decode cX12_init 349 = .ok (.getfield 87, 3) := by decide +kernel
theorem dX12_init_352 : decode cX12_init 352 = .ok (.iconst 3, 1) := by decide +kernel
theorem dX12_init_353 : decode cX12_init 353 = .ok (.bipush 12, 2) := by decide +kernel
theorem dX12_init_355 : decode cX12_init 355 = .ok (.iastore, 1) := by decide +kernel
theorem dX12_init_356 : decode cX12_init 356 = .ok (.aload_n 0, 1) := by decide +kernel
theorem dX12_init_357 : decode cX12_init 357 = .ok (.invokevirtual 132, 3) := by decide +kernel
theorem dX12_init_360 : decode cX12_init 360 = .ok (.pop, 1) := by decide +kernel
theorem dX12_init_361 : decode cX12_init 361 = .ok (.return_, 1) := by decide +kernel
def iI_Md_init_34 (I : Nat → Nat → Int32) : Nat → Nat → Int32 := (uI (uI (uI (uI (uZ (uZ (uZ (uZ (uZ (uZ (uZ (uZ (uZ (uZ (uZ (uZ (uZ (uZ (uZ (uZ (uZ (uZ (uZ (uZ (uZ (uZ (uZ (uZ (uZ (uZ (uZ (uZ (uZ (uZ (uZ (uZ (uZ (uZ (uZ (uZ (uZ (uZ (uZ (uZ I 35 0) 36 0) 37 0) 38 0) 39 0) 40 0) 41 0) 42 0) 43 0) 44 0) 45 0) 46 0) 47 0) 48 0) 49 0) 50 0) 51 0) 52 0) 53 0) 54 0) 55 0) 56 0) 57 0) 58 0) 59 0) 60 0) 61 0) 62 0) 63 0) 64 0) 65 0) 66 0) 67 0) 68 0) 69 0) 70 0) 71 0) 72 0) 73 0) 74 0) 60 0 (20 : Int32)) 60 1 (40 : Int32)) 60 2 (6 : Int32)) 60 3 (12 : Int32))
def iL_Md_init_34 (L : Nat → Nat → Int64) : Nat → Nat → Int64 := (uZ (uZ (uZ (uZ (uZ (uZ (uZ (uZ (uZ (uZ (uZ (uZ (uZ (uZ (uZ (uZ (uZ (uZ (uZ (uZ (uZ (uZ (uZ (uZ (uZ (uZ (uZ (uZ (uZ (uZ (uZ (uZ (uZ (uZ (uZ (uZ (uZ (uZ (uZ (uZ L 35 0) 36 0) 37 0) 38 0) 39 0) 40 0) 41 0) 42 0) 43 0) 44 0) 45 0) 46 0) 47 0) 48 0) 49 0) 50 0) 51 0) 52 0) 53 0) 54 0) 55 0) 56 0) 57 0) 58 0) 59 0) 60 0) 61 0) 62 0) 63 0) 64 0) 65 0) 66 0) 67 0) 68 0) 69 0) 70 0) 71 0) 72 0) 73 0) 74 0)
def iR_Md_init_34 (Rf : Nat → Nat → Option Nat) : Nat → Nat → Option Nat := (uR (uZ (uR (uZ (uR (uZ (uR (uZ (uR (uZ (uR (uZ (uR (uZ (uR (uZ (uR (uZ (uR (uZ (uR (uZ (uR (uZ (uR (uZ (uR (uZ (uR (uZ (uR (uZ (uR (uZ (uR (uZ (uR (uZ (uR (uZ (uR (uZ (uR (uZ (uR (uZ (uR (uZ (uR (uZ (uR (uZ (uR (uZ (uR (uZ (uR (uZ (uR (uZ (uR (uZ (uR (uZ (uR (uZ (uR (uZ (uR (uZ (uR (uZ (uR (uZ (uR (uZ (uR (uZ (uR (uZ Rf 35 none) 34 2 (some 35)) 36 none) 34 3 (some 36)) 37 none) 34 4 (some 37)) 38 none) 34 5 (some 38)) 39 none) 34 6 (some 39)) 40 none) 34 7 (some 40)) 41 none) 34 15 (some 41)) 42 none) 34 17 (some 42)) 43 none) 34 18 (some 43)) 44 none) 34 19 (some 44)) 45 none) 34 20 (some 45)) 46 none) 34 21 (some 46)) 47 none) 34 23 (some 47)) 48 none) 34 33 (some 48)) 49 none) 34 34 (some 49)) 50 none) 34 35 (some 50)) 51 none) 34 36 (some 51)) 52 none) 34 37 (some 52)) 53 none) 34 38 (some 53)) 54 none) 34 39 (some 54)) 55 none) 34 41 (some 55)) 56 none) 34 44 (some 56)) 57 none) 34 48 (some 57)) 58 none) 34 49 (some 58)) 59 none) 34 50 (some 59)) 60 none) 34 53 (some 60)) 61 none) 34 55 (some 61)) 62 none) 34 60 (some 62)) 63 none) 34 64 (some 63)) 64 none) 34 68 (some 64)) 65 none) 34 69 (some 65)) 66 none) 34 70 (some 66)) 67 none) 34 71 (some 67)) 68 none) 34 72 (some 68)) 69 none) 34 73 (some 69)) 70 none) 34 74 (some 70)) 71 none) 34 76 (some 71)) 72 none) 34 77 (some 72)) 73 none) 34 78 (some 73)) 74 none) 34 79 (some 74))
theorem T_Md_init_34 (Rf : Nat → Nat → Option Nat) : xTM (xSl 75) (iR_Md_init_34 Rf) := ⟨by decide, (List.forall_mem_cons.mpr ⟨rfl, (List.forall_mem_cons.mpr ⟨rfl, (List.forall_mem_cons.mpr ⟨rfl, (List.forall_mem_cons.mpr ⟨rfl, (List.forall_mem_cons.mpr ⟨rfl, (List.forall_mem_cons.mpr ⟨rfl, (List.forall_mem_cons.mpr ⟨rfl, (List.forall_mem_cons.mpr ⟨rfl, (List.forall_mem_cons.mpr ⟨rfl, (List.forall_mem_cons.mpr ⟨rfl, (List.forall_mem_cons.mpr ⟨rfl, (List.forall_mem_cons.mpr ⟨rfl, (List.forall_mem_cons.mpr ⟨rfl, (List.forall_mem_cons.mpr ⟨rfl, (List.forall_mem_cons.mpr ⟨rfl, (List.forall_mem_cons.mpr ⟨rfl, (List.forall_mem_cons.mpr ⟨rfl, (List.forall_mem_cons.mpr ⟨rfl, (List.forall_mem_cons.mpr ⟨rfl, (List.forall_mem_cons.mpr ⟨rfl, (List.forall_mem_cons.mpr ⟨rfl, (List.forall_mem_cons.mpr ⟨rfl, (List.forall_mem_cons.mpr ⟨rfl, (List.forall_mem_cons.mpr ⟨rfl, (List.forall_mem_cons.mpr ⟨rfl, (List.forall_mem_cons.mpr ⟨rfl, (List.forall_mem_cons.mpr ⟨rfl, (List.forall_mem_cons.mpr ⟨rfl, (List.forall_mem_cons.mpr ⟨rfl, (List.forall_mem_cons.mpr ⟨rfl, (List.forall_mem_cons.mpr ⟨rfl, (List.forall_mem_cons.mpr ⟨rfl, (List.forall_mem_cons.mpr ⟨rfl, (List.forall_mem_cons.mpr ⟨rfl, (List.forall_mem_cons.mpr ⟨rfl, (List.forall_mem_cons.mpr ⟨rfl, (List.forall_mem_cons.mpr ⟨rfl, (List.forall_mem_cons.mpr ⟨rfl, (List.forall_mem_cons.mpr ⟨rfl, (List.forall_mem_cons.mpr ⟨rfl, (fun _ h => absurd h List.not_mem_nil)⟩)⟩)⟩)⟩)⟩)⟩)⟩)⟩)⟩)⟩)⟩)⟩)⟩)⟩)⟩)⟩)⟩)⟩)⟩)⟩)⟩)⟩)⟩)⟩)⟩)⟩)⟩)⟩)⟩)⟩)⟩)⟩)⟩)⟩)⟩)⟩)⟩)⟩)⟩)⟩)⟩
set_option maxRecDepth 100000 in
set_option maxHeartbeats 4000000 in
theorem c_Md_init_34 {G : xG} {I : Nat → Nat → Int32} {L : Nat → Nat → Int64} {Rf : Nat → Nat → Option Nat} {q : Int32 × (Nat → Nat → Int32) × (Nat → Nat → Int64)} (hq : f_Md_build (iI_Md_init_34 I) (iL_Md_init_34 L) = some q) : CT G 7 m_Md_init [.ref (xB G + 34)] (xSl 35, I, L, Rf) (none, (xSl 75, q.2.1, q.2.2, (iR_Md_init_34 Rf))) := by
  refine CT.of (by decide +kernel) (Nat.le_of_ble_eq_true rfl) ?_
  show X G 7 m_Md_init 0 [(0, .ref (xB G + 34))] [] _ _
  refine X_aload_n (pc := 0) (i := 0) 0 dX12_init_0 rfl rfl ?_
  refine X_objInit (pc := 1) k_1170 k_92 k_93 (by decide) (by decide) dX12_init_1 ?_
  refine X_aload_n (pc := 4) (i := 0) 0 dX12_init_4 rfl rfl ?_
  refine X_bipush (pc := 5) (40 : Int32) dX12_init_5 (by decide) ?_
  refine X_newaC (pc := 7) (atype := .int) (t := 0) (N := 40) (by decide) rfl k_150 (by decide) (by decide) (by decide) (xSl 36) 35 rfl rfl dX12_init_7 ?_
  refine X_putr (pc := 9) (a := 34) (ci := 11) (j := 2) true rfl (by decide) k_1199 rfl (fun _ => ⟨rfl, rfl⟩) (by first | exact Or.inl ⟨_, rfl⟩ | exact Or.inr ⟨_, rfl⟩) dX12_init_9 ?_
  refine X_aload_n (pc := 12) (i := 0) 0 dX12_init_12 rfl rfl ?_
  refine X_bipush (pc := 13) (40 : Int32) dX12_init_13 (by decide) ?_
  refine X_newaC (pc := 15) (atype := .int) (t := 0) (N := 40) (by decide) rfl k_150 (by decide) (by decide) (by decide) (xSl 37) 36 rfl rfl dX12_init_15 ?_
  refine X_putr (pc := 17) (a := 34) (ci := 11) (j := 3) true rfl (by decide) k_1200 rfl (fun _ => ⟨rfl, rfl⟩) (by first | exact Or.inl ⟨_, rfl⟩ | exact Or.inr ⟨_, rfl⟩) dX12_init_17 ?_
  refine X_aload_n (pc := 20) (i := 0) 0 dX12_init_20 rfl rfl ?_
  refine X_bipush (pc := 21) (40 : Int32) dX12_init_21 (by decide) ?_
  refine X_newaC (pc := 23) (atype := .int) (t := 0) (N := 40) (by decide) rfl k_150 (by decide) (by decide) (by decide) (xSl 38) 37 rfl rfl dX12_init_23 ?_
  refine X_putr (pc := 25) (a := 34) (ci := 11) (j := 4) true rfl (by decide) k_1201 rfl (fun _ => ⟨rfl, rfl⟩) (by first | exact Or.inl ⟨_, rfl⟩ | exact Or.inr ⟨_, rfl⟩) dX12_init_25 ?_
  refine X_aload_n (pc := 28) (i := 0) 0 dX12_init_28 rfl rfl ?_
  refine X_bipush (pc := 29) (40 : Int32) dX12_init_29 (by decide) ?_
  refine X_newaC (pc := 31) (atype := .int) (t := 0) (N := 40) (by decide) rfl k_150 (by decide) (by decide) (by decide) (xSl 39) 38 rfl rfl dX12_init_31 ?_
  refine X_putr (pc := 33) (a := 34) (ci := 11) (j := 5) true rfl (by decide) k_1202 rfl (fun _ => ⟨rfl, rfl⟩) (by first | exact Or.inl ⟨_, rfl⟩ | exact Or.inr ⟨_, rfl⟩) dX12_init_33 ?_
  refine X_aload_n (pc := 36) (i := 0) 0 dX12_init_36 rfl rfl ?_
  refine X_bipush (pc := 37) (40 : Int32) dX12_init_37 (by decide) ?_
  refine X_newaC (pc := 39) (atype := .int) (t := 0) (N := 40) (by decide) rfl k_150 (by decide) (by decide) (by decide) (xSl 40) 39 rfl rfl dX12_init_39 ?_
  refine X_putr (pc := 41) (a := 34) (ci := 11) (j := 6) true rfl (by decide) k_1203 rfl (fun _ => ⟨rfl, rfl⟩) (by first | exact Or.inl ⟨_, rfl⟩ | exact Or.inr ⟨_, rfl⟩) dX12_init_41 ?_
  refine X_aload_n (pc := 44) (i := 0) 0 dX12_init_44 rfl rfl ?_
  refine X_bipush (pc := 45) (40 : Int32) dX12_init_45 (by decide) ?_
  refine X_newaC (pc := 47) (atype := .int) (t := 0) (N := 40) (by decide) rfl k_150 (by decide) (by decide) (by decide) (xSl 41) 40 rfl rfl dX12_init_47 ?_
  refine X_putr (pc := 49) (a := 34) (ci := 11) (j := 7) true rfl (by decide) k_1204 rfl (fun _ => ⟨rfl, rfl⟩) (by first | exact Or.inl ⟨_, rfl⟩ | exact Or.inr ⟨_, rfl⟩) dX12_init_49 ?_
  refine X_aload_n (pc := 52) (i := 0) 0 dX12_init_52 rfl rfl ?_
  refine X_bipush (pc := 53) (9 : Int32) dX12_init_53 (by decide) ?_
  refine X_newaC (pc := 55) (atype := .int) (t := 0) (N := 9) (by decide) rfl k_150 (by decide) (by decide) (by decide) (xSl 42) 41 rfl rfl dX12_init_55 ?_
  refine X_putr (pc := 57) (a := 34) (ci := 11) (j := 15) true rfl (by decide) k_1212 rfl (fun _ => ⟨rfl, rfl⟩) (by first | exact Or.inl ⟨_, rfl⟩ | exact Or.inr ⟨_, rfl⟩) dX12_init_57 ?_
  refine X_aload_n (pc := 60) (i := 0) 0 dX12_init_60 rfl rfl ?_
  refine X_bipush (pc := 61) (8 : Int32) dX12_init_61 (by decide) ?_
  refine X_newaC (pc := 63) (atype := .int) (t := 0) (N := 8) (by decide) rfl k_150 (by decide) (by decide) (by decide) (xSl 43) 42 rfl rfl dX12_init_63 ?_
  refine X_putr (pc := 65) (a := 34) (ci := 11) (j := 17) true rfl (by decide) k_1214 rfl (fun _ => ⟨rfl, rfl⟩) (by first | exact Or.inl ⟨_, rfl⟩ | exact Or.inr ⟨_, rfl⟩) dX12_init_65 ?_
  refine X_aload_n (pc := 68) (i := 0) 0 dX12_init_68 rfl rfl ?_
  refine X_bipush (pc := 69) (8 : Int32) dX12_init_69 (by decide) ?_
  refine X_newaC (pc := 71) (atype := .int) (t := 0) (N := 8) (by decide) rfl k_150 (by decide) (by decide) (by decide) (xSl 44) 43 rfl rfl dX12_init_71 ?_
  refine X_putr (pc := 73) (a := 34) (ci := 11) (j := 18) true rfl (by decide) k_1215 rfl (fun _ => ⟨rfl, rfl⟩) (by first | exact Or.inl ⟨_, rfl⟩ | exact Or.inr ⟨_, rfl⟩) dX12_init_73 ?_
  refine X_aload_n (pc := 76) (i := 0) 0 dX12_init_76 rfl rfl ?_
  refine X_bipush (pc := 77) (8 : Int32) dX12_init_77 (by decide) ?_
  refine X_newaC (pc := 79) (atype := .int) (t := 0) (N := 8) (by decide) rfl k_150 (by decide) (by decide) (by decide) (xSl 45) 44 rfl rfl dX12_init_79 ?_
  refine X_putr (pc := 81) (a := 34) (ci := 11) (j := 19) true rfl (by decide) k_1216 rfl (fun _ => ⟨rfl, rfl⟩) (by first | exact Or.inl ⟨_, rfl⟩ | exact Or.inr ⟨_, rfl⟩) dX12_init_81 ?_
  refine X_aload_n (pc := 84) (i := 0) 0 dX12_init_84 rfl rfl ?_
  refine X_bipush (pc := 85) (8 : Int32) dX12_init_85 (by decide) ?_
  refine X_newaC (pc := 87) (atype := .int) (t := 0) (N := 8) (by decide) rfl k_150 (by decide) (by decide) (by decide) (xSl 46) 45 rfl rfl dX12_init_87 ?_
  refine X_putr (pc := 89) (a := 34) (ci := 11) (j := 20) true rfl (by decide) k_1217 rfl (fun _ => ⟨rfl, rfl⟩) (by first | exact Or.inl ⟨_, rfl⟩ | exact Or.inr ⟨_, rfl⟩) dX12_init_89 ?_
  refine X_aload_n (pc := 92) (i := 0) 0 dX12_init_92 rfl rfl ?_
  refine X_bipush (pc := 93) (8 : Int32) dX12_init_93 (by decide) ?_
  refine X_newaC (pc := 95) (atype := .int) (t := 0) (N := 8) (by decide) rfl k_150 (by decide) (by decide) (by decide) (xSl 47) 46 rfl rfl dX12_init_95 ?_
  refine X_putr (pc := 97) (a := 34) (ci := 11) (j := 21) true rfl (by decide) k_1218 rfl (fun _ => ⟨rfl, rfl⟩) (by first | exact Or.inl ⟨_, rfl⟩ | exact Or.inr ⟨_, rfl⟩) dX12_init_97 ?_
  refine X_aload_n (pc := 100) (i := 0) 0 dX12_init_100 rfl rfl ?_
  refine X_iconst (pc := 101) (4 : Int32) dX12_init_101 (by decide) ?_
  refine X_newaC (pc := 102) (atype := .int) (t := 0) (N := 4) (by decide) rfl k_150 (by decide) (by decide) (by decide) (xSl 48) 47 rfl rfl dX12_init_102 ?_
  refine X_putr (pc := 104) (a := 34) (ci := 11) (j := 23) true rfl (by decide) k_1220 rfl (fun _ => ⟨rfl, rfl⟩) (by first | exact Or.inl ⟨_, rfl⟩ | exact Or.inr ⟨_, rfl⟩) dX12_init_104 ?_
  refine X_aload_n (pc := 107) (i := 0) 0 dX12_init_107 rfl rfl ?_
  refine X_bipush (pc := 108) (80 : Int32) dX12_init_108 (by decide) ?_
  refine X_newaC (pc := 110) (atype := .int) (t := 0) (N := 80) (by decide) rfl k_150 (by decide) (by decide) (by decide) (xSl 49) 48 rfl rfl dX12_init_110 ?_
  refine X_putr (pc := 112) (a := 34) (ci := 11) (j := 33) true rfl (by decide) k_1230 rfl (fun _ => ⟨rfl, rfl⟩) (by first | exact Or.inl ⟨_, rfl⟩ | exact Or.inr ⟨_, rfl⟩) dX12_init_112 ?_
  refine X_aload_n (pc := 115) (i := 0) 0 dX12_init_115 rfl rfl ?_
  refine X_iconst (pc := 116) (4 : Int32) dX12_init_116 (by decide) ?_
  refine X_newaC (pc := 117) (atype := .int) (t := 0) (N := 4) (by decide) rfl k_150 (by decide) (by decide) (by decide) (xSl 50) 49 rfl rfl dX12_init_117 ?_
  refine X_putr (pc := 119) (a := 34) (ci := 11) (j := 34) true rfl (by decide) k_1231 rfl (fun _ => ⟨rfl, rfl⟩) (by first | exact Or.inl ⟨_, rfl⟩ | exact Or.inr ⟨_, rfl⟩) dX12_init_119 ?_
  refine X_aload_n (pc := 122) (i := 0) 0 dX12_init_122 rfl rfl ?_
  refine X_iconst (pc := 123) (4 : Int32) dX12_init_123 (by decide) ?_
  refine X_newaC (pc := 124) (atype := .int) (t := 0) (N := 4) (by decide) rfl k_150 (by decide) (by decide) (by decide) (xSl 51) 50 rfl rfl dX12_init_124 ?_
  refine X_putr (pc := 126) (a := 34) (ci := 11) (j := 35) true rfl (by decide) k_1232 rfl (fun _ => ⟨rfl, rfl⟩) (by first | exact Or.inl ⟨_, rfl⟩ | exact Or.inr ⟨_, rfl⟩) dX12_init_126 ?_
  refine X_aload_n (pc := 129) (i := 0) 0 dX12_init_129 rfl rfl ?_
  refine X_iconst (pc := 130) (4 : Int32) dX12_init_130 (by decide) ?_
  refine X_newaC (pc := 131) (atype := .int) (t := 0) (N := 4) (by decide) rfl k_150 (by decide) (by decide) (by decide) (xSl 52) 51 rfl rfl dX12_init_131 ?_
  refine X_putr (pc := 133) (a := 34) (ci := 11) (j := 36) true rfl (by decide) k_1233 rfl (fun _ => ⟨rfl, rfl⟩) (by first | exact Or.inl ⟨_, rfl⟩ | exact Or.inr ⟨_, rfl⟩) dX12_init_133 ?_
  refine X_aload_n (pc := 136) (i := 0) 0 dX12_init_136 rfl rfl ?_
  refine X_iconst (pc := 137) (4 : Int32) dX12_init_137 (by decide) ?_
  refine X_newaC (pc := 138) (atype := .boolean) (t := 2) (N := 4) (by decide) rfl k_345 (by decide) (by decide) (by decide) (xSl 53) 52 rfl rfl dX12_init_138 ?_
  refine X_putr (pc := 140) (a := 34) (ci := 11) (j := 37) true rfl (by decide) k_1234 rfl (fun _ => ⟨rfl, rfl⟩) (by first | exact Or.inl ⟨_, rfl⟩ | exact Or.inr ⟨_, rfl⟩) dX12_init_140 ?_
  refine X_aload_n (pc := 143) (i := 0) 0 dX12_init_143 rfl rfl ?_
  refine X_sipush (pc := 144) (6000 : Int32) dX12_init_144 (by decide) ?_
  refine X_newaC (pc := 147) (atype := .int) (t := 0) (N := 6000) (by decide) rfl k_150 (by decide) (by decide) (by decide) (xSl 54) 53 rfl rfl dX12_init_147 ?_
  refine X_putr (pc := 149) (a := 34) (ci := 11) (j := 38) true rfl (by decide) k_1235 rfl (fun _ => ⟨rfl, rfl⟩) (by first | exact Or.inl ⟨_, rfl⟩ | exact Or.inr ⟨_, rfl⟩) dX12_init_149 ?_
  refine X_aload_n (pc := 152) (i := 0) 0 dX12_init_152 rfl rfl ?_
  refine X_sipush (pc := 153) (3000 : Int32) dX12_init_153 (by decide) ?_
  refine X_newaC (pc := 156) (atype := .int) (t := 0) (N := 3000) (by decide) rfl k_150 (by decide) (by decide) (by decide) (xSl 55) 54 rfl rfl dX12_init_156 ?_
  refine X_putr (pc := 158) (a := 34) (ci := 11) (j := 39) true rfl (by decide) k_1236 rfl (fun _ => ⟨rfl, rfl⟩) (by first | exact Or.inl ⟨_, rfl⟩ | exact Or.inr ⟨_, rfl⟩) dX12_init_158 ?_
  refine X_aload_n (pc := 161) (i := 0) 0 dX12_init_161 rfl rfl ?_
  refine X_sipush (pc := 162) (8000 : Int32) dX12_init_162 (by decide) ?_
  refine X_newaC (pc := 165) (atype := .int) (t := 0) (N := 8000) (by decide) rfl k_150 (by decide) (by decide) (by decide) (xSl 56) 55 rfl rfl dX12_init_165 ?_
  refine X_putr (pc := 167) (a := 34) (ci := 11) (j := 41) true rfl (by decide) k_1238 rfl (fun _ => ⟨rfl, rfl⟩) (by first | exact Or.inl ⟨_, rfl⟩ | exact Or.inr ⟨_, rfl⟩) dX12_init_167 ?_
  refine X_aload_n (pc := 170) (i := 0) 0 dX12_init_170 rfl rfl ?_
  refine X_iconst (pc := 171) (5 : Int32) dX12_init_171 (by decide) ?_
  refine X_newaC (pc := 172) (atype := .int) (t := 0) (N := 5) (by decide) rfl k_150 (by decide) (by decide) (by decide) (xSl 57) 56 rfl rfl dX12_init_172 ?_
  refine X_putr (pc := 174) (a := 34) (ci := 11) (j := 44) true rfl (by decide) k_1241 rfl (fun _ => ⟨rfl, rfl⟩) (by first | exact Or.inl ⟨_, rfl⟩ | exact Or.inr ⟨_, rfl⟩) dX12_init_174 ?_
  refine X_aload_n (pc := 177) (i := 0) 0 dX12_init_177 rfl rfl ?_
  refine X_bipush (pc := 178) (24 : Int32) dX12_init_178 (by decide) ?_
  refine X_newaC (pc := 180) (atype := .boolean) (t := 2) (N := 24) (by decide) rfl k_345 (by decide) (by decide) (by decide) (xSl 58) 57 rfl rfl dX12_init_180 ?_
  refine X_putr (pc := 182) (a := 34) (ci := 11) (j := 48) true rfl (by decide) k_1245 rfl (fun _ => ⟨rfl, rfl⟩) (by first | exact Or.inl ⟨_, rfl⟩ | exact Or.inr ⟨_, rfl⟩) dX12_init_182 ?_
  refine X_aload_n (pc := 185) (i := 0) 0 dX12_init_185 rfl rfl ?_
  refine X_bipush (pc := 186) (24 : Int32) dX12_init_186 (by decide) ?_
  refine X_newaC (pc := 188) (atype := .long) (t := 1) (N := 24) (by decide) rfl k_149 (by decide) (by decide) (by decide) (xSl 59) 58 rfl rfl dX12_init_188 ?_
  refine X_putr (pc := 190) (a := 34) (ci := 11) (j := 49) true rfl (by decide) k_1246 rfl (fun _ => ⟨rfl, rfl⟩) (by first | exact Or.inl ⟨_, rfl⟩ | exact Or.inr ⟨_, rfl⟩) dX12_init_190 ?_
  refine X_aload_n (pc := 193) (i := 0) 0 dX12_init_193 rfl rfl ?_
  refine X_bipush (pc := 194) (24 : Int32) dX12_init_194 (by decide) ?_
  refine X_newaC (pc := 196) (atype := .long) (t := 1) (N := 24) (by decide) rfl k_149 (by decide) (by decide) (by decide) (xSl 60) 59 rfl rfl dX12_init_196 ?_
  refine X_putr (pc := 198) (a := 34) (ci := 11) (j := 50) true rfl (by decide) k_1247 rfl (fun _ => ⟨rfl, rfl⟩) (by first | exact Or.inl ⟨_, rfl⟩ | exact Or.inr ⟨_, rfl⟩) dX12_init_198 ?_
  refine X_aload_n (pc := 201) (i := 0) 0 dX12_init_201 rfl rfl ?_
  refine X_iconst (pc := 202) (4 : Int32) dX12_init_202 (by decide) ?_
  refine X_newaC (pc := 203) (atype := .int) (t := 0) (N := 4) (by decide) rfl k_150 (by decide) (by decide) (by decide) (xSl 61) 60 rfl rfl dX12_init_203 ?_
  refine X_putr (pc := 205) (a := 34) (ci := 11) (j := 53) true rfl (by decide) k_1250 rfl (fun _ => ⟨rfl, rfl⟩) (by first | exact Or.inl ⟨_, rfl⟩ | exact Or.inr ⟨_, rfl⟩) dX12_init_205 ?_
  refine X_aload_n (pc := 208) (i := 0) 0 dX12_init_208 rfl rfl ?_
  refine X_bipush (pc := 209) (6 : Int32) dX12_init_209 (by decide) ?_
  refine X_newaC (pc := 211) (atype := .int) (t := 0) (N := 6) (by decide) rfl k_150 (by decide) (by decide) (by decide) (xSl 62) 61 rfl rfl dX12_init_211 ?_
  refine X_putr (pc := 213) (a := 34) (ci := 11) (j := 55) true rfl (by decide) k_1252 rfl (fun _ => ⟨rfl, rfl⟩) (by first | exact Or.inl ⟨_, rfl⟩ | exact Or.inr ⟨_, rfl⟩) dX12_init_213 ?_
  refine X_aload_n (pc := 216) (i := 0) 0 dX12_init_216 rfl rfl ?_
  refine X_bipush (pc := 217) (6 : Int32) dX12_init_217 (by decide) ?_
  refine X_newaC (pc := 219) (atype := .int) (t := 0) (N := 6) (by decide) rfl k_150 (by decide) (by decide) (by decide) (xSl 63) 62 rfl rfl dX12_init_219 ?_
  refine X_putr (pc := 221) (a := 34) (ci := 11) (j := 60) true rfl (by decide) k_1257 rfl (fun _ => ⟨rfl, rfl⟩) (by first | exact Or.inl ⟨_, rfl⟩ | exact Or.inr ⟨_, rfl⟩) dX12_init_221 ?_
  refine X_aload_n (pc := 224) (i := 0) 0 dX12_init_224 rfl rfl ?_
  refine X_bipush (pc := 225) (6 : Int32) dX12_init_225 (by decide) ?_
  refine X_newaC (pc := 227) (atype := .int) (t := 0) (N := 6) (by decide) rfl k_150 (by decide) (by decide) (by decide) (xSl 64) 63 rfl rfl dX12_init_227 ?_
  refine X_putr (pc := 229) (a := 34) (ci := 11) (j := 64) true rfl (by decide) k_1261 rfl (fun _ => ⟨rfl, rfl⟩) (by first | exact Or.inl ⟨_, rfl⟩ | exact Or.inr ⟨_, rfl⟩) dX12_init_229 ?_
  refine X_aload_n (pc := 232) (i := 0) 0 dX12_init_232 rfl rfl ?_
  refine X_bipush (pc := 233) (8 : Int32) dX12_init_233 (by decide) ?_
  refine X_newaC (pc := 235) (atype := .int) (t := 0) (N := 8) (by decide) rfl k_150 (by decide) (by decide) (by decide) (xSl 65) 64 rfl rfl dX12_init_235 ?_
  refine X_putr (pc := 237) (a := 34) (ci := 11) (j := 68) true rfl (by decide) k_1265 rfl (fun _ => ⟨rfl, rfl⟩) (by first | exact Or.inl ⟨_, rfl⟩ | exact Or.inr ⟨_, rfl⟩) dX12_init_237 ?_
  refine X_aload_n (pc := 240) (i := 0) 0 dX12_init_240 rfl rfl ?_
  refine X_bipush (pc := 241) (8 : Int32) dX12_init_241 (by decide) ?_
  refine X_newaC (pc := 243) (atype := .int) (t := 0) (N := 8) (by decide) rfl k_150 (by decide) (by decide) (by decide) (xSl 66) 65 rfl rfl dX12_init_243 ?_
  refine X_putr (pc := 245) (a := 34) (ci := 11) (j := 69) true rfl (by decide) k_1266 rfl (fun _ => ⟨rfl, rfl⟩) (by first | exact Or.inl ⟨_, rfl⟩ | exact Or.inr ⟨_, rfl⟩) dX12_init_245 ?_
  refine X_aload_n (pc := 248) (i := 0) 0 dX12_init_248 rfl rfl ?_
  refine X_bipush (pc := 249) (8 : Int32) dX12_init_249 (by decide) ?_
  refine X_newaC (pc := 251) (atype := .int) (t := 0) (N := 8) (by decide) rfl k_150 (by decide) (by decide) (by decide) (xSl 67) 66 rfl rfl dX12_init_251 ?_
  refine X_putr (pc := 253) (a := 34) (ci := 11) (j := 70) true rfl (by decide) k_1267 rfl (fun _ => ⟨rfl, rfl⟩) (by first | exact Or.inl ⟨_, rfl⟩ | exact Or.inr ⟨_, rfl⟩) dX12_init_253 ?_
  refine X_aload_n (pc := 256) (i := 0) 0 dX12_init_256 rfl rfl ?_
  refine X_bipush (pc := 257) (8 : Int32) dX12_init_257 (by decide) ?_
  refine X_newaC (pc := 259) (atype := .int) (t := 0) (N := 8) (by decide) rfl k_150 (by decide) (by decide) (by decide) (xSl 68) 67 rfl rfl dX12_init_259 ?_
  refine X_putr (pc := 261) (a := 34) (ci := 11) (j := 71) true rfl (by decide) k_1268 rfl (fun _ => ⟨rfl, rfl⟩) (by first | exact Or.inl ⟨_, rfl⟩ | exact Or.inr ⟨_, rfl⟩) dX12_init_261 ?_
  refine X_aload_n (pc := 264) (i := 0) 0 dX12_init_264 rfl rfl ?_
  refine X_sipush (pc := 265) (800 : Int32) dX12_init_265 (by decide) ?_
  refine X_newaC (pc := 268) (atype := .long) (t := 1) (N := 800) (by decide) rfl k_149 (by decide) (by decide) (by decide) (xSl 69) 68 rfl rfl dX12_init_268 ?_
  refine X_putr (pc := 270) (a := 34) (ci := 11) (j := 72) true rfl (by decide) k_1269 rfl (fun _ => ⟨rfl, rfl⟩) (by first | exact Or.inl ⟨_, rfl⟩ | exact Or.inr ⟨_, rfl⟩) dX12_init_270 ?_
  refine X_aload_n (pc := 273) (i := 0) 0 dX12_init_273 rfl rfl ?_
  refine X_sipush (pc := 274) (800 : Int32) dX12_init_274 (by decide) ?_
  refine X_newaC (pc := 277) (atype := .long) (t := 1) (N := 800) (by decide) rfl k_149 (by decide) (by decide) (by decide) (xSl 70) 69 rfl rfl dX12_init_277 ?_
  refine X_putr (pc := 279) (a := 34) (ci := 11) (j := 73) true rfl (by decide) k_1270 rfl (fun _ => ⟨rfl, rfl⟩) (by first | exact Or.inl ⟨_, rfl⟩ | exact Or.inr ⟨_, rfl⟩) dX12_init_279 ?_
  refine X_aload_n (pc := 282) (i := 0) 0 dX12_init_282 rfl rfl ?_
  refine X_bipush (pc := 283) (15 : Int32) dX12_init_283 (by decide) ?_
  refine X_newaC (pc := 285) (atype := .int) (t := 0) (N := 15) (by decide) rfl k_150 (by decide) (by decide) (by decide) (xSl 71) 70 rfl rfl dX12_init_285 ?_
  refine X_putr (pc := 287) (a := 34) (ci := 11) (j := 74) true rfl (by decide) k_1271 rfl (fun _ => ⟨rfl, rfl⟩) (by first | exact Or.inl ⟨_, rfl⟩ | exact Or.inr ⟨_, rfl⟩) dX12_init_287 ?_
  refine X_aload_n (pc := 290) (i := 0) 0 dX12_init_290 rfl rfl ?_
  refine X_sipush (pc := 291) (16032 : Int32) dX12_init_291 (by decide) ?_
  refine X_newaC (pc := 294) (atype := .int) (t := 0) (N := 16032) (by decide) rfl k_150 (by decide) (by decide) (by decide) (xSl 72) 71 rfl rfl dX12_init_294 ?_
  refine X_putr (pc := 296) (a := 34) (ci := 11) (j := 76) true rfl (by decide) k_1273 rfl (fun _ => ⟨rfl, rfl⟩) (by first | exact Or.inl ⟨_, rfl⟩ | exact Or.inr ⟨_, rfl⟩) dX12_init_296 ?_
  refine X_aload_n (pc := 299) (i := 0) 0 dX12_init_299 rfl rfl ?_
  refine X_sipush (pc := 300) (128 : Int32) dX12_init_300 (by decide) ?_
  refine X_newaC (pc := 303) (atype := .int) (t := 0) (N := 128) (by decide) rfl k_150 (by decide) (by decide) (by decide) (xSl 73) 72 rfl rfl dX12_init_303 ?_
  refine X_putr (pc := 305) (a := 34) (ci := 11) (j := 77) true rfl (by decide) k_1274 rfl (fun _ => ⟨rfl, rfl⟩) (by first | exact Or.inl ⟨_, rfl⟩ | exact Or.inr ⟨_, rfl⟩) dX12_init_305 ?_
  refine X_aload_n (pc := 308) (i := 0) 0 dX12_init_308 rfl rfl ?_
  refine X_iconst (pc := 309) (4 : Int32) dX12_init_309 (by decide) ?_
  refine X_newaC (pc := 310) (atype := .int) (t := 0) (N := 4) (by decide) rfl k_150 (by decide) (by decide) (by decide) (xSl 74) 73 rfl rfl dX12_init_310 ?_
  refine X_putr (pc := 312) (a := 34) (ci := 11) (j := 78) true rfl (by decide) k_1275 rfl (fun _ => ⟨rfl, rfl⟩) (by first | exact Or.inl ⟨_, rfl⟩ | exact Or.inr ⟨_, rfl⟩) dX12_init_312 ?_
  refine X_aload_n (pc := 315) (i := 0) 0 dX12_init_315 rfl rfl ?_
  refine X_sipush (pc := 316) (128 : Int32) dX12_init_316 (by decide) ?_
  refine X_newaC (pc := 319) (atype := .boolean) (t := 2) (N := 128) (by decide) rfl k_345 (by decide) (by decide) (by decide) (xSl 75) 74 rfl rfl dX12_init_319 ?_
  refine X_putr (pc := 321) (a := 34) (ci := 11) (j := 79) true rfl (by decide) k_1276 rfl (fun _ => ⟨rfl, rfl⟩) (by first | exact Or.inl ⟨_, rfl⟩ | exact Or.inr ⟨_, rfl⟩) dX12_init_321 ?_
  refine X_aload_n (pc := 324) (i := 0) 0 dX12_init_324 rfl rfl ?_
  refine X_getr (pc := 325) (a := 34) (ci := 11) (j := 53) (c := 60) rfl (by decide) k_1250 rfl (fun _ h => h) dX12_init_325 ?_
  refine X_iconst (pc := 328) (0 : Int32) dX12_init_328 (by decide) ?_
  refine X_bipush (pc := 329) (20 : Int32) dX12_init_329 (by decide) ?_
  refine X_iastj (pc := 331) (j := 0) rfl (vp_in_lit (N := 4) (by decide) (by decide)) (by decide) dX12_init_331 ?_
  refine X_aload_n (pc := 332) (i := 0) 0 dX12_init_332 rfl rfl ?_
  refine X_getr (pc := 333) (a := 34) (ci := 11) (j := 53) (c := 60) rfl (by decide) k_1250 rfl (fun _ h => h) dX12_init_333 ?_
  refine X_iconst (pc := 336) (1 : Int32) dX12_init_336 (by decide) ?_
  refine X_bipush (pc := 337) (40 : Int32) dX12_init_337 (by decide) ?_
  refine X_iastj (pc := 339) (j := 1) rfl (vp_in_lit (N := 4) (by decide) (by decide)) (by decide) dX12_init_339 ?_
  refine X_aload_n (pc := 340) (i := 0) 0 dX12_init_340 rfl rfl ?_
  refine X_getr (pc := 341) (a := 34) (ci := 11) (j := 53) (c := 60) rfl (by decide) k_1250 rfl (fun _ h => h) dX12_init_341 ?_
  refine X_iconst (pc := 344) (2 : Int32) dX12_init_344 (by decide) ?_
  refine X_bipush (pc := 345) (6 : Int32) dX12_init_345 (by decide) ?_
  refine X_iastj (pc := 347) (j := 2) rfl (vp_in_lit (N := 4) (by decide) (by decide)) (by decide) dX12_init_347 ?_
  refine X_aload_n (pc := 348) (i := 0) 0 dX12_init_348 rfl rfl ?_
  refine X_getr (pc := 349) (a := 34) (ci := 11) (j := 53) (c := 60) rfl (by decide) k_1250 rfl (fun _ h => h) dX12_init_349 ?_
  refine X_iconst (pc := 352) (3 : Int32) dX12_init_352 (by decide) ?_
  refine X_bipush (pc := 353) (12 : Int32) dX12_init_353 (by decide) ?_
  refine X_iastj (pc := 355) (j := 3) rfl (vp_in_lit (N := 4) (by decide) (by decide)) (by decide) dX12_init_355 ?_
  refine X_aload_n (pc := 356) (i := 0) 0 dX12_init_356 rfl rfl ?_
  refine X_invV_i (pc := 357) (c_Md_build (T_Md_init_34 Rf) hq) ok_Md_build (ci := 11) rfl k_1171 k_1172 k_1173 nd_4 (by decide) rfl (Nat.le_of_ble_eq_true rfl) dX12_init_357 ?_
  refine X_pop (pc := 360) dX12_init_360 rfl ?_
  exact X_return (pc := 361) rfl dX12_init_361

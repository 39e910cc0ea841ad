/-! Math -/
def jmax (x y : Int32) : Int32 := if x < y then y else x
def Jmax (x y : Int64) : Int64 := if y < x then x else y
def jmin (x y : Int32) : Int32 := if y < x then y else x
def Jmin (x y : Int64) : Int64 := if y < x then y else x
def jabs (x : Int32) : Int32 := if 0 ≤ x then x else 0 - x
def Jabs (x : Int64) : Int64 := if 0 < x then x else -x
theorem mc_jmax : Cond.code Lib.Math.max.name Lib.Math.max.code 2 (some .int) ∈ xtbl := k_756
theorem X_jmax {G : xG} {d : Nat} {M : xM} {pc idx : Nat} {lv : List (Nat × Value)} {st : List Value} {h : xH} {o : Option Value × xH} {x y : Int32} (hl : Cond.methodLink M.1.cls idx Lib.Math.max.name ∈ xtbl) (h1d : 1 ≤ d) (hroom : (st.map fun v => v.category).sum ≤ 8) (hd : decode M.2.1 pc = .ok (.invokestatic idx, 3)) (k : X G d M (pc + 3) lv (.int (jmax x y) :: st) h o) : X G d M pc lv (.int y :: .int x :: st) h o := by
  refine ⟨k.1, fun p e R s m args below meth c Q mc ms hC h1 h2 hE H locs cells slots ls hP hl' h3 h4 hlv => ?_⟩
  have kk := k.2 p e R s m args below meth c Q mc ms hC h1 h2 hE H locs cells slots ls hP hl' h3 h4 hlv
  have g1 := hC.2.2.2.2.2.2.2.2.2.1
  have g2 := hC.2.2.2.2.2.2.2.2.2.2
  exact va_mmax hC.1 hC.2.1 (hC.2.2.2.2.1.trans hlv.1.symm) hC.own (hC.w hl) (hC.w k_755) (hC.w k_85) (hC.w mc_jmax) (by omega) (by omega) (by omega) (by omega) hd kk
theorem mc_Jmax : Cond.code Lib.MathLoose.max_long.x Lib.MathLoose.max_long.code 4 (some .long) ∈ xtbl := k_753
theorem X_Jmax {G : xG} {d : Nat} {M : xM} {pc idx : Nat} {lv : List (Nat × Value)} {st : List Value} {h : xH} {o : Option Value × xH} {x y : Int64} (hl : Cond.methodLink M.1.cls idx Lib.MathLoose.max_long.x ∈ xtbl) (h1d : 1 ≤ d) (hroom : (st.map fun v => v.category).sum ≤ 8) (hd : decode M.2.1 pc = .ok (.invokestatic idx, 3)) (k : X G d M (pc + 3) lv (.long (Jmax x y) :: st) h o) : X G d M pc lv (.long y :: .long x :: st) h o := by
  refine ⟨k.1, fun p e R s m args below meth c Q mc ms hC h1 h2 hE H locs cells slots ls hP hl' h3 h4 hlv => ?_⟩
  have kk := k.2 p e R s m args below meth c Q mc ms hC h1 h2 hE H locs cells slots ls hP hl' h3 h4 hlv
  have g1 := hC.2.2.2.2.2.2.2.2.2.1
  have g2 := hC.2.2.2.2.2.2.2.2.2.2
  exact va_mmax_long hC.1 hC.2.1 (hC.2.2.2.2.1.trans hlv.1.symm) hC.own (hC.w hl) (hC.w k_752) (hC.w k_85) (hC.w mc_Jmax) (by omega) (by omega) (by omega) (by omega) hd kk
theorem mc_jmin : Cond.code Lib.Math.min.name Lib.Math.min.code 2 (some .int) ∈ xtbl := k_759
theorem X_jmin {G : xG} {d : Nat} {M : xM} {pc idx : Nat} {lv : List (Nat × Value)} {st : List Value} {h : xH} {o : Option Value × xH} {x y : Int32} (hl : Cond.methodLink M.1.cls idx Lib.Math.min.name ∈ xtbl) (h1d : 1 ≤ d) (hroom : (st.map fun v => v.category).sum ≤ 8) (hd : decode M.2.1 pc = .ok (.invokestatic idx, 3)) (k : X G d M (pc + 3) lv (.int (jmin x y) :: st) h o) : X G d M pc lv (.int y :: .int x :: st) h o := by
  refine ⟨k.1, fun p e R s m args below meth c Q mc ms hC h1 h2 hE H locs cells slots ls hP hl' h3 h4 hlv => ?_⟩
  have kk := k.2 p e R s m args below meth c Q mc ms hC h1 h2 hE H locs cells slots ls hP hl' h3 h4 hlv
  have g1 := hC.2.2.2.2.2.2.2.2.2.1
  have g2 := hC.2.2.2.2.2.2.2.2.2.2
  exact va_mmin hC.1 hC.2.1 (hC.2.2.2.2.1.trans hlv.1.symm) hC.own (hC.w hl) (hC.w k_758) (hC.w k_85) (hC.w mc_jmin) (by omega) (by omega) (by omega) (by omega) hd kk
theorem mc_Jmin : Cond.code Lib.MathLoose.min_long.x Lib.MathLoose.min_long.code 4 (some .long) ∈ xtbl := k_750
theorem X_Jmin {G : xG} {d : Nat} {M : xM} {pc idx : Nat} {lv : List (Nat × Value)} {st : List Value} {h : xH} {o : Option Value × xH} {x y : Int64} (hl : Cond.methodLink M.1.cls idx Lib.MathLoose.min_long.x ∈ xtbl) (h1d : 1 ≤ d) (hroom : (st.map fun v => v.category).sum ≤ 8) (hd : decode M.2.1 pc = .ok (.invokestatic idx, 3)) (k : X G d M (pc + 3) lv (.long (Jmin x y) :: st) h o) : X G d M pc lv (.long y :: .long x :: st) h o := by
  refine ⟨k.1, fun p e R s m args below meth c Q mc ms hC h1 h2 hE H locs cells slots ls hP hl' h3 h4 hlv => ?_⟩
  have kk := k.2 p e R s m args below meth c Q mc ms hC h1 h2 hE H locs cells slots ls hP hl' h3 h4 hlv
  have g1 := hC.2.2.2.2.2.2.2.2.2.1
  have g2 := hC.2.2.2.2.2.2.2.2.2.2
  exact va_mmin_long hC.1 hC.2.1 (hC.2.2.2.2.1.trans hlv.1.symm) hC.own (hC.w hl) (hC.w k_749) (hC.w k_85) (hC.w mc_Jmin) (by omega) (by omega) (by omega) (by omega) hd kk
theorem mc_jabs : Cond.code Lib.Math.abs.name Lib.Math.abs.code 1 (some .int) ∈ xtbl := k_762
theorem X_jabs {G : xG} {d : Nat} {M : xM} {pc idx : Nat} {lv : List (Nat × Value)} {st : List Value} {h : xH} {o : Option Value × xH} {x : Int32} (hl : Cond.methodLink M.1.cls idx Lib.Math.abs.name ∈ xtbl) (h1d : 1 ≤ d) (hroom : (st.map fun v => v.category).sum ≤ 8) (hd : decode M.2.1 pc = .ok (.invokestatic idx, 3)) (k : X G d M (pc + 3) lv (.int (jabs x) :: st) h o) : X G d M pc lv (.int x :: st) h o := by
  refine ⟨k.1, fun p e R s m args below meth c Q mc ms hC h1 h2 hE H locs cells slots ls hP hl' h3 h4 hlv => ?_⟩
  have kk := k.2 p e R s m args below meth c Q mc ms hC h1 h2 hE H locs cells slots ls hP hl' h3 h4 hlv
  have g1 := hC.2.2.2.2.2.2.2.2.2.1
  have g2 := hC.2.2.2.2.2.2.2.2.2.2
  exact va_mabs hC.1 hC.2.1 (hC.2.2.2.2.1.trans hlv.1.symm) hC.own (hC.w hl) (hC.w k_761) (hC.w k_85) (hC.w mc_jabs) (by omega) (by omega) (by omega) (by omega) hd kk
theorem mc_Jabs : Cond.code Lib.MathLoose.abs_long.x Lib.MathLoose.abs_long.code 2 (some .long) ∈ xtbl := k_600
theorem X_Jabs {G : xG} {d : Nat} {M : xM} {pc idx : Nat} {lv : List (Nat × Value)} {st : List Value} {h : xH} {o : Option Value × xH} {x : Int64} (hl : Cond.methodLink M.1.cls idx Lib.MathLoose.abs_long.x ∈ xtbl) (h1d : 1 ≤ d) (hroom : (st.map fun v => v.category).sum ≤ 8) (hd : decode M.2.1 pc = .ok (.invokestatic idx, 3)) (k : X G d M (pc + 3) lv (.long (Jabs x) :: st) h o) : X G d M pc lv (.long x :: st) h o := by
  refine ⟨k.1, fun p e R s m args below meth c Q mc ms hC h1 h2 hE H locs cells slots ls hP hl' h3 h4 hlv => ?_⟩
  have kk := k.2 p e R s m args below meth c Q mc ms hC h1 h2 hE H locs cells slots ls hP hl' h3 h4 hlv
  have g1 := hC.2.2.2.2.2.2.2.2.2.1
  have g2 := hC.2.2.2.2.2.2.2.2.2.2
  exact va_mabs_long hC.1 hC.2.1 (hC.2.2.2.2.1.trans hlv.1.symm) hC.own (hC.w hl) (hC.w k_599) (hC.w k_85) (hC.w mc_Jabs) (by omega) (by omega) (by omega) (by omega) hd kk

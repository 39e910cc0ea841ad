/-! the law, from its entry -/
def zI : Nat → Nat → Int32 := fun _ _ => 0
def zL : Nat → Nat → Int64 := fun _ _ => 0
def zR : Nat → Nat → Option Nat := fun _ _ => none
/-- the references, once both are made: in the machine's order -/
def zRm : Nat → Nat → Option Nat := iR_Md_init_65 (uZ (iR_H_init_0 (uZ zR 0 none)) 65 none)
theorem iR_low {R : Nat → Nat → Option Nat} {a j : Nat} (h1 : a < 65) : iR_Md_init_65 (uZ R 65 none) a j = R a j := by
  have hz : ∀ (R : Nat → Nat → Option Nat) (n : Nat), 65 ≤ n → uZ R n none a j = R a j := fun R n hn => if_neg (by omega)
  have hu : ∀ (R : Nat → Nat → Option Nat) (n k : Nat) (v : Option Nat), 65 ≤ n → uR R n k v a j = R a j := fun R n k v hn => if_neg (fun e => by omega)
  unfold iR_Md_init_65
  repeat (first | rw [hu _ _ _ _ (by decide)] | rw [hz _ _ (by decide)])
theorem xrf_lowH : xrfH.all (fun q => decide (xsg q.1 < 65)) = true := by decide
set_option maxRecDepth 100000 in
theorem zTH : xTH xSl (oR zRm) := ⟨by decide, fun q hq => by
  have h1 := of_decide_eq_true (List.all_eq_true.mp xrf_lowH q hq)
  show ((iR_Md_init_65 (uZ (iR_H_init_0 (uZ zR 0 none)) 65 none)) (xsg q.1) q.2.1).map xrh = _
  rw [iR_low h1]
  exact (T_H_init_0 (uZ zR 0 none)).2 q hq⟩
theorem zTM : xTM xSl (oR zRm) := T_Md_init_65 _
set_option maxRecDepth 100000 in
set_option maxHeartbeats 4000000 in
theorem law_entry {G : xG} {sL : Nat} {xs : Nat → Int32} (hsL : xsL G = sL) (hxs : xsx G = xs) (hs3 : sL < 2147483648) {q2 : (Nat → Nat → Int32) × (Nat → Nat → Int64)} {q3 : Int32 × (Nat → Nat → Int32) × (Nat → Nat → Int64)} {q : Int32 × xH}
    (h1 : f_H_clearMovement (oI (iI_H_init_0 (uZ zI 0 0))) (oL (iL_H_init_0 (uZ zL 0 0))) = some q2) (h2 : f_Md_build (oI (iI_Md_init_65 (uZ (bI q2.1) 65 0))) (oL (iL_Md_init_65 (uZ (bL q2.2) 65 0))) = some q3)
    (hf : f_Law_law_L18 sL xs xF 0 xSl (oR zRm) q3.2.1 q3.2.2 = some q) (hq : q.2.1 = xSl) : X (x0 G) 14 m_Law_law 0 [(0, .ref (xsb G))] [] ([], zI, zL, zR) (some (.int q.1), (xSm 106, bI q.2.2.1, bL q.2.2.2.1, bR q.2.2.2.2)) := by
  obtain ⟨q1, S', I', L', R'⟩ := q
  cases hq
  refine X_newC (pc := 0) (ci := 10) (by decide) k_87 k_88 k_71 (xSm 1) 0 rfl rfl dL_law_0 ?_
  refine X_dup (pc := 3) dL_law_3 rfl ?_
  refine X_invI_v (pc := 4) (c_H_init_0 h1) ok_H_init rfl rfl k_89 k_90 nd_1 (by decide) rfl (Nat.le_of_ble_eq_true rfl) dL_law_4 ?_
  refine X_astore_n (pc := 7) (i := 1) [(1, .ref (xP (x0 G) 0)), (0, .ref (xsb G))] dL_law_7 rfl (by decide) rfl ?_
  refine X_newC (pc := 8) (ci := 11) (by decide) k_1196 k_1197 k_84 (xSm 66) 65 rfl rfl dL_law_8 ?_
  refine X_dup (pc := 11) dL_law_11 rfl ?_
  refine X_invI_v (pc := 12) (c_Md_init_65 h2) ok_Md_init rfl rfl k_1198 k_1199 nd_1 (by decide) rfl (Nat.le_of_ble_eq_true rfl) dL_law_12 ?_
  refine X_astore_n (pc := 15) (i := 2) [(2, .ref (xP (x0 G) 65)), (1, .ref (xP (x0 G) 0)), (0, .ref (xsb G))] dL_law_15 rfl (by decide) rfl ?_
  refine X_iconst (pc := 16) (0 : Int32) dL_law_16 (by decide) ?_
  refine X_istore_n (pc := 17) (i := 3) [(3, .int (0 : Int32)), (2, .ref (xP (x0 G) 65)), (1, .ref (xP (x0 G) 0)), (0, .ref (xsb G))] dL_law_17 rfl (by decide) rfl ?_
  have hX : X (x1 G 106) 14 m_Law_law 18 [(3, .int (0 : Int32)), (2, .ref (xP (x0 G) 65)), (1, .ref (xP (x0 G) 0)), (0, .ref (xsb G))] [] (xSl, q3.2.1, q3.2.2, oR zRm) (some (.int q1), (xSl, I', L', R')) := X_lvs [3, 2, 1, 0] rfl (x_Law_law_L18 (G := x1 G 106) hsL hxs hs3 xF zTH zTM hf)
  exact X.view hX vw_bl vw_br rfl rfl

/-! the law, from its entry -/
def zI : Nat → Nat → Int32 := fun _ _ => 0
def zL : Nat → Nat → Int64 := fun _ _ => 0
def zR : Nat → Nat → Option Nat := fun _ _ => none
theorem KP_M (R2 : Nat → Nat → Option Nat) : KP (xSl 34) R2 (xSl 75) (iR_Md_init_34 (uZ R2 34 none)) := by
  refine ⟨fun k t h => ?_, fun a j h1 h2 h3 => ?_⟩
  · have h1 : k < 34 := by have := (List.getElem?_eq_some_iff.mp h).1; simp [xSl] at this; omega
    simp only [xSl, List.getElem?_take, h1, if_true] at h
    simp only [xSl, List.getElem?_take, if_pos (show k < 75 by omega)]
    exact h
  · have h1 : a < 34 := by simp [xSl] at h1; omega
    have hz : ∀ (R : Nat → Nat → Option Nat) (n : Nat), 34 ≤ n → uZ R n none a j = R a j := fun R n hn => if_neg (by omega)
    have hu : ∀ (R : Nat → Nat → Option Nat) (n k : Nat) (v : Option Nat), 34 ≤ n → uR R n k v a j = R a j := fun R n k v hn => if_neg (fun e => by omega)
    unfold iR_Md_init_34
    repeat (first | rw [hu _ _ _ _ (by decide)] | rw [hz _ _ (by decide)])
set_option maxRecDepth 100000 in
set_option maxHeartbeats 4000000 in
theorem law_entry {G : xG} {sL : Nat} {xs : Nat → Int32} (hsL : xsL G = sL) (hxs : xsx G = xs) (hs3 : sL < 2147483648) {I2 : Nat → Nat → Int32} {L2 : Nat → Nat → Int64} {R2 : Nat → Nat → Option Nat} {q3 : Int32 × (Nat → Nat → Int32) × (Nat → Nat → Int64)} {q : Int32 × xH}
    (h1 : f_H_clearMovement (xSl 34) (iR_H_init_0 (uZ zR 0 none)) (iI_H_init_0 (uZ zI 0 0)) (iL_H_init_0 (uZ zL 0 0)) = some (xSl 34, I2, L2, R2)) (h2 : f_Md_build (iI_Md_init_34 (uZ I2 34 0)) (iL_Md_init_34 (uZ L2 34 0)) = some q3)
    (hf : f_Law_law_L18 sL xs xF 0 (xSl 75) (iR_Md_init_34 (uZ R2 34 none)) q3.2.1 q3.2.2 = some q) : X G 14 m_Law_law 0 [(0, .ref (xsb G))] [] ([], zI, zL, zR) (some (.int q.1), q.2) := by
  have hH : xTH (xSl 75) (iR_Md_init_34 (uZ R2 34 none)) := (KP_M R2).H ((t_H_clearMovement h1).H (T_H_init_0 _))
  have hM : xTM (xSl 75) (iR_Md_init_34 (uZ R2 34 none)) := T_Md_init_34 _
  refine X_newC (pc := 0) (ci := 10) (by decide) k_86 k_87 k_70 (xSl 1) 0 rfl rfl dL_law_0 ?_
  refine X_dup (pc := 3) dL_law_3 rfl ?_
  refine X_invI_v (pc := 4) (c_H_init_0 h1) ok_H_init rfl rfl k_88 k_89 nd_1 (by decide) rfl (Nat.le_of_ble_eq_true rfl) dL_law_4 ?_
  refine X_astore_n (pc := 7) (i := 1) [(1, .ref (xB G + 0)), (0, .ref (xsb G))] dL_law_7 rfl (by decide) rfl ?_
  refine X_newC (pc := 8) (ci := 11) (by decide) k_1165 k_1166 k_78 (xSl 35) 34 rfl rfl dL_law_8 ?_
  refine X_dup (pc := 11) dL_law_11 rfl ?_
  refine X_invI_v (pc := 12) (c_Md_init_34 h2) ok_Md_init rfl rfl k_1167 k_1168 nd_1 (by decide) rfl (Nat.le_of_ble_eq_true rfl) dL_law_12 ?_
  refine X_astore_n (pc := 15) (i := 2) [(2, .ref (xB G + 34)), (1, .ref (xB G + 0)), (0, .ref (xsb G))] dL_law_15 rfl (by decide) rfl ?_
  refine X_iconst (pc := 16) (0 : Int32) dL_law_16 (by decide) ?_
  refine X_istore_n (pc := 17) (i := 3) [(3, .int (0 : Int32)), (2, .ref (xB G + 34)), (1, .ref (xB G + 0)), (0, .ref (xsb G))] dL_law_17 rfl (by decide) rfl ?_
  exact X_lvs [3, 2, 1, 0] rfl (x_Law_law_L18 hsL hxs hs3 xF hH hM hf)

/-! the beginning, and the law whole -/
theorem x0_z {a : Nat} (j : Nat) (h : 18 ≤ a ∧ a < 34) : (iI_H_init_0 (uZ zI 0 0)) a j = 0 := by
  have n17 : a ≠ 17 := by omega
  have n9 : a ≠ 9 := by omega
  have n13 : a ≠ 13 := by omega
  have n15 : a ≠ 15 := by omega
  simp [iI_H_init_0, iI_Be_init_29, iI_Ch_init_22, iI_Tr_init_17, iI_Ro_init_15, iI_Ro_init_13, iI_Es_init_1, iI_Ro_init_9, iI_Ge_init_2, uZ, uI, zI, n17, n9, n13, n15]
theorem x0_s : (iI_H_init_0 (uZ zI 0 0)) 9 0 = 2 ∧ (iI_H_init_0 (uZ zI 0 0)) 9 1 = 3000 ∧ (iI_H_init_0 (uZ zI 0 0)) 13 0 = 3 ∧ (iI_H_init_0 (uZ zI 0 0)) 13 1 = 1000 ∧ (iI_H_init_0 (uZ zI 0 0)) 15 0 = 4 ∧ (iI_H_init_0 (uZ zI 0 0)) 15 1 = 2000 ∧ (iI_H_init_0 (uZ zI 0 0)) 17 0 = 20 ∧ (iI_H_init_0 (uZ zI 0 0)) 17 1 = 40 ∧ (iI_H_init_0 (uZ zI 0 0)) 17 2 = 6 ∧ (iI_H_init_0 (uZ zI 0 0)) 17 3 = 12 ∧ (iI_H_init_0 (uZ zI 0 0)) 17 4 = 0 := by
  simp [iI_H_init_0, iI_Be_init_29, iI_Ch_init_22, iI_Tr_init_17, iI_Ro_init_15, iI_Ro_init_13, iI_Es_init_1, iI_Ro_init_9, iI_Ge_init_2, uZ, uI, zI]
theorem x0_L (a j : Nat) : (iL_H_init_0 (uZ zL 0 0)) a j = 0 := by
  simp [iL_H_init_0, iL_Be_init_29, iL_Ch_init_22, iL_Tr_init_17, iL_Ro_init_15, iL_Ro_init_13, iL_Es_init_1, iL_Ro_init_9, iL_Ge_init_2, uZ, zL]
theorem y0_c {X : Nat → Nat → Int32} {a : Nat} (j : Nat) (h : a < 35) : (iI_Md_init_34 X) a j = X a j := by
  unfold iI_Md_init_34
  rw [uI_o (by omega), uI_o (by omega), uI_o (by omega), uI_o (by omega)]
  repeat rw [uZ_o (by omega)]
theorem uZ_or {f : Nat → Nat → Int32} {p a j : Nat} (h : a ≠ p → f a j = 0) : uZ f p 0 a j = 0 := by
  by_cases e : a = p
  · rw [e]; exact uZ_p
  · rw [uZ_o e]; exact h e
theorem y0_z {X : Nat → Nat → Int32} {a : Nat} (j : Nat) (h : 34 < a ∧ a < 75 ∧ a ≠ 60) : (iI_Md_init_34 X) a j = 0 := by
  unfold iI_Md_init_34
  rw [uI_o (by omega), uI_o (by omega), uI_o (by omega), uI_o (by omega)]
  refine uZ_or (fun e74 => ?_); refine uZ_or (fun e73 => ?_); refine uZ_or (fun e72 => ?_); refine uZ_or (fun e71 => ?_); refine uZ_or (fun e70 => ?_); refine uZ_or (fun e69 => ?_); refine uZ_or (fun e68 => ?_); refine uZ_or (fun e67 => ?_); refine uZ_or (fun e66 => ?_); refine uZ_or (fun e65 => ?_); refine uZ_or (fun e64 => ?_); refine uZ_or (fun e63 => ?_); refine uZ_or (fun e62 => ?_); refine uZ_or (fun e61 => ?_); refine uZ_or (fun e60 => ?_); refine uZ_or (fun e59 => ?_); refine uZ_or (fun e58 => ?_); refine uZ_or (fun e57 => ?_); refine uZ_or (fun e56 => ?_); refine uZ_or (fun e55 => ?_); refine uZ_or (fun e54 => ?_); refine uZ_or (fun e53 => ?_); refine uZ_or (fun e52 => ?_); refine uZ_or (fun e51 => ?_); refine uZ_or (fun e50 => ?_); refine uZ_or (fun e49 => ?_); refine uZ_or (fun e48 => ?_); refine uZ_or (fun e47 => ?_); refine uZ_or (fun e46 => ?_); refine uZ_or (fun e45 => ?_); refine uZ_or (fun e44 => ?_); refine uZ_or (fun e43 => ?_); refine uZ_or (fun e42 => ?_); refine uZ_or (fun e41 => ?_); refine uZ_or (fun e40 => ?_); refine uZ_or (fun e39 => ?_); refine uZ_or (fun e38 => ?_); refine uZ_or (fun e37 => ?_); refine uZ_or (fun e36 => ?_); refine uZ_or (fun e35 => ?_); omega
theorem y0_60 {X : Nat → Nat → Int32} : (iI_Md_init_34 X) 60 0 = 20 ∧ (iI_Md_init_34 X) 60 1 = 40 ∧ (iI_Md_init_34 X) 60 2 = 6 ∧ (iI_Md_init_34 X) 60 3 = 12 := by
  simp [iI_Md_init_34, uI]
theorem y0_L {X : Nat → Nat → Int64} {a : Nat} (j : Nat) (h : a < 35) : (iL_Md_init_34 X) a j = X a j := by
  unfold iL_Md_init_34
  repeat rw [uZ_o (by omega)]
theorem shp_0 : SHP 0 (xSl 75) := by
  refine ⟨⟨by decide, by decide⟩, ?_, by decide +kernel⟩
  unfold dynS
  decide +kernel
theorem pureLaw : PureLaw := by
  intro sL xs hs
  obtain ⟨I2, L2, R2, a1, a2, a3, a4, a5⟩ := clr_ok (S := xSl 34) (Rf := iR_H_init_0 (uZ zR 0 none)) (I := iI_H_init_0 (uZ zI 0 0)) (L := iL_H_init_0 (uZ zL 0 0))
  obtain ⟨J, K, b1, b2, b3, b4⟩ := bld_ok (J := iI_Md_init_34 (uZ I2 34 0)) (K := iL_Md_init_34 (uZ L2 34 0))
  have fr : FRm (iI_Md_init_34 (uZ I2 34 0)) J (iL_Md_init_34 (uZ L2 34 0)) K := frm_of (fun S => u_Md_build (S := S) b1) (by decide) (by decide)
  have jc : ∀ a j, a < 34 → J a j = I2 a j := fun a j q => by rw [fr.1 a j (by omega), y0_c j (by omega), uZ_o (by omega)]
  have kc : ∀ a j, a < 34 → K a j = L2 a j := fun a j q => by rw [fr.2 a j (by omega), y0_L j (by omega), uZ_o (by omega)]
  have jx : ∀ a j, 9 ≤ a → a < 34 → ¬ (a = 9 ∧ j = 3) → ¬ (a = 13 ∧ j = 3) → ¬ (a = 15 ∧ j = 3) → J a j = (iI_H_init_0 (uZ zI 0 0)) a j := fun a j q1 q2 q3 q4 q5 => by
    rw [jc a j q2]; exact a3 a j (by omega) (by omega) (by omega) (by omega) q3 q4 q5
  have jz : ∀ a j, 18 ≤ a → a < 34 → J a j = 0 := fun a j q1 q2 => by rw [jx a j (by omega) q2 (by omega) (by omega) (by omega)]; exact x0_z j ⟨q1, q2⟩
  have jy : ∀ a j, 60 < a → a < 75 → J a j = 0 := fun a j q1 q2 => by rw [fr.1 a j (by omega)]; exact y0_z j (by omega)
  have j34 : ∀ j, 48 ≤ j → J 34 j = 0 := fun j q => by rw [fr.1 34 j (by omega), y0_c j (by omega), uZ_p]
  have kz : ∀ a j, a = 17 → K a j = 0 := fun a j q => by rw [kc a j (by omega), a4 a j (by omega) (by omega) (by omega) (by omega)]; exact x0_L a j
  obtain ⟨s1, s2, s3, s4, s5, s6, s7, s8, s9, s10, s11⟩ := x0_s
  obtain ⟨y1, y2, y3, y4⟩ := y0_60 (X := uZ I2 34 0)
  have t17 : ∀ j, J 17 j = (iI_H_init_0 (uZ zI 0 0)) 17 j := fun j => jx 17 j (by omega) (by omega) (by omega) (by omega) (by omega)
  have t60 : ∀ j, J 60 j = (iI_Md_init_34 (uZ I2 34 0)) 60 j := fun j => fr.1 60 j (by omega)
  have inv : INV 0 (xSl 75) (iR_Md_init_34 (uZ R2 34 none)) J K := by
    refine ⟨⟨⟨fun j => ?_, fun j => ?_⟩, ⟨?_, fun j => ?_, fun j => ?_, fun j => ?_, fun j => ?_, ?_, fun j => ?_, fun j => ?_⟩, ⟨?_, ?_, fun j => ?_, fun j => ?_, fun j => ?_, fun j => ?_, fun j hj => ?_⟩, ?_⟩, ?_⟩
    · rw [jz 28 j (by omega) (by omega), jy 70 j (by omega) (by omega)]
    · rw [jz 28 j (by omega) (by omega)]; decide
    · rw [jz 29 0 (by omega) (by omega), j34 75 (by omega)]
    · rw [jz 30 j (by omega) (by omega), jy 73 j (by omega) (by omega)]
    · rw [jz 31 j (by omega) (by omega), jy 71 j (by omega) (by omega)]
    · rw [jz 32 j (by omega) (by omega), jy 72 j (by omega) (by omega)]
    · rw [jz 33 j (by omega) (by omega), jy 74 j (by omega) (by omega)]
    · rw [jz 29 0 (by omega) (by omega)]; decide
    · rw [jz 30 j (by omega) (by omega), jz 29 0 (by omega) (by omega)]; decide
    · rw [jz 33 j (by omega) (by omega)]; decide
    · rw [jz 22 0 (by omega) (by omega), j34 67 (by omega)]
    · rw [jz 22 0 (by omega) (by omega)]; decide
    · rw [jz 23 j (by omega) (by omega), jy 64 j (by omega) (by omega)]
    · rw [jz 24 j (by omega) (by omega), jy 65 j (by omega) (by omega)]
    · rw [jz 25 j (by omega) (by omega), jy 66 j (by omega) (by omega)]
    · rw [jz 26 j (by omega) (by omega), jy 67 j (by omega) (by omega)]
    · rw [jz 22 0 (by omega) (by omega)] at hj
      exact absurd hj (Nat.not_lt_zero j)
    · unfold ivT
      rw [t17 0, t17 1, t17 2, t17 3, t17 4, t60 0, t60 1, t60 2, t60 3, s7, s8, s9, s10, s11, y1, y2, y3, y4, j34 54 (by omega), j34 58 (by omega), kz 17 7 rfl, kz 17 8 rfl]
      refine ⟨⟨rfl, rfl, rfl, rfl⟩, by decide, by decide, rfl, by decide, fun _ => ⟨rfl, rfl, rfl⟩, fun q => absurd rfl q, fun j hj => absurd hj (Nat.not_lt_zero j)⟩
    · refine MOV_0 shp_0 ?_ b2 ⟨?_, ?_⟩ ⟨?_, ?_⟩ ⟨?_, ?_⟩ ?_ (fun j => ?_)
      · unfold NEWI at a2 ⊢
        have k7 := kc 1 7 (by omega)
        have k3 : ∀ i, K 3 i = L2 3 i := fun i => kc 3 i (by omega)
        have k4 : ∀ i, K 4 i = L2 4 i := fun i => kc 4 i (by omega)
        have k5 : ∀ i, K 5 i = L2 5 i := fun i => kc 5 i (by omega)
        have f0 : ∀ i, J 0 i = I2 0 i := fun i => jc 0 i (by omega)
        have f1 : ∀ i, J 1 i = I2 1 i := fun i => jc 1 i (by omega)
        have f2 : ∀ i, J 2 i = I2 2 i := fun i => jc 2 i (by omega)
        have f8 : ∀ i, J 8 i = I2 8 i := fun i => jc 8 i (by omega)
        have f9 : ∀ i, J 9 i = I2 9 i := fun i => jc 9 i (by omega)
        have f13 : ∀ i, J 13 i = I2 13 i := fun i => jc 13 i (by omega)
        have f15 : ∀ i, J 15 i = I2 15 i := fun i => jc 15 i (by omega)
        simp only [k7, k3, k4, k5, f0, f1, f2, f8, f9, f13, f15]
        exact a2
      · rw [jx 9 0 (by omega) (by omega) (by omega) (by omega) (by omega)]; exact s1
      · rw [jx 9 1 (by omega) (by omega) (by omega) (by omega) (by omega)]; exact s2
      · rw [jx 13 0 (by omega) (by omega) (by omega) (by omega) (by omega)]; exact s3
      · rw [jx 13 1 (by omega) (by omega) (by omega) (by omega) (by omega)]; exact s4
      · rw [jx 15 0 (by omega) (by omega) (by omega) (by omega) (by omega)]; exact s5
      · rw [jx 15 1 (by omega) (by omega) (by omega) (by omega) (by omega)]; exact s6
      · rw [b3, y0_c 43 (by omega), uZ_p]
      · rw [b4]; exact y0_z j (by omega)
  obtain ⟨q, q1, q2, q3, q4⟩ := law_go (xs := xs) hs 64 0 (xSl 75) (iR_Md_init_34 (uZ R2 34 none)) J K inv (by omega) (by omega) xF (xF_lt (by omega))
  exact ⟨I2, L2, R2, _, q, a1, b1, q1, q2, q3, q4⟩

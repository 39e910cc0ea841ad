/-! the beginning, and the law whole -/
theorem sg_lo {a : Nat} (h : a < 34) : xsg a < 65 := by
  unfold xsg
  repeat' split
  all_goals omega
theorem sg_h {a : Nat} (h : 12 ≤ a ∧ a < 34) : xsg a = a + 3 := by
  unfold xsg
  rw [if_neg (by omega), if_pos (by omega)]
theorem sg_m {a : Nat} (h : 34 ≤ a ∧ a < 75) : xsg a = a + 31 := by
  unfold xsg
  rw [if_neg (by omega), if_neg (by omega), if_pos (by omega)]
theorem x0_z {a : Nat} (j : Nat) (h : 18 ≤ a ∧ a < 34) : (oI (iI_H_init_0 (uZ zI 0 0))) a j = 0 := by
  unfold oI
  rw [sg_h (by omega)]
  have n17 : a + 3 ≠ 20 := by omega
  have n9 : a + 3 ≠ 9 := by omega
  have n13 : a + 3 ≠ 16 := by omega
  have n15 : a + 3 ≠ 18 := by omega
  generalize a + 3 = b at *
  simp [iI_Ge_init_2, iI_Ro_init_9, iI_Es_init_1, iI_Ro_init_16, iI_Ro_init_18, iI_Tr_init_20, iI_Ch_init_25, iI_Be_init_32, iI_H_init_0, uZ, uI, zI, n17, n9, n13, n15]
theorem x0_s : (oI (iI_H_init_0 (uZ zI 0 0))) 9 0 = 2 ∧ (oI (iI_H_init_0 (uZ zI 0 0))) 9 1 = 3000 ∧ (oI (iI_H_init_0 (uZ zI 0 0))) 13 0 = 3 ∧ (oI (iI_H_init_0 (uZ zI 0 0))) 13 1 = 1000 ∧ (oI (iI_H_init_0 (uZ zI 0 0))) 15 0 = 4 ∧ (oI (iI_H_init_0 (uZ zI 0 0))) 15 1 = 2000 ∧ (oI (iI_H_init_0 (uZ zI 0 0))) 17 0 = 20 ∧ (oI (iI_H_init_0 (uZ zI 0 0))) 17 1 = 40 ∧ (oI (iI_H_init_0 (uZ zI 0 0))) 17 2 = 6 ∧ (oI (iI_H_init_0 (uZ zI 0 0))) 17 3 = 12 ∧ (oI (iI_H_init_0 (uZ zI 0 0))) 17 4 = 0 := by
  refine ⟨?_, ?_, ?_, ?_, ?_, ?_, ?_, ?_, ?_, ?_, ?_⟩ <;> rfl
theorem x0_L (a j : Nat) : (oL (iL_H_init_0 (uZ zL 0 0))) a j = 0 := by
  unfold oL
  generalize xsg a = b
  simp [iL_Ge_init_2, iL_Ro_init_9, iL_Es_init_1, iL_Ro_init_16, iL_Ro_init_18, iL_Tr_init_20, iL_Ch_init_25, iL_Be_init_32, iL_H_init_0, uZ, zL]
theorem y0_c {X : Nat → Nat → Int32} {a : Nat} (j : Nat) (h : a < 66) : (iI_Md_init_65 X) a j = X a j := by
  unfold iI_Md_init_65
  rw [uI_o (by omega), uI_o (by omega), uI_o (by omega), uI_o (by omega)]
  repeat rw [uZ_o (by omega)]
theorem uZ_or {f : Nat → Nat → Int32} {p a j : Nat} (h : a ≠ p → f a j = 0) : uZ f p 0 a j = 0 := by
  by_cases e : a = p
  · rw [e]; exact uZ_p
  · rw [uZ_o e]; exact h e
theorem y0_z {X : Nat → Nat → Int32} {a : Nat} (j : Nat) (h : 65 < a ∧ a < 106 ∧ a ≠ 91) : (iI_Md_init_65 X) a j = 0 := by
  unfold iI_Md_init_65
  rw [uI_o (by omega), uI_o (by omega), uI_o (by omega), uI_o (by omega)]
  refine uZ_or (fun e105 => ?_); refine uZ_or (fun e104 => ?_); refine uZ_or (fun e103 => ?_); refine uZ_or (fun e102 => ?_); refine uZ_or (fun e101 => ?_); refine uZ_or (fun e100 => ?_); refine uZ_or (fun e99 => ?_); refine uZ_or (fun e98 => ?_); refine uZ_or (fun e97 => ?_); refine uZ_or (fun e96 => ?_); refine uZ_or (fun e95 => ?_); refine uZ_or (fun e94 => ?_); refine uZ_or (fun e93 => ?_); refine uZ_or (fun e92 => ?_); refine uZ_or (fun e91 => ?_); refine uZ_or (fun e90 => ?_); refine uZ_or (fun e89 => ?_); refine uZ_or (fun e88 => ?_); refine uZ_or (fun e87 => ?_); refine uZ_or (fun e86 => ?_); refine uZ_or (fun e85 => ?_); refine uZ_or (fun e84 => ?_); refine uZ_or (fun e83 => ?_); refine uZ_or (fun e82 => ?_); refine uZ_or (fun e81 => ?_); refine uZ_or (fun e80 => ?_); refine uZ_or (fun e79 => ?_); refine uZ_or (fun e78 => ?_); refine uZ_or (fun e77 => ?_); refine uZ_or (fun e76 => ?_); refine uZ_or (fun e75 => ?_); refine uZ_or (fun e74 => ?_); refine uZ_or (fun e73 => ?_); refine uZ_or (fun e72 => ?_); refine uZ_or (fun e71 => ?_); refine uZ_or (fun e70 => ?_); refine uZ_or (fun e69 => ?_); refine uZ_or (fun e68 => ?_); refine uZ_or (fun e67 => ?_); refine uZ_or (fun e66 => ?_)
  omega
theorem o_lo {Y : Nat → Nat → Int32} {a : Nat} (j : Nat) (h : a < 34) : (oI (iI_Md_init_65 (uZ (bI Y) 65 0))) a j = Y a j := by
  have := sg_lo h
  unfold oI
  rw [y0_c j (by omega), uZ_o (by omega)]
  unfold bI
  rw [xrh_xsg]
theorem o_34 {X : Nat → Nat → Int32} (j : Nat) : (oI (iI_Md_init_65 (uZ X 65 0))) 34 j = 0 := by
  unfold oI
  rw [sg_m (by omega), y0_c j (by omega)]
  exact uZ_p
theorem o_md {X : Nat → Nat → Int32} {a : Nat} (j : Nat) (h : 34 < a ∧ a < 75 ∧ a ≠ 60) : (oI (iI_Md_init_65 X)) a j = 0 := by
  unfold oI
  rw [sg_m (by omega)]
  exact y0_z j (by omega)
theorem y0_60 {X : Nat → Nat → Int32} : (oI (iI_Md_init_65 X)) 60 0 = 20 ∧ (oI (iI_Md_init_65 X)) 60 1 = 40 ∧ (oI (iI_Md_init_65 X)) 60 2 = 6 ∧ (oI (iI_Md_init_65 X)) 60 3 = 12 := by
  refine ⟨?_, ?_, ?_, ?_⟩ <;> rfl
theorem y0_L {Y : Nat → Nat → Int64} {a : Nat} (j : Nat) (h : a < 34) : (oL (iL_Md_init_65 (uZ (bL Y) 65 0))) a j = Y a j := by
  have := sg_lo h
  unfold oL iL_Md_init_65
  repeat rw [uZ_o (by omega)]
  unfold bL
  rw [xrh_xsg]
theorem shp_0 : SHP 0 xSl (oR zRm) := by
  refine ⟨rfl, fun i hi => ?_, fun c hc => ?_⟩
  · match i, hi with
    | 0, _ => exact ⟨rf_75_0 zTH, rf_76_0 zTH, rf_77_0 zTH⟩
    | 1, _ => exact ⟨rf_75_1 zTH, rf_76_1 zTH, rf_77_1 zTH⟩
    | 2, _ => exact ⟨rf_75_2 zTH, rf_76_2 zTH, rf_77_2 zTH⟩
    | 3, _ => exact ⟨rf_75_3 zTH, rf_76_3 zTH, rf_77_3 zTH⟩
    | 4, _ => exact ⟨rf_75_4 zTH, rf_76_4 zTH, rf_77_4 zTH⟩
    | 5, _ => exact ⟨rf_75_5 zTH, rf_76_5 zTH, rf_77_5 zTH⟩
    | 6, _ => exact ⟨rf_75_6 zTH, rf_76_6 zTH, rf_77_6 zTH⟩
    | 7, _ => exact ⟨rf_75_7 zTH, rf_76_7 zTH, rf_77_7 zTH⟩
  · match c, hc with
    | 0, _ => exact rf_12_0 zTH
    | 1, _ => exact rf_12_1 zTH
    | 2, _ => exact rf_12_2 zTH
    | 3, _ => exact rf_12_3 zTH
theorem pureLaw : PureLaw := by
  intro sL xs hs
  obtain ⟨I2, L2, a1, a2, a3, a4⟩ := clr_ok (I := oI (iI_H_init_0 (uZ zI 0 0))) (L := oL (iL_H_init_0 (uZ zL 0 0)))
  obtain ⟨J, K, b1, b2, b3, b4⟩ := bld_ok (J := oI (iI_Md_init_65 (uZ (bI I2) 65 0))) (K := oL (iL_Md_init_65 (uZ (bL L2) 65 0)))
  have fr : FRm (oI (iI_Md_init_65 (uZ (bI I2) 65 0))) J (oL (iL_Md_init_65 (uZ (bL L2) 65 0))) K := frm_of (fun S => u_Md_build (S := S) b1) (by decide) (by decide)
  have jc : ∀ a j, a < 34 → J a j = I2 a j := fun a j q => by rw [fr.1 a j (by omega), o_lo j q]
  have kc : ∀ a j, a < 34 → K a j = L2 a j := fun a j q => by rw [fr.2 a j (by omega), y0_L j q]
  have jx : ∀ a j, 9 ≤ a → a < 34 → ¬ (a = 9 ∧ j = 3) → ¬ (a = 13 ∧ j = 3) → ¬ (a = 15 ∧ j = 3) → J a j = (oI (iI_H_init_0 (uZ zI 0 0))) a j := fun a j q1 q2 q3 q4 q5 => by
    rw [jc a j q2]; exact a3 a j (by omega) (by omega) (by omega) (by omega) q3 q4 q5
  have jz : ∀ a j, 18 ≤ a → a < 34 → J a j = 0 := fun a j q1 q2 => by rw [jx a j (by omega) q2 (by omega) (by omega) (by omega)]; exact x0_z j ⟨q1, q2⟩
  have jy : ∀ a j, 60 < a → a < 75 → J a j = 0 := fun a j q1 q2 => by rw [fr.1 a j (by omega)]; exact o_md j (by omega)
  have j34 : ∀ j, 48 ≤ j → J 34 j = 0 := fun j q => by rw [fr.1 34 j (by omega), o_34]
  have kz : ∀ a j, a = 17 → K a j = 0 := fun a j q => by rw [kc a j (by omega), a4 a j (by omega) (by omega) (by omega) (by omega)]; exact x0_L a j
  obtain ⟨s1, s2, s3, s4, s5, s6, s7, s8, s9, s10, s11⟩ := x0_s
  obtain ⟨y1, y2, y3, y4⟩ := y0_60 (X := uZ (bI I2) 65 0)
  have t17 : ∀ j, J 17 j = (oI (iI_H_init_0 (uZ zI 0 0))) 17 j := fun j => jx 17 j (by omega) (by omega) (by omega) (by omega) (by omega)
  have t60 : ∀ j, J 60 j = (oI (iI_Md_init_65 (uZ (bI I2) 65 0))) 60 j := fun j => fr.1 60 j (by omega)
  have inv : INV 0 xSl (oR zRm) J K := by
    refine ⟨⟨⟨fun j => ?_, fun j => ?_⟩, ⟨?_, fun j => ?_, fun j => ?_, fun j => ?_, fun j => ?_, ?_, fun j => ?_, fun j => ?_⟩, ⟨?_, ?_, fun j => ?_, fun j => ?_, fun j => ?_, fun j => ?_, fun j hj => ?_⟩, ?_⟩, ?_⟩
    · rw [jz 28 j (by omega) (by omega), jy 70 j (by omega) (by omega)]
    · rw [jz 28 j (by omega) (by omega)]; decide
    · rw [jz 29 0 (by omega) (by omega), j34 75 (by omega)]
    · rw [jz 30 j (by omega) (by omega), jy 73 j (by omega) (by omega)]
    · rw [jz 31 j (by omega) (by omega), jy 71 j (by omega) (by omega)]
    · rw [jz 32 j (by omega) (by omega), jy 72 j (by omega) (by omega)]
    · rw [jz 33 j (by omega) (by omega), jy 74 j (by omega) (by omega)]
    · rw [jz 29 0 (by omega) (by omega)]; decide
    · rw [jz 30 j (by omega) (by omega), jz 29 0 (by omega) (by omega)]; decide
    · rw [jz 33 j (by omega) (by omega)]; decide
    · rw [jz 22 0 (by omega) (by omega), j34 67 (by omega)]
    · rw [jz 22 0 (by omega) (by omega)]; decide
    · rw [jz 23 j (by omega) (by omega), jy 64 j (by omega) (by omega)]
    · rw [jz 24 j (by omega) (by omega), jy 65 j (by omega) (by omega)]
    · rw [jz 25 j (by omega) (by omega), jy 66 j (by omega) (by omega)]
    · rw [jz 26 j (by omega) (by omega), jy 67 j (by omega) (by omega)]
    · rw [jz 22 0 (by omega) (by omega)] at hj
      exact absurd hj (Nat.not_lt_zero j)
    · unfold ivT
      rw [t17 0, t17 1, t17 2, t17 3, t17 4, t60 0, t60 1, t60 2, t60 3, s7, s8, s9, s10, s11, y1, y2, y3, y4, j34 54 (by omega), j34 58 (by omega), kz 17 7 rfl, kz 17 8 rfl]
      refine ⟨⟨rfl, rfl, rfl, rfl⟩, by decide, by decide, rfl, by decide, fun _ => ⟨rfl, rfl, rfl⟩, fun q => absurd rfl q, fun j hj => absurd hj (Nat.not_lt_zero j)⟩
    · refine MOV_0 shp_0 ?_ b2 ⟨?_, ?_⟩ ⟨?_, ?_⟩ ⟨?_, ?_⟩ ?_ (fun j => ?_)
      · unfold NEWI at a2 ⊢
        have k7 := kc 1 7 (by omega)
        have k3 : ∀ i, K 3 i = L2 3 i := fun i => kc 3 i (by omega)
        have k4 : ∀ i, K 4 i = L2 4 i := fun i => kc 4 i (by omega)
        have k5 : ∀ i, K 5 i = L2 5 i := fun i => kc 5 i (by omega)
        have f0 : ∀ i, J 0 i = I2 0 i := fun i => jc 0 i (by omega)
        have f1 : ∀ i, J 1 i = I2 1 i := fun i => jc 1 i (by omega)
        have f2 : ∀ i, J 2 i = I2 2 i := fun i => jc 2 i (by omega)
        have f8 : ∀ i, J 8 i = I2 8 i := fun i => jc 8 i (by omega)
        have f9 : ∀ i, J 9 i = I2 9 i := fun i => jc 9 i (by omega)
        have f13 : ∀ i, J 13 i = I2 13 i := fun i => jc 13 i (by omega)
        have f15 : ∀ i, J 15 i = I2 15 i := fun i => jc 15 i (by omega)
        simp only [k7, k3, k4, k5, f0, f1, f2, f8, f9, f13, f15]
        exact a2
      · rw [jx 9 0 (by omega) (by omega) (by omega) (by omega) (by omega)]; exact s1
      · rw [jx 9 1 (by omega) (by omega) (by omega) (by omega) (by omega)]; exact s2
      · rw [jx 13 0 (by omega) (by omega) (by omega) (by omega) (by omega)]; exact s3
      · rw [jx 13 1 (by omega) (by omega) (by omega) (by omega) (by omega)]; exact s4
      · rw [jx 15 0 (by omega) (by omega) (by omega) (by omega) (by omega)]; exact s5
      · rw [jx 15 1 (by omega) (by omega) (by omega) (by omega) (by omega)]; exact s6
      · rw [b3, o_34]
      · rw [b4]; exact o_md j (by omega)
  obtain ⟨q, q1, q2, q3⟩ := law_go (xs := xs) hs 64 0 xSl (oR zRm) J K inv (by omega) (by omega) xF (xF_lt (by omega))
  exact ⟨_, _, q, a1, b1, q1, q2, q3⟩

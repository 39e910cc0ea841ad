theorem X_copyl {G : xG} {d : Nat} {M : xM} {pc idx a0 a n0 n1 : Nat} {lv : List (Nat × Value)} {st : List Value} {S : List xSh} {I : Nat → Nat → Int32} {L : Nat → Nat → Int64} {Rf : Nat → Nat → Option Nat} {o : Option Value × xH} {sp dp n : Int32}
    (hs0 : S[a0]? = some (.inr (1, n0))) (hs1 : S[a]? = some (.inr (1, n1))) (hl : Cond.methodLink M.1.cls idx arraycopyName ∈ xtbl) (hnat : Cond.native arraycopyName ∈ xtbl) (hstat : Cond.static arraycopyName ∈ xtbl) (hini : Cond.initialized "java/lang/System" ∈ xtbl)
    (g1 : ¬ sp < 0) (g2 : ¬ dp < 0) (g3 : ¬ n < 0) (g4 : sp.toNatClampNeg + n.toNatClampNeg ≤ n0) (g5 : dp.toNatClampNeg + n.toNatClampNeg ≤ n1) (h1d : 1 ≤ d) (hroom : (st.map fun v => v.category).sum ≤ 8) (hd : decode M.2.1 pc = .ok (.invokestatic idx, 3))
    (k : X G d M (pc + 3) lv st (S, I, uC L a0 sp.toNatClampNeg a dp.toNatClampNeg n.toNatClampNeg, Rf) o) : X G d M pc lv (.int n :: .int dp :: .ref (xP G a) :: .int sp :: .ref (xP G a0) :: st) (S, I, L, Rf) o := by
  refine ⟨k.1, fun p e R s m args below meth c Q mc ms hC h1 h2 hE H locs cells slots ls hP hl' h3 h4 hlv => ?_⟩
  have f1 := hC.2.2.2.2.2.2.2.2.2.1
  have f2 := hC.2.2.2.2.2.2.2.2.2.2
  have nn : ∀ z : Int32, ¬ z < 0 → z.toInt = (z.toNatClampNeg : Int) := by
    intro z hz
    have hz0 : (0 : Int) ≤ z.toInt := by
      have := Int32.not_lt.mp hz
      simpa using Int32.le_iff_toInt_le.mp this
    show z.toInt = ((z.toInt.toNat : Nat) : Int)
    omega
  have hz : nativeFrameWords "java/lang/System" "arraycopy" 5 + 11 ≤ 50 := by decide
  intro T hT Xs
  have hc0 : H[xP G a0]? = some (vp_cell (G.2.2.1 1) (n0, .inr (.inl (L a0)))) := hP.arr hs0 (by decide)
  have hc1 : H[xP G a]? = some (vp_cell (G.2.2.1 1) (n1, .inr (.inl (L a)))) := hP.arr hs1 (by decide)
  obtain ⟨-, k0, hk0, cm0, hkk0⟩ := (hC.k.arr (t := 1) (by decide)).1 n0 (fun j => .long (L a0 j))
  obtain ⟨vm', X', step⟩ := Xs.arraycopy hC.1 hC.own (hC.w hl) (hC.w hnat) (hC.w hstat) (hC.w hini) (src := xP G a0) (dst := xP G a) (cs := vp_cell (G.2.2.1 1) (n0, .inr (.inl (L a0)))) (cd := vp_cell (G.2.2.1 1) (n1, .inr (.inl (L a)))) (srcPos := sp) (destPos := dp) (n := n) (by rw [hT]; exact hc0) (by rw [hT]; exact hc1)
    (fun _ h => by cases h) (fun _ h => by cases h) (fun h => by cases h) (fun h => by cases h) hk0 hk0 hkk0 hkk0 (by simp [xaty, refKind]) g1 g2 g3
    (by rw [nn sp g1, nn n g3]; show ¬ _ > ((arrV (G.2.2.1 1) n0 (fun j => .long (L a0 j))).slots.size : Int); rw [arrV_size]; omega)
    (by rw [nn dp g2, nn n g3]; show ¬ _ > ((arrV (G.2.2.1 1) n1 (fun j => .long (L a j))).slots.size : Int); rw [arrV_size]; omega)
    (fun vm₁ _ i hi => by
      have e : (vp_cell (G.2.2.1 1) (n0, .inr (.inl (L a0)))).slots.getD (sp.toNatClampNeg + i) .null = .long (L a0 (sp.toNatClampNeg + i)) := by
        show (arrV (G.2.2.1 1) n0 (fun j => .long (L a0 j))).slots.getD _ _ = _
        rw [Array.getD_eq_getD_getElem?, arrV_read _ _ (by omega)]
        rfl
      refine ⟨?_, ?_⟩
      · rw [e]
        rfl
      · rw [e]
        exact trivial)
    (g := F0 m pc ls (.int n :: .int dp :: .ref (xP G a) :: .int sp :: .ref (xP G a0) :: st)) rfl (by rw [hC.2.2.2.2.1]; exact hlv.1) (rest := st) rfl (by rw [hC.2.1]; exact hd) (by omega) (by show 2 * 0 + _ + _ ≤ _; omega)
  have e1 : copied (vp_cell (G.2.2.1 1) (n0, .inr (.inl (L a0)))) (vp_cell (G.2.2.1 1) (n1, .inr (.inl (L a)))) sp dp n = vp_cell (G.2.2.1 1) (n1, .inr (.inl (va_cpy (L a0) (L a) sp.toNatClampNeg dp.toNatClampNeg n.toNatClampNeg))) := va_copied (fun z => .long z) (G.2.2.1 1) (G.2.2.1 1) (L a0) (L a) g4
  rw [e1] at X' step
  have hlt : xP G a < H.size := (Array.getElem?_eq_some_iff.mp hc1).1
  have hheap : ((T.setVm vm').setCell (xP G a) (vp_cell (G.2.2.1 1) (n1, .inr (.inl (va_cpy (L a0) (L a) sp.toNatClampNeg dp.toNatClampNeg n.toNatClampNeg))))).heap = H.setIfInBounds (xP G a) (vp_cell (G.2.2.1 1) (n1, .inr (.inl (va_cpy (L a0) (L a) sp.toNatClampNeg dp.toNatClampNeg n.toNatClampNeg)))) := by rw [← hT]; rfl
  obtain ⟨t, a1, b1⟩ := k.2 p e R s m args below meth c Q mc ms hC h1 h2 hE _ _ cells slots ls (hP.upd (h' := (S, I, uC L a0 sp.toNatClampNeg a dp.toNatClampNeg n.toNatClampNeg, Rf)) (k := a) rfl (by simp) (fun q hq => by simp [Array.getElem?_setIfInBounds, Ne.symm hq]) (fun t' ht' => by
      cases ht'.symm.trans hs1
      show (H.setIfInBounds (xP G a) _)[xP G a]? = _
      rw [Array.getElem?_setIfInBounds, if_pos rfl, if_pos hlt]
      rw [vp_cell_l]
      congr 2
      funext j
      simp [va_cpy, xval, xaty, uC]) (fun k' hk' j => ⟨rfl, uC_o hk', rfl⟩)) (fun q hq => by
      rcases List.mem_append.mp hq with h | h
      · exact hl' q h
      · obtain ⟨z, -, hz⟩ := List.mem_map.mp h
        rw [← hz]
        exact xB_xP _ _) h3 h4 hlv _ hheap X'
  exact ⟨t, step t a1, b1⟩

theorem X_astoreN {G : xG} {d : Nat} {M : xM} {pc : Nat} {lv : List (Nat × Value)} {st : List Value} {h : xH} {o : Option Value × xH} {i : Nat} (lv' : List (Nat × Value)) (hd : decode M.2.1 pc = .ok (.astore i, 2)) (hn : i < M.2.2.1) (hl' : (i, Value.null) :: lv.filter (fun q => !(q.1 == i) && !(q.1 + 1 == i && q.2.category == 2)) = lv') (k : X G d M (pc + 2) lv' st h o) : X G d M pc lv (.null :: st) h o := X.store (fun _ _ _ _ _ _ _ _ _ _ _ _ _ _ _ hx hb hl k => lv_astoreN hx hb hd hl hn hl' k) k
theorem X_aloadN {G : xG} {d : Nat} {M : xM} {pc : Nat} {lv : List (Nat × Value)} {st : List Value} {h : xH} {o : Option Value × xH} {i : Nat} (q : Nat) (hd : decode M.2.1 pc = .ok (.aload i, 2)) (hq : lv[q]? = some (i, .null)) (k : X G d M (pc + 2) lv (.null :: st) h o) : X G d M pc lv st h o := X.load (fun _ _ _ _ _ _ _ _ _ _ _ _ _ _ _ hx hb hl k => lv_aloadN hx hb hd (lv_at hl q hq) k) k
/-- what stays: the shapes, and the references of the old cells but the row of works -/
def KP (S : List xSh) (Rf : Nat → Nat → Option Nat) (S' : List xSh) (Rf' : Nat → Nat → Option Nat) : Prop := (∀ (k : Nat) (t : xSh), S[k]? = some t → S'[k]? = some t) ∧ ∀ a j : Nat, a < S.length → a ≠ 11 → Rf' a j = Rf a j
theorem KP.rf {S : List xSh} {Rf : Nat → Nat → Option Nat} : KP S Rf S Rf := ⟨fun _ _ h => h, fun _ _ _ _ => rfl⟩
theorem KP.len {S S' : List xSh} {Rf Rf' : Nat → Nat → Option Nat} (h : KP S Rf S' Rf') : S.length ≤ S'.length := by
  rcases Nat.lt_or_ge S'.length S.length with q | q
  · have h1 := h.1 S'.length _ (List.getElem?_eq_getElem q)
    exact absurd (List.getElem?_eq_some_iff.mp h1).1 (Nat.lt_irrefl _)
  · exact q
theorem KP.tr {S S' S'' : List xSh} {Rf Rf' Rf'' : Nat → Nat → Option Nat} (h : KP S Rf S' Rf') (g : KP S' Rf' S'' Rf'') : KP S Rf S'' Rf'' :=
  ⟨fun k t q => g.1 k t (h.1 k t q), fun a j h1 h2 => (g.2 a j (Nat.lt_of_lt_of_le h1 h.len) h2).trans (h.2 a j h1 h2)⟩
theorem KP.u11 {S S' : List xSh} {Rf Rf' : Nat → Nat → Option Nat} (h : KP S Rf S' Rf') {j : Nat} {v : Option Nat} : KP S Rf S' (uR Rf' 11 j v) := ⟨h.1, fun a k h1 h2 => (uR_o (fun e => h2 e.1)).trans (h.2 a k h1 h2)⟩
theorem xrf_okH : xrfH.all (fun q => decide (q.1 < 106 ∧ q.1 ≠ 11)) = true := by decide
theorem xrf_okM : xrfM.all (fun q => decide (q.1 < 75 ∧ q.1 ≠ 11)) = true := by decide
theorem xTH_len {S : List xSh} {Rf : Nat → Nat → Option Nat} (h : xTH S Rf) : 106 ≤ S.length := (List.getElem?_eq_some_iff.mp (sh_105 h)).1
theorem xTM_len {S : List xSh} {Rf : Nat → Nat → Option Nat} (h : xTM S Rf) : 75 ≤ S.length := (List.getElem?_eq_some_iff.mp (sh_74 h)).1
theorem KP.H {S S' : List xSh} {Rf Rf' : Nat → Nat → Option Nat} (h : KP S Rf S' Rf') (g : xTH S Rf) : xTH S' Rf' := ⟨fun q hq => h.1 _ _ (g.1 q hq), fun q hq => by
  have h1 := of_decide_eq_true (List.all_eq_true.mp xrf_okH q hq)
  have h2 := xTH_len g
  exact (h.2 _ _ (by omega) h1.2).trans (g.2 q hq)⟩
theorem KP.M {S S' : List xSh} {Rf Rf' : Nat → Nat → Option Nat} (h : KP S Rf S' Rf') (g : xTM S Rf) : xTM S' Rf' := ⟨fun q hq => h.1 _ _ (g.1 q hq), fun q hq => by
  have h1 := of_decide_eq_true (List.all_eq_true.mp xrf_okM q hq)
  have h2 := xTM_len g
  exact (h.2 _ _ (by omega) h1.2).trans (g.2 q hq)⟩
section XScr
variable {G : xG} {d : Nat} {M : xM} {pc : Nat} {lv : List (Nat × Value)} {st : List Value} {h : xH} {o : Option Value × xH} {sL : Nat} {xs : Nat → Int32}
theorem X_scl2 (e : xsL G = sL) (hd : decode M.2.1 pc = .ok (.arraylength, 1)) (k : X G d M (pc + 1) lv (.int (nI sL) :: st) h o) : X G d M pc lv (.ref (xsb G) :: st) h o := X_scl hd (by rw [e]; exact k)
theorem X_scd2 {i : Int32} (e : xsL G = sL) (f : xsx G = xs) (hs : sL < 2147483648) (hin : 0 ≤ i ∧ i < nI sL) (hd : decode M.2.1 pc = .ok (.iaload, 1)) (k : X G d M (pc + 1) lv (.int (xs i.toNatClampNeg) :: st) h o) : X G d M pc lv (.int i :: .ref (xsb G) :: st) h o := X_scd (by rw [e]; exact vp_in_lit hin (nI_toInt hs)) hd (by rw [f]; exact k)
end XScr

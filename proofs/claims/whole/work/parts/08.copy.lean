/-! System.arraycopy of ints -/
theorem uC_o {α : Type} {I : Nat → Nat → α} {src sp dst dp n b k : Nat} (h : b ≠ dst) : uC I src sp dst dp n b k = I b k := if_neg (fun q => h q.1)
theorem X_copyi {G : xG} {d : Nat} {M : xM} {pc idx a0 a n0 n1 : Nat} {lv : List (Nat × Value)} {st : List Value} {S : List xSh} {I : Nat → Nat → Int32} {L : Nat → Nat → Int64} {Rf : Nat → Nat → Option Nat} {o : Option Value × xH} {sp dp n : Int32}
    (hs0 : S[a0]? = some (.inr (0, n0))) (hs1 : S[a]? = some (.inr (0, n1))) (hl : Cond.methodLink M.1.cls idx arraycopyName ∈ xtbl) (hnat : Cond.native arraycopyName ∈ xtbl) (hstat : Cond.static arraycopyName ∈ xtbl) (hini : Cond.initialized "java/lang/System" ∈ xtbl)
    (g1 : ¬ sp < 0) (g2 : ¬ dp < 0) (g3 : ¬ n < 0) (g4 : sp.toNatClampNeg + n.toNatClampNeg ≤ n0) (g5 : dp.toNatClampNeg + n.toNatClampNeg ≤ n1) (h1d : 1 ≤ d) (hroom : (st.map fun v => v.category).sum ≤ 8) (hd : decode M.2.1 pc = .ok (.invokestatic idx, 3))
    (k : X G d M (pc + 3) lv st (S, uC I a0 sp.toNatClampNeg a dp.toNatClampNeg n.toNatClampNeg, L, Rf) o) : X G d M pc lv (.int n :: .int dp :: .ref (xP G a) :: .int sp :: .ref (xP G a0) :: st) (S, I, L, Rf) o := by
  refine ⟨k.1, fun p e R s m args below meth c Q mc ms hC h1 h2 hE H locs cells slots ls hP hl' h3 h4 hlv => ?_⟩
  have f1 := hC.2.2.2.2.2.2.2.2.2.1
  have f2 := hC.2.2.2.2.2.2.2.2.2.2
  have nn : ∀ z : Int32, ¬ z < 0 → z.toInt = (z.toNatClampNeg : Int) := by
    intro z hz
    have hz0 : (0 : Int) ≤ z.toInt := by
      have := Int32.not_lt.mp hz
      simpa using Int32.le_iff_toInt_le.mp this
    show z.toInt = ((z.toInt.toNat : Nat) : Int)
    omega
  have hz : nativeFrameWords "java/lang/System" "arraycopy" 5 + 11 ≤ 50 := by decide
  intro T hT Xs
  have hc0 : H[xP G a0]? = some (vp_cell (G.2.2.1 0) (n0, .inl (I a0))) := hP.arr hs0 (by decide)
  have hc1 : H[xP G a]? = some (vp_cell (G.2.2.1 0) (n1, .inl (I a))) := hP.arr hs1 (by decide)
  obtain ⟨-, k0, hk0, cm0, hkk0⟩ := (hC.k.arr (t := 0) (by decide)).1 n0 (fun j => .int (I a0 j))
  obtain ⟨vm', X', step⟩ := Xs.arraycopy hC.1 hC.own (hC.w hl) (hC.w hnat) (hC.w hstat) (hC.w hini) (src := xP G a0) (dst := xP G a) (cs := vp_cell (G.2.2.1 0) (n0, .inl (I a0))) (cd := vp_cell (G.2.2.1 0) (n1, .inl (I a))) (srcPos := sp) (destPos := dp) (n := n) (by rw [hT]; exact hc0) (by rw [hT]; exact hc1)
    (fun _ h => by cases h) (fun _ h => by cases h) (fun h => by cases h) (fun h => by cases h) hk0 hk0 hkk0 hkk0 (by simp [xaty, refKind]) g1 g2 g3
    (by rw [nn sp g1, nn n g3]; show ¬ _ > ((arrV (G.2.2.1 0) n0 (fun j => .int (I a0 j))).slots.size : Int); rw [arrV_size]; omega)
    (by rw [nn dp g2, nn n g3]; show ¬ _ > ((arrV (G.2.2.1 0) n1 (fun j => .int (I a j))).slots.size : Int); rw [arrV_size]; omega)
    (fun vm₁ _ i hi => by
      have e : (vp_cell (G.2.2.1 0) (n0, .inl (I a0))).slots.getD (sp.toNatClampNeg + i) .null = .int (I a0 (sp.toNatClampNeg + i)) := by
        show (arrV (G.2.2.1 0) n0 (fun j => .int (I a0 j))).slots.getD _ _ = _
        rw [Array.getD_eq_getD_getElem?, arrV_read _ _ (by omega)]
        rfl
      refine ⟨?_, ?_⟩
      · rw [e]
        rfl
      · rw [e]
        exact trivial)
    (g := F0 m pc ls (.int n :: .int dp :: .ref (xP G a) :: .int sp :: .ref (xP G a0) :: st)) rfl (by rw [hC.2.2.2.2.1]; exact hlv.1) (rest := st) rfl (by rw [hC.2.1]; exact hd) (by omega) (by show 2 * 0 + _ + _ ≤ _; omega)
  have e1 : copied (vp_cell (G.2.2.1 0) (n0, .inl (I a0))) (vp_cell (G.2.2.1 0) (n1, .inl (I a))) sp dp n = vp_cell (G.2.2.1 0) (n1, .inl (va_cpy (I a0) (I a) sp.toNatClampNeg dp.toNatClampNeg n.toNatClampNeg)) := va_copied (fun z => .int z) (G.2.2.1 0) (G.2.2.1 0) (I a0) (I a) g4
  rw [e1] at X' step
  have hlt : xP G a < H.size := (Array.getElem?_eq_some_iff.mp hc1).1
  have hheap : ((T.setVm vm').setCell (xP G a) (vp_cell (G.2.2.1 0) (n1, .inl (va_cpy (I a0) (I a) sp.toNatClampNeg dp.toNatClampNeg n.toNatClampNeg)))).heap = H.setIfInBounds (xP G a) (vp_cell (G.2.2.1 0) (n1, .inl (va_cpy (I a0) (I a) sp.toNatClampNeg dp.toNatClampNeg n.toNatClampNeg))) := by rw [← hT]; rfl
  obtain ⟨t, a1, b1⟩ := k.2 p e R s m args below meth c Q mc ms hC h1 h2 hE _ _ cells slots ls (hP.upd (h' := (S, uC I a0 sp.toNatClampNeg a dp.toNatClampNeg n.toNatClampNeg, L, Rf)) (k := a) rfl (by simp) (fun q hq => by simp [Array.getElem?_setIfInBounds, Ne.symm hq]) (fun t' ht' => by
      cases ht'.symm.trans hs1
      show (H.setIfInBounds (xP G a) _)[xP G a]? = _
      rw [Array.getElem?_setIfInBounds, if_pos rfl, if_pos hlt]
      rw [vp_cell_i]
      congr 2
      funext j
      simp [va_cpy, xval, xaty, uC]) (fun k' hk' j => ⟨uC_o hk', rfl, rfl⟩)) (fun q hq => by
      rcases List.mem_append.mp hq with h | h
      · exact hl' q h
      · obtain ⟨z, -, hz⟩ := List.mem_map.mp h
        rw [← hz]
        exact xB_xP _ _) h3 h4 hlv _ hheap X'
  exact ⟨t, step t a1, b1⟩

/-! arrays, new cells, tables, casts -/
section XA
variable {G : xG} {d : Nat} {M : xM} {pc : Nat} {lv : List (Nat × Value)} {st : List Value} {S : List xSh} {I : Nat → Nat → Int32} {L : Nat → Nat → Int64} {Rf : Nat → Nat → Option Nat} {o : Option Value × xH}
theorem vp_in.lt {i : Int32} {n : Nat} (h : vp_in i n) : i.toNatClampNeg < n := Nat.not_le.mp fun q => h (Or.inr q)
theorem X_iald {a n : Nat} {i : Int32} (hs : S[a]? = some (.inr (0, n))) (hin : vp_in i n) (hd : decode M.2.1 pc = .ok (.iaload, 1)) (k : X G d M (pc + 1) lv (.int (I a i.toNatClampNeg) :: st) (S, I, L, Rf) o) : X G d M pc lv (.int i :: .ref (xP G a) :: st) (S, I, L, Rf) o := by
  refine ⟨k.1, fun p e R s m args below meth c Q mc ms hC h1 h2 hE H locs cells slots ls hP hl h3 h4 hlv => ?_⟩
  have kk := k.2 p e R s m args below meth c Q mc ms hC h1 h2 hE H locs cells slots ls hP hl h3 h4 hlv
  exact W.iald (v := .int (I a i.toNatClampNeg)) hC.1 hC.2.1 (hP.arr hs (by omega)) ((hC.k.arr (t := 0) (by decide)).1 n _) (fun q => by cases q) (by rw [arrV_size]; exact hin) (by rw [arrV_read _ _ hin.lt]; rfl) rfl rfl hd kk
theorem X_lald {a n : Nat} {i : Int32} (hs : S[a]? = some (.inr (1, n))) (hin : vp_in i n) (hd : decode M.2.1 pc = .ok (.laload, 1)) (k : X G d M (pc + 1) lv (.long (L a i.toNatClampNeg) :: st) (S, I, L, Rf) o) : X G d M pc lv (.int i :: .ref (xP G a) :: st) (S, I, L, Rf) o := by
  refine ⟨k.1, fun p e R s m args below meth c Q mc ms hC h1 h2 hE H locs cells slots ls hP hl h3 h4 hlv => ?_⟩
  have kk := k.2 p e R s m args below meth c Q mc ms hC h1 h2 hE H locs cells slots ls hP hl h3 h4 hlv
  exact W.lald (v := .long (L a i.toNatClampNeg)) hC.1 hC.2.1 (hP.arr hs (by omega)) ((hC.k.arr (t := 1) (by decide)).1 n _) (fun q => by cases q) (by rw [arrV_size]; exact hin) (by rw [arrV_read _ _ hin.lt]; rfl) rfl rfl hd kk
theorem X_zald {a n : Nat} {i : Int32} (hs : S[a]? = some (.inr (2, n))) (hin : vp_in i n) (hd : decode M.2.1 pc = .ok (.baload, 1)) (k : X G d M (pc + 1) lv (.int (I a i.toNatClampNeg) :: st) (S, I, L, Rf) o) : X G d M pc lv (.int i :: .ref (xP G a) :: st) (S, I, L, Rf) o := by
  refine ⟨k.1, fun p e R s m args below meth c Q mc ms hC h1 h2 hE H locs cells slots ls hP hl h3 h4 hlv => ?_⟩
  have kk := k.2 p e R s m args below meth c Q mc ms hC h1 h2 hE H locs cells slots ls hP hl h3 h4 hlv
  exact W.zald (v := .int (I a i.toNatClampNeg)) hC.1 hC.2.1 (hP.arr hs (by omega)) ((hC.k.arr (t := 2) (by decide)).1 n _) (fun q => by cases q) (by rw [arrV_size]; exact hin) (by rw [arrV_read _ _ hin.lt]; rfl) rfl rfl hd kk
theorem X_aald {a t n : Nat} {i : Int32} (ht : 3 ≤ t ∧ t < 8) (hs : S[a]? = some (.inr (t, n))) (hin : vp_in i n) (hd : decode M.2.1 pc = .ok (.aaload, 1)) (k : X G d M (pc + 1) lv (xr G (Rf a i.toNatClampNeg) :: st) (S, I, L, Rf) o) : X G d M pc lv (.int i :: .ref (xP G a) :: st) (S, I, L, Rf) o := by
  refine ⟨k.1, fun p e R s m args below meth c Q mc ms hC h1 h2 hE H locs cells slots ls hP hl h3 h4 hlv => ?_⟩
  have kk := k.2 p e R s m args below meth c Q mc ms hC h1 h2 hE H locs cells slots ls hP hl h3 h4 hlv
  obtain rfl | rfl | rfl | rfl | rfl : t = 3 ∨ t = 4 ∨ t = 5 ∨ t = 6 ∨ t = 7 := by omega
  · exact W.aald (v := xr G (Rf a i.toNatClampNeg)) hC.1 hC.2.1 (hP.arr hs (by omega)) ((hC.k.arr (t := 3) (by decide)).1 n _) rfl (fun q => by cases q) (by rw [arrV_size]; exact hin) (by rw [arrV_read _ _ hin.lt]; rfl) rfl rfl hd kk
  · exact W.aald (v := xr G (Rf a i.toNatClampNeg)) hC.1 hC.2.1 (hP.arr hs (by omega)) ((hC.k.arr (t := 4) (by decide)).1 n _) rfl (fun q => by cases q) (by rw [arrV_size]; exact hin) (by rw [arrV_read _ _ hin.lt]; rfl) rfl rfl hd kk
  · exact W.aald (v := xr G (Rf a i.toNatClampNeg)) hC.1 hC.2.1 (hP.arr hs (by omega)) ((hC.k.arr (t := 5) (by decide)).1 n _) rfl (fun q => by cases q) (by rw [arrV_size]; exact hin) (by rw [arrV_read _ _ hin.lt]; rfl) rfl rfl hd kk
  · exact W.aald (v := xr G (Rf a i.toNatClampNeg)) hC.1 hC.2.1 (hP.arr hs (by omega)) ((hC.k.arr (t := 6) (by decide)).1 n _) rfl (fun q => by cases q) (by rw [arrV_size]; exact hin) (by rw [arrV_read _ _ hin.lt]; rfl) rfl rfl hd kk
  · exact W.aald (v := xr G (Rf a i.toNatClampNeg)) hC.1 hC.2.1 (hP.arr hs (by omega)) ((hC.k.arr (t := 7) (by decide)).1 n _) rfl (fun q => by cases q) (by rw [arrV_size]; exact hin) (by rw [arrV_read _ _ hin.lt]; rfl) rfl rfl hd kk
theorem X_alen {a t n : Nat} (v : Int32) (ht : t < 8) (hs : S[a]? = some (.inr (t, n))) (hv : Int32.ofNat n = v) (hd : decode M.2.1 pc = .ok (.arraylength, 1)) (k : X G d M (pc + 1) lv (.int v :: st) (S, I, L, Rf) o) : X G d M pc lv (.ref (xP G a) :: st) (S, I, L, Rf) o := by
  refine ⟨k.1, fun p e R s m args below meth c Q mc ms hC h1 h2 hE H locs cells slots ls hP hl h3 h4 hlv => ?_⟩
  have kk := k.2 p e R s m args below meth c Q mc ms hC h1 h2 hE H locs cells slots ls hP hl h3 h4 hlv
  subst hv
  exact W.alen (n := Int32.ofNat n) hC.1 hC.2.1 (hP.arr hs (by omega)) ((hC.k.arr ht).1 n _) (by rw [arrV_size] <;> rfl) rfl rfl hd kk
/-- behind a store into one place of an array -/
theorem xStore {p : Program} {e : Env} {R : Room} {s : State} {m : MethodId} {args : Array Value} {below : List Frame} {meth : Method} {c : Code} {Q : State → Prop} {mc ms : Nat} {H : Heap} {locs : List Loc} {cells slots : Nat} {ls : Array Slot} {a t n j pc' : Nat} {v : Value} {I' : Nat → Nat → Int32} {L' : Nat → Nat → Int64} {Rf' : Nat → Nat → Option Nat} (k : X G d M pc' lv st (S, I', L', Rf') o)
    (hC : xC G d M p s m args meth c R) (h1 : mc ≤ R.cells) (h2 : ms ≤ R.slots) (hE : xEnd G M o p e R s m args below meth c Q mc ms) (hP : xRep G (S, I, L, Rf) H) (hl : ∀ q ∈ locs, xB G ≤ q.base) (h3 : cells + (o.2.1.length - S.length) ≤ mc) (h4 : slots + (xslots o.2 - xslots (S, I, L, Rf)) ≤ ms) (hlv : lv_has ls M.2.2.1 lv)
    (hs : S[a]? = some (.inr (t, n))) (hv : xval G (S, I', L', Rf') a j (xaty t) = v) (ho : ∀ b k, ¬ (b = a ∧ k = j) → I' b k = I b k ∧ L' b k = L b k ∧ Rf' b k = Rf b k) :
    ∀ H' : Heap, H'[xP G a]? = some ((arrV (G.2.2.1 t) n (fun j => xval G (S, I, L, Rf) a j (xaty t))).setSlot j v) → H'.size = H.size → (∀ q, q ≠ xP G a → H'[q]? = H[q]?) → W p G.1 e R s m args below meth c H' (locs ++ [⟨xP G a, j⟩]) cells slots Q (F0 m pc' ls st) := by
  intro H' e1 e2 e3
  refine k.2 p e R s m args below meth c Q mc ms hC h1 h2 hE H' _ cells slots ls (hP.upd rfl e2 e3 (fun t' ht' => ?_) (fun k' hk' j' => ho k' j' (fun hh => hk' hh.1))) (fun q hq => ?_) h3 h4 hlv
  · cases ht'.symm.trans hs
    show H'[xP G a]? = _
    rw [e1, arrV_store]
    congr 2
    funext j'
    by_cases hjj : j' = j
    · subst hjj
      simp [updV, hv]
    · simp only [updV, hjj, if_false]
      exact (xval_eq (h := (S, I, L, Rf)) (ho a j' (fun hh => hjj hh.2)) _).symm
  · rcases List.mem_append.mp hq with hq | hq
    · exact hl q hq
    · rw [List.mem_singleton.mp hq]
      exact xB_xP _ _
theorem X_iast {a n : Nat} {i x : Int32} (hs : S[a]? = some (.inr (0, n))) (hin : vp_in i n) (hd : decode M.2.1 pc = .ok (.iastore, 1)) (k : X G d M (pc + 1) lv st (S, uI I a i.toNatClampNeg x, L, Rf) o) : X G d M pc lv (.int x :: .int i :: .ref (xP G a) :: st) (S, I, L, Rf) o := by
  refine ⟨k.1, fun p e R s m args below meth c Q mc ms hC h1 h2 hE H locs cells slots ls hP hl h3 h4 hlv => ?_⟩
  exact W.iast hC.1 hC.2.1 (hP.arr hs (by omega)) ((hC.k.arr (t := 0) (by decide)).1 n _) (fun q => by cases q) (by rw [arrV_size]; exact hin) rfl rfl hd (xStore k hC h1 h2 hE hP hl h3 h4 hlv hs (by simp [xval, xaty, uI]) (fun b k hbk => ⟨uI_o hbk, rfl, rfl⟩))
theorem X_last {a n : Nat} {i : Int32} {x : Int64} (hs : S[a]? = some (.inr (1, n))) (hin : vp_in i n) (hd : decode M.2.1 pc = .ok (.lastore, 1)) (k : X G d M (pc + 1) lv st (S, I, uL L a i.toNatClampNeg x, Rf) o) : X G d M pc lv (.long x :: .int i :: .ref (xP G a) :: st) (S, I, L, Rf) o := by
  refine ⟨k.1, fun p e R s m args below meth c Q mc ms hC h1 h2 hE H locs cells slots ls hP hl h3 h4 hlv => ?_⟩
  exact W.last hC.1 hC.2.1 (hP.arr hs (by omega)) ((hC.k.arr (t := 1) (by decide)).1 n _) (fun q => by cases q) (by rw [arrV_size]; exact hin) rfl rfl hd (xStore k hC h1 h2 hE hP hl h3 h4 hlv hs (by simp [xval, xaty, uL]) (fun b k hbk => ⟨rfl, uL_o hbk, rfl⟩))
theorem X_zast {a n : Nat} {i x : Int32} (hx : x = 0 ∨ x = 1) (hs : S[a]? = some (.inr (2, n))) (hin : vp_in i n) (hd : decode M.2.1 pc = .ok (.bastore, 1)) (k : X G d M (pc + 1) lv st (S, uI I a i.toNatClampNeg x, L, Rf) o) : X G d M pc lv (.int x :: .int i :: .ref (xP G a) :: st) (S, I, L, Rf) o := by
  refine ⟨k.1, fun p e R s m args below meth c Q mc ms hC h1 h2 hE H locs cells slots ls hP hl h3 h4 hlv => ?_⟩
  have hn : narrow .boolean (.int x) = .int x := by rcases hx with rfl | rfl <;> rfl
  refine W.zast hC.1 hC.2.1 (hP.arr hs (by omega)) ((hC.k.arr (t := 2) (by decide)).1 n _) (fun q => by cases q) (by rw [arrV_size]; exact hin) rfl rfl hd ?_
  rw [hn]
  exact xStore k hC h1 h2 hE hP hl h3 h4 hlv hs (by simp [xval, xaty, uI]) (fun b k hbk => ⟨uI_o hbk, rfl, rfl⟩)
theorem X_aastN {a t n : Nat} {i : Int32} (ht : 3 ≤ t ∧ t < 8) (hs : S[a]? = some (.inr (t, n))) (hin : vp_in i n) (hd : decode M.2.1 pc = .ok (.aastore, 1)) (k : X G d M (pc + 1) lv st (S, I, L, uR Rf a i.toNatClampNeg none) o) : X G d M pc lv (.null :: .int i :: .ref (xP G a) :: st) (S, I, L, Rf) o := by
  refine ⟨k.1, fun p e R s m args below meth c Q mc ms hC h1 h2 hE H locs cells slots ls hP hl h3 h4 hlv => ?_⟩
  obtain rfl | rfl | rfl | rfl | rfl : t = 3 ∨ t = 4 ∨ t = 5 ∨ t = 6 ∨ t = 7 := by omega
  · exact va_WaastN (C := "WatchHouse$Work") hC.1 hC.2.1 (hP.arr hs (by omega)) ((hC.k.arr (t := 3) (by decide)).1 n _) (fun q => by cases q) (by rw [arrV_size]; exact hin) rfl rfl hd (xStore k hC h1 h2 hE hP hl h3 h4 hlv hs (by simp [xval, xaty, uR, xr, va_rf]) (fun b k hbk => ⟨rfl, rfl, uR_o hbk⟩))
  · exact va_WaastN (C := "WatchHouse$Chronograph") hC.1 hC.2.1 (hP.arr hs (by omega)) ((hC.k.arr (t := 4) (by decide)).1 n _) (fun q => by cases q) (by rw [arrV_size]; exact hin) rfl rfl hd (xStore k hC h1 h2 hE hP hl h3 h4 hlv hs (by simp [xval, xaty, uR, xr, va_rf]) (fun b k hbk => ⟨rfl, rfl, uR_o hbk⟩))
  · exact va_WaastN (C := "WatchHouse$Dial") hC.1 hC.2.1 (hP.arr hs (by omega)) ((hC.k.arr (t := 5) (by decide)).1 n _) (fun q => by cases q) (by rw [arrV_size]; exact hin) rfl rfl hd (xStore k hC h1 h2 hE hP hl h3 h4 hlv hs (by simp [xval, xaty, uR, xr, va_rf]) (fun b k hbk => ⟨rfl, rfl, uR_o hbk⟩))
  · exact va_WaastN (C := "WatchHouse$Calendar") hC.1 hC.2.1 (hP.arr hs (by omega)) ((hC.k.arr (t := 6) (by decide)).1 n _) (fun q => by cases q) (by rw [arrV_size]; exact hin) rfl rfl hd (xStore k hC h1 h2 hE hP hl h3 h4 hlv hs (by simp [xval, xaty, uR, xr, va_rf]) (fun b k hbk => ⟨rfl, rfl, uR_o hbk⟩))
  · exact va_WaastN (C := "WatchHouse$Strike") hC.1 hC.2.1 (hP.arr hs (by omega)) ((hC.k.arr (t := 7) (by decide)).1 n _) (fun q => by cases q) (by rw [arrV_size]; exact hin) rfl rfl hd (xStore k hC h1 h2 hE hP hl h3 h4 hlv hs (by simp [xval, xaty, uR, xr, va_rf]) (fun b k hbk => ⟨rfl, rfl, uR_o hbk⟩))
/-- an object into an array of its class -/
theorem X_aastC {a v n t ci : Nat} {i : Int32} (ht : (t = 4 ∧ ci = 3) ∨ (t = 5 ∧ ci = 4) ∨ (t = 6 ∧ ci = 1) ∨ (t = 7 ∧ ci = 8)) (hs : S[a]? = some (.inr (t, n))) (hv : S[v]? = some (.inl ci)) (hin : vp_in i n) (hd : decode M.2.1 pc = .ok (.aastore, 1)) (k : X G d M (pc + 1) lv st (S, I, L, uR Rf a i.toNatClampNeg (some v)) o) : X G d M pc lv (.ref (xP G v) :: .int i :: .ref (xP G a) :: st) (S, I, L, Rf) o := by
  refine ⟨k.1, fun p e R s m args below meth c Q mc ms hC h1 h2 hE H locs cells slots ls hP hl h3 h4 hlv => ?_⟩
  rcases ht with ⟨rfl, rfl⟩ | ⟨rfl, rfl⟩ | ⟨rfl, rfl⟩ | ⟨rfl, rfl⟩
  · obtain ⟨hci, cellV, g1, g2, g3, -⟩ := hP.obj hv
    have hcls := (hC.k.1.1 3 _ (xcl_has hci)).2
    obtain ⟨kA, comp, k1, k2, k3, -⟩ := (hC.k.arr (t := 4) (by decide)).2
    have hcomp : comp = G.2.1.1 3 := Option.some.inj (k3.symm.trans hcls.1)
    subst hcomp
    obtain ⟨kC, hkC, -⟩ := hcls.2
    exact W.aast hC.1 hC.2.1 (hP.arr hs (by omega)) (fun q h => by cases h) (fun h => by cases h) k1 k2 rfl hkC ⟨fun q => hin (Or.inl q), by rw [arrV_size]; exact hin.lt⟩ g1 (fun q h => by rw [g3] at h; cases h) (by rw [g2]; exact hkC) (by rw [g2]; exact va_assign hcls) rfl rfl hd (xStore k hC h1 h2 hE hP hl h3 h4 hlv hs (by simp [xval, xaty, uR, xr, va_rf]) (fun b k hbk => ⟨rfl, rfl, uR_o hbk⟩))
  · obtain ⟨hci, cellV, g1, g2, g3, -⟩ := hP.obj hv
    have hcls := (hC.k.1.1 4 _ (xcl_has hci)).2
    obtain ⟨kA, comp, k1, k2, k3, -⟩ := (hC.k.arr (t := 5) (by decide)).2
    have hcomp : comp = G.2.1.1 4 := Option.some.inj (k3.symm.trans hcls.1)
    subst hcomp
    obtain ⟨kC, hkC, -⟩ := hcls.2
    exact W.aast hC.1 hC.2.1 (hP.arr hs (by omega)) (fun q h => by cases h) (fun h => by cases h) k1 k2 rfl hkC ⟨fun q => hin (Or.inl q), by rw [arrV_size]; exact hin.lt⟩ g1 (fun q h => by rw [g3] at h; cases h) (by rw [g2]; exact hkC) (by rw [g2]; exact va_assign hcls) rfl rfl hd (xStore k hC h1 h2 hE hP hl h3 h4 hlv hs (by simp [xval, xaty, uR, xr, va_rf]) (fun b k hbk => ⟨rfl, rfl, uR_o hbk⟩))
  · obtain ⟨hci, cellV, g1, g2, g3, -⟩ := hP.obj hv
    have hcls := (hC.k.1.1 1 _ (xcl_has hci)).2
    obtain ⟨kA, comp, k1, k2, k3, -⟩ := (hC.k.arr (t := 6) (by decide)).2
    have hcomp : comp = G.2.1.1 1 := Option.some.inj (k3.symm.trans hcls.1)
    subst hcomp
    obtain ⟨kC, hkC, -⟩ := hcls.2
    exact W.aast hC.1 hC.2.1 (hP.arr hs (by omega)) (fun q h => by cases h) (fun h => by cases h) k1 k2 rfl hkC ⟨fun q => hin (Or.inl q), by rw [arrV_size]; exact hin.lt⟩ g1 (fun q h => by rw [g3] at h; cases h) (by rw [g2]; exact hkC) (by rw [g2]; exact va_assign hcls) rfl rfl hd (xStore k hC h1 h2 hE hP hl h3 h4 hlv hs (by simp [xval, xaty, uR, xr, va_rf]) (fun b k hbk => ⟨rfl, rfl, uR_o hbk⟩))
  · obtain ⟨hci, cellV, g1, g2, g3, -⟩ := hP.obj hv
    have hcls := (hC.k.1.1 8 _ (xcl_has hci)).2
    obtain ⟨kA, comp, k1, k2, k3, -⟩ := (hC.k.arr (t := 7) (by decide)).2
    have hcomp : comp = G.2.1.1 8 := Option.some.inj (k3.symm.trans hcls.1)
    subst hcomp
    obtain ⟨kC, hkC, -⟩ := hcls.2
    exact W.aast hC.1 hC.2.1 (hP.arr hs (by omega)) (fun q h => by cases h) (fun h => by cases h) k1 k2 rfl hkC ⟨fun q => hin (Or.inl q), by rw [arrV_size]; exact hin.lt⟩ g1 (fun q h => by rw [g3] at h; cases h) (by rw [g2]; exact hkC) (by rw [g2]; exact va_assign hcls) rfl rfl hd (xStore k hC h1 h2 hE hP hl h3 h4 hlv hs (by simp [xval, xaty, uR, xr, va_rf]) (fun b k hbk => ⟨rfl, rfl, uR_o hbk⟩))
/-- a work into the array of works -/
theorem X_aastW {a v n ci : Nat} {i : Int32} (hs : S[a]? = some (.inr (3, n))) (hv : S[v]? = some (.inl ci)) (hca : Cond.castable (xcl ci).1 "WatchHouse$Work" ∈ xnl) (hin : vp_in i n) (hd : decode M.2.1 pc = .ok (.aastore, 1)) (k : X G d M (pc + 1) lv st (S, I, L, uR Rf a i.toNatClampNeg (some v)) o) : X G d M pc lv (.ref (xP G v) :: .int i :: .ref (xP G a) :: st) (S, I, L, Rf) o := by
  refine ⟨k.1, fun p e R s m args below meth c Q mc ms hC h1 h2 hE H locs cells slots ls hP hl h3 h4 hlv => ?_⟩
  obtain ⟨hci, cellV, g1, g2, g3, -⟩ := hP.obj hv
  have hcls := (hC.k.1.1 ci _ (xcl_has hci)).2
  obtain ⟨kA, comp, k1, k2, k3, -⟩ := (hC.k.arr (t := 3) (by decide)).2
  obtain ⟨kE, hkE, -⟩ := Vm.findClass_spec k3
  obtain ⟨c0, t1, f1, f2, f3⟩ := Cond.castable_spec (va_Nw.use (A := args) rfl (hC.k.2.1 _ hca))
  cases hcls.1.symm.trans f1
  cases k3.symm.trans f2
  obtain ⟨kC, hkC, -⟩ := hcls.2
  exact W.aast hC.1 hC.2.1 (hP.arr hs (by omega)) (fun q h => by cases h) (fun h => by cases h) k1 k2 rfl hkE ⟨fun q => hin (Or.inl q), by rw [arrV_size]; exact hin.lt⟩ g1 (fun q h => by rw [g3] at h; cases h) (by rw [g2]; exact hkC) (by rw [g2]; exact f3) rfl rfl hd (xStore k hC h1 h2 hE hP hl h3 h4 hlv hs (by simp [xval, xaty, uR, xr, va_rf]) (fun b k hbk => ⟨rfl, rfl, uR_o hbk⟩))
end XA
/-- the same, seen as the machine makes it: cell k is its k-th -/
def xV (G : xG) (a b : Nat → Nat) : xG := (G.1, G.2.1, G.2.2.1, G.2.2.2.1, G.2.2.2.2.1, G.2.2.2.2.2.1, G.2.2.2.2.2.2.1, G.2.2.2.2.2.2.2.1, G.2.2.2.2.2.2.2.2.1, a, b)
def x0 (G : xG) : xG := xV G (fun k => k) (fun k => k)
/-- behind a new cell -/
theorem xRep.new {G : xG} {h : xH} {H H1 : Heap} {t : xSh} (hP : xRep (x0 G) h H) (z : H1.size = H.size + 1) (oq : ∀ q, q < H.size → H1[q]? = H[q]?) (hc : xcell (x0 G) (nC h t) h.1.length H1 t) : xRep (x0 G) (nC h t) H1 := by
  have hz : H.size = xB G + h.1.length := hP.1
  refine ⟨by rw [z, hz]; show _ = xB G + (nC h t).1.length; simp [nC]; omega, fun q hq => by rw [oq q (by have : q < xB G := hq; omega)]; exact hP.2.1 q hq, fun k t' ht' hh => ?_, hP.2.2.2⟩
  by_cases e : k < h.1.length
  · have ht2 : h.1[k]? = some t' := by
      rw [← ht']; simp [nC, List.getElem?_append_left e]
    have hc' := hP.2.2.1 k t' ht2 hh
    have hq : H1[xP (x0 G) k]? = H[xP (x0 G) k]? := oq _ (by show xB G + k < _; omega)
    have hv : ∀ j ty, xval (x0 G) (nC h t) k j ty = xval (x0 G) h k j ty := fun j ty => xval_eq ⟨by simp [nC]; intro h'; omega, by simp [nC]; intro h'; omega, by simp [nC]; intro h'; omega⟩ ty
    cases t' with
    | inl ci =>
      obtain ⟨r, h1, h2⟩ := hc'
      exact ⟨r, h1, (h2.kept hq).to (fun j _ => (hv _ _).symm)⟩
    | inr q =>
      show H1[xP (x0 G) k]? = _
      rw [hq]
      refine (show H[xP (x0 G) k]? = _ from hc').trans ?_
      congr 2
      funext j
      exact (hv j _).symm
  · have hk : k = h.1.length := by
      have := (List.getElem?_eq_some_iff.mp ht').1
      simp [nC] at this
      omega
    subst hk
    have : t' = t := by simpa [nC] using ht'.symm
    subst this
    exact hc
theorem xslots_new (h : xH) (t : xSh) : xslots (nC h t) = xslots h + xsl t := by simp [xslots, nC]
theorem nC_len (h : xH) (t : xSh) : (nC h t).1.length = h.1.length + 1 := by simp [nC]
theorem xval0 (G : xG) (h : xH) (t : xSh) (j : Nat) (ty : FieldType) : xval G (nC h t) h.1.length j ty = match ty with | .long => .long 0 | .object _ => .null | .array _ => .null | _ => .int 0 := by
  cases ty <;> simp [xval, nC, xr, va_rf]
section XN
variable {G : xG} {d : Nat} {M : xM} {pc : Nat} {lv : List (Nat × Value)} {st : List Value} {h : xH} {o : Option Value × xH}
theorem xcl_dv : ∀ ci, ci < 12 → ∀ k, k < (xcl ci).2.2 → defaultValue (xty ci k) = (match xty ci k with | .long => .long 0 | .object _ => .null | .array _ => .null | _ => .int 0) := by decide +kernel
theorem xcl_nf : ∀ ci, ci < 12 → (xcl ci).2.2 = xnf ci := by decide +kernel
theorem X_new {ci idx : Nat} (hci : ci < 12) (hcl : Cond.classLink M.1.cls idx (xcl ci).1 ∈ xtbl) (hinst : Cond.instantiable (xcl ci).1 (xnf ci) ∈ xtbl) (hini : Cond.initialized (xcl ci).1 ∈ xtbl) (hd : decode M.2.1 pc = .ok (.new idx, 3)) (k : X (x0 G) d M (pc + 3) lv (.ref (xP (x0 G) h.1.length) :: st) (nC h (.inl ci)) o) : X (x0 G) d M pc lv st h o := by
  have k1 := k.1
  rw [nC_len, xslots_new] at k1
  refine ⟨⟨by omega, by omega⟩, fun p e R s m args below meth c Q mc ms hC h1 h2 hE H locs cells slots ls hP hl h3 h4 hlv => ?_⟩
  have hKn := hC.k.1.1 ci _ (xcl_has hci)
  have hsl : xsl (.inl ci) = xnf ci := rfl
  rw [hsl] at k1
  refine W.newcK hC.1 hC.2.1 hC.own (hC.w hcl) (hC.w hinst) (hC.w hini) rfl hd (by omega) (by omega) hKn.2.1 hP.1 fun H1 kC hkC e1 z1 o1 => ?_
  refine k.2 p e R s m args below meth c Q mc ms hC h1 h2 hE H1 locs (cells + 1) (slots + xnf ci) ls (hP.new (by rw [z1, hP.1]) (fun q hq => o1 q (by rw [← hP.1]; exact hq)) ?_) hl (by rw [nC_len]; omega) (by rw [xslots_new, hsl]; omega) hlv
  refine ⟨_, xcl_has hci, (u_born (xty ci) (fun w hw => hC.w hw) (xcl_in ci hci) hKn hkC e1 (xcl_ty ci hci)).to (fun j hj => ?_)⟩
  rw [xval0]
  exact xcl_dv ci hci j hj
theorem X_newa {t N idx : Nat} {n : Int32} {atype : ArrayType} (ht : t < 3) (hty : newarray.typeOf atype = xaty t) (hw : Cond.arrayClass (newarray.typeOf atype) ∈ xtbl) (hn : ¬ n < 0) (hN : n.toNatClampNeg = N) (hb : N * 8 ≤ 536870912) (hd : decode M.2.1 pc = .ok (.newarray atype, 2)) (k : X (x0 G) d M (pc + 2) lv (.ref (xP (x0 G) h.1.length) :: st) (nC h (.inr (t, N))) o) : X (x0 G) d M pc lv (.int n :: st) h o := by
  have k1 := k.1
  rw [nC_len, xslots_new] at k1
  have hsl : xsl (.inr (t, N)) = N := rfl
  rw [hsl] at k1
  refine ⟨⟨by omega, by omega⟩, fun p e R s m args below meth c Q mc ms hC h1 h2 hE H locs cells slots ls hP hl h3 h4 hlv => ?_⟩
  have hRA := (hC.k.arr (t := t) (by omega)).2
  refine va_newaK hC.1 hC.2.1 (hC.w hw) rfl hd rfl hn hN ?_ (by omega) (by omega) hP.1 fun H1 cA e1 z1 o1 hAr hNm => ?_
  · rw [hty]
    match t, ht with
    | 0, _ => exact Nat.le_trans (Nat.mul_le_mul_left N (by decide)) hb
    | 1, _ => exact Nat.le_trans (Nat.mul_le_mul_left N (by decide)) hb
    | 2, _ => exact Nat.le_trans (Nat.mul_le_mul_left N (by decide)) hb
  · have hcA : cA = G.2.2.1 t := by
      rw [hty] at hNm
      match t, ht, hRA, hNm with
      | 0, _, hRA, hNm => exact Option.some.inj (hNm.symm.trans hRA)
      | 1, _, hRA, hNm => exact Option.some.inj (hNm.symm.trans hRA)
      | 2, _, hRA, hNm => exact Option.some.inj (hNm.symm.trans hRA)
    subst hcA
    refine k.2 p e R s m args below meth c Q mc ms hC h1 h2 hE H1 locs (cells + 1) (slots + N) ls (hP.new (by rw [z1, hP.1]) (fun q hq => o1 q (by rw [← hP.1]; exact hq)) ?_) hl (by rw [nC_len]; omega) (by rw [xslots_new, hsl]; omega) hlv
    show H1[xB (x0 G) + xnu (x0 G) h.1.length]? = _
    rw [e1, hty]
    congr 2
    funext j
    rw [xval0]
    match t, ht with
    | 0, _ => rfl
    | 1, _ => rfl
    | 2, _ => rfl
theorem X_anew {t N idx : Nat} {n : Int32} {C : String} (ht : (t = 3 ∧ C = "WatchHouse$Work") ∨ (t = 4 ∧ C = "WatchHouse$Chronograph") ∨ (t = 5 ∧ C = "WatchHouse$Dial") ∨ (t = 6 ∧ C = "WatchHouse$Calendar") ∨ (t = 7 ∧ C = "WatchHouse$Strike")) (hcl : Cond.classLink M.1.cls idx C ∈ xtbl) (hn : ¬ n < 0) (hN : n.toNatClampNeg = N) (hb : N * 4 ≤ 536870912) (hd : decode M.2.1 pc = .ok (.anewarray idx, 3)) (k : X (x0 G) d M (pc + 3) lv (.ref (xP (x0 G) h.1.length) :: st) (nC h (.inr (t, N))) o) : X (x0 G) d M pc lv (.int n :: st) h o := by
  have k1 := k.1
  rw [nC_len, xslots_new] at k1
  have hsl : xsl (.inr (t, N)) = N := rfl
  rw [hsl] at k1
  refine ⟨⟨by omega, by omega⟩, fun p e R s m args below meth c Q mc ms hC h1 h2 hE H locs cells slots ls hP hl h3 h4 hlv => ?_⟩
  subst hN
  have hover : va_AO C s := by
    rcases ht with ⟨-, rfl⟩ | ⟨-, rfl⟩ | ⟨-, rfl⟩ | ⟨-, rfl⟩ | ⟨-, rfl⟩
    · exact hC.k.2.2.1.1
    · exact hC.k.2.2.1.2.1
    · exact hC.k.2.2.1.2.2.1
    · exact hC.k.2.2.1.2.2.2.1
    · exact hC.k.2.2.1.2.2.2.2
  have hz := hP.1
  refine W.anew hC.1 hC.2.1 hC.own (hC.w hcl) (va_AO.use hover) rfl hd rfl hn hb (by omega) (by omega) fun cA kA comp f1 f2 f3 f4 => ?_
  have hcA : cA = G.2.2.1 t := by
    rcases ht with ⟨rfl, rfl⟩ | ⟨rfl, rfl⟩ | ⟨rfl, rfl⟩ | ⟨rfl, rfl⟩ | ⟨rfl, rfl⟩
    · obtain ⟨_, _, _, _, _, h5⟩ := (hC.k.arr (t := 3) (by decide)).2
      exact Option.some.inj (f1.symm.trans h5)
    · obtain ⟨_, _, _, _, _, h5⟩ := (hC.k.arr (t := 4) (by decide)).2
      exact Option.some.inj (f1.symm.trans h5)
    · obtain ⟨_, _, _, _, _, h5⟩ := (hC.k.arr (t := 5) (by decide)).2
      exact Option.some.inj (f1.symm.trans h5)
    · obtain ⟨_, _, _, _, _, h5⟩ := (hC.k.arr (t := 6) (by decide)).2
      exact Option.some.inj (f1.symm.trans h5)
    · obtain ⟨_, _, _, _, _, h5⟩ := (hC.k.arr (t := 7) (by decide)).2
      exact Option.some.inj (f1.symm.trans h5)
  subst hcA
  rw [show H.size = xP (x0 G) h.1.length from hz]
  refine k.2 p e R s m args below meth c Q mc ms hC h1 h2 hE _ locs (cells + 1) (slots + n.toNatClampNeg) ls (hP.new (by simp) (fun q hq => by rw [Array.getElem?_push, if_neg (Nat.ne_of_lt hq)]) ?_) hl (by rw [nC_len]; omega) (by rw [xslots_new, hsl]; omega) hlv
  show (H.push _)[xP (x0 G) h.1.length]? = _
  rw [show xP (x0 G) h.1.length = H.size from hz.symm, Array.getElem?_push_size]
  rw [show ({ cls := G.2.2.1 t, slots := Array.replicate n.toNatClampNeg Value.null, vm := .none } : Cell) = arrV (G.2.2.1 t) n.toNatClampNeg (fun _ => .null) from by rw [← arrV_new]]
  congr 2
  funext j
  rw [xval0]
  rcases ht with ⟨rfl, rfl⟩ | ⟨rfl, rfl⟩ | ⟨rfl, rfl⟩ | ⟨rfl, rfl⟩ | ⟨rfl, rfl⟩ <;> rfl
end XN

/-! calls -/
/-- what the tables say of a method of ours -/
def xMok (M : xM) : Prop := plainName M.1.cls = true ∧ M.2.2.1 ≤ 45 ∧ Cond.code M.1 M.2.1 M.2.2.1 M.2.2.2 ∈ xtbl ∧ Cond.initialized M.1.cls ∈ xtbl ∧ M.1.cls ≠ "java/lang/invoke/MethodHandle" ∧ M.1.cls ≠ "java/lang/invoke/VarHandle"
theorem xws_in {M : xM} (h : xMok M) {w : Cond} (hw : w ∈ xws M) : w ∈ xtbl := by
  rcases List.mem_cons.mp hw with rfl | hw
  · exact h.2.2.1
  · exact hw
theorem xC.pay {G : xG} {d : Nat} {M M' : xM} {p : Program} {s : State} {m : MethodId} {args : Array Value} {meth : Method} {c : Code} {R : Room} (hC : xC G d M p s m args meth c R) (h : xMok M') : ∀ w ∈ xws M', ∀ (a' : Array Value) (U : State), s.WarmedH U.vm → w.before a' U = true :=
  fun w hw a' U hW => word_at hW (good_of_word (xtbl_good w (xws_in h hw))) (hC.w (xws_in h hw))
theorem xPc.blind {G : xG} {av : List Value} {h : xH} : FrameBlind (xPc G av h) := fun a U g mk q => ⟨q.1, q.2.1, xK.same (u := U) (U := U.calling g mk a) rfl q.2.2⟩
theorem xPc.at {G : xG} {d : Nat} {M : xM} {p : Program} {s : State} {m : MethodId} {args : Array Value} {meth : Method} {c : Code} {R : Room} (hC : xC G d M p s m args meth c R) {av : List Value} {h : xH} {H : Heap} (hP : xRep G h H) : ∀ U : State, U.heap = H → s.WarmedH U.vm → xPc G av h av.toArray U :=
  fun U hU hW => ⟨rfl, by rw [hU]; exact hP, xK.warm hW hC.k⟩
theorem xC.frames {G : xG} {d d' : Nat} {M : xM} {p : Program} {s : State} {m : MethodId} {args : Array Value} {meth : Method} {c : Code} {R : Room} (hC : xC G d M p s m args meth c R) (h : d' + 1 ≤ d) {mc ms maxL : Nat} (hm : maxL ≤ 45) : (xrm d' mc ms).frames + 1 ≤ R.frames ∧ 8 + (maxL + 11) + (xrm d' mc ms).locals ≤ R.locals := by
  have h1 := hC.2.2.2.2.2.2.2.2.2.1
  have h2 := hC.2.2.2.2.2.2.2.2.2.2
  refine ⟨Nat.le_trans h h1, ?_⟩
  show 8 + (maxL + 11) + 64 * d' ≤ R.locals
  omega
/-- behind a call -/
theorem xGo {G : xG} {d : Nat} {M : xM} {pc : Nat} {lv : List (Nat × Value)} {rest st0 : List Value} {h : xH} {o o1 : Option Value × xH} {p : Program} {e : Env} {R : Room} {s : State} {m : MethodId} {args a1 : Array Value} {below : List Frame} {meth : Method} {c : Code} {Q : State → Prop} {mc ms : Nat} {H : Heap} {locs : List Loc} {cells slots : Nat} {ls : Array Slot}
    (hg : h.1.length ≤ o1.2.1.length ∧ xslots h ≤ xslots o1.2) (hr : va_Run p G.1 e R s m args below meth c H locs cells slots (o1.2.1.length - h.1.length) (xslots o1.2 - xslots h) (F0 m pc ls st0) rest (xQ G o1 a1) (xA G))
    (k : X G d M (pc + 3) lv (o1.1.toList ++ rest) o1.2 o) (hC : xC G d M p s m args meth c R) (h1 : mc ≤ R.cells) (h2 : ms ≤ R.slots) (hE : xEnd G M o p e R s m args below meth c Q mc ms) (hl : ∀ q ∈ locs, xB G ≤ q.base) (h3 : cells + (o.2.1.length - h.1.length) ≤ mc) (h4 : slots + (xslots o.2 - xslots h) ≤ ms) (hlv : lv_has ls M.2.2.1 lv) :
    W p G.1 e R s m args below meth c H locs cells slots Q (F0 m pc ls st0) := by
  intro T hT X
  obtain ⟨v, st₀, t, T', L, h0, X', hL, e1, e2, ⟨hv, hb⟩, stp⟩ := hr T hT X
  have hv : v = o1.1 := Outcome.returned.inj hv
  subst hv
  have k1 := k.1
  obtain ⟨t2, a1, b1⟩ := k.2 p e R s m args below meth c Q mc ms hC h1 h2 hE T'.heap (locs ++ L) _ _ ls (by rw [e1]; exact hb) (fun q hq => by
      rcases List.mem_append.mp hq with hq | hq
      · exact hl q hq
      · exact hL q hq) (by omega) (by omega) hlv T' rfl X'
  exact ⟨t2, stp t2 a1, b1⟩
theorem xGrow {h h1 h2 : xH} (a : h.1.length ≤ h1.1.length ∧ xslots h ≤ xslots h1) (b : h1.1.length ≤ h2.1.length ∧ xslots h1 ≤ xslots h2) : h.1.length ≤ h2.1.length ∧ xslots h ≤ xslots h2 := ⟨Nat.le_trans a.1 b.1, Nat.le_trans a.2 b.2⟩
section XCall
variable {G : xG} {d d' : Nat} {M M' : xM} {pc idx n : Nat} {lv : List (Nat × Value)} {rest : List Value} {h : xH} {o o1 : Option Value × xH}
theorem xNargs {y : MethodName} {n : Nat} (h : (parseMethodDescriptor y.desc).map (fun d => d.parameters.length) = some n) : ∀ sig, parseMethodDescriptor y.desc = some sig → n = sig.parameters.length := fun sig hs => by
  rw [hs] at h
  exact (Option.some.inj h).symm
/-- a static method -/
theorem X_invS {av st : List Value} (hc : CT G d' M' av h o1) (ok : xMok M') (hl : Cond.methodLink M.1.cls idx M'.1 ∈ xtbl) (hs : Cond.static M'.1 ∈ xtbl) (hn : (parseMethodDescriptor M'.1.desc).map (fun d => d.parameters.length) = some av.length) (hd' : d' + 1 ≤ d) (hst : st = av.reverse ++ rest) (hroom : (rest.map fun v => v.category).sum ≤ 8) (hd : decode M.2.1 pc = .ok (.invokestatic idx, 3)) (k : X G d M (pc + 3) lv (o1.1.toList ++ rest) o1.2 o) : X G d M pc lv st h o := by
  refine ⟨xGrow hc.1 k.1, fun p e R s m args below meth c Q mc ms hC h1 h2 hE H locs cells slots ls hP hl' h3 h4 hlv => ?_⟩
  have k1 := k.1
  have hg := hc.1
  exact xGo hc.1 (va_runS (n := av.length) (bytes := M'.2.1) (maxL := M'.2.2.1) (ret := M'.2.2.2) (Ts := xtbl) ⟨hC.1, hC.2.1, hC.2.2.2.2.1, hC.own, fun w hw => hC.w hw⟩ hc.2
    ⟨⟨rfl, rfl, (hC.frames hd' ok.2.1).1, (hC.frames hd' ok.2.1).2, hC.pay ok, List.mem_cons_self, hC.w ok.2.2.1, hC.w ok.2.2.2.1, ok.2.2.2.2, xNargs hn, hC.w hl⟩, hC.w hs⟩ ⟨xPc.blind, xPc.at hC hP⟩ rfl rfl hlv.1 hst (lv_room hroom) hd ⟨by omega, by omega⟩) k hC h1 h2 hE hl' h3 h4 hlv
/-- a private static method of a nest mate -/
theorem X_invSN {av st : List Value} {host : String} (hc : CT G d' M' av h o1) (ok : xMok M') (hl : Cond.methodLinkNest M.1.cls idx M'.1 host ∈ xnl) (hs : Cond.static M'.1 ∈ xtbl) (hn : (parseMethodDescriptor M'.1.desc).map (fun d => d.parameters.length) = some av.length) (hd' : d' + 1 ≤ d) (hst : st = av.reverse ++ rest) (hroom : (rest.map fun v => v.category).sum ≤ 8) (hd : decode M.2.1 pc = .ok (.invokestatic idx, 3)) (k : X G d M (pc + 3) lv (o1.1.toList ++ rest) o1.2 o) : X G d M pc lv st h o := by
  refine ⟨xGrow hc.1 k.1, fun p e R s m args below meth c Q mc ms hC h1 h2 hE H locs cells slots ls hP hl' h3 h4 hlv => ?_⟩
  have k1 := k.1
  have hg := hc.1
  exact xGo hc.1 (va_runSN (n := av.length) (bytes := M'.2.1) (maxL := M'.2.2.1) (ret := M'.2.2.2) (host := host) (Ts := xtbl) ⟨hC.1, hC.2.1, hC.2.2.2.2.1, hC.own, fun w hw => hC.w hw⟩ hc.2
    ⟨⟨⟨rfl, rfl, (hC.frames hd' ok.2.1).1, (hC.frames hd' ok.2.1).2, hC.pay ok, List.mem_cons_self⟩, hC.w ok.2.2.1, hC.w ok.2.2.2.1, ok.2.2.2.2, xNargs hn, va_Nw.use rfl (hC.k.2.1 _ hl)⟩, hC.w hs, trivial⟩ ⟨xPc.blind, xPc.at hC hP⟩ rfl rfl hlv.1 hst (lv_room hroom) hd ⟨by omega, by omega⟩) k hC h1 h2 hE hl' h3 h4 hlv
theorem xRecv {p : Program} {s : State} {m : MethodId} {args : Array Value} {meth : Method} {c : Code} {R : Room} (hC : xC G d M p s m args meth c R) {H : Heap} (hP : xRep G h H) {b ci : Nat} (hs : h.1[b]? = some (.inl ci)) : ∃ cell : Cell, H[xP G b]? = some cell ∧ cell.vm.isStatics = false ∧ s.vm.findClass (xcl ci).1 = some cell.cls := by
  obtain ⟨hci, cell, g1, g2, g3, -⟩ := hP.obj hs
  exact ⟨cell, g1, by rw [g3]; rfl, by rw [g2]; exact (hC.k.1.1 ci _ (xcl_has hci)).2.1⟩
/-- an instance method of the receiver's own class -/
theorem X_invV {As st : List Value} {b ci : Nat} (hc : CT G d' M' (.ref (xP G b) :: As) h o1) (ok : xMok M') (hs : h.1[b]? = some (.inl ci)) (hl : Cond.methodLink M.1.cls idx M'.1 ∈ xtbl) (hi : Cond.instanceMethod M'.1 ∈ xtbl) (hse : Cond.selects (xcl ci).1 M'.1 M'.1 ∈ xtbl) (hn : (parseMethodDescriptor M'.1.desc).map (fun d => d.parameters.length) = some As.length) (hd' : d' + 1 ≤ d) (hst : st = As.reverse ++ .ref (xP G b) :: rest) (hroom : (rest.map fun v => v.category).sum ≤ 8) (hd : decode M.2.1 pc = .ok (.invokevirtual idx, 3)) (k : X G d M (pc + 3) lv (o1.1.toList ++ rest) o1.2 o) : X G d M pc lv st h o := by
  refine ⟨xGrow hc.1 k.1, fun p e R s m args below meth c Q mc ms hC h1 h2 hE H locs cells slots ls hP hl' h3 h4 hlv => ?_⟩
  have k1 := k.1
  have hg := hc.1
  exact xGo hc.1 (va_runV (n := As.length) (bytes := M'.2.1) (maxL := M'.2.2.1) (ret := M'.2.2.2) (C := (xcl ci).1) (Ts := xtbl) ⟨hC.1, hC.2.1, hC.2.2.2.2.1, hC.own, fun w hw => hC.w hw⟩ hc.2
    ⟨⟨rfl, rfl, (hC.frames hd' ok.2.1).1, (hC.frames hd' ok.2.1).2, hC.pay ok, List.mem_cons_self, hC.w ok.2.2.1, hC.w ok.2.2.2.1, ok.2.2.2.2, xNargs hn, hC.w hl⟩, hC.w hi, hC.w hse⟩ ⟨xPc.blind, xRecv hC hP hs, xPc.at hC hP⟩ rfl rfl hlv.1 hst (lv_room hroom) hd ⟨by omega, by omega⟩) k hC h1 h2 hE hl' h3 h4 hlv
/-- an abstract method of Work, on an object of a class that overrides it -/
theorem X_invU {As st : List Value} {b ci : Nat} {x : MethodName} {owner : String} (hc : CT G d' M' (.ref (xP G b) :: As) h o1) (ok : xMok M') (hs : h.1[b]? = some (.inl ci)) (hl : Cond.methodLink M.1.cls idx x ∈ xtbl) (hsm : Cond.sameMethod x.cls owner x.name x.desc ∈ xtbl) (hdec : Cond.declares ⟨owner, x.name, x.desc⟩ ∈ xnl) (ho : owner ≠ "java/lang/invoke/MethodHandle" ∧ owner ≠ "java/lang/invoke/VarHandle") (hi : Cond.instanceMethod M'.1 ∈ xtbl) (hse : Cond.selects (xcl ci).1 x M'.1 ∈ xtbl) (hn : (parseMethodDescriptor x.desc).map (fun d => d.parameters.length) = some As.length) (hd' : d' + 1 ≤ d) (hst : st = As.reverse ++ .ref (xP G b) :: rest) (hroom : (rest.map fun v => v.category).sum ≤ 8) (hd : decode M.2.1 pc = .ok (.invokevirtual idx, 3)) (k : X G d M (pc + 3) lv (o1.1.toList ++ rest) o1.2 o) : X G d M pc lv st h o := by
  refine ⟨xGrow hc.1 k.1, fun p e R s m args below meth c Q mc ms hC h1 h2 hE H locs cells slots ls hP hl' h3 h4 hlv => ?_⟩
  have k1 := k.1
  have hg := hc.1
  exact xGo hc.1 (va_runU (n := As.length) (bytes := M'.2.1) (maxL := M'.2.2.1) (ret := M'.2.2.2) (C := (xcl ci).1) (owner := owner) (x := x) (Ts := xtbl) ⟨hC.1, hC.2.1, hC.2.2.2.2.1, hC.own, fun w hw => hC.w hw⟩ hc.2
    ⟨⟨rfl, rfl, (hC.frames hd' ok.2.1).1, (hC.frames hd' ok.2.1).2, hC.pay ok, List.mem_cons_self⟩, hC.w ok.2.2.1, hC.w ok.2.2.2.1, ho, xNargs hn, hC.w hl, hC.w hsm, va_Decl.abs (hC.k.2.1 _ hdec), hC.w hse, hC.w hi⟩ ⟨xPc.blind, xRecv hC hP hs, xPc.at hC hP⟩ rfl rfl hlv.1 hst (lv_room hroom) hd ⟨by omega, by omega⟩) k hC h1 h2 hE hl' h3 h4 hlv
/-- a constructor -/
theorem X_invI {As st : List Value} {b : Nat} (hc : CT G d' M' (.ref (xP G b) :: As) h o1) (ok : xMok M') (hr : M'.2.2.2 = none) (hnm : M'.1.name = "<init>") (hl : Cond.methodLink M.1.cls idx M'.1 ∈ xtbl) (hi : Cond.instanceMethod M'.1 ∈ xtbl) (hn : (parseMethodDescriptor M'.1.desc).map (fun d => d.parameters.length) = some As.length) (hd' : d' + 1 ≤ d) (hst : st = As.reverse ++ .ref (xP G b) :: rest) (hroom : (rest.map fun v => v.category).sum ≤ 8) (hd : decode M.2.1 pc = .ok (.invokespecial idx, 3)) (k : X G d M (pc + 3) lv (o1.1.toList ++ rest) o1.2 o) : X G d M pc lv st h o := by
  refine ⟨xGrow hc.1 k.1, fun p e R s m args below meth c Q mc ms hC h1 h2 hE H locs cells slots ls hP hl' h3 h4 hlv => ?_⟩
  have k1 := k.1
  have hg := hc.1
  have okc := ok.2.2.1
  rw [hr] at okc
  exact xGo hc.1 (va_runI (n := As.length) (bytes := M'.2.1) (maxL := M'.2.2.1) (Ts := xtbl) ⟨hC.1, hC.2.1, hC.2.2.2.2.1, hC.own, fun w hw => hC.w hw⟩ hc.2
    ⟨⟨rfl, rfl, (hC.frames hd' ok.2.1).1, (hC.frames hd' ok.2.1).2, hC.pay ok, by rw [← hr]; exact List.mem_cons_self, hC.w okc, hC.w ok.2.2.2.1, ok.2.2.2.2, xNargs hn, hC.w hl⟩, hnm, hC.w hi⟩ ⟨xPc.blind, xPc.at hC hP⟩ rfl rfl hlv.1 hst (lv_room hroom) hd ⟨by omega, by omega⟩) k hC h1 h2 hE hl' h3 h4 hlv
/-- a private constructor of a nest mate -/
theorem X_invIN {As st : List Value} {b : Nat} {host : String} (hc : CT G d' M' (.ref (xP G b) :: As) h o1) (ok : xMok M') (hr : M'.2.2.2 = none) (hnm : M'.1.name = "<init>") (hl : Cond.methodLinkNest M.1.cls idx M'.1 host ∈ xnl) (hi : Cond.instanceMethod M'.1 ∈ xtbl) (hn : (parseMethodDescriptor M'.1.desc).map (fun d => d.parameters.length) = some As.length) (hd' : d' + 1 ≤ d) (hst : st = As.reverse ++ .ref (xP G b) :: rest) (hroom : (rest.map fun v => v.category).sum ≤ 8) (hd : decode M.2.1 pc = .ok (.invokespecial idx, 3)) (k : X G d M (pc + 3) lv (o1.1.toList ++ rest) o1.2 o) : X G d M pc lv st h o := by
  refine ⟨xGrow hc.1 k.1, fun p e R s m args below meth c Q mc ms hC h1 h2 hE H locs cells slots ls hP hl' h3 h4 hlv => ?_⟩
  have k1 := k.1
  have hg := hc.1
  have okc := ok.2.2.1
  rw [hr] at okc
  exact xGo hc.1 (va_runIN (n := As.length) (bytes := M'.2.1) (maxL := M'.2.2.1) (host := host) (Ts := xtbl) ⟨hC.1, hC.2.1, hC.2.2.2.2.1, hC.own, fun w hw => hC.w hw⟩ hc.2
    ⟨⟨⟨rfl, rfl, (hC.frames hd' ok.2.1).1, (hC.frames hd' ok.2.1).2, hC.pay ok, by rw [← hr]; exact List.mem_cons_self⟩, hC.w okc, hC.w ok.2.2.2.1, ok.2.2.2.2, xNargs hn, va_Nw.use rfl (hC.k.2.1 _ hl)⟩, hnm, hC.w hi⟩ ⟨xPc.blind, xPc.at hC hP⟩ rfl rfl hlv.1 hst (lv_room hroom) hd ⟨by omega, by omega⟩) k hC h1 h2 hE hl' h3 h4 hlv
/-- Object's own constructor -/
theorem X_objInit {a : Nat} (hl : Cond.methodLink M.1.cls idx objectInit ∈ xtbl) (hi : Cond.instanceMethod objectInit ∈ xtbl) (hcd : Cond.code objectInit ⟨#[0xb1]⟩ 1 none ∈ xtbl) (h1d : 1 ≤ d) (hroom : (rest.map fun v => v.category).sum ≤ 8) (hd : decode M.2.1 pc = .ok (.invokespecial idx, 3)) (k : X G d M (pc + 3) lv rest h o) : X G d M pc lv (.ref a :: rest) h o := by
  refine ⟨k.1, fun p e R s m args below meth c Q mc ms hC h1 h2 hE H locs cells slots ls hP hl' h3 h4 hlv => ?_⟩
  have kk := k.2 p e R s m args below meth c Q mc ms hC h1 h2 hE H locs cells slots ls hP hl' h3 h4 hlv
  have g1 := hC.2.2.2.2.2.2.2.2.2.1
  have g2 := hC.2.2.2.2.2.2.2.2.2.2
  refine W.objInit hC.1 hC.2.1 hC.own (hC.w hl) (hC.w hi) (hC.w hcd) rfl (by rw [hC.2.2.2.2.1]; exact hlv.1) rfl hd (by omega) ?_ kk
  have := lv_room (m := m) (pc := pc) (ls := ls) (rest := rest) hroom
  show 2 * (F0 m pc ls rest).monitorRoom + _ + 12 ≤ _
  omega
end XCall
section XCast
variable {G : xG} {d : Nat} {M : xM} {pc : Nat} {lv : List (Nat × Value)} {st : List Value} {h : xH} {o : Option Value × xH}
theorem X_instN {idx : Nat} (hd : decode M.2.1 pc = .ok (.instanceof idx, 3)) (k : X G d M (pc + 3) lv (.int 0 :: st) h o) : X G d M pc lv (.null :: st) h o := X.pure (fun _ _ _ _ _ _ _ _ _ _ _ _ _ _ _ hx hb k => lv_instN hx hb hd k) k
theorem X_instNo {a ci idx : Nat} {nm : String} (hs : h.1[a]? = some (.inl ci)) (hl : Cond.classLink M.1.cls idx nm ∈ xtbl) (hc : ((xcl ci).1, nm) ∈ xncs) (hd : decode M.2.1 pc = .ok (.instanceof idx, 3)) (k : X G d M (pc + 3) lv (.int 0 :: st) h o) : X G d M pc lv (.ref (xP G a) :: st) h o := by
  refine ⟨k.1, fun p e R s m args below meth c Q mc ms hC h1 h2 hE H locs cells slots ls hP hl' h3 h4 hlv => ?_⟩
  have kk := k.2 p e R s m args below meth c Q mc ms hC h1 h2 hE H locs cells slots ls hP hl' h3 h4 hlv
  exact va_instNo hC.1 hC.2.1 hC.own (hC.w hl) (hC.k.2.2.2.1 _ hc) (xRecv hC hP hs) hd kk
theorem X_instYes {a ci idx : Nat} (hs : h.1[a]? = some (.inl ci)) (hl : Cond.classLink M.1.cls idx (xcl ci).1 ∈ xtbl) (hd : decode M.2.1 pc = .ok (.instanceof idx, 3)) (k : X G d M (pc + 3) lv (.int 1 :: st) h o) : X G d M pc lv (.ref (xP G a) :: st) h o := by
  refine ⟨k.1, fun p e R s m args below meth c Q mc ms hC h1 h2 hE H locs cells slots ls hP hl' h3 h4 hlv => ?_⟩
  have kk := k.2 p e R s m args below meth c Q mc ms hC h1 h2 hE H locs cells slots ls hP hl' h3 h4 hlv
  obtain ⟨hci, -⟩ := hP.obj hs
  exact va_instS hC.1 hC.2.1 hC.own (hC.w hl) (hC.k.1.1 ci _ (xcl_has hci)).2 (xRecv hC hP hs) hd kk
theorem X_castYes {a ci idx : Nat} (hs : h.1[a]? = some (.inl ci)) (hl : Cond.classLink M.1.cls idx (xcl ci).1 ∈ xtbl) (hd : decode M.2.1 pc = .ok (.checkcast idx, 3)) (k : X G d M (pc + 3) lv (.ref (xP G a) :: st) h o) : X G d M pc lv (.ref (xP G a) :: st) h o := by
  refine ⟨k.1, fun p e R s m args below meth c Q mc ms hC h1 h2 hE H locs cells slots ls hP hl' h3 h4 hlv => ?_⟩
  have kk := k.2 p e R s m args below meth c Q mc ms hC h1 h2 hE H locs cells slots ls hP hl' h3 h4 hlv
  obtain ⟨hci, -⟩ := hP.obj hs
  exact va_castS hC.1 hC.2.1 hC.own (hC.w hl) (hC.k.1.1 ci _ (xcl_has hci)).2 (xRecv hC hP hs) hd kk
end XCast
section XStat
variable {G : xG} {d : Nat} {M : xM} {pc : Nat} {lv : List (Nat × Value)} {st : List Value} {h : xH} {o : Option Value × xH}
theorem xRep.below {G : xG} {h : xH} {H : Heap} (hP : xRep G h H) : ∀ a : Nat, a < G.2.2.2.1.size → ¬ xA G a → H[a]? = G.2.2.2.1[a]? := fun a ha _ => hP.2.1 a ha
/-- the two static tables: f = false: PASSED_FROM, true: PASSED_TO -/
def xst (G : xG) (f : Bool) : Nat := if f then G.2.2.2.2.2.1 else G.2.2.2.2.1
def xsn (f : Bool) : String := if f then "PASSED_TO" else "PASSED_FROM"
def xsv (f : Bool) (j : Nat) : Int32 := if f then xpt j else xpf j
theorem xK.stat {G : xG} {s : State} (hK : xK G s) (f : Bool) : va_Z "WatchHouse" (xsn f) "[I" (.ref (xst G f)) (xA G) s G.2.2.2.1 ∧ va_T .int (xst G f) 7 (fun j => .int (xsv f j)) (xA G) s G.2.2.2.1 := by
  cases f
  · exact hK.2.2.2.2.1
  · exact hK.2.2.2.2.2.1
theorem X_gets {idx : Nat} (f : Bool) (hw : Cond.fieldLink M.1.cls idx "WatchHouse" (xsn f) "[I" ∈ xtbl) (hd : decode M.2.1 pc = .ok (.getstatic idx, 3)) (k : X G d M (pc + 3) lv (.ref (xst G f) :: st) h o) : X G d M pc lv st h o := by
  refine ⟨k.1, fun p e R s m args below meth c Q mc ms hC h1 h2 hE H locs cells slots ls hP hl' h3 h4 hlv => ?_⟩
  have kk := k.2 p e R s m args below meth c Q mc ms hC h1 h2 hE H locs cells slots ls hP hl' h3 h4 hlv
  obtain ⟨cf, kf, fi, fd, a, cell, g1, g2, g3, g4, g5, g6, g7, g8⟩ := ((hC.k.stat f).1).kept hP.below
  exact W.gets hC.1 hC.2.1 hC.own (hC.w hw) g1 g2 g3 g4 g5 (fun e => by rw [e] at g6; cases g6) g7 rfl hd kk
theorem X_sald {f : Bool} {i : Int32} (hin : vp_in i 7) (hd : decode M.2.1 pc = .ok (.iaload, 1)) (k : X G d M (pc + 1) lv (.int (xsv f i.toNatClampNeg) :: st) h o) : X G d M pc lv (.int i :: .ref (xst G f) :: st) h o := by
  refine ⟨k.1, fun p e R s m args below meth c Q mc ms hC h1 h2 hE H locs cells slots ls hP hl' h3 h4 hlv => ?_⟩
  have kk := k.2 p e R s m args below meth c Q mc ms hC h1 h2 hE H locs cells slots ls hP hl' h3 h4 hlv
  obtain ⟨cell, g1, g2, g3, g4, g5, g6, g7⟩ := ((hC.k.stat f).2).kept hP.below
  exact W.iald (v := .int (xsv f i.toNatClampNeg)) hC.1 hC.2.1 g1 g2 g3 (fun q => hin (q.imp id (fun q => Nat.le_trans g4 q))) (g6 _ hin.lt) rfl rfl hd kk
theorem X_salen {f : Bool} (hd : decode M.2.1 pc = .ok (.arraylength, 1)) (k : X G d M (pc + 1) lv (.int 7 :: st) h o) : X G d M pc lv (.ref (xst G f) :: st) h o := by
  refine ⟨k.1, fun p e R s m args below meth c Q mc ms hC h1 h2 hE H locs cells slots ls hP hl' h3 h4 hlv => ?_⟩
  have kk := k.2 p e R s m args below meth c Q mc ms hC h1 h2 hE H locs cells slots ls hP hl' h3 h4 hlv
  obtain ⟨cell, g1, g2, g3, g4, g5, g6, g7⟩ := ((hC.k.stat f).2).kept hP.below
  exact W.alen (n := 7) hC.1 hC.2.1 g1 g2 g5 rfl rfl hd kk
/-- the script -/
theorem X_scl (hd : decode M.2.1 pc = .ok (.arraylength, 1)) (k : X G d M (pc + 1) lv (.int (nI (xsL G)) :: st) h o) : X G d M pc lv (.ref (xsb G) :: st) h o := by
  refine ⟨k.1, fun p e R s m args below meth c Q mc ms hC h1 h2 hE H locs cells slots ls hP hl' h3 h4 hlv => ?_⟩
  have kk := k.2 p e R s m args below meth c Q mc ms hC h1 h2 hE H locs cells slots ls hP hl' h3 h4 hlv
  obtain ⟨⟨scr, g1, g2, g3, g4, g5⟩, g6⟩ := hC.k.2.2.2.2.2.2
  exact W.alen (n := nI (xsL G)) hC.1 hC.2.1 (by rw [hP.2.1 _ g6]; exact g1) g2 (by rw [g4] <;> rfl) rfl rfl hd kk
theorem X_scd {i : Int32} (hin : vp_in i (xsL G)) (hd : decode M.2.1 pc = .ok (.iaload, 1)) (k : X G d M (pc + 1) lv (.int (xsx G i.toNatClampNeg) :: st) h o) : X G d M pc lv (.int i :: .ref (xsb G) :: st) h o := by
  refine ⟨k.1, fun p e R s m args below meth c Q mc ms hC h1 h2 hE H locs cells slots ls hP hl' h3 h4 hlv => ?_⟩
  have kk := k.2 p e R s m args below meth c Q mc ms hC h1 h2 hE H locs cells slots ls hP hl' h3 h4 hlv
  obtain ⟨⟨scr, g1, g2, g3, g4, g5⟩, g6⟩ := hC.k.2.2.2.2.2.2
  exact W.iald (v := .int (xsx G i.toNatClampNeg)) hC.1 hC.2.1 (by rw [hP.2.1 _ g6]; exact g1) g2 g3 (by rw [g4]; exact hin) (g5 _ hin.lt) rfl rfl hd kk
end XStat

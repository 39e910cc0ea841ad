/-! A light program logic over the machine: one heap of numbered cells, whose contents are three tables of numbers, longs and references -/
abbrev xSh : Type := Nat ⊕ (Nat × Nat)
abbrev xH : Type := List xSh × (Nat → Nat → Int32) × (Nat → Nat → Int64) × (Nat → Nat → Option Nat)
abbrev xG : Type := Launch × va_G × (Nat → ClassId) × Heap × Nat × Nat × Nat × Nat × (Nat → Int32) × (Nat → Nat) × (Nat → Nat)
abbrev xM : Type := MethodName × ByteArray × Nat × Option FieldType
def hI (h : xH) (a j : Nat) : Int32 := h.2.1 a j
def hL (h : xH) (a j : Nat) : Int64 := h.2.2.1 a j
def hR (h : xH) (a j : Nat) : Option Nat := h.2.2.2 a j
def sI (h : xH) (a j : Nat) (v : Int32) : xH := (h.1, fun b k => if b = a ∧ k = j then v else h.2.1 b k, h.2.2.1, h.2.2.2)
def sL (h : xH) (a j : Nat) (v : Int64) : xH := (h.1, h.2.1, fun b k => if b = a ∧ k = j then v else h.2.2.1 b k, h.2.2.2)
def sR (h : xH) (a j : Nat) (v : Option Nat) : xH := (h.1, h.2.1, h.2.2.1, fun b k => if b = a ∧ k = j then v else h.2.2.2 b k)
/-- n places of the ints at src from sp on are copied to dst from dp on -/
def cI (h : xH) (src sp dst dp n : Nat) : xH := (h.1, fun b k => if b = dst ∧ dp ≤ k ∧ k < dp + n then h.2.1 src (sp + (k - dp)) else h.2.1 b k, h.2.2.1, h.2.2.2)
def cL (h : xH) (src sp dst dp n : Nat) : xH := (h.1, h.2.1, fun b k => if b = dst ∧ dp ≤ k ∧ k < dp + n then h.2.2.1 src (sp + (k - dp)) else h.2.2.1 b k, h.2.2.2)
/-- a new cell of shape t, all 0 -/
def nC (h : xH) (t : xSh) : xH := (h.1 ++ [t], fun b k => if b = h.1.length then 0 else h.2.1 b k, fun b k => if b = h.1.length then 0 else h.2.2.1 b k, fun b k => if b = h.1.length then none else h.2.2.2 b k)
def xB (G : xG) : Nat := G.2.2.2.1.size
def xA (G : xG) : Nat → Prop := fun q => xB G ≤ q
/-- the view: where the machine has the cell that is called k here; and how many cells it has, of a list of n -/
def xsi (G : xG) : Nat → Nat := G.2.2.2.2.2.2.2.2.2.1
def xnu (G : xG) : Nat → Nat := G.2.2.2.2.2.2.2.2.2.2
def xP (G : xG) (k : Nat) : Nat := xB G + xsi G k
theorem xB_xP (G : xG) (k : Nat) : xB G ≤ xP G k := Nat.le_add_right _ _
/-- a cell that is not there yet -/
def xHole : xSh := .inr (99, 0)
/-- the number here of field j of class ci -/
def xphi (ci j : Nat) : Nat := if ci = 10 then (if j < 3 then j else if j < 6 then j + 10 else if j < 16 then j - 3 else j) else if ci = 8 then (if j < 3 then j else j + 2) else j
theorem xphi_inj {ci a b : Nat} (h : xphi ci a = xphi ci b) : a = b := by
  unfold xphi at h
  repeat' split at h
  all_goals omega
def xr (G : xG) (r : Option Nat) : Value := va_rf (r.map (xP G))
def xty (ci : Nat) : Nat → FieldType := match ci with
  | 0 => tyX0 | 1 => tyX1 | 2 => tyX2 | 3 => tyX3 | 4 => tyX4 | 5 => tyX5 | 6 => tyX6 | 7 => tyX7 | 8 => tyX8 | 9 => tyX9 | 10 => tyX11 | _ => tyX12
def xnf (ci : Nat) : Nat := match ci with
  | 0 => 5 | 1 => 14 | 2 => 6 | 3 => 5 | 4 => 4 | 5 => 16 | 6 => 12 | 7 => 4 | 8 => 6 | 9 => 15 | 10 => 16 | _ => 80
def xaty (t : Nat) : FieldType := match t with
  | 0 => .int | 1 => .long | 2 => .boolean | 3 => .object "WatchHouse$Work" | 4 => .object "WatchHouse$Chronograph" | 5 => .object "WatchHouse$Dial" | 6 => .object "WatchHouse$Calendar" | _ => .object "WatchHouse$Strike"
def xtys (G : xG) : List (ClassId × FieldType) := [(G.2.2.1 0, xaty 0), (G.2.2.1 1, xaty 1), (G.2.2.1 2, xaty 2), (G.2.2.1 3, xaty 3), (G.2.2.1 4, xaty 4), (G.2.2.1 5, xaty 5), (G.2.2.1 6, xaty 6), (G.2.2.1 7, xaty 7)]
def xval (G : xG) (h : xH) (a j : Nat) (t : FieldType) : Value := match t with
  | .long => .long (h.2.2.1 a j)
  | .object _ => xr G (h.2.2.2 a j)
  | .array _ => xr G (h.2.2.2 a j)
  | _ => .int (h.2.1 a j)
def xcell (G : xG) (h : xH) (k : Nat) (H : Heap) (t : xSh) : Prop := match t with
  | .inl ci => ∃ r : vw_C, vwCl[ci]? = some r ∧ t_OB (xP G k) (G.2.1.1 ci) r.2.2 (G.2.1.2 ci) H (fun j => xval G h k (xphi ci j) (xty ci j))
  | .inr q => H[xP G k]? = some (arrV (G.2.2.1 q.1) q.2 (fun j => xval G h k j (xaty q.1)))
def xRep (G : xG) (h : xH) (H : Heap) : Prop := H.size = xB G + xnu G h.1.length ∧ (∀ q, q < xB G → H[q]? = G.2.2.2.1[q]?) ∧ (∀ (k : Nat) (t : xSh), h.1[k]? = some t → t ≠ xHole → xcell G h k H t) ∧ ∀ a b, xsi G a = xsi G b → a = b
def xsl (t : xSh) : Nat := match t with
  | .inl ci => xnf ci
  | .inr q => q.2
def xslots (h : xH) : Nat := (h.1.map xsl).sum
/-- the tables' words that stay as they are -/
def xtbl : List Cond := lw_tbl.filter goodWord
/-- those that need their own road -/
def xnl : List Cond := lw_tbl.filter (fun w => match w with | .methodLinkNest _ _ _ _ => true | .castable _ _ => true | .declares _ => true | _ => false)
def xncs : List (String × String) := [("WatchHouse$Dial", "WatchHouse$Strike"), ("WatchHouse$Calendar", "WatchHouse$Strike"), ("WatchHouse$Dial", "WatchHouse$Calendar"), ("WatchHouse$Strike", "WatchHouse$Calendar")]
def xpf (k : Nat) : Int32 := match k with | 0 => -400 | 1 => 0 | 2 => 0 | 3 => -120 | 4 => 0 | 5 => -180 | _ => -100
def xpt (k : Nat) : Int32 := match k with | 0 => 600 | 1 => 100 | 2 => 50 | 3 => 160 | 4 => 1000 | 5 => 180 | _ => 100
/-- the script: its address, length and ints -/
def xsb (G : xG) : Nat := G.2.2.2.2.2.2.1
def xsL (G : xG) : Nat := G.2.2.2.2.2.2.2.1
def xsx (G : xG) : Nat → Int32 := G.2.2.2.2.2.2.2.2.1
/-- what the machine's tables say, in every state -/
def xK (G : xG) (U : State) : Prop := va_K G.2.1 vwCl (xtys G) U ∧ (∀ w ∈ xnl, va_Nw w U) ∧ (va_AO "WatchHouse$Work" U ∧ va_AO "WatchHouse$Chronograph" U ∧ va_AO "WatchHouse$Dial" U ∧ va_AO "WatchHouse$Calendar" U ∧ va_AO "WatchHouse$Strike" U) ∧ (∀ q ∈ xncs, va_Nc q.1 q.2 U) ∧
  (va_Z "WatchHouse" "PASSED_FROM" "[I" (.ref G.2.2.2.2.1) (xA G) U G.2.2.2.1 ∧ va_T .int G.2.2.2.2.1 7 (fun j => .int (xpf j)) (xA G) U G.2.2.2.1) ∧
  (va_Z "WatchHouse" "PASSED_TO" "[I" (.ref G.2.2.2.2.2.1) (xA G) U G.2.2.2.1 ∧ va_T .int G.2.2.2.2.2.1 7 (fun j => .int (xpt j)) (xA G) U G.2.2.2.1) ∧ (va_X (xsb G) (xsL G) (xsx G) U G.2.2.2.1 ∧ xsb G < xB G)
theorem xnl_on : xnl.all (fun w => w.onTables) = true := by decide +kernel
theorem xnl_kind : xnl.all (fun w => match w with | .methodLinkNest _ _ _ _ => true | .castable _ _ => true | .declares _ => true | _ => false) = true := by decide +kernel
theorem xK.alike {G : xG} {u U : State} (hvm : u.vm.Alike U.vm) (hn : ∀ w ∈ xnl, va_Nw w u → va_Nw w U) (h : xK G u) : xK G U := by
  obtain ⟨h1, h2, h3, h4, h5, h6, h7⟩ := h
  exact ⟨h1.moved hvm, fun w hw => hn w hw (h2 w hw), ⟨h3.1.moved hvm, h3.2.1.moved hvm, h3.2.2.1.moved hvm, h3.2.2.2.1.moved hvm, h3.2.2.2.2.moved hvm⟩, fun q hq => (h4 q hq).moved hvm, ⟨h5.1.moved hvm, h5.2.moved hvm⟩, ⟨h6.1.moved hvm, h6.2.moved hvm⟩, ⟨h7.1.moved hvm, h7.2⟩⟩
theorem xK.warm {G : xG} {s U : State} (hW : s.WarmedH U.vm) (h : xK G s) : xK G U := by
  refine h.alike hW.alike fun w hw hz => ?_
  have hk := List.all_eq_true.mp xnl_kind w hw
  cases w <;> first | exact va_Nw.warmM hW hz | exact va_Nw.warmC hW hz | exact va_Nw.warmD hW hz | (exfalso; revert hk; simp)
theorem xK.same {G : xG} {u U : State} (hv : u.vm = U.vm) (h : xK G u) : xK G U := by
  refine h.alike (by rw [hv]; exact Vm.Alike.refl _) fun w hw hz => ?_
  exact va_Nw.same (List.all_eq_true.mp xnl_on w hw) hv hz
def xC (G : xG) (d : Nat) (M : xM) (p : Program) (s : State) (m : MethodId) (args : Array Value) (meth : Method) (c : Code) (R : Room) : Prop :=
  p.tables.exec = Jvm.exec ∧ c.code = M.2.1 ∧ meth.sig.returnType = M.2.2.2 ∧ meth.locks = false ∧ c.maxLocals = M.2.2.1 ∧ s.vm.findClass M.1.cls = some m.cls ∧ (M.1.name = "<init>" → meth.name = "<init>") ∧ (∀ w ∈ xtbl, w.before args s = true) ∧ xK G s ∧ d ≤ R.frames ∧ 64 * d ≤ R.locals
def xIsRet (M : xM) (pc : Nat) (st : List Value) (r : Option Value) : Prop :=
  (r = none ∧ st = [] ∧ M.2.2.2 = none ∧ decode M.2.1 pc = .ok (.return_, 1)) ∨
  (∃ (v : Int32) (ty : FieldType), r = some (.int v) ∧ st = [.int v] ∧ M.2.2.2 = some ty ∧ narrow ty (.int v) = .int v ∧ decode M.2.1 pc = .ok (.ireturn, 1)) ∨
  (∃ v : Int64, r = some (.long v) ∧ st = [.long v] ∧ M.2.2.2 = some .long ∧ decode M.2.1 pc = .ok (.lreturn, 1)) ∨
  (∃ (v : Value) (n : String), r = some v ∧ st = [v] ∧ M.2.2.2 = some (.object n) ∧ (v = .null ∨ ∃ a, v = .ref a) ∧ decode M.2.1 pc = .ok (.areturn, 1))
def xEnd (G : xG) (M : xM) (o : Option Value × xH) (p : Program) (e : Env) (R : Room) (s : State) (m : MethodId) (args : Array Value) (below : List Frame) (meth : Method) (c : Code) (Q : State → Prop) (mc ms : Nat) : Prop :=
  ∀ (H : Heap) (locs : List Loc) (cells slots pc : Nat) (ls : Array Slot) (st : List Value), xRep G o.2 H → (∀ q ∈ locs, xB G ≤ q.base) → cells ≤ mc → slots ≤ ms → xIsRet M pc st o.1 → W p G.1 e R s m args below meth c H locs cells slots Q (F0 m pc ls st)
/-- from this place of method M, with these locals, this stack and this heap, the method returns o.1 with the heap o.2 -/
def X (G : xG) (d : Nat) (M : xM) (pc : Nat) (lv : List (Nat × Value)) (st : List Value) (h : xH) (o : Option Value × xH) : Prop :=
  (h.1.length ≤ o.2.1.length ∧ xslots h ≤ xslots o.2) ∧
  ∀ (p : Program) (e : Env) (R : Room) (s : State) (m : MethodId) (args : Array Value) (below : List Frame) (meth : Method) (c : Code) (Q : State → Prop) (mc ms : Nat),
    xC G d M p s m args meth c R → mc ≤ R.cells → ms ≤ R.slots → xEnd G M o p e R s m args below meth c Q mc ms →
    ∀ (H : Heap) (locs : List Loc) (cells slots : Nat) (ls : Array Slot), xRep G h H → (∀ q ∈ locs, xB G ≤ q.base) → cells + (o.2.1.length - h.1.length) ≤ mc → slots + (xslots o.2 - xslots h) ≤ ms → lv_has ls M.2.2.1 lv →
    W p G.1 e R s m args below meth c H locs cells slots Q (F0 m pc ls st)
def xQ (G : xG) (o : Option Value × xH) : Array Value → State → Outcome → State → Prop := fun _ _ oc t => oc = .returned o.1 ∧ xRep G o.2 t.heap
def xPc (G : xG) (av : List Value) (h : xH) : Array Value → State → Prop := fun v U => v = av.toArray ∧ xRep G h U.heap ∧ xK G U
def xws (M : xM) : List Cond := .code M.1 M.2.1 M.2.2.1 M.2.2.2 :: xtbl
def xrm (d mc ms : Nat) : Room := { frames := d, cells := mc, slots := ms, locals := 64 * d }
/-- a method's contract at one start: with the arguments av and the heap h it returns o.1, and the heap is o.2 -/
def CT (G : xG) (d : Nat) (M : xM) (av : List Value) (h : xH) (o : Option Value × xH) : Prop :=
  (h.1.length ≤ o.2.1.length ∧ xslots h ≤ xslots o.2) ∧ Met G.1 M.1 (xws M) (xrm d (o.2.1.length - h.1.length) (xslots o.2 - xslots h)) (xPc G av h) (xQ G o) (o.2.1.length - h.1.length) (xslots o.2 - xslots h) (xA G)
theorem xEnd.mq {G : xG} {d : Nat} {M : xM} {o : Option Value × xH} {p : Program} {e : Env} {R : Room} {s : State} {m : MethodId} {args : Array Value} {below : List Frame} {meth : Method} {c : Code} {mc ms : Nat} (hC : xC G d M p s m args meth c R) :
    xEnd G M o p e R s m args below meth c (MQ below (xQ G o) args s mc ms (xA G)) mc ms := by
  obtain ⟨hx, hb, hr, hlocks, -⟩ := hC
  intro H locs cells slots pc ls st hP hl h1 h2 hret
  refine W.widen h1 h2 ?_
  rcases hret with ⟨e1, e2, e3, e4⟩ | ⟨v, ty, e1, e2, e3, e4, e5⟩ | ⟨v, e1, e2, e3, e4⟩ | ⟨v, n, e1, e2, e3, e4, e5⟩
  · subst e2
    exact W.vret hx hb (hr.trans e3) (fun t ht _ => ⟨by rw [e1], by rw [ht]; exact hP⟩) hl e4 hlocks
  · subst e2
    exact W.zret hx hb (hr.trans e3) e4 (fun t ht _ => ⟨by rw [e1], by rw [ht]; exact hP⟩) hl e5 hlocks
  · subst e2
    exact W.lret hx hb (hr.trans e3) (fun t ht _ => ⟨by rw [e1], by rw [ht]; exact hP⟩) hl e4 hlocks
  · subst e2
    exact W.aret hx hb (hr.trans e3) (Or.inl ⟨n, rfl⟩) e4 (fun t ht _ => ⟨by rw [e1], by rw [ht]; exact hP⟩) hl e5 hlocks
theorem xtbl_good : ∀ w ∈ xtbl, goodWord w = true := fun _ hw => (List.mem_filter.mp hw).2
theorem CT.of {G : xG} {d : Nat} {M : xM} {av : List Value} {h : xH} {o : Option Value × xH} (hp : plainName M.1.cls = true) (hn : (lg_sl av).length ≤ M.2.2.1) (k : X G d M 0 (lv_args 0 av) [] h o) : CT G d M av h o := by
  obtain ⟨hg, k⟩ := k
  refine ⟨hg, Met.ofW (cc := M.2.1) (maxL := M.2.2.1) (ret := M.2.2.2) hp rfl ?_⟩
  intro p e s m args below meth c s₁ B hml hv
  obtain ⟨rfl, hP, hK⟩ := hv
  have hts0 := atoms_spec (ws := xws M) B.pre
  have hC : xC G d M p s m av.toArray meth c (xrm d (o.2.1.length - h.1.length) (xslots o.2 - xslots h)) :=
    ⟨B.exec, B.bytes, B.returns, B.notSynchronized, hml, findClass_of_methodNamed B.named, fun hn => (name_of_methodNamed B.named B.method).1.trans hn, fun w hw => hts0 w (List.mem_cons_of_mem _ hw), hK, Nat.le_refl _, Nat.le_refl _⟩
  have hl := lv_entry av (n := M.2.2.1) hn
  rw [lg_entry_eq]
  exact k p e (xrm d (o.2.1.length - h.1.length) (xslots o.2 - xslots h)) s m av.toArray below meth c _ (o.2.1.length - h.1.length) (xslots o.2 - xslots h) hC (Nat.le_refl _) (Nat.le_refl _) (xEnd.mq hC) s.heap [] 0 0 _ hP (fun _ h => by cases h) (by omega) (by omega) hl

/-! THE CLAIM OUT OF ONE WALK OF THE LAW'S BODY. Your part is whole_start (and what it stands on); all else here is the same for every law, but numbers. -/
def R_law : String := "WatchHouseLaw"
def lw_P (b : Addr) (xs : List Int32) (args : Array Value) (s : State) : Prop := args = #[.ref b] ∧ s.IntsAt b xs ∧ xs.length ≤ 384 ∧ (Jvm.Cond.and given_1 narrow_1).before args s = true
def lw_Q (_ : Array Value) (s : State) (o : Outcome) (t : State) : Prop := o = .returned (some (.int 1)) ∧ Framed s o t [] 600000 7302250
def lw_Z (below : List Frame) (a : Array Value) (s : State) : State → Prop := fun t => ∃ o, t.status = .running ∧ Ended t below o ∧ lw_Q a s o t
/-- the law's own end, with 1 on the stack, nothing written that was there before, its room as the claim has it -/
theorem lw_ret {p : Program} {l : Launch} {e : Env} {s : State} {m : MethodId} {below : List Frame} {meth : Method} {c : Code} {b : Nat} (hx : p.tables.exec = Jvm.exec) (hb : c.code = code) (hr : meth.sig.returnType = ret) (hlocks : meth.locks = false) {pc : Nat} {H : Heap} {ls : Array Slot} (hdg : decode code pc = .ok (.ireturn, 1)) : W p l e room_1 s m #[Value.ref b] below meth c H [] 600000 7302250 (lw_Z below #[Value.ref b] s) (F0 m pc ls [.int 1]) := by
  intro T hT X
  obtain ⟨fs, hret, hrun, hended, hW, hframe⟩ := X.leave (v := some (.int 1)) (hlocks := hlocks) (fun h => by rw [hr] at h; cases h)
  have hmeth' : T.vm.method? m = some meth := X.method'
  refine ⟨T.setFrames fs, ?_, .returned (some (.int 1)), hrun, hended, rfl, ⟨_, rfl⟩, hW, hframe⟩
  jvm_step X.here [X.here.top, hx, hb, hdg, hmeth', hr, ret, narrow_b1]
  (try refine ⟨rfl, ?_⟩); (try refine ⟨rfl, ?_⟩)
  first | (intro acts; rw [hret _ acts rfl rfl rfl]) | rw [hret _ _ rfl rfl rfl]
  exact Steps.refl _
/-- what holds at the law's entry: the machine, the code, the tables' words (any of lw_tbl by 'hts w (by decide +kernel)'), the script of L ints xs at the cell b, what the Statement gives of the start (any of its parts by flat_of_before) -/
def lw_At (p : Program) (s : State) (m : MethodId) (meth : Method) (c : Code) (b L : Nat) (xs : Nat → Int32) : Prop :=
  p.tables.exec = Jvm.exec ∧ c.code = code ∧ meth.sig.returnType = ret ∧ c.maxLocals = 4 ∧ s.vm.findClass R_law = some m.cls ∧ (∀ w ∈ lw_tbl, w.before #[Value.ref b] s = true) ∧ va_X b L xs s s.heap ∧ b < s.heap.size ∧ meth.locks = false ∧ (Jvm.Cond.and given_1 narrow_1).before #[Value.ref b] s = true
/-- what is left to show, of functions alone: from the start, the law's loop comes to its end with 1, for every script -/
def PureLaw : Prop := ∀ (sL : Nat) (xs : Nat → Int32), sL ≤ 384 → ∃ (q2 : (Nat → Nat → Int32) × (Nat → Nat → Int64)) (q3 : Int32 × (Nat → Nat → Int32) × (Nat → Nat → Int64)) (q : Int32 × xH),
  f_H_clearMovement (oI (iI_H_init_0 (uZ zI 0 0))) (oL (iL_H_init_0 (uZ zL 0 0))) = some q2 ∧ f_Md_build (oI (iI_Md_init_65 (uZ (bI q2.1) 65 0))) (oL (iL_Md_init_65 (uZ (bL q2.2) 65 0))) = some q3 ∧
  f_Law_law_L18 sL xs xF 0 xSl (oR zRm) q3.2.1 q3.2.2 = some q ∧ q.1 = 1 ∧ q.2.1 = xSl
theorem xinst : ∀ ci, ci < 12 → Cond.instantiable (xcl ci).1 (xnf ci) ∈ xtbl := by
  intro ci h
  match ci, h with
  | 0, _ => exact k_329
  | 1, _ => exact k_374
  | 2, _ => exact k_303
  | 3, _ => exact k_438
  | 4, _ => exact k_353
  | 5, _ => exact k_96
  | 6, _ => exact k_102
  | 7, _ => exact k_153
  | 8, _ => exact k_418
  | 9, _ => exact k_246
  | 10, _ => exact k_88
  | 11, _ => exact k_1197
theorem xtbl_in {w : Cond} (h : w ∈ xtbl) : w ∈ lw_tbl := (List.mem_filter.mp h).1
theorem xnl_in {w : Cond} (h : w ∈ xnl) : w ∈ lw_tbl := (List.mem_filter.mp h).1
theorem xao : Cond.arrayOver (.object "WatchHouse$Work") ∈ lw_tbl ∧ Cond.arrayOver (.object "WatchHouse$Chronograph") ∈ lw_tbl ∧ Cond.arrayOver (.object "WatchHouse$Dial") ∈ lw_tbl ∧ Cond.arrayOver (.object "WatchHouse$Calendar") ∈ lw_tbl ∧ Cond.arrayOver (.object "WatchHouse$Strike") ∈ lw_tbl := ⟨w_1 (List.mem_of_getElem? (l := tables_1_1) (i := 164) rfl), w_1 (List.mem_of_getElem? (l := tables_1_1) (i := 172) rfl), w_1 (List.mem_of_getElem? (l := tables_1_1) (i := 166) rfl), w_1 (List.mem_of_getElem? (l := tables_1_1) (i := 168) rfl), w_1 (List.mem_of_getElem? (l := tables_1_1) (i := 170) rfl)⟩
theorem xls : Cond.laysStatic "WatchHouse" "PASSED_FROM" "[I" ∈ lw_tbl ∧ Cond.laysStatic "WatchHouse" "PASSED_TO" "[I" ∈ lw_tbl := ⟨w_5 (List.mem_of_getElem? (l := tables_1_5) (i := 91) rfl), w_5 (List.mem_of_getElem? (l := tables_1_5) (i := 93) rfl)⟩
theorem arr_of {args : Array Value} {s : State} {t : FieldType} (h : (Cond.arrayClass t).before args s = true) : ∃ cA : ClassId, ArrOfT s cA t ∧ s.vm.findClass ("[" ++ t.toString) = some cA := by
  obtain ⟨cA, k, comp, h1, h2, h3⟩ := Cond.arrayClass_spec h
  exact ⟨cA, fun n z => ⟨fun k h => (by cases h), k, h2, comp, h3⟩, h1⟩
theorem arr_over {s : State} {C : String} (h : va_AO C s) : ∃ cA : ClassId, ArrOfT s cA (.object C) ∧ va_RA s cA (.object C) := by
  obtain ⟨comp, cA, k, h1, h2, h3, h4, h5⟩ := Cond.arrayOver_spec h
  exact ⟨cA, fun n z => ⟨fun k h => (by cases h), k, h3, comp, h4⟩, k, comp, h3, h4, h1, h5⟩
set_option maxHeartbeats 4000000 in
set_option maxRecDepth 100000 in
theorem whole_start_of (hpure : PureLaw) {p : Program} {e : Env} {s : State} {m : MethodId} {below : List Frame} {meth : Method} {c : Code} (l : Launch) {b L : Nat} {xs : Nat → Int32} (hL : L ≤ 384) (C0 : lw_At p s m meth c b L xs) : W p l e room_1 s m #[Value.ref b] below meth c s.heap [] 0 0 (lw_Z below #[Value.ref b] s) (entryFrame m ([Value.ref b] : List Value).toArray 4) := by
  obtain ⟨hx, hb, hr, hml, hown, hts, hX, hbl, hlocks, hgv⟩ := C0
  obtain ⟨q2, q3, q, h1, h2, hf, hq1, hq2⟩ := hpure L xs hL
  have hs := flat_of_before _ hgv
  have htx : ∀ w ∈ xtbl, w.before #[Value.ref b] s = true := fun w hw => hts w (xtbl_in hw)
  -- classes
  have hKn : ∀ ci, ∃ (cC : ClassId) (iS : Nat → Nat), ci < 12 → u_Kn s (xcl ci).1 (xcl ci).2.1 (xcl ci).2.2 cC iS := by
    intro ci
    by_cases h : ci < 12
    · obtain ⟨cC, iS, hk⟩ := u_known (n := xnf ci) htx (xcl_in ci h) (htx _ (xinst ci h))
      exact ⟨cC, iS, fun _ => hk⟩
    · exact ⟨0, fun _ => 0, fun h' => absurd h' h⟩
  obtain ⟨dC, hdC⟩ := Classical.axiomOfChoice hKn
  obtain ⟨dI, hdI⟩ := Classical.axiomOfChoice hdC
  -- arrays
  have hA0 : va_AO "WatchHouse$Work" s := va_AO.of (hts _ xao.1)
  have hA1 : va_AO "WatchHouse$Chronograph" s := va_AO.of (hts _ xao.2.1)
  have hA2 : va_AO "WatchHouse$Dial" s := va_AO.of (hts _ xao.2.2.1)
  have hA3 : va_AO "WatchHouse$Calendar" s := va_AO.of (hts _ xao.2.2.2.1)
  have hA4 : va_AO "WatchHouse$Strike" s := va_AO.of (hts _ xao.2.2.2.2)
  obtain ⟨c0, a0, n0⟩ := arr_of (htx _ k_151)
  obtain ⟨c1, a1, n1⟩ := arr_of (htx _ k_150)
  obtain ⟨c2, a2, n2⟩ := arr_of (htx _ k_352)
  obtain ⟨c3, a3, n3⟩ := arr_over hA0
  obtain ⟨c4, a4, n4⟩ := arr_over hA1
  obtain ⟨c5, a5, n5⟩ := arr_over hA2
  obtain ⟨c6, a6, n6⟩ := arr_over hA3
  obtain ⟨c7, a7, n7⟩ := arr_over hA4
  -- tables
  have hAs : ∀ a : Nat, a < s.heap.size → ¬ (fun q => s.heap.size ≤ q) a := fun a h h' => absurd h (by omega)
  have key : ∀ (n : String) (v : Nat → Int32), (Cond.arrayOf (.static "WatchHouse" n "[I") .int).before #[Value.ref b] s = true → (Cond.eq (.length (.static "WatchHouse" n "[I")) (.int 7)).before #[Value.ref b] s = true → (∀ j, j < 7 → (Cond.eq (.elem (.static "WatchHouse" n "[I") (.int (Int32.ofNat j))) (.int (v j))).before #[Value.ref b] s = true) → (Cond.laysStatic "WatchHouse" n "[I").before #[Value.ref b] s = true → ∃ t : Nat, va_Z "WatchHouse" n "[I" (.ref t) (fun q => s.heap.size ≤ q) s s.heap ∧ va_T .int t 7 (fun j => .int (v j)) (fun q => s.heap.size ≤ q) s s.heap := by
    intro n v g1 g2 g3 g4
    obtain ⟨t, e1, e2⟩ := va_Tof (f := fun j => .int (v j)) (A := fun q => s.heap.size ≤ q) (N := 7) (by decide) g1 (va_eqt g2) (fun j hj => va_eqt (g3 j hj)) hAs
    exact ⟨t, va_Zof g4 (htx _ k_71) e1 hAs, e2⟩
  obtain ⟨t1, z1, y1⟩ := key "PASSED_FROM" xpf (hs _ (by decide +kernel)) (hs _ (by decide +kernel)) (fun j hj => by
    match j, hj with
    | 0, _ => exact hs _ (by decide +kernel)
    | 1, _ => exact hs _ (by decide +kernel)
    | 2, _ => exact hs _ (by decide +kernel)
    | 3, _ => exact hs _ (by decide +kernel)
    | 4, _ => exact hs _ (by decide +kernel)
    | 5, _ => exact hs _ (by decide +kernel)
    | 6, _ => exact hs _ (by decide +kernel)) (hts _ xls.1)
  obtain ⟨t2, z2, y2⟩ := key "PASSED_TO" xpt (hs _ (by decide +kernel)) (hs _ (by decide +kernel)) (fun j hj => by
    match j, hj with
    | 0, _ => exact hs _ (by decide +kernel)
    | 1, _ => exact hs _ (by decide +kernel)
    | 2, _ => exact hs _ (by decide +kernel)
    | 3, _ => exact hs _ (by decide +kernel)
    | 4, _ => exact hs _ (by decide +kernel)
    | 5, _ => exact hs _ (by decide +kernel)
    | 6, _ => exact hs _ (by decide +kernel)) (hts _ xls.2)
  let cA : Nat → ClassId := fun t => match t with | 0 => c0 | 1 => c1 | 2 => c2 | 3 => c3 | 4 => c4 | 5 => c5 | 6 => c6 | _ => c7
  let G : xG := (l, (dC, dI), cA, s.heap, t1, t2, b, L, xs, fun k => k, fun k => k)
  have hK : xK G s := by
    refine ⟨⟨fun ci r hr => ?_, fun k r hr => ?_⟩, fun w hw => ?_, ⟨hA0, hA1, hA2, hA3, hA4⟩, fun r hr => ?_, ⟨z1, y1⟩, ⟨z2, y2⟩, ⟨hX, hbl⟩⟩
    · obtain ⟨e1, e2, -⟩ := xcl_at hr
      subst e2
      exact hdI ci e1
    · have hk : k < 8 := (List.getElem?_eq_some_iff.mp hr).1
      rw [xtys_at G k hk] at hr
      cases hr
      match k, hk with
      | 0, _ => exact ⟨a0, n0⟩
      | 1, _ => exact ⟨a1, n1⟩
      | 2, _ => exact ⟨a2, n2⟩
      | 3, _ => exact ⟨a3, n3⟩
      | 4, _ => exact ⟨a4, n4⟩
      | 5, _ => exact ⟨a5, n5⟩
      | 6, _ => exact ⟨a6, n6⟩
      | 7, _ => exact ⟨a7, n7⟩
    · exact va_Nw.of (List.all_eq_true.mp xnl_on w hw) (hts w (xnl_in hw))
    · simp only [xncs, List.mem_cons, List.mem_nil_iff, or_false] at hr
      rcases hr with rfl | rfl | rfl | rfl
      · exact va_Nc.of (hs _ (by decide +kernel))
      · exact va_Nc.of (hs _ (by decide +kernel))
      · exact va_Nc.of (hs _ (by decide +kernel))
      · exact va_Nc.of (hs _ (by decide +kernel))
  have hXX := law_entry (G := G) (sL := L) (xs := xs) rfl rfl (by omega) h1 h2 hf hq2
  rw [hq1] at hXX
  have hC : xC G 14 m_Law_law p s m #[Value.ref b] meth c room_1 := ⟨hx, hb, hr, hlocks, hml, hown, fun hn => absurd hn (by decide), htx, hK, by decide, by decide⟩
  have hl := lv_entry ([.ref b]) (n := 4) (Nat.le_of_ble_eq_true rfl)
  rw [lg_entry_eq]
  refine hXX.2 p e room_1 s m #[Value.ref b] below meth c (lw_Z below #[Value.ref b] s) 600000 7302250 hC (Nat.le_refl _) (Nat.le_refl _) ?_ s.heap [] 0 0 _ ⟨rfl, fun _ _ => rfl, fun k t h _ => by simp at h, fun _ _ e => e⟩ (fun _ h => by cases h) ?_ ?_ hl
  · intro H locs cells slots pc ls st hP hlc k1 k2 hret
    refine W.widen k1 k2 (va_forget (fun r hr => hlc r hr) ?_)
    rcases hret with ⟨e1, -⟩ | ⟨v, ty, e1, e2, e3, e4, e5⟩ | ⟨v, e1, -⟩ | ⟨v, n, e1, e2, e3, -⟩
    · cases e1
    · cases e1
      subst e2
      exact lw_ret hx hb hr hlocks e5
    · cases e1
    · cases e3
  · show 0 + ((xSm 106).length - 0) ≤ 600000
    decide +kernel
  · show 0 + (((xSm 106).map xsl).sum - 0) ≤ 7302250
    decide +kernel

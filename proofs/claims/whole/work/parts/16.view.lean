/-! two views of one heap: the cells by the machine's order, and by their numbers here -/
def xsg (k : Nat) : Nat := if k < 12 then k else if k < 34 then k + 3 else if k < 75 then k + 31 else if k < 78 then k - 63 else if k < 106 then k - 41 else k
def xrh (m : Nat) : Nat := if m < 12 then m else if m < 15 then m + 63 else if m < 37 then m - 3 else if m < 65 then m + 41 else if m < 106 then m - 31 else m
theorem xsg_xrh (m : Nat) : xsg (xrh m) = m := by
  unfold xsg xrh
  repeat' split
  all_goals omega
theorem xrh_xsg (m : Nat) : xrh (xsg m) = m := by
  unfold xsg xrh
  repeat' split
  all_goals omega
theorem xsg_inj {a b : Nat} (h : xsg a = xsg b) : a = b := by rw [← xrh_xsg a, h, xrh_xsg]
def x1 (G : xG) (n : Nat) : xG := xV G xsg (fun _ => n)
/-- the heap h1 in the one view is h0 in the machine's, of n cells -/
def VW (n : Nat) (h1 h0 : xH) : Prop := h0.1.length = n ∧ (∀ k t, h1.1[k]? = some t → t ≠ xHole → h0.1[xsg k]? = some t) ∧ (∀ m t, h0.1[m]? = some t → h1.1[xrh m]? = some t ∧ t ≠ xHole) ∧ (∀ k j, h1.2.1 k j = h0.2.1 (xsg k) j) ∧ (∀ k j, h1.2.2.1 k j = h0.2.2.1 (xsg k) j) ∧ ∀ k j, h1.2.2.2 k j = (h0.2.2.2 (xsg k) j).map xrh
section XVw
variable {G : xG} {n : Nat} {h0 h1 h0' h1' : xH} {H : Heap}
theorem xr_view (r : Option Nat) : xr (x1 G n) (r.map xrh) = xr (x0 G) r := by
  cases r with
  | none => rfl
  | some m =>
    show Value.ref (xB G + xsg (xrh m)) = Value.ref (xB G + m)
    rw [xsg_xrh]
theorem xval_view (h : VW n h1 h0) (k j : Nat) (t : FieldType) : xval (x1 G n) h1 k j t = xval (x0 G) h0 (xsg k) j t := by
  obtain ⟨_, _, _, e1, e2, e3⟩ := h
  unfold xval
  rw [e1, e2, e3, xr_view]
theorem xcell_view (h : VW n h1 h0) {k : Nat} {t : xSh} : xcell (x1 G n) h1 k H t ↔ xcell (x0 G) h0 (xsg k) H t := by
  cases t with
  | inl ci =>
    have e : (fun j => xval (x1 G n) h1 k (xphi ci j) (xty ci j)) = fun j => xval (x0 G) h0 (xsg k) (xphi ci j) (xty ci j) := funext fun j => xval_view h _ _ _
    unfold xcell
    simp only [e]
    exact Iff.rfl
  | inr q =>
    have e : (fun j => xval (x1 G n) h1 k j (xaty q.1)) = fun j => xval (x0 G) h0 (xsg k) j (xaty q.1) := funext fun j => xval_view h _ _ _
    unfold xcell
    simp only [e]
    exact Iff.rfl
theorem xRep_view (h : VW n h1 h0) : xRep (x1 G n) h1 H ↔ xRep (x0 G) h0 H := by
  constructor
  · rintro ⟨z, lo, c, -⟩
    refine ⟨?_, lo, fun m t e ne => ?_, fun _ _ e => e⟩
    · show H.size = xB G + h0.1.length
      rw [h.1]; exact z
    · have := (xcell_view h).mp (c (xrh m) t (h.2.2.1 m t e).1 ne)
      rwa [xsg_xrh] at this
  · rintro ⟨z, lo, c, -⟩
    refine ⟨?_, lo, fun k t e ne => (xcell_view h).mpr (c (xsg k) t (h.2.1 k t e ne) ne), fun _ _ e => xsg_inj e⟩
    show H.size = xB G + n
    rw [← h.1]; exact z
theorem xsl_eq {a b : xH} (e : a.1 = b.1) : xslots a - xslots b = 0 := by
  unfold xslots
  rw [e]
  exact Nat.sub_self _
theorem CT.view {d : Nat} {M : xM} {av : List Value} {r : Option Value} (hc : CT (x1 G n) d M av h1 (r, h1')) (v : VW n h1 h0) (v' : VW n h1' h0') (e1 : h1'.1 = h1.1) (e0 : h0'.1 = h0.1) : CT (x0 G) d M av h0 (r, h0') := by
  obtain ⟨_, hm⟩ := hc
  have z1 : h1'.1.length - h1.1.length = 0 := by rw [e1]; exact Nat.sub_self _
  have z0 : h0'.1.length - h0.1.length = 0 := by rw [e0]; exact Nat.sub_self _
  refine ⟨⟨by show h0.1.length ≤ h0'.1.length; rw [e0]; exact Nat.le_refl _, by show xslots h0 ≤ xslots h0'; unfold xslots; rw [e0]; exact Nat.le_refl _⟩, ?_⟩
  show Met G.1 M.1 (xws M) (xrm d (h0'.1.length - h0.1.length) (xslots h0' - xslots h0)) (xPc (x0 G) av h0) (xQ (x0 G) (r, h0')) (h0'.1.length - h0.1.length) (xslots h0' - xslots h0) (xA (x0 G))
  have hm' : Met G.1 M.1 (xws M) (xrm d (h1'.1.length - h1.1.length) (xslots h1' - xslots h1)) (xPc (x1 G n) av h1) (xQ (x1 G n) (r, h1')) (h1'.1.length - h1.1.length) (xslots h1' - xslots h1) (xA (x1 G n)) := hm
  rw [z1, xsl_eq e1] at hm'
  rw [z0, xsl_eq e0]
  intro p e a1 a2 a3 s m args below b1 b2 b3 b4
  obtain ⟨N, o, c1, c2, c3, ⟨c4, c5⟩, c6⟩ := hm' p e a1 a2 a3 s m args below b1 b2 ⟨b3.1, (xRep_view v).mpr b3.2.1, b3.2.2⟩ b4
  exact ⟨N, o, c1, c2, c3, ⟨c4, (xRep_view v').mp c5⟩, c6⟩
theorem X.view {d pc : Nat} {M : xM} {lv : List (Nat × Value)} {st : List Value} {r : Option Value} (k : X (x1 G n) d M pc lv st h1 (r, h1')) (v : VW n h1 h0) (v' : VW n h1' h0') (e1 : h1'.1 = h1.1) (e0 : h0'.1 = h0.1) : X (x0 G) d M pc lv st h0 (r, h0') := by
  refine ⟨⟨by show h0.1.length ≤ h0'.1.length; rw [e0]; exact Nat.le_refl _, by show xslots h0 ≤ xslots h0'; unfold xslots; rw [e0]; exact Nat.le_refl _⟩, fun p e R s m args below meth c Q mc ms hC g1 g2 hE H locs cells slots ls hP hl h3 h4 hlv => ?_⟩
  have z1 : h1'.1.length - h1.1.length = 0 := by rw [e1]; exact Nat.sub_self _
  have s1 := xsl_eq e1
  refine k.2 p e R s m args below meth c Q mc ms hC g1 g2 (fun H locs cells slots pc ls st hP => hE H locs cells slots pc ls st ((xRep_view v').mp hP)) H locs cells slots ls ((xRep_view v).mpr hP) hl (by show cells + (h1'.1.length - h1.1.length) ≤ mc; omega) (by show slots + (xslots h1' - xslots h1) ≤ ms; omega) hlv
end XVw
/-- the class's cells alone -/
def xSc : List xSh := [.inl 10, .inl 5, .inl 6, .inr (1, 24), .inr (1, 24), .inr (1, 24), .inr (0, 120), .inr (0, 120), .inr (0, 9), .inl 7, .inr (0, 6000), .inr (3, 8), .inr (4, 4), .inl 7, .inr (0, 3000), .inl 7, .inr (0, 8000), .inl 9, .inr (0, 3), .inr (0, 3), .inr (0, 3), .inr (0, 3), .inl 2, .inr (0, 8), .inr (0, 8), .inr (0, 8), .inr (0, 8), .inr (1, 793), .inr (0, 15), .inl 0, .inr (0, 4), .inr (0, 16032), .inr (0, 128), .inr (2, 128), xHole, xHole, xHole, xHole, xHole, xHole, xHole, xHole, xHole, xHole, xHole, xHole, xHole, xHole, xHole, xHole, xHole, xHole, xHole, xHole, xHole, xHole, xHole, xHole, xHole, xHole, xHole, xHole, xHole, xHole, xHole, xHole, xHole, xHole, xHole, xHole, xHole, xHole, xHole, xHole, xHole, .inr (5, 8), .inr (6, 8), .inr (7, 8), .inl 4, .inl 1, .inl 8, .inl 4, .inl 1, .inl 8, .inl 4, .inl 1, .inl 8, .inl 4, .inl 1, .inl 8, .inl 4, .inl 1, .inl 8, .inl 4, .inl 1, .inl 8, .inl 4, .inl 1, .inl 8, .inl 4, .inl 1, .inl 8, .inl 3, .inl 3, .inl 3, .inl 3]
/-- by the machine's order -/
def xSa : List xSh := [.inl 10, .inl 5, .inl 6, .inr (1, 24), .inr (1, 24), .inr (1, 24), .inr (0, 120), .inr (0, 120), .inr (0, 9), .inl 7, .inr (0, 6000), .inr (3, 8), .inr (5, 8), .inr (6, 8), .inr (7, 8), .inr (4, 4), .inl 7, .inr (0, 3000), .inl 7, .inr (0, 8000), .inl 9, .inr (0, 3), .inr (0, 3), .inr (0, 3), .inr (0, 3), .inl 2, .inr (0, 8), .inr (0, 8), .inr (0, 8), .inr (0, 8), .inr (1, 793), .inr (0, 15), .inl 0, .inr (0, 4), .inr (0, 16032), .inr (0, 128), .inr (2, 128), .inl 4, .inl 1, .inl 8, .inl 4, .inl 1, .inl 8, .inl 4, .inl 1, .inl 8, .inl 4, .inl 1, .inl 8, .inl 4, .inl 1, .inl 8, .inl 4, .inl 1, .inl 8, .inl 4, .inl 1, .inl 8, .inl 4, .inl 1, .inl 8, .inl 3, .inl 3, .inl 3, .inl 3, .inl 11, .inr (0, 40), .inr (0, 40), .inr (0, 40), .inr (0, 40), .inr (0, 40), .inr (0, 40), .inr (0, 9), .inr (0, 8), .inr (0, 8), .inr (0, 8), .inr (0, 8), .inr (0, 8), .inr (0, 4), .inr (0, 80), .inr (0, 4), .inr (0, 4), .inr (0, 4), .inr (2, 4), .inr (0, 6000), .inr (0, 3000), .inr (0, 8000), .inr (0, 5), .inr (2, 24), .inr (1, 24), .inr (1, 24), .inr (0, 4), .inr (0, 6), .inr (0, 6), .inr (0, 6), .inr (0, 8), .inr (0, 8), .inr (0, 8), .inr (0, 8), .inr (1, 800), .inr (1, 800), .inr (0, 15), .inr (0, 16032), .inr (0, 128), .inr (0, 4), .inr (2, 128)]
def xSm (k : Nat) : List xSh := xSa.take k
def oI (I : Nat → Nat → Int32) : Nat → Nat → Int32 := fun k j => I (xsg k) j
def oL (L : Nat → Nat → Int64) : Nat → Nat → Int64 := fun k j => L (xsg k) j
def oR (R : Nat → Nat → Option Nat) : Nat → Nat → Option Nat := fun k j => (R (xsg k) j).map xrh
/-- and back -/
def bI (I : Nat → Nat → Int32) : Nat → Nat → Int32 := fun k j => I (xrh k) j
def bL (L : Nat → Nat → Int64) : Nat → Nat → Int64 := fun k j => L (xrh k) j
def bR (R : Nat → Nat → Option Nat) : Nat → Nat → Option Nat := fun k j => (R (xrh k) j).map xsg
theorem map_sr (r : Option Nat) : (r.map xsg).map xrh = r := by
  cases r with
  | none => rfl
  | some m => simp [xrh_xsg]
theorem map_rs (r : Option Nat) : (r.map xrh).map xsg = r := by
  cases r with
  | none => rfl
  | some m => simp [xsg_xrh]
/-- the two lists agree -/
def vwk (n : Nat) (S1 S0 : List xSh) : Bool := (List.range 106).all (fun k => decide (S1[k]? = some xHole) || decide (S0[xsg k]? = S1[k]?)) && (List.range n).all (fun m => decide (S1[xrh m]? = S0[m]?) && !decide (S0[m]? = some xHole))
theorem vwk_of {n : Nat} {S1 S0 : List xSh} (h : vwk n S1 S0 = true) : (∀ k, k < 106 → S1[k]? ≠ some xHole → S0[xsg k]? = S1[k]?) ∧ ∀ m, m < n → S1[xrh m]? = S0[m]? ∧ S0[m]? ≠ some xHole := by
  unfold vwk at h
  obtain ⟨h1, h2⟩ := Bool.and_eq_true_iff.mp h
  refine ⟨fun k hk ne => ?_, fun m hm => ?_⟩
  · have := List.all_eq_true.mp h1 k (List.mem_range.mpr hk)
    rcases Bool.or_eq_true_iff.mp this with q | q
    · exact absurd (of_decide_eq_true q) ne
    · exact of_decide_eq_true q
  · have := List.all_eq_true.mp h2 m (List.mem_range.mpr hm)
    obtain ⟨q1, q2⟩ := Bool.and_eq_true_iff.mp this
    refine ⟨of_decide_eq_true q1, fun z => ?_⟩
    rw [decide_eq_true z] at q2
    cases q2
theorem vw_c0 : (∀ k, k < 106 → xSc[k]? ≠ some xHole → (xSm 65)[xsg k]? = xSc[k]?) ∧ ∀ m, m < 65 → xSc[xrh m]? = (xSm 65)[m]? ∧ (xSm 65)[m]? ≠ some xHole := vwk_of (by decide +kernel)
theorem vw_l0 : (∀ k, k < 106 → xSl[k]? ≠ some xHole → (xSm 106)[xsg k]? = xSl[k]?) ∧ ∀ m, m < 106 → xSl[xrh m]? = (xSm 106)[m]? ∧ (xSm 106)[m]? ≠ some xHole := vwk_of (by decide +kernel)
theorem vw_mk {n : Nat} {S1 S0 : List xSh} {I1 I0 : Nat → Nat → Int32} {L1 L0 : Nat → Nat → Int64} {R1 R0 : Nat → Nat → Option Nat} (l0 : S0.length = n) (l1 : S1.length = 106) (c : (∀ k, k < 106 → S1[k]? ≠ some xHole → S0[xsg k]? = S1[k]?) ∧ ∀ m, m < n → S1[xrh m]? = S0[m]? ∧ S0[m]? ≠ some xHole) (e1 : ∀ k j, I1 k j = I0 (xsg k) j) (e2 : ∀ k j, L1 k j = L0 (xsg k) j) (e3 : ∀ k j, R1 k j = (R0 (xsg k) j).map xrh) : VW n (S1, I1, L1, R1) (S0, I0, L0, R0) := by
  refine ⟨l0, fun k t e ne => ?_, fun m t e => ?_, e1, e2, e3⟩
  · have hk : k < 106 := by rw [← l1]; exact (List.getElem?_eq_some_iff.mp e).1
    exact (c.1 k hk (fun q => ne (Option.some.inj (e.symm.trans q)))).trans e
  · have hm : m < n := by rw [← l0]; exact (List.getElem?_eq_some_iff.mp e).1
    exact ⟨(c.2 m hm).1.trans e, fun q => (c.2 m hm).2 (by rw [show (S0, I0, L0, R0).1 = S0 from rfl] at e; rw [e, q])⟩

/-! rows that touch the heap -/
def uI (I : Nat → Nat → Int32) (a j : Nat) (v : Int32) : Nat → Nat → Int32 := fun b k => if b = a ∧ k = j then v else I b k
def uL (I : Nat → Nat → Int64) (a j : Nat) (v : Int64) : Nat → Nat → Int64 := fun b k => if b = a ∧ k = j then v else I b k
def uR (I : Nat → Nat → Option Nat) (a j : Nat) (v : Option Nat) : Nat → Nat → Option Nat := fun b k => if b = a ∧ k = j then v else I b k
/-- a row of cell dst, from dp on, becomes n places of cell src, from sp on -/
def uC {α : Type} (I : Nat → Nat → α) (src sp dst dp n : Nat) : Nat → Nat → α := fun b k => if b = dst ∧ dp ≤ k ∧ k < dp + n then I src (sp + (k - dp)) else I b k
/-- cell a is all v -/
def uZ {α : Type} (I : Nat → Nat → α) (a : Nat) (v : α) : Nat → Nat → α := fun b k => if b = a then v else I b k
theorem uI_s (I : Nat → Nat → Int32) (a j : Nat) (v : Int32) : uI I a j v a j = v := if_pos ⟨rfl, rfl⟩
theorem uI_o {I : Nat → Nat → Int32} {a j b k : Nat} {v : Int32} (h : ¬ (b = a ∧ k = j)) : uI I a j v b k = I b k := if_neg h
theorem uL_s (I : Nat → Nat → Int64) (a j : Nat) (v : Int64) : uL I a j v a j = v := if_pos ⟨rfl, rfl⟩
theorem uL_o {I : Nat → Nat → Int64} {a j b k : Nat} {v : Int64} (h : ¬ (b = a ∧ k = j)) : uL I a j v b k = I b k := if_neg h
theorem uR_s (I : Nat → Nat → Option Nat) (a j : Nat) (v : Option Nat) : uR I a j v a j = v := if_pos ⟨rfl, rfl⟩
theorem uR_o {I : Nat → Nat → Option Nat} {a j b k : Nat} {v : Option Nat} (h : ¬ (b = a ∧ k = j)) : uR I a j v b k = I b k := if_neg h
def xcl (ci : Nat) : vw_C := vwCl.getD ci (RX12, TX12, 80)
theorem xcl_at {ci : Nat} {r : vw_C} (h : vwCl[ci]? = some r) : ci < 12 ∧ r = xcl ci ∧ r.2.2 = xnf ci := by
  have h1 : ci < 12 := (List.getElem?_eq_some_iff.mp h).1
  refine ⟨h1, by simp [xcl, List.getD_eq_getElem?_getD, h], ?_⟩
  match ci, h1, h with
  | 0, _, h => cases h; rfl
  | 1, _, h => cases h; rfl
  | 2, _, h => cases h; rfl
  | 3, _, h => cases h; rfl
  | 4, _, h => cases h; rfl
  | 5, _, h => cases h; rfl
  | 6, _, h => cases h; rfl
  | 7, _, h => cases h; rfl
  | 8, _, h => cases h; rfl
  | 9, _, h => cases h; rfl
  | 10, _, h => cases h; rfl
  | 11, _, h => cases h; rfl
theorem xcl_has {ci : Nat} (h : ci < 12) : vwCl[ci]? = some (xcl ci) := by
  have h1 : ci < vwCl.length := h
  simp [xcl, List.getD_eq_getElem?_getD, List.getElem?_eq_getElem h1]
theorem xin_0 : ∀ w ∈ u_ws (xcl 0).1 (xcl 0).2.1 (xcl 0).2.2, w ∈ xtbl := (List.forall_mem_cons.mpr ⟨k_341, (List.forall_mem_cons.mpr ⟨k_343, (List.forall_mem_cons.mpr ⟨k_345, (List.forall_mem_cons.mpr ⟨k_347, (List.forall_mem_cons.mpr ⟨k_349, (fun _ h => absurd h List.not_mem_nil)⟩)⟩)⟩)⟩)⟩)
theorem xin_1 : ∀ w ∈ u_ws (xcl 1).1 (xcl 1).2.1 (xcl 1).2.2, w ∈ xtbl := (List.forall_mem_cons.mpr ⟨k_415, (List.forall_mem_cons.mpr ⟨k_416, (List.forall_mem_cons.mpr ⟨k_391, (List.forall_mem_cons.mpr ⟨k_393, (List.forall_mem_cons.mpr ⟨k_395, (List.forall_mem_cons.mpr ⟨k_397, (List.forall_mem_cons.mpr ⟨k_399, (List.forall_mem_cons.mpr ⟨k_401, (List.forall_mem_cons.mpr ⟨k_403, (List.forall_mem_cons.mpr ⟨k_405, (List.forall_mem_cons.mpr ⟨k_407, (List.forall_mem_cons.mpr ⟨k_409, (List.forall_mem_cons.mpr ⟨k_411, (List.forall_mem_cons.mpr ⟨k_413, (fun _ h => absurd h List.not_mem_nil)⟩)⟩)⟩)⟩)⟩)⟩)⟩)⟩)⟩)⟩)⟩)⟩)⟩)⟩)
theorem xin_2 : ∀ w ∈ u_ws (xcl 2).1 (xcl 2).2.1 (xcl 2).2.2, w ∈ xtbl := (List.forall_mem_cons.mpr ⟨k_315, (List.forall_mem_cons.mpr ⟨k_317, (List.forall_mem_cons.mpr ⟨k_319, (List.forall_mem_cons.mpr ⟨k_321, (List.forall_mem_cons.mpr ⟨k_323, (List.forall_mem_cons.mpr ⟨k_325, (fun _ h => absurd h List.not_mem_nil)⟩)⟩)⟩)⟩)⟩)⟩)
theorem xin_3 : ∀ w ∈ u_ws (xcl 3).1 (xcl 3).2.1 (xcl 3).2.2, w ∈ xtbl := (List.forall_mem_cons.mpr ⟨k_452, (List.forall_mem_cons.mpr ⟨k_454, (List.forall_mem_cons.mpr ⟨k_456, (List.forall_mem_cons.mpr ⟨k_458, (List.forall_mem_cons.mpr ⟨k_460, (fun _ h => absurd h List.not_mem_nil)⟩)⟩)⟩)⟩)⟩)
theorem xin_4 : ∀ w ∈ u_ws (xcl 4).1 (xcl 4).2.1 (xcl 4).2.2, w ∈ xtbl := (List.forall_mem_cons.mpr ⟨k_369, (List.forall_mem_cons.mpr ⟨k_371, (List.forall_mem_cons.mpr ⟨k_365, (List.forall_mem_cons.mpr ⟨k_367, (fun _ h => absurd h List.not_mem_nil)⟩)⟩)⟩)⟩)
theorem xin_5 : ∀ w ∈ u_ws (xcl 5).1 (xcl 5).2.1 (xcl 5).2.2, w ∈ xtbl := (List.forall_mem_cons.mpr ⟨k_200, (List.forall_mem_cons.mpr ⟨k_202, (List.forall_mem_cons.mpr ⟨k_204, (List.forall_mem_cons.mpr ⟨k_206, (List.forall_mem_cons.mpr ⟨k_208, (List.forall_mem_cons.mpr ⟨k_210, (List.forall_mem_cons.mpr ⟨k_212, (List.forall_mem_cons.mpr ⟨k_214, (List.forall_mem_cons.mpr ⟨k_216, (List.forall_mem_cons.mpr ⟨k_218, (List.forall_mem_cons.mpr ⟨k_220, (List.forall_mem_cons.mpr ⟨k_222, (List.forall_mem_cons.mpr ⟨k_224, (List.forall_mem_cons.mpr ⟨k_226, (List.forall_mem_cons.mpr ⟨k_228, (List.forall_mem_cons.mpr ⟨k_230, (fun _ h => absurd h List.not_mem_nil)⟩)⟩)⟩)⟩)⟩)⟩)⟩)⟩)⟩)⟩)⟩)⟩)⟩)⟩)⟩)⟩)
theorem xin_6 : ∀ w ∈ u_ws (xcl 6).1 (xcl 6).2.1 (xcl 6).2.2, w ∈ xtbl := (List.forall_mem_cons.mpr ⟨k_125, (List.forall_mem_cons.mpr ⟨k_127, (List.forall_mem_cons.mpr ⟨k_129, (List.forall_mem_cons.mpr ⟨k_131, (List.forall_mem_cons.mpr ⟨k_133, (List.forall_mem_cons.mpr ⟨k_135, (List.forall_mem_cons.mpr ⟨k_137, (List.forall_mem_cons.mpr ⟨k_139, (List.forall_mem_cons.mpr ⟨k_141, (List.forall_mem_cons.mpr ⟨k_143, (List.forall_mem_cons.mpr ⟨k_145, (List.forall_mem_cons.mpr ⟨k_147, (fun _ h => absurd h List.not_mem_nil)⟩)⟩)⟩)⟩)⟩)⟩)⟩)⟩)⟩)⟩)⟩)⟩)
theorem xin_7 : ∀ w ∈ u_ws (xcl 7).1 (xcl 7).2.1 (xcl 7).2.2, w ∈ xtbl := (List.forall_mem_cons.mpr ⟨k_164, (List.forall_mem_cons.mpr ⟨k_166, (List.forall_mem_cons.mpr ⟨k_168, (List.forall_mem_cons.mpr ⟨k_170, (fun _ h => absurd h List.not_mem_nil)⟩)⟩)⟩)⟩)
theorem xin_8 : ∀ w ∈ u_ws (xcl 8).1 (xcl 8).2.1 (xcl 8).2.2, w ∈ xtbl := (List.forall_mem_cons.mpr ⟨k_435, (List.forall_mem_cons.mpr ⟨k_436, (List.forall_mem_cons.mpr ⟨k_427, (List.forall_mem_cons.mpr ⟨k_429, (List.forall_mem_cons.mpr ⟨k_431, (List.forall_mem_cons.mpr ⟨k_433, (fun _ h => absurd h List.not_mem_nil)⟩)⟩)⟩)⟩)⟩)⟩)
theorem xin_9 : ∀ w ∈ u_ws (xcl 9).1 (xcl 9).2.1 (xcl 9).2.2, w ∈ xtbl := (List.forall_mem_cons.mpr ⟨k_271, (List.forall_mem_cons.mpr ⟨k_273, (List.forall_mem_cons.mpr ⟨k_275, (List.forall_mem_cons.mpr ⟨k_277, (List.forall_mem_cons.mpr ⟨k_279, (List.forall_mem_cons.mpr ⟨k_281, (List.forall_mem_cons.mpr ⟨k_283, (List.forall_mem_cons.mpr ⟨k_285, (List.forall_mem_cons.mpr ⟨k_287, (List.forall_mem_cons.mpr ⟨k_289, (List.forall_mem_cons.mpr ⟨k_291, (List.forall_mem_cons.mpr ⟨k_293, (List.forall_mem_cons.mpr ⟨k_295, (List.forall_mem_cons.mpr ⟨k_297, (List.forall_mem_cons.mpr ⟨k_299, (fun _ h => absurd h List.not_mem_nil)⟩)⟩)⟩)⟩)⟩)⟩)⟩)⟩)⟩)⟩)⟩)⟩)⟩)⟩)⟩)
theorem xin_10 : ∀ w ∈ u_ws (xcl 10).1 (xcl 10).2.1 (xcl 10).2.2, w ∈ xtbl := (List.forall_mem_cons.mpr ⟨k_510, (List.forall_mem_cons.mpr ⟨k_512, (List.forall_mem_cons.mpr ⟨k_514, (List.forall_mem_cons.mpr ⟨k_516, (List.forall_mem_cons.mpr ⟨k_518, (List.forall_mem_cons.mpr ⟨k_520, (List.forall_mem_cons.mpr ⟨k_522, (List.forall_mem_cons.mpr ⟨k_524, (List.forall_mem_cons.mpr ⟨k_526, (List.forall_mem_cons.mpr ⟨k_528, (List.forall_mem_cons.mpr ⟨k_530, (List.forall_mem_cons.mpr ⟨k_532, (List.forall_mem_cons.mpr ⟨k_534, (List.forall_mem_cons.mpr ⟨k_536, (List.forall_mem_cons.mpr ⟨k_538, (List.forall_mem_cons.mpr ⟨k_540, (fun _ h => absurd h List.not_mem_nil)⟩)⟩)⟩)⟩)⟩)⟩)⟩)⟩)⟩)⟩)⟩)⟩)⟩)⟩)⟩)⟩)
theorem xin_11 : ∀ w ∈ u_ws (xcl 11).1 (xcl 11).2.1 (xcl 11).2.2, w ∈ xtbl := (List.forall_mem_cons.mpr ⟨k_1308, (List.forall_mem_cons.mpr ⟨k_1310, (List.forall_mem_cons.mpr ⟨k_1312, (List.forall_mem_cons.mpr ⟨k_1314, (List.forall_mem_cons.mpr ⟨k_1316, (List.forall_mem_cons.mpr ⟨k_1318, (List.forall_mem_cons.mpr ⟨k_1320, (List.forall_mem_cons.mpr ⟨k_1322, (List.forall_mem_cons.mpr ⟨k_1324, (List.forall_mem_cons.mpr ⟨k_1326, (List.forall_mem_cons.mpr ⟨k_1328, (List.forall_mem_cons.mpr ⟨k_1330, (List.forall_mem_cons.mpr ⟨k_1332, (List.forall_mem_cons.mpr ⟨k_1334, (List.forall_mem_cons.mpr ⟨k_1336, (List.forall_mem_cons.mpr ⟨k_1338, (List.forall_mem_cons.mpr ⟨k_1340, (List.forall_mem_cons.mpr ⟨k_1342, (List.forall_mem_cons.mpr ⟨k_1344, (List.forall_mem_cons.mpr ⟨k_1346, (List.forall_mem_cons.mpr ⟨k_1348, (List.forall_mem_cons.mpr ⟨k_1350, (List.forall_mem_cons.mpr ⟨k_1352, (List.forall_mem_cons.mpr ⟨k_1354, (List.forall_mem_cons.mpr ⟨k_1356, (List.forall_mem_cons.mpr ⟨k_1358, (List.forall_mem_cons.mpr ⟨k_1360, (List.forall_mem_cons.mpr ⟨k_1362, (List.forall_mem_cons.mpr ⟨k_1364, (List.forall_mem_cons.mpr ⟨k_1366, (List.forall_mem_cons.mpr ⟨k_1368, (List.forall_mem_cons.mpr ⟨k_1370, (List.forall_mem_cons.mpr ⟨k_1372, (List.forall_mem_cons.mpr ⟨k_1374, (List.forall_mem_cons.mpr ⟨k_1376, (List.forall_mem_cons.mpr ⟨k_1378, (List.forall_mem_cons.mpr ⟨k_1380, (List.forall_mem_cons.mpr ⟨k_1382, (List.forall_mem_cons.mpr ⟨k_1384, (List.forall_mem_cons.mpr ⟨k_1386, (List.forall_mem_cons.mpr ⟨k_1388, (List.forall_mem_cons.mpr ⟨k_1390, (List.forall_mem_cons.mpr ⟨k_1392, (List.forall_mem_cons.mpr ⟨k_1394, (List.forall_mem_cons.mpr ⟨k_1396, (List.forall_mem_cons.mpr ⟨k_1398, (List.forall_mem_cons.mpr ⟨k_1400, (List.forall_mem_cons.mpr ⟨k_1402, (List.forall_mem_cons.mpr ⟨k_1404, (List.forall_mem_cons.mpr ⟨k_1406, (List.forall_mem_cons.mpr ⟨k_1408, (List.forall_mem_cons.mpr ⟨k_1410, (List.forall_mem_cons.mpr ⟨k_1412, (List.forall_mem_cons.mpr ⟨k_1414, (List.forall_mem_cons.mpr ⟨k_1416, (List.forall_mem_cons.mpr ⟨k_1418, (List.forall_mem_cons.mpr ⟨k_1420, (List.forall_mem_cons.mpr ⟨k_1422, (List.forall_mem_cons.mpr ⟨k_1424, (List.forall_mem_cons.mpr ⟨k_1426, (List.forall_mem_cons.mpr ⟨k_1428, (List.forall_mem_cons.mpr ⟨k_1430, (List.forall_mem_cons.mpr ⟨k_1432, (List.forall_mem_cons.mpr ⟨k_1434, (List.forall_mem_cons.mpr ⟨k_1436, (List.forall_mem_cons.mpr ⟨k_1438, (List.forall_mem_cons.mpr ⟨k_1440, (List.forall_mem_cons.mpr ⟨k_1442, (List.forall_mem_cons.mpr ⟨k_1444, (List.forall_mem_cons.mpr ⟨k_1446, (List.forall_mem_cons.mpr ⟨k_1448, (List.forall_mem_cons.mpr ⟨k_1450, (List.forall_mem_cons.mpr ⟨k_1452, (List.forall_mem_cons.mpr ⟨k_1454, (List.forall_mem_cons.mpr ⟨k_1456, (List.forall_mem_cons.mpr ⟨k_1458, (List.forall_mem_cons.mpr ⟨k_1460, (List.forall_mem_cons.mpr ⟨k_1462, (List.forall_mem_cons.mpr ⟨k_1464, (List.forall_mem_cons.mpr ⟨k_1466, (fun _ h => absurd h List.not_mem_nil)⟩)⟩)⟩)⟩)⟩)⟩)⟩)⟩)⟩)⟩)⟩)⟩)⟩)⟩)⟩)⟩)⟩)⟩)⟩)⟩)⟩)⟩)⟩)⟩)⟩)⟩)⟩)⟩)⟩)⟩)⟩)⟩)⟩)⟩)⟩)⟩)⟩)⟩)⟩)⟩)⟩)⟩)⟩)⟩)⟩)⟩)⟩)⟩)⟩)⟩)⟩)⟩)⟩)⟩)⟩)⟩)⟩)⟩)⟩)⟩)⟩)⟩)⟩)⟩)⟩)⟩)⟩)⟩)⟩)⟩)⟩)⟩)⟩)⟩)⟩)⟩)⟩)⟩)⟩)⟩)
theorem xcl_in : ∀ ci, ci < 12 → ∀ w ∈ u_ws (xcl ci).1 (xcl ci).2.1 (xcl ci).2.2, w ∈ xtbl := by
  intro ci h
  match ci, h with
  | 0, _ => exact xin_0
  | 1, _ => exact xin_1
  | 2, _ => exact xin_2
  | 3, _ => exact xin_3
  | 4, _ => exact xin_4
  | 5, _ => exact xin_5
  | 6, _ => exact xin_6
  | 7, _ => exact xin_7
  | 8, _ => exact xin_8
  | 9, _ => exact xin_9
  | 10, _ => exact xin_10
  | 11, _ => exact xin_11
theorem xcl_ty : ∀ ci, ci < 12 → ∀ k, k < (xcl ci).2.2 → parseFieldDescriptor ((xcl ci).2.1 k).2.2.1 = some (xty ci k) := by decide +kernel
theorem xcl_nm : ∀ ci, ci < 12 → ∀ a, a < (xcl ci).2.2 → ∀ b, b < (xcl ci).2.2 → a ≠ b → ((xcl ci).2.1 a).2.1 ≠ ((xcl ci).2.1 b).2.1 := by decide +kernel
theorem xRep.obj {G : xG} {h : xH} {H : Heap} (hP : xRep G h H) {a ci : Nat} (hs : h.1[a]? = some (.inl ci)) : ci < 12 ∧ t_OB (xP G a) (G.2.1.1 ci) (xcl ci).2.2 (G.2.1.2 ci) H (fun j => xval G h a (xphi ci j) (xty ci j)) := by
  obtain ⟨r, h1, h2⟩ := hP.2.2.1 a _ hs (by simp [xHole])
  obtain ⟨e1, e2, -⟩ := xcl_at h1
  subst e2
  exact ⟨e1, h2⟩
theorem xRep.arr {G : xG} {h : xH} {H : Heap} (hP : xRep G h H) {a t n : Nat} (hs : h.1[a]? = some (.inr (t, n))) (ht : t < 8) : H[xP G a]? = some (arrV (G.2.2.1 t) n (fun j => xval G h a j (xaty t))) := hP.2.2.1 a _ hs (fun q => by have := congrArg (fun x : xSh => match x with | .inl _ => 0 | .inr y => y.1) q; simp only [xHole] at this; omega)
theorem xval_eq {G : xG} {h h' : xH} {a j : Nat} (e : h'.2.1 a j = h.2.1 a j ∧ h'.2.2.1 a j = h.2.2.1 a j ∧ h'.2.2.2 a j = h.2.2.2 a j) (t : FieldType) : xval G h' a j t = xval G h a j t := by
  unfold xval
  rw [e.1, e.2.1, e.2.2]
theorem xRep.upd {G : xG} {h h' : xH} {H H1 : Heap} {k : Nat} (hP : xRep G h H) (hS : h'.1 = h.1) (z : H1.size = H.size) (oq : ∀ q, q ≠ xP G k → H1[q]? = H[q]?) (hk : ∀ t, h.1[k]? = some t → xcell G h' k H1 t)
    (ho : ∀ k', k' ≠ k → ∀ j, h'.2.1 k' j = h.2.1 k' j ∧ h'.2.2.1 k' j = h.2.2.1 k' j ∧ h'.2.2.2 k' j = h.2.2.2 k' j) : xRep G h' H1 := by
  refine ⟨by rw [z, hS]; exact hP.1, fun q hq => by rw [oq q (by have := xB_xP G k; omega)]; exact hP.2.1 q hq, fun k' t ht hh => ?_, hP.2.2.2⟩
  rw [hS] at ht
  by_cases e : k' = k
  · subst e
    exact hk t ht
  · have hc := hP.2.2.1 k' t ht hh
    have hq : H1[xP G k']? = H[xP G k']? := oq _ (fun q => e (hP.2.2.2 _ _ (Nat.add_left_cancel q)))
    cases t with
    | inl ci =>
      obtain ⟨r, h1, h2⟩ := hc
      exact ⟨r, h1, (h2.kept hq).to (fun j _ => (xval_eq (ho k' e _) _).symm)⟩
    | inr q =>
      show H1[xP G k']? = _
      rw [hq]
      refine (show H[xP G k']? = _ from hc).trans ?_
      congr 2
      funext j
      exact (xval_eq (ho k' e j) _).symm
theorem xtys_at (G : xG) : ∀ t, t < 8 → (xtys G)[t]? = some (G.2.2.1 t, xaty t) := by
  intro t ht
  match t, ht with
  | 0, _ => rfl
  | 1, _ => rfl
  | 2, _ => rfl
  | 3, _ => rfl
  | 4, _ => rfl
  | 5, _ => rfl
  | 6, _ => rfl
  | 7, _ => rfl
theorem xK.arr {G : xG} {s : State} (hK : xK G s) {t : Nat} (ht : t < 8) : ArrOfT s (G.2.2.1 t) (xaty t) ∧ va_RA s (G.2.2.1 t) (xaty t) := hK.1.2 t _ (xtys_at G t ht)
section XR
variable {G : xG} {d : Nat} {M : xM} {pc : Nat} {lv : List (Nat × Value)} {st : List Value} {S : List xSh} {I : Nat → Nat → Int32} {L : Nat → Nat → Int64} {Rf : Nat → Nat → Option Nat} {o : Option Value × xH}
theorem X_get {a ci j idx : Nat} (v : Value) (hs : S[a]? = some (.inl ci)) (hj : j < (xcl ci).2.2) (hw : Cond.fieldLink M.1.cls idx ((xcl ci).2.1 j).1 ((xcl ci).2.1 j).2.1 ((xcl ci).2.1 j).2.2.1 ∈ xtbl) (hv : xval G (S, I, L, Rf) a (xphi ci j) (xty ci j) = v) (hd : decode M.2.1 pc = .ok (.getfield idx, 3)) (k : X G d M (pc + 3) lv (v :: st) (S, I, L, Rf) o) : X G d M pc lv (.ref (xP G a) :: st) (S, I, L, Rf) o := by
  refine ⟨k.1, fun p e R s m args below meth c Q mc ms hC h1 h2 hE H locs cells slots ls hP hl h3 h4 hlv => ?_⟩
  have kk := k.2 p e R s m args below meth c Q mc ms hC h1 h2 hE H locs cells slots ls hP hl h3 h4 hlv
  obtain ⟨hci, cell, q1, q2, q3, q4⟩ := hP.obj hs
  obtain ⟨hS, hfc, kC, hkC, hkind⟩ := hC.k.1.1 ci _ (xcl_has hci)
  obtain ⟨cf, kf, fi, f, hi, hsl⟩ := hS j hj
  refine W.getf hC.1 hC.2.1 hC.own (hC.w hw) hi (u_facts hfc hkC (u_lays (fun w hw => hC.w hw) (xcl_in ci hci) hj) hi).1 q1 (by rw [q3]; exact fun h => by cases h) (v := v) ?_ rfl rfl hd kk
  rw [hsl, q4 j hj]
  exact congrArg some hv
theorem xPutK {a ci j idx : Nat} {v : Value} {h' : xH} (fin : Bool) (hs : S[a]? = some (.inl ci)) (hj : j < (xcl ci).2.2) (hw : Cond.fieldLink M.1.cls idx ((xcl ci).2.1 j).1 ((xcl ci).2.1 j).2.1 ((xcl ci).2.1 j).2.2.1 ∈ xtbl) (hfin : ((xcl ci).2.1 j).2.2.2 = fin) (hin : fin = true → M.1.name = "<init>" ∧ ((xcl ci).2.1 j).1 = M.1.cls) (hn : narrow (xty ci j) v = v) (hfit : fits (xty ci j) v = true)
    (hS' : h'.1 = S) (hv : xval G h' a (xphi ci j) (xty ci j) = v) (ho : ∀ b k, ¬ (b = a ∧ k = xphi ci j) → h'.2.1 b k = I b k ∧ h'.2.2.1 b k = L b k ∧ h'.2.2.2 b k = Rf b k)
    (hd : decode M.2.1 pc = .ok (.putfield idx, 3)) (k : X G d M (pc + 3) lv st h' o) : X G d M pc lv (v :: .ref (xP G a) :: st) (S, I, L, Rf) o := by
  refine ⟨by rw [show (S, I, L, Rf).1 = h'.1 from hS'.symm, show xslots (S, I, L, Rf) = xslots h' by simp [xslots, hS']]; exact k.1, fun p e R s m args below meth c Q mc ms hC h1 h2 hE H locs cells slots ls hP hl h3 h4 hlv => ?_⟩
  rw [show (S, I, L, Rf).1 = h'.1 from hS'.symm] at h3
  rw [show xslots (S, I, L, Rf) = xslots h' by simp [xslots, hS']] at h4
  obtain ⟨hci, cell, q1, q2, q3, q4⟩ := hP.obj hs
  have hts : ∀ w ∈ xtbl, w.before args s = true := fun w hw => hC.w hw
  have hap := va_apart (own := M.1.cls) hts (xcl_in ci hci) (xty ci) (xcl_ty ci hci) (xcl_nm ci hci) hC.k.1 (xcl_has hci)
  obtain ⟨hSl, hfc, kC, hkC, hkind⟩ := hC.k.1.1 ci _ (xcl_has hci)
  obtain ⟨cf, kf, fi, f, hi, hsl⟩ := hSl j hj
  have hlay := hts _ (xcl_in ci hci _ (u_in_lay hj))
  have hst := (u_facts hfc hkC (u_lays hts (xcl_in ci hci) hj) hi).1
  have key : ∀ H' : Heap, H'[xP G a]? = some (cell.setSlot f.slot v) → H'.size = H.size → (∀ q, q ≠ xP G a → H'[q]? = H[q]?) → W p G.1 e R s m args below meth c H' (locs ++ [⟨xP G a, f.slot⟩]) cells slots Q (F0 m (pc + 3) ls st) := by
    intro H' e1 e2 e3
    refine k.2 p e R s m args below meth c Q mc ms hC h1 h2 hE H' _ cells slots ls (hP.upd hS' e2 e3 (fun t ht => ?_) (fun k' hk' j' => ho k' j' (fun hh => hk' hh.1))) (fun q hq => ?_) h3 h4 hlv
    · cases ht.symm.trans hs
      rw [hsl] at e1
      refine ⟨_, xcl_has hci, t_OB.to (V := updV (fun j => xval G (S, I, L, Rf) a (xphi ci j) (xty ci j)) j v) ⟨_, e1, q2, q3, t_set q4 hap hj v⟩ (fun j' _ => ?_)⟩
      by_cases hjj : j' = j
      · subst hjj
        simp [updV, hv]
      · simp only [updV, hjj, if_false]
        exact (xval_eq (h := (S, I, L, Rf)) (ho a _ (fun hh => hjj (xphi_inj hh.2))) _).symm
    · rcases List.mem_append.mp hq with hq | hq
      · exact hl q hq
      · rw [List.mem_singleton.mp hq]
        exact xB_xP _ _
  cases fin with
  | false =>
    unfold u_lay at hlay
    rw [if_neg (by rw [hfin]; decide)] at hlay
    have h6 := u_store hfc hkC hkind hlay hi (xcl_ty ci hci j hj) hn hfit
    exact W.putK hC.1 hC.2.1 (f := f) ⟨hC.own, hC.w hw, ⟨_, _, _, hi⟩, hst⟩ (by rw [q2]; exact h6) q1 q3 (by rw [hsl]; exact k2_hasslot (q4 j hj)) rfl rfl hd key
  | true =>
    unfold u_lay at hlay
    rw [if_pos hfin] at hlay
    obtain ⟨hin1, hin2⟩ := hin rfl
    have hcf : m.cls = cf := by
      obtain ⟨_, _, c', _, _, _, -, -, hf', -, -, -, hown2, -⟩ := Cond.laysFinal_spec hlay
      have e1 : c' = cf := by have := hi.symm.trans hf'; simp at this; exact this.1.symm
      rw [hin2] at hown2
      rw [← e1]; exact Option.some.inj (hC.own.symm.trans hown2)
    have h6 := u_fits hfc hkC hkind (Or.inr hlay) hi (xcl_ty ci hci j hj) hn hfit
    exact W.putFinK hC.1 hC.2.1 hC.own (hC.w hw) hi hst hcf (hC.2.2.2.2.2.2.1 hin1) (by rw [q2]; exact h6) q1 q3 (by rw [hsl]; exact k2_hasslot (q4 j hj)) rfl rfl hd key
theorem X_puti {a ci j idx : Nat} (jl : Nat) (hphi : xphi ci j = jl) {v : Int32} (fin : Bool) (hs : S[a]? = some (.inl ci)) (hj : j < (xcl ci).2.2) (hw : Cond.fieldLink M.1.cls idx ((xcl ci).2.1 j).1 ((xcl ci).2.1 j).2.1 ((xcl ci).2.1 j).2.2.1 ∈ xtbl) (hfin : ((xcl ci).2.1 j).2.2.2 = fin) (hin : fin = true → M.1.name = "<init>" ∧ ((xcl ci).2.1 j).1 = M.1.cls) (ht : xty ci j = .int)
    (hd : decode M.2.1 pc = .ok (.putfield idx, 3)) (k : X G d M (pc + 3) lv st (S, uI I a jl v, L, Rf) o) : X G d M pc lv (.int v :: .ref (xP G a) :: st) (S, I, L, Rf) o := by
  subst hphi
  exact xPutK fin hs hj hw hfin hin (by rw [ht]; rfl) (by rw [ht]; rfl) rfl (by rw [ht]; simp [xval, uI]) (fun b k hbk => ⟨uI_o hbk, rfl, rfl⟩) hd k
theorem X_putz {a ci j idx : Nat} (jl : Nat) (hphi : xphi ci j = jl) {v : Int32} (fin : Bool) (hs : S[a]? = some (.inl ci)) (hj : j < (xcl ci).2.2) (hw : Cond.fieldLink M.1.cls idx ((xcl ci).2.1 j).1 ((xcl ci).2.1 j).2.1 ((xcl ci).2.1 j).2.2.1 ∈ xtbl) (hfin : ((xcl ci).2.1 j).2.2.2 = fin) (hin : fin = true → M.1.name = "<init>" ∧ ((xcl ci).2.1 j).1 = M.1.cls) (ht : xty ci j = .boolean) (hv : v = 0 ∨ v = 1)
    (hd : decode M.2.1 pc = .ok (.putfield idx, 3)) (k : X G d M (pc + 3) lv st (S, uI I a jl v, L, Rf) o) : X G d M pc lv (.int v :: .ref (xP G a) :: st) (S, I, L, Rf) o := by
  subst hphi
  exact xPutK fin hs hj hw hfin hin (by rw [ht]; rcases hv with rfl | rfl <;> rfl) (by rw [ht]; rcases hv with rfl | rfl <;> rfl) rfl (by rw [ht]; simp [xval, uI]) (fun b k hbk => ⟨uI_o hbk, rfl, rfl⟩) hd k
theorem X_putl {a ci j idx : Nat} (jl : Nat) (hphi : xphi ci j = jl) {v : Int64} (fin : Bool) (hs : S[a]? = some (.inl ci)) (hj : j < (xcl ci).2.2) (hw : Cond.fieldLink M.1.cls idx ((xcl ci).2.1 j).1 ((xcl ci).2.1 j).2.1 ((xcl ci).2.1 j).2.2.1 ∈ xtbl) (hfin : ((xcl ci).2.1 j).2.2.2 = fin) (hin : fin = true → M.1.name = "<init>" ∧ ((xcl ci).2.1 j).1 = M.1.cls) (ht : xty ci j = .long)
    (hd : decode M.2.1 pc = .ok (.putfield idx, 3)) (k : X G d M (pc + 3) lv st (S, I, uL L a jl v, Rf) o) : X G d M pc lv (.long v :: .ref (xP G a) :: st) (S, I, L, Rf) o := by
  subst hphi
  exact xPutK fin hs hj hw hfin hin (by rw [ht]; rfl) (by rw [ht]; rfl) rfl (by rw [ht]; simp [xval, uL]) (fun b k hbk => ⟨rfl, uL_o hbk, rfl⟩) hd k
theorem X_putr {a ci j idx v : Nat} (jl : Nat) (hphi : xphi ci j = jl) (fin : Bool) (hs : S[a]? = some (.inl ci)) (hj : j < (xcl ci).2.2) (hw : Cond.fieldLink M.1.cls idx ((xcl ci).2.1 j).1 ((xcl ci).2.1 j).2.1 ((xcl ci).2.1 j).2.2.1 ∈ xtbl) (hfin : ((xcl ci).2.1 j).2.2.2 = fin) (hin : fin = true → M.1.name = "<init>" ∧ ((xcl ci).2.1 j).1 = M.1.cls) (ht : (∃ n, xty ci j = .object n) ∨ ∃ t, xty ci j = .array t)
    (hd : decode M.2.1 pc = .ok (.putfield idx, 3)) (k : X G d M (pc + 3) lv st (S, I, L, uR Rf a jl (some v)) o) : X G d M pc lv (.ref (xP G v) :: .ref (xP G a) :: st) (S, I, L, Rf) o := by
  subst hphi
  rcases ht with ⟨n, ht⟩ | ⟨n, ht⟩ <;>
  exact xPutK fin hs hj hw hfin hin (by rw [ht]; rfl) (by rw [ht]; rfl) rfl (by rw [ht]; simp [xval, uR, xr, va_rf]) (fun b k hbk => ⟨rfl, rfl, uR_o hbk⟩) hd k
end XR

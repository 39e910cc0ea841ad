/-! rows that touch the heap -/
def uI (I : Nat → Nat → Int32) (a j : Nat) (v : Int32) : Nat → Nat → Int32 := fun b k => if b = a ∧ k = j then v else I b k
def uL (I : Nat → Nat → Int64) (a j : Nat) (v : Int64) : Nat → Nat → Int64 := fun b k => if b = a ∧ k = j then v else I b k
def uR (I : Nat → Nat → Option Nat) (a j : Nat) (v : Option Nat) : Nat → Nat → Option Nat := fun b k => if b = a ∧ k = j then v else I b k
/-- a row of cell dst, from dp on, becomes n places of cell src, from sp on -/
def uC {α : Type} (I : Nat → Nat → α) (src sp dst dp n : Nat) : Nat → Nat → α := fun b k => if b = dst ∧ dp ≤ k ∧ k < dp + n then I src (sp + (k - dp)) else I b k
/-- cell a is all v -/
def uZ {α : Type} (I : Nat → Nat → α) (a : Nat) (v : α) : Nat → Nat → α := fun b k => if b = a then v else I b k
theorem uI_s (I : Nat → Nat → Int32) (a j : Nat) (v : Int32) : uI I a j v a j = v := if_pos ⟨rfl, rfl⟩
theorem uI_o {I : Nat → Nat → Int32} {a j b k : Nat} {v : Int32} (h : ¬ (b = a ∧ k = j)) : uI I a j v b k = I b k := if_neg h
theorem uL_s (I : Nat → Nat → Int64) (a j : Nat) (v : Int64) : uL I a j v a j = v := if_pos ⟨rfl, rfl⟩
theorem uL_o {I : Nat → Nat → Int64} {a j b k : Nat} {v : Int64} (h : ¬ (b = a ∧ k = j)) : uL I a j v b k = I b k := if_neg h
theorem uR_s (I : Nat → Nat → Option Nat) (a j : Nat) (v : Option Nat) : uR I a j v a j = v := if_pos ⟨rfl, rfl⟩
theorem uR_o {I : Nat → Nat → Option Nat} {a j b k : Nat} {v : Option Nat} (h : ¬ (b = a ∧ k = j)) : uR I a j v b k = I b k := if_neg h
def xcl (ci : Nat) : vw_C := vwCl.getD ci (RX12, TX12, 80)
theorem xcl_at {ci : Nat} {r : vw_C} (h : vwCl[ci]? = some r) : ci < 12 ∧ r = xcl ci ∧ r.2.2 = xnf ci := by
  have h1 : ci < 12 := (List.getElem?_eq_some_iff.mp h).1
  refine ⟨h1, by simp [xcl, List.getD_eq_getElem?_getD, h], ?_⟩
  match ci, h1, h with
  | 0, _, h => cases h; rfl
  | 1, _, h => cases h; rfl
  | 2, _, h => cases h; rfl
  | 3, _, h => cases h; rfl
  | 4, _, h => cases h; rfl
  | 5, _, h => cases h; rfl
  | 6, _, h => cases h; rfl
  | 7, _, h => cases h; rfl
  | 8, _, h => cases h; rfl
  | 9, _, h => cases h; rfl
  | 10, _, h => cases h; rfl
  | 11, _, h => cases h; rfl
theorem xcl_has {ci : Nat} (h : ci < 12) : vwCl[ci]? = some (xcl ci) := by
  have h1 : ci < vwCl.length := h
  simp [xcl, List.getD_eq_getElem?_getD, List.getElem?_eq_getElem h1]
theorem xin_0 : ∀ w ∈ u_ws (xcl 0).1 (xcl 0).2.1 (xcl 0).2.2, w ∈ xtbl := (List.forall_mem_cons.mpr ⟨k_334, (List.forall_mem_cons.mpr ⟨k_336, (List.forall_mem_cons.mpr ⟨k_338, (List.forall_mem_cons.mpr ⟨k_340, (List.forall_mem_cons.mpr ⟨k_342, (fun _ h => absurd h List.not_mem_nil)⟩)⟩)⟩)⟩)⟩)
theorem xin_1 : ∀ w ∈ u_ws (xcl 1).1 (xcl 1).2.1 (xcl 1).2.2, w ∈ xtbl := (List.forall_mem_cons.mpr ⟨k_610, (List.forall_mem_cons.mpr ⟨k_611, (List.forall_mem_cons.mpr ⟨k_586, (List.forall_mem_cons.mpr ⟨k_588, (List.forall_mem_cons.mpr ⟨k_590, (List.forall_mem_cons.mpr ⟨k_592, (List.forall_mem_cons.mpr ⟨k_594, (List.forall_mem_cons.mpr ⟨k_596, (List.forall_mem_cons.mpr ⟨k_598, (List.forall_mem_cons.mpr ⟨k_600, (List.forall_mem_cons.mpr ⟨k_602, (List.forall_mem_cons.mpr ⟨k_604, (List.forall_mem_cons.mpr ⟨k_606, (List.forall_mem_cons.mpr ⟨k_608, (fun _ h => absurd h List.not_mem_nil)⟩)⟩)⟩)⟩)⟩)⟩)⟩)⟩)⟩)⟩)⟩)⟩)⟩)⟩)
theorem xin_2 : ∀ w ∈ u_ws (xcl 2).1 (xcl 2).2.1 (xcl 2).2.2, w ∈ xtbl := (List.forall_mem_cons.mpr ⟨k_308, (List.forall_mem_cons.mpr ⟨k_310, (List.forall_mem_cons.mpr ⟨k_312, (List.forall_mem_cons.mpr ⟨k_314, (List.forall_mem_cons.mpr ⟨k_316, (List.forall_mem_cons.mpr ⟨k_318, (fun _ h => absurd h List.not_mem_nil)⟩)⟩)⟩)⟩)⟩)⟩)
theorem xin_3 : ∀ w ∈ u_ws (xcl 3).1 (xcl 3).2.1 (xcl 3).2.2, w ∈ xtbl := (List.forall_mem_cons.mpr ⟨k_662, (List.forall_mem_cons.mpr ⟨k_664, (List.forall_mem_cons.mpr ⟨k_666, (List.forall_mem_cons.mpr ⟨k_668, (List.forall_mem_cons.mpr ⟨k_670, (fun _ h => absurd h List.not_mem_nil)⟩)⟩)⟩)⟩)⟩)
theorem xin_4 : ∀ w ∈ u_ws (xcl 4).1 (xcl 4).2.1 (xcl 4).2.2, w ∈ xtbl := (List.forall_mem_cons.mpr ⟨k_533, (List.forall_mem_cons.mpr ⟨k_535, (List.forall_mem_cons.mpr ⟨k_529, (List.forall_mem_cons.mpr ⟨k_531, (fun _ h => absurd h List.not_mem_nil)⟩)⟩)⟩)⟩)
theorem xin_5 : ∀ w ∈ u_ws (xcl 5).1 (xcl 5).2.1 (xcl 5).2.2, w ∈ xtbl := (List.forall_mem_cons.mpr ⟨k_199, (List.forall_mem_cons.mpr ⟨k_201, (List.forall_mem_cons.mpr ⟨k_203, (List.forall_mem_cons.mpr ⟨k_205, (List.forall_mem_cons.mpr ⟨k_207, (List.forall_mem_cons.mpr ⟨k_209, (List.forall_mem_cons.mpr ⟨k_211, (List.forall_mem_cons.mpr ⟨k_213, (List.forall_mem_cons.mpr ⟨k_215, (List.forall_mem_cons.mpr ⟨k_217, (List.forall_mem_cons.mpr ⟨k_219, (List.forall_mem_cons.mpr ⟨k_221, (List.forall_mem_cons.mpr ⟨k_223, (List.forall_mem_cons.mpr ⟨k_225, (List.forall_mem_cons.mpr ⟨k_227, (List.forall_mem_cons.mpr ⟨k_229, (fun _ h => absurd h List.not_mem_nil)⟩)⟩)⟩)⟩)⟩)⟩)⟩)⟩)⟩)⟩)⟩)⟩)⟩)⟩)⟩)⟩)
theorem xin_6 : ∀ w ∈ u_ws (xcl 6).1 (xcl 6).2.1 (xcl 6).2.2, w ∈ xtbl := (List.forall_mem_cons.mpr ⟨k_124, (List.forall_mem_cons.mpr ⟨k_126, (List.forall_mem_cons.mpr ⟨k_128, (List.forall_mem_cons.mpr ⟨k_130, (List.forall_mem_cons.mpr ⟨k_132, (List.forall_mem_cons.mpr ⟨k_134, (List.forall_mem_cons.mpr ⟨k_136, (List.forall_mem_cons.mpr ⟨k_138, (List.forall_mem_cons.mpr ⟨k_140, (List.forall_mem_cons.mpr ⟨k_142, (List.forall_mem_cons.mpr ⟨k_144, (List.forall_mem_cons.mpr ⟨k_146, (fun _ h => absurd h List.not_mem_nil)⟩)⟩)⟩)⟩)⟩)⟩)⟩)⟩)⟩)⟩)⟩)⟩)
theorem xin_7 : ∀ w ∈ u_ws (xcl 7).1 (xcl 7).2.1 (xcl 7).2.2, w ∈ xtbl := (List.forall_mem_cons.mpr ⟨k_163, (List.forall_mem_cons.mpr ⟨k_165, (List.forall_mem_cons.mpr ⟨k_167, (List.forall_mem_cons.mpr ⟨k_169, (fun _ h => absurd h List.not_mem_nil)⟩)⟩)⟩)⟩)
theorem xin_8 : ∀ w ∈ u_ws (xcl 8).1 (xcl 8).2.1 (xcl 8).2.2, w ∈ xtbl := (List.forall_mem_cons.mpr ⟨k_641, (List.forall_mem_cons.mpr ⟨k_642, (List.forall_mem_cons.mpr ⟨k_629, (List.forall_mem_cons.mpr ⟨k_631, (List.forall_mem_cons.mpr ⟨k_633, (List.forall_mem_cons.mpr ⟨k_635, (List.forall_mem_cons.mpr ⟨k_637, (List.forall_mem_cons.mpr ⟨k_639, (fun _ h => absurd h List.not_mem_nil)⟩)⟩)⟩)⟩)⟩)⟩)⟩)⟩)
theorem xin_9 : ∀ w ∈ u_ws (xcl 9).1 (xcl 9).2.1 (xcl 9).2.2, w ∈ xtbl := (List.forall_mem_cons.mpr ⟨k_264, (List.forall_mem_cons.mpr ⟨k_266, (List.forall_mem_cons.mpr ⟨k_268, (List.forall_mem_cons.mpr ⟨k_270, (List.forall_mem_cons.mpr ⟨k_272, (List.forall_mem_cons.mpr ⟨k_274, (List.forall_mem_cons.mpr ⟨k_276, (List.forall_mem_cons.mpr ⟨k_278, (List.forall_mem_cons.mpr ⟨k_280, (List.forall_mem_cons.mpr ⟨k_282, (List.forall_mem_cons.mpr ⟨k_284, (List.forall_mem_cons.mpr ⟨k_286, (List.forall_mem_cons.mpr ⟨k_288, (List.forall_mem_cons.mpr ⟨k_290, (List.forall_mem_cons.mpr ⟨k_292, (fun _ h => absurd h List.not_mem_nil)⟩)⟩)⟩)⟩)⟩)⟩)⟩)⟩)⟩)⟩)⟩)⟩)⟩)⟩)⟩)
theorem xin_10 : ∀ w ∈ u_ws (xcl 10).1 (xcl 10).2.1 (xcl 10).2.2, w ∈ xtbl := (List.forall_mem_cons.mpr ⟨k_390, (List.forall_mem_cons.mpr ⟨k_392, (List.forall_mem_cons.mpr ⟨k_394, (List.forall_mem_cons.mpr ⟨k_396, (List.forall_mem_cons.mpr ⟨k_398, (List.forall_mem_cons.mpr ⟨k_400, (List.forall_mem_cons.mpr ⟨k_402, (List.forall_mem_cons.mpr ⟨k_404, (List.forall_mem_cons.mpr ⟨k_406, (List.forall_mem_cons.mpr ⟨k_408, (List.forall_mem_cons.mpr ⟨k_410, (List.forall_mem_cons.mpr ⟨k_412, (List.forall_mem_cons.mpr ⟨k_414, (fun _ h => absurd h List.not_mem_nil)⟩)⟩)⟩)⟩)⟩)⟩)⟩)⟩)⟩)⟩)⟩)⟩)⟩)
theorem xin_11 : ∀ w ∈ u_ws (xcl 11).1 (xcl 11).2.1 (xcl 11).2.2, w ∈ xtbl := (List.forall_mem_cons.mpr ⟨k_1277, (List.forall_mem_cons.mpr ⟨k_1279, (List.forall_mem_cons.mpr ⟨k_1281, (List.forall_mem_cons.mpr ⟨k_1283, (List.forall_mem_cons.mpr ⟨k_1285, (List.forall_mem_cons.mpr ⟨k_1287, (List.forall_mem_cons.mpr ⟨k_1289, (List.forall_mem_cons.mpr ⟨k_1291, (List.forall_mem_cons.mpr ⟨k_1293, (List.forall_mem_cons.mpr ⟨k_1295, (List.forall_mem_cons.mpr ⟨k_1297, (List.forall_mem_cons.mpr ⟨k_1299, (List.forall_mem_cons.mpr ⟨k_1301, (List.forall_mem_cons.mpr ⟨k_1303, (List.forall_mem_cons.mpr ⟨k_1305, (List.forall_mem_cons.mpr ⟨k_1307, (List.forall_mem_cons.mpr ⟨k_1309, (List.forall_mem_cons.mpr ⟨k_1311, (List.forall_mem_cons.mpr ⟨k_1313, (List.forall_mem_cons.mpr ⟨k_1315, (List.forall_mem_cons.mpr ⟨k_1317, (List.forall_mem_cons.mpr ⟨k_1319, (List.forall_mem_cons.mpr ⟨k_1321, (List.forall_mem_cons.mpr ⟨k_1323, (List.forall_mem_cons.mpr ⟨k_1325, (List.forall_mem_cons.mpr ⟨k_1327, (List.forall_mem_cons.mpr ⟨k_1329, (List.forall_mem_cons.mpr ⟨k_1331, (List.forall_mem_cons.mpr ⟨k_1333, (List.forall_mem_cons.mpr ⟨k_1335, (List.forall_mem_cons.mpr ⟨k_1337, (List.forall_mem_cons.mpr ⟨k_1339, (List.forall_mem_cons.mpr ⟨k_1341, (List.forall_mem_cons.mpr ⟨k_1343, (List.forall_mem_cons.mpr ⟨k_1345, (List.forall_mem_cons.mpr ⟨k_1347, (List.forall_mem_cons.mpr ⟨k_1349, (List.forall_mem_cons.mpr ⟨k_1351, (List.forall_mem_cons.mpr ⟨k_1353, (List.forall_mem_cons.mpr ⟨k_1355, (List.forall_mem_cons.mpr ⟨k_1357, (List.forall_mem_cons.mpr ⟨k_1359, (List.forall_mem_cons.mpr ⟨k_1361, (List.forall_mem_cons.mpr ⟨k_1363, (List.forall_mem_cons.mpr ⟨k_1365, (List.forall_mem_cons.mpr ⟨k_1367, (List.forall_mem_cons.mpr ⟨k_1369, (List.forall_mem_cons.mpr ⟨k_1371, (List.forall_mem_cons.mpr ⟨k_1373, (List.forall_mem_cons.mpr ⟨k_1375, (List.forall_mem_cons.mpr ⟨k_1377, (List.forall_mem_cons.mpr ⟨k_1379, (List.forall_mem_cons.mpr ⟨k_1381, (List.forall_mem_cons.mpr ⟨k_1383, (List.forall_mem_cons.mpr ⟨k_1385, (List.forall_mem_cons.mpr ⟨k_1387, (List.forall_mem_cons.mpr ⟨k_1389, (List.forall_mem_cons.mpr ⟨k_1391, (List.forall_mem_cons.mpr ⟨k_1393, (List.forall_mem_cons.mpr ⟨k_1395, (List.forall_mem_cons.mpr ⟨k_1397, (List.forall_mem_cons.mpr ⟨k_1399, (List.forall_mem_cons.mpr ⟨k_1401, (List.forall_mem_cons.mpr ⟨k_1403, (List.forall_mem_cons.mpr ⟨k_1405, (List.forall_mem_cons.mpr ⟨k_1407, (List.forall_mem_cons.mpr ⟨k_1409, (List.forall_mem_cons.mpr ⟨k_1411, (List.forall_mem_cons.mpr ⟨k_1413, (List.forall_mem_cons.mpr ⟨k_1415, (List.forall_mem_cons.mpr ⟨k_1417, (List.forall_mem_cons.mpr ⟨k_1419, (List.forall_mem_cons.mpr ⟨k_1421, (List.forall_mem_cons.mpr ⟨k_1423, (List.forall_mem_cons.mpr ⟨k_1425, (List.forall_mem_cons.mpr ⟨k_1427, (List.forall_mem_cons.mpr ⟨k_1429, (List.forall_mem_cons.mpr ⟨k_1431, (List.forall_mem_cons.mpr ⟨k_1433, (List.forall_mem_cons.mpr ⟨k_1435, (fun _ h => absurd h List.not_mem_nil)⟩)⟩)⟩)⟩)⟩)⟩)⟩)⟩)⟩)⟩)⟩)⟩)⟩)⟩)⟩)⟩)⟩)⟩)⟩)⟩)⟩)⟩)⟩)⟩)⟩)⟩)⟩)⟩)⟩)⟩)⟩)⟩)⟩)⟩)⟩)⟩)⟩)⟩)⟩)⟩)⟩)⟩)⟩)⟩)⟩)⟩)⟩)⟩)⟩)⟩)⟩)⟩)⟩)⟩)⟩)⟩)⟩)⟩)⟩)⟩)⟩)⟩)⟩)⟩)⟩)⟩)⟩)⟩)⟩)⟩)⟩)⟩)⟩)⟩)⟩)⟩)⟩)⟩)⟩)⟩)
theorem xcl_in : ∀ ci, ci < 12 → ∀ w ∈ u_ws (xcl ci).1 (xcl ci).2.1 (xcl ci).2.2, w ∈ xtbl := by
  intro ci h
  match ci, h with
  | 0, _ => exact xin_0
  | 1, _ => exact xin_1
  | 2, _ => exact xin_2
  | 3, _ => exact xin_3
  | 4, _ => exact xin_4
  | 5, _ => exact xin_5
  | 6, _ => exact xin_6
  | 7, _ => exact xin_7
  | 8, _ => exact xin_8
  | 9, _ => exact xin_9
  | 10, _ => exact xin_10
  | 11, _ => exact xin_11
theorem xcl_ty : ∀ ci, ci < 12 → ∀ k, k < (xcl ci).2.2 → parseFieldDescriptor ((xcl ci).2.1 k).2.2.1 = some (xty ci k) := by decide +kernel
theorem xcl_nm : ∀ ci, ci < 12 → ∀ a, a < (xcl ci).2.2 → ∀ b, b < (xcl ci).2.2 → a ≠ b → ((xcl ci).2.1 a).2.1 ≠ ((xcl ci).2.1 b).2.1 := by decide +kernel
theorem xRep.obj {G : xG} {h : xH} {H : Heap} (hP : xRep G h H) {a ci : Nat} (hs : h.1[a]? = some (.inl ci)) : ci < 12 ∧ t_OB (xB G + a) (G.2.1.1 ci) (xcl ci).2.2 (G.2.1.2 ci) H (fun j => xval G h a j (xty ci j)) := by
  obtain ⟨r, h1, h2⟩ := hP.2.2 a _ hs
  obtain ⟨e1, e2, -⟩ := xcl_at h1
  subst e2
  exact ⟨e1, h2⟩
theorem xRep.arr {G : xG} {h : xH} {H : Heap} (hP : xRep G h H) {a t n : Nat} (hs : h.1[a]? = some (.inr (t, n))) : H[xB G + a]? = some (arrV (G.2.2.1 t) n (fun j => xval G h a j (xaty t))) := hP.2.2 a _ hs
theorem xval_eq {G : xG} {h h' : xH} {a j : Nat} (e : h'.2.1 a j = h.2.1 a j ∧ h'.2.2.1 a j = h.2.2.1 a j ∧ h'.2.2.2 a j = h.2.2.2 a j) (t : FieldType) : xval G h' a j t = xval G h a j t := by
  unfold xval
  rw [e.1, e.2.1, e.2.2]
theorem xRep.upd {G : xG} {h h' : xH} {H H1 : Heap} {k : Nat} (hP : xRep G h H) (hS : h'.1 = h.1) (z : H1.size = H.size) (oq : ∀ q, q ≠ xB G + k → H1[q]? = H[q]?) (hk : ∀ t, h.1[k]? = some t → xcell G h' k H1 t)
    (ho : ∀ k', k' ≠ k → ∀ j, h'.2.1 k' j = h.2.1 k' j ∧ h'.2.2.1 k' j = h.2.2.1 k' j ∧ h'.2.2.2 k' j = h.2.2.2 k' j) : xRep G h' H1 := by
  refine ⟨by rw [z, hS]; exact hP.1, fun q hq => by rw [oq q (by omega)]; exact hP.2.1 q hq, fun k' t ht => ?_⟩
  rw [hS] at ht
  by_cases e : k' = k
  · subst e
    exact hk t ht
  · have hc := hP.2.2 k' t ht
    have hq : H1[xB G + k']? = H[xB G + k']? := oq _ (by omega)
    cases t with
    | inl ci =>
      obtain ⟨r, h1, h2⟩ := hc
      exact ⟨r, h1, (h2.kept hq).to (fun j _ => (xval_eq (ho k' e j) _).symm)⟩
    | inr q =>
      show H1[xB G + k']? = _
      rw [hq]
      refine (show H[xB G + k']? = _ from hc).trans ?_
      congr 2
      funext j
      exact (xval_eq (ho k' e j) _).symm
theorem xtys_at (G : xG) : ∀ t, t < 5 → (xtys G)[t]? = some (G.2.2.1 t, xaty t) := by
  intro t ht
  match t, ht with
  | 0, _ => rfl
  | 1, _ => rfl
  | 2, _ => rfl
  | 3, _ => rfl
  | 4, _ => rfl
theorem xK.arr {G : xG} {s : State} (hK : xK G s) {t : Nat} (ht : t < 5) : ArrOfT s (G.2.2.1 t) (xaty t) ∧ va_RA s (G.2.2.1 t) (xaty t) := hK.1.2 t _ (xtys_at G t ht)
section XR
variable {G : xG} {d : Nat} {M : xM} {pc : Nat} {lv : List (Nat × Value)} {st : List Value} {S : List xSh} {I : Nat → Nat → Int32} {L : Nat → Nat → Int64} {Rf : Nat → Nat → Option Nat} {o : Option Value × xH}
theorem X_get {a ci j idx : Nat} (v : Value) (hs : S[a]? = some (.inl ci)) (hj : j < (xcl ci).2.2) (hw : Cond.fieldLink M.1.cls idx ((xcl ci).2.1 j).1 ((xcl ci).2.1 j).2.1 ((xcl ci).2.1 j).2.2.1 ∈ xtbl) (hv : xval G (S, I, L, Rf) a j (xty ci j) = v) (hd : decode M.2.1 pc = .ok (.getfield idx, 3)) (k : X G d M (pc + 3) lv (v :: st) (S, I, L, Rf) o) : X G d M pc lv (.ref (xB G + a) :: st) (S, I, L, Rf) o := by
  refine ⟨k.1, fun p e R s m args below meth c Q mc ms hC h1 h2 hE H locs cells slots ls hP hl h3 h4 hlv => ?_⟩
  have kk := k.2 p e R s m args below meth c Q mc ms hC h1 h2 hE H locs cells slots ls hP hl h3 h4 hlv
  obtain ⟨hci, cell, q1, q2, q3, q4⟩ := hP.obj hs
  obtain ⟨hS, hfc, kC, hkC, hkind⟩ := hC.k.1.1 ci _ (xcl_has hci)
  obtain ⟨cf, kf, fi, f, hi, hsl⟩ := hS j hj
  refine W.getf hC.1 hC.2.1 hC.own (hC.w hw) hi (u_facts hfc hkC (u_lays (fun w hw => hC.w hw) (xcl_in ci hci) hj) hi).1 q1 (by rw [q3]; exact fun h => by cases h) (v := v) ?_ rfl rfl hd kk
  rw [hsl, q4 j hj]
  exact congrArg some hv
theorem xPutK {a ci j idx : Nat} {v : Value} {h' : xH} (fin : Bool) (hs : S[a]? = some (.inl ci)) (hj : j < (xcl ci).2.2) (hw : Cond.fieldLink M.1.cls idx ((xcl ci).2.1 j).1 ((xcl ci).2.1 j).2.1 ((xcl ci).2.1 j).2.2.1 ∈ xtbl) (hfin : ((xcl ci).2.1 j).2.2.2 = fin) (hin : fin = true → M.1.name = "<init>" ∧ ((xcl ci).2.1 j).1 = M.1.cls) (hn : narrow (xty ci j) v = v) (hfit : fits (xty ci j) v = true)
    (hS' : h'.1 = S) (hv : xval G h' a j (xty ci j) = v) (ho : ∀ b k, ¬ (b = a ∧ k = j) → h'.2.1 b k = I b k ∧ h'.2.2.1 b k = L b k ∧ h'.2.2.2 b k = Rf b k)
    (hd : decode M.2.1 pc = .ok (.putfield idx, 3)) (k : X G d M (pc + 3) lv st h' o) : X G d M pc lv (v :: .ref (xB G + a) :: st) (S, I, L, Rf) o := by
  refine ⟨by rw [show (S, I, L, Rf).1 = h'.1 from hS'.symm, show xslots (S, I, L, Rf) = xslots h' by simp [xslots, hS']]; exact k.1, fun p e R s m args below meth c Q mc ms hC h1 h2 hE H locs cells slots ls hP hl h3 h4 hlv => ?_⟩
  rw [show (S, I, L, Rf).1 = h'.1 from hS'.symm] at h3
  rw [show xslots (S, I, L, Rf) = xslots h' by simp [xslots, hS']] at h4
  obtain ⟨hci, cell, q1, q2, q3, q4⟩ := hP.obj hs
  have hts : ∀ w ∈ xtbl, w.before args s = true := fun w hw => hC.w hw
  have hap := va_apart (own := M.1.cls) hts (xcl_in ci hci) (xty ci) (xcl_ty ci hci) (xcl_nm ci hci) hC.k.1 (xcl_has hci)
  obtain ⟨hSl, hfc, kC, hkC, hkind⟩ := hC.k.1.1 ci _ (xcl_has hci)
  obtain ⟨cf, kf, fi, f, hi, hsl⟩ := hSl j hj
  have hlay := hts _ (xcl_in ci hci _ (u_in_lay hj))
  have hst := (u_facts hfc hkC (u_lays hts (xcl_in ci hci) hj) hi).1
  have key : ∀ H' : Heap, H'[xB G + a]? = some (cell.setSlot f.slot v) → H'.size = H.size → (∀ q, q ≠ xB G + a → H'[q]? = H[q]?) → W p G.1 e R s m args below meth c H' (locs ++ [⟨xB G + a, f.slot⟩]) cells slots Q (F0 m (pc + 3) ls st) := by
    intro H' e1 e2 e3
    refine k.2 p e R s m args below meth c Q mc ms hC h1 h2 hE H' _ cells slots ls (hP.upd hS' e2 e3 (fun t ht => ?_) (fun k' hk' j' => ho k' j' (fun hh => hk' hh.1))) (fun q hq => ?_) h3 h4 hlv
    · cases ht.symm.trans hs
      rw [hsl] at e1
      refine ⟨_, xcl_has hci, t_OB.to (V := updV (fun j => xval G (S, I, L, Rf) a j (xty ci j)) j v) ⟨_, e1, q2, q3, t_set q4 hap hj v⟩ (fun j' _ => ?_)⟩
      by_cases hjj : j' = j
      · subst hjj
        simp [updV, hv]
      · simp only [updV, hjj, if_false]
        exact (xval_eq (h := (S, I, L, Rf)) (ho a j' (fun hh => hjj hh.2)) _).symm
    · rcases List.mem_append.mp hq with hq | hq
      · exact hl q hq
      · rw [List.mem_singleton.mp hq]
        exact Nat.le_add_right _ _
  cases fin with
  | false =>
    unfold u_lay at hlay
    rw [if_neg (by rw [hfin]; decide)] at hlay
    have h6 := u_store hfc hkC hkind hlay hi (xcl_ty ci hci j hj) hn hfit
    exact W.putK hC.1 hC.2.1 (f := f) ⟨hC.own, hC.w hw, ⟨_, _, _, hi⟩, hst⟩ (by rw [q2]; exact h6) q1 q3 (by rw [hsl]; exact k2_hasslot (q4 j hj)) rfl rfl hd key
  | true =>
    unfold u_lay at hlay
    rw [if_pos hfin] at hlay
    obtain ⟨hin1, hin2⟩ := hin rfl
    have hcf : m.cls = cf := by
      obtain ⟨_, _, c', _, _, _, -, -, hf', -, -, -, hown2, -⟩ := Cond.laysFinal_spec hlay
      have e1 : c' = cf := by have := hi.symm.trans hf'; simp at this; exact this.1.symm
      rw [hin2] at hown2
      rw [← e1]; exact Option.some.inj (hC.own.symm.trans hown2)
    have h6 := u_fits hfc hkC hkind (Or.inr hlay) hi (xcl_ty ci hci j hj) hn hfit
    exact W.putFinK hC.1 hC.2.1 hC.own (hC.w hw) hi hst hcf (hC.2.2.2.2.2.2.1 hin1) (by rw [q2]; exact h6) q1 q3 (by rw [hsl]; exact k2_hasslot (q4 j hj)) rfl rfl hd key
theorem X_puti {a ci j idx : Nat} {v : Int32} (fin : Bool) (hs : S[a]? = some (.inl ci)) (hj : j < (xcl ci).2.2) (hw : Cond.fieldLink M.1.cls idx ((xcl ci).2.1 j).1 ((xcl ci).2.1 j).2.1 ((xcl ci).2.1 j).2.2.1 ∈ xtbl) (hfin : ((xcl ci).2.1 j).2.2.2 = fin) (hin : fin = true → M.1.name = "<init>" ∧ ((xcl ci).2.1 j).1 = M.1.cls) (ht : xty ci j = .int)
    (hd : decode M.2.1 pc = .ok (.putfield idx, 3)) (k : X G d M (pc + 3) lv st (S, uI I a j v, L, Rf) o) : X G d M pc lv (.int v :: .ref (xB G + a) :: st) (S, I, L, Rf) o :=
  xPutK fin hs hj hw hfin hin (by rw [ht]; rfl) (by rw [ht]; rfl) rfl (by rw [ht]; simp [xval, uI]) (fun b k hbk => ⟨uI_o hbk, rfl, rfl⟩) hd k
theorem X_putz {a ci j idx : Nat} {v : Int32} (fin : Bool) (hs : S[a]? = some (.inl ci)) (hj : j < (xcl ci).2.2) (hw : Cond.fieldLink M.1.cls idx ((xcl ci).2.1 j).1 ((xcl ci).2.1 j).2.1 ((xcl ci).2.1 j).2.2.1 ∈ xtbl) (hfin : ((xcl ci).2.1 j).2.2.2 = fin) (hin : fin = true → M.1.name = "<init>" ∧ ((xcl ci).2.1 j).1 = M.1.cls) (ht : xty ci j = .boolean) (hv : v = 0 ∨ v = 1)
    (hd : decode M.2.1 pc = .ok (.putfield idx, 3)) (k : X G d M (pc + 3) lv st (S, uI I a j v, L, Rf) o) : X G d M pc lv (.int v :: .ref (xB G + a) :: st) (S, I, L, Rf) o :=
  xPutK fin hs hj hw hfin hin (by rw [ht]; rcases hv with rfl | rfl <;> rfl) (by rw [ht]; rcases hv with rfl | rfl <;> rfl) rfl (by rw [ht]; simp [xval, uI]) (fun b k hbk => ⟨uI_o hbk, rfl, rfl⟩) hd k
theorem X_putl {a ci j idx : Nat} {v : Int64} (fin : Bool) (hs : S[a]? = some (.inl ci)) (hj : j < (xcl ci).2.2) (hw : Cond.fieldLink M.1.cls idx ((xcl ci).2.1 j).1 ((xcl ci).2.1 j).2.1 ((xcl ci).2.1 j).2.2.1 ∈ xtbl) (hfin : ((xcl ci).2.1 j).2.2.2 = fin) (hin : fin = true → M.1.name = "<init>" ∧ ((xcl ci).2.1 j).1 = M.1.cls) (ht : xty ci j = .long)
    (hd : decode M.2.1 pc = .ok (.putfield idx, 3)) (k : X G d M (pc + 3) lv st (S, I, uL L a j v, Rf) o) : X G d M pc lv (.long v :: .ref (xB G + a) :: st) (S, I, L, Rf) o :=
  xPutK fin hs hj hw hfin hin (by rw [ht]; rfl) (by rw [ht]; rfl) rfl (by rw [ht]; simp [xval, uL]) (fun b k hbk => ⟨rfl, uL_o hbk, rfl⟩) hd k
theorem X_putr {a ci j idx v : Nat} (fin : Bool) (hs : S[a]? = some (.inl ci)) (hj : j < (xcl ci).2.2) (hw : Cond.fieldLink M.1.cls idx ((xcl ci).2.1 j).1 ((xcl ci).2.1 j).2.1 ((xcl ci).2.1 j).2.2.1 ∈ xtbl) (hfin : ((xcl ci).2.1 j).2.2.2 = fin) (hin : fin = true → M.1.name = "<init>" ∧ ((xcl ci).2.1 j).1 = M.1.cls) (ht : (∃ n, xty ci j = .object n) ∨ ∃ t, xty ci j = .array t)
    (hd : decode M.2.1 pc = .ok (.putfield idx, 3)) (k : X G d M (pc + 3) lv st (S, I, L, uR Rf a j (some v)) o) : X G d M pc lv (.ref (xB G + v) :: .ref (xB G + a) :: st) (S, I, L, Rf) o := by
  rcases ht with ⟨n, ht⟩ | ⟨n, ht⟩ <;>
  exact xPutK fin hs hj hw hfin hin (by rw [ht]; rfl) (by rw [ht]; rfl) rfl (by rw [ht]; simp [xval, uR, xr, va_rf]) (fun b k hbk => ⟨rfl, rfl, uR_o hbk⟩) hd k
end XR

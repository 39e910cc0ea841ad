/-! what the printed methods use -/
abbrev bnd {α β : Type} (e : α) (f : α → β) : β := f e
theorem bnd_e {α β : Type} {e : α} {f : α → β} {q : β} (h : bnd e f = q) : ∃ x, x = e ∧ f x = q := ⟨e, rfl, h⟩
theorem gd_some {α : Type} {c : Prop} [Decidable c] {a : Option α} {q : α} (h : (if c then a else none) = some q) : c ∧ a = some q := by
  by_cases hc : c
  · rw [if_pos hc] at h
    exact ⟨hc, h⟩
  · rw [if_neg hc] at h
    cases h
theorem bd_some {α β : Type} {x : Option α} {f : α → Option β} {q : β} (h : x.bind f = some q) : ∃ a, x = some a ∧ f a = some q := by
  cases x with
  | none => cases h
  | some a => exact ⟨a, rfl, h⟩
def oc {β : Type} (r : Option Nat) (a : β) (f : Nat → β) : β := match r with
  | none => a
  | some w => f w
theorem oc_cases {β : Type} {r : Option Nat} {a : β} {f : Nat → β} {q : β} (h : oc r a f = q) : (r = none ∧ a = q) ∨ ∃ w, r = some w ∧ f w = q := by
  cases r with
  | none => exact Or.inl ⟨rfl, h⟩
  | some w => exact Or.inr ⟨w, rfl, h⟩
def xF : Nat := 1000000
theorem vp_in_lit {i N : Int32} {n : Nat} (h : 0 ≤ i ∧ i < N) (hN : N.toInt = n) : vp_in i n := by
  rw [vp_in_iff]
  refine ⟨?_, ?_⟩
  · have := Int32.le_iff_toInt_le.mp h.1
    simpa using this
  · have := Int32.lt_iff_toInt_lt.mp h.2
    rw [hN] at this
    exact this
/-- the cells that are made once: their shapes, and the references that stay; H: the class, M: the reference -/
def xSl : List xSh := [.inl 10, .inl 5, .inl 6, .inr (1, 24), .inr (1, 24), .inr (1, 24), .inr (0, 120), .inr (0, 120), .inr (0, 9), .inl 7, .inr (0, 6000), .inr (3, 8), .inr (4, 4), .inl 7, .inr (0, 3000), .inl 7, .inr (0, 8000), .inl 9, .inr (0, 3), .inr (0, 3), .inr (0, 3), .inr (0, 3), .inl 2, .inr (0, 8), .inr (0, 8), .inr (0, 8), .inr (0, 8), .inr (1, 793), .inr (0, 15), .inl 0, .inr (0, 4), .inr (0, 16032), .inr (0, 128), .inr (2, 128), .inl 11, .inr (0, 40), .inr (0, 40), .inr (0, 40), .inr (0, 40), .inr (0, 40), .inr (0, 40), .inr (0, 9), .inr (0, 8), .inr (0, 8), .inr (0, 8), .inr (0, 8), .inr (0, 8), .inr (0, 4), .inr (0, 80), .inr (0, 4), .inr (0, 4), .inr (0, 4), .inr (2, 4), .inr (0, 6000), .inr (0, 3000), .inr (0, 8000), .inr (0, 5), .inr (2, 24), .inr (1, 24), .inr (1, 24), .inr (0, 4), .inr (0, 6), .inr (0, 6), .inr (0, 6), .inr (0, 8), .inr (0, 8), .inr (0, 8), .inr (0, 8), .inr (1, 800), .inr (1, 800), .inr (0, 15), .inr (0, 16032), .inr (0, 128), .inr (0, 4), .inr (2, 128), .inr (5, 8), .inr (6, 8), .inr (7, 8), .inl 4, .inl 1, .inl 8, .inl 4, .inl 1, .inl 8, .inl 4, .inl 1, .inl 8, .inl 4, .inl 1, .inl 8, .inl 4, .inl 1, .inl 8, .inl 4, .inl 1, .inl 8, .inl 4, .inl 1, .inl 8, .inl 4, .inl 1, .inl 8, .inl 3, .inl 3, .inl 3, .inl 3]
def xTs (l : List (Nat × xSh)) (r : List (Nat × Nat × Nat)) (S : List xSh) (Rf : Nat → Nat → Option Nat) : Prop := (∀ q ∈ l, S[q.1]? = some q.2) ∧ ∀ q ∈ r, Rf q.1 q.2.1 = some q.2.2
def xshH : List (Nat × xSh) := [(0, .inl 10), (1, .inl 5), (2, .inl 6), (3, .inr (1, 24)), (4, .inr (1, 24)), (5, .inr (1, 24)), (6, .inr (0, 120)), (7, .inr (0, 120)), (8, .inr (0, 9)), (9, .inl 7), (10, .inr (0, 6000)), (11, .inr (3, 8)), (12, .inr (4, 4)), (13, .inl 7), (14, .inr (0, 3000)), (15, .inl 7), (16, .inr (0, 8000)), (17, .inl 9), (18, .inr (0, 3)), (19, .inr (0, 3)), (20, .inr (0, 3)), (21, .inr (0, 3)), (22, .inl 2), (23, .inr (0, 8)), (24, .inr (0, 8)), (25, .inr (0, 8)), (26, .inr (0, 8)), (27, .inr (1, 793)), (28, .inr (0, 15)), (29, .inl 0), (30, .inr (0, 4)), (31, .inr (0, 16032)), (32, .inr (0, 128)), (33, .inr (2, 128)), (75, .inr (5, 8)), (76, .inr (6, 8)), (77, .inr (7, 8)), (78, .inl 4), (79, .inl 1), (80, .inl 8), (81, .inl 4), (82, .inl 1), (83, .inl 8), (84, .inl 4), (85, .inl 1), (86, .inl 8), (87, .inl 4), (88, .inl 1), (89, .inl 8), (90, .inl 4), (91, .inl 1), (92, .inl 8), (93, .inl 4), (94, .inl 1), (95, .inl 8), (96, .inl 4), (97, .inl 1), (98, .inl 8), (99, .inl 4), (100, .inl 1), (101, .inl 8), (102, .inl 3), (103, .inl 3), (104, .inl 3), (105, .inl 3)]
def xrfH : List (Nat × Nat × Nat) := [(0, 0, 1), (0, 1, 2), (0, 2, 11), (0, 3, 12), (0, 4, 13), (0, 5, 15), (0, 9, 17), (0, 10, 22), (0, 11, 28), (0, 12, 29), (0, 13, 75), (0, 14, 76), (0, 15, 77), (1, 0, 2), (1, 6, 8), (1, 15, 9), (2, 5, 3), (2, 6, 4), (2, 7, 5), (2, 8, 6), (2, 9, 7), (9, 2, 10), (12, 0, 102), (12, 1, 103), (12, 2, 104), (12, 3, 105), (13, 2, 14), (15, 2, 16), (17, 5, 18), (17, 6, 19), (17, 13, 20), (17, 14, 21), (22, 1, 23), (22, 2, 24), (22, 3, 25), (22, 4, 26), (22, 5, 27), (29, 1, 30), (29, 2, 31), (29, 3, 32), (29, 4, 33), (75, 0, 78), (75, 1, 81), (75, 2, 84), (75, 3, 87), (75, 4, 90), (75, 5, 93), (75, 6, 96), (75, 7, 99), (76, 0, 79), (76, 1, 82), (76, 2, 85), (76, 3, 88), (76, 4, 91), (76, 5, 94), (76, 6, 97), (76, 7, 100), (77, 0, 80), (77, 1, 83), (77, 2, 86), (77, 3, 89), (77, 4, 92), (77, 5, 95), (77, 6, 98), (77, 7, 101)]
def xTH : List xSh → (Nat → Nat → Option Nat) → Prop := xTs xshH xrfH
theorem sh_0 {S : List xSh} {Rf : Nat → Nat → Option Nat} (h : xTH S Rf) : S[0]? = some (.inl 10) := h.1 (0, .inl 10) (List.mem_of_getElem? (i := 0) rfl)
theorem sh_1 {S : List xSh} {Rf : Nat → Nat → Option Nat} (h : xTH S Rf) : S[1]? = some (.inl 5) := h.1 (1, .inl 5) (List.mem_of_getElem? (i := 1) rfl)
theorem sh_2 {S : List xSh} {Rf : Nat → Nat → Option Nat} (h : xTH S Rf) : S[2]? = some (.inl 6) := h.1 (2, .inl 6) (List.mem_of_getElem? (i := 2) rfl)
theorem sh_3 {S : List xSh} {Rf : Nat → Nat → Option Nat} (h : xTH S Rf) : S[3]? = some (.inr (1, 24)) := h.1 (3, .inr (1, 24)) (List.mem_of_getElem? (i := 3) rfl)
theorem sh_4 {S : List xSh} {Rf : Nat → Nat → Option Nat} (h : xTH S Rf) : S[4]? = some (.inr (1, 24)) := h.1 (4, .inr (1, 24)) (List.mem_of_getElem? (i := 4) rfl)
theorem sh_5 {S : List xSh} {Rf : Nat → Nat → Option Nat} (h : xTH S Rf) : S[5]? = some (.inr (1, 24)) := h.1 (5, .inr (1, 24)) (List.mem_of_getElem? (i := 5) rfl)
theorem sh_6 {S : List xSh} {Rf : Nat → Nat → Option Nat} (h : xTH S Rf) : S[6]? = some (.inr (0, 120)) := h.1 (6, .inr (0, 120)) (List.mem_of_getElem? (i := 6) rfl)
theorem sh_7 {S : List xSh} {Rf : Nat → Nat → Option Nat} (h : xTH S Rf) : S[7]? = some (.inr (0, 120)) := h.1 (7, .inr (0, 120)) (List.mem_of_getElem? (i := 7) rfl)
theorem sh_8 {S : List xSh} {Rf : Nat → Nat → Option Nat} (h : xTH S Rf) : S[8]? = some (.inr (0, 9)) := h.1 (8, .inr (0, 9)) (List.mem_of_getElem? (i := 8) rfl)
theorem sh_9 {S : List xSh} {Rf : Nat → Nat → Option Nat} (h : xTH S Rf) : S[9]? = some (.inl 7) := h.1 (9, .inl 7) (List.mem_of_getElem? (i := 9) rfl)
theorem sh_10 {S : List xSh} {Rf : Nat → Nat → Option Nat} (h : xTH S Rf) : S[10]? = some (.inr (0, 6000)) := h.1 (10, .inr (0, 6000)) (List.mem_of_getElem? (i := 10) rfl)
theorem sh_11 {S : List xSh} {Rf : Nat → Nat → Option Nat} (h : xTH S Rf) : S[11]? = some (.inr (3, 8)) := h.1 (11, .inr (3, 8)) (List.mem_of_getElem? (i := 11) rfl)
theorem sh_12 {S : List xSh} {Rf : Nat → Nat → Option Nat} (h : xTH S Rf) : S[12]? = some (.inr (4, 4)) := h.1 (12, .inr (4, 4)) (List.mem_of_getElem? (i := 12) rfl)
theorem sh_13 {S : List xSh} {Rf : Nat → Nat → Option Nat} (h : xTH S Rf) : S[13]? = some (.inl 7) := h.1 (13, .inl 7) (List.mem_of_getElem? (i := 13) rfl)
theorem sh_14 {S : List xSh} {Rf : Nat → Nat → Option Nat} (h : xTH S Rf) : S[14]? = some (.inr (0, 3000)) := h.1 (14, .inr (0, 3000)) (List.mem_of_getElem? (i := 14) rfl)
theorem sh_15 {S : List xSh} {Rf : Nat → Nat → Option Nat} (h : xTH S Rf) : S[15]? = some (.inl 7) := h.1 (15, .inl 7) (List.mem_of_getElem? (i := 15) rfl)
theorem sh_16 {S : List xSh} {Rf : Nat → Nat → Option Nat} (h : xTH S Rf) : S[16]? = some (.inr (0, 8000)) := h.1 (16, .inr (0, 8000)) (List.mem_of_getElem? (i := 16) rfl)
theorem sh_17 {S : List xSh} {Rf : Nat → Nat → Option Nat} (h : xTH S Rf) : S[17]? = some (.inl 9) := h.1 (17, .inl 9) (List.mem_of_getElem? (i := 17) rfl)
theorem sh_18 {S : List xSh} {Rf : Nat → Nat → Option Nat} (h : xTH S Rf) : S[18]? = some (.inr (0, 3)) := h.1 (18, .inr (0, 3)) (List.mem_of_getElem? (i := 18) rfl)
theorem sh_19 {S : List xSh} {Rf : Nat → Nat → Option Nat} (h : xTH S Rf) : S[19]? = some (.inr (0, 3)) := h.1 (19, .inr (0, 3)) (List.mem_of_getElem? (i := 19) rfl)
theorem sh_20 {S : List xSh} {Rf : Nat → Nat → Option Nat} (h : xTH S Rf) : S[20]? = some (.inr (0, 3)) := h.1 (20, .inr (0, 3)) (List.mem_of_getElem? (i := 20) rfl)
theorem sh_21 {S : List xSh} {Rf : Nat → Nat → Option Nat} (h : xTH S Rf) : S[21]? = some (.inr (0, 3)) := h.1 (21, .inr (0, 3)) (List.mem_of_getElem? (i := 21) rfl)
theorem sh_22 {S : List xSh} {Rf : Nat → Nat → Option Nat} (h : xTH S Rf) : S[22]? = some (.inl 2) := h.1 (22, .inl 2) (List.mem_of_getElem? (i := 22) rfl)
theorem sh_23 {S : List xSh} {Rf : Nat → Nat → Option Nat} (h : xTH S Rf) : S[23]? = some (.inr (0, 8)) := h.1 (23, .inr (0, 8)) (List.mem_of_getElem? (i := 23) rfl)
theorem sh_24 {S : List xSh} {Rf : Nat → Nat → Option Nat} (h : xTH S Rf) : S[24]? = some (.inr (0, 8)) := h.1 (24, .inr (0, 8)) (List.mem_of_getElem? (i := 24) rfl)
theorem sh_25 {S : List xSh} {Rf : Nat → Nat → Option Nat} (h : xTH S Rf) : S[25]? = some (.inr (0, 8)) := h.1 (25, .inr (0, 8)) (List.mem_of_getElem? (i := 25) rfl)
theorem sh_26 {S : List xSh} {Rf : Nat → Nat → Option Nat} (h : xTH S Rf) : S[26]? = some (.inr (0, 8)) := h.1 (26, .inr (0, 8)) (List.mem_of_getElem? (i := 26) rfl)
theorem sh_27 {S : List xSh} {Rf : Nat → Nat → Option Nat} (h : xTH S Rf) : S[27]? = some (.inr (1, 793)) := h.1 (27, .inr (1, 793)) (List.mem_of_getElem? (i := 27) rfl)
theorem sh_28 {S : List xSh} {Rf : Nat → Nat → Option Nat} (h : xTH S Rf) : S[28]? = some (.inr (0, 15)) := h.1 (28, .inr (0, 15)) (List.mem_of_getElem? (i := 28) rfl)
theorem sh_29 {S : List xSh} {Rf : Nat → Nat → Option Nat} (h : xTH S Rf) : S[29]? = some (.inl 0) := h.1 (29, .inl 0) (List.mem_of_getElem? (i := 29) rfl)
theorem sh_30 {S : List xSh} {Rf : Nat → Nat → Option Nat} (h : xTH S Rf) : S[30]? = some (.inr (0, 4)) := h.1 (30, .inr (0, 4)) (List.mem_of_getElem? (i := 30) rfl)
theorem sh_31 {S : List xSh} {Rf : Nat → Nat → Option Nat} (h : xTH S Rf) : S[31]? = some (.inr (0, 16032)) := h.1 (31, .inr (0, 16032)) (List.mem_of_getElem? (i := 31) rfl)
theorem sh_32 {S : List xSh} {Rf : Nat → Nat → Option Nat} (h : xTH S Rf) : S[32]? = some (.inr (0, 128)) := h.1 (32, .inr (0, 128)) (List.mem_of_getElem? (i := 32) rfl)
theorem sh_33 {S : List xSh} {Rf : Nat → Nat → Option Nat} (h : xTH S Rf) : S[33]? = some (.inr (2, 128)) := h.1 (33, .inr (2, 128)) (List.mem_of_getElem? (i := 33) rfl)
theorem sh_75 {S : List xSh} {Rf : Nat → Nat → Option Nat} (h : xTH S Rf) : S[75]? = some (.inr (5, 8)) := h.1 (75, .inr (5, 8)) (List.mem_of_getElem? (i := 34) rfl)
theorem sh_76 {S : List xSh} {Rf : Nat → Nat → Option Nat} (h : xTH S Rf) : S[76]? = some (.inr (6, 8)) := h.1 (76, .inr (6, 8)) (List.mem_of_getElem? (i := 35) rfl)
theorem sh_77 {S : List xSh} {Rf : Nat → Nat → Option Nat} (h : xTH S Rf) : S[77]? = some (.inr (7, 8)) := h.1 (77, .inr (7, 8)) (List.mem_of_getElem? (i := 36) rfl)
theorem sh_78 {S : List xSh} {Rf : Nat → Nat → Option Nat} (h : xTH S Rf) : S[78]? = some (.inl 4) := h.1 (78, .inl 4) (List.mem_of_getElem? (i := 37) rfl)
theorem sh_79 {S : List xSh} {Rf : Nat → Nat → Option Nat} (h : xTH S Rf) : S[79]? = some (.inl 1) := h.1 (79, .inl 1) (List.mem_of_getElem? (i := 38) rfl)
theorem sh_80 {S : List xSh} {Rf : Nat → Nat → Option Nat} (h : xTH S Rf) : S[80]? = some (.inl 8) := h.1 (80, .inl 8) (List.mem_of_getElem? (i := 39) rfl)
theorem sh_81 {S : List xSh} {Rf : Nat → Nat → Option Nat} (h : xTH S Rf) : S[81]? = some (.inl 4) := h.1 (81, .inl 4) (List.mem_of_getElem? (i := 40) rfl)
theorem sh_82 {S : List xSh} {Rf : Nat → Nat → Option Nat} (h : xTH S Rf) : S[82]? = some (.inl 1) := h.1 (82, .inl 1) (List.mem_of_getElem? (i := 41) rfl)
theorem sh_83 {S : List xSh} {Rf : Nat → Nat → Option Nat} (h : xTH S Rf) : S[83]? = some (.inl 8) := h.1 (83, .inl 8) (List.mem_of_getElem? (i := 42) rfl)
theorem sh_84 {S : List xSh} {Rf : Nat → Nat → Option Nat} (h : xTH S Rf) : S[84]? = some (.inl 4) := h.1 (84, .inl 4) (List.mem_of_getElem? (i := 43) rfl)
theorem sh_85 {S : List xSh} {Rf : Nat → Nat → Option Nat} (h : xTH S Rf) : S[85]? = some (.inl 1) := h.1 (85, .inl 1) (List.mem_of_getElem? (i := 44) rfl)
theorem sh_86 {S : List xSh} {Rf : Nat → Nat → Option Nat} (h : xTH S Rf) : S[86]? = some (.inl 8) := h.1 (86, .inl 8) (List.mem_of_getElem? (i := 45) rfl)
theorem sh_87 {S : List xSh} {Rf : Nat → Nat → Option Nat} (h : xTH S Rf) : S[87]? = some (.inl 4) := h.1 (87, .inl 4) (List.mem_of_getElem? (i := 46) rfl)
theorem sh_88 {S : List xSh} {Rf : Nat → Nat → Option Nat} (h : xTH S Rf) : S[88]? = some (.inl 1) := h.1 (88, .inl 1) (List.mem_of_getElem? (i := 47) rfl)
theorem sh_89 {S : List xSh} {Rf : Nat → Nat → Option Nat} (h : xTH S Rf) : S[89]? = some (.inl 8) := h.1 (89, .inl 8) (List.mem_of_getElem? (i := 48) rfl)
theorem sh_90 {S : List xSh} {Rf : Nat → Nat → Option Nat} (h : xTH S Rf) : S[90]? = some (.inl 4) := h.1 (90, .inl 4) (List.mem_of_getElem? (i := 49) rfl)
theorem sh_91 {S : List xSh} {Rf : Nat → Nat → Option Nat} (h : xTH S Rf) : S[91]? = some (.inl 1) := h.1 (91, .inl 1) (List.mem_of_getElem? (i := 50) rfl)
theorem sh_92 {S : List xSh} {Rf : Nat → Nat → Option Nat} (h : xTH S Rf) : S[92]? = some (.inl 8) := h.1 (92, .inl 8) (List.mem_of_getElem? (i := 51) rfl)
theorem sh_93 {S : List xSh} {Rf : Nat → Nat → Option Nat} (h : xTH S Rf) : S[93]? = some (.inl 4) := h.1 (93, .inl 4) (List.mem_of_getElem? (i := 52) rfl)
theorem sh_94 {S : List xSh} {Rf : Nat → Nat → Option Nat} (h : xTH S Rf) : S[94]? = some (.inl 1) := h.1 (94, .inl 1) (List.mem_of_getElem? (i := 53) rfl)
theorem sh_95 {S : List xSh} {Rf : Nat → Nat → Option Nat} (h : xTH S Rf) : S[95]? = some (.inl 8) := h.1 (95, .inl 8) (List.mem_of_getElem? (i := 54) rfl)
theorem sh_96 {S : List xSh} {Rf : Nat → Nat → Option Nat} (h : xTH S Rf) : S[96]? = some (.inl 4) := h.1 (96, .inl 4) (List.mem_of_getElem? (i := 55) rfl)
theorem sh_97 {S : List xSh} {Rf : Nat → Nat → Option Nat} (h : xTH S Rf) : S[97]? = some (.inl 1) := h.1 (97, .inl 1) (List.mem_of_getElem? (i := 56) rfl)
theorem sh_98 {S : List xSh} {Rf : Nat → Nat → Option Nat} (h : xTH S Rf) : S[98]? = some (.inl 8) := h.1 (98, .inl 8) (List.mem_of_getElem? (i := 57) rfl)
theorem sh_99 {S : List xSh} {Rf : Nat → Nat → Option Nat} (h : xTH S Rf) : S[99]? = some (.inl 4) := h.1 (99, .inl 4) (List.mem_of_getElem? (i := 58) rfl)
theorem sh_100 {S : List xSh} {Rf : Nat → Nat → Option Nat} (h : xTH S Rf) : S[100]? = some (.inl 1) := h.1 (100, .inl 1) (List.mem_of_getElem? (i := 59) rfl)
theorem sh_101 {S : List xSh} {Rf : Nat → Nat → Option Nat} (h : xTH S Rf) : S[101]? = some (.inl 8) := h.1 (101, .inl 8) (List.mem_of_getElem? (i := 60) rfl)
theorem sh_102 {S : List xSh} {Rf : Nat → Nat → Option Nat} (h : xTH S Rf) : S[102]? = some (.inl 3) := h.1 (102, .inl 3) (List.mem_of_getElem? (i := 61) rfl)
theorem sh_103 {S : List xSh} {Rf : Nat → Nat → Option Nat} (h : xTH S Rf) : S[103]? = some (.inl 3) := h.1 (103, .inl 3) (List.mem_of_getElem? (i := 62) rfl)
theorem sh_104 {S : List xSh} {Rf : Nat → Nat → Option Nat} (h : xTH S Rf) : S[104]? = some (.inl 3) := h.1 (104, .inl 3) (List.mem_of_getElem? (i := 63) rfl)
theorem sh_105 {S : List xSh} {Rf : Nat → Nat → Option Nat} (h : xTH S Rf) : S[105]? = some (.inl 3) := h.1 (105, .inl 3) (List.mem_of_getElem? (i := 64) rfl)
theorem rf_0_0 {S : List xSh} {Rf : Nat → Nat → Option Nat} (h : xTH S Rf) : Rf 0 0 = some 1 := h.2 (0, 0, 1) (List.mem_of_getElem? (i := 0) rfl)
theorem rf_0_1 {S : List xSh} {Rf : Nat → Nat → Option Nat} (h : xTH S Rf) : Rf 0 1 = some 2 := h.2 (0, 1, 2) (List.mem_of_getElem? (i := 1) rfl)
theorem rf_0_2 {S : List xSh} {Rf : Nat → Nat → Option Nat} (h : xTH S Rf) : Rf 0 2 = some 11 := h.2 (0, 2, 11) (List.mem_of_getElem? (i := 2) rfl)
theorem rf_0_3 {S : List xSh} {Rf : Nat → Nat → Option Nat} (h : xTH S Rf) : Rf 0 3 = some 12 := h.2 (0, 3, 12) (List.mem_of_getElem? (i := 3) rfl)
theorem rf_0_4 {S : List xSh} {Rf : Nat → Nat → Option Nat} (h : xTH S Rf) : Rf 0 4 = some 13 := h.2 (0, 4, 13) (List.mem_of_getElem? (i := 4) rfl)
theorem rf_0_5 {S : List xSh} {Rf : Nat → Nat → Option Nat} (h : xTH S Rf) : Rf 0 5 = some 15 := h.2 (0, 5, 15) (List.mem_of_getElem? (i := 5) rfl)
theorem rf_0_9 {S : List xSh} {Rf : Nat → Nat → Option Nat} (h : xTH S Rf) : Rf 0 9 = some 17 := h.2 (0, 9, 17) (List.mem_of_getElem? (i := 6) rfl)
theorem rf_0_10 {S : List xSh} {Rf : Nat → Nat → Option Nat} (h : xTH S Rf) : Rf 0 10 = some 22 := h.2 (0, 10, 22) (List.mem_of_getElem? (i := 7) rfl)
theorem rf_0_11 {S : List xSh} {Rf : Nat → Nat → Option Nat} (h : xTH S Rf) : Rf 0 11 = some 28 := h.2 (0, 11, 28) (List.mem_of_getElem? (i := 8) rfl)
theorem rf_0_12 {S : List xSh} {Rf : Nat → Nat → Option Nat} (h : xTH S Rf) : Rf 0 12 = some 29 := h.2 (0, 12, 29) (List.mem_of_getElem? (i := 9) rfl)
theorem rf_0_13 {S : List xSh} {Rf : Nat → Nat → Option Nat} (h : xTH S Rf) : Rf 0 13 = some 75 := h.2 (0, 13, 75) (List.mem_of_getElem? (i := 10) rfl)
theorem rf_0_14 {S : List xSh} {Rf : Nat → Nat → Option Nat} (h : xTH S Rf) : Rf 0 14 = some 76 := h.2 (0, 14, 76) (List.mem_of_getElem? (i := 11) rfl)
theorem rf_0_15 {S : List xSh} {Rf : Nat → Nat → Option Nat} (h : xTH S Rf) : Rf 0 15 = some 77 := h.2 (0, 15, 77) (List.mem_of_getElem? (i := 12) rfl)
theorem rf_1_0 {S : List xSh} {Rf : Nat → Nat → Option Nat} (h : xTH S Rf) : Rf 1 0 = some 2 := h.2 (1, 0, 2) (List.mem_of_getElem? (i := 13) rfl)
theorem rf_1_6 {S : List xSh} {Rf : Nat → Nat → Option Nat} (h : xTH S Rf) : Rf 1 6 = some 8 := h.2 (1, 6, 8) (List.mem_of_getElem? (i := 14) rfl)
theorem rf_1_15 {S : List xSh} {Rf : Nat → Nat → Option Nat} (h : xTH S Rf) : Rf 1 15 = some 9 := h.2 (1, 15, 9) (List.mem_of_getElem? (i := 15) rfl)
theorem rf_2_5 {S : List xSh} {Rf : Nat → Nat → Option Nat} (h : xTH S Rf) : Rf 2 5 = some 3 := h.2 (2, 5, 3) (List.mem_of_getElem? (i := 16) rfl)
theorem rf_2_6 {S : List xSh} {Rf : Nat → Nat → Option Nat} (h : xTH S Rf) : Rf 2 6 = some 4 := h.2 (2, 6, 4) (List.mem_of_getElem? (i := 17) rfl)
theorem rf_2_7 {S : List xSh} {Rf : Nat → Nat → Option Nat} (h : xTH S Rf) : Rf 2 7 = some 5 := h.2 (2, 7, 5) (List.mem_of_getElem? (i := 18) rfl)
theorem rf_2_8 {S : List xSh} {Rf : Nat → Nat → Option Nat} (h : xTH S Rf) : Rf 2 8 = some 6 := h.2 (2, 8, 6) (List.mem_of_getElem? (i := 19) rfl)
theorem rf_2_9 {S : List xSh} {Rf : Nat → Nat → Option Nat} (h : xTH S Rf) : Rf 2 9 = some 7 := h.2 (2, 9, 7) (List.mem_of_getElem? (i := 20) rfl)
theorem rf_9_2 {S : List xSh} {Rf : Nat → Nat → Option Nat} (h : xTH S Rf) : Rf 9 2 = some 10 := h.2 (9, 2, 10) (List.mem_of_getElem? (i := 21) rfl)
theorem rf_12_0 {S : List xSh} {Rf : Nat → Nat → Option Nat} (h : xTH S Rf) : Rf 12 0 = some 102 := h.2 (12, 0, 102) (List.mem_of_getElem? (i := 22) rfl)
theorem rf_12_1 {S : List xSh} {Rf : Nat → Nat → Option Nat} (h : xTH S Rf) : Rf 12 1 = some 103 := h.2 (12, 1, 103) (List.mem_of_getElem? (i := 23) rfl)
theorem rf_12_2 {S : List xSh} {Rf : Nat → Nat → Option Nat} (h : xTH S Rf) : Rf 12 2 = some 104 := h.2 (12, 2, 104) (List.mem_of_getElem? (i := 24) rfl)
theorem rf_12_3 {S : List xSh} {Rf : Nat → Nat → Option Nat} (h : xTH S Rf) : Rf 12 3 = some 105 := h.2 (12, 3, 105) (List.mem_of_getElem? (i := 25) rfl)
theorem rf_13_2 {S : List xSh} {Rf : Nat → Nat → Option Nat} (h : xTH S Rf) : Rf 13 2 = some 14 := h.2 (13, 2, 14) (List.mem_of_getElem? (i := 26) rfl)
theorem rf_15_2 {S : List xSh} {Rf : Nat → Nat → Option Nat} (h : xTH S Rf) : Rf 15 2 = some 16 := h.2 (15, 2, 16) (List.mem_of_getElem? (i := 27) rfl)
theorem rf_17_5 {S : List xSh} {Rf : Nat → Nat → Option Nat} (h : xTH S Rf) : Rf 17 5 = some 18 := h.2 (17, 5, 18) (List.mem_of_getElem? (i := 28) rfl)
theorem rf_17_6 {S : List xSh} {Rf : Nat → Nat → Option Nat} (h : xTH S Rf) : Rf 17 6 = some 19 := h.2 (17, 6, 19) (List.mem_of_getElem? (i := 29) rfl)
theorem rf_17_13 {S : List xSh} {Rf : Nat → Nat → Option Nat} (h : xTH S Rf) : Rf 17 13 = some 20 := h.2 (17, 13, 20) (List.mem_of_getElem? (i := 30) rfl)
theorem rf_17_14 {S : List xSh} {Rf : Nat → Nat → Option Nat} (h : xTH S Rf) : Rf 17 14 = some 21 := h.2 (17, 14, 21) (List.mem_of_getElem? (i := 31) rfl)
theorem rf_22_1 {S : List xSh} {Rf : Nat → Nat → Option Nat} (h : xTH S Rf) : Rf 22 1 = some 23 := h.2 (22, 1, 23) (List.mem_of_getElem? (i := 32) rfl)
theorem rf_22_2 {S : List xSh} {Rf : Nat → Nat → Option Nat} (h : xTH S Rf) : Rf 22 2 = some 24 := h.2 (22, 2, 24) (List.mem_of_getElem? (i := 33) rfl)
theorem rf_22_3 {S : List xSh} {Rf : Nat → Nat → Option Nat} (h : xTH S Rf) : Rf 22 3 = some 25 := h.2 (22, 3, 25) (List.mem_of_getElem? (i := 34) rfl)
theorem rf_22_4 {S : List xSh} {Rf : Nat → Nat → Option Nat} (h : xTH S Rf) : Rf 22 4 = some 26 := h.2 (22, 4, 26) (List.mem_of_getElem? (i := 35) rfl)
theorem rf_22_5 {S : List xSh} {Rf : Nat → Nat → Option Nat} (h : xTH S Rf) : Rf 22 5 = some 27 := h.2 (22, 5, 27) (List.mem_of_getElem? (i := 36) rfl)
theorem rf_29_1 {S : List xSh} {Rf : Nat → Nat → Option Nat} (h : xTH S Rf) : Rf 29 1 = some 30 := h.2 (29, 1, 30) (List.mem_of_getElem? (i := 37) rfl)
theorem rf_29_2 {S : List xSh} {Rf : Nat → Nat → Option Nat} (h : xTH S Rf) : Rf 29 2 = some 31 := h.2 (29, 2, 31) (List.mem_of_getElem? (i := 38) rfl)
theorem rf_29_3 {S : List xSh} {Rf : Nat → Nat → Option Nat} (h : xTH S Rf) : Rf 29 3 = some 32 := h.2 (29, 3, 32) (List.mem_of_getElem? (i := 39) rfl)
theorem rf_29_4 {S : List xSh} {Rf : Nat → Nat → Option Nat} (h : xTH S Rf) : Rf 29 4 = some 33 := h.2 (29, 4, 33) (List.mem_of_getElem? (i := 40) rfl)
theorem rf_75_0 {S : List xSh} {Rf : Nat → Nat → Option Nat} (h : xTH S Rf) : Rf 75 0 = some 78 := h.2 (75, 0, 78) (List.mem_of_getElem? (i := 41) rfl)
theorem rf_75_1 {S : List xSh} {Rf : Nat → Nat → Option Nat} (h : xTH S Rf) : Rf 75 1 = some 81 := h.2 (75, 1, 81) (List.mem_of_getElem? (i := 42) rfl)
theorem rf_75_2 {S : List xSh} {Rf : Nat → Nat → Option Nat} (h : xTH S Rf) : Rf 75 2 = some 84 := h.2 (75, 2, 84) (List.mem_of_getElem? (i := 43) rfl)
theorem rf_75_3 {S : List xSh} {Rf : Nat → Nat → Option Nat} (h : xTH S Rf) : Rf 75 3 = some 87 := h.2 (75, 3, 87) (List.mem_of_getElem? (i := 44) rfl)
theorem rf_75_4 {S : List xSh} {Rf : Nat → Nat → Option Nat} (h : xTH S Rf) : Rf 75 4 = some 90 := h.2 (75, 4, 90) (List.mem_of_getElem? (i := 45) rfl)
theorem rf_75_5 {S : List xSh} {Rf : Nat → Nat → Option Nat} (h : xTH S Rf) : Rf 75 5 = some 93 := h.2 (75, 5, 93) (List.mem_of_getElem? (i := 46) rfl)
theorem rf_75_6 {S : List xSh} {Rf : Nat → Nat → Option Nat} (h : xTH S Rf) : Rf 75 6 = some 96 := h.2 (75, 6, 96) (List.mem_of_getElem? (i := 47) rfl)
theorem rf_75_7 {S : List xSh} {Rf : Nat → Nat → Option Nat} (h : xTH S Rf) : Rf 75 7 = some 99 := h.2 (75, 7, 99) (List.mem_of_getElem? (i := 48) rfl)
theorem rf_76_0 {S : List xSh} {Rf : Nat → Nat → Option Nat} (h : xTH S Rf) : Rf 76 0 = some 79 := h.2 (76, 0, 79) (List.mem_of_getElem? (i := 49) rfl)
theorem rf_76_1 {S : List xSh} {Rf : Nat → Nat → Option Nat} (h : xTH S Rf) : Rf 76 1 = some 82 := h.2 (76, 1, 82) (List.mem_of_getElem? (i := 50) rfl)
theorem rf_76_2 {S : List xSh} {Rf : Nat → Nat → Option Nat} (h : xTH S Rf) : Rf 76 2 = some 85 := h.2 (76, 2, 85) (List.mem_of_getElem? (i := 51) rfl)
theorem rf_76_3 {S : List xSh} {Rf : Nat → Nat → Option Nat} (h : xTH S Rf) : Rf 76 3 = some 88 := h.2 (76, 3, 88) (List.mem_of_getElem? (i := 52) rfl)
theorem rf_76_4 {S : List xSh} {Rf : Nat → Nat → Option Nat} (h : xTH S Rf) : Rf 76 4 = some 91 := h.2 (76, 4, 91) (List.mem_of_getElem? (i := 53) rfl)
theorem rf_76_5 {S : List xSh} {Rf : Nat → Nat → Option Nat} (h : xTH S Rf) : Rf 76 5 = some 94 := h.2 (76, 5, 94) (List.mem_of_getElem? (i := 54) rfl)
theorem rf_76_6 {S : List xSh} {Rf : Nat → Nat → Option Nat} (h : xTH S Rf) : Rf 76 6 = some 97 := h.2 (76, 6, 97) (List.mem_of_getElem? (i := 55) rfl)
theorem rf_76_7 {S : List xSh} {Rf : Nat → Nat → Option Nat} (h : xTH S Rf) : Rf 76 7 = some 100 := h.2 (76, 7, 100) (List.mem_of_getElem? (i := 56) rfl)
theorem rf_77_0 {S : List xSh} {Rf : Nat → Nat → Option Nat} (h : xTH S Rf) : Rf 77 0 = some 80 := h.2 (77, 0, 80) (List.mem_of_getElem? (i := 57) rfl)
theorem rf_77_1 {S : List xSh} {Rf : Nat → Nat → Option Nat} (h : xTH S Rf) : Rf 77 1 = some 83 := h.2 (77, 1, 83) (List.mem_of_getElem? (i := 58) rfl)
theorem rf_77_2 {S : List xSh} {Rf : Nat → Nat → Option Nat} (h : xTH S Rf) : Rf 77 2 = some 86 := h.2 (77, 2, 86) (List.mem_of_getElem? (i := 59) rfl)
theorem rf_77_3 {S : List xSh} {Rf : Nat → Nat → Option Nat} (h : xTH S Rf) : Rf 77 3 = some 89 := h.2 (77, 3, 89) (List.mem_of_getElem? (i := 60) rfl)
theorem rf_77_4 {S : List xSh} {Rf : Nat → Nat → Option Nat} (h : xTH S Rf) : Rf 77 4 = some 92 := h.2 (77, 4, 92) (List.mem_of_getElem? (i := 61) rfl)
theorem rf_77_5 {S : List xSh} {Rf : Nat → Nat → Option Nat} (h : xTH S Rf) : Rf 77 5 = some 95 := h.2 (77, 5, 95) (List.mem_of_getElem? (i := 62) rfl)
theorem rf_77_6 {S : List xSh} {Rf : Nat → Nat → Option Nat} (h : xTH S Rf) : Rf 77 6 = some 98 := h.2 (77, 6, 98) (List.mem_of_getElem? (i := 63) rfl)
theorem rf_77_7 {S : List xSh} {Rf : Nat → Nat → Option Nat} (h : xTH S Rf) : Rf 77 7 = some 101 := h.2 (77, 7, 101) (List.mem_of_getElem? (i := 64) rfl)
def xshM : List (Nat × xSh) := [(34, .inl 11), (35, .inr (0, 40)), (36, .inr (0, 40)), (37, .inr (0, 40)), (38, .inr (0, 40)), (39, .inr (0, 40)), (40, .inr (0, 40)), (41, .inr (0, 9)), (42, .inr (0, 8)), (43, .inr (0, 8)), (44, .inr (0, 8)), (45, .inr (0, 8)), (46, .inr (0, 8)), (47, .inr (0, 4)), (48, .inr (0, 80)), (49, .inr (0, 4)), (50, .inr (0, 4)), (51, .inr (0, 4)), (52, .inr (2, 4)), (53, .inr (0, 6000)), (54, .inr (0, 3000)), (55, .inr (0, 8000)), (56, .inr (0, 5)), (57, .inr (2, 24)), (58, .inr (1, 24)), (59, .inr (1, 24)), (60, .inr (0, 4)), (61, .inr (0, 6)), (62, .inr (0, 6)), (63, .inr (0, 6)), (64, .inr (0, 8)), (65, .inr (0, 8)), (66, .inr (0, 8)), (67, .inr (0, 8)), (68, .inr (1, 800)), (69, .inr (1, 800)), (70, .inr (0, 15)), (71, .inr (0, 16032)), (72, .inr (0, 128)), (73, .inr (0, 4)), (74, .inr (2, 128))]
def xrfM : List (Nat × Nat × Nat) := [(34, 2, 35), (34, 3, 36), (34, 4, 37), (34, 5, 38), (34, 6, 39), (34, 7, 40), (34, 15, 41), (34, 17, 42), (34, 18, 43), (34, 19, 44), (34, 20, 45), (34, 21, 46), (34, 23, 47), (34, 33, 48), (34, 34, 49), (34, 35, 50), (34, 36, 51), (34, 37, 52), (34, 38, 53), (34, 39, 54), (34, 41, 55), (34, 44, 56), (34, 48, 57), (34, 49, 58), (34, 50, 59), (34, 53, 60), (34, 55, 61), (34, 60, 62), (34, 64, 63), (34, 68, 64), (34, 69, 65), (34, 70, 66), (34, 71, 67), (34, 72, 68), (34, 73, 69), (34, 74, 70), (34, 76, 71), (34, 77, 72), (34, 78, 73), (34, 79, 74)]
def xTM : List xSh → (Nat → Nat → Option Nat) → Prop := xTs xshM xrfM
theorem sh_34 {S : List xSh} {Rf : Nat → Nat → Option Nat} (h : xTM S Rf) : S[34]? = some (.inl 11) := h.1 (34, .inl 11) (List.mem_of_getElem? (i := 0) rfl)
theorem sh_35 {S : List xSh} {Rf : Nat → Nat → Option Nat} (h : xTM S Rf) : S[35]? = some (.inr (0, 40)) := h.1 (35, .inr (0, 40)) (List.mem_of_getElem? (i := 1) rfl)
theorem sh_36 {S : List xSh} {Rf : Nat → Nat → Option Nat} (h : xTM S Rf) : S[36]? = some (.inr (0, 40)) := h.1 (36, .inr (0, 40)) (List.mem_of_getElem? (i := 2) rfl)
theorem sh_37 {S : List xSh} {Rf : Nat → Nat → Option Nat} (h : xTM S Rf) : S[37]? = some (.inr (0, 40)) := h.1 (37, .inr (0, 40)) (List.mem_of_getElem? (i := 3) rfl)
theorem sh_38 {S : List xSh} {Rf : Nat → Nat → Option Nat} (h : xTM S Rf) : S[38]? = some (.inr (0, 40)) := h.1 (38, .inr (0, 40)) (List.mem_of_getElem? (i := 4) rfl)
theorem sh_39 {S : List xSh} {Rf : Nat → Nat → Option Nat} (h : xTM S Rf) : S[39]? = some (.inr (0, 40)) := h.1 (39, .inr (0, 40)) (List.mem_of_getElem? (i := 5) rfl)
theorem sh_40 {S : List xSh} {Rf : Nat → Nat → Option Nat} (h : xTM S Rf) : S[40]? = some (.inr (0, 40)) := h.1 (40, .inr (0, 40)) (List.mem_of_getElem? (i := 6) rfl)
theorem sh_41 {S : List xSh} {Rf : Nat → Nat → Option Nat} (h : xTM S Rf) : S[41]? = some (.inr (0, 9)) := h.1 (41, .inr (0, 9)) (List.mem_of_getElem? (i := 7) rfl)
theorem sh_42 {S : List xSh} {Rf : Nat → Nat → Option Nat} (h : xTM S Rf) : S[42]? = some (.inr (0, 8)) := h.1 (42, .inr (0, 8)) (List.mem_of_getElem? (i := 8) rfl)
theorem sh_43 {S : List xSh} {Rf : Nat → Nat → Option Nat} (h : xTM S Rf) : S[43]? = some (.inr (0, 8)) := h.1 (43, .inr (0, 8)) (List.mem_of_getElem? (i := 9) rfl)
theorem sh_44 {S : List xSh} {Rf : Nat → Nat → Option Nat} (h : xTM S Rf) : S[44]? = some (.inr (0, 8)) := h.1 (44, .inr (0, 8)) (List.mem_of_getElem? (i := 10) rfl)
theorem sh_45 {S : List xSh} {Rf : Nat → Nat → Option Nat} (h : xTM S Rf) : S[45]? = some (.inr (0, 8)) := h.1 (45, .inr (0, 8)) (List.mem_of_getElem? (i := 11) rfl)
theorem sh_46 {S : List xSh} {Rf : Nat → Nat → Option Nat} (h : xTM S Rf) : S[46]? = some (.inr (0, 8)) := h.1 (46, .inr (0, 8)) (List.mem_of_getElem? (i := 12) rfl)
theorem sh_47 {S : List xSh} {Rf : Nat → Nat → Option Nat} (h : xTM S Rf) : S[47]? = some (.inr (0, 4)) := h.1 (47, .inr (0, 4)) (List.mem_of_getElem? (i := 13) rfl)
theorem sh_48 {S : List xSh} {Rf : Nat → Nat → Option Nat} (h : xTM S Rf) : S[48]? = some (.inr (0, 80)) := h.1 (48, .inr (0, 80)) (List.mem_of_getElem? (i := 14) rfl)
theorem sh_49 {S : List xSh} {Rf : Nat → Nat → Option Nat} (h : xTM S Rf) : S[49]? = some (.inr (0, 4)) := h.1 (49, .inr (0, 4)) (List.mem_of_getElem? (i := 15) rfl)
theorem sh_50 {S : List xSh} {Rf : Nat → Nat → Option Nat} (h : xTM S Rf) : S[50]? = some (.inr (0, 4)) := h.1 (50, .inr (0, 4)) (List.mem_of_getElem? (i := 16) rfl)
theorem sh_51 {S : List xSh} {Rf : Nat → Nat → Option Nat} (h : xTM S Rf) : S[51]? = some (.inr (0, 4)) := h.1 (51, .inr (0, 4)) (List.mem_of_getElem? (i := 17) rfl)
theorem sh_52 {S : List xSh} {Rf : Nat → Nat → Option Nat} (h : xTM S Rf) : S[52]? = some (.inr (2, 4)) := h.1 (52, .inr (2, 4)) (List.mem_of_getElem? (i := 18) rfl)
theorem sh_53 {S : List xSh} {Rf : Nat → Nat → Option Nat} (h : xTM S Rf) : S[53]? = some (.inr (0, 6000)) := h.1 (53, .inr (0, 6000)) (List.mem_of_getElem? (i := 19) rfl)
theorem sh_54 {S : List xSh} {Rf : Nat → Nat → Option Nat} (h : xTM S Rf) : S[54]? = some (.inr (0, 3000)) := h.1 (54, .inr (0, 3000)) (List.mem_of_getElem? (i := 20) rfl)
theorem sh_55 {S : List xSh} {Rf : Nat → Nat → Option Nat} (h : xTM S Rf) : S[55]? = some (.inr (0, 8000)) := h.1 (55, .inr (0, 8000)) (List.mem_of_getElem? (i := 21) rfl)
theorem sh_56 {S : List xSh} {Rf : Nat → Nat → Option Nat} (h : xTM S Rf) : S[56]? = some (.inr (0, 5)) := h.1 (56, .inr (0, 5)) (List.mem_of_getElem? (i := 22) rfl)
theorem sh_57 {S : List xSh} {Rf : Nat → Nat → Option Nat} (h : xTM S Rf) : S[57]? = some (.inr (2, 24)) := h.1 (57, .inr (2, 24)) (List.mem_of_getElem? (i := 23) rfl)
theorem sh_58 {S : List xSh} {Rf : Nat → Nat → Option Nat} (h : xTM S Rf) : S[58]? = some (.inr (1, 24)) := h.1 (58, .inr (1, 24)) (List.mem_of_getElem? (i := 24) rfl)
theorem sh_59 {S : List xSh} {Rf : Nat → Nat → Option Nat} (h : xTM S Rf) : S[59]? = some (.inr (1, 24)) := h.1 (59, .inr (1, 24)) (List.mem_of_getElem? (i := 25) rfl)
theorem sh_60 {S : List xSh} {Rf : Nat → Nat → Option Nat} (h : xTM S Rf) : S[60]? = some (.inr (0, 4)) := h.1 (60, .inr (0, 4)) (List.mem_of_getElem? (i := 26) rfl)
theorem sh_61 {S : List xSh} {Rf : Nat → Nat → Option Nat} (h : xTM S Rf) : S[61]? = some (.inr (0, 6)) := h.1 (61, .inr (0, 6)) (List.mem_of_getElem? (i := 27) rfl)
theorem sh_62 {S : List xSh} {Rf : Nat → Nat → Option Nat} (h : xTM S Rf) : S[62]? = some (.inr (0, 6)) := h.1 (62, .inr (0, 6)) (List.mem_of_getElem? (i := 28) rfl)
theorem sh_63 {S : List xSh} {Rf : Nat → Nat → Option Nat} (h : xTM S Rf) : S[63]? = some (.inr (0, 6)) := h.1 (63, .inr (0, 6)) (List.mem_of_getElem? (i := 29) rfl)
theorem sh_64 {S : List xSh} {Rf : Nat → Nat → Option Nat} (h : xTM S Rf) : S[64]? = some (.inr (0, 8)) := h.1 (64, .inr (0, 8)) (List.mem_of_getElem? (i := 30) rfl)
theorem sh_65 {S : List xSh} {Rf : Nat → Nat → Option Nat} (h : xTM S Rf) : S[65]? = some (.inr (0, 8)) := h.1 (65, .inr (0, 8)) (List.mem_of_getElem? (i := 31) rfl)
theorem sh_66 {S : List xSh} {Rf : Nat → Nat → Option Nat} (h : xTM S Rf) : S[66]? = some (.inr (0, 8)) := h.1 (66, .inr (0, 8)) (List.mem_of_getElem? (i := 32) rfl)
theorem sh_67 {S : List xSh} {Rf : Nat → Nat → Option Nat} (h : xTM S Rf) : S[67]? = some (.inr (0, 8)) := h.1 (67, .inr (0, 8)) (List.mem_of_getElem? (i := 33) rfl)
theorem sh_68 {S : List xSh} {Rf : Nat → Nat → Option Nat} (h : xTM S Rf) : S[68]? = some (.inr (1, 800)) := h.1 (68, .inr (1, 800)) (List.mem_of_getElem? (i := 34) rfl)
theorem sh_69 {S : List xSh} {Rf : Nat → Nat → Option Nat} (h : xTM S Rf) : S[69]? = some (.inr (1, 800)) := h.1 (69, .inr (1, 800)) (List.mem_of_getElem? (i := 35) rfl)
theorem sh_70 {S : List xSh} {Rf : Nat → Nat → Option Nat} (h : xTM S Rf) : S[70]? = some (.inr (0, 15)) := h.1 (70, .inr (0, 15)) (List.mem_of_getElem? (i := 36) rfl)
theorem sh_71 {S : List xSh} {Rf : Nat → Nat → Option Nat} (h : xTM S Rf) : S[71]? = some (.inr (0, 16032)) := h.1 (71, .inr (0, 16032)) (List.mem_of_getElem? (i := 37) rfl)
theorem sh_72 {S : List xSh} {Rf : Nat → Nat → Option Nat} (h : xTM S Rf) : S[72]? = some (.inr (0, 128)) := h.1 (72, .inr (0, 128)) (List.mem_of_getElem? (i := 38) rfl)
theorem sh_73 {S : List xSh} {Rf : Nat → Nat → Option Nat} (h : xTM S Rf) : S[73]? = some (.inr (0, 4)) := h.1 (73, .inr (0, 4)) (List.mem_of_getElem? (i := 39) rfl)
theorem sh_74 {S : List xSh} {Rf : Nat → Nat → Option Nat} (h : xTM S Rf) : S[74]? = some (.inr (2, 128)) := h.1 (74, .inr (2, 128)) (List.mem_of_getElem? (i := 40) rfl)
theorem rf_34_2 {S : List xSh} {Rf : Nat → Nat → Option Nat} (h : xTM S Rf) : Rf 34 2 = some 35 := h.2 (34, 2, 35) (List.mem_of_getElem? (i := 0) rfl)
theorem rf_34_3 {S : List xSh} {Rf : Nat → Nat → Option Nat} (h : xTM S Rf) : Rf 34 3 = some 36 := h.2 (34, 3, 36) (List.mem_of_getElem? (i := 1) rfl)
theorem rf_34_4 {S : List xSh} {Rf : Nat → Nat → Option Nat} (h : xTM S Rf) : Rf 34 4 = some 37 := h.2 (34, 4, 37) (List.mem_of_getElem? (i := 2) rfl)
theorem rf_34_5 {S : List xSh} {Rf : Nat → Nat → Option Nat} (h : xTM S Rf) : Rf 34 5 = some 38 := h.2 (34, 5, 38) (List.mem_of_getElem? (i := 3) rfl)
theorem rf_34_6 {S : List xSh} {Rf : Nat → Nat → Option Nat} (h : xTM S Rf) : Rf 34 6 = some 39 := h.2 (34, 6, 39) (List.mem_of_getElem? (i := 4) rfl)
theorem rf_34_7 {S : List xSh} {Rf : Nat → Nat → Option Nat} (h : xTM S Rf) : Rf 34 7 = some 40 := h.2 (34, 7, 40) (List.mem_of_getElem? (i := 5) rfl)
theorem rf_34_15 {S : List xSh} {Rf : Nat → Nat → Option Nat} (h : xTM S Rf) : Rf 34 15 = some 41 := h.2 (34, 15, 41) (List.mem_of_getElem? (i := 6) rfl)
theorem rf_34_17 {S : List xSh} {Rf : Nat → Nat → Option Nat} (h : xTM S Rf) : Rf 34 17 = some 42 := h.2 (34, 17, 42) (List.mem_of_getElem? (i := 7) rfl)
theorem rf_34_18 {S : List xSh} {Rf : Nat → Nat → Option Nat} (h : xTM S Rf) : Rf 34 18 = some 43 := h.2 (34, 18, 43) (List.mem_of_getElem? (i := 8) rfl)
theorem rf_34_19 {S : List xSh} {Rf : Nat → Nat → Option Nat} (h : xTM S Rf) : Rf 34 19 = some 44 := h.2 (34, 19, 44) (List.mem_of_getElem? (i := 9) rfl)
theorem rf_34_20 {S : List xSh} {Rf : Nat → Nat → Option Nat} (h : xTM S Rf) : Rf 34 20 = some 45 := h.2 (34, 20, 45) (List.mem_of_getElem? (i := 10) rfl)
theorem rf_34_21 {S : List xSh} {Rf : Nat → Nat → Option Nat} (h : xTM S Rf) : Rf 34 21 = some 46 := h.2 (34, 21, 46) (List.mem_of_getElem? (i := 11) rfl)
theorem rf_34_23 {S : List xSh} {Rf : Nat → Nat → Option Nat} (h : xTM S Rf) : Rf 34 23 = some 47 := h.2 (34, 23, 47) (List.mem_of_getElem? (i := 12) rfl)
theorem rf_34_33 {S : List xSh} {Rf : Nat → Nat → Option Nat} (h : xTM S Rf) : Rf 34 33 = some 48 := h.2 (34, 33, 48) (List.mem_of_getElem? (i := 13) rfl)
theorem rf_34_34 {S : List xSh} {Rf : Nat → Nat → Option Nat} (h : xTM S Rf) : Rf 34 34 = some 49 := h.2 (34, 34, 49) (List.mem_of_getElem? (i := 14) rfl)
theorem rf_34_35 {S : List xSh} {Rf : Nat → Nat → Option Nat} (h : xTM S Rf) : Rf 34 35 = some 50 := h.2 (34, 35, 50) (List.mem_of_getElem? (i := 15) rfl)
theorem rf_34_36 {S : List xSh} {Rf : Nat → Nat → Option Nat} (h : xTM S Rf) : Rf 34 36 = some 51 := h.2 (34, 36, 51) (List.mem_of_getElem? (i := 16) rfl)
theorem rf_34_37 {S : List xSh} {Rf : Nat → Nat → Option Nat} (h : xTM S Rf) : Rf 34 37 = some 52 := h.2 (34, 37, 52) (List.mem_of_getElem? (i := 17) rfl)
theorem rf_34_38 {S : List xSh} {Rf : Nat → Nat → Option Nat} (h : xTM S Rf) : Rf 34 38 = some 53 := h.2 (34, 38, 53) (List.mem_of_getElem? (i := 18) rfl)
theorem rf_34_39 {S : List xSh} {Rf : Nat → Nat → Option Nat} (h : xTM S Rf) : Rf 34 39 = some 54 := h.2 (34, 39, 54) (List.mem_of_getElem? (i := 19) rfl)
theorem rf_34_41 {S : List xSh} {Rf : Nat → Nat → Option Nat} (h : xTM S Rf) : Rf 34 41 = some 55 := h.2 (34, 41, 55) (List.mem_of_getElem? (i := 20) rfl)
theorem rf_34_44 {S : List xSh} {Rf : Nat → Nat → Option Nat} (h : xTM S Rf) : Rf 34 44 = some 56 := h.2 (34, 44, 56) (List.mem_of_getElem? (i := 21) rfl)
theorem rf_34_48 {S : List xSh} {Rf : Nat → Nat → Option Nat} (h : xTM S Rf) : Rf 34 48 = some 57 := h.2 (34, 48, 57) (List.mem_of_getElem? (i := 22) rfl)
theorem rf_34_49 {S : List xSh} {Rf : Nat → Nat → Option Nat} (h : xTM S Rf) : Rf 34 49 = some 58 := h.2 (34, 49, 58) (List.mem_of_getElem? (i := 23) rfl)
theorem rf_34_50 {S : List xSh} {Rf : Nat → Nat → Option Nat} (h : xTM S Rf) : Rf 34 50 = some 59 := h.2 (34, 50, 59) (List.mem_of_getElem? (i := 24) rfl)
theorem rf_34_53 {S : List xSh} {Rf : Nat → Nat → Option Nat} (h : xTM S Rf) : Rf 34 53 = some 60 := h.2 (34, 53, 60) (List.mem_of_getElem? (i := 25) rfl)
theorem rf_34_55 {S : List xSh} {Rf : Nat → Nat → Option Nat} (h : xTM S Rf) : Rf 34 55 = some 61 := h.2 (34, 55, 61) (List.mem_of_getElem? (i := 26) rfl)
theorem rf_34_60 {S : List xSh} {Rf : Nat → Nat → Option Nat} (h : xTM S Rf) : Rf 34 60 = some 62 := h.2 (34, 60, 62) (List.mem_of_getElem? (i := 27) rfl)
theorem rf_34_64 {S : List xSh} {Rf : Nat → Nat → Option Nat} (h : xTM S Rf) : Rf 34 64 = some 63 := h.2 (34, 64, 63) (List.mem_of_getElem? (i := 28) rfl)
theorem rf_34_68 {S : List xSh} {Rf : Nat → Nat → Option Nat} (h : xTM S Rf) : Rf 34 68 = some 64 := h.2 (34, 68, 64) (List.mem_of_getElem? (i := 29) rfl)
theorem rf_34_69 {S : List xSh} {Rf : Nat → Nat → Option Nat} (h : xTM S Rf) : Rf 34 69 = some 65 := h.2 (34, 69, 65) (List.mem_of_getElem? (i := 30) rfl)
theorem rf_34_70 {S : List xSh} {Rf : Nat → Nat → Option Nat} (h : xTM S Rf) : Rf 34 70 = some 66 := h.2 (34, 70, 66) (List.mem_of_getElem? (i := 31) rfl)
theorem rf_34_71 {S : List xSh} {Rf : Nat → Nat → Option Nat} (h : xTM S Rf) : Rf 34 71 = some 67 := h.2 (34, 71, 67) (List.mem_of_getElem? (i := 32) rfl)
theorem rf_34_72 {S : List xSh} {Rf : Nat → Nat → Option Nat} (h : xTM S Rf) : Rf 34 72 = some 68 := h.2 (34, 72, 68) (List.mem_of_getElem? (i := 33) rfl)
theorem rf_34_73 {S : List xSh} {Rf : Nat → Nat → Option Nat} (h : xTM S Rf) : Rf 34 73 = some 69 := h.2 (34, 73, 69) (List.mem_of_getElem? (i := 34) rfl)
theorem rf_34_74 {S : List xSh} {Rf : Nat → Nat → Option Nat} (h : xTM S Rf) : Rf 34 74 = some 70 := h.2 (34, 74, 70) (List.mem_of_getElem? (i := 35) rfl)
theorem rf_34_76 {S : List xSh} {Rf : Nat → Nat → Option Nat} (h : xTM S Rf) : Rf 34 76 = some 71 := h.2 (34, 76, 71) (List.mem_of_getElem? (i := 36) rfl)
theorem rf_34_77 {S : List xSh} {Rf : Nat → Nat → Option Nat} (h : xTM S Rf) : Rf 34 77 = some 72 := h.2 (34, 77, 72) (List.mem_of_getElem? (i := 37) rfl)
theorem rf_34_78 {S : List xSh} {Rf : Nat → Nat → Option Nat} (h : xTM S Rf) : Rf 34 78 = some 73 := h.2 (34, 78, 73) (List.mem_of_getElem? (i := 38) rfl)
theorem rf_34_79 {S : List xSh} {Rf : Nat → Nat → Option Nat} (h : xTM S Rf) : Rf 34 79 = some 74 := h.2 (34, 79, 74) (List.mem_of_getElem? (i := 39) rfl)
section XE
variable {G : xG} {d : Nat} {M : xM} {pc : Nat} {lv lv' : List (Nat × Value)} {st : List Value} {S : List xSh} {I : Nat → Nat → Int32} {L : Nat → Nat → Int64} {Rf : Nat → Nat → Option Nat} {h : xH} {o : Option Value × xH}
theorem X_tope {x y : Int32} (e : y = x) (k : X G d M pc lv (.int y :: st) h o) : X G d M pc lv (.int x :: st) h o := by rw [← e]; exact k
theorem X_tople {x y : Int64} (e : y = x) (k : X G d M pc lv (.long y :: st) h o) : X G d M pc lv (.long x :: st) h o := by rw [← e]; exact k
theorem X_lvs (ks : List Nat) (hl : lv_pick lv ks = lv') (k : X G d M pc lv' st h o) : X G d M pc lv st h o :=
  ⟨k.1, fun p e R s m args below meth c Q mc ms hC h1 h2 hE H locs cells slots ls hP hl' h3 h4 hlv => k.2 p e R s m args below meth c Q mc ms hC h1 h2 hE H locs cells slots ls hP hl' h3 h4 (lv_sub hlv ks hl)⟩
theorem X_getr {a ci j jl idx c : Nat} (hs : S[a]? = some (.inl ci)) (hj : j < (xcl ci).2.2) (hw : Cond.fieldLink M.1.cls idx ((xcl ci).2.1 j).1 ((xcl ci).2.1 j).2.1 ((xcl ci).2.1 j).2.2.1 ∈ xtbl) (hr : Rf a jl = some c) (ht : ∀ t, xval G (S, I, L, Rf) a (xphi ci j) (xty ci j) = t → xr G (Rf a jl) = t) (hd : decode M.2.1 pc = .ok (.getfield idx, 3)) (k : X G d M (pc + 3) lv (.ref (xP G c) :: st) (S, I, L, Rf) o) : X G d M pc lv (.ref (xP G a) :: st) (S, I, L, Rf) o :=
  X_get (.ref (xP G c)) hs hj hw (by rw [← ht _ rfl, hr]; rfl) hd k
theorem X_ialdj {a n j : Nat} {i : Int32} (v : Int32) (hs : S[a]? = some (.inr (0, n))) (hin : vp_in i n) (hj : i.toNatClampNeg = j) (hv : I a j = v) (hd : decode M.2.1 pc = .ok (.iaload, 1)) (k : X G d M (pc + 1) lv (.int v :: st) (S, I, L, Rf) o) : X G d M pc lv (.int i :: .ref (xP G a) :: st) (S, I, L, Rf) o := by
  subst hj; subst hv; exact X_iald hs hin hd k
theorem X_zaldj {a n j : Nat} {i : Int32} (v : Int32) (hs : S[a]? = some (.inr (2, n))) (hin : vp_in i n) (hj : i.toNatClampNeg = j) (hv : I a j = v) (hd : decode M.2.1 pc = .ok (.baload, 1)) (k : X G d M (pc + 1) lv (.int v :: st) (S, I, L, Rf) o) : X G d M pc lv (.int i :: .ref (xP G a) :: st) (S, I, L, Rf) o := by
  subst hj; subst hv; exact X_zald hs hin hd k
theorem X_laldj {a n j : Nat} {i : Int32} (v : Int64) (hs : S[a]? = some (.inr (1, n))) (hin : vp_in i n) (hj : i.toNatClampNeg = j) (hv : L a j = v) (hd : decode M.2.1 pc = .ok (.laload, 1)) (k : X G d M (pc + 1) lv (.long v :: st) (S, I, L, Rf) o) : X G d M pc lv (.int i :: .ref (xP G a) :: st) (S, I, L, Rf) o := by
  subst hj; subst hv; exact X_lald hs hin hd k
theorem X_aaldN {a t n : Nat} {i : Int32} (ht : 3 ≤ t ∧ t < 8) (hs : S[a]? = some (.inr (t, n))) (hin : vp_in i n) (hr : Rf a i.toNatClampNeg = none) (hd : decode M.2.1 pc = .ok (.aaload, 1)) (k : X G d M (pc + 1) lv (.null :: st) (S, I, L, Rf) o) : X G d M pc lv (.int i :: .ref (xP G a) :: st) (S, I, L, Rf) o :=
  X_aald ht hs hin hd (by rw [hr]; exact k)
theorem X_aaldS {a t n w : Nat} {i : Int32} (ht : 3 ≤ t ∧ t < 8) (hs : S[a]? = some (.inr (t, n))) (hin : vp_in i n) (hr : Rf a i.toNatClampNeg = some w) (hd : decode M.2.1 pc = .ok (.aaload, 1)) (k : X G d M (pc + 1) lv (.ref (xP G w) :: st) (S, I, L, Rf) o) : X G d M pc lv (.int i :: .ref (xP G a) :: st) (S, I, L, Rf) o :=
  X_aald ht hs hin hd (by rw [hr]; exact k)
theorem X_iastj {a n j : Nat} {i x : Int32} (hs : S[a]? = some (.inr (0, n))) (hin : vp_in i n) (hj : i.toNatClampNeg = j) (hd : decode M.2.1 pc = .ok (.iastore, 1)) (k : X G d M (pc + 1) lv st (S, uI I a j x, L, Rf) o) : X G d M pc lv (.int x :: .int i :: .ref (xP G a) :: st) (S, I, L, Rf) o := by
  subst hj; exact X_iast hs hin hd k
theorem X_lastj {a n j : Nat} {i : Int32} {x : Int64} (hs : S[a]? = some (.inr (1, n))) (hin : vp_in i n) (hj : i.toNatClampNeg = j) (hd : decode M.2.1 pc = .ok (.lastore, 1)) (k : X G d M (pc + 1) lv st (S, I, uL L a j x, Rf) o) : X G d M pc lv (.long x :: .int i :: .ref (xP G a) :: st) (S, I, L, Rf) o := by
  subst hj; exact X_last hs hin hd k
theorem X_zastj {a n j : Nat} {i x : Int32} (hx : x = 0 ∨ x = 1) (hs : S[a]? = some (.inr (2, n))) (hin : vp_in i n) (hj : i.toNatClampNeg = j) (hd : decode M.2.1 pc = .ok (.bastore, 1)) (k : X G d M (pc + 1) lv st (S, uI I a j x, L, Rf) o) : X G d M pc lv (.int x :: .int i :: .ref (xP G a) :: st) (S, I, L, Rf) o := by
  subst hj; exact X_zast hx hs hin hd k
theorem X_saldj {f : Bool} {i : Int32} {j : Nat} (hin : vp_in i 7) (hj : i.toNatClampNeg = j) (hd : decode M.2.1 pc = .ok (.iaload, 1)) (k : X G d M (pc + 1) lv (.int (xsv f j) :: st) h o) : X G d M pc lv (.int i :: .ref (xst G f) :: st) h o := by
  subst hj; exact X_sald hin hd k
end XE
theorem nar_b {v : Int32} (h : v = 0 ∨ v = 1) : narrow .boolean (.int v) = .int v := by rcases h with rfl | rfl <;> rfl

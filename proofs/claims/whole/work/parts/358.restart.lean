/-! the movement begins anew, both -/
/-- a work behind its restart -/
def wS (S : List xSh) (p : Nat) (I I0 : Nat → Nat → Int32) : Prop := I0 p 0 = I p 0 ∧ I0 p 1 = 0 ∧ ((S[p]? = some (.inl 4) ∧ I0 p 2 = I p 2 ∧ I0 p 3 = 0) ∨ (S[p]? = some (.inl 1) ∧ (I0 p 2 = I p 2 ∧ I0 p 3 = I p 3 ∧ I0 p 4 = I p 4 ∧ I0 p 5 = I p 5) ∧ (I0 p 6 = I p 3 ∧ I0 p 7 = I p 4 ∧ I0 p 8 = I p 5 ∧ f_Ca_weekDayOf (I p 3) (I p 4) (I p 5) = some (I0 p 9)) ∧ (I0 p 10 = I p 3 ∧ I0 p 11 = I p 4 ∧ I0 p 12 = I p 5) ∧ I0 p 13 = 0) ∨ (S[p]? = some (.inl 8) ∧ I0 p 2 = I p 2 ∧ I0 p 3 = I p 3 ∧ I0 p 5 = 12 ∧ I0 p 6 = 1 ∧ I0 p 7 = 0))
def cS (p : Nat) (I I0 : Nat → Nat → Int32) : Prop := I0 p 0 = I p 0 ∧ I0 p 1 = 0 ∧ I0 p 2 = 0 ∧ I0 p 3 = 0 ∧ I0 p 4 = 0
/-- the class's start -/
def STI (S : List xSh) (nc nw : Nat) (pc pw : Nat → Nat) (I I0 : Nat → Nat → Int32) (L L0 : Nat → Nat → Int64) : Prop := (∀ a j, a = 0 ∨ (a = 1 ∧ j ≤ 5) ∨ a = 2 ∨ a = 8 ∨ (a = 9 ∧ j < 3) ∨ (a = 13 ∧ j < 3) → I0 a j = I a j) ∧ (I0 1 8 = 0 ∧ I0 1 9 = 0 ∧ I0 1 10 = -1 ∧ I0 1 11 = 0 ∧ I0 1 12 = 0 ∧ I0 1 13 = 0 ∧ I0 1 14 = 0 ∧ I0 9 3 = 0 ∧ I0 13 3 = 0) ∧ L0 1 7 = 0 ∧ (∀ a j, a = 3 ∨ a = 4 ∨ a = 5 → L0 a j = L a j) ∧ (∀ c, c < nc → cS (pc c) I I0) ∧ ∀ w, w < nw → wS S (pw w) I I0
/-- a work of the reference at first -/
def wJ (w : Nat) (J J0 : Nat → Nat → Int32) : Prop := J0 48 (10 * w + 5) = 0 ∧ J0 48 (10 * w + 6) = 0 ∧ J0 48 (10 * w + 7) = 0 ∧ (J 42 w = 0 → J0 48 (10 * w) = 0) ∧ (J 42 w = 1 → J0 48 (10 * w + 4) = J 46 w ∧ (∀ d m y, DAY (J 46 w) d m y → J0 48 (10 * w) = d ∧ J0 48 (10 * w + 1) = m ∧ J0 48 (10 * w + 2) = y) ∧ J0 48 (10 * w + 3) = irem (J 46 w) 7) ∧ (J 42 w = 2 → J0 48 (10 * w) = 12 ∧ J0 48 (10 * w + 1) = 1 ∧ J0 48 (10 * w + 2) = 0)
def cJ (c : Nat) (J0 : Nat → Nat → Int32) : Prop := J0 49 c = 0 ∧ J0 50 c = 0 ∧ J0 51 c = 0 ∧ J0 52 c = 0
def STJ (A nc nw : Nat) (J J0 : Nat → Nat → Int32) (K K0 : Nat → Nat → Int64) : Prop := (∀ a j, (a = 34 ∧ (j = 9 ∨ j = 10 ∨ j = 11 ∨ j = 12 ∨ j = 13 ∨ j = 14 ∨ j = 16 ∨ j = 22 ∨ j = 24)) ∨ (41 ≤ a ∧ a ≤ 47) → J0 a j = J a j) ∧ (J0 34 25 = 0 ∧ J0 34 26 = 0 ∧ J0 34 27 = 0 ∧ J0 34 28 = 0 ∧ J0 34 29 = -1 ∧ J0 34 30 = 0 ∧ J0 34 31 = 0 ∧ J0 34 40 = 0) ∧ K0 34 32 = 0 ∧ (∀ a, a < A → J0 57 a = J 57 a ∧ (¬ J 57 a = 0 → K0 58 a = K 58 a ∧ K0 59 a = K 59 a)) ∧ (∀ c, c < nc → cJ c J0) ∧ ∀ w, w < nw → wJ w J J0
section RST
variable {S : List xSh} {Rf : Nat → Nat → Option Nat} {I J I0 J0 : Nat → Nat → Int32} {L K L0 K0 : Nat → Nat → Int64} {A T nc nw rr n s : Nat} {pc pw : Nat → Nat}
theorem st_mv (h : MV S Rf A T nc nw pc pw rr n s I J L K) (hI : STI S nc nw pc pw I I0 L L0) (hJ : STJ A nc nw J J0 K K0) : MV S Rf A T nc nw pc pw 0 0 0 I0 J0 L0 K0 := by
  obtain ⟨h1, h2, h3, h4, h5, h6, h7, h8, h9, h10⟩ := h
  obtain ⟨i1, ⟨i2, i3, i4, i5, i6, i7, i8, i9, i10'⟩, i11, i12, i13, i14⟩ := hI
  obtain ⟨j1, ⟨j2, j3', j4, j5, j6, j7, j8, j9⟩, j10, j11, j12, j13⟩ := hJ
  obtain ⟨⟨a1, a2⟩, ⟨b1, b2, b3⟩, ⟨c1, c2⟩, ⟨d1, d2, d3⟩, ⟨e1, e2, e3⟩, ⟨f1, f2⟩, g1, g2, ⟨k1, k2⟩, k3⟩ := h1
  refine ⟨?_, ?_, ?_, ?_, ?_, h6, ?_, ?_, ?_, h10⟩
  · refine ⟨⟨Nat.le_refl _, by omega⟩, ⟨i6, j2, i9⟩, ⟨i5, j3'⟩, ⟨by rw [i2, j4], by rw [i2]; decide, by rw [i2]; decide⟩, ⟨by rw [i3, j5], by rw [i3]; decide, by rw [i3]; decide⟩, ⟨by rw [i4, j6], Or.inr i4⟩, by rw [i7, j7], by rw [i8, j8], ⟨by rw [i1 9 0 (by simp)]; exact k1, by rw [i1 9 1 (by simp)]; exact k2⟩, fun j hj => by omega⟩
  · obtain ⟨⟨w1, w2, w3, w4, w5⟩, w6⟩ := h2
    refine ⟨⟨by omega, i6, j2, by rw [i1 1 5 (by simp), j1 34 14 (by simp)]; exact w4, by rw [i11, j10]⟩, ?_⟩
    rw [i1 1 5 (by simp), i11]
    rcases w6 with ⟨q, _⟩ | ⟨k, k1, k2, _, _⟩
    · exact Or.inl ⟨q, rfl⟩
    · refine Or.inr ⟨k, k1, k2, fun _ => rfl, fun z => ?_⟩
      have e : tv L0 k (jN 0) 256 = tv L k (jN 0) 256 := by unfold tv; rw [i12 3 k (by simp), i12 5 k (by simp)]
      rw [i12 4 k (by simp)] at z
      have := (tv_int (p := 256) (P := 256) (n := 0) h3 k1 z (by omega) (by decide) (by omega)).1
      rw [e, this, lg_0, Nat.mul_zero, Nat.zero_div]
      decide
  · obtain ⟨⟨s1, s2, s3, s4, s5⟩, s6, s7⟩ := h3
    refine ⟨⟨s1, ?_, s3, by rw [i1 2 3 (by simp)]; exact s4, by rw [j1 34 9 (by simp)]; exact s5⟩, fun a ha => ?_, fun a ha => ?_⟩
    · rcases s2 with q | q
      · exact Or.inl q
      · exact Or.inr (fun a ha => by rw [i12 4 a (by simp)]; exact q a ha)
    · have := s6 a ha
      unfold sk at this ⊢
      obtain ⟨y1, y2⟩ := j11 a ha
      rw [y1, i12 4 a (by simp), i12 3 a (by simp)]
      rcases this with z | z
      · exact Or.inl z
      · obtain ⟨y3, y4⟩ := y2 (by rw [z.1]; decide)
        rw [y3, y4]
        exact Or.inr z
    · rw [i12 5 a (by simp), i12 4 a (by simp)]; exact s7 a ha
  · exact CB_ext h4 (fun j q1 q2 => i1 1 j (by omega)) (fun j q1 q2 => j1 34 j (by omega))
  · intro j hj
    rw [i1 8 j (by simp), j1 41 j (by simp)]; exact h5 j hj
  · refine ⟨by rw [i1 0 7 (by simp)]; exact h7.1, by rw [j1 34 22 (by simp)]; exact h7.2.1, h7.2.2.1, fun c hc => ?_⟩
    obtain ⟨p1, p2, p3, p4, p5⟩ := i13 c hc
    obtain ⟨q1, q2, q3, q4⟩ := j12 c hc
    exact ⟨by rw [p1, j1 47 c (by simp)]; exact (h7.2.2.2 c hc).1, by rw [p2, q1], by rw [p3, q2], by rw [p5, q4], Or.inl p5, Or.inl p2, by rw [p4, p5, if_pos rfl, q2]⟩
  · refine ⟨by rw [i1 0 6 (by simp)]; exact h8.1, by rw [j1 34 16 (by simp)]; exact h8.2.1, h8.2.2.1, fun w hw => ?_⟩
    obtain ⟨⟨a, ha, x0, y0⟩, x1, x2⟩ := h8.2.2.2 w hw
    obtain ⟨p1, p2, p3⟩ := i14 w hw
    obtain ⟨q1, q2, q3, q4, q5, q6⟩ := j13 w hw
    refine ⟨⟨a, ha, by rw [p1]; exact x0, by rw [j1 43 w (by simp)]; exact y0⟩, by rw [p2, q2], ?_⟩
    rcases x2 with ⟨z, x2⟩ | ⟨z, x2⟩ | ⟨z, x2⟩
    · left
      refine ⟨z, ?_⟩
      rw [z] at p3
      obtain ⟨_, p3, p4⟩ : _ := p3.resolve_right (fun q => by rcases q with q | q; exact s41 q.1.symm; exact s48 q.1.symm)
      obtain ⟨y1, a', b', y2, y3, y4, y5, y6⟩ := x2
      exact ⟨by rw [j1 42 w (by simp)]; exact y1, 0, b', ⟨by omega, y2.2⟩, by rw [p3]; exact y3, by rw [j1 45 w (by simp)]; exact y4, by rw [p4]; rfl, by rw [q4 y1]; rfl⟩
    · right; left
      refine ⟨z, ?_⟩
      rw [z] at p3
      have p3' := p3.resolve_left (fun q => s41 q.1)
      obtain ⟨_, ⟨r2, r3, r4, r5⟩, ⟨r6, r7, r8, r9⟩, ⟨r10, r11, r12⟩, r13⟩ : _ := p3'.resolve_right (fun q => s18 q.1.symm)
      obtain ⟨y1, ⟨y2, y2'⟩, y3, y4, y5, y6, y7, y8⟩ := x2
      obtain ⟨t4, t5, t6⟩ := q5 y1
      obtain ⟨u0, u1, u2⟩ := t5 _ _ _ y8
      obtain ⟨D, M, Y, hD, v1, v2, v3, v4⟩ := id y8
      have wd : I0 (pw w) 9 = irem (J 46 w) 7 := by
        have e := wkd_ok hD
        rw [v1, v2, v3, e] at r9
        rw [v4]
        exact (Option.some.inj r9).symm
      have big := dN_big hD
      refine ⟨by rw [j1 42 w (by simp)]; exact y1, ⟨by rw [r2, j1 44 w (by simp)]; exact y2, by rw [j1 44 w (by simp)]; exact y2'⟩, ⟨by rw [r6, u0], by rw [r7, u1], by rw [r8, u2], by rw [wd, t6]⟩, ⟨M, Y, dN D M Y % 7, hD.2.1, hD.1, by omega, by rw [r7]; exact v2, by rw [r8]; exact v3, ?_⟩, by rw [t4, r10, r11, r12]; exact y8, by rw [r13, q1], fun _ _ => ⟨by rw [r6, r10], by rw [r7, r11], by rw [r8, r12]⟩, by rw [j1 46 w (by simp), r3, r4, r5]; exact y8⟩
      rw [wd, v4]
      exact jN_rem (b := 7) (by omega) (by decide)
    · right; right
      refine ⟨z, ?_⟩
      rw [z] at p3
      obtain ⟨_, r2, r3, r5, r6, r7⟩ : _ := (p3.resolve_left (fun q => s48 q.1)).resolve_left (fun q => s18 q.1)
      obtain ⟨y1, y2, y3, y4, _, _⟩ := x2
      obtain ⟨t1, t2, t3⟩ := q6 y1
      exact ⟨by rw [j1 42 w (by simp)]; exact y1, by rw [r2, j1 44 w (by simp)]; exact y2, by rw [r2]; exact y3, Or.inl r7, ⟨by rw [r5, t1], by rw [r6, t2], by rw [r7, t3]⟩, 12, 1, by omega, by omega, by rw [r5]; rfl, by rw [r6]; rfl⟩
  · obtain ⟨k, _, _, _, z3, z4, _⟩ := h9
    exact ⟨0, by omega, i10', j9, by rw [i1 13 0 (by simp)]; exact z3, by rw [i1 13 1 (by simp)]; exact z4, fun j hj => by omega⟩
theorem wS_ext {p : Nat} {I1 I2 : Nat → Nat → Int32} (h : wS S p I I1) (e : ∀ j, I2 p j = I1 p j) : wS S p I I2 := by
  unfold wS at h ⊢
  simp only [e]
  exact h
theorem wS_one {p : Nat} {I1 : Nat → Nat → Int32} (e : ∀ j, I1 p j = I p j) (hd : S[p]? = some (.inl 4) ∨ (S[p]? = some (.inl 1) ∧ ∃ x, f_Ca_weekDayOf (I p 3) (I p 4) (I p 5) = some x) ∨ S[p]? = some (.inl 8)) : ∃ I2, ((S[p]? = some (.inl 4) ∧ f_Di_restart p (uI I1 p 1 0) L = some (I2, L)) ∨ (S[p]? = some (.inl 1) ∧ f_Ca_restart p (uI I1 p 1 0) L = some (I2, L)) ∨ (S[p]? = some (.inl 8) ∧ f_St_restart p (uI I1 p 1 0) L = some (I2, L))) ∧ wS S p I I2 ∧ ∀ a j, a ≠ p → I2 a j = I1 a j := by
  rcases hd with h | ⟨h, x, hx⟩ | h
  · exact ⟨uI (uI I1 p 1 0) p 3 0, Or.inl ⟨h, rfl⟩, ⟨by simp [uI, e], by simp [uI], Or.inl ⟨h, by simp [uI, e], by simp [uI]⟩⟩, fun a j ha => by simp [uI, ha]⟩
  · refine ⟨uI (uI (uI (uI (uI (uI (uI (uI (uI I1 p 1 0) p 6 (I p 3)) p 7 (I p 4)) p 8 (I p 5)) p 9 x) p 10 (I p 3)) p 11 (I p 4)) p 12 (I p 5)) p 13 0, Or.inr (Or.inl ⟨h, ?_⟩), ⟨by simp [uI, e], by simp [uI], Or.inr (Or.inl ⟨h, ⟨by simp [uI, e], by simp [uI, e], by simp [uI, e], by simp [uI, e]⟩, ⟨by simp [uI], by simp [uI], by simp [uI], by simp [uI, hx]⟩, ⟨by simp [uI], by simp [uI], by simp [uI]⟩, by simp [uI]⟩)⟩, fun a j ha => by simp [uI, ha]⟩
    have u1 : (uI I1 p 1 0) p 3 = I p 3 := by simp [uI, e]
    have u2 : (uI (uI I1 p 1 0) p 6 (I p 3)) p 4 = I p 4 := by simp [uI, e]
    have u3 : (uI (uI (uI I1 p 1 0) p 6 (I p 3)) p 7 (I p 4)) p 5 = I p 5 := by simp [uI, e]
    have u4 : (uI (uI (uI (uI I1 p 1 0) p 6 (I p 3)) p 7 (I p 4)) p 8 (I p 5)) p 6 = I p 3 := by simp [uI]
    have u5 : (uI (uI (uI (uI I1 p 1 0) p 6 (I p 3)) p 7 (I p 4)) p 8 (I p 5)) p 7 = I p 4 := by simp [uI]
    have u6 : (uI (uI (uI (uI I1 p 1 0) p 6 (I p 3)) p 7 (I p 4)) p 8 (I p 5)) p 8 = I p 5 := by simp [uI]
    rw [f_Ca_restart]
    simp only [bnd]
    rw [u1, u2, u3, u4, u5, u6, hx, Option.bind_some]
    simp [uI]
  · exact ⟨uI (uI (uI (uI I1 p 1 0) p 5 12) p 6 1) p 7 0, Or.inr (Or.inr ⟨h, rfl⟩), ⟨by simp [uI, e], by simp [uI], Or.inr (Or.inr ⟨h, by simp [uI, e], by simp [uI, e], by simp [uI], by simp [uI], by simp [uI]⟩)⟩, fun a j ha => by simp [uI, ha]⟩
/-- the works can begin anew -/
def wOK (S : List xSh) (nw : Nat) (pw : Nat → Nat) (I : Nat → Nat → Int32) : Prop := ∀ w, w < nw → S[pw w]? = some (.inl 4) ∨ (S[pw w]? = some (.inl 1) ∧ ∃ x, f_Ca_weekDayOf (I (pw w) 3) (I (pw w) 4) (I (pw w) 5) = some x) ∨ S[pw w]? = some (.inl 8)
theorem rs17 (ho : OBJ S Rf nc nw pc pw) (h8 : nw ≤ 8) (hd : wOK S nw pw I) : ∀ (m w : Nat) (I1 : Nat → Nat → Int32), w + m = nw → I1 0 6 = jN nw → (∀ v, w ≤ v → v < nw → ∀ j, I1 (pw v) j = I (pw v) j) → (∀ v, v < w → wS S (pw v) I I1) → ∃ I2, (∀ N, m < N → f_H_restartMovement_L17 S Rf N (jN w) I1 L = f_H_restartMovement_L47 S Rf xF 0 I2 L) ∧ (∀ v, v < nw → wS S (pw v) I I2) ∧ ∀ a j, (∀ v, v < nw → a ≠ pw v) → I2 a j = I1 a j := by
  intro m
  induction m with
  | zero =>
    intro w I1 h1 h2 h3 h4
    have e : w = nw := by omega
    subst e
    refine ⟨I1, fun N hN => ?_, h4, fun _ _ _ => rfl⟩
    obtain ⟨N, rfl⟩ : ∃ k, N = k + 1 := ⟨N - 1, by omega⟩
    rw [f_H_restartMovement_L17, h2, if_pos (Int32.le_refl _)]
  | succ m ih =>
    intro w I1 h1 h2 h3 h4
    have hw : w < nw := by omega
    obtain ⟨o1, p75, o3⟩ := ho.2.1 w hw
    obtain ⟨I2, a1, a2, a3⟩ := wS_one (L := L) (h3 w (Nat.le_refl _) hw) (hd w hw)
    have ne : ∀ v, v < nw → v ≠ w → pw v ≠ pw w := fun v hv hn q => hn (ho.2.2.2 v w hv hw q)
    obtain ⟨I3, b1, b2, b3⟩ := ih (w + 1) I2 (by omega) (by rw [a3 0 6 (by omega)]; exact h2) (fun v q1 q2 j => by rw [a3 _ j (ne v q2 (by omega))]; exact h3 v (by omega) q2 j) (fun v hv => by
      by_cases e : v = w
      · subst e; exact a2
      · exact wS_ext (h4 v (by omega)) (fun j => a3 _ j (ne v (by omega) e)))
    refine ⟨I3, fun N hN => ?_, b2, fun a j ha => by rw [b3 a j ha, a3 a j (ha w hw)]⟩
    obtain ⟨N, rfl⟩ : ∃ k, N = k + 1 := ⟨N - 1, by omega⟩
    have c1 : ¬ jN nw ≤ jN w := fun q => by have := (jN_le (by omega) (by omega)).mp q; omega
    have c2 : 0 ≤ jN w ∧ jN w < 8 := jN_in (n := 8) (by omega) (by decide)
    have at' : f_H_workAt S Rf (jN w) I1 L = some (some (pw w)) := by
      rw [f_H_workAt, h2]
      simp only [bnd]
      rw [if_neg (win_y (by omega) hw), if_pos c2, jN_tc (by omega), o1]
      rfl
    rw [f_H_restartMovement_L17, h2, if_neg c1, at', Option.bind_some, jN_1]
    simp only [oc]
    rcases a1 with ⟨q, a1⟩ | ⟨q, a1⟩ | ⟨q, a1⟩
    · rw [q, if_pos rfl, f_H_renew_D, a1, Option.bind_some, Option.bind_some]
      exact b1 N (by omega)
    · rw [q, if_neg s41, if_pos rfl, f_H_renew_C, a1, Option.bind_some, Option.bind_some]
      exact b1 N (by omega)
    · rw [q, if_neg s48, if_neg s18, if_pos rfl, f_H_renew_S, a1, Option.bind_some, Option.bind_some]
      exact b1 N (by omega)
theorem rs52 (ho : OBJ S Rf nc nw pc pw) (h8 : nc ≤ 4) : ∀ (m c : Nat) (I1 : Nat → Nat → Int32), c + m = nc → I1 0 7 = jN nc → (∀ v, c ≤ v → v < nc → ∀ j, I1 (pc v) j = I (pc v) j) → (∀ v, v < c → cS (pc v) I I1) → ∃ I2, (∀ N, m < N → f_H_restartMovement_L47 S Rf N (jN c) I1 L = some (I2, L)) ∧ (∀ v, v < nc → cS (pc v) I I2) ∧ ∀ a j, (∀ v, v < nc → a ≠ pc v) → I2 a j = I1 a j := by
  intro m
  induction m with
  | zero =>
    intro w I1 h1 h2 h3 h4
    have e : w = nc := by omega
    subst e
    refine ⟨I1, fun N hN => ?_, h4, fun _ _ _ => rfl⟩
    obtain ⟨N, rfl⟩ : ∃ k, N = k + 1 := ⟨N - 1, by omega⟩
    rw [f_H_restartMovement_L47, h2, if_pos (Int32.le_refl _)]
  | succ m ih =>
    intro w I1 h1 h2 h3 h4
    have hw : w < nc := by omega
    obtain ⟨o1, o2, p75⟩ := ho.1 w hw
    have ne : ∀ v, v < nc → v ≠ w → pc v ≠ pc w := fun v hv hn q => hn (ho.2.2.1 v w hv hw q)
    have r : f_Cr_restart (pc w) I1 L = some (uI (uI (uI (uI I1 (pc w) 1 0) (pc w) 4 0) (pc w) 2 0) (pc w) 3 0, L) := by
      have z : (uI (uI (uI I1 (pc w) 1 0) (pc w) 4 0) (pc w) 2 0) (pc w) 4 = 0 := by simp [uI]
      rw [f_Cr_restart, f_Cr_setCount, if_pos z, Option.bind_some]
    obtain ⟨I3, b1, b2, b3⟩ := ih (w + 1) (uI (uI (uI (uI I1 (pc w) 1 0) (pc w) 4 0) (pc w) 2 0) (pc w) 3 0) (by omega) (by
      have : pc w ≠ 0 := by omega
      simp [uI, this.symm, h2]) (fun v q1 q2 j => by
      have := ne v q2 (by omega)
      simp [uI, this]; exact h3 v (by omega) q2 j) (fun v hv => by
      by_cases e : v = w
      · subst e
        have := h3 v (Nat.le_refl _) hw 0
        exact ⟨by simp [uI, this], by simp [uI], by simp [uI], by simp [uI], by simp [uI]⟩
      · have n := ne v (by omega) e
        have := h4 v (by omega)
        unfold cS at this ⊢
        simp [uI, n]
        exact this)
    refine ⟨I3, fun N hN => ?_, b2, fun a j ha => by rw [b3 a j ha]; simp [uI, ha w hw]⟩
    obtain ⟨N, rfl⟩ : ∃ k, N = k + 1 := ⟨N - 1, by omega⟩
    have c1 : ¬ jN nc ≤ jN w := fun q => by have := (jN_le (by omega) (by omega)).mp q; omega
    have c2 : 0 ≤ jN w ∧ jN w < 4 := jN_in (n := 4) (by omega) (by decide)
    have at' : f_H_chronographAt S Rf (jN w) I1 L = some (some (pc w)) := by
      rw [f_H_chronographAt, h2]
      simp only [bnd]
      rw [if_neg (win_y (by omega) hw), if_pos c2, jN_tc (by omega), o1]
      simp only [oc]
      rw [if_pos o2]
    rw [f_H_restartMovement_L47, h2, if_neg c1, at', Option.bind_some, jN_1]
    simp only [oc]
    rw [if_pos o2, r, Option.bind_some]
    exact b1 N (by omega)
theorem rst_ok (ho : OBJ S Rf nc nw pc pw) (hw : I 0 6 = jN nw ∧ nw ≤ 8) (hc : I 0 7 = jN nc ∧ nc ≤ 4) (hd : wOK S nw pw I) : ∃ I', f_H_restartMovement S Rf I L = some (I', uL L 1 7 0) ∧ STI S nc nw pc pw I I' L (uL L 1 7 0) ∧ ∀ a j, a < 75 → ¬ (a = 1 ∧ 8 ≤ j ∧ j ≤ 14) → ¬ (a = 9 ∧ j = 3) → ¬ (a = 13 ∧ j = 3) → I' a j = I a j := by
  have w75 : ∀ v, v < nw → 75 ≤ pw v := fun v hv => (ho.2.1 v hv).2.1
  have c75 : ∀ v, v < nc → 75 ≤ pc v := fun v hv => (ho.1 v hv).2.2
  obtain ⟨I1, hI1⟩ : ∃ I1, I1 = uI (uI (uI (uI (uI (uI (uI (uI (uI I 1 8 0) 1 9 0) 1 10 (-1)) 1 11 0) 1 12 0) 1 13 0) 1 14 0) 9 3 0) 13 3 0 := ⟨_, rfl⟩
  have f1 : ∀ a j, ¬ (a = 1 ∧ 8 ≤ j ∧ j ≤ 14) → ¬ (a = 9 ∧ j = 3) → ¬ (a = 13 ∧ j = 3) → I1 a j = I a j := fun a j q1 q2 q3 => by
    rw [hI1]
    simp only [uI]
    rw [if_neg q3, if_neg q2]
    (repeat rw [if_neg (fun q => q1 ⟨q.1, by omega⟩)])
  have z : I1 1 8 = 0 ∧ I1 1 9 = 0 ∧ I1 1 10 = -1 ∧ I1 1 11 = 0 ∧ I1 1 12 = 0 ∧ I1 1 13 = 0 ∧ I1 1 14 = 0 ∧ I1 9 3 = 0 ∧ I1 13 3 = 0 := by
    rw [hI1]
    exact ⟨by simp [uI], by simp [uI], by simp [uI], by simp [uI], by simp [uI], by simp [uI], by simp [uI], by simp [uI], by simp [uI]⟩
  have hh : f_H_restartMovement S Rf I L = f_H_restartMovement_L17 S Rf xF (jN 0) I1 (uL L 1 7 0) := by
    rw [show (jN 0 : Int32) = 0 from rfl, f_H_restartMovement, f_Es_restart, Option.bind_some, hI1]
  obtain ⟨I2, a1, a2, a3⟩ := rs17 (L := uL L 1 7 0) ho hw.2 hd nw 0 I1 (by omega) (by rw [f1 0 6 (by omega) (by omega) (by omega)]; exact hw.1) (fun v _ hv j => f1 _ j (by have := w75 v hv; omega) (by have := w75 v hv; omega) (by have := w75 v hv; omega)) (fun v hv => by omega)
  have f2 : ∀ a j, a < 75 → I2 a j = I1 a j := fun a j ha => a3 a j (fun v hv q => by have := w75 v hv; omega)
  obtain ⟨I3, b1, b2, b3⟩ := rs52 (I := I) (L := uL L 1 7 0) ho hc.2 nc 0 I2 (by omega) (by rw [f2 0 7 (by omega), f1 0 7 (by omega) (by omega) (by omega)]; exact hc.1) (fun v _ hv j => by
    rw [a3 _ j (fun w hw' q => obj_ne ho hv hw' q)]
    exact f1 _ j (by have := c75 v hv; omega) (by have := c75 v hv; omega) (by have := c75 v hv; omega)) (fun v hv => by omega)
  have f3 : ∀ a j, a < 75 → I3 a j = I1 a j := fun a j ha => by
    rw [b3 a j (fun v hv q => by have := c75 v hv; omega)]
    exact f2 a j ha
  refine ⟨I3, ?_, ⟨fun a j q => ?_, ?_, by simp [uL], fun a j q => ?_, b2, fun w hw' => wS_ext (a2 w hw') (fun j => b3 _ j (fun v hv q => obj_ne ho hv hw' q.symm))⟩, fun a j q1 q2 q3 q4 => by rw [f3 a j q1]; exact f1 a j q2 q3 q4⟩
  · rw [hh, a1 xF (xF_lt (by omega))]
    exact b1 xF (xF_lt (by omega))
  · rw [f3 a j (by omega)]
    exact f1 a j (by omega) (by omega) (by omega)
  · rw [f3 1 8 (by omega), f3 1 9 (by omega), f3 1 10 (by omega), f3 1 11 (by omega), f3 1 12 (by omega), f3 1 13 (by omega), f3 1 14 (by omega), f3 9 3 (by omega), f3 13 3 (by omega)]
    exact z
  · have : a ≠ 1 := by omega
    simp [uL, this]
end RST

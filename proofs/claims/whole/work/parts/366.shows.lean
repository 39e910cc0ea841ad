/-! questions: hand, shows -/
section SHW
variable {S : List xSh} {Rf : Nat → Nat → Option Nat} {I J : Nat → Nat → Int32} {L K : Nat → Nat → Int64} {k : Nat}
theorem op_hand {a0 a1 : Int32} (h : MOV k S Rf I J L K) : ∃ v, f_H_hand S Rf a0 a1 I L = some v ∧ f_Md_hand a0 a1 J K = some v := by
  obtain ⟨h1, h2, ⟨h3, h4⟩, A, A0, T, nl, nc, nw, pc, pw, r, n, s, g1, g2, g3, g4, g5⟩ := id h
  have ho := g2.2.2.2.2.1
  have hk := g2.2.2.2.2.2.1
  have h4' := hk.2.2.1
  have e : f_Md_within a1.toInt64 0 3 = f_H_isWithin a1 0 3 := w_eq rfl rfl
  by_cases hc : ∃ c, c < nc ∧ a0 = jN c
  · obtain ⟨c, hc, rfl⟩ := hc
    have ec : f_Md_within (jN c).toInt64 0 (jN nc - 1).toInt64 = f_H_isWithin (jN c) 0 (jN nc - 1) := w_eq rfl rfl
    have y := win_y (c := c) (n := nc) (by omega) hc
    have c2 : 0 ≤ jN c ∧ jN c < 4 := jN_in (n := 4) (by omega) (by decide)
    obtain ⟨r0, r1, r2, r3, r4, r5, r6⟩ := hk.2.2.2 c hc
    have hd : f_H_hand S Rf (jN c) a1 I L = (if a1 = (0 : Int32) then (some (I (pc c) 1)) else (if a1 = (1 : Int32) then (some (I (pc c) 2)) else (if a1 = (2 : Int32) then (some (I (pc c) 3)) else (if a1 = (3 : Int32) then (if (I (pc c) 4) = (0 : Int32) then (some (0 : Int32)) else (some (1 : Int32))) else (some (-1 : Int32)))))) := by
      rw [f_H_hand, cAt ho hk hc, Option.bind_some]
      simp only [oc]
      rw [if_pos (ho.1 c hc).2.1]
    have hm : f_Md_hand (jN c) a1 J K = (if f_H_isWithin a1 0 3 = 0 then some (-1) else (if a1 = (0 : Int32) then some (J 49 c) else (if a1 = (1 : Int32) then some (J 50 c) else (if a1 = (2 : Int32) then (if J 52 c = (0 : Int32) then some (J 50 c) else some (J 51 c)) else (if J 52 c = (0 : Int32) then (some (0 : Int32)) else (some (1 : Int32))))))) := by
      rw [f_Md_hand, hk.2.1, ec, e]
      simp only [bnd, if_pos c2, jN_tc (show c < 2147483648 by omega)]
      rw [if_neg y]
    rw [hd, hm]
    by_cases w : f_H_isWithin a1 0 3 = 0
    · have n0 : ¬ a1 = 0 := fun q => by rw [q] at w; exact absurd w (by decide)
      have n1 : ¬ a1 = 1 := fun q => by rw [q] at w; exact absurd w (by decide)
      have n2 : ¬ a1 = 2 := fun q => by rw [q] at w; exact absurd w (by decide)
      have n3 : ¬ a1 = 3 := fun q => by rw [q] at w; exact absurd w (by decide)
      rw [if_pos w, if_neg n0, if_neg n1, if_neg n2, if_neg n3]
      exact ⟨_, rfl, rfl⟩
    · rw [if_neg w]
      by_cases z0 : a1 = 0
      · rw [if_pos z0, if_pos z0, r1]; exact ⟨_, rfl, rfl⟩
      rw [if_neg z0, if_neg z0]
      by_cases z1 : a1 = 1
      · rw [if_pos z1, if_pos z1, r2]; exact ⟨_, rfl, rfl⟩
      rw [if_neg z1, if_neg z1]
      by_cases z2 : a1 = 2
      · rw [if_pos z2, if_pos z2, ← r3, r6]
        by_cases q : I (pc c) 4 = 0
        · rw [if_pos q, if_pos q]; exact ⟨_, rfl, rfl⟩
        · rw [if_neg q, if_neg q]; exact ⟨_, rfl, rfl⟩
      rw [if_neg z2, if_neg z2]
      have z3 : a1 = 3 := by
        obtain ⟨w1, w2⟩ := wi_ne.mp w
        obtain ⟨m, hm, rfl⟩ := jN_ex (n := 3) w1 w2 (by decide)
        have : m = 0 ∨ m = 1 ∨ m = 2 ∨ m = 3 := by omega
        rcases this with rfl | rfl | rfl | rfl
        · exact absurd rfl z0
        · exact absurd rfl z1
        · exact absurd rfl z2
        · rfl
      rw [if_pos z3, r3]
      by_cases q : J 52 c = 0
      · rw [if_pos q]; exact ⟨_, rfl, rfl⟩
      · rw [if_neg q]; exact ⟨_, rfl, rfl⟩
  · obtain ⟨p1, p2⟩ := cAt_no (S := S) (Rf := Rf) (L := L) hk hc
    refine ⟨-1, ?_, ?_⟩
    · rw [f_H_hand, p1, Option.bind_some]; rfl
    · rw [f_Md_hand, p2]
      simp only [bnd]
      rw [if_pos trivial]
theorem op_shows {a0 a1 : Int32} (h : MOV k S Rf I J L K) : QRS (k + 1) S Rf I L (f_H_shows S Rf a0 a1 I L) (f_Md_shows a0 a1 J K) := by
  obtain ⟨h1, h2, ⟨h3, h4⟩, A, A0, T, nl, nc, nw, pc, pw, r, n, s, g1, g2, g3, g4, g5⟩ := id h
  have ho := g2.2.2.2.2.1
  have hk := g2.2.2.2.2.2.2.1
  have h8 := hk.2.2.1
  by_cases hw : ∃ w, w < nw ∧ a0 = jN w
  · obtain ⟨w, hw, rfl⟩ := hw
    obtain ⟨t1, t2⟩ := wAt (L := L) (K := K) ho hk hw
    obtain ⟨⟨a, ha, i0, j0⟩, i6, wr⟩ := hk.2.2.2 w hw
    have w8 : w < 8 := by omega
    have c2 : 0 ≤ jN w ∧ jN w < 8 := jN_in (n := 8) (by omega) (by decide)
    have e0 : (10 : Int32) * jN w = jN (10 * w) := x10 w
    have e4 : jN (10 * w) + 4 = jN (10 * w + 4) := i10 w 4
    have e5 : jN (10 * w) + 5 = jN (10 * w + 5) := i10 w 5
    have e6 : jN (10 * w) + 6 = jN (10 * w + 6) := i10 w 6
    have q0 : 0 ≤ jN (10 * w) ∧ jN (10 * w) < 80 := r80 (i := 0) w8 (by decide)
    have t0 : (jN (10 * w)).toNatClampNeg = 10 * w := t80 (i := 0) w8 (by decide)
    have q4 : 0 ≤ jN (10 * w + 4) ∧ jN (10 * w + 4) < 80 := r80 w8 (by decide)
    have q5 : 0 ≤ jN (10 * w + 5) ∧ jN (10 * w + 5) < 80 := r80 w8 (by decide)
    have q6 : 0 ≤ jN (10 * w + 6) ∧ jN (10 * w + 6) < 80 := r80 w8 (by decide)
    have ew2 : f_Md_within a1.toInt64 0 2 = f_H_isWithin a1 0 2 := w_eq rfl rfl
    have ew3 : f_Md_within a1.toInt64 0 3 = f_H_isWithin a1 0 3 := w_eq rfl rfl
    have hC : f_H_shows S Rf (jN w) a1 I L = (if a1 = (8 : Int32) then (if S[pw w]? = some (.inl 4) then (f_H_shows_L39 S Rf a1 (pw w) I L) else (if S[pw w]? = some (.inl 1) then ((f_H_isBarred_C (pw w) I L).bind fun q9 => (if q9 = (0 : Int32) then (some (0 : Int32)) else (some (1 : Int32)))) else (if S[pw w]? = some (.inl 8) then (f_H_shows_L39_2 S Rf a1 (pw w) I L) else none))) else (if S[pw w]? = some (.inl 4) then (f_H_shows_L39 S Rf a1 (pw w) I L) else (if S[pw w]? = some (.inl 1) then (f_H_shows_L39_3 S Rf a1 (pw w) I L) else (if S[pw w]? = some (.inl 8) then (f_H_shows_L39_2 S Rf a1 (pw w) I L) else none)))) := by
      rw [f_H_shows, t1, Option.bind_some]
      rfl
    have hM : f_Md_shows (jN w) a1 J K = (if a1 = (9 : Int32) then some (J 48 (10 * w + 6), J, K) else (if J 42 w = (0 : Int32) then (if a1 = (0 : Int32) then some (J 48 (10 * w), J, K) else (some ((-1 : Int32), J, K))) else (if J 42 w = (2 : Int32) then (if f_H_isWithin a1 0 2 = (0 : Int32) then (some ((-1 : Int32), J, K)) else (if (0 ≤ (jN (10 * w) + a1) ∧ (jN (10 * w) + a1) < (80 : Int32)) then (some ((J 48 ((jN (10 * w) + a1).toNatClampNeg)), J, K)) else none)) else (if f_H_isWithin a1 0 3 = (0 : Int32) then ((f_Md_splitDay (J 48 (10 * w + 4)) J K).bind fun q19 => ((f_Md_speeds q19.1 q19.2).bind fun q21 => (if a1 = (4 : Int32) then (some ((q21.1 34 45), q21.1, q21.2)) else (if a1 = (5 : Int32) then (some ((q21.1 34 46), q21.1, q21.2)) else (if a1 = (6 : Int32) then (some ((q21.1 34 47), q21.1, q21.2)) else (if a1 = (7 : Int32) then (some ((q21.1 48 (10 * w + 5)), q21.1, q21.2)) else (if a1 = (8 : Int32) then ((f_Md_isBarred (jN w) q21.1 q21.2).bind fun q29 => (if q29 = (0 : Int32) then (some ((0 : Int32), q21.1, q21.2)) else (some ((1 : Int32), q21.1, q21.2)))) else (some ((-1 : Int32), q21.1, q21.2))))))))) else (if (0 ≤ (jN (10 * w) + a1) ∧ (jN (10 * w) + a1) < (80 : Int32)) then (some ((J 48 ((jN (10 * w) + a1).toNatClampNeg)), J, K)) else none))))) := by
      rw [f_Md_shows, t2, Option.bind_some, if_neg (show ¬ (1 : Int32) = 0 by decide), e0]
      simp only [bnd, if_pos c2, jN_tc (show w < 2147483648 by omega), e4, e5, e6, if_pos q0, if_pos q4, if_pos q5, if_pos q6, t0, t80 w8 (show 4 < 10 by decide), t80 w8 (show 5 < 10 by decide), t80 w8 (show 6 < 10 by decide), ew2, ew3]
    rw [hC, hM]
    have n89 : ¬ (9 : Int32) = 8 := by decide
    have n98 : ¬ (8 : Int32) = 9 := by decide
    by_cases z9 : a1 = 9
    · subst z9
      rw [if_neg n89, if_pos rfl, f_H_shows_L39, f_H_shows_L39_2, f_H_shows_L39_3, if_pos rfl, if_pos rfl, if_pos rfl]
      rcases wr with ⟨z, _⟩ | ⟨z, _⟩ | ⟨z, _⟩
      · rw [if_pos z]; exact QRS.nop h rfl (by rw [i6])
      · rw [z, if_neg s41, if_pos rfl]; exact QRS.nop h rfl (by rw [i6])
      · rw [z, if_neg s48, if_neg s18, if_pos rfl]; exact QRS.nop h rfl (by rw [i6])
    rw [if_neg z9]
    have at' : ∀ c, c < 4 → (0 ≤ (jN (10 * w) + jN c) ∧ (jN (10 * w) + jN c) < (80 : Int32)) ∧ (jN (10 * w) + jN c).toNatClampNeg = 10 * w + c := fun c hc => by
      rw [i10]; exact ⟨r80 w8 (by omega), t80 w8 (by omega)⟩
    rcases wr with ⟨z, y⟩ | ⟨z, y⟩ | ⟨z, y⟩
    · obtain ⟨y1, a', b', _, _, _, y5, y6⟩ := y
      rw [if_pos z, if_pos z, ite_self, f_H_shows_L39, if_neg z9, f_Di_shown, y1, if_pos rfl]
      by_cases z0 : a1 = 0
      · rw [if_pos z0, if_pos z0]; exact QRS.nop h rfl (by rw [y5, y6])
      · rw [if_neg z0, if_neg z0]; exact QRS.nop h rfl rfl
    · obtain ⟨y1, y2, ⟨y3, y4, y5, y6⟩, _, y7, y8, _, _⟩ := id y
      rw [z, if_neg s41, if_neg s41, if_pos rfl, if_pos rfl, y1, if_neg (show ¬ (1 : Int32) = 0 by decide), if_neg (show ¬ (1 : Int32) = 2 by decide), f_H_shows_L39_3, if_neg z9]
      by_cases w3 : f_H_isWithin a1 0 3 = 0
      · have n0 : ¬ a1 = 0 := fun q => by rw [q] at w3; exact absurd w3 (by decide)
        have n1 : ¬ a1 = 1 := fun q => by rw [q] at w3; exact absurd w3 (by decide)
        have n2 : ¬ a1 = 2 := fun q => by rw [q] at w3; exact absurd w3 (by decide)
        have n3 : ¬ a1 = 3 := fun q => by rw [q] at w3; exact absurd w3 (by decide)
        obtain ⟨J1, u1, u2, u3, u4, u5⟩ := split_ok y7 J K
        have f1 : ∀ a j, ¬ (a = 34 ∧ (j = 45 ∨ j = 46 ∨ j = 47)) → J1 a j = J a j := fun a j q => u5 a j (fun z => by omega)
        have g1' : GRS A A0 T nl I J1 L := GRS_ext g1 (fun _ _ _ => rfl) (fun j q => f1 34 j (by omega)) (fun a j q1 q2 => f1 a j (by omega)) (fun _ _ _ => rfl)
        obtain ⟨J2, K2, K3, b1, b2, b3, b4, b5, b6⟩ := sp_call (K := K) g1'
        have m1 : MOV (k + 1) S Rf I J2 L K2 := MOV_q h g1 g2 g3 g4 g5 b3 (fun a j q1 q2 => by rw [b4 a j q1]; exact f1 a j q2) (b5 34 32 (by decide) (by decide) (by decide) (by decide))
        rw [if_pos w3, u1, Option.bind_some]
        simp only []
        rw [b1, Option.bind_some]
        simp only []
        rw [f_Ca_shown, if_neg n0, if_neg n1, if_neg n2, if_neg n3, b4 34 45 (by decide), b4 34 46 (by decide), b4 34 47 (by decide), b4 48 _ (by decide), u2, u3, u4, f1 48 _ (by omega)]
        by_cases z4 : a1 = 4
        · subst z4; rw [if_neg (show ¬ (4 : Int32) = 8 by decide), if_pos rfl, if_pos rfl]; exact ⟨_, J2, K2, rfl, rfl, m1⟩
        rw [if_neg z4, if_neg z4]
        by_cases z5 : a1 = 5
        · subst z5; rw [if_neg (show ¬ (5 : Int32) = 8 by decide), if_pos rfl, if_pos rfl]; exact ⟨_, J2, K2, rfl, rfl, m1⟩
        rw [if_neg z5, if_neg z5]
        by_cases z6 : a1 = 6
        · subst z6; rw [if_neg (show ¬ (6 : Int32) = 8 by decide), if_pos rfl, if_pos rfl]; exact ⟨_, J2, K2, rfl, rfl, m1⟩
        rw [if_neg z6, if_neg z6]
        by_cases z7 : a1 = 7
        · subst z7; rw [if_neg (show ¬ (7 : Int32) = 8 by decide), if_pos rfl, if_pos rfl, y8]; exact ⟨_, J2, K2, rfl, rfl, m1⟩
        rw [if_neg z7, if_neg z7]
        by_cases z8 : a1 = 8
        · rw [if_pos z8, if_pos z8]
          have be := br_eq (p := pw w) (w := w) (J := J2) (K := K2) w8 b3 ha (by rw [b4 42 w (by decide), f1 42 w (by omega)]; exact y1) i0 (by rw [b4 43 w (by decide), f1 43 w (by omega)]; exact j0) (by rw [b4 34 25 (by decide), f1 34 25 (by omega), g2.1.2.1.1, g2.1.2.1.2.1])
          rw [← be]
          obtain ⟨u, hu⟩ : ∃ u, f_H_isBarred_C (pw w) I L = some u := by
            have hA := b3.1.1
            have c1 : ¬ jN a < 0 := fun q => by have := (jN_lt (b := 0) (by omega) (by decide)).mp q; omega
            have c4 : ¬ (24 : Int32) ≤ jN a := fun q => by have := (jN_le (a := 24) (by decide) (by omega)).mp q; omega
            have c3 : 0 ≤ jN a ∧ jN a < 24 := jN_in (n := 24) (by omega) (by decide)
            rw [f_H_isBarred_C, i0, f_Ge_isNearTurn, if_neg c1, if_neg c4, if_pos c3, jN_tc (by omega)]
            by_cases zz : L 4 a = 0
            · rw [pd_0 b3 ha zz, if_neg (by decide)]
              exact ⟨_, rfl⟩
            · obtain ⟨p1, p2, p3, p4⟩ := pd_pos b3 ha zz
              have c5 : (0 : Int64) < L 5 a := lg_lt.mpr (by rw [lg_0]; exact p2)
              have c6 : ¬ L 5 a = 0 := fun q => by rw [q, lg_0] at p2; omega
              rw [if_pos c5, if_pos c3, if_pos c3, if_pos c6]
              simp only [bnd]
              rw [if_pos c3]
              by_cases q : lrem (Jabs (L 3 a) * (I 1 12).toInt64) (L 5 a) * 4 < L 5 a * 3
              · rw [if_pos q]; exact ⟨_, rfl⟩
              · rw [if_neg q]; exact ⟨_, rfl⟩
          rw [hu, Option.bind_some, Option.bind_some]
          by_cases q : u = 0
          · rw [if_pos q, if_pos q]; exact ⟨_, J2, K2, rfl, rfl, m1⟩
          · rw [if_neg q, if_neg q]; exact ⟨_, J2, K2, rfl, rfl, m1⟩
        · rw [if_neg z8, if_neg z8]; exact ⟨_, J2, K2, rfl, rfl, m1⟩
      · obtain ⟨w1, w2⟩ := wi_ne.mp w3
        obtain ⟨m, hm, rfl⟩ := jN_ex (n := 3) w1 w2 (by decide)
        rw [if_neg w3, if_pos (at' m (by omega)).1, (at' m (by omega)).2, f_Ca_shown]
        have : m = 0 ∨ m = 1 ∨ m = 2 ∨ m = 3 := by omega
        rcases this with rfl | rfl | rfl | rfl
        · rw [if_neg (by decide), if_pos (by decide)]; exact QRS.nop h rfl (by rw [y3]; rfl)
        · rw [if_neg (by decide), if_neg (by decide), if_pos (by decide)]; exact QRS.nop h rfl (by rw [y4])
        · rw [if_neg (by decide), if_neg (by decide), if_neg (by decide), if_pos (by decide)]; exact QRS.nop h rfl (by rw [y5])
        · rw [if_neg (by decide), if_neg (by decide), if_neg (by decide), if_neg (by decide), if_pos (by decide)]; exact QRS.nop h rfl (by rw [y6])
    · obtain ⟨y1, _, _, _, ⟨y5, y6, y7⟩, _⟩ := id y
      rw [z, if_neg s48, if_neg s18, if_pos rfl, if_neg s48, if_neg s18, ite_self, f_H_shows_L39_2, if_neg z9, y1, if_neg (show ¬ (2 : Int32) = 0 by decide), if_pos rfl, f_St_shown]
      by_cases w2 : f_H_isWithin a1 0 2 = 0
      · have n0 : ¬ a1 = 0 := fun q => by rw [q] at w2; exact absurd w2 (by decide)
        have n1 : ¬ a1 = 1 := fun q => by rw [q] at w2; exact absurd w2 (by decide)
        have n2 : ¬ a1 = 2 := fun q => by rw [q] at w2; exact absurd w2 (by decide)
        rw [if_pos w2, if_neg n0, if_neg n1, if_neg n2]
        exact QRS.nop h rfl rfl
      · rw [if_neg w2]
        rcases b3_of w2 with rfl | rfl | rfl
        · rw [if_pos rfl, Int32.add_zero, if_pos q0, t0]; exact QRS.nop h rfl (by rw [y5])
        · rw [if_neg (by decide), if_pos rfl, show (1 : Int32) = jN 1 from rfl, if_pos (at' 1 (by omega)).1, (at' 1 (by omega)).2]; exact QRS.nop h rfl (by rw [y6])
        · rw [if_neg (by decide), if_neg (by decide), if_pos rfl, show (2 : Int32) = jN 2 from rfl, if_pos (at' 2 (by omega)).1, (at' 2 (by omega)).2]; exact QRS.nop h rfl (by rw [y7])
  · obtain ⟨p1, p2⟩ := wAt_no (S := S) (Rf := Rf) (L := L) (K := K) hk hw
    exact QRS.nop (v := -1) h (by rw [f_H_shows, p1, Option.bind_some]; rfl) (by rw [f_Md_shows, p2, Option.bind_some, if_pos rfl])
end SHW

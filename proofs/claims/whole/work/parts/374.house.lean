/-! the house's own: what its acts leave -/
section HOS
variable {S : List xSh} {Rf : Nat → Nat → Option Nat} {I I' : Nat → Nat → Int32} {L L' : Nat → Nat → Int64} {k : Nat} {u v : List Nat}
def nsR (x : Nat) : Bool := decide (x ≠ 28 ∧ x ≠ 70 ∧ ¬ (3800 ≤ x ∧ x < 3900) ∧ ¬ (8000 ≤ x ∧ x < 8100))
def nsB (x : Nat) : Bool := decide (¬ (29 ≤ x ∧ x ≤ 34) ∧ ¬ (71 ≤ x ∧ x ≤ 74) ∧ ¬ (3900 ≤ x ∧ x < 4400) ∧ ¬ (8100 ≤ x ∧ x < 8500) ∧ x ≠ 4475)
def nsC (x : Nat) : Bool := decide (¬ (22 ≤ x ∧ x ≤ 26) ∧ ¬ (64 ≤ x ∧ x ≤ 67) ∧ ¬ (3200 ≤ x ∧ x < 3700) ∧ ¬ (7400 ≤ x ∧ x < 7800) ∧ x ≠ 34 ∧ x ≠ 4467)
def nsT (x : Nat) : Bool := decide (¬ (17 ≤ x ∧ x ≤ 19) ∧ ¬ (60 ≤ x ∧ x ≤ 61) ∧ ¬ (2700 ≤ x ∧ x < 3000) ∧ ¬ (7000 ≤ x ∧ x < 7200) ∧ x ≠ 34 ∧ x ≠ 4454 ∧ x ≠ 4458)
def nsT2 (x : Nat) : Bool := decide (x ≠ 17 ∧ ¬ (2700 ≤ x ∧ x < 2800) ∧ x ≠ 34 ∧ x ≠ 4456 ∧ x ≠ 4457)
def nsM (x : Nat) : Bool := decide ((17 ≤ x ∧ x < 34) ∨ (60 ≤ x ∧ x < 75) ∨ (2700 ≤ x ∧ x < 4400) ∨ (4448 ≤ x ∧ x < 4500))
def nsM2 (x : Nat) : Bool := decide ((17 ≤ x ∧ x < 34) ∨ (60 ≤ x ∧ x < 75) ∨ (2700 ≤ x ∧ x < 4400) ∨ (4453 ≤ x ∧ x < 4500))
theorem ivR_fr (h : ivR I) (f : ∀ S, FR S u v I I' L L') (hu : u.all nsR = true) : ivR I' := by
  rw [List.all_eq_true] at hu
  have key : ∀ x ∈ u, x ≠ 28 ∧ x ≠ 70 ∧ ¬ (3800 ≤ x ∧ x < 3900) ∧ ¬ (8000 ≤ x ∧ x < 8100) := fun x hx => of_decide_eq_true (hu x hx)
  have g : ∀ a, a = 28 ∨ a = 70 → ∀ j, I' a j = I a j := fun a ha j => fr_I f a j (fun z => by have := key a z; omega) (fun hj z => by have := key _ z; omega)
  unfold ivR at h ⊢
  simp only [g 28 (by simp), g 70 (by simp)]
  exact h
theorem ivB_fr (h : ivB I) (f : ∀ S, FR S u v I I' L L') (hu : u.all nsB = true) : ivB I' := by
  rw [List.all_eq_true] at hu
  have key : ∀ x ∈ u, ¬ (29 ≤ x ∧ x ≤ 34) ∧ ¬ (71 ≤ x ∧ x ≤ 74) ∧ ¬ (3900 ≤ x ∧ x < 4400) ∧ ¬ (8100 ≤ x ∧ x < 8500) ∧ x ≠ 4475 := fun x hx => of_decide_eq_true (hu x hx)
  have g : ∀ a, (29 ≤ a ∧ a ≤ 33) ∨ (71 ≤ a ∧ a ≤ 74) → ∀ j, I' a j = I a j := fun a ha j => fr_I f a j (fun z => by have := key a z; omega) (fun hj z => by have := key _ z; omega)
  have g2 : I' 34 75 = I 34 75 := fr_I f 34 75 (fun z => by have := key _ z; omega) (fun hj z => by have := key _ z; omega)
  unfold ivB at h ⊢
  simp only [g 29 (by decide), g 30 (by decide), g 31 (by decide), g 32 (by decide), g 33 (by decide), g 71 (by decide), g 72 (by decide), g 73 (by decide), g 74 (by decide), g2]
  exact h
theorem ivC_fr (h : ivC I) (f : ∀ S, FR S u v I I' L L') (hu : u.all nsC = true) : ivC I' := by
  rw [List.all_eq_true] at hu
  have key : ∀ x ∈ u, ¬ (22 ≤ x ∧ x ≤ 26) ∧ ¬ (64 ≤ x ∧ x ≤ 67) ∧ ¬ (3200 ≤ x ∧ x < 3700) ∧ ¬ (7400 ≤ x ∧ x < 7800) ∧ x ≠ 34 ∧ x ≠ 4467 := fun x hx => of_decide_eq_true (hu x hx)
  have g : ∀ a, (22 ≤ a ∧ a ≤ 26) ∨ (64 ≤ a ∧ a ≤ 67) → ∀ j, I' a j = I a j := fun a ha j => fr_I f a j (fun z => by have := key a z; omega) (fun hj z => by have := key _ z; omega)
  have g2 : I' 34 67 = I 34 67 := fr_I f 34 67 (fun z => by have := key _ z; omega) (fun hj z => by have := key _ z; omega)
  unfold ivC at h ⊢
  simp only [g 22 (by decide), g 23 (by decide), g 24 (by decide), g 25 (by decide), g 26 (by decide), g 64 (by decide), g 65 (by decide), g 66 (by decide), g 67 (by decide), g2]
  exact h
theorem ivT_fr (h : ivT I L) (f : ∀ S, FR S u v I I' L L') (hu : u.all nsT = true) (hv : v.all nsT2 = true) : ivT I' L' := by
  rw [List.all_eq_true] at hu hv
  have key : ∀ x ∈ u, ¬ (17 ≤ x ∧ x ≤ 19) ∧ ¬ (60 ≤ x ∧ x ≤ 61) ∧ ¬ (2700 ≤ x ∧ x < 3000) ∧ ¬ (7000 ≤ x ∧ x < 7200) ∧ x ≠ 34 ∧ x ≠ 4454 ∧ x ≠ 4458 := fun x hx => of_decide_eq_true (hu x hx)
  have key2 : ∀ x ∈ v, x ≠ 17 ∧ ¬ (2700 ≤ x ∧ x < 2800) ∧ x ≠ 34 ∧ x ≠ 4456 ∧ x ≠ 4457 := fun x hx => of_decide_eq_true (hv x hx)
  have g : ∀ a, (17 ≤ a ∧ a ≤ 19) ∨ (60 ≤ a ∧ a ≤ 61) → ∀ j, I' a j = I a j := fun a ha j => fr_I f a j (fun z => by have := key a z; omega) (fun hj z => by have := key _ z; omega)
  have g2 : ∀ j, j = 54 ∨ j = 58 → I' 34 j = I 34 j := fun j q => fr_I f 34 j (fun z => by have := key _ z; omega) (fun hj z => by have := key _ z; omega)
  have g3 : ∀ a j, (a = 17 ∧ j < 100) ∨ (a = 34 ∧ (j = 56 ∨ j = 57)) → L' a j = L a j := fun a j q => fr_L f a j (fun z => by have := key2 _ z; omega) (fun hj z => by have := key2 _ z; omega)
  unfold ivT at h ⊢
  simp only [g 17 (by decide), g 18 (by decide), g 19 (by decide), g 60 (by decide), g 61 (by decide), g2 54 (by simp), g2 58 (by simp), g3 17 7 (by simp), g3 17 8 (by simp), g3 34 56 (by simp), g3 34 57 (by simp)]
  exact h
theorem mov_fr (h : MOV k S Rf I I L L) (f : ∀ S, FR S u v I I' L L') (hu : u.all nsM = true) (hv : v.all nsM2 = true) : MOV k S Rf I' I' L' L' := by
  rw [List.all_eq_true] at hu hv
  have key : ∀ x ∈ u, (17 ≤ x ∧ x < 34) ∨ (60 ≤ x ∧ x < 75) ∨ (2700 ≤ x ∧ x < 4400) ∨ (4448 ≤ x ∧ x < 4500) := fun x hx => of_decide_eq_true (hu x hx)
  have key2 : ∀ x ∈ v, (17 ≤ x ∧ x < 34) ∨ (60 ≤ x ∧ x < 75) ∨ (2700 ≤ x ∧ x < 4400) ∨ (4453 ≤ x ∧ x < 4500) := fun x hx => of_decide_eq_true (hv x hx)
  refine MOV_ext h (Nat.le_refl _) (fun a j q => fr_I f a j (fun z => ?_) (fun hj z => ?_)) (fun a j q => fr_I f a j (fun z => ?_) (fun hj z => ?_)) (fun a j q => fr_L f a j (fun z => ?_) (fun hj z => ?_)) (fun a j q => fr_L f a j (fun z => ?_) (fun hj z => ?_))
  · have := key a z; omega
  · have := key _ z; omega
  · have := key a z; omega
  · have := key _ z; omega
  · have := key2 a z; omega
  · have := key2 _ z; omega
  · have := key2 a z; omega
  · have := key2 _ z; omega
theorem INV_mono (h : INV k S Rf I L) : INV (k + 1) S Rf I L := ⟨h.1, MOV_mono h.2 (by omega)⟩
/-- of the rates, benches, chains, trains: an act of one group -/
theorem hsR {x : Option (Int32 × (Nat → Nat → Int32) × (Nat → Nat → Int64))} {y : (Nat → Nat → Int32) → (Nat → Nat → Int64) → Option (Int32 × (Nat → Nat → Int32) × (Nat → Nat → Int64))} {u1 v1 u2 v2 : List Nat} (h : INV k S Rf I L) (op : wp x (fun q => wp (y q.2.1 q.2.2) (fun q' => q.1 = q'.1 ∧ ivR q'.2.1))) (f1 : ∀ q, x = some q → ∀ S, FR S u1 v1 I q.2.1 L q.2.2) (f2 : ∀ J K q, y J K = some q → ∀ S, FR S u2 v2 J q.2.1 K q.2.2) (c : ((u1.all nsB && u1.all nsC && u1.all nsT && v1.all nsT2 && u1.all nsM && v1.all nsM2) && (u2.all nsB && u2.all nsC && u2.all nsT && v2.all nsT2 && u2.all nsM && v2.all nsM2)) = true) : wp x (fun q => wp (y q.2.1 q.2.2) (fun q' => q.1 = q'.1 ∧ INV (k + 1) S Rf q'.2.1 q'.2.2)) := by
  simp only [Bool.and_eq_true] at c
  obtain ⟨⟨⟨⟨⟨⟨b1, c1⟩, t1⟩, s1⟩, m1⟩, n1⟩, ⟨⟨⟨⟨b2, c2⟩, t2⟩, s2⟩, m2⟩, n2⟩ := c
  obtain ⟨q, e1, q', e2, e3, e4⟩ := op
  have g1 := f1 q e1
  have g2 := f2 _ _ q' e2
  obtain ⟨⟨h1, h2, h3, h4⟩, h5⟩ := h
  exact ⟨q, e1, q', e2, e3, ⟨e4, ivB_fr (ivB_fr h2 g1 b1) g2 b2, ivC_fr (ivC_fr h3 g1 c1) g2 c2, ivT_fr (ivT_fr h4 g1 t1 s1) g2 t2 s2⟩, MOV_mono (mov_fr (mov_fr h5 g1 m1 n1) g2 m2 n2) (by omega)⟩
theorem hsB {x : Option (Int32 × (Nat → Nat → Int32) × (Nat → Nat → Int64))} {y : (Nat → Nat → Int32) → (Nat → Nat → Int64) → Option (Int32 × (Nat → Nat → Int32) × (Nat → Nat → Int64))} {u1 v1 u2 v2 : List Nat} (h : INV k S Rf I L) (op : wp x (fun q => wp (y q.2.1 q.2.2) (fun q' => q.1 = q'.1 ∧ ivB q'.2.1))) (f1 : ∀ q, x = some q → ∀ S, FR S u1 v1 I q.2.1 L q.2.2) (f2 : ∀ J K q, y J K = some q → ∀ S, FR S u2 v2 J q.2.1 K q.2.2) (c : ((u1.all nsR && u1.all nsC && u1.all nsT && v1.all nsT2 && u1.all nsM && v1.all nsM2) && (u2.all nsR && u2.all nsC && u2.all nsT && v2.all nsT2 && u2.all nsM && v2.all nsM2)) = true) : wp x (fun q => wp (y q.2.1 q.2.2) (fun q' => q.1 = q'.1 ∧ INV (k + 1) S Rf q'.2.1 q'.2.2)) := by
  simp only [Bool.and_eq_true] at c
  obtain ⟨⟨⟨⟨⟨⟨b1, c1⟩, t1⟩, s1⟩, m1⟩, n1⟩, ⟨⟨⟨⟨b2, c2⟩, t2⟩, s2⟩, m2⟩, n2⟩ := c
  obtain ⟨q, e1, q', e2, e3, e4⟩ := op
  have g1 := f1 q e1
  have g2 := f2 _ _ q' e2
  obtain ⟨⟨h1, h2, h3, h4⟩, h5⟩ := h
  exact ⟨q, e1, q', e2, e3, ⟨ivR_fr (ivR_fr h1 g1 b1) g2 b2, e4, ivC_fr (ivC_fr h3 g1 c1) g2 c2, ivT_fr (ivT_fr h4 g1 t1 s1) g2 t2 s2⟩, MOV_mono (mov_fr (mov_fr h5 g1 m1 n1) g2 m2 n2) (by omega)⟩
theorem hsC {x : Option (Int32 × (Nat → Nat → Int32) × (Nat → Nat → Int64))} {y : (Nat → Nat → Int32) → (Nat → Nat → Int64) → Option (Int32 × (Nat → Nat → Int32) × (Nat → Nat → Int64))} {u1 v1 u2 v2 : List Nat} (h : INV k S Rf I L) (op : wp x (fun q => wp (y q.2.1 q.2.2) (fun q' => q.1 = q'.1 ∧ ivC q'.2.1))) (f1 : ∀ q, x = some q → ∀ S, FR S u1 v1 I q.2.1 L q.2.2) (f2 : ∀ J K q, y J K = some q → ∀ S, FR S u2 v2 J q.2.1 K q.2.2) (c : ((u1.all nsR && u1.all nsB && u1.all nsT && v1.all nsT2 && u1.all nsM && v1.all nsM2) && (u2.all nsR && u2.all nsB && u2.all nsT && v2.all nsT2 && u2.all nsM && v2.all nsM2)) = true) : wp x (fun q => wp (y q.2.1 q.2.2) (fun q' => q.1 = q'.1 ∧ INV (k + 1) S Rf q'.2.1 q'.2.2)) := by
  simp only [Bool.and_eq_true] at c
  obtain ⟨⟨⟨⟨⟨⟨b1, c1⟩, t1⟩, s1⟩, m1⟩, n1⟩, ⟨⟨⟨⟨b2, c2⟩, t2⟩, s2⟩, m2⟩, n2⟩ := c
  obtain ⟨q, e1, q', e2, e3, e4⟩ := op
  have g1 := f1 q e1
  have g2 := f2 _ _ q' e2
  obtain ⟨⟨h1, h2, h3, h4⟩, h5⟩ := h
  exact ⟨q, e1, q', e2, e3, ⟨ivR_fr (ivR_fr h1 g1 b1) g2 b2, ivB_fr (ivB_fr h2 g1 c1) g2 c2, e4, ivT_fr (ivT_fr h4 g1 t1 s1) g2 t2 s2⟩, MOV_mono (mov_fr (mov_fr h5 g1 m1 n1) g2 m2 n2) (by omega)⟩
theorem hsT {x : Option (Int32 × (Nat → Nat → Int32) × (Nat → Nat → Int64))} {y : (Nat → Nat → Int32) → (Nat → Nat → Int64) → Option (Int32 × (Nat → Nat → Int32) × (Nat → Nat → Int64))} {u1 v1 u2 v2 : List Nat} (h : INV k S Rf I L) (op : wp x (fun q => wp (y q.2.1 q.2.2) (fun q' => q.1 = q'.1 ∧ ivT q'.2.1 q'.2.2))) (f1 : ∀ q, x = some q → ∀ S, FR S u1 v1 I q.2.1 L q.2.2) (f2 : ∀ J K q, y J K = some q → ∀ S, FR S u2 v2 J q.2.1 K q.2.2) (c : ((u1.all nsR && u1.all nsB && u1.all nsC && u1.all nsM && v1.all nsM2) && (u2.all nsR && u2.all nsB && u2.all nsC && u2.all nsM && v2.all nsM2)) = true) : wp x (fun q => wp (y q.2.1 q.2.2) (fun q' => q.1 = q'.1 ∧ INV (k + 1) S Rf q'.2.1 q'.2.2)) := by
  simp only [Bool.and_eq_true] at c
  obtain ⟨⟨⟨⟨⟨b1, c1⟩, t1⟩, m1⟩, n1⟩, ⟨⟨⟨b2, c2⟩, t2⟩, m2⟩, n2⟩ := c
  obtain ⟨q, e1, q', e2, e3, e4⟩ := op
  have g1 := f1 q e1
  have g2 := f2 _ _ q' e2
  obtain ⟨⟨h1, h2, h3, h4⟩, h5⟩ := h
  exact ⟨q, e1, q', e2, e3, ⟨ivR_fr (ivR_fr h1 g1 b1) g2 b2, ivB_fr (ivB_fr h2 g1 c1) g2 c2, ivC_fr (ivC_fr h3 g1 t1) g2 t2, e4⟩, MOV_mono (mov_fr (mov_fr h5 g1 m1 n1) g2 m2 n2) (by omega)⟩
variable {a0 a1 a2 a3 a4 : Int32}
theorem iv_rate (h : INV k S Rf I L) : wp (f_H_rate a0 a1 I L) (fun q => wp (f_Md_rate a0 a1 q.2.1 q.2.2) (fun q' => q.1 = q'.1 ∧ INV (k + 1) S Rf q'.2.1 q'.2.2)) := hsR h (op_rate h.1.1) (fun q e S => u_H_rate e) (fun J K q e S => u_Md_rate e) (by decide)
theorem iv_change (h : INV k S Rf I L) : wp (f_H_change a0 a1 a2 I L) (fun q => wp (f_Md_change a0 a1 a2 q.2.1 q.2.2) (fun q' => q.1 = q'.1 ∧ INV (k + 1) S Rf q'.2.1 q'.2.2)) := hsB h (op_change h.1.2.1) (fun q e S => u_H_change e) (fun J K q e S => u_Md_change e) (by decide)
theorem iv_merge (h : INV k S Rf I L) : wp (f_H_merge a0 I L) (fun q => wp (f_Md_merge a0 q.2.1 q.2.2) (fun q' => q.1 = q'.1 ∧ INV (k + 1) S Rf q'.2.1 q'.2.2)) := hsB h (op_merge h.1.2.1) (fun q e S => u_H_merge e) (fun J K q e S => u_Md_merge e) (by decide)
theorem iv_settle (h : INV k S Rf I L) : wp (f_H_settle a0 a1 a2 I L) (fun q => wp (f_Md_settle a0 a1 a2 q.2.1 q.2.2) (fun q' => q.1 = q'.1 ∧ INV (k + 1) S Rf q'.2.1 q'.2.2)) := hsB h (op_settle h.1.2.1) (fun q e S => u_H_settle e) (fun J K q e S => u_Md_settle e) (by decide)
theorem iv_chain (h : INV k S Rf I L) : wp (f_H_chain I L) (fun q => wp (f_Md_chain q.2.1 q.2.2) (fun q' => q.1 = q'.1 ∧ INV (k + 1) S Rf q'.2.1 q'.2.2)) := hsC h (op_chain h.1.2.2.1) (fun q e S => u_H_chain e) (fun J K q e S => u_Md_chain e) (by decide)
theorem iv_size (h : INV k S Rf I L) : wp (f_H_size a0 a1 a2 a3 I L) (fun q => wp (f_Md_size a0 a1 a2 a3 q.2.1 q.2.2) (fun q' => q.1 = q'.1 ∧ INV (k + 1) S Rf q'.2.1 q'.2.2)) := hsC h (op_size h.1.2.2.1) (fun q e S => u_H_size e) (fun J K q e S => u_Md_size e) (by decide)
theorem iv_teeth (h : INV k S Rf I L) : wp (f_H_teeth a0 a1 a2 I L) (fun q => wp (f_Md_teeth a0 a1 a2 q.2.1 q.2.2) (fun q' => q.1 = q'.1 ∧ INV (k + 1) S Rf q'.2.1 q'.2.2)) := hsT h (op_teeth h.1.2.2.2) (fun q e S => u_H_teeth e) (fun J K q e S => u_Md_teeth e) (by decide)
theorem iv_search (h : INV k S Rf I L) : wp (f_H_search a0 a1 a2 I L) (fun q => wp (f_Md_search a0 a1 a2 q.2.1 q.2.2) (fun q' => q.1 = q'.1 ∧ INV (k + 1) S Rf q'.2.1 q'.2.2)) := hsT h (op_search h.1.2.2.2) (fun q e S => u_H_search e) (fun J K q e S => u_Md_search e) (by decide)
theorem iv_ways (h : INV k S Rf I L) : wp (f_H_ways a0 a1 I L) (fun q => wp (f_Md_ways a0 a1 q.2.1 q.2.2) (fun q' => q.1 = q'.1 ∧ INV (k + 1) S Rf q'.2.1 q'.2.2)) := by
  obtain ⟨⟨h1, h2, h3, h4⟩, h5⟩ := h
  obtain ⟨q, e1, e2, e3⟩ := op_ways (a0 := a0) (a1 := a1) (L := L) h3
  obtain ⟨q', e4, e5, e6⟩ := e3 q.2.2
  have g1 := fun S => u_H_ways (S := S) e1
  rw [← e2] at e4
  have g2 := fun S => u_Md_ways (S := S) e4
  refine ⟨q, e1, q', e4, e5, ⟨by rw [e6]; exact h1, by rw [e6]; exact h2, by rw [e6]; exact h3, ivT_fr (ivT_fr h4 g1 (by decide) (by decide)) g2 (by decide) (by decide)⟩, MOV_mono (mov_fr (mov_fr h5 g1 (by decide) (by decide)) g2 (by decide) (by decide)) (by omega)⟩
end HOS
section IVM
variable {S : List xSh} {Rf : Nat → Nat → Option Nat} {I : Nat → Nat → Int32} {L : Nat → Nat → Int64} {k : Nat} {a0 a1 a2 a3 a4 : Int32}
theorem iv_arbor (h : INV k S Rf I L) : wp (f_H_arbor I L) (fun q => wp (f_Md_arbor q.2.1 q.2.2) (fun q' => q.1 = q'.1 ∧ INV (k + 1) S Rf q'.2.1 q'.2.2)) := mrgW (y := fun J K => f_Md_arbor J K) h (fun q e => frh_of h.2.1 (u_H_arbor e) (by decide) (by decide)) (fun J K q e => frm_of (fun S => u_Md_arbor e) (by decide) (by decide)) (fun J K m => op_arbor m)
theorem iv_mesh (h : INV k S Rf I L) : wp (f_H_mesh a0 a1 a2 a3 a4 I L) (fun q => wp (f_Md_mesh a0 a1 a2 a3 a4 q.2.1 q.2.2) (fun q' => q.1 = q'.1 ∧ INV (k + 1) S Rf q'.2.1 q'.2.2)) := mrgW (y := fun J K => f_Md_mesh a0 a1 a2 a3 a4 J K) h (fun q e => frh_of h.2.1 (u_H_mesh e) (by decide) (by decide)) (fun J K q e => frm_of (fun S => u_Md_mesh e) (by decide) (by decide)) (fun J K m => op_mesh m)
theorem iv_epicycle (h : INV k S Rf I L) : wp (f_H_epicycle a0 a1 a2 a3 a4 I L) (fun q => wp (f_Md_epicycle a0 a1 a2 a3 a4 q.2.1 q.2.2) (fun q' => q.1 = q'.1 ∧ INV (k + 1) S Rf q'.2.1 q'.2.2)) := mrgW (y := fun J K => f_Md_epicycle a0 a1 a2 a3 a4 J K) h (fun q e => frh_of h.2.1 (u_H_epicycle e) (by decide) (by decide)) (fun J K q e => frm_of (fun S => u_Md_epicycle e) (by decide) (by decide)) (fun J K m => op_epicycle m)
theorem iv_escape (h : INV k S Rf I L) : wp (f_H_escape a0 a1 I L) (fun q => wp (f_Md_escape a0 a1 q.2.1 q.2.2) (fun q' => q.1 = q'.1 ∧ INV (k + 1) S Rf q'.2.1 q'.2.2)) := mrgW (y := fun J K => f_Md_escape a0 a1 J K) h (fun q e => frh_of h.2.1 (u_H_escape e) (by decide) (by decide)) (fun J K q e => frm_of (fun S => u_Md_escape e) (by decide) (by decide)) (fun J K m => op_escape m)
theorem iv_balance (h : INV k S Rf I L) : wp (f_H_balance a0 a1 a2 a3 I L) (fun q => wp (f_Md_balance a0 a1 a2 a3 q.2.1 q.2.2) (fun q' => q.1 = q'.1 ∧ INV (k + 1) S Rf q'.2.1 q'.2.2)) := mrgW (y := fun J K => f_Md_balance a0 a1 a2 a3 J K) h (fun q e => frh_of h.2.1 (u_H_balance e) (by decide) (by decide)) (fun J K q e => frm_of (fun S => u_Md_balance e) (by decide) (by decide)) (fun J K m => op_balance m)
theorem iv_barrel (h : INV k S Rf I L) : wp (f_H_barrel a0 I L) (fun q => wp (f_Md_barrel a0 q.2.1 q.2.2) (fun q' => q.1 = q'.1 ∧ INV (k + 1) S Rf q'.2.1 q'.2.2)) := mrgW (y := fun J K => f_Md_barrel a0 J K) h (fun q e => frh_of h.2.1 (u_H_barrel e) (by decide) (by decide)) (fun J K q e => frm_of (fun S => u_Md_barrel e) (by decide) (by decide)) (fun J K m => op_barrel m)
theorem iv_torque (h : INV k S Rf I L) : wp (f_H_torque a0 a1 I L) (fun q => wp (f_Md_torque a0 a1 q.2.1 q.2.2) (fun q' => q.1 = q'.1 ∧ INV (k + 1) S Rf q'.2.1 q'.2.2)) := mrgW (y := fun J K => f_Md_torque a0 a1 J K) h (fun q e => frh_of h.2.1 (u_H_torque e) (by decide) (by decide)) (fun J K q e => frm_of (fun S => u_Md_torque e) (by decide) (by decide)) (fun J K m => op_torque m)
theorem iv_go (h : INV k S Rf I L) : wp (f_H_go I L) (fun q => wp (f_Md_go q.2.1 q.2.2) (fun q' => q.1 = q'.1 ∧ INV (k + 1) S Rf q'.2.1 q'.2.2)) := mrgW (y := fun J K => f_Md_go J K) h (fun q e => frh_of h.2.1 (u_H_go e) (by decide) (by decide)) (fun J K q e => frm_of (fun S => u_Md_go e) (by decide) (by decide)) (fun J K m => op_go m)
theorem iv_run (h : INV k S Rf I L) : wp (f_H_run S Rf a0 I L) (fun q => wp (f_Md_run a0 q.2.1 q.2.2) (fun q' => q.1 = q'.1 ∧ INV (k + 1) S Rf q'.2.1 q'.2.2)) := mrgW (y := fun J K => f_Md_run a0 J K) h (fun q e => frh_of h.2.1 (u_H_run e) (by decide) (by decide)) (fun J K q e => frm_of (fun S => u_Md_run e) (by decide) (by decide)) (fun J K m => op_run m)
theorem iv_shock (h : INV k S Rf I L) : wp (f_H_shock a0 I L) (fun q => wp (f_Md_shock a0 q.2.1 q.2.2) (fun q' => q.1 = q'.1 ∧ INV (k + 1) S Rf q'.2.1 q'.2.2)) := mrgW (y := fun J K => f_Md_shock a0 J K) h (fun q e => frh_of h.2.1 (u_H_shock e) (by decide) (by decide)) (fun J K q e => frm_of (fun S => u_Md_shock e) (by decide) (by decide)) (fun J K m => op_shock m)
theorem iv_wind (h : INV k S Rf I L) : wp (f_H_wind a0 I L) (fun q => wp (f_Md_wind a0 q.2.1 q.2.2) (fun q' => q.1 = q'.1 ∧ INV (k + 1) S Rf q'.2.1 q'.2.2)) := mrgW (y := fun J K => f_Md_wind a0 J K) h (fun q e => frh_of h.2.1 (u_H_wind e) (by decide) (by decide)) (fun J K q e => frm_of (fun S => u_Md_wind e) (by decide) (by decide)) (fun J K m => op_wind m)
theorem iv_press (h : INV k S Rf I L) : wp (f_H_press S Rf a0 a1 I L) (fun q => wp (f_Md_press a0 a1 q.2.1 q.2.2) (fun q' => q.1 = q'.1 ∧ INV (k + 1) S Rf q'.2.1 q'.2.2)) := mrgW (y := fun J K => f_Md_press a0 a1 J K) h (fun q e => frh_of h.2.1 (u_H_press e) (by decide) (by decide)) (fun J K q e => frm_of (fun S => u_Md_press e) (by decide) (by decide)) (fun J K m => op_press m)
theorem iv_correct (h : INV k S Rf I L) : wp (f_H_correct S Rf a0 a1 a2 I L) (fun q => wp (f_Md_correct a0 a1 a2 q.2.1 q.2.2) (fun q' => q.1 = q'.1 ∧ INV (k + 1) S Rf q'.2.1 q'.2.2)) := mrgW (y := fun J K => f_Md_correct a0 a1 a2 J K) h (fun q e => frh_of h.2.1 (u_H_correct e) (by decide) (by decide)) (fun J K q e => frm_of (fun S => u_Md_correct e) (by decide) (by decide)) (fun J K m => op_correct m)
theorem iv_trip (h : INV k S Rf I L) : wp (f_H_trip S Rf a0 I L) (fun q => wp (f_Md_trip a0 q.2.1 q.2.2) (fun q' => q.1 = q'.1 ∧ INV (k + 1) S Rf q'.2.1 q'.2.2)) := mrgW (y := fun J K => f_Md_trip a0 J K) h (fun q e => frh_of h.2.1 (u_H_trip e) (by decide) (by decide)) (fun J K q e => frm_of (fun S => u_Md_trip e) (by decide) (by decide)) (fun J K m => op_trip m)
theorem iv_back (h : INV k S Rf I L) : wp (f_H_back S Rf a0 I L) (fun q => wp (f_Md_back a0 q.2.1 q.2.2) (fun q' => q.1 = q'.1 ∧ INV (k + 1) S Rf q'.2.1 q'.2.2)) := mrgW (y := fun J K => f_Md_back a0 J K) h (fun q e => frh_of h.2.1 (u_H_back e) (by decide) (by decide)) (fun J K q e => frm_of (fun S => u_Md_back e) (by decide) (by decide)) (fun J K m => op_back m)
theorem iv_speed (h : INV k S Rf I L) : wp (f_H_speed a0 a1 I L) (fun q => wp (f_Md_speed a0 a1 I L) (fun q' => q = q'.1 ∧ INV (k + 1) S Rf q'.2.1 q'.2.2)) := mrgQ (y := fun J K => f_Md_speed a0 a1 J K) h (fun J K q e => frm_of (fun S => u_Md_speed e) (by decide) (by decide)) (fun J K m => op_speed m)
theorem iv_state (h : INV k S Rf I L) : wp (f_H_state a0 I L) (fun q => wp (f_Md_state a0 I L) (fun q' => q = q'.1 ∧ INV (k + 1) S Rf q'.2.1 q'.2.2)) := mrgQ (y := fun J K => f_Md_state a0 J K) h (fun J K q e => frm_of (fun S => u_Md_state e) (by decide) (by decide)) (fun J K m => op_state m)
theorem iv_shows (h : INV k S Rf I L) : wp (f_H_shows S Rf a0 a1 I L) (fun q => wp (f_Md_shows a0 a1 I L) (fun q' => q = q'.1 ∧ INV (k + 1) S Rf q'.2.1 q'.2.2)) := mrgQ (y := fun J K => f_Md_shows a0 a1 J K) h (fun J K q e => frm_of (fun S => u_Md_shows e) (by decide) (by decide)) (fun J K m => op_shows m)
theorem iv_build (h : INV k S Rf I L) : wp (f_H_build I L) (fun q => wp (f_Md_build q.2.1 q.2.2) (fun q' => q.1 = q'.1 ∧ INV (k + 1) S Rf q'.2.1 q'.2.2)) := mrgW (y := fun J K => f_Md_build J K) h (fun q e => frh_of h.2.1 (u_H_build e) (by decide) (by decide)) (fun J K q e => frm_of (fun S => u_Md_build e) (by decide) (by decide)) (fun J K m => op_build m)
theorem iv_dial (h : INV k S Rf I L) : wp (f_H_dial S Rf a0 a1 I L) (fun q => wp (f_Md_dial a0 a1 q.2.2.1 q.2.2.2.1) (fun q' => q.1 = q'.1 ∧ INV (k + 1) q.2.1 q.2.2.2.2 q'.2.1 q'.2.2)) := mrgA (y := fun J K => f_Md_dial a0 a1 J K) h (fun q e => frh_of h.2.1 (u_H_dial e) (by decide) (by decide)) (fun J K q e => frm_of (fun S => u_Md_dial e) (by decide) (by decide)) (fun J K m => op_dial m)
theorem iv_calendar (h : INV k S Rf I L) : wp (f_H_calendar S Rf a0 a1 a2 a3 a4 I L) (fun q => wp (f_Md_calendar a0 a1 a2 a3 a4 q.2.2.1 q.2.2.2.1) (fun q' => q.1 = q'.1 ∧ INV (k + 1) q.2.1 q.2.2.2.2 q'.2.1 q'.2.2)) := mrgA (y := fun J K => f_Md_calendar a0 a1 a2 a3 a4 J K) h (fun q e => frh_of h.2.1 (u_H_calendar e) (by decide) (by decide)) (fun J K q e => frm_of (fun S => u_Md_calendar e) (by decide) (by decide)) (fun J K m => op_calendar m)
theorem iv_strike (h : INV k S Rf I L) : wp (f_H_strike S Rf a0 a1 I L) (fun q => wp (f_Md_strike a0 a1 q.2.2.1 q.2.2.2.1) (fun q' => q.1 = q'.1 ∧ INV (k + 1) q.2.1 q.2.2.2.2 q'.2.1 q'.2.2)) := mrgA (y := fun J K => f_Md_strike a0 a1 J K) h (fun q e => frh_of h.2.1 (u_H_strike e) (by decide) (by decide)) (fun J K q e => frm_of (fun S => u_Md_strike e) (by decide) (by decide)) (fun J K m => op_strike m)
theorem iv_chronograph (h : INV k S Rf I L) : wp (f_H_chronograph S Rf a0 I L) (fun q => wp (f_Md_chronograph a0 q.2.1 q.2.2) (fun q' => q.1 = q'.1 ∧ INV (k + 1) S Rf q'.2.1 q'.2.2)) := mrgW (y := fun J K => f_Md_chronograph a0 J K) h (fun q e => frh_of h.2.1 (u_H_chronograph e) (by decide) (by decide)) (fun J K q e => frm_of (fun S => u_Md_chronograph e) (by decide) (by decide)) (fun J K m => op_chronograph m)
end IVM

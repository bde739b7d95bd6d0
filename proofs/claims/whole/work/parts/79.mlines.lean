/-! L3, the model reads a line -/
abbrev fsL : List Nat := [11, 12, 15, 16, 17, 18, 19, 21, 22, 23, 24, 25, 26]
abbrev rsL : List Nat := [121, 122, 123, 124]
def NM (h : mHp) (B : tB) : Prop :=
  h.1 114 21 = zI (bD B) ∧ h.1 114 22 = zI (bP B) ∧ h.1 114 23 = zI (bT B) ∧ h.1 114 24 = zI (bC B) ∧
  (∀ i, 0 ≤ i → i < bD B → h.1 121 (3 * i).toNat = zI (bF B 0 i)) ∧ (∀ i, 0 ≤ i → i < bD B → h.1 121 (3 * i + 1).toNat = zI (bF B 1 i)) ∧ (∀ i, 0 ≤ i → i < bD B → h.1 121 (3 * i + 2).toNat = zI (bF B 2 i)) ∧
  (∀ i, 0 ≤ i → i < bP B → h.1 122 (4 * i).toNat = zI (bF B 3 i)) ∧ (∀ i, 0 ≤ i → i < bP B → h.1 122 (4 * i + 1).toNat = zI (bF B 4 i)) ∧ (∀ i, 0 ≤ i → i < bP B → h.1 122 (4 * i + 2).toNat = zI (bF B 5 i)) ∧ (∀ i, 0 ≤ i → i < bP B → h.1 122 (4 * i + 3).toNat = zI (bF B 6 i)) ∧
  (∀ i, 0 ≤ i → i < bT B → h.1 123 (2 * i).toNat = zI (bF B 7 i)) ∧ (∀ i, 0 ≤ i → i < bT B → h.1 123 (2 * i + 1).toNat = zI (bF B 8 i)) ∧ aEq (h.1 124) 25 (bF B 9)
theorem NM_of {h h' : mHp} {B : tB} (hB : NM h B) (e0 : ∀ k, 21 ≤ k → k ≤ 24 → h'.1 114 k = h.1 114 k) (e : ∀ k, 121 ≤ k → k ≤ 124 → h'.1 k = h.1 k) : NM h' B := by
  unfold NM at hB ⊢
  rw [e0 21 (by omega) (by omega), e0 22 (by omega) (by omega), e0 23 (by omega) (by omega), e0 24 (by omega) (by omega), e 121 (by omega) (by omega), e 122 (by omega) (by omega), e 123 (by omega) (by omega), e 124 (by omega) (by omega)]
  exact hB
theorem NM_D {h h' : mHp} {B : tB} {a x c : Int} (hB : NM h B) (d0 : 0 ≤ bD B) (e0 : h'.1 114 21 = zI (bD B + 1)) (e1 : ∀ k, 22 ≤ k → k ≤ 24 → h'.1 114 k = h.1 114 k) (e : ∀ k, 122 ≤ k → k ≤ 124 → h'.1 k = h.1 k)
    (r0 : h'.1 121 (3 * bD B).toNat = zI a) (r1 : h'.1 121 (3 * bD B + 1).toNat = zI x) (r2 : h'.1 121 (3 * bD B + 2).toNat = zI c) (r : ∀ y : Nat, (y : Int) < 3 * bD B → h'.1 121 y = h.1 121 y) : NM h' (bPD B a x c) := by
  obtain ⟨a21, a22, a23, a24, a1, a2, a3, a4, a5, a6, a7, a8, a9, a10⟩ := hB
  have q0 : ∀ i, bF (bPD B a x c) 0 i = if i = bD B then a else bF B 0 i := fun i => by show fU (fU (fU (bF B) 0 (bD B) a) 1 (bD B) x) 2 (bD B) c 0 i = _; rw [fU_k (by omega), fU_k (by omega), fU_i]
  have q1 : ∀ i, bF (bPD B a x c) 1 i = if i = bD B then x else bF B 1 i := fun i => by show fU (fU (fU (bF B) 0 (bD B) a) 1 (bD B) x) 2 (bD B) c 1 i = _; rw [fU_k (by omega), fU_i, fU_k (by omega)]
  have q2 : ∀ i, bF (bPD B a x c) 2 i = if i = bD B then c else bF B 2 i := fun i => by show fU (fU (fU (bF B) 0 (bD B) a) 1 (bD B) x) 2 (bD B) c 2 i = _; rw [fU_i, fU_k (by omega), fU_k (by omega)]
  have eo : ∀ k i, k ≠ 0 → k ≠ 1 → k ≠ 2 → bF (bPD B a x c) k i = bF B k i := fun k i h0 h1 h2 => by show fU (fU (fU (bF B) 0 (bD B) a) 1 (bD B) x) 2 (bD B) c k i = _; rw [fU_k h2, fU_k h1, fU_k h0]
  refine ⟨e0, by rw [e1 22 (by omega) (by omega)]; exact a22, by rw [e1 23 (by omega) (by omega)]; exact a23, by rw [e1 24 (by omega) (by omega)]; exact a24, ?_, ?_, ?_, ?_, ?_, ?_, ?_, ?_, ?_, ?_⟩
  · intro i i0 i1
    replace i1 : i < bD B + 1 := i1
    rw [q0]
    by_cases z : i = bD B
    · rw [if_pos z, z]; exact r0
    · rw [if_neg z, r _ (by omega)]; exact a1 i i0 (by omega)
  · intro i i0 i1
    replace i1 : i < bD B + 1 := i1
    rw [q1]
    by_cases z : i = bD B
    · rw [if_pos z, z]; exact r1
    · rw [if_neg z, r _ (by omega)]; exact a2 i i0 (by omega)
  · intro i i0 i1
    replace i1 : i < bD B + 1 := i1
    rw [q2]
    by_cases z : i = bD B
    · rw [if_pos z, z]; exact r2
    · rw [if_neg z, r _ (by omega)]; exact a3 i i0 (by omega)
  · intro i i0 i1; rw [eo _ _ (by omega) (by omega) (by omega), e 122 (by omega) (by omega)]; exact a4 i i0 i1
  · intro i i0 i1; rw [eo _ _ (by omega) (by omega) (by omega), e 122 (by omega) (by omega)]; exact a5 i i0 i1
  · intro i i0 i1; rw [eo _ _ (by omega) (by omega) (by omega), e 122 (by omega) (by omega)]; exact a6 i i0 i1
  · intro i i0 i1; rw [eo _ _ (by omega) (by omega) (by omega), e 122 (by omega) (by omega)]; exact a7 i i0 i1
  · intro i i0 i1; rw [eo _ _ (by omega) (by omega) (by omega), e 123 (by omega) (by omega)]; exact a8 i i0 i1
  · intro i i0 i1; rw [eo _ _ (by omega) (by omega) (by omega), e 123 (by omega) (by omega)]; exact a9 i i0 i1
  · intro i i0 i1; rw [eo _ _ (by omega) (by omega) (by omega), e 124 (by omega) (by omega)]; exact a10 i i0 i1
theorem NM_P {h h' : mHp} {B : tB} {a x c g : Int} (hB : NM h B) (d0 : 0 ≤ bP B) (e0 : h'.1 114 22 = zI (bP B + 1)) (e1 : ∀ k, k = 21 ∨ k = 23 ∨ k = 24 → h'.1 114 k = h.1 114 k) (e : ∀ k, k = 121 ∨ k = 123 ∨ k = 124 → h'.1 k = h.1 k)
    (r0 : h'.1 122 (4 * bP B).toNat = zI a) (r1 : h'.1 122 (4 * bP B + 1).toNat = zI x) (r2 : h'.1 122 (4 * bP B + 2).toNat = zI c) (r3 : h'.1 122 (4 * bP B + 3).toNat = zI g) (r : ∀ y : Nat, (y : Int) < 4 * bP B → h'.1 122 y = h.1 122 y) : NM h' (bPP B a x c g) := by
  obtain ⟨a21, a22, a23, a24, a1, a2, a3, a4, a5, a6, a7, a8, a9, a10⟩ := hB
  have q3 : ∀ i, bF (bPP B a x c g) 3 i = if i = bP B then a else bF B 3 i := fun i => by show fU (fU (fU (fU (bF B) 3 (bP B) a) 4 (bP B) x) 5 (bP B) c) 6 (bP B) g 3 i = _; rw [fU_k (by omega), fU_k (by omega), fU_k (by omega), fU_i]
  have q4 : ∀ i, bF (bPP B a x c g) 4 i = if i = bP B then x else bF B 4 i := fun i => by show fU (fU (fU (fU (bF B) 3 (bP B) a) 4 (bP B) x) 5 (bP B) c) 6 (bP B) g 4 i = _; rw [fU_k (by omega), fU_k (by omega), fU_i, fU_k (by omega)]
  have q5 : ∀ i, bF (bPP B a x c g) 5 i = if i = bP B then c else bF B 5 i := fun i => by show fU (fU (fU (fU (bF B) 3 (bP B) a) 4 (bP B) x) 5 (bP B) c) 6 (bP B) g 5 i = _; rw [fU_k (by omega), fU_i, fU_k (by omega), fU_k (by omega)]
  have q6 : ∀ i, bF (bPP B a x c g) 6 i = if i = bP B then g else bF B 6 i := fun i => by show fU (fU (fU (fU (bF B) 3 (bP B) a) 4 (bP B) x) 5 (bP B) c) 6 (bP B) g 6 i = _; rw [fU_i, fU_k (by omega), fU_k (by omega), fU_k (by omega)]
  have eo : ∀ k i, k ≠ 3 → k ≠ 4 → k ≠ 5 → k ≠ 6 → bF (bPP B a x c g) k i = bF B k i := fun k i h0 h1 h2 h3 => by show fU (fU (fU (fU (bF B) 3 (bP B) a) 4 (bP B) x) 5 (bP B) c) 6 (bP B) g k i = _; rw [fU_k h3, fU_k h2, fU_k h1, fU_k h0]
  refine ⟨by rw [e1 21 (by omega)]; exact a21, e0, by rw [e1 23 (by omega)]; exact a23, by rw [e1 24 (by omega)]; exact a24, ?_, ?_, ?_, ?_, ?_, ?_, ?_, ?_, ?_, ?_⟩
  · intro i i0 i1; rw [eo _ _ (by omega) (by omega) (by omega) (by omega), e 121 (by omega)]; exact a1 i i0 i1
  · intro i i0 i1; rw [eo _ _ (by omega) (by omega) (by omega) (by omega), e 121 (by omega)]; exact a2 i i0 i1
  · intro i i0 i1; rw [eo _ _ (by omega) (by omega) (by omega) (by omega), e 121 (by omega)]; exact a3 i i0 i1
  · intro i i0 i1
    replace i1 : i < bP B + 1 := i1
    rw [q3]
    by_cases z : i = bP B
    · rw [if_pos z, z]; exact r0
    · rw [if_neg z, r _ (by omega)]; exact a4 i i0 (by omega)
  · intro i i0 i1
    replace i1 : i < bP B + 1 := i1
    rw [q4]
    by_cases z : i = bP B
    · rw [if_pos z, z]; exact r1
    · rw [if_neg z, r _ (by omega)]; exact a5 i i0 (by omega)
  · intro i i0 i1
    replace i1 : i < bP B + 1 := i1
    rw [q5]
    by_cases z : i = bP B
    · rw [if_pos z, z]; exact r2
    · rw [if_neg z, r _ (by omega)]; exact a6 i i0 (by omega)
  · intro i i0 i1
    replace i1 : i < bP B + 1 := i1
    rw [q6]
    by_cases z : i = bP B
    · rw [if_pos z, z]; exact r3
    · rw [if_neg z, r _ (by omega)]; exact a7 i i0 (by omega)
  · intro i i0 i1; rw [eo _ _ (by omega) (by omega) (by omega) (by omega), e 123 (by omega)]; exact a8 i i0 i1
  · intro i i0 i1; rw [eo _ _ (by omega) (by omega) (by omega) (by omega), e 123 (by omega)]; exact a9 i i0 i1
  · intro i i0 i1; rw [eo _ _ (by omega) (by omega) (by omega) (by omega), e 124 (by omega)]; exact a10 i i0 i1
theorem NM_T {h h' : mHp} {B : tB} {a x : Int} (hB : NM h B) (d0 : 0 ≤ bT B) (e0 : h'.1 114 23 = zI (bT B + 1)) (e1 : ∀ k, k = 21 ∨ k = 22 ∨ k = 24 → h'.1 114 k = h.1 114 k) (e : ∀ k, k = 121 ∨ k = 122 ∨ k = 124 → h'.1 k = h.1 k)
    (r0 : h'.1 123 (2 * bT B).toNat = zI a) (r1 : h'.1 123 (2 * bT B + 1).toNat = zI x) (r : ∀ y : Nat, (y : Int) < 2 * bT B → h'.1 123 y = h.1 123 y) : NM h' (bPT B a x) := by
  obtain ⟨a21, a22, a23, a24, a1, a2, a3, a4, a5, a6, a7, a8, a9, a10⟩ := hB
  have q7 : ∀ i, bF (bPT B a x) 7 i = if i = bT B then a else bF B 7 i := fun i => by show fU (fU (bF B) 7 (bT B) a) 8 (bT B) x 7 i = _; rw [fU_k (by omega), fU_i]
  have q8 : ∀ i, bF (bPT B a x) 8 i = if i = bT B then x else bF B 8 i := fun i => by show fU (fU (bF B) 7 (bT B) a) 8 (bT B) x 8 i = _; rw [fU_i, fU_k (by omega)]
  have eo : ∀ k i, k ≠ 7 → k ≠ 8 → bF (bPT B a x) k i = bF B k i := fun k i h0 h1 => by show fU (fU (bF B) 7 (bT B) a) 8 (bT B) x k i = _; rw [fU_k h1, fU_k h0]
  refine ⟨by rw [e1 21 (by omega)]; exact a21, by rw [e1 22 (by omega)]; exact a22, e0, by rw [e1 24 (by omega)]; exact a24, ?_, ?_, ?_, ?_, ?_, ?_, ?_, ?_, ?_, ?_⟩
  · intro i i0 i1; rw [eo _ _ (by omega) (by omega), e 121 (by omega)]; exact a1 i i0 i1
  · intro i i0 i1; rw [eo _ _ (by omega) (by omega), e 121 (by omega)]; exact a2 i i0 i1
  · intro i i0 i1; rw [eo _ _ (by omega) (by omega), e 121 (by omega)]; exact a3 i i0 i1
  · intro i i0 i1; rw [eo _ _ (by omega) (by omega), e 122 (by omega)]; exact a4 i i0 i1
  · intro i i0 i1; rw [eo _ _ (by omega) (by omega), e 122 (by omega)]; exact a5 i i0 i1
  · intro i i0 i1; rw [eo _ _ (by omega) (by omega), e 122 (by omega)]; exact a6 i i0 i1
  · intro i i0 i1; rw [eo _ _ (by omega) (by omega), e 122 (by omega)]; exact a7 i i0 i1
  · intro i i0 i1
    replace i1 : i < bT B + 1 := i1
    rw [q7]
    by_cases z : i = bT B
    · rw [if_pos z, z]; exact r0
    · rw [if_neg z, r _ (by omega)]; exact a8 i i0 (by omega)
  · intro i i0 i1
    replace i1 : i < bT B + 1 := i1
    rw [q8]
    by_cases z : i = bT B
    · rw [if_pos z, z]; exact r1
    · rw [if_neg z, r _ (by omega)]; exact a9 i i0 (by omega)
  · intro i i0 i1; rw [eo _ _ (by omega) (by omega), e 124 (by omega)]; exact a10 i i0 i1
theorem NM_H {h h' : mHp} {B : tB} {j v : Int} (hB : NM h B) (j0 : 0 ≤ j) (e1 : ∀ k, 21 ≤ k → k ≤ 24 → h'.1 114 k = h.1 114 k) (e : ∀ k, 121 ≤ k → k ≤ 123 → h'.1 k = h.1 k) (r : h'.1 124 = fun y => if y = j.toNat then zI v else h.1 124 y) : NM h' (bPH B j v) := by
  obtain ⟨a21, a22, a23, a24, a1, a2, a3, a4, a5, a6, a7, a8, a9, a10⟩ := hB
  have eo : ∀ k i, k ≠ 9 → bF (bPH B j v) k i = bF B k i := fun k i h0 => fU_k h0
  refine ⟨by rw [e1 21 (by omega) (by omega)]; exact a21, by rw [e1 22 (by omega) (by omega)]; exact a22, by rw [e1 23 (by omega) (by omega)]; exact a23, by rw [e1 24 (by omega) (by omega)]; exact a24, ?_, ?_, ?_, ?_, ?_, ?_, ?_, ?_, ?_, ?_⟩
  · intro i i0 i1; rw [eo _ _ (by omega), e 121 (by omega) (by omega)]; exact a1 i i0 i1
  · intro i i0 i1; rw [eo _ _ (by omega), e 121 (by omega) (by omega)]; exact a2 i i0 i1
  · intro i i0 i1; rw [eo _ _ (by omega), e 121 (by omega) (by omega)]; exact a3 i i0 i1
  · intro i i0 i1; rw [eo _ _ (by omega), e 122 (by omega) (by omega)]; exact a4 i i0 i1
  · intro i i0 i1; rw [eo _ _ (by omega), e 122 (by omega) (by omega)]; exact a5 i i0 i1
  · intro i i0 i1; rw [eo _ _ (by omega), e 122 (by omega) (by omega)]; exact a6 i i0 i1
  · intro i i0 i1; rw [eo _ _ (by omega), e 122 (by omega) (by omega)]; exact a7 i i0 i1
  · intro i i0 i1; rw [eo _ _ (by omega), e 123 (by omega) (by omega)]; exact a8 i i0 i1
  · intro i i0 i1; rw [eo _ _ (by omega), e 123 (by omega) (by omega)]; exact a9 i i0 i1
  · intro i i0 i1
    rw [r]
    show (if i.toNat = j.toNat then zI v else h.1 124 i.toNat) = zI (fU (bF B) 9 j v 9 i)
    rw [fU_i]
    by_cases z : i = j
    · rw [if_pos (by rw [z]), if_pos z]
    · rw [if_neg (by omega), if_neg z]; exact a10 i i0 i1
def UM (h : mHp) (T : Int → Bool) : Prop := ∀ k, 0 ≤ k → k < 25 → bt (h.1 114 25) k.toNat = T k
def QM (h : mHp) (u : Int → Int) (n : Int) (S : tL) : Prop :=
  RM h u n S.1 ∧ (rF S.1 = 0 → NM h S.2.1 ∧ BOk S.2.1 ∧ UM h S.2.2.1 ∧ h.1 114 26 = zI S.2.2.2 ∧ (S.2.2.2 = 0 ∨ S.2.2.2 = 1))
theorem QM_d {h : mHp} {u : Int → Int} {n : Int} {R : tR} {B : tB} {T : Int → Bool} {cl : Int} (hQ : QM h u n (R, B, T, cl)) (c0 : rF R = 0) : RM h u n R ∧ NM h B ∧ BOk B ∧ UM h T ∧ h.1 114 26 = zI cl ∧ (cl = 0 ∨ cl = 1) := ⟨hQ.1, hQ.2 c0⟩
theorem RM_row {h : mHp} {u : Int → Int} {n : Int} {R : tR} (hR : RM h u n R) {a : Nat} (ha : a ≠ 114) (ha' : a ≠ 119) (k : Nat) (v : Int32) : RM (mPI h a k v) u n R :=
  RM_fr hR (fun k _ _ => by rw [hI_ne (fun e => ha e.symm)]) rfl (hI_ne (fun e => ha' e.symm) _ _ _)
theorem RM_fld {h : mHp} {u : Int → Int} {n : Int} {R : tR} (hR : RM h u n R) {k : Nat} (hk : 20 ≤ k) (v : Int32) : RM (mPI h 114 k v) u n R :=
  RM_fr hR (fun j _ j1 => by rw [hI_off (by omega)]) rfl (hI_ne (by omega) _ _ _)
theorem s_M_dishL {d : Nat} {u : Int → Int} {n : Int} {R : tR} {B : tB} {T : Int → Bool} {cl : Int} {h : mHp} (n1 : n ≤ 700) (hu : uR u) (hO : ROk u n R) (hQ : QM h u n (R, B, T, cl)) (c0 : rF R = 0) (c6 : bD B < 6) :
    ∃ h', mRuns (d + 5) 18 0 [some (.ref 114), none] [] h (.inl (none, h')) ∧ RM h' u n (dD3 u n R).1 ∧ (rF (dD3 u n R).1 = 0 → NM h' (bPD B (dD1 u n R).2 (dD2 u n R).2 (dD3 u n R).2) ∧ UM h' T ∧ h'.1 114 26 = zI cl) ∧ kF rsL fsL h h' := by
  obtain ⟨hR, hB, hBO, hU, h8, hcl⟩ := QM_d hQ c0
  have o1 := hBO.1
  have e21 := hB.1
  have G := s_M_good1 (d := d + 3) hR c0
  obtain ⟨h1, r1, C1, f1⟩ := s_M_sc (d := d + 2) n1 hu hO hR
  have O1 := (Aft_sc hO).1
  have e211 : h1.1 114 21 = zI (bD B) := by rw [f1.2.1 21 (by simp)]; exact e21
  obtain ⟨x2, h2, r2, v2, C2, f2⟩ := s_M_nu (d := d + 1) (lo := 0) (hi := 95) (a1 := zI 0) (a2 := zI 95) n1 hu O1 C1 (fun _ => ⟨rfl, rfl, by omega, by omega, by omega, by omega⟩)
  have O2 : ROk u n (dD1 u n R).1 := (Aft_nu (lo := 0) (hi := 95) n1 O1).1
  have w1 : (dD1 u n R).2 = 0 ∨ (0 ≤ (dD1 u n R).2 ∧ (dD1 u n R).2 ≤ 95) := nu_v u n 0 95 (aSc u n R)
  replace C2 : RM h2 u n (dD1 u n R).1 := C2
  replace v2 : rF (dD1 u n R).1 = 0 → x2 = zI (dD1 u n R).2 := v2
  have C2' := RM_row C2 (a := 121) (by omega) (by omega) (3 * bD B).toNat x2
  obtain ⟨x3, h3, r3, v3, C3, f3⟩ := s_M_nu (d := d + 1) (lo := (dD1 u n R).2 + 1) (hi := 95) (a1 := x2 + zI 1) (a2 := zI 95) n1 hu O2 C2' (fun z => ⟨by rw [v2 z, zI_add], rfl, by omega, by omega, by omega, by omega⟩)
  have O3 : ROk u n (dD2 u n R).1 := (Aft_nu (lo := (dD1 u n R).2 + 1) (hi := 95) n1 O2).1
  replace C3 : RM h3 u n (dD2 u n R).1 := C3
  replace v3 : rF (dD2 u n R).1 = 0 → x3 = zI (dD2 u n R).2 := v3
  have C3' := RM_row C3 (a := 121) (by omega) (by omega) (3 * bD B + 1).toNat x3
  obtain ⟨x4, h4, r4, v4, C4, f4⟩ := s_M_op (d := d) (k := 5) (hi := 99) (wo := 1) (by omega) n1 hu O3 C3' (by omega) (by omega)
  have O4 : ROk u n (dD3 u n R).1 := (Aft_op (k := 5) (hi := 99) (wo := 1) n1 O3).1
  replace C4 : RM h4 u n (dD3 u n R).1 := C4
  replace v4 : rF (dD3 u n R).1 = 0 → x4 = zI (dD3 u n R).2 := v4
  have C4' := RM_row C4 (a := 121) (by omega) (by omega) (3 * bD B + 2).toNat x4
  have F1 : kF rsL fsL h h1 := kF_mono f1 (by simp) (by simp)
  have F2 : kF rsL fsL h h2 := kF_trans F1 (kF_mono f2 (by simp) (by simp))
  have F3 : kF rsL fsL h h3 := kF_trans (kF_pi F2 (x := 121) (by simp) (by omega) _ _) (kF_mono f3 (by simp) (by simp))
  have F4 : kF rsL fsL h h4 := kF_trans (kF_pi F3 (x := 121) (by simp) (by omega) _ _) (kF_mono f4 (by simp) (by simp))
  have F5 : kF rsL fsL h (mPI h4 121 (3 * bD B + 2).toNat x4) := kF_pi F4 (x := 121) (by simp) (by omega) _ _
  have K : ∀ k, k ∉ fsM → k ≠ 114 → True := fun _ _ _ => trivial
  have g21 : ∀ k, 20 ≤ k → h4.1 114 k = h.1 114 k := fun k hk => by
    have a : k ∉ fsM := by simp; omega
    rw [f4.2.1 k a, hI_ne (by omega), f3.2.1 k a, hI_ne (by omega), f2.2.1 k a, f1.2.1 k a]
  have gr : ∀ a : Nat, a ≠ 114 → a ≠ 121 → h4.1 a = h.1 a := fun a a0 a1 => by
    rw [f4.1 a (by simp) a0, hI_ne a1, f3.1 a (by simp) a0, hI_ne a1, f2.1 a (by simp) a0, f1.1 a (by simp) a0]
  have g4 : h4.1 121 = fun y => if y = (3 * bD B + 1).toNat then x3 else (if y = (3 * bD B).toNat then x2 else h.1 121 y) := by
    rw [f4.1 121 (by simp) (by omega), hI_row, f3.1 121 (by simp) (by omega), hI_row, f2.1 121 (by simp) (by omega), f1.1 121 (by simp) (by omega)]
  have M : ∀ out, (((mPI h4 121 (3 * bD B + 2).toNat x4).1 114 11 = zI 0 → out = Sum.inl (none, mPI (mPI h4 121 (3 * bD B + 2).toNat x4) 114 21 (zI (bD B + 1)))) ∧ (¬ (mPI h4 121 (3 * bD B + 2).toNat x4).1 114 11 = zI 0 → out = Sum.inl (none, mPI h4 121 (3 * bD B + 2).toNat x4))) → mRuns (d + 5) 18 0 [some (.ref 114), none] [] h out := by
    intro out H
    refine vc_M_readsDish ⟨fun _ => vc_M_readsDish_14 ⟨_, _, G, ?_⟩, fun z => ?_⟩
    · simp (disch := omega) only [zI_add, zI_sub, zI_mul, zI_neg, zI_lit, zI_0, zI_1, zI_lt, zI_le, zI_eq, zI_clamp, zI_inT, zI_ite, mOb_0, mOb_1, mOb_3, mOb_4, mLd_1, mAr_1, mLen_1, mTrue_t, Int.toNat_zero, Int.toNat_one, true_and, and_true, not_true_eq_false, not_false_eq_true, true_or, or_true, or_self, false_or, or_false, forall_const, false_implies, true_implies, implies_true]
      refine ⟨fun _ => ⟨h1, r1, x2, h2, r2, ?_⟩, fun z => by omega⟩
      simp (disch := omega) only [zI_add, zI_sub, zI_mul, zI_neg, zI_lit, zI_0, zI_1, zI_lt, zI_le, zI_eq, zI_clamp, zI_inT, zI_ite, mOb_0, mOb_1, mOb_3, mOb_4, mLd_1, mAr_1, mLen_1, mTrue_t, Int.toNat_zero, Int.toNat_one, true_and, and_true, not_true_eq_false, not_false_eq_true, true_or, or_true, or_self, false_or, or_false, forall_const, false_implies, true_implies, implies_true, e211, hI_same]
      refine ⟨x3, h3, r3, x4, h4, r4, _, _, s_M_good C4'.2.2.2.1 O4.2.1 O4.2.2.1, ?_⟩
      have e4 : (mPI h4 121 (3 * bD B + 2).toNat x4).1 114 21 = zI (bD B) := by rw [hI_ne (by omega), g21 21 (by omega)]; exact e21
      have ef := O4.2
      rw [C4'.2.2.2.1, zI_eq (by omega) (by omega) (by omega) (by omega)] at H
      by_cases c : rF (dD3 u n R).1 = 0
      · rw [if_pos c]
        simp (disch := omega) only [zI_add, zI_sub, zI_mul, zI_neg, zI_lit, zI_0, zI_1, zI_lt, zI_le, zI_eq, zI_clamp, zI_inT, zI_ite, mOb_0, mOb_1, mOb_3, mOb_4, mLd_1, mAr_1, mLen_1, mTrue_t, Int.toNat_zero, Int.toNat_one, true_and, and_true, not_true_eq_false, not_false_eq_true, true_or, or_true, or_self, false_or, or_false, forall_const, false_implies, true_implies, implies_true, e4]
        repeat' (first | refine And.intro ?_ ?_ | with_reducible intro _)
        all_goals first | omega | exact H.1 c
      · rw [if_neg c]
        simp (disch := omega) only [zI_add, zI_sub, zI_mul, zI_neg, zI_lit, zI_0, zI_1, zI_lt, zI_le, zI_eq, zI_clamp, zI_inT, zI_ite, mOb_0, mOb_1, mOb_3, mOb_4, mLd_1, mAr_1, mLen_1, mTrue_t, Int.toNat_zero, Int.toNat_one, true_and, and_true, not_true_eq_false, not_false_eq_true, true_or, or_true, or_self, false_or, or_false, forall_const, false_implies, true_implies, implies_true, e4]
        repeat' (first | refine And.intro ?_ ?_ | with_reducible intro _)
        all_goals first | omega | exact H.2 c
    · rw [e21, show nI 6 = zI 6 from rfl, zI_eq (by omega) (by omega) (by omega) (by omega)] at z
      omega
  have e7 := C4'.2.2.2.1
  have ef := O4.2
  by_cases c : rF (dD3 u n R).1 = 0
  · refine ⟨mPI (mPI h4 121 (3 * bD B + 2).toNat x4) 114 21 (zI (bD B + 1)), M _ ⟨fun _ => rfl, fun z => absurd (by rw [e7, c]) z⟩, RM_fld C4' (by omega) _, fun _ => ⟨?_, ?_, ?_⟩, kF_pf F5 (by simp) _⟩
    · obtain ⟨y1, y2⟩ := op_f (show rF (aOp u n 5 99 1 (dD2 u n R).1).1 = 0 from c)
      obtain ⟨y3, -⟩ := nu_f (show rF (aNu u n ((dD1 u n R).2 + 1) 95 (dD1 u n R).1).1 = 0 from y1)
      have v2 := v2 y3
      have v3 := v3 y1
      have v4 := v4 c
      refine NM_D hB (by omega) (hI_same _ _ _ _) (fun k k0 k1 => ?_) (fun k k0 k1 => ?_) ?_ ?_ ?_ (fun y hy => ?_)
      · rw [hI_off (by omega), hI_ne (by omega), g21 k (by omega)]
      · rw [hI_ne (by omega), hI_ne (by omega), gr k (by omega) (by omega)]
      · rw [hI_ne (by omega), hI_off (by omega), g4]
        show (if (3 * bD B).toNat = (3 * bD B + 1).toNat then x3 else (if (3 * bD B).toNat = (3 * bD B).toNat then x2 else h.1 121 (3 * bD B).toNat)) = _
        rw [if_neg (by omega), if_pos rfl, v2]
      · rw [hI_ne (by omega), hI_off (by omega), g4]
        show (if (3 * bD B + 1).toNat = (3 * bD B + 1).toNat then x3 else _) = _
        rw [if_pos rfl, v3]
      · rw [hI_ne (by omega), hI_same, v4]
      · rw [hI_ne (by omega), hI_off (by omega), g4]
        show (if y = (3 * bD B + 1).toNat then x3 else (if y = (3 * bD B).toNat then x2 else h.1 121 y)) = _
        rw [if_neg (by omega), if_neg (by omega)]
    · intro k k0 k1
      rw [hI_off (by omega), hI_ne (by omega), g21 25 (by omega)]; exact hU k k0 k1
    · rw [hI_off (by omega), hI_ne (by omega), g21 26 (by omega)]; exact h8
  · exact ⟨_, M _ ⟨fun z => (f_nz ef.1 ef.2.1 c (e7 ▸ z)).elim, fun _ => rfl⟩, C4', fun z => absurd z c, F5⟩

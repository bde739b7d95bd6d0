/-! L3, the class's search: places of notes -/
/-! the notes' places -/
def nFr (k : Int) : Int := if k = 2 then 32 else if k = 3 then 275 else if k = 4 then 1299 else 0
def aKey (k : Int) (c : Int → Int) : Int := (((aMin (c 0) k * (k + 1) + aMin (c 1) k) * (k + 1) + aMin (c 2) k) * (k + 1) + aMin (c 3) k) * (k + 1) + aMin (c 4) k
def nOk (h : mHp) : Prop := ∀ j, j < 5 → h.1 143 j = zI (nFr j)
theorem aMin_rng {x k : Int} (h1 : 0 ≤ x) (h2 : 0 ≤ k) : 0 ≤ aMin x k ∧ aMin x k ≤ k := by unfold aMin; split <;> omega
theorem aKey_rng {k : Int} (k1 : 1 ≤ k) (k4 : k ≤ 4) {c : Int → Int} (hc : cOk c) : 0 ≤ nFr k + aKey k c ∧ nFr k + aKey k c < 4424 ∧ 0 ≤ aKey k c := by
  have r0 := aMin_rng (hc 0 (by omega) (by omega)).1 (show 0 ≤ k by omega)
  have r1 := aMin_rng (hc 1 (by omega) (by omega)).1 (show 0 ≤ k by omega)
  have r2 := aMin_rng (hc 2 (by omega) (by omega)).1 (show 0 ≤ k by omega)
  have r3 := aMin_rng (hc 3 (by omega) (by omega)).1 (show 0 ≤ k by omega)
  have r4 := aMin_rng (hc 4 (by omega) (by omega)).1 (show 0 ≤ k by omega)
  unfold aKey nFr
  generalize aMin (c 0) k = m0 at *
  generalize aMin (c 1) k = m1 at *
  generalize aMin (c 2) k = m2 at *
  generalize aMin (c 3) k = m3 at *
  generalize aMin (c 4) k = m4 at *
  have : k = 1 ∨ k = 2 ∨ k = 3 ∨ k = 4 := by omega
  rcases this with rfl | rfl | rfl | rfl <;> simp only [show ¬ (1 : Int) = 2 by omega, show ¬ (1 : Int) = 3 by omega, show ¬ (1 : Int) = 4 by omega, show ¬ (3 : Int) = 2 by omega, show ¬ (4 : Int) = 2 by omega, show ¬ (4 : Int) = 3 by omega, ↓reduceIte] <;> omega
theorem aKey_inj {k k' : Int} (k1 : 1 ≤ k) (k4 : k ≤ 4) (k1' : 1 ≤ k') (k4' : k' ≤ 4) {c c' : Int → Int} (hc : cOk c) (hc' : cOk c') (h : nFr k + aKey k c = nFr k' + aKey k' c') : k = k' ∧ ∀ t, 0 ≤ t → t < 5 → aMin (c t) k = aMin (c' t) k := by
  have r0 := aMin_rng (hc 0 (by omega) (by omega)).1 (show 0 ≤ k by omega)
  have r1 := aMin_rng (hc 1 (by omega) (by omega)).1 (show 0 ≤ k by omega)
  have r2 := aMin_rng (hc 2 (by omega) (by omega)).1 (show 0 ≤ k by omega)
  have r3 := aMin_rng (hc 3 (by omega) (by omega)).1 (show 0 ≤ k by omega)
  have r4 := aMin_rng (hc 4 (by omega) (by omega)).1 (show 0 ≤ k by omega)
  have p0 := aMin_rng (hc' 0 (by omega) (by omega)).1 (show 0 ≤ k' by omega)
  have p1 := aMin_rng (hc' 1 (by omega) (by omega)).1 (show 0 ≤ k' by omega)
  have p2 := aMin_rng (hc' 2 (by omega) (by omega)).1 (show 0 ≤ k' by omega)
  have p3 := aMin_rng (hc' 3 (by omega) (by omega)).1 (show 0 ≤ k' by omega)
  have p4 := aMin_rng (hc' 4 (by omega) (by omega)).1 (show 0 ≤ k' by omega)
  have hk : k = k' := by
    have q1 : k = 1 ∨ k = 2 ∨ k = 3 ∨ k = 4 := by omega
    have q2 : k' = 1 ∨ k' = 2 ∨ k' = 3 ∨ k' = 4 := by omega
    have e1 : ∀ (x : Int) (m0 m1 m2 m3 m4 : Int), 1 ≤ x → x ≤ 4 → (0 ≤ m0 ∧ m0 ≤ x) → (0 ≤ m1 ∧ m1 ≤ x) → (0 ≤ m2 ∧ m2 ≤ x) → (0 ≤ m3 ∧ m3 ≤ x) → (0 ≤ m4 ∧ m4 ≤ x) → (x = 1 → (((m0 * (x + 1) + m1) * (x + 1) + m2) * (x + 1) + m3) * (x + 1) + m4 ≤ 31) ∧ (x = 2 → (((m0 * (x + 1) + m1) * (x + 1) + m2) * (x + 1) + m3) * (x + 1) + m4 ≤ 242) ∧ (x = 3 → (((m0 * (x + 1) + m1) * (x + 1) + m2) * (x + 1) + m3) * (x + 1) + m4 ≤ 1023) := by
      intro x m0 m1 m2 m3 m4 x1 x2 a0 a1 a2 a3 a4
      refine ⟨fun e => ?_, fun e => ?_, fun e => ?_⟩ <;> subst e <;> omega
    have g1 := e1 k _ _ _ _ _ k1 k4 r0 r1 r2 r3 r4
    have g2 := e1 k' _ _ _ _ _ k1' k4' p0 p1 p2 p3 p4
    have n1 := (aKey_rng k1 k4 hc).2.2
    have n2 := (aKey_rng k1' k4' hc').2.2
    unfold aKey at h n1 n2
    generalize (((aMin (c 0) k * (k + 1) + aMin (c 1) k) * (k + 1) + aMin (c 2) k) * (k + 1) + aMin (c 3) k) * (k + 1) + aMin (c 4) k = X at h g1 n1
    generalize (((aMin (c' 0) k' * (k' + 1) + aMin (c' 1) k') * (k' + 1) + aMin (c' 2) k') * (k' + 1) + aMin (c' 3) k') * (k' + 1) + aMin (c' 4) k' = Y at h g2 n2
    unfold nFr at h
    rcases q1 with rfl | rfl | rfl | rfl <;> rcases q2 with rfl | rfl | rfl | rfl <;> simp only [show ¬ (1 : Int) = 2 by omega, show ¬ (1 : Int) = 3 by omega, show ¬ (1 : Int) = 4 by omega, show ¬ (3 : Int) = 2 by omega, show ¬ (4 : Int) = 2 by omega, show ¬ (4 : Int) = 3 by omega, ↓reduceIte, forall_const, true_implies] at h g1 g2 ⊢ <;> omega
  subst hk
  refine ⟨rfl, ?_⟩
  have h : aKey k c = aKey k c' := by omega
  unfold aKey at h
  have : aMin (c 0) k = aMin (c' 0) k ∧ aMin (c 1) k = aMin (c' 1) k ∧ aMin (c 2) k = aMin (c' 2) k ∧ aMin (c 3) k = aMin (c' 3) k ∧ aMin (c 4) k = aMin (c' 4) k := by
    generalize aMin (c 0) k = m0 at *
    generalize aMin (c 1) k = m1 at *
    generalize aMin (c 2) k = m2 at *
    generalize aMin (c 3) k = m3 at *
    generalize aMin (c 4) k = m4 at *
    generalize aMin (c' 0) k = l0 at *
    generalize aMin (c' 1) k = l1 at *
    generalize aMin (c' 2) k = l2 at *
    generalize aMin (c' 3) k = l3 at *
    generalize aMin (c' 4) k = l4 at *
    have dig : ∀ (x y u v : Int), 0 ≤ u → u ≤ k → 0 ≤ v → v ≤ k → x * (k + 1) + u = y * (k + 1) + v → x = y ∧ u = v := by
      intro x y u v u0 u1 v0 v1 e
      have q1 : k = 1 ∨ k = 2 ∨ k = 3 ∨ k = 4 := by omega
      rcases q1 with rfl | rfl | rfl | rfl <;> omega
    obtain ⟨h, e4⟩ := dig _ _ _ _ r4.1 r4.2 p4.1 p4.2 h
    obtain ⟨h, e3⟩ := dig _ _ _ _ r3.1 r3.2 p3.1 p3.2 h
    obtain ⟨h, e2⟩ := dig _ _ _ _ r2.1 r2.2 p2.1 p2.2 h
    obtain ⟨e0, e1⟩ := dig _ _ _ _ r1.1 r1.2 p1.1 p1.2 h
    exact ⟨e0, e1, e2, e3, e4⟩
  intro t t0 t1
  have q : t = 0 ∨ t = 1 ∨ t = 2 ∨ t = 3 ∨ t = 4 := by omega
  rcases q with rfl | rfl | rfl | rfl | rfl
  · exact this.1
  · exact this.2.1
  · exact this.2.2.1
  · exact this.2.2.2.1
  · exact this.2.2.2.2
theorem s_Pln_notePlace {d : Nat} {h : mHp} {c : Int → Int} (hc : aEq (h.1 30) 5 c) (hk : cOk c) (hn : nOk h) {k : Int} (k1 : 1 ≤ k) (k6 : k ≤ 6) :
    mRuns (d + 1) 118 0 [some (.ref 26), some (.int (zI k)), none, none] [] h (.inl (some (.int (zI (if k ≤ 4 then nFr k + aKey k c else -1))), h)) := by
  refine vc_Pln_notePlace ?_
  simp (disch := omega) only [zI_add, zI_sub, zI_mul, zI_neg, zI_lit, zI_0, zI_1, zI_lt, zI_le, zI_eq, zI_clamp, zI_inT, zI_ite, mOb_0, mOb_1, mOb_3, mOb_4, mLd_1, mAr_1, mLen_1, mTrue_t, Int.toNat_zero, Int.toNat_one, true_and, and_true, not_true_eq_false, not_false_eq_true, true_or, or_true, or_self, false_or, or_false, forall_const, false_implies, true_implies, implies_true]
  by_cases e : k ≤ 4
  · rw [if_pos e]
    refine ⟨fun _ => ?_, fun z => absurd e z⟩
    have c0 := hc 0 (by omega) (by omega)
    have c1 := hc 1 (by omega) (by omega)
    have c2 := hc 2 (by omega) (by omega)
    have c3 := hc 3 (by omega) (by omega)
    have c4 := hc 4 (by omega) (by omega)
    have d0 := hk 0 (by omega) (by omega)
    have d1 := hk 1 (by omega) (by omega)
    have d2 := hk 2 (by omega) (by omega)
    have d3 := hk 3 (by omega) (by omega)
    have d4 := hk 4 (by omega) (by omega)
    have step : ∀ (v t : Int) (x : Int) (out : mOut), 0 ≤ t → t < 5 → h.1 30 t.toNat = zI x → 0 ≤ x → x ≤ 6 → mRuns (d + 1) 118 11 [some (.ref 26), some (.int (zI k)), some (.int (zI (v * (k + 1) + aMin x k))), some (.int (zI (t + 1)))] [] h out → mRuns (d + 1) 118 11 [some (.ref 26), some (.int (zI k)), some (.int (zI v)), some (.int (zI t))] [] h out := by
      intro v t x out t0 t1 hx x0 x1 r
      refine vc_Pln_notePlace_11 ?_
      simp (disch := omega) only [zI_add, zI_sub, zI_mul, zI_neg, zI_lit, zI_0, zI_1, zI_lt, zI_le, zI_eq, zI_clamp, zI_inT, zI_ite, mOb_0, mOb_1, mOb_3, mOb_4, mLd_1, mAr_1, mLen_1, mTrue_t, Int.toNat_zero, Int.toNat_one, true_and, and_true, not_true_eq_false, not_false_eq_true, true_or, or_true, or_self, false_or, or_false, forall_const, false_implies, true_implies, implies_true, hx]
      exact ⟨fun z => by omega, fun _ => r⟩
    refine step 0 0 (c 0) _ (by omega) (by omega) c0 d0.1 d0.2 ?_
    refine step _ (0 + 1) (c 1) _ (by omega) (by omega) c1 d1.1 d1.2 ?_
    refine step _ (0 + 1 + 1) (c 2) _ (by omega) (by omega) c2 d2.1 d2.2 ?_
    refine step _ (0 + 1 + 1 + 1) (c 3) _ (by omega) (by omega) c3 d3.1 d3.2 ?_
    refine step _ (0 + 1 + 1 + 1 + 1) (c 4) _ (by omega) (by omega) c4 d4.1 d4.2 ?_
    refine vc_Pln_notePlace_11 ?_
    have hnk := hn k.toNat (by omega)
    rw [show ((k.toNat : Nat) : Int) = k by omega] at hnk
    have kr := aKey_rng k1 e hk
    rw [show ((((0 * (k + 1) + aMin (c 0) k) * (k + 1) + aMin (c 1) k) * (k + 1) + aMin (c 2) k) * (k + 1) + aMin (c 3) k) * (k + 1) + aMin (c 4) k = aKey k c by unfold aKey; rw [Int.zero_mul, Int.zero_add]]
    simp (disch := omega) only [zI_add, zI_sub, zI_mul, zI_neg, zI_lit, zI_0, zI_1, zI_lt, zI_le, zI_eq, zI_clamp, zI_inT, zI_ite, mOb_0, mOb_1, mOb_3, mOb_4, mLd_1, mAr_1, mLen_1, mTrue_t, Int.toNat_zero, Int.toNat_one, true_and, and_true, not_true_eq_false, not_false_eq_true, true_or, or_true, or_self, false_or, or_false, forall_const, false_implies, true_implies, implies_true, hnk]
    repeat' (first | refine And.intro ?_ ?_ | with_reducible intro _)
    all_goals first | omega | rfl
  · rw [if_neg e]
    exact ⟨fun z => absurd z e, fun _ => rfl⟩

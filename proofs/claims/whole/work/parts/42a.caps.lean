/-! L3, the class's search: caps, notes, bits -/
theorem ite01 (c : Prop) [Decidable c] (x : Int) (hx : 0 < x) : 0 ≤ (if c then x else 0) ∧ ((if c then x else 0) = 0 → ¬ c) := by
  by_cases h : c
  · rw [if_pos h]; exact ⟨by omega, fun z => by omega⟩
  · rw [if_neg h]; exact ⟨by omega, fun _ => h⟩
theorem aDif_0 (s f : Int) : aDif s f = 0 ↔ ∀ t, 0 ≤ t → t < 5 → aBit s t = 1 → aBit f t = 1 := by
  constructor
  · intro h t t0 t1 e
    unfold aDif at h
    have k0 := ite01 (aBit s 0 = 1 ∧ aBit f 0 = 0) 1 (by omega)
    have k1 := ite01 (aBit s 1 = 1 ∧ aBit f 1 = 0) 2 (by omega)
    have k2 := ite01 (aBit s 2 = 1 ∧ aBit f 2 = 0) 4 (by omega)
    have k3 := ite01 (aBit s 3 = 1 ∧ aBit f 3 = 0) 8 (by omega)
    have k4 := ite01 (aBit s 4 = 1 ∧ aBit f 4 = 0) 16 (by omega)
    generalize (if aBit s 0 = 1 ∧ aBit f 0 = 0 then (1 : Int) else 0) = x0 at h k0
    generalize (if aBit s 1 = 1 ∧ aBit f 1 = 0 then (2 : Int) else 0) = x1 at h k1
    generalize (if aBit s 2 = 1 ∧ aBit f 2 = 0 then (4 : Int) else 0) = x2 at h k2
    generalize (if aBit s 3 = 1 ∧ aBit f 3 = 0 then (8 : Int) else 0) = x3 at h k3
    generalize (if aBit s 4 = 1 ∧ aBit f 4 = 0 then (16 : Int) else 0) = x4 at h k4
    obtain ⟨n0, m0⟩ := k0
    obtain ⟨n1, m1⟩ := k1
    obtain ⟨n2, m2⟩ := k2
    obtain ⟨n3, m3⟩ := k3
    obtain ⟨n4, m4⟩ := k4
    have z0 : x0 = 0 := by clear m0 m1 m2 m3 m4; omega
    have z1 : x1 = 0 := by clear m0 m1 m2 m3 m4; omega
    have z2 : x2 = 0 := by clear m0 m1 m2 m3 m4; omega
    have z3 : x3 = 0 := by clear m0 m1 m2 m3 m4; omega
    have z4 : x4 = 0 := by clear m0 m1 m2 m3 m4; omega
    have q : t = 0 ∨ t = 1 ∨ t = 2 ∨ t = 3 ∨ t = 4 := by clear m0 m1 m2 m3 m4; omega
    rcases q with rfl | rfl | rfl | rfl | rfl
    · exact (aBit_01 f 0).elim (fun y => absurd ⟨e, y⟩ (m0 z0)) id
    · exact (aBit_01 f 1).elim (fun y => absurd ⟨e, y⟩ (m1 z1)) id
    · exact (aBit_01 f 2).elim (fun y => absurd ⟨e, y⟩ (m2 z2)) id
    · exact (aBit_01 f 3).elim (fun y => absurd ⟨e, y⟩ (m3 z3)) id
    · exact (aBit_01 f 4).elim (fun y => absurd ⟨e, y⟩ (m4 z4)) id
  · intro h
    have n : ∀ t, 0 ≤ t → t < 5 → ¬ (aBit s t = 1 ∧ aBit f t = 0) := fun t a b z => by rw [h t a b z.1] at z; exact absurd z.2 (by decide)
    unfold aDif
    rw [if_neg (n 0 (by omega) (by omega)), if_neg (n 1 (by omega) (by omega)), if_neg (n 2 (by omega) (by omega)), if_neg (n 3 (by omega) (by omega)), if_neg (n 4 (by omega) (by omega))]
    rfl
def cOk (c : Int → Int) : Prop := ∀ t, 0 ≤ t → t < 5 → 0 ≤ c t ∧ c t ≤ 6
theorem s_Pln_open_loop {d : Nat} {h : mHp} {c : Int → Int} (hc : aEq (h.1 30) 5 c) (hk : cOk c) : ∀ (j : Nat) (t f : Int), t + j = 5 → 0 ≤ t → 0 ≤ f → f < 32 → (∀ u, 0 ≤ u → u < 5 → (aBit f u = 1 ↔ (u < t ∧ 0 < c u))) →
    ∃ x, mRuns (d + 1) 119 4 [some (.ref 26), some (.int (zI f)), some (.int (zI t))] [] h (.inl (some (.int (zI x)), h)) ∧ 0 ≤ x ∧ x < 32 ∧ ∀ u, 0 ≤ u → u < 5 → (aBit x u = 1 ↔ 0 < c u) := by
  intro j
  induction j with
  | zero =>
    intro t f ht t0 f0 f1 hf
    refine ⟨f, vc_Pln_openTasters_4 ?_, f0, f1, fun u a b => (hf u a b).trans ⟨fun z => z.2, fun z => ⟨by omega, z⟩⟩⟩
    simp (disch := omega) only [zI_add, zI_sub, zI_mul, zI_neg, zI_lit, zI_0, zI_1, zI_lt, zI_le, zI_eq, zI_clamp, zI_inT, zI_ite, mOb_0, mOb_1, mOb_3, mOb_4, mLd_1, mAr_1, mLen_1, mTrue_t, Int.toNat_zero, Int.toNat_one, true_and, and_true, not_true_eq_false, not_false_eq_true, true_or, or_true, or_self, false_or, or_false, forall_const, false_implies, true_implies, implies_true]
    intro z; omega
  | succ j ih =>
    intro t f ht t0 f0 f1 hf
    have hct := hk t t0 (by omega)
    have hor := aOr_rng f0 f1 t0 (show t < 5 by omega)
    by_cases e : 0 < c t
    · obtain ⟨x, r, q⟩ := ih (t + 1) (aOr f t) (by omega) (by omega) hor.1 hor.2 (fun u a b => by
        rw [aOr_bit f0 f1 t0 (by omega) a b]
        by_cases z : u = t
        · rw [if_pos z, z]; exact ⟨fun _ => ⟨by omega, e⟩, fun _ => rfl⟩
        · rw [if_neg z]; exact (hf u a b).trans ⟨fun y => ⟨by omega, y.2⟩, fun y => ⟨by omega, y.2⟩⟩)
      refine ⟨x, vc_Pln_openTasters_4 ?_, q⟩
      simp (disch := omega) only [zI_add, zI_sub, zI_mul, zI_neg, zI_lit, zI_0, zI_1, zI_lt, zI_le, zI_eq, zI_clamp, zI_inT, zI_ite, mOb_0, mOb_1, mOb_3, mOb_4, mLd_1, mAr_1, mLen_1, mTrue_t, Int.toNat_zero, Int.toNat_one, true_and, and_true, not_true_eq_false, not_false_eq_true, true_or, or_true, or_self, false_or, or_false, forall_const, false_implies, true_implies, implies_true, hc, zI_shl, zI_or]
      exact ⟨fun z => by omega, fun _ => ⟨fun z => by omega, fun _ => r⟩⟩
    · obtain ⟨x, r, q⟩ := ih (t + 1) f (by omega) (by omega) f0 f1 (fun u a b => (hf u a b).trans ⟨fun y => ⟨by omega, y.2⟩, fun y => ⟨by
        by_cases z : u = t
        · rw [z] at y; exact absurd y.2 e
        · omega, y.2⟩⟩)
      refine ⟨x, vc_Pln_openTasters_4 ?_, q⟩
      simp (disch := omega) only [zI_add, zI_sub, zI_mul, zI_neg, zI_lit, zI_0, zI_1, zI_lt, zI_le, zI_eq, zI_clamp, zI_inT, zI_ite, mOb_0, mOb_1, mOb_3, mOb_4, mLd_1, mAr_1, mLen_1, mTrue_t, Int.toNat_zero, Int.toNat_one, true_and, and_true, not_true_eq_false, not_false_eq_true, true_or, or_true, or_self, false_or, or_false, forall_const, false_implies, true_implies, implies_true, hc, zI_shl, zI_or]
      exact ⟨fun z => by omega, fun _ => ⟨fun _ => r, fun z => by omega⟩⟩
theorem s_Pln_open {d : Nat} {h : mHp} {c : Int → Int} (hc : aEq (h.1 30) 5 c) (hk : cOk c) :
    ∃ x, mRuns (d + 1) 119 0 [some (.ref 26), none, none] [] h (.inl (some (.int (zI x)), h)) ∧ 0 ≤ x ∧ x < 32 ∧ ∀ s, (aDif s x = 0 ↔ okS c s) := by
  obtain ⟨x, r, x0, x1, q⟩ := s_Pln_open_loop (d := d) hc hk 5 0 0 (by omega) (by omega) (by omega) (by omega) (fun u a b => by
    have : aBit 0 u = 0 := by unfold aBit; simp
    omega)
  refine ⟨x, vc_Pln_openTasters ?_, x0, x1, fun s => ?_⟩
  · simp (disch := omega) only [zI_add, zI_sub, zI_mul, zI_neg, zI_lit, zI_0, zI_1, zI_lt, zI_le, zI_eq, zI_clamp, zI_inT, zI_ite, mOb_0, mOb_1, mOb_3, mOb_4, mLd_1, mAr_1, mLen_1, mTrue_t, Int.toNat_zero, Int.toNat_one, true_and, and_true, not_true_eq_false, not_false_eq_true, true_or, or_true, or_self, false_or, or_false, forall_const, false_implies, true_implies, implies_true]
    exact r
  · rw [aDif_0, okS_iff]
    exact ⟨fun z t a b e => (q t a b).mp (z t a b e), fun z t a b e => (q t a b).mpr (z t a b e)⟩
theorem s_Pln_change_loop {d : Nat} {s k : Int} (s0 : 0 ≤ s) (s1 : s < 32) {c : Int → Int} : ∀ (j : Nat) (t : Int) (h : mHp), t + j = 5 → 0 ≤ t → aEq (h.1 30) 5 (fun u => if u < t then c u + k * aBit s u else c u) →
    ∃ h', mRuns (d + 1) 121 2 [some (.ref 26), some (.int (zI s)), some (.int (zI k)), some (.int (zI t))] [] h (.inl (none, h')) ∧ aEq (h'.1 30) 5 (fun u => c u + k * aBit s u) ∧ hFr [30] h h' := by
  intro j
  induction j with
  | zero =>
    intro t h ht t0 hc
    refine ⟨h, vc_Pln_changeCaps_2 ?_, aEq_fn hc (fun i a b => by rw [if_pos (by omega)]), hFr_refl _ _⟩
    simp (disch := omega) only [zI_add, zI_sub, zI_mul, zI_neg, zI_lit, zI_0, zI_1, zI_lt, zI_le, zI_eq, zI_clamp, zI_inT, zI_ite, mOb_0, mOb_1, mOb_3, mOb_4, mLd_1, mAr_1, mLen_1, mTrue_t, Int.toNat_zero, Int.toNat_one, true_and, and_true, not_true_eq_false, not_false_eq_true, true_or, or_true, or_self, false_or, or_false, forall_const, false_implies, true_implies, implies_true]
    intro z; omega
  | succ j ih =>
    intro t h ht t0 hc
    have hb := aBit_01 s t
    have hv := hc t t0 (by omega)
    have hv : h.1 30 t.toNat = zI (c t) := by rw [hv]; show zI (if _ then _ else _) = _; rw [if_neg (by omega)]
    by_cases e : aBit s t = 0
    · obtain ⟨h', r, p, f⟩ := ih (t + 1) h (by omega) (by omega) (aEq_fn hc (fun i a b => by
        by_cases z : i < t
        · rw [if_pos z, if_pos (by omega)]
        · rw [if_neg z]
          by_cases y : i < t + 1
          · rw [if_pos y, show i = t by omega, e, Int.mul_zero, Int.add_zero]
          · rw [if_neg y]))
      refine ⟨h', vc_Pln_changeCaps_2 ?_, p, f⟩
      simp (disch := omega) only [zI_add, zI_sub, zI_mul, zI_neg, zI_lit, zI_0, zI_1, zI_lt, zI_le, zI_eq, zI_clamp, zI_inT, zI_ite, mOb_0, mOb_1, mOb_3, mOb_4, mLd_1, mAr_1, mLen_1, mTrue_t, Int.toNat_zero, Int.toNat_one, true_and, and_true, not_true_eq_false, not_false_eq_true, true_or, or_true, or_self, false_or, or_false, forall_const, false_implies, true_implies, implies_true, zI_bit, e]
      repeat' (first | refine And.intro ?_ ?_ | with_reducible intro _)
      all_goals first | omega | exact r
    · have e1 : aBit s t = 1 := by omega
      obtain ⟨h', r, p, f⟩ := ih (t + 1) (mPI h 30 t.toNat (zI (c t + k))) (by omega) (by omega) (by
        intro i a b
        show _ = zI (if _ then _ else _)
        by_cases y : i = t
        · rw [y, hI_same, if_pos (by omega), e1, Int.mul_one]
        · rw [hI_off (by omega), hc i a b]
          show zI (if _ then _ else _) = _
          by_cases z : i < t
          · rw [if_pos z, if_pos (by omega)]
          · rw [if_neg z, if_neg (by omega)])
      refine ⟨h', vc_Pln_changeCaps_2 ?_, p, hFr_trans (hFr_pi (hFr_refl _ _) (by simp) _ _) f⟩
      simp (disch := omega) only [zI_add, zI_sub, zI_mul, zI_neg, zI_lit, zI_0, zI_1, zI_lt, zI_le, zI_eq, zI_clamp, zI_inT, zI_ite, mOb_0, mOb_1, mOb_3, mOb_4, mLd_1, mAr_1, mLen_1, mTrue_t, Int.toNat_zero, Int.toNat_one, true_and, and_true, not_true_eq_false, not_false_eq_true, true_or, or_true, or_self, false_or, or_false, forall_const, false_implies, true_implies, implies_true, zI_bit, e1, hv]
      repeat' (first | refine And.intro ?_ ?_ | with_reducible intro _)
      all_goals first | omega | exact r
theorem s_Pln_change {d : Nat} {h : mHp} {s k : Int} (s0 : 0 ≤ s) (s1 : s < 32) {c : Int → Int} (hc : aEq (h.1 30) 5 c) :
    ∃ h', mRuns (d + 1) 121 0 [some (.ref 26), some (.int (zI s)), some (.int (zI k)), none] [] h (.inl (none, h')) ∧ aEq (h'.1 30) 5 (fun u => c u + k * aBit s u) ∧ hFr [30] h h' := by
  obtain ⟨h', r, p, f⟩ := s_Pln_change_loop (d := d) (k := k) s0 s1 5 0 h (by omega) (by omega) (aEq_fn hc (fun i a b => by rw [if_neg (by omega)]))
  refine ⟨h', vc_Pln_changeCaps ?_, p, f⟩
  simp (disch := omega) only [zI_add, zI_sub, zI_mul, zI_neg, zI_lit, zI_0, zI_1, zI_lt, zI_le, zI_eq, zI_clamp, zI_inT, zI_ite, mOb_0, mOb_1, mOb_3, mOb_4, mLd_1, mAr_1, mLen_1, mTrue_t, Int.toNat_zero, Int.toNat_one, true_and, and_true, not_true_eq_false, not_false_eq_true, true_or, or_true, or_self, false_or, or_false, forall_const, false_implies, true_implies, implies_true]
  exact r
theorem s_Pln_timeOf {d : Nat} {h : mHp} {b : Nat} {B : tB} (hb : bAd b) (hR : h.2.2.1 26 1 = b) (hB : BC h b B) (hO : BOk B) {q : Int} (q0 : 0 ≤ q) (q1 : q < bD B) :
    mRuns (d + 1) 113 0 [some (.ref 26), some (.int (zI q))] [] h (.inl (some (.int (zI (bF B 1 q - bF B 0 q))), h)) := by
  have o := hO.1
  obtain ⟨b0, b1, b2, b3, b4, b5, b6, b7, b8, b9, b10⟩ := bSh_of hb
  have sb := bBl_of hb
  obtain ⟨e0, e4, e9, e13, x1, x2, x3, x4, x5, x6, x7, x8, x9, x10⟩ := id hB
  refine vc_Pln_timeOf ?_
  simp (disch := omega) only [zI_add, zI_sub, zI_mul, zI_neg, zI_lit, zI_0, zI_1, zI_lt, zI_le, zI_eq, zI_clamp, zI_inT, zI_ite, mOb_0, mOb_1, mOb_3, mOb_4, mLd_1, mAr_1, mLen_1, mTrue_t, Int.toNat_zero, Int.toNat_one, true_and, and_true, not_true_eq_false, not_false_eq_true, true_or, or_true, or_self, false_or, or_false, forall_const, false_implies, true_implies, implies_true, hR, sb, b0, b1, b2, x1, x2]

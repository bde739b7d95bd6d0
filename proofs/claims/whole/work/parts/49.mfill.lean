/-! L3, the model's least colds -/
def p7 (t : Int) : Int := if t = 0 then 1 else if t = 1 then 7 else if t = 2 then 49 else if t = 3 then 343 else if t = 4 then 2401 else 16807
theorem p7_rng (t : Int) : 1 ≤ p7 t ∧ p7 t ≤ 16807 := by unfold p7; repeat' split <;> omega
theorem p7_v : p7 0 = 1 ∧ p7 1 = 7 ∧ p7 2 = 49 ∧ p7 3 = 343 ∧ p7 4 = 2401 ∧ p7 5 = 16807 := by decide
def dig (u t : Int) : Int := u / p7 t % 7
theorem dig_rng {u t : Int} (h : 0 ≤ u) : 0 ≤ u / p7 t ∧ u / p7 t ≤ u ∧ 0 ≤ dig u t ∧ dig u t ≤ 6 := by
  have := p7_rng t
  have h1 : 0 ≤ u / p7 t := Int.ediv_nonneg h (by omega)
  have h2 : u / p7 t ≤ u := Int.ediv_le_self _ h
  unfold dig
  omega
theorem dig_v (u : Int) : dig u 0 = u % 7 ∧ dig u 1 = u / 7 % 7 ∧ dig u 2 = u / 49 % 7 ∧ dig u 3 = u / 343 % 7 ∧ dig u 4 = u / 2401 % 7 := by
  have v := p7_v
  unfold dig
  rw [v.1, v.2.1, v.2.2.1, v.2.2.2.1, v.2.2.2.2.1, Int.ediv_one]
  exact ⟨rfl, rfl, rfl, rfl, rfl⟩
def sm (s : Int) : Int := aBit s 0 + 7 * aBit s 1 + 49 * aBit s 2 + 343 * aBit s 3 + 2401 * aBit s 4
theorem five {P : Int → Prop} (h0 : P 0) (h1 : P 1) (h2 : P 2) (h3 : P 3) (h4 : P 4) : ∀ t, 0 ≤ t → t < 5 → P t := by
  intro t a b
  have : t = 0 ∨ t = 1 ∨ t = 2 ∨ t = 3 ∨ t = 4 := by omega
  rcases this with rfl | rfl | rfl | rfl | rfl <;> assumption
theorem dig_add {u s : Int} (u0 : 0 ≤ u) (u1 : u < 16807) (h : ∀ t, 0 ≤ t → t < 5 → dig u t + aBit s t ≤ 6) : ∀ t, 0 ≤ t → t < 5 → dig (u + sm s) t = dig u t + aBit s t := by
  have a0 := aBit_01 s 0; have a1 := aBit_01 s 1; have a2 := aBit_01 s 2; have a3 := aBit_01 s 3; have a4 := aBit_01 s 4
  have h0 := h 0 (by omega) (by omega); have h1 := h 1 (by omega) (by omega); have h2 := h 2 (by omega) (by omega); have h3 := h 3 (by omega) (by omega); have h4 := h 4 (by omega) (by omega)
  obtain ⟨e0, e1, e2, e3, e4⟩ := dig_v u
  obtain ⟨g0, g1, g2, g3, g4⟩ := dig_v (u + sm s)
  rw [e0] at h0; rw [e1] at h1; rw [e2] at h2; rw [e3] at h3; rw [e4] at h4
  have f0 : dig (u + sm s) 0 = dig u 0 + aBit s 0 := by rw [g0, e0]; unfold sm; omega
  have q1 : (u + sm s) / 7 = u / 7 + (aBit s 1 + 7 * aBit s 2 + 49 * aBit s 3 + 343 * aBit s 4) := by unfold sm; omega
  have q2 : (u + sm s) / 49 = u / 49 + (aBit s 2 + 7 * aBit s 3 + 49 * aBit s 4) := by
    rw [show (49 : Int) = 7 * 7 by omega, ← Int.ediv_ediv_of_nonneg (by omega), q1, ← Int.ediv_ediv_of_nonneg (by omega)]
    rw [show u / 49 = u / 7 / 7 by rw [Int.ediv_ediv_of_nonneg (by omega)]; rfl] at h2
    omega
  have q3 : (u + sm s) / 343 = u / 343 + (aBit s 3 + 7 * aBit s 4) := by
    rw [show (343 : Int) = 49 * 7 by omega, ← Int.ediv_ediv_of_nonneg (by omega), q2, ← Int.ediv_ediv_of_nonneg (by omega)]
    omega
  have q4 : (u + sm s) / 2401 = u / 2401 + aBit s 4 := by
    rw [show (2401 : Int) = 343 * 7 by omega, ← Int.ediv_ediv_of_nonneg (by omega), q3, ← Int.ediv_ediv_of_nonneg (by omega)]
    omega
  refine five f0 ?_ ?_ ?_ ?_
  · rw [g1, e1, q1]; omega
  · rw [g2, e2, q2]; omega
  · rw [g3, e3, q3]; omega
  · rw [g4, e4, q4]; omega
theorem dig_sum {u : Int} (u0 : 0 ≤ u) (u1 : u < 16807) : u = dig u 0 + 7 * dig u 1 + 49 * dig u 2 + 343 * dig u 3 + 2401 * dig u 4 := by
  obtain ⟨e0, e1, e2, e3, e4⟩ := dig_v u
  rw [e0, e1, e2, e3, e4]
  have q2 : u / 49 = u / 7 / 7 := by rw [Int.ediv_ediv_of_nonneg (by omega)]; rfl
  have q3 : u / 343 = u / 49 / 7 := by rw [Int.ediv_ediv_of_nonneg (by omega)]; rfl
  have q4 : u / 2401 = u / 343 / 7 := by rw [Int.ediv_ediv_of_nonneg (by omega)]; rfl
  omega
theorem p7_le {n : Int} (n0 : 0 ≤ n) (n5 : n ≤ 5) {u s : Int} (u0 : 0 ≤ u) (u1 : u < p7 n) (s0 : 0 ≤ s) (s1 : s < aPow n) (h : ∀ t, 0 ≤ t → t < 5 → dig u t + aBit s t ≤ 6) : 0 ≤ u + sm s ∧ u + sm s < p7 n := by
  have v := p7_v
  have pr := p7_rng n
  have hs32 := (aPow_le n0 n5).2
  have hz := (small_iff n0 n5 s0 (by omega)).mp s1
  have a0 := aBit_01 s 0; have a1 := aBit_01 s 1; have a2 := aBit_01 s 2; have a3 := aBit_01 s 3; have a4 := aBit_01 s 4
  have h0 := h 0 (by omega) (by omega); have h1 := h 1 (by omega) (by omega); have h2 := h 2 (by omega) (by omega); have h3 := h 3 (by omega) (by omega); have h4 := h 4 (by omega) (by omega)
  have r0 := dig_rng (t := 0) u0; have r1 := dig_rng (t := 1) u0; have r2 := dig_rng (t := 2) u0; have r3 := dig_rng (t := 3) u0; have r4 := dig_rng (t := 4) u0
  have hd := dig_sum u0 (by omega)
  unfold sm
  refine ⟨by omega, ?_⟩
  have hn : n = 0 ∨ n = 1 ∨ n = 2 ∨ n = 3 ∨ n = 4 ∨ n = 5 := by omega
  rcases hn with rfl | rfl | rfl | rfl | rfl | rfl
  · have := hz 0 (by omega) (by omega); have := hz 1 (by omega) (by omega); have := hz 2 (by omega) (by omega); have := hz 3 (by omega) (by omega); have := hz 4 (by omega) (by omega); omega
  · have := hz 1 (by omega) (by omega); have := hz 2 (by omega) (by omega); have := hz 3 (by omega) (by omega); have := hz 4 (by omega) (by omega); omega
  · have := hz 2 (by omega) (by omega); have := hz 3 (by omega) (by omega); have := hz 4 (by omega) (by omega); omega
  · have := hz 3 (by omega) (by omega); have := hz 4 (by omega) (by omega); omega
  · have := hz 4 (by omega) (by omega); omega
  · omega
theorem sm_sum {n s : Int} (n0 : 0 ≤ n) (n5 : n ≤ 5) (s0 : 0 ≤ s) (s1 : s < aPow n) : sS (fun i => aBit s i * p7 i) n.toNat 0 = sm s := by
  have v := p7_v
  have hs32 := (aPow_le n0 n5).2
  have hz := (small_iff n0 n5 s0 (by omega)).mp s1
  have hn : n = 0 ∨ n = 1 ∨ n = 2 ∨ n = 3 ∨ n = 4 ∨ n = 5 := by omega
  unfold sm
  rcases hn with rfl | rfl | rfl | rfl | rfl | rfl
  · rw [hz 0 (by omega) (by omega), hz 1 (by omega) (by omega), hz 2 (by omega) (by omega), hz 3 (by omega) (by omega), hz 4 (by omega) (by omega)]; rfl
  · rw [hz 1 (by omega) (by omega), hz 2 (by omega) (by omega), hz 3 (by omega) (by omega), hz 4 (by omega) (by omega)]
    show aBit s 0 * p7 0 + 0 = _
    rw [v.1]; omega
  · rw [hz 2 (by omega) (by omega), hz 3 (by omega) (by omega), hz 4 (by omega) (by omega)]
    show aBit s 0 * p7 0 + (aBit s 1 * p7 1 + 0) = _
    rw [v.1, v.2.1]; omega
  · rw [hz 3 (by omega) (by omega), hz 4 (by omega) (by omega)]
    show aBit s 0 * p7 0 + (aBit s 1 * p7 1 + (aBit s 2 * p7 2 + 0)) = _
    rw [v.1, v.2.1, v.2.2.1]; omega
  · rw [hz 4 (by omega) (by omega)]
    show aBit s 0 * p7 0 + (aBit s 1 * p7 1 + (aBit s 2 * p7 2 + (aBit s 3 * p7 3 + 0))) = _
    rw [v.1, v.2.1, v.2.2.1, v.2.2.2.1]; omega
  · show aBit s 0 * p7 0 + (aBit s 1 * p7 1 + (aBit s 2 * p7 2 + (aBit s 3 * p7 3 + (aBit s 4 * p7 4 + 0)))) = _
    rw [v.1, v.2.1, v.2.2.1, v.2.2.2.1, v.2.2.2.2.1]; omega
def PW (h : mHp) : Prop := ∀ t, 0 ≤ t → t ≤ 5 → h.1 129 t.toNat = zI (p7 t)
def mrOk (B : tB) (u s : Int) : Prop := ∀ t, 0 ≤ t → t < bT B → aBit s t = 1 → dig u t < bF B 8 t
theorem s_M_more_loop {d : Nat} {h : mHp} {B : tB} (hB : BM h B) (hO : BOk B) (hP : PW h) {u s : Int} (u0 : 0 ≤ u) (u1 : u < 16807) (s0 : 0 ≤ s) (s1 : s < 32) : ∀ (j : Nat) (t v : Int) (out : mOut), t + j = bT B → 0 ≤ t → 0 ≤ v → v ≤ 100000 + 16807 * t → (∀ i, 0 ≤ i → i < t → aBit s i = 1 → dig u i < bF B 8 i) →
    (mrOk B u s → out = .inl (some (.int (zI (v + sS (fun i => aBit s i * p7 i) j t))), h)) → (¬ mrOk B u s → out = .inl (some (.int (zI (-1))), h)) →
    mRuns (d + 1) 50 5 [some (.ref 114), some (.int (zI u)), some (.int (zI s)), some (.int (zI v)), some (.int (zI t))] [] h out := by
  have o := hO.1
  obtain ⟨e1, e2, e3, e4, a1, a2, a3, a4, a5, a6, a7, a8, a9, a10⟩ := id hB
  intro j
  induction j with
  | zero =>
    intro t v out ht t0 v0 v1 hk hy hn
    refine vc_M_more_5 ?_
    have := hy (fun i a b c => hk i a (by omega) c)
    rw [show sS (fun i => aBit s i * p7 i) 0 t = 0 from rfl, Int.add_zero] at this
    simp (disch := omega) only [zI_add, zI_sub, zI_mul, zI_neg, zI_lit, zI_0, zI_1, zI_lt, zI_le, zI_eq, zI_clamp, zI_inT, zI_ite, mOb_0, mOb_1, mOb_3, mOb_4, mLd_1, mAr_1, mLen_1, mTrue_t, Int.toNat_zero, Int.toNat_one, true_and, and_true, not_true_eq_false, not_false_eq_true, true_or, or_true, or_self, false_or, or_false, forall_const, false_implies, true_implies, implies_true, e3]
    exact ⟨fun _ => this, fun z => by omega⟩
  | succ j ih =>
    intro t v out ht t0 v0 v1 hk hy hn
    have hb := aBit_01 s t
    have pr := p7_rng t
    have dr := dig_rng (t := t) u0
    have o4 := hO.2.2.2.1 t t0 (by omega)
    have hw := hP t t0 (by omega)
    have dd : dig u t = u / p7 t % 7 := rfl
    rw [sS_s] at hy
    refine vc_M_more_5 ?_
    simp (disch := omega) only [zI_add, zI_sub, zI_mul, zI_neg, zI_lit, zI_0, zI_1, zI_lt, zI_le, zI_eq, zI_clamp, zI_inT, zI_ite, mOb_0, mOb_1, mOb_3, mOb_4, mLd_1, mAr_1, mLen_1, mTrue_t, Int.toNat_zero, Int.toNat_one, true_and, and_true, not_true_eq_false, not_false_eq_true, true_or, or_true, or_self, false_or, or_false, forall_const, false_implies, true_implies, implies_true, e3, zI_bit, hw, zI_div, a9]
    refine ⟨fun z => by omega, fun _ => ⟨fun y => ⟨by omega, by omega, ?_, ?_⟩, fun y => ?_⟩⟩
    · intro lt
      refine ih (t + 1) _ out (by omega) (by omega) (by omega) (by omega) (fun i a b c => ?_) (fun k => ?_) hn
      · by_cases e : i = t
        · rw [e]; omega
        · exact hk i a (by omega) c
      · have := hy k
        rw [show aBit s t = 1 by omega, Int.one_mul, ← Int.add_assoc] at this
        exact this
    · intro ge
      exact hn (fun k => by have := k t t0 (by omega) (by omega); omega)
    · refine ih (t + 1) v out (by omega) (by omega) (by omega) (by omega) (fun i a b c => ?_) (fun k => ?_) hn
      · by_cases e : i = t
        · rw [e] at c; omega
        · exact hk i a (by omega) c
      · have := hy k
        rw [y, Int.zero_mul, Int.zero_add] at this
        exact this
theorem s_M_more {d : Nat} {h : mHp} {B : tB} (hB : BM h B) (hO : BOk B) (hP : PW h) {u s : Int} (u0 : 0 ≤ u) (u1 : u < 16807) (s0 : 0 ≤ s) (s1 : s < aPow (bT B)) :
    ∃ x, ((mrOk B u s ∧ x = u + sm s) ∨ (¬ mrOk B u s ∧ x = -1)) ∧ mRuns (d + 1) 50 0 [some (.ref 114), some (.int (zI u)), some (.int (zI s)), none, none] [] h (.inl (some (.int (zI x)), h)) := by
  have o := hO.1
  have hp := aPow_le o.2.2.2.2.1 o.2.2.2.2.2.1
  by_cases k : mrOk B u s
  · refine ⟨u + sm s, Or.inl ⟨k, rfl⟩, vc_M_more ?_⟩
    refine s_M_more_loop hB hO hP u0 u1 s0 (by omega) (bT B).toNat 0 u _ (by omega) (by omega) u0 (by omega) (fun i a b => by omega) (fun _ => ?_) (fun n => absurd k n)
    rw [sm_sum (by omega) (by omega) s0 s1]
  · refine ⟨-1, Or.inr ⟨k, rfl⟩, vc_M_more ?_⟩
    exact s_M_more_loop hB hO hP u0 u1 s0 (by omega) (bT B).toNat 0 u _ (by omega) (by omega) u0 (by omega) (fun i a b => by omega) (fun n => absurd n k) (fun _ => rfl)
def isU (B : tB) (u so q : Int) : Prop := ∀ t, 0 ≤ t → t < bT B → dig u t ≤ if aBit so t = 1 then q else 0
theorem s_M_isUsed_loop {d : Nat} {h : mHp} {B : tB} (hB : BM h B) (hO : BOk B) (hP : PW h) {u so q : Int} (u0 : 0 ≤ u) (u1 : u < 16807) (s0 : 0 ≤ so) (s1 : so < 32) (q0 : 0 ≤ q) (q1 : q ≤ 6) : ∀ (j : Nat) (t : Int) (out : mOut), t + j = bT B → 0 ≤ t → (∀ i, 0 ≤ i → i < t → dig u i ≤ if aBit so i = 1 then q else 0) →
    (isU B u so q → out = .inl (some (.int (zI 1)), h)) → (¬ isU B u so q → out = .inl (some (.int (zI 0)), h)) →
    mRuns (d + 1) 49 3 [some (.ref 114), some (.int (zI u)), some (.int (zI so)), some (.int (zI q)), some (.int (zI t))] [] h out := by
  have o := hO.1
  obtain ⟨e1, e2, e3, e4, a1, a2, a3, a4, a5, a6, a7, a8, a9, a10⟩ := id hB
  intro j
  induction j with
  | zero =>
    intro t out ht t0 hk hy hn
    refine vc_M_isUsed_3 ?_
    have := hy (fun i a b => hk i a (by omega))
    simp (disch := omega) only [zI_add, zI_sub, zI_mul, zI_neg, zI_lit, zI_0, zI_1, zI_lt, zI_le, zI_eq, zI_clamp, zI_inT, zI_ite, mOb_0, mOb_1, mOb_3, mOb_4, mLd_1, mAr_1, mLen_1, mTrue_t, Int.toNat_zero, Int.toNat_one, true_and, and_true, not_true_eq_false, not_false_eq_true, true_or, or_true, or_self, false_or, or_false, forall_const, false_implies, true_implies, implies_true, e3]
    exact ⟨fun _ => this, fun z => by omega⟩
  | succ j ih =>
    intro t out ht t0 hk hy hn
    have hb := aBit_01 so t
    have pr := p7_rng t
    have dr := dig_rng (t := t) u0
    have hw := hP t t0 (by omega)
    have dd : dig u t = u / p7 t % 7 := rfl
    refine vc_M_isUsed_3 ?_
    have step : dig u t ≤ (if aBit so t = 1 then q else 0) → mRuns (d + 1) 49 3 [some (.ref 114), some (.int (zI u)), some (.int (zI so)), some (.int (zI q)), some (.int (zI (t + 1)))] [] h out := fun y =>
      ih (t + 1) out (by omega) (by omega) (fun i a b => by
        by_cases e : i = t
        · rw [e]; exact y
        · exact hk i a (by omega)) hy hn
    have stop : ¬ dig u t ≤ (if aBit so t = 1 then q else 0) → out = .inl (some (.int (zI 0)), h) := fun y => hn (fun k => y (k t t0 (by omega)))
    simp (disch := omega) only [zI_add, zI_sub, zI_mul, zI_neg, zI_lit, zI_0, zI_1, zI_lt, zI_le, zI_eq, zI_clamp, zI_inT, zI_ite, mOb_0, mOb_1, mOb_3, mOb_4, mLd_1, mAr_1, mLen_1, mTrue_t, Int.toNat_zero, Int.toNat_one, true_and, and_true, not_true_eq_false, not_false_eq_true, true_or, or_true, or_self, false_or, or_false, forall_const, false_implies, true_implies, implies_true, e3, zI_bit, hw, zI_div]
    refine ⟨fun z => by omega, fun _ => ⟨by omega, by omega, fun y => ?_, fun y => ?_⟩⟩
    · rw [if_neg y] at step stop
      exact ⟨fun z => step (by omega), fun z => stop (by omega)⟩
    · rw [if_pos y] at step stop
      exact ⟨fun z => step (by omega), fun z => stop (by omega)⟩
theorem s_M_isUsed {d : Nat} {h : mHp} {B : tB} (hB : BM h B) (hO : BOk B) (hP : PW h) {u so q : Int} (u0 : 0 ≤ u) (u1 : u < 16807) (s0 : 0 ≤ so) (s1 : so < 32) (q0 : 0 ≤ q) (q1 : q ≤ 6) :
    ∃ x, ((isU B u so q ∧ x = 1) ∨ (¬ isU B u so q ∧ x = 0)) ∧ mRuns (d + 1) 49 0 [some (.ref 114), some (.int (zI u)), some (.int (zI so)), some (.int (zI q)), none] [] h (.inl (some (.int (zI x)), h)) := by
  have o := hO.1
  by_cases k : isU B u so q
  · exact ⟨1, Or.inl ⟨k, rfl⟩, vc_M_isUsed (s_M_isUsed_loop hB hO hP u0 u1 s0 s1 q0 q1 (bT B).toNat 0 _ (by omega) (by omega) (fun i a b => by omega) (fun _ => rfl) (fun n => absurd k n))⟩
  · exact ⟨0, Or.inr ⟨k, rfl⟩, vc_M_isUsed (s_M_isUsed_loop hB hO hP u0 u1 s0 s1 q0 q1 (bT B).toNat 0 _ (by omega) (by omega) (fun i a b => by omega) (fun n => absurd n k) (fun _ => rfl))⟩

/-! L3, cases that fit: when one falls by a case, whether it fits; the model's side -/
def aFlR (B : tB) (E : tE) (t q p : Int) : Nat → Int → Int → Int
  | 0, _, v => v
  | j + 1, i, v => aFlR B E t q p j (i + 1) (if eF E 0 i = t ∧ eF E 1 i = q ∧ aSho B t p (eF E 3 i) ≠ -1 ∧ eF E 2 i + aSho B t p (eF E 3 i) < v then eF E 2 i + aSho B t p (eF E 3 i) else v)
def aFlc (top : Int) (B : tB) (E : tE) (c t : Int) : Int := if c = 0 then top else aFlR B E t ((c - 1) / bP B) ((c - 1) % bP B) (eN E).toNat 0 top
def aMin (a b : Int) : Int := if b < a then b else a
def aFitR (top : Int) (B : tB) (E : tE) (tick c q : Int) : Nat → Int → Int
  | 0, _ => 1
  | j + 1, t => if bF B 7 t = 4 ∨ (aFell E t = -1 ∧ tick < aMin (aFlc top B E c t) (aFlc top B E q t)) ∨ (aFell E t ≠ -1 ∧ aMin (aFlc top B E c t) (aFlc top B E q t) = aFell E t) then aFitR top B E tick c q j (t + 1) else 0
def aFit (top : Int) (B : tB) (E : tE) (tick c q : Int) : Int := aFitR top B E tick c q (bT B).toNat 0
theorem case_split {c nd np : Int} (h1 : 1 ≤ c) (h2 : c < 1 + nd * np) (hp : 0 ≤ np) (hp' : np ≤ 5) : 1 ≤ np ∧ 0 ≤ (c - 1) / np ∧ (c - 1) / np < nd ∧ 0 ≤ (c - 1) % np ∧ (c - 1) % np < np ∧ c = 1 + (c - 1) / np * np + (c - 1) % np := by
  have : np = 0 ∨ np = 1 ∨ np = 2 ∨ np = 3 ∨ np = 4 ∨ np = 5 := by omega
  rcases this with rfl | rfl | rfl | rfl | rfl | rfl <;> omega
theorem case_rng {nd np : Int} (hd : 0 ≤ nd) (hd' : nd ≤ 6) (hp : 0 ≤ np) (hp' : np ≤ 5) : 0 ≤ nd * np ∧ nd * np ≤ 30 := by
  have : np = 0 ∨ np = 1 ∨ np = 2 ∨ np = 3 ∨ np = 4 ∨ np = 5 := by omega
  rcases this with rfl | rfl | rfl | rfl | rfl | rfl <;> omega
theorem case_join {nd np q p : Int} (hq : 0 ≤ q) (hq' : q < nd) (hp : 0 ≤ p) (hp' : p < np) (hn : np ≤ 5) : 1 ≤ 1 + q * np + p ∧ 1 + q * np + p < 1 + nd * np ∧ (1 + q * np + p - 1) / np = q ∧ (1 + q * np + p - 1) % np = p := by
  have : np = 1 ∨ np = 2 ∨ np = 3 ∨ np = 4 ∨ np = 5 := by omega
  rcases this with rfl | rfl | rfl | rfl | rfl <;> omega
theorem aFlR_two {B : tB} {E : tE} (hO : BOk B) (hE : EOk B E) {t q p : Int} (hp : 0 ≤ p) (hp' : p < bP B) : ∀ (j : Nat) (i v v' : Int), 0 ≤ i → i + j ≤ eN E → ((100000 ≤ v ∧ v ≤ 1048576 ∧ 100000 ≤ v' ∧ v' ≤ 1048576) ∨ (v = v' ∧ 0 ≤ v ∧ v ≤ 1079)) →
    (100000 ≤ aFlR B E t q p j i v ∧ aFlR B E t q p j i v ≤ 1048576 ∧ 100000 ≤ aFlR B E t q p j i v' ∧ aFlR B E t q p j i v' ≤ 1048576) ∨ (aFlR B E t q p j i v = aFlR B E t q p j i v' ∧ 0 ≤ aFlR B E t q p j i v ∧ aFlR B E t q p j i v ≤ 1079) := by
  intro j
  induction j with
  | zero => intro i v v' _ _ h; exact h
  | succ j ih =>
    intro i v v' h0 hi h
    have hh := hE.2.1 i h0 (by omega)
    have hs := aShow_rng (t := t) (w := eF E 3 i) (tm := bF B 9 (5 * t + p)) hO hp hp'
    have hs : aSho B t p (eF E 3 i) = -1 ∨ (1 ≤ aSho B t p (eF E 3 i) ∧ aSho B t p (eF E 3 i) ≤ 80) := hs
    refine ih (i + 1) _ _ (by omega) (by omega) ?_
    generalize aSho B t p (eF E 3 i) = z at hs
    split <;> split <;> omega
theorem aFlc_two {B : tB} {E : tE} (hO : BOk B) (hE : EOk B E) {c t v v' : Int} (hc : 0 ≤ c) (hc' : c < 1 + bD B * bP B) (hv : 100000 ≤ v) (hv2 : v ≤ 1048576) (hv3 : 100000 ≤ v') (hv4 : v' ≤ 1048576) :
    (100000 ≤ aFlc v B E c t ∧ aFlc v B E c t ≤ 1048576 ∧ 100000 ≤ aFlc v' B E c t ∧ aFlc v' B E c t ≤ 1048576) ∨ (aFlc v B E c t = aFlc v' B E c t ∧ 0 ≤ aFlc v B E c t ∧ aFlc v B E c t ≤ 1079) := by
  have o := hO.1
  have n := hE.1
  unfold aFlc
  by_cases e : c = 0
  · simp only [e, ↓reduceIte]; omega
  · simp only [e, ↓reduceIte]
    obtain ⟨k1, k2, k3, k4, k5, k6⟩ := case_split (c := c) (nd := bD B) (np := bP B) (by omega) hc' (by omega) (by omega)
    exact aFlR_two hO hE k4 k5 _ 0 v v' (by omega) (by omega) (Or.inl ⟨hv, hv2, hv3, hv4⟩)
theorem aFitR_two {B : tB} {E : tE} (hO : BOk B) (hE : EOk B E) {tick c q v v' : Int} (ht : tick ≤ 2000) (hc : 0 ≤ c) (hc' : c < 1 + bD B * bP B) (hq : 0 ≤ q) (hq' : q < 1 + bD B * bP B) (hv : 100000 ≤ v) (hv2 : v ≤ 1048576) (hv3 : 100000 ≤ v') (hv4 : v' ≤ 1048576) : ∀ (j : Nat) (t : Int), aFitR v B E tick c q j t = aFitR v' B E tick c q j t := by
  intro j
  induction j with
  | zero => intro t; rfl
  | succ j ih =>
    intro t
    have h1 := aFlc_two (t := t) hO hE hc hc' hv hv2 hv3 hv4
    have h2 := aFlc_two (t := t) hO hE hq hq' hv hv2 hv3 hv4
    have h3 := aFell_rng hE t
    unfold aFitR
    rw [ih (t + 1)]
    generalize aFlc v B E c t = x1 at h1 ⊢
    generalize aFlc v' B E c t = x2 at h1 ⊢
    generalize aFlc v B E q t = x3 at h2 ⊢
    generalize aFlc v' B E q t = x4 at h2 ⊢
    generalize aFell E t = f at h3 ⊢
    have : (bF B 7 t = 4 ∨ (f = -1 ∧ tick < aMin x1 x3) ∨ (f ≠ -1 ∧ aMin x1 x3 = f)) ↔ (bF B 7 t = 4 ∨ (f = -1 ∧ tick < aMin x2 x4) ∨ (f ≠ -1 ∧ aMin x2 x4 = f)) := by
      unfold aMin
      split <;> split <;> omega
    simp only [this]
theorem aFit_two {B : tB} {E : tE} (hO : BOk B) (hE : EOk B E) {tick c q : Int} (ht : tick ≤ 2000) (hc : 0 ≤ c) (hc' : c < 1 + bD B * bP B) (hq : 0 ≤ q) (hq' : q < 1 + bD B * bP B) : aFit 1048576 B E tick c q = aFit 100000 B E tick c q :=
  aFitR_two hO hE ht hc hc' hq hq' (by omega) (by omega) (by omega) (by omega) _ _
theorem aFitR_01 {top : Int} {B : tB} {E : tE} {tick c q : Int} : ∀ (j : Nat) (t : Int), aFitR top B E tick c q j t = 0 ∨ aFitR top B E tick c q j t = 1 := by
  intro j
  induction j with
  | zero => intro t; exact Or.inr rfl
  | succ j ih => intro t; unfold aFitR; split
                 · exact ih _
                 · exact Or.inl rfl
theorem aFit_01 (top : Int) (B : tB) (E : tE) (tick c q : Int) : aFit top B E tick c q = 0 ∨ aFit top B E tick c q = 1 := aFitR_01 _ _
theorem s_M_falls_loop {d : Nat} {h : mHp} {B : tB} {E : tE} (hB : BM h B) (hO : BOk B) (hM : EM h E) (hE : EOk B E) {t q p : Int} (ht : 0 ≤ t) (ht' : t < bT B) (hq : 0 ≤ q) (hq' : q < bD B) (hp : 0 ≤ p) (hp' : p < bP B) : ∀ (j : Nat) (i v : Int), i + j = eN E → 0 ≤ i → 0 ≤ v → v ≤ 100000 →
    mRuns (d + 3) 63 35 [some (.ref 114), none, some (.int (zI t)), some (.int (zI q)), some (.int (zI p)), some (.int (zI v)), some (.int (zI i)), none] [] h (.inl (some (.int (zI (aFlR B E t q p j i v))), h)) := by
  have hM' := hM
  obtain ⟨e0, a1, a2, a3, a4⟩ := hM'
  have hn := hE.1
  have ho := hO.1
  intro j
  induction j with
  | zero =>
    intro i v hi h0 h1 h2
    refine vc_M_falls_35 ?_
    simp (disch := omega) only [zI_add, zI_sub, zI_mul, zI_neg, zI_lit, zI_0, zI_1, zI_lt, zI_le, zI_eq, zI_clamp, zI_inT, zI_ite, mOb_0, mOb_1, mOb_3, mOb_4, mLd_1, mAr_1, mLen_1, mTrue_t, Int.toNat_zero, Int.toNat_one, true_and, and_true, not_true_eq_false, not_false_eq_true, true_or, or_true, or_self, false_or, or_false, forall_const, false_implies, true_implies, implies_true, e0]
    repeat' (first | refine And.intro ?_ ?_ | with_reducible intro _)
    all_goals first | omega | rfl
  | succ j ih =>
    intro i v hi h0 h1 h2
    have hh := hE.2.1 i h0 (by omega)
    have hs := aShow_rng (t := t) (w := eF E 3 i) (tm := bF B 9 (5 * t + p)) hO hp hp'
    have hs : aSho B t p (eF E 3 i) = -1 ∨ (1 ≤ aSho B t p (eF E 3 i) ∧ aSho B t p (eF E 3 i) ≤ 80) := hs
    have h99 : eF E 0 i = t → eF E 1 i = q → mRuns (d + 3) 63 99 [some (.ref 114), none, some (.int (zI t)), some (.int (zI q)), some (.int (zI p)), some (.int (zI v)), some (.int (zI i)), none] [.int (zI (eF E 3 i)), .int (zI p), .int (zI t), .ref 114] h (.inl (some (.int (zI (aFlR B E t q p (j + 1) i v))), h)) := by
      intro z1 z2
      refine vc_M_falls_99 ⟨_, _, s_M_showsNow hB hO ht ht' hp hp' (by omega) (by omega), ?_⟩
      simp (disch := omega) only [zI_add, zI_sub, zI_mul, zI_neg, zI_lit, zI_0, zI_1, zI_lt, zI_le, zI_eq, zI_clamp, zI_inT, zI_ite, mOb_0, mOb_1, mOb_3, mOb_4, mLd_1, mAr_1, mLen_1, mTrue_t, Int.toNat_zero, Int.toNat_one, true_and, and_true, not_true_eq_false, not_false_eq_true, true_or, or_true, or_self, false_or, or_false, forall_const, false_implies, true_implies, implies_true, a3]
      refine ⟨fun z => ?_, fun z => ⟨fun y => ?_, fun y => ?_⟩⟩
      · have := ih (i + 1) v (by omega) (by omega) (by omega) (by omega)
        unfold aFlR; rw [if_neg (by omega)]; exact this
      · have := ih (i + 1) v (by omega) (by omega) (by omega) (by omega)
        unfold aFlR; rw [if_neg (by omega)]; exact this
      · have := ih (i + 1) (eF E 2 i + aSho B t p (eF E 3 i)) (by omega) (by omega) (by omega) (by omega)
        unfold aFlR; rw [if_pos (by omega)]; exact this
    refine vc_M_falls_35 ?_
    simp (disch := omega) only [zI_add, zI_sub, zI_mul, zI_neg, zI_lit, zI_0, zI_1, zI_lt, zI_le, zI_eq, zI_clamp, zI_inT, zI_ite, mOb_0, mOb_1, mOb_3, mOb_4, mLd_1, mAr_1, mLen_1, mTrue_t, Int.toNat_zero, Int.toNat_one, true_and, and_true, not_true_eq_false, not_false_eq_true, true_or, or_true, or_self, false_or, or_false, forall_const, false_implies, true_implies, implies_true, e0, a1, a2, a4]
    refine ⟨fun z => absurd z (by omega), fun _ => ⟨fun z => ?_, fun z => ⟨fun y => ⟨fun x => ?_, fun x => ?_⟩, fun y => ?_⟩⟩⟩
    · have := ih (i + 1) v (by omega) (by omega) (by omega) (by omega)
      unfold aFlR; rw [if_neg (by omega)]; exact this
    · have e : eF E 3 i = 0 := by omega
      have := h99 z y; rw [e] at this; exact this
    · have := h99 z y; rw [x] at this; exact this
    · have := ih (i + 1) v (by omega) (by omega) (by omega) (by omega)
      unfold aFlR; rw [if_neg (by omega)]; exact this
theorem s_M_falls {d : Nat} {h : mHp} {B : tB} {E : tE} (hB : BM h B) (hO : BOk B) (hM : EM h E) (hE : EOk B E) {t c : Int} (ht : 0 ≤ t) (ht' : t < bT B) (hc : 0 ≤ c) (hc' : c < 1 + bD B * bP B) :
    mRuns (d + 3) 63 0 [some (.ref 114), some (.int (zI c)), some (.int (zI t)), none, none, none, none, none] [] h (.inl (some (.int (zI (aFlc 100000 B E c t))), h)) := by
  have e2 := hB.2.1
  have hn := hE.1
  have ho := hO.1
  have hr := case_rng (nd := bD B) (np := bP B) (by omega) (by omega) (by omega) (by omega)
  refine vc_M_falls ?_
  by_cases e : c = 0
  · simp (disch := omega) only [zI_add, zI_sub, zI_mul, zI_neg, zI_lit, zI_0, zI_1, zI_lt, zI_le, zI_eq, zI_clamp, zI_inT, zI_ite, mOb_0, mOb_1, mOb_3, mOb_4, mLd_1, mAr_1, mLen_1, mTrue_t, Int.toNat_zero, Int.toNat_one, true_and, and_true, not_true_eq_false, not_false_eq_true, true_or, or_true, or_self, false_or, or_false, forall_const, false_implies, true_implies, implies_true, e]
    unfold aFlc; rw [if_pos rfl]
  · obtain ⟨k1, k2, k3, k4, k5, k6⟩ := case_split (c := c) (nd := bD B) (np := bP B) (by omega) hc' (by omega) (by omega)
    simp (disch := omega) only [zI_add, zI_sub, zI_mul, zI_neg, zI_lit, zI_0, zI_1, zI_lt, zI_le, zI_eq, zI_clamp, zI_inT, zI_ite, mOb_0, mOb_1, mOb_3, mOb_4, mLd_1, mAr_1, mLen_1, mTrue_t, Int.toNat_zero, Int.toNat_one, true_and, and_true, not_true_eq_false, not_false_eq_true, true_or, or_true, or_self, false_or, or_false, forall_const, false_implies, true_implies, implies_true, e2, zI_div, int_rem]
    refine ⟨fun z => ⟨by omega, by omega, ?_⟩, fun z => absurd z e⟩
    unfold aFlc; rw [if_neg e]
    exact s_M_falls_loop hB hO hM hE ht ht' k2 k3 k4 k5 (eN E).toNat 0 100000 (by omega) (by omega) (by omega) (by omega)
theorem s_M_fits_loop {d : Nat} {h : mHp} {B : tB} {E : tE} (hB : BM h B) (hO : BOk B) (hM : EM h E) (hE : EOk B E) {c q k : Int} (hc : 0 ≤ c) (hc' : c < 1 + bD B * bP B) (hq : 0 ≤ q) (hq' : q < 1 + bD B * bP B) (hk : 0 ≤ k) (hk' : k ≤ 2000) : ∀ (j : Nat) (t : Int), t + j = bT B → 0 ≤ t →
    mRuns (d + 4) 62 3 [some (.ref 114), some (.int (zI c)), some (.int (zI q)), some (.int (zI k)), some (.int (zI t)), none, none, none, none] [] h (.inl (some (.int (zI (aFitR 100000 B E k c q j t))), h)) := by
  have hB' := hB
  obtain ⟨e1, e2, e3, e4, a1, a2, a3, a4, a5, a6, a7, a8, a9, a10⟩ := hB'
  have ho := hO.1
  intro j
  induction j with
  | zero =>
    intro t hi h0
    refine vc_M_fits_3 ?_
    simp (disch := omega) only [zI_add, zI_sub, zI_mul, zI_neg, zI_lit, zI_0, zI_1, zI_lt, zI_le, zI_eq, zI_clamp, zI_inT, zI_ite, mOb_0, mOb_1, mOb_3, mOb_4, mLd_1, mAr_1, mLen_1, mTrue_t, Int.toNat_zero, Int.toNat_one, true_and, and_true, not_true_eq_false, not_false_eq_true, true_or, or_true, or_self, false_or, or_false, forall_const, false_implies, true_implies, implies_true, e3]
    repeat' (first | refine And.intro ?_ ?_ | with_reducible intro _)
    all_goals first | omega | rfl
  | succ j ih =>
    intro t hi h0
    have hr := ih (t + 1) (by omega) (by omega)
    have o4 := hO.2.2.2.1 t h0 (by omega)
    have x1 := aFlc_two (t := t) hO hE hc hc' (v := 100000) (v' := 100000) (by omega) (by omega) (by omega) (by omega)
    have x2 := aFlc_two (t := t) hO hE hq hq' (v := 100000) (v' := 100000) (by omega) (by omega) (by omega) (by omega)
    have x3 := aFell_rng hE t
    have h60 : bF B 7 t ≠ 4 → mRuns (d + 4) 62 60 [some (.ref 114), some (.int (zI c)), some (.int (zI q)), some (.int (zI k)), some (.int (zI t)), none, none, none, none] [.int (zI (aMin (aFlc 100000 B E c t) (aFlc 100000 B E q t)))] h (.inl (some (.int (zI (aFitR 100000 B E k c q (j + 1) t))), h)) := by
      intro hk4
      have xm : 0 ≤ aMin (aFlc 100000 B E c t) (aFlc 100000 B E q t) ∧ aMin (aFlc 100000 B E c t) (aFlc 100000 B E q t) ≤ 1048576 := by unfold aMin; split <;> omega
      refine vc_M_fits_60 ⟨_, _, s_M_fellAt hM hO hE h0 (by omega), ?_⟩
      unfold aFitR
      generalize aMin (aFlc 100000 B E c t) (aFlc 100000 B E q t) = m at xm ⊢
      simp (disch := omega) only [zI_add, zI_sub, zI_mul, zI_neg, zI_lit, zI_0, zI_1, zI_lt, zI_le, zI_eq, zI_clamp, zI_inT, zI_ite, mOb_0, mOb_1, mOb_3, mOb_4, mLd_1, mAr_1, mLen_1, mTrue_t, Int.toNat_zero, Int.toNat_one, true_and, and_true, not_true_eq_false, not_false_eq_true, true_or, or_true, or_self, false_or, or_false, forall_const, false_implies, true_implies, implies_true]
      refine ⟨fun z => ⟨fun y => ?_, fun y => ?_⟩, fun z => ⟨fun y => ?_, fun y => ?_⟩⟩
      · rw [if_pos (by omega)]; exact hr
      · rw [if_neg (by omega)]
      · rw [if_pos (by omega)]; exact hr
      · rw [if_neg (by omega)]
    refine vc_M_fits_3 ?_
    simp (disch := omega) only [zI_add, zI_sub, zI_mul, zI_neg, zI_lit, zI_0, zI_1, zI_lt, zI_le, zI_eq, zI_clamp, zI_inT, zI_ite, mOb_0, mOb_1, mOb_3, mOb_4, mLd_1, mAr_1, mLen_1, mTrue_t, Int.toNat_zero, Int.toNat_one, true_and, and_true, not_true_eq_false, not_false_eq_true, true_or, or_true, or_self, false_or, or_false, forall_const, false_implies, true_implies, implies_true, e3, a8]
    refine ⟨fun z => absurd z (by omega), fun _ => ⟨fun z => ⟨_, _, s_M_falls hB hO hM hE h0 (by omega) hc hc', _, _, s_M_falls hB hO hM hE h0 (by omega) hq hq', ?_⟩, fun z => ?_⟩⟩
    · have := h60 z
      simp (disch := omega) only [zI_add, zI_sub, zI_mul, zI_neg, zI_lit, zI_0, zI_1, zI_lt, zI_le, zI_eq, zI_clamp, zI_inT, zI_ite, mOb_0, mOb_1, mOb_3, mOb_4, mLd_1, mAr_1, mLen_1, mTrue_t, Int.toNat_zero, Int.toNat_one, true_and, and_true, not_true_eq_false, not_false_eq_true, true_or, or_true, or_self, false_or, or_false, forall_const, false_implies, true_implies, implies_true]
      refine ⟨fun y => ?_, fun y => ?_⟩
      · by_cases e : aFlc 100000 B E q t < aFlc 100000 B E c t
        · rw [aMin, if_pos e] at this; exact this
        · rw [aMin, if_neg e] at this
          have e9 : aFlc 100000 B E q t = aFlc 100000 B E c t := by omega
          rw [e9]; exact this
      · rw [aMin, if_neg (by omega)] at this; exact this
    · unfold aFitR; rw [if_pos (Or.inl z)]; exact hr
theorem s_M_fits {d : Nat} {h : mHp} {B : tB} {E : tE} (hB : BM h B) (hO : BOk B) (hM : EM h E) (hE : EOk B E) {c q k : Int} (hc : 0 ≤ c) (hc' : c < 1 + bD B * bP B) (hq : 0 ≤ q) (hq' : q < 1 + bD B * bP B) (hk : 0 ≤ k) (hk' : k ≤ 2000) :
    mRuns (d + 4) 62 0 [some (.ref 114), some (.int (zI c)), some (.int (zI q)), some (.int (zI k)), none, none, none, none, none] [] h (.inl (some (.int (zI (aFit 100000 B E k c q))), h)) := by
  have ho := hO.1
  refine vc_M_fits ?_
  simp (disch := omega) only [zI_add, zI_sub, zI_mul, zI_neg, zI_lit, zI_0, zI_1, zI_lt, zI_le, zI_eq, zI_clamp, zI_inT, zI_ite, mOb_0, mOb_1, mOb_3, mOb_4, mLd_1, mAr_1, mLen_1, mTrue_t, Int.toNat_zero, Int.toNat_one, true_and, and_true, not_true_eq_false, not_false_eq_true, true_or, or_true, or_self, false_or, or_false, forall_const, false_implies, true_implies, implies_true]
  exact s_M_fits_loop hB hO hM hE hc hc' hq hq' hk hk' _ 0 (by omega) (by omega)

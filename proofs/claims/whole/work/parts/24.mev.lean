/-! L3, the model: small ones, events -/
theorem s_M_right_t {d : Nat} {h : mHp} (h0 : h.1 114 0 = zI 0) {a w : Int} (ha : a = 1) : mRuns (d + 1) 8 0 [some (.ref 114), some (.int (zI a)), some (.int (zI w))] [] h (.inl (some (.int (zI 1)), h)) := by
  subst ha
  refine vc_M_right ?_
  simp (disch := omega) only [zI_add, zI_sub, zI_mul, zI_neg, zI_lit, zI_0, zI_1, zI_lt, zI_le, zI_eq, zI_clamp, zI_inT, zI_ite, mOb_0, mOb_1, mOb_3, mOb_4, mLd_1, mAr_1, mLen_1, mTrue_t, Int.toNat_zero, Int.toNat_one, true_and, and_true, not_true_eq_false, not_false_eq_true, true_or, or_true, or_self, false_or, or_false, forall_const, false_implies, true_implies, implies_true, h0]
  repeat' (first | refine And.intro ?_ ?_ | with_reducible intro _)
  all_goals first | omega | rfl
theorem s_M_right_f {d : Nat} {h : mHp} (h0 : h.1 114 0 = zI 0) {w : Int} (hw : 1 ≤ w) (hw' : w ≤ 9) : mRuns (d + 1) 8 0 [some (.ref 114), some (.int (zI 0)), some (.int (zI w))] [] h (.inl (some (.int (zI 0)), mPI h 114 0 (zI w))) := by
  refine vc_M_right ?_
  simp (disch := omega) only [zI_add, zI_sub, zI_mul, zI_neg, zI_lit, zI_0, zI_1, zI_lt, zI_le, zI_eq, zI_clamp, zI_inT, zI_ite, mOb_0, mOb_1, mOb_3, mOb_4, mLd_1, mAr_1, mLen_1, mTrue_t, Int.toNat_zero, Int.toNat_one, true_and, and_true, not_true_eq_false, not_false_eq_true, true_or, or_true, or_self, false_or, or_false, forall_const, false_implies, true_implies, implies_true, h0, hI_same]
  repeat' (first | refine And.intro ?_ ?_ | with_reducible intro _)
  all_goals first | omega | rfl
theorem s_M_within {d : Nat} {h : mHp} {a b c : Int} (a1 : -2147483648 ≤ a) (a2 : a < 2147483648) (b1 : -2147483648 ≤ b) (b2 : b < 2147483648) (c1 : -2147483648 ≤ c) (c2 : c < 2147483648) :
    mRuns (d + 1) 30 0 [some (.int (zI a)), some (.int (zI b)), some (.int (zI c))] [] h (.inl (some (.int (zI (if b ≤ a ∧ a ≤ c then 1 else 0))), h)) := by
  refine vc_M_within ?_
  simp (disch := omega) only [zI_add, zI_sub, zI_mul, zI_neg, zI_lit, zI_0, zI_1, zI_lt, zI_le, zI_eq, zI_clamp, zI_inT, zI_ite, mOb_0, mOb_1, mOb_3, mOb_4, mLd_1, mAr_1, mLen_1, mTrue_t, Int.toNat_zero, Int.toNat_one, true_and, and_true, not_true_eq_false, not_false_eq_true, true_or, or_true, or_self, false_or, or_false, forall_const, false_implies, true_implies, implies_true]
  refine ⟨fun _ => oI (by split <;> omega), fun _ => ⟨fun _ => oI (by split <;> omega), fun _ => oI (by split <;> omega)⟩⟩
theorem s_M_isDish {d : Nat} {h : mHp} {B : tB} (hB : BM h B) (hO : BOk B) (h0 : h.1 114 0 = zI 0) {a : Int} (a1 : -2147483648 ≤ a) (a2 : a < 2147483648) :
    mRuns (d + 2) 33 0 [some (.ref 114), some (.int (zI a))] [] h (if 0 ≤ a ∧ a < bD B then .inl (some (.int (zI 1)), h) else .inl (some (.int (zI 0)), mPI h 114 0 (zI 1))) := by
  have e := hB.1
  have o := hO.1
  refine vc_M_isDish ?_
  simp (disch := omega) only [zI_add, zI_sub, zI_mul, zI_neg, zI_lit, zI_0, zI_1, zI_lt, zI_le, zI_eq, zI_clamp, zI_inT, zI_ite, mOb_0, mOb_1, mOb_3, mOb_4, mLd_1, mAr_1, mLen_1, mTrue_t, Int.toNat_zero, Int.toNat_one, true_and, and_true, not_true_eq_false, not_false_eq_true, true_or, or_true, or_self, false_or, or_false, forall_const, false_implies, true_implies, implies_true, e]
  refine ⟨fun z => ?_, fun z => ⟨fun y => ?_, fun y => ?_⟩⟩
  · rw [if_neg (by omega)]; exact ⟨_, _, s_M_right_f h0 (by omega) (by omega), Or.inl rfl, rfl⟩
  · rw [if_neg (by omega)]; exact ⟨_, _, s_M_right_f h0 (by omega) (by omega), Or.inl rfl, rfl⟩
  · rw [if_pos (by omega)]; exact ⟨_, _, s_M_right_t h0 rfl, Or.inr rfl, rfl⟩
theorem s_M_isPoison {d : Nat} {h : mHp} {B : tB} (hB : BM h B) (hO : BOk B) (h0 : h.1 114 0 = zI 0) {a : Int} (a1 : -2147483648 ≤ a) (a2 : a < 2147483648) :
    mRuns (d + 2) 35 0 [some (.ref 114), some (.int (zI a))] [] h (if 0 ≤ a ∧ a < bP B then .inl (some (.int (zI 1)), h) else .inl (some (.int (zI 0)), mPI h 114 0 (zI 1))) := by
  have e := hB.2.1
  have o := hO.1
  refine vc_M_isPoison ?_
  simp (disch := omega) only [zI_add, zI_sub, zI_mul, zI_neg, zI_lit, zI_0, zI_1, zI_lt, zI_le, zI_eq, zI_clamp, zI_inT, zI_ite, mOb_0, mOb_1, mOb_3, mOb_4, mLd_1, mAr_1, mLen_1, mTrue_t, Int.toNat_zero, Int.toNat_one, true_and, and_true, not_true_eq_false, not_false_eq_true, true_or, or_true, or_self, false_or, or_false, forall_const, false_implies, true_implies, implies_true, e]
  refine ⟨fun z => ?_, fun z => ⟨fun y => ?_, fun y => ?_⟩⟩
  · rw [if_neg (by omega)]; exact ⟨_, _, s_M_right_f h0 (by omega) (by omega), Or.inl rfl, rfl⟩
  · rw [if_neg (by omega)]; exact ⟨_, _, s_M_right_f h0 (by omega) (by omega), Or.inl rfl, rfl⟩
  · rw [if_pos (by omega)]; exact ⟨_, _, s_M_right_t h0 rfl, Or.inr rfl, rfl⟩
theorem s_M_isTaster {d : Nat} {h : mHp} {B : tB} (hB : BM h B) (hO : BOk B) (h0 : h.1 114 0 = zI 0) {a : Int} (a1 : -2147483648 ≤ a) (a2 : a < 2147483648) :
    mRuns (d + 2) 37 0 [some (.ref 114), some (.int (zI a))] [] h (if 0 ≤ a ∧ a < bT B then .inl (some (.int (zI 1)), h) else .inl (some (.int (zI 0)), mPI h 114 0 (zI 1))) := by
  have e := hB.2.2.1
  have o := hO.1
  refine vc_M_isTaster ?_
  simp (disch := omega) only [zI_add, zI_sub, zI_mul, zI_neg, zI_lit, zI_0, zI_1, zI_lt, zI_le, zI_eq, zI_clamp, zI_inT, zI_ite, mOb_0, mOb_1, mOb_3, mOb_4, mLd_1, mAr_1, mLen_1, mTrue_t, Int.toNat_zero, Int.toNat_one, true_and, and_true, not_true_eq_false, not_false_eq_true, true_or, or_true, or_self, false_or, or_false, forall_const, false_implies, true_implies, implies_true, e]
  refine ⟨fun z => ?_, fun z => ⟨fun y => ?_, fun y => ?_⟩⟩
  · rw [if_neg (by omega)]; exact ⟨_, _, s_M_right_f h0 (by omega) (by omega), Or.inl rfl, rfl⟩
  · rw [if_neg (by omega)]; exact ⟨_, _, s_M_right_f h0 (by omega) (by omega), Or.inl rfl, rfl⟩
  · rw [if_pos (by omega)]; exact ⟨_, _, s_M_right_t h0 rfl, Or.inr rfl, rfl⟩
/-- the model's events -/
def EM (h : mHp) (E : tE) : Prop :=
  h.1 114 42 = zI (eN E) ∧ (∀ i, 0 ≤ i → i < eN E → h.1 131 (4 * i).toNat = zI (eF E 0 i)) ∧ (∀ i, 0 ≤ i → i < eN E → h.1 131 (4 * i + 1).toNat = zI (eF E 1 i)) ∧ (∀ i, 0 ≤ i → i < eN E → h.1 131 (4 * i + 2).toNat = zI (eF E 2 i)) ∧ (∀ i, 0 ≤ i → i < eN E → h.1 131 (4 * i + 3).toNat = zI (eF E 3 i))
theorem EM_of {h h' : mHp} {E : tE} (hE : EM h E) (e0 : h'.1 114 42 = h.1 114 42) (e : h'.1 131 = h.1 131) : EM h' E := by
  unfold EM at hE ⊢; rw [e0, e]; exact hE
theorem s_M_now_loop {d : Nat} {h : mHp} {B : tB} {E : tE} (hM : EM h E) (hE : EOk B E) : ∀ (j : Nat) (i v : Int), i + j = eN E → 0 ≤ i → 0 ≤ v → v ≤ 999 →
    mRuns (d + 1) 31 4 [some (.ref 114), some (.int (zI v)), some (.int (zI i))] [] h (.inl (some (.int (zI (aNowR E j i v))), h)) := by
  obtain ⟨e0, a1, a2, a3, a4⟩ := hM
  have hn := hE.1
  intro j
  induction j with
  | zero =>
    intro i v hi h0 h1 h2
    refine vc_M_now_4 ?_
    simp (disch := omega) only [zI_add, zI_sub, zI_mul, zI_neg, zI_lit, zI_0, zI_1, zI_lt, zI_le, zI_eq, zI_clamp, zI_inT, zI_ite, mOb_0, mOb_1, mOb_3, mOb_4, mLd_1, mAr_1, mLen_1, mTrue_t, Int.toNat_zero, Int.toNat_one, true_and, and_true, not_true_eq_false, not_false_eq_true, true_or, or_true, or_self, false_or, or_false, forall_const, false_implies, true_implies, implies_true, e0]
    repeat' (first | refine And.intro ?_ ?_ | with_reducible intro _)
    all_goals first | omega | rfl
  | succ j ih =>
    intro i v hi h0 h1 h2
    have hh := hE.2.1 i h0 (by omega)
    refine vc_M_now_4 ?_
    simp (disch := omega) only [zI_add, zI_sub, zI_mul, zI_neg, zI_lit, zI_0, zI_1, zI_lt, zI_le, zI_eq, zI_clamp, zI_inT, zI_ite, mOb_0, mOb_1, mOb_3, mOb_4, mLd_1, mAr_1, mLen_1, mTrue_t, Int.toNat_zero, Int.toNat_one, true_and, and_true, not_true_eq_false, not_false_eq_true, true_or, or_true, or_self, false_or, or_false, forall_const, false_implies, true_implies, implies_true, e0, a3]
    refine ⟨fun z => absurd z (by omega), fun _ => ⟨fun z => ?_, fun z => ?_⟩⟩
    · have := ih (i + 1) v (by omega) (by omega) (by omega) (by omega)
      unfold aNowR; rw [if_neg (by omega)]; exact this
    · have := ih (i + 1) (eF E 2 i) (by omega) (by omega) (by omega) (by omega)
      unfold aNowR; rw [if_pos (by omega)]; exact this
theorem s_M_now {d : Nat} {h : mHp} {B : tB} {E : tE} (hM : EM h E) (hE : EOk B E) :
    mRuns (d + 1) 31 0 [some (.ref 114), none, none] [] h (.inl (some (.int (zI (aNow E))), h)) := by
  have hn := hE.1
  refine vc_M_now ?_
  simp (disch := omega) only [zI_add, zI_sub, zI_mul, zI_neg, zI_lit, zI_0, zI_1, zI_lt, zI_le, zI_eq, zI_clamp, zI_inT, zI_ite, mOb_0, mOb_1, mOb_3, mOb_4, mLd_1, mAr_1, mLen_1, mTrue_t, Int.toNat_zero, Int.toNat_one, true_and, and_true, not_true_eq_false, not_false_eq_true, true_or, or_true, or_self, false_or, or_false, forall_const, false_implies, true_implies, implies_true]
  exact s_M_now_loop hM hE _ 0 0 (by omega) (by omega) (by omega) (by omega)
theorem s_M_fellAt_loop {d : Nat} {h : mHp} {B : tB} {E : tE} (hM : EM h E) (hO : BOk B) (hE : EOk B E) {t : Int} (ht : 0 ≤ t) (ht' : t < 5) : ∀ (j : Nat) (i : Int), i + j = eN E → 0 ≤ i →
    mRuns (d + 1) 38 2 [some (.ref 114), some (.int (zI t)), some (.int (zI i))] [] h (.inl (some (.int (zI (aFellR E t j i))), h)) := by
  obtain ⟨e0, a1, a2, a3, a4⟩ := hM
  have hn := hE.1
  have ho := hO.1
  intro j
  induction j with
  | zero =>
    intro i hi h0
    refine vc_M_fellAt_2 ?_
    simp (disch := omega) only [zI_add, zI_sub, zI_mul, zI_neg, zI_lit, zI_0, zI_1, zI_lt, zI_le, zI_eq, zI_clamp, zI_inT, zI_ite, mOb_0, mOb_1, mOb_3, mOb_4, mLd_1, mAr_1, mLen_1, mTrue_t, Int.toNat_zero, Int.toNat_one, true_and, and_true, not_true_eq_false, not_false_eq_true, true_or, or_true, or_self, false_or, or_false, forall_const, false_implies, true_implies, implies_true, e0]
    repeat' (first | refine And.intro ?_ ?_ | with_reducible intro _)
    all_goals first | omega | rfl
  | succ j ih =>
    intro i hi h0
    have hh := hE.2.1 i h0 (by omega)
    have hr := ih (i + 1) (by omega) (by omega)
    refine vc_M_fellAt_2 ?_
    simp (disch := omega) only [zI_add, zI_sub, zI_mul, zI_neg, zI_lit, zI_0, zI_1, zI_lt, zI_le, zI_eq, zI_clamp, zI_inT, zI_ite, mOb_0, mOb_1, mOb_3, mOb_4, mLd_1, mAr_1, mLen_1, mTrue_t, Int.toNat_zero, Int.toNat_one, true_and, and_true, not_true_eq_false, not_false_eq_true, true_or, or_true, or_self, false_or, or_false, forall_const, false_implies, true_implies, implies_true, e0, a1, a2, a3]
    refine ⟨fun z => absurd z (by omega), fun _ => ⟨fun z => ?_, fun z => ⟨fun y => ?_, fun y => ?_⟩⟩⟩
    · unfold aFellR; rw [if_neg (by omega)]; exact hr
    · unfold aFellR; rw [if_neg (by omega)]; exact hr
    · unfold aFellR; rw [if_pos (by omega)]
theorem s_M_fellAt {d : Nat} {h : mHp} {B : tB} {E : tE} (hM : EM h E) (hO : BOk B) (hE : EOk B E) {t : Int} (ht : 0 ≤ t) (ht' : t < 5) :
    mRuns (d + 1) 38 0 [some (.ref 114), some (.int (zI t)), none] [] h (.inl (some (.int (zI (aFell E t))), h)) := by
  have hn := hE.1
  refine vc_M_fellAt ?_
  simp (disch := omega) only [zI_add, zI_sub, zI_mul, zI_neg, zI_lit, zI_0, zI_1, zI_lt, zI_le, zI_eq, zI_clamp, zI_inT, zI_ite, mOb_0, mOb_1, mOb_3, mOb_4, mLd_1, mAr_1, mLen_1, mTrue_t, Int.toNat_zero, Int.toNat_one, true_and, and_true, not_true_eq_false, not_false_eq_true, true_or, or_true, or_self, false_or, or_false, forall_const, false_implies, true_implies, implies_true]
  exact s_M_fellAt_loop hM hO hE ht ht' _ 0 (by omega) (by omega)
theorem s_M_tells_no {d : Nat} {h : mHp} {B : tB} {E : tE} (hM : EM h E) (hE : EOk B E) {t q k w r : Int} (hr : h.1 120 1 = zI r) (hk1 : -2147483648 ≤ k) (hk2 : k < 2147483648) (hno : ¬ (eN E < 60 ∧ 0 ≤ k ∧ k ≤ 999)) :
    mRuns (d + 2) 57 0 [some (.ref 114), some (.int (zI t)), some (.int (zI q)), some (.int (zI k)), some (.int (zI w))] [] h (.inl (some (.int (zI (-1))), mPI h 120 1 (zI (r + 1)))) := by
  obtain ⟨e0, a1, a2, a3, a4⟩ := hM
  have hn := hE.1
  refine vc_M_tells ?_
  simp (disch := omega) only [zI_add, zI_sub, zI_mul, zI_neg, zI_lit, zI_0, zI_1, zI_lt, zI_le, zI_eq, zI_clamp, zI_inT, zI_ite, mOb_0, mOb_1, mOb_3, mOb_4, mLd_1, mAr_1, mLen_1, mTrue_t, Int.toNat_zero, Int.toNat_one, true_and, and_true, not_true_eq_false, not_false_eq_true, true_or, or_true, or_self, false_or, or_false, forall_const, false_implies, true_implies, implies_true, e0, hr]
  intro _
  refine ⟨_, _, s_M_within hk1 hk2 (by omega) (by omega) (by omega) (by omega), ?_⟩
  rw [if_neg (by omega)]
  simp (disch := omega) only [zI_add, zI_sub, zI_mul, zI_neg, zI_lit, zI_0, zI_1, zI_lt, zI_le, zI_eq, zI_clamp, zI_inT, zI_ite, mOb_0, mOb_1, mOb_3, mOb_4, mLd_1, mAr_1, mLen_1, mTrue_t, Int.toNat_zero, Int.toNat_one, true_and, and_true, not_true_eq_false, not_false_eq_true, true_or, or_true, or_self, false_or, or_false, forall_const, false_implies, true_implies, implies_true, hr]
  repeat' (first | refine And.intro ?_ ?_ | with_reducible intro _)
  all_goals first | omega | rfl
theorem s_M_tells_yes {d : Nat} {h : mHp} {B : tB} {E : tE} (hM : EM h E) (hE : EOk B E) {t q k w : Int} (hn : eN E < 60) (hk : 0 ≤ k) (hk' : k ≤ 999) :
    ∃ h', mRuns (d + 2) 57 0 [some (.ref 114), some (.int (zI t)), some (.int (zI q)), some (.int (zI k)), some (.int (zI w))] [] h (.inl (some (.int (zI (eN E + 1))), h')) ∧ EM h' (eAdd E t q k w) ∧ hFg 114 [131] [42] h h' := by
  obtain ⟨e0, a1, a2, a3, a4⟩ := hM
  have hn' := hE.1
  refine ⟨mPI (mPI (mPI (mPI (mPI h 131 (4 * eN E).toNat (zI t)) 131 (4 * eN E + 1).toNat (zI q)) 131 (4 * eN E + 2).toNat (zI k)) 131 (4 * eN E + 3).toNat (zI w)) 114 42 (zI (eN E + 1)), ?_, ?_, ?_⟩
  · refine vc_M_tells ?_
    simp (disch := omega) only [zI_add, zI_sub, zI_mul, zI_neg, zI_lit, zI_0, zI_1, zI_lt, zI_le, zI_eq, zI_clamp, zI_inT, zI_ite, mOb_0, mOb_1, mOb_3, mOb_4, mLd_1, mAr_1, mLen_1, mTrue_t, Int.toNat_zero, Int.toNat_one, true_and, and_true, not_true_eq_false, not_false_eq_true, true_or, or_true, or_self, false_or, or_false, forall_const, false_implies, true_implies, implies_true, e0]
    refine ⟨fun z => absurd z (by omega), fun _ => ⟨_, _, s_M_within (by omega) (by omega) (by omega) (by omega) (by omega) (by omega), ?_⟩⟩
    rw [if_pos (by omega)]
    simp (disch := omega) only [zI_add, zI_sub, zI_mul, zI_neg, zI_lit, zI_0, zI_1, zI_lt, zI_le, zI_eq, zI_clamp, zI_inT, zI_ite, mOb_0, mOb_1, mOb_3, mOb_4, mLd_1, mAr_1, mLen_1, mTrue_t, Int.toNat_zero, Int.toNat_one, true_and, and_true, not_true_eq_false, not_false_eq_true, true_or, or_true, or_self, false_or, or_false, forall_const, false_implies, true_implies, implies_true, e0, hI_ne, hI_same]
    repeat' (first | refine And.intro ?_ ?_ | with_reducible intro _)
    all_goals first | omega | rfl
  · refine ⟨hI_same _ _ _ _, fun i h0 h1 => ?_, fun i h0 h1 => ?_, fun i h0 h1 => ?_, fun i h0 h1 => ?_⟩
    · rw [eN_add] at h1; rw [hI_ne (by omega), eF_add0]
      by_cases e : i = eN E
      · rw [e]; simp (disch := omega) only [hI_off, hI_same, ↓reduceIte]
      · rw [if_neg e]; simp (disch := omega) only [hI_off]; exact a1 i h0 (by omega)
    · rw [eN_add] at h1; rw [hI_ne (by omega), eF_add1]
      by_cases e : i = eN E
      · rw [e]; simp (disch := omega) only [hI_off, hI_same, ↓reduceIte]
      · rw [if_neg e]; simp (disch := omega) only [hI_off]; exact a2 i h0 (by omega)
    · rw [eN_add] at h1; rw [hI_ne (by omega), eF_add2]
      by_cases e : i = eN E
      · rw [e]; simp (disch := omega) only [hI_off, hI_same, ↓reduceIte]
      · rw [if_neg e]; simp (disch := omega) only [hI_off]; exact a3 i h0 (by omega)
    · rw [eN_add] at h1; rw [hI_ne (by omega), eF_add3]
      by_cases e : i = eN E
      · rw [e]; simp (disch := omega) only [hI_off, hI_same, ↓reduceIte]
      · rw [if_neg e]; simp (disch := omega) only [hI_off]; exact a4 i h0 (by omega)
  · exact hFg_pf (hFg_pi (hFg_pi (hFg_pi (hFg_pi (hFg_refl _ _ _ _) (by simp) (by omega) _ _) (by simp) (by omega) _ _) (by simp) (by omega) _ _) (by simp) (by omega) _ _) (by simp) _

/-! L3, the class's log: what its methods do -/
theorem s_Log_add_no {d : Nat} {h : mHp} {l : Nat} {B : tB} {E : tE} (hl : lAd l) (hL : LC h l E) (hE : EOk B E) {t q k w : Int} (hk1 : -2147483648 ≤ k) (hk2 : k < 2147483648) (hno : ¬ (eN E < 60 ∧ 0 ≤ k ∧ k ≤ 999)) :
    mRuns (d + 1) 86 0 [some (.ref l), some (.int (zI t)), some (.int (zI q)), some (.int (zI k)), some (.int (zI w))] [] h (.inl (some (.int (zI 0)), h)) := by
  obtain ⟨s0, s1, s2, s3, s4, s5⟩ := lSh_of hl
  obtain ⟨⟨e0, a1, a2, a3, a4⟩, a5⟩ := hL
  have hn := hE.1
  refine vc_Log_add ?_
  simp (disch := omega) only [zI_add, zI_sub, zI_mul, zI_neg, zI_lit, zI_0, zI_1, zI_lt, zI_le, zI_eq, zI_clamp, zI_inT, zI_ite, mOb_0, mOb_1, mOb_3, mOb_4, mLd_1, mAr_1, mLen_1, mTrue_t, Int.toNat_zero, Int.toNat_one, true_and, and_true, not_true_eq_false, not_false_eq_true, true_or, or_true, or_self, false_or, or_false, forall_const, false_implies, true_implies, implies_true, s0, e0]
  repeat' (first | refine And.intro ?_ ?_ | with_reducible intro _)
  all_goals first | omega | rfl
theorem s_Log_add_yes {d : Nat} {h : mHp} {l : Nat} {B : tB} {E : tE} (hl : lAd l) (hL : LC h l E) (hE : EOk B E) {t q k w : Int} (hn : eN E < 60) (hk : 0 ≤ k) (hk' : k ≤ 999) (hw : 0 ≤ w) (hw' : w ≤ 1) :
    ∃ h', mRuns (d + 1) 86 0 [some (.ref l), some (.int (zI t)), some (.int (zI q)), some (.int (zI k)), some (.int (zI w))] [] h (.inl (some (.int (zI 1)), h')) ∧ LPf h' l (eAdd E t q k w) ∧ hFr [l, l + 1, l + 2, l + 3, l + 4] h h' := by
  obtain ⟨s0, s1, s2, s3, s4, s5⟩ := lSh_of hl
  obtain ⟨⟨e0, a1, a2, a3, a4⟩, a5⟩ := hL
  have hn' := hE.1
  refine ⟨mPI (mPI (mPI (mPI (mPI h (l + 1) (eN E).toNat (zI t)) (l + 2) (eN E).toNat (zI q)) (l + 3) (eN E).toNat (zI k)) (l + 4) (eN E).toNat (zI w)) l 0 (zI (eN E + 1)), ?_, ?_, ?_⟩
  · refine vc_Log_add ?_
    simp (disch := omega) only [zI_add, zI_sub, zI_mul, zI_neg, zI_lit, zI_0, zI_1, zI_lt, zI_le, zI_eq, zI_clamp, zI_inT, zI_ite, mOb_0, mOb_1, mOb_3, mOb_4, mLd_1, mAr_1, mLen_1, mTrue_t, Int.toNat_zero, Int.toNat_one, true_and, and_true, not_true_eq_false, not_false_eq_true, true_or, or_true, or_self, false_or, or_false, forall_const, false_implies, true_implies, implies_true, s0, s1, s2, s3, s4, e0, hI_ne]
    refine ⟨fun z => absurd z (by omega), fun _ => ⟨fun z => absurd z (by omega), fun _ => ⟨fun _ => ⟨fun z => ?_, fun z => ?_⟩, fun z => absurd hk' z⟩⟩⟩
    · rw [z]
    · have : w = 1 := by omega
      rw [this]
  · refine ⟨hI_same _ _ _ _, ?_, ?_, ?_, ?_⟩
    · simp (disch := omega) only [hI_ne, hI_row]; exact aEq_push a1 hn'.1 _
    · simp (disch := omega) only [hI_ne, hI_row]; exact aEq_push a2 hn'.1 _
    · simp (disch := omega) only [hI_ne, hI_row]; exact aEq_push a3 hn'.1 _
    · simp (disch := omega) only [hI_ne, hI_row]; exact aEq_push a4 hn'.1 _
  · exact hFr_pi (hFr_pi (hFr_pi (hFr_pi (hFr_pi (hFr_refl _ _) (by simp) _ _) (by simp) _ _) (by simp) _ _) (by simp) _ _) (by simp) _ _
theorem s_Log_addMeal_no {d : Nat} {h : mHp} {l : Nat} {B : tB} {E : tE} (hl : lAd l) (hL : LC h l E) (hE : EOk B E) {t q k w : Int} (hk1 : -2147483648 ≤ k) (hk2 : k < 2147483648) (hno : ¬ (eN E < 60 ∧ 0 ≤ k ∧ k ≤ 999)) :
    mRuns (d + 2) 85 0 [some (.ref l), some (.int (zI t)), some (.int (zI q)), some (.int (zI k)), some (.int (zI w))] [] h (.inl (some (.int (zI 0)), h)) := by
  refine vc_Log_addMeal ?_
  rw [(lSh_of hl).1, mOb_3]
  exact ⟨_, _, s_Log_add_no hl hL hE hk1 hk2 hno, Or.inl rfl, rfl⟩
theorem s_Log_addMeal_yes {d : Nat} {h : mHp} {l : Nat} {B : tB} {E : tE} (hl : lAd l) (hL : LC h l E) (hE : EOk B E) {t q k w : Int} (hq : 0 ≤ q) (hn : eN E < 60) (hk : 0 ≤ k) (hk' : k ≤ 999) (hw : 0 ≤ w) (hw' : w ≤ 1) :
    ∃ h', mRuns (d + 2) 85 0 [some (.ref l), some (.int (zI t)), some (.int (zI q)), some (.int (zI k)), some (.int (zI w))] [] h (.inl (some (.int (zI 1)), h')) ∧ LC h' l (eAdd E t q k w) ∧ hFr [l, l + 1, l + 2, l + 3, l + 4] h h' := by
  obtain ⟨h', r, p, f⟩ := s_Log_add_yes (d := d) (t := t) (q := q) hl hL hE hn hk hk' hw hw'
  refine ⟨h', vc_Log_addMeal ?_, ⟨p, ?_⟩, f⟩
  · rw [(lSh_of hl).1, mOb_3]
    exact ⟨_, _, r, Or.inr rfl, rfl⟩
  · rw [f.1 (l + 5) (by simp)]
    refine aEq_fn hL.2 (fun i _ _ => ?_)
    rw [aFell_add hE hk]
    have : ¬ (t = i ∧ q = -1) := by omega
    rw [if_neg this]; split
    · rename_i z; exact z.symm
    · rfl
theorem s_Log_addFall_no {d : Nat} {h : mHp} {l : Nat} {B : tB} {E : tE} (hl : lAd l) (hL : LC h l E) (hE : EOk B E) {t k : Int} (ht : 0 ≤ t) (ht' : t < 5) (hk1 : -2147483648 ≤ k) (hk2 : k < 2147483648) (hno : ¬ (aFell E t = -1 ∧ eN E < 60 ∧ 0 ≤ k ∧ k ≤ 999)) :
    mRuns (d + 2) 87 0 [some (.ref l), some (.int (zI t)), some (.int (zI k))] [] h (.inl (some (.int (zI 0)), h)) := by
  obtain ⟨s0, s1, s2, s3, s4, s5⟩ := lSh_of hl
  have a5 := hL.2
  have hf := aFell_rng hE t
  refine vc_Log_addFall ?_
  simp (disch := omega) only [zI_add, zI_sub, zI_mul, zI_neg, zI_lit, zI_0, zI_1, zI_lt, zI_le, zI_eq, zI_clamp, zI_inT, zI_ite, mOb_0, mOb_1, mOb_3, mOb_4, mLd_1, mAr_1, mLen_1, mTrue_t, Int.toNat_zero, Int.toNat_one, true_and, and_true, not_true_eq_false, not_false_eq_true, true_or, or_true, or_self, false_or, or_false, forall_const, false_implies, true_implies, implies_true, s0, s5, a5]
  intro z
  refine ⟨_, _, s_Log_add_no hl hL hE hk1 hk2 (fun q => hno ⟨z, q⟩), ?_⟩
  simp (disch := omega) only [zI_add, zI_sub, zI_mul, zI_neg, zI_lit, zI_0, zI_1, zI_lt, zI_le, zI_eq, zI_clamp, zI_inT, zI_ite, mOb_0, mOb_1, mOb_3, mOb_4, mLd_1, mAr_1, mLen_1, mTrue_t, Int.toNat_zero, Int.toNat_one, true_and, and_true, not_true_eq_false, not_false_eq_true, true_or, or_true, or_self, false_or, or_false, forall_const, false_implies, true_implies, implies_true]
  repeat' (first | refine And.intro ?_ ?_ | with_reducible intro _)
  all_goals first | omega | rfl
theorem s_Log_addFall_yes {d : Nat} {h : mHp} {l : Nat} {B : tB} {E : tE} (hl : lAd l) (hL : LC h l E) (hE : EOk B E) {t k : Int} (ht : 0 ≤ t) (ht' : t < 5) (hf : aFell E t = -1) (hn : eN E < 60) (hk : 0 ≤ k) (hk' : k ≤ 999) :
    ∃ h', mRuns (d + 2) 87 0 [some (.ref l), some (.int (zI t)), some (.int (zI k))] [] h (.inl (some (.int (zI 1)), h')) ∧ LC h' l (eAdd E t (-1) k 0) ∧ hFr [l, l + 1, l + 2, l + 3, l + 4, l + 5] h h' := by
  obtain ⟨s0, s1, s2, s3, s4, s5⟩ := lSh_of hl
  have a5 := hL.2
  obtain ⟨h', r, p, f⟩ := s_Log_add_yes (d := d) (t := t) (q := -1) (w := 0) hl hL hE hn hk hk' (by omega) (by omega)
  refine ⟨mPI h' (l + 5) t.toNat (zI k), vc_Log_addFall ?_, ⟨?_, ?_⟩, hFr_pi (hFr_mono f (by simp +contextual)) (by simp) _ _⟩
  · simp (disch := omega) only [zI_add, zI_sub, zI_mul, zI_neg, zI_lit, zI_0, zI_1, zI_lt, zI_le, zI_eq, zI_clamp, zI_inT, zI_ite, mOb_0, mOb_1, mOb_3, mOb_4, mLd_1, mAr_1, mLen_1, mTrue_t, Int.toNat_zero, Int.toNat_one, true_and, and_true, not_true_eq_false, not_false_eq_true, true_or, or_true, or_self, false_or, or_false, forall_const, false_implies, true_implies, implies_true, s0, s5, a5, hf]
    refine ⟨_, _, r, ?_⟩
    simp (disch := omega) only [zI_add, zI_sub, zI_mul, zI_neg, zI_lit, zI_0, zI_1, zI_lt, zI_le, zI_eq, zI_clamp, zI_inT, zI_ite, mOb_0, mOb_1, mOb_3, mOb_4, mLd_1, mAr_1, mLen_1, mTrue_t, Int.toNat_zero, Int.toNat_one, true_and, and_true, not_true_eq_false, not_false_eq_true, true_or, or_true, or_self, false_or, or_false, forall_const, false_implies, true_implies, implies_true]
    repeat' (first | refine And.intro ?_ ?_ | with_reducible intro _)
    all_goals first | omega | rfl
  · obtain ⟨q0, q1, q2, q3, q4⟩ := p
    unfold LPf
    simp (disch := omega) only [hI_ne]
    exact ⟨q0, q1, q2, q3, q4⟩
  · rw [hI_row, f.1 (l + 5) (by simp)]
    intro i h0 h1
    show (if i.toNat = t.toNat then _ else _) = _
    rw [aFell_add hE hk]
    by_cases e : t = i
    · rw [if_pos (by omega), ← e, if_pos hf, if_pos ⟨rfl, rfl⟩]
    · rw [if_neg (by omega), a5 i h0 h1]
      have : ¬ (t = i ∧ (-1 : Int) = -1) := fun z => e z.1
      rw [if_neg this]; split
      · rename_i z; rw [z]
      · rfl
theorem s_Log_drop_no {d : Nat} {h : mHp} {l : Nat} {B : tB} {E : tE} (hl : lAd l) (hL : LC h l E) (hE : EOk B E) (hn : eN E = 0) :
    mRuns (d + 1) 81 0 [some (.ref l)] [] h (.inl (some (.int (zI 0)), h)) := by
  obtain ⟨s0, s1, s2, s3, s4, s5⟩ := lSh_of hl
  have e0 := hL.1.1
  refine vc_Log_dropLast ?_
  simp (disch := omega) only [zI_add, zI_sub, zI_mul, zI_neg, zI_lit, zI_0, zI_1, zI_lt, zI_le, zI_eq, zI_clamp, zI_inT, zI_ite, mOb_0, mOb_1, mOb_3, mOb_4, mLd_1, mAr_1, mLen_1, mTrue_t, Int.toNat_zero, Int.toNat_one, true_and, and_true, not_true_eq_false, not_false_eq_true, true_or, or_true, or_self, false_or, or_false, forall_const, false_implies, true_implies, implies_true, s0, e0, hn]
  intro z; omega
theorem s_Log_drop_yes {d : Nat} {h : mHp} {l : Nat} {B : tB} {E : tE} (hl : lAd l) (hL : LC h l E) (hO : BOk B) (hE : EOk B E) (hn : 0 < eN E) :
    ∃ h', mRuns (d + 1) 81 0 [some (.ref l)] [] h (.inl (some (.int (zI 1)), h')) ∧ LC h' l (eDrop E) ∧ hFr [l, l + 5] h h' := by
  obtain ⟨s0, s1, s2, s3, s4, s5⟩ := lSh_of hl
  obtain ⟨⟨e0, a1, a2, a3, a4⟩, a5⟩ := hL
  have hn' := hE.1
  have ho := hO.1
  have hh := hE.2.1 (eN E - 1) (by omega) (by omega)
  have hd := aFell_drop hE hn
  by_cases c : eF E 1 (eN E - 1) = -1
  · refine ⟨mPI (mPI h l 0 (zI (eN E - 1))) (l + 5) (eF E 0 (eN E - 1)).toNat (zI (-1)), vc_Log_dropLast ?_, ⟨⟨?_, ?_, ?_, ?_, ?_⟩, ?_⟩, hFr_pi (hFr_pi (hFr_refl _ _) (by simp) _ _) (by simp) _ _⟩
    · simp (disch := omega) only [zI_add, zI_sub, zI_mul, zI_neg, zI_lit, zI_0, zI_1, zI_lt, zI_le, zI_eq, zI_clamp, zI_inT, zI_ite, mOb_0, mOb_1, mOb_3, mOb_4, mLd_1, mAr_1, mLen_1, mTrue_t, Int.toNat_zero, Int.toNat_one, true_and, and_true, not_true_eq_false, not_false_eq_true, true_or, or_true, or_self, false_or, or_false, forall_const, false_implies, true_implies, implies_true, s0, s1, s2, s5, e0, hI_ne, hI_same, a1, a2, c]
      repeat' (first | refine And.intro ?_ ?_ | with_reducible intro _)
      all_goals first | omega | rfl
    · simp (disch := omega) only [hI_ne, hI_same]; rfl
    · simp (disch := omega) only [hI_ne]; exact aEq_less a1 (by rw [eN_drop]; omega)
    · simp (disch := omega) only [hI_ne]; exact aEq_less a2 (by rw [eN_drop]; omega)
    · simp (disch := omega) only [hI_ne]; exact aEq_less a3 (by rw [eN_drop]; omega)
    · simp (disch := omega) only [hI_ne]; exact aEq_less a4 (by rw [eN_drop]; omega)
    · rw [hI_row, hI_ne (by omega)]
      intro i h0 h1
      show (if i.toNat = _ then _ else _) = _
      rw [hd i]
      by_cases e : eF E 0 (eN E - 1) = i
      · rw [if_pos (by omega), if_pos ⟨e, c⟩]
      · rw [if_neg (by omega), if_neg (fun z => e z.1)]; exact a5 i h0 h1
  · refine ⟨mPI h l 0 (zI (eN E - 1)), vc_Log_dropLast ?_, ⟨⟨?_, ?_, ?_, ?_, ?_⟩, ?_⟩, hFr_pi (hFr_refl _ _) (by simp) _ _⟩
    · simp (disch := omega) only [zI_add, zI_sub, zI_mul, zI_neg, zI_lit, zI_0, zI_1, zI_lt, zI_le, zI_eq, zI_clamp, zI_inT, zI_ite, mOb_0, mOb_1, mOb_3, mOb_4, mLd_1, mAr_1, mLen_1, mTrue_t, Int.toNat_zero, Int.toNat_one, true_and, and_true, not_true_eq_false, not_false_eq_true, true_or, or_true, or_self, false_or, or_false, forall_const, false_implies, true_implies, implies_true, s0, s1, s2, s5, e0, hI_ne, hI_same, a1, a2]
      repeat' (first | refine And.intro ?_ ?_ | with_reducible intro _)
      all_goals first | omega | rfl
    · exact hI_same _ _ _ _
    · simp (disch := omega) only [hI_ne]; exact aEq_less a1 (by rw [eN_drop]; omega)
    · simp (disch := omega) only [hI_ne]; exact aEq_less a2 (by rw [eN_drop]; omega)
    · simp (disch := omega) only [hI_ne]; exact aEq_less a3 (by rw [eN_drop]; omega)
    · simp (disch := omega) only [hI_ne]; exact aEq_less a4 (by rw [eN_drop]; omega)
    · simp (disch := omega) only [hI_ne]
      refine aEq_fn a5 (fun i _ _ => ?_)
      rw [hd i, if_neg (fun z => c z.2)]
def eNil : tE := (0, fun _ _ => 0)
theorem s_Log_clear {d : Nat} {h : mHp} {l : Nat} (hl : lAd l) :
    ∃ h', mRuns (d + 2) 84 0 [some (.ref l)] [] h (.inl (none, h')) ∧ LC h' l eNil ∧ hFr [l, l + 5] h h' := by
  obtain ⟨s0, s1, s2, s3, s4, s5⟩ := lSh_of hl
  obtain ⟨h', r, p, f⟩ := s_fill (d := d) (h := mPI h l 0 (zI 0)) s5 (by omega) (zI (-1))
  refine ⟨h', vc_Log_clear ?_, ⟨⟨?_, ?_, ?_, ?_, ?_⟩, ?_⟩, hFr_trans (hFr_pi (hFr_refl _ _) (by simp) _ _) (hFr_mono f (by simp))⟩
  · simp (disch := omega) only [zI_add, zI_sub, zI_mul, zI_neg, zI_lit, zI_0, zI_1, zI_lt, zI_le, zI_eq, zI_clamp, zI_inT, zI_ite, mOb_0, mOb_1, mOb_3, mOb_4, mLd_1, mAr_1, mLen_1, mTrue_t, Int.toNat_zero, Int.toNat_one, true_and, and_true, not_true_eq_false, not_false_eq_true, true_or, or_true, or_self, false_or, or_false, forall_const, false_implies, true_implies, implies_true, s0]
    exact ⟨_, r, rfl⟩
  · rw [f.1 l (by simp)]; exact hI_same _ _ _ _
  · exact fun i h0 h1 => absurd h1 (by show ¬ i < 0; omega)
  · exact fun i h0 h1 => absurd h1 (by show ¬ i < 0; omega)
  · exact fun i h0 h1 => absurd h1 (by show ¬ i < 0; omega)
  · exact fun i h0 h1 => absurd h1 (by show ¬ i < 0; omega)
  · exact fun i h0 h1 => p _ (by omega)
theorem EOk_nil (B : tB) : EOk B eNil := ⟨⟨by decide, by decide⟩, fun i h0 h1 => absurd h1 (by show ¬ i < 0; omega), fun i h0 h1 => absurd h1 (by show ¬ i < 0; omega)⟩
theorem LC_nil_of {h : mHp} {l : Nat} (h0 : h.1 l 0 = zI 0) (h5 : ∀ k, k < 5 → h.1 (l + 5) k = zI (-1)) : LC h l eNil :=
  ⟨⟨h0, fun i a b => absurd b (by show ¬ i < 0; omega), fun i a b => absurd b (by show ¬ i < 0; omega), fun i a b => absurd b (by show ¬ i < 0; omega), fun i a b => absurd b (by show ¬ i < 0; omega)⟩, fun i a b => h5 _ (by omega)⟩

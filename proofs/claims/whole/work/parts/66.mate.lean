/-! L3, ate and fell on the model's side; trial -/
theorem s_M_ate {d : Nat} {h : mHp} {B : tB} {E : tE} {r : Int} (hB : BM h B) (hO : BOk B) (hM : EM h E) (hE : EOk B E) (hr : h.1 120 1 = zI r) {t q k w : Int} (t1 : -2147483648 ≤ t) (t2 : t < 2147483648) (q1 : -2147483648 ≤ q) (q2 : q < 2147483648) (k1 : -2147483648 ≤ k) (k2 : k < 2147483648) (w0 : 0 ≤ w) (w1 : w ≤ 1) :
    ∃ h', mRuns (d + 3) 56 0 [some (.ref 114), some (.int (zI t)), some (.int (zI q)), some (.int (zI k)), some (.int (zI w))] [] h (.inl (some (.int (zI (rAte B E t q k).2)), h')) ∧ h'.1 114 0 = zI (rAte B E t q k).1 ∧ EM h' (eAte B E t q k w) ∧ h'.1 120 1 = zI (nAte B E t q k r) ∧ (∀ k, k ≠ 1 → h'.1 120 k = h.1 120 k) ∧ hFg 114 [120, 131] [0, 42] h h' := by
  have F0 : hFg 114 [120, 131] [0, 42] h (mPI h 114 0 (zI 0)) := hFg_pf (hFg_refl _ _ _ _) (by simp) _
  have B0 := BM_of (h' := mPI h 114 0 (zI 0)) hB (fun k _ _ => hI_off (by omega) _ _ _ _) (fun k _ _ => hI_ne (by omega) _ _ _)
  have M0 := EM_of (h' := mPI h 114 0 (zI 0)) hM (hI_off (by omega) _ _ _ _) (hI_ne (by omega) _ _ _)
  have t0 : (mPI h 114 0 (zI 0)).1 114 0 = zI 0 := hI_same _ _ _ _
  have n0 : ∀ v, (mPI (mPI h 114 0 (zI 0)) 114 0 v).1 120 = h.1 120 := fun v => by rw [hI_ne (by omega), hI_ne (by omega)]
  have r0 : (mPI h 114 0 (zI 0)).1 120 1 = zI r := by rw [hI_ne (by omega)]; exact hr
  have it := s_M_isTaster (d := d) B0 hO t0 t1 t2
  have id := s_M_isDish (d := d) B0 hO t0 q1 q2
  by_cases ct : 0 ≤ t ∧ t < bT B
  · rw [if_pos ct] at it
    by_cases cq : 0 ≤ q ∧ q < bD B
    · rw [if_pos cq] at id
      have ok : teOk B t q := ⟨ct, cq⟩
      by_cases ce : evOk E k
      · have e1 : rAte B E t q k = (0, eN E + 1) := by unfold rAte; rw [if_pos ok, if_pos ce]
        have e2 : eAte B E t q k w = eAdd E t q k w := by unfold eAte; rw [if_pos ⟨ok, ce⟩]
        have e3 : nAte B E t q k r = r := by unfold nAte; rw [if_neg (fun z => z.2 ce)]
        rw [e1, e2, e3]
        obtain ⟨h1, r1, M1, f1⟩ := s_M_tells_yes (d := d) (t := t) (q := q) (w := w) M0 hE ce.1 ce.2.1 ce.2.2
        refine ⟨h1, vc_M_ate ?_, by rw [f1.2.1 0 (by simp)]; exact t0, M1, by rw [f1.1 120 (by simp) (by omega)]; exact r0, fun k _ => by rw [f1.1 120 (by simp) (by omega), hI_ne (by omega)], hFg_trans F0 (hFg_mono f1 (by simp) (by simp))⟩
        simp (disch := omega) only [zI_add, zI_sub, zI_mul, zI_neg, zI_lit, zI_0, zI_1, zI_lt, zI_le, zI_eq, zI_clamp, zI_inT, zI_ite, mOb_0, mOb_1, mOb_3, mOb_4, mLd_1, mAr_1, mLen_1, mTrue_t, Int.toNat_zero, Int.toNat_one, true_and, and_true, not_true_eq_false, not_false_eq_true, true_or, or_true, or_self, false_or, or_false, forall_const, false_implies, true_implies, implies_true]
        refine ⟨_, _, it, ?_⟩
        simp (disch := omega) only [zI_add, zI_sub, zI_mul, zI_neg, zI_lit, zI_0, zI_1, zI_lt, zI_le, zI_eq, zI_clamp, zI_inT, zI_ite, mOb_0, mOb_1, mOb_3, mOb_4, mLd_1, mAr_1, mLen_1, mTrue_t, Int.toNat_zero, Int.toNat_one, true_and, and_true, not_true_eq_false, not_false_eq_true, true_or, or_true, or_self, false_or, or_false, forall_const, false_implies, true_implies, implies_true]
        refine ⟨fun z => by omega, fun _ => ⟨_, _, id, ?_⟩⟩
        have : w = 0 ∨ w = 1 := by omega
        rcases this with rfl | rfl
        · simp (disch := omega) only [zI_add, zI_sub, zI_mul, zI_neg, zI_lit, zI_0, zI_1, zI_lt, zI_le, zI_eq, zI_clamp, zI_inT, zI_ite, mOb_0, mOb_1, mOb_3, mOb_4, mLd_1, mAr_1, mLen_1, mTrue_t, Int.toNat_zero, Int.toNat_one, true_and, and_true, not_true_eq_false, not_false_eq_true, true_or, or_true, or_self, false_or, or_false, forall_const, false_implies, true_implies, implies_true]
          repeat' (first | refine And.intro ?_ ?_ | with_reducible intro _)
          all_goals first | omega | exact ⟨_, _, r1, rfl⟩
        · simp (disch := omega) only [zI_add, zI_sub, zI_mul, zI_neg, zI_lit, zI_0, zI_1, zI_lt, zI_le, zI_eq, zI_clamp, zI_inT, zI_ite, mOb_0, mOb_1, mOb_3, mOb_4, mLd_1, mAr_1, mLen_1, mTrue_t, Int.toNat_zero, Int.toNat_one, true_and, and_true, not_true_eq_false, not_false_eq_true, true_or, or_true, or_self, false_or, or_false, forall_const, false_implies, true_implies, implies_true]
          repeat' (first | refine And.intro ?_ ?_ | with_reducible intro _)
          all_goals first | omega | exact ⟨_, _, r1, rfl⟩
      · have e1 : rAte B E t q k = (0, -1) := by unfold rAte; rw [if_pos ok, if_neg ce]
        have e2 : eAte B E t q k w = E := by unfold eAte; rw [if_neg (fun z => ce z.2)]
        have e3 : nAte B E t q k r = r + 1 := by unfold nAte; rw [if_pos ⟨ok, ce⟩]
        rw [e1, e2, e3]
        have r1 := s_M_tells_no (d := d) (t := t) (q := q) (w := w) M0 hE r0 k1 k2 ce
        refine ⟨mPI (mPI h 114 0 (zI 0)) 120 1 (zI (r + 1)), vc_M_ate ?_, by rw [hI_ne (by omega)]; exact t0, EM_of M0 (by rw [hI_ne (by omega)]) (hI_ne (by omega) _ _ _), hI_same _ _ _ _, fun k hk => by rw [hI_off hk, hI_ne (by omega)], hFg_pi F0 (by simp) (by omega) _ _⟩
        simp (disch := omega) only [zI_add, zI_sub, zI_mul, zI_neg, zI_lit, zI_0, zI_1, zI_lt, zI_le, zI_eq, zI_clamp, zI_inT, zI_ite, mOb_0, mOb_1, mOb_3, mOb_4, mLd_1, mAr_1, mLen_1, mTrue_t, Int.toNat_zero, Int.toNat_one, true_and, and_true, not_true_eq_false, not_false_eq_true, true_or, or_true, or_self, false_or, or_false, forall_const, false_implies, true_implies, implies_true]
        refine ⟨_, _, it, ?_⟩
        simp (disch := omega) only [zI_add, zI_sub, zI_mul, zI_neg, zI_lit, zI_0, zI_1, zI_lt, zI_le, zI_eq, zI_clamp, zI_inT, zI_ite, mOb_0, mOb_1, mOb_3, mOb_4, mLd_1, mAr_1, mLen_1, mTrue_t, Int.toNat_zero, Int.toNat_one, true_and, and_true, not_true_eq_false, not_false_eq_true, true_or, or_true, or_self, false_or, or_false, forall_const, false_implies, true_implies, implies_true]
        refine ⟨fun z => by omega, fun _ => ⟨_, _, id, ?_⟩⟩
        have : w = 0 ∨ w = 1 := by omega
        rcases this with rfl | rfl
        · simp (disch := omega) only [zI_add, zI_sub, zI_mul, zI_neg, zI_lit, zI_0, zI_1, zI_lt, zI_le, zI_eq, zI_clamp, zI_inT, zI_ite, mOb_0, mOb_1, mOb_3, mOb_4, mLd_1, mAr_1, mLen_1, mTrue_t, Int.toNat_zero, Int.toNat_one, true_and, and_true, not_true_eq_false, not_false_eq_true, true_or, or_true, or_self, false_or, or_false, forall_const, false_implies, true_implies, implies_true]
          repeat' (first | refine And.intro ?_ ?_ | with_reducible intro _)
          all_goals first | omega | exact ⟨_, _, r1, rfl⟩
        · simp (disch := omega) only [zI_add, zI_sub, zI_mul, zI_neg, zI_lit, zI_0, zI_1, zI_lt, zI_le, zI_eq, zI_clamp, zI_inT, zI_ite, mOb_0, mOb_1, mOb_3, mOb_4, mLd_1, mAr_1, mLen_1, mTrue_t, Int.toNat_zero, Int.toNat_one, true_and, and_true, not_true_eq_false, not_false_eq_true, true_or, or_true, or_self, false_or, or_false, forall_const, false_implies, true_implies, implies_true]
          repeat' (first | refine And.intro ?_ ?_ | with_reducible intro _)
          all_goals first | omega | exact ⟨_, _, r1, rfl⟩
    · rw [if_neg cq] at id
      have e1 : rAte B E t q k = (1, 0) := by unfold rAte; rw [if_neg (fun z => cq z.2)]
      have e2 : eAte B E t q k w = E := by unfold eAte; rw [if_neg (fun z => cq z.1.2)]
      have e3 : nAte B E t q k r = r := by unfold nAte; rw [if_neg (fun z => cq z.1.2)]
      rw [e1, e2, e3]
      refine ⟨mPI (mPI h 114 0 (zI 0)) 114 0 (zI 1), vc_M_ate ?_, hI_same _ _ _ _, EM_of M0 (hI_off (by omega) _ _ _ _) (hI_ne (by omega) _ _ _), by rw [n0]; exact hr, fun k _ => by rw [n0], hFg_pf F0 (by simp) _⟩
      simp (disch := omega) only [zI_add, zI_sub, zI_mul, zI_neg, zI_lit, zI_0, zI_1, zI_lt, zI_le, zI_eq, zI_clamp, zI_inT, zI_ite, mOb_0, mOb_1, mOb_3, mOb_4, mLd_1, mAr_1, mLen_1, mTrue_t, Int.toNat_zero, Int.toNat_one, true_and, and_true, not_true_eq_false, not_false_eq_true, true_or, or_true, or_self, false_or, or_false, forall_const, false_implies, true_implies, implies_true]
      refine ⟨_, _, it, ?_⟩
      simp (disch := omega) only [zI_add, zI_sub, zI_mul, zI_neg, zI_lit, zI_0, zI_1, zI_lt, zI_le, zI_eq, zI_clamp, zI_inT, zI_ite, mOb_0, mOb_1, mOb_3, mOb_4, mLd_1, mAr_1, mLen_1, mTrue_t, Int.toNat_zero, Int.toNat_one, true_and, and_true, not_true_eq_false, not_false_eq_true, true_or, or_true, or_self, false_or, or_false, forall_const, false_implies, true_implies, implies_true]
      refine ⟨fun z => by omega, fun _ => ⟨_, _, id, ?_⟩⟩
      simp (disch := omega) only [zI_add, zI_sub, zI_mul, zI_neg, zI_lit, zI_0, zI_1, zI_lt, zI_le, zI_eq, zI_clamp, zI_inT, zI_ite, mOb_0, mOb_1, mOb_3, mOb_4, mLd_1, mAr_1, mLen_1, mTrue_t, Int.toNat_zero, Int.toNat_one, true_and, and_true, not_true_eq_false, not_false_eq_true, true_or, or_true, or_self, false_or, or_false, forall_const, false_implies, true_implies, implies_true]
      repeat' (first | refine And.intro ?_ ?_ | with_reducible intro _)
      all_goals first | omega | rfl
  · rw [if_neg ct] at it
    have e1 : rAte B E t q k = (1, 0) := by unfold rAte; rw [if_neg (fun z => ct z.1)]
    have e2 : eAte B E t q k w = E := by unfold eAte; rw [if_neg (fun z => ct z.1.1)]
    have e3 : nAte B E t q k r = r := by unfold nAte; rw [if_neg (fun z => ct z.1.1)]
    rw [e1, e2, e3]
    refine ⟨mPI (mPI h 114 0 (zI 0)) 114 0 (zI 1), vc_M_ate ?_, hI_same _ _ _ _, EM_of M0 (hI_off (by omega) _ _ _ _) (hI_ne (by omega) _ _ _), by rw [n0]; exact hr, fun k _ => by rw [n0], hFg_pf F0 (by simp) _⟩
    simp (disch := omega) only [zI_add, zI_sub, zI_mul, zI_neg, zI_lit, zI_0, zI_1, zI_lt, zI_le, zI_eq, zI_clamp, zI_inT, zI_ite, mOb_0, mOb_1, mOb_3, mOb_4, mLd_1, mAr_1, mLen_1, mTrue_t, Int.toNat_zero, Int.toNat_one, true_and, and_true, not_true_eq_false, not_false_eq_true, true_or, or_true, or_self, false_or, or_false, forall_const, false_implies, true_implies, implies_true]
    refine ⟨_, _, it, ?_⟩
    simp (disch := omega) only [zI_add, zI_sub, zI_mul, zI_neg, zI_lit, zI_0, zI_1, zI_lt, zI_le, zI_eq, zI_clamp, zI_inT, zI_ite, mOb_0, mOb_1, mOb_3, mOb_4, mLd_1, mAr_1, mLen_1, mTrue_t, Int.toNat_zero, Int.toNat_one, true_and, and_true, not_true_eq_false, not_false_eq_true, true_or, or_true, or_self, false_or, or_false, forall_const, false_implies, true_implies, implies_true]
    repeat' (first | refine And.intro ?_ ?_ | with_reducible intro _)
    all_goals first | omega | rfl
theorem s_M_fell {d : Nat} {h : mHp} {B : tB} {E : tE} {r : Int} (hB : BM h B) (hO : BOk B) (hM : EM h E) (hE : EOk B E) (hr : h.1 120 1 = zI r) {t k : Int} (t1 : -2147483648 ≤ t) (t2 : t < 2147483648) (k1 : -2147483648 ≤ k) (k2 : k < 2147483648) :
    ∃ h', mRuns (d + 3) 58 0 [some (.ref 114), some (.int (zI t)), some (.int (zI k))] [] h (.inl (some (.int (zI (rFall B E t k).2)), h')) ∧ h'.1 114 0 = zI (rFall B E t k).1 ∧ EM h' (eFall B E t k) ∧ h'.1 120 1 = zI (nFall B E t k r) ∧ (∀ k, k ≠ 1 → h'.1 120 k = h.1 120 k) ∧ hFg 114 [120, 131] [0, 42] h h' := by
  have o := hO.1
  have F0 : hFg 114 [120, 131] [0, 42] h (mPI h 114 0 (zI 0)) := hFg_pf (hFg_refl _ _ _ _) (by simp) _
  have B0 := BM_of (h' := mPI h 114 0 (zI 0)) hB (fun k _ _ => hI_off (by omega) _ _ _ _) (fun k _ _ => hI_ne (by omega) _ _ _)
  have M0 := EM_of (h' := mPI h 114 0 (zI 0)) hM (hI_off (by omega) _ _ _ _) (hI_ne (by omega) _ _ _)
  have t0 : (mPI h 114 0 (zI 0)).1 114 0 = zI 0 := hI_same _ _ _ _
  have n0 : ∀ v, (mPI (mPI h 114 0 (zI 0)) 114 0 v).1 120 = h.1 120 := fun v => by rw [hI_ne (by omega), hI_ne (by omega)]
  have r0 : (mPI h 114 0 (zI 0)).1 120 1 = zI r := by rw [hI_ne (by omega)]; exact hr
  have it := s_M_isTaster (d := d) B0 hO t0 t1 t2
  by_cases ct : 0 ≤ t ∧ t < bT B
  · rw [if_pos ct] at it
    have fa := s_M_fellAt (d := d + 1) M0 hO hE ct.1 (show t < 5 by omega)
    have fr := aFell_rng hE t
    by_cases ce : fallOk E t k
    · have e1 : rFall B E t k = (0, eN E + 1) := by unfold rFall; rw [if_pos ct, if_pos ce]
      have e2 : eFall B E t k = eAdd E t (-1) k 0 := by unfold eFall; rw [if_pos ⟨ct, ce⟩]
      have e3 : nFall B E t k r = r := by unfold nFall; rw [if_neg (fun z => z.2 ce)]
      rw [e1, e2, e3]
      obtain ⟨h1, r1, M1, f1⟩ := s_M_tells_yes (d := d) (t := t) (q := -1) (w := 0) M0 hE ce.2.1 ce.2.2.1 ce.2.2.2
      refine ⟨h1, vc_M_fell ?_, by rw [f1.2.1 0 (by simp)]; exact t0, M1, by rw [f1.1 120 (by simp) (by omega)]; exact r0, fun k _ => by rw [f1.1 120 (by simp) (by omega), hI_ne (by omega)], hFg_trans F0 (hFg_mono f1 (by simp) (by simp))⟩
      rw [ce.1] at fa
      simp (disch := omega) only [zI_add, zI_sub, zI_mul, zI_neg, zI_lit, zI_0, zI_1, zI_lt, zI_le, zI_eq, zI_clamp, zI_inT, zI_ite, mOb_0, mOb_1, mOb_3, mOb_4, mLd_1, mAr_1, mLen_1, mTrue_t, Int.toNat_zero, Int.toNat_one, true_and, and_true, not_true_eq_false, not_false_eq_true, true_or, or_true, or_self, false_or, or_false, forall_const, false_implies, true_implies, implies_true]
      refine ⟨_, _, it, ?_⟩
      simp (disch := omega) only [zI_add, zI_sub, zI_mul, zI_neg, zI_lit, zI_0, zI_1, zI_lt, zI_le, zI_eq, zI_clamp, zI_inT, zI_ite, mOb_0, mOb_1, mOb_3, mOb_4, mLd_1, mAr_1, mLen_1, mTrue_t, Int.toNat_zero, Int.toNat_one, true_and, and_true, not_true_eq_false, not_false_eq_true, true_or, or_true, or_self, false_or, or_false, forall_const, false_implies, true_implies, implies_true]
      refine ⟨fun _ => ⟨_, _, fa, ?_⟩, fun z => by omega⟩
      simp (disch := omega) only [zI_add, zI_sub, zI_mul, zI_neg, zI_lit, zI_0, zI_1, zI_lt, zI_le, zI_eq, zI_clamp, zI_inT, zI_ite, mOb_0, mOb_1, mOb_3, mOb_4, mLd_1, mAr_1, mLen_1, mTrue_t, Int.toNat_zero, Int.toNat_one, true_and, and_true, not_true_eq_false, not_false_eq_true, true_or, or_true, or_self, false_or, or_false, forall_const, false_implies, true_implies, implies_true]
      repeat' (first | refine And.intro ?_ ?_ | with_reducible intro _)
      all_goals first | omega | exact ⟨_, _, r1, rfl⟩
    · have e1 : rFall B E t k = (0, -1) := by unfold rFall; rw [if_pos ct, if_neg ce]
      have e2 : eFall B E t k = E := by unfold eFall; rw [if_neg (fun z => ce z.2)]
      have e3 : nFall B E t k r = r + 1 := by unfold nFall; rw [if_pos ⟨ct, ce⟩]
      rw [e1, e2, e3]
      refine ⟨mPI (mPI h 114 0 (zI 0)) 120 1 (zI (r + 1)), vc_M_fell ?_, by rw [hI_ne (by omega)]; exact t0, EM_of M0 (by rw [hI_ne (by omega)]) (hI_ne (by omega) _ _ _), hI_same _ _ _ _, fun k hk => by rw [hI_off hk, hI_ne (by omega)], hFg_pi F0 (by simp) (by omega) _ _⟩
      simp (disch := omega) only [zI_add, zI_sub, zI_mul, zI_neg, zI_lit, zI_0, zI_1, zI_lt, zI_le, zI_eq, zI_clamp, zI_inT, zI_ite, mOb_0, mOb_1, mOb_3, mOb_4, mLd_1, mAr_1, mLen_1, mTrue_t, Int.toNat_zero, Int.toNat_one, true_and, and_true, not_true_eq_false, not_false_eq_true, true_or, or_true, or_self, false_or, or_false, forall_const, false_implies, true_implies, implies_true]
      refine ⟨_, _, it, ?_⟩
      simp (disch := omega) only [zI_add, zI_sub, zI_mul, zI_neg, zI_lit, zI_0, zI_1, zI_lt, zI_le, zI_eq, zI_clamp, zI_inT, zI_ite, mOb_0, mOb_1, mOb_3, mOb_4, mLd_1, mAr_1, mLen_1, mTrue_t, Int.toNat_zero, Int.toNat_one, true_and, and_true, not_true_eq_false, not_false_eq_true, true_or, or_true, or_self, false_or, or_false, forall_const, false_implies, true_implies, implies_true]
      refine ⟨fun _ => ⟨_, _, fa, ?_⟩, fun z => by omega⟩
      by_cases cf : aFell E t = -1
      · have r1 := s_M_tells_no (d := d) (t := t) (q := -1) (w := 0) M0 hE r0 k1 k2 (fun z => ce ⟨cf, z⟩)
        simp (disch := omega) only [zI_add, zI_sub, zI_mul, zI_neg, zI_lit, zI_0, zI_1, zI_lt, zI_le, zI_eq, zI_clamp, zI_inT, zI_ite, mOb_0, mOb_1, mOb_3, mOb_4, mLd_1, mAr_1, mLen_1, mTrue_t, Int.toNat_zero, Int.toNat_one, true_and, and_true, not_true_eq_false, not_false_eq_true, true_or, or_true, or_self, false_or, or_false, forall_const, false_implies, true_implies, implies_true, cf]
        repeat' (first | refine And.intro ?_ ?_ | with_reducible intro _)
        all_goals first | omega | exact ⟨_, _, r1, rfl⟩
      · have r1 := s_M_tells_no (d := d) (t := t) (q := -1) (k := -1) (w := 0) M0 hE r0 (by omega) (by omega) (fun z => by omega)
        simp (disch := omega) only [zI_add, zI_sub, zI_mul, zI_neg, zI_lit, zI_0, zI_1, zI_lt, zI_le, zI_eq, zI_clamp, zI_inT, zI_ite, mOb_0, mOb_1, mOb_3, mOb_4, mLd_1, mAr_1, mLen_1, mTrue_t, Int.toNat_zero, Int.toNat_one, true_and, and_true, not_true_eq_false, not_false_eq_true, true_or, or_true, or_self, false_or, or_false, forall_const, false_implies, true_implies, implies_true]
        refine ⟨fun _ => ⟨_, _, r1, rfl⟩, fun z => absurd z cf⟩
  · rw [if_neg ct] at it
    have e1 : rFall B E t k = (1, 0) := by unfold rFall; rw [if_neg ct]
    have e2 : eFall B E t k = E := by unfold eFall; rw [if_neg (fun z => ct z.1)]
    have e3 : nFall B E t k r = r := by unfold nFall; rw [if_neg (fun z => ct z.1)]
    rw [e1, e2, e3]
    refine ⟨mPI (mPI h 114 0 (zI 0)) 114 0 (zI 1), vc_M_fell ?_, hI_same _ _ _ _, EM_of M0 (hI_off (by omega) _ _ _ _) (hI_ne (by omega) _ _ _), by rw [n0]; exact hr, fun k _ => by rw [n0], hFg_pf F0 (by simp) _⟩
    simp (disch := omega) only [zI_add, zI_sub, zI_mul, zI_neg, zI_lit, zI_0, zI_1, zI_lt, zI_le, zI_eq, zI_clamp, zI_inT, zI_ite, mOb_0, mOb_1, mOb_3, mOb_4, mLd_1, mAr_1, mLen_1, mTrue_t, Int.toNat_zero, Int.toNat_one, true_and, and_true, not_true_eq_false, not_false_eq_true, true_or, or_true, or_self, false_or, or_false, forall_const, false_implies, true_implies, implies_true]
    refine ⟨_, _, it, ?_⟩
    simp (disch := omega) only [zI_add, zI_sub, zI_mul, zI_neg, zI_lit, zI_0, zI_1, zI_lt, zI_le, zI_eq, zI_clamp, zI_inT, zI_ite, mOb_0, mOb_1, mOb_3, mOb_4, mLd_1, mAr_1, mLen_1, mTrue_t, Int.toNat_zero, Int.toNat_one, true_and, and_true, not_true_eq_false, not_false_eq_true, true_or, or_true, or_self, false_or, or_false, forall_const, false_implies, true_implies, implies_true]
    repeat' (first | refine And.intro ?_ ?_ | with_reducible intro _)
    all_goals first | omega | rfl

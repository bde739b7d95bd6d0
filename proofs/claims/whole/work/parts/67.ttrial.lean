/-! L3, trial and fault -/
abbrev trOk (n m l k : Int) : Prop := (1 ≤ n ∧ n ≤ 30) ∧ (0 ≤ m ∧ m ≤ n) ∧ (0 ≤ l ∧ l ≤ n) ∧ (0 ≤ k ∧ k ≤ l)
def rTrial (n m l k x : Int) : Int × Int := if ¬ (x = 0 ∨ x = 1) then (1, 0) else if trOk n m l k then (0, aTri n m l k x) else (2, 0)
theorem s_T_trial {d : Nat} {h : mHp} {n m l k x : Int} (n1 : -2147483648 ≤ n) (n2 : n < 2147483648) (m1 : -2147483648 ≤ m) (m2 : m < 2147483648) (l1 : -2147483648 ≤ l) (l2 : l < 2147483648) (k1 : -2147483648 ≤ k) (k2 : k < 2147483648) (x1 : -2147483648 ≤ x) (x2 : x < 2147483648) :
    ∃ h', mRuns (d + 3) 182 0 [some (.ref 0), some (.int (zI n)), some (.int (zI m)), some (.int (zI l)), some (.int (zI k)), some (.int (zI x)), none, none, none] [] h (tAns (rTrial n m l k x) (if (rTrial n m l k x).1 = 1 then 1 else 0) h') ∧ wF [] [] h h' := by
  have np := s_T_needZeroOrOne (d := d + 1) (h := h) x1 x2
  unfold tOut at np
  by_cases cx : x = 0 ∨ x = 1
  · rw [if_pos cx] at np
    by_cases ct : trOk n m l k
    · have e : rTrial n m l k x = (0, aTri n m l k x) := by unfold rTrial; rw [if_neg (fun z => z cx), if_pos ct]
      rw [e]
      have r := s_T_trial_loop (d := d) (h := h) ct.1.1 ct.1.2 ct.2.1.1 ct.2.1.2 ct.2.2.1.1 ct.2.2.1.2 cx (l - k + 1).toNat k 0 (by omega) ct.2.2.2.1 (by omega) (by omega)
      refine ⟨h, vc_T_trial (Or.inl ⟨h, np, ?_⟩), wF_refl _ _ _⟩
      simp (disch := omega) only [zI_add, zI_sub, zI_mul, zI_neg, zI_lit, zI_0, zI_1, zI_lt, zI_le, zI_eq, zI_clamp, zI_inT, zI_ite, mOb_0, mOb_1, mOb_3, mOb_4, mLd_1, mAr_1, mLen_1, mTrue_t, Int.toNat_zero, Int.toNat_one, true_and, and_true, not_true_eq_false, not_false_eq_true, true_or, or_true, or_self, false_or, or_false, forall_const, false_implies, true_implies, implies_true, zL_lit]
      repeat' (first | refine And.intro ?_ ?_ | with_reducible intro _)
      all_goals first | omega | exact r
    · have e : rTrial n m l k x = (2, 0) := by unfold rTrial; rw [if_neg (fun z => z cx), if_neg ct]
      rw [e]
      refine ⟨mXc h, vc_T_trial (Or.inl ⟨h, np, ?_⟩), wF_x _ _ _⟩
      unfold tAns
      simp (disch := omega) only [zI_add, zI_sub, zI_mul, zI_neg, zI_lit, zI_0, zI_1, zI_lt, zI_le, zI_eq, zI_clamp, zI_inT, zI_ite, mOb_0, mOb_1, mOb_3, mOb_4, mLd_1, mAr_1, mLen_1, mTrue_t, Int.toNat_zero, Int.toNat_one, true_and, and_true, not_true_eq_false, not_false_eq_true, true_or, or_true, or_self, false_or, or_false, forall_const, false_implies, true_implies, implies_true]
      repeat' (first | refine And.intro ?_ ?_ | with_reducible intro _)
      all_goals first | omega | rfl
  · rw [if_neg cx] at np
    have e : rTrial n m l k x = (1, 0) := by unfold rTrial; rw [if_pos cx]
    rw [e]
    exact ⟨mXc h, vc_T_trial (Or.inr ⟨_, _, np, rfl⟩), wF_x _ _ _⟩
theorem s_M_trial {d : Nat} {h : mHp} {n m l k x : Int} (n1 : -2147483648 ≤ n) (n2 : n < 2147483648) (m1 : -2147483648 ≤ m) (m2 : m < 2147483648) (l1 : -2147483648 ≤ l) (l2 : l < 2147483648) (k1 : -2147483648 ≤ k) (k2 : k < 2147483648) (x1 : -2147483648 ≤ x) (x2 : x < 2147483648) :
    ∃ h', mRuns (d + 3) 71 0 [some (.ref 114), some (.int (zI n)), some (.int (zI m)), some (.int (zI l)), some (.int (zI k)), some (.int (zI x)), none, none, none] [] h (.inl (some (.int (zI (rTrial n m l k x).2)), h')) ∧ lFr (mPI h 114 0 (zI (rTrial n m l k x).1)) h' := by
  have t0 : (mPI h 114 0 (zI 0)).1 114 0 = zI 0 := hI_same _ _ _ _
  have two : ∀ v, mPI (mPI h 114 0 (zI 0)) 114 0 v = mPI h 114 0 v := fun v => hI_two _ _ _ _ _
  have rt := s_M_right_t (d := d + 1) (w := 1) t0 (a := 1) rfl
  have rt2 := s_M_right_t (d := d + 1) (w := 2) t0 (a := 1) rfl
  have rf := s_M_right_f (d := d + 1) (w := 1) t0 (by omega) (by omega)
  have rf2 := s_M_right_f (d := d + 1) (w := 2) t0 (by omega) (by omega)
  rw [two] at rf rf2
  have w1 := s_M_within (d := d + 1) (h := mPI h 114 0 (zI 0)) (a := n) (b := 1) (c := 30) n1 n2 (by omega) (by omega) (by omega) (by omega)
  have w2 := s_M_within (d := d + 1) (h := mPI h 114 0 (zI 0)) (a := m) (b := 0) (c := n) m1 m2 (by omega) (by omega) n1 n2
  have w3 := s_M_within (d := d + 1) (h := mPI h 114 0 (zI 0)) (a := l) (b := 0) (c := n) l1 l2 (by omega) (by omega) n1 n2
  have w4 := s_M_within (d := d + 1) (h := mPI h 114 0 (zI 0)) (a := k) (b := 0) (c := l) k1 k2 (by omega) (by omega) l1 l2
  by_cases cx : x = 0 ∨ x = 1
  · have mid : ∀ out, mRuns (d + 3) 71 22 [some (.ref 114), some (.int (zI n)), some (.int (zI m)), some (.int (zI l)), some (.int (zI k)), some (.int (zI x)), none, none, none] [.int (zI 1), .ref 114] (mPI h 114 0 (zI 0)) out → mRuns (d + 3) 71 0 [some (.ref 114), some (.int (zI n)), some (.int (zI m)), some (.int (zI l)), some (.int (zI k)), some (.int (zI x)), none, none, none] [] h out := by
      intro out r
      refine vc_M_trial ?_
      simp (disch := omega) only [zI_add, zI_sub, zI_mul, zI_neg, zI_lit, zI_0, zI_1, zI_lt, zI_le, zI_eq, zI_clamp, zI_inT, zI_ite, mOb_0, mOb_1, mOb_3, mOb_4, mLd_1, mAr_1, mLen_1, mTrue_t, Int.toNat_zero, Int.toNat_one, true_and, and_true, not_true_eq_false, not_false_eq_true, true_or, or_true, or_self, false_or, or_false, forall_const, false_implies, true_implies, implies_true]
      repeat' (first | refine And.intro ?_ ?_ | with_reducible intro _)
      all_goals first | omega | exact r
    have bad : mRuns (d + 3) 71 74 [some (.ref 114), some (.int (zI n)), some (.int (zI m)), some (.int (zI l)), some (.int (zI k)), some (.int (zI x)), none, none, none] [.ref 114] (mPI h 114 0 (zI 0)) (.inl (some (.int (zI 0)), mPI h 114 0 (zI 2))) := by
      refine vc_M_trial_74 ?_
      simp (disch := omega) only [zI_add, zI_sub, zI_mul, zI_neg, zI_lit, zI_0, zI_1, zI_lt, zI_le, zI_eq, zI_clamp, zI_inT, zI_ite, mOb_0, mOb_1, mOb_3, mOb_4, mLd_1, mAr_1, mLen_1, mTrue_t, Int.toNat_zero, Int.toNat_one, true_and, and_true, not_true_eq_false, not_false_eq_true, true_or, or_true, or_self, false_or, or_false, forall_const, false_implies, true_implies, implies_true]
      refine ⟨_, _, rf2, ?_⟩
      simp (disch := omega) only [zI_add, zI_sub, zI_mul, zI_neg, zI_lit, zI_0, zI_1, zI_lt, zI_le, zI_eq, zI_clamp, zI_inT, zI_ite, mOb_0, mOb_1, mOb_3, mOb_4, mLd_1, mAr_1, mLen_1, mTrue_t, Int.toNat_zero, Int.toNat_one, true_and, and_true, not_true_eq_false, not_false_eq_true, true_or, or_true, or_self, false_or, or_false, forall_const, false_implies, true_implies, implies_true]
      repeat' (first | refine And.intro ?_ ?_ | with_reducible intro _)
      all_goals first | omega | rfl
    by_cases ct : trOk n m l k
    · have e : rTrial n m l k x = (0, aTri n m l k x) := by unfold rTrial; rw [if_neg (fun z => z cx), if_pos ct]
      rw [e]
      rw [if_pos ct.1] at w1
      rw [if_pos ct.2.1] at w2
      rw [if_pos ct.2.2.1] at w3
      rw [if_pos ct.2.2.2] at w4
      obtain ⟨h1, r, f⟩ := s_M_trial_loop (d := d) ct.1.1 ct.1.2 ct.2.1.1 ct.2.1.2 ct.2.2.1.1 ct.2.2.1.2 cx (l - k + 1).toNat k 0 (mPI h 114 0 (zI 0)) (by omega) ct.2.2.2.1 (by omega) (by omega)
      refine ⟨h1, mid _ (vc_M_trial_22 ?_), f⟩
      simp (disch := omega) only [zI_add, zI_sub, zI_mul, zI_neg, zI_lit, zI_0, zI_1, zI_lt, zI_le, zI_eq, zI_clamp, zI_inT, zI_ite, mOb_0, mOb_1, mOb_3, mOb_4, mLd_1, mAr_1, mLen_1, mTrue_t, Int.toNat_zero, Int.toNat_one, true_and, and_true, not_true_eq_false, not_false_eq_true, true_or, or_true, or_self, false_or, or_false, forall_const, false_implies, true_implies, implies_true]
      refine ⟨_, _, rt, ?_⟩
      simp (disch := omega) only [zI_add, zI_sub, zI_mul, zI_neg, zI_lit, zI_0, zI_1, zI_lt, zI_le, zI_eq, zI_clamp, zI_inT, zI_ite, mOb_0, mOb_1, mOb_3, mOb_4, mLd_1, mAr_1, mLen_1, mTrue_t, Int.toNat_zero, Int.toNat_one, true_and, and_true, not_true_eq_false, not_false_eq_true, true_or, or_true, or_self, false_or, or_false, forall_const, false_implies, true_implies, implies_true]
      refine ⟨fun _ => ⟨_, _, w1, ?_⟩, fun z => by omega⟩
      simp (disch := omega) only [zI_add, zI_sub, zI_mul, zI_neg, zI_lit, zI_0, zI_1, zI_lt, zI_le, zI_eq, zI_clamp, zI_inT, zI_ite, mOb_0, mOb_1, mOb_3, mOb_4, mLd_1, mAr_1, mLen_1, mTrue_t, Int.toNat_zero, Int.toNat_one, true_and, and_true, not_true_eq_false, not_false_eq_true, true_or, or_true, or_self, false_or, or_false, forall_const, false_implies, true_implies, implies_true]
      refine ⟨fun z => by omega, fun _ => ⟨_, _, w2, ?_⟩⟩
      simp (disch := omega) only [zI_add, zI_sub, zI_mul, zI_neg, zI_lit, zI_0, zI_1, zI_lt, zI_le, zI_eq, zI_clamp, zI_inT, zI_ite, mOb_0, mOb_1, mOb_3, mOb_4, mLd_1, mAr_1, mLen_1, mTrue_t, Int.toNat_zero, Int.toNat_one, true_and, and_true, not_true_eq_false, not_false_eq_true, true_or, or_true, or_self, false_or, or_false, forall_const, false_implies, true_implies, implies_true]
      refine ⟨fun z => by omega, fun _ => ⟨_, _, w3, ?_⟩⟩
      simp (disch := omega) only [zI_add, zI_sub, zI_mul, zI_neg, zI_lit, zI_0, zI_1, zI_lt, zI_le, zI_eq, zI_clamp, zI_inT, zI_ite, mOb_0, mOb_1, mOb_3, mOb_4, mLd_1, mAr_1, mLen_1, mTrue_t, Int.toNat_zero, Int.toNat_one, true_and, and_true, not_true_eq_false, not_false_eq_true, true_or, or_true, or_self, false_or, or_false, forall_const, false_implies, true_implies, implies_true]
      refine ⟨fun z => by omega, fun _ => ⟨_, _, w4, ?_⟩⟩
      simp (disch := omega) only [zI_add, zI_sub, zI_mul, zI_neg, zI_lit, zI_0, zI_1, zI_lt, zI_le, zI_eq, zI_clamp, zI_inT, zI_ite, mOb_0, mOb_1, mOb_3, mOb_4, mLd_1, mAr_1, mLen_1, mTrue_t, Int.toNat_zero, Int.toNat_one, true_and, and_true, not_true_eq_false, not_false_eq_true, true_or, or_true, or_self, false_or, or_false, forall_const, false_implies, true_implies, implies_true]
      refine ⟨fun z => by omega, fun _ => ⟨_, _, rt2, ?_⟩⟩
      simp (disch := omega) only [zI_add, zI_sub, zI_mul, zI_neg, zI_lit, zI_0, zI_1, zI_lt, zI_le, zI_eq, zI_clamp, zI_inT, zI_ite, mOb_0, mOb_1, mOb_3, mOb_4, mLd_1, mAr_1, mLen_1, mTrue_t, Int.toNat_zero, Int.toNat_one, true_and, and_true, not_true_eq_false, not_false_eq_true, true_or, or_true, or_self, false_or, or_false, forall_const, false_implies, true_implies, implies_true, zL_lit]
      repeat' (first | refine And.intro ?_ ?_ | with_reducible intro _)
      all_goals first | omega | exact r
    · have e : rTrial n m l k x = (2, 0) := by unfold rTrial; rw [if_neg (fun z => z cx), if_neg ct]
      rw [e]
      refine ⟨mPI h 114 0 (zI 2), mid _ (vc_M_trial_22 ?_), lFr_refl _⟩
      simp (disch := omega) only [zI_add, zI_sub, zI_mul, zI_neg, zI_lit, zI_0, zI_1, zI_lt, zI_le, zI_eq, zI_clamp, zI_inT, zI_ite, mOb_0, mOb_1, mOb_3, mOb_4, mLd_1, mAr_1, mLen_1, mTrue_t, Int.toNat_zero, Int.toNat_one, true_and, and_true, not_true_eq_false, not_false_eq_true, true_or, or_true, or_self, false_or, or_false, forall_const, false_implies, true_implies, implies_true]
      refine ⟨_, _, rt, ?_⟩
      simp (disch := omega) only [zI_add, zI_sub, zI_mul, zI_neg, zI_lit, zI_0, zI_1, zI_lt, zI_le, zI_eq, zI_clamp, zI_inT, zI_ite, mOb_0, mOb_1, mOb_3, mOb_4, mLd_1, mAr_1, mLen_1, mTrue_t, Int.toNat_zero, Int.toNat_one, true_and, and_true, not_true_eq_false, not_false_eq_true, true_or, or_true, or_self, false_or, or_false, forall_const, false_implies, true_implies, implies_true]
      refine ⟨fun _ => ⟨_, _, w1, ?_⟩, fun z => by omega⟩
      by_cases c1 : 1 ≤ n ∧ n ≤ 30
      · rw [if_pos c1]
        simp (disch := omega) only [zI_add, zI_sub, zI_mul, zI_neg, zI_lit, zI_0, zI_1, zI_lt, zI_le, zI_eq, zI_clamp, zI_inT, zI_ite, mOb_0, mOb_1, mOb_3, mOb_4, mLd_1, mAr_1, mLen_1, mTrue_t, Int.toNat_zero, Int.toNat_one, true_and, and_true, not_true_eq_false, not_false_eq_true, true_or, or_true, or_self, false_or, or_false, forall_const, false_implies, true_implies, implies_true]
        refine ⟨fun z => by omega, fun _ => ⟨_, _, w2, ?_⟩⟩
        by_cases c2 : 0 ≤ m ∧ m ≤ n
        · rw [if_pos c2]
          simp (disch := omega) only [zI_add, zI_sub, zI_mul, zI_neg, zI_lit, zI_0, zI_1, zI_lt, zI_le, zI_eq, zI_clamp, zI_inT, zI_ite, mOb_0, mOb_1, mOb_3, mOb_4, mLd_1, mAr_1, mLen_1, mTrue_t, Int.toNat_zero, Int.toNat_one, true_and, and_true, not_true_eq_false, not_false_eq_true, true_or, or_true, or_self, false_or, or_false, forall_const, false_implies, true_implies, implies_true]
          refine ⟨fun z => by omega, fun _ => ⟨_, _, w3, ?_⟩⟩
          by_cases c3 : 0 ≤ l ∧ l ≤ n
          · rw [if_pos c3]
            simp (disch := omega) only [zI_add, zI_sub, zI_mul, zI_neg, zI_lit, zI_0, zI_1, zI_lt, zI_le, zI_eq, zI_clamp, zI_inT, zI_ite, mOb_0, mOb_1, mOb_3, mOb_4, mLd_1, mAr_1, mLen_1, mTrue_t, Int.toNat_zero, Int.toNat_one, true_and, and_true, not_true_eq_false, not_false_eq_true, true_or, or_true, or_self, false_or, or_false, forall_const, false_implies, true_implies, implies_true]
            refine ⟨fun z => by omega, fun _ => ⟨_, _, w4, ?_⟩⟩
            rw [if_neg (fun c4 => ct ⟨c1, c2, c3, c4⟩)]
            simp (disch := omega) only [zI_add, zI_sub, zI_mul, zI_neg, zI_lit, zI_0, zI_1, zI_lt, zI_le, zI_eq, zI_clamp, zI_inT, zI_ite, mOb_0, mOb_1, mOb_3, mOb_4, mLd_1, mAr_1, mLen_1, mTrue_t, Int.toNat_zero, Int.toNat_one, true_and, and_true, not_true_eq_false, not_false_eq_true, true_or, or_true, or_self, false_or, or_false, forall_const, false_implies, true_implies, implies_true]
            repeat' (first | refine And.intro ?_ ?_ | with_reducible intro _)
            all_goals first | omega | exact bad
          · rw [if_neg c3]
            simp (disch := omega) only [zI_add, zI_sub, zI_mul, zI_neg, zI_lit, zI_0, zI_1, zI_lt, zI_le, zI_eq, zI_clamp, zI_inT, zI_ite, mOb_0, mOb_1, mOb_3, mOb_4, mLd_1, mAr_1, mLen_1, mTrue_t, Int.toNat_zero, Int.toNat_one, true_and, and_true, not_true_eq_false, not_false_eq_true, true_or, or_true, or_self, false_or, or_false, forall_const, false_implies, true_implies, implies_true]
            repeat' (first | refine And.intro ?_ ?_ | with_reducible intro _)
            all_goals first | omega | exact bad
        · rw [if_neg c2]
          simp (disch := omega) only [zI_add, zI_sub, zI_mul, zI_neg, zI_lit, zI_0, zI_1, zI_lt, zI_le, zI_eq, zI_clamp, zI_inT, zI_ite, mOb_0, mOb_1, mOb_3, mOb_4, mLd_1, mAr_1, mLen_1, mTrue_t, Int.toNat_zero, Int.toNat_one, true_and, and_true, not_true_eq_false, not_false_eq_true, true_or, or_true, or_self, false_or, or_false, forall_const, false_implies, true_implies, implies_true]
          repeat' (first | refine And.intro ?_ ?_ | with_reducible intro _)
          all_goals first | omega | exact bad
      · rw [if_neg c1]
        simp (disch := omega) only [zI_add, zI_sub, zI_mul, zI_neg, zI_lit, zI_0, zI_1, zI_lt, zI_le, zI_eq, zI_clamp, zI_inT, zI_ite, mOb_0, mOb_1, mOb_3, mOb_4, mLd_1, mAr_1, mLen_1, mTrue_t, Int.toNat_zero, Int.toNat_one, true_and, and_true, not_true_eq_false, not_false_eq_true, true_or, or_true, or_self, false_or, or_false, forall_const, false_implies, true_implies, implies_true]
        repeat' (first | refine And.intro ?_ ?_ | with_reducible intro _)
        all_goals first | omega | exact bad
  · have e : rTrial n m l k x = (1, 0) := by unfold rTrial; rw [if_pos cx]
    rw [e]
    refine ⟨mPI h 114 0 (zI 1), vc_M_trial ?_, lFr_refl _⟩
    have r : mRuns (d + 3) 71 22 [some (.ref 114), some (.int (zI n)), some (.int (zI m)), some (.int (zI l)), some (.int (zI k)), some (.int (zI x)), none, none, none] [.int (zI 0), .ref 114] (mPI h 114 0 (zI 0)) (.inl (some (.int (zI 0)), mPI h 114 0 (zI 1))) := by
      refine vc_M_trial_22 ?_
      simp (disch := omega) only [zI_add, zI_sub, zI_mul, zI_neg, zI_lit, zI_0, zI_1, zI_lt, zI_le, zI_eq, zI_clamp, zI_inT, zI_ite, mOb_0, mOb_1, mOb_3, mOb_4, mLd_1, mAr_1, mLen_1, mTrue_t, Int.toNat_zero, Int.toNat_one, true_and, and_true, not_true_eq_false, not_false_eq_true, true_or, or_true, or_self, false_or, or_false, forall_const, false_implies, true_implies, implies_true]
      refine ⟨_, _, rf, ?_⟩
      simp (disch := omega) only [zI_add, zI_sub, zI_mul, zI_neg, zI_lit, zI_0, zI_1, zI_lt, zI_le, zI_eq, zI_clamp, zI_inT, zI_ite, mOb_0, mOb_1, mOb_3, mOb_4, mLd_1, mAr_1, mLen_1, mTrue_t, Int.toNat_zero, Int.toNat_one, true_and, and_true, not_true_eq_false, not_false_eq_true, true_or, or_true, or_self, false_or, or_false, forall_const, false_implies, true_implies, implies_true]
      repeat' (first | refine And.intro ?_ ?_ | with_reducible intro _)
      all_goals first | omega | rfl
    simp (disch := omega) only [zI_add, zI_sub, zI_mul, zI_neg, zI_lit, zI_0, zI_1, zI_lt, zI_le, zI_eq, zI_clamp, zI_inT, zI_ite, mOb_0, mOb_1, mOb_3, mOb_4, mLd_1, mAr_1, mLen_1, mTrue_t, Int.toNat_zero, Int.toNat_one, true_and, and_true, not_true_eq_false, not_false_eq_true, true_or, or_true, or_self, false_or, or_false, forall_const, false_implies, true_implies, implies_true]
    repeat' (first | refine And.intro ?_ ?_ | with_reducible intro _)
    all_goals first | omega | exact r

/-! L3, day, had, trial -/
def rDay (C : tC) (n x : Int) : Int × Int := if (0 ≤ n ∧ n < cN C) ∧ 0 ≤ x ∧ x ≤ 3 then (0, cR C x n) else (1, 0)
def rHad (B : tB) (C : tC) (t p : Int) : Int × Int := if (0 ≤ t ∧ t < bT B) ∧ (0 ≤ p ∧ p < bP B) ∧ cO C = 1 then (0, cHd C (5 * t + p)) else (1, 0)
theorem s_T_day {d : Nat} {h : mHp} {C : tC} (hC : CC h 102 C) (hK : COk C) {n x : Int} (q1 : -2147483648 ≤ n) (q2 : n < 2147483648) (x1 : -2147483648 ≤ x) (x2 : x < 2147483648) : mRuns (d + 1) 186 0 [some (.ref 0), some (.int (zI n)), some (.int (zI x))] [] h (tQ (rDay C n x) h) := by
  have k3 := hK.2.2.1
  have k4 := hK.2.2.2.1
  obtain ⟨⟨e0, e1, e2, e3, e4⟩, a1, a2, a3, a4, a5⟩ := id hC
  have a2 : aEq (h.1 104) (cN C) (cR C 0) := a2
  have a3 : aEq (h.1 105) (cN C) (cR C 1) := a3
  have a4 : aEq (h.1 106) (cN C) (cR C 2) := a4
  have a5 : aEq (h.1 107) (cN C) (cR C 3) := a5
  refine vc_T_day ?_
  by_cases cn : 0 ≤ n ∧ n < cN C
  · have b2 := a2 n cn.1 cn.2
    have b3 := a3 n cn.1 cn.2
    have b4 := a4 n cn.1 cn.2
    have b5 := a5 n cn.1 cn.2
    by_cases cx : 0 ≤ x ∧ x ≤ 3
    · rw [tQ_ok (v := cR C x n) (by unfold rDay; rw [if_pos ⟨cn, cx⟩])]
      have : x = 0 ∨ x = 1 ∨ x = 2 ∨ x = 3 := by omega
      rcases this with rfl | rfl | rfl | rfl
      all_goals (simp (disch := omega) only [zI_add, zI_sub, zI_mul, zI_neg, zI_lit, zI_0, zI_1, zI_lt, zI_le, zI_eq, zI_clamp, zI_inT, zI_ite, mOb_0, mOb_1, mOb_3, mOb_4, mLd_1, mAr_1, mLen_1, mTrue_t, Int.toNat_zero, Int.toNat_one, true_and, and_true, not_true_eq_false, not_false_eq_true, true_or, or_true, or_self, false_or, or_false, forall_const, false_implies, true_implies, implies_true, e4, b2, b3, b4, b5]; repeat' (first | refine And.intro ?_ ?_ | with_reducible intro _))
      all_goals first | omega | rfl
    · rw [tQ_no (by unfold rDay; rw [if_neg (fun z => cx z.2)])]
      simp (disch := omega) only [zI_add, zI_sub, zI_mul, zI_neg, zI_lit, zI_0, zI_1, zI_lt, zI_le, zI_eq, zI_clamp, zI_inT, zI_ite, mOb_0, mOb_1, mOb_3, mOb_4, mLd_1, mAr_1, mLen_1, mTrue_t, Int.toNat_zero, Int.toNat_one, true_and, and_true, not_true_eq_false, not_false_eq_true, true_or, or_true, or_self, false_or, or_false, forall_const, false_implies, true_implies, implies_true, e4]
      repeat' (first | refine And.intro ?_ ?_ | with_reducible intro _)
      all_goals first | omega | rfl
  · rw [tQ_no (by unfold rDay; rw [if_neg (fun z => cn z.1)])]
    simp (disch := omega) only [zI_add, zI_sub, zI_mul, zI_neg, zI_lit, zI_0, zI_1, zI_lt, zI_le, zI_eq, zI_clamp, zI_inT, zI_ite, mOb_0, mOb_1, mOb_3, mOb_4, mLd_1, mAr_1, mLen_1, mTrue_t, Int.toNat_zero, Int.toNat_one, true_and, and_true, not_true_eq_false, not_false_eq_true, true_or, or_true, or_self, false_or, or_false, forall_const, false_implies, true_implies, implies_true, e4]
    repeat' (first | refine And.intro ?_ ?_ | with_reducible intro _)
    all_goals first | omega | rfl
theorem s_T_had {d : Nat} {h : mHp} {b : Nat} {B : tB} {C : tC} (hb : bAd b) (hR : h.2.2.1 0 0 = b) (hB : BC h b B) (hO : BOk B) (hC : CC h 102 C) (hK : COk C) {t p : Int} (q1 : -2147483648 ≤ t) (q2 : t < 2147483648) (x1 : -2147483648 ≤ p) (x2 : p < 2147483648) : mRuns (d + 2) 187 0 [some (.ref 0), some (.int (zI t)), some (.int (zI p))] [] h (tQ (rHad B C t p) h) := by
  have o := hO.1
  have k1 := hK.1
  obtain ⟨⟨e0, e1, e2, e3, e4⟩, a1, -⟩ := id hC
  have a1 : aEq (h.1 103) 25 (cHd C) := a1
  have nt := s_T_needTaster (d := d) hb hR hB hO q1 q2
  have np := s_T_needPoison (d := d) hb hR hB hO x1 x2
  unfold tOut at nt np
  by_cases ct : 0 ≤ t ∧ t < bT B
  · rw [if_pos ct] at nt
    by_cases cp : 0 ≤ p ∧ p < bP B
    · rw [if_pos cp] at np
      have b1 := a1 (5 * t + p) (by omega) (by omega)
      rcases k1 with z | z
      · rw [tQ_no (by unfold rHad; rw [if_neg (fun y => by omega)])]
        refine vc_T_had (Or.inl ⟨h, nt, Or.inl ⟨h, np, ?_⟩⟩)
        simp (disch := omega) only [zI_add, zI_sub, zI_mul, zI_neg, zI_lit, zI_0, zI_1, zI_lt, zI_le, zI_eq, zI_clamp, zI_inT, zI_ite, mOb_0, mOb_1, mOb_3, mOb_4, mLd_1, mAr_1, mLen_1, mTrue_t, Int.toNat_zero, Int.toNat_one, true_and, and_true, not_true_eq_false, not_false_eq_true, true_or, or_true, or_self, false_or, or_false, forall_const, false_implies, true_implies, implies_true, e0, z]
        repeat' (first | refine And.intro ?_ ?_ | with_reducible intro _)
        all_goals first | omega | rfl
      · rw [tQ_ok (v := cHd C (5 * t + p)) (by unfold rHad; rw [if_pos ⟨ct, cp, z⟩])]
        refine vc_T_had (Or.inl ⟨h, nt, Or.inl ⟨h, np, ?_⟩⟩)
        simp (disch := omega) only [zI_add, zI_sub, zI_mul, zI_neg, zI_lit, zI_0, zI_1, zI_lt, zI_le, zI_eq, zI_clamp, zI_inT, zI_ite, mOb_0, mOb_1, mOb_3, mOb_4, mLd_1, mAr_1, mLen_1, mTrue_t, Int.toNat_zero, Int.toNat_one, true_and, and_true, not_true_eq_false, not_false_eq_true, true_or, or_true, or_self, false_or, or_false, forall_const, false_implies, true_implies, implies_true, e0, z]
        refine ⟨fun _ => ⟨_, _, s_T_hadIndex, ?_⟩, fun y => by omega⟩
        simp (disch := omega) only [zI_add, zI_sub, zI_mul, zI_neg, zI_lit, zI_0, zI_1, zI_lt, zI_le, zI_eq, zI_clamp, zI_inT, zI_ite, mOb_0, mOb_1, mOb_3, mOb_4, mLd_1, mAr_1, mLen_1, mTrue_t, Int.toNat_zero, Int.toNat_one, true_and, and_true, not_true_eq_false, not_false_eq_true, true_or, or_true, or_self, false_or, or_false, forall_const, false_implies, true_implies, implies_true, b1]
    · rw [if_neg cp] at np
      rw [tQ_no (by unfold rHad; rw [if_neg (fun z => cp z.2.1)])]
      exact vc_T_had (Or.inl ⟨h, nt, Or.inr ⟨_, _, np, rfl⟩⟩)
  · rw [if_neg ct] at nt
    rw [tQ_no (by unfold rHad; rw [if_neg (fun z => ct z.1)])]
    exact vc_T_had (Or.inr ⟨_, _, nt, rfl⟩)
theorem s_M_day {d : Nat} {h : mHp} {C : tC} (hC : CM h C) (hK : COk C) {n x : Int} (q1 : -2147483648 ≤ n) (q2 : n < 2147483648) (x1 : -2147483648 ≤ x) (x2 : x < 2147483648) :
    mRuns (d + 2) 77 0 [some (.ref 114), some (.int (zI n)), some (.int (zI x))] [] h (.inl (some (.int (zI (rDay C n x).2)), mPI h 114 0 (zI (rDay C n x).1))) := by
  have k1 := hK.1
  have k2 := hK.2.1
  have k3 := hK.2.2.1
  have k4 := hK.2.2.2.1
  have C0 := CM_of (h' := mPI h 114 0 (zI 0)) hC (fun k _ _ => hI_off (by omega) _ _ _ _) (hI_ne (by omega) _ _ _) (hI_ne (by omega) _ _ _)
  have t0 : (mPI h 114 0 (zI 0)).1 114 0 = zI 0 := hI_same _ _ _ _
  have two : mPI (mPI h 114 0 (zI 0)) 114 0 (zI 1) = mPI h 114 0 (zI 1) := hI_two _ _ _ _ _
  have wi := s_M_within (d := d) (h := mPI h 114 0 (zI 0)) (a := x) (b := 0) (c := 3) x1 x2 (by omega) (by omega) (by omega) (by omega)
  have rt := s_M_right_t (d := d) (w := 1) t0 (a := 1) rfl
  have rf := s_M_right_f (d := d) (w := 1) t0 (by omega) (by omega)
  rw [two] at rf
  obtain ⟨⟨e46, -⟩, -, a0, a1, a2, a3⟩ := C0
  have no : mRuns (d + 2) 77 40 [some (.ref 114), some (.int (zI n)), some (.int (zI x))] [.int (zI 0), .ref 114] (mPI h 114 0 (zI 0)) (.inl (some (.int (zI 0)), mPI h 114 0 (zI 1))) := by
    refine vc_M_day_40 ?_
    simp (disch := omega) only [zI_add, zI_sub, zI_mul, zI_neg, zI_lit, zI_0, zI_1, zI_lt, zI_le, zI_eq, zI_clamp, zI_inT, zI_ite, mOb_0, mOb_1, mOb_3, mOb_4, mLd_1, mAr_1, mLen_1, mTrue_t, Int.toNat_zero, Int.toNat_one, true_and, and_true, not_true_eq_false, not_false_eq_true, true_or, or_true, or_self, false_or, or_false, forall_const, false_implies, true_implies, implies_true]
    refine ⟨_, _, rf, ?_⟩
    simp (disch := omega) only [zI_add, zI_sub, zI_mul, zI_neg, zI_lit, zI_0, zI_1, zI_lt, zI_le, zI_eq, zI_clamp, zI_inT, zI_ite, mOb_0, mOb_1, mOb_3, mOb_4, mLd_1, mAr_1, mLen_1, mTrue_t, Int.toNat_zero, Int.toNat_one, true_and, and_true, not_true_eq_false, not_false_eq_true, true_or, or_true, or_self, false_or, or_false, forall_const, false_implies, true_implies, implies_true]
    repeat' (first | refine And.intro ?_ ?_ | with_reducible intro _)
    all_goals first | omega | rfl
  unfold rDay
  rcases k1 with z | z
  · rw [if_neg (by omega)] at e46
    have := k2 z
    rw [if_neg (fun y => by omega)]
    refine vc_M_day ?_
    simp (disch := omega) only [zI_add, zI_sub, zI_mul, zI_neg, zI_lit, zI_0, zI_1, zI_lt, zI_le, zI_eq, zI_clamp, zI_inT, zI_ite, mOb_0, mOb_1, mOb_3, mOb_4, mLd_1, mAr_1, mLen_1, mTrue_t, Int.toNat_zero, Int.toNat_one, true_and, and_true, not_true_eq_false, not_false_eq_true, true_or, or_true, or_self, false_or, or_false, forall_const, false_implies, true_implies, implies_true, e46]
    repeat' (first | refine And.intro ?_ ?_ | with_reducible intro _)
    all_goals first | omega | exact no
  · rw [if_pos z] at e46
    by_cases cn : 0 ≤ n ∧ n < cN C
    · by_cases cx : 0 ≤ x ∧ x ≤ 3
      · rw [if_pos ⟨cn, cx⟩]
        rw [if_pos cx] at wi
        have yes : mRuns (d + 2) 77 40 [some (.ref 114), some (.int (zI n)), some (.int (zI x))] [.int (zI 1), .ref 114] (mPI h 114 0 (zI 0)) (.inl (some (.int (zI (cR C x n))), mPI h 114 0 (zI 0))) := by
          refine vc_M_day_40 ?_
          simp (disch := omega) only [zI_add, zI_sub, zI_mul, zI_neg, zI_lit, zI_0, zI_1, zI_lt, zI_le, zI_eq, zI_clamp, zI_inT, zI_ite, mOb_0, mOb_1, mOb_3, mOb_4, mLd_1, mAr_1, mLen_1, mTrue_t, Int.toNat_zero, Int.toNat_one, true_and, and_true, not_true_eq_false, not_false_eq_true, true_or, or_true, or_self, false_or, or_false, forall_const, false_implies, true_implies, implies_true]
          refine ⟨_, _, rt, ?_⟩
          have : x = 0 ∨ x = 1 ∨ x = 2 ∨ x = 3 := by omega
          rcases this with rfl | rfl | rfl | rfl
          all_goals (simp (disch := omega) only [zI_add, zI_sub, zI_mul, zI_neg, zI_lit, zI_0, zI_1, zI_lt, zI_le, zI_eq, zI_clamp, zI_inT, zI_ite, mOb_0, mOb_1, mOb_3, mOb_4, mLd_1, mAr_1, mLen_1, mTrue_t, Int.toNat_zero, Int.toNat_one, true_and, and_true, not_true_eq_false, not_false_eq_true, true_or, or_true, or_self, false_or, or_false, forall_const, false_implies, true_implies, implies_true, Int.add_zero, a0, a1, a2, a3]; repeat' (first | refine And.intro ?_ ?_ | with_reducible intro _))
          all_goals first | omega | rfl
        refine vc_M_day ?_
        simp (disch := omega) only [zI_add, zI_sub, zI_mul, zI_neg, zI_lit, zI_0, zI_1, zI_lt, zI_le, zI_eq, zI_clamp, zI_inT, zI_ite, mOb_0, mOb_1, mOb_3, mOb_4, mLd_1, mAr_1, mLen_1, mTrue_t, Int.toNat_zero, Int.toNat_one, true_and, and_true, not_true_eq_false, not_false_eq_true, true_or, or_true, or_self, false_or, or_false, forall_const, false_implies, true_implies, implies_true, e46]
        refine ⟨fun y => by omega, fun _ => ⟨fun y => by omega, fun _ => ⟨fun y => by omega, fun _ => ⟨_, _, wi, ?_⟩⟩⟩⟩
        simp (disch := omega) only [zI_add, zI_sub, zI_mul, zI_neg, zI_lit, zI_0, zI_1, zI_lt, zI_le, zI_eq, zI_clamp, zI_inT, zI_ite, mOb_0, mOb_1, mOb_3, mOb_4, mLd_1, mAr_1, mLen_1, mTrue_t, Int.toNat_zero, Int.toNat_one, true_and, and_true, not_true_eq_false, not_false_eq_true, true_or, or_true, or_self, false_or, or_false, forall_const, false_implies, true_implies, implies_true]
        repeat' (first | refine And.intro ?_ ?_ | with_reducible intro _)
        all_goals first | omega | exact yes
      · rw [if_neg (fun y => cx y.2)]
        rw [if_neg cx] at wi
        refine vc_M_day ?_
        simp (disch := omega) only [zI_add, zI_sub, zI_mul, zI_neg, zI_lit, zI_0, zI_1, zI_lt, zI_le, zI_eq, zI_clamp, zI_inT, zI_ite, mOb_0, mOb_1, mOb_3, mOb_4, mLd_1, mAr_1, mLen_1, mTrue_t, Int.toNat_zero, Int.toNat_one, true_and, and_true, not_true_eq_false, not_false_eq_true, true_or, or_true, or_self, false_or, or_false, forall_const, false_implies, true_implies, implies_true, e46]
        refine ⟨fun y => by omega, fun _ => ⟨fun y => by omega, fun _ => ⟨fun y => by omega, fun _ => ⟨_, _, wi, ?_⟩⟩⟩⟩
        simp (disch := omega) only [zI_add, zI_sub, zI_mul, zI_neg, zI_lit, zI_0, zI_1, zI_lt, zI_le, zI_eq, zI_clamp, zI_inT, zI_ite, mOb_0, mOb_1, mOb_3, mOb_4, mLd_1, mAr_1, mLen_1, mTrue_t, Int.toNat_zero, Int.toNat_one, true_and, and_true, not_true_eq_false, not_false_eq_true, true_or, or_true, or_self, false_or, or_false, forall_const, false_implies, true_implies, implies_true]
        repeat' (first | refine And.intro ?_ ?_ | with_reducible intro _)
        all_goals first | omega | exact no
    · rw [if_neg (fun y => cn y.1)]
      refine vc_M_day ?_
      simp (disch := omega) only [zI_add, zI_sub, zI_mul, zI_neg, zI_lit, zI_0, zI_1, zI_lt, zI_le, zI_eq, zI_clamp, zI_inT, zI_ite, mOb_0, mOb_1, mOb_3, mOb_4, mLd_1, mAr_1, mLen_1, mTrue_t, Int.toNat_zero, Int.toNat_one, true_and, and_true, not_true_eq_false, not_false_eq_true, true_or, or_true, or_self, false_or, or_false, forall_const, false_implies, true_implies, implies_true, e46]
      refine ⟨fun y => by omega, fun _ => ⟨fun _ => no, fun y => ⟨fun _ => no, fun w => by omega⟩⟩⟩
theorem s_M_had {d : Nat} {h : mHp} {B : tB} {C : tC} (hB : BM h B) (hO : BOk B) (hC : CM h C) (hK : COk C) {t p : Int} (q1 : -2147483648 ≤ t) (q2 : t < 2147483648) (x1 : -2147483648 ≤ p) (x2 : p < 2147483648) :
    mRuns (d + 3) 78 0 [some (.ref 114), some (.int (zI t)), some (.int (zI p))] [] h (.inl (some (.int (zI (rHad B C t p).2)), mPI h 114 0 (zI (rHad B C t p).1))) := by
  have o := hO.1
  have k1 := hK.1
  have k3 := hK.2.2.1
  have k4 := hK.2.2.2.1
  have B0 := BM_of (h' := mPI h 114 0 (zI 0)) hB (fun k _ _ => hI_off (by omega) _ _ _ _) (fun k _ _ => hI_ne (by omega) _ _ _)
  have C0 := CM_of (h' := mPI h 114 0 (zI 0)) hC (fun k _ _ => hI_off (by omega) _ _ _ _) (hI_ne (by omega) _ _ _) (hI_ne (by omega) _ _ _)
  have t0 : (mPI h 114 0 (zI 0)).1 114 0 = zI 0 := hI_same _ _ _ _
  have two : mPI (mPI h 114 0 (zI 0)) 114 0 (zI 1) = mPI h 114 0 (zI 1) := hI_two _ _ _ _ _
  have it := s_M_isTaster (d := d) B0 hO t0 q1 q2
  have ip := s_M_isPoison (d := d) B0 hO t0 x1 x2
  have rt := s_M_right_t (d := d + 1) (w := 1) t0 (a := 1) rfl
  have rf := s_M_right_f (d := d + 1) (w := 1) t0 (by omega) (by omega)
  rw [two] at it ip rf
  obtain ⟨⟨e46, -⟩, a1, -⟩ := C0
  unfold rHad
  by_cases ct : 0 ≤ t ∧ t < bT B
  · rw [if_pos ct] at it
    by_cases cp : 0 ≤ p ∧ p < bP B
    · rw [if_pos cp] at ip
      have b1 := a1 (5 * t + p) (by omega) (by omega)
      rcases k1 with z | z
      · rw [if_neg (by omega)] at e46
        rw [if_neg (fun y => by omega)]
        have no : mRuns (d + 3) 78 35 [some (.ref 114), some (.int (zI t)), some (.int (zI p))] [.int (zI 0), .ref 114] (mPI h 114 0 (zI 0)) (.inl (some (.int (zI 0)), mPI h 114 0 (zI 1))) := by
          refine vc_M_had_35 ?_
          simp (disch := omega) only [zI_add, zI_sub, zI_mul, zI_neg, zI_lit, zI_0, zI_1, zI_lt, zI_le, zI_eq, zI_clamp, zI_inT, zI_ite, mOb_0, mOb_1, mOb_3, mOb_4, mLd_1, mAr_1, mLen_1, mTrue_t, Int.toNat_zero, Int.toNat_one, true_and, and_true, not_true_eq_false, not_false_eq_true, true_or, or_true, or_self, false_or, or_false, forall_const, false_implies, true_implies, implies_true]
          refine ⟨_, _, rf, ?_⟩
          simp (disch := omega) only [zI_add, zI_sub, zI_mul, zI_neg, zI_lit, zI_0, zI_1, zI_lt, zI_le, zI_eq, zI_clamp, zI_inT, zI_ite, mOb_0, mOb_1, mOb_3, mOb_4, mLd_1, mAr_1, mLen_1, mTrue_t, Int.toNat_zero, Int.toNat_one, true_and, and_true, not_true_eq_false, not_false_eq_true, true_or, or_true, or_self, false_or, or_false, forall_const, false_implies, true_implies, implies_true]
          repeat' (first | refine And.intro ?_ ?_ | with_reducible intro _)
          all_goals first | omega | rfl
        refine vc_M_had ?_
        simp (disch := omega) only [zI_add, zI_sub, zI_mul, zI_neg, zI_lit, zI_0, zI_1, zI_lt, zI_le, zI_eq, zI_clamp, zI_inT, zI_ite, mOb_0, mOb_1, mOb_3, mOb_4, mLd_1, mAr_1, mLen_1, mTrue_t, Int.toNat_zero, Int.toNat_one, true_and, and_true, not_true_eq_false, not_false_eq_true, true_or, or_true, or_self, false_or, or_false, forall_const, false_implies, true_implies, implies_true]
        refine ⟨_, _, it, ?_⟩
        simp (disch := omega) only [zI_add, zI_sub, zI_mul, zI_neg, zI_lit, zI_0, zI_1, zI_lt, zI_le, zI_eq, zI_clamp, zI_inT, zI_ite, mOb_0, mOb_1, mOb_3, mOb_4, mLd_1, mAr_1, mLen_1, mTrue_t, Int.toNat_zero, Int.toNat_one, true_and, and_true, not_true_eq_false, not_false_eq_true, true_or, or_true, or_self, false_or, or_false, forall_const, false_implies, true_implies, implies_true]
        refine ⟨fun y => by omega, fun _ => ⟨_, _, ip, ?_⟩⟩
        simp (disch := omega) only [zI_add, zI_sub, zI_mul, zI_neg, zI_lit, zI_0, zI_1, zI_lt, zI_le, zI_eq, zI_clamp, zI_inT, zI_ite, mOb_0, mOb_1, mOb_3, mOb_4, mLd_1, mAr_1, mLen_1, mTrue_t, Int.toNat_zero, Int.toNat_one, true_and, and_true, not_true_eq_false, not_false_eq_true, true_or, or_true, or_self, false_or, or_false, forall_const, false_implies, true_implies, implies_true, e46]
        repeat' (first | refine And.intro ?_ ?_ | with_reducible intro _)
        all_goals first | omega | exact no
      · rw [if_pos z] at e46
        rw [if_pos ⟨ct, cp, z⟩]
        have yes : mRuns (d + 3) 78 35 [some (.ref 114), some (.int (zI t)), some (.int (zI p))] [.int (zI 1), .ref 114] (mPI h 114 0 (zI 0)) (.inl (some (.int (zI (cHd C (5 * t + p)))), mPI h 114 0 (zI 0))) := by
          refine vc_M_had_35 ?_
          simp (disch := omega) only [zI_add, zI_sub, zI_mul, zI_neg, zI_lit, zI_0, zI_1, zI_lt, zI_le, zI_eq, zI_clamp, zI_inT, zI_ite, mOb_0, mOb_1, mOb_3, mOb_4, mLd_1, mAr_1, mLen_1, mTrue_t, Int.toNat_zero, Int.toNat_one, true_and, and_true, not_true_eq_false, not_false_eq_true, true_or, or_true, or_self, false_or, or_false, forall_const, false_implies, true_implies, implies_true]
          refine ⟨_, _, rt, ?_⟩
          simp (disch := omega) only [zI_add, zI_sub, zI_mul, zI_neg, zI_lit, zI_0, zI_1, zI_lt, zI_le, zI_eq, zI_clamp, zI_inT, zI_ite, mOb_0, mOb_1, mOb_3, mOb_4, mLd_1, mAr_1, mLen_1, mTrue_t, Int.toNat_zero, Int.toNat_one, true_and, and_true, not_true_eq_false, not_false_eq_true, true_or, or_true, or_self, false_or, or_false, forall_const, false_implies, true_implies, implies_true, b1]
          repeat' (first | refine And.intro ?_ ?_ | with_reducible intro _)
          all_goals first | omega | rfl
        refine vc_M_had ?_
        simp (disch := omega) only [zI_add, zI_sub, zI_mul, zI_neg, zI_lit, zI_0, zI_1, zI_lt, zI_le, zI_eq, zI_clamp, zI_inT, zI_ite, mOb_0, mOb_1, mOb_3, mOb_4, mLd_1, mAr_1, mLen_1, mTrue_t, Int.toNat_zero, Int.toNat_one, true_and, and_true, not_true_eq_false, not_false_eq_true, true_or, or_true, or_self, false_or, or_false, forall_const, false_implies, true_implies, implies_true]
        refine ⟨_, _, it, ?_⟩
        simp (disch := omega) only [zI_add, zI_sub, zI_mul, zI_neg, zI_lit, zI_0, zI_1, zI_lt, zI_le, zI_eq, zI_clamp, zI_inT, zI_ite, mOb_0, mOb_1, mOb_3, mOb_4, mLd_1, mAr_1, mLen_1, mTrue_t, Int.toNat_zero, Int.toNat_one, true_and, and_true, not_true_eq_false, not_false_eq_true, true_or, or_true, or_self, false_or, or_false, forall_const, false_implies, true_implies, implies_true]
        refine ⟨fun y => by omega, fun _ => ⟨_, _, ip, ?_⟩⟩
        simp (disch := omega) only [zI_add, zI_sub, zI_mul, zI_neg, zI_lit, zI_0, zI_1, zI_lt, zI_le, zI_eq, zI_clamp, zI_inT, zI_ite, mOb_0, mOb_1, mOb_3, mOb_4, mLd_1, mAr_1, mLen_1, mTrue_t, Int.toNat_zero, Int.toNat_one, true_and, and_true, not_true_eq_false, not_false_eq_true, true_or, or_true, or_self, false_or, or_false, forall_const, false_implies, true_implies, implies_true, e46]
        repeat' (first | refine And.intro ?_ ?_ | with_reducible intro _)
        all_goals first | omega | exact yes
    · rw [if_neg cp] at ip
      rw [if_neg (fun y => cp y.2.1)]
      refine vc_M_had ?_
      simp (disch := omega) only [zI_add, zI_sub, zI_mul, zI_neg, zI_lit, zI_0, zI_1, zI_lt, zI_le, zI_eq, zI_clamp, zI_inT, zI_ite, mOb_0, mOb_1, mOb_3, mOb_4, mLd_1, mAr_1, mLen_1, mTrue_t, Int.toNat_zero, Int.toNat_one, true_and, and_true, not_true_eq_false, not_false_eq_true, true_or, or_true, or_self, false_or, or_false, forall_const, false_implies, true_implies, implies_true]
      refine ⟨_, _, it, ?_⟩
      simp (disch := omega) only [zI_add, zI_sub, zI_mul, zI_neg, zI_lit, zI_0, zI_1, zI_lt, zI_le, zI_eq, zI_clamp, zI_inT, zI_ite, mOb_0, mOb_1, mOb_3, mOb_4, mLd_1, mAr_1, mLen_1, mTrue_t, Int.toNat_zero, Int.toNat_one, true_and, and_true, not_true_eq_false, not_false_eq_true, true_or, or_true, or_self, false_or, or_false, forall_const, false_implies, true_implies, implies_true]
      refine ⟨fun y => by omega, fun _ => ⟨_, _, ip, ?_⟩⟩
      simp (disch := omega) only [zI_add, zI_sub, zI_mul, zI_neg, zI_lit, zI_0, zI_1, zI_lt, zI_le, zI_eq, zI_clamp, zI_inT, zI_ite, mOb_0, mOb_1, mOb_3, mOb_4, mLd_1, mAr_1, mLen_1, mTrue_t, Int.toNat_zero, Int.toNat_one, true_and, and_true, not_true_eq_false, not_false_eq_true, true_or, or_true, or_self, false_or, or_false, forall_const, false_implies, true_implies, implies_true]
      repeat' (first | refine And.intro ?_ ?_ | with_reducible intro _)
      all_goals first | omega | rfl
  · rw [if_neg ct] at it
    rw [if_neg (fun y => ct y.1)]
    refine vc_M_had ?_
    simp (disch := omega) only [zI_add, zI_sub, zI_mul, zI_neg, zI_lit, zI_0, zI_1, zI_lt, zI_le, zI_eq, zI_clamp, zI_inT, zI_ite, mOb_0, mOb_1, mOb_3, mOb_4, mLd_1, mAr_1, mLen_1, mTrue_t, Int.toNat_zero, Int.toNat_one, true_and, and_true, not_true_eq_false, not_false_eq_true, true_or, or_true, or_self, false_or, or_false, forall_const, false_implies, true_implies, implies_true]
    refine ⟨_, _, it, ?_⟩
    simp (disch := omega) only [zI_add, zI_sub, zI_mul, zI_neg, zI_lit, zI_0, zI_1, zI_lt, zI_le, zI_eq, zI_clamp, zI_inT, zI_ite, mOb_0, mOb_1, mOb_3, mOb_4, mLd_1, mAr_1, mLen_1, mTrue_t, Int.toNat_zero, Int.toNat_one, true_and, and_true, not_true_eq_false, not_false_eq_true, true_or, or_true, or_self, false_or, or_false, forall_const, false_implies, true_implies, implies_true]
    repeat' (first | refine And.intro ?_ ?_ | with_reducible intro _)
    all_goals first | omega | rfl

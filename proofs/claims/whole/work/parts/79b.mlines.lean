/-! L3, the model reads poisons and tasters -/
theorem s_M_pois90 {d : Nat} {u : Int → Int} {n : Int} {R : tR} {B : tB} {h : mHp} (n1 : n ≤ 700) (hu : uR u) (hO : ROk u n R) (hR : RM h u n R) (e22 : h.1 114 22 = zI (bP B)) (p0 : 0 ≤ bP B) (p1 : bP B < 5) :
    ∃ (x1 x2 : Int32) (h' : mHp), mRuns (d + 5) 22 90 [some (.ref 114), some (.int (zI (4 * bP B)))] [] h (.inl (none, h')) ∧ RM h' u n (aOp u n 5 99 1 (aOp u n 7 9 0 R).1).1 ∧
      (rF (aOp u n 5 99 1 (aOp u n 7 9 0 R).1).1 = 0 → x1 = zI (aOp u n 7 9 0 R).2 ∧ x2 = zI (aOp u n 5 99 1 (aOp u n 7 9 0 R).1).2 ∧ h'.1 114 22 = zI (bP B + 1)) ∧
      (∀ k, 20 ≤ k → k ≠ 22 → h'.1 114 k = h.1 114 k) ∧ (∀ a : Nat, a ≠ 114 → a ≠ 122 → h'.1 a = h.1 a) ∧ (h'.1 122 = fun y => if y = (4 * bP B + 3).toNat then x2 else if y = (4 * bP B + 2).toNat then x1 else h.1 122 y) ∧ kF rsL fsL h h' := by
  obtain ⟨x1, h1, r1, v1, C1, f1⟩ := s_M_op (d := d) (k := 7) (hi := 9) (wo := 0) (by omega) n1 hu hO hR (by omega) (by omega)
  have O1 := (Aft_op (k := 7) (hi := 9) (wo := 0) n1 hO).1
  have C1' := RM_row C1 (a := 122) (by omega) (by omega) (4 * bP B + 2).toNat x1
  obtain ⟨x2, h2, r2, v2, C2, f2⟩ := s_M_op (d := d) (k := 5) (hi := 99) (wo := 1) (by omega) n1 hu O1 C1' (by omega) (by omega)
  have O2 := (Aft_op (k := 5) (hi := 99) (wo := 1) n1 O1).1
  have C2' := RM_row C2 (a := 122) (by omega) (by omega) (4 * bP B + 3).toNat x2
  have F1 : kF rsL fsL h h1 := kF_mono f1 (by simp) (by simp)
  have F2 : kF rsL fsL h h2 := kF_trans (kF_pi F1 (x := 122) (by simp) (by omega) _ _) (kF_mono f2 (by simp) (by simp))
  have F3 : kF rsL fsL h (mPI h2 122 (4 * bP B + 3).toNat x2) := kF_pi F2 (x := 122) (by simp) (by omega) _ _
  have g21 : ∀ k, 20 ≤ k → h2.1 114 k = h.1 114 k := fun k hk => by
    have a : k ∉ fsM := by simp; omega
    rw [f2.2.1 k a, hI_ne (by omega), f1.2.1 k a]
  have gr : ∀ a : Nat, a ≠ 114 → a ≠ 122 → h2.1 a = h.1 a := fun a a0 a1 => by
    rw [f2.1 a (by simp) a0, hI_ne a1, f1.1 a (by simp) a0]
  have g2 : (mPI h2 122 (4 * bP B + 3).toNat x2).1 122 = fun y => if y = (4 * bP B + 3).toNat then x2 else if y = (4 * bP B + 2).toNat then x1 else h.1 122 y := by
    rw [hI_row, f2.1 122 (by simp) (by omega), hI_row, f1.1 122 (by simp) (by omega)]
  have e4 : (mPI h2 122 (4 * bP B + 3).toNat x2).1 114 22 = zI (bP B) := by rw [hI_ne (by omega), g21 22 (by omega)]; exact e22
  have Gd := s_M_good (d := d + 3) C2'.2.2.2.1 O2.2.1 O2.2.2.1
  by_cases c : rF (aOp u n 5 99 1 (aOp u n 7 9 0 R).1).1 = 0
  · rw [if_pos c] at Gd
    refine ⟨x1, x2, mPI (mPI h2 122 (4 * bP B + 3).toNat x2) 114 22 (zI (bP B + 1)), vc_M_readsPoison_90 ⟨x1, h1, r1, ?_⟩, RM_fld C2' (by omega) _, fun _ => ⟨v1 (op_f c).1, v2 c, hI_same _ _ _ _⟩, fun k k0 k1 => by rw [hI_off k1, hI_ne (by omega), g21 k k0], fun a a0 a1 => by rw [hI_ne a0, hI_ne a1, gr a a0 a1], by rw [hI_ne (by omega)]; exact g2, kF_pf F3 (by simp) _⟩
    simp (disch := omega) only [zI_add, zI_sub, zI_mul, zI_neg, zI_lit, zI_0, zI_1, zI_lt, zI_le, zI_eq, zI_clamp, zI_inT, zI_ite, mOb_0, mOb_1, mOb_3, mOb_4, mLd_1, mAr_1, mLen_1, mTrue_t, Int.toNat_zero, Int.toNat_one, true_and, and_true, not_true_eq_false, not_false_eq_true, true_or, or_true, or_self, false_or, or_false, forall_const, false_implies, true_implies, implies_true]
    refine ⟨x2, h2, r2, _, _, Gd, ?_⟩
    simp (disch := omega) only [zI_add, zI_sub, zI_mul, zI_neg, zI_lit, zI_0, zI_1, zI_lt, zI_le, zI_eq, zI_clamp, zI_inT, zI_ite, mOb_0, mOb_1, mOb_3, mOb_4, mLd_1, mAr_1, mLen_1, mTrue_t, Int.toNat_zero, Int.toNat_one, true_and, and_true, not_true_eq_false, not_false_eq_true, true_or, or_true, or_self, false_or, or_false, forall_const, false_implies, true_implies, implies_true, e4]
    repeat' (first | refine And.intro ?_ ?_ | with_reducible intro _)
    all_goals first | omega | rfl
  · rw [if_neg c] at Gd
    refine ⟨x1, x2, mPI h2 122 (4 * bP B + 3).toNat x2, vc_M_readsPoison_90 ⟨x1, h1, r1, ?_⟩, C2', fun z => absurd z c, fun k k0 k1 => by rw [hI_ne (by omega), g21 k k0], fun a a0 a1 => by rw [hI_ne a1, gr a a0 a1], g2, F3⟩
    simp (disch := omega) only [zI_add, zI_sub, zI_mul, zI_neg, zI_lit, zI_0, zI_1, zI_lt, zI_le, zI_eq, zI_clamp, zI_inT, zI_ite, mOb_0, mOb_1, mOb_3, mOb_4, mLd_1, mAr_1, mLen_1, mTrue_t, Int.toNat_zero, Int.toNat_one, true_and, and_true, not_true_eq_false, not_false_eq_true, true_or, or_true, or_self, false_or, or_false, forall_const, false_implies, true_implies, implies_true]
    refine ⟨x2, h2, r2, _, _, Gd, ?_⟩
    simp (disch := omega) only [zI_add, zI_sub, zI_mul, zI_neg, zI_lit, zI_0, zI_1, zI_lt, zI_le, zI_eq, zI_clamp, zI_inT, zI_ite, mOb_0, mOb_1, mOb_3, mOb_4, mLd_1, mAr_1, mLen_1, mTrue_t, Int.toNat_zero, Int.toNat_one, true_and, and_true, not_true_eq_false, not_false_eq_true, true_or, or_true, or_self, false_or, or_false, forall_const, false_implies, true_implies, implies_true, e4]
    repeat' (first | refine And.intro ?_ ?_ | with_reducible intro _)
    all_goals first | omega | rfl
theorem s_M_poisL {d : Nat} {u : Int → Int} {n : Int} {R : tR} {B : tB} {T : Int → Bool} {cl : Int} {h : mHp} (n1 : n ≤ 700) (hu : uR u) (hO : ROk u n R) (hQ : QM h u n (R, B, T, cl)) (c0 : rF R = 0) (c6 : bP B < 5) :
    ∃ h', mRuns (d + 5) 22 0 [some (.ref 114), none] [] h (.inl (none, h')) ∧ RM h' u n (dP4 u n R).1 ∧ (rF (dP4 u n R).1 = 0 → NM h' (bPP B (dP1 u n R).2 (dPw u n R) (dP3 u n R).2 (dP4 u n R).2) ∧ UM h' T ∧ h'.1 114 26 = zI cl) ∧ kF rsL fsL h h' := by
  obtain ⟨hR, hB, hBO, hU, h8, hcl⟩ := QM_d hQ c0
  have o1 := hBO.1
  have e22 := hB.2.1
  have G := s_M_good1 (d := d + 3) hR c0
  obtain ⟨h1, r1, C1, f1⟩ := s_M_sc (d := d + 2) n1 hu hO hR
  have O1 := (Aft_sc hO).1
  have e221 : h1.1 114 22 = zI (bP B) := by rw [f1.2.1 22 (by simp)]; exact e22
  obtain ⟨x2, h2, r2, v2, C2, f2⟩ := s_M_nu (d := d + 1) (lo := 1) (hi := 40) (a1 := zI 1) (a2 := zI 40) n1 hu O1 C1 (fun _ => ⟨rfl, rfl, by omega, by omega, by omega, by omega⟩)
  have O2 : ROk u n (dP1 u n R).1 := (Aft_nu (lo := 1) (hi := 40) n1 O1).1
  replace C2 : RM h2 u n (dP1 u n R).1 := C2
  replace v2 : rF (dP1 u n R).1 = 0 → x2 = zI (dP1 u n R).2 := v2
  have C2' := RM_row C2 (a := 122) (by omega) (by omega) (4 * bP B).toNat x2
  have Gd := s_M_good (d := d + 3) C2'.2.2.2.1 O2.2.1 O2.2.2.1
  have w := s_M_w (d := d + 1) (k := 6) (by omega) n1 O2 C2'
  have w01 : aW u 6 (dP1 u n R).1 = 0 ∨ aW u 6 (dP1 u n R).1 = 1 := aIs_01 _ _ _ _ _
  have W01 : dPw u n R = 0 ∨ dPw u n R = 1 := by unfold dPw; split <;> omega
  -- up to the place where wine is noted
  have E1 : ∀ out, mRuns (d + 5) 22 73 [some (.ref 114), some (.int (zI (4 * bP B)))] [.int (zI (dPw u n R)), .int (zI (4 * bP B + 1)), .ref 122] (mPI h2 122 (4 * bP B).toNat x2) out → mRuns (d + 5) 22 0 [some (.ref 114), none] [] h out := by
    intro out H
    refine vc_M_readsPoison ⟨fun _ => vc_M_readsPoison_13 ⟨_, _, G, ?_⟩, fun z => ?_⟩
    · simp (disch := omega) only [zI_add, zI_sub, zI_mul, zI_neg, zI_lit, zI_0, zI_1, zI_lt, zI_le, zI_eq, zI_clamp, zI_inT, zI_ite, mOb_0, mOb_1, mOb_3, mOb_4, mLd_1, mAr_1, mLen_1, mTrue_t, Int.toNat_zero, Int.toNat_one, true_and, and_true, not_true_eq_false, not_false_eq_true, true_or, or_true, or_self, false_or, or_false, forall_const, false_implies, true_implies, implies_true]
      refine ⟨fun _ => ⟨h1, r1, x2, h2, r2, ?_⟩, fun z => by omega⟩
      simp (disch := omega) only [zI_add, zI_sub, zI_mul, zI_neg, zI_lit, zI_0, zI_1, zI_lt, zI_le, zI_eq, zI_clamp, zI_inT, zI_ite, mOb_0, mOb_1, mOb_3, mOb_4, mLd_1, mAr_1, mLen_1, mTrue_t, Int.toNat_zero, Int.toNat_one, true_and, and_true, not_true_eq_false, not_false_eq_true, true_or, or_true, or_self, false_or, or_false, forall_const, false_implies, true_implies, implies_true, e221]
      refine ⟨_, _, Gd, ?_⟩
      by_cases c : rF (dP1 u n R).1 = 0
      · rw [if_pos c]
        simp (disch := omega) only [zI_add, zI_sub, zI_mul, zI_neg, zI_lit, zI_0, zI_1, zI_lt, zI_le, zI_eq, zI_clamp, zI_inT, zI_ite, mOb_0, mOb_1, mOb_3, mOb_4, mLd_1, mAr_1, mLen_1, mTrue_t, Int.toNat_zero, Int.toNat_one, true_and, and_true, not_true_eq_false, not_false_eq_true, true_or, or_true, or_self, false_or, or_false, forall_const, false_implies, true_implies, implies_true]
        refine ⟨fun z => by omega, fun _ => ⟨_, _, w, ?_⟩⟩
        by_cases cw : aW u 6 (dP1 u n R).1 = 1
        · have e : dPw u n R = 1 := by unfold dPw; rw [if_pos ⟨c, cw⟩]
          rw [e] at H
          simp (disch := omega) only [zI_add, zI_sub, zI_mul, zI_neg, zI_lit, zI_0, zI_1, zI_lt, zI_le, zI_eq, zI_clamp, zI_inT, zI_ite, mOb_0, mOb_1, mOb_3, mOb_4, mLd_1, mAr_1, mLen_1, mTrue_t, Int.toNat_zero, Int.toNat_one, true_and, and_true, not_true_eq_false, not_false_eq_true, true_or, or_true, or_self, false_or, or_false, forall_const, false_implies, true_implies, implies_true]
          repeat' (first | refine And.intro ?_ ?_ | with_reducible intro _)
          all_goals first | omega | exact H
        · have e : dPw u n R = 0 := by unfold dPw; rw [if_neg (fun z => cw z.2)]
          rw [e] at H
          simp (disch := omega) only [zI_add, zI_sub, zI_mul, zI_neg, zI_lit, zI_0, zI_1, zI_lt, zI_le, zI_eq, zI_clamp, zI_inT, zI_ite, mOb_0, mOb_1, mOb_3, mOb_4, mLd_1, mAr_1, mLen_1, mTrue_t, Int.toNat_zero, Int.toNat_one, true_and, and_true, not_true_eq_false, not_false_eq_true, true_or, or_true, or_self, false_or, or_false, forall_const, false_implies, true_implies, implies_true]
          repeat' (first | refine And.intro ?_ ?_ | with_reducible intro _)
          all_goals first | omega | exact H
      · rw [if_neg c]
        have e : dPw u n R = 0 := by unfold dPw; rw [if_neg (fun z => c z.1)]
        rw [e] at H
        simp (disch := omega) only [zI_add, zI_sub, zI_mul, zI_neg, zI_lit, zI_0, zI_1, zI_lt, zI_le, zI_eq, zI_clamp, zI_inT, zI_ite, mOb_0, mOb_1, mOb_3, mOb_4, mLd_1, mAr_1, mLen_1, mTrue_t, Int.toNat_zero, Int.toNat_one, true_and, and_true, not_true_eq_false, not_false_eq_true, true_or, or_true, or_self, false_or, or_false, forall_const, false_implies, true_implies, implies_true]
        repeat' (first | refine And.intro ?_ ?_ | with_reducible intro _)
        all_goals first | omega | exact H
    · rw [e22, show nI 5 = zI 5 from rfl, zI_eq (by omega) (by omega) (by omega) (by omega)] at z
      omega
  have C3' := RM_row C2' (a := 122) (by omega) (by omega) (4 * bP B + 1).toNat (zI (dPw u n R))
  have F1 : kF rsL fsL h h1 := kF_mono f1 (by simp) (by simp)
  have F2 : kF rsL fsL h h2 := kF_trans F1 (kF_mono f2 (by simp) (by simp))
  have F3 : kF rsL fsL h (mPI (mPI h2 122 (4 * bP B).toNat x2) 122 (4 * bP B + 1).toNat (zI (dPw u n R))) := kF_pi (kF_pi F2 (x := 122) (by simp) (by omega) _ _) (x := 122) (by simp) (by omega) _ _
  have E2 : ∃ h3, RM h3 u n (dP2 u n R) ∧ ROk u n (dP2 u n R) ∧ kF [] fsM (mPI (mPI h2 122 (4 * bP B).toNat x2) 122 (4 * bP B + 1).toNat (zI (dPw u n R))) h3 ∧ ∀ out, mRuns (d + 5) 22 90 [some (.ref 114), some (.int (zI (4 * bP B)))] [] h3 out → mRuns (d + 5) 22 0 [some (.ref 114), none] [] h out := by
    unfold dP2
    by_cases cw : dPw u n R = 1
    · rw [if_pos cw]
      obtain ⟨h3, r3, C3, f3⟩ := s_M_sc (d := d + 2) n1 hu O2 C3'
      refine ⟨h3, C3, (Aft_sc O2).1, f3, fun out H => E1 out (vc_M_readsPoison_73 ?_)⟩
      rw [cw] at r3 ⊢
      simp (disch := omega) only [zI_add, zI_sub, zI_mul, zI_neg, zI_lit, zI_0, zI_1, zI_lt, zI_le, zI_eq, zI_clamp, zI_inT, zI_ite, mOb_0, mOb_1, mOb_3, mOb_4, mLd_1, mAr_1, mLen_1, mTrue_t, Int.toNat_zero, Int.toNat_one, true_and, and_true, not_true_eq_false, not_false_eq_true, true_or, or_true, or_self, false_or, or_false, forall_const, false_implies, true_implies, implies_true, hI_same]
      repeat' (first | refine And.intro ?_ ?_ | with_reducible intro _)
      all_goals first | omega | exact ⟨h3, r3, H⟩
    · rw [if_neg cw]
      have cw0 : dPw u n R = 0 := by omega
      refine ⟨_, C3', O2, kF_refl _ _ _, fun out H => E1 out (vc_M_readsPoison_73 ?_)⟩
      rw [cw0] at H ⊢
      simp (disch := omega) only [zI_add, zI_sub, zI_mul, zI_neg, zI_lit, zI_0, zI_1, zI_lt, zI_le, zI_eq, zI_clamp, zI_inT, zI_ite, mOb_0, mOb_1, mOb_3, mOb_4, mLd_1, mAr_1, mLen_1, mTrue_t, Int.toNat_zero, Int.toNat_one, true_and, and_true, not_true_eq_false, not_false_eq_true, true_or, or_true, or_self, false_or, or_false, forall_const, false_implies, true_implies, implies_true, hI_same]
      repeat' (first | refine And.intro ?_ ?_ | with_reducible intro _)
      all_goals first | omega | exact H
  obtain ⟨h3, C3, O3, f3, K⟩ := E2
  have F4 : kF rsL fsL h h3 := kF_trans F3 (kF_mono f3 (by simp) (by simp))
  have e223 : h3.1 114 22 = zI (bP B) := by rw [f3.2.1 22 (by simp), hI_ne (by omega), hI_ne (by omega), f2.2.1 22 (by simp)]; exact e221
  obtain ⟨x4, x5, h', r', C', v', g21, gr, g2, F5⟩ := s_M_pois90 (d := d) (B := B) n1 hu O3 C3 e223 (by omega) c6
  refine ⟨h', K _ r', C', fun z => ?_, kF_trans F4 F5⟩
  obtain ⟨v4, v5, v6⟩ := v' z
  obtain ⟨y1, -⟩ := op_f (show rF (aOp u n 5 99 1 (dP3 u n R).1).1 = 0 from z)
  obtain ⟨y3, -⟩ := op_f (show rF (aOp u n 7 9 0 (dP2 u n R)).1 = 0 from y1)
  have y5 : rF (dP1 u n R).1 = 0 := by
    unfold dP2 at y3
    split at y3
    · exact y3
    · exact y3
  have v2 := v2 y5
  have k21 : ∀ k, 20 ≤ k → k ≠ 22 → h'.1 114 k = h.1 114 k := fun k k0 k1 => by
    have a : k ∉ fsM := by simp; omega
    rw [g21 k k0 k1, f3.2.1 k a, hI_ne (by omega), hI_ne (by omega), f2.2.1 k a, f1.2.1 k a]
  have kr : ∀ a : Nat, a ≠ 114 → a ≠ 122 → h'.1 a = h.1 a := fun a a0 a1 => by
    rw [gr a a0 a1, f3.1 a (by simp) a0, hI_ne a1, hI_ne a1, f2.1 a (by simp) a0, f1.1 a (by simp) a0]
  have k2 : h'.1 122 = fun y => if y = (4 * bP B + 3).toNat then x5 else if y = (4 * bP B + 2).toNat then x4 else if y = (4 * bP B + 1).toNat then zI (dPw u n R) else if y = (4 * bP B).toNat then x2 else h.1 122 y := by
    rw [g2, f3.1 122 (by simp) (by omega), hI_row, hI_row, f2.1 122 (by simp) (by omega), f1.1 122 (by simp) (by omega)]
  refine ⟨NM_P hB (by omega) v6 (fun k k0 => k21 k (by omega) (by omega)) (fun k k0 => kr k (by omega) (by omega)) ?_ ?_ ?_ ?_ (fun y hy => ?_), fun k k0 k1 => by rw [k21 25 (by omega) (by omega)]; exact hU k k0 k1, by rw [k21 26 (by omega) (by omega)]; exact h8⟩
  · rw [k2]
    show (if (4 * bP B).toNat = (4 * bP B + 3).toNat then x5 else if (4 * bP B).toNat = (4 * bP B + 2).toNat then x4 else if (4 * bP B).toNat = (4 * bP B + 1).toNat then zI (dPw u n R) else if (4 * bP B).toNat = (4 * bP B).toNat then x2 else _) = _
    rw [if_neg (by omega), if_neg (by omega), if_neg (by omega), if_pos rfl, v2]
  · rw [k2]
    show (if (4 * bP B + 1).toNat = (4 * bP B + 3).toNat then x5 else if (4 * bP B + 1).toNat = (4 * bP B + 2).toNat then x4 else if (4 * bP B + 1).toNat = (4 * bP B + 1).toNat then zI (dPw u n R) else _) = _
    rw [if_neg (by omega), if_neg (by omega), if_pos rfl]
  · rw [k2]
    show (if (4 * bP B + 2).toNat = (4 * bP B + 3).toNat then x5 else if (4 * bP B + 2).toNat = (4 * bP B + 2).toNat then x4 else _) = _
    rw [if_neg (by omega), if_pos rfl, v4]; rfl
  · rw [k2]
    show (if (4 * bP B + 3).toNat = (4 * bP B + 3).toNat then x5 else _) = _
    rw [if_pos rfl, v5]; rfl
  · rw [k2]
    show (if y = (4 * bP B + 3).toNat then x5 else if y = (4 * bP B + 2).toNat then x4 else if y = (4 * bP B + 1).toNat then zI (dPw u n R) else if y = (4 * bP B).toNat then x2 else h.1 122 y) = _
    rw [if_neg (by omega), if_neg (by omega), if_neg (by omega), if_neg (by omega)]
theorem s_M_tastL {d : Nat} {u : Int → Int} {n : Int} {R : tR} {B : tB} {T : Int → Bool} {cl : Int} {h : mHp} (n1 : n ≤ 700) (hu : uR u) (hO : ROk u n R) (hQ : QM h u n (R, B, T, cl)) (c0 : rF R = 0) (c6 : bT B < 5) :
    ∃ h', mRuns (d + 5) 23 0 [some (.ref 114), none, none] [] h (.inl (none, h')) ∧ RM h' u n (dT2 u n R).1 ∧ (rF (dT2 u n R).1 = 0 → NM h' (bPT B (dTk u n R) (dT2 u n R).2) ∧ UM h' T ∧ h'.1 114 26 = zI cl) ∧ kF rsL fsL h h' := by
  obtain ⟨hR, hB, hBO, hU, h8, hcl⟩ := QM_d hQ c0
  have o1 := hBO.1
  have e23 := hB.2.2.1
  have G := s_M_good1 (d := d + 3) hR c0
  obtain ⟨h1, r1, C1, f1⟩ := s_M_sc (d := d + 2) n1 hu hO hR
  have O1 := (Aft_sc hO).1
  have m1 : (-1 : Int32) = zI (-1) := rfl
  have kr := kn_rng u (aSc u n R)
  have F1 : kF rsL fsL h h1 := kF_mono f1 (by simp) (by simp)
  have c1 : rF (aSc u n R) = 0 := c0
  have E1 : ∀ out, mRuns (d + 5) 23 29 [some (.ref 114), some (.int (zI (aKn u (aSc u n R)))), some (.int (zI 5))] [] h1 out → mRuns (d + 5) 23 0 [some (.ref 114), none, none] [] h out := by
    intro out H
    rw [← aKf_kn] at H
    have H' := s_M_kinds (d := d + 1) n1 O1 C1 5 0 (-1) (by omega) H
    refine vc_M_readsTaster ⟨fun _ => vc_M_readsTaster_13 ⟨_, _, G, ?_⟩, fun z => ?_⟩
    · rw [m1]
      simp (disch := omega) only [zI_add, zI_sub, zI_mul, zI_neg, zI_lit, zI_0, zI_1, zI_lt, zI_le, zI_eq, zI_clamp, zI_inT, zI_ite, mOb_0, mOb_1, mOb_3, mOb_4, mLd_1, mAr_1, mLen_1, mTrue_t, Int.toNat_zero, Int.toNat_one, true_and, and_true, not_true_eq_false, not_false_eq_true, true_or, or_true, or_self, false_or, or_false, forall_const, false_implies, true_implies, implies_true]
      exact ⟨fun _ => ⟨h1, r1, H'⟩, fun z => by omega⟩
    · rw [e23, show nI 5 = zI 5 from rfl, zI_eq (by omega) (by omega) (by omega) (by omega)] at z
      omega
  by_cases ck : aKn u (aSc u n R) = -1
  · have eT : dT1 u n R = aFl 1 (aSc u n R) := by unfold dT1 aKi; rw [if_pos ck]
    have nf : rF (aFl 1 (aSc u n R)) ≠ 0 := fl_f (by omega) _
    have eT2 : (dT2 u n R) = (aFl 1 (aSc u n R), 6) := by unfold dT2 aOp; rw [eT, if_pos (Or.inl nf)]
    obtain ⟨h', r, C, f, -⟩ := s_M_fl (d := d + 3) (k := 1) O1 C1
    have G0 := s_M_good0 (d := d + 3) (ROk_fl n1 O1 (by omega) (by omega)).1 C nf
    rw [eT2]
    refine ⟨h', E1 _ (vc_M_readsTaster_29 ?_), C, fun z => absurd z nf, kF_trans F1 (kF_mono f (by simp) (by simp))⟩
    have q : ∀ v : Int32, mRuns (d + 5) 23 63 [some (.ref 114), some (.int v), none] [] h' (.inl (none, h')) := by
      intro v
      refine vc_M_readsTaster_63 ⟨_, _, G0, ?_⟩
      simp (disch := omega) only [zI_add, zI_sub, zI_mul, zI_neg, zI_lit, zI_0, zI_1, zI_lt, zI_le, zI_eq, zI_clamp, zI_inT, zI_ite, mOb_0, mOb_1, mOb_3, mOb_4, mLd_1, mAr_1, mLen_1, mTrue_t, Int.toNat_zero, Int.toNat_one, true_and, and_true, not_true_eq_false, not_false_eq_true, true_or, or_true, or_self, false_or, or_false, forall_const, false_implies, true_implies, implies_true]
      repeat' (first | refine And.intro ?_ ?_ | with_reducible intro _)
      all_goals first | omega | rfl
    rw [m1]
    simp (disch := omega) only [zI_add, zI_sub, zI_mul, zI_neg, zI_lit, zI_0, zI_1, zI_lt, zI_le, zI_eq, zI_clamp, zI_inT, zI_ite, mOb_0, mOb_1, mOb_3, mOb_4, mLd_1, mAr_1, mLen_1, mTrue_t, Int.toNat_zero, Int.toNat_one, true_and, and_true, not_true_eq_false, not_false_eq_true, true_or, or_true, or_self, false_or, or_false, forall_const, false_implies, true_implies, implies_true]
    repeat' (first | refine And.intro ?_ ?_ | with_reducible intro _)
    all_goals first | omega | exact ⟨h', r, q _⟩
  · have eT : dT1 u n R = aSc u n (aSc u n R) := by unfold dT1 aKi; rw [if_neg ck]
    have G1 := s_M_good1 (d := d + 3) C1 c1
    obtain ⟨h2, r2, C2, f2⟩ := s_M_sc (d := d + 2) n1 hu O1 C1
    have O2 := (Aft_sc O1).1
    have e232 : h2.1 114 23 = zI (bT B) := by rw [f2.2.1 23 (by simp), f1.2.1 23 (by simp)]; exact e23
    have C2' := RM_row C2 (a := 123) (by omega) (by omega) (2 * bT B).toNat (zI (dTk u n R))
    obtain ⟨x3, h3, r3, v3, C3, f3⟩ := s_M_op (d := d) (k := 8) (hi := 6) (wo := 6) (by omega) n1 hu O2 C2' (by omega) (by omega)
    have O3 := (Aft_op (k := 8) (hi := 6) (wo := 6) n1 O2).1
    have eT2 : dT2 u n R = aOp u n 8 6 6 (aSc u n (aSc u n R)) := by unfold dT2; rw [eT]
    rw [← eT2] at C3 O3 v3
    have C3' := RM_row C3 (a := 123) (by omega) (by omega) (2 * bT B + 1).toNat x3
    have F2 : kF rsL fsL h h2 := kF_trans F1 (kF_mono f2 (by simp) (by simp))
    have F3 : kF rsL fsL h h3 := kF_trans (kF_pi F2 (x := 123) (by simp) (by omega) _ _) (kF_mono f3 (by simp) (by simp))
    have F4 : kF rsL fsL h (mPI h3 123 (2 * bT B + 1).toNat x3) := kF_pi F3 (x := 123) (by simp) (by omega) _ _
    have g21 : ∀ k, 20 ≤ k → h3.1 114 k = h.1 114 k := fun k hk => by
      have a : k ∉ fsM := by simp; omega
      rw [f3.2.1 k a, hI_ne (by omega), f2.2.1 k a, f1.2.1 k a]
    have gr : ∀ a : Nat, a ≠ 114 → a ≠ 123 → h3.1 a = h.1 a := fun a a0 a1 => by
      rw [f3.1 a (by simp) a0, hI_ne a1, f2.1 a (by simp) a0, f1.1 a (by simp) a0]
    have g3 : (mPI h3 123 (2 * bT B + 1).toNat x3).1 123 = fun y => if y = (2 * bT B + 1).toNat then x3 else if y = (2 * bT B).toNat then zI (dTk u n R) else h.1 123 y := by
      rw [hI_row, f3.1 123 (by simp) (by omega), hI_row, f2.1 123 (by simp) (by omega), f1.1 123 (by simp) (by omega)]
    have Gd := s_M_good (d := d + 3) C3'.2.2.2.1 O3.2.1 O3.2.2.1
    have e4 : (mPI h3 123 (2 * bT B + 1).toNat x3).1 114 23 = zI (bT B) := by rw [hI_ne (by omega), g21 23 (by omega)]; exact e23
    have e5 : (mPI h2 123 (2 * bT B).toNat (zI (dTk u n R))).1 114 23 = zI (bT B) := by rw [hI_ne (by omega)]; exact e232
    have E2 : ∀ out, mRuns (d + 5) 23 63 [some (.ref 114), some (.int (zI (dTk u n R))), none] [] h1 out → mRuns (d + 5) 23 0 [some (.ref 114), none, none] [] h out := by
      intro out H
      refine E1 out (vc_M_readsTaster_29 ?_)
      replace H : mRuns (d + 5) 23 63 [some (.ref 114), some (.int (zI (aKn u (aSc u n R)))), none] [] h1 out := H
      rw [m1]
      simp (disch := omega) only [zI_add, zI_sub, zI_mul, zI_neg, zI_lit, zI_0, zI_1, zI_lt, zI_le, zI_eq, zI_clamp, zI_inT, zI_ite, mOb_0, mOb_1, mOb_3, mOb_4, mLd_1, mAr_1, mLen_1, mTrue_t, Int.toNat_zero, Int.toNat_one, true_and, and_true, not_true_eq_false, not_false_eq_true, true_or, or_true, or_self, false_or, or_false, forall_const, false_implies, true_implies, implies_true]
      repeat' (first | refine And.intro ?_ ?_ | with_reducible intro _)
      all_goals first | omega | exact H
    by_cases c : rF (dT2 u n R).1 = 0
    · rw [if_pos c] at Gd
      have v3 := v3 c
      refine ⟨mPI (mPI h3 123 (2 * bT B + 1).toNat x3) 114 23 (zI (bT B + 1)), E2 _ (vc_M_readsTaster_63 ⟨_, _, G1, ?_⟩), RM_fld C3' (by omega) _, fun _ => ⟨NM_T hB (by omega) (hI_same _ _ _ _) (fun k k0 => ?_) (fun k k0 => ?_) ?_ ?_ (fun y hy => ?_), fun k k0 k1 => by rw [hI_off (by omega), hI_ne (by omega), g21 25 (by omega)]; exact hU k k0 k1, by rw [hI_off (by omega), hI_ne (by omega), g21 26 (by omega)]; exact h8⟩, kF_pf F4 (by simp) _⟩
      · simp (disch := omega) only [zI_add, zI_sub, zI_mul, zI_neg, zI_lit, zI_0, zI_1, zI_lt, zI_le, zI_eq, zI_clamp, zI_inT, zI_ite, mOb_0, mOb_1, mOb_3, mOb_4, mLd_1, mAr_1, mLen_1, mTrue_t, Int.toNat_zero, Int.toNat_one, true_and, and_true, not_true_eq_false, not_false_eq_true, true_or, or_true, or_self, false_or, or_false, forall_const, false_implies, true_implies, implies_true]
        refine ⟨fun _ => ⟨h2, r2, ?_⟩, fun z => by omega⟩
        simp (disch := omega) only [zI_add, zI_sub, zI_mul, zI_neg, zI_lit, zI_0, zI_1, zI_lt, zI_le, zI_eq, zI_clamp, zI_inT, zI_ite, mOb_0, mOb_1, mOb_3, mOb_4, mLd_1, mAr_1, mLen_1, mTrue_t, Int.toNat_zero, Int.toNat_one, true_and, and_true, not_true_eq_false, not_false_eq_true, true_or, or_true, or_self, false_or, or_false, forall_const, false_implies, true_implies, implies_true, e232, e5]
        refine ⟨x3, h3, r3, _, _, Gd, ?_⟩
        simp (disch := omega) only [zI_add, zI_sub, zI_mul, zI_neg, zI_lit, zI_0, zI_1, zI_lt, zI_le, zI_eq, zI_clamp, zI_inT, zI_ite, mOb_0, mOb_1, mOb_3, mOb_4, mLd_1, mAr_1, mLen_1, mTrue_t, Int.toNat_zero, Int.toNat_one, true_and, and_true, not_true_eq_false, not_false_eq_true, true_or, or_true, or_self, false_or, or_false, forall_const, false_implies, true_implies, implies_true, e4]
        repeat' (first | refine And.intro ?_ ?_ | with_reducible intro _)
        all_goals first | omega | rfl
      · rw [hI_off (by omega), hI_ne (by omega), g21 k (by omega)]
      · rw [hI_ne (by omega), hI_ne (by omega), gr k (by omega) (by omega)]
      · rw [hI_ne (by omega), g3]
        show (if (2 * bT B).toNat = (2 * bT B + 1).toNat then x3 else if (2 * bT B).toNat = (2 * bT B).toNat then zI (dTk u n R) else _) = _
        rw [if_neg (by omega), if_pos rfl]
      · rw [hI_ne (by omega), g3]
        show (if (2 * bT B + 1).toNat = (2 * bT B + 1).toNat then x3 else _) = _
        rw [if_pos rfl, v3]
      · rw [hI_ne (by omega), g3]
        show (if y = (2 * bT B + 1).toNat then x3 else if y = (2 * bT B).toNat then zI (dTk u n R) else h.1 123 y) = _
        rw [if_neg (by omega), if_neg (by omega)]
    · rw [if_neg c] at Gd
      refine ⟨mPI h3 123 (2 * bT B + 1).toNat x3, E2 _ (vc_M_readsTaster_63 ⟨_, _, G1, ?_⟩), C3', fun z => absurd z c, F4⟩
      simp (disch := omega) only [zI_add, zI_sub, zI_mul, zI_neg, zI_lit, zI_0, zI_1, zI_lt, zI_le, zI_eq, zI_clamp, zI_inT, zI_ite, mOb_0, mOb_1, mOb_3, mOb_4, mLd_1, mAr_1, mLen_1, mTrue_t, Int.toNat_zero, Int.toNat_one, true_and, and_true, not_true_eq_false, not_false_eq_true, true_or, or_true, or_self, false_or, or_false, forall_const, false_implies, true_implies, implies_true]
      refine ⟨fun _ => ⟨h2, r2, ?_⟩, fun z => by omega⟩
      simp (disch := omega) only [zI_add, zI_sub, zI_mul, zI_neg, zI_lit, zI_0, zI_1, zI_lt, zI_le, zI_eq, zI_clamp, zI_inT, zI_ite, mOb_0, mOb_1, mOb_3, mOb_4, mLd_1, mAr_1, mLen_1, mTrue_t, Int.toNat_zero, Int.toNat_one, true_and, and_true, not_true_eq_false, not_false_eq_true, true_or, or_true, or_self, false_or, or_false, forall_const, false_implies, true_implies, implies_true, e232, e5]
      refine ⟨x3, h3, r3, _, _, Gd, ?_⟩
      simp (disch := omega) only [zI_add, zI_sub, zI_mul, zI_neg, zI_lit, zI_0, zI_1, zI_lt, zI_le, zI_eq, zI_clamp, zI_inT, zI_ite, mOb_0, mOb_1, mOb_3, mOb_4, mLd_1, mAr_1, mLen_1, mTrue_t, Int.toNat_zero, Int.toNat_one, true_and, and_true, not_true_eq_false, not_false_eq_true, true_or, or_true, or_self, false_or, or_false, forall_const, false_implies, true_implies, implies_true, e4]
      repeat' (first | refine And.intro ?_ ?_ | with_reducible intro _)
      all_goals first | omega | rfl

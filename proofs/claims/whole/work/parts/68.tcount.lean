/-! L3, count -/
def rCount (B : tB) (E : tE) (C : tC) (n r0 r1 r2 x : Int) : Int × Int := if 0 ≤ x ∧ x ≤ 10 then (0, if x = 0 then bD B else if x = 1 then bP B else if x = 2 then bT B else if x = 3 then bC B else if x = 4 then eN E else if x = 5 then aNow E else if x = 6 then n else if x = 7 then r0 else if x = 8 then r1 else if x = 9 then r2 else cN C) else (1, 0)
theorem upto10 {x : Int} (h0 : 0 ≤ x) (h1 : x ≤ 10) : x = 0 ∨ x = 1 ∨ x = 2 ∨ x = 3 ∨ x = 4 ∨ x = 5 ∨ x = 6 ∨ x = 7 ∨ x = 8 ∨ x = 9 ∨ x = 10 := by omega
theorem s_T_count {d : Nat} {h : mHp} {b : Nat} {B : tB} {E : tE} {C : tC} {n r0 r1 r2 : Int} (hb : bAd b) (hR : h.2.2.1 0 0 = b) (hB : BC h b B) (hL : LC h 90 E) (hE : EOk B E) (hC : CC h 102 C) (hn : h.1 23 1 = zI n) (h0 : h.1 0 12 = zI r0) (h1 : h.1 0 13 = zI r1) (h2 : h.1 0 14 = zI r2) {x : Int} (x1 : -2147483648 ≤ x) (x2 : x < 2147483648) :
    mRuns (d + 2) 159 0 [some (.ref 0), some (.int (zI x))] [] h (tQ (rCount B E C n r0 r1 r2 x) h) := by
  have sb := bBl_of hb
  have s0 := (bSh_of hb).1
  obtain ⟨e0, e4, e9, e13, -⟩ := id hB
  have l0 := hL.1.1
  have c4 := hC.1.2.2.2.2
  have la := s_Log_latest (d := d) (Or.inl rfl : lAd 90) hL hE
  refine vc_T_count ?_
  by_cases cx : 0 ≤ x ∧ x ≤ 10
  · have e : rCount B E C n r0 r1 r2 x = (0, (rCount B E C n r0 r1 r2 x).2) := by unfold rCount; rw [if_pos cx]
    rw [tQ_ok e]
    unfold rCount; rw [if_pos cx]
    rcases upto10 cx.1 cx.2 with rfl | rfl | rfl | rfl | rfl | rfl | rfl | rfl | rfl | rfl | rfl
    all_goals (simp (disch := omega) only [zI_add, zI_sub, zI_mul, zI_neg, zI_lit, zI_0, zI_1, zI_lt, zI_le, zI_eq, zI_clamp, zI_inT, zI_ite, mOb_0, mOb_1, mOb_3, mOb_4, mLd_1, mAr_1, mLen_1, mTrue_t, Int.toNat_zero, Int.toNat_one, true_and, and_true, not_true_eq_false, not_false_eq_true, true_or, or_true, or_self, false_or, or_false, forall_const, false_implies, true_implies, implies_true, hR, sb, s0, e0, e4, e9, e13, l0, c4, hn, h0, h1, h2]; repeat' (first | refine And.intro ?_ ?_ | with_reducible intro _))
    all_goals first | omega | rfl | exact ⟨_, _, la, rfl⟩
  · rw [tQ_no (by unfold rCount; rw [if_neg cx])]
    simp (disch := omega) only [zI_add, zI_sub, zI_mul, zI_neg, zI_lit, zI_0, zI_1, zI_lt, zI_le, zI_eq, zI_clamp, zI_inT, zI_ite, mOb_0, mOb_1, mOb_3, mOb_4, mLd_1, mAr_1, mLen_1, mTrue_t, Int.toNat_zero, Int.toNat_one, true_and, and_true, not_true_eq_false, not_false_eq_true, true_or, or_true, or_self, false_or, or_false, forall_const, false_implies, true_implies, implies_true, hR, sb, s0]
    repeat' (first | refine And.intro ?_ ?_ | with_reducible intro _)
    all_goals first | omega | rfl
theorem s_M_count {d : Nat} {h : mHp} {B : tB} {E : tE} {C : tC} {n r0 r1 r2 : Int} (hB : BM h B) (hM : EM h E) (hE : EOk B E) (hC : CM h C) (hK : COk C) (hn : h.1 114 10 = zI n) (h0 : h.1 120 0 = zI r0) (h1 : h.1 120 1 = zI r1) (h2 : h.1 120 2 = zI r2) {x : Int} (x1 : -2147483648 ≤ x) (x2 : x < 2147483648) :
    mRuns (d + 2) 29 0 [some (.ref 114), some (.int (zI x))] [] h (.inl (some (.int (zI (rCount B E C n r0 r1 r2 x).2)), mPI h 114 0 (zI (rCount B E C n r0 r1 r2 x).1))) := by
  have k1 := hK.1
  have k2 := hK.2.1
  have k3 := hK.2.2.1
  have k4 := hK.2.2.2.1
  have B0 := BM_of (h' := mPI h 114 0 (zI 0)) hB (fun k _ _ => hI_off (by omega) _ _ _ _) (fun k _ _ => hI_ne (by omega) _ _ _)
  have M0 := EM_of (h' := mPI h 114 0 (zI 0)) hM (hI_off (by omega) _ _ _ _) (hI_ne (by omega) _ _ _)
  have C0 := CM_of (h' := mPI h 114 0 (zI 0)) hC (fun k _ _ => hI_off (by omega) _ _ _ _) (hI_ne (by omega) _ _ _) (hI_ne (by omega) _ _ _)
  have t0 : (mPI h 114 0 (zI 0)).1 114 0 = zI 0 := hI_same _ _ _ _
  have two : mPI (mPI h 114 0 (zI 0)) 114 0 (zI 1) = mPI h 114 0 (zI 1) := hI_two _ _ _ _ _
  have wi := s_M_within (d := d) (h := mPI h 114 0 (zI 0)) (a := x) (b := 0) (c := 10) x1 x2 (by omega) (by omega) (by omega) (by omega)
  have rt := s_M_right_t (d := d) (w := 1) t0 (a := 1) rfl
  have rf := s_M_right_f (d := d) (w := 1) t0 (by omega) (by omega)
  rw [two] at rf
  obtain ⟨e1, e2, e3, e4, -⟩ := id B0
  have e42 := M0.1
  have e46 := C0.1.1
  have e10 : (mPI h 114 0 (zI 0)).1 114 10 = zI n := by rw [hI_off (by omega)]; exact hn
  have f0 : (mPI h 114 0 (zI 0)).1 120 0 = zI r0 := by rw [hI_ne (by omega)]; exact h0
  have f1 : (mPI h 114 0 (zI 0)).1 120 1 = zI r1 := by rw [hI_ne (by omega)]; exact h1
  have f2 : (mPI h 114 0 (zI 0)).1 120 2 = zI r2 := by rw [hI_ne (by omega)]; exact h2
  have nw := s_M_now (d := d) M0 hE
  have i0 : ((7 : Int) - 7).toNat = 0 := rfl
  have i1 : ((8 : Int) - 7).toNat = 1 := rfl
  have i2 : ((9 : Int) - 7).toNat = 2 := rfl
  refine vc_M_count ?_
  unfold rCount
  by_cases cx : 0 ≤ x ∧ x ≤ 10
  · rw [if_pos cx] at wi
    rw [if_pos cx]
    generalize hv : (if x = 0 then bD B else if x = 1 then bP B else if x = 2 then bT B else if x = 3 then bC B else if x = 4 then eN E else if x = 5 then aNow E else if x = 6 then n else if x = 7 then r0 else if x = 8 then r1 else if x = 9 then r2 else cN C) = v
    refine ⟨_, _, wi, _, _, rt, ?_⟩
    have c46 : (mPI h 114 0 (zI 0)).1 114 46 = zI (-1) ∧ cN C = 0 ∨ (mPI h 114 0 (zI 0)).1 114 46 = zI (cN C) := by
      rcases k1 with z | z
      · rw [if_neg (by omega)] at e46; exact Or.inl ⟨e46, k2 z⟩
      · rw [if_pos z] at e46; exact Or.inr e46
    rcases c46 with ⟨c46, cz⟩ | c46
    · rcases upto10 cx.1 cx.2 with rfl | rfl | rfl | rfl | rfl | rfl | rfl | rfl | rfl | rfl | rfl
      all_goals (simp (disch := omega) only [zI_add, zI_sub, zI_mul, zI_neg, zI_lit, zI_0, zI_1, zI_lt, zI_le, zI_eq, zI_clamp, zI_inT, zI_ite, mOb_0, mOb_1, mOb_3, mOb_4, mLd_1, mAr_1, mLen_1, mTrue_t, Int.toNat_zero, Int.toNat_one, true_and, and_true, not_true_eq_false, not_false_eq_true, true_or, or_true, or_self, false_or, or_false, forall_const, false_implies, true_implies, implies_true, e1, e2, e3, e4, e42, e10, i0, i1, i2, f0, f1, f2, c46]; repeat' (first | refine And.intro ?_ ?_ | with_reducible intro _))
      all_goals first | omega | (rw [← hv]; rfl) | (rw [← hv]; exact ⟨_, _, nw, rfl⟩) | (rw [← hv]; show Sum.inl (some (Value.int (zI (cN C))), _) = _; rw [cz])
    · rcases upto10 cx.1 cx.2 with rfl | rfl | rfl | rfl | rfl | rfl | rfl | rfl | rfl | rfl | rfl
      all_goals (simp (disch := omega) only [zI_add, zI_sub, zI_mul, zI_neg, zI_lit, zI_0, zI_1, zI_lt, zI_le, zI_eq, zI_clamp, zI_inT, zI_ite, mOb_0, mOb_1, mOb_3, mOb_4, mLd_1, mAr_1, mLen_1, mTrue_t, Int.toNat_zero, Int.toNat_one, true_and, and_true, not_true_eq_false, not_false_eq_true, true_or, or_true, or_self, false_or, or_false, forall_const, false_implies, true_implies, implies_true, e1, e2, e3, e4, e42, e10, i0, i1, i2, f0, f1, f2, c46]; repeat' (first | refine And.intro ?_ ?_ | with_reducible intro _))
      all_goals first | omega | (rw [← hv]; rfl) | (rw [← hv]; exact ⟨_, _, nw, rfl⟩)
  · rw [if_neg cx] at wi
    rw [if_neg cx]
    simp (disch := omega) only [zI_add, zI_sub, zI_mul, zI_neg, zI_lit, zI_0, zI_1, zI_lt, zI_le, zI_eq, zI_clamp, zI_inT, zI_ite, mOb_0, mOb_1, mOb_3, mOb_4, mLd_1, mAr_1, mLen_1, mTrue_t, Int.toNat_zero, Int.toNat_one, true_and, and_true, not_true_eq_false, not_false_eq_true, true_or, or_true, or_self, false_or, or_false, forall_const, false_implies, true_implies, implies_true]
    refine ⟨_, _, wi, _, _, rf, ?_⟩
    simp (disch := omega) only [zI_add, zI_sub, zI_mul, zI_neg, zI_lit, zI_0, zI_1, zI_lt, zI_le, zI_eq, zI_clamp, zI_inT, zI_ite, mOb_0, mOb_1, mOb_3, mOb_4, mLd_1, mAr_1, mLen_1, mTrue_t, Int.toNat_zero, Int.toNat_one, true_and, and_true, not_true_eq_false, not_false_eq_true, true_or, or_true, or_self, false_or, or_false, forall_const, false_implies, true_implies, implies_true]
    repeat' (first | refine And.intro ?_ ?_ | with_reducible intro _)
    all_goals first | omega | rfl

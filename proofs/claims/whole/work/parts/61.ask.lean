/-! L3, what is told of the table: dish, poison, taster, shows -/
def tQ (r : Int × Int) (h : mHp) : mOut := if r.1 = 0 then .inl (some (.int (zI r.2)), h) else .inr (1, mXc h)
def rDish (B : tB) (q x : Int) : Int × Int := if (0 ≤ q ∧ q < bD B) ∧ 0 ≤ x ∧ x ≤ 2 then (0, bF B x q) else (1, 0)
def rPois (B : tB) (q x : Int) : Int × Int := if (0 ≤ q ∧ q < bP B) ∧ 0 ≤ x ∧ x ≤ 3 then (0, bF B (3 + x) q) else (1, 0)
def rTast (B : tB) (E : tE) (t x : Int) : Int × Int := if (0 ≤ t ∧ t < bT B) ∧ ((0 ≤ x ∧ x ≤ 2) ∨ (10 ≤ x ∧ x - 10 < bP B)) then (0, if x = 0 then bF B 7 t else if x = 1 then bF B 8 t else if x = 2 then aFell E t else bF B 9 (5 * t + (x - 10))) else (1, 0)
def rShow (B : tB) (t p w : Int) : Int × Int := if (0 ≤ t ∧ t < bT B) ∧ (0 ≤ p ∧ p < bP B) then (0, aSho B t p w) else (1, 0)
theorem tQ_ok {r : Int × Int} {v : Int} (e : r = (0, v)) (h : mHp) : tQ r h = .inl (some (.int (zI v)), h) := by rw [e]; rfl
theorem tQ_no {r : Int × Int} (e : r = (1, 0)) (h : mHp) : tQ r h = .inr (1, mXc h) := by rw [e]; rfl
theorem s_T_dish {d : Nat} {h : mHp} {b : Nat} {B : tB} (hb : bAd b) (hR : h.2.2.1 0 0 = b) (hB : BC h b B) (hO : BOk B) {q x : Int} (q1 : -2147483648 ≤ q) (q2 : q < 2147483648) (x1 : -2147483648 ≤ x) (x2 : x < 2147483648) : mRuns (d + 2) 160 0 [some (.ref 0), some (.int (zI q)), some (.int (zI x))] [] h (tQ (rDish B q x) h) := by
  have o := hO.1
  have sb := bBl_of hb
  obtain ⟨s0, s1, s2, s3, s4, s5, s6, s7, s8, s9, s10⟩ := bSh_of hb
  obtain ⟨e0, e4, e9, e13, a1, a2, a3, a4, a5, a6, a7, a8, a9, a10⟩ := id hB
  have nd := s_T_needDish (d := d) hb hR hB hO q1 q2
  unfold tOut at nd
  by_cases cq : 0 ≤ q ∧ q < bD B
  · rw [if_pos cq] at nd
    refine vc_T_dish (Or.inl ⟨h, nd, ?_⟩)
    by_cases cx : 0 ≤ x ∧ x ≤ 2
    · rw [tQ_ok (v := bF B x q) (by unfold rDish; rw [if_pos ⟨cq, cx⟩])]
      have : x = 0 ∨ x = 1 ∨ x = 2 := by omega
      rcases this with rfl | rfl | rfl
      all_goals (simp (disch := omega) only [zI_add, zI_sub, zI_mul, zI_neg, zI_lit, zI_0, zI_1, zI_lt, zI_le, zI_eq, zI_clamp, zI_inT, zI_ite, mOb_0, mOb_1, mOb_3, mOb_4, mLd_1, mAr_1, mLen_1, mTrue_t, Int.toNat_zero, Int.toNat_one, true_and, and_true, not_true_eq_false, not_false_eq_true, true_or, or_true, or_self, false_or, or_false, forall_const, false_implies, true_implies, implies_true, hR, sb, s0, s1, s2, s3, a1, a2, a3]; repeat' (first | refine And.intro ?_ ?_ | with_reducible intro _))
      all_goals first | omega | rfl
    · rw [tQ_no (by unfold rDish; rw [if_neg (fun z => cx z.2)])]
      simp (disch := omega) only [zI_add, zI_sub, zI_mul, zI_neg, zI_lit, zI_0, zI_1, zI_lt, zI_le, zI_eq, zI_clamp, zI_inT, zI_ite, mOb_0, mOb_1, mOb_3, mOb_4, mLd_1, mAr_1, mLen_1, mTrue_t, Int.toNat_zero, Int.toNat_one, true_and, and_true, not_true_eq_false, not_false_eq_true, true_or, or_true, or_self, false_or, or_false, forall_const, false_implies, true_implies, implies_true, hR, sb, s0, s1, s2, s3]
      repeat' (first | refine And.intro ?_ ?_ | with_reducible intro _)
      all_goals first | omega | rfl
  · rw [if_neg cq] at nd
    rw [tQ_no (by unfold rDish; rw [if_neg (fun z => cq z.1)])]
    exact vc_T_dish (Or.inr ⟨_, _, nd, rfl⟩)
theorem s_T_poison {d : Nat} {h : mHp} {b : Nat} {B : tB} (hb : bAd b) (hR : h.2.2.1 0 0 = b) (hB : BC h b B) (hO : BOk B) {q x : Int} (q1 : -2147483648 ≤ q) (q2 : q < 2147483648) (x1 : -2147483648 ≤ x) (x2 : x < 2147483648) : mRuns (d + 2) 162 0 [some (.ref 0), some (.int (zI q)), some (.int (zI x))] [] h (tQ (rPois B q x) h) := by
  have o := hO.1
  have sb := bBl_of hb
  obtain ⟨s0, s1, s2, s3, s4, s5, s6, s7, s8, s9, s10⟩ := bSh_of hb
  obtain ⟨e0, e4, e9, e13, a1, a2, a3, a4, a5, a6, a7, a8, a9, a10⟩ := id hB
  have nd := s_T_needPoison (d := d) hb hR hB hO q1 q2
  unfold tOut at nd
  by_cases cq : 0 ≤ q ∧ q < bP B
  · rw [if_pos cq] at nd
    refine vc_T_poison (Or.inl ⟨h, nd, ?_⟩)
    by_cases cx : 0 ≤ x ∧ x ≤ 3
    · rw [tQ_ok (v := bF B (3 + x) q) (by unfold rPois; rw [if_pos ⟨cq, cx⟩])]
      have : x = 0 ∨ x = 1 ∨ x = 2 ∨ x = 3 := by omega
      rcases this with rfl | rfl | rfl | rfl
      all_goals (simp (disch := omega) only [zI_add, zI_sub, zI_mul, zI_neg, zI_lit, zI_0, zI_1, zI_lt, zI_le, zI_eq, zI_clamp, zI_inT, zI_ite, mOb_0, mOb_1, mOb_3, mOb_4, mLd_1, mAr_1, mLen_1, mTrue_t, Int.toNat_zero, Int.toNat_one, true_and, and_true, not_true_eq_false, not_false_eq_true, true_or, or_true, or_self, false_or, or_false, forall_const, false_implies, true_implies, implies_true, hR, sb, s0, s4, s5, s6, s7, a4, a5, a6, a7]; repeat' (first | refine And.intro ?_ ?_ | with_reducible intro _))
      all_goals first | omega | rfl
    · rw [tQ_no (by unfold rPois; rw [if_neg (fun z => cx z.2)])]
      simp (disch := omega) only [zI_add, zI_sub, zI_mul, zI_neg, zI_lit, zI_0, zI_1, zI_lt, zI_le, zI_eq, zI_clamp, zI_inT, zI_ite, mOb_0, mOb_1, mOb_3, mOb_4, mLd_1, mAr_1, mLen_1, mTrue_t, Int.toNat_zero, Int.toNat_one, true_and, and_true, not_true_eq_false, not_false_eq_true, true_or, or_true, or_self, false_or, or_false, forall_const, false_implies, true_implies, implies_true, hR, sb, s0, s4, s5, s6, s7]
      repeat' (first | refine And.intro ?_ ?_ | with_reducible intro _)
      all_goals first | omega | rfl
  · rw [if_neg cq] at nd
    rw [tQ_no (by unfold rPois; rw [if_neg (fun z => cq z.1)])]
    exact vc_T_poison (Or.inr ⟨_, _, nd, rfl⟩)
theorem s_T_shows {d : Nat} {h : mHp} {b : Nat} {B : tB} (hb : bAd b) (hR : h.2.2.1 0 0 = b) (hB : BC h b B) (hO : BOk B) {t p w : Int} (q1 : -2147483648 ≤ t) (q2 : t < 2147483648) (x1 : -2147483648 ≤ p) (x2 : p < 2147483648) (w0 : 0 ≤ w) (w1 : w ≤ 1) : mRuns (d + 3) 166 0 [some (.ref 0), some (.int (zI t)), some (.int (zI p)), some (.int (zI w))] [] h (tQ (rShow B t p w) h) := by
  have sb := bBl_of hb
  have s0 := (bSh_of hb).1
  have nt := s_T_needTaster (d := d + 1) hb hR hB hO q1 q2
  have np := s_T_needPoison (d := d + 1) hb hR hB hO x1 x2
  unfold tOut at nt np
  by_cases ct : 0 ≤ t ∧ t < bT B
  · rw [if_pos ct] at nt
    by_cases cp : 0 ≤ p ∧ p < bP B
    · rw [if_pos cp] at np
      rw [tQ_ok (v := aSho B t p w) (by unfold rShow; rw [if_pos ⟨ct, cp⟩])]
      refine vc_T_shows (Or.inl ⟨h, nt, Or.inl ⟨h, np, ?_⟩⟩)
      simp (disch := omega) only [zI_add, zI_sub, zI_mul, zI_neg, zI_lit, zI_0, zI_1, zI_lt, zI_le, zI_eq, zI_clamp, zI_inT, zI_ite, mOb_0, mOb_1, mOb_3, mOb_4, mLd_1, mAr_1, mLen_1, mTrue_t, Int.toNat_zero, Int.toNat_one, true_and, and_true, not_true_eq_false, not_false_eq_true, true_or, or_true, or_self, false_or, or_false, forall_const, false_implies, true_implies, implies_true, hR, sb, s0]
      exact ⟨_, _, s_Brd_show hb hB hO ct.1 ct.2 cp.1 cp.2 w0 w1, rfl⟩
    · rw [if_neg cp] at np
      rw [tQ_no (by unfold rShow; rw [if_neg (fun z => cp z.2)])]
      exact vc_T_shows (Or.inl ⟨h, nt, Or.inr ⟨_, _, np, rfl⟩⟩)
  · rw [if_neg ct] at nt
    rw [tQ_no (by unfold rShow; rw [if_neg (fun z => ct z.1)])]
    exact vc_T_shows (Or.inr ⟨_, _, nt, rfl⟩)
theorem s_T_taster {d : Nat} {h : mHp} {b : Nat} {B : tB} {E : tE} (hb : bAd b) (hR : h.2.2.1 0 0 = b) (hB : BC h b B) (hO : BOk B) (hL : LC h 90 E) {t x : Int} (q1 : -2147483648 ≤ t) (q2 : t < 2147483648) (x1 : -2147483648 ≤ x) (x2 : x < 2147483648) : mRuns (d + 2) 164 0 [some (.ref 0), some (.int (zI t)), some (.int (zI x))] [] h (tQ (rTast B E t x) h) := by
  have o := hO.1
  have sb := bBl_of hb
  obtain ⟨s0, s1, s2, s3, s4, s5, s6, s7, s8, s9, s10⟩ := bSh_of hb
  obtain ⟨e0, e4, e9, e13, a1, a2, a3, a4, a5, a6, a7, a8, a9, a10⟩ := id hB
  have nt := s_T_needTaster (d := d) hb hR hB hO q1 q2
  have fl : aEq (h.1 95) 5 (aFell E) := hL.2
  unfold tOut at nt
  by_cases ct : 0 ≤ t ∧ t < bT B
  · rw [if_pos ct] at nt
    refine vc_T_taster (Or.inl ⟨h, nt, ?_⟩)
    have f5 := fl t ct.1 (by omega)
    by_cases cx : (0 ≤ x ∧ x ≤ 2) ∨ (10 ≤ x ∧ x - 10 < bP B)
    · rw [tQ_ok (v := if x = 0 then bF B 7 t else if x = 1 then bF B 8 t else if x = 2 then aFell E t else bF B 9 (5 * t + (x - 10))) (by unfold rTast; rw [if_pos ⟨ct, cx⟩])]
      rcases cx with c | c
      · have : x = 0 ∨ x = 1 ∨ x = 2 := by omega
        rcases this with rfl | rfl | rfl
        all_goals (simp (disch := omega) only [zI_add, zI_sub, zI_mul, zI_neg, zI_lit, zI_0, zI_1, zI_lt, zI_le, zI_eq, zI_clamp, zI_inT, zI_ite, mOb_0, mOb_1, mOb_3, mOb_4, mLd_1, mAr_1, mLen_1, mTrue_t, Int.toNat_zero, Int.toNat_one, true_and, and_true, not_true_eq_false, not_false_eq_true, true_or, or_true, or_self, false_or, or_false, forall_const, false_implies, true_implies, implies_true, hR, sb, s0, s8, s9, a8, a9, f5]; repeat' (first | refine And.intro ?_ ?_ | with_reducible intro _))
        all_goals first | omega | rfl
      · rw [if_neg (by omega), if_neg (by omega), if_neg (by omega)]
        simp (disch := omega) only [zI_add, zI_sub, zI_mul, zI_neg, zI_lit, zI_0, zI_1, zI_lt, zI_le, zI_eq, zI_clamp, zI_inT, zI_ite, mOb_0, mOb_1, mOb_3, mOb_4, mLd_1, mAr_1, mLen_1, mTrue_t, Int.toNat_zero, Int.toNat_one, true_and, and_true, not_true_eq_false, not_false_eq_true, true_or, or_true, or_self, false_or, or_false, forall_const, false_implies, true_implies, implies_true, hR, sb, s0, s8, s9, s10, e4]
        refine ⟨fun _ => ⟨fun z => by omega, fun _ => ⟨fun _ => ⟨_, _, s_T_hadIndex, ?_⟩, fun z => by omega⟩⟩, fun z => by omega, fun z => by omega, fun z => by omega⟩
        simp (disch := omega) only [zI_add, zI_sub, zI_mul, zI_neg, zI_lit, zI_0, zI_1, zI_lt, zI_le, zI_eq, zI_clamp, zI_inT, zI_ite, mOb_0, mOb_1, mOb_3, mOb_4, mLd_1, mAr_1, mLen_1, mTrue_t, Int.toNat_zero, Int.toNat_one, true_and, and_true, not_true_eq_false, not_false_eq_true, true_or, or_true, or_self, false_or, or_false, forall_const, false_implies, true_implies, implies_true, s10, a10]
    · rw [tQ_no (by unfold rTast; rw [if_neg (fun z => cx z.2)])]
      by_cases c10 : x < 10
      · simp (disch := omega) only [zI_add, zI_sub, zI_mul, zI_neg, zI_lit, zI_0, zI_1, zI_lt, zI_le, zI_eq, zI_clamp, zI_inT, zI_ite, mOb_0, mOb_1, mOb_3, mOb_4, mLd_1, mAr_1, mLen_1, mTrue_t, Int.toNat_zero, Int.toNat_one, true_and, and_true, not_true_eq_false, not_false_eq_true, true_or, or_true, or_self, false_or, or_false, forall_const, false_implies, true_implies, implies_true, hR, sb, s0, s8, s9, s10, e4]
        repeat' (first | refine And.intro ?_ ?_ | with_reducible intro _)
        all_goals first | omega | rfl
      · simp (disch := omega) only [zI_add, zI_sub, zI_mul, zI_neg, zI_lit, zI_0, zI_1, zI_lt, zI_le, zI_eq, zI_clamp, zI_inT, zI_ite, mOb_0, mOb_1, mOb_3, mOb_4, mLd_1, mAr_1, mLen_1, mTrue_t, Int.toNat_zero, Int.toNat_one, true_and, and_true, not_true_eq_false, not_false_eq_true, true_or, or_true, or_self, false_or, or_false, forall_const, false_implies, true_implies, implies_true, hR, sb, s0, s8, s9, s10, e4]
        repeat' (first | refine And.intro ?_ ?_ | with_reducible intro _)
        all_goals first | omega | rfl
  · rw [if_neg ct] at nt
    rw [tQ_no (by unfold rTast; rw [if_neg (fun z => ct z.1)])]
    exact vc_T_taster (Or.inr ⟨_, _, nt, rfl⟩)

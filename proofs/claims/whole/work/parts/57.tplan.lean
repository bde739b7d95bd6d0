def tAns (r : Int × Int) (E : Nat) (h : mHp) : mOut := if r.1 = 0 then .inl (some (.int (zI r.2)), h) else .inr (E, h)
def tpF (fs : List Nat) (h h' : mHp) : Prop := (∀ x, x < 26 ∨ 86 < x → x ≠ 0 → h'.1 x = h.1 x) ∧ (∀ k, k ∉ fs → h'.1 0 k = h.1 0 k) ∧ h'.2.1 = h.2.1 ∧ (∀ x, x ≠ 26 → h'.2.2.1 x = h.2.2.1 x) ∧ h.2.2.2 ≤ h'.2.2.2 ∧ h'.2.2.2 ≤ h.2.2.2 + 1
theorem tpF_xc (fs : List Nat) (h : mHp) : tpF fs h (mXc h) := ⟨fun _ _ _ => rfl, fun _ _ => rfl, rfl, fun _ _ => rfl, Nat.le_succ _, Nat.le_refl _⟩
theorem tpF_pl {fs : List Nat} {h h' : mHp} (f : plF h h') : tpF fs h h' := ⟨fun x hx _ => f.1 x hx, fun k _ => by rw [f.1 0 (Or.inl (by omega))], f.2.1, f.2.2.1, by rw [f.2.2.2]; exact Nat.le_refl _, by rw [f.2.2.2]; exact Nat.le_succ _⟩
theorem tpF_pi {fs : List Nat} {h h' : mHp} (f : tpF fs h h') {k : Nat} (hk : k ∈ fs) (v : Int32) : tpF fs h (mPI h' 0 k v) :=
  ⟨fun x hx hy => by rw [hI_ne hy]; exact f.1 x hx hy, fun j hj => by rw [hI_off (y := j) (k := k) (fun e => hj (e ▸ hk))]; exact f.2.1 j hj, f.2.2.1, f.2.2.2.1, f.2.2.2.2⟩
theorem NB_pi0 {h : mHp} {q : Int} {N : Int → Int} (hN : NB h q N) (k : Nat) (v : Int32) : NB (mPI h 0 k v) q N := NB_of hN (by rw [hI_ne (by omega)]) (hI_ne (by omega) _ _ _)
theorem PLI_of0 {h : mHp} {B : tB} (hP : PLI h B) (k : Nat) (v : Int32) : PLI (mPI h 0 k v) B := by
  intro l w a b c e
  have pr := pAd_rng (pCell_ad a b c e)
  rcases hP l w a b c e with u | ⟨u, f⟩
  · exact Or.inl (by rw [hI_ne (by omega)]; exact u)
  · exact Or.inr ⟨by rw [hI_ne (by omega)]; exact u, PF_of f (hI_ne (by omega) _ _ _) (hI_ne (by omega) _ _ _) (hI_ne (by omega) _ _ _)⟩
theorem PLs_pi0 {h : mHp} {B : tB} {q : Int} (hS : PLs h B q) (k : Nat) (v : Int32) : PLs (mPI h 0 k v) B q := by
  obtain ⟨s1, ⟨N, s2⟩, s3⟩ := hS
  exact ⟨PLI_of0 s1 k v, ⟨N, NB_pi0 s2 k v⟩, fun j hj => by rw [hI_ne (by omega)]; exact s3 j hj⟩
theorem s_T_needZeroOrOne {d : Nat} {h : mHp} {a : Int} (a1 : -2147483648 ≤ a) (a2 : a < 2147483648) : mRuns (d + 1) 177 0 [some (.int (zI a))] [] h (tOut 1 (a = 0 ∨ a = 1) h) := by
  refine vc_T_needZeroOrOne ?_
  unfold tOut
  simp (disch := omega) only [zI_add, zI_sub, zI_mul, zI_neg, zI_lit, zI_0, zI_1, zI_lt, zI_le, zI_eq, zI_clamp, zI_inT, zI_ite, mOb_0, mOb_1, mOb_3, mOb_4, mLd_1, mAr_1, mLen_1, mTrue_t, Int.toNat_zero, Int.toNat_one, true_and, and_true, not_true_eq_false, not_false_eq_true, true_or, or_true, or_self, false_or, or_false, forall_const, false_implies, true_implies, implies_true]
  refine ⟨fun z => by rw [if_pos (by omega)], fun z => ⟨fun y => by rw [if_pos (by omega)], fun y => by rw [if_neg (by omega)]⟩⟩
theorem s_T_plan {d : Nat} {h : mHp} {b : Nat} (hb : bAd b) {B : tB} (hO : BOk B) {l x q k : Int} (hR : h.2.2.1 0 0 = b) (hB : BC h b B) (hS : PLs h B q) (hq : q + 200 < 1000000) (hk : h.1 0 10 = zI k) (l1 : -2147483648 ≤ l) (l2 : l < 2147483648) (x1 : -2147483648 ≤ x) (x2 : x < 2147483648) :
    ∃ h' q', mRuns (d + 20) 167 0 [some (.ref 0), some (.int (zI l)), some (.int (zI x)), none] [] h (tAns (rPlan B l x) (if (rPlan B l x).1 = 1 then 1 else 0) h') ∧ PLs h' B q' ∧ q ≤ q' ∧ q' ≤ q + 192 ∧ h'.1 0 10 = zI (kPlan B k l x) ∧ tpF [10] h h' := by
  have sb := bBl_of hb
  have nl := s_T_needLies (d := d + 18) (h := h) l1 l2
  have np := s_T_needZeroOrOne (d := d + 18) (h := h) x1 x2
  unfold tOut at nl np
  by_cases cx : x = 0 ∨ x = 1
  · rw [if_pos cx] at np
    by_cases cl : 0 ≤ l ∧ l ≤ 2
    · rw [if_pos cl] at nl
      obtain ⟨h1, q1, r1, F1, S1, qa, qb, f1⟩ := s_T_planFor (d := d) hb hO cl.1 cl.2 (show -1 ≤ (-1 : Int) by omega) (by omega) hB hS hq
      obtain ⟨p0, p1, p2⟩ := pSh_of (pCell_ad (w := -1) cl.1 cl.2 (by omega) (by omega))
      have pr := pAd_rng (pCell_ad (w := -1) cl.1 cl.2 (by omega) (by omega))
      obtain ⟨⟨⟨g0, g1⟩, g2, g3⟩, g4⟩ := F1
      rcases g2 with e | e
      · have hr : rPlan B l x = (0, -1) := by unfold rPlan; rw [if_neg (fun z => z cx), if_neg (fun z => z cl), if_pos e]
        have hkk : kPlan B k l x = k := by unfold kPlan; rw [if_neg (fun z => by have := z.2.2; omega)]
        rw [hr, hkk]
        refine ⟨h1, q1, vc_T_plan (Or.inl ⟨h, np, Or.inl ⟨h, nl, ?_⟩⟩), S1, qa, qb, by rw [f1.1 0 (Or.inl (by omega))]; exact hk, tpF_pl f1⟩
        unfold tAns
        simp (disch := omega) only [zI_add, zI_sub, zI_mul, zI_neg, zI_lit, zI_0, zI_1, zI_lt, zI_le, zI_eq, zI_clamp, zI_inT, zI_ite, mOb_0, mOb_1, mOb_3, mOb_4, mLd_1, mAr_1, mLen_1, mTrue_t, Int.toNat_zero, Int.toNat_one, true_and, and_true, not_true_eq_false, not_false_eq_true, true_or, or_true, or_self, false_or, or_false, forall_const, false_implies, true_implies, implies_true, hR, sb]
        refine ⟨_, _, r1, ?_⟩
        simp (disch := omega) only [zI_add, zI_sub, zI_mul, zI_neg, zI_lit, zI_0, zI_1, zI_lt, zI_le, zI_eq, zI_clamp, zI_inT, zI_ite, mOb_0, mOb_1, mOb_3, mOb_4, mLd_1, mAr_1, mLen_1, mTrue_t, Int.toNat_zero, Int.toNat_one, true_and, and_true, not_true_eq_false, not_false_eq_true, true_or, or_true, or_self, false_or, or_false, forall_const, false_implies, true_implies, implies_true, p0, g1, e]
        repeat' (first | refine And.intro ?_ ?_ | with_reducible intro _)
        all_goals first | omega | rfl
      · have hr : rPlan B l x = (0, if x = 0 then (fPl B l (-1)).2.1 else (fPl B l (-1)).2.2.1) := by unfold rPlan; rw [if_neg (fun z => z cx), if_neg (fun z => z cl), if_neg (show ¬ (fPl B l (-1)).1 = 0 by omega)]
        have hkk : kPlan B k l x = l := by unfold kPlan; rw [if_pos ⟨cx, cl, e⟩]
        rw [hr, hkk]
        obtain ⟨y1, y2, y3, y4, y5, y6⟩ := g3 e
        refine ⟨mPI h1 0 10 (zI l), q1, vc_T_plan (Or.inl ⟨h, np, Or.inl ⟨h, nl, ?_⟩⟩), PLs_pi0 S1 _ _, qa, qb, hI_same _ _ _ _, tpF_pi (tpF_pl f1) (by simp) _⟩
        unfold tAns
        simp (disch := omega) only [zI_add, zI_sub, zI_mul, zI_neg, zI_lit, zI_0, zI_1, zI_lt, zI_le, zI_eq, zI_clamp, zI_inT, zI_ite, mOb_0, mOb_1, mOb_3, mOb_4, mLd_1, mAr_1, mLen_1, mTrue_t, Int.toNat_zero, Int.toNat_one, true_and, and_true, not_true_eq_false, not_false_eq_true, true_or, or_true, or_self, false_or, or_false, forall_const, false_implies, true_implies, implies_true, hR, sb]
        refine ⟨_, _, r1, ?_⟩
        rcases cx with rfl | rfl
        · simp (disch := omega) only [zI_add, zI_sub, zI_mul, zI_neg, zI_lit, zI_0, zI_1, zI_lt, zI_le, zI_eq, zI_clamp, zI_inT, zI_ite, mOb_0, mOb_1, mOb_3, mOb_4, mLd_1, mAr_1, mLen_1, mTrue_t, Int.toNat_zero, Int.toNat_one, true_and, and_true, not_true_eq_false, not_false_eq_true, true_or, or_true, or_self, false_or, or_false, forall_const, false_implies, true_implies, implies_true, p0, g1, e, hI_ne, y1, y2]
          repeat' (first | refine And.intro ?_ ?_ | with_reducible intro _)
          all_goals first | omega | rfl
        · simp (disch := omega) only [zI_add, zI_sub, zI_mul, zI_neg, zI_lit, zI_0, zI_1, zI_lt, zI_le, zI_eq, zI_clamp, zI_inT, zI_ite, mOb_0, mOb_1, mOb_3, mOb_4, mLd_1, mAr_1, mLen_1, mTrue_t, Int.toNat_zero, Int.toNat_one, true_and, and_true, not_true_eq_false, not_false_eq_true, true_or, or_true, or_self, false_or, or_false, forall_const, false_implies, true_implies, implies_true, p0, g1, e, hI_ne, y1, y2]
          repeat' (first | refine And.intro ?_ ?_ | with_reducible intro _)
          all_goals first | omega | rfl
    · rw [if_neg cl] at nl
      have hr : rPlan B l x = (2, 0) := by unfold rPlan; rw [if_neg (fun z => z cx), if_pos cl]
      have hkk : kPlan B k l x = k := by unfold kPlan; rw [if_neg (fun z => cl z.2.1)]
      rw [hr, hkk]
      exact ⟨mXc h, q, vc_T_plan (Or.inl ⟨h, np, Or.inr ⟨_, _, nl, rfl⟩⟩), hS, by omega, by omega, hk, tpF_xc _ _⟩
  · have hr : rPlan B l x = (1, 0) := by unfold rPlan; rw [if_pos cx]
    have hkk : kPlan B k l x = k := by unfold kPlan; rw [if_neg (fun z => cx z.1)]
    rw [hr, hkk]
    rw [if_neg cx] at np
    exact ⟨mXc h, q, vc_T_plan (Or.inr ⟨_, _, np, rfl⟩), hS, by omega, by omega, hk, tpF_xc _ _⟩
theorem s_T_planned {d : Nat} {h : mHp} {b : Nat} (hb : bAd b) {B : tB} (hO : BOk B) {t x q k : Int} (hR : h.2.2.1 0 0 = b) (hB : BC h b B) (hS : PLs h B q) (hq : q + 200 < 1000000) (hk : h.1 0 10 = zI k) (hkk : k = -1 ∨ (0 ≤ k ∧ k ≤ 2 ∧ (fPl B k (-1)).1 = 1)) (l1 : -2147483648 ≤ t) (l2 : t < 2147483648) (x1 : -2147483648 ≤ x) (x2 : x < 2147483648) :
    ∃ h' q', mRuns (d + 20) 169 0 [some (.ref 0), some (.int (zI t)), some (.int (zI x)), none] [] h (tAns (rPlanned B k t x) 1 h') ∧ PLs h' B q' ∧ q ≤ q' ∧ q' ≤ q + 192 ∧ tpF [] h h' := by
  have sb := bBl_of hb
  have nd := s_T_needDish (d := d + 18) hb hR hB hO l1 l2
  have np := s_T_needZeroOrOne (d := d + 18) (h := h) x1 x2
  have o := hO.1
  unfold tOut at nd np
  by_cases ct : 0 ≤ t ∧ t < bD B
  · rw [if_pos ct] at nd
    by_cases c : 0 ≤ k ∧ (x = 0 ∨ x = 1)
    · have hr : rPlanned B k t x = (0, if x = 0 then (fPl B k (-1)).2.2.2 t else pTk B k (-1) t) := by unfold rPlanned; rw [if_pos ⟨ct, c⟩]
      rw [hr]
      have hk2 : 0 ≤ k ∧ k ≤ 2 ∧ (fPl B k (-1)).1 = 1 := by omega
      obtain ⟨h1, q1, r1, F1, S1, qa, qb, f1⟩ := s_T_planFor (d := d) hb hO hk2.1 hk2.2.1 (show -1 ≤ (-1 : Int) by omega) (by omega) hB hS hq
      obtain ⟨p0, p1, p2⟩ := pSh_of (pCell_ad (w := -1) hk2.1 hk2.2.1 (by omega) (by omega))
      obtain ⟨⟨⟨g0, g1⟩, g2, g3⟩, g4⟩ := F1
      obtain ⟨y1, y2, y3, y4, y5, y6⟩ := g3 hk2.2.2
      have y7 := g4 hk2.2.2
      rw [if_pos c.2] at np
      refine ⟨h1, q1, vc_T_planned (Or.inl ⟨h, nd, Or.inl ⟨h, np, ?_⟩⟩), S1, qa, qb, tpF_pl f1⟩
      unfold tAns
      simp (disch := omega) only [zI_add, zI_sub, zI_mul, zI_neg, zI_lit, zI_0, zI_1, zI_lt, zI_le, zI_eq, zI_clamp, zI_inT, zI_ite, mOb_0, mOb_1, mOb_3, mOb_4, mLd_1, mAr_1, mLen_1, mTrue_t, Int.toNat_zero, Int.toNat_one, true_and, and_true, not_true_eq_false, not_false_eq_true, true_or, or_true, or_self, false_or, or_false, forall_const, false_implies, true_implies, implies_true, hR, sb, hk]
      refine ⟨fun _ => ⟨_, _, r1, ?_⟩, fun z => by omega⟩
      rcases c.2 with rfl | rfl
      · simp (disch := omega) only [zI_add, zI_sub, zI_mul, zI_neg, zI_lit, zI_0, zI_1, zI_lt, zI_le, zI_eq, zI_clamp, zI_inT, zI_ite, mOb_0, mOb_1, mOb_3, mOb_4, mLd_1, mAr_1, mLen_1, mTrue_t, Int.toNat_zero, Int.toNat_one, true_and, and_true, not_true_eq_false, not_false_eq_true, true_or, or_true, or_self, false_or, or_false, forall_const, false_implies, true_implies, implies_true, p0, p1, p2, y5, y7]
        repeat' (first | refine And.intro ?_ ?_ | with_reducible intro _)
        all_goals first | omega | rfl
      · simp (disch := omega) only [zI_add, zI_sub, zI_mul, zI_neg, zI_lit, zI_0, zI_1, zI_lt, zI_le, zI_eq, zI_clamp, zI_inT, zI_ite, mOb_0, mOb_1, mOb_3, mOb_4, mLd_1, mAr_1, mLen_1, mTrue_t, Int.toNat_zero, Int.toNat_one, true_and, and_true, not_true_eq_false, not_false_eq_true, true_or, or_true, or_self, false_or, or_false, forall_const, false_implies, true_implies, implies_true, p0, p1, p2, y5, y7]
        repeat' (first | refine And.intro ?_ ?_ | with_reducible intro _)
        all_goals first | omega | rfl
    · have hr : rPlanned B k t x = (1, 0) := by unfold rPlanned; rw [if_neg (fun z => c z.2)]
      rw [hr]
      by_cases cx : x = 0 ∨ x = 1
      · rw [if_pos cx] at np
        have k1 : k = -1 := by omega
        refine ⟨mXc h, q, vc_T_planned (Or.inl ⟨h, nd, Or.inl ⟨h, np, ?_⟩⟩), hS, by omega, by omega, tpF_xc _ _⟩
        unfold tAns
        simp (disch := omega) only [zI_add, zI_sub, zI_mul, zI_neg, zI_lit, zI_0, zI_1, zI_lt, zI_le, zI_eq, zI_clamp, zI_inT, zI_ite, mOb_0, mOb_1, mOb_3, mOb_4, mLd_1, mAr_1, mLen_1, mTrue_t, Int.toNat_zero, Int.toNat_one, true_and, and_true, not_true_eq_false, not_false_eq_true, true_or, or_true, or_self, false_or, or_false, forall_const, false_implies, true_implies, implies_true, hk]
        refine ⟨fun z => absurd k1 z, fun _ => rfl⟩
      · rw [if_neg cx] at np
        exact ⟨mXc h, q, vc_T_planned (Or.inl ⟨h, nd, Or.inr ⟨_, _, np, rfl⟩⟩), hS, by omega, by omega, tpF_xc _ _⟩
  · rw [if_neg ct] at nd
    have hr : rPlanned B k t x = (1, 0) := by unfold rPlanned; rw [if_neg (fun z => ct z.1)]
    rw [hr]
    exact ⟨mXc h, q, vc_T_planned (Or.inr ⟨_, _, nd, rfl⟩), hS, by omega, by omega, tpF_xc _ _⟩
theorem s_T_bars_q {d : Nat} {h : mHp} {b : Nat} (hb : bAd b) {B : tB} (hO : BOk B) {l q : Int} (hl : 0 ≤ l) (hl' : l ≤ 2) (hR : h.2.2.1 0 0 = b) (hB : BC h b B) (hS : PLs h B q) (hq : q + 200 < 1000000) : ∀ (j : Nat) (y : Int), y + j = bD B → 0 ≤ y →
    ∃ h' q', mRuns (d + 20) 170 6 [some (.ref 0), some (.int (zI l)), some (.int (zI y)), none] [] h (.inl (some (.int (zI (if bRq B l j y = -1 then (if (fPl B l (-1)).1 = 1 then -1 else 99) else bRq B l j y))), h')) ∧ PLs h' B q' ∧ q ≤ q' ∧ q' ≤ q + 192 ∧ tpF [] h h' := by
  have o := hO.1
  have b0 := (bSh_of hb).1
  have sb := bBl_of hb
  have e0 := hB.1
  intro j
  induction j with
  | zero =>
    intro y hy y0
    rw [if_pos (show bRq B l 0 y = -1 from rfl)]
    obtain ⟨h1, q1, r1, F1, S1, qa, qb, f1⟩ := s_T_planFor (d := d) hb hO hl hl' (show -1 ≤ (-1 : Int) by omega) (by omega) hB hS hq
    obtain ⟨p0, p1, p2⟩ := pSh_of (pCell_ad (w := -1) hl hl' (by omega) (by omega))
    obtain ⟨⟨⟨g0, g1⟩, g2, g3⟩, g4⟩ := F1
    refine ⟨h1, q1, vc_T_bars_6 ?_, S1, qa, qb, tpF_pl f1⟩
    simp (disch := omega) only [zI_add, zI_sub, zI_mul, zI_neg, zI_lit, zI_0, zI_1, zI_lt, zI_le, zI_eq, zI_clamp, zI_inT, zI_ite, mOb_0, mOb_1, mOb_3, mOb_4, mLd_1, mAr_1, mLen_1, mTrue_t, Int.toNat_zero, Int.toNat_one, true_and, and_true, not_true_eq_false, not_false_eq_true, true_or, or_true, or_self, false_or, or_false, forall_const, false_implies, true_implies, implies_true, hR, sb, b0, e0]
    refine ⟨fun _ => ⟨_, _, r1, ?_⟩, fun z => by omega⟩
    rcases g2 with e | e
    · rw [if_neg (by omega)]
      simp (disch := omega) only [zI_add, zI_sub, zI_mul, zI_neg, zI_lit, zI_0, zI_1, zI_lt, zI_le, zI_eq, zI_clamp, zI_inT, zI_ite, mOb_0, mOb_1, mOb_3, mOb_4, mLd_1, mAr_1, mLen_1, mTrue_t, Int.toNat_zero, Int.toNat_one, true_and, and_true, not_true_eq_false, not_false_eq_true, true_or, or_true, or_self, false_or, or_false, forall_const, false_implies, true_implies, implies_true, p0, g1, e]
      repeat' (first | refine And.intro ?_ ?_ | with_reducible intro _)
      all_goals first | omega | rfl
    · rw [if_pos e]
      simp (disch := omega) only [zI_add, zI_sub, zI_mul, zI_neg, zI_lit, zI_0, zI_1, zI_lt, zI_le, zI_eq, zI_clamp, zI_inT, zI_ite, mOb_0, mOb_1, mOb_3, mOb_4, mLd_1, mAr_1, mLen_1, mTrue_t, Int.toNat_zero, Int.toNat_one, true_and, and_true, not_true_eq_false, not_false_eq_true, true_or, or_true, or_self, false_or, or_false, forall_const, false_implies, true_implies, implies_true, p0, g1, e]
      repeat' (first | refine And.intro ?_ ?_ | with_reducible intro _)
      all_goals first | omega | rfl
  | succ j ih =>
    intro y hy y0
    by_cases c : bRp B l y (bP B).toNat 0 = -1
    · obtain ⟨h1, q1, r1, S1, qa, qb, f1⟩ := ih (y + 1) (by omega) (by omega)
      refine ⟨h1, q1, vc_T_bars_6 ?_, S1, qa, qb, f1⟩
      unfold bRq; rw [if_pos c]
      have := s_T_bars_p (d := d) hb hR hB hO hl hl' y0 (show y < bD B by omega) (bP B).toNat 0 (by omega) (by omega) (fun _ => r1) (fun z => absurd c z)
      simp (disch := omega) only [zI_add, zI_sub, zI_mul, zI_neg, zI_lit, zI_0, zI_1, zI_lt, zI_le, zI_eq, zI_clamp, zI_inT, zI_ite, mOb_0, mOb_1, mOb_3, mOb_4, mLd_1, mAr_1, mLen_1, mTrue_t, Int.toNat_zero, Int.toNat_one, true_and, and_true, not_true_eq_false, not_false_eq_true, true_or, or_true, or_self, false_or, or_false, forall_const, false_implies, true_implies, implies_true, hR, sb, b0, e0]
      exact ⟨fun z => by omega, fun _ => this⟩
    · refine ⟨h, q, vc_T_bars_6 ?_, hS, by omega, by omega, ⟨fun _ _ _ => rfl, fun _ _ => rfl, rfl, fun _ _ => rfl, Nat.le_refl _, Nat.le_succ _⟩⟩
      unfold bRq; rw [if_neg c, if_neg c]
      have := s_T_bars_p (d := d) hb hR hB hO hl hl' y0 (show y < bD B by omega) (out := .inl (some (.int (zI (bRp B l y (bP B).toNat 0))), h)) (bP B).toNat 0 (by omega) (by omega) (fun z => absurd z c) (fun _ => rfl)
      simp (disch := omega) only [zI_add, zI_sub, zI_mul, zI_neg, zI_lit, zI_0, zI_1, zI_lt, zI_le, zI_eq, zI_clamp, zI_inT, zI_ite, mOb_0, mOb_1, mOb_3, mOb_4, mLd_1, mAr_1, mLen_1, mTrue_t, Int.toNat_zero, Int.toNat_one, true_and, and_true, not_true_eq_false, not_false_eq_true, true_or, or_true, or_self, false_or, or_false, forall_const, false_implies, true_implies, implies_true, hR, sb, b0, e0]
      exact ⟨fun z => by omega, fun _ => this⟩
theorem s_T_bars {d : Nat} {h : mHp} {b : Nat} (hb : bAd b) {B : tB} (hO : BOk B) {l q : Int} (hR : h.2.2.1 0 0 = b) (hB : BC h b B) (hS : PLs h B q) (hq : q + 200 < 1000000) (l1 : -2147483648 ≤ l) (l2 : l < 2147483648) :
    ∃ h' q', mRuns (d + 20) 170 0 [some (.ref 0), some (.int (zI l)), none, none] [] h (tAns (rBars B l) 0 h') ∧ PLs h' B q' ∧ q ≤ q' ∧ q' ≤ q + 192 ∧ tpF [] h h' := by
  have o := hO.1
  have nl := s_T_needLies (d := d + 18) (h := h) l1 l2
  unfold tOut at nl
  by_cases cl : 0 ≤ l ∧ l ≤ 2
  · rw [if_pos cl] at nl
    obtain ⟨h1, q1, r1, S1, qa, qb, f1⟩ := s_T_bars_q (d := d) hb hO cl.1 cl.2 hR hB hS hq (bD B).toNat 0 (by omega) (by omega)
    refine ⟨h1, q1, vc_T_bars (Or.inl ⟨h, nl, ?_⟩), S1, qa, qb, f1⟩
    have hr : rBars B l = (0, if bRq B l (bD B).toNat 0 = -1 then (if (fPl B l (-1)).1 = 1 then -1 else 99) else bRq B l (bD B).toNat 0) := by
      unfold rBars
      rw [if_neg (fun z => z cl)]
      by_cases e : (fPl B l (-1)).1 = 1
      · rw [if_pos e, if_pos e, if_pos (bRq_none hO (fun q p a c x y => plan_wt hO cl.1 cl.2 e a c x y) _ _ (by omega) (by omega))]
      · rw [if_neg e, if_neg e]; split <;> rfl
    rw [hr]
    exact r1
  · rw [if_neg cl] at nl
    have hr : rBars B l = (1, 0) := by unfold rBars; rw [if_pos cl]
    rw [hr]
    exact ⟨mXc h, q, vc_T_bars (Or.inr ⟨_, _, nl, rfl⟩), hS, by omega, by omega, tpF_xc _ _⟩

/-! L3, the class's plan, whole -/
def fCo (B : tB) (l w sz : Int) : Nat → Int → tP → tP
  | 0, _, st => st
  | n + 1, co, st => fCo B l w sz n (co + 1) (if aDif co (aFr B w) = 0 ∧ aCnt co = sz then fTry B l w st co else st)
def fSz (B : tB) (l w : Int) : Nat → Int → tP → tP
  | 0, _, st => st
  | n + 1, sz, st => if st.1 = 0 then fSz B l w n (sz + 1) (fCo B l w sz 32 0 st) else st
def fPl (B : tB) (l w : Int) : tP := fSz B l w 6 0 (0, 0, 0, fun _ => 0)
def pTk (B : tB) (l w : Int) : Int → Int := fun i => bF B 1 i - aK B l w ((fPl B l w).2.2.2 i)
/-- a plan that was found, or found not to be -/
def PF (h : mHp) (a : Nat) (B : tB) (l w : Int) : Prop := PX h a B (fPl B l w) ∧ ((fPl B l w).1 = 1 → aEq (h.1 (a + 2)) (bD B) (pTk B l w))
theorem PF_of {h h' : mHp} {a : Nat} {B : tB} {l w : Int} (hP : PF h a B l w) (e0 : h'.1 a = h.1 a) (e1 : h'.1 (a + 1) = h.1 (a + 1)) (e2 : h'.1 (a + 2) = h.1 (a + 2)) : PF h' a B l w := by
  unfold PF at hP ⊢; rw [e2]; exact ⟨PX_of hP.1 e0 e1, hP.2⟩
def pCell (l w : Int) : Nat := 27 + 6 + 3 * (l * 6 + w + 1).toNat
theorem pCell_ad {l w : Int} (l0 : 0 ≤ l) (l1 : l ≤ 2) (w0 : -1 ≤ w) (w1 : w < 5) : pAd (pCell l w) := ⟨(l * 6 + w + 1).toNat, by omega, by unfold pCell; omega⟩
/-- all plans that are known are right -/
def PLI (h : mHp) (B : tB) : Prop := ∀ l w, 0 ≤ l → l ≤ 2 → -1 ≤ w → w < 5 → h.1 (pCell l w) 0 = zI 0 ∨ (h.1 (pCell l w) 0 = zI 1 ∧ PF h (pCell l w) B l w)
theorem s_Pln_cos {d : Nat} {b a : Nat} (hb : bAd b) {B : tB} (hO : BOk B) {l w n sz : Int} {g : Int → Int} (hl : 0 ≤ l) (hl' : l ≤ 2) (ha : pAd a) (hL : lnF (aK B l w) n g) (z0 : 0 ≤ sz) (z1 : sz ≤ 5) : ∀ (m : Nat) (co q : Int) (st : tP) (h : mHp) (N : Int → Int), co + m = 32 → 0 ≤ co → SX h b B (aK B l w) n g → NB h q N → q + m < 1000000 → PX h a B st →
    ∃ h' q' N', PX h' a B (fCo B l w sz m co st) ∧ SX h' b B (aK B l w) n g ∧ NB h' q' N' ∧ q ≤ q' ∧ q' ≤ q + m ∧ hFg 26 [30, 31, 32, a, a + 1] [8] h h' ∧ ∀ out, mRuns (d + 19) 104 64 [some (.ref 26), none, none, none, some (.ref a), some (.int (zI (aFr B w))), some (.int (zI (sz + 1))), none] [] h' out → mRuns (d + 19) 104 81 [some (.ref 26), none, none, none, some (.ref a), some (.int (zI (aFr B w))), some (.int (zI sz)), some (.int (zI co))] [] h out := by
  obtain ⟨f0, f1, -⟩ := aFr_spec hO (w := w)
  intro m
  induction m with
  | zero =>
    intro co q st h N hm c0 hX hN hq hP
    refine ⟨h, q, N, hP, hX, hN, by omega, by omega, hFg_refl _ _ _ _, fun out r => vc_Pln_planFor_81 ?_⟩
    simp (disch := omega) only [zI_add, zI_sub, zI_mul, zI_neg, zI_lit, zI_0, zI_1, zI_lt, zI_le, zI_eq, zI_clamp, zI_inT, zI_ite, mOb_0, mOb_1, mOb_3, mOb_4, mLd_1, mAr_1, mLen_1, mTrue_t, Int.toNat_zero, Int.toNat_one, true_and, and_true, not_true_eq_false, not_false_eq_true, true_or, or_true, or_self, false_or, or_false, forall_const, false_implies, true_implies, implies_true]
    exact ⟨fun _ => r, fun z => by omega⟩
  | succ m ih =>
    intro co q st h N hm c0 hX hN hq hP
    have dr := aDif_rng co (aFr B w)
    have cr := aCnt_rng co
    unfold fCo
    by_cases c : aDif co (aFr B w) = 0 ∧ aCnt co = sz
    · obtain ⟨h1, q1, N1, r1, P1, X1, NB1, qa, qb, F1⟩ := s_Pln_try (d := d) hb hO hl hl' ha hX hL hN (by omega) c0 (by omega) c.1 hP
      rw [if_pos c]
      obtain ⟨h', q', N', k1, k2, k3, k4, k5, k6, k7⟩ := ih (co + 1) q1 _ h1 N1 (by omega) (by omega) X1 NB1 (by omega) P1
      refine ⟨h', q', N', k1, k2, k3, by omega, by omega, hFg_trans F1 k6, fun out r => vc_Pln_planFor_81 ?_⟩
      have r := k7 out r
      simp (disch := omega) only [zI_add, zI_sub, zI_mul, zI_neg, zI_lit, zI_0, zI_1, zI_lt, zI_le, zI_eq, zI_clamp, zI_inT, zI_ite, mOb_0, mOb_1, mOb_3, mOb_4, mLd_1, mAr_1, mLen_1, mTrue_t, Int.toNat_zero, Int.toNat_one, true_and, and_true, not_true_eq_false, not_false_eq_true, true_or, or_true, or_self, false_or, or_false, forall_const, false_implies, true_implies, implies_true, zI_dif, c.1]
      refine ⟨fun z => by omega, fun _ => ⟨_, _, s_bitCount c0 (by omega), ?_⟩⟩
      simp (disch := omega) only [zI_add, zI_sub, zI_mul, zI_neg, zI_lit, zI_0, zI_1, zI_lt, zI_le, zI_eq, zI_clamp, zI_inT, zI_ite, mOb_0, mOb_1, mOb_3, mOb_4, mLd_1, mAr_1, mLen_1, mTrue_t, Int.toNat_zero, Int.toNat_one, true_and, and_true, not_true_eq_false, not_false_eq_true, true_or, or_true, or_self, false_or, or_false, forall_const, false_implies, true_implies, implies_true]
      exact ⟨fun z => absurd c.2 z, fun _ => ⟨h1, r1, r⟩⟩
    · rw [if_neg c]
      obtain ⟨h', q', N', k1, k2, k3, k4, k5, k6, k7⟩ := ih (co + 1) q st h N (by omega) (by omega) hX hN (by omega) hP
      refine ⟨h', q', N', k1, k2, k3, by omega, by omega, k6, fun out r => vc_Pln_planFor_81 ?_⟩
      have r := k7 out r
      simp (disch := omega) only [zI_add, zI_sub, zI_mul, zI_neg, zI_lit, zI_0, zI_1, zI_lt, zI_le, zI_eq, zI_clamp, zI_inT, zI_ite, mOb_0, mOb_1, mOb_3, mOb_4, mLd_1, mAr_1, mLen_1, mTrue_t, Int.toNat_zero, Int.toNat_one, true_and, and_true, not_true_eq_false, not_false_eq_true, true_or, or_true, or_self, false_or, or_false, forall_const, false_implies, true_implies, implies_true, zI_dif]
      refine ⟨fun z => by omega, fun _ => ⟨fun _ => r, fun z => ⟨_, _, s_bitCount c0 (by omega), ?_⟩⟩⟩
      simp (disch := omega) only [zI_add, zI_sub, zI_mul, zI_neg, zI_lit, zI_0, zI_1, zI_lt, zI_le, zI_eq, zI_clamp, zI_inT, zI_ite, mOb_0, mOb_1, mOb_3, mOb_4, mLd_1, mAr_1, mLen_1, mTrue_t, Int.toNat_zero, Int.toNat_one, true_and, and_true, not_true_eq_false, not_false_eq_true, true_or, or_true, or_self, false_or, or_false, forall_const, false_implies, true_implies, implies_true]
      exact ⟨fun _ => r, fun y => absurd ⟨z, y⟩ c⟩
theorem fTry_01 {B : tB} {l w : Int} {st : tP} (h : st.1 = 0 ∨ st.1 = 1) (co : Int) : (fTry B l w st co).1 = 0 ∨ (fTry B l w st co).1 = 1 := by
  unfold fTry; split
  · exact Or.inr rfl
  · exact h
theorem s_Pln_sizes {d : Nat} {b a : Nat} (hb : bAd b) {B : tB} (hO : BOk B) {l w n : Int} {g : Int → Int} (hl : 0 ≤ l) (hl' : l ≤ 2) (ha : pAd a) (hL : lnF (aK B l w) n g) : ∀ (m : Nat) (sz q : Int) (st : tP) (h : mHp) (N : Int → Int), sz + m = 6 → 0 ≤ sz → SX h b B (aK B l w) n g → NB h q N → q + 32 * m < 1000000 → PX h a B st →
    ∃ h' q' N', PX h' a B (fSz B l w m sz st) ∧ SX h' b B (aK B l w) n g ∧ NB h' q' N' ∧ q ≤ q' ∧ q' ≤ q + 32 * m ∧ hFg 26 [30, 31, 32, a, a + 1] [8] h h' ∧ ∀ out, mRuns (d + 19) 104 131 [some (.ref 26), none, none, none, some (.ref a), none, some (.int (zI 0)), none] [] h' out → mRuns (d + 19) 104 64 [some (.ref 26), none, none, none, some (.ref a), some (.int (zI (aFr B w))), some (.int (zI sz)), none] [] h out := by
  obtain ⟨p0, p1, p2⟩ := pSh_of ha
  intro m
  induction m with
  | zero =>
    intro sz q st h N hm s0 hX hN hq hP
    refine ⟨h, q, N, hP, hX, hN, by omega, by omega, hFg_refl _ _ _ _, fun out r => vc_Pln_planFor_64 ?_⟩
    simp (disch := omega) only [zI_add, zI_sub, zI_mul, zI_neg, zI_lit, zI_0, zI_1, zI_lt, zI_le, zI_eq, zI_clamp, zI_inT, zI_ite, mOb_0, mOb_1, mOb_3, mOb_4, mLd_1, mAr_1, mLen_1, mTrue_t, Int.toNat_zero, Int.toNat_one, true_and, and_true, not_true_eq_false, not_false_eq_true, true_or, or_true, or_self, false_or, or_false, forall_const, false_implies, true_implies, implies_true]
    exact ⟨fun _ => r, fun z => by omega⟩
  | succ m ih =>
    intro sz q st h N hm s0 hX hN hq hP
    have e1 := hP.1.2
    have e12 := hP.2.1
    unfold fSz
    by_cases c : st.1 = 0
    · rw [if_pos c]
      obtain ⟨h1, q1, N1, P1, X1, NB1, qa, qb, F1, R1⟩ := s_Pln_cos (d := d) hb hO hl hl' ha hL (sz := sz) s0 (by omega) 32 0 q st h N (by omega) (by omega) hX hN (by omega) hP
      obtain ⟨h', q', N', k1, k2, k3, k4, k5, k6, k7⟩ := ih (sz + 1) q1 _ h1 N1 (by omega) (by omega) X1 NB1 (by omega) P1
      refine ⟨h', q', N', k1, k2, k3, by omega, by omega, hFg_trans F1 k6, fun out r => vc_Pln_planFor_64 ?_⟩
      have r := R1 out (k7 out r)
      simp (disch := omega) only [zI_add, zI_sub, zI_mul, zI_neg, zI_lit, zI_0, zI_1, zI_lt, zI_le, zI_eq, zI_clamp, zI_inT, zI_ite, mOb_0, mOb_1, mOb_3, mOb_4, mLd_1, mAr_1, mLen_1, mTrue_t, Int.toNat_zero, Int.toNat_one, true_and, and_true, not_true_eq_false, not_false_eq_true, true_or, or_true, or_self, false_or, or_false, forall_const, false_implies, true_implies, implies_true, p0, e1, c]
      repeat' (first | refine And.intro ?_ ?_ | with_reducible intro _)
      all_goals first | omega | exact r
    · rw [if_neg c]
      refine ⟨h, q, N, hP, hX, hN, by omega, by omega, hFg_refl _ _ _ _, fun out r => vc_Pln_planFor_64 ?_⟩
      simp (disch := omega) only [zI_add, zI_sub, zI_mul, zI_neg, zI_lit, zI_0, zI_1, zI_lt, zI_le, zI_eq, zI_clamp, zI_inT, zI_ite, mOb_0, mOb_1, mOb_3, mOb_4, mLd_1, mAr_1, mLen_1, mTrue_t, Int.toNat_zero, Int.toNat_one, true_and, and_true, not_true_eq_false, not_false_eq_true, true_or, or_true, or_self, false_or, or_false, forall_const, false_implies, true_implies, implies_true, p0, e1]
      exact ⟨fun z => by omega, fun _ => ⟨fun _ => r, fun z => absurd z c⟩⟩
theorem s_Pln_ticksR {d : Nat} {b a : Nat} (hb : bAd b) {B : tB} (hO : BOk B) {l w n : Int} {g : Int → Int} (hl : 0 ≤ l) (hl' : l ≤ 2) (ha : pAd a) : ∀ (m : Nat) (i : Int) (h : mHp), i + m = bD B → 0 ≤ i → SX h b B (aK B l w) n g → PX h a B (fPl B l w) → ((fPl B l w).1 = 1 → aEq (h.1 (a + 2)) i (pTk B l w)) →
    ∃ h', mRuns (d + 19) 104 131 [some (.ref 26), none, none, none, some (.ref a), none, some (.int (zI i)), none] [] h (.inl (some (.ref a), h')) ∧ ((fPl B l w).1 = 1 → aEq (h'.1 (a + 2)) (bD B) (pTk B l w)) ∧ hFr [a + 2] h h' := by
  have o := hO.1
  have pr := pAd_rng ha
  obtain ⟨p0, p1, p2⟩ := pSh_of ha
  obtain ⟨b0, b1, b2, b3, b4, b5, b6, b7, b8, b9, b10⟩ := bSh_of hb
  have sb := bBl_of hb
  intro m
  induction m with
  | zero =>
    intro i h hm i0 hX hP hT
    obtain ⟨x1, x2, x3, x4, x5, x6⟩ := id hX
    have e0 := x2.1
    refine ⟨h, vc_Pln_planFor_131 ?_, fun e => by have := hT e; rw [show i = bD B by omega] at this; exact this, hFr_refl _ _⟩
    simp (disch := omega) only [zI_add, zI_sub, zI_mul, zI_neg, zI_lit, zI_0, zI_1, zI_lt, zI_le, zI_eq, zI_clamp, zI_inT, zI_ite, mOb_0, mOb_1, mOb_3, mOb_4, mLd_1, mAr_1, mLen_1, mTrue_t, Int.toNat_zero, Int.toNat_one, true_and, and_true, not_true_eq_false, not_false_eq_true, true_or, or_true, or_self, false_or, or_false, forall_const, false_implies, true_implies, implies_true, x1, sb, b0, e0]
    repeat' (first | refine And.intro ?_ ?_ | with_reducible intro _)
    all_goals first | omega | rfl
  | succ m ih =>
    intro i h hm i0 hX hP hT
    obtain ⟨x1, x2, x3, x4, x5, x6⟩ := id hX
    obtain ⟨e0, e4, e9, e13, y1, y2, y3, y4, y5, y6, y7, y8, y9, y10⟩ := id x2
    obtain ⟨⟨q0, q1⟩, q2, q3⟩ := id hP
    by_cases c : (fPl B l w).1 = 1
    · obtain ⟨g1, g2, g3, g4, g5, g6⟩ := q3 c
      have gi := g6 i i0 (by omega)
      have hT := hT c
      obtain ⟨h', r, p, f⟩ := ih (i + 1) (mPI h (a + 2) i.toNat (zI (pTk B l w i))) (by omega) (by omega) ⟨x1, BC_of x2 (fun k hk => hI_ne (by rcases hb with rfl | rfl <;> omega) _ _ _), by rw [hI_ne (by omega)]; exact x3, by rw [hI_ne (by omega)]; exact x4, by rw [hI_ne (by omega)]; exact x5, fun j hj => by rw [hI_ne (by omega)]; exact x6 j hj⟩ (PX_of hP (hI_ne (by omega) _ _ _) (hI_ne (by omega) _ _ _)) (fun _ => by
        intro k k0 k1
        by_cases e : k = i
        · rw [e, hI_same]
        · rw [hI_off (by omega)]; exact hT k k0 (by omega))
      refine ⟨h', vc_Pln_planFor_131 ?_, p, hFr_trans (hFr_pi (hFr_refl _ _) (by simp) _ _) f⟩
      simp (disch := omega) only [zI_add, zI_sub, zI_mul, zI_neg, zI_lit, zI_0, zI_1, zI_lt, zI_le, zI_eq, zI_clamp, zI_inT, zI_ite, mOb_0, mOb_1, mOb_3, mOb_4, mLd_1, mAr_1, mLen_1, mTrue_t, Int.toNat_zero, Int.toNat_one, true_and, and_true, not_true_eq_false, not_false_eq_true, true_or, or_true, or_self, false_or, or_false, forall_const, false_implies, true_implies, implies_true, x1, sb, b0, e0, p0, q1, c, b2, y2, p1, p2, g5, x3]
      repeat' (first | refine And.intro ?_ ?_ | with_reducible intro _)
      all_goals first | omega | exact r
    · have c0 : (fPl B l w).1 = 0 := q2.resolve_right c
      refine ⟨h, vc_Pln_planFor_131 ?_, fun e => absurd e c, hFr_refl _ _⟩
      simp (disch := omega) only [zI_add, zI_sub, zI_mul, zI_neg, zI_lit, zI_0, zI_1, zI_lt, zI_le, zI_eq, zI_clamp, zI_inT, zI_ite, mOb_0, mOb_1, mOb_3, mOb_4, mLd_1, mAr_1, mLen_1, mTrue_t, Int.toNat_zero, Int.toNat_one, true_and, and_true, not_true_eq_false, not_false_eq_true, true_or, or_true, or_self, false_or, or_false, forall_const, false_implies, true_implies, implies_true, x1, sb, b0, e0, p0, q1, c0]
      repeat' (first | refine And.intro ?_ ?_ | with_reducible intro _)
      all_goals first | omega | rfl
/-- the planner's frame -/
def plF (h h' : mHp) : Prop := (∀ x, x < 26 ∨ 86 < x → h'.1 x = h.1 x) ∧ h'.2.1 = h.2.1 ∧ (∀ x, x ≠ 26 → h'.2.2.1 x = h.2.2.1 x) ∧ h'.2.2.2 = h.2.2.2
theorem plF_refl (h : mHp) : plF h h := ⟨fun _ _ => rfl, rfl, fun _ _ => rfl, rfl⟩
theorem plF_trans {h h1 h2 : mHp} (a : plF h h1) (b : plF h1 h2) : plF h h2 := ⟨fun x hx => (b.1 x hx).trans (a.1 x hx), b.2.1.trans a.2.1, fun x hx => (b.2.2.1 x hx).trans (a.2.2.1 x hx), b.2.2.2.trans a.2.2.2⟩
theorem s_Pln_planFor {d : Nat} {h : mHp} {b : Nat} (hb : bAd b) {B : tB} (hO : BOk B) {l w q : Int} {N : Int → Int} (hl : 0 ≤ l) (hl' : l ≤ 2) (w0 : -1 ≤ w) (w1 : w < 5) (hB : BC h b B) (hn : nOk h) (hN : NB h q N) (hq : q + 200 < 1000000) (hPL : PLI h B) :
    ∃ h' q' N', mRuns (d + 19) 104 0 [some (.ref 26), some (.ref b), some (.int (zI l)), some (.int (zI w)), none, none, none, none] [] h (.inl (some (.ref (pCell l w)), h')) ∧ PF h' (pCell l w) B l w ∧ PLI h' B ∧ NB h' q' N' ∧ q ≤ q' ∧ q' ≤ q + 192 ∧ plF h h' ∧ ∀ x, 33 ≤ x → x ≠ pCell l w → x ≠ pCell l w + 1 → x ≠ pCell l w + 2 → h'.1 x = h.1 x := by
  have o := hO.1
  have ha := pCell_ad hl hl' w0 w1
  have pr := pAd_rng ha
  obtain ⟨p0, p1, p2⟩ := pSh_of ha
  have b0 := (bSh_of hb).1
  have brr : b = 1 ∨ b = 12 := hb
  have ea : 27 + 6 + 3 * (l * 6 + w + 1).toNat = pCell l w := rfl
  rcases hPL l w hl hl' w0 w1 with u | ⟨u, hF⟩
  · -- looked for
    generalize hA : pCell l w = a at *
    have B0 : BC (mPR (mPI (mPI h a 0 (zI 1)) a 1 (zI 0)) 26 1 b) b B := BC_of hB (fun k hk => by show (mPI (mPI h a 0 (zI 1)) a 1 (zI 0)).1 (b + k) = _; rw [hI_ne (by omega), hI_ne (by omega)])
    have R0 : (mPR (mPI (mPI h a 0 (zI 1)) a 1 (zI 0)) 26 1 b).2.2.1 26 1 = b := hR_same _ _ _ _
    obtain ⟨h1, r1, K1, F1⟩ := s_Pln_weigh (d := d + 13) hb R0 B0 hO (l := l) (w := w) hl hl'
    have hk : ∀ s, 0 ≤ s → s < 32 → -1 ≤ aK B l w s ∧ aK B l w s ≤ 1022 := fun s _ _ => aK_rng hO hl hl'
    obtain ⟨h2, n2, g2, r2, a4, n0, n32, a29, hL, F2⟩ := s_Pln_gather (d := d + 16) hk K1
    have row2 : ∀ x, x ≠ 26 → x ≠ 28 → x ≠ 29 → h2.1 x = (mPI (mPI h a 0 (zI 1)) a 1 (zI 0)).1 x := by
      intro x z1 z2 z3; rw [F2.1 x (by simp [z3]) z1, F1.1 x (by simp [z2])]; rfl
    have row3 : ∀ x, x ≠ 26 → x ≠ 28 → x ≠ 29 → x ≠ a → h2.1 x = h.1 x := by
      intro x z1 z2 z3 z4; rw [row2 x z1 z2 z3, hI_ne z4, hI_ne z4]
    have f26 : ∀ k, k ≠ 4 → h2.1 26 k = h.1 26 k := by
      intro k hk4; rw [F2.2.1 k (by simp [hk4]), F1.1 26 (by simp)]; show (mPI (mPI h a 0 (zI 1)) a 1 (zI 0)).1 26 k = _; rw [hI_ne (by omega), hI_ne (by omega)]
    have X2 : SX h2 b B (aK B l w) n2 g2 := ⟨by rw [F2.2.2, F1.2]; exact R0, BC_of hB (fun k hk => row3 _ (by omega) (by omega) (by omega) (by omega)), by rw [F2.1 28 (by simp) (by omega)]; exact K1, a4, a29, fun j hj => by rw [row3 143 (by omega) (by omega) (by omega) (by omega)]; exact hn j hj⟩
    have NB2 : NB h2 q N := NB_of hN (f26 8 (by omega)) (row3 32 (by omega) (by omega) (by omega) (by omega))
    have P2 : PX h2 a B (0, 0, 0, fun _ => 0) := ⟨⟨by rw [row2 a (by omega) (by omega) (by omega), hI_off (by omega), hI_same], by rw [row2 a (by omega) (by omega) (by omega), hI_same]⟩, Or.inl rfl, fun z => absurd z (by show ¬ (0 : Int) = 1; omega)⟩
    obtain ⟨h3, q3, N3, P3, X3, NB3, qa, qb, F3, R3⟩ := s_Pln_sizes (d := d) hb hO hl hl' ha ⟨n0, n32, hL⟩ 6 0 q (0, 0, 0, fun _ => 0) h2 N (by omega) (by omega) X2 NB2 (by omega) P2
    have P3 : PX h3 a B (fPl B l w) := P3
    obtain ⟨h4, r4, T4, F4⟩ := s_Pln_ticksR (d := d) hb hO hl hl' ha (bD B).toNat 0 h3 (by omega) (by omega) X3 P3 (fun _ => fun i a b => by omega)
    have PF4 : PF h4 a B l w := ⟨PX_of P3 (F4.1 a (by simp)) (F4.1 (a + 1) (by simp)), T4⟩
    have row4 : ∀ x, x ≠ 26 → x ≠ 28 → x ≠ 29 → x ≠ 30 → x ≠ 31 → x ≠ 32 → x ≠ a → x ≠ a + 1 → x ≠ a + 2 → h4.1 x = h.1 x := by
      intro x z1 z2 z3 z4 z5 z6 z7 z8 z9
      rw [F4.1 x (by simp [z9]), F3.1 x (by simp [z4, z5, z6, z7, z8]) z1, row3 x z1 z2 z3 z7]
    have known : h4.1 a 0 = zI 1 := PF4.1.1.1
    refine ⟨h4, q3, N3, vc_Pln_planFor ?_, PF4, ?_, NB_of NB3 (by rw [F4.1 26 (by simp; omega)]) (F4.1 32 (by simp; omega)), by omega, by omega, ?_, fun x z0 z1 z2 z3 => row4 x (by omega) (by omega) (by omega) (by omega) (by omega) (by omega) z1 z2 z3⟩
    · simp (disch := omega) only [zI_add, zI_sub, zI_mul, zI_neg, zI_lit, zI_0, zI_1, zI_lt, zI_le, zI_eq, zI_clamp, zI_inT, zI_ite, mOb_0, mOb_1, mOb_3, mOb_4, mLd_1, mAr_1, mLen_1, mTrue_t, Int.toNat_zero, Int.toNat_one, true_and, and_true, not_true_eq_false, not_false_eq_true, true_or, or_true, or_self, false_or, or_false, forall_const, false_implies, true_implies, implies_true, ea, hA, p0, u, b0]
      refine ⟨_, _, s_Pln_free hb R0 B0 hO w0 w1, h1, r1, h2, r2, ?_⟩
      exact R3 _ r4
    · intro l' w' z1 z2 z3 z4
      by_cases e : pCell l' w' = a
      · have e2 : l' = l ∧ w' = w := by rw [← hA] at e; unfold pCell at e; omega
        rw [e2.1, e2.2, hA]; exact Or.inr ⟨known, PF4⟩
      · have pr' := pAd_rng (pCell_ad z1 z2 z3 z4)
        have apart : pCell l' w' ≠ a ∧ pCell l' w' ≠ a + 1 ∧ pCell l' w' ≠ a + 2 ∧ pCell l' w' + 1 ≠ a ∧ pCell l' w' + 1 ≠ a + 1 ∧ pCell l' w' + 1 ≠ a + 2 ∧ pCell l' w' + 2 ≠ a ∧ pCell l' w' + 2 ≠ a + 1 ∧ pCell l' w' + 2 ≠ a + 2 := by
          rw [← hA] at e ⊢; unfold pCell at e ⊢; omega
        obtain ⟨y1, y2, y3, y4, y5, y6, y7, y8, y9⟩ := apart
        have c0 := row4 (pCell l' w') (by omega) (by omega) (by omega) (by omega) (by omega) (by omega) y1 y2 y3
        have c1 := row4 (pCell l' w' + 1) (by omega) (by omega) (by omega) (by omega) (by omega) (by omega) y4 y5 y6
        have c2 := row4 (pCell l' w' + 2) (by omega) (by omega) (by omega) (by omega) (by omega) (by omega) y7 y8 y9
        rw [c0]
        exact (hPL l' w' z1 z2 z3 z4).imp id (fun y => ⟨y.1, PF_of y.2 c0 c1 c2⟩)
    · refine ⟨fun x hx => row4 x (by omega) (by omega) (by omega) (by omega) (by omega) (by omega) (by omega) (by omega) (by omega), ?_, ?_, ?_⟩
      · rw [F4.2, F3.2.2, F2.2.2, F1.2]; rfl
      · intro x hx
        rw [F4.2, F3.2.2, F2.2.2, F1.2]; funext y
        show (mPR (mPI (mPI h a 0 (zI 1)) a 1 (zI 0)) 26 1 b).2.2.1 x y = _
        rw [hR_off (by omega)]; rfl
      · rw [F4.2, F3.2.2, F2.2.2, F1.2]; rfl
  · refine ⟨h, q, N, vc_Pln_planFor ?_, hF, hPL, hN, by omega, by omega, plF_refl h, fun _ _ _ _ _ => rfl⟩
    simp (disch := omega) only [zI_add, zI_sub, zI_mul, zI_neg, zI_lit, zI_0, zI_1, zI_lt, zI_le, zI_eq, zI_clamp, zI_inT, zI_ite, mOb_0, mOb_1, mOb_3, mOb_4, mLd_1, mAr_1, mLen_1, mTrue_t, Int.toNat_zero, Int.toNat_one, true_and, and_true, not_true_eq_false, not_false_eq_true, true_or, or_true, or_self, false_or, or_false, forall_const, false_implies, true_implies, implies_true, ea, p0, u]
    repeat' (first | refine And.intro ?_ ?_ | with_reducible intro _)
    all_goals first | omega | rfl
theorem s_Pln_forget_loop {d : Nat} {B : tB} : ∀ (m : Nat) (i : Int) (h : mHp), i + m = 18 → 0 ≤ i → (∀ k : Nat, (k : Int) < i → h.1 (33 + 3 * k) 0 = zI 0) →
    ∃ h', mRuns (d + 1) 103 2 [some (.ref 26), some (.int (zI i))] [] h (.inl (none, h')) ∧ (∀ k : Nat, k < 18 → h'.1 (33 + 3 * k) 0 = zI 0) ∧ plF h h' ∧ h'.1 26 = h.1 26 ∧ h'.1 32 = h.1 32 := by
  intro m
  induction m with
  | zero =>
    intro i h hm i0 hk
    refine ⟨h, vc_Pln_forget_2 ?_, fun k hk' => hk k (by omega), plF_refl h, rfl, rfl⟩
    simp (disch := omega) only [zI_add, zI_sub, zI_mul, zI_neg, zI_lit, zI_0, zI_1, zI_lt, zI_le, zI_eq, zI_clamp, zI_inT, zI_ite, mOb_0, mOb_1, mOb_3, mOb_4, mLd_1, mAr_1, mLen_1, mTrue_t, Int.toNat_zero, Int.toNat_one, true_and, and_true, not_true_eq_false, not_false_eq_true, true_or, or_true, or_self, false_or, or_false, forall_const, false_implies, true_implies, implies_true]
    intro z; omega
  | succ m ih =>
    intro i h hm i0 hk
    have ha : pAd (27 + 6 + 3 * i.toNat) := ⟨i.toNat, by omega, by omega⟩
    have p0 := (pSh_of ha).1
    obtain ⟨h', r, p, f, g1, g2⟩ := ih (i + 1) (mPI h (27 + 6 + 3 * i.toNat) 0 (zI 0)) (by omega) (by omega) (fun k hk' => by
      by_cases e : k = i.toNat
      · rw [e, show 33 + 3 * i.toNat = 27 + 6 + 3 * i.toNat by omega, hI_same]
      · rw [hI_ne (by omega)]; exact hk k (by omega))
    refine ⟨h', vc_Pln_forget_2 ?_, p, plF_trans ⟨fun x hx => hI_ne (by omega) _ _ _, rfl, fun _ _ => rfl, rfl⟩ f, by rw [g1, hI_ne (by omega)], by rw [g2, hI_ne (by omega)]⟩
    simp (disch := omega) only [zI_add, zI_sub, zI_mul, zI_neg, zI_lit, zI_0, zI_1, zI_lt, zI_le, zI_eq, zI_clamp, zI_inT, zI_ite, mOb_0, mOb_1, mOb_3, mOb_4, mLd_1, mAr_1, mLen_1, mTrue_t, Int.toNat_zero, Int.toNat_one, true_and, and_true, not_true_eq_false, not_false_eq_true, true_or, or_true, or_self, false_or, or_false, forall_const, false_implies, true_implies, implies_true, p0]
    repeat' (first | refine And.intro ?_ ?_ | with_reducible intro _)
    all_goals first | omega | exact r
theorem s_Pln_forget {d : Nat} {h : mHp} (B : tB) :
    ∃ h', mRuns (d + 1) 103 0 [some (.ref 26), none] [] h (.inl (none, h')) ∧ PLI h' B ∧ plF h h' ∧ h'.1 26 = h.1 26 ∧ h'.1 32 = h.1 32 := by
  obtain ⟨h', r, p, f, g1, g2⟩ := s_Pln_forget_loop (d := d) (B := B) 18 0 h (by omega) (by omega) (fun k hk => by omega)
  refine ⟨h', vc_Pln_forget ?_, fun l w l0 l1 w0 w1 => Or.inl ?_, f, g1, g2⟩
  · simp (disch := omega) only [zI_add, zI_sub, zI_mul, zI_neg, zI_lit, zI_0, zI_1, zI_lt, zI_le, zI_eq, zI_clamp, zI_inT, zI_ite, mOb_0, mOb_1, mOb_3, mOb_4, mLd_1, mAr_1, mLen_1, mTrue_t, Int.toNat_zero, Int.toNat_one, true_and, and_true, not_true_eq_false, not_false_eq_true, true_or, or_true, or_self, false_or, or_false, forall_const, false_implies, true_implies, implies_true]
    exact r
  · have := p (l * 6 + w + 1).toNat (by omega)
    rw [show 33 + 3 * (l * 6 + w + 1).toNat = pCell l w by unfold pCell; omega] at this
    exact this

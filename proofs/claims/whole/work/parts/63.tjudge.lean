/-! L3, the class's cases, odds, pairs, next, waiting, trial -/
def jF (h h' : mHp) : Prop := (∀ x, x ∉ [87, 88, 89] → h'.1 x = h.1 x) ∧ h'.2.1 = h.2.1 ∧ (∀ x, x ≠ 87 → x ≠ 26 → h'.2.2.1 x = h.2.2.1 x) ∧ h.2.2.2 ≤ h'.2.2.2 ∧ h'.2.2.2 ≤ h.2.2.2 + 1
theorem jF_c {h h' : mHp} (f : cFr [87, 88, 89] h h') : jF h h' := ⟨f.1, f.2.1, f.2.2.1, by rw [f.2.2.2]; exact Nat.le_refl _, by rw [f.2.2.2]; exact Nat.le_succ _⟩
theorem jF_cx {h h' : mHp} (f : cFr [87, 88, 89] h h') : jF h (mXc h') := ⟨f.1, f.2.1, f.2.2.1, by show h.2.2.2 ≤ h'.2.2.2 + 1; rw [f.2.2.2]; exact Nat.le_succ _, by show h'.2.2.2 + 1 ≤ _; rw [f.2.2.2]; exact Nat.le_refl _⟩
theorem jF_x (h : mHp) : jF h (mXc h) := jF_cx (cFr_refl _ h)
theorem s_T_hear {d : Nat} {h : mHp} {b : Nat} {B : tB} {E : tE} (hb : bAd b) (hO : BOk B) (hE : EOk B E) (hB : BC h b B) (hL : LC h 90 E) {k : Int} (hk : 0 ≤ k) (hk' : k ≤ 2000) :
    ∃ h', mRuns (d + 4) 92 0 [some (.ref 87), some (.ref b), some (.ref 90), some (.int (zI k)), none] [] h (.inl (none, h')) ∧ JH h' b 90 B E k ∧ cFr [87, 88, 89] h h' ∧ BC h' b B ∧ LC h' 90 E := by
  obtain ⟨h', r, j, f⟩ := s_Jdg_hear (d := d) hb (Or.inl rfl : lAd 90) hO hE hk hk' hB hL
  have brr : b = 1 ∨ b = 12 := hb
  exact ⟨h', r, j, f, BC_of hB (fun k hk => f.1 _ (by simp; omega)), LC_of hL (fun k hk => f.1 _ (by simp; omega))⟩
theorem aCaR_rg2 {B : tB} {E : tE} {k i : Int} : ∀ (j : Nat) (c n : Int), 0 ≤ c → -1 ≤ aCaR B E k i j c n ∧ aCaR B E k i j c n < c + j ∨ aCaR B E k i j c n = -1 := by
  intro j
  induction j with
  | zero => intro c n _; exact Or.inr rfl
  | succ j ih =>
    intro c n c0
    unfold aCaR
    split
    · rcases ih (c + 1) n (by omega) with z | z
      · exact Or.inl (by omega)
      · exact Or.inr z
    · split
      · exact Or.inl (by omega)
      · rcases ih (c + 1) (n + 1) (by omega) with z | z
        · exact Or.inl (by omega)
        · exact Or.inr z
theorem aCa_rng {B : tB} (hO : BOk B) (E : tE) (k i : Int) : -1 ≤ aCa B E k i ∧ aCa B E k i ≤ 31 := by
  have o := hO.1
  have hr := case_rng (nd := bD B) (np := bP B) (by omega) (by omega) (by omega) (by omega)
  unfold aCa
  rcases aCaR_rg2 (B := B) (E := E) (k := k) (i := i) (1 + bD B * bP B).toNat 0 0 (by omega) with z | z
  · omega
  · omega
theorem s_T_cases {d : Nat} {h : mHp} {b : Nat} {B : tB} {E : tE} (hb : bAd b) (hR : h.2.2.1 0 0 = b) (hO : BOk B) (hE : EOk B E) (hB : BC h b B) (hL : LC h 90 E) {i : Int} (i1 : -2147483648 ≤ i) (i2 : i < 2147483648) :
    ∃ h', mRuns (d + 5) 175 0 [some (.ref 0), some (.int (zI i)), none] [] h (tAns (rCases B E i) 1 h') ∧ jF h h' := by
  have sb := bBl_of hb
  have hw := aNow_rng hE
  obtain ⟨h1, r1, J1, f1, B1, L1⟩ := s_T_hear (d := d) hb hO hE hB hL hw.1 (by omega)
  have la := s_Log_latest (d := d + 3) (Or.inl rfl : lAd 90) hL hE
  have ca := s_Jdg_caseAt (d := d + 3) hO J1 i1 i2
  have j6 := J1.2.2.2.2.2.2
  have nr := aNum_rng hO E (aNow E)
  by_cases ci : i = -1
  · have e : rCases B E i = (0, aNum B E (aNow E)) := by unfold rCases; rw [if_pos ci]
    rw [e]
    refine ⟨h1, vc_T_cases ?_, jF_c f1⟩
    unfold tAns
    simp (disch := omega) only [zI_add, zI_sub, zI_mul, zI_neg, zI_lit, zI_0, zI_1, zI_lt, zI_le, zI_eq, zI_clamp, zI_inT, zI_ite, mOb_0, mOb_1, mOb_3, mOb_4, mLd_1, mAr_1, mLen_1, mTrue_t, Int.toNat_zero, Int.toNat_one, true_and, and_true, not_true_eq_false, not_false_eq_true, true_or, or_true, or_self, false_or, or_false, forall_const, false_implies, true_implies, implies_true, hR, sb]
    refine ⟨_, _, la, h1, r1, ?_⟩
    simp (disch := omega) only [zI_add, zI_sub, zI_mul, zI_neg, zI_lit, zI_0, zI_1, zI_lt, zI_le, zI_eq, zI_clamp, zI_inT, zI_ite, mOb_0, mOb_1, mOb_3, mOb_4, mLd_1, mAr_1, mLen_1, mTrue_t, Int.toNat_zero, Int.toNat_one, true_and, and_true, not_true_eq_false, not_false_eq_true, true_or, or_true, or_self, false_or, or_false, forall_const, false_implies, true_implies, implies_true, j6]
    repeat' (first | refine And.intro ?_ ?_ | with_reducible intro _)
    all_goals first | omega | rfl
  · by_cases cc : aCa B E (aNow E) i = -1
    · have e : rCases B E i = (1, 0) := by unfold rCases; rw [if_neg ci, if_pos cc]
      rw [e]
      refine ⟨mXc h1, vc_T_cases ?_, jF_cx f1⟩
      unfold tAns
      rw [cc] at ca
      simp (disch := omega) only [zI_add, zI_sub, zI_mul, zI_neg, zI_lit, zI_0, zI_1, zI_lt, zI_le, zI_eq, zI_clamp, zI_inT, zI_ite, mOb_0, mOb_1, mOb_3, mOb_4, mLd_1, mAr_1, mLen_1, mTrue_t, Int.toNat_zero, Int.toNat_one, true_and, and_true, not_true_eq_false, not_false_eq_true, true_or, or_true, or_self, false_or, or_false, forall_const, false_implies, true_implies, implies_true, hR, sb]
      refine ⟨_, _, la, h1, r1, ?_⟩
      refine ⟨fun _ => ⟨_, _, ca, ?_⟩, fun z => absurd z ci⟩
      simp (disch := omega) only [zI_add, zI_sub, zI_mul, zI_neg, zI_lit, zI_0, zI_1, zI_lt, zI_le, zI_eq, zI_clamp, zI_inT, zI_ite, mOb_0, mOb_1, mOb_3, mOb_4, mLd_1, mAr_1, mLen_1, mTrue_t, Int.toNat_zero, Int.toNat_one, true_and, and_true, not_true_eq_false, not_false_eq_true, true_or, or_true, or_self, false_or, or_false, forall_const, false_implies, true_implies, implies_true]
      repeat' (first | refine And.intro ?_ ?_ | with_reducible intro _)
      all_goals first | omega | rfl
    · have e : rCases B E i = (0, aCa B E (aNow E) i) := by unfold rCases; rw [if_neg ci, if_neg cc]
      have ar := aCa_rng hO E (aNow E) i
      rw [e]
      refine ⟨h1, vc_T_cases ?_, jF_c f1⟩
      unfold tAns
      simp (disch := omega) only [zI_add, zI_sub, zI_mul, zI_neg, zI_lit, zI_0, zI_1, zI_lt, zI_le, zI_eq, zI_clamp, zI_inT, zI_ite, mOb_0, mOb_1, mOb_3, mOb_4, mLd_1, mAr_1, mLen_1, mTrue_t, Int.toNat_zero, Int.toNat_one, true_and, and_true, not_true_eq_false, not_false_eq_true, true_or, or_true, or_self, false_or, or_false, forall_const, false_implies, true_implies, implies_true, hR, sb]
      refine ⟨_, _, la, h1, r1, ?_⟩
      refine ⟨fun _ => ⟨_, _, ca, ?_⟩, fun z => absurd z ci⟩
      simp (disch := omega) only [zI_add, zI_sub, zI_mul, zI_neg, zI_lit, zI_0, zI_1, zI_lt, zI_le, zI_eq, zI_clamp, zI_inT, zI_ite, mOb_0, mOb_1, mOb_3, mOb_4, mLd_1, mAr_1, mLen_1, mTrue_t, Int.toNat_zero, Int.toNat_one, true_and, and_true, not_true_eq_false, not_false_eq_true, true_or, or_true, or_self, false_or, or_false, forall_const, false_implies, true_implies, implies_true]
      repeat' (first | refine And.intro ?_ ?_ | with_reducible intro _)
      all_goals first | omega | rfl
theorem s_T_waiting {d : Nat} {h : mHp} {b : Nat} {B : tB} {E : tE} (hb : bAd b) (hR : h.2.2.1 0 0 = b) (hO : BOk B) (hE : EOk B E) (hB : BC h b B) (hL : LC h 90 E) {i : Int} (i1 : -2147483648 ≤ i) (i2 : i < 2147483648) :
    ∃ h', mRuns (d + 5) 181 0 [some (.ref 0), some (.int (zI i))] [] h (tAns (rWaiting B E i) 0 h') ∧ jF h h' := by
  have sb := bBl_of hb
  have hw := aNow_rng hE
  have la := s_Log_latest (d := d + 3) (Or.inl rfl : lAd 90) hL hE
  by_cases ci : aNow E ≤ i ∧ i ≤ 2000
  · obtain ⟨h1, r1, J1, f1, B1, L1⟩ := s_T_hear (d := d) hb hO hE hB hL (k := i) (by omega) (by omega)
    have j6 := J1.2.2.2.2.2.2
    have e : rWaiting B E i = (0, aNum B E i) := by unfold rWaiting; rw [if_pos ci]
    rw [e]
    refine ⟨h1, vc_T_waiting ⟨_, _, la, ?_⟩, jF_c f1⟩
    unfold tAns
    simp (disch := omega) only [zI_add, zI_sub, zI_mul, zI_neg, zI_lit, zI_0, zI_1, zI_lt, zI_le, zI_eq, zI_clamp, zI_inT, zI_ite, mOb_0, mOb_1, mOb_3, mOb_4, mLd_1, mAr_1, mLen_1, mTrue_t, Int.toNat_zero, Int.toNat_one, true_and, and_true, not_true_eq_false, not_false_eq_true, true_or, or_true, or_self, false_or, or_false, forall_const, false_implies, true_implies, implies_true, hR, sb]
    refine ⟨fun z => by omega, fun _ => ⟨fun _ => ⟨h1, r1, ?_⟩, fun z => by omega⟩⟩
    simp (disch := omega) only [zI_add, zI_sub, zI_mul, zI_neg, zI_lit, zI_0, zI_1, zI_lt, zI_le, zI_eq, zI_clamp, zI_inT, zI_ite, mOb_0, mOb_1, mOb_3, mOb_4, mLd_1, mAr_1, mLen_1, mTrue_t, Int.toNat_zero, Int.toNat_one, true_and, and_true, not_true_eq_false, not_false_eq_true, true_or, or_true, or_self, false_or, or_false, forall_const, false_implies, true_implies, implies_true, j6]
    rfl
  · have e : rWaiting B E i = (1, 0) := by unfold rWaiting; rw [if_neg ci]
    rw [e]
    refine ⟨mXc h, vc_T_waiting ⟨_, _, la, ?_⟩, jF_x h⟩
    unfold tAns
    simp (disch := omega) only [zI_add, zI_sub, zI_mul, zI_neg, zI_lit, zI_0, zI_1, zI_lt, zI_le, zI_eq, zI_clamp, zI_inT, zI_ite, mOb_0, mOb_1, mOb_3, mOb_4, mLd_1, mAr_1, mLen_1, mTrue_t, Int.toNat_zero, Int.toNat_one, true_and, and_true, not_true_eq_false, not_false_eq_true, true_or, or_true, or_self, false_or, or_false, forall_const, false_implies, true_implies, implies_true, hR, sb]
    repeat' (first | refine And.intro ?_ ?_ | with_reducible intro _)
    all_goals first | omega | rfl
theorem s_T_pairs {d : Nat} {h : mHp} {b : Nat} {B : tB} {E : tE} (hb : bAd b) (hR : h.2.2.1 0 0 = b) (hO : BOk B) (hE : EOk B E) (hB : BC h b B) (hL : LC h 90 E) :
    ∃ h', mRuns (d + 5) 153 0 [some (.ref 0)] [] h (.inl (some (.int (zI (aPr B E (aNow E)))), h')) ∧ jF h h' := by
  have sb := bBl_of hb
  have hw := aNow_rng hE
  have la := s_Log_latest (d := d + 3) (Or.inl rfl : lAd 90) hL hE
  obtain ⟨h1, r1, J1, f1, B1, L1⟩ := s_T_hear (d := d) hb hO hE hB hL hw.1 (by omega)
  refine ⟨h1, vc_T_pairs ?_, jF_c f1⟩
  simp (disch := omega) only [zI_add, zI_sub, zI_mul, zI_neg, zI_lit, zI_0, zI_1, zI_lt, zI_le, zI_eq, zI_clamp, zI_inT, zI_ite, mOb_0, mOb_1, mOb_3, mOb_4, mLd_1, mAr_1, mLen_1, mTrue_t, Int.toNat_zero, Int.toNat_one, true_and, and_true, not_true_eq_false, not_false_eq_true, true_or, or_true, or_self, false_or, or_false, forall_const, false_implies, true_implies, implies_true, hR, sb]
  exact ⟨_, _, la, h1, r1, _, _, s_Jdg_pairs (d := d + 2) hb (Or.inl rfl : lAd 90) hO hE hw.1 (by omega) B1 L1 J1, rfl⟩
theorem s_T_next {d : Nat} {h : mHp} {b : Nat} {B : tB} {E : tE} (hb : bAd b) (hR : h.2.2.1 0 0 = b) (hO : BOk B) (hE : EOk B E) (hB : BC h b B) (hL : LC h 90 E) {x : Int} (i1 : -2147483648 ≤ x) (i2 : x < 2147483648) :
    ∃ h', mRuns (d + 6) 180 0 [some (.ref 0), some (.int (zI x))] [] h (tAns (rNext B E x) 1 h') ∧ jF h h' := by
  have np := s_T_needZeroOrOne (d := d + 4) (h := h) i1 i2
  unfold tOut at np
  have sb := bBl_of hb
  have hw := aNow_rng hE
  have la := s_Log_latest (d := d + 4) (Or.inl rfl : lAd 90) hL hE
  obtain ⟨h1, r1, J1, f1, B1, L1⟩ := s_T_hear (d := d + 1) hb hO hE hB hL hw.1 (by omega)
  obtain ⟨h2, r2, n7, n8, -, f2⟩ := s_Jdg_choose (d := d) hb (Or.inl rfl : lAd 90) hO hE B1 L1 J1
  have f12 : cFr [87, 88, 89] h h2 := cFr_trans f1 (cFr_mono (cFr_of f2) (by simp))
  by_cases cx : x = 0 ∨ x = 1
  · have e : rNext B E x = (0, if x = 0 then (aCt B E (aNow E)).1 else (aCt B E (aNow E)).2) := by
      unfold rNext; rcases cx with rfl | rfl
      · rfl
      · rfl
    rw [e]
    rw [if_pos cx] at np
    refine ⟨h2, vc_T_next (Or.inl ⟨h, np, ?_⟩), jF_c f12⟩
    unfold tAns
    simp (disch := omega) only [zI_add, zI_sub, zI_mul, zI_neg, zI_lit, zI_0, zI_1, zI_lt, zI_le, zI_eq, zI_clamp, zI_inT, zI_ite, mOb_0, mOb_1, mOb_3, mOb_4, mLd_1, mAr_1, mLen_1, mTrue_t, Int.toNat_zero, Int.toNat_one, true_and, and_true, not_true_eq_false, not_false_eq_true, true_or, or_true, or_self, false_or, or_false, forall_const, false_implies, true_implies, implies_true, hR, sb]
    refine ⟨_, _, la, h1, r1, h2, r2, ?_⟩
    rcases cx with rfl | rfl
    · simp (disch := omega) only [zI_add, zI_sub, zI_mul, zI_neg, zI_lit, zI_0, zI_1, zI_lt, zI_le, zI_eq, zI_clamp, zI_inT, zI_ite, mOb_0, mOb_1, mOb_3, mOb_4, mLd_1, mAr_1, mLen_1, mTrue_t, Int.toNat_zero, Int.toNat_one, true_and, and_true, not_true_eq_false, not_false_eq_true, true_or, or_true, or_self, false_or, or_false, forall_const, false_implies, true_implies, implies_true, n7, n8]
      repeat' (first | refine And.intro ?_ ?_ | with_reducible intro _)
      all_goals first | omega | rfl
    · simp (disch := omega) only [zI_add, zI_sub, zI_mul, zI_neg, zI_lit, zI_0, zI_1, zI_lt, zI_le, zI_eq, zI_clamp, zI_inT, zI_ite, mOb_0, mOb_1, mOb_3, mOb_4, mLd_1, mAr_1, mLen_1, mTrue_t, Int.toNat_zero, Int.toNat_one, true_and, and_true, not_true_eq_false, not_false_eq_true, true_or, or_true, or_self, false_or, or_false, forall_const, false_implies, true_implies, implies_true, n7, n8]
      repeat' (first | refine And.intro ?_ ?_ | with_reducible intro _)
      all_goals first | omega | rfl
  · have e : rNext B E x = (1, 0) := by unfold rNext; rw [if_neg (fun z => cx (Or.inl z)), if_neg (fun z => cx (Or.inr z))]
    rw [e]
    rw [if_neg cx] at np
    exact ⟨mXc h, vc_T_next (Or.inr ⟨_, _, np, rfl⟩), jF_x h⟩
theorem s_T_odds {d : Nat} {h : mHp} {b : Nat} {B : tB} {E : tE} (hb : bAd b) (hR : h.2.2.1 0 0 = b) (hO : BOk B) (hE : EOk B E) (hB : BC h b B) (hL : LC h 90 E) {q x : Int} (q1 : -2147483648 ≤ q) (q2 : q < 2147483648) (i1 : -2147483648 ≤ x) (i2 : x < 2147483648) :
    ∃ h', mRuns (d + 5) 176 0 [some (.ref 0), some (.int (zI q)), some (.int (zI x))] [] h (tAns (rOdds B E q x) 1 h') ∧ jF h h' := by
  have sb := bBl_of hb
  have o := hO.1
  have hw := aNow_rng hE
  have la := s_Log_latest (d := d + 3) (Or.inl rfl : lAd 90) hL hE
  have nd := s_T_needDish (d := d + 3) hb hR hB hO q1 q2
  have np := s_T_needZeroOrOne (d := d + 3) (h := h) i1 i2
  unfold tOut at nd np
  by_cases cq : q = -1 ∨ (0 ≤ q ∧ q < bD B)
  · have mid : ∀ out, mRuns (d + 5) 176 10 [some (.ref 0), some (.int (zI q)), some (.int (zI x))] [] h out → mRuns (d + 5) 176 0 [some (.ref 0), some (.int (zI q)), some (.int (zI x))] [] h out := by
      intro out r
      refine vc_T_odds ?_
      simp (disch := omega) only [zI_add, zI_sub, zI_mul, zI_neg, zI_lit, zI_0, zI_1, zI_lt, zI_le, zI_eq, zI_clamp, zI_inT, zI_ite, mOb_0, mOb_1, mOb_3, mOb_4, mLd_1, mAr_1, mLen_1, mTrue_t, Int.toNat_zero, Int.toNat_one, true_and, and_true, not_true_eq_false, not_false_eq_true, true_or, or_true, or_self, false_or, or_false, forall_const, false_implies, true_implies, implies_true]
      refine ⟨fun _ => r, fun z => ?_⟩
      rw [if_pos (by omega)] at nd
      exact Or.inl ⟨h, nd, r⟩
    by_cases cx : x = 0 ∨ x = 1
    · rw [if_pos cx] at np
      have e : rOdds B E q x = (0, aPart (aWq B E (aNow E) q).toNat (aWa B E (aNow E)).toNat x) := by unfold rOdds; rw [if_pos ⟨cq, cx⟩]
      rw [e]
      obtain ⟨h1, r1, J1, f1, B1, L1⟩ := s_T_hear (d := d) hb hO hE hB hL hw.1 (by omega)
      have qr := aWq_rng hO (E := E) (k := aNow E) (q := q) (by omega) (by omega)
      have ar := aWaR_rng hO (E := E) (k := aNow E) (bD B).toNat 0 (aWq B E (aNow E) (-1)) (by omega) (by omega)
      have q0r := aWq_rng hO (E := E) (k := aNow E) (q := -1) (by omega) (by omega)
      have ar : aWq B E (aNow E) (-1) ≤ aWa B E (aNow E) ∧ aWa B E (aNow E) ≤ aWq B E (aNow E) (-1) + 50000 * ((bD B).toNat : Int) := ar
      have w1 := s_Jdg_weightOf (d := d + 2) (q := q) hb hO B1 J1 (by omega) (by omega)
      have w2 := s_Jdg_weightOfAll (d := d + 1) hb hO B1 J1
      have pp := s_T_partOf (d := d + 2) (h := h1) (u := (aWq B E (aNow E) q).toNat) (w := (aWa B E (aNow E)).toNat) (x := x) (by omega) (by omega) cx
      rw [show (((aWq B E (aNow E) q).toNat : Nat) : Int) = aWq B E (aNow E) q by omega, show (((aWa B E (aNow E)).toNat : Nat) : Int) = aWa B E (aNow E) by omega] at pp
      refine ⟨h1, mid _ (vc_T_odds_10 (Or.inl ⟨h, np, ?_⟩)), jF_c f1⟩
      simp (disch := omega) only [zI_add, zI_sub, zI_mul, zI_neg, zI_lit, zI_0, zI_1, zI_lt, zI_le, zI_eq, zI_clamp, zI_inT, zI_ite, mOb_0, mOb_1, mOb_3, mOb_4, mLd_1, mAr_1, mLen_1, mTrue_t, Int.toNat_zero, Int.toNat_one, true_and, and_true, not_true_eq_false, not_false_eq_true, true_or, or_true, or_self, false_or, or_false, forall_const, false_implies, true_implies, implies_true, hR, sb]
      refine ⟨_, _, la, h1, r1, _, _, w1, _, _, w2, ?_⟩
      rw [zI_toL (by omega) (by omega), zI_toL (by omega) (by omega)]
      exact ⟨_, _, pp, rfl⟩
    · rw [if_neg cx] at np
      have e : rOdds B E q x = (1, 0) := by unfold rOdds; rw [if_neg (fun z => cx z.2)]
      rw [e]
      exact ⟨mXc h, mid _ (vc_T_odds_10 (Or.inr ⟨_, _, np, rfl⟩)), jF_x h⟩
  · rw [if_neg (by omega)] at nd
    have e : rOdds B E q x = (1, 0) := by unfold rOdds; rw [if_neg (fun z => cq z.1)]
    rw [e]
    refine ⟨mXc h, vc_T_odds ?_, jF_x h⟩
    simp (disch := omega) only [zI_add, zI_sub, zI_mul, zI_neg, zI_lit, zI_0, zI_1, zI_lt, zI_le, zI_eq, zI_clamp, zI_inT, zI_ite, mOb_0, mOb_1, mOb_3, mOb_4, mLd_1, mAr_1, mLen_1, mTrue_t, Int.toNat_zero, Int.toNat_one, true_and, and_true, not_true_eq_false, not_false_eq_true, true_or, or_true, or_self, false_or, or_false, forall_const, false_implies, true_implies, implies_true]
    exact ⟨fun z => by omega, fun _ => Or.inr ⟨_, _, nd, rfl⟩⟩

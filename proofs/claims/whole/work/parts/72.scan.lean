/-! L3, the class's scan -/
theorem sB_cs {c : Int} (h : 0 ≤ c ∧ c ≤ 255) : (c < 128 ∧ sB c = c) ∨ (128 ≤ c ∧ sB c = c - 256) := by unfold sB; split <;> omega
theorem s_Rdr_isLetter {d : Nat} {h : mHp} {c : Int} (h1 : -128 ≤ c) (h2 : c ≤ 255) : mRuns (d + 1) 136 0 [some (.int (zI c))] [] h (.inl (some (.int (zI (if 97 ≤ c ∧ c ≤ 122 then 1 else 0))), h)) := by
  refine vc_Rdr_isLetter ?_
  simp (disch := omega) only [zI_add, zI_sub, zI_mul, zI_neg, zI_lit, zI_0, zI_1, zI_lt, zI_le, zI_eq, zI_clamp, zI_inT, zI_ite, mOb_0, mOb_1, mOb_3, mOb_4, mLd_1, mAr_1, mLen_1, mTrue_t, Int.toNat_zero, Int.toNat_one, true_and, and_true, not_true_eq_false, not_false_eq_true, true_or, or_true, or_self, false_or, or_false, forall_const, false_implies, true_implies, implies_true]
  repeat' (first | refine And.intro ?_ ?_ | with_reducible intro _)
  all_goals first | omega | exact oI (by split <;> omega)
theorem s_Rdr_isDigit {d : Nat} {h : mHp} {c : Int} (h1 : -128 ≤ c) (h2 : c ≤ 255) : mRuns (d + 1) 137 0 [some (.int (zI c))] [] h (.inl (some (.int (zI (if 48 ≤ c ∧ c ≤ 57 then 1 else 0))), h)) := by
  refine vc_Rdr_isDigit ?_
  simp (disch := omega) only [zI_add, zI_sub, zI_mul, zI_neg, zI_lit, zI_0, zI_1, zI_lt, zI_le, zI_eq, zI_clamp, zI_inT, zI_ite, mOb_0, mOb_1, mOb_3, mOb_4, mLd_1, mAr_1, mLen_1, mTrue_t, Int.toNat_zero, Int.toNat_one, true_and, and_true, not_true_eq_false, not_false_eq_true, true_or, or_true, or_self, false_or, or_false, forall_const, false_implies, true_implies, implies_true]
  repeat' (first | refine And.intro ?_ ?_ | with_reducible intro _)
  all_goals first | omega | exact oI (by split <;> omega)
theorem XC_fr {h h' : mHp} {n : Int} {u : Int → Int} {l fs : List Nat} (hX : XC h n u) (f : hFg 23 l fs h h') (hl : 24 ∉ l) : XC h' n u := fun i i0 i1 => by
  rw [f.1 24 hl (by omega)]; exact hX i i0 i1
theorem s_Rdr_skip {d : Nat} {n : Int} {u : Int → Int} (n1 : n ≤ 700) (hu : uR u) : ∀ (j : Nat) (p : Int) (h : mHp), p + j = n → 0 ≤ p → XC h n u → h.1 23 2 = zI n → h.1 23 3 = zI p →
    ∃ h', h'.1 23 3 = zI (lSkip u n j p) ∧ hFg 23 [] [3] h h' ∧ ∀ out, mRuns (d + 1) 135 52 [some (.ref 23)] [] h' out → mRuns (d + 1) 135 0 [some (.ref 23)] [] h out := by
  intro j
  induction j with
  | zero =>
    intro p h hp p0 hX e2 e3
    refine ⟨h, e3, hFg_refl _ _ _ _, fun out H => vc_Rdr_scan ?_⟩
    simp (disch := omega) only [zI_add, zI_sub, zI_mul, zI_neg, zI_lit, zI_0, zI_1, zI_lt, zI_le, zI_eq, zI_clamp, zI_inT, zI_ite, mOb_0, mOb_1, mOb_3, mOb_4, mLd_1, mAr_1, mLen_1, mTrue_t, Int.toNat_zero, Int.toNat_one, true_and, and_true, not_true_eq_false, not_false_eq_true, true_or, or_true, or_self, false_or, or_false, forall_const, false_implies, true_implies, implies_true, e2, e3]
    repeat' (first | refine And.intro ?_ ?_ | with_reducible intro _)
    all_goals first | omega | exact H
  | succ j ih =>
    intro p h hp p0 hX e2 e3
    have ux := hX p p0 (by omega)
    have us := sB_cs (hu p)
    have us0 := hu p
    have F0 : hFg 23 [] [3] h (mPI h 23 3 (zI (p + 1))) := hFg_pf (hFg_refl _ _ _ _) (by simp) _
    unfold lSkip
    by_cases c : p < n ∧ (u p = 32 ∨ u p = 10)
    · rw [if_pos c]
      obtain ⟨h', a, f, k⟩ := ih (p + 1) (mPI h 23 3 (zI (p + 1))) (by omega) (by omega) (XC_fr hX F0 (by simp)) (by rw [hI_off (by omega)]; exact e2) (hI_same _ _ _ _)
      refine ⟨h', a, hFg_trans F0 f, fun out H => vc_Rdr_scan ?_⟩
      simp (disch := omega) only [zI_add, zI_sub, zI_mul, zI_neg, zI_lit, zI_0, zI_1, zI_lt, zI_le, zI_eq, zI_clamp, zI_inT, zI_ite, mOb_0, mOb_1, mOb_3, mOb_4, mLd_1, mAr_1, mLen_1, mTrue_t, Int.toNat_zero, Int.toNat_one, true_and, and_true, not_true_eq_false, not_false_eq_true, true_or, or_true, or_self, false_or, or_false, forall_const, false_implies, true_implies, implies_true, e2, e3, ux]
      repeat' (first | refine And.intro ?_ ?_ | with_reducible intro _)
      all_goals first | omega | exact k out H
    · rw [if_neg c]
      refine ⟨h, e3, hFg_refl _ _ _ _, fun out H => vc_Rdr_scan ?_⟩
      simp (disch := omega) only [zI_add, zI_sub, zI_mul, zI_neg, zI_lit, zI_0, zI_1, zI_lt, zI_le, zI_eq, zI_clamp, zI_inT, zI_ite, mOb_0, mOb_1, mOb_3, mOb_4, mLd_1, mAr_1, mLen_1, mTrue_t, Int.toNat_zero, Int.toNat_one, true_and, and_true, not_true_eq_false, not_false_eq_true, true_or, or_true, or_self, false_or, or_false, forall_const, false_implies, true_implies, implies_true, e2, e3, ux]
      repeat' (first | refine And.intro ?_ ?_ | with_reducible intro _)
      all_goals first | omega | exact H
theorem s_Rdr_wrd {d : Nat} {n : Int} {u : Int → Int} (n1 : n ≤ 700) (hu : uR u) : ∀ (j : Nat) (p : Int) (h : mHp), p + j = n → 0 ≤ p → XC h n u → h.1 23 2 = zI n → h.1 23 3 = zI p →
    ∃ h', h'.1 23 3 = zI (lWrd u n j p) ∧ hFg 23 [] [3] h h' ∧ mRuns (d + 2) 135 99 [some (.ref 23)] [] h (.inl (none, h')) := by
  intro j
  induction j with
  | zero =>
    intro p h hp p0 hX e2 e3
    refine ⟨h, e3, hFg_refl _ _ _ _, vc_Rdr_scan_99 ?_⟩
    simp (disch := omega) only [zI_add, zI_sub, zI_mul, zI_neg, zI_lit, zI_0, zI_1, zI_lt, zI_le, zI_eq, zI_clamp, zI_inT, zI_ite, mOb_0, mOb_1, mOb_3, mOb_4, mLd_1, mAr_1, mLen_1, mTrue_t, Int.toNat_zero, Int.toNat_one, true_and, and_true, not_true_eq_false, not_false_eq_true, true_or, or_true, or_self, false_or, or_false, forall_const, false_implies, true_implies, implies_true, e2, e3]
    repeat' (first | refine And.intro ?_ ?_ | with_reducible intro _)
    all_goals first | omega | rfl
  | succ j ih =>
    intro p h hp p0 hX e2 e3
    have ux := hX p p0 (by omega)
    have us := sB_cs (hu p)
    have us0 := hu p
    have F0 : hFg 23 [] [3] h (mPI h 23 3 (zI (p + 1))) := hFg_pf (hFg_refl _ _ _ _) (by simp) _
    have L := s_Rdr_isLetter (d := d) (h := h) (c := sB (u p)) (by omega) (by omega)
    unfold lWrd
    by_cases c : p < n ∧ 97 ≤ u p ∧ u p ≤ 122
    · rw [if_pos c]
      rw [if_pos (by omega)] at L
      obtain ⟨h', a, f, k⟩ := ih (p + 1) (mPI h 23 3 (zI (p + 1))) (by omega) (by omega) (XC_fr hX F0 (by simp)) (by rw [hI_off (by omega)]; exact e2) (hI_same _ _ _ _)
      refine ⟨h', a, hFg_trans F0 f, vc_Rdr_scan_99 ?_⟩
      simp (disch := omega) only [zI_add, zI_sub, zI_mul, zI_neg, zI_lit, zI_0, zI_1, zI_lt, zI_le, zI_eq, zI_clamp, zI_inT, zI_ite, mOb_0, mOb_1, mOb_3, mOb_4, mLd_1, mAr_1, mLen_1, mTrue_t, Int.toNat_zero, Int.toNat_one, true_and, and_true, not_true_eq_false, not_false_eq_true, true_or, or_true, or_self, false_or, or_false, forall_const, false_implies, true_implies, implies_true, e2, e3, ux]
      refine ⟨fun z => by omega, fun _ => ⟨_, _, L, ?_⟩⟩
      simp (disch := omega) only [zI_add, zI_sub, zI_mul, zI_neg, zI_lit, zI_0, zI_1, zI_lt, zI_le, zI_eq, zI_clamp, zI_inT, zI_ite, mOb_0, mOb_1, mOb_3, mOb_4, mLd_1, mAr_1, mLen_1, mTrue_t, Int.toNat_zero, Int.toNat_one, true_and, and_true, not_true_eq_false, not_false_eq_true, true_or, or_true, or_self, false_or, or_false, forall_const, false_implies, true_implies, implies_true, e3]
      repeat' (first | refine And.intro ?_ ?_ | with_reducible intro _)
      all_goals first | omega | exact k
    · rw [if_neg c]
      rw [if_neg (by omega)] at L
      refine ⟨h, e3, hFg_refl _ _ _ _, vc_Rdr_scan_99 ?_⟩
      simp (disch := omega) only [zI_add, zI_sub, zI_mul, zI_neg, zI_lit, zI_0, zI_1, zI_lt, zI_le, zI_eq, zI_clamp, zI_inT, zI_ite, mOb_0, mOb_1, mOb_3, mOb_4, mLd_1, mAr_1, mLen_1, mTrue_t, Int.toNat_zero, Int.toNat_one, true_and, and_true, not_true_eq_false, not_false_eq_true, true_or, or_true, or_self, false_or, or_false, forall_const, false_implies, true_implies, implies_true, e2, e3, ux]
      refine fun _ => ⟨_, _, L, ?_⟩
      simp (disch := omega) only [zI_add, zI_sub, zI_mul, zI_neg, zI_lit, zI_0, zI_1, zI_lt, zI_le, zI_eq, zI_clamp, zI_inT, zI_ite, mOb_0, mOb_1, mOb_3, mOb_4, mLd_1, mAr_1, mLen_1, mTrue_t, Int.toNat_zero, Int.toNat_one, true_and, and_true, not_true_eq_false, not_false_eq_true, true_or, or_true, or_self, false_or, or_false, forall_const, false_implies, true_implies, implies_true, e3]
      repeat' (first | refine And.intro ?_ ?_ | with_reducible intro _)
      all_goals first | omega | rfl
theorem s_Rdr_dig {d : Nat} {n st : Int} {u : Int → Int} (n1 : n ≤ 700) (hu : uR u) (s0 : 0 ≤ st) : ∀ (j : Nat) (p v : Int) (h : mHp), p + j = n → st ≤ p → vB (p - st) v → XC h n u → h.1 23 2 = zI n → h.1 23 3 = zI p → h.1 23 5 = zI st → h.1 23 6 = zI v →
    ∃ h', h'.1 23 3 = zI (lDig u n j p) ∧ h'.1 23 6 = zI (lVal u n st j p v) ∧ hFg 23 [] [3, 6] h h' ∧ mRuns (d + 2) 135 163 [some (.ref 23)] [] h (.inl (none, h')) := by
  intro j
  induction j with
  | zero =>
    intro p v h hp p0 hv hX e2 e3 e5 e6
    refine ⟨h, e3, e6, hFg_refl _ _ _ _, vc_Rdr_scan_163 ?_⟩
    simp (disch := omega) only [zI_add, zI_sub, zI_mul, zI_neg, zI_lit, zI_0, zI_1, zI_lt, zI_le, zI_eq, zI_clamp, zI_inT, zI_ite, mOb_0, mOb_1, mOb_3, mOb_4, mLd_1, mAr_1, mLen_1, mTrue_t, Int.toNat_zero, Int.toNat_one, true_and, and_true, not_true_eq_false, not_false_eq_true, true_or, or_true, or_self, false_or, or_false, forall_const, false_implies, true_implies, implies_true, e2, e3]
    repeat' (first | refine And.intro ?_ ?_ | with_reducible intro _)
    all_goals first | omega | rfl
  | succ j ih =>
    intro p v h hp p0 hv hX e2 e3 e5 e6
    have ux := hX p (by omega) (by omega)
    have us := sB_cs (hu p)
    have us0 := hu p
    have L := s_Rdr_isDigit (d := d) (h := h) (c := sB (u p)) (by omega) (by omega)
    unfold lDig lVal
    by_cases c : p < n ∧ 48 ≤ u p ∧ u p ≤ 57
    · rw [if_pos c, if_pos c]
      rw [if_pos (by omega)] at L
      by_cases c4 : p - st < 4
      · rw [if_pos c4]
        have F0 : hFg 23 [] [3, 6] h (mPI (mPI h 23 6 (zI (v * 10 + u p - 48))) 23 3 (zI (p + 1))) := hFg_pf (hFg_pf (hFg_refl _ _ _ _) (by simp) _) (by simp) _
        obtain ⟨h', a, a6, f, k⟩ := ih (p + 1) (v * 10 + u p - 48) (mPI (mPI h 23 6 (zI (v * 10 + u p - 48))) 23 3 (zI (p + 1))) (by omega) (by omega) (by unfold vB at hv ⊢; omega) (XC_fr hX F0 (by simp)) (by rw [hI_off (by omega), hI_off (by omega)]; exact e2) (hI_same _ _ _ _) (by rw [hI_off (by omega), hI_off (by omega)]; exact e5) (by rw [hI_off (by omega), hI_same])
        refine ⟨h', a, a6, hFg_trans F0 f, vc_Rdr_scan_163 ?_⟩
        have us' : sB (u p) = u p := by omega
        simp (disch := omega) only [zI_add, zI_sub, zI_mul, zI_neg, zI_lit, zI_0, zI_1, zI_lt, zI_le, zI_eq, zI_clamp, zI_inT, zI_ite, mOb_0, mOb_1, mOb_3, mOb_4, mLd_1, mAr_1, mLen_1, mTrue_t, Int.toNat_zero, Int.toNat_one, true_and, and_true, not_true_eq_false, not_false_eq_true, true_or, or_true, or_self, false_or, or_false, forall_const, false_implies, true_implies, implies_true, e2, e3, ux]
        refine ⟨fun z => by omega, fun _ => ⟨_, _, L, ?_⟩⟩
        simp (disch := omega) only [zI_add, zI_sub, zI_mul, zI_neg, zI_lit, zI_0, zI_1, zI_lt, zI_le, zI_eq, zI_clamp, zI_inT, zI_ite, mOb_0, mOb_1, mOb_3, mOb_4, mLd_1, mAr_1, mLen_1, mTrue_t, Int.toNat_zero, Int.toNat_one, true_and, and_true, not_true_eq_false, not_false_eq_true, true_or, or_true, or_self, false_or, or_false, forall_const, false_implies, true_implies, implies_true, e3, e5, e6, ux, us', hI_same, hI_off]
        repeat' (first | refine And.intro ?_ ?_ | with_reducible intro _)
        all_goals first | omega | exact k
      · rw [if_neg c4]
        have F0 : hFg 23 [] [3, 6] h (mPI (mPI h 23 6 (zI 10000)) 23 3 (zI (p + 1))) := hFg_pf (hFg_pf (hFg_refl _ _ _ _) (by simp) _) (by simp) _
        obtain ⟨h', a, a6, f, k⟩ := ih (p + 1) 10000 (mPI (mPI h 23 6 (zI 10000)) 23 3 (zI (p + 1))) (by omega) (by omega) (by unfold vB at hv ⊢; omega) (XC_fr hX F0 (by simp)) (by rw [hI_off (by omega), hI_off (by omega)]; exact e2) (hI_same _ _ _ _) (by rw [hI_off (by omega), hI_off (by omega)]; exact e5) (by rw [hI_off (by omega), hI_same])
        refine ⟨h', a, a6, hFg_trans F0 f, vc_Rdr_scan_163 ?_⟩
        simp (disch := omega) only [zI_add, zI_sub, zI_mul, zI_neg, zI_lit, zI_0, zI_1, zI_lt, zI_le, zI_eq, zI_clamp, zI_inT, zI_ite, mOb_0, mOb_1, mOb_3, mOb_4, mLd_1, mAr_1, mLen_1, mTrue_t, Int.toNat_zero, Int.toNat_one, true_and, and_true, not_true_eq_false, not_false_eq_true, true_or, or_true, or_self, false_or, or_false, forall_const, false_implies, true_implies, implies_true, e2, e3, ux]
        refine ⟨fun z => by omega, fun _ => ⟨_, _, L, ?_⟩⟩
        simp (disch := omega) only [zI_add, zI_sub, zI_mul, zI_neg, zI_lit, zI_0, zI_1, zI_lt, zI_le, zI_eq, zI_clamp, zI_inT, zI_ite, mOb_0, mOb_1, mOb_3, mOb_4, mLd_1, mAr_1, mLen_1, mTrue_t, Int.toNat_zero, Int.toNat_one, true_and, and_true, not_true_eq_false, not_false_eq_true, true_or, or_true, or_self, false_or, or_false, forall_const, false_implies, true_implies, implies_true, e3, e5, e6, hI_same, hI_off]
        repeat' (first | refine And.intro ?_ ?_ | with_reducible intro _)
        all_goals first | omega | exact k
    · rw [if_neg c, if_neg c]
      rw [if_neg (by omega)] at L
      refine ⟨h, e3, e6, hFg_refl _ _ _ _, vc_Rdr_scan_163 ?_⟩
      simp (disch := omega) only [zI_add, zI_sub, zI_mul, zI_neg, zI_lit, zI_0, zI_1, zI_lt, zI_le, zI_eq, zI_clamp, zI_inT, zI_ite, mOb_0, mOb_1, mOb_3, mOb_4, mLd_1, mAr_1, mLen_1, mTrue_t, Int.toNat_zero, Int.toNat_one, true_and, and_true, not_true_eq_false, not_false_eq_true, true_or, or_true, or_self, false_or, or_false, forall_const, false_implies, true_implies, implies_true, e2, e3, ux]
      refine fun _ => ⟨_, _, L, ?_⟩
      simp (disch := omega) only [zI_add, zI_sub, zI_mul, zI_neg, zI_lit, zI_0, zI_1, zI_lt, zI_le, zI_eq, zI_clamp, zI_inT, zI_ite, mOb_0, mOb_1, mOb_3, mOb_4, mLd_1, mAr_1, mLen_1, mTrue_t, Int.toNat_zero, Int.toNat_one, true_and, and_true, not_true_eq_false, not_false_eq_true, true_or, or_true, or_self, false_or, or_false, forall_const, false_implies, true_implies, implies_true, e3]
      repeat' (first | refine And.intro ?_ ?_ | with_reducible intro _)
      all_goals first | omega | rfl
theorem s_Rdr_scan {d : Nat} {n p : Int} {u : Int → Int} {h : mHp} (n1 : n ≤ 700) (hu : uR u) (p0 : 0 ≤ p) (p1 : p ≤ n) (hX : XC h n u) (e2 : h.1 23 2 = zI n) (e3 : h.1 23 3 = zI p) :
    ∃ h', mRuns (d + 2) 135 0 [some (.ref 23)] [] h (.inl (none, h')) ∧ h'.1 23 4 = zI (lex u n p).1 ∧ h'.1 23 5 = zI (lex u n p).2.1 ∧ h'.1 23 3 = zI (lex u n p).2.2.1 ∧ ((lex u n p).1 = 2 → h'.1 23 6 = zI (lex u n p).2.2.2) ∧ hFg 23 [] [3, 4, 5, 6] h h' := by
  obtain ⟨h1, a1, f1, k1⟩ := s_Rdr_skip (d := d + 1) n1 hu (n - p).toNat p h (by omega) p0 hX e2 e3
  have hs := lSkip_rng u n (n - p).toNat p (by omega)
  have x1 : XC h1 n u := XC_fr hX f1 (by simp)
  have b2 : h1.1 23 2 = zI n := by rw [f1.2.1 2 (by simp)]; exact e2
  have F1 : hFg 23 [] [3, 4, 5, 6] h h1 := hFg_mono f1 (by simp) (by simp)
  unfold lex
  generalize lSkip u n (n - p).toNat p = s at hs a1 ⊢
  have F2 : hFg 23 [] [3, 4, 5, 6] h1 (mPI h1 23 5 (zI s)) := hFg_pf (hFg_refl _ _ _ _) (by simp) _
  by_cases c0 : n ≤ s
  · rw [if_pos c0]
    refine ⟨mPI (mPI h1 23 5 (zI s)) 23 4 (zI 0), k1 _ (vc_Rdr_scan_52 ?_), ?_, ?_, ?_, fun z => absurd z (by show ¬ (0:Int) = 2; omega), hFg_trans F1 (hFg_pf F2 (by simp) _)⟩
    · simp (disch := omega) only [zI_add, zI_sub, zI_mul, zI_neg, zI_lit, zI_0, zI_1, zI_lt, zI_le, zI_eq, zI_clamp, zI_inT, zI_ite, mOb_0, mOb_1, mOb_3, mOb_4, mLd_1, mAr_1, mLen_1, mTrue_t, Int.toNat_zero, Int.toNat_one, true_and, and_true, not_true_eq_false, not_false_eq_true, true_or, or_true, or_self, false_or, or_false, forall_const, false_implies, true_implies, implies_true, a1, b2, hI_same, hI_off, hI_ne]
      repeat' (first | refine And.intro ?_ ?_ | with_reducible intro _)
      all_goals first | omega | rfl
    · exact hI_same _ _ _ _
    · rw [hI_off (by omega), hI_same]
    · rw [hI_off (by omega), hI_off (by omega)]; exact a1
  · rw [if_neg c0]
    have ux := x1 s (by omega) (by omega)
    have us := sB_cs (hu s)
    have us0 := hu s
    have L := s_Rdr_isLetter (d := d) (h := mPI h1 23 5 (zI s)) (c := sB (u s)) (by omega) (by omega)
    have D := s_Rdr_isDigit (d := d) (h := mPI h1 23 5 (zI s)) (c := sB (u s)) (by omega) (by omega)
    by_cases c1 : 97 ≤ u s ∧ u s ≤ 122
    · rw [if_pos c1]
      rw [if_pos (by omega)] at L
      have F3 : hFg 23 [] [3, 4, 5, 6] h1 (mPI (mPI h1 23 5 (zI s)) 23 4 (zI 1)) := hFg_pf F2 (by simp) _
      obtain ⟨h', a, f, k⟩ := s_Rdr_wrd (d := d) n1 hu (n - s).toNat s (mPI (mPI h1 23 5 (zI s)) 23 4 (zI 1)) (by omega) (by omega) (XC_fr x1 F3 (by simp)) (by rw [hI_off (by omega), hI_off (by omega)]; exact b2) (by rw [hI_off (by omega), hI_off (by omega)]; exact a1)
      refine ⟨h', k1 _ (vc_Rdr_scan_52 ?_), ?_, ?_, a, fun z => absurd z (by show ¬ (1:Int) = 2; omega), hFg_trans F1 (hFg_trans F3 (hFg_mono f (by simp) (by simp)))⟩
      · simp (disch := omega) only [zI_add, zI_sub, zI_mul, zI_neg, zI_lit, zI_0, zI_1, zI_lt, zI_le, zI_eq, zI_clamp, zI_inT, zI_ite, mOb_0, mOb_1, mOb_3, mOb_4, mLd_1, mAr_1, mLen_1, mTrue_t, Int.toNat_zero, Int.toNat_one, true_and, and_true, not_true_eq_false, not_false_eq_true, true_or, or_true, or_self, false_or, or_false, forall_const, false_implies, true_implies, implies_true, a1, b2, ux, hI_same, hI_off, hI_ne]
        refine ⟨fun _ => ⟨_, _, L, ?_⟩, fun z => by omega⟩
        simp (disch := omega) only [zI_add, zI_sub, zI_mul, zI_neg, zI_lit, zI_0, zI_1, zI_lt, zI_le, zI_eq, zI_clamp, zI_inT, zI_ite, mOb_0, mOb_1, mOb_3, mOb_4, mLd_1, mAr_1, mLen_1, mTrue_t, Int.toNat_zero, Int.toNat_one, true_and, and_true, not_true_eq_false, not_false_eq_true, true_or, or_true, or_self, false_or, or_false, forall_const, false_implies, true_implies, implies_true]
        repeat' (first | refine And.intro ?_ ?_ | with_reducible intro _)
        all_goals first | omega | exact k
      · rw [f.2.1 4 (by simp), hI_same]
      · rw [f.2.1 5 (by simp), hI_off (by omega), hI_same]
    · rw [if_neg c1]
      rw [if_neg (by omega)] at L
      by_cases c2 : 48 ≤ u s ∧ u s ≤ 57
      · rw [if_pos c2]
        rw [if_pos (by omega)] at D
        have F3 : hFg 23 [] [3, 4, 5, 6] h1 (mPI (mPI (mPI h1 23 5 (zI s)) 23 4 (zI 2)) 23 6 (zI 0)) := hFg_pf (hFg_pf F2 (by simp) _) (by simp) _
        obtain ⟨h', a, a6, f, k⟩ := s_Rdr_dig (d := d) n1 hu (show 0 ≤ s by omega) (n - s).toNat s 0 (mPI (mPI (mPI h1 23 5 (zI s)) 23 4 (zI 2)) 23 6 (zI 0)) (by omega) (by omega) (by unfold vB; omega) (XC_fr x1 F3 (by simp)) (by rw [hI_off (by omega), hI_off (by omega), hI_off (by omega)]; exact b2) (by rw [hI_off (by omega), hI_off (by omega), hI_off (by omega)]; exact a1) (by rw [hI_off (by omega), hI_off (by omega), hI_same]) (hI_same _ _ _ _)
        refine ⟨h', k1 _ (vc_Rdr_scan_52 ?_), ?_, ?_, a, fun _ => a6, hFg_trans F1 (hFg_trans F3 (hFg_mono f (by simp) (by simp)))⟩
        · simp (disch := omega) only [zI_add, zI_sub, zI_mul, zI_neg, zI_lit, zI_0, zI_1, zI_lt, zI_le, zI_eq, zI_clamp, zI_inT, zI_ite, mOb_0, mOb_1, mOb_3, mOb_4, mLd_1, mAr_1, mLen_1, mTrue_t, Int.toNat_zero, Int.toNat_one, true_and, and_true, not_true_eq_false, not_false_eq_true, true_or, or_true, or_self, false_or, or_false, forall_const, false_implies, true_implies, implies_true, a1, b2, ux, hI_same, hI_off, hI_ne]
          refine ⟨fun _ => ⟨_, _, L, ?_⟩, fun z => by omega⟩
          simp (disch := omega) only [zI_add, zI_sub, zI_mul, zI_neg, zI_lit, zI_0, zI_1, zI_lt, zI_le, zI_eq, zI_clamp, zI_inT, zI_ite, mOb_0, mOb_1, mOb_3, mOb_4, mLd_1, mAr_1, mLen_1, mTrue_t, Int.toNat_zero, Int.toNat_one, true_and, and_true, not_true_eq_false, not_false_eq_true, true_or, or_true, or_self, false_or, or_false, forall_const, false_implies, true_implies, implies_true, a1, ux, hI_same, hI_off, hI_ne]
          refine ⟨_, _, D, ?_⟩
          simp (disch := omega) only [zI_add, zI_sub, zI_mul, zI_neg, zI_lit, zI_0, zI_1, zI_lt, zI_le, zI_eq, zI_clamp, zI_inT, zI_ite, mOb_0, mOb_1, mOb_3, mOb_4, mLd_1, mAr_1, mLen_1, mTrue_t, Int.toNat_zero, Int.toNat_one, true_and, and_true, not_true_eq_false, not_false_eq_true, true_or, or_true, or_self, false_or, or_false, forall_const, false_implies, true_implies, implies_true]
          repeat' (first | refine And.intro ?_ ?_ | with_reducible intro _)
          all_goals first | omega | exact k
        · rw [f.2.1 4 (by simp), hI_off (by omega), hI_same]
        · rw [f.2.1 5 (by simp), hI_off (by omega), hI_off (by omega), hI_same]
      · rw [if_neg c2]
        rw [if_neg (by omega)] at D
        by_cases c3 : u s = 59
        · rw [if_pos c3]
          refine ⟨mPI (mPI (mPI h1 23 5 (zI s)) 23 4 (zI 3)) 23 3 (zI (s + 1)), k1 _ (vc_Rdr_scan_52 ?_), ?_, ?_, hI_same _ _ _ _, fun z => absurd z (by show ¬ (3:Int) = 2; omega), hFg_trans F1 (hFg_pf (hFg_pf F2 (by simp) _) (by simp) _)⟩
          · simp (disch := omega) only [zI_add, zI_sub, zI_mul, zI_neg, zI_lit, zI_0, zI_1, zI_lt, zI_le, zI_eq, zI_clamp, zI_inT, zI_ite, mOb_0, mOb_1, mOb_3, mOb_4, mLd_1, mAr_1, mLen_1, mTrue_t, Int.toNat_zero, Int.toNat_one, true_and, and_true, not_true_eq_false, not_false_eq_true, true_or, or_true, or_self, false_or, or_false, forall_const, false_implies, true_implies, implies_true, a1, b2, ux, hI_same, hI_off, hI_ne]
            refine ⟨fun _ => ⟨_, _, L, ?_⟩, fun z => by omega⟩
            simp (disch := omega) only [zI_add, zI_sub, zI_mul, zI_neg, zI_lit, zI_0, zI_1, zI_lt, zI_le, zI_eq, zI_clamp, zI_inT, zI_ite, mOb_0, mOb_1, mOb_3, mOb_4, mLd_1, mAr_1, mLen_1, mTrue_t, Int.toNat_zero, Int.toNat_one, true_and, and_true, not_true_eq_false, not_false_eq_true, true_or, or_true, or_self, false_or, or_false, forall_const, false_implies, true_implies, implies_true, a1, ux, hI_same, hI_off, hI_ne]
            refine ⟨_, _, D, ?_⟩
            simp (disch := omega) only [zI_add, zI_sub, zI_mul, zI_neg, zI_lit, zI_0, zI_1, zI_lt, zI_le, zI_eq, zI_clamp, zI_inT, zI_ite, mOb_0, mOb_1, mOb_3, mOb_4, mLd_1, mAr_1, mLen_1, mTrue_t, Int.toNat_zero, Int.toNat_one, true_and, and_true, not_true_eq_false, not_false_eq_true, true_or, or_true, or_self, false_or, or_false, forall_const, false_implies, true_implies, implies_true, a1, ux, hI_same, hI_off, hI_ne]
            repeat' (first | refine And.intro ?_ ?_ | with_reducible intro _)
            all_goals first | omega | rfl
          · rw [hI_off (by omega), hI_same]
          · rw [hI_off (by omega), hI_off (by omega), hI_same]
        · rw [if_neg c3]
          refine ⟨mPI (mPI (mPI h1 23 5 (zI s)) 23 4 (zI 4)) 23 3 (zI (s + 1)), k1 _ (vc_Rdr_scan_52 ?_), ?_, ?_, hI_same _ _ _ _, fun z => absurd z (by show ¬ (4:Int) = 2; omega), hFg_trans F1 (hFg_pf (hFg_pf F2 (by simp) _) (by simp) _)⟩
          · simp (disch := omega) only [zI_add, zI_sub, zI_mul, zI_neg, zI_lit, zI_0, zI_1, zI_lt, zI_le, zI_eq, zI_clamp, zI_inT, zI_ite, mOb_0, mOb_1, mOb_3, mOb_4, mLd_1, mAr_1, mLen_1, mTrue_t, Int.toNat_zero, Int.toNat_one, true_and, and_true, not_true_eq_false, not_false_eq_true, true_or, or_true, or_self, false_or, or_false, forall_const, false_implies, true_implies, implies_true, a1, b2, ux, hI_same, hI_off, hI_ne]
            refine ⟨fun _ => ⟨_, _, L, ?_⟩, fun z => by omega⟩
            simp (disch := omega) only [zI_add, zI_sub, zI_mul, zI_neg, zI_lit, zI_0, zI_1, zI_lt, zI_le, zI_eq, zI_clamp, zI_inT, zI_ite, mOb_0, mOb_1, mOb_3, mOb_4, mLd_1, mAr_1, mLen_1, mTrue_t, Int.toNat_zero, Int.toNat_one, true_and, and_true, not_true_eq_false, not_false_eq_true, true_or, or_true, or_self, false_or, or_false, forall_const, false_implies, true_implies, implies_true, a1, ux, hI_same, hI_off, hI_ne]
            refine ⟨_, _, D, ?_⟩
            simp (disch := omega) only [zI_add, zI_sub, zI_mul, zI_neg, zI_lit, zI_0, zI_1, zI_lt, zI_le, zI_eq, zI_clamp, zI_inT, zI_ite, mOb_0, mOb_1, mOb_3, mOb_4, mLd_1, mAr_1, mLen_1, mTrue_t, Int.toNat_zero, Int.toNat_one, true_and, and_true, not_true_eq_false, not_false_eq_true, true_or, or_true, or_self, false_or, or_false, forall_const, false_implies, true_implies, implies_true, a1, ux, hI_same, hI_off, hI_ne]
            repeat' (first | refine And.intro ?_ ?_ | with_reducible intro _)
            all_goals first | omega | rfl
          · rw [hI_off (by omega), hI_same]
          · rw [hI_off (by omega), hI_off (by omega), hI_same]

/-! L3, the model's reader: small methods -/
abbrev fsM : List Nat := [11, 12, 15, 16, 17, 18, 19]
def RM (h : mHp) (u : Int → Int) (n : Int) (R : tR) : Prop :=
  h.1 114 14 = zI n ∧ XM h n u ∧ KT h u (rSo R) (rSt R) (rAt R) (rVa R) ∧ h.1 114 11 = zI (rF R) ∧ h.1 114 12 = zI (rPl R)
theorem KT_fr {h h' : mHp} {u : Int → Int} {so st at' va : Int} (hK : KT h u so st at' va) (f : ∀ k, 15 ≤ k → k ≤ 19 → h'.1 114 k = h.1 114 k) (g : h'.2.1 114 = h.2.1 114) : KT h' u so st at' va := by
  unfold KT
  rw [f 15 (by omega) (by omega), f 16 (by omega) (by omega), f 17 (by omega) (by omega), f 18 (by omega) (by omega), f 19 (by omega) (by omega), g]
  exact hK
theorem RM_fr {h h' : mHp} {u : Int → Int} {n : Int} {R : tR} (hR : RM h u n R) (f : ∀ k, 11 ≤ k → k ≤ 19 → h'.1 114 k = h.1 114 k) (g : h'.2.1 114 = h.2.1 114) (e : h'.1 119 = h.1 119) : RM h' u n R := by
  obtain ⟨a1, a2, a3, a4, a5⟩ := hR
  exact ⟨by rw [f 14 (by omega) (by omega)]; exact a1, fun i i0 i1 => by rw [e]; exact a2 i i0 i1, KT_fr a3 (fun k k0 k1 => f k (by omega) (by omega)) g, by rw [f 11 (by omega) (by omega)]; exact a4, by rw [f 12 (by omega) (by omega)]; exact a5⟩
theorem s_M_sc {d : Nat} {u : Int → Int} {n : Int} {R : tR} {h : mHp} (n1 : n ≤ 700) (hu : uR u) (hO : ROk u n R) (hR : RM h u n R) :
    ∃ h', mRuns (d + 2) 9 0 [some (.ref 114), none] [] h (.inl (none, h')) ∧ RM h' u n (aSc u n R) ∧ kF [] fsM h h' := by
  obtain ⟨a1, a2, a3, a4, a5⟩ := hR
  have t3 := hO.1.2.2.1
  have t4 := hO.1.2.2.2.1
  have t5 := hO.1.2.2.2.2.1
  obtain ⟨h', r, K, f⟩ := s_M_steps (d := d) n1 hu (show 0 ≤ rAt R by omega) t5 a2 a1 a3.2.2.1
  exact ⟨h', r, ⟨by rw [f.2.1 14 (by simp)]; exact a1, XM_fr a2 f (by simp), K, by rw [f.2.1 11 (by simp)]; exact a4, by rw [f.2.1 12 (by simp)]; exact a5⟩, kF_mono f (by simp) (by simp)⟩
theorem s_M_good {d : Nat} {h : mHp} {f : Int} (e : h.1 114 11 = zI f) (f0 : 0 ≤ f) (f1 : f ≤ 5) : mRuns (d + 1) 13 0 [some (.ref 114)] [] h (.inl (some (.int (zI (if f = 0 then 1 else 0))), h)) := by
  refine vc_M_isGood ?_
  simp (disch := omega) only [zI_add, zI_sub, zI_mul, zI_neg, zI_lit, zI_0, zI_1, zI_lt, zI_le, zI_eq, zI_clamp, zI_inT, zI_ite, mOb_0, mOb_1, mOb_3, mOb_4, mLd_1, mAr_1, mLen_1, mTrue_t, Int.toNat_zero, Int.toNat_one, true_and, and_true, not_true_eq_false, not_false_eq_true, true_or, or_true, or_self, false_or, or_false, forall_const, false_implies, true_implies, implies_true, e]
  repeat' (first | refine And.intro ?_ ?_ | with_reducible intro _)
  all_goals first | omega | exact oI (by split <;> omega)
theorem s_M_good1 {d : Nat} {u : Int → Int} {n : Int} {R : tR} {h : mHp} (hR : RM h u n R) (c : rF R = 0) : mRuns (d + 1) 13 0 [some (.ref 114)] [] h (.inl (some (.int (zI 1)), h)) := by
  have := s_M_good (d := d) (h := h) (f := 0) (by rw [hR.2.2.2.1, c]) (by omega) (by omega)
  rw [if_pos rfl] at this
  exact this
theorem s_M_good0 {d : Nat} {u : Int → Int} {n : Int} {R : tR} {h : mHp} (hO : ROk u n R) (hR : RM h u n R) (c : rF R ≠ 0) : mRuns (d + 1) 13 0 [some (.ref 114)] [] h (.inl (some (.int (zI 0)), h)) := by
  have := s_M_good (d := d) (h := h) hR.2.2.2.1 hO.2.1 hO.2.2.1
  rw [if_neg c] at this
  exact this
theorem s_M_fl {d : Nat} {u : Int → Int} {n k : Int} {R : tR} {h : mHp} (hO : ROk u n R) (hR : RM h u n R) :
    ∃ h', mRuns (d + 1) 19 0 [some (.ref 114), some (.int (zI k))] [] h (.inl (none, h')) ∧ RM h' u n (aFl k R) ∧ kF [] fsM h h' ∧ (∀ j, j ≠ 11 → j ≠ 12 → h'.1 114 j = h.1 114 j) := by
  have a5 := hR.2.2.1.2.1
  have a7 := hR.2.2.2.1
  have o := hO.2
  by_cases c : rF R = 0
  · have F : kF [] fsM h (mPI (mPI h 114 11 (zI k)) 114 12 (zI (rSt R))) := kF_pf (kF_pf (kF_refl _ _ _) (by simp) _) (by simp) _
    refine ⟨mPI (mPI h 114 11 (zI k)) 114 12 (zI (rSt R)), vc_M_wrong ?_, ?_, F, fun j j0 j1 => by rw [hI_off j1, hI_off j0]⟩
    · simp (disch := omega) only [zI_add, zI_sub, zI_mul, zI_neg, zI_lit, zI_0, zI_1, zI_lt, zI_le, zI_eq, zI_clamp, zI_inT, zI_ite, mOb_0, mOb_1, mOb_3, mOb_4, mLd_1, mAr_1, mLen_1, mTrue_t, Int.toNat_zero, Int.toNat_one, true_and, and_true, not_true_eq_false, not_false_eq_true, true_or, or_true, or_self, false_or, or_false, forall_const, false_implies, true_implies, implies_true, a7, a5, hI_off]
      repeat' (first | refine And.intro ?_ ?_ | with_reducible intro _)
      all_goals first | omega | rfl
    · unfold aFl
      rw [if_pos c]
      obtain ⟨b1, b2, b3, b4, b5⟩ := hR
      refine ⟨by rw [hI_off (by omega), hI_off (by omega)]; exact b1, XM_fr b2 F (by simp), KT_fr b3 (fun j j0 j1 => by rw [hI_off (by omega), hI_off (by omega)]) rfl, ?_, ?_⟩
      · rw [hI_off (by omega), hI_same]; rfl
      · rw [hI_same]; rfl
  · refine ⟨h, vc_M_wrong ?_, by unfold aFl; rw [if_neg c]; exact hR, kF_refl _ _ _, fun _ _ _ => rfl⟩
    simp (disch := omega) only [zI_add, zI_sub, zI_mul, zI_neg, zI_lit, zI_0, zI_1, zI_lt, zI_le, zI_eq, zI_clamp, zI_inT, zI_ite, mOb_0, mOb_1, mOb_3, mOb_4, mLd_1, mAr_1, mLen_1, mTrue_t, Int.toNat_zero, Int.toNat_one, true_and, and_true, not_true_eq_false, not_false_eq_true, true_or, or_true, or_self, false_or, or_false, forall_const, false_implies, true_implies, implies_true, a7]
    repeat' (first | refine And.intro ?_ ?_ | with_reducible intro _)
    all_goals first | omega | rfl
theorem s_M_w {d : Nat} {u : Int → Int} {n : Int} {R : tR} {h : mHp} {k : Nat} (hk : k < 14) (n1 : n ≤ 700) (hO : ROk u n R) (hR : RM h u n R) :
    mRuns (d + 3) 15 0 [some (.ref 114), some (.int (nI k))] [] h (.inl (some (.int (zI (aW u k R))), h)) :=
  s_M_is hk hO.1 n1 hR.2.2.1
theorem s_M_nu {d : Nat} {u : Int → Int} {n lo hi : Int} {R : tR} {h : mHp} {a1 a2 : Int32} (n1 : n ≤ 700) (hu : uR u) (hO : ROk u n R) (hR : RM h u n R) (hA : rF R = 0 → a1 = zI lo ∧ a2 = zI hi ∧ 0 ≤ lo ∧ lo ≤ 20000 ∧ 0 ≤ hi ∧ hi ≤ 9999) :
    ∃ (x : Int32) (h' : mHp), mRuns (d + 3) 20 0 [some (.ref 114), some (.int a1), some (.int a2), none] [] h (.inl (some (.int x), h')) ∧ (rF (aNu u n lo hi R).1 = 0 → x = zI (aNu u n lo hi R).2) ∧ RM h' u n (aNu u n lo hi R).1 ∧ kF [] fsM h h' := by
  have o := hO.2
  have k1 := hR.2.2.1.1
  have k4 := hR.2.2.1.2.2.2.1
  obtain ⟨w, w0, w1, w2, w3⟩ := hR.2.2.1.2.2.2.2.1
  have so1 := hO.1.1
  have so2 := hO.1.2.1
  have st0 := hO.1.2.2.1
  have st1 := hO.1.2.2.2.1
  have st2 := hO.1.2.2.2.2.1
  have vb := hO.1.2.2.2.2.2.2.2.2.2.1
  by_cases c0 : rF R = 0
  · obtain ⟨rfl, rfl, l0, l1, i0, i1⟩ := hA c0
    have G := s_M_good1 (d := d + 1) hR c0
    by_cases c1 : rSo R = 2
    · have vb := vb c1
      have w3 := w3 c1
      by_cases c2 : rVa R < lo ∨ hi < rVa R
      · have e : aNu u n lo hi R = (aFl 2 R, lo) := by unfold aNu; rw [if_neg (by omega), if_neg (by omega), if_pos c2]
        rw [e]
        obtain ⟨h', r, C, f, -⟩ := s_M_fl (d := d + 1) (k := 2) hO hR
        have G0 := s_M_good0 (d := d + 1) (ROk_fl n1 hO (by omega) (by omega)).1 C (fl_f (by omega) R)
        have q : mRuns (d + 3) 20 54 [some (.ref 114), none, none, none] [] h' (.inl (some (.int (h'.1 114 19)), h')) := by
          refine vc_M_number_54 ⟨_, _, G0, ?_⟩
          simp (disch := omega) only [zI_add, zI_sub, zI_mul, zI_neg, zI_lit, zI_0, zI_1, zI_lt, zI_le, zI_eq, zI_clamp, zI_inT, zI_ite, mOb_0, mOb_1, mOb_3, mOb_4, mLd_1, mAr_1, mLen_1, mTrue_t, Int.toNat_zero, Int.toNat_one, true_and, and_true, not_true_eq_false, not_false_eq_true, true_or, or_true, or_self, false_or, or_false, forall_const, false_implies, true_implies, implies_true]
        refine ⟨h'.1 114 19, h', vc_M_number ⟨_, _, G, ?_⟩, fun z => absurd z (fl_f (by omega) R), C, f⟩
        unfold vB at vb
        simp (disch := omega) only [zI_add, zI_sub, zI_mul, zI_neg, zI_lit, zI_0, zI_1, zI_lt, zI_le, zI_eq, zI_clamp, zI_inT, zI_ite, mOb_0, mOb_1, mOb_3, mOb_4, mLd_1, mAr_1, mLen_1, mTrue_t, Int.toNat_zero, Int.toNat_one, true_and, and_true, not_true_eq_false, not_false_eq_true, true_or, or_true, or_self, false_or, or_false, forall_const, false_implies, true_implies, implies_true, k1, k4, w0]
        repeat' (first | refine And.intro ?_ ?_ | with_reducible intro _)
        all_goals first | omega | exact ⟨h', r, q⟩
      · have e : aNu u n lo hi R = (aSc u n R, rVa R) := by unfold aNu; rw [if_neg (by omega), if_neg (by omega), if_neg c2]
        rw [e]
        obtain ⟨h', r, C, f⟩ := s_M_sc (d := d) n1 hu hO hR
        unfold vB at vb
        have w3 := w3 (by omega)
        subst w3
        have q : mRuns (d + 3) 20 54 [some (.ref 114), none, none, none] [] h (.inl (some (.int (zI (rVa R))), h')) := by
          refine vc_M_number_54 ⟨_, _, G, ?_⟩
          simp (disch := omega) only [zI_add, zI_sub, zI_mul, zI_neg, zI_lit, zI_0, zI_1, zI_lt, zI_le, zI_eq, zI_clamp, zI_inT, zI_ite, mOb_0, mOb_1, mOb_3, mOb_4, mLd_1, mAr_1, mLen_1, mTrue_t, Int.toNat_zero, Int.toNat_one, true_and, and_true, not_true_eq_false, not_false_eq_true, true_or, or_true, or_self, false_or, or_false, forall_const, false_implies, true_implies, implies_true, w0]
          repeat' (first | refine And.intro ?_ ?_ | with_reducible intro _)
          all_goals first | omega | exact ⟨h', r, rfl⟩
        refine ⟨zI (rVa R), h', vc_M_number ⟨_, _, G, ?_⟩, fun z => rfl, C, f⟩
        simp (disch := omega) only [zI_add, zI_sub, zI_mul, zI_neg, zI_lit, zI_0, zI_1, zI_lt, zI_le, zI_eq, zI_clamp, zI_inT, zI_ite, mOb_0, mOb_1, mOb_3, mOb_4, mLd_1, mAr_1, mLen_1, mTrue_t, Int.toNat_zero, Int.toNat_one, true_and, and_true, not_true_eq_false, not_false_eq_true, true_or, or_true, or_self, false_or, or_false, forall_const, false_implies, true_implies, implies_true, k1, k4, w0]
        repeat' (first | refine And.intro ?_ ?_ | with_reducible intro _)
        all_goals first | omega | exact q
    · have e : aNu u n lo hi R = (aFl 1 R, lo) := by unfold aNu; rw [if_neg (by omega), if_pos c1]
      rw [e]
      obtain ⟨h', r, C, f, -⟩ := s_M_fl (d := d + 1) (k := 1) hO hR
      have G0 := s_M_good0 (d := d + 1) (ROk_fl n1 hO (by omega) (by omega)).1 C (fl_f (by omega) R)
      have q : mRuns (d + 3) 20 54 [some (.ref 114), none, none, none] [] h' (.inl (some (.int (h'.1 114 19)), h')) := by
        refine vc_M_number_54 ⟨_, _, G0, ?_⟩
        simp (disch := omega) only [zI_add, zI_sub, zI_mul, zI_neg, zI_lit, zI_0, zI_1, zI_lt, zI_le, zI_eq, zI_clamp, zI_inT, zI_ite, mOb_0, mOb_1, mOb_3, mOb_4, mLd_1, mAr_1, mLen_1, mTrue_t, Int.toNat_zero, Int.toNat_one, true_and, and_true, not_true_eq_false, not_false_eq_true, true_or, or_true, or_self, false_or, or_false, forall_const, false_implies, true_implies, implies_true]
      refine ⟨h'.1 114 19, h', vc_M_number ⟨_, _, G, ?_⟩, fun z => absurd z (fl_f (by omega) R), C, f⟩
      simp (disch := omega) only [zI_add, zI_sub, zI_mul, zI_neg, zI_lit, zI_0, zI_1, zI_lt, zI_le, zI_eq, zI_clamp, zI_inT, zI_ite, mOb_0, mOb_1, mOb_3, mOb_4, mLd_1, mAr_1, mLen_1, mTrue_t, Int.toNat_zero, Int.toNat_one, true_and, and_true, not_true_eq_false, not_false_eq_true, true_or, or_true, or_self, false_or, or_false, forall_const, false_implies, true_implies, implies_true, k1]
      repeat' (first | refine And.intro ?_ ?_ | with_reducible intro _)
      all_goals first | omega | exact ⟨h', r, q⟩
  · have e : aNu u n lo hi R = (R, lo) := by unfold aNu; rw [if_pos c0]
    rw [e]
    have G0 := s_M_good0 (d := d + 1) hO hR c0
    refine ⟨zI 0, h, vc_M_number ⟨_, _, G0, ?_⟩, fun z => absurd z c0, hR, kF_refl _ _ _⟩
    simp (disch := omega) only [zI_add, zI_sub, zI_mul, zI_neg, zI_lit, zI_0, zI_1, zI_lt, zI_le, zI_eq, zI_clamp, zI_inT, zI_ite, mOb_0, mOb_1, mOb_3, mOb_4, mLd_1, mAr_1, mLen_1, mTrue_t, Int.toNat_zero, Int.toNat_one, true_and, and_true, not_true_eq_false, not_false_eq_true, true_or, or_true, or_self, false_or, or_false, forall_const, false_implies, true_implies, implies_true]
    repeat' (first | refine And.intro ?_ ?_ | with_reducible intro _)
    all_goals first | omega | rfl
theorem s_M_op {d : Nat} {u : Int → Int} {n hi wo : Int} {R : tR} {h : mHp} {k : Nat} (hk : k < 14) (n1 : n ≤ 700) (hu : uR u) (hO : ROk u n R) (hR : RM h u n R) (i0 : 0 ≤ hi) (i1 : hi ≤ 9999) :
    ∃ (x : Int32) (h' : mHp), mRuns (d + 4) 21 0 [some (.ref 114), some (.int (nI k)), some (.int (zI hi)), some (.int (zI wo))] [] h (.inl (some (.int x), h')) ∧ (rF (aOp u n k hi wo R).1 = 0 → x = zI (aOp u n k hi wo R).2) ∧ RM h' u n (aOp u n k hi wo R).1 ∧ kF [] fsM h h' := by
  have o := hO.2
  have w := s_M_w (d := d) hk n1 hO hR
  have w01 : aW u k R = 0 ∨ aW u k R = 1 := aIs_01 _ _ _ _ _
  unfold aOp
  by_cases c0 : rF R = 0
  · have G := s_M_good1 (d := d + 2) hR c0
    by_cases c1 : aW u k R = 0
    · rw [if_pos (Or.inr c1)]
      refine ⟨zI wo, h, vc_M_perhaps ⟨_, _, G, ?_⟩, fun _ => rfl, hR, kF_refl _ _ _⟩
      simp (disch := omega) only [zI_add, zI_sub, zI_mul, zI_neg, zI_lit, zI_0, zI_1, zI_lt, zI_le, zI_eq, zI_clamp, zI_inT, zI_ite, mOb_0, mOb_1, mOb_3, mOb_4, mLd_1, mAr_1, mLen_1, mTrue_t, Int.toNat_zero, Int.toNat_one, true_and, and_true, not_true_eq_false, not_false_eq_true, true_or, or_true, or_self, false_or, or_false, forall_const, false_implies, true_implies, implies_true]
      refine fun _ => ⟨_, _, w, ?_⟩
      simp (disch := omega) only [zI_add, zI_sub, zI_mul, zI_neg, zI_lit, zI_0, zI_1, zI_lt, zI_le, zI_eq, zI_clamp, zI_inT, zI_ite, mOb_0, mOb_1, mOb_3, mOb_4, mLd_1, mAr_1, mLen_1, mTrue_t, Int.toNat_zero, Int.toNat_one, true_and, and_true, not_true_eq_false, not_false_eq_true, true_or, or_true, or_self, false_or, or_false, forall_const, false_implies, true_implies, implies_true]
      repeat' (first | refine And.intro ?_ ?_ | with_reducible intro _)
      all_goals first | omega | rfl
    · rw [if_neg (by omega)]
      obtain ⟨h1, r1, C1, f1⟩ := s_M_sc (d := d + 1) n1 hu hO hR
      obtain ⟨x, h2, r2, v2, C2, f2⟩ := s_M_nu (d := d) (lo := 0) (hi := hi) (a1 := zI 0) (a2 := zI hi) n1 hu (ROk_sc hO).1 C1 (fun _ => ⟨rfl, rfl, by omega, by omega, i0, i1⟩)
      refine ⟨x, h2, vc_M_perhaps ⟨_, _, G, ?_⟩, v2, C2, kF_trans f1 f2⟩
      simp (disch := omega) only [zI_add, zI_sub, zI_mul, zI_neg, zI_lit, zI_0, zI_1, zI_lt, zI_le, zI_eq, zI_clamp, zI_inT, zI_ite, mOb_0, mOb_1, mOb_3, mOb_4, mLd_1, mAr_1, mLen_1, mTrue_t, Int.toNat_zero, Int.toNat_one, true_and, and_true, not_true_eq_false, not_false_eq_true, true_or, or_true, or_self, false_or, or_false, forall_const, false_implies, true_implies, implies_true]
      refine ⟨fun z => by omega, fun _ => ⟨_, _, w, ?_⟩⟩
      simp (disch := omega) only [zI_add, zI_sub, zI_mul, zI_neg, zI_lit, zI_0, zI_1, zI_lt, zI_le, zI_eq, zI_clamp, zI_inT, zI_ite, mOb_0, mOb_1, mOb_3, mOb_4, mLd_1, mAr_1, mLen_1, mTrue_t, Int.toNat_zero, Int.toNat_one, true_and, and_true, not_true_eq_false, not_false_eq_true, true_or, or_true, or_self, false_or, or_false, forall_const, false_implies, true_implies, implies_true]
      repeat' (first | refine And.intro ?_ ?_ | with_reducible intro _)
      all_goals first | omega | exact ⟨h1, r1, _, h2, r2, rfl⟩
  · rw [if_pos (Or.inl c0)]
    have G0 := s_M_good0 (d := d + 2) hO hR c0
    refine ⟨zI wo, h, vc_M_perhaps ⟨_, _, G0, ?_⟩, fun _ => rfl, hR, kF_refl _ _ _⟩
    simp (disch := omega) only [zI_add, zI_sub, zI_mul, zI_neg, zI_lit, zI_0, zI_1, zI_lt, zI_le, zI_eq, zI_clamp, zI_inT, zI_ite, mOb_0, mOb_1, mOb_3, mOb_4, mLd_1, mAr_1, mLen_1, mTrue_t, Int.toNat_zero, Int.toNat_one, true_and, and_true, not_true_eq_false, not_false_eq_true, true_or, or_true, or_self, false_or, or_false, forall_const, false_implies, true_implies, implies_true]
    repeat' (first | refine And.intro ?_ ?_ | with_reducible intro _)
    all_goals first | omega | rfl
theorem s_M_en {d : Nat} {u : Int → Int} {n : Int} {R : tR} {h : mHp} (n1 : n ≤ 700) (hu : uR u) (hO : ROk u n R) (hR : RM h u n R) :
    ∃ h', mRuns (d + 4) 14 117 [some (.ref 114)] [] h (.inl (none, h')) ∧ RM h' u n (aEn u n R) ∧ kF [] fsM h h' := by
  have o := hO.2
  have k1 := hR.2.2.1.1
  have so1 := hO.1.1
  have so2 := hO.1.2.1
  unfold aEn
  by_cases c0 : rF R = 0
  · rw [if_neg (by omega)]
    have G := s_M_good1 (d := d + 1) hR c0
    by_cases c1 : rSo R = 3
    · rw [if_pos c1]
      obtain ⟨h', r, C, f⟩ := s_M_sc (d := d) n1 hu hO hR
      have q : mRuns (d + 3) 26 0 [some (.ref 114), some (.int (zI 1))] [] h (.inl (none, h')) := by
        refine vc_M_need ⟨_, _, G, ?_⟩
        simp (disch := omega) only [zI_add, zI_sub, zI_mul, zI_neg, zI_lit, zI_0, zI_1, zI_lt, zI_le, zI_eq, zI_clamp, zI_inT, zI_ite, mOb_0, mOb_1, mOb_3, mOb_4, mLd_1, mAr_1, mLen_1, mTrue_t, Int.toNat_zero, Int.toNat_one, true_and, and_true, not_true_eq_false, not_false_eq_true, true_or, or_true, or_self, false_or, or_false, forall_const, false_implies, true_implies, implies_true]
        repeat' (first | refine And.intro ?_ ?_ | with_reducible intro _)
        all_goals first | omega | exact ⟨h', r, rfl⟩
      refine ⟨h', vc_M_line_117 ?_, C, f⟩
      simp (disch := omega) only [zI_add, zI_sub, zI_mul, zI_neg, zI_lit, zI_0, zI_1, zI_lt, zI_le, zI_eq, zI_clamp, zI_inT, zI_ite, mOb_0, mOb_1, mOb_3, mOb_4, mLd_1, mAr_1, mLen_1, mTrue_t, Int.toNat_zero, Int.toNat_one, true_and, and_true, not_true_eq_false, not_false_eq_true, true_or, or_true, or_self, false_or, or_false, forall_const, false_implies, true_implies, implies_true, k1]
      repeat' (first | refine And.intro ?_ ?_ | with_reducible intro _)
      all_goals first | omega | exact ⟨h', q, rfl⟩
    · rw [if_neg c1]
      obtain ⟨h', r, C, f, -⟩ := s_M_fl (d := d + 1) (k := 1) hO hR
      have q : mRuns (d + 3) 26 0 [some (.ref 114), some (.int (zI 0))] [] h (.inl (none, h')) := by
        refine vc_M_need ⟨_, _, G, ?_⟩
        simp (disch := omega) only [zI_add, zI_sub, zI_mul, zI_neg, zI_lit, zI_0, zI_1, zI_lt, zI_le, zI_eq, zI_clamp, zI_inT, zI_ite, mOb_0, mOb_1, mOb_3, mOb_4, mLd_1, mAr_1, mLen_1, mTrue_t, Int.toNat_zero, Int.toNat_one, true_and, and_true, not_true_eq_false, not_false_eq_true, true_or, or_true, or_self, false_or, or_false, forall_const, false_implies, true_implies, implies_true]
        repeat' (first | refine And.intro ?_ ?_ | with_reducible intro _)
        all_goals first | omega | exact ⟨h', r, rfl⟩
      refine ⟨h', vc_M_line_117 ?_, C, f⟩
      simp (disch := omega) only [zI_add, zI_sub, zI_mul, zI_neg, zI_lit, zI_0, zI_1, zI_lt, zI_le, zI_eq, zI_clamp, zI_inT, zI_ite, mOb_0, mOb_1, mOb_3, mOb_4, mLd_1, mAr_1, mLen_1, mTrue_t, Int.toNat_zero, Int.toNat_one, true_and, and_true, not_true_eq_false, not_false_eq_true, true_or, or_true, or_self, false_or, or_false, forall_const, false_implies, true_implies, implies_true, k1]
      repeat' (first | refine And.intro ?_ ?_ | with_reducible intro _)
      all_goals first | omega | exact ⟨h', q, rfl⟩
  · rw [if_pos c0]
    have G0 := s_M_good0 (d := d + 1) hO hR c0
    have q : ∀ v : Int32, mRuns (d + 3) 26 0 [some (.ref 114), some (.int v)] [] h (.inl (none, h)) := by
      intro v
      refine vc_M_need ⟨_, _, G0, ?_⟩
      simp (disch := omega) only [zI_add, zI_sub, zI_mul, zI_neg, zI_lit, zI_0, zI_1, zI_lt, zI_le, zI_eq, zI_clamp, zI_inT, zI_ite, mOb_0, mOb_1, mOb_3, mOb_4, mLd_1, mAr_1, mLen_1, mTrue_t, Int.toNat_zero, Int.toNat_one, true_and, and_true, not_true_eq_false, not_false_eq_true, true_or, or_true, or_self, false_or, or_false, forall_const, false_implies, true_implies, implies_true]
      repeat' (first | refine And.intro ?_ ?_ | with_reducible intro _)
      all_goals first | omega | rfl
    refine ⟨h, vc_M_line_117 ?_, hR, kF_refl _ _ _⟩
    exact ⟨fun _ => ⟨h, q _, rfl⟩, fun _ => ⟨h, q _, rfl⟩⟩
def aAm (told : Int) (R : tR) : tR :=
  if rF R ≠ 0 then R else if rSo R ≠ 2 then aFl 1 R else if rVa R = 10000 then aFl 2 R else if told ≤ rVa R then aFl 3 R else R
theorem Aft_am {u : Int → Int} {n told : Int} {R : tR} (n1 : n ≤ 700) (h : ROk u n R) : Aft u n R (aAm told R) := by
  unfold aAm
  repeat' split
  · exact ⟨h, Int.le_refl _⟩
  · exact Aft_fl n1 h (by omega) (by omega)
  · exact Aft_fl n1 h (by omega) (by omega)
  · exact Aft_fl n1 h (by omega) (by omega)
  · exact ⟨h, Int.le_refl _⟩
theorem am_f {told : Int} {R : tR} (h : rF (aAm told R) = 0) : rF R = 0 ∧ aAm told R = R ∧ rSo R = 2 ∧ rVa R ≠ 10000 ∧ rVa R < told := by
  unfold aAm at h ⊢
  split at h
  · exact absurd h (by assumption)
  · split at h
    · exact absurd h (fl_f (by omega) R)
    · split at h
      · exact absurd h (fl_f (by omega) R)
      · split at h
        · exact absurd h (fl_f (by omega) R)
        · rename_i a b c d
          rw [if_neg a, if_neg b, if_neg c, if_neg d]
          exact ⟨h, rfl, by omega, c, by omega⟩
theorem to_am {u : Int → Int} {n told : Int} {used : Int → Bool} {R : tR} : aTo u n told used R = if rF (aAm told R) ≠ 0 then (aAm told R, -1) else if used (rVa R) = true then (aFl 4 R, -1) else (aSc u n R, rVa R) := by
  by_cases c : rF (aAm told R) = 0
  · rw [if_neg (by omega)]
    obtain ⟨a1, a2, a3, a4, a5⟩ := am_f c
    unfold aTo
    rw [if_neg (by omega), if_neg (by omega), if_neg a4, if_neg (by omega)]
  · rw [if_pos c]
    unfold aAm at c ⊢
    unfold aTo
    by_cases a : rF R ≠ 0
    · simp only [if_pos a]
    · simp only [if_neg a] at c ⊢
      by_cases b : rSo R ≠ 2
      · simp only [if_pos b]
      · simp only [if_neg b] at c ⊢
        by_cases e : rVa R = 10000
        · simp only [if_pos e]
        · simp only [if_neg e] at c ⊢
          by_cases g : told ≤ rVa R
          · simp only [if_pos g]
          · simp only [if_neg g] at c
            exact absurd c a
theorem s_M_am {d : Nat} {u : Int → Int} {n told : Int} {R : tR} {h : mHp} (n1 : n ≤ 700) (hO : ROk u n R) (hR : RM h u n R) (t1 : told ≤ 5) (t2 : -1 ≤ told) :
    ∃ h', mRuns (d + 2) 25 0 [some (.ref 114), some (.int (zI told))] [] h (.inl (some (.int (zI (if rF (aAm told R) = 0 then 1 else 0))), h')) ∧ RM h' u n (aAm told R) ∧ kF [] fsM h h' ∧ (∀ j, j ≠ 11 → j ≠ 12 → h'.1 114 j = h.1 114 j) := by
  have o := hO.2
  have k1 := hR.2.2.1.1
  have k4 := hR.2.2.1.2.2.2.1
  obtain ⟨w, w0, w1, w2, w3⟩ := hR.2.2.1.2.2.2.2.1
  have so1 := hO.1.1
  have so2 := hO.1.2.1
  have st0 := hO.1.2.2.1
  have st1 := hO.1.2.2.2.1
  have st2 := hO.1.2.2.2.2.1
  have vb := hO.1.2.2.2.2.2.2.2.2.2.1
  have F : ∀ k : Int, 1 ≤ k → k ≤ 5 → ∃ h', mRuns (d + 1) 19 0 [some (.ref 114), some (.int (zI k))] [] h (.inl (none, h')) ∧ RM h' u n (aFl k R) ∧ kF [] fsM h h' ∧ (∀ j, j ≠ 11 → j ≠ 12 → h'.1 114 j = h.1 114 j) ∧ mRuns (d + 1) 13 0 [some (.ref 114)] [] h' (.inl (some (.int (zI 0)), h')) := by
    intro k k0 k1
    obtain ⟨h', r, C, f, g⟩ := s_M_fl (d := d) (k := k) hO hR
    exact ⟨h', r, C, f, g, s_M_good0 (d := d) (ROk_fl n1 hO (by omega) (by omega)).1 C (fl_f (by omega) R)⟩
  by_cases c0 : rF R = 0
  · have G := s_M_good1 (d := d) hR c0
    by_cases c1 : rSo R = 2
    · have vb := vb c1
      have w3 := w3 c1
      unfold vB at vb
      by_cases c2 : rVa R = 10000
      · have e : aAm told R = aFl 2 R := by unfold aAm; rw [if_neg (by omega), if_neg (by omega), if_pos c2]
        rw [e]
        obtain ⟨h', r, C, f, g, q⟩ := F 2 (by omega) (by omega)
        rw [if_neg (fl_f (by omega) R)]
        refine ⟨h', vc_M_amongHere ⟨_, _, G, ?_⟩, C, f, g⟩
        simp (disch := omega) only [zI_add, zI_sub, zI_mul, zI_neg, zI_lit, zI_0, zI_1, zI_lt, zI_le, zI_eq, zI_clamp, zI_inT, zI_ite, mOb_0, mOb_1, mOb_3, mOb_4, mLd_1, mAr_1, mLen_1, mTrue_t, Int.toNat_zero, Int.toNat_one, true_and, and_true, not_true_eq_false, not_false_eq_true, true_or, or_true, or_self, false_or, or_false, forall_const, false_implies, true_implies, implies_true, k1, k4, w0]
        repeat' (first | refine And.intro ?_ ?_ | with_reducible intro _)
        all_goals first | omega | exact ⟨h', r, _, h', q, Or.inl rfl, rfl⟩ | exact ⟨h', r, _, h', q, rfl⟩
      · have w3 := w3 (by omega)
        subst w3
        by_cases c3 : told ≤ rVa R
        · have e : aAm told R = aFl 3 R := by unfold aAm; rw [if_neg (by omega), if_neg (by omega), if_neg c2, if_pos c3]
          rw [e]
          obtain ⟨h', r, C, f, g, q⟩ := F 3 (by omega) (by omega)
          rw [if_neg (fl_f (by omega) R)]
          refine ⟨h', vc_M_amongHere ⟨_, _, G, ?_⟩, C, f, g⟩
          simp (disch := omega) only [zI_add, zI_sub, zI_mul, zI_neg, zI_lit, zI_0, zI_1, zI_lt, zI_le, zI_eq, zI_clamp, zI_inT, zI_ite, mOb_0, mOb_1, mOb_3, mOb_4, mLd_1, mAr_1, mLen_1, mTrue_t, Int.toNat_zero, Int.toNat_one, true_and, and_true, not_true_eq_false, not_false_eq_true, true_or, or_true, or_self, false_or, or_false, forall_const, false_implies, true_implies, implies_true, k1, k4, w0]
          repeat' (first | refine And.intro ?_ ?_ | with_reducible intro _)
          all_goals first | omega | exact ⟨h', r, _, h', q, Or.inl rfl, rfl⟩ | exact ⟨h', r, _, h', q, rfl⟩
        · have e : aAm told R = R := by unfold aAm; rw [if_neg (by omega), if_neg (by omega), if_neg c2, if_neg c3]
          rw [e, if_pos c0]
          refine ⟨h, vc_M_amongHere ⟨_, _, G, ?_⟩, hR, kF_refl _ _ _, fun _ _ _ => rfl⟩
          simp (disch := omega) only [zI_add, zI_sub, zI_mul, zI_neg, zI_lit, zI_0, zI_1, zI_lt, zI_le, zI_eq, zI_clamp, zI_inT, zI_ite, mOb_0, mOb_1, mOb_3, mOb_4, mLd_1, mAr_1, mLen_1, mTrue_t, Int.toNat_zero, Int.toNat_one, true_and, and_true, not_true_eq_false, not_false_eq_true, true_or, or_true, or_self, false_or, or_false, forall_const, false_implies, true_implies, implies_true, k1, k4, w0]
          repeat' (first | refine And.intro ?_ ?_ | with_reducible intro _)
          all_goals first | omega | exact ⟨_, _, G, Or.inr rfl, rfl⟩ | exact ⟨_, _, G, rfl⟩
    · have e : aAm told R = aFl 1 R := by unfold aAm; rw [if_neg (by omega), if_pos c1]
      rw [e]
      obtain ⟨h', r, C, f, g, q⟩ := F 1 (by omega) (by omega)
      rw [if_neg (fl_f (by omega) R)]
      refine ⟨h', vc_M_amongHere ⟨_, _, G, ?_⟩, C, f, g⟩
      simp (disch := omega) only [zI_add, zI_sub, zI_mul, zI_neg, zI_lit, zI_0, zI_1, zI_lt, zI_le, zI_eq, zI_clamp, zI_inT, zI_ite, mOb_0, mOb_1, mOb_3, mOb_4, mLd_1, mAr_1, mLen_1, mTrue_t, Int.toNat_zero, Int.toNat_one, true_and, and_true, not_true_eq_false, not_false_eq_true, true_or, or_true, or_self, false_or, or_false, forall_const, false_implies, true_implies, implies_true, k1]
      repeat' (first | refine And.intro ?_ ?_ | with_reducible intro _)
      all_goals first | omega | exact ⟨h', r, _, h', q, Or.inl rfl, rfl⟩ | exact ⟨h', r, _, h', q, rfl⟩
  · have e : aAm told R = R := by unfold aAm; rw [if_pos c0]
    rw [e, if_neg c0]
    have G0 := s_M_good0 (d := d) hO hR c0
    refine ⟨h, vc_M_amongHere ⟨_, _, G0, ?_⟩, hR, kF_refl _ _ _, fun _ _ _ => rfl⟩
    simp (disch := omega) only [zI_add, zI_sub, zI_mul, zI_neg, zI_lit, zI_0, zI_1, zI_lt, zI_le, zI_eq, zI_clamp, zI_inT, zI_ite, mOb_0, mOb_1, mOb_3, mOb_4, mLd_1, mAr_1, mLen_1, mTrue_t, Int.toNat_zero, Int.toNat_one, true_and, and_true, not_true_eq_false, not_false_eq_true, true_or, or_true, or_self, false_or, or_false, forall_const, false_implies, true_implies, implies_true]
    repeat' (first | refine And.intro ?_ ?_ | with_reducible intro _)
    all_goals first | omega | rfl
/-! the kinds -/
theorem pkL_ne : ∀ a b : Fin 14, a ≠ b → pkL (mStr a.val) ≠ pkL (mStr b.val) := by decide +kernel
theorem aW_ex {u : Int → Int} {R : tR} {j k : Nat} (hj : j < 14) (hk : k < 14) (h1 : aW u j R = 1) (h2 : aW u k R = 1) : j = k := by
  unfold aW aIs at h1 h2
  by_cases e : j = k
  · exact e
  · split at h1
    · split at h2
      · rename_i a b
        exact absurd (a.2.2.symm.trans b.2.2) (pkL_ne ⟨j, hj⟩ ⟨k, hk⟩ (fun z => e (by have := congrArg Fin.val z; exact this)))
      · omega
    · omega
def aKf (u : Int → Int) (R : tR) : Nat → Nat → Int → Int
  | 0, _, v => v
  | j + 1, k, v => aKf u R j (k + 1) (if aW u (9 + k) R = 1 then (k : Int) else v)
theorem aKf_kn (u : Int → Int) (R : tR) : aKf u R 5 0 (-1) = aKn u R := by
  have z : ∀ k, aW u k R = 0 ∨ aW u k R = 1 := fun k => aIs_01 _ _ _ _ _
  have ex : ∀ j k : Nat, j < 14 → k < 14 → j ≠ k → aW u j R = 1 → aW u k R ≠ 1 := fun j k hj hk ne h1 h2 => ne (aW_ex hj hk h1 h2)
  show aKf u R 5 0 (-1) = _
  unfold aKn aKf aKf aKf aKf aKf aKf
  show (if aW u 13 R = 1 then (4 : Int) else if aW u 12 R = 1 then 3 else if aW u 11 R = 1 then 2 else if aW u 10 R = 1 then 1 else if aW u 9 R = 1 then 0 else -1) = _
  by_cases c9 : aW u 9 R = 1
  · rw [if_neg (ex 9 13 (by omega) (by omega) (by omega) c9), if_neg (ex 9 12 (by omega) (by omega) (by omega) c9), if_neg (ex 9 11 (by omega) (by omega) (by omega) c9), if_neg (ex 9 10 (by omega) (by omega) (by omega) c9)]
    rw [if_pos c9, if_pos c9]
  · by_cases c10 : aW u 10 R = 1
    · rw [if_neg (ex 10 13 (by omega) (by omega) (by omega) c10), if_neg (ex 10 12 (by omega) (by omega) (by omega) c10), if_neg (ex 10 11 (by omega) (by omega) (by omega) c10), if_pos c10, if_neg c9, if_pos c10]
    · by_cases c11 : aW u 11 R = 1
      · rw [if_neg (ex 11 13 (by omega) (by omega) (by omega) c11), if_neg (ex 11 12 (by omega) (by omega) (by omega) c11), if_pos c11, if_neg c9, if_neg c10, if_pos c11]
      · by_cases c12 : aW u 12 R = 1
        · rw [if_neg (ex 12 13 (by omega) (by omega) (by omega) c12), if_pos c12, if_neg c9, if_neg c10, if_neg c11, if_pos c12]
        · rw [if_neg c12, if_neg c11, if_neg c10, if_neg c9, if_neg c9, if_neg c10, if_neg c11, if_neg c12]
theorem s_M_kinds {d : Nat} {u : Int → Int} {n : Int} {R : tR} {h : mHp} {out : mOut} (n1 : n ≤ 700) (hO : ROk u n R) (hR : RM h u n R) : ∀ (j k : Nat) (v : Int), k + j = 5 →
    mRuns (d + 4) 23 29 [some (.ref 114), some (.int (zI (aKf u R j k v))), some (.int (zI 5))] [] h out → mRuns (d + 4) 23 29 [some (.ref 114), some (.int (zI v)), some (.int (zI k))] [] h out := by
  intro j
  induction j with
  | zero =>
    intro k v hk H
    rw [show ((k : Nat) : Int) = 5 by omega]
    exact H
  | succ j ih =>
    intro k v hk H
    have w := s_M_w (d := d) (k := 9 + k) (by omega) n1 hO hR
    have w01 : aW u (9 + k) R = 0 ∨ aW u (9 + k) R = 1 := aIs_01 _ _ _ _ _
    have e9 : nI 9 + zI k = nI (9 + k) := by rw [zI_n (9 + k), show nI 9 = zI 9 from rfl, zI_add]; congr 1
    have H' := ih (k + 1) _ (by omega) H
    rw [show ((k + 1 : Nat) : Int) = (k : Int) + 1 by omega] at H'
    refine vc_M_readsTaster_29 ⟨fun z => ?_, fun _ => ⟨_, _, by rw [e9]; exact w, ?_⟩⟩
    · rw [show nI 4 = zI 4 from rfl, zI_lt (by omega) (by omega) (by omega) (by omega)] at z
      omega
    · simp (disch := omega) only [zI_add, zI_sub, zI_mul, zI_neg, zI_lit, zI_0, zI_1, zI_lt, zI_le, zI_eq, zI_clamp, zI_inT, zI_ite, mOb_0, mOb_1, mOb_3, mOb_4, mLd_1, mAr_1, mLen_1, mTrue_t, Int.toNat_zero, Int.toNat_one, true_and, and_true, not_true_eq_false, not_false_eq_true, true_or, or_true, or_self, false_or, or_false, forall_const, false_implies, true_implies, implies_true]
      refine ⟨fun z => ?_, fun z => ?_⟩
      · rw [if_neg (by omega)] at H'; exact H'
      · rw [if_pos (by omega)] at H'; exact H'

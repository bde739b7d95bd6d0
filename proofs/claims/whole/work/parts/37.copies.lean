/-! L3, copies of logs and courts; a court opens and ends -/
theorem s_Log_copy {d : Nat} {h : mHp} {o a : Nat} {B : tB} {E : tE} (ho : lAd o) (ha : lAd a) (hne : o ≠ a) (hL : LC h a E) (hE : EOk B E) :
    ∃ h', mRuns (d + 1) 83 0 [some (.ref o), some (.ref a)] [] h (.inl (none, h')) ∧ LC h' o E ∧ hFr [o, o + 1, o + 2, o + 3, o + 4, o + 5] h h' := by
  obtain ⟨s0, s1, s2, s3, s4, s5⟩ := lSh_of ho
  obtain ⟨t0, t1, t2, t3, t4, t5⟩ := lSh_of ha
  obtain ⟨⟨e0, a1, a2, a3, a4⟩, a5⟩ := hL
  have hn := hE.1
  have orr : o = 90 ∨ o = 96 := ho
  have arr : a = 90 ∨ a = 96 := ha
  refine ⟨mCp (mCp (mCp (mCp (mCp (mPI h o 0 (zI (eN E))) (a + 1) 0 (o + 1) 0 (eN E).toNat) (a + 2) 0 (o + 2) 0 (eN E).toNat) (a + 3) 0 (o + 3) 0 (eN E).toNat) (a + 4) 0 (o + 4) 0 (eN E).toNat) (a + 5) 0 (o + 5) 0 (5 : Int).toNat, vc_Log_copyFrom ?_, ⟨⟨?_, ?_, ?_, ?_, ?_⟩, ?_⟩, ?_⟩
  · simp (disch := omega) only [zI_add, zI_sub, zI_mul, zI_neg, zI_lit, zI_0, zI_1, zI_lt, zI_le, zI_eq, zI_clamp, zI_inT, zI_ite, mOb_0, mOb_1, mOb_3, mOb_4, mLd_1, mAr_1, mLen_1, mTrue_t, Int.toNat_zero, Int.toNat_one, true_and, and_true, not_true_eq_false, not_false_eq_true, true_or, or_true, or_self, false_or, or_false, forall_const, false_implies, true_implies, implies_true, s0, s1, t0, t1, e0, hI_same, Nat.zero_add]
    refine ⟨by omega, by omega, by omega, by omega, by omega, vc_Log_copyFrom_25 ?_⟩
    simp (disch := omega) only [zI_add, zI_sub, zI_mul, zI_neg, zI_lit, zI_0, zI_1, zI_lt, zI_le, zI_eq, zI_clamp, zI_inT, zI_ite, mOb_0, mOb_1, mOb_3, mOb_4, mLd_1, mAr_1, mLen_1, mTrue_t, Int.toNat_zero, Int.toNat_one, true_and, and_true, not_true_eq_false, not_false_eq_true, true_or, or_true, or_self, false_or, or_false, forall_const, false_implies, true_implies, implies_true, s0, s2, t0, t2, hC_ne, hI_same, Nat.zero_add]
    refine ⟨by omega, by omega, by omega, by omega, by omega, vc_Log_copyFrom_42 ?_⟩
    simp (disch := omega) only [zI_add, zI_sub, zI_mul, zI_neg, zI_lit, zI_0, zI_1, zI_lt, zI_le, zI_eq, zI_clamp, zI_inT, zI_ite, mOb_0, mOb_1, mOb_3, mOb_4, mLd_1, mAr_1, mLen_1, mTrue_t, Int.toNat_zero, Int.toNat_one, true_and, and_true, not_true_eq_false, not_false_eq_true, true_or, or_true, or_self, false_or, or_false, forall_const, false_implies, true_implies, implies_true, s0, s3, t0, t3, hC_ne, hI_same, Nat.zero_add]
    refine ⟨by omega, by omega, by omega, by omega, by omega, vc_Log_copyFrom_59 ?_⟩
    simp (disch := omega) only [zI_add, zI_sub, zI_mul, zI_neg, zI_lit, zI_0, zI_1, zI_lt, zI_le, zI_eq, zI_clamp, zI_inT, zI_ite, mOb_0, mOb_1, mOb_3, mOb_4, mLd_1, mAr_1, mLen_1, mTrue_t, Int.toNat_zero, Int.toNat_one, true_and, and_true, not_true_eq_false, not_false_eq_true, true_or, or_true, or_self, false_or, or_false, forall_const, false_implies, true_implies, implies_true, s0, s4, t0, t4, hC_ne, hI_same, Nat.zero_add]
    refine ⟨by omega, by omega, by omega, by omega, by omega, vc_Log_copyFrom_76 ?_⟩
    simp (disch := omega) only [zI_add, zI_sub, zI_mul, zI_neg, zI_lit, zI_0, zI_1, zI_lt, zI_le, zI_eq, zI_clamp, zI_inT, zI_ite, mOb_0, mOb_1, mOb_3, mOb_4, mLd_1, mAr_1, mLen_1, mTrue_t, Int.toNat_zero, Int.toNat_one, true_and, and_true, not_true_eq_false, not_false_eq_true, true_or, or_true, or_self, false_or, or_false, forall_const, false_implies, true_implies, implies_true, s0, s5, t0, t5, Nat.zero_add]
    exact ⟨by omega, by omega, by omega, by omega, by omega, vc_Log_copyFrom_90 rfl⟩
  · simp (disch := omega) only [hC_ne, hI_same]
  · intro i i0 i1; simp (disch := omega) only [hC_ne, hC_in0, hI_ne]; exact a1 i i0 i1
  · intro i i0 i1; simp (disch := omega) only [hC_ne, hC_in0, hI_ne]; exact a2 i i0 i1
  · intro i i0 i1; simp (disch := omega) only [hC_ne, hC_in0, hI_ne]; exact a3 i i0 i1
  · intro i i0 i1; simp (disch := omega) only [hC_ne, hC_in0, hI_ne]; exact a4 i i0 i1
  · intro i i0 i1; simp (disch := omega) only [hC_ne, hC_in0, hI_ne]; exact a5 i i0 i1
  · exact hFr_cp (hFr_cp (hFr_cp (hFr_cp (hFr_cp (hFr_pi (hFr_refl _ _) (by simp) _ _) (by simp) _ _ _ _) (by simp) _ _ _ _) (by simp) _ _ _ _) (by simp) _ _ _ _) (by simp) _ _ _ _
theorem s_Crt_copy {d : Nat} {h : mHp} {o a : Nat} {C : tC} (ho : cAd o) (ha : cAd a) (hne : o ≠ a) (hC : CC h a C) (hK : COk C) :
    ∃ h', mRuns (d + 1) 124 0 [some (.ref o), some (.ref a)] [] h (.inl (none, h')) ∧ CC h' o C ∧ hFr [o, o + 1, o + 2, o + 3, o + 4, o + 5] h h' := by
  obtain ⟨s0, s1, s2, s3, s4, s5⟩ := cSh_of ho
  obtain ⟨t0, t1, t2, t3, t4, t5⟩ := cSh_of ha
  obtain ⟨⟨c0, c1, c2, c3, c4⟩, a1, a2, a3, a4, a5⟩ := hC
  obtain ⟨k1, k2, k3, k4, k5, k6, k7, k8, k9⟩ := hK
  have orr : o = 102 ∨ o = 108 := ho
  have arr : a = 102 ∨ a = 108 := ha
  refine ⟨mCp (mCp (mCp (mCp (mCp (mPI (mPI (mPI (mPI (mPI h o 0 (zI (cO C))) o 1 (cS C)) o 2 (zI (cL C))) o 3 (zI (cH C))) o 4 (zI (cN C))) (a + 1) 0 (o + 1) 0 (25 : Int).toNat) (a + 2) 0 (o + 2) 0 (cN C).toNat) (a + 3) 0 (o + 3) 0 (cN C).toNat) (a + 4) 0 (o + 4) 0 (cN C).toNat) (a + 5) 0 (o + 5) 0 (cN C).toNat, vc_Crt_copyFrom ?_, ⟨⟨?_, ?_, ?_, ?_, ?_⟩, ?_, ?_, ?_, ?_, ?_⟩, ?_⟩
  · simp (disch := omega) only [zI_add, zI_sub, zI_mul, zI_neg, zI_lit, zI_0, zI_1, zI_lt, zI_le, zI_eq, zI_clamp, zI_inT, zI_ite, mOb_0, mOb_1, mOb_3, mOb_4, mLd_1, mAr_1, mLen_1, mTrue_t, Int.toNat_zero, Int.toNat_one, true_and, and_true, not_true_eq_false, not_false_eq_true, true_or, or_true, or_self, false_or, or_false, forall_const, false_implies, true_implies, implies_true, s0, s1, t0, t1, c0, c1, c2, c3, c4, hI_ne, Nat.zero_add]
    refine ⟨by omega, by omega, by omega, by omega, by omega, by omega, vc_Crt_copyFrom_58 ?_⟩
    simp (disch := omega) only [zI_add, zI_sub, zI_mul, zI_neg, zI_lit, zI_0, zI_1, zI_lt, zI_le, zI_eq, zI_clamp, zI_inT, zI_ite, mOb_0, mOb_1, mOb_3, mOb_4, mLd_1, mAr_1, mLen_1, mTrue_t, Int.toNat_zero, Int.toNat_one, true_and, and_true, not_true_eq_false, not_false_eq_true, true_or, or_true, or_self, false_or, or_false, forall_const, false_implies, true_implies, implies_true, s0, s2, t0, t2, hC_ne, hI_same, Nat.zero_add]
    refine ⟨by omega, by omega, by omega, by omega, by omega, vc_Crt_copyFrom_75 ?_⟩
    simp (disch := omega) only [zI_add, zI_sub, zI_mul, zI_neg, zI_lit, zI_0, zI_1, zI_lt, zI_le, zI_eq, zI_clamp, zI_inT, zI_ite, mOb_0, mOb_1, mOb_3, mOb_4, mLd_1, mAr_1, mLen_1, mTrue_t, Int.toNat_zero, Int.toNat_one, true_and, and_true, not_true_eq_false, not_false_eq_true, true_or, or_true, or_self, false_or, or_false, forall_const, false_implies, true_implies, implies_true, s0, s3, t0, t3, hC_ne, hI_same, Nat.zero_add]
    refine ⟨by omega, by omega, by omega, by omega, by omega, vc_Crt_copyFrom_92 ?_⟩
    simp (disch := omega) only [zI_add, zI_sub, zI_mul, zI_neg, zI_lit, zI_0, zI_1, zI_lt, zI_le, zI_eq, zI_clamp, zI_inT, zI_ite, mOb_0, mOb_1, mOb_3, mOb_4, mLd_1, mAr_1, mLen_1, mTrue_t, Int.toNat_zero, Int.toNat_one, true_and, and_true, not_true_eq_false, not_false_eq_true, true_or, or_true, or_self, false_or, or_false, forall_const, false_implies, true_implies, implies_true, s0, s4, t0, t4, hC_ne, hI_same, Nat.zero_add]
    refine ⟨by omega, by omega, by omega, by omega, by omega, vc_Crt_copyFrom_109 ?_⟩
    simp (disch := omega) only [zI_add, zI_sub, zI_mul, zI_neg, zI_lit, zI_0, zI_1, zI_lt, zI_le, zI_eq, zI_clamp, zI_inT, zI_ite, mOb_0, mOb_1, mOb_3, mOb_4, mLd_1, mAr_1, mLen_1, mTrue_t, Int.toNat_zero, Int.toNat_one, true_and, and_true, not_true_eq_false, not_false_eq_true, true_or, or_true, or_self, false_or, or_false, forall_const, false_implies, true_implies, implies_true, s0, s5, t0, t5, hC_ne, hI_same, Nat.zero_add]
    exact ⟨by omega, by omega, by omega, by omega, by omega, vc_Crt_copyFrom_126 rfl⟩
  · simp (disch := omega) only [hC_ne, hI_same, hI_off]
  · simp (disch := omega) only [hC_ne, hI_same, hI_off]
  · simp (disch := omega) only [hC_ne, hI_same, hI_off]
  · simp (disch := omega) only [hC_ne, hI_same, hI_off]
  · simp (disch := omega) only [hC_ne, hI_same, hI_off]
  · intro i i0 i1; simp (disch := omega) only [hC_ne, hC_in0, hI_ne]; exact a1 i i0 i1
  · intro i i0 i1; simp (disch := omega) only [hC_ne, hC_in0, hI_ne]; exact a2 i i0 i1
  · intro i i0 i1; simp (disch := omega) only [hC_ne, hC_in0, hI_ne]; exact a3 i i0 i1
  · intro i i0 i1; simp (disch := omega) only [hC_ne, hC_in0, hI_ne]; exact a4 i i0 i1
  · intro i i0 i1; simp (disch := omega) only [hC_ne, hC_in0, hI_ne]; exact a5 i i0 i1
  · exact hFr_cp (hFr_cp (hFr_cp (hFr_cp (hFr_cp (hFr_pi (hFr_pi (hFr_pi (hFr_pi (hFr_pi (hFr_refl _ _) (by simp) _ _) (by simp) _ _) (by simp) _ _) (by simp) _ _) (by simp) _ _) (by simp) _ _ _ _) (by simp) _ _ _ _) (by simp) _ _ _ _) (by simp) _ _ _ _) (by simp) _ _ _ _
def cEnd (C : tC) : tC := (0, cS C, cL C, cH C, 0, C.2.2.2.2.2)
def cOpen (B : tB) (C : tC) (s : Int32) (l c : Int) : tC := (1, s, l, c, 0, bF B 9, C.2.2.2.2.2.2)
theorem COk_end {C : tC} (h : COk C) : COk (cEnd C) := by
  obtain ⟨k1, k2, k3, k4, k5, k6, k7, k8, k9⟩ := h
  exact ⟨Or.inl rfl, fun _ => rfl, Int.le_refl 0, by show (0 : Int) ≤ 300; omega, k5, k6, k7, k8, k9⟩
theorem COk_open {B : tB} (hO : BOk B) (C : tC) (s : Int32) {l c : Int} (l0 : 0 ≤ l) (l1 : l ≤ 2) (c0 : 0 ≤ c) (c1 : c ≤ 1000) : COk (cOpen B C s l c) :=
  ⟨Or.inr rfl, fun z => absurd z (by show ¬ (1 : Int) = 0; omega), Int.le_refl 0, by show (0 : Int) ≤ 300; omega, l0, l1, c0, c1, hO.2.2.2.2⟩
theorem s_Crt_end {d : Nat} {h : mHp} {o : Nat} {C : tC} (ho : cAd o) (hC : CC h o C) :
    ∃ h', mRuns (d + 1) 125 0 [some (.ref o)] [] h (.inl (none, h')) ∧ CC h' o (cEnd C) ∧ hFr [o] h h' := by
  have s0 := (cSh_of ho).1
  obtain ⟨⟨c0, c1, c2, c3, c4⟩, a1, a2, a3, a4, a5⟩ := hC
  refine ⟨mPI (mPI h o 0 (zI 0)) o 4 (zI 0), vc_Crt_end ?_, ⟨⟨?_, ?_, ?_, ?_, ?_⟩, ?_, ?_, ?_, ?_, ?_⟩, hFr_pi (hFr_pi (hFr_refl _ _) (by simp) _ _) (by simp) _ _⟩
  · simp (disch := omega) only [zI_add, zI_sub, zI_mul, zI_neg, zI_lit, zI_0, zI_1, zI_lt, zI_le, zI_eq, zI_clamp, zI_inT, zI_ite, mOb_0, mOb_1, mOb_3, mOb_4, mLd_1, mAr_1, mLen_1, mTrue_t, Int.toNat_zero, Int.toNat_one, true_and, and_true, not_true_eq_false, not_false_eq_true, true_or, or_true, or_self, false_or, or_false, forall_const, false_implies, true_implies, implies_true, s0]
  · rw [hI_off (by omega), hI_same]; rfl
  · rw [hI_off (by omega), hI_off (by omega)]; exact c1
  · rw [hI_off (by omega), hI_off (by omega)]; exact c2
  · rw [hI_off (by omega), hI_off (by omega)]; exact c3
  · rw [hI_same]; rfl
  · rw [hI_ne (by omega), hI_ne (by omega)]; exact a1
  all_goals exact fun i i0 i1 => absurd i1 (by show ¬ i < 0; omega)
theorem s_Crt_open {d : Nat} {h : mHp} {o b : Nat} {B : tB} {C : tC} {s : Int32} {l c : Int} (ho : cAd o) (hb : bAd b) (hB : BC h b B) (hC : CC h o C) :
    ∃ h', mRuns (d + 1) 126 0 [some (.ref o), some (.int s), some (.int (zI l)), some (.int (zI c)), some (.ref b)] [] h (.inl (none, h')) ∧ CC h' o (cOpen B C s l c) ∧ hFr [o, o + 1] h h' := by
  obtain ⟨s0, s1, s2, s3, s4, s5⟩ := cSh_of ho
  obtain ⟨b0, b1, b2, b3, b4, b5, b6, b7, b8, b9, b10⟩ := bSh_of hb
  obtain ⟨e0, e4, e9, e13, x1, x2, x3, x4, x5, x6, x7, x8, x9, x10⟩ := id hB
  have orr : o = 102 ∨ o = 108 := ho
  have brr : b = 1 ∨ b = 12 := hb
  refine ⟨mCp (mPI (mPI (mPI (mPI (mPI h o 0 (zI 1)) o 1 s) o 2 (zI l)) o 3 (zI c)) o 4 (zI 0)) (b + 10) 0 (o + 1) 0 (25 : Int).toNat, vc_Crt_open ?_, ⟨⟨?_, ?_, ?_, ?_, ?_⟩, ?_, ?_, ?_, ?_, ?_⟩, ?_⟩
  · simp (disch := omega) only [zI_add, zI_sub, zI_mul, zI_neg, zI_lit, zI_0, zI_1, zI_lt, zI_le, zI_eq, zI_clamp, zI_inT, zI_ite, mOb_0, mOb_1, mOb_3, mOb_4, mLd_1, mAr_1, mLen_1, mTrue_t, Int.toNat_zero, Int.toNat_one, true_and, and_true, not_true_eq_false, not_false_eq_true, true_or, or_true, or_self, false_or, or_false, forall_const, false_implies, true_implies, implies_true, s0, s1, b0, b10, Nat.zero_add]
    refine ⟨by omega, by omega, by omega, by omega, by omega⟩
  · simp (disch := omega) only [hC_ne, hI_same, hI_off]; rfl
  · simp (disch := omega) only [hC_ne, hI_same, hI_off]; rfl
  · simp (disch := omega) only [hC_ne, hI_same, hI_off]; rfl
  · simp (disch := omega) only [hC_ne, hI_same, hI_off]; rfl
  · simp (disch := omega) only [hC_ne, hI_same, hI_off]; rfl
  · intro i i0 i1; simp (disch := omega) only [hC_in0, hI_ne]; exact x10 i i0 i1
  · exact fun i i0 i1 => absurd i1 (by show ¬ i < 0; omega)
  · exact fun i i0 i1 => absurd i1 (by show ¬ i < 0; omega)
  · exact fun i i0 i1 => absurd i1 (by show ¬ i < 0; omega)
  · exact fun i i0 i1 => absurd i1 (by show ¬ i < 0; omega)
  · exact hFr_cp (hFr_pi (hFr_pi (hFr_pi (hFr_pi (hFr_pi (hFr_refl _ _) (by simp) _ _) (by simp) _ _) (by simp) _ _) (by simp) _ _) (by simp) _ _) (by simp) _ _ _ _
/-! the model's copies -/
theorem s_M_copies_loop {d a o n m : Nat} (ha : mSh a = (1, n, 0)) (ho : mSh o = (1, m, 0)) (hnm : n ≤ m) (hm : m < 5000) (hne : o ≠ a) : ∀ (j : Nat) (i : Int) (h : mHp), i + j = n → 0 ≤ i → (∀ k, k < i.toNat → h.1 o k = h.1 a k) →
    ∃ h', mRuns (d + 1) 27 2 [none, some (.ref a), some (.ref o), some (.int (zI i))] [] h (.inl (none, h')) ∧ (∀ k, k < n → h'.1 o k = h.1 a k) ∧ hFr [o] h h' := by
  intro j
  induction j with
  | zero =>
    intro i h hi h0 hk
    refine ⟨h, vc_M_copies_2 ?_, fun k hk' => hk k (by omega), hFr_refl _ _⟩
    simp (disch := omega) only [zI_add, zI_sub, zI_mul, zI_neg, zI_lit, zI_0, zI_1, zI_lt, zI_le, zI_eq, zI_clamp, zI_inT, zI_ite, mOb_0, mOb_1, mOb_3, mOb_4, mLd_1, mAr_1, mLen_1, mTrue_t, Int.toNat_zero, Int.toNat_one, true_and, and_true, not_true_eq_false, not_false_eq_true, true_or, or_true, or_self, false_or, or_false, forall_const, false_implies, true_implies, implies_true, ha, zI_n]
    repeat' (first | refine And.intro ?_ ?_ | with_reducible intro _)
    all_goals first | omega | rfl
  | succ j ih =>
    intro i h hi h0 hk
    obtain ⟨h', r, p, f⟩ := ih (i + 1) (mPI h o i.toNat (h.1 a i.toNat)) (by omega) (by omega) (fun k hk' => by
      rw [hI_ne (x := a) (Ne.symm hne)]
      by_cases e : k = i.toNat
      · rw [e, hI_same]
      · rw [hI_off e]; exact hk k (by omega))
    refine ⟨h', vc_M_copies_2 ?_, fun k hk' => ?_, hFr_trans (hFr_pi (hFr_refl _ _) (by simp) _ _) f⟩
    · simp (disch := omega) only [zI_add, zI_sub, zI_mul, zI_neg, zI_lit, zI_0, zI_1, zI_lt, zI_le, zI_eq, zI_clamp, zI_inT, zI_ite, mOb_0, mOb_1, mOb_3, mOb_4, mLd_1, mAr_1, mLen_1, mTrue_t, Int.toNat_zero, Int.toNat_one, true_and, and_true, not_true_eq_false, not_false_eq_true, true_or, or_true, or_self, false_or, or_false, forall_const, false_implies, true_implies, implies_true, ha, ho, zI_n]
      repeat' (first | refine And.intro ?_ ?_ | with_reducible intro _)
      all_goals first | omega | exact r
    · rw [p k hk', hI_ne (x := a) (Ne.symm hne)]
theorem s_M_copies {d a o n m : Nat} {h : mHp} (ha : mSh a = (1, n, 0)) (ho : mSh o = (1, m, 0)) (hnm : n ≤ m) (hm : m < 5000) (hne : o ≠ a) :
    ∃ h', mRuns (d + 1) 27 0 [some (.ref 114), some (.ref a), some (.ref o), none] [] h (.inl (none, h')) ∧ (∀ k, k < n → h'.1 o k = h.1 a k) ∧ hFr [o] h h' := by
  obtain ⟨h', r, p, f⟩ := s_M_copies_loop (d := d) ha ho hnm hm hne n 0 h (by omega) (by omega) (fun k hk => absurd hk (by omega))
  refine ⟨h', vc_M_copies ?_, p, f⟩
  simp (disch := omega) only [zI_add, zI_sub, zI_mul, zI_neg, zI_lit, zI_0, zI_1, zI_lt, zI_le, zI_eq, zI_clamp, zI_inT, zI_ite, mOb_0, mOb_1, mOb_3, mOb_4, mLd_1, mAr_1, mLen_1, mTrue_t, Int.toNat_zero, Int.toNat_one, true_and, and_true, not_true_eq_false, not_false_eq_true, true_or, or_true, or_self, false_or, or_false, forall_const, false_implies, true_implies, implies_true]
  exact r

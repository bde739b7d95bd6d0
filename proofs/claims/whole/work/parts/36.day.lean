/-! L3, the court: a day whole, opening, ending, copies, on the class's side -/
def cPush (C : tC) (s : Int32) (hd : Int → Int) (q p f x : Int) : tC := (cO C, s, cL C, cH C, cN C + 1, hd, fun k i => if i = cN C then (if k = 0 then q else if k = 1 then p else if k = 2 then f else x) else cR C k i)
def aDs (B : tB) : Int := sS (bF B 2) (bD B).toNat 0
def aPs (B : tB) : Int := sS (bF B 6) (bP B).toNat 0
theorem aDs_rng {B : tB} (hO : BOk B) : 0 ≤ aDs B ∧ aDs B ≤ 594 := by
  have o := hO.1
  have := sS_rng (w := bF B 2) (k := 99) (bD B).toNat 0 (fun x a b => by have := hO.2.1 x a (by omega); omega)
  unfold aDs; omega
theorem aPs_rng {B : tB} (hO : BOk B) : 0 ≤ aPs B ∧ aPs B ≤ 495 := by
  have o := hO.1
  have := sS_rng (w := bF B 6) (k := 99) (bP B).toNat 0 (fun x a b => by have := hO.2.2.1 x a (by omega); omega)
  unfold aPs; omega
noncomputable def dQ (B : tB) (s : Int32) : Int := aPk (bF B 2) (bD B).toNat 0 (aDrV (aDrS (aDrS s)) % aDs B)
noncomputable def dP (B : tB) (s : Int32) : Int := aPk (bF B 6) (bP B).toNat 0 (aDrV (aDrS (aDrS (aDrS s))) % aPs B)
theorem dQ_rng {B : tB} (hO : BOk B) (s : Int32) (h : 0 < aDs B) : 0 ≤ dQ B s ∧ dQ B s < bD B := by
  have o := hO.1
  have := aPk_rng (w := bF B 2) (bD B).toNat 0 (aDrV (aDrS (aDrS s)) % aDs B) (fun x a b => (hO.2.1 x a (by omega)).2.2.2.1) (Int.emod_nonneg _ (by omega)) (Int.emod_lt_of_pos _ h)
  unfold dQ; omega
theorem dP_rng {B : tB} (hO : BOk B) (s : Int32) (h : 0 < aPs B) : 0 ≤ dP B s ∧ dP B s < bP B := by
  have o := hO.1
  have := aPk_rng (w := bF B 6) (bP B).toNat 0 (aDrV (aDrS (aDrS (aDrS s))) % aPs B) (fun x a b => (hO.2.2.1 x a (by omega)).2.2.2.2.2.2.1) (Int.emod_nonneg _ (by omega)) (Int.emod_lt_of_pos _ h)
  unfold dP; omega
def dGo (B : tB) (C : tC) : Prop := aDrV (aDrS (cS C)) % 1000 < cH C ∧ 0 < aDs B ∧ 0 < aPs B
noncomputable def dF (B : tB) (ps pt : Int → Int) (C : tC) : Int := aWf B (cHd C) (ps (dQ B (cS C))) (bF B 1 (dQ B (cS C)) - pt (dQ B (cS C))) (dP B (cS C))
noncomputable def cDay (B : tB) (ps pt : Int → Int) (C : tC) : tC :=
  if aDrV (aDrS (cS C)) % 1000 < cH C ∧ 0 < aDs B ∧ 0 < aPs B then cPush C (aDrS (aDrS (aDrS (cS C)))) (aHar (cHd C) (ps (dQ B (cS C))) (dP B (cS C))) (dQ B (cS C)) (dP B (cS C)) (dF B ps pt C) (if aCnt (dF B ps pt C) ≤ cL C then 1 else 0)
  else cPush C (aDrS (cS C)) (cHd C) (-1) (-1) 0 0
theorem cR_push0 (C : tC) (s : Int32) (hd : Int → Int) (q p f x : Int) : cR (cPush C s hd q p f x) 0 = fun i => if i = cN C then q else cR C 0 i := rfl
theorem cR_push1 (C : tC) (s : Int32) (hd : Int → Int) (q p f x : Int) : cR (cPush C s hd q p f x) 1 = fun i => if i = cN C then p else cR C 1 i := rfl
theorem cR_push2 (C : tC) (s : Int32) (hd : Int → Int) (q p f x : Int) : cR (cPush C s hd q p f x) 2 = fun i => if i = cN C then f else cR C 2 i := rfl
theorem cR_push3 (C : tC) (s : Int32) (hd : Int → Int) (q p f x : Int) : cR (cPush C s hd q p f x) 3 = fun i => if i = cN C then x else cR C 3 i := rfl
def cSd (C : tC) (s : Int32) : tC := (cO C, s, cL C, cH C, cN C, C.2.2.2.2.2)
theorem cO_sd (C : tC) (s : Int32) : cO (cSd C s) = cO C := rfl
theorem cS_sd (C : tC) (s : Int32) : cS (cSd C s) = s := rfl
theorem cL_sd (C : tC) (s : Int32) : cL (cSd C s) = cL C := rfl
theorem cH_sd (C : tC) (s : Int32) : cH (cSd C s) = cH C := rfl
theorem cN_sd (C : tC) (s : Int32) : cN (cSd C s) = cN C := rfl
theorem cHd_sd (C : tC) (s : Int32) : cHd (cSd C s) = cHd C := rfl
theorem cR_sd (C : tC) (s : Int32) : cR (cSd C s) = cR C := rfl
theorem cPush_sd (C : tC) (s s' : Int32) (hd : Int → Int) (q p f x : Int) : cPush (cSd C s) s' hd q p f x = cPush C s' hd q p f x := rfl
theorem COk_sd {C : tC} (h : COk C) (s : Int32) : COk (cSd C s) := by
  unfold COk; rw [cO_sd, cN_sd, cL_sd, cH_sd, cHd_sd]; exact h
theorem cO_push (C : tC) (s : Int32) (hd : Int → Int) (q p f x : Int) : cO (cPush C s hd q p f x) = cO C := rfl
theorem cL_push (C : tC) (s : Int32) (hd : Int → Int) (q p f x : Int) : cL (cPush C s hd q p f x) = cL C := rfl
theorem cH_push (C : tC) (s : Int32) (hd : Int → Int) (q p f x : Int) : cH (cPush C s hd q p f x) = cH C := rfl
theorem cN_push (C : tC) (s : Int32) (hd : Int → Int) (q p f x : Int) : cN (cPush C s hd q p f x) = cN C + 1 := rfl
theorem COk_push {C : tC} (h : COk C) (h3 : cN C < 300) (h1 : cO C = 1) {s : Int32} {hd : Int → Int} {q p f x : Int} (hh : ∀ i, 0 ≤ i → i < 25 → 0 ≤ hd i ∧ hd i ≤ 99) : COk (cPush C s hd q p f x) := by
  obtain ⟨k1, k2, k3, k4, k5, k6, k7, k8, k9⟩ := h
  refine ⟨k1, fun z => ?_, ?_, ?_, k5, k6, k7, k8, hh⟩
  · have : cO C = 0 := z
    omega
  · rw [cN_push]; omega
  · rw [cN_push]; omega
theorem aHar_rng {hd : Int → Int} (hh : ∀ i, 0 ≤ i → i < 25 → 0 ≤ hd i ∧ hd i ≤ 99) (s p : Int) : ∀ i, 0 ≤ i → i < 25 → 0 ≤ aHar hd s p i ∧ aHar hd s p i ≤ 99 := by
  intro i a b
  have := hh i a b
  unfold aHar
  split
  · split <;> omega
  · exact this
theorem COk_day {B : tB} {ps pt : Int → Int} {C : tC} (h : COk C) (h3 : cN C < 300) (h1 : cO C = 1) : COk (cDay B ps pt C) := by
  have hh := h.2.2.2.2.2.2.2.2
  unfold cDay; split
  · exact COk_push h h3 h1 (aHar_rng hh _ _)
  · exact COk_push h h3 h1 hh
theorem cN_day (B : tB) (ps pt : Int → Int) (C : tC) : cN (cDay B ps pt C) = cN C + 1 ∧ cO (cDay B ps pt C) = cO C ∧ cL (cDay B ps pt C) = cL C ∧ cH (cDay B ps pt C) = cH C := by
  unfold cDay; split <;> exact ⟨cN_push .., cO_push .., cL_push .., cH_push ..⟩
/-- the end of a day: h1 with the new seed; from pc 139 on -/
theorem s_Crt_pass_end {d : Nat} {h1 : mHp} {o a : Nat} {C : tC} {s : Int32} {q p f v : Int} {S : Int} (ho : cAd o) (ha : pAd a) (hC : CC h1 o C) (hK : COk C) (hn : cN C < 300) (hs1 : h1.1 o 1 = cS C) (f0 : 0 ≤ f) (f1 : f < 32)
    (hv : (v = 0 ∧ q = -1 ∧ p = -1 ∧ f = 0) ∨ (v = 1 ∧ 0 ≤ q ∧ q < 6 ∧ 0 ≤ p ∧ p < 5 ∧ h1.1 (a + 1) q.toNat = zI S ∧ 0 ≤ S ∧ S < 32)) :
    ∃ h', mRuns (d + 3) 127 139 [some (.ref o), none, some (.ref a), some (.int (zI q)), some (.int (zI p)), none, none, some (.int (zI v)), none] [.int (zI f)] h1 (.inl (none, h')) ∧ CC h' o (cPush C (cS C) (if v = 0 then cHd C else aHar (cHd C) S p) q p f (if v = 0 then 0 else if aCnt f ≤ cL C then 1 else 0)) ∧ hFr [o, o + 1, o + 2, o + 3, o + 4, o + 5] h1 h' := by
  obtain ⟨z0, z1, z2, z3, z4, z5⟩ := cSh_of ho
  obtain ⟨p0, p1, p2⟩ := pSh_of ha
  have pr := pAd_rng ha
  have orr : o = 102 ∨ o = 108 := ho
  obtain ⟨⟨c0, c1, c2, c3, c4⟩, a1, a2, a3, a4, a5⟩ := hC
  obtain ⟨k1, k2, k3, k4, k5, k6, k7, k8, k9⟩ := hK
  have hcn := aCnt_rng f
  -- the heap with its rows
  have row : ∀ (x : Int), CC (mPI (mPI (mPI (mPI (mPI h1 (o + 2) (cN C).toNat (zI q)) (o + 3) (cN C).toNat (zI p)) (o + 4) (cN C).toNat (zI f)) (o + 5) (cN C).toNat (zI x)) o 4 (zI (cN C + 1))) o (cPush C (cS C) (cHd C) q p f x) := by
    intro x
    refine ⟨⟨?_, ?_, ?_, ?_, ?_⟩, ?_, ?_, ?_, ?_, ?_⟩
    · simp (disch := omega) only [hI_off, hI_ne]; exact c0
    · simp (disch := omega) only [hI_off, hI_ne]; exact c1
    · simp (disch := omega) only [hI_off, hI_ne]; exact c2
    · simp (disch := omega) only [hI_off, hI_ne]; exact c3
    · rw [hI_same]; rfl
    · simp (disch := omega) only [hI_ne]; exact a1
    · rw [cR_push0]; simp (disch := omega) only [hI_ne, hI_row]; exact aEq_push a2 k3 _
    · rw [cR_push1]; simp (disch := omega) only [hI_ne, hI_row]; exact aEq_push a3 k3 _
    · rw [cR_push2]; simp (disch := omega) only [hI_ne, hI_row]; exact aEq_push a4 k3 _
    · rw [cR_push3]; simp (disch := omega) only [hI_ne, hI_row]; exact aEq_push a5 k3 _
  rcases hv with ⟨rfl, rfl, rfl, rfl⟩ | ⟨rfl, q0, q1, y0, y1, hS, S0, S1⟩
  · refine ⟨_, vc_Crt_passDay_139 ?_, row 0, ?_⟩
    · simp (disch := omega) only [zI_add, zI_sub, zI_mul, zI_neg, zI_lit, zI_0, zI_1, zI_lt, zI_le, zI_eq, zI_clamp, zI_inT, zI_ite, mOb_0, mOb_1, mOb_3, mOb_4, mLd_1, mAr_1, mLen_1, mTrue_t, Int.toNat_zero, Int.toNat_one, true_and, and_true, not_true_eq_false, not_false_eq_true, true_or, or_true, or_self, false_or, or_false, forall_const, false_implies, true_implies, implies_true, z0, z2, z3, z4, c4, hI_ne]
      refine vc_Crt_passDay_203 ?_
      simp (disch := omega) only [zI_add, zI_sub, zI_mul, zI_neg, zI_lit, zI_0, zI_1, zI_lt, zI_le, zI_eq, zI_clamp, zI_inT, zI_ite, mOb_0, mOb_1, mOb_3, mOb_4, mLd_1, mAr_1, mLen_1, mTrue_t, Int.toNat_zero, Int.toNat_one, true_and, and_true, not_true_eq_false, not_false_eq_true, true_or, or_true, or_self, false_or, or_false, forall_const, false_implies, true_implies, implies_true, z0, z5, c4, hI_ne]
      repeat' (first | refine And.intro ?_ ?_ | with_reducible intro _)
      all_goals first | omega | rfl
    · exact hFr_pi (hFr_pi (hFr_pi (hFr_pi (hFr_pi (hFr_refl _ _) (by simp) _ _) (by simp) _ _) (by simp) _ _) (by simp) _ _) (by simp) _ _
  · have go : ∀ x, x = (if aCnt f ≤ cL C then (1 : Int) else 0) → ∃ h', mRuns (d + 3) 127 203 [some (.ref o), none, some (.ref a), some (.int (zI q)), some (.int (zI p)), none, none, some (.int (zI 1)), none] [.int (zI x), .int (zI (cN C)), .ref (o + 5)] (mPI (mPI (mPI h1 (o + 2) (cN C).toNat (zI q)) (o + 3) (cN C).toNat (zI p)) (o + 4) (cN C).toNat (zI f)) (.inl (none, h')) ∧ CC h' o (cPush C (cS C) (aHar (cHd C) S p) q p f x) ∧ hFr [o, o + 1, o + 2, o + 3, o + 4, o + 5] h1 h' := by
      intro x _
      obtain ⟨h2, r2, e2, f2⟩ := s_Crt_harden (d := d) (h := mPI (mPI (mPI (mPI h1 (o + 2) (cN C).toNat (zI q)) (o + 3) (cN C).toNat (zI p)) (o + 4) (cN C).toNat (zI f)) (o + 5) (cN C).toNat (zI x)) ho k9 y0 y1 S0 S1 (by simp (disch := omega) only [hI_ne]; exact a1)
      have g := row x
      have hd : ∀ y, y ≠ o → y ≠ o + 1 → (mPI h2 o 4 (zI (cN C + 1))).1 y = (mPI (mPI (mPI (mPI (mPI h1 (o + 2) (cN C).toNat (zI q)) (o + 3) (cN C).toNat (zI p)) (o + 4) (cN C).toNat (zI f)) (o + 5) (cN C).toNat (zI x)) o 4 (zI (cN C + 1))).1 y := by
        intro y y1 y2
        rw [hI_ne y1, hI_ne y1, f2.1 y (by simp [y2])]
      have ho' : (mPI h2 o 4 (zI (cN C + 1))).1 o = (mPI (mPI (mPI (mPI (mPI h1 (o + 2) (cN C).toNat (zI q)) (o + 3) (cN C).toNat (zI p)) (o + 4) (cN C).toNat (zI f)) (o + 5) (cN C).toNat (zI x)) o 4 (zI (cN C + 1))).1 o := by
        rw [hI_row, hI_row, f2.1 o (by simp)]
      have h24 : h2.1 o 4 = zI (cN C) := by rw [f2.1 o (by simp)]; simp (disch := omega) only [hI_ne]; exact c4
      refine ⟨mPI h2 o 4 (zI (cN C + 1)), vc_Crt_passDay_203 ?_, ?_, ?_⟩
      · simp (disch := omega) only [zI_add, zI_sub, zI_mul, zI_neg, zI_lit, zI_0, zI_1, zI_lt, zI_le, zI_eq, zI_clamp, zI_inT, zI_ite, mOb_0, mOb_1, mOb_3, mOb_4, mLd_1, mAr_1, mLen_1, mTrue_t, Int.toNat_zero, Int.toNat_one, true_and, and_true, not_true_eq_false, not_false_eq_true, true_or, or_true, or_self, false_or, or_false, forall_const, false_implies, true_implies, implies_true, z0, z5, p0, p1, hI_ne, hS]
        refine ⟨fun z => by omega, fun _ => ⟨h2, r2, ?_⟩⟩
        simp (disch := omega) only [zI_add, zI_sub, zI_mul, zI_neg, zI_lit, zI_0, zI_1, zI_lt, zI_le, zI_eq, zI_clamp, zI_inT, zI_ite, mOb_0, mOb_1, mOb_3, mOb_4, mLd_1, mAr_1, mLen_1, mTrue_t, Int.toNat_zero, Int.toNat_one, true_and, and_true, not_true_eq_false, not_false_eq_true, true_or, or_true, or_self, false_or, or_false, forall_const, false_implies, true_implies, implies_true, h24]
      · obtain ⟨g0, g1, g2, g3, g4, g5⟩ := g
        refine ⟨?_, ?_, ?_, ?_, ?_, ?_⟩
        · rw [ho']; exact g0
        · rw [hI_ne (by omega)]; exact e2
        · rw [hd (o + 2) (by omega) (by omega)]; exact g2
        · rw [hd (o + 3) (by omega) (by omega)]; exact g3
        · rw [hd (o + 4) (by omega) (by omega)]; exact g4
        · rw [hd (o + 5) (by omega) (by omega)]; exact g5
      · exact hFr_pi (hFr_trans (hFr_pi (hFr_pi (hFr_pi (hFr_pi (hFr_refl _ _) (by simp) _ _) (by simp) _ _) (by simp) _ _) (by simp) _ _) (hFr_mono f2 (by simp))) (by simp) _ _
    obtain ⟨h', r, g, fr⟩ := go _ rfl
    refine ⟨h', vc_Crt_passDay_139 ?_, ?_, fr⟩
    · have n1 : ¬ (1 : Int) = 0 := by omega
      simp (disch := omega) only [zI_add, zI_sub, zI_mul, zI_neg, zI_lit, zI_0, zI_1, zI_lt, zI_le, zI_eq, zI_clamp, zI_inT, zI_ite, mOb_0, mOb_1, mOb_3, mOb_4, mLd_1, mAr_1, mLen_1, mTrue_t, Int.toNat_zero, Int.toNat_one, true_and, and_true, not_true_eq_false, not_false_eq_true, true_or, or_true, or_self, false_or, or_false, forall_const, false_implies, true_implies, implies_true, z0, z2, z3, z4, c4, hI_ne]
      refine ⟨fun z => by omega, fun _ => ⟨_, _, s_bitCount f0 f1, ?_⟩⟩
      simp (disch := omega) only [zI_add, zI_sub, zI_mul, zI_neg, zI_lit, zI_0, zI_1, zI_lt, zI_le, zI_eq, zI_clamp, zI_inT, zI_ite, mOb_0, mOb_1, mOb_3, mOb_4, mLd_1, mAr_1, mLen_1, mTrue_t, Int.toNat_zero, Int.toNat_one, true_and, and_true, not_true_eq_false, not_false_eq_true, true_or, or_true, or_self, false_or, or_false, forall_const, false_implies, true_implies, implies_true, z0, c2, hI_ne]
      refine ⟨fun z => ?_, fun z => ?_⟩
      · rw [if_neg (by omega)] at r; exact r
      · rw [if_pos (by omega)] at r; exact r
    · have n1 : ¬ (1 : Int) = 0 := by omega
      rw [if_neg n1, if_neg n1]; exact g
theorem CC_seed {h : mHp} {o : Nat} {C : tC} (ho : cAd o) (hC : CC h o C) (s : Int32) : CC (mPI h o 1 s) o (cSd C s) := by
  obtain ⟨⟨c0, c1, c2, c3, c4⟩, a1, a2, a3, a4, a5⟩ := hC
  refine ⟨⟨?_, ?_, ?_, ?_, ?_⟩, ?_, ?_, ?_, ?_, ?_⟩
  · rw [hI_off (by omega)]; exact c0
  · rw [hI_same]; rfl
  · rw [hI_off (by omega)]; exact c2
  · rw [hI_off (by omega)]; exact c3
  · rw [hI_off (by omega)]; exact c4
  all_goals rw [hI_ne (by omega)]; assumption
theorem s_Crt_passDay {d : Nat} {h : mHp} {o b a : Nat} {B : tB} {C : tC} {ps pt : Int → Int} (ho : cAd o) (hb : bAd b) (ha : pAd a) (hO : BOk B) (hB : BC h b B) (hC : CC h o C) (hK : COk C) (hn : cN C < 300) (hs : aEq (h.1 (a + 1)) (bD B) ps) (ht : aEq (h.1 (a + 2)) (bD B) pt) (hps : ∀ i, 0 ≤ i → i < bD B → 0 ≤ ps i ∧ ps i < 32 ∧ 0 ≤ pt i ∧ pt i ≤ 100) :
    ∃ h', mRuns (d + 3) 127 0 [some (.ref o), some (.ref b), some (.ref a), none, none, none, none, none, none] [] h (.inl (none, h')) ∧ CC h' o (cDay B ps pt C) ∧ hFr [o, o + 1, o + 2, o + 3, o + 4, o + 5] h h' := by
  obtain ⟨z0, z1, z2, z3, z4, z5⟩ := cSh_of ho
  obtain ⟨b0, b1, b2, b3, b4, b5, b6, b7, b8, b9, b10⟩ := bSh_of hb
  have pr := pAd_rng ha
  have orr : o = 102 ∨ o = 108 := ho
  have brr : b = 1 ∨ b = 12 := hb
  have oo := hO.1
  obtain ⟨⟨c0, c1, c2, c3, c4⟩, a1, a2, a3, a4, a5⟩ := id hC
  obtain ⟨k1, k2, k3, k4, k5, k6, k7, k8, k9⟩ := id hK
  obtain ⟨e0, e4, e9, e13, x1, x2, x3, x4, x5, x6, x7, x8, x9, x10⟩ := id hB
  have hD := aDs_rng hO
  have hP := aPs_rng hO
  have v1 := aDrV_spec (aDrS (cS C))
  have v2 := aDrV_spec (aDrS (aDrS (cS C)))
  have v3 := aDrV_spec (aDrS (aDrS (aDrS (cS C))))
  have r0 := s_Crt_draw (d := d + 1) (h := h) ho (n := 1000) (by omega) (by omega)
  rw [c1] at r0
  by_cases g : aDrV (aDrS (cS C)) % 1000 < cH C ∧ 0 < aDs B ∧ 0 < aPs B
  · have hq := dQ_rng hO (cS C) g.2.1
    have hp := dP_rng hO (cS C) g.2.2
    have hsq := hs (dQ B (cS C)) hq.1 hq.2
    have htq := ht (dQ B (cS C)) hq.1 hq.2
    have hpq := hps (dQ B (cS C)) hq.1 hq.2
    -- three draws
    have r1 := s_Crt_draw (d := d + 1) (h := mPI h o 1 (aDrS (cS C))) ho (n := aDs B) g.2.1 (by omega)
    rw [hI_same] at r1
    have r2 := s_Crt_draw (d := d + 1) (h := mPI (mPI h o 1 (aDrS (cS C))) o 1 (aDrS (aDrS (cS C)))) ho (n := aPs B) g.2.2 (by omega)
    rw [hI_same] at r2
    have hh : ∀ v, mPI (mPI (mPI h o 1 (aDrS (cS C))) o 1 (aDrS (aDrS (cS C)))) o 1 v = mPI h o 1 v := by
      intro v; unfold mPI; simp only [Prod.mk.injEq, and_true]; funext x y; split <;> rfl
    rw [hh] at r2
    have hB3 : BC (mPI h o 1 (aDrS (aDrS (aDrS (cS C))))) b B := BC_of hB (fun k hk => hI_ne (by omega) _ _ _)
    have hf := s_Crt_whoFall (d := d) (h := mPI h o 1 (aDrS (aDrS (aDrS (cS C))))) (hd := cHd C) (q := dQ B (cS C)) (p := dP B (cS C)) ho hb ha hO hB3 (by rw [hI_ne (by omega)]; exact a1) k9 hq.1 hq.2 hp.1 hp.2 (by rw [hI_ne (by omega)]; exact hsq) hpq.1 hpq.2.1 (by rw [hI_ne (by omega)]; exact htq) hpq.2.2.1 hpq.2.2.2
    have fr := aWf_rng hO (hd := cHd C) (s := ps (dQ B (cS C))) (c := bF B 1 (dQ B (cS C)) - pt (dQ B (cS C))) (p := dP B (cS C))
    have hC3 := CC_seed ho hC (aDrS (aDrS (aDrS (cS C))))
    obtain ⟨h', re, gc, fe⟩ := s_Crt_pass_end (d := d) (s := 0) (q := dQ B (cS C)) (p := dP B (cS C)) (v := 1) (S := ps (dQ B (cS C))) ho ha hC3 (COk_sd hK _) (by rw [cN_sd]; exact hn) (by rw [cS_sd, hI_same]) fr.1 fr.2 (Or.inr ⟨rfl, hq.1, by omega, hp.1, by omega, by rw [hI_ne (by omega)]; exact hsq, hpq.1, hpq.2.1⟩)
    have n1 : ¬ (1 : Int) = 0 := by omega
    refine ⟨h', vc_Crt_passDay ?_, ?_, hFr_trans (hFr_pi (hFr_refl _ _) (by simp) _ _) fe⟩
    · simp (disch := omega) only [zI_add, zI_sub, zI_mul, zI_neg, zI_lit, zI_0, zI_1, zI_lt, zI_le, zI_eq, zI_clamp, zI_inT, zI_ite, mOb_0, mOb_1, mOb_3, mOb_4, mLd_1, mAr_1, mLen_1, mTrue_t, Int.toNat_zero, Int.toNat_one, true_and, and_true, not_true_eq_false, not_false_eq_true, true_or, or_true, or_self, false_or, or_false, forall_const, false_implies, true_implies, implies_true, z0, b0, c4, e0]
      refine ⟨fun _ => ⟨_, _, s_Crt_sum b3 (by omega) (by omega) (by omega) x3, ?_⟩, fun z => by omega⟩
      simp (disch := omega) only [zI_add, zI_sub, zI_mul, zI_neg, zI_lit, zI_0, zI_1, zI_lt, zI_le, zI_eq, zI_clamp, zI_inT, zI_ite, mOb_0, mOb_1, mOb_3, mOb_4, mLd_1, mAr_1, mLen_1, mTrue_t, Int.toNat_zero, Int.toNat_one, true_and, and_true, not_true_eq_false, not_false_eq_true, true_or, or_true, or_self, false_or, or_false, forall_const, false_implies, true_implies, implies_true, z0, b0, e4]
      refine ⟨_, _, s_Crt_sum b7 (by omega) (by omega) (by omega) x7, ?_⟩
      refine ⟨_, _, r0, ?_⟩
      rw [show sS (bF B 2) (bD B).toNat 0 = aDs B from rfl, show sS (bF B 6) (bP B).toNat 0 = aPs B from rfl]
      simp (disch := omega) only [zI_add, zI_sub, zI_mul, zI_neg, zI_lit, zI_0, zI_1, zI_lt, zI_le, zI_eq, zI_clamp, zI_inT, zI_ite, mOb_0, mOb_1, mOb_3, mOb_4, mLd_1, mAr_1, mLen_1, mTrue_t, Int.toNat_zero, Int.toNat_one, true_and, and_true, not_true_eq_false, not_false_eq_true, true_or, or_true, or_self, false_or, or_false, forall_const, false_implies, true_implies, implies_true, z0, b0, c3, hI_off]
      have g1 := g.1
      refine ⟨fun z => absurd g1 (by omega), fun _ => ⟨fun z => by omega, fun _ => ⟨fun z => by omega, fun _ => ⟨_, _, r1, ?_⟩⟩⟩⟩
      simp (disch := omega) only [zI_add, zI_sub, zI_mul, zI_neg, zI_lit, zI_0, zI_1, zI_lt, zI_le, zI_eq, zI_clamp, zI_inT, zI_ite, mOb_0, mOb_1, mOb_3, mOb_4, mLd_1, mAr_1, mLen_1, mTrue_t, Int.toNat_zero, Int.toNat_one, true_and, and_true, not_true_eq_false, not_false_eq_true, true_or, or_true, or_self, false_or, or_false, forall_const, false_implies, true_implies, implies_true, hI_ne, e0]
      refine ⟨_, _, s_Crt_pick b3 (by omega) (by omega) (by omega) (by simp (disch := omega) only [hI_ne]; exact x3) (fun x a b => by have := hO.2.1 x a b; omega) (Int.emod_nonneg _ (by omega)) (by have := Int.emod_lt_of_pos (aDrV (aDrS (aDrS (cS C)))) g.2.1; omega), ?_⟩
      simp (disch := omega) only [zI_add, zI_sub, zI_mul, zI_neg, zI_lit, zI_0, zI_1, zI_lt, zI_le, zI_eq, zI_clamp, zI_inT, zI_ite, mOb_0, mOb_1, mOb_3, mOb_4, mLd_1, mAr_1, mLen_1, mTrue_t, Int.toNat_zero, Int.toNat_one, true_and, and_true, not_true_eq_false, not_false_eq_true, true_or, or_true, or_self, false_or, or_false, forall_const, false_implies, true_implies, implies_true, z0, b0, hI_ne, e4]
      refine ⟨_, _, r2, _, _, s_Crt_pick b7 (by omega) (by omega) (by omega) (by simp (disch := omega) only [hI_ne]; exact x7) (fun x a b => by have := hO.2.2.1 x a b; omega) (Int.emod_nonneg _ (by omega)) (by have := Int.emod_lt_of_pos (aDrV (aDrS (aDrS (aDrS (cS C))))) g.2.2; omega), ?_⟩
      rw [show aPk (bF B 2) (bD B).toNat 0 (aDrV (aDrS (aDrS (cS C))) % aDs B) = dQ B (cS C) from rfl, show aPk (bF B 6) (bP B).toNat 0 (aDrV (aDrS (aDrS (aDrS (cS C)))) % aPs B) = dP B (cS C) from rfl]
      refine vc_Crt_passDay_103 ?_
      simp (disch := omega) only [zI_add, zI_sub, zI_mul, zI_neg, zI_lit, zI_0, zI_1, zI_lt, zI_le, zI_eq, zI_clamp, zI_inT, zI_ite, mOb_0, mOb_1, mOb_3, mOb_4, mLd_1, mAr_1, mLen_1, mTrue_t, Int.toNat_zero, Int.toNat_one, true_and, and_true, not_true_eq_false, not_false_eq_true, true_or, or_true, or_self, false_or, or_false, forall_const, false_implies, true_implies, implies_true]
      refine ⟨fun z => by omega, fun _ => ⟨fun z => by omega, fun _ => vc_Crt_passDay_119 ?_⟩⟩
      simp (disch := omega) only [zI_add, zI_sub, zI_mul, zI_neg, zI_lit, zI_0, zI_1, zI_lt, zI_le, zI_eq, zI_clamp, zI_inT, zI_ite, mOb_0, mOb_1, mOb_3, mOb_4, mLd_1, mAr_1, mLen_1, mTrue_t, Int.toNat_zero, Int.toNat_one, true_and, and_true, not_true_eq_false, not_false_eq_true, true_or, or_true, or_self, false_or, or_false, forall_const, false_implies, true_implies, implies_true, z0]
      exact ⟨fun z => by omega, fun _ => ⟨_, _, hf, re⟩⟩
    · unfold cDay; rw [if_pos g]
      rw [if_neg n1, if_neg n1, cPush_sd, cS_sd, cHd_sd, cL_sd] at gc
      exact gc
  · have hC1 := CC_seed ho hC (aDrS (cS C))
    obtain ⟨h', re, gc, fe⟩ := s_Crt_pass_end (d := d) (s := 0) (q := -1) (p := -1) (f := 0) (v := 0) (S := 0) ho ha hC1 (COk_sd hK _) (by rw [cN_sd]; exact hn) (by rw [cS_sd, hI_same]) (by omega) (by omega) (Or.inl ⟨rfl, rfl, rfl, rfl⟩)
    have k103 : mRuns (d + 3) 127 103 [some (.ref o), some (.ref b), some (.ref a), some (.int (zI (-1))), some (.int (zI (-1))), none, none, none, none] [] (mPI h o 1 (aDrS (cS C))) (.inl (none, h')) := by
      refine vc_Crt_passDay_103 ?_
      simp (disch := omega) only [zI_add, zI_sub, zI_mul, zI_neg, zI_lit, zI_0, zI_1, zI_lt, zI_le, zI_eq, zI_clamp, zI_inT, zI_ite, mOb_0, mOb_1, mOb_3, mOb_4, mLd_1, mAr_1, mLen_1, mTrue_t, Int.toNat_zero, Int.toNat_one, true_and, and_true, not_true_eq_false, not_false_eq_true, true_or, or_true, or_self, false_or, or_false, forall_const, false_implies, true_implies, implies_true]
      refine vc_Crt_passDay_119 ?_
      simp (disch := omega) only [zI_add, zI_sub, zI_mul, zI_neg, zI_lit, zI_0, zI_1, zI_lt, zI_le, zI_eq, zI_clamp, zI_inT, zI_ite, mOb_0, mOb_1, mOb_3, mOb_4, mLd_1, mAr_1, mLen_1, mTrue_t, Int.toNat_zero, Int.toNat_one, true_and, and_true, not_true_eq_false, not_false_eq_true, true_or, or_true, or_self, false_or, or_false, forall_const, false_implies, true_implies, implies_true]
      repeat' (first | refine And.intro ?_ ?_ | with_reducible intro _)
      all_goals first | omega | exact re
    refine ⟨h', vc_Crt_passDay ?_, ?_, hFr_trans (hFr_pi (hFr_refl _ _) (by simp) _ _) fe⟩
    · simp (disch := omega) only [zI_add, zI_sub, zI_mul, zI_neg, zI_lit, zI_0, zI_1, zI_lt, zI_le, zI_eq, zI_clamp, zI_inT, zI_ite, mOb_0, mOb_1, mOb_3, mOb_4, mLd_1, mAr_1, mLen_1, mTrue_t, Int.toNat_zero, Int.toNat_one, true_and, and_true, not_true_eq_false, not_false_eq_true, true_or, or_true, or_self, false_or, or_false, forall_const, false_implies, true_implies, implies_true, z0, b0, c4, e0]
      refine ⟨fun _ => ⟨_, _, s_Crt_sum b3 (by omega) (by omega) (by omega) x3, ?_⟩, fun z => by omega⟩
      simp (disch := omega) only [zI_add, zI_sub, zI_mul, zI_neg, zI_lit, zI_0, zI_1, zI_lt, zI_le, zI_eq, zI_clamp, zI_inT, zI_ite, mOb_0, mOb_1, mOb_3, mOb_4, mLd_1, mAr_1, mLen_1, mTrue_t, Int.toNat_zero, Int.toNat_one, true_and, and_true, not_true_eq_false, not_false_eq_true, true_or, or_true, or_self, false_or, or_false, forall_const, false_implies, true_implies, implies_true, z0, b0, e4]
      refine ⟨_, _, s_Crt_sum b7 (by omega) (by omega) (by omega) x7, ?_⟩
      refine ⟨_, _, r0, ?_⟩
      rw [show sS (bF B 2) (bD B).toNat 0 = aDs B from rfl, show sS (bF B 6) (bP B).toNat 0 = aPs B from rfl]
      simp (disch := omega) only [zI_add, zI_sub, zI_mul, zI_neg, zI_lit, zI_0, zI_1, zI_lt, zI_le, zI_eq, zI_clamp, zI_inT, zI_ite, mOb_0, mOb_1, mOb_3, mOb_4, mLd_1, mAr_1, mLen_1, mTrue_t, Int.toNat_zero, Int.toNat_one, true_and, and_true, not_true_eq_false, not_false_eq_true, true_or, or_true, or_self, false_or, or_false, forall_const, false_implies, true_implies, implies_true, z0, b0, c3, hI_off]
      refine ⟨fun z => k103, fun u => ⟨fun z => k103, fun w => ⟨fun z => k103, fun y => absurd ⟨by omega, by omega, by omega⟩ g⟩⟩⟩
    · unfold cDay; rw [if_neg g]
      rw [if_pos rfl, if_pos rfl, cPush_sd, cS_sd, cHd_sd] at gc
      exact gc

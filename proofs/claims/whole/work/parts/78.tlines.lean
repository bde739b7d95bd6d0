/-! L3, the class reads a line -/
theorem f_nz {f : Int} (f0 : 0 ≤ f) (f1 : f ≤ 5) (hf : f ≠ 0) (z : zI f = zI 0) : False := by
  rw [zI_eq (by omega) (by omega) (by omega) (by omega)] at z
  exact hf z
theorem QC_d {h : mHp} {b : Nat} {u : Int → Int} {n : Int} {R : tR} {B : tB} {T : Int → Bool} {cl : Int} (hQ : QC h b u n (R, B, T, cl)) (c0 : rF R = 0) : RC h u n R ∧ BC h b B ∧ BOk B ∧ UC h T ∧ h.1 23 8 = zI cl ∧ (cl = 0 ∨ cl = 1) := ⟨hQ.1, hQ.2 c0⟩
theorem s_Rdr_dish {d : Nat} {u : Int → Int} {n : Int} {R : tR} {B : tB} {T : Int → Bool} {cl : Int} {h : mHp} {b : Nat} (hb : bAd b) (n1 : n ≤ 700) (hu : uR u) (hO : ROk u n R) (hQ : QC h b u n (R, B, T, cl)) (c0 : rF R = 0) :
    ∃ h', mRuns (d + 5) 139 0 [some (.ref 23), some (.ref b), none, none, none, none] [] h (.inl (none, h')) ∧ QC h' b u n (xDi u n R B T cl) ∧ gF b h h' := by
  obtain ⟨hR, hB, hBO, hU, h8, hcl⟩ := QC_d hQ c0
  obtain ⟨s0, s1, s2, s3, s4, s5, s6, s7, s8, s9, s10⟩ := bSh_of hb
  have e0 := hB.1
  have o1 := hBO.1
  replace e0 : h.1 b 0 = zI (bD B) := e0
  unfold xDi
  by_cases c6 : 6 ≤ bD B
  · rw [if_pos c6]
    obtain ⟨h', r, C, f⟩ := s_Rdr_fl (d := d + 3) (k := 2) hO hR
    refine ⟨h', vc_Rdr_readDish ?_, ⟨C, fun z => absurd z (fl_f (by omega) R)⟩, gF_of f⟩
    simp (disch := omega) only [zI_add, zI_sub, zI_mul, zI_neg, zI_lit, zI_0, zI_1, zI_lt, zI_le, zI_eq, zI_clamp, zI_inT, zI_ite, mOb_0, mOb_1, mOb_3, mOb_4, mLd_1, mAr_1, mLen_1, mTrue_t, Int.toNat_zero, Int.toNat_one, true_and, and_true, not_true_eq_false, not_false_eq_true, true_or, or_true, or_self, false_or, or_false, forall_const, false_implies, true_implies, implies_true, s0, e0]
    exact ⟨fun z => by omega, fun _ => ⟨h', r, rfl⟩⟩
  · rw [if_neg c6]
    obtain ⟨h1, r1, C1, f1⟩ := s_Rdr_sc (d := d + 2) n1 hu hO hR
    have O1 := (Aft_sc hO).1
    obtain ⟨h2, r2, C2, f2⟩ := s_Rdr_nu (d := d + 1) (lo := 0) (hi := 95) n1 hu O1 C1 (by omega) (by omega) (by omega) (by omega)
    have O2 : ROk u n (dD1 u n R).1 := (Aft_nu (lo := 0) (hi := 95) n1 O1).1
    have v1 : (dD1 u n R).2 = 0 ∨ (0 ≤ (dD1 u n R).2 ∧ (dD1 u n R).2 ≤ 95) := nu_v u n 0 95 (aSc u n R)
    replace C2 : RC h2 u n (dD1 u n R).1 := C2
    obtain ⟨h3, r3, C3, f3⟩ := s_Rdr_nu (d := d + 1) (lo := (dD1 u n R).2 + 1) (hi := 95) n1 hu O2 C2 (by omega) (by omega) (by omega) (by omega)
    have O3 : ROk u n (dD2 u n R).1 := (Aft_nu (lo := (dD1 u n R).2 + 1) (hi := 95) n1 O2).1
    replace C3 : RC h3 u n (dD2 u n R).1 := C3
    obtain ⟨h4, r4, C4, f4⟩ := s_Rdr_op (d := d) (k := 5) (hi := 99) (wo := 1) (by omega) n1 hu O3 C3 (by omega) (by omega)
    have O4 : ROk u n (dD3 u n R).1 := (Aft_op (k := 5) (hi := 99) (wo := 1) n1 O3).1
    replace C4 : RC h4 u n (dD3 u n R).1 := C4
    obtain ⟨h5, r5, C5, f5⟩ := s_Rdr_en (d := d + 1) n1 hu O4 C4
    have O5 := (Aft_en n1 O4).1
    have ff := hFg_trans f1 (hFg_trans f2 (hFg_trans f3 (hFg_trans f4 f5)))
    have e7 := C5.2.2.2.2.2.2.1
    have ef := O5.2
    by_cases cf : rF (aEn u n (dD3 u n R).1) = 0
    · obtain ⟨q4, q5, q6⟩ := en_f cf
      obtain ⟨g1, g2⟩ := op_f (show rF (aOp u n 5 99 1 (dD2 u n R).1).1 = 0 from q4)
      obtain ⟨g3, g4, g5, g6, g7⟩ := nu_f (show rF (aNu u n ((dD1 u n R).2 + 1) 95 (dD1 u n R).1).1 = 0 from g1)
      obtain ⟨g8, g9, g10, g11, g12⟩ := nu_f (show rF (aNu u n 0 95 (aSc u n R)).1 = 0 from g3)
      have w1 : (dD1 u n R).2 = rVa (aSc u n R) := by unfold dD1; rw [g9]
      have w2 : (dD2 u n R).2 = rVa (dD1 u n R).1 := by unfold dD2; rw [g4]
      have w3 : (dD3 u n R).2 = 1 ∨ (0 ≤ (dD3 u n R).2 ∧ (dD3 u n R).2 ≤ 99) := g2
      have e05 : h5.1 b 0 = zI (bD B) := by rw [ff.1 b (by simp) (by rcases hb with e | e <;> omega)]; exact e0
      have hn : b ≠ 23 ∧ b + 1 ≠ 23 ∧ b + 2 ≠ 23 ∧ b + 3 ≠ 23 ∧ b ≠ 24 ∧ b + 1 ≠ 24 ∧ b + 2 ≠ 24 ∧ b + 3 ≠ 24 ∧ b ≠ 25 ∧ b + 1 ≠ 25 ∧ b + 2 ≠ 25 ∧ b + 3 ≠ 25 := by rcases hb with e | e <;> omega
      refine ⟨mPI (mPI (mPI (mPI h5 (b + 1) (bD B).toNat (zI (dD1 u n R).2)) (b + 2) (bD B).toNat (zI (dD2 u n R).2)) (b + 3) (bD B).toNat (zI (dD3 u n R).2)) b 0 (zI (bD B + 1)), vc_Rdr_readDish ?_, ⟨RC_fr C5 ?_ ?_, fun _ => ⟨BC_D hb (BC_fg hb hB ff) (by omega), BOk_D hBO (by omega) (by omega) (by omega) (by omega) (by omega) (by omega), UC_of hU ?_, ?_, hcl⟩⟩, ?_⟩
      · simp (disch := omega) only [zI_add, zI_sub, zI_mul, zI_neg, zI_lit, zI_0, zI_1, zI_lt, zI_le, zI_eq, zI_clamp, zI_inT, zI_ite, mOb_0, mOb_1, mOb_3, mOb_4, mLd_1, mAr_1, mLen_1, mTrue_t, Int.toNat_zero, Int.toNat_one, true_and, and_true, not_true_eq_false, not_false_eq_true, true_or, or_true, or_self, false_or, or_false, forall_const, false_implies, true_implies, implies_true, s0, e0]
        refine ⟨fun _ => ⟨h1, r1, _, h2, r2, _, h3, by rw [zI_add]; exact r3, _, h4, r4, h5, r5, ?_⟩, fun z => by omega⟩
        simp (disch := omega) only [zI_add, zI_sub, zI_mul, zI_neg, zI_lit, zI_0, zI_1, zI_lt, zI_le, zI_eq, zI_clamp, zI_inT, zI_ite, mOb_0, mOb_1, mOb_3, mOb_4, mLd_1, mAr_1, mLen_1, mTrue_t, Int.toNat_zero, Int.toNat_one, true_and, and_true, not_true_eq_false, not_false_eq_true, true_or, or_true, or_self, false_or, or_false, forall_const, false_implies, true_implies, implies_true, s0, s1, s2, s3, e0, e05, e7, hI_ne]
        repeat' (first | refine And.intro ?_ ?_ | with_reducible intro _)
        all_goals first | omega | rfl
      · rw [hI_ne (by omega), hI_ne (by omega), hI_ne (by omega), hI_ne (by omega)]
      · rw [hI_ne (by omega), hI_ne (by omega), hI_ne (by omega), hI_ne (by omega)]
      · rw [hI_ne (by omega), hI_ne (by omega), hI_ne (by omega), hI_ne (by omega)]; exact ff.1 25 (by simp) (by omega)
      · rw [hI_ne (by omega), hI_ne (by omega), hI_ne (by omega), hI_ne (by omega), ff.2.1 8 (by simp)]; exact h8
      · exact gF_b hb (i := 0) (gF_b hb (gF_b hb (gF_b hb (gF_of ff) (by omega) _ _) (by omega) _ _) (by omega) _ _) (by omega) _ _
    · refine ⟨h5, vc_Rdr_readDish ?_, ⟨C5, fun z => absurd z cf⟩, gF_of ff⟩
      simp (disch := omega) only [zI_add, zI_sub, zI_mul, zI_neg, zI_lit, zI_0, zI_1, zI_lt, zI_le, zI_eq, zI_clamp, zI_inT, zI_ite, mOb_0, mOb_1, mOb_3, mOb_4, mLd_1, mAr_1, mLen_1, mTrue_t, Int.toNat_zero, Int.toNat_one, true_and, and_true, not_true_eq_false, not_false_eq_true, true_or, or_true, or_self, false_or, or_false, forall_const, false_implies, true_implies, implies_true, s0, e0]
      refine ⟨fun _ => ⟨h1, r1, _, h2, r2, _, h3, by rw [zI_add]; exact r3, _, h4, r4, h5, r5, ?_⟩, fun z => by omega⟩
      rw [e7]
      refine ⟨fun _ => rfl, fun z => ?_⟩
      exact (f_nz ef.1 ef.2.1 cf z).elim
theorem s_Rdr_pois60 {d : Nat} {u : Int → Int} {n : Int} {R : tR} {B : tB} {h : mHp} {b : Nat} {a w : Int} (hb : bAd b) (n1 : n ≤ 700) (hu : uR u) (hO : ROk u n R) (hR : RC h u n R) (e4 : h.1 b 4 = zI (bP B)) (p0 : 0 ≤ bP B) (p1 : bP B < 5) (hw : w = 0 ∨ w = 1) :
    ∃ h5, hFg 23 [] fsR h h5 ∧ RC h5 u n (aEn u n (aOp u n 5 99 1 (aOp u n 7 9 0 R).1).1) ∧
      (rF (aEn u n (aOp u n 5 99 1 (aOp u n 7 9 0 R).1).1) ≠ 0 → mRuns (d + 5) 144 60 [some (.ref 23), some (.ref b), some (.int (zI (bP B))), some (.int (zI a)), some (.int (zI w)), none, none] [] h (.inl (none, h5))) ∧
      (rF (aEn u n (aOp u n 5 99 1 (aOp u n 7 9 0 R).1).1) = 0 → mRuns (d + 5) 144 60 [some (.ref 23), some (.ref b), some (.int (zI (bP B))), some (.int (zI a)), some (.int (zI w)), none, none] [] h (.inl (none, mPI (mPI (mPI (mPI (mPI h5 (b + 4) (bP B).toNat (zI a)) (b + 5) (bP B).toNat (zI w)) (b + 6) (bP B).toNat (zI (aOp u n 7 9 0 R).2)) (b + 7) (bP B).toNat (zI (aOp u n 5 99 1 (aOp u n 7 9 0 R).1).2)) b 4 (zI (bP B + 1))))) := by
  obtain ⟨s0, s1, s2, s3, s4, s5, s6, s7, s8, s9, s10⟩ := bSh_of hb
  obtain ⟨h1, r1, C1, f1⟩ := s_Rdr_op (d := d) (k := 7) (hi := 9) (wo := 0) (by omega) n1 hu hO hR (by omega) (by omega)
  have O1 := (Aft_op (k := 7) (hi := 9) (wo := 0) n1 hO).1
  obtain ⟨h2, r2, C2, f2⟩ := s_Rdr_op (d := d) (k := 5) (hi := 99) (wo := 1) (by omega) n1 hu O1 C1 (by omega) (by omega)
  have O2 := (Aft_op (k := 5) (hi := 99) (wo := 1) n1 O1).1
  obtain ⟨h5, r5, C5, f5⟩ := s_Rdr_en (d := d + 1) n1 hu O2 C2
  have O5 := (Aft_en n1 O2).1
  have ff := hFg_trans f1 (hFg_trans f2 f5)
  have e7 := C5.2.2.2.2.2.2.1
  have ef := O5.2
  have e45 : h5.1 b 4 = zI (bP B) := by rw [ff.1 b (by simp) (by rcases hb with e | e <;> omega)]; exact e4
  refine ⟨h5, ff, C5, fun cf => vc_Rdr_readPoison_60 ⟨_, h1, r1, _, h2, r2, h5, r5, ?_⟩, fun cf => vc_Rdr_readPoison_60 ⟨_, h1, r1, _, h2, r2, h5, r5, ?_⟩⟩
  · rw [e7]
    refine ⟨fun _ => rfl, fun z => ?_⟩
    exact (f_nz ef.1 ef.2.1 cf z).elim
  · have K : ∀ v : Int, v = w → mRuns (d + 5) 144 115 [none, some (.ref b), some (.int (zI (bP B))), none, none, some (.int (zI (aOp u n 7 9 0 R).2)), some (.int (zI (aOp u n 5 99 1 (aOp u n 7 9 0 R).1).2))] [.int (zI v), .int (zI (bP B)), .ref (b + 5)] (mPI h5 (b + 4) (bP B).toNat (zI a)) (.inl (none, mPI (mPI (mPI (mPI (mPI h5 (b + 4) (bP B).toNat (zI a)) (b + 5) (bP B).toNat (zI w)) (b + 6) (bP B).toNat (zI (aOp u n 7 9 0 R).2)) (b + 7) (bP B).toNat (zI (aOp u n 5 99 1 (aOp u n 7 9 0 R).1).2)) b 4 (zI (bP B + 1)))) := by
      intro v e
      subst e
      refine vc_Rdr_readPoison_115 ?_
      simp (disch := omega) only [zI_add, zI_sub, zI_mul, zI_neg, zI_lit, zI_0, zI_1, zI_lt, zI_le, zI_eq, zI_clamp, zI_inT, zI_ite, mOb_0, mOb_1, mOb_3, mOb_4, mLd_1, mAr_1, mLen_1, mTrue_t, Int.toNat_zero, Int.toNat_one, true_and, and_true, not_true_eq_false, not_false_eq_true, true_or, or_true, or_self, false_or, or_false, forall_const, false_implies, true_implies, implies_true, s0, s5, s6, s7, e45, hI_ne]
    simp (disch := omega) only [zI_add, zI_sub, zI_mul, zI_neg, zI_lit, zI_0, zI_1, zI_lt, zI_le, zI_eq, zI_clamp, zI_inT, zI_ite, mOb_0, mOb_1, mOb_3, mOb_4, mLd_1, mAr_1, mLen_1, mTrue_t, Int.toNat_zero, Int.toNat_one, true_and, and_true, not_true_eq_false, not_false_eq_true, true_or, or_true, or_self, false_or, or_false, forall_const, false_implies, true_implies, implies_true, s0, s4, e7]
    repeat' (first | refine And.intro ?_ ?_ | with_reducible intro _)
    all_goals first | omega | exact K _ (by omega)
theorem s_Rdr_pois {d : Nat} {u : Int → Int} {n : Int} {R : tR} {B : tB} {T : Int → Bool} {cl : Int} {h : mHp} {b : Nat} (hb : bAd b) (n1 : n ≤ 700) (hu : uR u) (hO : ROk u n R) (hQ : QC h b u n (R, B, T, cl)) (c0 : rF R = 0) :
    ∃ h', mRuns (d + 5) 144 0 [some (.ref 23), some (.ref b), none, none, none, none, none] [] h (.inl (none, h')) ∧ QC h' b u n (xPo u n R B T cl) ∧ gF b h h' := by
  obtain ⟨hR, hB, hBO, hU, h8, hcl⟩ := QC_d hQ c0
  obtain ⟨s0, s1, s2, s3, s4, s5, s6, s7, s8, s9, s10⟩ := bSh_of hb
  have e4 := hB.2.1
  have o1 := hBO.1
  replace e4 : h.1 b 4 = zI (bP B) := e4
  unfold xPo
  by_cases c6 : 5 ≤ bP B
  · rw [if_pos c6]
    obtain ⟨h', r, C, f⟩ := s_Rdr_fl (d := d + 3) (k := 2) hO hR
    refine ⟨h', vc_Rdr_readPoison ?_, ⟨C, fun z => absurd z (fl_f (by omega) R)⟩, gF_of f⟩
    simp (disch := omega) only [zI_add, zI_sub, zI_mul, zI_neg, zI_lit, zI_0, zI_1, zI_lt, zI_le, zI_eq, zI_clamp, zI_inT, zI_ite, mOb_0, mOb_1, mOb_3, mOb_4, mLd_1, mAr_1, mLen_1, mTrue_t, Int.toNat_zero, Int.toNat_one, true_and, and_true, not_true_eq_false, not_false_eq_true, true_or, or_true, or_self, false_or, or_false, forall_const, false_implies, true_implies, implies_true, s0, e4]
    exact ⟨fun z => by omega, fun _ => ⟨h', r, rfl⟩⟩
  · rw [if_neg c6]
    have hbn : b ≠ 23 := by rcases hb with e | e <;> omega
    obtain ⟨h1, r1, C1, f1⟩ := s_Rdr_sc (d := d + 2) n1 hu hO hR
    have O1 := (Aft_sc hO).1
    obtain ⟨h2, r2, C2, f2⟩ := s_Rdr_nu (d := d + 1) (lo := 1) (hi := 40) n1 hu O1 C1 (by omega) (by omega) (by omega) (by omega)
    have O2 : ROk u n (dP1 u n R).1 := (Aft_nu (lo := 1) (hi := 40) n1 O1).1
    replace C2 : RC h2 u n (dP1 u n R).1 := C2
    have e27 := C2.2.2.2.2.2.2.1
    have ef2 := O2.2
    have w := s_Rdr_w (d := d + 3) (k := 6) (by omega) n1 hu O2 C2
    have w01 : aW u 6 (dP1 u n R).1 = 0 ∨ aW u 6 (dP1 u n R).1 = 1 := aIs_01 _ _ _ _ _
    have W01 : dPw u n R = 0 ∨ dPw u n R = 1 := by unfold dPw; split <;> omega
    have E : ∃ h3, hFg 23 [] fsR h2 h3 ∧ RC h3 u n (dP2 u n R) ∧ ROk u n (dP2 u n R) ∧ ∀ out, mRuns (d + 5) 144 60 [some (.ref 23), some (.ref b), some (.int (zI (bP B))), some (.int (zI (dP1 u n R).2)), some (.int (zI (dPw u n R))), none, none] [] h3 out → mRuns (d + 5) 144 0 [some (.ref 23), some (.ref b), none, none, none, none, none] [] h out := by
      unfold dP2
      by_cases cw : dPw u n R = 1
      · rw [if_pos cw]
        have cw' : rF (dP1 u n R).1 = 0 ∧ aW u 6 (dP1 u n R).1 = 1 := by
          by_cases q : rF (dP1 u n R).1 = 0 ∧ aW u 6 (dP1 u n R).1 = 1
          · exact q
          · unfold dPw at cw; rw [if_neg q] at cw; omega
        obtain ⟨h3, r3, C3, f3⟩ := s_Rdr_sc (d := d + 2) n1 hu O2 C2
        refine ⟨h3, f3, C3, (Aft_sc O2).1, fun out H => vc_Rdr_readPoison ?_⟩
        rw [cw] at H
        simp (disch := omega) only [zI_add, zI_sub, zI_mul, zI_neg, zI_lit, zI_0, zI_1, zI_lt, zI_le, zI_eq, zI_clamp, zI_inT, zI_ite, mOb_0, mOb_1, mOb_3, mOb_4, mLd_1, mAr_1, mLen_1, mTrue_t, Int.toNat_zero, Int.toNat_one, true_and, and_true, not_true_eq_false, not_false_eq_true, true_or, or_true, or_self, false_or, or_false, forall_const, false_implies, true_implies, implies_true, s0, e4]
        refine ⟨fun _ => ⟨h1, r1, _, h2, r2, ?_⟩, fun z => by omega⟩
        simp (disch := omega) only [zI_add, zI_sub, zI_mul, zI_neg, zI_lit, zI_0, zI_1, zI_lt, zI_le, zI_eq, zI_clamp, zI_inT, zI_ite, mOb_0, mOb_1, mOb_3, mOb_4, mLd_1, mAr_1, mLen_1, mTrue_t, Int.toNat_zero, Int.toNat_one, true_and, and_true, not_true_eq_false, not_false_eq_true, true_or, or_true, or_self, false_or, or_false, forall_const, false_implies, true_implies, implies_true, e27]
        refine ⟨fun z => absurd cw'.1 z, fun _ => ⟨_, _, w, ?_⟩⟩
        simp (disch := omega) only [zI_add, zI_sub, zI_mul, zI_neg, zI_lit, zI_0, zI_1, zI_lt, zI_le, zI_eq, zI_clamp, zI_inT, zI_ite, mOb_0, mOb_1, mOb_3, mOb_4, mLd_1, mAr_1, mLen_1, mTrue_t, Int.toNat_zero, Int.toNat_one, true_and, and_true, not_true_eq_false, not_false_eq_true, true_or, or_true, or_self, false_or, or_false, forall_const, false_implies, true_implies, implies_true]
        repeat' (first | refine And.intro ?_ ?_ | with_reducible intro _)
        all_goals first | omega | exact ⟨h3, r3, H⟩
      · rw [if_neg cw]
        have cw0 : dPw u n R = 0 := by omega
        refine ⟨h2, hFg_refl _ _ _ _, C2, O2, fun out H => vc_Rdr_readPoison ?_⟩
        rw [cw0] at H
        simp (disch := omega) only [zI_add, zI_sub, zI_mul, zI_neg, zI_lit, zI_0, zI_1, zI_lt, zI_le, zI_eq, zI_clamp, zI_inT, zI_ite, mOb_0, mOb_1, mOb_3, mOb_4, mLd_1, mAr_1, mLen_1, mTrue_t, Int.toNat_zero, Int.toNat_one, true_and, and_true, not_true_eq_false, not_false_eq_true, true_or, or_true, or_self, false_or, or_false, forall_const, false_implies, true_implies, implies_true, s0, e4]
        refine ⟨fun _ => ⟨h1, r1, _, h2, r2, ?_⟩, fun z => by omega⟩
        simp (disch := omega) only [zI_add, zI_sub, zI_mul, zI_neg, zI_lit, zI_0, zI_1, zI_lt, zI_le, zI_eq, zI_clamp, zI_inT, zI_ite, mOb_0, mOb_1, mOb_3, mOb_4, mLd_1, mAr_1, mLen_1, mTrue_t, Int.toNat_zero, Int.toNat_one, true_and, and_true, not_true_eq_false, not_false_eq_true, true_or, or_true, or_self, false_or, or_false, forall_const, false_implies, true_implies, implies_true, e27]
        refine ⟨fun z => ?_, fun z => ⟨_, _, w, ?_⟩⟩
        · repeat' (first | refine And.intro ?_ ?_ | with_reducible intro _)
          all_goals first | omega | exact H
        · have w0 : aW u 6 (dP1 u n R).1 = 0 := by
            rcases w01 with q | q
            · exact q
            · unfold dPw at cw; rw [if_pos ⟨z, q⟩] at cw; exact absurd rfl cw
          simp (disch := omega) only [zI_add, zI_sub, zI_mul, zI_neg, zI_lit, zI_0, zI_1, zI_lt, zI_le, zI_eq, zI_clamp, zI_inT, zI_ite, mOb_0, mOb_1, mOb_3, mOb_4, mLd_1, mAr_1, mLen_1, mTrue_t, Int.toNat_zero, Int.toNat_one, true_and, and_true, not_true_eq_false, not_false_eq_true, true_or, or_true, or_self, false_or, or_false, forall_const, false_implies, true_implies, implies_true]
          repeat' (first | refine And.intro ?_ ?_ | with_reducible intro _)
          all_goals first | omega | exact H
    obtain ⟨h3, f3, C3, O3, K⟩ := E
    have f13 := hFg_trans f1 (hFg_trans f2 f3)
    have e43 : h3.1 b 4 = zI (bP B) := by rw [f13.1 b (by simp) hbn]; exact e4
    obtain ⟨h5, f5, C5, g0, g1⟩ := s_Rdr_pois60 (d := d) (a := (dP1 u n R).2) (w := dPw u n R) hb n1 hu O3 C3 e43 (by omega) (by omega) W01
    have ff := hFg_trans f13 f5
    by_cases cf : rF (aEn u n (dP4 u n R).1) = 0
    · have g1 := g1 cf
      obtain ⟨q4, q5, q6⟩ := en_f cf
      obtain ⟨y1, y2⟩ := op_f (show rF (aOp u n 5 99 1 (dP3 u n R).1).1 = 0 from q4)
      obtain ⟨y3, y4⟩ := op_f (show rF (aOp u n 7 9 0 (dP2 u n R)).1 = 0 from y1)
      have y5 : rF (dP1 u n R).1 = 0 := by
        unfold dP2 at y3
        split at y3
        · exact y3
        · exact y3
      obtain ⟨g8, g9, g10, g11, g12⟩ := nu_f (show rF (aNu u n 1 40 (aSc u n R)).1 = 0 from y5)
      have w1 : (dP1 u n R).2 = rVa (aSc u n R) := by unfold dP1; rw [g9]
      have w3 : (dP3 u n R).2 = 0 ∨ (0 ≤ (dP3 u n R).2 ∧ (dP3 u n R).2 ≤ 9) := y4
      have w4 : (dP4 u n R).2 = 1 ∨ (0 ≤ (dP4 u n R).2 ∧ (dP4 u n R).2 ≤ 99) := y2
      have hn : b ≠ 23 ∧ b + 4 ≠ 23 ∧ b + 5 ≠ 23 ∧ b + 6 ≠ 23 ∧ b + 7 ≠ 23 ∧ b ≠ 24 ∧ b + 4 ≠ 24 ∧ b + 5 ≠ 24 ∧ b + 6 ≠ 24 ∧ b + 7 ≠ 24 ∧ b ≠ 25 ∧ b + 4 ≠ 25 ∧ b + 5 ≠ 25 ∧ b + 6 ≠ 25 ∧ b + 7 ≠ 25 := by rcases hb with e | e <;> omega
      refine ⟨mPI (mPI (mPI (mPI (mPI h5 (b + 4) (bP B).toNat (zI (dP1 u n R).2)) (b + 5) (bP B).toNat (zI (dPw u n R))) (b + 6) (bP B).toNat (zI (dP3 u n R).2)) (b + 7) (bP B).toNat (zI (dP4 u n R).2)) b 4 (zI (bP B + 1)), K _ g1, ⟨RC_fr C5 ?_ ?_, fun _ => ⟨BC_P hb (BC_fg hb hB ff) (by omega), BOk_P hBO (by omega) (by omega) (by omega) (by omega) (by omega) (by omega) (by omega) (by omega) (by omega), UC_of hU ?_, ?_, hcl⟩⟩, ?_⟩
      · rw [hI_ne (by omega), hI_ne (by omega), hI_ne (by omega), hI_ne (by omega), hI_ne (by omega)]
      · rw [hI_ne (by omega), hI_ne (by omega), hI_ne (by omega), hI_ne (by omega), hI_ne (by omega)]
      · rw [hI_ne (by omega), hI_ne (by omega), hI_ne (by omega), hI_ne (by omega), hI_ne (by omega)]; exact ff.1 25 (by simp) (by omega)
      · rw [hI_ne (by omega), hI_ne (by omega), hI_ne (by omega), hI_ne (by omega), hI_ne (by omega), ff.2.1 8 (by simp)]; exact h8
      · exact gF_b hb (i := 0) (gF_b hb (gF_b hb (gF_b hb (gF_b hb (gF_of ff) (by omega) _ _) (by omega) _ _) (by omega) _ _) (by omega) _ _) (by omega) _ _
    · exact ⟨h5, K _ (g0 cf), ⟨C5, fun z => absurd z cf⟩, gF_of ff⟩
theorem s_Rdr_tast {d : Nat} {u : Int → Int} {n : Int} {R : tR} {B : tB} {T : Int → Bool} {cl : Int} {h : mHp} {b : Nat} (hb : bAd b) (n1 : n ≤ 700) (hu : uR u) (hO : ROk u n R) (hQ : QC h b u n (R, B, T, cl)) (c0 : rF R = 0) :
    ∃ h', mRuns (d + 5) 145 0 [some (.ref 23), some (.ref b), none, none, none] [] h (.inl (none, h')) ∧ QC h' b u n (xTa u n R B T cl) ∧ gF b h h' := by
  obtain ⟨hR, hB, hBO, hU, h8, hcl⟩ := QC_d hQ c0
  obtain ⟨s0, s1, s2, s3, s4, s5, s6, s7, s8, s9, s10⟩ := bSh_of hb
  have e0 := hB.2.2.1
  have o1 := hBO.1
  replace e0 : h.1 b 9 = zI (bT B) := e0
  unfold xTa
  by_cases c6 : 5 ≤ bT B
  · rw [if_pos c6]
    obtain ⟨h', r, C, f⟩ := s_Rdr_fl (d := d + 3) (k := 2) hO hR
    refine ⟨h', vc_Rdr_readTaster ?_, ⟨C, fun z => absurd z (fl_f (by omega) R)⟩, gF_of f⟩
    simp (disch := omega) only [zI_add, zI_sub, zI_mul, zI_neg, zI_lit, zI_0, zI_1, zI_lt, zI_le, zI_eq, zI_clamp, zI_inT, zI_ite, mOb_0, mOb_1, mOb_3, mOb_4, mLd_1, mAr_1, mLen_1, mTrue_t, Int.toNat_zero, Int.toNat_one, true_and, and_true, not_true_eq_false, not_false_eq_true, true_or, or_true, or_self, false_or, or_false, forall_const, false_implies, true_implies, implies_true, s0, e0]
    exact ⟨fun z => by omega, fun _ => ⟨h', r, rfl⟩⟩
  · rw [if_neg c6]
    obtain ⟨h1, r1, C1, f1⟩ := s_Rdr_sc (d := d + 2) n1 hu hO hR
    have O1 := (Aft_sc hO).1
    obtain ⟨h2, r2, C2, f2⟩ := s_Rdr_ki (d := d + 1) n1 hu O1 C1
    have O2 : ROk u n (dT1 u n R) := (Aft_ki n1 O1).1
    replace C2 : RC h2 u n (dT1 u n R) := C2
    obtain ⟨h4, r4, C4, f4⟩ := s_Rdr_op (d := d) (k := 8) (hi := 6) (wo := 6) (by omega) n1 hu O2 C2 (by omega) (by omega)
    have O4 : ROk u n (dT2 u n R).1 := (Aft_op (k := 8) (hi := 6) (wo := 6) n1 O2).1
    replace C4 : RC h4 u n (dT2 u n R).1 := C4
    obtain ⟨h5, r5, C5, f5⟩ := s_Rdr_en (d := d + 1) n1 hu O4 C4
    have O5 := (Aft_en n1 O4).1
    have ff := hFg_trans f1 (hFg_trans f2 (hFg_trans f4 f5))
    have e7 := C5.2.2.2.2.2.2.1
    have ef := O5.2
    by_cases cf : rF (aEn u n (dT2 u n R).1) = 0
    · obtain ⟨q4, q5, q6⟩ := en_f cf
      obtain ⟨g1, g2⟩ := op_f (show rF (aOp u n 8 6 6 (dT1 u n R)).1 = 0 from q4)
      obtain ⟨g3, g4, g5⟩ := ki_f (show rF (aKi u n (aSc u n R)) = 0 from g1)
      have w1 : -1 ≤ dTk u n R ∧ dTk u n R ≤ 4 := kn_rng u (aSc u n R)
      have w2 : dTk u n R ≠ -1 := g4
      have w3 : (dT2 u n R).2 = 6 ∨ (0 ≤ (dT2 u n R).2 ∧ (dT2 u n R).2 ≤ 6) := g2
      have e05 : h5.1 b 9 = zI (bT B) := by rw [ff.1 b (by simp) (by rcases hb with e | e <;> omega)]; exact e0
      have hn : b ≠ 23 ∧ b + 8 ≠ 23 ∧ b + 9 ≠ 23 ∧ b ≠ 24 ∧ b + 8 ≠ 24 ∧ b + 9 ≠ 24 ∧ b ≠ 25 ∧ b + 8 ≠ 25 ∧ b + 9 ≠ 25 := by rcases hb with e | e <;> omega
      refine ⟨mPI (mPI (mPI h5 (b + 8) (bT B).toNat (zI (dTk u n R))) (b + 9) (bT B).toNat (zI (dT2 u n R).2)) b 9 (zI (bT B + 1)), vc_Rdr_readTaster ?_, ⟨RC_fr C5 ?_ ?_, fun _ => ⟨BC_T hb (BC_fg hb hB ff) (by omega), BOk_T hBO (by omega) (by omega) (by omega) (by omega) (by omega), UC_of hU ?_, ?_, hcl⟩⟩, ?_⟩
      · simp (disch := omega) only [zI_add, zI_sub, zI_mul, zI_neg, zI_lit, zI_0, zI_1, zI_lt, zI_le, zI_eq, zI_clamp, zI_inT, zI_ite, mOb_0, mOb_1, mOb_3, mOb_4, mLd_1, mAr_1, mLen_1, mTrue_t, Int.toNat_zero, Int.toNat_one, true_and, and_true, not_true_eq_false, not_false_eq_true, true_or, or_true, or_self, false_or, or_false, forall_const, false_implies, true_implies, implies_true, s0, e0]
        refine ⟨fun _ => ⟨h1, r1, _, h2, r2, _, h4, r4, h5, r5, ?_⟩, fun z => by omega⟩
        simp (disch := omega) only [zI_add, zI_sub, zI_mul, zI_neg, zI_lit, zI_0, zI_1, zI_lt, zI_le, zI_eq, zI_clamp, zI_inT, zI_ite, mOb_0, mOb_1, mOb_3, mOb_4, mLd_1, mAr_1, mLen_1, mTrue_t, Int.toNat_zero, Int.toNat_one, true_and, and_true, not_true_eq_false, not_false_eq_true, true_or, or_true, or_self, false_or, or_false, forall_const, false_implies, true_implies, implies_true, s0, s8, s9, e0, e05, e7, hI_ne]
        repeat' (first | refine And.intro ?_ ?_ | with_reducible intro _)
        all_goals first | omega | rfl
      · rw [hI_ne (by omega), hI_ne (by omega), hI_ne (by omega)]
      · rw [hI_ne (by omega), hI_ne (by omega), hI_ne (by omega)]
      · rw [hI_ne (by omega), hI_ne (by omega), hI_ne (by omega)]; exact ff.1 25 (by simp) (by omega)
      · rw [hI_ne (by omega), hI_ne (by omega), hI_ne (by omega), ff.2.1 8 (by simp)]; exact h8
      · exact gF_b hb (i := 0) (gF_b hb (gF_b hb (gF_of ff) (by omega) _ _) (by omega) _ _) (by omega) _ _
    · refine ⟨h5, vc_Rdr_readTaster ?_, ⟨C5, fun z => absurd z cf⟩, gF_of ff⟩
      simp (disch := omega) only [zI_add, zI_sub, zI_mul, zI_neg, zI_lit, zI_0, zI_1, zI_lt, zI_le, zI_eq, zI_clamp, zI_inT, zI_ite, mOb_0, mOb_1, mOb_3, mOb_4, mLd_1, mAr_1, mLen_1, mTrue_t, Int.toNat_zero, Int.toNat_one, true_and, and_true, not_true_eq_false, not_false_eq_true, true_or, or_true, or_self, false_or, or_false, forall_const, false_implies, true_implies, implies_true, s0, e0]
      refine ⟨fun _ => ⟨h1, r1, _, h2, r2, _, h4, r4, h5, r5, ?_⟩, fun z => by omega⟩
      rw [e7]
      refine ⟨fun _ => rfl, fun z => ?_⟩
      exact (f_nz ef.1 ef.2.1 cf z).elim
theorem s_Rdr_clean {d : Nat} {u : Int → Int} {n : Int} {R : tR} {B : tB} {T : Int → Bool} {cl : Int} {h : mHp} {b : Nat} (hb : bAd b) (n1 : n ≤ 700) (hu : uR u) (hO : ROk u n R) (hQ : QC h b u n (R, B, T, cl)) (c0 : rF R = 0) :
    ∃ h', mRuns (d + 5) 149 0 [some (.ref 23), some (.ref b), none] [] h (.inl (none, h')) ∧ QC h' b u n (xCl u n R B T cl) ∧ gF b h h' := by
  obtain ⟨hR, hB, hBO, hU, h8, hcl⟩ := QC_d hQ c0
  obtain ⟨s0, s1, s2, s3, s4, s5, s6, s7, s8, s9, s10⟩ := bSh_of hb
  unfold xCl
  by_cases c6 : cl = 0
  · rw [if_neg (by omega)]
    obtain ⟨h1, r1, C1, f1⟩ := s_Rdr_sc (d := d + 2) n1 hu hO hR
    have O1 := (Aft_sc hO).1
    obtain ⟨h2, r2, C2, f2⟩ := s_Rdr_nu (d := d + 1) (lo := 0) (hi := 9999) n1 hu O1 C1 (by omega) (by omega) (by omega) (by omega)
    have O2 : ROk u n (dC1 u n R).1 := (Aft_nu (lo := 0) (hi := 9999) n1 O1).1
    replace C2 : RC h2 u n (dC1 u n R).1 := C2
    obtain ⟨h5, r5, C5, f5⟩ := s_Rdr_en (d := d + 1) n1 hu O2 C2
    have O5 := (Aft_en n1 O2).1
    have ff := hFg_trans f1 (hFg_trans f2 f5)
    have e7 := C5.2.2.2.2.2.2.1
    have ef := O5.2
    by_cases cf : rF (aEn u n (dC1 u n R).1) = 0
    · obtain ⟨q4, q5, q6⟩ := en_f cf
      obtain ⟨g8, g9, g10, g11, g12⟩ := nu_f (show rF (aNu u n 0 9999 (aSc u n R)).1 = 0 from q4)
      have w1 : (dC1 u n R).2 = rVa (aSc u n R) := by unfold dC1; rw [g9]
      have hn : b ≠ 23 ∧ b ≠ 24 ∧ b ≠ 25 := by rcases hb with e | e <;> omega
      have C6 : RC (mPI h5 23 8 (zI 1)) u n (aEn u n (dC1 u n R).1) := by
        obtain ⟨a1, a2, a3, a4, a5, a6, a7, a8⟩ := C5
        refine ⟨by rw [hI_off (by omega)]; exact a1, fun i i0 i1 => by rw [hI_ne (by omega)]; exact a2 i i0 i1, by rw [hI_off (by omega)]; exact a3, by rw [hI_off (by omega)]; exact a4, by rw [hI_off (by omega)]; exact a5, fun z => by rw [hI_off (by omega)]; exact a6 z, by rw [hI_off (by omega)]; exact a7, by rw [hI_off (by omega)]; exact a8⟩
      have B5 := BC_fg hb hB ff
      have B6 : BC (mPI h5 23 8 (zI 1)) b B := BC_of B5 (fun k hk => hI_ne (by rcases hb with e | e <;> omega) _ _ _)
      refine ⟨mPI (mPI h5 23 8 (zI 1)) b 13 (zI (dC1 u n R).2), vc_Rdr_readClean ?_, ⟨RC_fr C6 ?_ ?_, fun _ => ⟨BC_C B6, BOk_C hBO (by omega) (by omega), UC_of hU ?_, ?_, Or.inr rfl⟩⟩, ?_⟩
      · simp (disch := omega) only [zI_add, zI_sub, zI_mul, zI_neg, zI_lit, zI_0, zI_1, zI_lt, zI_le, zI_eq, zI_clamp, zI_inT, zI_ite, mOb_0, mOb_1, mOb_3, mOb_4, mLd_1, mAr_1, mLen_1, mTrue_t, Int.toNat_zero, Int.toNat_one, true_and, and_true, not_true_eq_false, not_false_eq_true, true_or, or_true, or_self, false_or, or_false, forall_const, false_implies, true_implies, implies_true, h8]
        refine ⟨fun _ => ⟨h1, r1, _, h2, r2, h5, r5, ?_⟩, fun z => by omega⟩
        simp (disch := omega) only [zI_add, zI_sub, zI_mul, zI_neg, zI_lit, zI_0, zI_1, zI_lt, zI_le, zI_eq, zI_clamp, zI_inT, zI_ite, mOb_0, mOb_1, mOb_3, mOb_4, mLd_1, mAr_1, mLen_1, mTrue_t, Int.toNat_zero, Int.toNat_one, true_and, and_true, not_true_eq_false, not_false_eq_true, true_or, or_true, or_self, false_or, or_false, forall_const, false_implies, true_implies, implies_true, s0, e7]
        repeat' (first | refine And.intro ?_ ?_ | with_reducible intro _)
        all_goals first | omega | rfl
      · rw [hI_ne (by omega)]
      · rw [hI_ne (by omega)]
      · rw [hI_ne (by omega), hI_ne (by omega)]; exact ff.1 25 (by simp) (by omega)
      · rw [hI_ne (by omega), hI_same]
      · exact gF_b hb (i := 0) (gF_23 (gF_of ff) _) (by omega) _ _
    · refine ⟨h5, vc_Rdr_readClean ?_, ⟨C5, fun z => absurd z cf⟩, gF_of ff⟩
      simp (disch := omega) only [zI_add, zI_sub, zI_mul, zI_neg, zI_lit, zI_0, zI_1, zI_lt, zI_le, zI_eq, zI_clamp, zI_inT, zI_ite, mOb_0, mOb_1, mOb_3, mOb_4, mLd_1, mAr_1, mLen_1, mTrue_t, Int.toNat_zero, Int.toNat_one, true_and, and_true, not_true_eq_false, not_false_eq_true, true_or, or_true, or_self, false_or, or_false, forall_const, false_implies, true_implies, implies_true, h8]
      refine ⟨fun _ => ⟨h1, r1, _, h2, r2, h5, r5, ?_⟩, fun z => by omega⟩
      rw [e7]
      refine ⟨fun _ => rfl, fun z => ?_⟩
      exact (f_nz ef.1 ef.2.1 cf z).elim
  · rw [if_pos c6]
    obtain ⟨h', r, C, f⟩ := s_Rdr_fl (d := d + 3) (k := 5) hO hR
    refine ⟨h', vc_Rdr_readClean ?_, ⟨C, fun z => absurd z (fl_f (by omega) R)⟩, gF_of f⟩
    simp (disch := omega) only [zI_add, zI_sub, zI_mul, zI_neg, zI_lit, zI_0, zI_1, zI_lt, zI_le, zI_eq, zI_clamp, zI_inT, zI_ite, mOb_0, mOb_1, mOb_3, mOb_4, mLd_1, mAr_1, mLen_1, mTrue_t, Int.toNat_zero, Int.toNat_one, true_and, and_true, not_true_eq_false, not_false_eq_true, true_or, or_true, or_self, false_or, or_false, forall_const, false_implies, true_implies, implies_true, h8]
    exact ⟨fun z => by omega, fun _ => ⟨h', r, rfl⟩⟩
theorem b_set {x : Int32} {v : Int} (v0 : 0 ≤ v) (v1 : v < 32) {i : Nat} (hi : i < 32) : bt (x ||| (zI 1 <<< (zI v &&& 31))) i = (bt x i || decide (i = v.toNat)) := by
  rw [b_or, zI_nat v0, b_shl v.toNat (by omega) _ hi]
  congr 1
  have h1 : ∀ i, i < 32 → bt (zI 1) i = decide (i = 0) := by decide +kernel
  rw [h1 (i - v.toNat) (by omega)]
  by_cases e : i = v.toNat
  · rw [e]; simp
  · have a : decide (i = v.toNat) = false := by simp [e]
    rw [a]
    by_cases q : v.toNat ≤ i
    · have : decide (i - v.toNat = 0) = false := by simp; omega
      rw [this, Bool.and_false]
    · have : decide (v.toNat ≤ i) = false := by simp; omega
      rw [this, Bool.false_and]
theorem s_Rdr_had {d : Nat} {u : Int → Int} {n : Int} {R : tR} {B : tB} {T : Int → Bool} {cl : Int} {h : mHp} {b : Nat} (hb : bAd b) (n1 : n ≤ 700) (hu : uR u) (hO : ROk u n R) (hQ : QC h b u n (R, B, T, cl)) (c0 : rF R = 0) :
    ∃ h', mRuns (d + 5) 147 0 [some (.ref 23), some (.ref b), none, none, none] [] h (.inl (none, h')) ∧ QC h' b u n (xHa u n R B T cl) ∧ gF b h h' := by
  obtain ⟨hR, hB, hBO, hU, h8, hcl⟩ := QC_d hQ c0
  obtain ⟨s0, s1, s2, s3, s4, s5, s6, s7, s8, s9, s10⟩ := bSh_of hb
  have e4 : h.1 b 4 = zI (bP B) := hB.2.1
  have e9 : h.1 b 9 = zI (bT B) := hB.2.2.1
  have o1 := hBO.1
  have m1 : (-1 : Int32) = zI (-1) := rfl
  have hn : b ≠ 23 ∧ b + 10 ≠ 23 ∧ b ≠ 24 ∧ b + 10 ≠ 24 ∧ b ≠ 25 ∧ b + 10 ≠ 25 := by rcases hb with e | e <;> omega
  unfold xHa
  obtain ⟨h1, r1, C1, f1⟩ := s_Rdr_sc (d := d + 2) n1 hu hO hR
  have O1 := (Aft_sc hO).1
  have e91 : h1.1 b 9 = zI (bT B) := by rw [f1.1 b (by simp) (by omega)]; exact e9
  obtain ⟨h2, r2, C2, f2⟩ := s_Rdr_to (d := d + 1) (told := bT B) (used := fun _ => false) (x := zI 0) n1 hu O1 C1 (by omega) (by omega) (fun v _ _ => b_0 _)
  have O2 : ROk u n (dH1 u n R B).1 := (Aft_to (told := bT B) (used := fun _ => false) n1 O1).1
  replace C2 : RC h2 u n (dH1 u n R B).1 := C2
  have f12 := hFg_trans f1 f2
  have e42 : h2.1 b 4 = zI (bP B) := by rw [f12.1 b (by simp) (by omega)]; exact e4
  have U2 : UC h2 T := UC_of hU (f12.1 25 (by simp) (by omega))
  have t1 : (dH1 u n R B).2 = -1 ∨ (0 ≤ (dH1 u n R B).2 ∧ (dH1 u n R B).2 < bT B) := by
    unfold dH1 aTo
    have va1 := O1.1.2.2.2.2.2.2.2.1
    repeat' split
    · exact Or.inl rfl
    · exact Or.inl rfl
    · exact Or.inl rfl
    · exact Or.inl rfl
    · exact Or.inl rfl
    · refine Or.inr ⟨va1, ?_⟩
      show rVa (aSc u n R) < bT B
      omega
  have X : ∃ x : Int32, (∀ v, 0 ≤ v → v < bP B → bt x v.toNat = (fun v => if (dH1 u n R B).2 = -1 then false else T (5 * (dH1 u n R B).2 + v)) v) ∧ ∀ out, mRuns (d + 5) 147 34 [some (.ref 23), some (.ref b), some (.int (zI (dH1 u n R B).2)), none, none] [.int x, .int (zI (bP B)), .ref 23] h2 out → mRuns (d + 5) 147 0 [some (.ref 23), some (.ref b), none, none, none] [] h out := by
    by_cases c : (dH1 u n R B).2 = -1
    · refine ⟨zI 0, fun v v0 v1 => ?_, fun out H => vc_Rdr_readHad ⟨h1, r1, ?_⟩⟩
      · show _ = if (dH1 u n R B).2 = -1 then false else T (5 * (dH1 u n R B).2 + v)
        rw [if_pos c]; exact b_0 _
      · rw [m1]
        simp (disch := omega) only [zI_add, zI_sub, zI_mul, zI_neg, zI_lit, zI_0, zI_1, zI_lt, zI_le, zI_eq, zI_clamp, zI_inT, zI_ite, mOb_0, mOb_1, mOb_3, mOb_4, mLd_1, mAr_1, mLen_1, mTrue_t, Int.toNat_zero, Int.toNat_one, true_and, and_true, not_true_eq_false, not_false_eq_true, true_or, or_true, or_self, false_or, or_false, forall_const, false_implies, true_implies, implies_true, s0, e91]
        refine ⟨_, h2, r2, ?_⟩
        replace H : mRuns (d + 5) 147 34 [some (.ref 23), some (.ref b), some (.int (zI (aTo u n (bT B) (fun _ => false) (aSc u n R)).2)), none, none] [.int (zI 0), .int (zI (bP B)), .ref 23] h2 out := H
        replace c : (aTo u n (bT B) (fun _ => false) (aSc u n R)).2 = -1 := c
        simp (disch := omega) only [zI_add, zI_sub, zI_mul, zI_neg, zI_lit, zI_0, zI_1, zI_lt, zI_le, zI_eq, zI_clamp, zI_inT, zI_ite, mOb_0, mOb_1, mOb_3, mOb_4, mLd_1, mAr_1, mLen_1, mTrue_t, Int.toNat_zero, Int.toNat_one, true_and, and_true, not_true_eq_false, not_false_eq_true, true_or, or_true, or_self, false_or, or_false, forall_const, false_implies, true_implies, implies_true, s0, e42]
        repeat' (first | refine And.intro ?_ ?_ | with_reducible intro _)
        all_goals first | omega | exact H
    · refine ⟨h2.1 25 (dH1 u n R B).2.toNat, fun v v0 v1 => ?_, fun out H => vc_Rdr_readHad ⟨h1, r1, ?_⟩⟩
      · show _ = if (dH1 u n R B).2 = -1 then false else T (5 * (dH1 u n R B).2 + v)
        rw [if_neg c]; exact U2 _ v (by omega) (by omega) v0 (by omega)
      · rw [m1]
        simp (disch := omega) only [zI_add, zI_sub, zI_mul, zI_neg, zI_lit, zI_0, zI_1, zI_lt, zI_le, zI_eq, zI_clamp, zI_inT, zI_ite, mOb_0, mOb_1, mOb_3, mOb_4, mLd_1, mAr_1, mLen_1, mTrue_t, Int.toNat_zero, Int.toNat_one, true_and, and_true, not_true_eq_false, not_false_eq_true, true_or, or_true, or_self, false_or, or_false, forall_const, false_implies, true_implies, implies_true, s0, e91]
        refine ⟨_, h2, r2, ?_⟩
        replace H : mRuns (d + 5) 147 34 [some (.ref 23), some (.ref b), some (.int (zI (aTo u n (bT B) (fun _ => false) (aSc u n R)).2)), none, none] [.int (h2.1 25 (aTo u n (bT B) (fun _ => false) (aSc u n R)).2.toNat), .int (zI (bP B)), .ref 23] h2 out := H
        replace c : ¬ (aTo u n (bT B) (fun _ => false) (aSc u n R)).2 = -1 := c
        replace t1 : (aTo u n (bT B) (fun _ => false) (aSc u n R)).2 = -1 ∨ (0 ≤ (aTo u n (bT B) (fun _ => false) (aSc u n R)).2 ∧ (aTo u n (bT B) (fun _ => false) (aSc u n R)).2 < bT B) := t1
        simp (disch := omega) only [zI_add, zI_sub, zI_mul, zI_neg, zI_lit, zI_0, zI_1, zI_lt, zI_le, zI_eq, zI_clamp, zI_inT, zI_ite, mOb_0, mOb_1, mOb_3, mOb_4, mLd_1, mAr_1, mLen_1, mTrue_t, Int.toNat_zero, Int.toNat_one, true_and, and_true, not_true_eq_false, not_false_eq_true, true_or, or_true, or_self, false_or, or_false, forall_const, false_implies, true_implies, implies_true, s0, e42]
        repeat' (first | refine And.intro ?_ ?_ | with_reducible intro _)
        all_goals first | omega | exact H
  obtain ⟨x, hx, K⟩ := X
  obtain ⟨h3, r3, C3, f3⟩ := s_Rdr_to (d := d + 1) (told := bP B) (used := fun v => if (dH1 u n R B).2 = -1 then false else T (5 * (dH1 u n R B).2 + v)) (x := x) n1 hu O2 C2 (by omega) (by omega) hx
  have O3 : ROk u n (dH2 u n R B T).1 := (Aft_to (told := bP B) n1 O2).1
  replace C3 : RC h3 u n (dH2 u n R B T).1 := C3
  replace r3 : mRuns (d + 4) 148 0 [some (.ref 23), some (.int (zI (bP B))), some (.int x), none] [] h2 (.inl (some (.int (zI (dH2 u n R B T).2)), h3)) := r3
  obtain ⟨h4, r4, C4, f4⟩ := s_Rdr_nu (d := d + 1) (lo := 0) (hi := 99) n1 hu O3 C3 (by omega) (by omega) (by omega) (by omega)
  have O4 : ROk u n (dH3 u n R B T).1 := (Aft_nu (lo := 0) (hi := 99) n1 O3).1
  replace C4 : RC h4 u n (dH3 u n R B T).1 := C4
  replace r4 : mRuns (d + 4) 141 0 [some (.ref 23), some (.int (zI 0)), some (.int (zI 99)), none] [] h3 (.inl (some (.int (zI (dH3 u n R B T).2)), h4)) := r4
  obtain ⟨h5, r5, C5, f5⟩ := s_Rdr_en (d := d + 1) n1 hu O4 C4
  have O5 := (Aft_en n1 O4).1
  have ff := hFg_trans f12 (hFg_trans f3 (hFg_trans f4 f5))
  have e7 := C5.2.2.2.2.2.2.1
  have ef := O5.2
  by_cases cf : rF (aEn u n (dH3 u n R B T).1) = 0
  · obtain ⟨q4, q5, q6⟩ := en_f cf
    obtain ⟨g1, g2, g3, g4, g5⟩ := nu_f (show rF (aNu u n 0 99 (dH2 u n R B T).1).1 = 0 from q4)
    obtain ⟨y1, y2, y3, y4, y5, y6⟩ := to_f (show rF (aTo u n (bP B) (fun v => if (dH1 u n R B).2 = -1 then false else T (5 * (dH1 u n R B).2 + v)) (dH1 u n R B).1).1 = 0 from g1)
    obtain ⟨z1, z2, z3, z4, z5, z6⟩ := to_f (show rF (aTo u n (bT B) (fun _ => false) (aSc u n R)).1 = 0 from y1)
    have w1 : (dH1 u n R B).2 = rVa (aSc u n R) := by unfold dH1; rw [z2]
    have w2 : (dH2 u n R B T).2 = rVa (dH1 u n R B).1 := by unfold dH2; rw [y2]
    have w3 : (dH3 u n R B T).2 = rVa (dH2 u n R B T).1 := by unfold dH3; rw [g2]
    have va1 := O1.1.2.2.2.2.2.2.2.1
    have va2 := O2.1.2.2.2.2.2.2.2.1
    have hk : dHk u n R B T = 5 * (dH1 u n R B).2 + (dH2 u n R B T).2 := rfl
    have B5 := BC_fg hb hB ff
    have U5 : UC h5 T := UC_of hU (ff.1 25 (by simp) (by omega))
    have B6 : BC (mPI h5 25 (dH1 u n R B).2.toNat ((h5.1 25 (dH1 u n R B).2.toNat) ||| (zI 1 <<< (zI (dH2 u n R B T).2 &&& 31)))) b B := BC_of B5 (fun k hk => hI_ne (by rcases hb with e | e <;> omega) _ _ _)
    refine ⟨mPI (mPI h5 25 (dH1 u n R B).2.toNat ((h5.1 25 (dH1 u n R B).2.toNat) ||| (zI 1 <<< (zI (dH2 u n R B T).2 &&& 31)))) (b + 10) (dHk u n R B T).toNat (zI (dH3 u n R B T).2), K _ (vc_Rdr_readHad_34 ⟨_, h3, r3, _, h4, r4, h5, r5, ?_⟩), ⟨RC_fr C5 ?_ ?_, fun _ => ⟨BC_H B6 (by omega), BOk_H hBO (by omega) (by omega), ?_, ?_, hcl⟩⟩, ?_⟩
    · have I := s_T_hadIndex (d := d + 3) (h := mPI h5 25 (dH1 u n R B).2.toNat ((h5.1 25 (dH1 u n R B).2.toNat) ||| (zI 1 <<< (zI (dH2 u n R B T).2 &&& 31)))) (t := (dH1 u n R B).2) (p := (dH2 u n R B T).2)
      rw [m1]
      simp (disch := omega) only [zI_add, zI_sub, zI_mul, zI_neg, zI_lit, zI_0, zI_1, zI_lt, zI_le, zI_eq, zI_clamp, zI_inT, zI_ite, mOb_0, mOb_1, mOb_3, mOb_4, mLd_1, mAr_1, mLen_1, mTrue_t, Int.toNat_zero, Int.toNat_one, true_and, and_true, not_true_eq_false, not_false_eq_true, true_or, or_true, or_self, false_or, or_false, forall_const, false_implies, true_implies, implies_true, e7, s0]
      refine ⟨fun z => absurd cf z, fun _ => ⟨fun z => by omega, fun _ => ⟨fun z => by omega, fun _ => ⟨_, _, I, ?_⟩⟩⟩⟩
      simp (disch := omega) only [zI_add, zI_sub, zI_mul, zI_neg, zI_lit, zI_0, zI_1, zI_lt, zI_le, zI_eq, zI_clamp, zI_inT, zI_ite, mOb_0, mOb_1, mOb_3, mOb_4, mLd_1, mAr_1, mLen_1, mTrue_t, Int.toNat_zero, Int.toNat_one, true_and, and_true, not_true_eq_false, not_false_eq_true, true_or, or_true, or_self, false_or, or_false, forall_const, false_implies, true_implies, implies_true, s10]
      rfl
    · rw [hI_ne (by omega), hI_ne (by omega)]
    · rw [hI_ne (by omega), hI_ne (by omega)]
    · intro t p t0 t5 p0 p5
      rw [hI_ne (by omega)]
      show _ = (T (5 * t + p) || decide (5 * t + p = dHk u n R B T))
      by_cases e : t = (dH1 u n R B).2
      · rw [e, hI_same, b_set (by omega) (by omega) (by omega), U5 _ p (by omega) (by omega) p0 p5]
        congr 1
        by_cases q : p = (dH2 u n R B T).2
        · rw [decide_eq_true (by rw [q]), decide_eq_true (by omega)]
        · rw [decide_eq_false (by omega), decide_eq_false (by omega)]
      · rw [hI_off (by omega), U5 t p t0 t5 p0 p5, decide_eq_false (by omega), Bool.or_false]
    · rw [hI_ne (by omega), hI_ne (by omega), ff.2.1 8 (by simp)]; exact h8
    · exact gF_b hb (gF_25 (gF_of ff) _ _) (by omega) _ _
  · refine ⟨h5, K _ (vc_Rdr_readHad_34 ⟨_, h3, r3, _, h4, r4, h5, r5, ?_⟩), ⟨C5, fun z => absurd z cf⟩, gF_of ff⟩
    rw [e7]
    refine ⟨fun _ => rfl, fun z => ?_⟩
    exact (f_nz ef.1 ef.2.1 cf z).elim

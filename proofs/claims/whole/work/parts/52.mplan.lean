def MX (h : mHp) (B : tB) (st : tP) : Prop := (st.1 = 0 ∨ st.1 = 1) ∧ (st.1 = 1 → h.1 114 39 = zI st.2.2.1 ∧ 0 ≤ st.2.2.1 ∧ st.2.2.1 < 1023 ∧ aEq (h.1 127) (bD B) st.2.2.2 ∧ pOn B st.2.2.2)
theorem MX_of {h h' : mHp} {B : tB} {st : tP} (hX : MX h B st) (e0 : h'.1 114 39 = h.1 114 39) (e1 : h'.1 127 = h.1 127) : MX h' B st := by unfold MX at hX ⊢; rw [e0, e1]; exact hX
theorem BM_fg {h h' : mHp} {B : tB} {l fs : List Nat} (hB : BM h B) (f : hFg 114 l fs h h') (hl : ∀ x, x ∈ l → 119 ≤ x) (hf : ∀ k, k ∈ fs → 5 ≤ k) : BM h' B :=
  BM_of hB (fun k a b => f.2.1 k (fun z => by have := hf k z; omega)) (fun k a b => f.1 k (fun z => by have := hl k z; omega) (by omega))
/-- the company is weighed and its plan is better -/
theorem s_M_plans_126 {d : Nat} {h : mHp} {B : tB} (hO : BOk B) {sz so v : Int} {r : Int → Int} (hB : BM h B) (v0 : 0 ≤ v) (v1 : v < 1023) (h126 : h.1 126 0 = zI v) (hr : aEq (h.1 128) (bD B) r) (hrr : pOn B r) {m : Int} :
    ∃ h', MX h' B (1, m, v, r) ∧ hFg 114 [126, 127, 128] [39] h h' ∧ ∀ out, mRuns (d + 5) 44 30 [some (.ref 114), none, none, some (.int (zI sz)), some (.int (zI 1)), some (.int (zI (so + 1)))] [] h' out → mRuns (d + 5) 44 126 [some (.ref 114), none, none, some (.int (zI sz)), none, some (.int (zI so))] [] h out := by
  have o := hO.1
  obtain ⟨h1, r1, k1, f1⟩ := s_M_copies (d := d + 3) (h := mPI h 114 39 (zI v)) (a := 128) (o := 127) (n := 6) (m := 6) (by decide) (by decide) (by omega) (by omega) (by omega)
  have F : hFg 114 [126, 127, 128] [39] h h1 := hFg_fr (hFg_pf (hFg_refl _ _ _ _) (by simp) _) (hFr_mono f1 (by simp)) (by simp)
  refine ⟨h1, ⟨Or.inr rfl, fun _ => ⟨?_, v0, v1, fun i i0 i1 => ?_, hrr⟩⟩, F, fun out r => vc_M_plans_126 ?_⟩
  · rw [f1.1 114 (by simp), hI_same]
  · rw [k1 _ (by omega), hI_ne (by omega)]; exact hr i i0 i1
  · simp (disch := omega) only [zI_add, zI_sub, zI_mul, zI_neg, zI_lit, zI_0, zI_1, zI_lt, zI_le, zI_eq, zI_clamp, zI_inT, zI_ite, mOb_0, mOb_1, mOb_3, mOb_4, mLd_1, mAr_1, mLen_1, mTrue_t, Int.toNat_zero, Int.toNat_one, true_and, and_true, not_true_eq_false, not_false_eq_true, true_or, or_true, or_self, false_or, or_false, forall_const, false_implies, true_implies, implies_true, h126]
    exact ⟨h1, r1, r⟩
theorem s_M_plans_co {d : Nat} {h : mHp} {B : tB} (hO : BOk B) {l w sz so : Int} {st : tP} (hl : 0 ≤ l) (hl' : l ≤ 2) (z0 : 0 ≤ sz) (z5 : sz ≤ 5) (so0 : 0 ≤ so) (so1 : so < aPow (bT B)) (hsm : ∀ co, 0 ≤ co → co < 32 → aDif co (aFr B w) = 0 → aCnt co < sz → ¬ vCo B l w co < 1023) (hB : BM h B) (hP : PW h) (hM : MC h B l w) (hX : MX h B st) :
    ∃ h', MX h' B (if aDif so (aFr B w) = 0 ∧ aCnt so = sz then fTry B l w st so else st) ∧ hFg 114 [126, 127, 128] [39] h h' ∧ ∀ out, mRuns (d + 5) 44 30 [some (.ref 114), none, none, some (.int (zI sz)), some (.int (zI (if aDif so (aFr B w) = 0 ∧ aCnt so = sz then fTry B l w st so else st).1)), some (.int (zI (so + 1)))] [] h' out → mRuns (d + 5) 44 30 [some (.ref 114), none, none, some (.int (zI sz)), some (.int (zI st.1)), some (.int (zI so))] [] h out := by
  have o := hO.1
  have hp := aPow_le o.2.2.2.2.1 o.2.2.2.2.2.1
  have pr := p7_rng (bT B)
  have e3 := hB.2.2.1
  have cr := aCnt_rng so
  by_cases cs : aCnt so = sz
  · obtain ⟨h1, F1, f1, r1⟩ := s_M_fills (d := d + 2) (w := w) hO hl hl' so0 so1 hB hP hM
    have h126 : h1.1 126 0 = zI (vMo B l w so) := by
      have := F1 0 (by omega) (by omega) 0 (by omega) (by omega) (fun t _ _ => by rw [dig_0]; split <;> omega)
      rw [Int.sub_zero] at this
      exact this
    have G1 : hFg 114 [126, 127, 128] [39] h h1 := hFg_fr (hFg_refl _ _ _ _) (hFr_mono f1 (by simp)) (by simp)
    have X1 : MX h1 B st := MX_of hX (by rw [f1.1 114 (by simp)]) (f1.1 127 (by simp))
    have B1 := BM_fg hB G1 (by simp) (by simp)
    rcases vMo_two hO (w := w) (so := so) hl hl' with ⟨z1, z2⟩ | ⟨z1, z2, z3, z4⟩
    · have est : (if aDif so (aFr B w) = 0 ∧ aCnt so = sz then fTry B l w st so else st) = st := by
        split
        · unfold fTry; rw [if_neg (fun z => by omega)]
        · rfl
      rw [est]
      refine ⟨h1, X1, G1, fun out r => vc_M_plans_30 ?_⟩
      rw [z1] at h126
      simp (disch := omega) only [zI_add, zI_sub, zI_mul, zI_neg, zI_lit, zI_0, zI_1, zI_lt, zI_le, zI_eq, zI_clamp, zI_inT, zI_ite, mOb_0, mOb_1, mOb_3, mOb_4, mLd_1, mAr_1, mLen_1, mTrue_t, Int.toNat_zero, Int.toNat_one, true_and, and_true, not_true_eq_false, not_false_eq_true, true_or, or_true, or_self, false_or, or_false, forall_const, false_implies, true_implies, implies_true, e3, zI_shl6]
      refine ⟨fun z => by omega, fun _ => ⟨_, _, s_M_bits so0 (by omega), ?_⟩⟩
      simp (disch := omega) only [zI_add, zI_sub, zI_mul, zI_neg, zI_lit, zI_0, zI_1, zI_lt, zI_le, zI_eq, zI_clamp, zI_inT, zI_ite, mOb_0, mOb_1, mOb_3, mOb_4, mLd_1, mAr_1, mLen_1, mTrue_t, Int.toNat_zero, Int.toNat_one, true_and, and_true, not_true_eq_false, not_false_eq_true, true_or, or_true, or_self, false_or, or_false, forall_const, false_implies, true_implies, implies_true]
      refine ⟨fun _ => ⟨h1, r1, ?_⟩, fun z => absurd cs z⟩
      simp (disch := omega) only [zI_add, zI_sub, zI_mul, zI_neg, zI_lit, zI_0, zI_1, zI_lt, zI_le, zI_eq, zI_clamp, zI_inT, zI_ite, mOb_0, mOb_1, mOb_3, mOb_4, mLd_1, mAr_1, mLen_1, mTrue_t, Int.toNat_zero, Int.toNat_one, true_and, and_true, not_true_eq_false, not_false_eq_true, true_or, or_true, or_self, false_or, or_false, forall_const, false_implies, true_implies, implies_true, h126]
      repeat' (first | refine And.intro ?_ ?_ | with_reducible intro _)
      all_goals first | omega | exact r
    · have hd : aDif so (aFr B w) = 0 := by
        apply Classical.byContradiction; intro n
        obtain ⟨c, c0, c1, c2, c3, c4⟩ := vCo_and hO (l := l) n
        exact hsm c c0 c1 c2 (by omega) (by omega)
      rw [if_pos ⟨hd, cs⟩]
      rw [z1] at h126
      obtain ⟨h2, r2, R2, f2⟩ := s_M_rows (d := d + 2) (w := w) hO hl hl' so0 so1 B1 (PW_of hP (f1.1 129 (by simp))) (MC_of hM (f1.1 125 (by simp))) F1 (by show vMo B l w so < 100000; omega)
      have R2 : aEq (h2.1 128) (bD B) (rCo B l w so) := fun i i0 i1 => by rw [R2 i i0 i1, z4 i i0]
      have G2 : hFg 114 [126, 127, 128] [39] h h2 := hFg_fr G1 (hFr_mono f2 (by simp)) (by simp)
      have X2 : MX h2 B st := MX_of X1 (by rw [f2.1 114 (by simp)]) (f2.1 127 (by simp))
      have B2 := BM_fg hB G2 (by simp) (by simp)
      have h126' : h2.1 126 0 = zI (vCo B l w so) := by rw [f2.1 126 (by simp)]; exact h126
      obtain ⟨h3, X3, G3, K3⟩ := s_M_plans_126 (d := d) (sz := sz) (so := so) (m := aCnt so) hO B2 z2 z3 h126' R2 (rCo_on B l w so)
      have pre : ∀ out, (st.1 = 0 ∨ vCo B l w so ≤ st.2.2.1 → mRuns (d + 5) 44 92 [some (.ref 114), none, none, some (.int (zI sz)), some (.int (zI st.1)), some (.int (zI so))] [] h1 out) → (¬ (st.1 = 0 ∨ vCo B l w so ≤ st.2.2.1) → mRuns (d + 5) 44 30 [some (.ref 114), none, none, some (.int (zI sz)), some (.int (zI st.1)), some (.int (zI (so + 1)))] [] h1 out) → mRuns (d + 5) 44 30 [some (.ref 114), none, none, some (.int (zI sz)), some (.int (zI st.1)), some (.int (zI so))] [] h out := by
        intro out hy hn
        refine vc_M_plans_30 ?_
        simp (disch := omega) only [zI_add, zI_sub, zI_mul, zI_neg, zI_lit, zI_0, zI_1, zI_lt, zI_le, zI_eq, zI_clamp, zI_inT, zI_ite, mOb_0, mOb_1, mOb_3, mOb_4, mLd_1, mAr_1, mLen_1, mTrue_t, Int.toNat_zero, Int.toNat_one, true_and, and_true, not_true_eq_false, not_false_eq_true, true_or, or_true, or_self, false_or, or_false, forall_const, false_implies, true_implies, implies_true, e3, zI_shl6]
        refine ⟨fun z => by omega, fun _ => ⟨_, _, s_M_bits so0 (by omega), ?_⟩⟩
        simp (disch := omega) only [zI_add, zI_sub, zI_mul, zI_neg, zI_lit, zI_0, zI_1, zI_lt, zI_le, zI_eq, zI_clamp, zI_inT, zI_ite, mOb_0, mOb_1, mOb_3, mOb_4, mLd_1, mAr_1, mLen_1, mTrue_t, Int.toNat_zero, Int.toNat_one, true_and, and_true, not_true_eq_false, not_false_eq_true, true_or, or_true, or_self, false_or, or_false, forall_const, false_implies, true_implies, implies_true]
        refine ⟨fun _ => ⟨h1, r1, ?_⟩, fun z => absurd cs z⟩
        rcases X1.1 with e | e
        · simp (disch := omega) only [zI_add, zI_sub, zI_mul, zI_neg, zI_lit, zI_0, zI_1, zI_lt, zI_le, zI_eq, zI_clamp, zI_inT, zI_ite, mOb_0, mOb_1, mOb_3, mOb_4, mLd_1, mAr_1, mLen_1, mTrue_t, Int.toNat_zero, Int.toNat_one, true_and, and_true, not_true_eq_false, not_false_eq_true, true_or, or_true, or_self, false_or, or_false, forall_const, false_implies, true_implies, implies_true, h126, e]
          have hy := hy (Or.inl e)
          rw [e] at hy
          repeat' (first | refine And.intro ?_ ?_ | with_reducible intro _)
          all_goals first | omega | exact hy
        · obtain ⟨g1, g2, g3, g4, g5⟩ := X1.2 e
          simp (disch := omega) only [zI_add, zI_sub, zI_mul, zI_neg, zI_lit, zI_0, zI_1, zI_lt, zI_le, zI_eq, zI_clamp, zI_inT, zI_ite, mOb_0, mOb_1, mOb_3, mOb_4, mLd_1, mAr_1, mLen_1, mTrue_t, Int.toNat_zero, Int.toNat_one, true_and, and_true, not_true_eq_false, not_false_eq_true, true_or, or_true, or_self, false_or, or_false, forall_const, false_implies, true_implies, implies_true, h126, e, g1]
          rw [e] at hy hn
          refine ⟨fun z => by omega, fun _ => ⟨fun z => by omega, fun _ => ⟨fun y => hy (Or.inr y), fun y => hn (fun z => by omega)⟩⟩⟩
      by_cases bt : better B (vCo B l w so) (rCo B l w so) st
      · have ef : fTry B l w st so = (1, aCnt so, vCo B l w so, rCo B l w so) := by unfold fTry; rw [if_pos ⟨z3, bt⟩]
        rw [ef]
        refine ⟨h3, X3, hFg_trans G2 G3, fun out r => pre out (fun _ => vc_M_plans_92 ?_) (fun n => ?_)⟩
        · have r := K3 out r
          refine ⟨h2, r2, ?_⟩
          rcases X2.1 with e | e
          · simp (disch := omega) only [zI_add, zI_sub, zI_mul, zI_neg, zI_lit, zI_0, zI_1, zI_lt, zI_le, zI_eq, zI_clamp, zI_inT, zI_ite, mOb_0, mOb_1, mOb_3, mOb_4, mLd_1, mAr_1, mLen_1, mTrue_t, Int.toNat_zero, Int.toNat_one, true_and, and_true, not_true_eq_false, not_false_eq_true, true_or, or_true, or_self, false_or, or_false, forall_const, false_implies, true_implies, implies_true, e]
            repeat' (first | refine And.intro ?_ ?_ | with_reducible intro _)
            all_goals first | omega | exact r
          · obtain ⟨g1, g2, g3, g4, g5⟩ := X2.2 e
            have rl := s_M_isLess (d := d + 3) B2 hO R2 g4 (rCo_on B l w so) g5
            simp (disch := omega) only [zI_add, zI_sub, zI_mul, zI_neg, zI_lit, zI_0, zI_1, zI_lt, zI_le, zI_eq, zI_clamp, zI_inT, zI_ite, mOb_0, mOb_1, mOb_3, mOb_4, mLd_1, mAr_1, mLen_1, mTrue_t, Int.toNat_zero, Int.toNat_one, true_and, and_true, not_true_eq_false, not_false_eq_true, true_or, or_true, or_self, false_or, or_false, forall_const, false_implies, true_implies, implies_true, e, h126', g1]
            refine ⟨fun z => by omega, fun _ => ⟨fun _ => r, fun y => ⟨_, _, rl, ?_⟩⟩⟩
            have : aLs (rCo B l w so) st.2.2.2 (bD B).toNat 0 = 1 := by
              rcases bt with z | z | z
              · omega
              · omega
              · exact z.2
            simp (disch := omega) only [zI_add, zI_sub, zI_mul, zI_neg, zI_lit, zI_0, zI_1, zI_lt, zI_le, zI_eq, zI_clamp, zI_inT, zI_ite, mOb_0, mOb_1, mOb_3, mOb_4, mLd_1, mAr_1, mLen_1, mTrue_t, Int.toNat_zero, Int.toNat_one, true_and, and_true, not_true_eq_false, not_false_eq_true, true_or, or_true, or_self, false_or, or_false, forall_const, false_implies, true_implies, implies_true, this]
            repeat' (first | refine And.intro ?_ ?_ | with_reducible intro _)
            all_goals first | omega | exact r
        · exfalso
          rcases bt with z | z | z
          · exact n (Or.inl z)
          · exact n (Or.inr (by omega))
          · exact n (Or.inr (by omega))
      · have ef : fTry B l w st so = st := by unfold fTry; rw [if_neg (fun z => bt z.2)]
        rw [ef]
        by_cases le : st.1 = 0 ∨ vCo B l w so ≤ st.2.2.1
        · refine ⟨h2, X2, G2, fun out r => pre out (fun _ => vc_M_plans_92 ?_) (fun n => absurd le n)⟩
          refine ⟨h2, r2, ?_⟩
          rcases X2.1 with e | e
          · exact absurd (Or.inl e) bt
          · obtain ⟨g1, g2, g3, g4, g5⟩ := X2.2 e
            have rl := s_M_isLess (d := d + 3) B2 hO R2 g4 (rCo_on B l w so) g5
            have eqv : vCo B l w so = st.2.2.1 := by
              rcases le with z | z
              · omega
              · apply Classical.byContradiction; intro n
                exact bt (Or.inr (Or.inl (by omega)))
            rw [e] at r
            simp (disch := omega) only [zI_add, zI_sub, zI_mul, zI_neg, zI_lit, zI_0, zI_1, zI_lt, zI_le, zI_eq, zI_clamp, zI_inT, zI_ite, mOb_0, mOb_1, mOb_3, mOb_4, mLd_1, mAr_1, mLen_1, mTrue_t, Int.toNat_zero, Int.toNat_one, true_and, and_true, not_true_eq_false, not_false_eq_true, true_or, or_true, or_self, false_or, or_false, forall_const, false_implies, true_implies, implies_true, e, h126', g1]
            refine ⟨fun z => by omega, fun _ => ⟨fun n => absurd eqv n, fun y => ⟨_, _, rl, ?_⟩⟩⟩
            have : aLs (rCo B l w so) st.2.2.2 (bD B).toNat 0 = 0 := by
              rcases aLs_01 (rCo B l w so) st.2.2.2 (bD B).toNat 0 with z | z
              · exact z
              · exact absurd (Or.inr (Or.inr ⟨eqv, z⟩)) bt
            simp (disch := omega) only [zI_add, zI_sub, zI_mul, zI_neg, zI_lit, zI_0, zI_1, zI_lt, zI_le, zI_eq, zI_clamp, zI_inT, zI_ite, mOb_0, mOb_1, mOb_3, mOb_4, mLd_1, mAr_1, mLen_1, mTrue_t, Int.toNat_zero, Int.toNat_one, true_and, and_true, not_true_eq_false, not_false_eq_true, true_or, or_true, or_self, false_or, or_false, forall_const, false_implies, true_implies, implies_true, this]
            repeat' (first | refine And.intro ?_ ?_ | with_reducible intro _)
            all_goals first | omega | exact r
        · exact ⟨h1, X1, G1, fun out r => pre out (fun y => absurd y le) (fun _ => r)⟩
  · rw [if_neg (fun z => cs z.2)]
    refine ⟨h, hX, hFg_refl _ _ _ _, fun out r => vc_M_plans_30 ?_⟩
    simp (disch := omega) only [zI_add, zI_sub, zI_mul, zI_neg, zI_lit, zI_0, zI_1, zI_lt, zI_le, zI_eq, zI_clamp, zI_inT, zI_ite, mOb_0, mOb_1, mOb_3, mOb_4, mLd_1, mAr_1, mLen_1, mTrue_t, Int.toNat_zero, Int.toNat_one, true_and, and_true, not_true_eq_false, not_false_eq_true, true_or, or_true, or_self, false_or, or_false, forall_const, false_implies, true_implies, implies_true, e3, zI_shl6]
    refine ⟨fun z => by omega, fun _ => ⟨_, _, s_M_bits so0 (by omega), ?_⟩⟩
    simp (disch := omega) only [zI_add, zI_sub, zI_mul, zI_neg, zI_lit, zI_0, zI_1, zI_lt, zI_le, zI_eq, zI_clamp, zI_inT, zI_ite, mOb_0, mOb_1, mOb_3, mOb_4, mLd_1, mAr_1, mLen_1, mTrue_t, Int.toNat_zero, Int.toNat_one, true_and, and_true, not_true_eq_false, not_false_eq_true, true_or, or_true, or_self, false_or, or_false, forall_const, false_implies, true_implies, implies_true]
    exact ⟨fun z => absurd z cs, fun _ => r⟩
theorem s_M_plans_cos {d : Nat} {B : tB} (hO : BOk B) {l w sz : Int} (hl : 0 ≤ l) (hl' : l ≤ 2) (z0 : 0 ≤ sz) (z5 : sz ≤ 5) (hsm : ∀ co, 0 ≤ co → co < 32 → aDif co (aFr B w) = 0 → aCnt co < sz → ¬ vCo B l w co < 1023) : ∀ (n : Nat) (so : Int) (st : tP) (h : mHp), so + n = aPow (bT B) → 0 ≤ so → BM h B → PW h → MC h B l w → MX h B st →
    ∃ h', MX h' B (fCo B l w sz n so st) ∧ hFg 114 [126, 127, 128] [39] h h' ∧ ∀ out, mRuns (d + 5) 44 30 [some (.ref 114), none, none, some (.int (zI sz)), some (.int (zI (fCo B l w sz n so st).1)), some (.int (zI (aPow (bT B))))] [] h' out → mRuns (d + 5) 44 30 [some (.ref 114), none, none, some (.int (zI sz)), some (.int (zI st.1)), some (.int (zI so))] [] h out := by
  intro n
  induction n with
  | zero =>
    intro so st h hn so0 hB hP hM hX
    exact ⟨h, hX, hFg_refl _ _ _ _, fun out r => by rw [show so = aPow (bT B) by omega]; exact r⟩
  | succ n ih =>
    intro so st h hn so0 hB hP hM hX
    obtain ⟨h1, X1, G1, K1⟩ := s_M_plans_co (d := d) hO hl hl' z0 z5 so0 (by omega) hsm hB hP hM hX
    obtain ⟨h2, X2, G2, K2⟩ := ih (so + 1) _ h1 (by omega) (by omega) (BM_fg hB G1 (by simp) (by simp)) (PW_of hP (G1.1 129 (by simp) (by omega))) (MC_of hM (G1.1 125 (by simp) (by omega))) X1
    exact ⟨h2, X2, hFg_trans G1 G2, fun out r => K1 out (K2 out r)⟩
theorem fSz_stop {B : tB} {l w : Int} : ∀ (n : Nat) (sz : Int) (st : tP), ¬ st.1 = 0 → fSz B l w n sz st = st := by
  intro n sz st h
  cases n with
  | zero => rfl
  | succ n => unfold fSz; rw [if_neg h]
theorem fSz_rest {B : tB} (hO : BOk B) {l w : Int} : ∀ (n : Nat) (sz : Int) (st : tP), bT B < sz → st.1 = 0 → fSz B l w n sz st = st := by
  obtain ⟨f0, f1, fS⟩ := aFr_spec hO (w := w)
  have o := hO.1
  -- no company is greater than all
  have big : ∀ co, 0 ≤ co → co < 32 → aDif co (aFr B w) = 0 → aCnt co ≤ bT B := by
    intro co c0 c1 hc
    have hz : ∀ t, bT B ≤ t → t < 5 → aBit co t = 0 := fun t t0 t1 => by
      rcases aBit_01 co t with e | e
      · exact e
      · have := (fS t (by omega) t1).mp ((aDif_0 _ _).mp hc t (by omega) t1 e); omega
    have b0 := aBit_01 co 0; have b1 := aBit_01 co 1; have b2 := aBit_01 co 2; have b3 := aBit_01 co 3; have b4 := aBit_01 co 4
    unfold aCnt
    have hn : bT B = 0 ∨ bT B = 1 ∨ bT B = 2 ∨ bT B = 3 ∨ bT B = 4 ∨ bT B = 5 := by omega
    have y0 := hz 0; have y1 := hz 1; have y2 := hz 2; have y3 := hz 3; have y4 := hz 4
    rcases hn with e | e | e | e | e | e <;> rw [e] at y0 y1 y2 y3 y4 ⊢ <;> omega
  have co : ∀ (sz : Int) (st : tP), bT B < sz → ∀ (n : Nat) (c : Int), 0 ≤ c → c + n ≤ 32 → fCo B l w sz n c st = st := by
    intro sz st hs n
    induction n with
    | zero => intro c _ _; rfl
    | succ n ih =>
      intro c c0 c1
      unfold fCo
      rw [if_neg (fun z => by have := big c c0 (by omega) z.1; omega)]
      exact ih _ (by omega) (by omega)
  intro n
  induction n with
  | zero => intro sz st _ _; rfl
  | succ n ih =>
    intro sz st hs h0
    unfold fSz
    rw [if_pos h0, co sz st hs 32 0 (by omega) (by omega)]
    exact ih _ _ (by omega) h0
theorem fCo_cnt {B : tB} {l w sz : Int} : ∀ (n : Nat) (co : Int) (st : tP), (st.1 = 1 → st.2.1 = sz) → ((fCo B l w sz n co st).1 = 1 → (fCo B l w sz n co st).2.1 = sz) := by
  intro n
  induction n with
  | zero => intro co st h; exact h
  | succ n ih =>
    intro co st h
    refine ih (co + 1) _ ?_
    by_cases c : aDif co (aFr B w) = 0 ∧ aCnt co = sz
    · rw [if_pos c]; unfold fTry; split
      · intro _; exact c.2
      · exact h
    · rw [if_neg c]; exact h
theorem s_M_plans_sizes {d : Nat} {B : tB} (hO : BOk B) {l w : Int} (hl : 0 ≤ l) (hl' : l ≤ 2) : ∀ (n : Nat) (sz : Int) (st : tP) (h : mHp), sz + n = 6 → 0 ≤ sz → st.1 = 0 → (∀ co, 0 ≤ co → co < 32 → aDif co (aFr B w) = 0 → aCnt co < sz → ¬ vCo B l w co < 1023) → BM h B → PW h → MC h B l w →
    ∃ h', mRuns (d + 5) 44 16 [some (.ref 114), none, none, some (.int (zI sz)), none, none] [] h (.inl (some (.int (zI (fSz B l w n sz st).1)), h')) ∧ MX h' B (fSz B l w n sz st) ∧ ((fSz B l w n sz st).1 = 1 → h'.1 114 40 = zI (fSz B l w n sz st).2.1) ∧ hFg 114 [126, 127, 128] [39, 40] h h' := by
  have o := hO.1
  have hp := aPow_le o.2.2.2.2.1 o.2.2.2.2.2.1
  intro n
  induction n with
  | zero =>
    intro sz st h hn s0 h0 hsm hB hP hM
    have e3 := hB.2.2.1
    refine ⟨h, vc_M_plans_16 ?_, ⟨Or.inl h0, fun z => absurd (show st.1 = 1 from z) (by omega)⟩, fun z => absurd (show st.1 = 1 from z) (by omega), hFg_refl _ _ _ _⟩
    have : (fSz B l w 0 sz st).1 = 0 := h0
    rw [this]
    simp (disch := omega) only [zI_add, zI_sub, zI_mul, zI_neg, zI_lit, zI_0, zI_1, zI_lt, zI_le, zI_eq, zI_clamp, zI_inT, zI_ite, mOb_0, mOb_1, mOb_3, mOb_4, mLd_1, mAr_1, mLen_1, mTrue_t, Int.toNat_zero, Int.toNat_one, true_and, and_true, not_true_eq_false, not_false_eq_true, true_or, or_true, or_self, false_or, or_false, forall_const, false_implies, true_implies, implies_true, e3]
    repeat' (first | refine And.intro ?_ ?_ | with_reducible intro _)
    all_goals first | omega | rfl
  | succ n ih =>
    intro sz st h hn s0 h0 hsm hB hP hM
    have e3 := hB.2.2.1
    by_cases big : bT B < sz
    · rw [fSz_rest hO _ _ _ big h0]
      refine ⟨h, vc_M_plans_16 ?_, ⟨Or.inl h0, fun z => by rw [h0] at z; omega⟩, fun z => by omega, hFg_refl _ _ _ _⟩
      rw [h0]
      simp (disch := omega) only [zI_add, zI_sub, zI_mul, zI_neg, zI_lit, zI_0, zI_1, zI_lt, zI_le, zI_eq, zI_clamp, zI_inT, zI_ite, mOb_0, mOb_1, mOb_3, mOb_4, mLd_1, mAr_1, mLen_1, mTrue_t, Int.toNat_zero, Int.toNat_one, true_and, and_true, not_true_eq_false, not_false_eq_true, true_or, or_true, or_self, false_or, or_false, forall_const, false_implies, true_implies, implies_true, e3]
      repeat' (first | refine And.intro ?_ ?_ | with_reducible intro _)
      all_goals first | omega | rfl
    · have X0 : MX h B st := ⟨Or.inl h0, fun z => by omega⟩
      obtain ⟨h1, X1, G1, K1⟩ := s_M_plans_cos (d := d) (sz := sz) hO hl hl' s0 (by omega) hsm (aPow (bT B)).toNat 0 st h (by omega) (by omega) hB hP hM X0
      have all : fCo B l w sz (aPow (bT B)).toNat 0 st = fCo B l w sz 32 0 st := by
        have e := fCo_add (B := B) (l := l) (w := w) (sz := sz) (aPow (bT B)).toNat (32 - (aPow (bT B)).toNat) 0 st
        rw [fCo_rest hO (32 - (aPow (bT B)).toNat) _ _ (by omega) (by omega), show (aPow (bT B)).toNat + (32 - (aPow (bT B)).toNat) = 32 by omega] at e
        exact e.symm
      have hc := fCo_cnt (B := B) (l := l) (w := w) (sz := sz) 32 0 st (fun z => by omega)
      have hnone := fCo_none (B := B) (l := l) (w := w) (sz := sz) 32 0 st
      rw [all] at X1 K1
      have B1 := BM_fg hB G1 (by simp) (by simp)
      have e31 := B1.2.2.1
      have G1' : hFg 114 [126, 127, 128] [39, 40] h (mPI h1 114 40 (zI sz)) := hFg_pf (hFg_mono G1 (by simp) (by simp)) (by simp) _
      unfold fSz
      rw [if_pos h0]
      generalize fCo B l w sz 32 0 st = s2 at *
      rw [h0] at K1
      rcases X1.1 with e | e
      · obtain ⟨k1, k2⟩ := hnone e
        obtain ⟨h3, r3, X3, C3, G3⟩ := ih (sz + 1) s2 (mPI h1 114 40 (zI sz)) (by omega) (by omega) e (fun co c0 c1 c2 c3 => by
          by_cases y : aCnt co = sz
          · exact k2 co c0 (by omega) c2 y
          · exact hsm co c0 c1 c2 (by omega)) (BM_fg hB G1' (by simp) (by simp)) (PW_of hP (G1'.1 129 (by simp) (by omega))) (MC_of hM (G1'.1 125 (by simp) (by omega)))
        refine ⟨h3, vc_M_plans_16 ?_, X3, C3, hFg_trans G1' G3⟩
        have r : mRuns (d + 5) 44 30 [some (.ref 114), none, none, some (.int (zI sz)), some (.int (zI s2.1)), some (.int (zI (aPow (bT B))))] [] h1 (.inl (some (.int (zI (fSz B l w n (sz + 1) s2).1)), h3)) := by
          refine vc_M_plans_30 ?_
          rw [e]
          simp (disch := omega) only [zI_add, zI_sub, zI_mul, zI_neg, zI_lit, zI_0, zI_1, zI_lt, zI_le, zI_eq, zI_clamp, zI_inT, zI_ite, mOb_0, mOb_1, mOb_3, mOb_4, mLd_1, mAr_1, mLen_1, mTrue_t, Int.toNat_zero, Int.toNat_one, true_and, and_true, not_true_eq_false, not_false_eq_true, true_or, or_true, or_self, false_or, or_false, forall_const, false_implies, true_implies, implies_true, e31, zI_shl6]
          repeat' (first | refine And.intro ?_ ?_ | with_reducible intro _)
          all_goals first | omega | exact r3
        have r := K1 _ r
        simp (disch := omega) only [zI_add, zI_sub, zI_mul, zI_neg, zI_lit, zI_0, zI_1, zI_lt, zI_le, zI_eq, zI_clamp, zI_inT, zI_ite, mOb_0, mOb_1, mOb_3, mOb_4, mLd_1, mAr_1, mLen_1, mTrue_t, Int.toNat_zero, Int.toNat_one, true_and, and_true, not_true_eq_false, not_false_eq_true, true_or, or_true, or_self, false_or, or_false, forall_const, false_implies, true_implies, implies_true, e3]
        repeat' (first | refine And.intro ?_ ?_ | with_reducible intro _)
        all_goals first | omega | exact r
      · rw [fSz_stop _ _ _ (by omega)]
        refine ⟨mPI h1 114 40 (zI sz), vc_M_plans_16 ?_, MX_of X1 (hI_off (by omega) _ _ _ _) (hI_ne (by omega) _ _ _), fun z => by rw [hI_same, hc e], G1'⟩
        have r : mRuns (d + 5) 44 30 [some (.ref 114), none, none, some (.int (zI sz)), some (.int (zI s2.1)), some (.int (zI (aPow (bT B))))] [] h1 (.inl (some (.int (zI s2.1)), mPI h1 114 40 (zI sz))) := by
          refine vc_M_plans_30 ?_
          rw [e]
          simp (disch := omega) only [zI_add, zI_sub, zI_mul, zI_neg, zI_lit, zI_0, zI_1, zI_lt, zI_le, zI_eq, zI_clamp, zI_inT, zI_ite, mOb_0, mOb_1, mOb_3, mOb_4, mLd_1, mAr_1, mLen_1, mTrue_t, Int.toNat_zero, Int.toNat_one, true_and, and_true, not_true_eq_false, not_false_eq_true, true_or, or_true, or_self, false_or, or_false, forall_const, false_implies, true_implies, implies_true, e31, zI_shl6]
          repeat' (first | refine And.intro ?_ ?_ | with_reducible intro _)
          all_goals first | omega | rfl
        have r := K1 _ r
        simp (disch := omega) only [zI_add, zI_sub, zI_mul, zI_neg, zI_lit, zI_0, zI_1, zI_lt, zI_le, zI_eq, zI_clamp, zI_inT, zI_ite, mOb_0, mOb_1, mOb_3, mOb_4, mLd_1, mAr_1, mLen_1, mTrue_t, Int.toNat_zero, Int.toNat_one, true_and, and_true, not_true_eq_false, not_false_eq_true, true_or, or_true, or_self, false_or, or_false, forall_const, false_implies, true_implies, implies_true, e3]
        repeat' (first | refine And.intro ?_ ?_ | with_reducible intro _)
        all_goals first | omega | exact r
theorem s_M_plans {d : Nat} {h : mHp} {B : tB} (hO : BOk B) {l w bm : Int} (hl : 0 ≤ l) (hl' : l ≤ 2) (hw : bMk w bm) (hB : BM h B) (hP : PW h) :
    ∃ h', mRuns (d + 5) 44 0 [some (.ref 114), some (.int (zI l)), some (.int (zI bm)), none, none, none] [] h (.inl (some (.int (zI (fPl B l w).1)), h')) ∧ MX h' B (fPl B l w) ∧ ((fPl B l w).1 = 1 → h'.1 114 40 = zI (fPl B l w).2.1) ∧ MC h' B l w ∧ hFg 114 [125, 126, 127, 128] [32, 33, 39, 40] h h' := by
  have o := hO.1
  have B0 : BM (mPI (mPI h 114 32 (zI l)) 114 33 (zI bm)) B := BM_of hB (fun k _ _ => by rw [hI_off (by omega), hI_off (by omega)]) (fun k _ _ => by rw [hI_ne (by omega), hI_ne (by omega)])
  obtain ⟨h1, r1, M1, F1⟩ := s_M_colds (d := d) hO hl hl' hw (bD B).toNat 0 (mPI (mPI h 114 32 (zI l)) 114 33 (zI bm)) (by omega) (by omega) B0 (by rw [hI_off (by omega), hI_same]) (by rw [hI_same]) (fun q s a b => by omega)
  have G1 : hFg 114 [125, 126, 127, 128] [32, 33, 39, 40] h h1 := hFg_fr (hFg_pf (hFg_pf (hFg_refl _ _ _ _) (by simp) _) (by simp) _) (hFr_mono F1 (by simp)) (by simp)
  obtain ⟨h2, r2, X2, C2, G2⟩ := s_M_plans_sizes (d := d) (w := w) hO hl hl' 6 0 (0, 0, 0, fun _ => 0) h1 (by omega) (by omega) rfl (fun co _ _ _ z => by have := aCnt_rng co; omega) (BM_fg hB G1 (by simp) (by simp)) (PW_of hP (G1.1 129 (by simp) (by omega))) M1
  refine ⟨h2, vc_M_plans ⟨h1, ?_, r2⟩, X2, C2, MC_of M1 (G2.1 125 (by simp) (by omega)), hFg_trans G1 (hFg_mono G2 (by simp) (by simp))⟩
  exact vc_M_colds r1

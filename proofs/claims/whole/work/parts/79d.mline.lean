/-! L3, the model reads a line -/
theorem w_n0 {x : Int} (z : x = 0 ∨ x = 1) (h : ¬ x = 0) : x = 1 := z.resolve_left h
theorem w_n1 {x : Int} (h : x = 0) : ¬ x = 1 := by omega
theorem s_M_line {d : Nat} {u : Int → Int} {n : Int} {S : tL} {h : mHp} (n1 : n ≤ 700) (hu : uR u) (hO : ROk u n S.1) (hQ : QM h u n S) (c0 : rF S.1 = 0) :
    ∃ h', mRuns (d + 6) 14 0 [some (.ref 114)] [] h (.inl (none, h')) ∧ QM h' u n (xLn u n S) ∧ kF rsL fsL h h' := by
  obtain ⟨R, B, T, cl⟩ := S
  replace hO : ROk u n R := hO
  replace c0 : rF R = 0 := c0
  obtain ⟨hR, hB, hBO, hU, h8, hcl⟩ := QM_d hQ c0
  have o1 := hBO.1
  have O1 := (Aft_sc hO).1
  have w0 := s_M_w (d := d + 2) (k := 0) (by omega) n1 hO hR
  have w1 := s_M_w (d := d + 2) (k := 1) (by omega) n1 hO hR
  have w2 := s_M_w (d := d + 2) (k := 2) (by omega) n1 hO hR
  have w3 := s_M_w (d := d + 2) (k := 3) (by omega) n1 hO hR
  have w4 := s_M_w (d := d + 2) (k := 4) (by omega) n1 hO hR
  have z0 : aW u 0 R = 0 ∨ aW u 0 R = 1 := aIs_01 _ _ _ _ _
  have z1 : aW u 1 R = 0 ∨ aW u 1 R = 1 := aIs_01 _ _ _ _ _
  have z2 : aW u 2 R = 0 ∨ aW u 2 R = 1 := aIs_01 _ _ _ _ _
  have z3 : aW u 3 R = 0 ∨ aW u 3 R = 1 := aIs_01 _ _ _ _ _
  have z4 : aW u 4 R = 0 ∨ aW u 4 R = 1 := aIs_01 _ _ _ _ _
  -- a line that failed at once ends as it is
  have enf : ∀ k : Int, k ≠ 0 → aEn u n (aFl k R) = aFl k R := fun k hk => by unfold aEn; rw [if_pos (fl_f hk R)]
  have FE : ∀ (h1 : mHp) (R1 : tR) (B1 : tB) (T1 : Int → Bool) (cl1 : Int), ROk u n R1 → RM h1 u n R1 → kF rsL fsL h h1 → (rF (aEn u n R1) = 0 → BOk B1) → (cl1 = 0 ∨ cl1 = 1) → (rF R1 = 0 → NM h1 B1 ∧ UM h1 T1 ∧ h1.1 114 26 = zI cl1) →
      ∃ h', mRuns (d + 6) 14 117 [some (.ref 114)] [] h1 (.inl (none, h')) ∧ QM h' u n (aEn u n R1, B1, T1, cl1) ∧ kF rsL fsL h h' := by
    intro h1 R1 B1 T1 cl1 O C F hb hc hN
    obtain ⟨h', r, C', f⟩ := s_M_en (d := d + 2) n1 hu O C
    refine ⟨h', r, ⟨C', fun z => ?_⟩, kF_trans F (kF_mono f (by simp) (by simp))⟩
    obtain ⟨a, b, c⟩ := hN (en_f z).1
    refine ⟨NM_of a (fun k k0 k1 => f.2.1 k (by simp; omega)) (fun k k0 k1 => f.1 k (by simp) (by omega)), hb z, fun k k0 k1 => ?_, ?_, hc⟩
    · rw [f.2.1 25 (by simp)]; exact b k k0 k1
    · rw [f.2.1 26 (by simp)]; exact c
  have FF : ∀ (e : Nat) (k : Int), 1 ≤ k → k ≤ 5 → ∃ h1 h', mRuns (e + 1) 19 0 [some (.ref 114), some (.int (zI k))] [] h (.inl (none, h1)) ∧ RM h1 u n (aFl k R) ∧ kF rsL fsL h h1 ∧ mRuns (d + 6) 14 117 [some (.ref 114)] [] h1 (.inl (none, h')) ∧ QM h' u n (aFl k R, B, T, cl) ∧ kF rsL fsL h h' := by
    intro e k k0 k1
    obtain ⟨h1, r, C, f, -⟩ := s_M_fl (d := e) (k := k) hO hR
    have F : kF rsL fsL h h1 := kF_mono f (by simp) (by simp)
    have nf : rF (aFl k R) ≠ 0 := fl_f (by omega) R
    obtain ⟨h', r', C', f'⟩ := FE h1 (aFl k R) B T cl (ROk_fl n1 hO (by omega) k1).1 C F (fun _ => hBO) hcl (fun z => absurd z nf)
    rw [enf k (by omega)] at C'
    exact ⟨h1, h', r, C, F, r', C', f'⟩
  -- the branches of the line
  have D : ∀ out, ((aW u 0 R = 1 → ∃ h', mRuns (d + 5) 18 0 [some (.ref 114), none] [] h (.inl (none, h')) ∧ mRuns (d + 6) 14 117 [some (.ref 114)] [] h' out) ∧
      (¬ aW u 0 R = 1 → aW u 1 R = 1 → ∃ h', mRuns (d + 5) 22 0 [some (.ref 114), none] [] h (.inl (none, h')) ∧ mRuns (d + 6) 14 117 [some (.ref 114)] [] h' out) ∧
      (¬ aW u 0 R = 1 → ¬ aW u 1 R = 1 → aW u 2 R = 1 → ∃ h', mRuns (d + 5) 23 0 [some (.ref 114), none, none] [] h (.inl (none, h')) ∧ mRuns (d + 6) 14 117 [some (.ref 114)] [] h' out) ∧
      (¬ aW u 0 R = 1 → ¬ aW u 1 R = 1 → ¬ aW u 2 R = 1 → aW u 3 R = 1 → ∃ h', mRuns (d + 5) 24 0 [some (.ref 114), none, none, none] [] h (.inl (none, h')) ∧ mRuns (d + 6) 14 117 [some (.ref 114)] [] h' out) ∧
      (¬ aW u 0 R = 1 → ¬ aW u 1 R = 1 → ¬ aW u 2 R = 1 → ¬ aW u 3 R = 1 → aW u 4 R = 1 → (cl = 0 → mRuns (d + 6) 14 80 [some (.ref 114)] [] h out) ∧ (¬ cl = 0 → ∃ h', mRuns (d + 5) 19 0 [some (.ref 114), some (.int (zI 5))] [] h (.inl (none, h')) ∧ mRuns (d + 6) 14 80 [some (.ref 114)] [] h' out)) ∧
      (¬ aW u 0 R = 1 → ¬ aW u 1 R = 1 → ¬ aW u 2 R = 1 → ¬ aW u 3 R = 1 → ¬ aW u 4 R = 1 → ∃ h', mRuns (d + 5) 19 0 [some (.ref 114), some (.int (zI 1))] [] h (.inl (none, h')) ∧ mRuns (d + 6) 14 117 [some (.ref 114)] [] h' out)) → mRuns (d + 6) 14 0 [some (.ref 114)] [] h out := by
    intro out H
    obtain ⟨H0, H1, H2, H3, H4, H5⟩ := H
    refine vc_M_line ⟨_, _, w0, ?_⟩
    simp (disch := omega) only [zI_add, zI_sub, zI_mul, zI_neg, zI_lit, zI_0, zI_1, zI_lt, zI_le, zI_eq, zI_clamp, zI_inT, zI_ite, mOb_0, mOb_1, mOb_3, mOb_4, mLd_1, mAr_1, mLen_1, mTrue_t, Int.toNat_zero, Int.toNat_one, true_and, and_true, not_true_eq_false, not_false_eq_true, true_or, or_true, or_self, false_or, or_false, forall_const, false_implies, true_implies, implies_true]
    refine ⟨fun y0 => ⟨_, _, w1, ?_⟩, fun y0 => H0 (w_n0 z0 y0)⟩
    simp (disch := omega) only [zI_add, zI_sub, zI_mul, zI_neg, zI_lit, zI_0, zI_1, zI_lt, zI_le, zI_eq, zI_clamp, zI_inT, zI_ite, mOb_0, mOb_1, mOb_3, mOb_4, mLd_1, mAr_1, mLen_1, mTrue_t, Int.toNat_zero, Int.toNat_one, true_and, and_true, not_true_eq_false, not_false_eq_true, true_or, or_true, or_self, false_or, or_false, forall_const, false_implies, true_implies, implies_true]
    refine ⟨fun y1 => ⟨_, _, w2, ?_⟩, fun y1 => H1 (w_n1 y0) (w_n0 z1 y1)⟩
    simp (disch := omega) only [zI_add, zI_sub, zI_mul, zI_neg, zI_lit, zI_0, zI_1, zI_lt, zI_le, zI_eq, zI_clamp, zI_inT, zI_ite, mOb_0, mOb_1, mOb_3, mOb_4, mLd_1, mAr_1, mLen_1, mTrue_t, Int.toNat_zero, Int.toNat_one, true_and, and_true, not_true_eq_false, not_false_eq_true, true_or, or_true, or_self, false_or, or_false, forall_const, false_implies, true_implies, implies_true]
    refine ⟨fun y2 => ⟨_, _, w3, ?_⟩, fun y2 => H2 (w_n1 y0) (w_n1 y1) (w_n0 z2 y2)⟩
    simp (disch := omega) only [zI_add, zI_sub, zI_mul, zI_neg, zI_lit, zI_0, zI_1, zI_lt, zI_le, zI_eq, zI_clamp, zI_inT, zI_ite, mOb_0, mOb_1, mOb_3, mOb_4, mLd_1, mAr_1, mLen_1, mTrue_t, Int.toNat_zero, Int.toNat_one, true_and, and_true, not_true_eq_false, not_false_eq_true, true_or, or_true, or_self, false_or, or_false, forall_const, false_implies, true_implies, implies_true]
    refine ⟨fun y3 => ⟨_, _, w4, ?_⟩, fun y3 => H3 (w_n1 y0) (w_n1 y1) (w_n1 y2) (w_n0 z3 y3)⟩
    simp (disch := omega) only [zI_add, zI_sub, zI_mul, zI_neg, zI_lit, zI_0, zI_1, zI_lt, zI_le, zI_eq, zI_clamp, zI_inT, zI_ite, mOb_0, mOb_1, mOb_3, mOb_4, mLd_1, mAr_1, mLen_1, mTrue_t, Int.toNat_zero, Int.toNat_one, true_and, and_true, not_true_eq_false, not_false_eq_true, true_or, or_true, or_self, false_or, or_false, forall_const, false_implies, true_implies, implies_true, h8]
    exact ⟨fun y4 => H5 (w_n1 y0) (w_n1 y1) (w_n1 y2) (w_n1 y3) (w_n1 y4), fun y4 => H4 (w_n1 y0) (w_n1 y1) (w_n1 y2) (w_n1 y3) (w_n0 z4 y4)⟩
  clear w0 w1 w2 w3 w4 z0 z1 z2 z3 z4
  unfold xLn
  show ∃ h', _ ∧ QM h' u n (if aW u 0 R = 1 then xDi u n R B T cl else if aW u 1 R = 1 then xPo u n R B T cl else if aW u 2 R = 1 then xTa u n R B T cl else if aW u 3 R = 1 then xHa u n R B T cl else if aW u 4 R = 1 then xCl u n R B T cl else (aFl 1 R, B, T, cl)) ∧ _
  by_cases y0 : aW u 0 R = 1
  · rw [if_pos y0]
    unfold xDi
    by_cases c6 : 6 ≤ bD B
    · rw [if_pos c6]
      obtain ⟨h1, h', r1, C1, F1, r', C', f'⟩ := FF (d + 3) 2 (by omega) (by omega)
      have G0 := s_M_good0 (d := d + 3) (ROk_fl n1 hO (by omega) (by omega)).1 C1 (fl_f (by omega) R)
      refine ⟨h', D _ ⟨fun _ => ⟨h1, vc_M_readsDish ⟨fun z => ?_, fun _ => ⟨h1, r1, vc_M_readsDish_14 ⟨_, _, G0, fun z => absurd rfl z, fun _ => rfl⟩⟩⟩, r'⟩, fun z => absurd y0 z, fun z => absurd y0 z, fun z => absurd y0 z, fun z => absurd y0 z, fun z => absurd y0 z⟩, C', f'⟩
      rw [hB.1, show nI 6 = zI 6 from rfl, zI_eq (by omega) (by omega) (by omega) (by omega)] at z
      omega
    · rw [if_neg c6]
      obtain ⟨h1, r1, C1, N1, F1⟩ := s_M_dishL (d := d) n1 hu hO hQ c0 (by omega)
      have O2 : ROk u n (dD1 u n R).1 := (Aft_nu (lo := 0) (hi := 95) n1 O1).1
      have O3 : ROk u n (dD2 u n R).1 := (Aft_nu (lo := (dD1 u n R).2 + 1) (hi := 95) n1 O2).1
      have O4 : ROk u n (dD3 u n R).1 := (Aft_op (k := 5) (hi := 99) (wo := 1) n1 O3).1
      obtain ⟨h', r', C', f'⟩ := FE h1 _ (bPD B (dD1 u n R).2 (dD2 u n R).2 (dD3 u n R).2) T cl O4 C1 F1 (fun cf => by
        obtain ⟨q4, q5, q6⟩ := en_f cf
        obtain ⟨g1, g2⟩ := op_f (show rF (aOp u n 5 99 1 (dD2 u n R).1).1 = 0 from q4)
        obtain ⟨g3, g4, g5, g6, g7⟩ := nu_f (show rF (aNu u n ((dD1 u n R).2 + 1) 95 (dD1 u n R).1).1 = 0 from g1)
        obtain ⟨g8, g9, g10, g11, g12⟩ := nu_f (show rF (aNu u n 0 95 (aSc u n R)).1 = 0 from g3)
        have w1 : (dD1 u n R).2 = rVa (aSc u n R) := by unfold dD1; rw [g9]
        have w2 : (dD2 u n R).2 = rVa (dD1 u n R).1 := by unfold dD2; rw [g4]
        have w3 : (dD3 u n R).2 = 1 ∨ (0 ≤ (dD3 u n R).2 ∧ (dD3 u n R).2 ≤ 99) := g2
        exact BOk_D hBO (by omega) (by omega) (by omega) (by omega) (by omega) (by omega)) hcl N1
      exact ⟨h', D _ ⟨fun _ => ⟨h1, r1, r'⟩, fun z => absurd y0 z, fun z => absurd y0 z, fun z => absurd y0 z, fun z => absurd y0 z, fun z => absurd y0 z⟩, C', f'⟩
  · rw [if_neg y0]
    by_cases y1 : aW u 1 R = 1
    · rw [if_pos y1]
      unfold xPo
      by_cases c6 : 5 ≤ bP B
      · rw [if_pos c6]
        obtain ⟨h1, h', r1, C1, F1, r', C', f'⟩ := FF (d + 3) 2 (by omega) (by omega)
        have G0 := s_M_good0 (d := d + 3) (ROk_fl n1 hO (by omega) (by omega)).1 C1 (fl_f (by omega) R)
        refine ⟨h', D _ ⟨fun z => absurd z y0, fun _ _ => ⟨h1, vc_M_readsPoison ⟨fun z => ?_, fun _ => ⟨h1, r1, vc_M_readsPoison_13 ⟨_, _, G0, fun z => absurd rfl z, fun _ => rfl⟩⟩⟩, r'⟩, fun _ z => absurd y1 z, fun _ z => absurd y1 z, fun _ z => absurd y1 z, fun _ z => absurd y1 z⟩, C', f'⟩
        rw [hB.2.1, show nI 5 = zI 5 from rfl, zI_eq (by omega) (by omega) (by omega) (by omega)] at z
        omega
      · rw [if_neg c6]
        obtain ⟨h1, r1, C1, N1, F1⟩ := s_M_poisL (d := d) n1 hu hO hQ c0 (by omega)
        have O2 : ROk u n (dP1 u n R).1 := (Aft_nu (lo := 1) (hi := 40) n1 O1).1
        have O3 : ROk u n (dP2 u n R) := by
          unfold dP2
          split
          · exact (Aft_sc O2).1
          · exact O2
        have O4 : ROk u n (dP3 u n R).1 := (Aft_op (k := 7) (hi := 9) (wo := 0) n1 O3).1
        have O5 : ROk u n (dP4 u n R).1 := (Aft_op (k := 5) (hi := 99) (wo := 1) n1 O4).1
        obtain ⟨h', r', C', f'⟩ := FE h1 _ (bPP B (dP1 u n R).2 (dPw u n R) (dP3 u n R).2 (dP4 u n R).2) T cl O5 C1 F1 (fun cf => by
          obtain ⟨q4, q5, q6⟩ := en_f cf
          obtain ⟨y1, y2⟩ := op_f (show rF (aOp u n 5 99 1 (dP3 u n R).1).1 = 0 from q4)
          obtain ⟨y3, y4⟩ := op_f (show rF (aOp u n 7 9 0 (dP2 u n R)).1 = 0 from y1)
          have y5 : rF (dP1 u n R).1 = 0 := by
            unfold dP2 at y3
            split at y3
            · exact y3
            · exact y3
          obtain ⟨g8, g9, g10, g11, g12⟩ := nu_f (show rF (aNu u n 1 40 (aSc u n R)).1 = 0 from y5)
          have w1 : (dP1 u n R).2 = rVa (aSc u n R) := by unfold dP1; rw [g9]
          have w3 : (dP3 u n R).2 = 0 ∨ (0 ≤ (dP3 u n R).2 ∧ (dP3 u n R).2 ≤ 9) := y4
          have w4 : (dP4 u n R).2 = 1 ∨ (0 ≤ (dP4 u n R).2 ∧ (dP4 u n R).2 ≤ 99) := y2
          have W01 : dPw u n R = 0 ∨ dPw u n R = 1 := by unfold dPw; split <;> omega
          exact BOk_P hBO (by omega) (by omega) (by omega) (by omega) (by omega) (by omega) (by omega) (by omega) (by omega)) hcl N1
        exact ⟨h', D _ ⟨fun z => absurd z y0, fun _ _ => ⟨h1, r1, r'⟩, fun _ z => absurd y1 z, fun _ z => absurd y1 z, fun _ z => absurd y1 z, fun _ z => absurd y1 z⟩, C', f'⟩
    · rw [if_neg y1]
      by_cases y2 : aW u 2 R = 1
      · rw [if_pos y2]
        unfold xTa
        by_cases c6 : 5 ≤ bT B
        · rw [if_pos c6]
          obtain ⟨h1, h', r1, C1, F1, r', C', f'⟩ := FF (d + 3) 2 (by omega) (by omega)
          have G0 := s_M_good0 (d := d + 3) (ROk_fl n1 hO (by omega) (by omega)).1 C1 (fl_f (by omega) R)
          refine ⟨h', D _ ⟨fun z => absurd z y0, fun _ z => absurd z y1, fun _ _ _ => ⟨h1, vc_M_readsTaster ⟨fun z => ?_, fun _ => ⟨h1, r1, vc_M_readsTaster_13 ⟨_, _, G0, fun z => absurd rfl z, fun _ => rfl⟩⟩⟩, r'⟩, fun _ _ z => absurd y2 z, fun _ _ z => absurd y2 z, fun _ _ z => absurd y2 z⟩, C', f'⟩
          rw [hB.2.2.1, show nI 5 = zI 5 from rfl, zI_eq (by omega) (by omega) (by omega) (by omega)] at z
          omega
        · rw [if_neg c6]
          obtain ⟨h1, r1, C1, N1, F1⟩ := s_M_tastL (d := d) n1 hu hO hQ c0 (by omega)
          have O2 : ROk u n (dT1 u n R) := (Aft_ki n1 O1).1
          have O4 : ROk u n (dT2 u n R).1 := (Aft_op (k := 8) (hi := 6) (wo := 6) n1 O2).1
          obtain ⟨h', r', C', f'⟩ := FE h1 _ (bPT B (dTk u n R) (dT2 u n R).2) T cl O4 C1 F1 (fun cf => by
            obtain ⟨q4, q5, q6⟩ := en_f cf
            obtain ⟨g1, g2⟩ := op_f (show rF (aOp u n 8 6 6 (dT1 u n R)).1 = 0 from q4)
            obtain ⟨g3, g4, g5⟩ := ki_f (show rF (aKi u n (aSc u n R)) = 0 from g1)
            have w1 : -1 ≤ dTk u n R ∧ dTk u n R ≤ 4 := kn_rng u (aSc u n R)
            have w2 : dTk u n R ≠ -1 := g4
            have w3 : (dT2 u n R).2 = 6 ∨ (0 ≤ (dT2 u n R).2 ∧ (dT2 u n R).2 ≤ 6) := g2
            exact BOk_T hBO (by omega) (by omega) (by omega) (by omega) (by omega)) hcl N1
          exact ⟨h', D _ ⟨fun z => absurd z y0, fun _ z => absurd z y1, fun _ _ _ => ⟨h1, r1, r'⟩, fun _ _ z => absurd y2 z, fun _ _ z => absurd y2 z, fun _ _ z => absurd y2 z⟩, C', f'⟩
      · rw [if_neg y2]
        by_cases y3 : aW u 3 R = 1
        · rw [if_pos y3]
          unfold xHa
          obtain ⟨h1, r1, C1, N1, F1⟩ := s_M_hadL (d := d) n1 hu hO hQ c0
          have O2 : ROk u n (dH1 u n R B).1 := (Aft_to (told := bT B) (used := fun _ => false) n1 O1).1
          have O3 : ROk u n (dH2 u n R B T).1 := (Aft_to (told := bP B) n1 O2).1
          have O4 : ROk u n (dH3 u n R B T).1 := (Aft_nu (lo := 0) (hi := 99) n1 O3).1
          obtain ⟨h', r', C', f'⟩ := FE h1 _ (bPH B (dHk u n R B T) (dH3 u n R B T).2) (fun j => T j || decide (j = dHk u n R B T)) cl O4 C1 F1 (fun cf => by
            obtain ⟨q4, q5, q6⟩ := en_f cf
            obtain ⟨g1, g2, g3, g4, g5⟩ := nu_f (show rF (aNu u n 0 99 (dH2 u n R B T).1).1 = 0 from q4)
            have w3 : (dH3 u n R B T).2 = rVa (dH2 u n R B T).1 := by unfold dH3; rw [g2]
            exact BOk_H hBO (by omega) (by omega)) hcl N1
          exact ⟨h', D _ ⟨fun z => absurd z y0, fun _ z => absurd z y1, fun _ _ z => absurd z y2, fun _ _ _ _ => ⟨h1, r1, r'⟩, fun _ _ _ z => absurd y3 z, fun _ _ _ z => absurd y3 z⟩, C', f'⟩
        · rw [if_neg y3]
          by_cases y4 : aW u 4 R = 1
          · rw [if_pos y4]
            unfold xCl
            by_cases c6 : cl = 0
            · rw [if_neg (by omega)]
              have G := s_M_good1 (d := d + 4) hR c0
              have RA : RM (mPI h 114 26 (zI 1)) u n R := RM_fld hR (by omega) _
              have FA' : kF rsL fsL h (mPI h 114 26 (zI 1)) := kF_pf (kF_refl _ _ _) (by simp) _
              obtain ⟨h1, r1, C1, f1⟩ := s_M_sc (d := d + 3) n1 hu hO RA
              obtain ⟨x, h2, r2, v2, C2, f2⟩ := s_M_nu (d := d + 2) (lo := 0) (hi := 9999) (a1 := zI 0) (a2 := zI 9999) n1 hu O1 C1 (fun _ => ⟨rfl, rfl, by omega, by omega, by omega, by omega⟩)
              have O2 : ROk u n (dC1 u n R).1 := (Aft_nu (lo := 0) (hi := 9999) n1 O1).1
              replace C2 : RM h2 u n (dC1 u n R).1 := C2
              replace v2 : rF (dC1 u n R).1 = 0 → x = zI (dC1 u n R).2 := v2
              have C3 : RM (mPI h2 114 24 x) u n (dC1 u n R).1 := RM_fld C2 (by omega) _
              have F3 : kF rsL fsL h (mPI h2 114 24 x) := kF_pf (kF_trans FA' (kF_mono (kF_trans f1 f2) (by simp) (by simp))) (by simp) _
              have g2 : ∀ k, 20 ≤ k → k ≠ 26 → h2.1 114 k = h.1 114 k := fun k hk hk' => by
                have a : k ∉ fsM := by simp; omega
                rw [f2.2.1 k a, f1.2.1 k a, hI_off hk']
              have gr2 : ∀ a : Nat, a ≠ 114 → h2.1 a = h.1 a := fun a a0 => by rw [f2.1 a (by simp) a0, f1.1 a (by simp) a0, hI_ne a0]
              have g26 : h2.1 114 26 = zI 1 := by rw [f2.2.1 26 (by simp), f1.2.1 26 (by simp), hI_same]
              obtain ⟨h', r', C', f'⟩ := FE (mPI h2 114 24 x) _ (bPC B (dC1 u n R).2) T 1 O2 C3 F3 (fun cf => by
                obtain ⟨q4, q5, q6⟩ := en_f cf
                obtain ⟨g8, g9, g10, g11, g12⟩ := nu_f (show rF (aNu u n 0 9999 (aSc u n R)).1 = 0 from q4)
                have w1 : (dC1 u n R).2 = rVa (aSc u n R) := by unfold dC1; rw [g9]
                exact BOk_C hBO (by omega) (by omega)) (Or.inr rfl) (fun z => by
                obtain ⟨a21, a22, a23, a24, aa⟩ := hB
                refine ⟨⟨?_, ?_, ?_, ?_, ?_⟩, fun k k0 k1 => ?_, ?_⟩
                · rw [hI_off (by omega), g2 21 (by omega) (by omega)]; exact a21
                · rw [hI_off (by omega), g2 22 (by omega) (by omega)]; exact a22
                · rw [hI_off (by omega), g2 23 (by omega) (by omega)]; exact a23
                · rw [hI_same, v2 z]; rfl
                · rw [hI_ne (by omega), hI_ne (by omega), hI_ne (by omega), hI_ne (by omega), gr2 121 (by omega), gr2 122 (by omega), gr2 123 (by omega), gr2 124 (by omega)]; exact aa
                · rw [hI_off (by omega), g2 25 (by omega) (by omega)]; exact hU k k0 k1
                · rw [hI_off (by omega)]; exact g26)
              refine ⟨h', D _ ⟨fun z => absurd z y0, fun _ z => absurd z y1, fun _ _ z => absurd z y2, fun _ _ _ z => absurd z y3, fun _ _ _ _ _ => ⟨fun _ => vc_M_line_80 ⟨_, _, G, fun _ => ⟨Or.inr rfl, h1, r1, x, h2, r2, r'⟩, fun z => ?_⟩, fun z => absurd c6 z⟩, fun _ _ _ _ z => absurd y4 z⟩, C', f'⟩
              rw [zI_0, zI_eq (by omega) (by omega) (by omega) (by omega)] at z
              omega
            · rw [if_pos c6]
              obtain ⟨h1, h', r1, C1, F1, r', C', f'⟩ := FF (d + 4) 5 (by omega) (by omega)
              have nf : rF (aFl 5 R) ≠ 0 := fl_f (by omega) R
              have G0 := s_M_good0 (d := d + 4) (ROk_fl n1 hO (by omega) (by omega)).1 C1 nf
              exact ⟨h1, D _ ⟨fun z => absurd z y0, fun _ z => absurd z y1, fun _ _ z => absurd z y2, fun _ _ _ z => absurd z y3, fun _ _ _ _ _ => ⟨fun z => absurd z c6, fun _ => ⟨h1, r1, vc_M_line_80 ⟨_, _, G0, fun z => absurd rfl z, fun _ => rfl⟩⟩⟩, fun _ _ _ _ z => absurd y4 z⟩, ⟨C1, fun z => absurd z nf⟩, F1⟩
          · rw [if_neg y4]
            obtain ⟨h1, h', r1, C1, F1, r', C', f'⟩ := FF (d + 4) 1 (by omega) (by omega)
            exact ⟨h', D _ ⟨fun z => absurd z y0, fun _ z => absurd z y1, fun _ _ z => absurd z y2, fun _ _ _ z => absurd z y3, fun _ _ _ _ z => absurd z y4, fun _ _ _ _ _ => ⟨h1, r1, r'⟩⟩, C', f'⟩

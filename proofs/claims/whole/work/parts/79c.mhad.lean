/-! L3, the model reads 'had' and 'clean'; a line -/
theorem s_M_had90f {d : Nat} {u : Int → Int} {n : Int} {R : tR} {h : mHp} {v : Int32} (n1 : n ≤ 700) (hu : uR u) (hO : ROk u n R) (hR : RM h u n R) (c : rF R ≠ 0) :
    ∃ h', mRuns (d + 5) 24 90 [some (.ref 114), none, some (.int v), none] [] h (.inl (none, h')) ∧ RM h' u n R ∧ kF [] fsM h h' := by
  obtain ⟨x, h', r, -, C, f⟩ := s_M_nu (d := d + 1) (lo := 0) (hi := 99) (a1 := zI 0) (a2 := zI 99) n1 hu hO hR (fun z => absurd z c)
  have e : aNu u n 0 99 R = (R, 0) := by unfold aNu; rw [if_pos c]
  rw [e] at C
  have G0 := s_M_good0 (d := d + 3) hO C c
  refine ⟨h', vc_M_readsHad_90 ⟨x, h', r, _, _, G0, ?_⟩, C, f⟩
  simp (disch := omega) only [zI_add, zI_sub, zI_mul, zI_neg, zI_lit, zI_0, zI_1, zI_lt, zI_le, zI_eq, zI_clamp, zI_inT, zI_ite, mOb_0, mOb_1, mOb_3, mOb_4, mLd_1, mAr_1, mLen_1, mTrue_t, Int.toNat_zero, Int.toNat_one, true_and, and_true, not_true_eq_false, not_false_eq_true, true_or, or_true, or_self, false_or, or_false, forall_const, false_implies, true_implies, implies_true]
  repeat' (first | refine And.intro ?_ ?_ | with_reducible intro _)
  all_goals first | omega | rfl
theorem s_M_had70f {d : Nat} {u : Int → Int} {n : Int} {R : tR} {h : mHp} {v : Int32} (n1 : n ≤ 700) (hu : uR u) (hO : ROk u n R) (hR : RM h u n R) (c : rF R ≠ 0) :
    ∃ h', mRuns (d + 5) 24 70 [some (.ref 114), some (.int v), none, none] [] h (.inl (none, h')) ∧ RM h' u n R ∧ kF [] fsM h h' := by
  obtain ⟨h', r, C, f⟩ := s_M_had90f (d := d) (v := ((nI 5) * v) + (h.1 114 19)) n1 hu hO hR c
  have G0 := s_M_good0 (d := d + 3) hO hR c
  refine ⟨h', vc_M_readsHad_70 ⟨_, _, G0, ?_⟩, C, f⟩
  refine ⟨fun _ => r, fun z => absurd rfl z⟩
theorem am_id {told : Int} {R : tR} (c : rF R ≠ 0) : aAm told R = R := by unfold aAm; rw [if_pos c]
theorem s_M_hadL {d : Nat} {u : Int → Int} {n : Int} {R : tR} {B : tB} {T : Int → Bool} {cl : Int} {h : mHp} (n1 : n ≤ 700) (hu : uR u) (hO : ROk u n R) (hQ : QM h u n (R, B, T, cl)) (c0 : rF R = 0) :
    ∃ h', mRuns (d + 5) 24 0 [some (.ref 114), none, none, none] [] h (.inl (none, h')) ∧ RM h' u n (dH3 u n R B T).1 ∧ (rF (dH3 u n R B T).1 = 0 → NM h' (bPH B (dHk u n R B T) (dH3 u n R B T).2) ∧ UM h' (fun j => T j || decide (j = dHk u n R B T)) ∧ h'.1 114 26 = zI cl) ∧ kF rsL fsL h h' := by
  obtain ⟨hR, hB, hBO, hU, h8, hcl⟩ := QM_d hQ c0
  have o1 := hBO.1
  have e22 := hB.2.1
  have e23 := hB.2.2.1
  obtain ⟨h1, r1, C1, f1⟩ := s_M_sc (d := d + 2) n1 hu hO hR
  have O1 := (Aft_sc hO).1
  have F1 : kF rsL fsL h h1 := kF_mono f1 (by simp) (by simp)
  have e231 : h1.1 114 23 = zI (bT B) := by rw [f1.2.1 23 (by simp)]; exact e23
  obtain ⟨h2, r2, C2, f2, j2⟩ := s_M_am (d := d + 2) (told := bT B) n1 O1 C1 (by omega) (by omega)
  have O2 : ROk u n (aAm (bT B) (aSc u n R)) := (Aft_am n1 O1).1
  have F2 : kF rsL fsL h h2 := kF_trans F1 (kF_mono f2 (by simp) (by simp))
  have H1 : dH1 u n R B = if rF (aAm (bT B) (aSc u n R)) ≠ 0 then (aAm (bT B) (aSc u n R), -1) else (aSc u n (aSc u n R), rVa (aSc u n R)) := by
    unfold dH1
    rw [to_am]
    by_cases c : rF (aAm (bT B) (aSc u n R)) ≠ 0
    · rw [if_pos c, if_pos c]
    · rw [if_neg c, if_neg c, if_neg (by decide)]
  by_cases c1 : rF (aAm (bT B) (aSc u n R)) = 0
  · -- the taster is there
    obtain ⟨q1, q2, q3, q4, q5⟩ := am_f c1
    rw [if_pos c1] at r2
    rw [if_neg (by omega)] at H1
    rw [q2] at C2 O2
    have t0 : (dH1 u n R B).2 = rVa (aSc u n R) := by rw [H1]
    have tR' : (dH1 u n R B).1 = aSc u n (aSc u n R) := by rw [H1]
    have va1 := O1.1.2.2.2.2.2.2.2.1
    have vb1 := O1.1.2.2.2.2.2.2.2.2.2.1 q3
    obtain ⟨w, w0, w1, w2, w3⟩ := C2.2.2.1.2.2.2.2.1
    have w3 := w3 q3 (by unfold vB at vb1; omega)
    subst w3
    have G2 := s_M_good1 (d := d + 3) C2 q1
    obtain ⟨h3, r3, C3, f3⟩ := s_M_sc (d := d + 2) n1 hu O2 C2
    have O3 := (Aft_sc O2).1
    have F3 : kF rsL fsL h h3 := kF_trans F2 (kF_mono f3 (by simp) (by simp))
    have g3 : ∀ k, 20 ≤ k → h3.1 114 k = h.1 114 k := fun k hk => by
      have a : k ∉ fsM := by simp; omega
      rw [f3.2.1 k a, f2.2.1 k a, f1.2.1 k a]
    have gr3 : ∀ a : Nat, a ≠ 114 → h3.1 a = h.1 a := fun a a0 => by
      rw [f3.1 a (by simp) a0, f2.1 a (by simp) a0, f1.1 a (by simp) a0]
    have E1 : ∀ out, mRuns (d + 5) 24 35 [some (.ref 114), some (.int (zI (dH1 u n R B).2)), none, none] [] h3 out → mRuns (d + 5) 24 0 [some (.ref 114), none, none, none] [] h out := by
      intro out H
      rw [t0] at H
      refine vc_M_readsHad ⟨h1, r1, _, h2, by rw [e231]; exact r2, ?_⟩
      simp (disch := omega) only [zI_add, zI_sub, zI_mul, zI_neg, zI_lit, zI_0, zI_1, zI_lt, zI_le, zI_eq, zI_clamp, zI_inT, zI_ite, mOb_0, mOb_1, mOb_3, mOb_4, mLd_1, mAr_1, mLen_1, mTrue_t, Int.toNat_zero, Int.toNat_one, true_and, and_true, not_true_eq_false, not_false_eq_true, true_or, or_true, or_self, false_or, or_false, forall_const, false_implies, true_implies, implies_true]
      refine ⟨fun z => by omega, fun _ => ⟨_, _, G2, ?_⟩⟩
      simp (disch := omega) only [zI_add, zI_sub, zI_mul, zI_neg, zI_lit, zI_0, zI_1, zI_lt, zI_le, zI_eq, zI_clamp, zI_inT, zI_ite, mOb_0, mOb_1, mOb_3, mOb_4, mLd_1, mAr_1, mLen_1, mTrue_t, Int.toNat_zero, Int.toNat_one, true_and, and_true, not_true_eq_false, not_false_eq_true, true_or, or_true, or_self, false_or, or_false, forall_const, false_implies, true_implies, implies_true, w0]
      exact ⟨fun z => by omega, fun _ => ⟨h3, r3, H⟩⟩
    rw [← tR'] at C3 O3
    obtain ⟨h4, r4, C4, f4, j4⟩ := s_M_am (d := d + 2) (told := bP B) n1 O3 C3 (by omega) (by omega)
    have O4 : ROk u n (aAm (bP B) (dH1 u n R B).1) := (Aft_am n1 O3).1
    have F4 : kF rsL fsL h h4 := kF_trans F3 (kF_mono f4 (by simp) (by simp))
    have e223 : h3.1 114 22 = zI (bP B) := by rw [g3 22 (by omega)]; exact e22
    have g4 : ∀ k, 20 ≤ k → h4.1 114 k = h.1 114 k := fun k hk => by rw [j4 k (by omega) (by omega), g3 k hk]
    have gr4 : ∀ a : Nat, a ≠ 114 → h4.1 a = h.1 a := fun a a0 => by rw [f4.1 a (by simp) a0, gr3 a a0]
    have H2 : dH2 u n R B T = if rF (aAm (bP B) (dH1 u n R B).1) ≠ 0 then (aAm (bP B) (dH1 u n R B).1, -1) else if T (5 * (dH1 u n R B).2 + rVa (dH1 u n R B).1) = true then (aFl 4 (dH1 u n R B).1, -1) else (aSc u n (dH1 u n R B).1, rVa (dH1 u n R B).1) := by
      unfold dH2
      rw [to_am]
      have : ¬ (dH1 u n R B).2 = -1 := by omega
      simp only [if_neg this]
    by_cases c2 : rF (aAm (bP B) (dH1 u n R B).1) = 0
    · -- the poison is there
      obtain ⟨p1, p2, p3, p4, p5⟩ := am_f c2
      rw [if_pos c2] at r4
      rw [if_neg (by omega)] at H2
      rw [p2] at C4 O4
      have va2 := O3.1.2.2.2.2.2.2.2.1
      have vb2 := O3.1.2.2.2.2.2.2.2.2.2.1 p3
      obtain ⟨x, x0, x1, x2, x3⟩ := C4.2.2.1.2.2.2.2.1
      have x3 := x3 p3 (by unfold vB at vb2; omega)
      subst x3
      have bK := hU (5 * (dH1 u n R B).2 + rVa (dH1 u n R B).1) (by omega) (by omega)
      by_cases c3 : T (5 * (dH1 u n R B).2 + rVa (dH1 u n R B).1) = true
      · -- told twice
        rw [if_pos c3] at H2
        rw [c3] at bK
        obtain ⟨h5, r5, C5, f5, -⟩ := s_M_fl (d := d + 3) (k := 4) O4 C4
        have O5 := (ROk_fl (k := 4) n1 O4 (by omega) (by omega)).1
        have nf : rF (aFl 4 (dH1 u n R B).1) ≠ 0 := fl_f (by omega) _
        obtain ⟨h6, r6, C6, f6⟩ := s_M_had70f (d := d) (v := zI (dH1 u n R B).2) n1 hu O5 C5 nf
        have H3 : (dH3 u n R B T) = (aFl 4 (dH1 u n R B).1, 0) := by unfold dH3 aNu; rw [H2, if_pos nf]
        rw [H3]
        refine ⟨h6, E1 _ (vc_M_readsHad_35 ⟨_, h4, by rw [e223]; exact r4, ?_⟩), C6, fun z => absurd z nf, kF_trans F4 (kF_mono (kF_trans f5 f6) (by simp) (by simp))⟩
        have e25 : h4.1 114 25 = h.1 114 25 := g4 25 (by omega)
        simp (disch := omega) only [zI_add, zI_sub, zI_mul, zI_neg, zI_lit, zI_0, zI_1, zI_lt, zI_le, zI_eq, zI_clamp, zI_inT, zI_ite, mOb_0, mOb_1, mOb_3, mOb_4, mLd_1, mAr_1, mLen_1, mTrue_t, Int.toNat_zero, Int.toNat_one, true_and, and_true, not_true_eq_false, not_false_eq_true, true_or, or_true, or_self, false_or, or_false, forall_const, false_implies, true_implies, implies_true, x0, e25]
        rw [b_tst (by omega) (by omega), if_pos bK]
        simp (disch := omega) only [zI_add, zI_sub, zI_mul, zI_neg, zI_lit, zI_0, zI_1, zI_lt, zI_le, zI_eq, zI_clamp, zI_inT, zI_ite, mOb_0, mOb_1, mOb_3, mOb_4, mLd_1, mAr_1, mLen_1, mTrue_t, Int.toNat_zero, Int.toNat_one, true_and, and_true, not_true_eq_false, not_false_eq_true, true_or, or_true, or_self, false_or, or_false, forall_const, false_implies, true_implies, implies_true]
        repeat' (first | refine And.intro ?_ ?_ | with_reducible intro _)
        all_goals first | omega | exact ⟨h5, r5, r6⟩
      · rw [if_neg c3] at H2
        have G4 := s_M_good1 (d := d + 3) C4 p1
        obtain ⟨h5, r5, C5, f5⟩ := s_M_sc (d := d + 2) n1 hu O4 C4
        have O5 := (Aft_sc O4).1
        have P2 : (dH2 u n R B T).1 = aSc u n (dH1 u n R B).1 := by rw [H2]
        have P2' : (dH2 u n R B T).2 = rVa (dH1 u n R B).1 := by rw [H2]
        rw [← P2] at C5 O5
        obtain ⟨x, h6, r6, v6, C6, f6⟩ := s_M_nu (d := d + 1) (lo := 0) (hi := 99) (a1 := zI 0) (a2 := zI 99) n1 hu O5 C5 (fun _ => ⟨rfl, rfl, by omega, by omega, by omega, by omega⟩)
        have O6 : ROk u n (dH3 u n R B T).1 := (Aft_nu (lo := 0) (hi := 99) n1 O5).1
        replace C6 : RM h6 u n (dH3 u n R B T).1 := C6
        replace v6 : rF (dH3 u n R B T).1 = 0 → x = zI (dH3 u n R B T).2 := v6
        have F6 : kF rsL fsL h h6 := kF_trans F4 (kF_mono (kF_trans f5 f6) (by simp) (by simp))
        have hk : dHk u n R B T = 5 * (dH1 u n R B).2 + rVa (dH1 u n R B).1 := by unfold dHk; rw [P2']
        have g6 : ∀ k, 20 ≤ k → h6.1 114 k = h.1 114 k := fun k hk => by
          have a : k ∉ fsM := by simp; omega
          rw [f6.2.1 k a, f5.2.1 k a, g4 k hk]
        have gr6 : ∀ a : Nat, a ≠ 114 → h6.1 a = h.1 a := fun a a0 => by rw [f6.1 a (by simp) a0, f5.1 a (by simp) a0, gr4 a a0]
        have Gd := s_M_good (d := d + 3) C6.2.2.2.1 O6.2.1 O6.2.2.1
        have E2 : ∀ out, mRuns (d + 5) 24 90 [some (.ref 114), none, some (.int (zI (dHk u n R B T))), none] [] h5 out → mRuns (d + 5) 24 0 [some (.ref 114), none, none, none] [] h out := by
          intro out H
          rw [hk] at H
          refine E1 out (vc_M_readsHad_35 ⟨_, h4, by rw [e223]; exact r4, ?_⟩)
          have e25 : h4.1 114 25 = h.1 114 25 := g4 25 (by omega)
          have q : mRuns (d + 5) 24 70 [some (.ref 114), some (.int (zI (dH1 u n R B).2)), none, none] [] h4 out := by
            refine vc_M_readsHad_70 ⟨_, _, G4, ?_⟩
            simp (disch := omega) only [zI_add, zI_sub, zI_mul, zI_neg, zI_lit, zI_0, zI_1, zI_lt, zI_le, zI_eq, zI_clamp, zI_inT, zI_ite, mOb_0, mOb_1, mOb_3, mOb_4, mLd_1, mAr_1, mLen_1, mTrue_t, Int.toNat_zero, Int.toNat_one, true_and, and_true, not_true_eq_false, not_false_eq_true, true_or, or_true, or_self, false_or, or_false, forall_const, false_implies, true_implies, implies_true, x0]
            exact ⟨fun z => by omega, fun _ => ⟨h5, r5, H⟩⟩
          simp (disch := omega) only [zI_add, zI_sub, zI_mul, zI_neg, zI_lit, zI_0, zI_1, zI_lt, zI_le, zI_eq, zI_clamp, zI_inT, zI_ite, mOb_0, mOb_1, mOb_3, mOb_4, mLd_1, mAr_1, mLen_1, mTrue_t, Int.toNat_zero, Int.toNat_one, true_and, and_true, not_true_eq_false, not_false_eq_true, true_or, or_true, or_self, false_or, or_false, forall_const, false_implies, true_implies, implies_true, x0, e25]
          rw [b_tst (by omega) (by omega), if_neg (by rw [bK]; exact c3)]
          simp (disch := omega) only [zI_add, zI_sub, zI_mul, zI_neg, zI_lit, zI_0, zI_1, zI_lt, zI_le, zI_eq, zI_clamp, zI_inT, zI_ite, mOb_0, mOb_1, mOb_3, mOb_4, mLd_1, mAr_1, mLen_1, mTrue_t, Int.toNat_zero, Int.toNat_one, true_and, and_true, not_true_eq_false, not_false_eq_true, true_or, or_true, or_self, false_or, or_false, forall_const, false_implies, true_implies, implies_true]
          repeat' (first | refine And.intro ?_ ?_ | with_reducible intro _)
          all_goals first | omega | exact q
        by_cases c : rF (dH3 u n R B T).1 = 0
        · rw [if_pos c] at Gd
          have v6 := v6 c
          have e25 : h6.1 114 25 = h.1 114 25 := g6 25 (by omega)
          have RMn : RM (mPI (mPI h6 114 25 ((h.1 114 25) ||| (zI 1 <<< (zI (dHk u n R B T) &&& 31)))) 124 (dHk u n R B T).toNat x) u n (dH3 u n R B T).1 := RM_row (RM_fld C6 (by omega) _) (by omega) (by omega) _ _
          refine ⟨mPI (mPI h6 114 25 ((h.1 114 25) ||| (zI 1 <<< (zI (dHk u n R B T) &&& 31)))) 124 (dHk u n R B T).toNat x, E2 _ (vc_M_readsHad_90 ⟨x, h6, r6, _, _, Gd, ?_⟩), RMn, fun _ => ⟨NM_H hB (by omega) (fun k k0 k1 => by rw [hI_ne (by omega), hI_off (by omega), g6 k (by omega)]) (fun k k0 k1 => by rw [hI_ne (by omega), hI_ne (by omega), gr6 k (by omega)]) (by rw [hI_row, hI_ne (by omega), gr6 124 (by omega), v6]), fun k k0 k1 => ?_, by rw [hI_ne (by omega), hI_off (by omega), g6 26 (by omega)]; exact h8⟩, kF_pi (kF_pf F6 (by simp) _) (x := 124) (by simp) (by omega) _ _⟩
          · simp (disch := omega) only [zI_add, zI_sub, zI_mul, zI_neg, zI_lit, zI_0, zI_1, zI_lt, zI_le, zI_eq, zI_clamp, zI_inT, zI_ite, mOb_0, mOb_1, mOb_3, mOb_4, mLd_1, mAr_1, mLen_1, mTrue_t, Int.toNat_zero, Int.toNat_one, true_and, and_true, not_true_eq_false, not_false_eq_true, true_or, or_true, or_self, false_or, or_false, forall_const, false_implies, true_implies, implies_true, e25]
            intro z
            omega
          · rw [hI_ne (by omega), hI_same, b_set (by omega) (by omega) (by omega), hU k k0 k1]
            show (T k || _) = (T k || _)
            congr 1
            by_cases e : k = dHk u n R B T
            · rw [decide_eq_true (by rw [e]), decide_eq_true e]
            · rw [decide_eq_false (by omega), decide_eq_false e]
        · rw [if_neg c] at Gd
          refine ⟨h6, E2 _ (vc_M_readsHad_90 ⟨x, h6, r6, _, _, Gd, ?_⟩), C6, fun z => absurd z c, F6⟩
          refine ⟨fun z => absurd rfl z, fun _ => rfl⟩
    · rw [if_neg c2] at r4
      rw [if_pos c2] at H2
      obtain ⟨h6, r6, C6, f6⟩ := s_M_had70f (d := d) (v := zI (dH1 u n R B).2) n1 hu O4 C4 c2
      have H3 : (dH3 u n R B T) = (aAm (bP B) (dH1 u n R B).1, 0) := by unfold dH3 aNu; rw [H2, if_pos c2]
      rw [H3]
      refine ⟨h6, E1 _ (vc_M_readsHad_35 ⟨_, h4, by rw [e223]; exact r4, ?_⟩), C6, fun z => absurd z c2, kF_trans F4 (kF_mono f6 (by simp) (by simp))⟩
      exact ⟨fun _ => r6, fun z => absurd rfl z⟩
  · rw [if_neg c1] at r2
    rw [if_pos c1] at H1
    have G2 := s_M_good0 (d := d + 3) O2 C2 c1
    obtain ⟨h4, r4, C4, f4, -⟩ := s_M_am (d := d + 2) (told := bP B) n1 O2 C2 (by omega) (by omega)
    rw [am_id c1] at C4 r4
    rw [if_neg c1] at r4
    obtain ⟨h6, r6, C6, f6⟩ := s_M_had70f (d := d) (v := zI 0) n1 hu O2 C4 c1
    have e222 : h2.1 114 22 = zI (bP B) := by rw [f2.2.1 22 (by simp), f1.2.1 22 (by simp)]; exact e22
    have H2 : dH2 u n R B T = (aAm (bT B) (aSc u n R), -1) := by unfold dH2 aTo; rw [H1, if_pos c1]
    have H3 : dH3 u n R B T = (aAm (bT B) (aSc u n R), 0) := by unfold dH3 aNu; rw [H2, if_pos c1]
    rw [H3]
    refine ⟨h6, vc_M_readsHad ⟨h1, r1, _, h2, by rw [e231]; exact r2, ?_⟩, C6, fun z => absurd z c1, kF_trans F2 (kF_mono (kF_trans f4 f6) (by simp) (by simp))⟩
    refine ⟨fun _ => ⟨_, _, G2, fun _ => vc_M_readsHad_35 ⟨_, h4, by rw [e222]; exact r4, fun _ => r6, fun z => absurd rfl z⟩, fun z => absurd rfl z⟩, fun z => absurd rfl z⟩

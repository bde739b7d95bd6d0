/-! L3, begin and on -/
abbrev bgOk (l c : Int) : Prop := (0 ≤ l ∧ l ≤ 2) ∧ (0 ≤ c ∧ c ≤ 1000)
def rBegin (B : tB) (l c : Int) : Int × Int := if bgOk l c then (0, (fPl B l (-1)).1) else (1, 0)
def cBegin (B : tB) (C : tC) (s : Int32) (l c : Int) : tC := if bgOk l c ∧ (fPl B l (-1)).1 = 1 then cOpen B C s l c else C
def nBegin (B : tB) (l c r : Int) : Int := if bgOk l c ∧ (fPl B l (-1)).1 = 0 then r + 1 else r
theorem s_M_begin_loop {d : Nat} {B : tB} (hO : BOk B) {l : Int} (hl : 0 ≤ l) (hl' : l ≤ 2) (hf : (fPl B l (-1)).1 = 1) : ∀ (j : Nat) (i : Int) (h : mHp), i + j = bD B → 0 ≤ i → BM h B → MC h B l (-1) → MX h B (fPl B l (-1)) → (∀ y, 0 ≤ y → y < i → h.1 134 (2 * y).toNat = zI ((fPl B l (-1)).2.2.2 y)) → (∀ y, 0 ≤ y → y < i → h.1 134 (2 * y + 1).toNat = zI (pTk B l (-1) y)) →
    ∃ h', mRuns (d + 2) 73 76 [some (.ref 114), none, none, none, some (.int (zI i))] [] h (.inl (some (.int (zI 1)), h')) ∧ PM h' B (fPl B l (-1)).2.2.2 (pTk B l (-1)) ∧ aEq (h'.1 135) 25 (bF B 9) ∧ hFr [134, 135] h h' := by
  have o := hO.1
  intro j
  induction j with
  | zero =>
    intro i h hi i0 hB hM hX k1 k2
    have e1 := hB.1
    obtain ⟨h1, r1, c1, f1⟩ := s_M_copies (d := d) (h := h) (a := 118) (o := 135) (n := 25) (m := 25) (by decide) (by decide) (by omega) (by omega) (by omega)
    have a10 : aEq (h.1 118) 25 (bF B 9) := hB.2.2.2.2.2.2.2.2.2.2.2.2.2
    refine ⟨h1, vc_M_begin_76 ?_, ⟨fun y a b => by rw [f1.1 134 (by simp)]; exact k1 y a (by omega), fun y a b => by rw [f1.1 134 (by simp)]; exact k2 y a (by omega)⟩, fun y a b => by rw [c1 _ (by omega)]; exact a10 y a b, hFr_mono f1 (by simp)⟩
    simp (disch := omega) only [zI_add, zI_sub, zI_mul, zI_neg, zI_lit, zI_0, zI_1, zI_lt, zI_le, zI_eq, zI_clamp, zI_inT, zI_ite, mOb_0, mOb_1, mOb_3, mOb_4, mLd_1, mAr_1, mLen_1, mTrue_t, Int.toNat_zero, Int.toNat_one, true_and, and_true, not_true_eq_false, not_false_eq_true, true_or, or_true, or_self, false_or, or_false, forall_const, false_implies, true_implies, implies_true, e1]
    refine ⟨fun _ => ⟨h1, r1, rfl⟩, fun z => by omega⟩
  | succ j ih =>
    intro i h hi i0 hB hM hX k1 k2
    have e1 := hB.1
    obtain ⟨f1, f2, f3, f4, a1, a2, a3, a4, a5, a6, a7, a8, a9, a10⟩ := id hB
    obtain ⟨g1, g2, g3, g4, g5⟩ := hX.2 hf
    have r := fPl_row hO hl hl' hf i0 (show i < bD B by omega)
    have hMs := hM i _ i0 (by omega) r.1 r.2.2.2.2
    have kd := fPl_kd hO hl hl' hf i0 (show i < bD B by omega)
    have gi := g4 i i0 (by omega)
    obtain ⟨h', r', p1, p2, p3⟩ := ih (i + 1) (mPI (mPI h 134 (2 * i).toNat (zI ((fPl B l (-1)).2.2.2 i))) 134 (2 * i + 1).toNat (zI (pTk B l (-1) i))) (by omega) (by omega) (BM_of hB (fun k _ _ => by rw [hI_ne (by omega), hI_ne (by omega)]) (fun k _ _ => by rw [hI_ne (by omega), hI_ne (by omega)])) (MC_of hM (by rw [hI_ne (by omega), hI_ne (by omega)])) (MX_of hX (by rw [hI_ne (by omega), hI_ne (by omega)]) (by rw [hI_ne (by omega), hI_ne (by omega)])) (fun y a b => by
        by_cases e : y = i
        · rw [e, hI_off (by omega), hI_same]
        · rw [hI_off (by omega), hI_off (by omega)]; exact k1 y a (by omega)) (fun y a b => by
        by_cases e : y = i
        · rw [e, hI_same]
        · rw [hI_off (by omega), hI_off (by omega)]; exact k2 y a (by omega))
    refine ⟨h', vc_M_begin_76 ?_, p1, p2, hFr_trans (hFr_pi (hFr_pi (hFr_refl _ _) (by simp) _ _) (by simp) _ _) p3⟩
    simp (disch := omega) only [zI_add, zI_sub, zI_mul, zI_neg, zI_lit, zI_0, zI_1, zI_lt, zI_le, zI_eq, zI_clamp, zI_inT, zI_ite, mOb_0, mOb_1, mOb_3, mOb_4, mLd_1, mAr_1, mLen_1, mTrue_t, Int.toNat_zero, Int.toNat_one, true_and, and_true, not_true_eq_false, not_false_eq_true, true_or, or_true, or_self, false_or, or_false, forall_const, false_implies, true_implies, implies_true, e1, gi, hI_ne, a2, hMs, kd]
    repeat' (first | refine And.intro ?_ ?_ | with_reducible intro _)
    all_goals first | omega | exact r'
theorem s_M_begin {d : Nat} {h : mHp} {B : tB} {C : tC} {s : Int32} {l c r : Int} (hB : BM h B) (hO : BOk B) (hP : PW h) (hC : CM h C) (hr : h.1 120 2 = zI r) (l1 : -2147483648 ≤ l) (l2 : l < 2147483648) (c1 : -2147483648 ≤ c) (c2 : c < 2147483648) :
    ∃ h', mRuns (d + 6) 73 0 [some (.ref 114), some (.int s), some (.int (zI l)), some (.int (zI c)), none] [] h (.inl (some (.int (zI (rBegin B l c).2)), h')) ∧ h'.1 114 0 = zI (rBegin B l c).1 ∧ CM h' (cBegin B C s l c) ∧ (bgOk l c ∧ (fPl B l (-1)).1 = 1 → PM h' B (fPl B l (-1)).2.2.2 (pTk B l (-1))) ∧ (¬ (bgOk l c ∧ (fPl B l (-1)).1 = 1) → h'.1 134 = h.1 134) ∧ h'.1 120 2 = zI (nBegin B l c r) ∧ (∀ k, k ≠ 2 → h'.1 120 k = h.1 120 k) ∧ hFg 114 [120, 125, 126, 127, 128, 134, 135] [0, 32, 33, 39, 40, 46, 47, 48, 49] h h' := by
  have o := hO.1
  have F0 : hFg 114 [120, 125, 126, 127, 128, 134, 135] [0, 32, 33, 39, 40, 46, 47, 48, 49] h (mPI h 114 0 (zI 0)) := hFg_pf (hFg_refl _ _ _ _) (by simp) _
  have B0 := BM_of (h' := mPI h 114 0 (zI 0)) hB (fun k _ _ => hI_off (by omega) _ _ _ _) (fun k _ _ => hI_ne (by omega) _ _ _)
  have t0 : (mPI h 114 0 (zI 0)).1 114 0 = zI 0 := hI_same _ _ _ _
  have il := s_M_isLies (d := d + 3) (w := 1) t0 l1 l2 (by omega) (by omega)
  have bad : ¬ bgOk l c → mRuns (d + 6) 73 0 [some (.ref 114), some (.int s), some (.int (zI l)), some (.int (zI c)), none] [] h (.inl (some (.int (zI 0)), mPI (mPI h 114 0 (zI 0)) 114 0 (zI 1))) → ∃ h', mRuns (d + 6) 73 0 [some (.ref 114), some (.int s), some (.int (zI l)), some (.int (zI c)), none] [] h (.inl (some (.int (zI (rBegin B l c).2)), h')) ∧ h'.1 114 0 = zI (rBegin B l c).1 ∧ CM h' (cBegin B C s l c) ∧ (bgOk l c ∧ (fPl B l (-1)).1 = 1 → PM h' B (fPl B l (-1)).2.2.2 (pTk B l (-1))) ∧ (¬ (bgOk l c ∧ (fPl B l (-1)).1 = 1) → h'.1 134 = h.1 134) ∧ h'.1 120 2 = zI (nBegin B l c r) ∧ (∀ k, k ≠ 2 → h'.1 120 k = h.1 120 k) ∧ hFg 114 [120, 125, 126, 127, 128, 134, 135] [0, 32, 33, 39, 40, 46, 47, 48, 49] h h' := by
    intro nb run
    have e1 : rBegin B l c = (1, 0) := by unfold rBegin; rw [if_neg nb]
    have e2 : cBegin B C s l c = C := by unfold cBegin; rw [if_neg (fun z => nb z.1)]
    have e3 : nBegin B l c r = r := by unfold nBegin; rw [if_neg (fun z => nb z.1)]
    rw [e1, e2, e3]
    have ne : ∀ x, x ≠ 114 → (mPI (mPI h 114 0 (zI 0)) 114 0 (zI 1)).1 x = h.1 x := fun x hx => by rw [hI_ne hx, hI_ne hx]
    exact ⟨_, run, hI_same _ _ _ _, CM_of hC (fun k _ _ => by rw [hI_off (by omega), hI_off (by omega)]) (ne _ (by omega)) (ne _ (by omega)), fun z => absurd z.1 nb, fun _ => ne _ (by omega), by rw [ne 120 (by omega)]; exact hr, fun k _ => by rw [ne 120 (by omega)], hFg_pf F0 (by simp) _⟩
  by_cases cl : 0 ≤ l ∧ l ≤ 2
  · rw [if_pos cl] at il
    have wi := s_M_within (d := d + 4) (h := mPI h 114 0 (zI 0)) (a := c) (b := 0) (c := 1000) c1 c2 (by omega) (by omega) (by omega) (by omega)
    by_cases cc : 0 ≤ c ∧ c ≤ 1000
    · rw [if_pos cc] at wi
      have rt := s_M_right_t (d := d + 4) (w := 1) t0 (a := 1) rfl
      have ok : bgOk l c := ⟨cl, cc⟩
      obtain ⟨h1, r1, X1, C1, M1, G1⟩ := s_M_plans (d := d) hO cl.1 cl.2 (Or.inl ⟨rfl, rfl⟩ : bMk (-1) 0) B0 (PW_of hP (hI_ne (by omega) _ _ _))
      have G1' : hFg 114 [120, 125, 126, 127, 128, 134, 135] [0, 32, 33, 39, 40, 46, 47, 48, 49] h h1 := hFg_trans F0 (hFg_mono G1 (by simp) (by simp))
      have g1 : ∀ x, x ≠ 125 → x ≠ 126 → x ≠ 127 → x ≠ 128 → x ≠ 114 → h1.1 x = h.1 x := fun x z1 z2 z3 z4 z5 => by rw [G1.1 x (by simp [z1, z2, z3, z4]) z5, hI_ne z5]
      have B1 := BM_of (h' := h1) hB (fun k _ _ => by rw [G1.2.1 k (by simp; omega), hI_off (by omega)]) (fun k _ _ => g1 k (by omega) (by omega) (by omega) (by omega) (by omega))
      have t1 : h1.1 114 0 = zI 0 := by rw [G1.2.1 0 (by simp), t0]
      have e1 : rBegin B l c = (0, (fPl B l (-1)).1) := by unfold rBegin; rw [if_pos ok]
      rw [e1]
      rcases (fPl_good B l (-1)).1 with e | e
      · have e2 : cBegin B C s l c = C := by unfold cBegin; rw [if_neg (fun z => by omega)]
        have e3 : nBegin B l c r = r + 1 := by unfold nBegin; rw [if_pos ⟨ok, e⟩]
        rw [e2, e3, e]
        rw [e] at r1
        have h120 : h1.1 120 2 = zI r := by rw [g1 120 (by omega) (by omega) (by omega) (by omega) (by omega)]; exact hr
        refine ⟨mPI h1 120 2 (zI (r + 1)), vc_M_begin ?_, by rw [hI_ne (by omega)]; exact t1, CM_of hC (fun k _ _ => by rw [hI_ne (by omega), G1.2.1 k (by simp; omega), hI_off (by omega)]) (by rw [hI_ne (by omega), g1 135 (by omega) (by omega) (by omega) (by omega) (by omega)]) (by rw [hI_ne (by omega), g1 136 (by omega) (by omega) (by omega) (by omega) (by omega)]), fun z => absurd z.2 (by omega), fun _ => by rw [hI_ne (by omega), g1 134 (by omega) (by omega) (by omega) (by omega) (by omega)], hI_same _ _ _ _, fun k hk => by rw [hI_off hk, g1 120 (by omega) (by omega) (by omega) (by omega) (by omega)], hFg_pi G1' (by simp) (by omega) _ _⟩
        simp (disch := omega) only [zI_add, zI_sub, zI_mul, zI_neg, zI_lit, zI_0, zI_1, zI_lt, zI_le, zI_eq, zI_clamp, zI_inT, zI_ite, mOb_0, mOb_1, mOb_3, mOb_4, mLd_1, mAr_1, mLen_1, mTrue_t, Int.toNat_zero, Int.toNat_one, true_and, and_true, not_true_eq_false, not_false_eq_true, true_or, or_true, or_self, false_or, or_false, forall_const, false_implies, true_implies, implies_true]
        refine ⟨_, _, il, ?_⟩
        simp (disch := omega) only [zI_add, zI_sub, zI_mul, zI_neg, zI_lit, zI_0, zI_1, zI_lt, zI_le, zI_eq, zI_clamp, zI_inT, zI_ite, mOb_0, mOb_1, mOb_3, mOb_4, mLd_1, mAr_1, mLen_1, mTrue_t, Int.toNat_zero, Int.toNat_one, true_and, and_true, not_true_eq_false, not_false_eq_true, true_or, or_true, or_self, false_or, or_false, forall_const, false_implies, true_implies, implies_true]
        refine ⟨fun z => by omega, fun _ => ⟨_, _, wi, ?_⟩⟩
        refine ⟨_, _, rt, ?_⟩
        simp (disch := omega) only [zI_add, zI_sub, zI_mul, zI_neg, zI_lit, zI_0, zI_1, zI_lt, zI_le, zI_eq, zI_clamp, zI_inT, zI_ite, mOb_0, mOb_1, mOb_3, mOb_4, mLd_1, mAr_1, mLen_1, mTrue_t, Int.toNat_zero, Int.toNat_one, true_and, and_true, not_true_eq_false, not_false_eq_true, true_or, or_true, or_self, false_or, or_false, forall_const, false_implies, true_implies, implies_true]
        refine ⟨fun _ => ⟨_, _, r1, ?_⟩, fun z => by omega⟩
        have tw : (2 : Int).toNat = 2 := rfl
        simp (disch := omega) only [zI_add, zI_sub, zI_mul, zI_neg, zI_lit, zI_0, zI_1, zI_lt, zI_le, zI_eq, zI_clamp, zI_inT, zI_ite, mOb_0, mOb_1, mOb_3, mOb_4, mLd_1, mAr_1, mLen_1, mTrue_t, Int.toNat_zero, Int.toNat_one, true_and, and_true, not_true_eq_false, not_false_eq_true, true_or, or_true, or_self, false_or, or_false, forall_const, false_implies, true_implies, implies_true, tw, h120]
        repeat' (first | refine And.intro ?_ ?_ | with_reducible intro _)
        all_goals first | omega | rfl
      · have e2 : cBegin B C s l c = cOpen B C s l c := by unfold cBegin; rw [if_pos ⟨ok, e⟩]
        have e3 : nBegin B l c r = r := by unfold nBegin; rw [if_neg (fun z => by omega)]
        rw [e2, e3]
        rw [e] at r1
        have f114 : ∀ k, k ≠ 46 → k ≠ 47 → k ≠ 48 → k ≠ 49 → (mPI (mPI (mPI (mPI h1 114 46 (zI 0)) 114 47 s) 114 48 (zI l)) 114 49 (zI c)).1 114 k = h1.1 114 k := fun k z1 z2 z3 z4 => by rw [hI_off z4, hI_off z3, hI_off z2, hI_off z1]
        have fx : ∀ x, x ≠ 114 → (mPI (mPI (mPI (mPI h1 114 46 (zI 0)) 114 47 s) 114 48 (zI l)) 114 49 (zI c)).1 x = h1.1 x := fun x z => by rw [hI_ne z, hI_ne z, hI_ne z, hI_ne z]
        obtain ⟨h2, r2, p1, p2, p3⟩ := s_M_begin_loop (d := d + 4) hO cl.1 cl.2 e (bD B).toNat 0 (mPI (mPI (mPI (mPI h1 114 46 (zI 0)) 114 47 s) 114 48 (zI l)) 114 49 (zI c)) (by omega) (by omega) (BM_of B1 (fun k _ _ => f114 k (by omega) (by omega) (by omega) (by omega)) (fun k _ _ => fx k (by omega))) (MC_of M1 (fx _ (by omega))) (MX_of X1 (f114 _ (by omega) (by omega) (by omega) (by omega)) (fx _ (by omega))) (fun y a b => by omega) (fun y a b => by omega)
        have q114 : h2.1 114 = (mPI (mPI (mPI (mPI h1 114 46 (zI 0)) 114 47 s) 114 48 (zI l)) 114 49 (zI c)).1 114 := p3.1 114 (by simp)
        refine ⟨h2, vc_M_begin ?_, by rw [q114, f114 0 (by omega) (by omega) (by omega) (by omega)]; exact t1, ⟨⟨?_, ?_, ?_, ?_⟩, p2, fun i a b => absurd b (by show ¬ i < 0; omega), fun i a b => absurd b (by show ¬ i < 0; omega), fun i a b => absurd b (by show ¬ i < 0; omega), fun i a b => absurd b (by show ¬ i < 0; omega)⟩, fun _ => p1, fun z => absurd ⟨ok, e⟩ z, ?_, fun k hk => ?_, ?_⟩
        · rw [e]
          simp (disch := omega) only [zI_add, zI_sub, zI_mul, zI_neg, zI_lit, zI_0, zI_1, zI_lt, zI_le, zI_eq, zI_clamp, zI_inT, zI_ite, mOb_0, mOb_1, mOb_3, mOb_4, mLd_1, mAr_1, mLen_1, mTrue_t, Int.toNat_zero, Int.toNat_one, true_and, and_true, not_true_eq_false, not_false_eq_true, true_or, or_true, or_self, false_or, or_false, forall_const, false_implies, true_implies, implies_true]
          refine ⟨_, _, il, ?_⟩
          simp (disch := omega) only [zI_add, zI_sub, zI_mul, zI_neg, zI_lit, zI_0, zI_1, zI_lt, zI_le, zI_eq, zI_clamp, zI_inT, zI_ite, mOb_0, mOb_1, mOb_3, mOb_4, mLd_1, mAr_1, mLen_1, mTrue_t, Int.toNat_zero, Int.toNat_one, true_and, and_true, not_true_eq_false, not_false_eq_true, true_or, or_true, or_self, false_or, or_false, forall_const, false_implies, true_implies, implies_true]
          refine ⟨fun z => by omega, fun _ => ⟨_, _, wi, ?_⟩⟩
          refine ⟨_, _, rt, ?_⟩
          simp (disch := omega) only [zI_add, zI_sub, zI_mul, zI_neg, zI_lit, zI_0, zI_1, zI_lt, zI_le, zI_eq, zI_clamp, zI_inT, zI_ite, mOb_0, mOb_1, mOb_3, mOb_4, mLd_1, mAr_1, mLen_1, mTrue_t, Int.toNat_zero, Int.toNat_one, true_and, and_true, not_true_eq_false, not_false_eq_true, true_or, or_true, or_self, false_or, or_false, forall_const, false_implies, true_implies, implies_true]
          refine ⟨fun _ => ⟨_, _, r1, ?_⟩, fun z => by omega⟩
          simp (disch := omega) only [zI_add, zI_sub, zI_mul, zI_neg, zI_lit, zI_0, zI_1, zI_lt, zI_le, zI_eq, zI_clamp, zI_inT, zI_ite, mOb_0, mOb_1, mOb_3, mOb_4, mLd_1, mAr_1, mLen_1, mTrue_t, Int.toNat_zero, Int.toNat_one, true_and, and_true, not_true_eq_false, not_false_eq_true, true_or, or_true, or_self, false_or, or_false, forall_const, false_implies, true_implies, implies_true]
          repeat' (first | refine And.intro ?_ ?_ | with_reducible intro _)
          all_goals first | omega | exact r2
        · rw [q114, hI_off (by omega), hI_off (by omega), hI_off (by omega), hI_same]; rfl
        · rw [q114, hI_off (by omega), hI_off (by omega), hI_same]; rfl
        · rw [q114, hI_off (by omega), hI_same]; rfl
        · rw [q114, hI_same]; rfl
        · rw [p3.1 120 (by simp), fx 120 (by omega), g1 120 (by omega) (by omega) (by omega) (by omega) (by omega)]; exact hr
        · rw [p3.1 120 (by simp), fx 120 (by omega), g1 120 (by omega) (by omega) (by omega) (by omega) (by omega)]
        · exact hFg_fr (hFg_pf (hFg_pf (hFg_pf (hFg_pf G1' (by simp) _) (by simp) _) (by simp) _) (by simp) _) (hFr_mono p3 (by simp)) (by simp)
    · rw [if_neg cc] at wi
      have rf := s_M_right_f (d := d + 4) (w := 1) t0 (by omega) (by omega)
      refine bad (fun z => cc z.2) (vc_M_begin ?_)
      simp (disch := omega) only [zI_add, zI_sub, zI_mul, zI_neg, zI_lit, zI_0, zI_1, zI_lt, zI_le, zI_eq, zI_clamp, zI_inT, zI_ite, mOb_0, mOb_1, mOb_3, mOb_4, mLd_1, mAr_1, mLen_1, mTrue_t, Int.toNat_zero, Int.toNat_one, true_and, and_true, not_true_eq_false, not_false_eq_true, true_or, or_true, or_self, false_or, or_false, forall_const, false_implies, true_implies, implies_true]
      refine ⟨_, _, il, ?_⟩
      simp (disch := omega) only [zI_add, zI_sub, zI_mul, zI_neg, zI_lit, zI_0, zI_1, zI_lt, zI_le, zI_eq, zI_clamp, zI_inT, zI_ite, mOb_0, mOb_1, mOb_3, mOb_4, mLd_1, mAr_1, mLen_1, mTrue_t, Int.toNat_zero, Int.toNat_one, true_and, and_true, not_true_eq_false, not_false_eq_true, true_or, or_true, or_self, false_or, or_false, forall_const, false_implies, true_implies, implies_true]
      refine ⟨fun z => by omega, fun _ => ⟨_, _, wi, ?_⟩⟩
      refine ⟨_, _, rf, ?_⟩
      simp (disch := omega) only [zI_add, zI_sub, zI_mul, zI_neg, zI_lit, zI_0, zI_1, zI_lt, zI_le, zI_eq, zI_clamp, zI_inT, zI_ite, mOb_0, mOb_1, mOb_3, mOb_4, mLd_1, mAr_1, mLen_1, mTrue_t, Int.toNat_zero, Int.toNat_one, true_and, and_true, not_true_eq_false, not_false_eq_true, true_or, or_true, or_self, false_or, or_false, forall_const, false_implies, true_implies, implies_true]
      repeat' (first | refine And.intro ?_ ?_ | with_reducible intro _)
      all_goals first | omega | rfl
  · rw [if_neg cl] at il
    refine bad (fun z => cl z.1) (vc_M_begin ?_)
    simp (disch := omega) only [zI_add, zI_sub, zI_mul, zI_neg, zI_lit, zI_0, zI_1, zI_lt, zI_le, zI_eq, zI_clamp, zI_inT, zI_ite, mOb_0, mOb_1, mOb_3, mOb_4, mLd_1, mAr_1, mLen_1, mTrue_t, Int.toNat_zero, Int.toNat_one, true_and, and_true, not_true_eq_false, not_false_eq_true, true_or, or_true, or_self, false_or, or_false, forall_const, false_implies, true_implies, implies_true]
    refine ⟨_, _, il, ?_⟩
    simp (disch := omega) only [zI_add, zI_sub, zI_mul, zI_neg, zI_lit, zI_0, zI_1, zI_lt, zI_le, zI_eq, zI_clamp, zI_inT, zI_ite, mOb_0, mOb_1, mOb_3, mOb_4, mLd_1, mAr_1, mLen_1, mTrue_t, Int.toNat_zero, Int.toNat_one, true_and, and_true, not_true_eq_false, not_false_eq_true, true_or, or_true, or_self, false_or, or_false, forall_const, false_implies, true_implies, implies_true]
    repeat' (first | refine And.intro ?_ ?_ | with_reducible intro _)
    all_goals first | omega | rfl

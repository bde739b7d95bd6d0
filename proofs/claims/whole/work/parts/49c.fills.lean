theorem MC_of {h h' : mHp} {B : tB} {l w : Int} (hM : MC h B l w) (e : h'.1 125 = h.1 125) : MC h' B l w := by unfold MC at *; rw [e]; exact hM
theorem PW_of {h h' : mHp} (hP : PW h) (e : h'.1 129 = h.1 129) : PW h' := by unfold PW at *; rw [e]; exact hP
theorem LF_off {h : mHp} {B : tB} {l w so q n q' u : Int} {v : Int32} (hF : LF h B l w so q n) (q0 : 0 ≤ q) (n0 : n ≤ 16807) (u0 : 0 ≤ u) (u1 : u < 16807) (q0' : 0 ≤ q') (hn : q ≠ q' ∨ n ≤ u) : LF (mPI h 126 (16807 * q' + u).toNat v) B l w so q n := by
  intro x x0 x1 hx
  rw [hI_off (by omega)]
  exact hF x x0 x1 hx
theorem s_M_fills_used {d : Nat} {B : tB} {l w so q : Int} (C : fCtx B l so q) (hq : q ≤ bD B) : ∀ (n : Nat) (u : Int) (h : mHp), u + n = p7 (bT B) → 0 ≤ u → BM h B → PW h → MC h B l w → (∀ q', q < q' → q' ≤ bD B → LF h B l w so q' (p7 (bT B))) → LF h B l w so q u →
    ∃ h', (∀ q', q ≤ q' → q' ≤ bD B → LF h' B l w so q' (p7 (bT B))) ∧ hFr [126] h h' ∧ ∀ out, mRuns (d + 2) 48 5 [some (.ref 114), some (.int (zI so)), some (.int (zI (q - 1))), none, none, none, none, none] [] h' out → mRuns (d + 2) 48 11 [some (.ref 114), some (.int (zI so)), some (.int (zI q)), some (.int (zI u)), none, none, none, none] [] h out := by
  obtain ⟨hO, hl, hl', so0, so1, q0⟩ := id C
  have o := hO.1
  have hp := aPow_le o.2.2.2.2.1 o.2.2.2.2.2.1
  have pr := p7_rng (bT B)
  intro n
  induction n with
  | zero =>
    intro u h hu u0 hB hP hM hF hF0
    have e3 := hB.2.2.1
    have hw := hP (bT B) (by omega) (by omega)
    have hu : u = p7 (bT B) := by omega
    refine ⟨h, fun q' a b => ?_, hFr_refl _ _, fun out r => vc_M_fills_11 ?_⟩
    · by_cases e : q' = q
      · rw [e, ← hu]; exact hF0
      · exact hF q' (by omega) b
    · simp (disch := omega) only [zI_add, zI_sub, zI_mul, zI_neg, zI_lit, zI_0, zI_1, zI_lt, zI_le, zI_eq, zI_clamp, zI_inT, zI_ite, mOb_0, mOb_1, mOb_3, mOb_4, mLd_1, mAr_1, mLen_1, mTrue_t, Int.toNat_zero, Int.toNat_one, true_and, and_true, not_true_eq_false, not_false_eq_true, true_or, or_true, or_self, false_or, or_false, forall_const, false_implies, true_implies, implies_true, e3, hw]
      exact ⟨fun _ => r, fun z => by omega⟩
  | succ n ih =>
    intro u h hu u0 hB hP hM hF hF0
    have e3 := hB.2.2.1
    have hw := hP (bT B) (by omega) (by omega)
    have hB1 : BM (mPI h 126 (16807 * q + u).toNat (zI 100000)) B := BM_of hB (fun k h1 _ => by rw [hI_ne (by omega)]) (fun k h1 _ => hI_ne (by omega) _ _ _)
    have hP1 : PW (mPI h 126 (16807 * q + u).toNat (zI 100000)) := PW_of hP (hI_ne (by omega) _ _ _)
    have hM1 : MC (mPI h 126 (16807 * q + u).toNat (zI 100000)) B l w := MC_of hM (hI_ne (by omega) _ _ _)
    have hF1 : ∀ q', q < q' → q' ≤ bD B → LF (mPI h 126 (16807 * q + u).toNat (zI 100000)) B l w so q' (p7 (bT B)) := fun q' a b => LF_off (hF q' a b) (by omega) (by omega) u0 (by omega) q0 (Or.inl (by omega))
    have hF01 : LF (mPI h 126 (16807 * q + u).toNat (zI 100000)) B l w so q u := LF_off hF0 q0 (by omega) u0 (by omega) q0 (Or.inr (Int.le_refl _))
    have e31 := hB1.2.2.1
    have e11 := hB1.1
    obtain ⟨x, hx, run⟩ := s_M_isUsed (d := d) (so := so) (q := q) hB1 hO hP1 u0 (by omega) so0 (by omega) q0 (by omega)
    rcases hx with ⟨hm, rfl⟩ | ⟨hm, rfl⟩
    · -- it may be used
      have fin : ∀ v, v = aL (aK B l w) (tmB B) 100000 (bD B - q).toNat (cf B so u) → ∃ h', (∀ q', q ≤ q' → q' ≤ bD B → LF h' B l w so q' (p7 (bT B))) ∧ hFr [126] h h' ∧ ∀ out, mRuns (d + 2) 48 5 [some (.ref 114), some (.int (zI so)), some (.int (zI (q - 1))), none, none, none, none, none] [] h' out → mRuns (d + 2) 48 191 [some (.ref 114), some (.int (zI so)), some (.int (zI q)), some (.int (zI u)), some (.int (zI v)), none, none, none] [] (mPI h 126 (16807 * q + u).toNat (zI 100000)) out := by
        intro v hv
        obtain ⟨h', k1, k2, k3⟩ := ih (u + 1) (mPI (mPI h 126 (16807 * q + u).toNat (zI 100000)) 126 (16807 * q + u).toNat (zI v)) (by omega) (by omega) (BM_of hB1 (fun k h1 _ => by rw [hI_ne (by omega)]) (fun k h1 _ => hI_ne (by omega) _ _ _)) (PW_of hP1 (hI_ne (by omega) _ _ _)) (MC_of hM1 (hI_ne (by omega) _ _ _)) (fun q' a b => LF_off (hF1 q' a b) (by omega) (by omega) u0 (by omega) q0 (Or.inl (by omega))) (fun y y0 y1 hy => by
          by_cases e : y = u
          · rw [e, hI_same, hv]
          · rw [hI_off (by omega)]; exact hF01 y y0 (by omega) hy)
        refine ⟨h', k1, hFr_trans (hFr_pi (hFr_pi (hFr_refl _ _) (by simp) _ _) (by simp) _ _) k2, fun out r => vc_M_fills_191 ?_⟩
        have r := k3 out r
        simp (disch := omega) only [zI_add, zI_sub, zI_mul, zI_neg, zI_lit, zI_0, zI_1, zI_lt, zI_le, zI_eq, zI_clamp, zI_inT, zI_ite, mOb_0, mOb_1, mOb_3, mOb_4, mLd_1, mAr_1, mLen_1, mTrue_t, Int.toNat_zero, Int.toNat_one, true_and, and_true, not_true_eq_false, not_false_eq_true, true_or, or_true, or_self, false_or, or_false, forall_const, false_implies, true_implies, implies_true]
        first | exact r | exact ⟨by omega, r⟩
      by_cases e : q = bD B
      · obtain ⟨h', k1, k2, k3⟩ := fin 0 (by rw [e, Int.sub_self]; rfl)
        refine ⟨h', k1, k2, fun out r => vc_M_fills_11 ?_⟩
        have r := k3 out r
        simp (disch := omega) only [zI_add, zI_sub, zI_mul, zI_neg, zI_lit, zI_0, zI_1, zI_lt, zI_le, zI_eq, zI_clamp, zI_inT, zI_ite, mOb_0, mOb_1, mOb_3, mOb_4, mLd_1, mAr_1, mLen_1, mTrue_t, Int.toNat_zero, Int.toNat_one, true_and, and_true, not_true_eq_false, not_false_eq_true, true_or, or_true, or_self, false_or, or_false, forall_const, false_implies, true_implies, implies_true, e3, hw]
        refine ⟨fun z => by omega, fun _ => ⟨_, _, run, ?_⟩⟩
        simp (disch := omega) only [zI_add, zI_sub, zI_mul, zI_neg, zI_lit, zI_0, zI_1, zI_lt, zI_le, zI_eq, zI_clamp, zI_inT, zI_ite, mOb_0, mOb_1, mOb_3, mOb_4, mLd_1, mAr_1, mLen_1, mTrue_t, Int.toNat_zero, Int.toNat_one, true_and, and_true, not_true_eq_false, not_false_eq_true, true_or, or_true, or_self, false_or, or_false, forall_const, false_implies, true_implies, implies_true, e11]
        refine ⟨fun _ => ⟨fun z => absurd e z, fun _ => vc_M_fills_72 ?_⟩, fun z => by omega⟩
        simp (disch := omega) only [zI_add, zI_sub, zI_mul, zI_neg, zI_lit, zI_0, zI_1, zI_lt, zI_le, zI_eq, zI_clamp, zI_inT, zI_ite, mOb_0, mOb_1, mOb_3, mOb_4, mLd_1, mAr_1, mLen_1, mTrue_t, Int.toNat_zero, Int.toNat_one, true_and, and_true, not_true_eq_false, not_false_eq_true, true_or, or_true, or_self, false_or, or_false, forall_const, false_implies, true_implies, implies_true, e31, e11, zI_shl6]
        exact ⟨fun z => by omega, fun _ => ⟨fun _ => r, fun z => by omega⟩⟩
      · obtain ⟨j, hj⟩ : ∃ j : Nat, q + j + 1 = bD B := ⟨(bD B - q - 1).toNat, by omega⟩
        have hv := aL_small (l := l) (w := w) (j := j) (c := cf B so u) hO
        obtain ⟨h', k1, k2, k3⟩ := fin _ (hv.trans (by rw [show (bD B - q).toNat = j + 1 by omega]))
        refine ⟨h', k1, k2, fun out r => vc_M_fills_11 ?_⟩
        have r := k3 out r
        have r := s_M_fills_set C hB1 hP1 hM1 hj (hF1 (q + 1) (by omega) (by omega)) u0 (by omega) hm (aPow (bT B)).toNat 0 100000 (by omega) (by omega) (by omega) (by omega) r
        simp (disch := omega) only [zI_add, zI_sub, zI_mul, zI_neg, zI_lit, zI_0, zI_1, zI_lt, zI_le, zI_eq, zI_clamp, zI_inT, zI_ite, mOb_0, mOb_1, mOb_3, mOb_4, mLd_1, mAr_1, mLen_1, mTrue_t, Int.toNat_zero, Int.toNat_one, true_and, and_true, not_true_eq_false, not_false_eq_true, true_or, or_true, or_self, false_or, or_false, forall_const, false_implies, true_implies, implies_true, e3, hw]
        refine ⟨fun z => by omega, fun _ => ⟨_, _, run, ?_⟩⟩
        simp (disch := omega) only [zI_add, zI_sub, zI_mul, zI_neg, zI_lit, zI_0, zI_1, zI_lt, zI_le, zI_eq, zI_clamp, zI_inT, zI_ite, mOb_0, mOb_1, mOb_3, mOb_4, mLd_1, mAr_1, mLen_1, mTrue_t, Int.toNat_zero, Int.toNat_one, true_and, and_true, not_true_eq_false, not_false_eq_true, true_or, or_true, or_self, false_or, or_false, forall_const, false_implies, true_implies, implies_true, e11]
        exact ⟨fun _ => ⟨fun _ => r, fun z => absurd z e⟩, fun z => by omega⟩
    · obtain ⟨h', k1, k2, k3⟩ := ih (u + 1) _ (by omega) (by omega) hB1 hP1 hM1 hF1 (fun y y0 y1 hy => by
        by_cases e : y = u
        · rw [e] at hy; exact absurd hy hm
        · exact hF01 y y0 (by omega) hy)
      refine ⟨h', k1, hFr_trans (hFr_pi (hFr_refl _ _) (by simp) _ _) k2, fun out r => vc_M_fills_11 ?_⟩
      have r := k3 out r
      simp (disch := omega) only [zI_add, zI_sub, zI_mul, zI_neg, zI_lit, zI_0, zI_1, zI_lt, zI_le, zI_eq, zI_clamp, zI_inT, zI_ite, mOb_0, mOb_1, mOb_3, mOb_4, mLd_1, mAr_1, mLen_1, mTrue_t, Int.toNat_zero, Int.toNat_one, true_and, and_true, not_true_eq_false, not_false_eq_true, true_or, or_true, or_self, false_or, or_false, forall_const, false_implies, true_implies, implies_true, e3, hw]
      refine ⟨fun z => by omega, fun _ => ⟨_, _, run, ?_⟩⟩
      simp (disch := omega) only [zI_add, zI_sub, zI_mul, zI_neg, zI_lit, zI_0, zI_1, zI_lt, zI_le, zI_eq, zI_clamp, zI_inT, zI_ite, mOb_0, mOb_1, mOb_3, mOb_4, mLd_1, mAr_1, mLen_1, mTrue_t, Int.toNat_zero, Int.toNat_one, true_and, and_true, not_true_eq_false, not_false_eq_true, true_or, or_true, or_self, false_or, or_false, forall_const, false_implies, true_implies, implies_true]
      first | exact r | exact ⟨fun z => by omega, fun _ => r⟩
theorem s_M_fills_loop {d : Nat} {B : tB} {l w so : Int} (hO : BOk B) (hl : 0 ≤ l) (hl' : l ≤ 2) (so0 : 0 ≤ so) (so1 : so < aPow (bT B)) : ∀ (n : Nat) (q : Int) (h : mHp), q + 1 = n → q ≤ bD B → BM h B → PW h → MC h B l w → (∀ q', q < q' → q' ≤ bD B → LF h B l w so q' (p7 (bT B))) →
    ∃ h', (∀ q', 0 ≤ q' → q' ≤ bD B → LF h' B l w so q' (p7 (bT B))) ∧ hFr [126] h h' ∧ mRuns (d + 2) 48 5 [some (.ref 114), some (.int (zI so)), some (.int (zI q)), none, none, none, none, none] [] h (.inl (none, h')) := by
  have o := hO.1
  have pr := p7_rng (bT B)
  intro n
  induction n with
  | zero =>
    intro q h hq hq' hB hP hM hF
    refine ⟨h, fun q' a b => hF q' (by omega) b, hFr_refl _ _, vc_M_fills_5 ?_⟩
    simp (disch := omega) only [zI_add, zI_sub, zI_mul, zI_neg, zI_lit, zI_0, zI_1, zI_lt, zI_le, zI_eq, zI_clamp, zI_inT, zI_ite, mOb_0, mOb_1, mOb_3, mOb_4, mLd_1, mAr_1, mLen_1, mTrue_t, Int.toNat_zero, Int.toNat_one, true_and, and_true, not_true_eq_false, not_false_eq_true, true_or, or_true, or_self, false_or, or_false, forall_const, false_implies, true_implies, implies_true]
    first | exact ⟨fun _ => rfl, fun z => by omega⟩ | (repeat' (first | refine And.intro ?_ ?_ | with_reducible intro _); all_goals first | omega | rfl)
  | succ n ih =>
    intro q h hq hq' hB hP hM hF
    obtain ⟨h1, k1, k2, k3⟩ := s_M_fills_used (d := d) (w := w) (⟨hO, hl, hl', so0, so1, by omega⟩ : fCtx B l so q) hq' (p7 (bT B)).toNat 0 h (by omega) (by omega) hB hP hM hF (fun u a b => by omega)
    have fr : ∀ x, x ≠ 126 → h1.1 x = h.1 x := fun x hx => k2.1 x (by simp [hx])
    obtain ⟨h2, m1, m2, m3⟩ := ih (q - 1) h1 (by omega) (by omega) (BM_of hB (fun k _ _ => by rw [fr 114 (by omega)]) (fun k a b => fr k (by omega))) (PW_of hP (fr 129 (by omega))) (MC_of hM (fr 125 (by omega))) (fun q' a b => k1 q' (by omega) b)
    refine ⟨h2, m1, hFr_trans k2 m2, vc_M_fills_5 ?_⟩
    have r := k3 _ m3
    simp (disch := omega) only [zI_add, zI_sub, zI_mul, zI_neg, zI_lit, zI_0, zI_1, zI_lt, zI_le, zI_eq, zI_clamp, zI_inT, zI_ite, mOb_0, mOb_1, mOb_3, mOb_4, mLd_1, mAr_1, mLen_1, mTrue_t, Int.toNat_zero, Int.toNat_one, true_and, and_true, not_true_eq_false, not_false_eq_true, true_or, or_true, or_self, false_or, or_false, forall_const, false_implies, true_implies, implies_true]
    first | exact ⟨fun z => by omega, fun _ => r⟩ | exact r
theorem s_M_fills {d : Nat} {h : mHp} {B : tB} {l w so : Int} (hO : BOk B) (hl : 0 ≤ l) (hl' : l ≤ 2) (so0 : 0 ≤ so) (so1 : so < aPow (bT B)) (hB : BM h B) (hP : PW h) (hM : MC h B l w) :
    ∃ h', (∀ q', 0 ≤ q' → q' ≤ bD B → LF h' B l w so q' (p7 (bT B))) ∧ hFr [126] h h' ∧ mRuns (d + 2) 48 0 [some (.ref 114), some (.int (zI so)), none, none, none, none, none, none] [] h (.inl (none, h')) := by
  have o := hO.1
  obtain ⟨h', k1, k2, k3⟩ := s_M_fills_loop (d := d) (w := w) hO hl hl' so0 so1 (bD B + 1).toNat (bD B) h (by omega) (by omega) hB hP hM (fun q' a b => by omega)
  refine ⟨h', k1, k2, vc_M_fills ?_⟩
  rw [hB.1]
  exact k3

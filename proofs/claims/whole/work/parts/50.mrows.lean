/-! L3, the model's rows -/
theorem aSel_two {K : Int → Int} (hK : kOk K) {T : Nat → Int} (hT : ∀ j, T j ≤ 95) {v v' : Int} (hv : 1023 ≤ v) (hv' : 1023 ≤ v') {j : Nat} {c : Int → Int} (hj : j + 1 ≤ 6) (h : aL K T v (j + 1) c < v) : aSel K T v j c = aSel K T v' j c ∧ aL K T v' (j + 1) c = aL K T v (j + 1) c ∧ aL K T v j (cSub c (aSel K T v j c)) < v := by
  have h2 := aL_two hK hT hv hv' (j + 1) c hj
  have h2 : aL K T v (j + 1) c = aL K T v' (j + 1) c ∧ aL K T v (j + 1) c ≤ 95 * ((j + 1 : Nat) : Int) := by rcases h2 with z | z <;> omega
  have iff : ∀ s, 0 ≤ s → s < 32 → (isSel K T v j c s ↔ isSel K T v' j c s) := by
    intro s a b
    unfold isSel
    refine and_congr_right (fun p => ?_)
    have := hK s a b
    have := p.1
    rcases aL_two hK hT hv hv' j (cSub c s) (by omega) with z | z <;> omega
  have hs := aSel_spec h
  have hs' := aSel_spec (K := K) (T := T) (top := v') (j := j) (c := c) (by omega)
  refine ⟨aSel_uniq hs'.1 hs'.2.1 ((iff _ hs'.1 hs'.2.1).mpr hs'.2.2.1) (fun s a b k => hs'.2.2.2 s a b ((iff s a (by omega)).mp k)), by omega, ?_⟩
  have := hs.2.2.1.2
  have := hK _ hs.1 hs.2.1
  have := hs.2.2.1.1.1
  omega
theorem aRw_two {K : Int → Int} (hK : kOk K) {T : Nat → Int} (hT : ∀ j, T j ≤ 95) {v v' : Int} (hv : 1023 ≤ v) (hv' : 1023 ≤ v') : ∀ (j : Nat) (c : Int → Int) (i : Nat), j ≤ 6 → aL K T v j c < v → aRw K T v j c i = aRw K T v' j c i := by
  intro j
  induction j with
  | zero => intro c i _ _; rfl
  | succ j ih =>
    intro c i hj h
    have hs := aSel_two hK hT hv hv' hj h
    cases i with
    | zero => exact hs.1
    | succ i =>
      show aRw K T v j (cSub c (aSel K T v j c)) i = aRw K T v' j (cSub c (aSel K T v' j c)) i
      rw [← hs.1]
      exact ih _ i (by omega) hs.2.2
theorem aSelR_cong {K : Int → Int} {T : Nat → Int} {top : Int} {j : Nat} {c c' : Int → Int} (h : ∀ t, 0 ≤ t → t < 5 → c t = c' t) : ∀ (n : Nat) (i : Int), aSelR K T top j c n i = aSelR K T top j c' n i := by
  intro n
  induction n with
  | zero => intro i; rfl
  | succ n ih =>
    intro i
    unfold aSelR
    rw [aL_cong j _ _ (cSub_of h i), aL_cong (j + 1) _ _ h, ih]
    have := okS_cong h i
    simp only [okP, this]
theorem aRw_cong {K : Int → Int} {T : Nat → Int} {top : Int} : ∀ (j : Nat) (c c' : Int → Int) (i : Nat), (∀ t, 0 ≤ t → t < 5 → c t = c' t) → aRw K T top j c i = aRw K T top j c' i := by
  intro j
  induction j with
  | zero => intro c c' i _; rfl
  | succ j ih =>
    intro c c' i h
    have hs : aSel K T top j c = aSel K T top j c' := aSelR_cong h 32 0
    cases i with
    | zero => exact hs
    | succ i =>
      show aRw K T top j (cSub c (aSel K T top j c)) i = aRw K T top j (cSub c' (aSel K T top j c')) i
      rw [hs]
      exact ih _ _ i (cSub_of h _)
theorem s_M_rows_while {d : Nat} {h : mHp} {B : tB} {l w so q u : Int} (C : fCtx B l so q) (hB : BM h B) (hP : PW h) (hM : MC h B l w) {j : Nat} (hj : q + j + 1 = bD B) (hF : ∀ q', 0 ≤ q' → q' ≤ bD B → LF h B l w so q' (p7 (bT B))) (u0 : 0 ≤ u) (u1 : u < p7 (bT B)) (hu : isU B u so q) (hL : aL (aK B l w) (tmB B) 100000 (j + 1) (cf B so u) < 100000) {out : mOut}
    (r : mRuns (d + 2) 51 4 [some (.ref 114), some (.int (zI so)), some (.int (zI (u + sm (aSel (aK B l w) (tmB B) 100000 j (cf B so u))))), some (.int (zI (q + 1))), none, none, none] [] (mPI h 128 q.toNat (zI (aSel (aK B l w) (tmB B) 100000 j (cf B so u)))) out) : ∀ (n : Nat) (s : Int), s + n = aSel (aK B l w) (tmB B) 100000 j (cf B so u) → 0 ≤ s →
    mRuns (d + 2) 51 18 [some (.ref 114), some (.int (zI so)), some (.int (zI u)), some (.int (zI q)), some (.int (zI s)), some (.int (zI 0)), none] [] h out := by
  obtain ⟨hO, hl, hl', so0, so1, q0⟩ := id C
  have o := hO.1
  have hp := aPow_le o.2.2.2.2.1 o.2.2.2.2.2.1
  have pr := p7_rng (bT B)
  have hK := kOk_B hO (w := w) hl hl'
  obtain ⟨z0, z1, z2, z3⟩ := aSel_spec hL
  generalize hg : aSel (aK B l w) (tmB B) 100000 j (cf B so u) = g at *
  have gs : g < aPow (bT B) := by
    have k := z2.1.1
    have : aDif g (aFr B w) = 0 := by
      apply Classical.byContradiction; intro n
      exact k (by unfold aK; rw [if_neg n])
    exact free_small hO z0 z1 this
  have F0 := hF q q0 (by omega) u u0 u1 hu
  rw [show (bD B - q).toNat = j + 1 by omega] at F0
  have L0 := aL_nn hK (T := tmB B) (top := 100000) (by omega) (j + 1) (cf B so u)
  intro n
  induction n with
  | zero =>
    intro s hs s0
    have es : s = g := by omega
    rw [es]
    have hok := (f_ok (w := w) C hj u0 hu z0 gs).mp z2.1
    have hMs := hM q g q0 (by omega) z0 gs
    have dr := aDif_rng g so
    obtain ⟨x, hx, run⟩ := s_M_more (d := d) hB hO hP u0 (show u < 16807 by omega) z0 gs
    have hx : x = u + sm g := by
      rcases hx with z | z
      · exact z.2
      · exact absurd hok.2.2 z.1
    rw [hx] at run
    obtain ⟨t1, t2, t3, t4⟩ := f_then C u0 u1 hu z0 gs hok.1 hok.2.2
    have F1 := hF (q + 1) (by omega) (by omega) _ t1 t2 t3
    rw [aL_cong _ _ _ t4, show (bD B - (q + 1)).toNat = j by omega] at F1
    have L1 := aL_nn hK (T := tmB B) (top := 100000) (by omega) j (cSub (cf B so u) g)
    have L2 := aL_le (K := aK B l w) (T := tmB B) (top := 100000) (by omega) j (cSub (cf B so u) g)
    have hk : aKd B l w q g = aK B l w g ∧ 0 ≤ aK B l w g := by
      have := hok.2.1
      have := hK g z0 z1
      unfold aKd at *; split at * <;> first | omega | (refine ⟨rfl, ?_⟩; omega)
    have kr := aK_rng hO (w := w) (s := g) hl hl'
    have zz := z2.2
    have hn := hok.2.1
    have hB1 : BM (mPI h 128 q.toNat (zI g)) B := BM_of hB (fun k h1 _ => by rw [hI_ne (by omega)]) (fun k h1 _ => hI_ne (by omega) _ _ _)
    obtain ⟨x2, hx2, run2⟩ := s_M_more (d := d) hB1 hO (PW_of hP (hI_ne (by omega) _ _ _)) u0 (show u < 16807 by omega) z0 gs
    have hx2 : x2 = u + sm g := by
      rcases hx2 with z | z
      · exact z.2
      · exact absurd hok.2.2 z.1
    rw [hx2] at run2
    have last : mRuns (d + 2) 51 18 [some (.ref 114), some (.int (zI so)), some (.int (zI u)), some (.int (zI q)), some (.int (zI g)), some (.int (zI 1)), none] [] h out := by
      refine vc_M_rows_18 ?_
      simp (disch := omega) only [zI_add, zI_sub, zI_mul, zI_neg, zI_lit, zI_0, zI_1, zI_lt, zI_le, zI_eq, zI_clamp, zI_inT, zI_ite, mOb_0, mOb_1, mOb_3, mOb_4, mLd_1, mAr_1, mLen_1, mTrue_t, Int.toNat_zero, Int.toNat_one, true_and, and_true, not_true_eq_false, not_false_eq_true, true_or, or_true, or_self, false_or, or_false, forall_const, false_implies, true_implies, implies_true]
      exact ⟨fun _ => ⟨_, _, run2, r⟩, fun z => by omega⟩
    refine vc_M_rows_18 ?_
    simp (disch := omega) only [zI_add, zI_sub, zI_mul, zI_neg, zI_lit, zI_0, zI_1, zI_lt, zI_le, zI_eq, zI_clamp, zI_inT, zI_ite, mOb_0, mOb_1, mOb_3, mOb_4, mLd_1, mAr_1, mLen_1, mTrue_t, Int.toNat_zero, Int.toNat_one, true_and, and_true, not_true_eq_false, not_false_eq_true, true_or, or_true, or_self, false_or, or_false, forall_const, false_implies, true_implies, implies_true, zI_dif, hMs, hok.1]
    refine ⟨fun _ => ⟨_, _, run, vc_M_rows_61 ?_⟩, fun z => absurd z hn⟩
    simp (disch := omega) only [zI_add, zI_sub, zI_mul, zI_neg, zI_lit, zI_0, zI_1, zI_lt, zI_le, zI_eq, zI_clamp, zI_inT, zI_ite, mOb_0, mOb_1, mOb_3, mOb_4, mLd_1, mAr_1, mLen_1, mTrue_t, Int.toNat_zero, Int.toNat_one, true_and, and_true, not_true_eq_false, not_false_eq_true, true_or, or_true, or_self, false_or, or_false, forall_const, false_implies, true_implies, implies_true, hMs, F1, F0]
    rw [hk.1]
    repeat' (first | refine And.intro ?_ ?_ | with_reducible intro _)
    all_goals first | omega | exact last
  | succ n ih =>
    intro s hs s0
    have s1 : s < aPow (bT B) := by omega
    have hok := f_ok (w := w) C hj u0 hu s0 s1
    have hMs := hM q s q0 (by omega) s0 s1
    have dr := aDif_rng s so
    have kr := aK_rng hO (w := w) (s := s) hl hl'
    have kd : -1 ≤ aKd B l w q s ∧ aKd B l w q s ≤ 100000 := by unfold aKd; split <;> omega
    have nsel := z3 s s0 (by omega)
    have nx := ih (s + 1) (by omega) (by omega)
    have no : mRuns (d + 2) 51 61 [some (.ref 114), some (.int (zI so)), some (.int (zI u)), some (.int (zI q)), some (.int (zI s)), none, none] [.int (zI (-1))] h out := by
      refine vc_M_rows_61 ?_
      simp (disch := omega) only [zI_add, zI_sub, zI_mul, zI_neg, zI_lit, zI_0, zI_1, zI_lt, zI_le, zI_eq, zI_clamp, zI_inT, zI_ite, mOb_0, mOb_1, mOb_3, mOb_4, mLd_1, mAr_1, mLen_1, mTrue_t, Int.toNat_zero, Int.toNat_one, true_and, and_true, not_true_eq_false, not_false_eq_true, true_or, or_true, or_self, false_or, or_false, forall_const, false_implies, true_implies, implies_true]
      repeat' (first | refine And.intro ?_ ?_ | with_reducible intro _)
      all_goals first | omega | exact nx
    obtain ⟨x, hx, run⟩ := s_M_more (d := d) hB hO hP u0 (show u < 16807 by omega) s0 s1
    refine vc_M_rows_18 ?_
    simp (disch := omega) only [zI_add, zI_sub, zI_mul, zI_neg, zI_lit, zI_0, zI_1, zI_lt, zI_le, zI_eq, zI_clamp, zI_inT, zI_ite, mOb_0, mOb_1, mOb_3, mOb_4, mLd_1, mAr_1, mLen_1, mTrue_t, Int.toNat_zero, Int.toNat_one, true_and, and_true, not_true_eq_false, not_false_eq_true, true_or, or_true, or_self, false_or, or_false, forall_const, false_implies, true_implies, implies_true, zI_dif, hMs]
    refine ⟨fun _ => no, fun y => ⟨fun hn => ⟨_, _, run, ?_⟩, fun _ => no⟩⟩
    rcases hx with ⟨hm, rfl⟩ | ⟨hm, rfl⟩
    · obtain ⟨t1, t2, t3, t4⟩ := f_then C u0 u1 hu s0 s1 y hm
      have F1 := hF (q + 1) (by omega) (by omega) _ t1 t2 t3
      rw [aL_cong _ _ _ t4, show (bD B - (q + 1)).toNat = j by omega] at F1
      have L1 := aL_nn hK (T := tmB B) (top := 100000) (by omega) j (cSub (cf B so u) s)
      have L2 := aL_le (K := aK B l w) (T := tmB B) (top := 100000) (by omega) j (cSub (cf B so u) s)
      have hk : aKd B l w q s = aK B l w s := by unfold aKd at hn ⊢; split at hn <;> first | omega | (rename_i k; rw [if_neg k])
      have ne : ¬ aK B l w s + aL (aK B l w) (tmB B) 100000 j (cSub (cf B so u) s) = aL (aK B l w) (tmB B) 100000 (j + 1) (cf B so u) := fun z => nsel ⟨hok.mpr ⟨y, hn, hm⟩, z⟩
      refine vc_M_rows_61 ?_
      simp (disch := omega) only [zI_add, zI_sub, zI_mul, zI_neg, zI_lit, zI_0, zI_1, zI_lt, zI_le, zI_eq, zI_clamp, zI_inT, zI_ite, mOb_0, mOb_1, mOb_3, mOb_4, mLd_1, mAr_1, mLen_1, mTrue_t, Int.toNat_zero, Int.toNat_one, true_and, and_true, not_true_eq_false, not_false_eq_true, true_or, or_true, or_self, false_or, or_false, forall_const, false_implies, true_implies, implies_true, hMs, F1, F0]
      rw [hk]
      repeat' (first | refine And.intro ?_ ?_ | with_reducible intro _)
      all_goals first | omega | exact nx | (exfalso; exact ne (by assumption))
    · exact no
theorem s_M_rows_loop {d : Nat} {B : tB} {l w so : Int} (hO : BOk B) (hl : 0 ≤ l) (hl' : l ≤ 2) (so0 : 0 ≤ so) (so1 : so < aPow (bT B)) : ∀ (n : Nat) (q u : Int) (h : mHp), q + n = bD B → 0 ≤ q → BM h B → PW h → MC h B l w → (∀ q', 0 ≤ q' → q' ≤ bD B → LF h B l w so q' (p7 (bT B))) → 0 ≤ u → u < p7 (bT B) → isU B u so q → aL (aK B l w) (tmB B) 100000 n (cf B so u) < 100000 →
    ∃ h', mRuns (d + 2) 51 4 [some (.ref 114), some (.int (zI so)), some (.int (zI u)), some (.int (zI q)), none, none, none] [] h (.inl (none, h')) ∧ (∀ i, 0 ≤ i → i < q → h'.1 128 i.toNat = h.1 128 i.toNat) ∧ (∀ i : Int, 0 ≤ i → i < n → h'.1 128 (q + i).toNat = zI (aRw (aK B l w) (tmB B) 100000 n (cf B so u) i.toNat)) ∧ hFr [128] h h' := by
  have o := hO.1
  have pr := p7_rng (bT B)
  intro n
  induction n with
  | zero =>
    intro q u h hq q0 hB hP hM hF u0 u1 hu hL
    have e1 := hB.1
    refine ⟨h, vc_M_rows_4 ?_, fun _ _ _ => rfl, fun i a b => by omega, hFr_refl _ _⟩
    simp (disch := omega) only [zI_add, zI_sub, zI_mul, zI_neg, zI_lit, zI_0, zI_1, zI_lt, zI_le, zI_eq, zI_clamp, zI_inT, zI_ite, mOb_0, mOb_1, mOb_3, mOb_4, mLd_1, mAr_1, mLen_1, mTrue_t, Int.toNat_zero, Int.toNat_one, true_and, and_true, not_true_eq_false, not_false_eq_true, true_or, or_true, or_self, false_or, or_false, forall_const, false_implies, true_implies, implies_true, e1]
    repeat' (first | refine And.intro ?_ ?_ | with_reducible intro _)
    all_goals first | omega | rfl
  | succ j ih =>
    intro q u h hq q0 hB hP hM hF u0 u1 hu hL
    have e1 := hB.1
    have hK := kOk_B hO (w := w) hl hl'
    have C : fCtx B l so q := ⟨hO, hl, hl', so0, so1, q0⟩
    have hw := fun out => s_M_rows_while (d := d) (out := out) C hB hP hM (j := j) (by omega) hF u0 u1 hu hL
    obtain ⟨z0, z1, z2, z3⟩ := aSel_spec hL
    have hcg : ∀ i : Nat, aRw (aK B l w) (tmB B) 100000 (j + 1) (cf B so u) (i + 1) = aRw (aK B l w) (tmB B) 100000 j (cSub (cf B so u) (aSel (aK B l w) (tmB B) 100000 j (cf B so u))) i := fun _ => rfl
    have hc0 : aRw (aK B l w) (tmB B) 100000 (j + 1) (cf B so u) 0 = aSel (aK B l w) (tmB B) 100000 j (cf B so u) := rfl
    generalize hg : aSel (aK B l w) (tmB B) 100000 j (cf B so u) = g at *
    have gs : g < aPow (bT B) := by
      have k := z2.1.1
      have : aDif g (aFr B w) = 0 := by
        apply Classical.byContradiction; intro n
        exact k (by unfold aK; rw [if_neg n])
      exact free_small hO z0 z1 this
    have hok := (f_ok (w := w) C (j := j) (by omega) u0 hu z0 gs).mp z2.1
    obtain ⟨t1, t2, t3, t4⟩ := f_then C u0 u1 hu z0 gs hok.1 hok.2.2
    have hlt : aL (aK B l w) (tmB B) 100000 j (cf B so (u + sm g)) < 100000 := by
      rw [aL_cong _ _ _ t4]
      have := z2.2; have := hK g z0 z1; have := z2.1.1; omega
    obtain ⟨h', r, k1, k2, k3⟩ := ih (q + 1) (u + sm g) (mPI h 128 q.toNat (zI g)) (by omega) (by omega) (BM_of hB (fun k h1 _ => by rw [hI_ne (by omega)]) (fun k h1 _ => hI_ne (by omega) _ _ _)) (PW_of hP (hI_ne (by omega) _ _ _)) (MC_of hM (hI_ne (by omega) _ _ _)) (fun q' a b => fun y y0 y1 hy => by rw [hI_ne (by omega)]; exact hF q' a b y y0 y1 hy) t1 t2 t3 hlt
    refine ⟨h', vc_M_rows_4 ?_, fun i a b => ?_, fun i a b => ?_, hFr_trans (hFr_pi (hFr_refl _ _) (by simp) _ _) k3⟩
    · have := hw _ r g.toNat 0 (by omega) (by omega)
      simp (disch := omega) only [zI_add, zI_sub, zI_mul, zI_neg, zI_lit, zI_0, zI_1, zI_lt, zI_le, zI_eq, zI_clamp, zI_inT, zI_ite, mOb_0, mOb_1, mOb_3, mOb_4, mLd_1, mAr_1, mLen_1, mTrue_t, Int.toNat_zero, Int.toNat_one, true_and, and_true, not_true_eq_false, not_false_eq_true, true_or, or_true, or_self, false_or, or_false, forall_const, false_implies, true_implies, implies_true, e1]
      first | exact ⟨fun z => by omega, fun _ => this⟩
    · rw [k1 i a (by omega), hI_off (by omega)]
    · by_cases e : i = 0
      · rw [e, Int.add_zero, k1 q q0 (by omega), hI_same, Int.toNat_zero, hc0]
      · have := k2 (i - 1) (by omega) (by omega)
        rw [show q + 1 + (i - 1) = q + i by omega, aRw_cong _ _ _ _ t4] at this
        rw [this, show i.toNat = (i - 1).toNat + 1 by omega, hcg]
theorem s_M_rows {d : Nat} {h : mHp} {B : tB} {l w so : Int} (hO : BOk B) (hl : 0 ≤ l) (hl' : l ≤ 2) (so0 : 0 ≤ so) (so1 : so < aPow (bT B)) (hB : BM h B) (hP : PW h) (hM : MC h B l w) (hF : ∀ q', 0 ≤ q' → q' ≤ bD B → LF h B l w so q' (p7 (bT B))) (hL : aL (aK B l w) (tmB B) 100000 (bD B).toNat (cf B so 0) < 100000) :
    ∃ h', mRuns (d + 2) 51 0 [some (.ref 114), some (.int (zI so)), none, none, none, none, none] [] h (.inl (none, h')) ∧ (∀ i, 0 ≤ i → i < bD B → h'.1 128 i.toNat = zI (aRw (aK B l w) (tmB B) 100000 (bD B).toNat (cf B so 0) i.toNat)) ∧ hFr [128] h h' := by
  have o := hO.1
  have pr := p7_rng (bT B)
  have d0 : ∀ t, dig 0 t = 0 := fun t => by unfold dig; rw [Int.zero_ediv]; rfl
  obtain ⟨h', r, k1, k2, k3⟩ := s_M_rows_loop (d := d) (w := w) hO hl hl' so0 so1 (bD B).toNat 0 0 h (by omega) (by omega) hB hP hM hF (by omega) (by omega) (fun t _ _ => by rw [d0]; split <;> omega) hL
  exact ⟨h', vc_M_rows r, fun i a b => by have := k2 i a (by omega); rw [Int.zero_add] at this; exact this, k3⟩

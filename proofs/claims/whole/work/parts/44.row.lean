/-! L3, the class's search: its start, the row, the same set for all -/
def cC (B : tB) (co : Int) : Int → Int := fun t => if aBit co t = 1 then bF B 8 t else 0
theorem cC_ok {B : tB} (hO : BOk B) {co : Int} (hco : ∀ t, bT B ≤ t → t < 5 → aBit co t = 0) : cOk (cC B co) := by
  intro t a b
  unfold cC
  by_cases e : t < bT B
  · have := hO.2.2.2.1 t a e; split <;> omega
  · rw [if_neg (by have := hco t (by omega) b; omega)]; omega
/-- the notes before a search -/
def NB (h : mHp) (q : Int) (N : Int → Int) : Prop := h.1 26 8 = zI q ∧ 0 ≤ q ∧ aEq (h.1 32) 4424 N ∧ ∀ i, 0 ≤ i → i < 4424 → 0 ≤ N i ∧ N i < (q + 1) * 1024
theorem NB_of {h h' : mHp} {q : Int} {N : Int → Int} (hN : NB h q N) (e1 : h'.1 26 8 = h.1 26 8) (e2 : h'.1 32 = h.1 32) : NB h' q N := by unfold NB at hN ⊢; rw [e1, e2]; exact hN
theorem NT_NB {h : mHp} {K : Int → Int} {T : Nat → Int} {q : Int} {N : Int → Int} (z : NT h K T q N) : NB h q N := ⟨z.1, z.2.1, z.2.2.2.1, z.2.2.2.2.1⟩
theorem s_Pln_start_loop {d : Nat} {b : Nat} (hb : bAd b) {B : tB} (hO : BOk B) {co : Int} (c0 : 0 ≤ co) (c1 : co < 32) (hco : ∀ t, bT B ≤ t → t < 5 → aBit co t = 0) : ∀ (j : Nat) (t : Int) (h : mHp), t + j = 5 → 0 ≤ t → h.2.2.1 26 1 = b → BC h b B → aEq (h.1 30) t (cC B co) →
    ∃ h', mRuns (d + 1) 116 12 [some (.ref 26), some (.int (zI co)), some (.int (zI t))] [] h (.inl (none, h')) ∧ aEq (h'.1 30) 5 (cC B co) ∧ hFr [30] h h' := by
  have o := hO.1
  obtain ⟨b0, b1, b2, b3, b4, b5, b6, b7, b8, b9, b10⟩ := bSh_of hb
  have sb := bBl_of hb
  intro j
  induction j with
  | zero =>
    intro t h ht t0 hR hB hc
    refine ⟨h, vc_Pln_startSearch_12 ?_, fun i x y => hc i x (by omega), hFr_refl _ _⟩
    simp (disch := omega) only [zI_add, zI_sub, zI_mul, zI_neg, zI_lit, zI_0, zI_1, zI_lt, zI_le, zI_eq, zI_clamp, zI_inT, zI_ite, mOb_0, mOb_1, mOb_3, mOb_4, mLd_1, mAr_1, mLen_1, mTrue_t, Int.toNat_zero, Int.toNat_one, true_and, and_true, not_true_eq_false, not_false_eq_true, true_or, or_true, or_self, false_or, or_false, forall_const, false_implies, true_implies, implies_true]
    intro z; omega
  | succ j ih =>
    intro t h ht t0 hR hB hc
    obtain ⟨e0, e4, e9, e13, x1, x2, x3, x4, x5, x6, x7, x8, x9, x10⟩ := id hB
    have hbt := aBit_01 co t
    obtain ⟨h', r, p, f⟩ := ih (t + 1) (mPI h 30 t.toNat (zI (cC B co t))) (by omega) (by omega) hR (BC_of hB (fun k hk => hI_ne (by rcases hb with rfl | rfl <;> omega) _ _ _)) (by
      intro i x y
      by_cases e : i = t
      · rw [e, hI_same]
      · rw [hI_off (by omega)]; exact hc i x (by omega))
    refine ⟨h', vc_Pln_startSearch_12 ?_, p, hFr_trans (hFr_pi (hFr_refl _ _) (by simp) _ _) f⟩
    by_cases e : aBit co t = 1
    · have tn : t < bT B := by
        apply Classical.byContradiction
        intro z; have := hco t (by omega) (by omega); omega
      rw [show cC B co t = bF B 8 t by unfold cC; rw [if_pos e]] at r
      simp (disch := omega) only [zI_add, zI_sub, zI_mul, zI_neg, zI_lit, zI_0, zI_1, zI_lt, zI_le, zI_eq, zI_clamp, zI_inT, zI_ite, mOb_0, mOb_1, mOb_3, mOb_4, mLd_1, mAr_1, mLen_1, mTrue_t, Int.toNat_zero, Int.toNat_one, true_and, and_true, not_true_eq_false, not_false_eq_true, true_or, or_true, or_self, false_or, or_false, forall_const, false_implies, true_implies, implies_true, zI_bit, e, hR, sb, b0, b9, x9]
      repeat' (first | refine And.intro ?_ ?_ | with_reducible intro _)
      all_goals first | omega | exact r
    · rw [show cC B co t = 0 by unfold cC; rw [if_neg e]] at r
      have e0 : aBit co t = 0 := by omega
      simp (disch := omega) only [zI_add, zI_sub, zI_mul, zI_neg, zI_lit, zI_0, zI_1, zI_lt, zI_le, zI_eq, zI_clamp, zI_inT, zI_ite, mOb_0, mOb_1, mOb_3, mOb_4, mLd_1, mAr_1, mLen_1, mTrue_t, Int.toNat_zero, Int.toNat_one, true_and, and_true, not_true_eq_false, not_false_eq_true, true_or, or_true, or_self, false_or, or_false, forall_const, false_implies, true_implies, implies_true, zI_bit, e0]
      repeat' (first | refine And.intro ?_ ?_ | with_reducible intro _)
      all_goals first | omega | exact r
theorem s_Pln_start {d : Nat} {h : mHp} {b : Nat} (hb : bAd b) {B : tB} (hO : BOk B) {K : Int → Int} {n : Int} {g : Int → Int} {q : Int} {N : Int → Int} (hX : SX h b B K n g) (hN : NB h q N) (hq : q < 1000000) {co : Int} (c0 : 0 ≤ co) (c1 : co < 32) (hco : ∀ t, bT B ≤ t → t < 5 → aBit co t = 0) (T : Nat → Int) :
    ∃ h', mRuns (d + 1) 116 0 [some (.ref 26), some (.int (zI co)), none] [] h (.inl (none, h')) ∧ SX h' b B K n g ∧ NT h' K T (q + 1) N ∧ aEq (h'.1 30) 5 (cC B co) ∧ hFg 26 [30, 31, 32] [8] h h' := by
  obtain ⟨x1, x2, x3, x4, x5, x6⟩ := id hX
  obtain ⟨n1, n2, n3, n4⟩ := hN
  have hB' : BC (mPI h 26 8 (zI (q + 1))) b B := BC_of x2 (fun k hk => hI_ne (by rcases hb with rfl | rfl <;> omega) _ _ _)
  obtain ⟨h', r, p, f⟩ := s_Pln_start_loop (d := d) hb hO c0 c1 hco 5 0 (mPI h 26 8 (zI (q + 1))) (by omega) (by omega) x1 hB' (fun i a b => by omega)
  have hX' : SX (mPI h 26 8 (zI (q + 1))) b B K n g := ⟨x1, hB', by rw [hI_ne (by omega)]; exact x3, by rw [hI_off (by omega)]; exact x4, by rw [hI_ne (by omega)]; exact x5, fun j hj => by rw [hI_ne (by omega)]; exact x6 j hj⟩
  refine ⟨h', vc_Pln_startSearch ?_, SX_of hb hX' (hFr_mono f (by simp)), ⟨?_, by omega, by omega, ?_, fun i a b => ?_, fun k c k1 k4 hc e => ?_⟩, p, ?_⟩
  · simp (disch := omega) only [zI_add, zI_sub, zI_mul, zI_neg, zI_lit, zI_0, zI_1, zI_lt, zI_le, zI_eq, zI_clamp, zI_inT, zI_ite, mOb_0, mOb_1, mOb_3, mOb_4, mLd_1, mAr_1, mLen_1, mTrue_t, Int.toNat_zero, Int.toNat_one, true_and, and_true, not_true_eq_false, not_false_eq_true, true_or, or_true, or_self, false_or, or_false, forall_const, false_implies, true_implies, implies_true, n1]
    exact r
  · rw [f.1 26 (by simp), hI_same]
  · rw [f.1 32 (by simp), hI_ne (by omega)]; exact n3
  · have := n4 i a b; omega
  · have kr := aKey_rng (k := (k : Int)) (by omega) (by omega) hc
    have := n4 _ kr.1 kr.2.1
    omega
  · exact hFg_fr (hFg_pf (hFg_refl _ _ _ _) (by simp) _) (hFr_mono f (by simp)) (by simp)
/-- the class's row -/
theorem s_Pln_row {d : Nat} {b : Nat} (hb : bAd b) {B : tB} (hO : BOk B) {K : Int → Int} (hk : ∀ s, 0 ≤ s → s < 32 → -1 ≤ K s ∧ K s ≤ 1022) {n : Int} {g : Int → Int} (hl : lnF K n g) {q : Int} :
    ∀ (j : Nat), (j : Int) ≤ bD B → ∀ (c : Int → Int) (h : mHp) (N : Int → Int), SX h b B K n g → NT h K (tmB B) q N → aEq (h.1 30) 5 c → cOk c → (j = 0 ∨ aL K (tmB B) 1023 j c < 1023) →
    ∃ h' N', mRuns (d + 2 * 6 + 5) 122 2 [some (.ref 26), some (.int (zI (bD B - j))), none, none, none] [] h (.inl (none, h')) ∧ (∀ x : Nat, (x : Int) < bD B - j → h'.1 31 x = h.1 31 x) ∧ (∀ y : Nat, y < j → h'.1 31 ((bD B - j).toNat + y) = zI (aRw K (tmB B) 1023 j c y)) ∧ NT h' K (tmB B) q N' ∧ hFr [30, 31, 32] h h' := by
  have o := hO.1
  have b0 := (bSh_of hb).1
  have sb := bBl_of hb
  obtain ⟨l1, l2, lA, lB, lC⟩ := id hl
  have hkO : kOk K := fun s a b => (hk s a b).1
  intro j
  induction j with
  | zero =>
    intro hj c h N hX hN hc hcO hv
    obtain ⟨x1, x2, x3, x4, x5, x6⟩ := id hX
    have e0 := x2.1
    refine ⟨h, N, vc_Pln_chooseRow_2 ?_, fun _ _ => rfl, fun y hy => absurd hy (by omega), hN, hFr_refl _ _⟩
    simp (disch := omega) only [zI_add, zI_sub, zI_mul, zI_neg, zI_lit, zI_0, zI_1, zI_lt, zI_le, zI_eq, zI_clamp, zI_inT, zI_ite, mOb_0, mOb_1, mOb_3, mOb_4, mLd_1, mAr_1, mLen_1, mTrue_t, Int.toNat_zero, Int.toNat_one, true_and, and_true, not_true_eq_false, not_false_eq_true, true_or, or_true, or_self, false_or, or_false, forall_const, false_implies, true_implies, implies_true, x1, sb, b0, e0]
    intro z; omega
  | succ j ih =>
    intro hj c h N hX hN hc hcO hv
    have hv : aL K (tmB B) 1023 (j + 1) c < 1023 := hv.resolve_left (by omega)
    obtain ⟨x1, x2, x3, x4, x5, x6⟩ := id hX
    have e0 := x2.1
    obtain ⟨a1, a2, a3, a4⟩ := aSel_spec hv
    have a5 := aSel_lean hkO (by omega) hv
    obtain ⟨ks, ks1, ks2, ks3⟩ := lC _ a1 a2 a3.1.1 a5
    have hnn := aL_nn hkO (T := tmB B) (top := 1023) (by omega) (j + 1) c
    have hrest : aL K (tmB B) 1023 j (cSub c (aSel K (tmB B) 1023 j c)) < 1023 := by
      have := a3.2; have := hk _ a1 a2; have := a3.1.1; omega
    have hcO' : cOk (cSub c (aSel K (tmB B) 1023 j c)) := fun t a b => by
      have := hcO t a b
      have := (okS_iff c _).mp a3.1.2.2 t a b
      have := aBit_01 (aSel K (tmB B) 1023 j c) t
      unfold cSub; omega
    obtain ⟨h1, N1, r1, c1, N1', f1⟩ := s_Pln_least (d := d + 13 - 2 * j - 2) hb hO hk hl (q := q) (j + 1) hj c h N hX hN hc hcO
    rw [show d + 13 - 2 * j - 2 + 2 * (j + 1) + 3 = d + 2 * 6 + 4 by omega] at r1
    have hX1 := SX_of hb hX f1
    obtain ⟨op, rop, op0, op1, opS⟩ := s_Pln_open (d := d + 2 * 6 + 3) c1 hcO
    have wi := s_Pln_with (d := d + 12 - 2 * j) hb hO hk (n := n) (g := g) (q := q) (j := j) hj (fun c h N a1 a2 a3 a4 => s_Pln_least (d := d + 12 - 2 * j) hb hO hk hl (q := q) j (by omega) c h N a1 a2 a3 a4) hcO op0 op1 opS
    rw [show d + 12 - 2 * j + 2 * j + 4 = d + 2 * 6 + 4 by omega] at wi
    -- the lean sets in order
    have loop : ∀ (m : Nat) (i : Int) (h : mHp) (N : Int → Int), i + m = ks → 0 ≤ i → SX h b B K n g → NT h K (tmB B) q N → aEq (h.1 30) 5 c →
        ∃ h' N', mRuns (d + 2 * 6 + 5) 122 27 [some (.ref 26), some (.int (zI (bD B - ((j + 1 : Nat) : Int)))), some (.int (zI (aL K (tmB B) 1023 (j + 1) c))), some (.int (zI op)), some (.int (zI i))] [] h (.inl (none, h')) ∧ (∀ x : Nat, (x : Int) < bD B - ((j + 1 : Nat) : Int) → h'.1 31 x = h.1 31 x) ∧ (∀ y : Nat, y < j + 1 → h'.1 31 ((bD B - ((j + 1 : Nat) : Int)).toNat + y) = zI (aRw K (tmB B) 1023 (j + 1) c y)) ∧ NT h' K (tmB B) q N' ∧ hFr [30, 31, 32] h h' := by
      intro m
      induction m with
      | zero =>
        intro i h N hi i0 hX hN hc
        have ei : i = ks := by omega
        subst ei
        obtain ⟨x1, x2, x3, x4, x5, x6⟩ := id hX
        obtain ⟨h2, N2, r2, c2, N2', f2⟩ := wi (g i) h N (by rw [ks3]; exact a1) (by rw [ks3]; exact a2) (by rw [ks3]; exact a3.1.1) hX hN hc
        rw [ks3, if_pos a3.1, a3.2] at r2
        have x5' : h2.1 29 i.toNat = zI (aSel K (tmB B) 1023 j c) := by rw [f2.1 29 (by simp), x5 i i0 ks2, ks3]
        obtain ⟨h3, r3, c3, f3⟩ := s_Pln_change (d := d + 2 * 6 + 3) (h := mPI h2 31 (bD B - ((j + 1 : Nat) : Int)).toNat (zI (aSel K (tmB B) 1023 j c))) (k := -1) a1 a2 (c := c) (by rw [hI_ne (by omega)]; exact c2)
        have c3 : aEq (h3.1 30) 5 (cSub c (aSel K (tmB B) 1023 j c)) := aEq_fn c3 (fun i _ _ => by unfold cSub; omega)
        have hX2 := SX_of hb hX f2
        have hX3 : SX h3 b B K n g := by
          obtain ⟨y1, y2, y3, y4, y5, y6⟩ := hX2
          have hX2' : SX (mPI h2 31 (bD B - ((j + 1 : Nat) : Int)).toNat (zI (aSel K (tmB B) 1023 j c))) b B K n g := ⟨y1, BC_of y2 (fun k hk => hI_ne (by rcases hb with rfl | rfl <;> omega) _ _ _), by rw [hI_ne (by omega)]; exact y3, by rw [hI_ne (by omega)]; exact y4, by rw [hI_ne (by omega)]; exact y5, fun j hj => by rw [hI_ne (by omega)]; exact y6 j hj⟩
          exact SX_of hb hX2' (hFr_mono f3 (by simp))
        have hN3 : NT h3 K (tmB B) q N2 := NT_of N2' (by rw [f3.1 26 (by simp), hI_ne (by omega)]) (by rw [f3.1 32 (by simp), hI_ne (by omega)])
        obtain ⟨h', N', r, p1, p2, N3, f⟩ := ih (by omega) _ h3 N2 hX3 hN3 c3 hcO' (Or.inr hrest)
        refine ⟨h', N', vc_Pln_chooseRow_27 ?_, fun x hx => ?_, fun y hy => ?_, N3, hFr_trans (hFr_trans (hFr_mono f2 (by simp)) (hFr_pi (hFr_refl _ _) (by simp) _ _)) (hFr_trans (hFr_mono f3 (by simp)) f)⟩
        · simp (disch := omega) only [zI_add, zI_sub, zI_mul, zI_neg, zI_lit, zI_0, zI_1, zI_lt, zI_le, zI_eq, zI_clamp, zI_inT, zI_ite, mOb_0, mOb_1, mOb_3, mOb_4, mLd_1, mAr_1, mLen_1, mTrue_t, Int.toNat_zero, Int.toNat_one, true_and, and_true, not_true_eq_false, not_false_eq_true, true_or, or_true, or_self, false_or, or_false, forall_const, false_implies, true_implies, implies_true, x4, x5]
          refine ⟨fun z => by omega, fun _ => ⟨_, _, by rw [ks3]; exact r2, ?_⟩⟩
          simp (disch := omega) only [zI_add, zI_sub, zI_mul, zI_neg, zI_lit, zI_0, zI_1, zI_lt, zI_le, zI_eq, zI_clamp, zI_inT, zI_ite, mOb_0, mOb_1, mOb_3, mOb_4, mLd_1, mAr_1, mLen_1, mTrue_t, Int.toNat_zero, Int.toNat_one, true_and, and_true, not_true_eq_false, not_false_eq_true, true_or, or_true, or_self, false_or, or_false, forall_const, false_implies, true_implies, implies_true, x5', hI_same]
          refine ⟨_, r3, ?_⟩
          rw [show bD B - ((j + 1 : Nat) : Int) + 1 = bD B - (j : Int) by omega]
          exact r
        · rw [p1 x (by omega), f3.1 31 (by simp), hI_off (by omega), f2.1 31 (by simp)]
        · cases y with
          | zero =>
            rw [Nat.add_zero, p1 _ (by omega), f3.1 31 (by simp), hI_same]; rfl
          | succ y =>
            have := p2 y (by omega)
            rw [show (bD B - (j : Int)).toNat + y = (bD B - ((j + 1 : Nat) : Int)).toNat + (y + 1) by omega] at this
            exact this
      | succ m ihm =>
        intro i h N hi i0 hX hN hc
        obtain ⟨x1, x2, x3, x4, x5, x6⟩ := id hX
        obtain ⟨g1, g2, g3, g4⟩ := lA i i0 (by omega)
        have hlt := lB i ks i0 (by omega) ks2
        rw [ks3] at hlt
        have hno := a4 (g i) g1 hlt
        obtain ⟨h2, N2, r2, c2, N2', f2⟩ := wi (g i) h N g1 g2 g3 hX hN hc
        have hks := hk (g i) g1 g2
        have hnn2 := aL_nn hkO (T := tmB B) (top := 1023) (by omega) j (cSub c (g i))
        have hle2 := aL_le (K := K) (T := tmB B) (top := 1023) (by omega) j (cSub c (g i))
        generalize hw : (if okP K (tmB B j) c (g i) then K (g i) + aL K (tmB B) 1023 j (cSub c (g i)) else 1023) = w at r2
        have wne : w ≠ aL K (tmB B) 1023 (j + 1) c := by
          rw [← hw]
          by_cases p : okP K (tmB B j) c (g i)
          · rw [if_pos p]; exact fun z => hno ⟨p, z⟩
          · rw [if_neg p]; omega
        have wr : 0 ≤ w ∧ w ≤ 3000 := by rw [← hw]; split <;> omega
        obtain ⟨h', N', r, p1, p2, N3, f⟩ := ihm (i + 1) h2 N2 (by omega) (by omega) (SX_of hb hX f2) N2' c2
        refine ⟨h', N', vc_Pln_chooseRow_27 ?_, fun x hx => ?_, p2, N3, hFr_trans (hFr_mono f2 (by simp)) f⟩
        · simp (disch := omega) only [zI_add, zI_sub, zI_mul, zI_neg, zI_lit, zI_0, zI_1, zI_lt, zI_le, zI_eq, zI_clamp, zI_inT, zI_ite, mOb_0, mOb_1, mOb_3, mOb_4, mLd_1, mAr_1, mLen_1, mTrue_t, Int.toNat_zero, Int.toNat_one, true_and, and_true, not_true_eq_false, not_false_eq_true, true_or, or_true, or_self, false_or, or_false, forall_const, false_implies, true_implies, implies_true, x4, x5]
          refine ⟨fun z => by omega, fun _ => ⟨_, _, r2, ?_⟩⟩
          simp (disch := omega) only [zI_add, zI_sub, zI_mul, zI_neg, zI_lit, zI_0, zI_1, zI_lt, zI_le, zI_eq, zI_clamp, zI_inT, zI_ite, mOb_0, mOb_1, mOb_3, mOb_4, mLd_1, mAr_1, mLen_1, mTrue_t, Int.toNat_zero, Int.toNat_one, true_and, and_true, not_true_eq_false, not_false_eq_true, true_or, or_true, or_self, false_or, or_false, forall_const, false_implies, true_implies, implies_true]
          exact ⟨fun _ => r, fun z => absurd z wne⟩
        · rw [p1 x hx, f2.1 31 (by simp)]
    obtain ⟨h', N', r, p1, p2, N3, f⟩ := loop ks.toNat 0 h1 N1 (by omega) (by omega) hX1 N1' c1
    refine ⟨h', N', vc_Pln_chooseRow_2 ?_, fun x hx => ?_, p2, N3, hFr_trans (hFr_mono f1 (by simp)) f⟩
    · simp (disch := omega) only [zI_add, zI_sub, zI_mul, zI_neg, zI_lit, zI_0, zI_1, zI_lt, zI_le, zI_eq, zI_clamp, zI_inT, zI_ite, mOb_0, mOb_1, mOb_3, mOb_4, mLd_1, mAr_1, mLen_1, mTrue_t, Int.toNat_zero, Int.toNat_one, true_and, and_true, not_true_eq_false, not_false_eq_true, true_or, or_true, or_self, false_or, or_false, forall_const, false_implies, true_implies, implies_true, x1, sb, b0, e0]
      refine ⟨fun z => by omega, fun _ => ⟨_, _, r1, _, _, rop, r⟩⟩
    · rw [p1 x hx, f1.1 31 (by simp)]

/-! L3, the class's search for the least cold -/
/-- the time of the dish that has j behind it -/
def tmB (B : tB) (j : Nat) : Int := if (j : Int) < bD B then bF B 1 (bD B - 1 - j) - bF B 0 (bD B - 1 - j) else 0
theorem tmB_rng {B : tB} (hO : BOk B) (j : Nat) : 0 ≤ tmB B j ∧ tmB B j ≤ 95 := by
  unfold tmB; split
  · have := hO.2.1 (bD B - 1 - j) (by omega) (by omega); omega
  · omega
/-- what a search stands on -/
def SX (h : mHp) (b : Nat) (B : tB) (K : Int → Int) (n : Int) (g : Int → Int) : Prop :=
  h.2.2.1 26 1 = b ∧ BC h b B ∧ aEq (h.1 28) 32 K ∧ h.1 26 4 = zI n ∧ aEq (h.1 29) n g ∧ nOk h
theorem SX_of {h h' : mHp} {b : Nat} (hb : bAd b) {B : tB} {K : Int → Int} {n : Int} {g : Int → Int} (hX : SX h b B K n g) (f : hFr [30, 32] h h') : SX h' b B K n g := by
  obtain ⟨h1, h2, h3, h4, h5, h6⟩ := hX
  refine ⟨by rw [f.2]; exact h1, BC_of h2 (fun k hk => f.1 _ (by rcases hb with rfl | rfl <;> simp <;> omega)), by rw [f.1 28 (by simp)]; exact h3, by rw [f.1 26 (by simp)]; exact h4, by rw [f.1 29 (by simp)]; exact h5, ?_⟩
  intro j hj; rw [f.1 143 (by simp)]; exact h6 j hj
/-- the notes: q the search's number -/
def NT (h : mHp) (K : Int → Int) (T : Nat → Int) (q : Int) (N : Int → Int) : Prop :=
  h.1 26 8 = zI q ∧ 0 ≤ q ∧ q ≤ 1000000 ∧ aEq (h.1 32) 4424 N ∧ (∀ i, 0 ≤ i → i < 4424 → 0 ≤ N i ∧ N i < (q + 1) * 1024) ∧
  (∀ (k : Nat) (c : Int → Int), 1 ≤ k → k ≤ 4 → cOk c → N (nFr k + aKey k c) / 1024 = q → N (nFr k + aKey k c) % 1024 = aL K T 1023 k c)
theorem NT_of {h h' : mHp} {K : Int → Int} {T : Nat → Int} {q : Int} {N : Int → Int} (hN : NT h K T q N) (e1 : h'.1 26 8 = h.1 26 8) (e2 : h'.1 32 = h.1 32) : NT h' K T q N := by
  unfold NT at hN ⊢; rw [e1, e2]; exact hN
def lnF (K : Int → Int) (n : Int) (g : Int → Int) : Prop := 0 ≤ n ∧ n ≤ 32 ∧ lnOk K 32 n g
theorem s_Pln_with {d : Nat} {b : Nat} (hb : bAd b) {B : tB} (hO : BOk B) {K : Int → Int} (hk : ∀ s, 0 ≤ s → s < 32 → -1 ≤ K s ∧ K s ≤ 1022) {n : Int} {g : Int → Int} {q : Int} {j : Nat} (hj : ((j + 1 : Nat) : Int) ≤ bD B)
    (ih : ∀ (c : Int → Int) (h : mHp) (N : Int → Int), SX h b B K n g → NT h K (tmB B) q N → aEq (h.1 30) 5 c → cOk c →
      ∃ h' N', mRuns (d + 2 * j + 3) 117 0 [some (.ref 26), some (.int (zI (bD B - j))), none, none, none, none, none] [] h (.inl (some (.int (zI (aL K (tmB B) 1023 j c))), h')) ∧ aEq (h'.1 30) 5 c ∧ NT h' K (tmB B) q N' ∧ hFr [30, 32] h h')
    {c : Int → Int} (hcO : cOk c) {op : Int} (op0 : 0 ≤ op) (op1 : op < 32) (opS : ∀ s, (aDif s op = 0 ↔ okS c s)) :
    ∀ (s : Int) (h : mHp) (N : Int → Int), 0 ≤ s → s < 32 → K s ≠ -1 → SX h b B K n g → NT h K (tmB B) q N → aEq (h.1 30) 5 c →
        ∃ h' N', mRuns (d + 2 * j + 4) 120 0 [some (.ref 26), some (.int (zI (bD B - ((j + 1 : Nat) : Int)))), some (.int (zI s)), some (.int (zI op)), none] [] h (.inl (some (.int (zI (if okP K (tmB B j) c s then K s + aL K (tmB B) 1023 j (cSub c s) else 1023))), h')) ∧ aEq (h'.1 30) 5 c ∧ NT h' K (tmB B) q N' ∧ hFr [30, 32] h h' := by
      have o := hO.1
      have htm : tmB B j = bF B 1 (bD B - 1 - j) - bF B 0 (bD B - 1 - j) := by unfold tmB; rw [if_pos (by omega)]
      have tr := tmB_rng hO j
      intro s h N s0 s1 hs hX hN hc
      obtain ⟨x1, x2, x3, x4, x5, x6⟩ := id hX
      have hks := hk s s0 s1
      have dr := aDif_rng s op
      have rt := s_Pln_timeOf (d := d + 2 * j + 2) hb x1 x2 hO (q := bD B - ((j + 1 : Nat) : Int)) (by omega) (by omega)
      have rt : mRuns (d + 2 * j + 3) 113 0 [some (.ref 26), some (.int (zI (bD B - ((j + 1 : Nat) : Int))))] [] h (.inl (some (.int (zI (tmB B j))), h)) := by
        rw [htm, show bD B - 1 - (j : Int) = bD B - ((j + 1 : Nat) : Int) by omega]; exact rt
      by_cases ok : okS c s
      · have hd0 : aDif s op = 0 := (opS s).mpr ok
        by_cases hT : K s ≤ tmB B j
        · obtain ⟨h1, r1, c1, f1⟩ := s_Pln_change (d := d + 2 * j + 2) (k := -1) s0 s1 hc
          have c1 : aEq (h1.1 30) 5 (cSub c s) := aEq_fn c1 (fun i _ _ => by unfold cSub; omega)
          have hcO1 : cOk (cSub c s) := fun t a b => by
            have := hcO t a b
            have := (okS_iff c s).mp ok t a b
            have := aBit_01 s t
            unfold cSub; omega
          have fr1 : hFr [30, 32] h h1 := hFr_mono f1 (by simp)
          obtain ⟨h2, N2, r2, c2, N2', f2⟩ := ih (cSub c s) h1 N (SX_of hb hX fr1) (NT_of hN (by rw [f1.1 26 (by simp)]) (f1.1 32 (by simp))) c1 hcO1
          obtain ⟨h3, r3, c3, f3⟩ := s_Pln_change (d := d + 2 * j + 2) (k := 1) s0 s1 c2
          have c3 : aEq (h3.1 30) 5 c := aEq_fn c3 (fun i _ _ => by unfold cSub; omega)
          have x3' : aEq (h1.1 28) 32 K := by rw [f1.1 28 (by simp)]; exact x3
          have fr3 : hFr [30, 32] h2 h3 := hFr_mono f3 (by simp)
          refine ⟨h3, N2, vc_Pln_coldWith ?_, c3, NT_of N2' (by rw [f3.1 26 (by simp)]) (f3.1 32 (by simp)), hFr_trans fr1 (hFr_trans f2 fr3)⟩
          rw [if_pos ⟨hs, hT, ok⟩]
          simp (disch := omega) only [zI_add, zI_sub, zI_mul, zI_neg, zI_lit, zI_0, zI_1, zI_lt, zI_le, zI_eq, zI_clamp, zI_inT, zI_ite, mOb_0, mOb_1, mOb_3, mOb_4, mLd_1, mAr_1, mLen_1, mTrue_t, Int.toNat_zero, Int.toNat_one, true_and, and_true, not_true_eq_false, not_false_eq_true, true_or, or_true, or_self, false_or, or_false, forall_const, false_implies, true_implies, implies_true, zI_dif, hd0, x3]
          refine ⟨_, _, rt, ?_⟩
          simp (disch := omega) only [zI_add, zI_sub, zI_mul, zI_neg, zI_lit, zI_0, zI_1, zI_lt, zI_le, zI_eq, zI_clamp, zI_inT, zI_ite, mOb_0, mOb_1, mOb_3, mOb_4, mLd_1, mAr_1, mLen_1, mTrue_t, Int.toNat_zero, Int.toNat_one, true_and, and_true, not_true_eq_false, not_false_eq_true, true_or, or_true, or_self, false_or, or_false, forall_const, false_implies, true_implies, implies_true]
          refine ⟨fun _ => ⟨h1, r1, ?_⟩, fun z => absurd hT z⟩
          simp (disch := omega) only [zI_add, zI_sub, zI_mul, zI_neg, zI_lit, zI_0, zI_1, zI_lt, zI_le, zI_eq, zI_clamp, zI_inT, zI_ite, mOb_0, mOb_1, mOb_3, mOb_4, mLd_1, mAr_1, mLen_1, mTrue_t, Int.toNat_zero, Int.toNat_one, true_and, and_true, not_true_eq_false, not_false_eq_true, true_or, or_true, or_self, false_or, or_false, forall_const, false_implies, true_implies, implies_true, x3']
          rw [show bD B - ((j + 1 : Nat) : Int) + 1 = bD B - j by omega]
          exact ⟨_, _, r2, h3, r3, by rw [zI_add]⟩
        · refine ⟨h, N, vc_Pln_coldWith ?_, hc, hN, hFr_refl _ _⟩
          rw [if_neg (fun z => hT z.2.1)]
          simp (disch := omega) only [zI_add, zI_sub, zI_mul, zI_neg, zI_lit, zI_0, zI_1, zI_lt, zI_le, zI_eq, zI_clamp, zI_inT, zI_ite, mOb_0, mOb_1, mOb_3, mOb_4, mLd_1, mAr_1, mLen_1, mTrue_t, Int.toNat_zero, Int.toNat_one, true_and, and_true, not_true_eq_false, not_false_eq_true, true_or, or_true, or_self, false_or, or_false, forall_const, false_implies, true_implies, implies_true, zI_dif, hd0, x3]
          refine ⟨_, _, rt, ?_⟩
          simp (disch := omega) only [zI_add, zI_sub, zI_mul, zI_neg, zI_lit, zI_0, zI_1, zI_lt, zI_le, zI_eq, zI_clamp, zI_inT, zI_ite, mOb_0, mOb_1, mOb_3, mOb_4, mLd_1, mAr_1, mLen_1, mTrue_t, Int.toNat_zero, Int.toNat_one, true_and, and_true, not_true_eq_false, not_false_eq_true, true_or, or_true, or_self, false_or, or_false, forall_const, false_implies, true_implies, implies_true]
          intro z; exact absurd z hT
      · have hd0 : aDif s op ≠ 0 := fun z => ok ((opS s).mp z)
        refine ⟨h, N, vc_Pln_coldWith ?_, hc, hN, hFr_refl _ _⟩
        rw [if_neg (fun z => ok z.2.2)]
        simp (disch := omega) only [zI_add, zI_sub, zI_mul, zI_neg, zI_lit, zI_0, zI_1, zI_lt, zI_le, zI_eq, zI_clamp, zI_inT, zI_ite, mOb_0, mOb_1, mOb_3, mOb_4, mLd_1, mAr_1, mLen_1, mTrue_t, Int.toNat_zero, Int.toNat_one, true_and, and_true, not_true_eq_false, not_false_eq_true, true_or, or_true, or_self, false_or, or_false, forall_const, false_implies, true_implies, implies_true, zI_dif]
        intro z; exact absurd z hd0
theorem s_Pln_least {d : Nat} {b : Nat} (hb : bAd b) {B : tB} (hO : BOk B) {K : Int → Int} (hk : ∀ s, 0 ≤ s → s < 32 → -1 ≤ K s ∧ K s ≤ 1022) {n : Int} {g : Int → Int} (hl : lnF K n g) {q : Int} :
    ∀ (j : Nat), (j : Int) ≤ bD B → ∀ (c : Int → Int) (h : mHp) (N : Int → Int), SX h b B K n g → NT h K (tmB B) q N → aEq (h.1 30) 5 c → cOk c →
    ∃ h' N', mRuns (d + 2 * j + 3) 117 0 [some (.ref 26), some (.int (zI (bD B - j))), none, none, none, none, none] [] h (.inl (some (.int (zI (aL K (tmB B) 1023 j c))), h')) ∧ aEq (h'.1 30) 5 c ∧ NT h' K (tmB B) q N' ∧ hFr [30, 32] h h' := by
  have o := hO.1
  have b0 := (bSh_of hb).1
  have sb := bBl_of hb
  obtain ⟨l1, l2, lA, lB, lC⟩ := hl
  have hkO : kOk K := fun s a b => (hk s a b).1
  intro j
  induction j with
  | zero =>
    intro hj c h N hX hN hc hcO
    obtain ⟨x1, x2, x3, x4, x5, x6⟩ := id hX
    have e0 := x2.1
    refine ⟨h, N, vc_Pln_leastCold ?_, hc, hN, hFr_refl _ _⟩
    simp (disch := omega) only [zI_add, zI_sub, zI_mul, zI_neg, zI_lit, zI_0, zI_1, zI_lt, zI_le, zI_eq, zI_clamp, zI_inT, zI_ite, mOb_0, mOb_1, mOb_3, mOb_4, mLd_1, mAr_1, mLen_1, mTrue_t, Int.toNat_zero, Int.toNat_one, true_and, and_true, not_true_eq_false, not_false_eq_true, true_or, or_true, or_self, false_or, or_false, forall_const, false_implies, true_implies, implies_true, x1, sb, b0, e0]
    refine ⟨fun z => absurd z (by omega), fun _ => rfl⟩
  | succ j ih =>
    intro hj c h N hX hN hc hcO
    obtain ⟨x1, x2, x3, x4, x5, x6⟩ := id hX
    obtain ⟨n1, n2, n3, n4, n5, n6⟩ := id hN
    have e0 := x2.1
    have htm : tmB B j = bF B 1 (bD B - 1 - j) - bF B 0 (bD B - 1 - j) := by unfold tmB; rw [if_pos (by omega)]
    have tr := tmB_rng hO j
    have ec : bD B - (bD B - ((j + 1 : Nat) : Int)) = ((j + 1 : Nat) : Int) := by omega
    have hnp := s_Pln_notePlace (d := d + 2 * j + 3) hc hcO x6 (k := ((j + 1 : Nat) : Int)) (by omega) (by omega)
    obtain ⟨op, rop, op0, op1, opS⟩ := s_Pln_open (d := d + 2 * j + 3) hc hcO
    have one := s_Pln_with (d := d) hb hO hk (n := n) (g := g) (q := q) hj (fun c h N a1 a2 a3 a4 => ih (by omega) c h N a1 a2 a3 a4) hcO op0 op1 opS
    -- all lean sets
    have loop : ∀ (m : Nat) (i v pl : Int) (h : mHp) (N : Int → Int), i + m = n → 0 ≤ i → 0 ≤ v → v ≤ 1023 → (pl = -1 ∨ (pl = nFr ((j + 1 : Nat) : Int) + aKey ((j + 1 : Nat) : Int) c ∧ j + 1 ≤ 4)) → SX h b B K n g → NT h K (tmB B) q N → aEq (h.1 30) 5 c →
        (∀ k, 0 ≤ k → k < i → v ≤ (if okP K (tmB B j) c (g k) then K (g k) + aL K (tmB B) 1023 j (cSub c (g k)) else 1023)) → (v = 1023 ∨ ∃ k, 0 ≤ k ∧ k < i ∧ okP K (tmB B j) c (g k) ∧ v = K (g k) + aL K (tmB B) 1023 j (cSub c (g k))) →
        ∃ h' N', mRuns (d + 2 * j + 5) 117 68 [some (.ref 26), some (.int (zI (bD B - ((j + 1 : Nat) : Int)))), none, some (.int (zI pl)), some (.int (zI op)), some (.int (zI v)), some (.int (zI i))] [] h (.inl (some (.int (zI (aL K (tmB B) 1023 (j + 1) c))), h')) ∧ aEq (h'.1 30) 5 c ∧ NT h' K (tmB B) q N' ∧ hFr [30, 32] h h' := by
      intro m
      induction m with
      | zero =>
        intro i v pl h N hi i0 v0 v1 hpl hX hN hc hv1 hv2
        obtain ⟨x1, x2, x3, x4, x5, x6⟩ := id hX
        obtain ⟨n1, n2, n3, n4, n5, n6⟩ := id hN
        have hfin : v = aL K (tmB B) 1023 (j + 1) c := by
          refine aL_uniq v1 (fun s a b p => ?_) (hv2.imp id (fun ⟨k, a, b, p, e⟩ => ⟨g k, (lA k a (by omega)).1, (lA k a (by omega)).2.1, p, e⟩))
          obtain ⟨s', g1, g2, g3, g4, g5, g6⟩ := lean_of (K := K) (T := tmB B) (top := 1023) (j := j) (c := c) 33 s (by omega) a b p
          obtain ⟨k, k1, k2, k3⟩ := lC s' g1 (by omega) g4.1 g3
          have := hv1 k k1 (by omega)
          rw [k3, if_pos g4] at this
          omega
        rcases hpl with rfl | ⟨hpl, hj4⟩
        · refine ⟨h, N, vc_Pln_leastCold_68 ?_, hc, hN, hFr_refl _ _⟩
          rw [← hfin]
          simp (disch := omega) only [zI_add, zI_sub, zI_mul, zI_neg, zI_lit, zI_0, zI_1, zI_lt, zI_le, zI_eq, zI_clamp, zI_inT, zI_ite, mOb_0, mOb_1, mOb_3, mOb_4, mLd_1, mAr_1, mLen_1, mTrue_t, Int.toNat_zero, Int.toNat_one, true_and, and_true, not_true_eq_false, not_false_eq_true, true_or, or_true, or_self, false_or, or_false, forall_const, false_implies, true_implies, implies_true, x4]
          intro z; exact absurd z (by omega)
        · have kr := aKey_rng (k := ((j + 1 : Nat) : Int)) (by omega) (by omega) hcO
          rw [← hpl] at kr
          refine ⟨mPI h 32 pl.toNat (zI (q * 1024 + v)), (fun x => if x = pl then q * 1024 + v else N x), vc_Pln_leastCold_68 ?_, by rw [hI_ne (by omega)]; exact hc, ⟨by rw [hI_ne (by omega)]; exact n1, n2, n3, ?_, ?_, ?_⟩, hFr_pi (hFr_refl _ _) (by simp) _ _⟩
          · rw [← hfin]
            simp (disch := omega) only [zI_add, zI_sub, zI_mul, zI_neg, zI_lit, zI_0, zI_1, zI_lt, zI_le, zI_eq, zI_clamp, zI_inT, zI_ite, mOb_0, mOb_1, mOb_3, mOb_4, mLd_1, mAr_1, mLen_1, mTrue_t, Int.toNat_zero, Int.toNat_one, true_and, and_true, not_true_eq_false, not_false_eq_true, true_or, or_true, or_self, false_or, or_false, forall_const, false_implies, true_implies, implies_true, x4, n1, zI_note]
            repeat' (first | refine And.intro ?_ ?_ | with_reducible intro _)
            all_goals first | omega | rfl
          · intro x a b
            show _ = zI (if _ then _ else _)
            by_cases e : x = pl
            · rw [if_pos e, e, hI_same]
            · rw [if_neg e, hI_off (by omega)]; exact n4 x a b
          · intro x a b
            show 0 ≤ (if x = pl then _ else _) ∧ (if x = pl then _ else _) < _
            by_cases e : x = pl
            · rw [if_pos e]; omega
            · rw [if_neg e]; exact n5 x a b
          · intro k c' k1 k4 hc'
            show (if nFr (k : Int) + aKey (k : Int) c' = pl then q * 1024 + v else N (nFr (k : Int) + aKey (k : Int) c')) / 1024 = q → (if nFr (k : Int) + aKey (k : Int) c' = pl then q * 1024 + v else N (nFr (k : Int) + aKey (k : Int) c')) % 1024 = _
            by_cases e : nFr (k : Int) + aKey (k : Int) c' = pl
            · rw [if_pos e]
              intro _
              rw [hpl] at e
              obtain ⟨e1, e2⟩ := aKey_inj (by omega) (by omega) (by omega) (by omega) hc' hcO e
              have ek : k = j + 1 := by omega
              subst ek
              rw [aL_cap (j + 1) c' c e2, ← hfin]; omega
            · rw [if_neg e]; exact n6 k c' k1 k4 hc'
      | succ m ihm =>
        intro i v pl h N hi i0 v0 v1 hpl hX hN hc hv1 hv2
        obtain ⟨x1, x2, x3, x4, x5, x6⟩ := id hX
        obtain ⟨g1, g2, g3, g4⟩ := lA i i0 (by omega)
        have hks := hk (g i) g1 g2
        have hnn := aL_nn hkO (T := tmB B) (top := 1023) (by omega) j (cSub c (g i))
        have hle := aL_le (K := K) (T := tmB B) (top := 1023) (by omega) j (cSub c (g i))
        obtain ⟨h1, N1, r1, c1, N1', f1⟩ := one (g i) h N g1 g2 g3 hX hN hc
        generalize hw : (if okP K (tmB B j) c (g i) then K (g i) + aL K (tmB B) 1023 j (cSub c (g i)) else 1023) = w at r1
        have wr : 0 ≤ w ∧ w ≤ 3000 := by rw [← hw]; split <;> omega
        obtain ⟨h', N', r, c2, N2, f2⟩ := ihm (i + 1) (if w < v then w else v) pl h1 N1 (by omega) (by omega) (by split <;> omega) (by split <;> omega) hpl (SX_of hb hX f1) N1' c1
          (fun k a b => by
            by_cases e : k = i
            · rw [e, hw]; split <;> omega
            · have := hv1 k a (by omega); split <;> omega)
          (by
            by_cases lt : w < v
            · rw [if_pos lt]
              by_cases p : okP K (tmB B j) c (g i)
              · rw [if_pos p] at hw; exact Or.inr ⟨i, i0, by omega, p, hw.symm⟩
              · rw [if_neg p] at hw; exact Or.inl (by omega)
            · rw [if_neg lt]
              exact hv2.imp id (fun ⟨k, a, b, p, e⟩ => ⟨k, a, by omega, p, e⟩))
        refine ⟨h', N', vc_Pln_leastCold_68 ?_, c2, N2, hFr_trans f1 f2⟩
        simp (disch := omega) only [zI_add, zI_sub, zI_mul, zI_neg, zI_lit, zI_0, zI_1, zI_lt, zI_le, zI_eq, zI_clamp, zI_inT, zI_ite, mOb_0, mOb_1, mOb_3, mOb_4, mLd_1, mAr_1, mLen_1, mTrue_t, Int.toNat_zero, Int.toNat_one, true_and, and_true, not_true_eq_false, not_false_eq_true, true_or, or_true, or_self, false_or, or_false, forall_const, false_implies, true_implies, implies_true, x4, x5]
        refine ⟨fun z => absurd z (by omega), fun _ => ⟨_, _, r1, ?_⟩⟩
        simp (disch := omega) only [zI_add, zI_sub, zI_mul, zI_neg, zI_lit, zI_0, zI_1, zI_lt, zI_le, zI_eq, zI_clamp, zI_inT, zI_ite, mOb_0, mOb_1, mOb_3, mOb_4, mLd_1, mAr_1, mLen_1, mTrue_t, Int.toNat_zero, Int.toNat_one, true_and, and_true, not_true_eq_false, not_false_eq_true, true_or, or_true, or_self, false_or, or_false, forall_const, false_implies, true_implies, implies_true]
        exact r
    have anew : ∀ pl, (pl = -1 ∨ (pl = nFr ((j + 1 : Nat) : Int) + aKey ((j + 1 : Nat) : Int) c ∧ j + 1 ≤ 4)) → ∃ h' N', mRuns (d + 2 * j + 5) 117 68 [some (.ref 26), some (.int (zI (bD B - ((j + 1 : Nat) : Int)))), none, some (.int (zI pl)), some (.int (zI op)), some (.int (zI 1023)), some (.int (zI 0))] [] h (.inl (some (.int (zI (aL K (tmB B) 1023 (j + 1) c))), h')) ∧ aEq (h'.1 30) 5 c ∧ NT h' K (tmB B) q N' ∧ hFr [30, 32] h h' :=
      fun pl hpl => loop n.toNat 0 1023 pl h N (by omega) (by omega) (by omega) (by omega) hpl hX hN hc (fun k a b => by omega) (Or.inl rfl)
    have ed : d + 2 * (j + 1) + 3 = d + 2 * j + 5 := by omega
    rw [ed]
    by_cases j4 : j + 1 ≤ 4
    · have kr := aKey_rng (k := ((j + 1 : Nat) : Int)) (by omega) (by omega) hcO
      rw [if_pos (by omega)] at hnp
      have hNv := n4 _ kr.1 kr.2.1
      have hNr := n5 _ kr.1 kr.2.1
      by_cases hit : N (nFr ((j + 1 : Nat) : Int) + aKey ((j + 1 : Nat) : Int) c) / 1024 = q
      · refine ⟨h, N, vc_Pln_leastCold ?_, hc, hN, hFr_refl _ _⟩
        rw [← n6 (j + 1) c (by omega) j4 hcO hit]
        simp (disch := omega) only [zI_add, zI_sub, zI_mul, zI_neg, zI_lit, zI_0, zI_1, zI_lt, zI_le, zI_eq, zI_clamp, zI_inT, zI_ite, mOb_0, mOb_1, mOb_3, mOb_4, mLd_1, mAr_1, mLen_1, mTrue_t, Int.toNat_zero, Int.toNat_one, true_and, and_true, not_true_eq_false, not_false_eq_true, true_or, or_true, or_self, false_or, or_false, forall_const, false_implies, true_implies, implies_true, x1, sb, b0, e0, ec]
        refine ⟨fun _ => ⟨_, _, hnp, ?_⟩, fun z => absurd z (by omega)⟩
        simp (disch := omega) only [zI_add, zI_sub, zI_mul, zI_neg, zI_lit, zI_0, zI_1, zI_lt, zI_le, zI_eq, zI_clamp, zI_inT, zI_ite, mOb_0, mOb_1, mOb_3, mOb_4, mLd_1, mAr_1, mLen_1, mTrue_t, Int.toNat_zero, Int.toNat_one, true_and, and_true, not_true_eq_false, not_false_eq_true, true_or, or_true, or_self, false_or, or_false, forall_const, false_implies, true_implies, implies_true, hNv, n1, zI_shr10, zI_and1023]
        repeat' (first | refine And.intro ?_ ?_ | with_reducible intro _)
        all_goals first | omega | rfl
      · obtain ⟨h', N', r, c2, N2, f2⟩ := anew _ (Or.inr ⟨rfl, j4⟩)
        refine ⟨h', N', vc_Pln_leastCold ?_, c2, N2, f2⟩
        simp (disch := omega) only [zI_add, zI_sub, zI_mul, zI_neg, zI_lit, zI_0, zI_1, zI_lt, zI_le, zI_eq, zI_clamp, zI_inT, zI_ite, mOb_0, mOb_1, mOb_3, mOb_4, mLd_1, mAr_1, mLen_1, mTrue_t, Int.toNat_zero, Int.toNat_one, true_and, and_true, not_true_eq_false, not_false_eq_true, true_or, or_true, or_self, false_or, or_false, forall_const, false_implies, true_implies, implies_true, x1, sb, b0, e0, ec]
        refine ⟨fun _ => ⟨_, _, hnp, ?_⟩, fun z => absurd z (by omega)⟩
        simp (disch := omega) only [zI_add, zI_sub, zI_mul, zI_neg, zI_lit, zI_0, zI_1, zI_lt, zI_le, zI_eq, zI_clamp, zI_inT, zI_ite, mOb_0, mOb_1, mOb_3, mOb_4, mLd_1, mAr_1, mLen_1, mTrue_t, Int.toNat_zero, Int.toNat_one, true_and, and_true, not_true_eq_false, not_false_eq_true, true_or, or_true, or_self, false_or, or_false, forall_const, false_implies, true_implies, implies_true, hNv, n1, zI_shr10, zI_and1023]
        refine ⟨fun z => absurd z (by omega), fun _ => ⟨fun _ => ⟨_, _, rop, r⟩, fun z => absurd z hit⟩⟩
    · rw [if_neg (by omega)] at hnp
      obtain ⟨h', N', r, c2, N2, f2⟩ := anew (-1) (Or.inl rfl)
      refine ⟨h', N', vc_Pln_leastCold ?_, c2, N2, f2⟩
      simp (disch := omega) only [zI_add, zI_sub, zI_mul, zI_neg, zI_lit, zI_0, zI_1, zI_lt, zI_le, zI_eq, zI_clamp, zI_inT, zI_ite, mOb_0, mOb_1, mOb_3, mOb_4, mLd_1, mAr_1, mLen_1, mTrue_t, Int.toNat_zero, Int.toNat_one, true_and, and_true, not_true_eq_false, not_false_eq_true, true_or, or_true, or_self, false_or, or_false, forall_const, false_implies, true_implies, implies_true, x1, sb, b0, e0, ec]
      refine ⟨fun _ => ⟨_, _, hnp, ?_⟩, fun z => absurd z (by omega)⟩
      simp (disch := omega) only [zI_add, zI_sub, zI_mul, zI_neg, zI_lit, zI_0, zI_1, zI_lt, zI_le, zI_eq, zI_clamp, zI_inT, zI_ite, mOb_0, mOb_1, mOb_3, mOb_4, mLd_1, mAr_1, mLen_1, mTrue_t, Int.toNat_zero, Int.toNat_one, true_and, and_true, not_true_eq_false, not_false_eq_true, true_or, or_true, or_self, false_or, or_false, forall_const, false_implies, true_implies, implies_true]
      refine ⟨_, _, rop, r⟩

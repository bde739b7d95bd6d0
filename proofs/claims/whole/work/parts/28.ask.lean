/-! L3, what is asked of a judge that has heard -/
def aCaR (B : tB) (E : tE) (k i : Int) : Nat → Int → Int → Int
  | 0, _, _ => -1
  | j + 1, c, n => if aFit 100000 B E k c c = 0 then aCaR B E k i j (c + 1) n else if n = i then c else aCaR B E k i j (c + 1) (n + 1)
/-- the i-th case that fits -/
def aCa (B : tB) (E : tE) (k i : Int) : Int := aCaR B E k i (1 + bD B * bP B).toNat 0 0
theorem s_Jdg_caseAt_loop {d : Nat} {h : mHp} {b l : Nat} {B : tB} {E : tE} {k i : Int} (hO : BOk B) (hJ : JH h b l B E k) (i1 : -2147483648 ≤ i) (i2 : i < 2147483648) : ∀ (j : Nat) (c n : Int), c + j = 1 + bD B * bP B → 0 ≤ c → 0 ≤ n → n ≤ c →
    mRuns (d + 1) 97 4 [some (.ref 87), some (.int (zI i)), some (.int (zI n)), some (.int (zI c))] [] h (.inl (some (.int (zI (aCaR B E k i j c n))), h)) := by
  have o := hO.1
  have hr := case_rng (nd := bD B) (np := bP B) (by omega) (by omega) (by omega) (by omega)
  obtain ⟨r0, r1, x2, x3, F, X, S⟩ := hJ
  intro j
  induction j with
  | zero =>
    intro c n hc h0 n0 n1
    refine vc_Jdg_caseAt_4 ?_
    simp (disch := omega) only [zI_add, zI_sub, zI_mul, zI_neg, zI_lit, zI_0, zI_1, zI_lt, zI_le, zI_eq, zI_clamp, zI_inT, zI_ite, mOb_0, mOb_1, mOb_3, mOb_4, mLd_1, mAr_1, mLen_1, mTrue_t, Int.toNat_zero, Int.toNat_one, true_and, and_true, not_true_eq_false, not_false_eq_true, true_or, or_true, or_self, false_or, or_false, forall_const, false_implies, true_implies, implies_true, x3]
    repeat' (first | refine And.intro ?_ ?_ | with_reducible intro _)
    all_goals first | omega | rfl
  | succ j ih =>
    intro c n hc h0 n0 n1
    have hf := aFit_01 100000 B E k c c
    have i1 := ih (c + 1) n (by omega) (by omega) n0 (by omega)
    have i2 := ih (c + 1) (n + 1) (by omega) (by omega) (by omega) (by omega)
    refine vc_Jdg_caseAt_4 ?_
    simp (disch := omega) only [zI_add, zI_sub, zI_mul, zI_neg, zI_lit, zI_0, zI_1, zI_lt, zI_le, zI_eq, zI_clamp, zI_inT, zI_ite, mOb_0, mOb_1, mOb_3, mOb_4, mLd_1, mAr_1, mLen_1, mTrue_t, Int.toNat_zero, Int.toNat_one, true_and, and_true, not_true_eq_false, not_false_eq_true, true_or, or_true, or_self, false_or, or_false, forall_const, false_implies, true_implies, implies_true, x3, X]
    unfold aCaR
    repeat' (first | refine And.intro ?_ ?_ | with_reducible intro _)
    all_goals first | omega | (simp only [*, ↓reduceIte]; assumption) | (simp only [*, ↓reduceIte])
theorem s_Jdg_caseAt {d : Nat} {h : mHp} {b l : Nat} {B : tB} {E : tE} {k i : Int} (hO : BOk B) (hJ : JH h b l B E k) (i1 : -2147483648 ≤ i) (i2 : i < 2147483648) :
    mRuns (d + 1) 97 0 [some (.ref 87), some (.int (zI i)), none, none] [] h (.inl (some (.int (zI (aCa B E k i))), h)) := by
  have o := hO.1
  have hr := case_rng (nd := bD B) (np := bP B) (by omega) (by omega) (by omega) (by omega)
  refine vc_Jdg_caseAt ?_
  simp (disch := omega) only [zI_add, zI_sub, zI_mul, zI_neg, zI_lit, zI_0, zI_1, zI_lt, zI_le, zI_eq, zI_clamp, zI_inT, zI_ite, mOb_0, mOb_1, mOb_3, mOb_4, mLd_1, mAr_1, mLen_1, mTrue_t, Int.toNat_zero, Int.toNat_one, true_and, and_true, not_true_eq_false, not_false_eq_true, true_or, or_true, or_self, false_or, or_false, forall_const, false_implies, true_implies, implies_true]
  exact s_Jdg_caseAt_loop hO hJ i1 i2 (1 + bD B * bP B).toNat 0 0 (by omega) (by omega) (by omega) (by omega)
/-! weights -/
def aWqR (B : tB) (E : tE) (k q : Int) : Nat → Int → Int → Int
  | 0, _, v => v
  | j + 1, p, v => aWqR B E k q j (p + 1) (v + aFit 100000 B E k (1 + q * bP B + p) (1 + q * bP B + p) * bF B 2 q * bF B 6 p)
def aWq (B : tB) (E : tE) (k q : Int) : Int := if q = -1 then aFit 100000 B E k 0 0 * bC B else aWqR B E k q (bP B).toNat 0 0
def aWaR (B : tB) (E : tE) (k : Int) : Nat → Int → Int → Int
  | 0, _, v => v
  | j + 1, q, v => aWaR B E k j (q + 1) (v + aWq B E k q)
def aWa (B : tB) (E : tE) (k : Int) : Int := aWaR B E k (bD B).toNat 0 (aWq B E k (-1))
theorem fww {f x y : Int} (hf : f = 0 ∨ f = 1) (hx : 0 ≤ x) (hx' : x ≤ 99) (hy : 0 ≤ y) (hy' : y ≤ 99) : 0 ≤ f * x * y ∧ f * x * y ≤ 9801 := by
  rcases hf with rfl | rfl
  · simp
  · rw [Int.one_mul]
    exact ⟨Int.mul_nonneg hx hy, Int.le_trans (Int.mul_le_mul_of_nonneg_right hx' hy) (by omega)⟩
theorem aWqR_rng {B : tB} (hO : BOk B) {E : tE} {k q : Int} (hq : 0 ≤ q) (hq' : q < bD B) : ∀ (j : Nat) (p v : Int), 0 ≤ p → p + j ≤ bP B → v ≤ aWqR B E k q j p v ∧ aWqR B E k q j p v ≤ v + 9801 * j := by
  have o2 := hO.2.1 q hq hq'
  intro j
  induction j with
  | zero => intro p v _ _; unfold aWqR; omega
  | succ j ih =>
    intro p v h0 hp
    have o3 := hO.2.2.1 p h0 (by omega)
    have := fww (aFit_01 100000 B E k (1 + q * bP B + p) (1 + q * bP B + p)) o2.2.2.2.1 o2.2.2.2.2 o3.2.2.2.2.2.2.1 o3.2.2.2.2.2.2.2
    have := ih (p + 1) (v + aFit 100000 B E k (1 + q * bP B + p) (1 + q * bP B + p) * bF B 2 q * bF B 6 p) (by omega) (by omega)
    unfold aWqR; omega
theorem aWq_rng {B : tB} (hO : BOk B) {E : tE} {k q : Int} (hq : -1 ≤ q) (hq' : q < bD B) : 0 ≤ aWq B E k q ∧ aWq B E k q ≤ 50000 := by
  have o := hO.1
  unfold aWq
  split
  · rcases aFit_01 100000 B E k 0 0 with e | e <;> rw [e] <;> omega
  · have := aWqR_rng (E := E) (k := k) hO (q := q) (by omega) hq' (bP B).toNat 0 0 (by omega) (by omega)
    omega
theorem aWaR_rng {B : tB} (hO : BOk B) {E : tE} {k : Int} : ∀ (j : Nat) (q v : Int), 0 ≤ q → q + j ≤ bD B → v ≤ aWaR B E k j q v ∧ aWaR B E k j q v ≤ v + 50000 * j := by
  intro j
  induction j with
  | zero => intro p v _ _; unfold aWaR; omega
  | succ j ih =>
    intro q v h0 hq
    have := aWq_rng (E := E) (k := k) hO (q := q) (by omega) (by omega)
    have := ih (q + 1) (v + aWq B E k q) (by omega) (by omega)
    unfold aWaR; omega
theorem s_Jdg_weightOf_loop {d : Nat} {h : mHp} {b l : Nat} {B : tB} {E : tE} {k q : Int} (hb : bAd b) (hO : BOk B) (hB : BC h b B) (hJ : JH h b l B E k) (hq : 0 ≤ q) (hq' : q < bD B) : ∀ (j : Nat) (p v : Int), p + j = bP B → 0 ≤ p → 0 ≤ v → v ≤ 9801 * p →
    mRuns (d + 2) 98 24 [some (.ref 87), some (.int (zI q)), some (.int (zI v)), some (.int (zI p))] [] h (.inl (some (.int (zI (aWqR B E k q j p v))), h)) := by
  have o := hO.1
  have hr := case_rng (nd := bD B) (np := bP B) (by omega) (by omega) (by omega) (by omega)
  obtain ⟨s0, s1, s2, s3, s4, s5, s6, s7, s8, s9, s10⟩ := bSh_of hb
  have sb := bBl_of hb
  obtain ⟨e0, e4, e9, e13, a1, a2, a3, a4, a5, a6, a7, a8, a9, a10⟩ := id hB
  obtain ⟨r0, r1, x2, x3, F, X, S⟩ := hJ
  have o2 := hO.2.1 q hq hq'
  intro j
  induction j with
  | zero =>
    intro p v hp h0 v0 v1
    refine vc_Jdg_weightOf_24 ?_
    simp (disch := omega) only [zI_add, zI_sub, zI_mul, zI_neg, zI_lit, zI_0, zI_1, zI_lt, zI_le, zI_eq, zI_clamp, zI_inT, zI_ite, mOb_0, mOb_1, mOb_3, mOb_4, mLd_1, mAr_1, mLen_1, mTrue_t, Int.toNat_zero, Int.toNat_one, true_and, and_true, not_true_eq_false, not_false_eq_true, true_or, or_true, or_self, false_or, or_false, forall_const, false_implies, true_implies, implies_true, r0, sb, s0, e4]
    repeat' (first | refine And.intro ?_ ?_ | with_reducible intro _)
    all_goals first | omega | rfl
  | succ j ih =>
    intro p v hp h0 v0 v1
    have o3 := hO.2.2.1 p h0 (by omega)
    have w := fww (aFit_01 100000 B E k (1 + q * bP B + p) (1 + q * bP B + p)) o2.2.2.2.1 o2.2.2.2.2 o3.2.2.2.2.2.2.1 o3.2.2.2.2.2.2.2
    obtain ⟨c1, c2, c3, c4⟩ := case_join (nd := bD B) (np := bP B) (q := q) (p := p) (by omega) (by omega) h0 (by omega) (by omega)
    have i1 := ih (p + 1) (v + aFit 100000 B E k (1 + q * bP B + p) (1 + q * bP B + p) * bF B 2 q * bF B 6 p) (by omega) (by omega) (by omega) (by omega)
    refine vc_Jdg_weightOf_24 ?_
    simp (disch := omega) only [zI_add, zI_sub, zI_mul, zI_neg, zI_lit, zI_0, zI_1, zI_lt, zI_le, zI_eq, zI_clamp, zI_inT, zI_ite, mOb_0, mOb_1, mOb_3, mOb_4, mLd_1, mAr_1, mLen_1, mTrue_t, Int.toNat_zero, Int.toNat_one, true_and, and_true, not_true_eq_false, not_false_eq_true, true_or, or_true, or_self, false_or, or_false, forall_const, false_implies, true_implies, implies_true, r0, sb, s0, e4]
    refine ⟨fun z => by omega, fun _ => ⟨_, _, s_Jdg_caseOf hb r0 hB, ?_⟩⟩
    simp (disch := omega) only [zI_add, zI_sub, zI_mul, zI_neg, zI_lit, zI_0, zI_1, zI_lt, zI_le, zI_eq, zI_clamp, zI_inT, zI_ite, mOb_0, mOb_1, mOb_3, mOb_4, mLd_1, mAr_1, mLen_1, mTrue_t, Int.toNat_zero, Int.toNat_one, true_and, and_true, not_true_eq_false, not_false_eq_true, true_or, or_true, or_self, false_or, or_false, forall_const, false_implies, true_implies, implies_true, r0, sb, s0, s3, s7, X, a3, a7]
    exact i1
theorem s_Jdg_weightOf {d : Nat} {h : mHp} {b l : Nat} {B : tB} {E : tE} {k q : Int} (hb : bAd b) (hO : BOk B) (hB : BC h b B) (hJ : JH h b l B E k) (hq : -1 ≤ q) (hq' : q < bD B) :
    mRuns (d + 2) 98 0 [some (.ref 87), some (.int (zI q)), none, none] [] h (.inl (some (.int (zI (aWq B E k q))), h)) := by
  have o := hO.1
  have hr := case_rng (nd := bD B) (np := bP B) (by omega) (by omega) (by omega) (by omega)
  have s0 := (bSh_of hb).1
  have sb := bBl_of hb
  obtain ⟨e0, e4, e9, e13, a1, a2, a3, a4, a5, a6, a7, a8, a9, a10⟩ := id hB
  obtain ⟨r0, r1, x2, x3, F, X, S⟩ := id hJ
  have X0 := X 0 (by omega) (by omega)
  rw [Int.toNat_zero] at X0
  refine vc_Jdg_weightOf ?_
  unfold aWq
  simp (disch := omega) only [zI_add, zI_sub, zI_mul, zI_neg, zI_lit, zI_0, zI_1, zI_lt, zI_le, zI_eq, zI_clamp, zI_inT, zI_ite, mOb_0, mOb_1, mOb_3, mOb_4, mLd_1, mAr_1, mLen_1, mTrue_t, Int.toNat_zero, Int.toNat_one, true_and, and_true, not_true_eq_false, not_false_eq_true, true_or, or_true, or_self, false_or, or_false, forall_const, false_implies, true_implies, implies_true, r0, sb, s0, e13, X0]
  by_cases c : q = -1
  · subst c
    repeat' (first | refine And.intro ?_ ?_ | with_reducible intro _)
    all_goals first | omega | (simp only [↓reduceIte])
  · refine ⟨fun _ => ?_, fun z => absurd z c⟩
    rw [if_neg c]
    exact s_Jdg_weightOf_loop hb hO hB hJ (by omega) hq' (bP B).toNat 0 0 (by omega) (by omega) (by omega) (by omega)
theorem s_Jdg_weightOfAll_loop {d : Nat} {h : mHp} {b l : Nat} {B : tB} {E : tE} {k : Int} (hb : bAd b) (hO : BOk B) (hB : BC h b B) (hJ : JH h b l B E k) : ∀ (j : Nat) (q v : Int), q + j = bD B → 0 ≤ q →
    mRuns (d + 3) 99 8 [some (.ref 87), some (.int (zI v)), some (.int (zI q))] [] h (.inl (some (.int (zI (aWaR B E k j q v))), h)) := by
  have o := hO.1
  have s0 := (bSh_of hb).1
  have sb := bBl_of hb
  have e0 := hB.1
  have r0 := hJ.1
  intro j
  induction j with
  | zero =>
    intro q v hq h0
    refine vc_Jdg_weightOfAll_8 ?_
    simp (disch := omega) only [zI_add, zI_sub, zI_mul, zI_neg, zI_lit, zI_0, zI_1, zI_lt, zI_le, zI_eq, zI_clamp, zI_inT, zI_ite, mOb_0, mOb_1, mOb_3, mOb_4, mLd_1, mAr_1, mLen_1, mTrue_t, Int.toNat_zero, Int.toNat_one, true_and, and_true, not_true_eq_false, not_false_eq_true, true_or, or_true, or_self, false_or, or_false, forall_const, false_implies, true_implies, implies_true, r0, sb, s0, e0]
    repeat' (first | refine And.intro ?_ ?_ | with_reducible intro _)
    all_goals first | omega | rfl
  | succ j ih =>
    intro q v hq h0
    refine vc_Jdg_weightOfAll_8 ?_
    simp (disch := omega) only [zI_add, zI_sub, zI_mul, zI_neg, zI_lit, zI_0, zI_1, zI_lt, zI_le, zI_eq, zI_clamp, zI_inT, zI_ite, mOb_0, mOb_1, mOb_3, mOb_4, mLd_1, mAr_1, mLen_1, mTrue_t, Int.toNat_zero, Int.toNat_one, true_and, and_true, not_true_eq_false, not_false_eq_true, true_or, or_true, or_self, false_or, or_false, forall_const, false_implies, true_implies, implies_true, r0, sb, s0, e0]
    refine ⟨fun z => by omega, fun _ => ⟨_, _, s_Jdg_weightOf hb hO hB hJ (by omega) (by omega), ?_⟩⟩
    simp (disch := omega) only [zI_add, zI_sub, zI_mul, zI_neg, zI_lit, zI_0, zI_1, zI_lt, zI_le, zI_eq, zI_clamp, zI_inT, zI_ite, mOb_0, mOb_1, mOb_3, mOb_4, mLd_1, mAr_1, mLen_1, mTrue_t, Int.toNat_zero, Int.toNat_one, true_and, and_true, not_true_eq_false, not_false_eq_true, true_or, or_true, or_self, false_or, or_false, forall_const, false_implies, true_implies, implies_true]
    exact ih (q + 1) _ (by omega) (by omega)
theorem s_Jdg_weightOfAll {d : Nat} {h : mHp} {b l : Nat} {B : tB} {E : tE} {k : Int} (hb : bAd b) (hO : BOk B) (hB : BC h b B) (hJ : JH h b l B E k) :
    mRuns (d + 3) 99 0 [some (.ref 87), none, none] [] h (.inl (some (.int (zI (aWa B E k))), h)) := by
  have o := hO.1
  refine vc_Jdg_weightOfAll ?_
  simp (disch := omega) only [zI_add, zI_sub, zI_mul, zI_neg, zI_lit, zI_0, zI_1, zI_lt, zI_le, zI_eq, zI_clamp, zI_inT, zI_ite, mOb_0, mOb_1, mOb_3, mOb_4, mLd_1, mAr_1, mLen_1, mTrue_t, Int.toNat_zero, Int.toNat_one, true_and, and_true, not_true_eq_false, not_false_eq_true, true_or, or_true, or_self, false_or, or_false, forall_const, false_implies, true_implies, implies_true]
  refine ⟨_, _, s_Jdg_weightOf hb hO hB hJ (by omega) (by omega), ?_⟩
  exact s_Jdg_weightOfAll_loop hb hO hB hJ (bD B).toNat 0 _ (by omega) (by omega)
/-! pairs -/
def aPrI (B : tB) (E : tE) (k c : Int) : Nat → Int → Int → Int
  | 0, _, v => v
  | j + 1, q, v => aPrI B E k c j (q + 1) (v + aFit 100000 B E k c q)
def aPrO (B : tB) (E : tE) (k : Int) : Nat → Int → Int → Int
  | 0, _, v => v
  | j + 1, c, v => aPrO B E k j (c + 1) (aPrI B E k c j (c + 1) v)
def aPr (B : tB) (E : tE) (k : Int) : Int := aPrO B E k (bD B * bP B).toNat 1 0
theorem s_Jdg_pairs_in {d : Nat} {h : mHp} {b l : Nat} {B : tB} {E : tE} {k c : Int} (hb : bAd b) (hl : lAd l) (hO : BOk B) (hE : EOk B E) (hk : 0 ≤ k) (hk' : k ≤ 2000) (hB : BC h b B) (hL : LC h l E) (hJ : JH h b l B E k) (hc : 1 ≤ c) (hc' : c < 1 + bD B * bP B) {out : mOut} : ∀ (j : Nat) (q v : Int), q + j = 1 + bD B * bP B → 1 ≤ q →
    mRuns (d + 2) 96 4 [some (.ref 87), some (.int (zI (aPrI B E k c j q v))), some (.int (zI (c + 1))), none] [] h out →
    mRuns (d + 2) 96 16 [some (.ref 87), some (.int (zI v)), some (.int (zI c)), some (.int (zI q))] [] h out := by
  have o := hO.1
  have hr := case_rng (nd := bD B) (np := bP B) (by omega) (by omega) (by omega) (by omega)
  obtain ⟨r0, r1, x2, x3, F, X, S⟩ := id hJ
  intro j
  induction j with
  | zero =>
    intro q v hq h1 r
    refine vc_Jdg_fittingPairs_16 ?_
    simp (disch := omega) only [zI_add, zI_sub, zI_mul, zI_neg, zI_lit, zI_0, zI_1, zI_lt, zI_le, zI_eq, zI_clamp, zI_inT, zI_ite, mOb_0, mOb_1, mOb_3, mOb_4, mLd_1, mAr_1, mLen_1, mTrue_t, Int.toNat_zero, Int.toNat_one, true_and, and_true, not_true_eq_false, not_false_eq_true, true_or, or_true, or_self, false_or, or_false, forall_const, false_implies, true_implies, implies_true, x3]
    refine ⟨fun _ => r, fun z => absurd z (by omega)⟩
  | succ j ih =>
    intro q v hq h1 r
    have r := ih (q + 1) _ (by omega) (by omega) r
    have hf := aFit_01 100000 B E k c q
    refine vc_Jdg_fittingPairs_16 ?_
    simp (disch := omega) only [zI_add, zI_sub, zI_mul, zI_neg, zI_lit, zI_0, zI_1, zI_lt, zI_le, zI_eq, zI_clamp, zI_inT, zI_ite, mOb_0, mOb_1, mOb_3, mOb_4, mLd_1, mAr_1, mLen_1, mTrue_t, Int.toNat_zero, Int.toNat_one, true_and, and_true, not_true_eq_false, not_false_eq_true, true_or, or_true, or_self, false_or, or_false, forall_const, false_implies, true_implies, implies_true, x3]
    refine ⟨fun z => absurd z (by omega), fun _ => ⟨_, _, s_Jdg_fit hb hl hO hE r0 r1 hB hL F hk hk' x2 (by omega) (by omega) (by omega) (by omega), ?_⟩⟩
    simp (disch := omega) only [zI_add, zI_sub, zI_mul, zI_neg, zI_lit, zI_0, zI_1, zI_lt, zI_le, zI_eq, zI_clamp, zI_inT, zI_ite, mOb_0, mOb_1, mOb_3, mOb_4, mLd_1, mAr_1, mLen_1, mTrue_t, Int.toNat_zero, Int.toNat_one, true_and, and_true, not_true_eq_false, not_false_eq_true, true_or, or_true, or_self, false_or, or_false, forall_const, false_implies, true_implies, implies_true]
    refine ⟨fun z => ?_, fun z => ?_⟩
    · rw [z, Int.add_zero] at r; exact r
    · rw [show aFit 100000 B E k c q = 1 by omega] at r; exact r
theorem s_Jdg_pairs_out {d : Nat} {h : mHp} {b l : Nat} {B : tB} {E : tE} {k : Int} (hb : bAd b) (hl : lAd l) (hO : BOk B) (hE : EOk B E) (hk : 0 ≤ k) (hk' : k ≤ 2000) (hB : BC h b B) (hL : LC h l E) (hJ : JH h b l B E k) : ∀ (j : Nat) (c v : Int), c + j = 1 + bD B * bP B → 1 ≤ c →
    mRuns (d + 2) 96 4 [some (.ref 87), some (.int (zI v)), some (.int (zI c)), none] [] h (.inl (some (.int (zI (aPrO B E k j c v))), h)) := by
  have o := hO.1
  have hr := case_rng (nd := bD B) (np := bP B) (by omega) (by omega) (by omega) (by omega)
  obtain ⟨r0, r1, x2, x3, F, X, S⟩ := id hJ
  intro j
  induction j with
  | zero =>
    intro c v hc h1
    refine vc_Jdg_fittingPairs_4 ?_
    simp (disch := omega) only [zI_add, zI_sub, zI_mul, zI_neg, zI_lit, zI_0, zI_1, zI_lt, zI_le, zI_eq, zI_clamp, zI_inT, zI_ite, mOb_0, mOb_1, mOb_3, mOb_4, mLd_1, mAr_1, mLen_1, mTrue_t, Int.toNat_zero, Int.toNat_one, true_and, and_true, not_true_eq_false, not_false_eq_true, true_or, or_true, or_self, false_or, or_false, forall_const, false_implies, true_implies, implies_true, x3]
    repeat' (first | refine And.intro ?_ ?_ | with_reducible intro _)
    all_goals first | omega | rfl
  | succ j ih =>
    intro c v hc h1
    refine vc_Jdg_fittingPairs_4 ?_
    simp (disch := omega) only [zI_add, zI_sub, zI_mul, zI_neg, zI_lit, zI_0, zI_1, zI_lt, zI_le, zI_eq, zI_clamp, zI_inT, zI_ite, mOb_0, mOb_1, mOb_3, mOb_4, mLd_1, mAr_1, mLen_1, mTrue_t, Int.toNat_zero, Int.toNat_one, true_and, and_true, not_true_eq_false, not_false_eq_true, true_or, or_true, or_self, false_or, or_false, forall_const, false_implies, true_implies, implies_true, x3]
    refine ⟨fun z => absurd z (by omega), fun _ => ?_⟩
    exact s_Jdg_pairs_in hb hl hO hE hk hk' hB hL hJ h1 (by omega) j (c + 1) v (by omega) (by omega) (ih (c + 1) _ (by omega) (by omega))
theorem s_Jdg_pairs {d : Nat} {h : mHp} {b l : Nat} {B : tB} {E : tE} {k : Int} (hb : bAd b) (hl : lAd l) (hO : BOk B) (hE : EOk B E) (hk : 0 ≤ k) (hk' : k ≤ 2000) (hB : BC h b B) (hL : LC h l E) (hJ : JH h b l B E k) :
    mRuns (d + 2) 96 0 [some (.ref 87), none, none, none] [] h (.inl (some (.int (zI (aPr B E k))), h)) := by
  have o := hO.1
  have hr := case_rng (nd := bD B) (np := bP B) (by omega) (by omega) (by omega) (by omega)
  refine vc_Jdg_fittingPairs ?_
  simp (disch := omega) only [zI_add, zI_sub, zI_mul, zI_neg, zI_lit, zI_0, zI_1, zI_lt, zI_le, zI_eq, zI_clamp, zI_inT, zI_ite, mOb_0, mOb_1, mOb_3, mOb_4, mLd_1, mAr_1, mLen_1, mTrue_t, Int.toNat_zero, Int.toNat_one, true_and, and_true, not_true_eq_false, not_false_eq_true, true_or, or_true, or_self, false_or, or_false, forall_const, false_implies, true_implies, implies_true]
  exact s_Jdg_pairs_out hb hl hO hE hk hk' hB hL hJ (bD B * bP B).toNat 1 0 (by omega) (by omega)

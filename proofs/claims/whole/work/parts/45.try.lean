/-! L3, the class tries a company: the pieces -/
/-- whether a row is ahead of another one -/
def aLs (r p : Int → Int) : Nat → Int → Int
  | 0, _ => 0
  | j + 1, i => if r i = p i then aLs r p j (i + 1) else if r i < p i then 1 else 0
theorem aLs_cong {r r' p p' : Int → Int} : ∀ (j : Nat) (i : Int), (∀ x, i ≤ x → x < i + j → r x = r' x ∧ p x = p' x) → aLs r p j i = aLs r' p' j i := by
  intro j
  induction j with
  | zero => intro i _; rfl
  | succ j ih => intro i h; unfold aLs; rw [(h i (by omega) (by omega)).1, (h i (by omega) (by omega)).2, ih (i + 1) (fun x a b => h x (by omega) (by omega))]
theorem aLs_01 (r p : Int → Int) : ∀ (j : Nat) (i : Int), aLs r p j i = 0 ∨ aLs r p j i = 1 := by
  intro j
  induction j with
  | zero => intro i; exact Or.inl rfl
  | succ j ih => intro i; unfold aLs; split
                 · exact ih _
                 · split
                   · exact Or.inr rfl
                   · exact Or.inl rfl
theorem s_Pln_before_loop {d : Nat} {h : mHp} {b a : Nat} (hb : bAd b) {B : tB} (hO : BOk B) (hR : h.2.2.1 26 1 = b) (hB : BC h b B) (ha : pAd a) {r p : Int → Int} (hr : aEq (h.1 31) (bD B) r) (hp : aEq (h.1 (a + 1)) (bD B) p) (hrr : ∀ i, 0 ≤ i → i < bD B → 0 ≤ r i ∧ r i < 32 ∧ 0 ≤ p i ∧ p i < 32) : ∀ (j : Nat) (i : Int), i + j = bD B → 0 ≤ i →
    mRuns (d + 1) 123 2 [some (.ref 26), some (.ref (a + 1)), some (.int (zI i))] [] h (.inl (some (.int (zI (aLs r p j i))), h)) := by
  have o := hO.1
  have b0 := (bSh_of hb).1
  have sb := bBl_of hb
  have e0 := hB.1
  have p1 := (pSh_of ha).2.1
  intro j
  induction j with
  | zero =>
    intro i hi i0
    refine vc_Pln_rowIsBefore_2 ?_
    simp (disch := omega) only [zI_add, zI_sub, zI_mul, zI_neg, zI_lit, zI_0, zI_1, zI_lt, zI_le, zI_eq, zI_clamp, zI_inT, zI_ite, mOb_0, mOb_1, mOb_3, mOb_4, mLd_1, mAr_1, mLen_1, mTrue_t, Int.toNat_zero, Int.toNat_one, true_and, and_true, not_true_eq_false, not_false_eq_true, true_or, or_true, or_self, false_or, or_false, forall_const, false_implies, true_implies, implies_true, hR, sb, b0, e0]
    exact ⟨fun _ => rfl, fun z => by omega⟩
  | succ j ih =>
    intro i hi i0
    have := hrr i i0 (by omega)
    refine vc_Pln_rowIsBefore_2 ?_
    unfold aLs
    simp (disch := omega) only [zI_add, zI_sub, zI_mul, zI_neg, zI_lit, zI_0, zI_1, zI_lt, zI_le, zI_eq, zI_clamp, zI_inT, zI_ite, mOb_0, mOb_1, mOb_3, mOb_4, mLd_1, mAr_1, mLen_1, mTrue_t, Int.toNat_zero, Int.toNat_one, true_and, and_true, not_true_eq_false, not_false_eq_true, true_or, or_true, or_self, false_or, or_false, forall_const, false_implies, true_implies, implies_true, hR, sb, b0, e0, p1, hr, hp]
    refine ⟨fun z => by omega, fun _ => ⟨fun z => ?_, fun z => ⟨fun y => ?_, fun y => ?_⟩⟩⟩
    · rw [if_pos z]; exact ih (i + 1) (by omega) (by omega)
    · rw [if_neg z, if_neg (by omega)]
    · rw [if_neg z, if_pos (by omega)]
theorem s_Pln_before {d : Nat} {h : mHp} {b a : Nat} (hb : bAd b) {B : tB} (hO : BOk B) (hR : h.2.2.1 26 1 = b) (hB : BC h b B) (ha : pAd a) {r p : Int → Int} (hr : aEq (h.1 31) (bD B) r) (hp : aEq (h.1 (a + 1)) (bD B) p) (hrr : ∀ i, 0 ≤ i → i < bD B → 0 ≤ r i ∧ r i < 32 ∧ 0 ≤ p i ∧ p i < 32) :
    mRuns (d + 1) 123 0 [some (.ref 26), some (.ref (a + 1)), none] [] h (.inl (some (.int (zI (aLs r p (bD B).toNat 0))), h)) := by
  have o := hO.1
  refine vc_Pln_rowIsBefore ?_
  simp (disch := omega) only [zI_add, zI_sub, zI_mul, zI_neg, zI_lit, zI_0, zI_1, zI_lt, zI_le, zI_eq, zI_clamp, zI_inT, zI_ite, mOb_0, mOb_1, mOb_3, mOb_4, mLd_1, mAr_1, mLen_1, mTrue_t, Int.toNat_zero, Int.toNat_one, true_and, and_true, not_true_eq_false, not_false_eq_true, true_or, or_true, or_self, false_or, or_false, forall_const, false_implies, true_implies, implies_true]
  exact s_Pln_before_loop hb hO hR hB ha hr hp hrr (bD B).toNat 0 (by omega) (by omega)
def aSt (B : tB) : Nat → Int → Int → Int
  | 0, _, v => v
  | j + 1, i, v => aSt B j (i + 1) (if bF B 1 i - bF B 0 i < v then bF B 1 i - bF B 0 i else v)
theorem aSt_spec (B : tB) : ∀ (j : Nat) (i v : Int), aSt B j i v ≤ v ∧ (∀ x, i ≤ x → x < i + j → aSt B j i v ≤ bF B 1 x - bF B 0 x) ∧ (aSt B j i v = v ∨ ∃ x, i ≤ x ∧ x < i + j ∧ aSt B j i v = bF B 1 x - bF B 0 x) :=
  fun j i v => by
    have e : ∀ (j : Nat) (i v : Int), aSt B j i v = aMn (fun x => bF B 1 x - bF B 0 x) j i v := by
      intro j
      induction j with
      | zero => intro i v; rfl
      | succ j ih => intro i v; unfold aSt aMn; exact ih _ _
    rw [e]; exact aMn_spec _ j i v
theorem s_Pln_short_loop {d : Nat} {h : mHp} {b : Nat} (hb : bAd b) {B : tB} (hO : BOk B) (hR : h.2.2.1 26 1 = b) (hB : BC h b B) : ∀ (j : Nat) (i v : Int), i + j = bD B → 0 ≤ i → 0 ≤ v → v ≤ 1023 →
    mRuns (d + 2) 112 6 [some (.ref 26), some (.int (zI v)), some (.int (zI i))] [] h (.inl (some (.int (zI (aSt B j i v))), h)) := by
  have o := hO.1
  have b0 := (bSh_of hb).1
  have sb := bBl_of hb
  have e0 := hB.1
  intro j
  induction j with
  | zero =>
    intro i v hi i0 v0 v1
    refine vc_Pln_shortestTime_6 ?_
    simp (disch := omega) only [zI_add, zI_sub, zI_mul, zI_neg, zI_lit, zI_0, zI_1, zI_lt, zI_le, zI_eq, zI_clamp, zI_inT, zI_ite, mOb_0, mOb_1, mOb_3, mOb_4, mLd_1, mAr_1, mLen_1, mTrue_t, Int.toNat_zero, Int.toNat_one, true_and, and_true, not_true_eq_false, not_false_eq_true, true_or, or_true, or_self, false_or, or_false, forall_const, false_implies, true_implies, implies_true, hR, sb, b0, e0]
    exact ⟨fun _ => rfl, fun z => by omega⟩
  | succ j ih =>
    intro i v hi i0 v0 v1
    have o2 := hO.2.1 i i0 (by omega)
    refine vc_Pln_shortestTime_6 ?_
    simp (disch := omega) only [zI_add, zI_sub, zI_mul, zI_neg, zI_lit, zI_0, zI_1, zI_lt, zI_le, zI_eq, zI_clamp, zI_inT, zI_ite, mOb_0, mOb_1, mOb_3, mOb_4, mLd_1, mAr_1, mLen_1, mTrue_t, Int.toNat_zero, Int.toNat_one, true_and, and_true, not_true_eq_false, not_false_eq_true, true_or, or_true, or_self, false_or, or_false, forall_const, false_implies, true_implies, implies_true, hR, sb, b0, e0]
    refine ⟨fun z => by omega, fun _ => ⟨_, _, s_Pln_timeOf hb hR hB hO i0 (by omega), ?_⟩⟩
    simp (disch := omega) only [zI_add, zI_sub, zI_mul, zI_neg, zI_lit, zI_0, zI_1, zI_lt, zI_le, zI_eq, zI_clamp, zI_inT, zI_ite, mOb_0, mOb_1, mOb_3, mOb_4, mLd_1, mAr_1, mLen_1, mTrue_t, Int.toNat_zero, Int.toNat_one, true_and, and_true, not_true_eq_false, not_false_eq_true, true_or, or_true, or_self, false_or, or_false, forall_const, false_implies, true_implies, implies_true]
    exact ih (i + 1) _ (by omega) (by omega) (by split <;> omega) (by split <;> omega)
theorem s_Pln_short {d : Nat} {h : mHp} {b : Nat} (hb : bAd b) {B : tB} (hO : BOk B) (hR : h.2.2.1 26 1 = b) (hB : BC h b B) :
    mRuns (d + 2) 112 0 [some (.ref 26), none, none] [] h (.inl (some (.int (zI (aSt B (bD B).toNat 0 1023))), h)) := by
  have o := hO.1
  refine vc_Pln_shortestTime ?_
  simp (disch := omega) only [zI_add, zI_sub, zI_mul, zI_neg, zI_lit, zI_0, zI_1, zI_lt, zI_le, zI_eq, zI_clamp, zI_inT, zI_ite, mOb_0, mOb_1, mOb_3, mOb_4, mLd_1, mAr_1, mLen_1, mTrue_t, Int.toNat_zero, Int.toNat_one, true_and, and_true, not_true_eq_false, not_false_eq_true, true_or, or_true, or_self, false_or, or_false, forall_const, false_implies, true_implies, implies_true]
  exact s_Pln_short_loop hb hO hR hB (bD B).toNat 0 1023 (by omega) (by omega) (by omega) (by omega)
theorem s_Pln_allow_loop {d : Nat} {h : mHp} {b : Nat} (hb : bAd b) {B : tB} (hO : BOk B) (hR : h.2.2.1 26 1 = b) (hB : BC h b B) {s : Int} (s0 : 0 ≤ s) (s1 : s < 32) : ∀ (j : Nat) (t : Int), t + j = bT B → 0 ≤ t → (∀ u, 0 ≤ u → u < t → aBit s u = 1 → bD B ≤ bF B 8 u) →
    ∃ x, mRuns (d + 1) 115 2 [some (.ref 26), some (.int (zI s)), some (.int (zI t))] [] h (.inl (some (.int (zI x)), h)) ∧ ((x = 1 ∧ ∀ u, 0 ≤ u → u < bT B → aBit s u = 1 → bD B ≤ bF B 8 u) ∨ (x = 0 ∧ ∃ u, 0 ≤ u ∧ u < bT B ∧ aBit s u = 1 ∧ bF B 8 u < bD B)) := by
  have o := hO.1
  obtain ⟨b0, b1, b2, b3, b4, b5, b6, b7, b8, b9, b10⟩ := bSh_of hb
  have sb := bBl_of hb
  obtain ⟨e0, e4, e9, e13, x1, x2, x3, x4, x5, x6, x7, x8, x9, x10⟩ := id hB
  intro j
  induction j with
  | zero =>
    intro t ht t0 hu
    refine ⟨1, vc_Pln_capsAllow_2 ?_, Or.inl ⟨rfl, fun u a b => hu u a (by omega)⟩⟩
    simp (disch := omega) only [zI_add, zI_sub, zI_mul, zI_neg, zI_lit, zI_0, zI_1, zI_lt, zI_le, zI_eq, zI_clamp, zI_inT, zI_ite, mOb_0, mOb_1, mOb_3, mOb_4, mLd_1, mAr_1, mLen_1, mTrue_t, Int.toNat_zero, Int.toNat_one, true_and, and_true, not_true_eq_false, not_false_eq_true, true_or, or_true, or_self, false_or, or_false, forall_const, false_implies, true_implies, implies_true, hR, sb, b0, e9]
    intro z; omega
  | succ j ih =>
    intro t ht t0 hu
    have o4 := hO.2.2.2.1 t t0 (by omega)
    have hbt := aBit_01 s t
    by_cases c : aBit s t = 1 ∧ bF B 8 t < bD B
    · refine ⟨0, vc_Pln_capsAllow_2 ?_, Or.inr ⟨rfl, t, t0, by omega, c⟩⟩
      simp (disch := omega) only [zI_add, zI_sub, zI_mul, zI_neg, zI_lit, zI_0, zI_1, zI_lt, zI_le, zI_eq, zI_clamp, zI_inT, zI_ite, mOb_0, mOb_1, mOb_3, mOb_4, mLd_1, mAr_1, mLen_1, mTrue_t, Int.toNat_zero, Int.toNat_one, true_and, and_true, not_true_eq_false, not_false_eq_true, true_or, or_true, or_self, false_or, or_false, forall_const, false_implies, true_implies, implies_true, hR, sb, b0, e9, b9, x9, e0, zI_bit]
      refine ⟨fun z => by omega, fun _ => ⟨fun z => by omega, fun _ => ?_⟩⟩
      intro z; omega
    · have hh : ¬ aBit s t = 0 → ¬ bD B ≤ bF B 8 t → False := fun z y => c ⟨by omega, by omega⟩
      obtain ⟨x, r, q⟩ := ih (t + 1) (by omega) (by omega) (fun u a b e => by
        by_cases h : u = t
        · rw [h] at e ⊢; omega
        · exact hu u a (by omega) e)
      refine ⟨x, vc_Pln_capsAllow_2 ?_, q⟩
      simp (disch := omega) only [zI_add, zI_sub, zI_mul, zI_neg, zI_lit, zI_0, zI_1, zI_lt, zI_le, zI_eq, zI_clamp, zI_inT, zI_ite, mOb_0, mOb_1, mOb_3, mOb_4, mLd_1, mAr_1, mLen_1, mTrue_t, Int.toNat_zero, Int.toNat_one, true_and, and_true, not_true_eq_false, not_false_eq_true, true_or, or_true, or_self, false_or, or_false, forall_const, false_implies, true_implies, implies_true, hR, sb, b0, e9, b9, x9, e0, zI_bit]
      refine ⟨fun z => by omega, fun _ => ⟨fun _ => r, fun z => ⟨fun _ => r, fun y => (hh z y).elim⟩⟩⟩
theorem s_Pln_allow {d : Nat} {h : mHp} {b : Nat} (hb : bAd b) {B : tB} (hO : BOk B) (hR : h.2.2.1 26 1 = b) (hB : BC h b B) {s : Int} (s0 : 0 ≤ s) (s1 : s < 32) :
    ∃ x, mRuns (d + 1) 115 0 [some (.ref 26), some (.int (zI s)), none] [] h (.inl (some (.int (zI x)), h)) ∧ ((x = 1 ∧ ∀ u, 0 ≤ u → u < bT B → aBit s u = 1 → bD B ≤ bF B 8 u) ∨ (x = 0 ∧ ∃ u, 0 ≤ u ∧ u < bT B ∧ aBit s u = 1 ∧ bF B 8 u < bD B)) := by
  have o := hO.1
  obtain ⟨x, r, q⟩ := s_Pln_allow_loop (d := d) hb hO hR hB s0 s1 (bT B).toNat 0 (by omega) (by omega) (fun u a b => by omega)
  refine ⟨x, vc_Pln_capsAllow ?_, q⟩
  simp (disch := omega) only [zI_add, zI_sub, zI_mul, zI_neg, zI_lit, zI_0, zI_1, zI_lt, zI_le, zI_eq, zI_clamp, zI_inT, zI_ite, mOb_0, mOb_1, mOb_3, mOb_4, mLd_1, mAr_1, mLen_1, mTrue_t, Int.toNat_zero, Int.toNat_one, true_and, and_true, not_true_eq_false, not_false_eq_true, true_or, or_true, or_self, false_or, or_false, forall_const, false_implies, true_implies, implies_true]
  exact r
/-- the first set of a company with the least cold, for all dishes -/
theorem s_Pln_same_loop {d : Nat} {b : Nat} (hb : bAd b) {B : tB} (hO : BOk B) {K : Int → Int} (hk : ∀ s, 0 ≤ s → s < 32 → -1 ≤ K s ∧ K s ≤ 1022) {co m s : Int} (c0 : 0 ≤ co) (c1 : co < 32) (m0 : 0 ≤ m) (m1 : m ≤ 1022) (hd : 0 < bD B) (s0 : 0 ≤ s) (s1 : s < 32) (hs : aDif s co = 0 ∧ K s = m) (hf : ∀ x, 0 ≤ x → x < s → ¬ (aDif x co = 0 ∧ K x = m)) {h : mHp} (hR : h.2.2.1 26 1 = b) (hB : BC h b B) (hK : aEq (h.1 28) 32 K) : ∀ (j : Nat) (i : Int), i + j = s → 0 ≤ i →
    ∃ h' x, mRuns (d + 2) 114 2 [some (.ref 26), some (.int (zI co)), some (.int (zI m)), some (.int (zI i))] [] h (.inl (some (.int (zI x)), h')) ∧ aEq (h'.1 31) 6 (fun _ => s) ∧ hFr [31] h h' ∧ ((x = 1 ∧ ∀ u, 0 ≤ u → u < bT B → aBit s u = 1 → bD B ≤ bF B 8 u) ∨ (x = 0 ∧ ∃ u, 0 ≤ u ∧ u < bT B ∧ aBit s u = 1 ∧ bF B 8 u < bD B)) := by
  have o := hO.1
  have b0 := (bSh_of hb).1
  have sb := bBl_of hb
  have e0 := hB.1
  intro j
  induction j with
  | zero =>
    intro i hi i0
    have ei : i = s := by omega
    subst ei
    obtain ⟨h1, r1, p1, f1⟩ := s_fill (d := d) (h := h) (a := 31) (n := 6) rfl (by omega) (zI i)
    obtain ⟨x, r, q⟩ := s_Pln_allow (d := d) (h := h1) hb hO (by rw [f1.2]; exact hR) (BC_of hB (fun k hk => f1.1 _ (by rcases hb with rfl | rfl <;> simp <;> omega))) s0 s1
    refine ⟨h1, x, vc_Pln_chooseSameSet_2 ?_, fun y a b => p1 _ (by omega), f1, q⟩
    have hki := hk i s0 s1
    simp (disch := omega) only [zI_add, zI_sub, zI_mul, zI_neg, zI_lit, zI_0, zI_1, zI_lt, zI_le, zI_eq, zI_clamp, zI_inT, zI_ite, mOb_0, mOb_1, mOb_3, mOb_4, mLd_1, mAr_1, mLen_1, mTrue_t, Int.toNat_zero, Int.toNat_one, true_and, and_true, not_true_eq_false, not_false_eq_true, true_or, or_true, or_self, false_or, or_false, forall_const, false_implies, true_implies, implies_true, hR, sb, b0, e0, zI_dif, hK, hs.1, hs.2]
    refine ⟨fun z => by omega, fun _ => ⟨fun z => by omega, fun _ => ⟨h1, r1, _, _, r, ?_, rfl⟩⟩⟩
    rcases q with q | q
    · rw [q.1]; exact Or.inr rfl
    · rw [q.1]; exact Or.inl rfl
  | succ j ih =>
    intro i hi i0
    obtain ⟨h', x, r, q⟩ := ih (i + 1) (by omega) (by omega)
    refine ⟨h', x, vc_Pln_chooseSameSet_2 ?_, q⟩
    have hki := hk i i0 (by omega)
    have dr := aDif_rng i co
    have hn := hf i i0 (by omega)
    simp (disch := omega) only [zI_add, zI_sub, zI_mul, zI_neg, zI_lit, zI_0, zI_1, zI_lt, zI_le, zI_eq, zI_clamp, zI_inT, zI_ite, mOb_0, mOb_1, mOb_3, mOb_4, mLd_1, mAr_1, mLen_1, mTrue_t, Int.toNat_zero, Int.toNat_one, true_and, and_true, not_true_eq_false, not_false_eq_true, true_or, or_true, or_self, false_or, or_false, forall_const, false_implies, true_implies, implies_true, hR, sb, b0, e0, zI_dif, hK]
    refine ⟨fun z => by omega, fun _ => ⟨fun z => by omega, fun _ => ⟨fun _ => r, fun z => ⟨fun _ => r, fun y => absurd ⟨z, y⟩ hn⟩⟩⟩⟩
/-! pure: a company's least and its sets -/
theorem aCsR_mono {B : tB} (hO : BOk B) {s s' l : Int} (hl : 0 ≤ l) (hl' : l ≤ 2) (h : ∀ t, 0 ≤ t → t < bT B → aBit s t ≤ aBit s' t) : ∀ (j : Nat) (p v v' : Int), 0 ≤ p → p + j ≤ bP B → 0 ≤ v' → v' ≤ v → aCsR B s l j p v ≠ -1 → aCsR B s' l j p v' ≠ -1 ∧ aCsR B s' l j p v' ≤ aCsR B s l j p v := by
  intro j
  induction j with
  | zero => intro p v v' _ _ a b c; unfold aCsR at *; exact ⟨by omega, b⟩
  | succ j ih =>
    intro p v v' p0 hp a b c
    unfold aCsR at c ⊢
    by_cases e : aTk B s p l = -1
    · rw [if_pos e] at c; exact absurd rfl c
    · rw [if_neg e] at c
      obtain ⟨k1, k2⟩ := aTk_mono hO p0 (by omega) hl hl' h e
      obtain ⟨q1, q2, -⟩ := aTk_char hO (s := s') p0 (show p < bP B by omega) hl hl'
      rw [if_neg e, if_neg k1]
      exact ih (p + 1) _ _ (by omega) (by omega) (by unfold aMax; split <;> omega) (by unfold aMax; split <;> split <;> omega) c
theorem aK_mono {B : tB} (hO : BOk B) {l w s co : Int} (hl : 0 ≤ l) (hl' : l ≤ 2) (hc : aDif co (aFr B w) = 0) (h : aDif s co = 0) (hs : aK B l w s ≠ -1) : aK B l w co ≠ -1 ∧ aK B l w co ≤ aK B l w s := by
  have o := hO.1
  have hsf : aDif s (aFr B w) = 0 := (aDif_0 _ _).mpr (fun t a b e => (aDif_0 _ _).mp hc t a b ((aDif_0 _ _).mp h t a b e))
  unfold aK at hs ⊢
  rw [if_pos hsf] at hs ⊢
  rw [if_pos hc]
  unfold aCs at hs ⊢
  exact aCsR_mono hO hl hl' (fun t a b => by
    have := (aDif_0 _ _).mp h t a (by omega)
    have := aBit_01 s t; have := aBit_01 co t; omega) _ 0 0 0 (by omega) (by omega) (by omega) (by omega) hs
theorem aL_late {K : Int → Int} (hK : kOk K) {T : Nat → Int} {top m : Int} (ht : 0 ≤ top) : ∀ (j : Nat) (c : Int → Int), (∀ s, 0 ≤ s → s < 32 → K s ≠ -1 → okS c s → m ≤ K s) → (∃ i, i < j ∧ T i < m) → aL K T top j c = top := by
  intro j
  induction j with
  | zero => rintro c _ ⟨i, h, _⟩; omega
  | succ j ih =>
    rintro c h ⟨i, hi, hT⟩
    obtain ⟨k1, k2, k3⟩ := aL_spec K T top j c
    rcases k3 with e | ⟨s, a, b, p, e⟩
    · exact e
    · have h1 := h s a b p.1 p.2.2
      have : aL K T top j (cSub c s) = top := ih (cSub c s) (fun s' a' b' p1 p2 => h s' a' b' p1 ((okS_iff _ _).mpr (fun t x y z => by have := (okS_iff _ _).mp p2 t x y z; unfold cSub at this; have := aBit_01 s t; omega))) ⟨i, by
        by_cases e2 : i = j
        · rw [e2] at hT; have := p.2.1; omega
        · omega, hT⟩
      have := hK s a b; have := p.1; omega
/-- the same set for all dishes -/
theorem aL_same {K : Int → Int} (hK : kOk K) {T : Nat → Int} {m s0 co : Int} (m0 : 0 ≤ m) (m1 : m * 6 < 1023) (a0 : 0 ≤ s0) (a1 : s0 < 32) (hs : aDif s0 co = 0 ∧ K s0 = m) (hf : ∀ x, 0 ≤ x → x < s0 → ¬ (aDif x co = 0 ∧ K x = m)) (hlow : ∀ s, 0 ≤ s → s < 32 → K s ≠ -1 → aDif s co = 0 → m ≤ K s) :
    ∀ (j : Nat) (c : Int → Int), j ≤ 6 → (∀ i, i < j → m ≤ T i) → (∀ t, 0 ≤ t → t < 5 → 0 < c t → aBit co t = 1) → (∀ t, 0 ≤ t → t < 5 → aBit s0 t = 1 → (j : Int) ≤ c t) → aL K T 1023 j c = m * j ∧ ∀ y, y < j → aRw K T 1023 j c y = s0 := by
  intro j
  induction j with
  | zero => intro c _ _ _ _; exact ⟨by show (0 : Int) = m * 0; omega, fun y hy => by omega⟩
  | succ j ih =>
    intro c hj hT hco hcap
    have hsub : ∀ s, okS c s → aDif s co = 0 := fun s p => (aDif_0 _ _).mpr (fun t a b e => hco t a b ((okS_iff _ _).mp p t a b e))
    have ok0 : okP K (T j) c s0 := ⟨by rw [hs.2]; omega, by rw [hs.2]; exact hT j (by omega), (okS_iff _ _).mpr (fun t a b e => by have := hcap t a b e; omega)⟩
    have hco' : ∀ s t, 0 ≤ t → t < 5 → 0 < cSub c s t → aBit co t = 1 := fun s t a b e => hco t a b (by unfold cSub at e; have := aBit_01 s t; omega)
    obtain ⟨i1, i2⟩ := ih (cSub c s0) (by omega) (fun i hi => hT i (by omega)) (hco' s0) (fun t a b e => by unfold cSub; have := hcap t a b e; omega)
    have hmul : m * ((j + 1 : Nat) : Int) = m * j + m := by rw [show ((j + 1 : Nat) : Int) = (j : Int) + 1 by omega, Int.mul_add, Int.mul_one]
    have hm6 : m * ((j + 1 : Nat) : Int) < 1023 := by
      have : m * ((j + 1 : Nat) : Int) ≤ m * 6 := Int.mul_le_mul_of_nonneg_left (by omega) m0
      omega
    have low : ∀ s, 0 ≤ s → s < 32 → okP K (T j) c s → m * j ≤ aL K T 1023 j (cSub c s) ∨ 1023 ≤ aL K T 1023 j (cSub c s) := fun s a b p =>
      aL_low m0 j (cSub c s) (fun s' a' b' p1 p2 => hlow s' a' b' p1 ((aDif_0 _ _).mpr (fun t x y e => hco' s t x y ((okS_iff _ _).mp p2 t x y e))))
    have hval : aL K T 1023 (j + 1) c = m * ((j + 1 : Nat) : Int) := by
      refine (aL_uniq (by omega) (fun s a b p => ?_) (Or.inr ⟨s0, a0, a1, ok0, by rw [hs.2, i1, hmul]; omega⟩)).symm
      have := hlow s a b p.1 (hsub s p.2.2)
      rcases low s a b p with q | q <;> omega
    have hsel : aSel K T 1023 j c = s0 := by
      refine aSel_uniq a0 a1 ⟨ok0, by rw [hval, hs.2, i1, hmul]; omega⟩ (fun s a b p => ?_)
      have h1 := hlow s a (by omega) p.1.1 (hsub s p.1.2.2)
      have h2 := p.2
      rw [hval] at h2
      have h3 : K s = m := by rcases low s a (by omega) p.1 with q | q <;> omega
      exact hf s a b ⟨hsub s p.1.2.2, h3⟩
    refine ⟨hval, fun y hy => ?_⟩
    cases y with
    | zero => exact hsel
    | succ y => show aRw K T 1023 j (cSub c (aSel K T 1023 j c)) y = s0; rw [hsel]; exact i2 y (by omega)

/-! L3, the court: a day on the model's side -/
theorem s_M_bits_loop {d : Nat} {h : mHp} {s : Int} (s0 : 0 ≤ s) (s1 : s < 32) : ∀ (j : Nat) (k v : Int), k + j = 5 → 0 ≤ k →
    mRuns (d + 1) 47 4 [some (.int (zI s)), some (.int (zI v)), some (.int (zI k))] [] h (.inl (some (.int (zI (v + sS (aBit s) j k))), h)) := by
  intro j
  induction j with
  | zero =>
    intro k v hk h0
    refine vc_M_bits_4 ?_
    unfold sS
    simp (disch := omega) only [zI_add, zI_sub, zI_mul, zI_neg, zI_lit, zI_0, zI_1, zI_lt, zI_le, zI_eq, zI_clamp, zI_inT, zI_ite, mOb_0, mOb_1, mOb_3, mOb_4, mLd_1, mAr_1, mLen_1, mTrue_t, Int.toNat_zero, Int.toNat_one, true_and, and_true, not_true_eq_false, not_false_eq_true, true_or, or_true, or_self, false_or, or_false, forall_const, false_implies, true_implies, implies_true, Int.add_zero]
    intro z; omega
  | succ j ih =>
    intro k v hk h0
    refine vc_M_bits_4 ?_
    rw [sS_s]
    simp (disch := omega) only [zI_add, zI_sub, zI_mul, zI_neg, zI_lit, zI_0, zI_1, zI_lt, zI_le, zI_eq, zI_clamp, zI_inT, zI_ite, mOb_0, mOb_1, mOb_3, mOb_4, mLd_1, mAr_1, mLen_1, mTrue_t, Int.toNat_zero, Int.toNat_one, true_and, and_true, not_true_eq_false, not_false_eq_true, true_or, or_true, or_self, false_or, or_false, forall_const, false_implies, true_implies, implies_true, zI_bit]
    refine ⟨fun z => by omega, fun _ => ?_⟩
    have := ih (k + 1) (v + aBit s k) (by omega) (by omega)
    rw [show v + aBit s k + sS (aBit s) j (k + 1) = v + (aBit s k + sS (aBit s) j (k + 1)) by omega] at this
    exact this
theorem s_M_bits {d : Nat} {h : mHp} {s : Int} (s0 : 0 ≤ s) (s1 : s < 32) : mRuns (d + 1) 47 0 [some (.int (zI s)), none, none] [] h (.inl (some (.int (zI (aCnt s))), h)) := by
  refine vc_M_bits ?_
  simp (disch := omega) only [zI_add, zI_sub, zI_mul, zI_neg, zI_lit, zI_0, zI_1, zI_lt, zI_le, zI_eq, zI_clamp, zI_inT, zI_ite, mOb_0, mOb_1, mOb_3, mOb_4, mLd_1, mAr_1, mLen_1, mTrue_t, Int.toNat_zero, Int.toNat_one, true_and, and_true, not_true_eq_false, not_false_eq_true, true_or, or_true, or_self, false_or, or_false, forall_const, false_implies, true_implies, implies_true]
  have := s_M_bits_loop (d := d) (h := h) s0 s1 5 0 0 (by omega) (by omega)
  rw [show (0 : Int) + sS (aBit s) 5 0 = aCnt s by simp only [sS]; unfold aCnt; simp only [Int.zero_add, Int.add_zero, show (1 : Int) + 1 = 2 from rfl, show (2 : Int) + 1 = 3 from rfl, show (3 : Int) + 1 = 4 from rfl]; omega] at this
  exact this
def CM (h : mHp) (C : tC) : Prop :=
  (h.1 114 46 = zI (if cO C = 1 then cN C else -1) ∧ h.1 114 47 = cS C ∧ h.1 114 48 = zI (cL C) ∧ h.1 114 49 = zI (cH C)) ∧ aEq (h.1 135) 25 (cHd C) ∧
  (∀ i, 0 ≤ i → i < cN C → h.1 136 (4 * i).toNat = zI (cR C 0 i)) ∧ (∀ i, 0 ≤ i → i < cN C → h.1 136 (4 * i + 1).toNat = zI (cR C 1 i)) ∧ (∀ i, 0 ≤ i → i < cN C → h.1 136 (4 * i + 2).toNat = zI (cR C 2 i)) ∧ (∀ i, 0 ≤ i → i < cN C → h.1 136 (4 * i + 3).toNat = zI (cR C 3 i))
theorem CM_of {h h' : mHp} {C : tC} (hC : CM h C) (e0 : ∀ k, 46 ≤ k → k ≤ 49 → h'.1 114 k = h.1 114 k) (e1 : h'.1 135 = h.1 135) (e2 : h'.1 136 = h.1 136) : CM h' C := by
  unfold CM at hC ⊢
  rw [e0 46 (by omega) (by omega), e0 47 (by omega) (by omega), e0 48 (by omega) (by omega), e0 49 (by omega) (by omega), e1, e2]; exact hC
/-- the court's plan in the model -/
def PM (h : mHp) (B : tB) (ps pt : Int → Int) : Prop := (∀ i, 0 ≤ i → i < bD B → h.1 134 (2 * i).toNat = zI (ps i)) ∧ (∀ i, 0 ≤ i → i < bD B → h.1 134 (2 * i + 1).toNat = zI (pt i))
theorem PM_of {h h' : mHp} {B : tB} {ps pt : Int → Int} (hP : PM h B ps pt) (e : h'.1 134 = h.1 134) : PM h' B ps pt := by unfold PM at hP ⊢; rw [e]; exact hP
def pOk (B : tB) (ps pt : Int → Int) : Prop := ∀ i, 0 ≤ i → i < bD B → 0 ≤ ps i ∧ ps i < 32 ∧ 0 ≤ pt i ∧ pt i ≤ 100 ∧ ∀ t, bT B ≤ t → t < 5 → aBit (ps i) t = 0
theorem s_M_draw {d : Nat} {h : mHp} {n : Int} (hn : 0 < n) (hn' : n < 2147483648) :
    mRuns (d + 1) 76 0 [some (.ref 114), some (.int (zI n))] [] h (.inl (some (.int (zI (aDrV (aDrS (h.1 114 47)) % n))), mPI h 114 47 (aDrS (h.1 114 47)))) := by
  obtain ⟨e1, e2, e3⟩ := aDrV_spec (aDrS (h.1 114 47))
  refine vc_M_draw ?_
  have es : (h.1 114 47) * (nI 1103515245) + (nI 12345) = aDrS (h.1 114 47) := by rw [aDrS_eq, zI_lit, zI_lit]
  rw [es, hI_same, show nI 16 = zI 16 from rfl, show nI 32767 = zI 32767 from rfl, e1]
  simp (disch := omega) only [zI_add, zI_sub, zI_mul, zI_neg, zI_lit, zI_0, zI_1, zI_lt, zI_le, zI_eq, zI_clamp, zI_inT, zI_ite, mOb_0, mOb_1, mOb_3, mOb_4, mLd_1, mAr_1, mLen_1, mTrue_t, Int.toNat_zero, Int.toNat_one, true_and, and_true, not_true_eq_false, not_false_eq_true, true_or, or_true, or_self, false_or, or_false, forall_const, false_implies, true_implies, implies_true, zI_div, int_rem]
  omega
theorem s_M_day_sum1 {d : Nat} {h : mHp} {B : tB} (hB : BM h B) (hO : BOk B) {a : Int} {out : mOut} : ∀ (j : Nat) (i v : Int), i + j = bD B → 0 ≤ i →
    mRuns (d + 1) 75 105 [some (.ref 114), some (.int (zI a)), some (.int (zI (v + sS (bF B 2) j i))), some (.int (zI 0)), some (.int (zI 0)), none, none, none, none] [] h out →
    mRuns (d + 1) 75 73 [some (.ref 114), some (.int (zI a)), some (.int (zI v)), some (.int (zI 0)), some (.int (zI i)), none, none, none, none] [] h out := by
  have o := hO.1
  obtain ⟨e1, e2, e3, e4, a1, a2, a3, a4, a5, a6, a7, a8, a9, a10⟩ := hB
  intro j
  induction j with
  | zero =>
    intro i v hi h0 r
    refine vc_M_dayGoes_73 ?_
    unfold sS at r
    simp (disch := omega) only [zI_add, zI_sub, zI_mul, zI_neg, zI_lit, zI_0, zI_1, zI_lt, zI_le, zI_eq, zI_clamp, zI_inT, zI_ite, mOb_0, mOb_1, mOb_3, mOb_4, mLd_1, mAr_1, mLen_1, mTrue_t, Int.toNat_zero, Int.toNat_one, true_and, and_true, not_true_eq_false, not_false_eq_true, true_or, or_true, or_self, false_or, or_false, forall_const, false_implies, true_implies, implies_true, e1]
    rw [Int.add_zero] at r
    exact ⟨fun _ => r, fun z => by omega⟩
  | succ j ih =>
    intro i v hi h0 r
    rw [sS_s, show v + (bF B 2 i + sS (bF B 2) j (i + 1)) = v + bF B 2 i + sS (bF B 2) j (i + 1) by omega] at r
    refine vc_M_dayGoes_73 ?_
    simp (disch := omega) only [zI_add, zI_sub, zI_mul, zI_neg, zI_lit, zI_0, zI_1, zI_lt, zI_le, zI_eq, zI_clamp, zI_inT, zI_ite, mOb_0, mOb_1, mOb_3, mOb_4, mLd_1, mAr_1, mLen_1, mTrue_t, Int.toNat_zero, Int.toNat_one, true_and, and_true, not_true_eq_false, not_false_eq_true, true_or, or_true, or_self, false_or, or_false, forall_const, false_implies, true_implies, implies_true, e1, a3]
    exact ⟨fun z => by omega, fun _ => ih (i + 1) _ (by omega) (by omega) r⟩
theorem s_M_day_sum2 {d : Nat} {h : mHp} {B : tB} (hB : BM h B) (hO : BOk B) {a D : Int} (hD : 0 ≤ D) (hD' : D ≤ 594) {out : mOut} (hz : (D = 0 ∨ aPs B = 0) → out = .inl (none, h))
    (hg : 0 < D → 0 < aPs B → mRuns (d + 2) 75 153 [some (.ref 114), some (.int (zI a)), none, some (.int (zI (aPs B))), some (.int (zI (aDrV (aDrS (h.1 114 47)) % D))), some (.int (zI 0)), none, none, none] [] (mPI h 114 47 (aDrS (h.1 114 47))) out) : ∀ (j : Nat) (i v : Int), i + j = bP B → 0 ≤ i → v + sS (bF B 6) j i = aPs B → 0 ≤ v → v ≤ 99 * i →
    mRuns (d + 2) 75 105 [some (.ref 114), some (.int (zI a)), some (.int (zI D)), some (.int (zI v)), some (.int (zI i)), none, none, none, none] [] h out := by
  have o := hO.1
  obtain ⟨e1, e2, e3, e4, a1, a2, a3, a4, a5, a6, a7, a8, a9, a10⟩ := hB
  intro j
  induction j with
  | zero =>
    intro i v hi h0 hv v0 v1
    have hv : v = aPs B := by rw [← hv]; show v = v + 0; omega
    refine vc_M_dayGoes_105 ?_
    simp (disch := omega) only [zI_add, zI_sub, zI_mul, zI_neg, zI_lit, zI_0, zI_1, zI_lt, zI_le, zI_eq, zI_clamp, zI_inT, zI_ite, mOb_0, mOb_1, mOb_3, mOb_4, mLd_1, mAr_1, mLen_1, mTrue_t, Int.toNat_zero, Int.toNat_one, true_and, and_true, not_true_eq_false, not_false_eq_true, true_or, or_true, or_self, false_or, or_false, forall_const, false_implies, true_implies, implies_true, e2]
    refine ⟨fun _ => ⟨fun z => hz (Or.inl z), fun z => ⟨fun y => ⟨_, _, s_M_draw (by omega) (by omega), ?_⟩, fun y => hz (Or.inr (by omega))⟩⟩, fun z => by omega⟩
    rw [hv]; exact hg (by omega) (by omega)
  | succ j ih =>
    intro i v hi h0 hv v0 v1
    have o3 := hO.2.2.1 i h0 (by omega)
    rw [sS_s] at hv
    refine vc_M_dayGoes_105 ?_
    simp (disch := omega) only [zI_add, zI_sub, zI_mul, zI_neg, zI_lit, zI_0, zI_1, zI_lt, zI_le, zI_eq, zI_clamp, zI_inT, zI_ite, mOb_0, mOb_1, mOb_3, mOb_4, mLd_1, mAr_1, mLen_1, mTrue_t, Int.toNat_zero, Int.toNat_one, true_and, and_true, not_true_eq_false, not_false_eq_true, true_or, or_true, or_self, false_or, or_false, forall_const, false_implies, true_implies, implies_true, e2, a7]
    exact ⟨fun z => by omega, fun _ => ih (i + 1) (v + bF B 6 i) (by omega) (by omega) (by omega) (by omega) (by omega)⟩
theorem s_M_day_pick1 {d : Nat} {h : mHp} {B : tB} (hB : BM h B) (hO : BOk B) {a Q : Int} (hQ : 0 < Q) (hQ' : Q ≤ 495) {out : mOut} : ∀ (j : Nat) (i v : Int), i + j = bD B → 0 ≤ i → 0 ≤ v → v ≤ 32767 → v < sS (bF B 2) j i →
    mRuns (d + 2) 75 201 [some (.ref 114), some (.int (zI a)), none, none, some (.int (zI (aDrV (aDrS (h.1 114 47)) % Q))), some (.int (zI (aPk (bF B 2) j i v))), some (.int (zI 0)), none, none] [] (mPI h 114 47 (aDrS (h.1 114 47))) out →
    mRuns (d + 2) 75 153 [some (.ref 114), some (.int (zI a)), none, some (.int (zI Q)), some (.int (zI v)), some (.int (zI i)), none, none, none] [] h out := by
  have o := hO.1
  obtain ⟨e1, e2, e3, e4, a1, a2, a3, a4, a5, a6, a7, a8, a9, a10⟩ := hB
  intro j
  induction j with
  | zero => intro i v hi h0 v0 v1 v2; exact absurd v2 (by show ¬ v < 0; omega)
  | succ j ih =>
    intro i v hi h0 v0 v1 v2 r
    have o2 := hO.2.1 i h0 (by omega)
    rw [sS_s] at v2
    refine vc_M_dayGoes_153 ?_
    unfold aPk at r
    simp (disch := omega) only [zI_add, zI_sub, zI_mul, zI_neg, zI_lit, zI_0, zI_1, zI_lt, zI_le, zI_eq, zI_clamp, zI_inT, zI_ite, mOb_0, mOb_1, mOb_3, mOb_4, mLd_1, mAr_1, mLen_1, mTrue_t, Int.toNat_zero, Int.toNat_one, true_and, and_true, not_true_eq_false, not_false_eq_true, true_or, or_true, or_self, false_or, or_false, forall_const, false_implies, true_implies, implies_true, a3]
    refine ⟨fun z => ⟨_, _, s_M_draw (by omega) (by omega), ?_⟩, fun z => ?_⟩
    · rw [if_neg (by omega)] at r; exact r
    · rw [if_pos (by omega)] at r
      exact ih (i + 1) (v - bF B 2 i) (by omega) (by omega) (by omega) (by omega) (by omega) r
theorem s_M_day_pick2 {d : Nat} {h : mHp} {B : tB} (hB : BM h B) (hO : BOk B) {a q : Int} (a0 : 0 ≤ a) (a1' : a + 4 ≤ 1200) {out : mOut} : ∀ (j : Nat) (i v : Int), i + j = bP B → 0 ≤ i → 0 ≤ v → v ≤ 32767 → v < sS (bF B 6) j i →
    mRuns (d + 2) 75 260 [some (.ref 114), some (.int (zI a)), none, none, none, some (.int (zI q)), some (.int (zI (aPk (bF B 6) j i v))), some (.int (zI 0)), none] [] (mPI (mPI h 136 a.toNat (zI q)) 136 (a + 1).toNat (zI (aPk (bF B 6) j i v))) out →
    mRuns (d + 2) 75 201 [some (.ref 114), some (.int (zI a)), none, none, some (.int (zI v)), some (.int (zI q)), some (.int (zI i)), none, none] [] h out := by
  have o := hO.1
  obtain ⟨e1, e2, e3, e4, a1, a2, a3, a4, a5, a6, a7, a8, a9, a10⟩ := hB
  intro j
  induction j with
  | zero => intro i v hi h0 v0 v1 v2; exact absurd v2 (by show ¬ v < 0; omega)
  | succ j ih =>
    intro i v hi h0 v0 v1 v2 r
    have o2 := hO.2.2.1 i h0 (by omega)
    rw [sS_s] at v2
    refine vc_M_dayGoes_201 ?_
    unfold aPk at r
    simp (disch := omega) only [zI_add, zI_sub, zI_mul, zI_neg, zI_lit, zI_0, zI_1, zI_lt, zI_le, zI_eq, zI_clamp, zI_inT, zI_ite, mOb_0, mOb_1, mOb_3, mOb_4, mLd_1, mAr_1, mLen_1, mTrue_t, Int.toNat_zero, Int.toNat_one, true_and, and_true, not_true_eq_false, not_false_eq_true, true_or, or_true, or_self, false_or, or_false, forall_const, false_implies, true_implies, implies_true, a7]
    refine ⟨fun z => ?_, fun z => ?_⟩
    · rw [if_neg (by omega)] at r; exact r
    · rw [if_pos (by omega)] at r
      exact ih (i + 1) (v - bF B 6 i) (by omega) (by omega) (by omega) (by omega) (by omega) r
theorem s_M_day_fall {d : Nat} {B : tB} (hO : BOk B) {hd : Int → Int} {ps pt : Int → Int} (hP : pOk B ps pt) (hh : ∀ i, 0 ≤ i → i < 25 → 0 ≤ hd i ∧ hd i ≤ 99) {a q p l : Int} (a0 : 0 ≤ a) (a1' : a + 4 ≤ 1200) (q0 : 0 ≤ q) (q1 : q < bD B) (p0 : 0 ≤ p) (p1 : p < bP B) (l0 : 0 ≤ l) (l1 : l ≤ 2) : ∀ (j : Nat) (t f : Int) (h : mHp), t + j = bT B → 0 ≤ t → 0 ≤ f → f < 32 → BM h B → PM h B ps pt → h.1 114 48 = zI l → h.1 136 (a + 2).toNat = zI f → aEq (h.1 135) 25 (fun i => if i / 5 < t then aHar hd (ps q) p i else hd i) →
    ∃ h', mRuns (d + 2) 75 260 [some (.ref 114), some (.int (zI a)), none, none, none, some (.int (zI q)), some (.int (zI p)), some (.int (zI t)), none] [] h (.inl (none, h')) ∧ aEq (h'.1 135) 25 (aHar hd (ps q) p) ∧ h'.1 136 (a + 2).toNat = zI (aWfR B hd (ps q) (bF B 1 q - pt q) p j t f) ∧ h'.1 136 (a + 3).toNat = zI (if aCnt (aWfR B hd (ps q) (bF B 1 q - pt q) p j t f) ≤ l then 1 else 0) ∧ (∀ k, k ≠ (a + 2).toNat → k ≠ (a + 3).toNat → h'.1 136 k = h.1 136 k) ∧ hFr [135, 136] h h' := by
  have o := hO.1
  have hpq := hP q q0 q1
  have o2 := hO.2.1 q q0 q1
  intro j
  induction j with
  | zero =>
    intro t f h ht t0 f0 f1 hB hM h48 hf hH
    have e3 := hB.2.2.1
    have hc := aCnt_rng f
    have hfin : aEq (h.1 135) 25 (aHar hd (ps q) p) := aEq_fn hH (fun i i0 i1 => by
      by_cases e : i / 5 < t
      · rw [if_pos e]
      · rw [if_neg e]; unfold aHar
        rw [if_neg (fun y => y.2 (hpq.2.2.2.2 (i / 5) (by omega) (by omega)))])
    refine ⟨mPI h 136 (a + 3).toNat (zI (if aCnt f ≤ l then 1 else 0)), vc_M_dayGoes_260 ?_, ?_, ?_, ?_, ?_, ?_⟩
    · simp (disch := omega) only [zI_add, zI_sub, zI_mul, zI_neg, zI_lit, zI_0, zI_1, zI_lt, zI_le, zI_eq, zI_clamp, zI_inT, zI_ite, mOb_0, mOb_1, mOb_3, mOb_4, mLd_1, mAr_1, mLen_1, mTrue_t, Int.toNat_zero, Int.toNat_one, true_and, and_true, not_true_eq_false, not_false_eq_true, true_or, or_true, or_self, false_or, or_false, forall_const, false_implies, true_implies, implies_true, e3, hf]
      refine ⟨fun _ => ⟨_, _, s_M_bits f0 f1, ?_⟩, fun z => by omega⟩
      simp (disch := omega) only [zI_add, zI_sub, zI_mul, zI_neg, zI_lit, zI_0, zI_1, zI_lt, zI_le, zI_eq, zI_clamp, zI_inT, zI_ite, mOb_0, mOb_1, mOb_3, mOb_4, mLd_1, mAr_1, mLen_1, mTrue_t, Int.toNat_zero, Int.toNat_one, true_and, and_true, not_true_eq_false, not_false_eq_true, true_or, or_true, or_self, false_or, or_false, forall_const, false_implies, true_implies, implies_true, h48]
      refine ⟨fun z => ?_, fun z => ?_⟩
      · rw [if_neg (by omega)]
      · rw [if_pos (by omega)]
    · rw [hI_ne (by omega)]; exact hfin
    · rw [hI_off (by omega)]; exact hf
    · rw [hI_same]; rfl
    · intro k k1 k2; rw [hI_off k2]
    · exact hFr_pi (hFr_refl _ _) (by simp) _ _
  | succ j ih =>
    intro t f h ht t0 f0 f1 hB hM h48 hf hH
    obtain ⟨e1, e2, e3, e4, a1, a2, a3, a4, a5, a6, a7, a8, a9, a10⟩ := id hB
    have h5 := hh (5 * t + p) (by omega) (by omega)
    have hsh := aShow_rng (t := t) (w := 1) (tm := hd (5 * t + p)) hO p0 p1
    have hor := aOr_rng f0 f1 t0 (show t < 5 by omega)
    have hbt := aBit_01 (ps q) t
    have m1 := hM.1 q q0 q1
    have m2 := hM.2 q q0 q1
    have hv := hH (5 * t + p) (by omega) (by omega)
    have hv : h.1 135 (5 * t + p).toNat = zI (hd (5 * t + p)) := by
      rw [hv]; show zI (if _ then _ else _) = _; rw [if_neg (by omega)]
    by_cases c : aBit (ps q) t = 0
    · obtain ⟨h', r, g1, g2, g3, g4, g5⟩ := ih (t + 1) f h (by omega) (by omega) f0 f1 hB hM h48 hf (aEq_fn hH (fun i i0 i1 => by
        by_cases e : i / 5 < t
        · rw [if_pos e, if_pos (by omega)]
        · rw [if_neg e]
          by_cases e2 : i / 5 < t + 1
          · rw [if_pos e2]; unfold aHar
            have : i / 5 = t := by omega
            rw [this, if_neg (fun y => y.2 c)]
          · rw [if_neg e2]))
      have es : aWfR B hd (ps q) (bF B 1 q - pt q) p (j + 1) t f = aWfR B hd (ps q) (bF B 1 q - pt q) p j (t + 1) f := by
        show aWfR B hd (ps q) (bF B 1 q - pt q) p j (t + 1) (if _ then _ else _) = _
        rw [if_neg (fun y => y.1 c)]
      rw [es]
      refine ⟨h', vc_M_dayGoes_260 ?_, g1, g2, g3, g4, g5⟩
      simp (disch := omega) only [zI_add, zI_sub, zI_mul, zI_neg, zI_lit, zI_0, zI_1, zI_lt, zI_le, zI_eq, zI_clamp, zI_inT, zI_ite, mOb_0, mOb_1, mOb_3, mOb_4, mLd_1, mAr_1, mLen_1, mTrue_t, Int.toNat_zero, Int.toNat_one, true_and, and_true, not_true_eq_false, not_false_eq_true, true_or, or_true, or_self, false_or, or_false, forall_const, false_implies, true_implies, implies_true, e3, m1, zI_bit, c]
      refine ⟨fun z => by omega, fun _ => ?_⟩
      repeat' (first | refine And.intro ?_ ?_ | with_reducible intro _)
      all_goals first | omega | exact r
    · -- the had of his grows, from any f'
      have grow : ∀ (f' : Int) (h1 : mHp), 0 ≤ f' → f' < 32 → BM h1 B → PM h1 B ps pt → h1.1 114 48 = zI l → h1.1 136 (a + 2).toNat = zI f' → h1.1 135 = h.1 135 → (∀ k, k ≠ (a + 2).toNat → k ≠ (a + 3).toNat → h1.1 136 k = h.1 136 k) → hFr [135, 136] h h1 →
          ∃ h', mRuns (d + 2) 75 361 [some (.ref 114), some (.int (zI a)), none, none, none, some (.int (zI q)), some (.int (zI p)), some (.int (zI t)), none] [] h1 (.inl (none, h')) ∧ aEq (h'.1 135) 25 (aHar hd (ps q) p) ∧ h'.1 136 (a + 2).toNat = zI (aWfR B hd (ps q) (bF B 1 q - pt q) p j (t + 1) f') ∧ h'.1 136 (a + 3).toNat = zI (if aCnt (aWfR B hd (ps q) (bF B 1 q - pt q) p j (t + 1) f') ≤ l then 1 else 0) ∧ (∀ k, k ≠ (a + 2).toNat → k ≠ (a + 3).toNat → h'.1 136 k = h.1 136 k) ∧ hFr [135, 136] h h' := by
        intro f' h1 f0' f1' hB1 hM1 h481 hf1 h135 h136 fr1
        have hv1 : h1.1 135 (5 * t + p).toNat = zI (hd (5 * t + p)) := by rw [h135]; exact hv
        obtain ⟨h', r, g1, g2, g3, g4, g5⟩ := ih (t + 1) f' (mPI h1 135 (5 * t + p).toNat (zI (if hd (5 * t + p) + 1 < 99 then hd (5 * t + p) + 1 else 99))) (by omega) (by omega) f0' f1' (BM_of hB1 (fun k h1 _ => by rw [hI_ne (by omega)]) (fun k h1 _ => hI_ne (by omega) _ _ _)) (PM_of hM1 (hI_ne (by omega) _ _ _)) (by rw [hI_ne (by omega)]; exact h481) (by rw [hI_ne (by omega)]; exact hf1) (by
          intro i i0 i1
          show _ = zI (if _ then _ else _)
          by_cases e : i = 5 * t + p
          · rw [e, hI_same, if_pos (show (5 * t + p) / 5 < t + 1 by omega)]; unfold aHar
            rw [if_pos (show (5 * t + p) % 5 = p ∧ aBit (ps q) ((5 * t + p) / 5) ≠ 0 from ⟨by omega, by rw [show (5 * t + p) / 5 = t by omega]; exact c⟩)]
          · rw [hI_off (by omega), h135, hH i i0 i1]
            show zI (if _ then _ else _) = _
            by_cases e2 : i / 5 < t
            · rw [if_pos e2, if_pos (by omega)]
            · rw [if_neg e2]
              by_cases e3 : i / 5 < t + 1
              · rw [if_pos e3]; unfold aHar; rw [if_neg (fun y => by omega)]
              · rw [if_neg e3])
        by_cases full : 99 ≤ hd (5 * t + p)
        · -- nothing is written: the same heap
          have hsame : mPI h1 135 (5 * t + p).toNat (zI (if hd (5 * t + p) + 1 < 99 then hd (5 * t + p) + 1 else 99)) = h1 := by
            rw [if_neg (by omega), show (99 : Int) = hd (5 * t + p) by omega, ← hv1]
            unfold mPI
            have : (fun x y => if x = 135 ∧ y = (5 * t + p).toNat then h1.1 135 (5 * t + p).toNat else h1.1 x y) = h1.1 := by
              funext x y; split
              · rename_i z; rw [z.1, z.2]
              · rfl
            rw [this]
          rw [hsame] at r g4 g5
          refine ⟨h', vc_M_dayGoes_361 ?_, g1, g2, g3, fun k k1 k2 => (g4 k k1 k2).trans (h136 k k1 k2), hFr_trans fr1 g5⟩
          simp (disch := omega) only [zI_add, zI_sub, zI_mul, zI_neg, zI_lit, zI_0, zI_1, zI_lt, zI_le, zI_eq, zI_clamp, zI_inT, zI_ite, mOb_0, mOb_1, mOb_3, mOb_4, mLd_1, mAr_1, mLen_1, mTrue_t, Int.toNat_zero, Int.toNat_one, true_and, and_true, not_true_eq_false, not_false_eq_true, true_or, or_true, or_self, false_or, or_false, forall_const, false_implies, true_implies, implies_true, hv1]
          exact ⟨fun _ => r, fun z => absurd full z⟩
        · have ev : (if hd (5 * t + p) + 1 < 99 then hd (5 * t + p) + 1 else 99) = hd (5 * t + p) + 1 := by split <;> omega
          rw [ev] at r g4 g5
          refine ⟨h', vc_M_dayGoes_361 ?_, g1, g2, g3, fun k k1 k2 => ?_, hFr_trans fr1 (hFr_trans (hFr_pi (hFr_refl _ _) (by simp) _ _) g5)⟩
          · simp (disch := omega) only [zI_add, zI_sub, zI_mul, zI_neg, zI_lit, zI_0, zI_1, zI_lt, zI_le, zI_eq, zI_clamp, zI_inT, zI_ite, mOb_0, mOb_1, mOb_3, mOb_4, mLd_1, mAr_1, mLen_1, mTrue_t, Int.toNat_zero, Int.toNat_one, true_and, and_true, not_true_eq_false, not_false_eq_true, true_or, or_true, or_self, false_or, or_false, forall_const, false_implies, true_implies, implies_true, hv1]
            exact ⟨fun z => absurd z full, fun _ => r⟩
          · rw [g4 k k1 k2, hI_ne (by omega)]; exact h136 k k1 k2
      have es : ∀ f', f' = (if aBit (ps q) t ≠ 0 ∧ aShow B t p 1 (hd (5 * t + p)) ≠ -1 ∧ aShow B t p 1 (hd (5 * t + p)) ≤ bF B 1 q - pt q then aOr f t else f) → aWfR B hd (ps q) (bF B 1 q - pt q) p (j + 1) t f = aWfR B hd (ps q) (bF B 1 q - pt q) p j (t + 1) f' := by
        intro f' hf'; rw [hf']; rfl
      have hbt1 : aBit (ps q) t = 1 := by omega
      by_cases fl : aShow B t p 1 (hd (5 * t + p)) ≠ -1 ∧ aShow B t p 1 (hd (5 * t + p)) ≤ bF B 1 q - pt q
      · rw [es (aOr f t) (by rw [if_pos ⟨c, fl.1, fl.2⟩])]
        obtain ⟨h', r, g1, g2, g3, g4, g5⟩ := grow (aOr f t) (mPI h 136 (a + 2).toNat (zI (aOr f t))) hor.1 hor.2 (BM_of hB (fun k h1 _ => by rw [hI_ne (by omega)]) (fun k h1 _ => hI_ne (by omega) _ _ _)) (PM_of hM (hI_ne (by omega) _ _ _)) (by rw [hI_ne (by omega)]; exact h48) (hI_same _ _ _ _) (hI_ne (by omega) _ _ _) (fun k k1 k2 => hI_off k1 _ _ _ _) (hFr_pi (hFr_refl _ _) (by simp) _ _)
        refine ⟨h', vc_M_dayGoes_260 ?_, g1, g2, g3, g4, g5⟩
        simp (disch := omega) only [zI_add, zI_sub, zI_mul, zI_neg, zI_lit, zI_0, zI_1, zI_lt, zI_le, zI_eq, zI_clamp, zI_inT, zI_ite, mOb_0, mOb_1, mOb_3, mOb_4, mLd_1, mAr_1, mLen_1, mTrue_t, Int.toNat_zero, Int.toNat_one, true_and, and_true, not_true_eq_false, not_false_eq_true, true_or, or_true, or_self, false_or, or_false, forall_const, false_implies, true_implies, implies_true, e3, m1, zI_bit, hbt1, hv]
        refine ⟨fun z => by omega, fun _ => ⟨fun _ => ⟨_, _, s_M_showsBy hB hO t0 (by omega) p0 p1 (by omega) (by omega) h5.1 h5.2, ?_⟩, fun z => by omega⟩⟩
        simp (disch := omega) only [zI_add, zI_sub, zI_mul, zI_neg, zI_lit, zI_0, zI_1, zI_lt, zI_le, zI_eq, zI_clamp, zI_inT, zI_ite, mOb_0, mOb_1, mOb_3, mOb_4, mLd_1, mAr_1, mLen_1, mTrue_t, Int.toNat_zero, Int.toNat_one, true_and, and_true, not_true_eq_false, not_false_eq_true, true_or, or_true, or_self, false_or, or_false, forall_const, false_implies, true_implies, implies_true, m2, a2, hf, zI_shl, zI_or]
        refine ⟨fun z => absurd z fl.1, fun _ => ⟨fun z => by omega, fun _ => r⟩⟩
      · rw [es f (by rw [if_neg (fun y => fl y.2)])]
        obtain ⟨h', r, g1, g2, g3, g4, g5⟩ := grow f h f0 f1 hB hM h48 hf rfl (fun _ _ _ => rfl) (hFr_refl _ _)
        refine ⟨h', vc_M_dayGoes_260 ?_, g1, g2, g3, g4, g5⟩
        simp (disch := omega) only [zI_add, zI_sub, zI_mul, zI_neg, zI_lit, zI_0, zI_1, zI_lt, zI_le, zI_eq, zI_clamp, zI_inT, zI_ite, mOb_0, mOb_1, mOb_3, mOb_4, mLd_1, mAr_1, mLen_1, mTrue_t, Int.toNat_zero, Int.toNat_one, true_and, and_true, not_true_eq_false, not_false_eq_true, true_or, or_true, or_self, false_or, or_false, forall_const, false_implies, true_implies, implies_true, e3, m1, zI_bit, hbt1, hv]
        refine ⟨fun z => by omega, fun _ => ⟨fun _ => ⟨_, _, s_M_showsBy hB hO t0 (by omega) p0 p1 (by omega) (by omega) h5.1 h5.2, ?_⟩, fun z => by omega⟩⟩
        simp (disch := omega) only [zI_add, zI_sub, zI_mul, zI_neg, zI_lit, zI_0, zI_1, zI_lt, zI_le, zI_eq, zI_clamp, zI_inT, zI_ite, mOb_0, mOb_1, mOb_3, mOb_4, mLd_1, mAr_1, mLen_1, mTrue_t, Int.toNat_zero, Int.toNat_one, true_and, and_true, not_true_eq_false, not_false_eq_true, true_or, or_true, or_self, false_or, or_false, forall_const, false_implies, true_implies, implies_true, m2, a2, hf, zI_shl, zI_or]
        refine ⟨fun _ => r, fun z => ⟨fun _ => r, fun y => absurd ⟨z, by omega⟩ fl⟩⟩
theorem s_M_dayGoes {d : Nat} {h : mHp} {B : tB} {C : tC} {ps pt : Int → Int} (hB : BM h B) (hO : BOk B) (hP : pOk B ps pt) (hM : PM h B ps pt) (hC : CM h C) (hK : COk C) (h1 : cO C = 1) (hn : cN C < 300) :
    ∃ h', mRuns (d + 2) 75 0 [some (.ref 114), none, none, none, none, none, none, none, none] [] h (.inl (none, h')) ∧ CM h' (cDay B ps pt C) ∧ hFg 114 [135, 136] [46, 47] h h' := by
  have o := hO.1
  have hD := aDs_rng hO
  have hPs := aPs_rng hO
  obtain ⟨⟨c0, c1, c2, c3⟩, a1, r0, r1, r2, r3⟩ := hC
  rw [if_pos h1] at c0
  obtain ⟨k1, k2, k3, k4, k5, k6, k7, k8, k9⟩ := id hK
  -- the heap with the empty day
  generalize hX : mPI (mPI (mPI (mPI (mPI h 136 (4 * cN C).toNat (zI (-1))) 136 (4 * cN C + 1).toNat (zI (-1))) 136 (4 * cN C + 2).toNat (zI 0)) 136 (4 * cN C + 3).toNat (zI 0)) 114 46 (zI (cN C + 1)) = X
  have fX : hFg 114 [135, 136] [46, 47] h X := by
    rw [← hX]
    exact hFg_pf (hFg_pi (hFg_pi (hFg_pi (hFg_pi (hFg_refl _ _ _ _) (by simp) (by omega) _ _) (by simp) (by omega) _ _) (by simp) (by omega) _ _) (by simp) (by omega) _ _) (by simp) _
  have x47 : X.1 114 47 = cS C := by rw [← hX]; simp (disch := omega) only [hI_off, hI_ne]; exact c1
  have x48 : X.1 114 48 = zI (cL C) := by rw [fX.2.1 48 (by simp)]; exact c2
  have x49 : X.1 114 49 = zI (cH C) := by rw [fX.2.1 49 (by simp)]; exact c3
  have x46 : X.1 114 46 = zI (cN C + 1) := by rw [← hX]; exact hI_same _ _ _ _
  have x135 : X.1 135 = h.1 135 := by rw [← hX]; simp (disch := omega) only [hI_ne]
  have y0 : X.1 136 (4 * cN C).toNat = zI (-1) := by rw [← hX]; simp (disch := omega) only [hI_ne, hI_off, hI_same]
  have y1 : X.1 136 (4 * cN C + 1).toNat = zI (-1) := by rw [← hX]; simp (disch := omega) only [hI_ne, hI_off, hI_same]
  have y2 : X.1 136 (4 * cN C + 2).toNat = zI 0 := by rw [← hX]; simp (disch := omega) only [hI_ne, hI_off, hI_same]
  have y3 : X.1 136 (4 * cN C + 3).toNat = zI 0 := by rw [← hX]; simp (disch := omega) only [hI_ne, hI_off, hI_same]
  have yk : ∀ k, k < (4 * cN C).toNat → X.1 136 k = h.1 136 k := by intro k hk; rw [← hX]; simp (disch := omega) only [hI_ne, hI_off]
  have hBX : BM X B := BM_of hB (fun k z1 z2 => fX.2.1 k (by simp; omega)) (fun k z1 z2 => fX.1 k (by simp; omega) (by omega))
  have hMX : PM X B ps pt := PM_of hM (fX.1 134 (by simp) (by omega))
  have rd := s_M_draw (d := d) (h := X) (n := 1000) (by omega) (by omega)
  rw [x47] at rd
  have vr := aDrV_spec (aDrS (cS C))
  have B1 : ∀ s, BM (mPI X 114 47 s) B := fun s => BM_of hBX (fun k z1 z2 => hI_off (by omega) _ _ _ _) (fun k z1 z2 => hI_ne (by omega) _ _ _)
  have M1 : ∀ s, PM (mPI X 114 47 s) B ps pt := fun s => PM_of hMX (hI_ne (by omega) _ _ _)
  have twice : ∀ s s', mPI (mPI X 114 47 s) 114 47 s' = mPI X 114 47 s' := by
    intro s s'; unfold mPI; simp only [Prod.mk.injEq, and_true]; funext x y; split <;> rfl
  have start : ∀ (h' : mHp), (cH C ≤ aDrV (aDrS (cS C)) % 1000 → h' = mPI X 114 47 (aDrS (cS C))) → (aDrV (aDrS (cS C)) % 1000 < cH C → mRuns (d + 2) 75 73 [some (.ref 114), some (.int (zI (4 * cN C))), some (.int (zI 0)), some (.int (zI 0)), some (.int (zI 0)), none, none, none, none] [] (mPI X 114 47 (aDrS (cS C))) (.inl (none, h'))) → mRuns (d + 2) 75 0 [some (.ref 114), none, none, none, none, none, none, none, none] [] h (.inl (none, h')) := by
    intro h' g1 g2
    refine vc_M_dayGoes ?_
    simp (disch := omega) only [zI_add, zI_sub, zI_mul, zI_neg, zI_lit, zI_0, zI_1, zI_lt, zI_le, zI_eq, zI_clamp, zI_inT, zI_ite, mOb_0, mOb_1, mOb_3, mOb_4, mLd_1, mAr_1, mLen_1, mTrue_t, Int.toNat_zero, Int.toNat_one, true_and, and_true, not_true_eq_false, not_false_eq_true, true_or, or_true, or_self, false_or, or_false, forall_const, false_implies, true_implies, implies_true, c0, hI_ne, hX]
    refine ⟨_, _, rd, ?_⟩
    simp (disch := omega) only [zI_add, zI_sub, zI_mul, zI_neg, zI_lit, zI_0, zI_1, zI_lt, zI_le, zI_eq, zI_clamp, zI_inT, zI_ite, mOb_0, mOb_1, mOb_3, mOb_4, mLd_1, mAr_1, mLen_1, mTrue_t, Int.toNat_zero, Int.toNat_one, true_and, and_true, not_true_eq_false, not_false_eq_true, true_or, or_true, or_self, false_or, or_false, forall_const, false_implies, true_implies, implies_true, hI_off, x49]
    exact ⟨g2, fun z => by rw [g1 (by omega)]⟩
  by_cases g : aDrV (aDrS (cS C)) % 1000 < cH C ∧ 0 < aDs B ∧ 0 < aPs B
  · have hq := dQ_rng hO (cS C) g.2.1
    have hp := dP_rng hO (cS C) g.2.2
    have m1 := Int.emod_nonneg (aDrV (aDrS (aDrS (cS C)))) (show aDs B ≠ 0 by omega)
    have m2 := Int.emod_lt_of_pos (aDrV (aDrS (aDrS (cS C)))) g.2.1
    have m3 := Int.emod_nonneg (aDrV (aDrS (aDrS (aDrS (cS C))))) (show aPs B ≠ 0 by omega)
    have m4 := Int.emod_lt_of_pos (aDrV (aDrS (aDrS (aDrS (cS C))))) g.2.2
    obtain ⟨h', r, f1, f2, f3, f4, f5⟩ := s_M_day_fall (d := d) hO hP k9 (a := 4 * cN C) (q := dQ B (cS C)) (p := dP B (cS C)) (l := cL C) (by omega) (by omega) hq.1 hq.2 hp.1 hp.2 k5 k6 (bT B).toNat 0 0 (mPI (mPI (mPI X 114 47 (aDrS (aDrS (aDrS (cS C))))) 136 (4 * cN C).toNat (zI (dQ B (cS C)))) 136 (4 * cN C + 1).toNat (zI (dP B (cS C)))) (by omega) (by omega) (by omega) (by omega)
      (BM_of (B1 (aDrS (aDrS (aDrS (cS C))))) (fun k z1 z2 => by rw [hI_ne (by omega), hI_ne (by omega)]) (fun k z1 z2 => by rw [hI_ne (by omega), hI_ne (by omega)])) (PM_of (M1 (aDrS (aDrS (aDrS (cS C))))) (by rw [hI_ne (by omega), hI_ne (by omega)])) (by simp (disch := omega) only [hI_ne, hI_off]; exact x48) (by simp (disch := omega) only [hI_ne, hI_off]; exact y2) (by
        intro i i0 i1
        show _ = zI (if _ then _ else _)
        rw [if_neg (by omega)]
        simp (disch := omega) only [hI_ne]
        rw [x135]; exact a1 i i0 i1)
    refine ⟨h', start h' (fun z => absurd g.1 (by omega)) (fun _ => ?_), ?_, ?_⟩
    · refine s_M_day_sum1 (B1 _) hO (bD B).toNat 0 0 (by omega) (by omega) ?_
      rw [Int.zero_add]
      refine s_M_day_sum2 (B1 _) hO hD.1 hD.2 (fun z => by have := g.2; unfold aDs at this hD z; omega) (fun _ _ => ?_) (bP B).toNat 0 0 (by omega) (by omega) (by rw [Int.zero_add]; rfl) (by omega) (by omega)
      rw [hI_same, twice]
      refine s_M_day_pick1 (B1 _) hO g.2.2 (by omega) (bD B).toNat 0 _ (by omega) (by omega) m1 (by unfold aDs at *; omega) m2 ?_
      rw [hI_same, twice]
      refine s_M_day_pick2 (B1 _) hO (by omega) (by omega) (bP B).toNat 0 _ (by omega) (by omega) m3 (by omega) m4 ?_
      exact r
    · unfold cDay; rw [if_pos g]
      have l36 : ∀ k, k ≠ (4 * cN C).toNat → k ≠ (4 * cN C + 1).toNat → k ≠ (4 * cN C + 2).toNat → k ≠ (4 * cN C + 3).toNat → h'.1 136 k = X.1 136 k := by
        intro k z0 z1 z2 z3; rw [f4 k z2 z3, hI_off z1, hI_off z0, hI_ne (by omega)]
      have q14 : ∀ k, h'.1 114 k = (mPI X 114 47 (aDrS (aDrS (aDrS (cS C))))).1 114 k := by
        intro k; rw [f5.1 114 (by simp), hI_ne (by omega), hI_ne (by omega)]
      refine ⟨⟨?_, ?_, ?_, ?_⟩, f1, fun i i0 i1 => ?_, fun i i0 i1 => ?_, fun i i0 i1 => ?_, fun i i0 i1 => ?_⟩
      · rw [q14, hI_off (by omega), x46, cO_push, if_pos h1, cN_push]
      · rw [q14, hI_same]; rfl
      · rw [q14, hI_off (by omega), x48, cL_push]
      · rw [q14, hI_off (by omega), x49, cH_push]
      · rw [cN_push] at i1; rw [cR_push0]; show _ = zI (if _ then _ else _)
        by_cases e : i = cN C
        · rw [if_pos e, e, f4 _ (by omega) (by omega), hI_off (by omega), hI_same]
        · rw [if_neg e, l36 _ (by omega) (by omega) (by omega) (by omega), yk _ (by omega)]; exact r0 i i0 (by omega)
      · rw [cN_push] at i1; rw [cR_push1]; show _ = zI (if _ then _ else _)
        by_cases e : i = cN C
        · rw [if_pos e, e, f4 _ (by omega) (by omega), hI_same]
        · rw [if_neg e, l36 _ (by omega) (by omega) (by omega) (by omega), yk _ (by omega)]; exact r1 i i0 (by omega)
      · rw [cN_push] at i1; rw [cR_push2]; show _ = zI (if _ then _ else _)
        by_cases e : i = cN C
        · rw [if_pos e, e, f2]; rfl
        · rw [if_neg e, l36 _ (by omega) (by omega) (by omega) (by omega), yk _ (by omega)]; exact r2 i i0 (by omega)
      · rw [cN_push] at i1; rw [cR_push3]; show _ = zI (if _ then _ else _)
        by_cases e : i = cN C
        · rw [if_pos e, e, f3]; rfl
        · rw [if_neg e, l36 _ (by omega) (by omega) (by omega) (by omega), yk _ (by omega)]; exact r3 i i0 (by omega)
    · exact hFg_fr (hFg_pi (hFg_pi (hFg_pf fX (by simp) _) (by simp) (by omega) _ _) (by simp) (by omega) _ _) f5 (by simp)
  · refine ⟨mPI X 114 47 (aDrS (cS C)), start _ (fun _ => rfl) (fun z => ?_), ?_, hFg_pf fX (by simp) _⟩
    · refine s_M_day_sum1 (B1 _) hO (bD B).toNat 0 0 (by omega) (by omega) ?_
      rw [Int.zero_add]
      refine s_M_day_sum2 (B1 _) hO hD.1 hD.2 (fun _ => rfl) (fun g1 g2 => absurd ⟨z, g1, g2⟩ g) (bP B).toNat 0 0 (by omega) (by omega) (by rw [Int.zero_add]; rfl) (by omega) (by omega)
    · unfold cDay; rw [if_neg g]
      refine ⟨⟨?_, ?_, ?_, ?_⟩, ?_, fun i i0 i1 => ?_, fun i i0 i1 => ?_, fun i i0 i1 => ?_, fun i i0 i1 => ?_⟩
      · rw [hI_off (by omega), x46, cO_push, if_pos h1, cN_push]
      · rw [hI_same]; rfl
      · rw [hI_off (by omega), x48, cL_push]
      · rw [hI_off (by omega), x49, cH_push]
      · rw [hI_ne (by omega), x135]; exact a1
      · rw [cN_push] at i1; rw [cR_push0, hI_ne (by omega)]; show _ = zI (if _ then _ else _)
        by_cases e : i = cN C
        · rw [if_pos e, e, y0]
        · rw [if_neg e, yk _ (by omega)]; exact r0 i i0 (by omega)
      · rw [cN_push] at i1; rw [cR_push1, hI_ne (by omega)]; show _ = zI (if _ then _ else _)
        by_cases e : i = cN C
        · rw [if_pos e, e, y1]
        · rw [if_neg e, yk _ (by omega)]; exact r1 i i0 (by omega)
      · rw [cN_push] at i1; rw [cR_push2, hI_ne (by omega)]; show _ = zI (if _ then _ else _)
        by_cases e : i = cN C
        · rw [if_pos e, e, y2]
        · rw [if_neg e, yk _ (by omega)]; exact r2 i i0 (by omega)
      · rw [cN_push] at i1; rw [cR_push3, hI_ne (by omega)]; show _ = zI (if _ then _ else _)
        by_cases e : i = cN C
        · rw [if_pos e, e, y3]
        · rw [if_neg e, yk _ (by omega)]; exact r3 i i0 (by omega)

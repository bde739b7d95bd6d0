/-! L3, the board: what a text tells, on both sides; SHOWS -/
abbrev tB : Type := Int × Int × Int × Int × (Int → Int → Int)
def bD (B : tB) : Int := B.1
def bP (B : tB) : Int := B.2.1
def bT (B : tB) : Int := B.2.2.1
def bC (B : tB) : Int := B.2.2.2.1
/-- 0 ready, 1 served, 2 weight of a dish; 3 delay, 4 wine, 5 hardens, 6 weight of a poison; 7 kind, 8 cap of a taster; 9 had -/
def bF (B : tB) (k i : Int) : Int := B.2.2.2.2 k i
def BOk (B : tB) : Prop :=
  (0 ≤ bD B ∧ bD B ≤ 6 ∧ 0 ≤ bP B ∧ bP B ≤ 5 ∧ 0 ≤ bT B ∧ bT B ≤ 5 ∧ 0 ≤ bC B ∧ bC B ≤ 9999) ∧
  (∀ i, 0 ≤ i → i < bD B → 0 ≤ bF B 0 i ∧ bF B 0 i < bF B 1 i ∧ bF B 1 i ≤ 95 ∧ 0 ≤ bF B 2 i ∧ bF B 2 i ≤ 99) ∧
  (∀ i, 0 ≤ i → i < bP B → 1 ≤ bF B 3 i ∧ bF B 3 i ≤ 40 ∧ 0 ≤ bF B 4 i ∧ bF B 4 i ≤ 1 ∧ 0 ≤ bF B 5 i ∧ bF B 5 i ≤ 9 ∧ 0 ≤ bF B 6 i ∧ bF B 6 i ≤ 99) ∧
  (∀ i, 0 ≤ i → i < bT B → 0 ≤ bF B 7 i ∧ bF B 7 i ≤ 4 ∧ 0 ≤ bF B 8 i ∧ bF B 8 i ≤ 6) ∧
  (∀ i, 0 ≤ i → i < 25 → 0 ≤ bF B 9 i ∧ bF B 9 i ≤ 99)
/-- the class's board at b -/
def BC (h : mHp) (b : Nat) (B : tB) : Prop :=
  h.1 b 0 = zI (bD B) ∧ h.1 b 4 = zI (bP B) ∧ h.1 b 9 = zI (bT B) ∧ h.1 b 13 = zI (bC B) ∧
  aEq (h.1 (b + 1)) (bD B) (bF B 0) ∧ aEq (h.1 (b + 2)) (bD B) (bF B 1) ∧ aEq (h.1 (b + 3)) (bD B) (bF B 2) ∧
  aEq (h.1 (b + 4)) (bP B) (bF B 3) ∧ aEq (h.1 (b + 5)) (bP B) (bF B 4) ∧ aEq (h.1 (b + 6)) (bP B) (bF B 5) ∧ aEq (h.1 (b + 7)) (bP B) (bF B 6) ∧
  aEq (h.1 (b + 8)) (bT B) (bF B 7) ∧ aEq (h.1 (b + 9)) (bT B) (bF B 8) ∧ aEq (h.1 (b + 10)) 25 (bF B 9)
/-- the model's board -/
def BM (h : mHp) (B : tB) : Prop :=
  h.1 114 1 = zI (bD B) ∧ h.1 114 2 = zI (bP B) ∧ h.1 114 3 = zI (bT B) ∧ h.1 114 4 = zI (bC B) ∧
  (∀ i, 0 ≤ i → i < bD B → h.1 115 (3 * i).toNat = zI (bF B 0 i)) ∧ (∀ i, 0 ≤ i → i < bD B → h.1 115 (3 * i + 1).toNat = zI (bF B 1 i)) ∧ (∀ i, 0 ≤ i → i < bD B → h.1 115 (3 * i + 2).toNat = zI (bF B 2 i)) ∧
  (∀ i, 0 ≤ i → i < bP B → h.1 116 (4 * i).toNat = zI (bF B 3 i)) ∧ (∀ i, 0 ≤ i → i < bP B → h.1 116 (4 * i + 1).toNat = zI (bF B 4 i)) ∧ (∀ i, 0 ≤ i → i < bP B → h.1 116 (4 * i + 2).toNat = zI (bF B 5 i)) ∧ (∀ i, 0 ≤ i → i < bP B → h.1 116 (4 * i + 3).toNat = zI (bF B 6 i)) ∧
  (∀ i, 0 ≤ i → i < bT B → h.1 117 (2 * i).toNat = zI (bF B 7 i)) ∧ (∀ i, 0 ≤ i → i < bT B → h.1 117 (2 * i + 1).toNat = zI (bF B 8 i)) ∧ aEq (h.1 118) 25 (bF B 9)
def bAd (b : Nat) : Prop := b = 1 ∨ b = 12
theorem bBl_of {b : Nat} (hb : bAd b) : Nat.blt b 142 = true := by rcases hb with rfl | rfl <;> rfl
theorem bSh_of {b : Nat} (hb : bAd b) : mSh b = (0, 0, 0) ∧ mSh (b + 1) = (1, 6, 0) ∧ mSh (b + 2) = (1, 6, 0) ∧ mSh (b + 3) = (1, 6, 0) ∧ mSh (b + 4) = (1, 5, 0) ∧ mSh (b + 5) = (1, 5, 0) ∧ mSh (b + 6) = (1, 5, 0) ∧ mSh (b + 7) = (1, 5, 0) ∧ mSh (b + 8) = (1, 5, 0) ∧ mSh (b + 9) = (1, 5, 0) ∧ mSh (b + 10) = (1, 25, 0) := by
  rcases hb with rfl | rfl <;> decide
theorem BC_of {h h' : mHp} {b : Nat} {B : tB} (hB : BC h b B) (e : ∀ k, k ≤ 10 → h'.1 (b + k) = h.1 (b + k)) : BC h' b B := by
  unfold BC at hB ⊢
  have e0 : h'.1 b = h.1 b := e 0 (by omega)
  rw [e0, e 1 (by omega), e 2 (by omega), e 3 (by omega), e 4 (by omega), e 5 (by omega), e 6 (by omega), e 7 (by omega), e 8 (by omega), e 9 (by omega), e 10 (by omega)]
  exact hB
theorem BM_of {h h' : mHp} {B : tB} (hB : BM h B) (e0 : ∀ k, 1 ≤ k → k ≤ 4 → h'.1 114 k = h.1 114 k) (e : ∀ k, 115 ≤ k → k ≤ 118 → h'.1 k = h.1 k) : BM h' B := by
  unfold BM at hB ⊢
  rw [e0 1 (by omega) (by omega), e0 2 (by omega) (by omega), e0 3 (by omega) (by omega), e0 4 (by omega) (by omega), e 115 (by omega) (by omega), e 116 (by omega) (by omega), e 117 (by omega) (by omega), e 118 (by omega) (by omega)]
  exact hB
/-! SHOWS -/
def aSh (kd dl wn hd tm w : Int) : Int :=
  if 0 < hd ∧ hd ≤ tm then -1 else if wn ≠ 0 ∧ ¬ (kd = 2 ∨ (w ≠ 0 ∧ kd ≠ 3)) then -1
  else if kd = 1 then 2 * dl else if kd = 2 then dl + 4 else if kd = 3 then (dl + 1) / 2 else dl
def aShow (B : tB) (t p w tm : Int) : Int := aSh (bF B 7 t) (bF B 3 p) (bF B 4 p) (bF B 5 p) tm w
def aSho (B : tB) (t p w : Int) : Int := aShow B t p w (bF B 9 (5 * t + p))
theorem aShow_rng {B : tB} (hO : BOk B) {t p w tm : Int} (hp : 0 ≤ p) (hp' : p < bP B) : aShow B t p w tm = -1 ∨ (1 ≤ aShow B t p w tm ∧ aShow B t p w tm ≤ 80) := by
  have h1 := hO.2.2.1 p hp hp'
  unfold aShow aSh
  repeat' split
  all_goals omega
theorem oI {h : mHp} {a b : Int} (e : a = b) : (Sum.inl (some (.int (zI a)), h) : mOut) = .inl (some (.int (zI b)), h) := by rw [e]
theorem s_T_hadIndex {d : Nat} {h : mHp} {t p : Int} : mRuns (d + 1) 154 0 [some (.int (zI t)), some (.int (zI p))] [] h (.inl (some (.int (zI (5 * t + p))), h)) := by
  refine vc_T_hadIndex ?_
  simp (disch := omega) only [zI_add, zI_sub, zI_mul, zI_neg, zI_lit, zI_0, zI_1, zI_lt, zI_le, zI_eq, zI_clamp, zI_inT, zI_ite, mOb_0, mOb_1, mOb_3, mOb_4, mLd_1, mAr_1, mLen_1, mTrue_t, Int.toNat_zero, Int.toNat_one, true_and, and_true, not_true_eq_false, not_false_eq_true, true_or, or_true, or_self, false_or, or_false, forall_const, false_implies, true_implies, implies_true]
  exact oI (by omega)
theorem s_Brd_show4 {d : Nat} {h : mHp} {b : Nat} {B : tB} (hb : bAd b) (hB : BC h b B) (hO : BOk B) {t p w tm : Int} (ht : 0 ≤ t) (ht' : t < bT B) (hp : 0 ≤ p) (hp' : p < bP B) (hw : 0 ≤ w) (hw' : w ≤ 1) (hm : 0 ≤ tm) (hm' : tm ≤ 99) :
    mRuns (d + 1) 89 0 [some (.ref b), some (.int (zI t)), some (.int (zI p)), some (.int (zI w)), some (.int (zI tm)), none] [] h (.inl (some (.int (zI (aShow B t p w tm))), h)) := by
  obtain ⟨s0, s1, s2, s3, s4, s5, s6, s7, s8, s9, s10⟩ := bSh_of hb
  obtain ⟨e0, e4, e9, e13, a1, a2, a3, a4, a5, a6, a7, a8, a9, a10⟩ := hB
  obtain ⟨o1, -, o3, o4, -⟩ := hO
  have o3 := o3 p hp hp'
  have o4 := o4 t ht ht'
  refine vc_Brd_showTicks4 ?_
  repeat' (first | simp (disch := omega) only [zI_add, zI_sub, zI_mul, zI_neg, zI_lit, zI_0, zI_1, zI_lt, zI_le, zI_eq, zI_clamp, zI_inT, zI_ite, mOb_0, mOb_1, mOb_3, mOb_4, mLd_1, mAr_1, mLen_1, mTrue_t, Int.toNat_zero, Int.toNat_one, true_and, and_true, not_true_eq_false, not_false_eq_true, true_or, or_true, or_self, false_or, or_false, forall_const, false_implies, true_implies, implies_true, s0, s4, s5, s6, s8, a4, a5, a6, a8, zI_div] | refine And.intro ?_ ?_ | with_reducible intro _ | refine vc_Brd_showTicks4_22 ?_ | refine vc_Brd_showTicks4_51 ?_ | refine vc_Brd_showTicks4_69 ?_)
  all_goals first | omega | exact oI (by unfold aShow aSh; repeat' split; all_goals omega)
theorem s_Brd_show {d : Nat} {h : mHp} {b : Nat} {B : tB} (hb : bAd b) (hB : BC h b B) (hO : BOk B) {t p w : Int} (ht : 0 ≤ t) (ht' : t < bT B) (hp : 0 ≤ p) (hp' : p < bP B) (hw : 0 ≤ w) (hw' : w ≤ 1) :
    mRuns (d + 2) 88 0 [some (.ref b), some (.int (zI t)), some (.int (zI p)), some (.int (zI w))] [] h (.inl (some (.int (zI (aSho B t p w))), h)) := by
  obtain ⟨s0, s1, s2, s3, s4, s5, s6, s7, s8, s9, s10⟩ := bSh_of hb
  have a10 : aEq (h.1 (b + 10)) 25 (bF B 9) := hB.2.2.2.2.2.2.2.2.2.2.2.2.2
  have o1 := hO.1
  have o5 := hO.2.2.2.2 (5 * t + p) (by omega) (by omega)
  refine vc_Brd_showTicks ?_
  simp (disch := omega) only [zI_add, zI_sub, zI_mul, zI_neg, zI_lit, zI_0, zI_1, zI_lt, zI_le, zI_eq, zI_clamp, zI_inT, zI_ite, mOb_0, mOb_1, mOb_3, mOb_4, mLd_1, mAr_1, mLen_1, mTrue_t, Int.toNat_zero, Int.toNat_one, true_and, and_true, not_true_eq_false, not_false_eq_true, true_or, or_true, or_self, false_or, or_false, forall_const, false_implies, true_implies, implies_true, s0, s10]
  refine ⟨_, _, s_T_hadIndex, ?_⟩
  simp (disch := omega) only [zI_add, zI_sub, zI_mul, zI_neg, zI_lit, zI_0, zI_1, zI_lt, zI_le, zI_eq, zI_clamp, zI_inT, zI_ite, mOb_0, mOb_1, mOb_3, mOb_4, mLd_1, mAr_1, mLen_1, mTrue_t, Int.toNat_zero, Int.toNat_one, true_and, and_true, not_true_eq_false, not_false_eq_true, true_or, or_true, or_self, false_or, or_false, forall_const, false_implies, true_implies, implies_true, a10]
  exact ⟨_, _, s_Brd_show4 hb hB hO ht ht' hp hp' hw hw' o5.1 o5.2, rfl⟩
theorem s_M_showsBy {d : Nat} {h : mHp} {B : tB} (hB : BM h B) (hO : BOk B) {t p w tm : Int} (ht : 0 ≤ t) (ht' : t < bT B) (hp : 0 ≤ p) (hp' : p < bP B) (hw : 0 ≤ w) (hw' : w ≤ 1) (hm : 0 ≤ tm) (hm' : tm ≤ 99) :
    mRuns (d + 1) 41 0 [some (.ref 114), some (.int (zI t)), some (.int (zI p)), some (.int (zI w)), some (.int (zI tm)), none, none, none] [] h (.inl (some (.int (zI (aShow B t p w tm))), h)) := by
  obtain ⟨e1, e2, e3, e4, a1, a2, a3, a4, a5, a6, a7, a8, a9, a10⟩ := hB
  obtain ⟨o1, -, o3, o4, -⟩ := hO
  have o3 := o3 p hp hp'
  have o4 := o4 t ht ht'
  refine vc_M_showsBy ?_
  repeat' (first | simp (disch := omega) only [zI_add, zI_sub, zI_mul, zI_neg, zI_lit, zI_0, zI_1, zI_lt, zI_le, zI_eq, zI_clamp, zI_inT, zI_ite, mOb_0, mOb_1, mOb_3, mOb_4, mLd_1, mAr_1, mLen_1, mTrue_t, Int.toNat_zero, Int.toNat_one, true_and, and_true, not_true_eq_false, not_false_eq_true, true_or, or_true, or_self, false_or, or_false, forall_const, false_implies, true_implies, implies_true, a4, a5, a6, a8, zI_div] | refine And.intro ?_ ?_ | with_reducible intro _ | refine vc_M_showsBy_31 ?_ | refine vc_M_showsBy_54 ?_ | refine vc_M_showsBy_84 ?_)
  all_goals first | omega | exact oI (by unfold aShow aSh; repeat' split; all_goals omega)
theorem s_M_showsNow {d : Nat} {h : mHp} {B : tB} (hB : BM h B) (hO : BOk B) {t p w : Int} (ht : 0 ≤ t) (ht' : t < bT B) (hp : 0 ≤ p) (hp' : p < bP B) (hw : 0 ≤ w) (hw' : w ≤ 1) :
    mRuns (d + 2) 40 0 [some (.ref 114), some (.int (zI t)), some (.int (zI p)), some (.int (zI w))] [] h (.inl (some (.int (zI (aSho B t p w))), h)) := by
  have a10 : aEq (h.1 118) 25 (bF B 9) := hB.2.2.2.2.2.2.2.2.2.2.2.2.2
  have o1 := hO.1
  have o5 := hO.2.2.2.2 (5 * t + p) (by omega) (by omega)
  refine vc_M_showsNow ?_
  simp (disch := omega) only [zI_add, zI_sub, zI_mul, zI_neg, zI_lit, zI_0, zI_1, zI_lt, zI_le, zI_eq, zI_clamp, zI_inT, zI_ite, mOb_0, mOb_1, mOb_3, mOb_4, mLd_1, mAr_1, mLen_1, mTrue_t, Int.toNat_zero, Int.toNat_one, true_and, and_true, not_true_eq_false, not_false_eq_true, true_or, or_true, or_self, false_or, or_false, forall_const, false_implies, true_implies, implies_true, a10]
  exact ⟨_, _, s_M_showsBy hB hO ht ht' hp hp' hw hw' o5.1 o5.2, rfl⟩

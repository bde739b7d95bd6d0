/-! L3, events: the class's log, the model's row of events -/
abbrev tE : Type := Int × (Int → Int → Int)
def eN (E : tE) : Int := E.1
/-- 0 who, 1 dish (-1: he fell), 2 tick, 3 wine -/
def eF (E : tE) (k i : Int) : Int := E.2 k i
def eAdd (E : tE) (t d k w : Int) : tE := (E.1 + 1, fun f i => if i = E.1 then (if f = 0 then t else if f = 1 then d else if f = 2 then k else w) else E.2 f i)
def eDrop (E : tE) : tE := (E.1 - 1, E.2)
theorem eN_add (E : tE) (t d k w : Int) : eN (eAdd E t d k w) = eN E + 1 := rfl
theorem eF_add0 (E : tE) (t d k w i : Int) : eF (eAdd E t d k w) 0 i = if i = eN E then t else eF E 0 i := rfl
theorem eF_add1 (E : tE) (t d k w i : Int) : eF (eAdd E t d k w) 1 i = if i = eN E then d else eF E 1 i := rfl
theorem eF_add2 (E : tE) (t d k w i : Int) : eF (eAdd E t d k w) 2 i = if i = eN E then k else eF E 2 i := rfl
theorem eF_add3 (E : tE) (t d k w i : Int) : eF (eAdd E t d k w) 3 i = if i = eN E then w else eF E 3 i := rfl
theorem eN_drop (E : tE) : eN (eDrop E) = eN E - 1 := rfl
theorem eF_drop (E : tE) (k i : Int) : eF (eDrop E) k i = eF E k i := rfl
/-- NOW -/
def aNowR (E : tE) : Nat → Int → Int → Int
  | 0, _, v => v
  | j + 1, i, v => aNowR E j (i + 1) (if v < eF E 2 i then eF E 2 i else v)
def aNow (E : tE) : Int := aNowR E (eN E).toNat 0 0
/-- when he fell -/
def aFellR (E : tE) (t : Int) : Nat → Int → Int
  | 0, _ => -1
  | j + 1, i => if eF E 0 i = t ∧ eF E 1 i = -1 then eF E 2 i else aFellR E t j (i + 1)
def aFell (E : tE) (t : Int) : Int := aFellR E t (eN E).toNat 0
def EOk (B : tB) (E : tE) : Prop :=
  (0 ≤ eN E ∧ eN E ≤ 60) ∧
  (∀ i, 0 ≤ i → i < eN E → 0 ≤ eF E 0 i ∧ eF E 0 i < bT B ∧ -1 ≤ eF E 1 i ∧ eF E 1 i < bD B ∧ 0 ≤ eF E 2 i ∧ eF E 2 i ≤ 999 ∧ 0 ≤ eF E 3 i ∧ eF E 3 i ≤ 1) ∧
  (∀ m, 0 ≤ m → m < eN E → eF E 1 m = -1 → aFellR E (eF E 0 m) m.toNat 0 = -1)
theorem aNowR_rng {E : tE} {n : Int} (hE : ∀ i, 0 ≤ i → i < n → 0 ≤ eF E 2 i ∧ eF E 2 i ≤ 999) : ∀ (j : Nat) (i v : Int), 0 ≤ i → i + j ≤ n → 0 ≤ v → v ≤ 999 → 0 ≤ aNowR E j i v ∧ aNowR E j i v ≤ 999 := by
  intro j
  induction j with
  | zero => intro i v _ _ h1 h2; exact ⟨h1, h2⟩
  | succ j ih =>
    intro i v h0 hj h1 h2
    have := hE i h0 (by omega)
    refine ih (i + 1) _ (by omega) (by omega) ?_ ?_ <;> split <;> omega
theorem aNow_rng {B : tB} {E : tE} (hE : EOk B E) : 0 ≤ aNow E ∧ aNow E ≤ 999 :=
  aNowR_rng (n := eN E) (fun i h0 h1 => by have := hE.2.1 i h0 h1; omega) _ 0 0 (by omega) (by have := hE.1; omega) (by omega) (by omega)
theorem aFellR_rng {E : tE} {t n : Int} (hE : ∀ i, 0 ≤ i → i < n → 0 ≤ eF E 2 i ∧ eF E 2 i ≤ 999) : ∀ (j : Nat) (i : Int), 0 ≤ i → i + j ≤ n → -1 ≤ aFellR E t j i ∧ aFellR E t j i ≤ 999 := by
  intro j
  induction j with
  | zero => intro i _ _; unfold aFellR; omega
  | succ j ih =>
    intro i h0 hj
    have := hE i h0 (by omega)
    unfold aFellR
    split
    · omega
    · exact ih (i + 1) (by omega) (by omega)
theorem aFell_rng {B : tB} {E : tE} (hE : EOk B E) (t : Int) : -1 ≤ aFell E t ∧ aFell E t ≤ 999 :=
  aFellR_rng (n := eN E) (fun i h0 h1 => by have := hE.2.1 i h0 h1; omega) _ 0 (by omega) (by have := hE.1; omega)
theorem aFellR_snoc {E : tE} {t n : Int} (hE : ∀ i, 0 ≤ i → i < n → 0 ≤ eF E 2 i) : ∀ (j : Nat) (i : Int), 0 ≤ i → i + j < n → aFellR E t (j + 1) i = if aFellR E t j i = -1 then (if eF E 0 (i + j) = t ∧ eF E 1 (i + j) = -1 then eF E 2 (i + j) else -1) else aFellR E t j i := by
  intro j
  induction j with
  | zero =>
    intro i h0 hj
    have e : i + ((0 : Nat) : Int) = i := by omega
    simp only [aFellR, e, ↓reduceIte]
  | succ j ih =>
    intro i h0 hj
    have e : i + 1 + (j : Int) = i + ((j + 1 : Nat) : Int) := by omega
    have := ih (i + 1) (by omega) (by omega)
    rw [e] at this
    have hh := hE i h0 (by omega)
    rw [aFellR, this]
    by_cases c : eF E 0 i = t ∧ eF E 1 i = -1
    · have h9 : ¬ eF E 2 i = -1 := by omega
      simp only [aFellR, c, and_self, ↓reduceIte, h9]
    · simp only [aFellR, c, ↓reduceIte]
theorem aFellR_cong {E E' : tE} {t : Int} {n : Int} (h : ∀ k i, 0 ≤ i → i < n → eF E' k i = eF E k i) : ∀ (j : Nat) (i : Int), 0 ≤ i → i + j ≤ n → aFellR E' t j i = aFellR E t j i := by
  intro j
  induction j with
  | zero => intro i _ _; rfl
  | succ j ih =>
    intro i h0 hj
    unfold aFellR
    rw [h 0 i h0 (by omega), h 1 i h0 (by omega), h 2 i h0 (by omega), ih (i + 1) (by omega) (by omega)]
theorem eF_pre (E : tE) (t d k w : Int) : ∀ f i, 0 ≤ i → i < eN E → eF (eAdd E t d k w) f i = eF E f i := by
  intro f i _ h
  have : i ≠ E.1 := by have : eN E = E.1 := rfl; omega
  show (if i = E.1 then _ else _) = _
  rw [if_neg this]; rfl
theorem aFell_add {B : tB} {E : tE} (hE : EOk B E) {t d k w : Int} (hk : 0 ≤ k) (x : Int) : aFell (eAdd E t d k w) x = if aFell E x = -1 then (if t = x ∧ d = -1 then k else -1) else aFell E x := by
  have h0 := hE.1
  have hn : (eN (eAdd E t d k w)).toNat = (eN E).toNat + 1 := by rw [eN_add]; omega
  have hp := eF_pre E t d k w
  unfold aFell
  rw [hn, aFellR_snoc (n := eN E + 1) (fun i h1 h2 => by
    rw [eF_add2]; split
    · exact hk
    · exact (hE.2.1 i h1 (by omega)).2.2.2.2.1) _ 0 (by omega) (by omega), aFellR_cong hp _ 0 (by omega) (by omega)]
  have e : (0 : Int) + ((eN E).toNat : Int) = eN E := by omega
  rw [e, eF_add0, eF_add1, eF_add2]
  simp only [↓reduceIte]
theorem aFell_drop {B : tB} {E : tE} (hE : EOk B E) (hn : 0 < eN E) (x : Int) : aFell (eDrop E) x = if eF E 0 (eN E - 1) = x ∧ eF E 1 (eN E - 1) = -1 then -1 else aFell E x := by
  have h0 := hE.1
  have h1 : (eN E).toNat = (eN E - 1).toNat + 1 := by omega
  have h2 : aFell (eDrop E) x = aFellR E x (eN E - 1).toNat 0 := by
    unfold aFell; rw [eN_drop]
    exact aFellR_cong (E := E) (E' := eDrop E) (n := eN E) (fun _ _ _ _ => rfl) (eN E - 1).toNat 0 (by omega) (by omega)
  have h3 : aFell E x = aFellR E x ((eN E - 1).toNat + 1) 0 := by unfold aFell; rw [h1]
  have e : (0 : Int) + ((eN E - 1).toNat : Int) = eN E - 1 := by omega
  rw [aFellR_snoc (n := eN E) (fun i h1 h2 => (hE.2.1 i h1 h2).2.2.2.2.1) _ 0 (by omega) (by omega), e] at h3
  rw [h2, h3]
  by_cases c : eF E 0 (eN E - 1) = x ∧ eF E 1 (eN E - 1) = -1
  · have h4 := hE.2.2 (eN E - 1) (by omega) (by omega) c.2
    rw [c.1] at h4
    simp only [c, and_self, ↓reduceIte, h4]
  · simp only [c, ↓reduceIte]
    split
    · assumption
    · rfl
theorem EOk_drop {B : tB} {E : tE} (hE : EOk B E) (hn : 0 < eN E) : EOk B (eDrop E) := by
  obtain ⟨h1, h2, h3⟩ := hE
  have e := eN_drop E
  refine ⟨⟨by omega, by omega⟩, fun i a b => by simp only [eF_drop]; exact h2 i a (by omega), fun m a b c => ?_⟩
  simp only [eF_drop] at c ⊢
  rw [← h3 m a (by omega) c]
  exact aFellR_cong (E := E) (E' := eDrop E) (n := eN E) (fun _ _ _ _ => rfl) m.toNat 0 (by omega) (by omega)
theorem EOk_add {B : tB} {E : tE} (hE : EOk B E) {t d k w : Int} (hn : eN E < 60) (ht : 0 ≤ t) (ht' : t < bT B) (hd : -1 ≤ d) (hd' : d < bD B) (hk : 0 ≤ k) (hk' : k ≤ 999) (hw : 0 ≤ w) (hw' : w ≤ 1) (hf : d = -1 → aFell E t = -1) : EOk B (eAdd E t d k w) := by
  have hp := eF_pre E t d k w
  obtain ⟨h1, h2, h3⟩ := hE
  have e := eN_add E t d k w
  refine ⟨⟨by omega, by omega⟩, fun i a b => ?_, fun m a b c => ?_⟩
  · by_cases hi : i = eN E
    · simp only [eF_add0, eF_add1, eF_add2, eF_add3, hi, ↓reduceIte]; omega
    · simp only [eF_add0, eF_add1, eF_add2, eF_add3, hi, ↓reduceIte]; exact h2 i a (by omega)
  · by_cases hi : m = eN E
    · rw [eF_add1, if_pos hi] at c
      rw [eF_add0, if_pos hi, aFellR_cong hp _ 0 (by omega) (by omega), hi]
      exact hf c
    · rw [eF_add1, if_neg hi] at c
      rw [eF_add0, if_neg hi, aFellR_cong hp _ 0 (by omega) (by omega)]
      exact h3 m a (by omega) c
/-! the class's log -/
def lAd (l : Nat) : Prop := l = 90 ∨ l = 96
theorem lBl_of {l : Nat} (hl : lAd l) : Nat.blt l 142 = true := by rcases hl with rfl | rfl <;> rfl
theorem lSh_of {l : Nat} (hl : lAd l) : mSh l = (0, 3, 0) ∧ mSh (l + 1) = (1, 60, 0) ∧ mSh (l + 2) = (1, 60, 0) ∧ mSh (l + 3) = (1, 60, 0) ∧ mSh (l + 4) = (1, 60, 0) ∧ mSh (l + 5) = (1, 5, 0) := by
  rcases hl with rfl | rfl <;> decide
def LPf (h : mHp) (l : Nat) (E : tE) : Prop :=
  h.1 l 0 = zI (eN E) ∧ aEq (h.1 (l + 1)) (eN E) (eF E 0) ∧ aEq (h.1 (l + 2)) (eN E) (eF E 1) ∧ aEq (h.1 (l + 3)) (eN E) (eF E 2) ∧ aEq (h.1 (l + 4)) (eN E) (eF E 3)
def LC (h : mHp) (l : Nat) (E : tE) : Prop := LPf h l E ∧ aEq (h.1 (l + 5)) 5 (aFell E)
theorem LC_of {h h' : mHp} {l : Nat} {E : tE} (hL : LC h l E) (e : ∀ k, k ≤ 5 → h'.1 (l + k) = h.1 (l + k)) : LC h' l E := by
  unfold LC LPf at hL ⊢
  have e0 : h'.1 l = h.1 l := e 0 (by omega)
  rw [e0, e 1 (by omega), e 2 (by omega), e 3 (by omega), e 4 (by omega), e 5 (by omega)]
  exact hL
theorem s_Log_latest_loop {d : Nat} {h : mHp} {l : Nat} {B : tB} {E : tE} (hl : lAd l) (hL : LC h l E) (hE : EOk B E) : ∀ (j : Nat) (i v : Int), i + j = eN E → 0 ≤ i → 0 ≤ v → v ≤ 999 →
    mRuns (d + 1) 82 4 [some (.ref l), some (.int (zI v)), some (.int (zI i))] [] h (.inl (some (.int (zI (aNowR E j i v))), h)) := by
  obtain ⟨s0, s1, s2, s3, s4, s5⟩ := lSh_of hl
  obtain ⟨⟨e0, a1, a2, a3, a4⟩, a5⟩ := hL
  have hn := hE.1
  intro j
  induction j with
  | zero =>
    intro i v hi h0 h1 h2
    refine vc_Log_latestTick_4 ?_
    simp (disch := omega) only [zI_add, zI_sub, zI_mul, zI_neg, zI_lit, zI_0, zI_1, zI_lt, zI_le, zI_eq, zI_clamp, zI_inT, zI_ite, mOb_0, mOb_1, mOb_3, mOb_4, mLd_1, mAr_1, mLen_1, mTrue_t, Int.toNat_zero, Int.toNat_one, true_and, and_true, not_true_eq_false, not_false_eq_true, true_or, or_true, or_self, false_or, or_false, forall_const, false_implies, true_implies, implies_true, s0, e0]
    repeat' (first | refine And.intro ?_ ?_ | with_reducible intro _)
    all_goals first | omega | rfl
  | succ j ih =>
    intro i v hi h0 h1 h2
    have hh := hE.2.1 i h0 (by omega)
    refine vc_Log_latestTick_4 ?_
    simp (disch := omega) only [zI_add, zI_sub, zI_mul, zI_neg, zI_lit, zI_0, zI_1, zI_lt, zI_le, zI_eq, zI_clamp, zI_inT, zI_ite, mOb_0, mOb_1, mOb_3, mOb_4, mLd_1, mAr_1, mLen_1, mTrue_t, Int.toNat_zero, Int.toNat_one, true_and, and_true, not_true_eq_false, not_false_eq_true, true_or, or_true, or_self, false_or, or_false, forall_const, false_implies, true_implies, implies_true, s0, s3, e0, a3]
    refine ⟨fun z => absurd z (by omega), fun _ => ?_⟩
    refine ih (i + 1) _ (by omega) (by omega) ?_ ?_ <;> split <;> omega
theorem s_Log_latest {d : Nat} {h : mHp} {l : Nat} {B : tB} {E : tE} (hl : lAd l) (hL : LC h l E) (hE : EOk B E) :
    mRuns (d + 1) 82 0 [some (.ref l), none, none] [] h (.inl (some (.int (zI (aNow E))), h)) := by
  have hn := hE.1
  refine vc_Log_latestTick ?_
  simp (disch := omega) only [zI_add, zI_sub, zI_mul, zI_neg, zI_lit, zI_0, zI_1, zI_lt, zI_le, zI_eq, zI_clamp, zI_inT, zI_ite, mOb_0, mOb_1, mOb_3, mOb_4, mLd_1, mAr_1, mLen_1, mTrue_t, Int.toNat_zero, Int.toNat_one, true_and, and_true, not_true_eq_false, not_false_eq_true, true_or, or_true, or_self, false_or, or_false, forall_const, false_implies, true_implies, implies_true]
  exact s_Log_latest_loop hl hL hE _ 0 0 (by omega) (by omega) (by omega) (by omega)

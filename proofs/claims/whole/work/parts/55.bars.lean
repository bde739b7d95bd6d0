/-! L3, bars: witnesses -/
def aWn1 (B : tB) (q p t : Int) : Int := if bF B 7 t ≠ 4 ∧ aSho B t p 1 ≠ -1 ∧ aSho B t p 1 ≤ bF B 1 q - bF B 0 q then 1 else 0
def aWn (B : tB) (q p : Int) : Int := sS (aWn1 B q p) (bT B).toNat 0
def bRp (B : tB) (l q : Int) : Nat → Int → Int
  | 0, _ => -1
  | j + 1, p => if aWn B q p ≤ l then 10 * q + p else bRp B l q j (p + 1)
def bRq (B : tB) (l : Int) : Nat → Int → Int
  | 0, _ => -1
  | j + 1, q => if bRp B l q (bP B).toNat 0 = -1 then bRq B l j (q + 1) else bRp B l q (bP B).toNat 0
theorem aCsR_all {B : tB} {s l : Int} : ∀ (j : Nat) (p v : Int), aCsR B s l j p v ≠ -1 → v ≤ aCsR B s l j p v ∧ ∀ x, p ≤ x → x < p + j → aTk B s x l ≠ -1 ∧ aTk B s x l ≤ aCsR B s l j p v := by
  intro j
  induction j with
  | zero => intro p v _; exact ⟨Int.le_refl _, fun x a b => by omega⟩
  | succ j ih =>
    intro p v h
    unfold aCsR at h ⊢
    by_cases e : aTk B s p l = -1
    · rw [if_pos e] at h; exact absurd rfl h
    · rw [if_neg e] at h ⊢
      obtain ⟨k1, k2⟩ := ih (p + 1) _ h
      have m : v ≤ aMax v (aTk B s p l) ∧ aTk B s p l ≤ aMax v (aTk B s p l) := by unfold aMax; split <;> omega
      refine ⟨by omega, fun x a b => ?_⟩
      by_cases y : x = p
      · rw [y]; exact ⟨e, by omega⟩
      · exact k2 x (by omega) (by omega)
theorem plan_wt {B : tB} (hO : BOk B) {l q p : Int} (hl : 0 ≤ l) (hl' : l ≤ 2) (h : (fPl B l (-1)).1 = 1) (q0 : 0 ≤ q) (q1 : q < bD B) (p0 : 0 ≤ p) (p1 : p < bP B) : l < aWn B q p := by
  have o := hO.1
  have o2 := hO.2.1 q q0 q1
  obtain ⟨s0, s1, k0, k1, s2⟩ := fPl_row hO hl hl' h q0 q1
  generalize (fPl B l (-1)).2.2.2 q = s at *
  obtain ⟨f0, f1, fS⟩ := aFr_spec hO (w := -1)
  have hd : aDif s (aFr B (-1)) = 0 := by
    apply Classical.byContradiction; intro n
    unfold aK at k0; rw [if_neg n] at k0; omega
  have e : aK B l (-1) s = aCs B s l := by unfold aK; rw [if_pos hd]
  rw [e] at k0 k1
  have := (aCsR_all (B := B) (s := s) (l := l) (bP B).toNat 0 0 (by show aCs B s l ≠ -1; omega)).2 p p0 (by omega)
  have this : aTk B s p l ≠ -1 ∧ aTk B s p l ≤ aCs B s l := this
  obtain ⟨c1, c2, c3⟩ := aTk_char hO (s := s) p0 p1 hl hl'
  have := (c3 (bF B 1 q - bF B 0 q) (by omega) (by omega)).mp ⟨this.1, by omega⟩
  have le : aLc B s p (bF B 1 q - bF B 0 q) ≤ aWn B q p := by
    unfold aLc aWn
    refine sS_le _ _ (fun t t0 t1 => ?_)
    unfold aLe aWn1
    by_cases c : aBit s t = 1 ∧ aSho B t p 1 ≠ -1 ∧ aSho B t p 1 ≤ bF B 1 q - bF B 0 q
    · have := (fS t t0 (by omega)).mp ((aDif_0 _ _).mp hd t t0 (by omega) c.1)
      rw [if_pos c, if_pos ⟨this.2.2, c.2⟩]; omega
    · rw [if_neg c]; split <;> omega
  omega
theorem bRp_none {B : tB} {l q : Int} (h : ∀ p, 0 ≤ p → p < bP B → l < aWn B q p) : ∀ (j : Nat) (p : Int), 0 ≤ p → p + j ≤ bP B → bRp B l q j p = -1 := by
  intro j
  induction j with
  | zero => intro p _ _; rfl
  | succ j ih => intro p a b; unfold bRp; rw [if_neg (by have := h p a (by omega); omega)]; exact ih _ (by omega) (by omega)
theorem bRq_none {B : tB} {l : Int} (hO : BOk B) (h : ∀ q p, 0 ≤ q → q < bD B → 0 ≤ p → p < bP B → l < aWn B q p) : ∀ (j : Nat) (q : Int), 0 ≤ q → q + j ≤ bD B → bRq B l j q = -1 := by
  have o := hO.1
  intro j
  induction j with
  | zero => intro q _ _; rfl
  | succ j ih => intro q a b; unfold bRq; rw [if_pos (bRp_none (fun p x y => h q p a (by omega) x y) _ _ (by omega) (by omega))]; exact ih _ (by omega) (by omega)
def rBars (B : tB) (l : Int) : Int × Int := if ¬ (0 ≤ l ∧ l ≤ 2) then (1, 0) else if (fPl B l (-1)).1 = 1 then (0, -1) else if bRq B l (bD B).toNat 0 = -1 then (0, 99) else (0, bRq B l (bD B).toNat 0)
/-! the model's -/
theorem s_M_bars_t {d : Nat} {h : mHp} {B : tB} (hB : BM h B) (hO : BOk B) {l q p : Int} (hl : 0 ≤ l) (hl' : l ≤ 2) (q0 : 0 ≤ q) (q1 : q < bD B) (p0 : 0 ≤ p) (p1 : p < bP B) {out : mOut} : ∀ (j : Nat) (t v : Int), t + j = bT B → 0 ≤ t → 0 ≤ v → v ≤ t →
    (l < v + sS (aWn1 B q p) j t → mRuns (d + 3) 54 39 [some (.ref 114), some (.int (zI l)), some (.int (zI q)), some (.int (zI (p + 1))), none, none, none] [] h out) → (¬ l < v + sS (aWn1 B q p) j t → out = .inl (some (.int (zI (10 * q + p))), h)) →
    mRuns (d + 3) 54 53 [some (.ref 114), some (.int (zI l)), some (.int (zI q)), some (.int (zI p)), some (.int (zI v)), some (.int (zI t)), none] [] h out := by
  have o := hO.1
  obtain ⟨e1, e2, e3, e4, a1, a2, a3, a4, a5, a6, a7, a8, a9, a10⟩ := id hB
  have o2 := hO.2.1 q q0 q1
  intro j
  induction j with
  | zero =>
    intro t v ht t0 v0 v1 hy hn
    rw [show sS (aWn1 B q p) 0 t = 0 from rfl, Int.add_zero] at hy hn
    refine vc_M_bars_53 ?_
    simp (disch := omega) only [zI_add, zI_sub, zI_mul, zI_neg, zI_lit, zI_0, zI_1, zI_lt, zI_le, zI_eq, zI_clamp, zI_inT, zI_ite, mOb_0, mOb_1, mOb_3, mOb_4, mLd_1, mAr_1, mLen_1, mTrue_t, Int.toNat_zero, Int.toNat_one, true_and, and_true, not_true_eq_false, not_false_eq_true, true_or, or_true, or_self, false_or, or_false, forall_const, false_implies, true_implies, implies_true, e3]
    exact ⟨fun _ => ⟨hy, hn⟩, fun z => by omega⟩
  | succ j ih =>
    intro t v ht t0 v0 v1 hy hn
    have hs := aShow_rng (t := t) (w := 1) (tm := bF B 9 (5 * t + p)) hO p0 p1
    have hs : aSho B t p 1 = -1 ∨ (1 ≤ aSho B t p 1 ∧ aSho B t p 1 ≤ 80) := hs
    have o4 := hO.2.2.2.1 t t0 (by omega)
    rw [sS_s] at hy hn
    have nx := ih (t + 1) (v + aWn1 B q p t) (by omega) (by omega) (by unfold aWn1; split <;> omega) (by unfold aWn1; split <;> omega) (fun z => hy (by omega)) (fun z => hn (by omega))
    unfold aWn1 at nx
    refine vc_M_bars_53 ?_
    simp (disch := omega) only [zI_add, zI_sub, zI_mul, zI_neg, zI_lit, zI_0, zI_1, zI_lt, zI_le, zI_eq, zI_clamp, zI_inT, zI_ite, mOb_0, mOb_1, mOb_3, mOb_4, mLd_1, mAr_1, mLen_1, mTrue_t, Int.toNat_zero, Int.toNat_one, true_and, and_true, not_true_eq_false, not_false_eq_true, true_or, or_true, or_self, false_or, or_false, forall_const, false_implies, true_implies, implies_true, e3, a8]
    refine ⟨fun z => by omega, fun _ => ⟨fun y => ⟨_, _, s_M_showsNow hB hO t0 (by omega) p0 p1 (by omega) (by omega), vc_M_bars_87 ?_⟩, fun y => vc_M_bars_87 ?_⟩⟩
    · simp (disch := omega) only [zI_add, zI_sub, zI_mul, zI_neg, zI_lit, zI_0, zI_1, zI_lt, zI_le, zI_eq, zI_clamp, zI_inT, zI_ite, mOb_0, mOb_1, mOb_3, mOb_4, mLd_1, mAr_1, mLen_1, mTrue_t, Int.toNat_zero, Int.toNat_one, true_and, and_true, not_true_eq_false, not_false_eq_true, true_or, or_true, or_self, false_or, or_false, forall_const, false_implies, true_implies, implies_true, a1, a2]
      refine ⟨fun z => ?_, fun z => ⟨fun x => ?_, fun x => ?_⟩⟩
      · rw [if_neg (fun c => c.2.1 z)] at nx; exact nx
      · rw [if_neg (fun c => by omega)] at nx; exact nx
      · rw [if_pos ⟨y, z, by omega⟩] at nx; exact nx
    · rw [if_neg (fun c => c.1 y)] at nx
      simp (disch := omega) only [zI_add, zI_sub, zI_mul, zI_neg, zI_lit, zI_0, zI_1, zI_lt, zI_le, zI_eq, zI_clamp, zI_inT, zI_ite, mOb_0, mOb_1, mOb_3, mOb_4, mLd_1, mAr_1, mLen_1, mTrue_t, Int.toNat_zero, Int.toNat_one, true_and, and_true, not_true_eq_false, not_false_eq_true, true_or, or_true, or_self, false_or, or_false, forall_const, false_implies, true_implies, implies_true]
      repeat' (first | refine And.intro ?_ ?_ | with_reducible intro _)
      all_goals first | omega | exact nx
theorem s_M_bars_p {d : Nat} {h : mHp} {B : tB} (hB : BM h B) (hO : BOk B) {l q : Int} (hl : 0 ≤ l) (hl' : l ≤ 2) (q0 : 0 ≤ q) (q1 : q < bD B) {out : mOut} : ∀ (j : Nat) (p : Int), p + j = bP B → 0 ≤ p →
    (bRp B l q j p = -1 → mRuns (d + 3) 54 29 [some (.ref 114), some (.int (zI l)), some (.int (zI (q + 1))), none, none, none, none] [] h out) → (bRp B l q j p ≠ -1 → out = .inl (some (.int (zI (bRp B l q j p))), h)) →
    mRuns (d + 3) 54 39 [some (.ref 114), some (.int (zI l)), some (.int (zI q)), some (.int (zI p)), none, none, none] [] h out := by
  have o := hO.1
  have e2 := hB.2.1
  intro j
  induction j with
  | zero =>
    intro p hp p0 hy hn
    have hy := hy rfl
    refine vc_M_bars_39 ?_
    simp (disch := omega) only [zI_add, zI_sub, zI_mul, zI_neg, zI_lit, zI_0, zI_1, zI_lt, zI_le, zI_eq, zI_clamp, zI_inT, zI_ite, mOb_0, mOb_1, mOb_3, mOb_4, mLd_1, mAr_1, mLen_1, mTrue_t, Int.toNat_zero, Int.toNat_one, true_and, and_true, not_true_eq_false, not_false_eq_true, true_or, or_true, or_self, false_or, or_false, forall_const, false_implies, true_implies, implies_true, e2]
    exact ⟨fun _ => hy, fun z => by omega⟩
  | succ j ih =>
    intro p hp p0 hy hn
    unfold bRp at hy hn
    refine vc_M_bars_39 ?_
    simp (disch := omega) only [zI_add, zI_sub, zI_mul, zI_neg, zI_lit, zI_0, zI_1, zI_lt, zI_le, zI_eq, zI_clamp, zI_inT, zI_ite, mOb_0, mOb_1, mOb_3, mOb_4, mLd_1, mAr_1, mLen_1, mTrue_t, Int.toNat_zero, Int.toNat_one, true_and, and_true, not_true_eq_false, not_false_eq_true, true_or, or_true, or_self, false_or, or_false, forall_const, false_implies, true_implies, implies_true, e2]
    refine ⟨fun z => by omega, fun _ => s_M_bars_t hB hO hl hl' q0 q1 p0 (by omega) (bT B).toNat 0 0 (by omega) (by omega) (by omega) (by omega) (fun z => ?_) (fun z => ?_)⟩
    · rw [Int.zero_add] at z
      have z : l < aWn B q p := z
      rw [if_neg (by omega)] at hy hn
      exact ih (p + 1) (by omega) (by omega) hy hn
    · rw [Int.zero_add] at z
      have z : ¬ l < aWn B q p := z
      rw [if_pos (by omega)] at hn
      exact hn (by omega)
theorem s_M_bars_q {d : Nat} {h : mHp} {B : tB} (hB : BM h B) (hO : BOk B) {l : Int} (hl : 0 ≤ l) (hl' : l ≤ 2) : ∀ (j : Nat) (q : Int), q + j = bD B → 0 ≤ q →
    mRuns (d + 3) 54 29 [some (.ref 114), some (.int (zI l)), some (.int (zI q)), none, none, none, none] [] h (.inl (some (.int (zI (if bRq B l j q = -1 then 99 else bRq B l j q))), h)) := by
  have o := hO.1
  have e1 := hB.1
  intro j
  induction j with
  | zero =>
    intro q hq q0
    refine vc_M_bars_29 ?_
    rw [if_pos (show bRq B l 0 q = -1 from rfl)]
    simp (disch := omega) only [zI_add, zI_sub, zI_mul, zI_neg, zI_lit, zI_0, zI_1, zI_lt, zI_le, zI_eq, zI_clamp, zI_inT, zI_ite, mOb_0, mOb_1, mOb_3, mOb_4, mLd_1, mAr_1, mLen_1, mTrue_t, Int.toNat_zero, Int.toNat_one, true_and, and_true, not_true_eq_false, not_false_eq_true, true_or, or_true, or_self, false_or, or_false, forall_const, false_implies, true_implies, implies_true, e1]
    repeat' (first | refine And.intro ?_ ?_ | with_reducible intro _)
    all_goals first | omega | rfl
  | succ j ih =>
    intro q hq q0
    refine vc_M_bars_29 ?_
    unfold bRq
    simp (disch := omega) only [zI_add, zI_sub, zI_mul, zI_neg, zI_lit, zI_0, zI_1, zI_lt, zI_le, zI_eq, zI_clamp, zI_inT, zI_ite, mOb_0, mOb_1, mOb_3, mOb_4, mLd_1, mAr_1, mLen_1, mTrue_t, Int.toNat_zero, Int.toNat_one, true_and, and_true, not_true_eq_false, not_false_eq_true, true_or, or_true, or_self, false_or, or_false, forall_const, false_implies, true_implies, implies_true, e1]
    refine ⟨fun z => by omega, fun _ => s_M_bars_p hB hO hl hl' q0 (by omega) (bP B).toNat 0 (by omega) (by omega) (fun z => ?_) (fun z => ?_)⟩
    · rw [if_pos z]; exact ih (q + 1) (by omega) (by omega)
    · rw [if_neg z, if_neg z]
theorem s_M_bars {d : Nat} {h : mHp} {B : tB} {l : Int} (hB : BM h B) (hO : BOk B) (hP : PW h) (l1 : -2147483648 ≤ l) (l2 : l < 2147483648) :
    ∃ h', mRuns (d + 6) 54 0 [some (.ref 114), some (.int (zI l)), none, none, none, none, none] [] h (.inl (some (.int (zI (rBars B l).2)), h')) ∧ h'.1 114 0 = zI (rBars B l).1 ∧ hFg 114 [125, 126, 127, 128] [0, 32, 33, 39, 40] h h' := by
  have o := hO.1
  have F0 : hFg 114 [125, 126, 127, 128] [0, 32, 33, 39, 40] h (mPI h 114 0 (zI 0)) := hFg_pf (hFg_refl _ _ _ _) (by simp) _
  have B0 := BM_of (h' := mPI h 114 0 (zI 0)) hB (fun k _ _ => hI_off (by omega) _ _ _ _) (fun k _ _ => hI_ne (by omega) _ _ _)
  have t0 : (mPI h 114 0 (zI 0)).1 114 0 = zI 0 := hI_same _ _ _ _
  have il := s_M_isLies (d := d + 3) (w := 1) t0 l1 l2 (by omega) (by omega)
  by_cases cl : 0 ≤ l ∧ l ≤ 2
  · rw [if_pos cl] at il
    obtain ⟨h1, r1, X1, C1, M1, G1⟩ := s_M_plans (d := d) hO cl.1 cl.2 (Or.inl ⟨rfl, rfl⟩ : bMk (-1) 0) B0 (PW_of hP (hI_ne (by omega) _ _ _))
    have G1' : hFg 114 [125, 126, 127, 128] [0, 32, 33, 39, 40] h h1 := hFg_trans F0 (hFg_mono G1 (by simp) (by simp))
    have B1 := BM_fg0 hB G1' (by simp) (by simp)
    have r2 := s_M_bars_q (d := d + 3) B1 hO cl.1 cl.2 (bD B).toNat 0 (by omega) (by omega)
    rcases (fPl_good B l (-1)).1 with e | e
    · have hr : rBars B l = (0, if bRq B l (bD B).toNat 0 = -1 then 99 else bRq B l (bD B).toNat 0) := by
        unfold rBars; rw [if_neg (fun z => z cl), if_neg (show ¬ (fPl B l (-1)).1 = 1 by omega)]; split <;> rfl
      rw [hr]
      refine ⟨h1, vc_M_bars ?_, by rw [G1.2.1 0 (by simp), t0], G1'⟩
      rw [e] at r1
      simp (disch := omega) only [zI_add, zI_sub, zI_mul, zI_neg, zI_lit, zI_0, zI_1, zI_lt, zI_le, zI_eq, zI_clamp, zI_inT, zI_ite, mOb_0, mOb_1, mOb_3, mOb_4, mLd_1, mAr_1, mLen_1, mTrue_t, Int.toNat_zero, Int.toNat_one, true_and, and_true, not_true_eq_false, not_false_eq_true, true_or, or_true, or_self, false_or, or_false, forall_const, false_implies, true_implies, implies_true]
      refine ⟨_, _, il, ?_⟩
      simp (disch := omega) only [zI_add, zI_sub, zI_mul, zI_neg, zI_lit, zI_0, zI_1, zI_lt, zI_le, zI_eq, zI_clamp, zI_inT, zI_ite, mOb_0, mOb_1, mOb_3, mOb_4, mLd_1, mAr_1, mLen_1, mTrue_t, Int.toNat_zero, Int.toNat_one, true_and, and_true, not_true_eq_false, not_false_eq_true, true_or, or_true, or_self, false_or, or_false, forall_const, false_implies, true_implies, implies_true]
      refine ⟨fun _ => ⟨_, _, r1, ?_⟩, fun z => by omega⟩
      simp (disch := omega) only [zI_add, zI_sub, zI_mul, zI_neg, zI_lit, zI_0, zI_1, zI_lt, zI_le, zI_eq, zI_clamp, zI_inT, zI_ite, mOb_0, mOb_1, mOb_3, mOb_4, mLd_1, mAr_1, mLen_1, mTrue_t, Int.toNat_zero, Int.toNat_one, true_and, and_true, not_true_eq_false, not_false_eq_true, true_or, or_true, or_self, false_or, or_false, forall_const, false_implies, true_implies, implies_true]
      repeat' (first | refine And.intro ?_ ?_ | with_reducible intro _)
      all_goals first | omega | exact r2
    · have hr : rBars B l = (0, -1) := by unfold rBars; rw [if_neg (fun z => z cl), if_pos e]
      rw [hr]
      refine ⟨h1, vc_M_bars ?_, by rw [G1.2.1 0 (by simp), t0], G1'⟩
      rw [e] at r1
      simp (disch := omega) only [zI_add, zI_sub, zI_mul, zI_neg, zI_lit, zI_0, zI_1, zI_lt, zI_le, zI_eq, zI_clamp, zI_inT, zI_ite, mOb_0, mOb_1, mOb_3, mOb_4, mLd_1, mAr_1, mLen_1, mTrue_t, Int.toNat_zero, Int.toNat_one, true_and, and_true, not_true_eq_false, not_false_eq_true, true_or, or_true, or_self, false_or, or_false, forall_const, false_implies, true_implies, implies_true]
      refine ⟨_, _, il, ?_⟩
      simp (disch := omega) only [zI_add, zI_sub, zI_mul, zI_neg, zI_lit, zI_0, zI_1, zI_lt, zI_le, zI_eq, zI_clamp, zI_inT, zI_ite, mOb_0, mOb_1, mOb_3, mOb_4, mLd_1, mAr_1, mLen_1, mTrue_t, Int.toNat_zero, Int.toNat_one, true_and, and_true, not_true_eq_false, not_false_eq_true, true_or, or_true, or_self, false_or, or_false, forall_const, false_implies, true_implies, implies_true]
      refine ⟨fun _ => ⟨_, _, r1, ?_⟩, fun z => by omega⟩
      simp (disch := omega) only [zI_add, zI_sub, zI_mul, zI_neg, zI_lit, zI_0, zI_1, zI_lt, zI_le, zI_eq, zI_clamp, zI_inT, zI_ite, mOb_0, mOb_1, mOb_3, mOb_4, mLd_1, mAr_1, mLen_1, mTrue_t, Int.toNat_zero, Int.toNat_one, true_and, and_true, not_true_eq_false, not_false_eq_true, true_or, or_true, or_self, false_or, or_false, forall_const, false_implies, true_implies, implies_true]
      repeat' (first | refine And.intro ?_ ?_ | with_reducible intro _)
      all_goals first | omega | rfl
  · rw [if_neg cl] at il
    have hr : rBars B l = (1, 0) := by unfold rBars; rw [if_pos cl]
    rw [hr]
    refine ⟨mPI (mPI h 114 0 (zI 0)) 114 0 (zI 1), vc_M_bars ?_, hI_same _ _ _ _, hFg_pf F0 (by simp) _⟩
    simp (disch := omega) only [zI_add, zI_sub, zI_mul, zI_neg, zI_lit, zI_0, zI_1, zI_lt, zI_le, zI_eq, zI_clamp, zI_inT, zI_ite, mOb_0, mOb_1, mOb_3, mOb_4, mLd_1, mAr_1, mLen_1, mTrue_t, Int.toNat_zero, Int.toNat_one, true_and, and_true, not_true_eq_false, not_false_eq_true, true_or, or_true, or_self, false_or, or_false, forall_const, false_implies, true_implies, implies_true]
    refine ⟨_, _, il, ?_⟩
    simp (disch := omega) only [zI_add, zI_sub, zI_mul, zI_neg, zI_lit, zI_0, zI_1, zI_lt, zI_le, zI_eq, zI_clamp, zI_inT, zI_ite, mOb_0, mOb_1, mOb_3, mOb_4, mLd_1, mAr_1, mLen_1, mTrue_t, Int.toNat_zero, Int.toNat_one, true_and, and_true, not_true_eq_false, not_false_eq_true, true_or, or_true, or_self, false_or, or_false, forall_const, false_implies, true_implies, implies_true]
    repeat' (first | refine And.intro ?_ ?_ | with_reducible intro _)
    all_goals first | omega | rfl

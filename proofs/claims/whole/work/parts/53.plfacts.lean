/-! L3, what is so of every plan that is found -/
def goodSt (B : tB) (l w : Int) (st : tP) : Prop := (st.1 = 0 ∨ st.1 = 1) ∧ (st.1 = 1 → ∃ co, vCo B l w co < 1023 ∧ st = (1, aCnt co, vCo B l w co, rCo B l w co))
theorem goodSt_try {B : tB} {l w : Int} {st : tP} (h : goodSt B l w st) (co : Int) : goodSt B l w (fTry B l w st co) := by
  unfold fTry
  split
  · rename_i c; exact ⟨Or.inr rfl, fun _ => ⟨co, c.1, rfl⟩⟩
  · exact h
theorem goodSt_co {B : tB} {l w sz : Int} : ∀ (n : Nat) (co : Int) (st : tP), goodSt B l w st → goodSt B l w (fCo B l w sz n co st) := by
  intro n
  induction n with
  | zero => intro co st h; exact h
  | succ n ih =>
    intro co st h
    refine ih (co + 1) _ ?_
    split
    · exact goodSt_try h co
    · exact h
theorem goodSt_sz {B : tB} {l w : Int} : ∀ (n : Nat) (sz : Int) (st : tP), goodSt B l w st → goodSt B l w (fSz B l w n sz st) := by
  intro n
  induction n with
  | zero => intro sz st h; exact h
  | succ n ih =>
    intro sz st h
    unfold fSz
    split
    · exact ih _ _ (goodSt_co _ _ _ h)
    · exact h
theorem fPl_good (B : tB) (l w : Int) : goodSt B l w (fPl B l w) := goodSt_sz _ _ _ ⟨Or.inl rfl, fun z => absurd z (by show ¬ (0 : Int) = 1; omega)⟩
theorem aRw_ok {K : Int → Int} (hK : kOk K) {T : Nat → Int} {top : Int} : ∀ (j : Nat) (c : Int → Int) (i : Nat), i < j → aL K T top j c < top → K (aRw K T top j c i) ≠ -1 ∧ K (aRw K T top j c i) ≤ T (j - 1 - i) := by
  intro j
  induction j with
  | zero => intro c i h; omega
  | succ j ih =>
    intro c i hi h
    obtain ⟨a, b, p, q⟩ := aSel_spec h
    cases i with
    | zero => exact ⟨p.1.1, p.1.2.1⟩
    | succ i =>
      have := ih (cSub c (aSel K T top j c)) i (by omega) (by have := p.2; have := hK _ a b; have := p.1.1; omega)
      rw [show j - 1 - i = j + 1 - 1 - (i + 1) by omega] at this
      exact this
theorem fPl_row {B : tB} (hO : BOk B) {l w : Int} (hl : 0 ≤ l) (hl' : l ≤ 2) (h : (fPl B l w).1 = 1) {i : Int} (i0 : 0 ≤ i) (i1 : i < bD B) : 0 ≤ (fPl B l w).2.2.2 i ∧ (fPl B l w).2.2.2 i < 32 ∧ 0 ≤ aK B l w ((fPl B l w).2.2.2 i) ∧ aK B l w ((fPl B l w).2.2.2 i) ≤ bF B 1 i - bF B 0 i ∧ (fPl B l w).2.2.2 i < aPow (bT B) := by
  obtain ⟨co, hv, e⟩ := (fPl_good B l w).2 h
  have hK := kOk_B hO (w := w) hl hl'
  have r := rCo_on B l w co i i0 i1
  have k := aRw_ok hK (T := tmB B) (top := 1023) (bD B).toNat (cC B co) i.toNat (by omega) hv
  rw [tm_of (q := i) i0 (by omega)] at k
  have k : aK B l w (rCo B l w co i) ≠ -1 ∧ aK B l w (rCo B l w co i) ≤ bF B 1 i - bF B 0 i := k
  rw [e]
  show 0 ≤ rCo B l w co i ∧ rCo B l w co i < 32 ∧ 0 ≤ aK B l w (rCo B l w co i) ∧ aK B l w (rCo B l w co i) ≤ bF B 1 i - bF B 0 i ∧ rCo B l w co i < aPow (bT B)
  have := hK _ r.1 r.2
  refine ⟨r.1, r.2, by omega, k.2, ?_⟩
  have : aDif (rCo B l w co i) (aFr B w) = 0 := by
    apply Classical.byContradiction; intro n
    exact k.1 (by unfold aK; rw [if_neg n])
  exact free_small hO r.1 r.2 this
theorem fPl_num {B : tB} (hO : BOk B) {l w : Int} (hl : 0 ≤ l) (hl' : l ≤ 2) (h : (fPl B l w).1 = 1) : 0 ≤ (fPl B l w).2.1 ∧ (fPl B l w).2.1 ≤ 5 ∧ 0 ≤ (fPl B l w).2.2.1 ∧ (fPl B l w).2.2.1 < 1023 := by
  obtain ⟨co, hv, e⟩ := (fPl_good B l w).2 h
  have hK := kOk_B hO (w := w) hl hl'
  have c := aCnt_rng co
  have v : 0 ≤ vCo B l w co := aL_nn hK (T := tmB B) (top := 1023) (by omega) _ _
  rw [e]
  exact ⟨c.1, c.2, v, hv⟩
theorem fPl_pOk {B : tB} (hO : BOk B) {l w : Int} (hl : 0 ≤ l) (hl' : l ≤ 2) (h : (fPl B l w).1 = 1) : pOk B (fPl B l w).2.2.2 (pTk B l w) := by
  intro i i0 i1
  have o := hO.1
  have hp := aPow_le o.2.2.2.2.1 o.2.2.2.2.2.1
  have r := fPl_row hO hl hl' h i0 i1
  have o2 := hO.2.1 i i0 i1
  have e : pTk B l w i = bF B 1 i - aK B l w ((fPl B l w).2.2.2 i) := rfl
  rw [e]
  exact ⟨r.1, r.2.1, by omega, by omega, (small_iff (by omega) (by omega) r.1 r.2.1).mp r.2.2.2.2⟩
theorem fPl_kd {B : tB} (hO : BOk B) {l w : Int} (hl : 0 ≤ l) (hl' : l ≤ 2) (h : (fPl B l w).1 = 1) {i : Int} (i0 : 0 ≤ i) (i1 : i < bD B) : bF B 1 i - aKd B l w i ((fPl B l w).2.2.2 i) = pTk B l w i := by
  have r := fPl_row hO hl hl' h i0 i1
  show _ = bF B 1 i - aK B l w ((fPl B l w).2.2.2 i)
  unfold aKd; rw [if_neg (by omega)]
theorem s_M_isLies {d : Nat} {h : mHp} (h0 : h.1 114 0 = zI 0) {a w : Int} (a1 : -2147483648 ≤ a) (a2 : a < 2147483648) (w1 : 1 ≤ w) (w9 : w ≤ 9) :
    mRuns (d + 2) 43 0 [some (.ref 114), some (.int (zI a)), some (.int (zI w))] [] h (if 0 ≤ a ∧ a ≤ 2 then .inl (some (.int (zI 1)), h) else .inl (some (.int (zI 0)), mPI h 114 0 (zI w))) := by
  refine vc_M_isLies ⟨_, _, s_M_within (a := a) (b := 0) (c := 2) a1 a2 (by omega) (by omega) (by omega) (by omega), ?_⟩
  by_cases c : 0 ≤ a ∧ a ≤ 2
  · rw [if_pos c, if_pos c]
    exact ⟨_, _, s_M_right_t h0 rfl, Or.inr rfl, rfl⟩
  · rw [if_neg c, if_neg c]
    exact ⟨_, _, s_M_right_f h0 w1 w9, Or.inl rfl, rfl⟩
def KM (h : mHp) (B : tB) (k : Int) : Prop := (k = -1 ∧ h.1 114 38 = zI 0) ∨ (0 ≤ k ∧ k ≤ 2 ∧ (fPl B k (-1)).1 = 1 ∧ h.1 114 38 = zI 1 ∧ (∀ i, 0 ≤ i → i < bD B → h.1 130 (2 * i).toNat = zI ((fPl B k (-1)).2.2.2 i)) ∧ (∀ i, 0 ≤ i → i < bD B → h.1 130 (2 * i + 1).toNat = zI (pTk B k (-1) i)))
theorem KM_of {h h' : mHp} {B : tB} {k : Int} (hK : KM h B k) (e0 : h'.1 114 38 = h.1 114 38) (e1 : h'.1 130 = h.1 130) : KM h' B k := by unfold KM at hK ⊢; rw [e0, e1]; exact hK
def rPlan (B : tB) (l x : Int) : Int × Int := if ¬ (x = 0 ∨ x = 1) then (1, 0) else if ¬ (0 ≤ l ∧ l ≤ 2) then (2, 0) else if (fPl B l (-1)).1 = 0 then (0, -1) else (0, if x = 0 then (fPl B l (-1)).2.1 else (fPl B l (-1)).2.2.1)
def kPlan (B : tB) (k l x : Int) : Int := if (x = 0 ∨ x = 1) ∧ (0 ≤ l ∧ l ≤ 2) ∧ (fPl B l (-1)).1 = 1 then l else k
theorem s_M_plan_loop {d : Nat} {B : tB} (hO : BOk B) {l x : Int} (hl : 0 ≤ l) (hl' : l ≤ 2) (hx : x = 0 ∨ x = 1) (hf : (fPl B l (-1)).1 = 1) : ∀ (j : Nat) (i : Int) (h : mHp), i + j = bD B → 0 ≤ i → BM h B → MC h B l (-1) → MX h B (fPl B l (-1)) → h.1 114 40 = zI (fPl B l (-1)).2.1 → (∀ y, 0 ≤ y → y < i → h.1 130 (2 * y).toNat = zI ((fPl B l (-1)).2.2.2 y)) → (∀ y, 0 ≤ y → y < i → h.1 130 (2 * y + 1).toNat = zI (pTk B l (-1) y)) →
    ∃ h', mRuns (d + 1) 42 56 [some (.ref 114), none, some (.int (zI x)), some (.int (zI i))] [] h (.inl (some (.int (zI (if x = 0 then (fPl B l (-1)).2.1 else (fPl B l (-1)).2.2.1))), h')) ∧ (∀ y, 0 ≤ y → y < bD B → h'.1 130 (2 * y).toNat = zI ((fPl B l (-1)).2.2.2 y)) ∧ (∀ y, 0 ≤ y → y < bD B → h'.1 130 (2 * y + 1).toNat = zI (pTk B l (-1) y)) ∧ hFr [130] h h' := by
  have o := hO.1
  intro j
  induction j with
  | zero =>
    intro i h hi i0 hB hM hX h40 k1 k2
    have e1 := hB.1
    obtain ⟨g1, g2, g3, g4, g5⟩ := hX.2 hf
    refine ⟨h, vc_M_plan_56 ?_, fun y a b => k1 y a (by omega), fun y a b => k2 y a (by omega), hFr_refl _ _⟩
    rcases hx with rfl | rfl
    · simp (disch := omega) only [zI_add, zI_sub, zI_mul, zI_neg, zI_lit, zI_0, zI_1, zI_lt, zI_le, zI_eq, zI_clamp, zI_inT, zI_ite, mOb_0, mOb_1, mOb_3, mOb_4, mLd_1, mAr_1, mLen_1, mTrue_t, Int.toNat_zero, Int.toNat_one, true_and, and_true, not_true_eq_false, not_false_eq_true, true_or, or_true, or_self, false_or, or_false, forall_const, false_implies, true_implies, implies_true, e1, g1, h40]
      repeat' (first | refine And.intro ?_ ?_ | with_reducible intro _)
      all_goals first | omega | rfl
    · simp (disch := omega) only [zI_add, zI_sub, zI_mul, zI_neg, zI_lit, zI_0, zI_1, zI_lt, zI_le, zI_eq, zI_clamp, zI_inT, zI_ite, mOb_0, mOb_1, mOb_3, mOb_4, mLd_1, mAr_1, mLen_1, mTrue_t, Int.toNat_zero, Int.toNat_one, true_and, and_true, not_true_eq_false, not_false_eq_true, true_or, or_true, or_self, false_or, or_false, forall_const, false_implies, true_implies, implies_true, e1, g1, h40]
      repeat' (first | refine And.intro ?_ ?_ | with_reducible intro _)
      all_goals first | omega | rfl
  | succ j ih =>
    intro i h hi i0 hB hM hX h40 k1 k2
    have e1 := hB.1
    obtain ⟨f1, f2, f3, f4, a1, a2, a3, a4, a5, a6, a7, a8, a9, a10⟩ := id hB
    obtain ⟨g1, g2, g3, g4, g5⟩ := hX.2 hf
    have r := fPl_row hO hl hl' hf i0 (show i < bD B by omega)
    have hMs := hM i _ i0 (by omega) r.1 r.2.2.2.2
    have kd := fPl_kd hO hl hl' hf i0 (show i < bD B by omega)
    have gi := g4 i i0 (by omega)
    obtain ⟨h', r', p1, p2, p3⟩ := ih (i + 1) (mPI (mPI h 130 (2 * i).toNat (zI ((fPl B l (-1)).2.2.2 i))) 130 (2 * i + 1).toNat (zI (pTk B l (-1) i))) (by omega) (by omega) (BM_of hB (fun k _ _ => by rw [hI_ne (by omega), hI_ne (by omega)]) (fun k _ _ => by rw [hI_ne (by omega), hI_ne (by omega)])) (MC_of hM (by rw [hI_ne (by omega), hI_ne (by omega)])) (MX_of hX (by rw [hI_ne (by omega), hI_ne (by omega)]) (by rw [hI_ne (by omega), hI_ne (by omega)])) (by rw [hI_ne (by omega), hI_ne (by omega)]; exact h40) (fun y a b => by
        by_cases e : y = i
        · rw [e, hI_off (by omega), hI_same]
        · rw [hI_off (by omega), hI_off (by omega)]; exact k1 y a (by omega)) (fun y a b => by
        by_cases e : y = i
        · rw [e, hI_same]
        · rw [hI_off (by omega), hI_off (by omega)]; exact k2 y a (by omega))
    refine ⟨h', vc_M_plan_56 ?_, p1, p2, hFr_trans (hFr_pi (hFr_pi (hFr_refl _ _) (by simp) _ _) (by simp) _ _) p3⟩
    simp (disch := omega) only [zI_add, zI_sub, zI_mul, zI_neg, zI_lit, zI_0, zI_1, zI_lt, zI_le, zI_eq, zI_clamp, zI_inT, zI_ite, mOb_0, mOb_1, mOb_3, mOb_4, mLd_1, mAr_1, mLen_1, mTrue_t, Int.toNat_zero, Int.toNat_one, true_and, and_true, not_true_eq_false, not_false_eq_true, true_or, or_true, or_self, false_or, or_false, forall_const, false_implies, true_implies, implies_true, e1, gi, hI_ne, a2, hMs, kd]
    repeat' (first | refine And.intro ?_ ?_ | with_reducible intro _)
    all_goals first | omega | exact r'
theorem BM_fg0 {h h' : mHp} {B : tB} {l fs : List Nat} (hB : BM h B) (f : hFg 114 l fs h h') (hl : ∀ x, x ∈ l → 119 ≤ x) (hf : ∀ k, k ∈ fs → k = 0 ∨ 5 ≤ k) : BM h' B :=
  BM_of hB (fun k a b => f.2.1 k (fun z => by have := hf k z; omega)) (fun k a b => f.1 k (fun z => by have := hl k z; omega) (by omega))
theorem s_M_plan {d : Nat} {h : mHp} {B : tB} {k l x : Int} (hB : BM h B) (hO : BOk B) (hP : PW h) (hK : KM h B k) (l1 : -2147483648 ≤ l) (l2 : l < 2147483648) (x1 : -2147483648 ≤ x) (x2 : x < 2147483648) :
    ∃ h', mRuns (d + 6) 42 0 [some (.ref 114), some (.int (zI l)), some (.int (zI x)), none] [] h (.inl (some (.int (zI (rPlan B l x).2)), h')) ∧ h'.1 114 0 = zI (rPlan B l x).1 ∧ KM h' B (kPlan B k l x) ∧ hFg 114 [125, 126, 127, 128, 130] [0, 32, 33, 38, 39, 40] h h' := by
  have o := hO.1
  have F0 : hFg 114 [125, 126, 127, 128, 130] [0, 32, 33, 38, 39, 40] h (mPI h 114 0 (zI 0)) := hFg_pf (hFg_refl _ _ _ _) (by simp) _
  have B0 := BM_of (h' := mPI h 114 0 (zI 0)) hB (fun k _ _ => hI_off (by omega) _ _ _ _) (fun k _ _ => hI_ne (by omega) _ _ _)
  have t0 : (mPI h 114 0 (zI 0)).1 114 0 = zI 0 := hI_same _ _ _ _
  have mid : ∀ out, (x = 0 ∨ x = 1) → mRuns (d + 6) 42 20 [some (.ref 114), some (.int (zI l)), some (.int (zI x)), none] [.int (zI 1), .ref 114] (mPI h 114 0 (zI 0)) out → mRuns (d + 6) 42 0 [some (.ref 114), some (.int (zI l)), some (.int (zI x)), none] [] h out := by
    intro out cx r
    refine vc_M_plan ?_
    simp (disch := omega) only [zI_add, zI_sub, zI_mul, zI_neg, zI_lit, zI_0, zI_1, zI_lt, zI_le, zI_eq, zI_clamp, zI_inT, zI_ite, mOb_0, mOb_1, mOb_3, mOb_4, mLd_1, mAr_1, mLen_1, mTrue_t, Int.toNat_zero, Int.toNat_one, true_and, and_true, not_true_eq_false, not_false_eq_true, true_or, or_true, or_self, false_or, or_false, forall_const, false_implies, true_implies, implies_true]
    repeat' (first | refine And.intro ?_ ?_ | with_reducible intro _)
    all_goals first | omega | exact r
  have rt := s_M_right_t (d := d + 4) (w := 1) t0 (a := 1) rfl
  by_cases cx : x = 0 ∨ x = 1
  · have il := s_M_isLies (d := d + 3) (w := 2) t0 l1 l2 (by omega) (by omega)
    by_cases cl : 0 ≤ l ∧ l ≤ 2
    · rw [if_pos cl] at il
      obtain ⟨h1, r1, X1, C1, M1, G1⟩ := s_M_plans (d := d) hO cl.1 cl.2 (Or.inl ⟨rfl, rfl⟩ : bMk (-1) 0) B0 (PW_of hP (hI_ne (by omega) _ _ _))
      have G1' : hFg 114 [125, 126, 127, 128, 130] [0, 32, 33, 38, 39, 40] h h1 := hFg_trans F0 (hFg_mono G1 (by simp) (by simp))
      rcases (fPl_good B l (-1)).1 with e | e
      · have hr : rPlan B l x = (0, -1) := by unfold rPlan; rw [if_neg (fun z => z cx), if_neg (fun z => z cl), if_pos e]
        have hk : kPlan B k l x = k := by unfold kPlan; rw [if_neg (fun z => by have := z.2.2; omega)]
        rw [hr, hk]
        refine ⟨h1, mid _ cx (vc_M_plan_20 ?_), by rw [G1.2.1 0 (by simp), t0], KM_of hK (by rw [G1.2.1 38 (by simp), hI_off (by omega)]) (by rw [G1.1 130 (by simp) (by omega), hI_ne (by omega)]), G1'⟩
        rw [e] at r1
        simp (disch := omega) only [zI_add, zI_sub, zI_mul, zI_neg, zI_lit, zI_0, zI_1, zI_lt, zI_le, zI_eq, zI_clamp, zI_inT, zI_ite, mOb_0, mOb_1, mOb_3, mOb_4, mLd_1, mAr_1, mLen_1, mTrue_t, Int.toNat_zero, Int.toNat_one, true_and, and_true, not_true_eq_false, not_false_eq_true, true_or, or_true, or_self, false_or, or_false, forall_const, false_implies, true_implies, implies_true]
        refine ⟨_, _, rt, ?_⟩
        simp (disch := omega) only [zI_add, zI_sub, zI_mul, zI_neg, zI_lit, zI_0, zI_1, zI_lt, zI_le, zI_eq, zI_clamp, zI_inT, zI_ite, mOb_0, mOb_1, mOb_3, mOb_4, mLd_1, mAr_1, mLen_1, mTrue_t, Int.toNat_zero, Int.toNat_one, true_and, and_true, not_true_eq_false, not_false_eq_true, true_or, or_true, or_self, false_or, or_false, forall_const, false_implies, true_implies, implies_true]
        refine ⟨fun z => by omega, fun _ => ⟨_, _, il, ?_⟩⟩
        simp (disch := omega) only [zI_add, zI_sub, zI_mul, zI_neg, zI_lit, zI_0, zI_1, zI_lt, zI_le, zI_eq, zI_clamp, zI_inT, zI_ite, mOb_0, mOb_1, mOb_3, mOb_4, mLd_1, mAr_1, mLen_1, mTrue_t, Int.toNat_zero, Int.toNat_one, true_and, and_true, not_true_eq_false, not_false_eq_true, true_or, or_true, or_self, false_or, or_false, forall_const, false_implies, true_implies, implies_true]
        refine ⟨fun _ => ⟨_, _, r1, ?_⟩, fun z => by omega⟩
        simp (disch := omega) only [zI_add, zI_sub, zI_mul, zI_neg, zI_lit, zI_0, zI_1, zI_lt, zI_le, zI_eq, zI_clamp, zI_inT, zI_ite, mOb_0, mOb_1, mOb_3, mOb_4, mLd_1, mAr_1, mLen_1, mTrue_t, Int.toNat_zero, Int.toNat_one, true_and, and_true, not_true_eq_false, not_false_eq_true, true_or, or_true, or_self, false_or, or_false, forall_const, false_implies, true_implies, implies_true]
        repeat' (first | refine And.intro ?_ ?_ | with_reducible intro _)
        all_goals first | omega | rfl
      · have hr : rPlan B l x = (0, if x = 0 then (fPl B l (-1)).2.1 else (fPl B l (-1)).2.2.1) := by unfold rPlan; rw [if_neg (fun z => z cx), if_neg (fun z => z cl), if_neg (show ¬ (fPl B l (-1)).1 = 0 by omega)]
        have hk : kPlan B k l x = l := by unfold kPlan; rw [if_pos ⟨cx, cl, e⟩]
        rw [hr, hk]
        have B1 := BM_fg0 hB G1' (by simp) (by simp)
        obtain ⟨h2, r2, p1, p2, p3⟩ := s_M_plan_loop (d := d + 5) hO cl.1 cl.2 cx e (bD B).toNat 0 (mPI h1 114 38 (zI 1)) (by omega) (by omega) (BM_of B1 (fun k _ _ => hI_off (by omega) _ _ _ _) (fun k _ _ => hI_ne (by omega) _ _ _)) (MC_of M1 (hI_ne (by omega) _ _ _)) (MX_of X1 (hI_off (by omega) _ _ _ _) (hI_ne (by omega) _ _ _)) (by rw [hI_off (by omega)]; exact C1 e) (fun y a b => by omega) (fun y a b => by omega)
        refine ⟨h2, mid _ cx (vc_M_plan_20 ?_), by rw [p3.1 114 (by simp), hI_off (by omega), G1.2.1 0 (by simp), t0], Or.inr ⟨cl.1, cl.2, e, by rw [p3.1 114 (by simp), hI_same], p1, p2⟩, hFg_fr (hFg_pf G1' (by simp) _) (hFr_mono p3 (by simp)) (by simp)⟩
        rw [e] at r1
        simp (disch := omega) only [zI_add, zI_sub, zI_mul, zI_neg, zI_lit, zI_0, zI_1, zI_lt, zI_le, zI_eq, zI_clamp, zI_inT, zI_ite, mOb_0, mOb_1, mOb_3, mOb_4, mLd_1, mAr_1, mLen_1, mTrue_t, Int.toNat_zero, Int.toNat_one, true_and, and_true, not_true_eq_false, not_false_eq_true, true_or, or_true, or_self, false_or, or_false, forall_const, false_implies, true_implies, implies_true]
        refine ⟨_, _, rt, ?_⟩
        simp (disch := omega) only [zI_add, zI_sub, zI_mul, zI_neg, zI_lit, zI_0, zI_1, zI_lt, zI_le, zI_eq, zI_clamp, zI_inT, zI_ite, mOb_0, mOb_1, mOb_3, mOb_4, mLd_1, mAr_1, mLen_1, mTrue_t, Int.toNat_zero, Int.toNat_one, true_and, and_true, not_true_eq_false, not_false_eq_true, true_or, or_true, or_self, false_or, or_false, forall_const, false_implies, true_implies, implies_true]
        refine ⟨fun z => by omega, fun _ => ⟨_, _, il, ?_⟩⟩
        simp (disch := omega) only [zI_add, zI_sub, zI_mul, zI_neg, zI_lit, zI_0, zI_1, zI_lt, zI_le, zI_eq, zI_clamp, zI_inT, zI_ite, mOb_0, mOb_1, mOb_3, mOb_4, mLd_1, mAr_1, mLen_1, mTrue_t, Int.toNat_zero, Int.toNat_one, true_and, and_true, not_true_eq_false, not_false_eq_true, true_or, or_true, or_self, false_or, or_false, forall_const, false_implies, true_implies, implies_true]
        refine ⟨fun _ => ⟨_, _, r1, ?_⟩, fun z => by omega⟩
        simp (disch := omega) only [zI_add, zI_sub, zI_mul, zI_neg, zI_lit, zI_0, zI_1, zI_lt, zI_le, zI_eq, zI_clamp, zI_inT, zI_ite, mOb_0, mOb_1, mOb_3, mOb_4, mLd_1, mAr_1, mLen_1, mTrue_t, Int.toNat_zero, Int.toNat_one, true_and, and_true, not_true_eq_false, not_false_eq_true, true_or, or_true, or_self, false_or, or_false, forall_const, false_implies, true_implies, implies_true]
        repeat' (first | refine And.intro ?_ ?_ | with_reducible intro _)
        all_goals first | omega | exact r2
    · have hr : rPlan B l x = (2, 0) := by unfold rPlan; rw [if_neg (fun z => z cx), if_pos cl]
      have hk : kPlan B k l x = k := by unfold kPlan; rw [if_neg (fun z => cl z.2.1)]
      rw [hr, hk]
      rw [if_neg cl] at il
      refine ⟨mPI (mPI h 114 0 (zI 0)) 114 0 (zI 2), mid _ cx (vc_M_plan_20 ?_), hI_same _ _ _ _, KM_of hK (by rw [hI_off (by omega), hI_off (by omega)]) (by rw [hI_ne (by omega), hI_ne (by omega)]), hFg_pf F0 (by simp) _⟩
      simp (disch := omega) only [zI_add, zI_sub, zI_mul, zI_neg, zI_lit, zI_0, zI_1, zI_lt, zI_le, zI_eq, zI_clamp, zI_inT, zI_ite, mOb_0, mOb_1, mOb_3, mOb_4, mLd_1, mAr_1, mLen_1, mTrue_t, Int.toNat_zero, Int.toNat_one, true_and, and_true, not_true_eq_false, not_false_eq_true, true_or, or_true, or_self, false_or, or_false, forall_const, false_implies, true_implies, implies_true]
      refine ⟨_, _, rt, ?_⟩
      simp (disch := omega) only [zI_add, zI_sub, zI_mul, zI_neg, zI_lit, zI_0, zI_1, zI_lt, zI_le, zI_eq, zI_clamp, zI_inT, zI_ite, mOb_0, mOb_1, mOb_3, mOb_4, mLd_1, mAr_1, mLen_1, mTrue_t, Int.toNat_zero, Int.toNat_one, true_and, and_true, not_true_eq_false, not_false_eq_true, true_or, or_true, or_self, false_or, or_false, forall_const, false_implies, true_implies, implies_true]
      refine ⟨fun z => by omega, fun _ => ⟨_, _, il, ?_⟩⟩
      simp (disch := omega) only [zI_add, zI_sub, zI_mul, zI_neg, zI_lit, zI_0, zI_1, zI_lt, zI_le, zI_eq, zI_clamp, zI_inT, zI_ite, mOb_0, mOb_1, mOb_3, mOb_4, mLd_1, mAr_1, mLen_1, mTrue_t, Int.toNat_zero, Int.toNat_one, true_and, and_true, not_true_eq_false, not_false_eq_true, true_or, or_true, or_self, false_or, or_false, forall_const, false_implies, true_implies, implies_true]
      repeat' (first | refine And.intro ?_ ?_ | with_reducible intro _)
      all_goals first | omega | rfl
  · have hr : rPlan B l x = (1, 0) := by unfold rPlan; rw [if_pos cx]
    have hk : kPlan B k l x = k := by unfold kPlan; rw [if_neg (fun z => cx z.1)]
    rw [hr, hk]
    have rf := s_M_right_f (d := d + 4) (w := 1) t0 (by omega) (by omega)
    refine ⟨mPI (mPI h 114 0 (zI 0)) 114 0 (zI 1), vc_M_plan ?_, hI_same _ _ _ _, KM_of hK (by rw [hI_off (by omega), hI_off (by omega)]) (by rw [hI_ne (by omega), hI_ne (by omega)]), hFg_pf F0 (by simp) _⟩
    have r : mRuns (d + 6) 42 20 [some (.ref 114), some (.int (zI l)), some (.int (zI x)), none] [.int (zI 0), .ref 114] (mPI h 114 0 (zI 0)) (.inl (some (.int (zI 0)), mPI (mPI h 114 0 (zI 0)) 114 0 (zI 1))) := by
      refine vc_M_plan_20 ?_
      simp (disch := omega) only [zI_add, zI_sub, zI_mul, zI_neg, zI_lit, zI_0, zI_1, zI_lt, zI_le, zI_eq, zI_clamp, zI_inT, zI_ite, mOb_0, mOb_1, mOb_3, mOb_4, mLd_1, mAr_1, mLen_1, mTrue_t, Int.toNat_zero, Int.toNat_one, true_and, and_true, not_true_eq_false, not_false_eq_true, true_or, or_true, or_self, false_or, or_false, forall_const, false_implies, true_implies, implies_true]
      refine ⟨_, _, rf, ?_⟩
      simp (disch := omega) only [zI_add, zI_sub, zI_mul, zI_neg, zI_lit, zI_0, zI_1, zI_lt, zI_le, zI_eq, zI_clamp, zI_inT, zI_ite, mOb_0, mOb_1, mOb_3, mOb_4, mLd_1, mAr_1, mLen_1, mTrue_t, Int.toNat_zero, Int.toNat_one, true_and, and_true, not_true_eq_false, not_false_eq_true, true_or, or_true, or_self, false_or, or_false, forall_const, false_implies, true_implies, implies_true]
      repeat' (first | refine And.intro ?_ ?_ | with_reducible intro _)
      all_goals first | omega | rfl
    simp (disch := omega) only [zI_add, zI_sub, zI_mul, zI_neg, zI_lit, zI_0, zI_1, zI_lt, zI_le, zI_eq, zI_clamp, zI_inT, zI_ite, mOb_0, mOb_1, mOb_3, mOb_4, mLd_1, mAr_1, mLen_1, mTrue_t, Int.toNat_zero, Int.toNat_one, true_and, and_true, not_true_eq_false, not_false_eq_true, true_or, or_true, or_self, false_or, or_false, forall_const, false_implies, true_implies, implies_true]
    repeat' (first | refine And.intro ?_ ?_ | with_reducible intro _)
    all_goals first | omega | exact r

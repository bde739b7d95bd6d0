/-! L3, the class's judge: what to try next -/
def aTT (B : tB) (E : tE) (k t q w p : Int) : Int := if aFit 100000 B E k (1 + q * bP B + p) (1 + q * bP B + p) = 0 then -1 else aSho B t p w
def aAlR (B : tB) (E : tE) (k t q w x : Int) : Nat → Int → Int → Int
  | 0, _, v => v
  | j + 1, p, v => aAlR B E k t q w x j (p + 1) (if aTT B E k t q w p = x then v + 1 else v)
def aAl (B : tB) (E : tE) (k t q w x : Int) : Int := aAlR B E k t q w x (bP B).toNat 0 0
def aMax (a b : Int) : Int := if a < b then b else a
def aGgR (B : tB) (E : tE) (k t q w : Int) : Nat → Int → Int → Int → Int
  | 0, _, g, tl => aMax g (aNum B E k - tl)
  | j + 1, p, g, tl => if aTT B E k t q w p = -1 then aGgR B E k t q w j (p + 1) g tl else aGgR B E k t q w j (p + 1) (aMax g (aAl B E k t q w (aTT B E k t q w p))) (tl + 1)
def aGg (B : tB) (E : tE) (k t q w : Int) : Int := aGgR B E k t q w (bP B).toNat 0 0 0
theorem aTT_rng {B : tB} (hO : BOk B) {E : tE} {k t q w p : Int} (hp : 0 ≤ p) (hp' : p < bP B) : aTT B E k t q w p = -1 ∨ (1 ≤ aTT B E k t q w p ∧ aTT B E k t q w p ≤ 80) := by
  unfold aTT; split
  · exact Or.inl rfl
  · exact aShow_rng hO hp hp'
theorem aAlR_rng {B : tB} {E : tE} {k t q w x : Int} : ∀ (j : Nat) (p v : Int), v ≤ aAlR B E k t q w x j p v ∧ aAlR B E k t q w x j p v ≤ v + j := by
  intro j
  induction j with
  | zero => intro p v; unfold aAlR; omega
  | succ j ih =>
    intro p v
    have := ih (p + 1) (if aTT B E k t q w p = x then v + 1 else v)
    unfold aAlR
    split at this <;> split <;> omega
theorem aAl_rng {B : tB} (hO : BOk B) {E : tE} {k t q w x : Int} : 0 ≤ aAl B E k t q w x ∧ aAl B E k t q w x ≤ 5 := by
  have o := hO.1
  have := aAlR_rng (B := B) (E := E) (k := k) (t := t) (q := q) (w := w) (x := x) (bP B).toNat 0 0
  unfold aAl; omega
theorem aGgR_rng {B : tB} (hO : BOk B) {E : tE} {k t q w : Int} : ∀ (j : Nat) (p g tl : Int), 0 ≤ tl → 0 ≤ g → g ≤ 31 → 0 ≤ aGgR B E k t q w j p g tl ∧ aGgR B E k t q w j p g tl ≤ 31 := by
  have hn := aNum_rng hO E k
  intro j
  induction j with
  | zero => intro p g tl a1 a2 a3; unfold aGgR aMax; split <;> omega
  | succ j ih =>
    intro p g tl a1 a2 a3
    unfold aGgR
    split
    · exact ih _ _ _ a1 a2 a3
    · have ha := aAl_rng hO (E := E) (k := k) (t := t) (q := q) (w := w) (x := aTT B E k t q w p)
      refine ih _ _ _ (by omega) ?_ ?_ <;> unfold aMax <;> split <;> omega
theorem aGg_rng {B : tB} (hO : BOk B) {E : tE} {k t q w : Int} : 0 ≤ aGg B E k t q w ∧ aGg B E k t q w ≤ 31 := aGgR_rng hO _ _ _ _ (by omega) (by omega) (by omega)
theorem s_Jdg_trialTicks {d : Nat} {h : mHp} {b l : Nat} {B : tB} {E : tE} {k t q w p : Int} (hb : bAd b) (hO : BOk B) (hB : BC h b B) (hJ : JH h b l B E k) (ht : 0 ≤ t) (ht' : t < bT B) (hq : 0 ≤ q) (hq' : q < bD B) (hw : 0 ≤ w) (hw' : w ≤ 1) (hp : 0 ≤ p) (hp' : p < bP B) :
    mRuns (d + 3) 102 0 [some (.ref 87), some (.int (zI t)), some (.int (zI q)), some (.int (zI p)), some (.int (zI w))] [] h (.inl (some (.int (zI (aTT B E k t q w p))), h)) := by
  have o := hO.1
  have hr := case_rng (nd := bD B) (np := bP B) (by omega) (by omega) (by omega) (by omega)
  have s0 := (bSh_of hb).1
  have sb := bBl_of hb
  obtain ⟨r0, r1, x2, x3, F, X, S⟩ := id hJ
  obtain ⟨c1, c2, c3, c4⟩ := case_join (nd := bD B) (np := bP B) (q := q) (p := p) (by omega) (by omega) hp (by omega) (by omega)
  have hf := aFit_01 100000 B E k (1 + q * bP B + p) (1 + q * bP B + p)
  refine vc_Jdg_trialTicks ⟨_, _, s_Jdg_caseOf hb r0 hB, ?_⟩
  simp (disch := omega) only [zI_add, zI_sub, zI_mul, zI_neg, zI_lit, zI_0, zI_1, zI_lt, zI_le, zI_eq, zI_clamp, zI_inT, zI_ite, mOb_0, mOb_1, mOb_3, mOb_4, mLd_1, mAr_1, mLen_1, mTrue_t, Int.toNat_zero, Int.toNat_one, true_and, and_true, not_true_eq_false, not_false_eq_true, true_or, or_true, or_self, false_or, or_false, forall_const, false_implies, true_implies, implies_true, r0, sb, s0, X]
  unfold aTT
  refine ⟨fun z => ?_, fun z => ?_⟩
  · rw [if_neg z]
    exact ⟨_, _, s_Brd_show hb hB hO ht ht' hp hp' hw hw', rfl⟩
  · rw [if_pos z]
theorem s_Jdg_group_in {d : Nat} {h : mHp} {b l : Nat} {B : tB} {E : tE} {k t q w : Int} (hb : bAd b) (hO : BOk B) (hB : BC h b B) (hJ : JH h b l B E k) (ht : 0 ≤ t) (ht' : t < bT B) (hq : 0 ≤ q) (hq' : q < bD B) (hw : 0 ≤ w) (hw' : w ≤ 1) {out : mOut} {g tl p x : Int} (hg : 0 ≤ g) (hg' : g ≤ 31) (hx : -1 ≤ x) (hx' : x ≤ 80) : ∀ (j : Nat) (y v : Int), y + j = bP B → 0 ≤ y → 0 ≤ v → v ≤ y →
    mRuns (d + 4) 101 9 [some (.ref 87), some (.int (zI t)), some (.int (zI q)), some (.int (zI w)), some (.int (zI (aMax g (aAlR B E k t q w x j y v)))), some (.int (zI tl)), some (.int (zI (p + 1))), none, none, none] [] h out →
    mRuns (d + 4) 101 50 [some (.ref 87), some (.int (zI t)), some (.int (zI q)), some (.int (zI w)), some (.int (zI g)), some (.int (zI tl)), some (.int (zI p)), some (.int (zI x)), some (.int (zI v)), some (.int (zI y))] [] h out := by
  have o := hO.1
  have s0 := (bSh_of hb).1
  have sb := bBl_of hb
  have e4 := hB.2.1
  have r0 := hJ.1
  intro j
  induction j with
  | zero =>
    intro y v hy h0 v0 v1 r
    refine vc_Jdg_greatestGroup_50 ?_
    simp (disch := omega) only [zI_add, zI_sub, zI_mul, zI_neg, zI_lit, zI_0, zI_1, zI_lt, zI_le, zI_eq, zI_clamp, zI_inT, zI_ite, mOb_0, mOb_1, mOb_3, mOb_4, mLd_1, mAr_1, mLen_1, mTrue_t, Int.toNat_zero, Int.toNat_one, true_and, and_true, not_true_eq_false, not_false_eq_true, true_or, or_true, or_self, false_or, or_false, forall_const, false_implies, true_implies, implies_true, r0, sb, s0, e4]
    refine ⟨fun _ => r, fun z => by omega⟩
  | succ j ih =>
    intro y v hy h0 v0 v1 r
    have hx1 := aTT_rng hO (E := E) (k := k) (t := t) (q := q) (w := w) h0 (by omega)
    have r := ih (y + 1) _ (by omega) (by omega) (by split <;> omega) (by split <;> omega) r
    refine vc_Jdg_greatestGroup_50 ?_
    simp (disch := omega) only [zI_add, zI_sub, zI_mul, zI_neg, zI_lit, zI_0, zI_1, zI_lt, zI_le, zI_eq, zI_clamp, zI_inT, zI_ite, mOb_0, mOb_1, mOb_3, mOb_4, mLd_1, mAr_1, mLen_1, mTrue_t, Int.toNat_zero, Int.toNat_one, true_and, and_true, not_true_eq_false, not_false_eq_true, true_or, or_true, or_self, false_or, or_false, forall_const, false_implies, true_implies, implies_true, r0, sb, s0, e4]
    refine ⟨fun z => by omega, fun _ => ⟨_, _, s_Jdg_trialTicks hb hO hB hJ ht ht' hq hq' hw hw' h0 (by omega), ?_⟩⟩
    simp (disch := omega) only [zI_add, zI_sub, zI_mul, zI_neg, zI_lit, zI_0, zI_1, zI_lt, zI_le, zI_eq, zI_clamp, zI_inT, zI_ite, mOb_0, mOb_1, mOb_3, mOb_4, mLd_1, mAr_1, mLen_1, mTrue_t, Int.toNat_zero, Int.toNat_one, true_and, and_true, not_true_eq_false, not_false_eq_true, true_or, or_true, or_self, false_or, or_false, forall_const, false_implies, true_implies, implies_true]
    refine ⟨fun z => ?_, fun z => ?_⟩
    · rw [if_neg z] at r; exact r
    · rw [if_pos z] at r; exact r
theorem s_Jdg_group_out {d : Nat} {h : mHp} {b l : Nat} {B : tB} {E : tE} {k t q w : Int} (hb : bAd b) (hO : BOk B) (hB : BC h b B) (hJ : JH h b l B E k) (ht : 0 ≤ t) (ht' : t < bT B) (hq : 0 ≤ q) (hq' : q < bD B) (hw : 0 ≤ w) (hw' : w ≤ 1) : ∀ (j : Nat) (p g tl : Int), p + j = bP B → 0 ≤ p → 0 ≤ g → g ≤ 31 → 0 ≤ tl → tl ≤ p →
    mRuns (d + 4) 101 9 [some (.ref 87), some (.int (zI t)), some (.int (zI q)), some (.int (zI w)), some (.int (zI g)), some (.int (zI tl)), some (.int (zI p)), none, none, none] [] h (.inl (some (.int (zI (aGgR B E k t q w j p g tl))), h)) := by
  have o := hO.1
  have s0 := (bSh_of hb).1
  have sb := bBl_of hb
  have e4 := hB.2.1
  obtain ⟨r0, r1, x2, x3, F, X, S⟩ := id hJ
  have hn := aNum_rng hO E k
  intro j
  induction j with
  | zero =>
    intro p g tl hp h0 g0 g1 l0 l1
    refine vc_Jdg_greatestGroup_9 ?_
    simp (disch := omega) only [zI_add, zI_sub, zI_mul, zI_neg, zI_lit, zI_0, zI_1, zI_lt, zI_le, zI_eq, zI_clamp, zI_inT, zI_ite, mOb_0, mOb_1, mOb_3, mOb_4, mLd_1, mAr_1, mLen_1, mTrue_t, Int.toNat_zero, Int.toNat_one, true_and, and_true, not_true_eq_false, not_false_eq_true, true_or, or_true, or_self, false_or, or_false, forall_const, false_implies, true_implies, implies_true, r0, sb, s0, e4, S]
    refine ⟨fun _ => rfl, fun z => by omega⟩
  | succ j ih =>
    intro p g tl hp h0 g0 g1 l0 l1
    have hx1 := aTT_rng hO (E := E) (k := k) (t := t) (q := q) (w := w) h0 (by omega)
    have ha := aAl_rng hO (E := E) (k := k) (t := t) (q := q) (w := w) (x := aTT B E k t q w p)
    unfold aAl at ha
    refine vc_Jdg_greatestGroup_9 ?_
    simp (disch := omega) only [zI_add, zI_sub, zI_mul, zI_neg, zI_lit, zI_0, zI_1, zI_lt, zI_le, zI_eq, zI_clamp, zI_inT, zI_ite, mOb_0, mOb_1, mOb_3, mOb_4, mLd_1, mAr_1, mLen_1, mTrue_t, Int.toNat_zero, Int.toNat_one, true_and, and_true, not_true_eq_false, not_false_eq_true, true_or, or_true, or_self, false_or, or_false, forall_const, false_implies, true_implies, implies_true, r0, sb, s0, e4]
    refine ⟨fun z => by omega, fun _ => ⟨_, _, s_Jdg_trialTicks hb hO hB hJ ht ht' hq hq' hw hw' h0 (by omega), ?_⟩⟩
    unfold aGgR
    simp (disch := omega) only [zI_add, zI_sub, zI_mul, zI_neg, zI_lit, zI_0, zI_1, zI_lt, zI_le, zI_eq, zI_clamp, zI_inT, zI_ite, mOb_0, mOb_1, mOb_3, mOb_4, mLd_1, mAr_1, mLen_1, mTrue_t, Int.toNat_zero, Int.toNat_one, true_and, and_true, not_true_eq_false, not_false_eq_true, true_or, or_true, or_self, false_or, or_false, forall_const, false_implies, true_implies, implies_true]
    refine ⟨fun z => ?_, fun z => ?_⟩
    · rw [if_neg z]
      refine s_Jdg_group_in hb hO hB hJ ht ht' hq hq' hw hw' g0 g1 (by omega) (by omega) (bP B).toNat 0 0 (by omega) (by omega) (by omega) (by omega) ?_
      exact ih (p + 1) _ (tl + 1) (by omega) (by omega) (by unfold aMax; split <;> omega) (by unfold aMax; split <;> omega) (by omega) (by omega)
    · rw [if_pos z]
      exact ih (p + 1) g tl (by omega) (by omega) g0 g1 l0 (by omega)
theorem s_Jdg_group {d : Nat} {h : mHp} {b l : Nat} {B : tB} {E : tE} {k t q w : Int} (hb : bAd b) (hO : BOk B) (hB : BC h b B) (hJ : JH h b l B E k) (ht : 0 ≤ t) (ht' : t < bT B) (hq : 0 ≤ q) (hq' : q < bD B) (hw : 0 ≤ w) (hw' : w ≤ 1) :
    mRuns (d + 4) 101 0 [some (.ref 87), some (.int (zI t)), some (.int (zI q)), some (.int (zI w)), none, none, none, none, none, none] [] h (.inl (some (.int (zI (aGg B E k t q w))), h)) := by
  have o := hO.1
  refine vc_Jdg_greatestGroup ?_
  simp (disch := omega) only [zI_add, zI_sub, zI_mul, zI_neg, zI_lit, zI_0, zI_1, zI_lt, zI_le, zI_eq, zI_clamp, zI_inT, zI_ite, mOb_0, mOb_1, mOb_3, mOb_4, mLd_1, mAr_1, mLen_1, mTrue_t, Int.toNat_zero, Int.toNat_one, true_and, and_true, not_true_eq_false, not_false_eq_true, true_or, or_true, or_self, false_or, or_false, forall_const, false_implies, true_implies, implies_true]
  exact s_Jdg_group_out hb hO hB hJ ht ht' hq hq' hw hw' (bP B).toNat 0 0 0 (by omega) (by omega) (by omega) (by omega) (by omega) (by omega)
/-- the best trial so far: its code and its group -/
def aCtI (B : tB) (E : tE) (k t : Int) : Nat → Int → Int × Int → Int × Int
  | 0, _, s => s
  | j + 1, c, s => aCtI B E k t j (c + 1) (if s.1 = -1 ∨ aGg B E k t (c / 2) (c % 2) < s.2 then (20 * t + c, aGg B E k t (c / 2) (c % 2)) else s)
def aCtO (B : tB) (E : tE) (k : Int) : Nat → Int → Int × Int → Int × Int
  | 0, _, s => s
  | j + 1, t, s => aCtO B E k j (t + 1) (if bF B 7 t = 4 ∨ aFell E t ≠ -1 then s else aCtI B E k t (2 * bD B).toNat 0 s)
def aCt (B : tB) (E : tE) (k : Int) : Int × Int := aCtO B E k (bT B).toNat 0 (-1, -1)
def sOk (s : Int × Int) : Prop := (s.1 = -1 ∧ s.2 = -1) ∨ (0 ≤ s.1 ∧ s.1 < 200 ∧ 0 ≤ s.2 ∧ s.2 ≤ 31)
theorem JH_of {h h' : mHp} {b l : Nat} {B : tB} {E : tE} {k : Int} (hJ : JH h b l B E k) (e0 : ∀ i, i ≤ 6 → h'.1 87 i = h.1 87 i) (e1 : h'.1 88 = h.1 88) (e2 : h'.1 89 = h.1 89) (e3 : h'.2.2.1 87 = h.2.2.1 87) : JH h' b l B E k := by
  unfold JH FA at hJ ⊢
  rw [e0 2 (by omega), e0 3 (by omega), e0 6 (by omega), e1, e2, e3]; exact hJ
def jT (h : mHp) (s : Int × Int) : mHp := mPI (mPI h 87 7 (zI s.1)) 87 8 (zI s.2)
theorem jT_jT (h : mHp) (s s' : Int × Int) : mPI (mPI (jT h s) 87 7 (zI s'.1)) 87 8 (zI s'.2) = jT h s' := by
  unfold jT mPI
  simp only [Prod.mk.injEq, and_true]
  funext x y
  by_cases h1 : x = 87 ∧ y = 8
  · simp only [h1, and_self, ↓reduceIte]
  · by_cases h2 : x = 87 ∧ y = 7
    · simp only [h1, h2, and_self, ↓reduceIte]
    · simp only [h1, h2, ↓reduceIte]
theorem s_Jdg_choose_in {d : Nat} {h : mHp} {b l : Nat} {B : tB} {E : tE} {k t : Int} (hb : bAd b) (hl : lAd l) (hO : BOk B) (hB : ∀ s, BC (jT h s) b B) (hJ : ∀ s, JH (jT h s) b l B E k) (ht : 0 ≤ t) (ht' : t < bT B) {out : mOut} : ∀ (j : Nat) (c : Int) (s : Int × Int), c + j = 2 * bD B → 0 ≤ c → sOk s →
    (sOk (aCtI B E k t j c s) → mRuns (d + 5) 100 12 [some (.ref 87), some (.int (zI (t + 1))), none, none] [] (jT h (aCtI B E k t j c s)) out) →
    mRuns (d + 5) 100 54 [some (.ref 87), some (.int (zI t)), some (.int (zI c)), none] [] (jT h s) out := by
  have o := hO.1
  have s0 := (bSh_of hb).1
  have sb := bBl_of hb
  intro j
  induction j with
  | zero =>
    intro c s hc h0 hs r
    have e0 := (hB s).1
    have r0 := (hJ s).1
    refine vc_Jdg_chooseTrial_54 ?_
    simp (disch := omega) only [zI_add, zI_sub, zI_mul, zI_neg, zI_lit, zI_0, zI_1, zI_lt, zI_le, zI_eq, zI_clamp, zI_inT, zI_ite, mOb_0, mOb_1, mOb_3, mOb_4, mLd_1, mAr_1, mLen_1, mTrue_t, Int.toNat_zero, Int.toNat_one, true_and, and_true, not_true_eq_false, not_false_eq_true, true_or, or_true, or_self, false_or, or_false, forall_const, false_implies, true_implies, implies_true, r0, sb, s0, e0]
    exact ⟨fun _ => r hs, fun z => absurd z (by omega)⟩
  | succ j ih =>
    intro c s hc h0 hs r
    have e0 := (hB s).1
    have r0 := (hJ s).1
    have hg := aGg_rng hO (E := E) (k := k) (t := t) (q := c / 2) (w := c % 2)
    have h7 : (jT h s).1 87 7 = zI s.1 := by unfold jT; rw [hI_off (by omega), hI_same]
    have h8 : (jT h s).1 87 8 = zI s.2 := hI_same _ _ _ _
    have hsr : -1 ≤ s.1 ∧ s.1 < 200 ∧ -1 ≤ s.2 ∧ s.2 ≤ 31 := by unfold sOk at hs; omega
    have key : mRuns (d + 5) 100 83 [some (.ref 87), some (.int (zI t)), some (.int (zI c)), none] [.int (zI (c % 2)), .int (zI (c / 2)), .int (zI t), .ref 87] (jT h s) out := by
      refine vc_Jdg_chooseTrial_83 ⟨_, _, s_Jdg_group hb hO (hB s) (hJ s) ht ht' (by omega) (by omega) (by omega) (by omega), ?_⟩
      simp (disch := omega) only [zI_add, zI_sub, zI_mul, zI_neg, zI_lit, zI_0, zI_1, zI_lt, zI_le, zI_eq, zI_clamp, zI_inT, zI_ite, mOb_0, mOb_1, mOb_3, mOb_4, mLd_1, mAr_1, mLen_1, mTrue_t, Int.toNat_zero, Int.toNat_one, true_and, and_true, not_true_eq_false, not_false_eq_true, true_or, or_true, or_self, false_or, or_false, forall_const, false_implies, true_implies, implies_true, h7, h8]
      have yes : (s.1 = -1 ∨ aGg B E k t (c / 2) (c % 2) < s.2) → mRuns (d + 5) 100 103 [some (.ref 87), some (.int (zI t)), some (.int (zI c)), some (.int (zI (aGg B E k t (c / 2) (c % 2))))] [] (jT h s) out := by
        intro z
        have r := ih (c + 1) (20 * t + c, aGg B E k t (c / 2) (c % 2)) (by omega) (by omega) (by unfold sOk; simp only; omega) (by
          have := r; unfold aCtI at this; rw [if_pos z] at this; exact this)
        refine vc_Jdg_chooseTrial_103 ?_
        simp (disch := omega) only [zI_add, zI_sub, zI_mul, zI_neg, zI_lit, zI_0, zI_1, zI_lt, zI_le, zI_eq, zI_clamp, zI_inT, zI_ite, mOb_0, mOb_1, mOb_3, mOb_4, mLd_1, mAr_1, mLen_1, mTrue_t, Int.toNat_zero, Int.toNat_one, true_and, and_true, not_true_eq_false, not_false_eq_true, true_or, or_true, or_self, false_or, or_false, forall_const, false_implies, true_implies, implies_true]
        have e := jT_jT h s (20 * t + c, aGg B E k t (c / 2) (c % 2))
        simp only at e
        rw [e]; exact r
      refine ⟨fun z => yes (Or.inl z), fun z => ⟨fun y => ?_, fun y => yes (Or.inr (by omega))⟩⟩
      exact ih (c + 1) s (by omega) (by omega) hs (by have := r; unfold aCtI at this; rw [if_neg (by omega)] at this; exact this)
    refine vc_Jdg_chooseTrial_54 ?_
    simp (disch := omega) only [zI_add, zI_sub, zI_mul, zI_neg, zI_lit, zI_0, zI_1, zI_lt, zI_le, zI_eq, zI_clamp, zI_inT, zI_ite, mOb_0, mOb_1, mOb_3, mOb_4, mLd_1, mAr_1, mLen_1, mTrue_t, Int.toNat_zero, Int.toNat_one, true_and, and_true, not_true_eq_false, not_false_eq_true, true_or, or_true, or_self, false_or, or_false, forall_const, false_implies, true_implies, implies_true, r0, sb, s0, e0, zI_div, int_rem]
    refine ⟨fun z => absurd z (by omega), fun _ => ?_⟩
    have h2 : ¬ (2 : Int) = 0 := by omega
    refine ⟨h2, h2, fun z => ?_, fun z => ?_⟩
    · rw [z] at key; exact key
    · rw [show c % 2 = 1 by omega] at key; exact key
theorem s_Jdg_choose_out {d : Nat} {h : mHp} {b l : Nat} {B : tB} {E : tE} {k : Int} (hb : bAd b) (hl : lAd l) (hO : BOk B) (hE : EOk B E) (hB : ∀ s, BC (jT h s) b B) (hL : ∀ s, LC (jT h s) l E) (hJ : ∀ s, JH (jT h s) b l B E k) : ∀ (j : Nat) (t : Int) (s : Int × Int), t + j = bT B → 0 ≤ t → sOk s →
    sOk (aCtO B E k j t s) ∧ mRuns (d + 5) 100 12 [some (.ref 87), some (.int (zI t)), none, none] [] (jT h s) (.inl (none, jT h (aCtO B E k j t s))) := by
  have o := hO.1
  obtain ⟨s0, s1, s2, s3, s4, s5, s6, s7, s8, s9, s10⟩ := bSh_of hb
  obtain ⟨t0, t1, t2, t3, t4, t5⟩ := lSh_of hl
  have sb := bBl_of hb
  have tb := lBl_of hl
  have inOk : ∀ t, 0 ≤ t → t < bT B → ∀ (j : Nat) (c : Int) (s : Int × Int), 0 ≤ c → c + j = 2 * bD B → sOk s → sOk (aCtI B E k t j c s) := by
    intro t h0 h1 j
    induction j with
    | zero => intro c s _ _ hs; exact hs
    | succ j ih =>
      intro c s hc hj hs
      refine ih (c + 1) _ (by omega) (by omega) ?_
      have hg := aGg_rng hO (E := E) (k := k) (t := t) (q := c / 2) (w := c % 2)
      split
      · unfold sOk; simp only; omega
      · exact hs
  intro j
  induction j with
  | zero =>
    intro t s ht h0 hs
    have e9 := (hB s).2.2.1
    have r0 := (hJ s).1
    refine ⟨hs, vc_Jdg_chooseTrial_12 ?_⟩
    simp (disch := omega) only [zI_add, zI_sub, zI_mul, zI_neg, zI_lit, zI_0, zI_1, zI_lt, zI_le, zI_eq, zI_clamp, zI_inT, zI_ite, mOb_0, mOb_1, mOb_3, mOb_4, mLd_1, mAr_1, mLen_1, mTrue_t, Int.toNat_zero, Int.toNat_one, true_and, and_true, not_true_eq_false, not_false_eq_true, true_or, or_true, or_self, false_or, or_false, forall_const, false_implies, true_implies, implies_true, r0, sb, s0, e9]
    repeat' (first | refine And.intro ?_ ?_ | with_reducible intro _)
    all_goals first | omega | rfl
  | succ j ih =>
    intro t s ht h0 hs
    obtain ⟨e0, e4, e9, e13, a1, a2, a3, a4, a5, a6, a7, a8, a9, a10⟩ := id (hB s)
    obtain ⟨⟨l0, l1, l2, l3, l4⟩, l5⟩ := id (hL s)
    have r0 := (hJ s).1
    have r1 := (hJ s).2.1
    have o4 := hO.2.2.2.1 t h0 (by omega)
    have x3 := aFell_rng hE t
    by_cases c : bF B 7 t = 4 ∨ aFell E t ≠ -1
    · obtain ⟨k1, k2⟩ := ih (t + 1) s (by omega) (by omega) hs
      unfold aCtO
      rw [if_pos c]
      refine ⟨k1, vc_Jdg_chooseTrial_12 ?_⟩
      simp (disch := omega) only [zI_add, zI_sub, zI_mul, zI_neg, zI_lit, zI_0, zI_1, zI_lt, zI_le, zI_eq, zI_clamp, zI_inT, zI_ite, mOb_0, mOb_1, mOb_3, mOb_4, mLd_1, mAr_1, mLen_1, mTrue_t, Int.toNat_zero, Int.toNat_one, true_and, and_true, not_true_eq_false, not_false_eq_true, true_or, or_true, or_self, false_or, or_false, forall_const, false_implies, true_implies, implies_true, r0, r1, sb, tb, s0, t0, s8, t5, e9, a8, l5]
      refine ⟨fun z => by omega, fun _ => ⟨fun z => k2, fun z => ⟨fun y => by omega, fun y => k2⟩⟩⟩
    · have hs' := inOk t h0 (by omega) (2 * bD B).toNat 0 s (by omega) (by omega) hs
      obtain ⟨k1, k2⟩ := ih (t + 1) _ (by omega) (by omega) hs'
      unfold aCtO
      rw [if_neg c]
      refine ⟨k1, vc_Jdg_chooseTrial_12 ?_⟩
      simp (disch := omega) only [zI_add, zI_sub, zI_mul, zI_neg, zI_lit, zI_0, zI_1, zI_lt, zI_le, zI_eq, zI_clamp, zI_inT, zI_ite, mOb_0, mOb_1, mOb_3, mOb_4, mLd_1, mAr_1, mLen_1, mTrue_t, Int.toNat_zero, Int.toNat_one, true_and, and_true, not_true_eq_false, not_false_eq_true, true_or, or_true, or_self, false_or, or_false, forall_const, false_implies, true_implies, implies_true, r0, r1, sb, tb, s0, t0, s8, t5, e9, a8, l5]
      refine ⟨fun z => by omega, fun _ => ⟨fun z => absurd (Or.inl z) c, fun z => ⟨fun y => ?_, fun y => absurd (Or.inr y) c⟩⟩⟩
      exact s_Jdg_choose_in hb hl hO hB hJ h0 (by omega) (2 * bD B).toNat 0 s (by omega) (by omega) hs (fun _ => k2)
theorem s_Jdg_choose {d : Nat} {h : mHp} {b l : Nat} {B : tB} {E : tE} {k : Int} (hb : bAd b) (hl : lAd l) (hO : BOk B) (hE : EOk B E) (hB : BC h b B) (hL : LC h l E) (hJ : JH h b l B E k) :
    ∃ h', mRuns (d + 5) 100 0 [some (.ref 87), none, none, none] [] h (.inl (none, h')) ∧ h'.1 87 7 = zI (aCt B E k).1 ∧ h'.1 87 8 = zI (aCt B E k).2 ∧ sOk (aCt B E k) ∧ hFr [87] h h' := by
  have o := hO.1
  obtain ⟨k1, k2⟩ := s_Jdg_choose_out (d := d) (h := h) hb hl hO hE
    (fun s => BC_of hB (fun i hi => by unfold jT; rcases hb with rfl | rfl <;> (rw [hI_ne (by omega), hI_ne (by omega)])))
    (fun s => LC_of hL (fun i hi => by unfold jT; rcases hl with rfl | rfl <;> (rw [hI_ne (by omega), hI_ne (by omega)])))
    (fun s => JH_of hJ (fun i hi => by unfold jT; rw [hI_off (by omega), hI_off (by omega)]) (by unfold jT; rw [hI_ne (by omega), hI_ne (by omega)]) (by unfold jT; rw [hI_ne (by omega), hI_ne (by omega)]) rfl)
    (bT B).toNat 0 (-1, -1) (by omega) (by omega) (Or.inl ⟨rfl, rfl⟩)
  refine ⟨jT h (aCt B E k), vc_Jdg_chooseTrial ?_, ?_, ?_, k1, ?_⟩
  · simp (disch := omega) only [zI_add, zI_sub, zI_mul, zI_neg, zI_lit, zI_0, zI_1, zI_lt, zI_le, zI_eq, zI_clamp, zI_inT, zI_ite, mOb_0, mOb_1, mOb_3, mOb_4, mLd_1, mAr_1, mLen_1, mTrue_t, Int.toNat_zero, Int.toNat_one, true_and, and_true, not_true_eq_false, not_false_eq_true, true_or, or_true, or_self, false_or, or_false, forall_const, false_implies, true_implies, implies_true]
    exact k2
  · unfold jT; rw [hI_off (by omega), hI_same]
  · exact hI_same _ _ _ _
  · exact hFr_pi (hFr_pi (hFr_refl _ _) (by simp) _ _) (by simp) _ _

/-! L3, the class's face: what must be, witnesses, plans -/
def tOut (E : Nat) (ok : Prop) [Decidable ok] (h : mHp) : mOut := if ok then .inl (none, h) else .inr (E, mXc h)
theorem s_T_needLies {d : Nat} {h : mHp} {a : Int} (a1 : -2147483648 ≤ a) (a2 : a < 2147483648) : mRuns (d + 1) 168 0 [some (.int (zI a))] [] h (tOut 0 (0 ≤ a ∧ a ≤ 2) h) := by
  refine vc_T_needLies ?_
  unfold tOut
  simp (disch := omega) only [zI_add, zI_sub, zI_mul, zI_neg, zI_lit, zI_0, zI_1, zI_lt, zI_le, zI_eq, zI_clamp, zI_inT, zI_ite, mOb_0, mOb_1, mOb_3, mOb_4, mLd_1, mAr_1, mLen_1, mTrue_t, Int.toNat_zero, Int.toNat_one, true_and, and_true, not_true_eq_false, not_false_eq_true, true_or, or_true, or_self, false_or, or_false, forall_const, false_implies, true_implies, implies_true]
  refine ⟨fun z => by rw [if_neg (by omega)], fun z => ⟨fun y => by rw [if_pos (by omega)], fun y => by rw [if_neg (by omega)]⟩⟩
theorem s_T_needDish {d : Nat} {h : mHp} {b : Nat} {B : tB} (hb : bAd b) (hR : h.2.2.1 0 0 = b) (hB : BC h b B) (hO : BOk B) {a : Int} (a1 : -2147483648 ≤ a) (a2 : a < 2147483648) : mRuns (d + 1) 161 0 [some (.ref 0), some (.int (zI a))] [] h (tOut 1 (0 ≤ a ∧ a < bD B) h) := by
  have o := hO.1
  have b0 := (bSh_of hb).1
  have sb := bBl_of hb
  have e := hB.1
  refine vc_T_needDish ?_
  unfold tOut
  simp (disch := omega) only [zI_add, zI_sub, zI_mul, zI_neg, zI_lit, zI_0, zI_1, zI_lt, zI_le, zI_eq, zI_clamp, zI_inT, zI_ite, mOb_0, mOb_1, mOb_3, mOb_4, mLd_1, mAr_1, mLen_1, mTrue_t, Int.toNat_zero, Int.toNat_one, true_and, and_true, not_true_eq_false, not_false_eq_true, true_or, or_true, or_self, false_or, or_false, forall_const, false_implies, true_implies, implies_true, hR, sb, b0, e]
  refine ⟨fun z => by rw [if_neg (by omega)], fun z => ⟨fun y => by rw [if_pos (by omega)], fun y => by rw [if_neg (by omega)]⟩⟩
theorem s_T_needPoison {d : Nat} {h : mHp} {b : Nat} {B : tB} (hb : bAd b) (hR : h.2.2.1 0 0 = b) (hB : BC h b B) (hO : BOk B) {a : Int} (a1 : -2147483648 ≤ a) (a2 : a < 2147483648) : mRuns (d + 1) 163 0 [some (.ref 0), some (.int (zI a))] [] h (tOut 1 (0 ≤ a ∧ a < bP B) h) := by
  have o := hO.1
  have b0 := (bSh_of hb).1
  have sb := bBl_of hb
  have e := hB.2.1
  refine vc_T_needPoison ?_
  unfold tOut
  simp (disch := omega) only [zI_add, zI_sub, zI_mul, zI_neg, zI_lit, zI_0, zI_1, zI_lt, zI_le, zI_eq, zI_clamp, zI_inT, zI_ite, mOb_0, mOb_1, mOb_3, mOb_4, mLd_1, mAr_1, mLen_1, mTrue_t, Int.toNat_zero, Int.toNat_one, true_and, and_true, not_true_eq_false, not_false_eq_true, true_or, or_true, or_self, false_or, or_false, forall_const, false_implies, true_implies, implies_true, hR, sb, b0, e]
  refine ⟨fun z => by rw [if_neg (by omega)], fun z => ⟨fun y => by rw [if_pos (by omega)], fun y => by rw [if_neg (by omega)]⟩⟩
theorem s_T_needTaster {d : Nat} {h : mHp} {b : Nat} {B : tB} (hb : bAd b) (hR : h.2.2.1 0 0 = b) (hB : BC h b B) (hO : BOk B) {a : Int} (a1 : -2147483648 ≤ a) (a2 : a < 2147483648) : mRuns (d + 1) 165 0 [some (.ref 0), some (.int (zI a))] [] h (tOut 1 (0 ≤ a ∧ a < bT B) h) := by
  have o := hO.1
  have b0 := (bSh_of hb).1
  have sb := bBl_of hb
  have e := hB.2.2.1
  refine vc_T_needTaster ?_
  unfold tOut
  simp (disch := omega) only [zI_add, zI_sub, zI_mul, zI_neg, zI_lit, zI_0, zI_1, zI_lt, zI_le, zI_eq, zI_clamp, zI_inT, zI_ite, mOb_0, mOb_1, mOb_3, mOb_4, mLd_1, mAr_1, mLen_1, mTrue_t, Int.toNat_zero, Int.toNat_one, true_and, and_true, not_true_eq_false, not_false_eq_true, true_or, or_true, or_self, false_or, or_false, forall_const, false_implies, true_implies, implies_true, hR, sb, b0, e]
  refine ⟨fun z => by rw [if_neg (by omega)], fun z => ⟨fun y => by rw [if_pos (by omega)], fun y => by rw [if_neg (by omega)]⟩⟩
theorem s_Brd_wit_loop {d : Nat} {h : mHp} {b : Nat} {B : tB} (hb : bAd b) (hB : BC h b B) (hO : BOk B) {q p : Int} (q0 : 0 ≤ q) (q1 : q < bD B) (p0 : 0 ≤ p) (p1 : p < bP B) : ∀ (j : Nat) (t v : Int), t + j = bT B → 0 ≤ t → 0 ≤ v → v ≤ t →
    mRuns (d + 3) 91 5 [some (.ref b), some (.int (zI q)), some (.int (zI p)), some (.int (zI v)), some (.int (zI t)), none] [] h (.inl (some (.int (zI (v + sS (aWn1 B q p) j t))), h)) := by
  have o := hO.1
  obtain ⟨s0, s1, s2, s3, s4, s5, s6, s7, s8, s9, s10⟩ := bSh_of hb
  obtain ⟨e0, e4, e9, e13, a1, a2, a3, a4, a5, a6, a7, a8, a9, a10⟩ := id hB
  have o2 := hO.2.1 q q0 q1
  intro j
  induction j with
  | zero =>
    intro t v ht t0 v0 v1
    refine vc_Brd_witnesses_5 ?_
    rw [show sS (aWn1 B q p) 0 t = 0 from rfl, Int.add_zero]
    simp (disch := omega) only [zI_add, zI_sub, zI_mul, zI_neg, zI_lit, zI_0, zI_1, zI_lt, zI_le, zI_eq, zI_clamp, zI_inT, zI_ite, mOb_0, mOb_1, mOb_3, mOb_4, mLd_1, mAr_1, mLen_1, mTrue_t, Int.toNat_zero, Int.toNat_one, true_and, and_true, not_true_eq_false, not_false_eq_true, true_or, or_true, or_self, false_or, or_false, forall_const, false_implies, true_implies, implies_true, s0, e9]
    repeat' (first | refine And.intro ?_ ?_ | with_reducible intro _)
    all_goals first | omega | rfl
  | succ j ih =>
    intro t v ht t0 v0 v1
    have hs := aShow_rng (t := t) (w := 1) (tm := bF B 9 (5 * t + p)) hO p0 p1
    have hs : aSho B t p 1 = -1 ∨ (1 ≤ aSho B t p 1 ∧ aSho B t p 1 ≤ 80) := hs
    have o4 := hO.2.2.2.1 t t0 (by omega)
    have nx := ih (t + 1) (v + aWn1 B q p t) (by omega) (by omega) (by unfold aWn1; split <;> omega) (by unfold aWn1; split <;> omega)
    rw [sS_s, ← Int.add_assoc]
    generalize v + aWn1 B q p t + sS (aWn1 B q p) j (t + 1) = r at *
    unfold aWn1 at nx
    refine vc_Brd_witnesses_5 ?_
    simp (disch := omega) only [zI_add, zI_sub, zI_mul, zI_neg, zI_lit, zI_0, zI_1, zI_lt, zI_le, zI_eq, zI_clamp, zI_inT, zI_ite, mOb_0, mOb_1, mOb_3, mOb_4, mLd_1, mAr_1, mLen_1, mTrue_t, Int.toNat_zero, Int.toNat_one, true_and, and_true, not_true_eq_false, not_false_eq_true, true_or, or_true, or_self, false_or, or_false, forall_const, false_implies, true_implies, implies_true, s0, e9]
    refine ⟨fun z => by omega, fun _ => ⟨_, _, s_Brd_show hb hB hO t0 (by omega) p0 p1 (by omega) (by omega), ?_⟩⟩
    simp (disch := omega) only [zI_add, zI_sub, zI_mul, zI_neg, zI_lit, zI_0, zI_1, zI_lt, zI_le, zI_eq, zI_clamp, zI_inT, zI_ite, mOb_0, mOb_1, mOb_3, mOb_4, mLd_1, mAr_1, mLen_1, mTrue_t, Int.toNat_zero, Int.toNat_one, true_and, and_true, not_true_eq_false, not_false_eq_true, true_or, or_true, or_self, false_or, or_false, forall_const, false_implies, true_implies, implies_true, s0, s1, s2, s8, a1, a2, a8]
    refine ⟨fun y => ?_, fun y => ⟨fun z => ?_, fun z => ⟨fun x => ?_, fun x => ?_⟩⟩⟩
    · rw [if_neg (fun c => c.1 y), Int.add_zero] at nx; exact nx
    · rw [if_neg (fun c => c.2.1 z), Int.add_zero] at nx; exact nx
    · rw [if_neg (fun c => by omega), Int.add_zero] at nx; exact nx
    · rw [if_pos ⟨y, z, by omega⟩] at nx; exact nx
theorem s_Brd_wit {d : Nat} {h : mHp} {b : Nat} {B : tB} (hb : bAd b) (hB : BC h b B) (hO : BOk B) {q p : Int} (q0 : 0 ≤ q) (q1 : q < bD B) (p0 : 0 ≤ p) (p1 : p < bP B) :
    mRuns (d + 3) 91 0 [some (.ref b), some (.int (zI q)), some (.int (zI p)), none, none, none] [] h (.inl (some (.int (zI (aWn B q p))), h)) := by
  have o := hO.1
  have := s_Brd_wit_loop (d := d) hb hB hO q0 q1 p0 p1 (bT B).toNat 0 0 (by omega) (by omega) (by omega) (by omega)
  rw [Int.zero_add] at this
  exact vc_Brd_witnesses this
theorem sS_nn {f : Int → Int} {j : Nat} {i : Int} (h : ∀ x, i ≤ x → x < i + j → 0 ≤ f x) : 0 ≤ sS f j i := by
  have := sS_le (f := fun _ => 0) (g := f) j i h
  rw [sS_zero] at this; exact this
theorem aWn_rng {B : tB} (hO : BOk B) (q p : Int) : 0 ≤ aWn B q p ∧ aWn B q p ≤ 5 := by
  have o := hO.1
  have := sS_rng (w := aWn1 B q p) (k := 1) (bT B).toNat 0 (fun x _ _ => by unfold aWn1; split <;> omega)
  unfold aWn
  omega
theorem s_T_bars_p {d : Nat} {h : mHp} {b : Nat} {B : tB} (hb : bAd b) (hR : h.2.2.1 0 0 = b) (hB : BC h b B) (hO : BOk B) {l q : Int} (hl : 0 ≤ l) (hl' : l ≤ 2) (q0 : 0 ≤ q) (q1 : q < bD B) {out : mOut} : ∀ (j : Nat) (p : Int), p + j = bP B → 0 ≤ p →
    (bRp B l q j p = -1 → mRuns (d + 20) 170 6 [some (.ref 0), some (.int (zI l)), some (.int (zI (q + 1))), none] [] h out) → (bRp B l q j p ≠ -1 → out = .inl (some (.int (zI (bRp B l q j p))), h)) →
    mRuns (d + 20) 170 19 [some (.ref 0), some (.int (zI l)), some (.int (zI q)), some (.int (zI p))] [] h out := by
  have o := hO.1
  have b0 := (bSh_of hb).1
  have sb := bBl_of hb
  have e := hB.2.1
  intro j
  induction j with
  | zero =>
    intro p hp p0 hy hn
    have hy := hy rfl
    refine vc_T_bars_19 ?_
    simp (disch := omega) only [zI_add, zI_sub, zI_mul, zI_neg, zI_lit, zI_0, zI_1, zI_lt, zI_le, zI_eq, zI_clamp, zI_inT, zI_ite, mOb_0, mOb_1, mOb_3, mOb_4, mLd_1, mAr_1, mLen_1, mTrue_t, Int.toNat_zero, Int.toNat_one, true_and, and_true, not_true_eq_false, not_false_eq_true, true_or, or_true, or_self, false_or, or_false, forall_const, false_implies, true_implies, implies_true, hR, sb, b0, e]
    exact ⟨fun _ => hy, fun z => by omega⟩
  | succ j ih =>
    intro p hp p0 hy hn
    unfold bRp at hy hn
    have wr := aWn_rng hO q p
    refine vc_T_bars_19 ?_
    simp (disch := omega) only [zI_add, zI_sub, zI_mul, zI_neg, zI_lit, zI_0, zI_1, zI_lt, zI_le, zI_eq, zI_clamp, zI_inT, zI_ite, mOb_0, mOb_1, mOb_3, mOb_4, mLd_1, mAr_1, mLen_1, mTrue_t, Int.toNat_zero, Int.toNat_one, true_and, and_true, not_true_eq_false, not_false_eq_true, true_or, or_true, or_self, false_or, or_false, forall_const, false_implies, true_implies, implies_true, hR, sb, b0, e]
    refine ⟨fun z => by omega, fun _ => ⟨_, _, s_Brd_wit hb hB hO q0 q1 p0 (by omega), ?_⟩⟩
    simp (disch := omega) only [zI_add, zI_sub, zI_mul, zI_neg, zI_lit, zI_0, zI_1, zI_lt, zI_le, zI_eq, zI_clamp, zI_inT, zI_ite, mOb_0, mOb_1, mOb_3, mOb_4, mLd_1, mAr_1, mLen_1, mTrue_t, Int.toNat_zero, Int.toNat_one, true_and, and_true, not_true_eq_false, not_false_eq_true, true_or, or_true, or_self, false_or, or_false, forall_const, false_implies, true_implies, implies_true]
    refine ⟨fun z => ?_, fun z => ?_⟩
    · rw [if_neg (by omega)] at hy hn
      exact ih (p + 1) (by omega) (by omega) hy hn
    · rw [if_pos (by omega)] at hn
      exact hn (by omega)
/-- what the planner needs, and what it keeps -/
def PLs (h : mHp) (B : tB) (q : Int) : Prop := PLI h B ∧ (∃ N, NB h q N) ∧ nOk h
theorem plF_BC {h h' : mHp} {b : Nat} {B : tB} (hb : bAd b) (f : plF h h') (hB : BC h b B) : BC h' b B := BC_of hB (fun k hk => f.1 _ (Or.inl (by rcases hb with rfl | rfl <;> omega)))
theorem s_T_planFor2 {d : Nat} {h : mHp} {b : Nat} (hb : bAd b) {B : tB} (hO : BOk B) {l w q : Int} (hl : 0 ≤ l) (hl' : l ≤ 2) (w0 : -1 ≤ w) (w1 : w < 5) (hB : BC h b B) (hS : PLs h B q) (hq : q + 200 < 1000000) :
    ∃ h' q', mRuns (d + 19) 104 0 [some (.ref 26), some (.ref b), some (.int (zI l)), some (.int (zI w)), none, none, none, none] [] h (.inl (some (.ref (pCell l w)), h')) ∧ PF h' (pCell l w) B l w ∧ PLs h' B q' ∧ q ≤ q' ∧ q' ≤ q + 192 ∧ plF h h' ∧ ∀ x, 33 ≤ x → x ≠ pCell l w → x ≠ pCell l w + 1 → x ≠ pCell l w + 2 → h'.1 x = h.1 x := by
  obtain ⟨s1, ⟨N, s2⟩, s3⟩ := hS
  obtain ⟨h', q', N', r, p1, p2, p3, p4, p5, p6, p7⟩ := s_Pln_planFor (d := d) hb hO hl hl' w0 w1 hB s3 s2 hq s1
  exact ⟨h', q', r, p1, ⟨p2, ⟨N', p3⟩, fun j hj => by rw [p6.1 143 (Or.inr (by omega))]; exact s3 j hj⟩, p4, p5, p6, p7⟩
theorem s_T_planFor {d : Nat} {h : mHp} {b : Nat} (hb : bAd b) {B : tB} (hO : BOk B) {l w q : Int} (hl : 0 ≤ l) (hl' : l ≤ 2) (w0 : -1 ≤ w) (w1 : w < 5) (hB : BC h b B) (hS : PLs h B q) (hq : q + 200 < 1000000) :
    ∃ h' q', mRuns (d + 19) 104 0 [some (.ref 26), some (.ref b), some (.int (zI l)), some (.int (zI w)), none, none, none, none] [] h (.inl (some (.ref (pCell l w)), h')) ∧ PF h' (pCell l w) B l w ∧ PLs h' B q' ∧ q ≤ q' ∧ q' ≤ q + 192 ∧ plF h h' := by
  obtain ⟨h', q', r, p1, p2, p4, p5, p6, p7⟩ := s_T_planFor2 (d := d) hb hO hl hl' w0 w1 hB hS hq
  exact ⟨h', q', r, p1, p2, p4, p5, p6⟩

/-! L3, the model: cases, waiting, pairs, odds -/
theorem s_M_allCases {d : Nat} {h : mHp} {B : tB} (hB : BM h B) : mRuns (d + 1) 61 0 [some (.ref 114)] [] h (.inl (some (.int (zI (1 + bD B * bP B))), h)) := by
  have e1 := hB.1
  have e2 := hB.2.1
  refine vc_M_allCases ?_
  simp (disch := omega) only [zI_add, zI_sub, zI_mul, zI_neg, zI_lit, zI_0, zI_1, zI_lt, zI_le, zI_eq, zI_clamp, zI_inT, zI_ite, mOb_0, mOb_1, mOb_3, mOb_4, mLd_1, mAr_1, mLen_1, mTrue_t, Int.toNat_zero, Int.toNat_one, true_and, and_true, not_true_eq_false, not_false_eq_true, true_or, or_true, or_self, false_or, or_false, forall_const, false_implies, true_implies, implies_true, e1, e2]
theorem s_M_cases_num {d : Nat} {h : mHp} {B : tB} {E : tE} (hB : BM h B) (hO : BOk B) (hM : EM h E) (hE : EOk B E) (h0 : h.1 114 0 = zI 0) : ∀ (j : Nat) (c n : Int), c + j = 1 + bD B * bP B → 0 ≤ c → 0 ≤ n → n ≤ c →
    mRuns (d + 5) 60 29 [some (.ref 114), some (.int (zI (-1))), some (.int (zI n)), some (.int (zI c))] [] h (.inl (some (.int (zI (aNumR B E (aNow E) j c n))), h)) := by
  have o := hO.1
  have hr := case_rng (nd := bD B) (np := bP B) (by omega) (by omega) (by omega) (by omega)
  have hw := aNow_rng hE
  intro j
  induction j with
  | zero =>
    intro c n hc c0 n0 n1
    refine vc_M_cases_29 ⟨_, _, s_M_allCases hB, ?_⟩
    simp (disch := omega) only [zI_add, zI_sub, zI_mul, zI_neg, zI_lit, zI_0, zI_1, zI_lt, zI_le, zI_eq, zI_clamp, zI_inT, zI_ite, mOb_0, mOb_1, mOb_3, mOb_4, mLd_1, mAr_1, mLen_1, mTrue_t, Int.toNat_zero, Int.toNat_one, true_and, and_true, not_true_eq_false, not_false_eq_true, true_or, or_true, or_self, false_or, or_false, forall_const, false_implies, true_implies, implies_true]
    refine ⟨fun _ => ⟨_, _, s_M_right_t h0 rfl, ?_⟩, fun z => by omega⟩
    simp (disch := omega) only [zI_add, zI_sub, zI_mul, zI_neg, zI_lit, zI_0, zI_1, zI_lt, zI_le, zI_eq, zI_clamp, zI_inT, zI_ite, mOb_0, mOb_1, mOb_3, mOb_4, mLd_1, mAr_1, mLen_1, mTrue_t, Int.toNat_zero, Int.toNat_one, true_and, and_true, not_true_eq_false, not_false_eq_true, true_or, or_true, or_self, false_or, or_false, forall_const, false_implies, true_implies, implies_true]
    repeat' (first | refine And.intro ?_ ?_ | with_reducible intro _)
    all_goals first | omega | rfl
  | succ j ih =>
    intro c n hc c0 n0 n1
    have hf := aFit_01 100000 B E (aNow E) c c
    have hi := ih (c + 1) (n + aFit 100000 B E (aNow E) c c) (by omega) (by omega) (by omega) (by omega)
    refine vc_M_cases_29 ⟨_, _, s_M_allCases hB, ?_⟩
    simp (disch := omega) only [zI_add, zI_sub, zI_mul, zI_neg, zI_lit, zI_0, zI_1, zI_lt, zI_le, zI_eq, zI_clamp, zI_inT, zI_ite, mOb_0, mOb_1, mOb_3, mOb_4, mLd_1, mAr_1, mLen_1, mTrue_t, Int.toNat_zero, Int.toNat_one, true_and, and_true, not_true_eq_false, not_false_eq_true, true_or, or_true, or_self, false_or, or_false, forall_const, false_implies, true_implies, implies_true]
    refine ⟨fun z => by omega, fun _ => ⟨_, _, s_M_now hM hE, _, _, s_M_fits hB hO hM hE c0 (by omega) c0 (by omega) hw.1 (by omega), ?_⟩⟩
    simp (disch := omega) only [zI_add, zI_sub, zI_mul, zI_neg, zI_lit, zI_0, zI_1, zI_lt, zI_le, zI_eq, zI_clamp, zI_inT, zI_ite, mOb_0, mOb_1, mOb_3, mOb_4, mLd_1, mAr_1, mLen_1, mTrue_t, Int.toNat_zero, Int.toNat_one, true_and, and_true, not_true_eq_false, not_false_eq_true, true_or, or_true, or_self, false_or, or_false, forall_const, false_implies, true_implies, implies_true]
    refine ⟨fun z => ⟨fun y => ?_, fun y => by omega⟩, fun z => ?_⟩
    · rw [show aFit 100000 B E (aNow E) c c = 1 by omega] at hi
      unfold aNumR; rw [show aFit 100000 B E (aNow E) c c = 1 by omega]; exact hi
    · rw [z, Int.add_zero] at hi
      unfold aNumR; rw [z, Int.add_zero]; exact hi
theorem s_M_cases_at {d : Nat} {h : mHp} {B : tB} {E : tE} (hB : BM h B) (hO : BOk B) (hM : EM h E) (hE : EOk B E) (h0 : h.1 114 0 = zI 0) {i : Int} (i1 : 0 ≤ i) (i2 : i < 2147483648) : ∀ (j : Nat) (c n : Int), c + j = 1 + bD B * bP B → 0 ≤ c → 0 ≤ n → n ≤ c →
    mRuns (d + 5) 60 29 [some (.ref 114), some (.int (zI i)), some (.int (zI n)), some (.int (zI c))] [] h (if aCaR B E (aNow E) i j c n = -1 then .inl (some (.int (zI 0)), mPI h 114 0 (zI 1)) else .inl (some (.int (zI (aCaR B E (aNow E) i j c n))), h)) := by
  have o := hO.1
  have hr := case_rng (nd := bD B) (np := bP B) (by omega) (by omega) (by omega) (by omega)
  have hw := aNow_rng hE
  intro j
  induction j with
  | zero =>
    intro c n hc c0 n0 n1
    unfold aCaR
    rw [if_pos rfl]
    refine vc_M_cases_29 ⟨_, _, s_M_allCases hB, ?_⟩
    simp (disch := omega) only [zI_add, zI_sub, zI_mul, zI_neg, zI_lit, zI_0, zI_1, zI_lt, zI_le, zI_eq, zI_clamp, zI_inT, zI_ite, mOb_0, mOb_1, mOb_3, mOb_4, mLd_1, mAr_1, mLen_1, mTrue_t, Int.toNat_zero, Int.toNat_one, true_and, and_true, not_true_eq_false, not_false_eq_true, true_or, or_true, or_self, false_or, or_false, forall_const, false_implies, true_implies, implies_true]
    refine ⟨fun _ => ⟨fun _ => ⟨_, _, s_M_right_f h0 (by omega) (by omega), ?_⟩, fun z => by omega⟩, fun z => by omega⟩
    simp (disch := omega) only [zI_add, zI_sub, zI_mul, zI_neg, zI_lit, zI_0, zI_1, zI_lt, zI_le, zI_eq, zI_clamp, zI_inT, zI_ite, mOb_0, mOb_1, mOb_3, mOb_4, mLd_1, mAr_1, mLen_1, mTrue_t, Int.toNat_zero, Int.toNat_one, true_and, and_true, not_true_eq_false, not_false_eq_true, true_or, or_true, or_self, false_or, or_false, forall_const, false_implies, true_implies, implies_true]
  | succ j ih =>
    intro c n hc c0 n0 n1
    have hf := aFit_01 100000 B E (aNow E) c c
    have hi := ih (c + 1) n (by omega) (by omega) (by omega) (by omega)
    have hi' := ih (c + 1) (n + 1) (by omega) (by omega) (by omega) (by omega)
    unfold aCaR
    refine vc_M_cases_29 ⟨_, _, s_M_allCases hB, ?_⟩
    simp (disch := omega) only [zI_add, zI_sub, zI_mul, zI_neg, zI_lit, zI_0, zI_1, zI_lt, zI_le, zI_eq, zI_clamp, zI_inT, zI_ite, mOb_0, mOb_1, mOb_3, mOb_4, mLd_1, mAr_1, mLen_1, mTrue_t, Int.toNat_zero, Int.toNat_one, true_and, and_true, not_true_eq_false, not_false_eq_true, true_or, or_true, or_self, false_or, or_false, forall_const, false_implies, true_implies, implies_true]
    refine ⟨fun z => by omega, fun _ => ⟨_, _, s_M_now hM hE, _, _, s_M_fits hB hO hM hE c0 (by omega) c0 (by omega) hw.1 (by omega), ?_⟩⟩
    simp (disch := omega) only [zI_add, zI_sub, zI_mul, zI_neg, zI_lit, zI_0, zI_1, zI_lt, zI_le, zI_eq, zI_clamp, zI_inT, zI_ite, mOb_0, mOb_1, mOb_3, mOb_4, mLd_1, mAr_1, mLen_1, mTrue_t, Int.toNat_zero, Int.toNat_one, true_and, and_true, not_true_eq_false, not_false_eq_true, true_or, or_true, or_self, false_or, or_false, forall_const, false_implies, true_implies, implies_true]
    refine ⟨fun z => ⟨fun y => ?_, fun y => ?_⟩, fun z => ?_⟩
    · simp only [if_neg z, if_neg y]; exact hi'
    · simp only [if_neg z, if_pos y]; rw [if_neg (by omega)]
    · simp only [if_pos z]; exact hi
theorem aCaR_rng {B : tB} {E : tE} {k i : Int} : ∀ (j : Nat) (c n : Int), 0 ≤ c → aCaR B E k i j c n = -1 ∨ (c ≤ aCaR B E k i j c n ∧ aCaR B E k i j c n < c + j) := by
  intro j
  induction j with
  | zero => intro c n _; exact Or.inl rfl
  | succ j ih =>
    intro c n hc
    have h1 := ih (c + 1) n (by omega)
    have h2 := ih (c + 1) (n + 1) (by omega)
    unfold aCaR
    split
    · omega
    · split <;> omega
theorem aCaR_neg {B : tB} {E : tE} {k i : Int} (hi : i < 0) : ∀ (j : Nat) (c n : Int), 0 ≤ n → aCaR B E k i j c n = -1 := by
  intro j
  induction j with
  | zero => intro c n _; rfl
  | succ j ih =>
    intro c n hn
    unfold aCaR
    split
    · exact ih _ _ hn
    · rw [if_neg (by omega)]; exact ih _ _ (by omega)
/-- what cases answers: thrown, answer -/
def rCases (B : tB) (E : tE) (i : Int) : Int × Int := if i = -1 then (0, aNum B E (aNow E)) else if aCa B E (aNow E) i = -1 then (1, 0) else (0, aCa B E (aNow E) i)
theorem s_M_cases {d : Nat} {h : mHp} {B : tB} {E : tE} (hB : BM h B) (hO : BOk B) (hM : EM h E) (hE : EOk B E) {i : Int} (i1 : -2147483648 ≤ i) (i2 : i < 2147483648) :
    mRuns (d + 5) 60 0 [some (.ref 114), some (.int (zI i)), none, none] [] h (.inl (some (.int (zI (rCases B E i).2)), mPI h 114 0 (zI (rCases B E i).1))) := by
  have o := hO.1
  have hr := case_rng (nd := bD B) (np := bP B) (by omega) (by omega) (by omega) (by omega)
  have hB' : BM (mPI h 114 0 (zI 0)) B := BM_of hB (fun k h1 _ => hI_off (by omega) _ _ _ _) (fun k h1 _ => hI_ne (by omega) _ _ _)
  have hM' : EM (mPI h 114 0 (zI 0)) E := EM_of hM (hI_off (by omega) _ _ _ _) (hI_ne (by omega) _ _ _)
  have hh : ∀ v, mPI (mPI h 114 0 (zI 0)) 114 0 v = mPI h 114 0 v := by
    intro v; unfold mPI; simp only [Prod.mk.injEq, and_true]; funext x y; split <;> rfl
  refine vc_M_cases ?_
  unfold rCases
  simp (disch := omega) only [zI_add, zI_sub, zI_mul, zI_neg, zI_lit, zI_0, zI_1, zI_lt, zI_le, zI_eq, zI_clamp, zI_inT, zI_ite, mOb_0, mOb_1, mOb_3, mOb_4, mLd_1, mAr_1, mLen_1, mTrue_t, Int.toNat_zero, Int.toNat_one, true_and, and_true, not_true_eq_false, not_false_eq_true, true_or, or_true, or_self, false_or, or_false, forall_const, false_implies, true_implies, implies_true]
  refine ⟨fun z => ⟨_, _, s_M_right_f (hI_same _ _ _ _) (by omega) (by omega), ?_⟩, fun z => ⟨_, _, s_M_right_t (hI_same _ _ _ _) rfl, ?_⟩⟩
  · simp (disch := omega) only [zI_add, zI_sub, zI_mul, zI_neg, zI_lit, zI_0, zI_1, zI_lt, zI_le, zI_eq, zI_clamp, zI_inT, zI_ite, mOb_0, mOb_1, mOb_3, mOb_4, mLd_1, mAr_1, mLen_1, mTrue_t, Int.toNat_zero, Int.toNat_one, true_and, and_true, not_true_eq_false, not_false_eq_true, true_or, or_true, or_self, false_or, or_false, forall_const, false_implies, true_implies, implies_true]
    rw [if_neg (by omega), show aCa B E (aNow E) i = -1 from aCaR_neg (by omega) _ _ _ (by omega), if_pos rfl, hh]
  · simp (disch := omega) only [zI_add, zI_sub, zI_mul, zI_neg, zI_lit, zI_0, zI_1, zI_lt, zI_le, zI_eq, zI_clamp, zI_inT, zI_ite, mOb_0, mOb_1, mOb_3, mOb_4, mLd_1, mAr_1, mLen_1, mTrue_t, Int.toNat_zero, Int.toNat_one, true_and, and_true, not_true_eq_false, not_false_eq_true, true_or, or_true, or_self, false_or, or_false, forall_const, false_implies, true_implies, implies_true]
    refine ⟨fun _ => ?_, fun z => by omega⟩
    by_cases c : i = -1
    · rw [if_pos c, c]
      exact s_M_cases_num hB' hO hM' hE (hI_same _ _ _ _) (1 + bD B * bP B).toNat 0 0 (by omega) (by omega) (by omega) (by omega)
    · rw [if_neg c]
      have := s_M_cases_at (d := d) hB' hO hM' hE (hI_same _ _ _ _) (i := i) (by omega) i2 (1 + bD B * bP B).toNat 0 0 (by omega) (by omega) (by omega) (by omega)
      rw [hh] at this
      have e : aCaR B E (aNow E) i (1 + bD B * bP B).toNat 0 0 = aCa B E (aNow E) i := rfl
      rw [e] at this
      by_cases c2 : aCa B E (aNow E) i = -1
      · rw [if_pos c2] at this ⊢; exact this
      · rw [if_neg c2] at this ⊢; exact this
theorem s_M_waiting_loop {d : Nat} {h : mHp} {B : tB} {E : tE} (hB : BM h B) (hO : BOk B) (hM : EM h E) (hE : EOk B E) {k : Int} (hk : 0 ≤ k) (hk' : k ≤ 2000) : ∀ (j : Nat) (c n : Int), c + j = 1 + bD B * bP B → 0 ≤ c →
    mRuns (d + 5) 70 30 [some (.ref 114), some (.int (zI k)), some (.int (zI n)), some (.int (zI c))] [] h (.inl (some (.int (zI (aNumR B E k j c n))), h)) := by
  have o := hO.1
  have hr := case_rng (nd := bD B) (np := bP B) (by omega) (by omega) (by omega) (by omega)
  intro j
  induction j with
  | zero =>
    intro c n hc c0
    refine vc_M_waiting_30 ⟨_, _, s_M_allCases hB, ?_⟩
    simp (disch := omega) only [zI_add, zI_sub, zI_mul, zI_neg, zI_lit, zI_0, zI_1, zI_lt, zI_le, zI_eq, zI_clamp, zI_inT, zI_ite, mOb_0, mOb_1, mOb_3, mOb_4, mLd_1, mAr_1, mLen_1, mTrue_t, Int.toNat_zero, Int.toNat_one, true_and, and_true, not_true_eq_false, not_false_eq_true, true_or, or_true, or_self, false_or, or_false, forall_const, false_implies, true_implies, implies_true]
    exact ⟨fun _ => rfl, fun z => by omega⟩
  | succ j ih =>
    intro c n hc c0
    have hf := aFit_01 100000 B E k c c
    have hi := ih (c + 1) (n + aFit 100000 B E k c c) (by omega) (by omega)
    refine vc_M_waiting_30 ⟨_, _, s_M_allCases hB, ?_⟩
    simp (disch := omega) only [zI_add, zI_sub, zI_mul, zI_neg, zI_lit, zI_0, zI_1, zI_lt, zI_le, zI_eq, zI_clamp, zI_inT, zI_ite, mOb_0, mOb_1, mOb_3, mOb_4, mLd_1, mAr_1, mLen_1, mTrue_t, Int.toNat_zero, Int.toNat_one, true_and, and_true, not_true_eq_false, not_false_eq_true, true_or, or_true, or_self, false_or, or_false, forall_const, false_implies, true_implies, implies_true]
    refine ⟨fun z => by omega, fun _ => ⟨_, _, s_M_fits hB hO hM hE c0 (by omega) c0 (by omega) hk hk', ?_⟩⟩
    simp (disch := omega) only [zI_add, zI_sub, zI_mul, zI_neg, zI_lit, zI_0, zI_1, zI_lt, zI_le, zI_eq, zI_clamp, zI_inT, zI_ite, mOb_0, mOb_1, mOb_3, mOb_4, mLd_1, mAr_1, mLen_1, mTrue_t, Int.toNat_zero, Int.toNat_one, true_and, and_true, not_true_eq_false, not_false_eq_true, true_or, or_true, or_self, false_or, or_false, forall_const, false_implies, true_implies, implies_true]
    unfold aNumR
    refine ⟨fun z => ?_, fun z => ?_⟩
    · rw [z] at hi ⊢; exact hi
    · rw [show aFit 100000 B E k c c = 1 by omega] at hi ⊢; exact hi
def rWaiting (B : tB) (E : tE) (k : Int) : Int × Int := if aNow E ≤ k ∧ k ≤ 2000 then (0, aNum B E k) else (1, 0)
theorem s_M_waiting {d : Nat} {h : mHp} {B : tB} {E : tE} (hB : BM h B) (hO : BOk B) (hM : EM h E) (hE : EOk B E) {i : Int} (i1 : -2147483648 ≤ i) (i2 : i < 2147483648) :
    mRuns (d + 5) 70 0 [some (.ref 114), some (.int (zI i)), none, none] [] h (.inl (some (.int (zI (rWaiting B E i).2)), mPI h 114 0 (zI (rWaiting B E i).1))) := by
  have o := hO.1
  have hw := aNow_rng hE
  have hr := case_rng (nd := bD B) (np := bP B) (by omega) (by omega) (by omega) (by omega)
  have hB' : BM (mPI h 114 0 (zI 0)) B := BM_of hB (fun k h1 _ => hI_off (by omega) _ _ _ _) (fun k h1 _ => hI_ne (by omega) _ _ _)
  have hM' : EM (mPI h 114 0 (zI 0)) E := EM_of hM (hI_off (by omega) _ _ _ _) (hI_ne (by omega) _ _ _)
  have hh : ∀ v, mPI (mPI h 114 0 (zI 0)) 114 0 v = mPI h 114 0 v := by
    intro v; unfold mPI; simp only [Prod.mk.injEq, and_true]; funext x y; split <;> rfl
  refine vc_M_waiting ?_
  unfold rWaiting
  simp (disch := omega) only [zI_add, zI_sub, zI_mul, zI_neg, zI_lit, zI_0, zI_1, zI_lt, zI_le, zI_eq, zI_clamp, zI_inT, zI_ite, mOb_0, mOb_1, mOb_3, mOb_4, mLd_1, mAr_1, mLen_1, mTrue_t, Int.toNat_zero, Int.toNat_one, true_and, and_true, not_true_eq_false, not_false_eq_true, true_or, or_true, or_self, false_or, or_false, forall_const, false_implies, true_implies, implies_true]
  refine ⟨_, _, s_M_now hM' hE, _, _, s_M_within i1 i2 (by omega) (by omega) (by omega) (by omega), ?_⟩
  by_cases c : aNow E ≤ i ∧ i ≤ 2000
  · rw [if_pos c, if_pos c]
    refine ⟨_, _, s_M_right_t (hI_same _ _ _ _) rfl, ?_⟩
    simp (disch := omega) only [zI_add, zI_sub, zI_mul, zI_neg, zI_lit, zI_0, zI_1, zI_lt, zI_le, zI_eq, zI_clamp, zI_inT, zI_ite, mOb_0, mOb_1, mOb_3, mOb_4, mLd_1, mAr_1, mLen_1, mTrue_t, Int.toNat_zero, Int.toNat_one, true_and, and_true, not_true_eq_false, not_false_eq_true, true_or, or_true, or_self, false_or, or_false, forall_const, false_implies, true_implies, implies_true]
    refine ⟨fun _ => ?_, fun z => by omega⟩
    exact s_M_waiting_loop hB' hO hM' hE (by omega) (by omega) (1 + bD B * bP B).toNat 0 0 (by omega) (by omega)
  · rw [if_neg c, if_neg c]
    refine ⟨_, _, s_M_right_f (hI_same _ _ _ _) (by omega) (by omega), ?_⟩
    simp (disch := omega) only [zI_add, zI_sub, zI_mul, zI_neg, zI_lit, zI_0, zI_1, zI_lt, zI_le, zI_eq, zI_clamp, zI_inT, zI_ite, mOb_0, mOb_1, mOb_3, mOb_4, mLd_1, mAr_1, mLen_1, mTrue_t, Int.toNat_zero, Int.toNat_one, true_and, and_true, not_true_eq_false, not_false_eq_true, true_or, or_true, or_self, false_or, or_false, forall_const, false_implies, true_implies, implies_true]
    rw [hh]
/-! pairs -/
def aPmO (B : tB) (E : tE) (k : Int) : Nat → Int → Int → Int
  | 0, _, v => v
  | j + 1, a, v => aPmO B E k j (a + 1) (aPrI B E k a (a - 1).toNat 1 v)
theorem s_M_pairs_in {d : Nat} {h : mHp} {B : tB} {E : tE} (hB : BM h B) (hO : BOk B) (hM : EM h E) (hE : EOk B E) {a : Int} (ha : 1 ≤ a) (ha' : a < 1 + bD B * bP B) {out : mOut} : ∀ (j : Nat) (q v : Int), q + j = a → 1 ≤ q →
    mRuns (d + 5) 67 9 [some (.ref 114), some (.int (zI (aPrI B E (aNow E) a j q v))), some (.int (zI (a + 1))), none] [] h out →
    mRuns (d + 5) 67 19 [some (.ref 114), some (.int (zI v)), some (.int (zI a)), some (.int (zI q))] [] h out := by
  have o := hO.1
  have hr := case_rng (nd := bD B) (np := bP B) (by omega) (by omega) (by omega) (by omega)
  have hw := aNow_rng hE
  intro j
  induction j with
  | zero =>
    intro q v hq h1 r
    refine vc_M_pairs_19 ?_
    simp (disch := omega) only [zI_add, zI_sub, zI_mul, zI_neg, zI_lit, zI_0, zI_1, zI_lt, zI_le, zI_eq, zI_clamp, zI_inT, zI_ite, mOb_0, mOb_1, mOb_3, mOb_4, mLd_1, mAr_1, mLen_1, mTrue_t, Int.toNat_zero, Int.toNat_one, true_and, and_true, not_true_eq_false, not_false_eq_true, true_or, or_true, or_self, false_or, or_false, forall_const, false_implies, true_implies, implies_true]
    exact ⟨fun _ => r, fun z => by omega⟩
  | succ j ih =>
    intro q v hq h1 r
    have r := ih (q + 1) _ (by omega) (by omega) r
    have hf := aFit_01 100000 B E (aNow E) a q
    refine vc_M_pairs_19 ?_
    simp (disch := omega) only [zI_add, zI_sub, zI_mul, zI_neg, zI_lit, zI_0, zI_1, zI_lt, zI_le, zI_eq, zI_clamp, zI_inT, zI_ite, mOb_0, mOb_1, mOb_3, mOb_4, mLd_1, mAr_1, mLen_1, mTrue_t, Int.toNat_zero, Int.toNat_one, true_and, and_true, not_true_eq_false, not_false_eq_true, true_or, or_true, or_self, false_or, or_false, forall_const, false_implies, true_implies, implies_true]
    refine ⟨fun z => by omega, fun _ => ⟨_, _, s_M_now hM hE, _, _, s_M_fits hB hO hM hE (by omega) (by omega) (by omega) (by omega) hw.1 (by omega), ?_⟩⟩
    simp (disch := omega) only [zI_add, zI_sub, zI_mul, zI_neg, zI_lit, zI_0, zI_1, zI_lt, zI_le, zI_eq, zI_clamp, zI_inT, zI_ite, mOb_0, mOb_1, mOb_3, mOb_4, mLd_1, mAr_1, mLen_1, mTrue_t, Int.toNat_zero, Int.toNat_one, true_and, and_true, not_true_eq_false, not_false_eq_true, true_or, or_true, or_self, false_or, or_false, forall_const, false_implies, true_implies, implies_true]
    refine ⟨fun z => ?_, fun z => ?_⟩
    · rw [z] at r; exact r
    · rw [show aFit 100000 B E (aNow E) a q = 1 by omega] at r; exact r
theorem s_M_pairs_out {d : Nat} {h : mHp} {B : tB} {E : tE} (hB : BM h B) (hO : BOk B) (hM : EM h E) (hE : EOk B E) : ∀ (j : Nat) (a v : Int), a + j = 1 + bD B * bP B → 1 ≤ a →
    mRuns (d + 5) 67 9 [some (.ref 114), some (.int (zI v)), some (.int (zI a)), none] [] h (.inl (some (.int (zI (aPmO B E (aNow E) j a v))), h)) := by
  have o := hO.1
  have hr := case_rng (nd := bD B) (np := bP B) (by omega) (by omega) (by omega) (by omega)
  intro j
  induction j with
  | zero =>
    intro a v ha h1
    refine vc_M_pairs_9 ⟨_, _, s_M_allCases hB, ?_⟩
    simp (disch := omega) only [zI_add, zI_sub, zI_mul, zI_neg, zI_lit, zI_0, zI_1, zI_lt, zI_le, zI_eq, zI_clamp, zI_inT, zI_ite, mOb_0, mOb_1, mOb_3, mOb_4, mLd_1, mAr_1, mLen_1, mTrue_t, Int.toNat_zero, Int.toNat_one, true_and, and_true, not_true_eq_false, not_false_eq_true, true_or, or_true, or_self, false_or, or_false, forall_const, false_implies, true_implies, implies_true]
    exact ⟨fun _ => rfl, fun z => by omega⟩
  | succ j ih =>
    intro a v ha h1
    refine vc_M_pairs_9 ⟨_, _, s_M_allCases hB, ?_⟩
    simp (disch := omega) only [zI_add, zI_sub, zI_mul, zI_neg, zI_lit, zI_0, zI_1, zI_lt, zI_le, zI_eq, zI_clamp, zI_inT, zI_ite, mOb_0, mOb_1, mOb_3, mOb_4, mLd_1, mAr_1, mLen_1, mTrue_t, Int.toNat_zero, Int.toNat_one, true_and, and_true, not_true_eq_false, not_false_eq_true, true_or, or_true, or_self, false_or, or_false, forall_const, false_implies, true_implies, implies_true]
    refine ⟨fun z => by omega, fun _ => ?_⟩
    exact s_M_pairs_in hB hO hM hE h1 (by omega) (a - 1).toNat 1 v (by omega) (by omega) (ih (a + 1) _ (by omega) (by omega))
theorem aFlcMin_comm (a b : Int) : aMin a b = aMin b a := by unfold aMin; split <;> split <;> omega
theorem aFit_comm (top : Int) (B : tB) (E : tE) (k c q : Int) : aFit top B E k c q = aFit top B E k q c := by
  unfold aFit
  generalize (bT B).toNat = j
  generalize (0 : Int) = t
  induction j generalizing t with
  | zero => rfl
  | succ j ih => unfold aFitR; rw [aFlcMin_comm, ih]
theorem aPrI_add (B : tB) (E : tE) (k c : Int) : ∀ (j : Nat) (q v : Int), aPrI B E k c j q v = v + aPrI B E k c j q 0 := by
  intro j
  induction j with
  | zero => intro q v; simp [aPrI]
  | succ j ih =>
    intro q v
    unfold aPrI
    rw [ih (q + 1) (v + _), ih (q + 1) (0 + _)]; omega
theorem aPrI_snoc (B : tB) (E : tE) (k c : Int) : ∀ (j : Nat) (q v : Int), aPrI B E k c (j + 1) q v = aPrI B E k c j q v + aFit 100000 B E k c (q + j) := by
  intro j
  induction j with
  | zero => intro q v; simp [aPrI]
  | succ j ih =>
    intro q v
    have := ih (q + 1) (v + aFit 100000 B E k c q)
    rw [show q + 1 + (j : Int) = q + ((j + 1 : Nat) : Int) by omega] at this
    exact this
/-- the column of c: pairs (x, c), x from 1 on -/
theorem aPr_eq (B : tB) (E : tE) (k : Int) : ∀ (n : Nat) (c v : Int), aPrO B E k (n + 1) c v = aPrO B E k n c v + aPrI B E k (c + n) n c 0 := by
  intro n
  induction n with
  | zero => intro c v; simp [aPrO, aPrI]
  | succ n ih =>
    intro c v
    have h1 : aPrO B E k (n + 1 + 1) c v = aPrO B E k (n + 1) (c + 1) (aPrI B E k c (n + 1) (c + 1) v) := rfl
    have h2 : aPrO B E k (n + 1) c v = aPrO B E k n (c + 1) (aPrI B E k c n (c + 1) v) := rfl
    have h3 : ∀ (j : Nat) (c v x : Int), aPrO B E k j c (v + x) = aPrO B E k j c v + x := by
      intro j
      induction j with
      | zero => intro c v x; rfl
      | succ j ihj =>
        intro c v x
        unfold aPrO
        rw [aPrI_add B E k c j (c + 1) (v + x), aPrI_add B E k c j (c + 1) v, show v + x + aPrI B E k c j (c + 1) 0 = (v + aPrI B E k c j (c + 1) 0) + x by omega, ihj]
    rw [h1, ih (c + 1), aPrI_snoc, h3, h2]
    have h4 : aPrI B E k (c + ((n + 1 : Nat) : Int)) (n + 1) c 0 = aFit 100000 B E k (c + ((n + 1 : Nat) : Int)) c + aPrI B E k (c + ((n + 1 : Nat) : Int)) n (c + 1) 0 := by
      show aPrI B E k _ n (c + 1) (0 + _) = _
      rw [aPrI_add]; omega
    rw [h4, show c + 1 + (n : Int) = c + ((n + 1 : Nat) : Int) by omega, aFit_comm]
    omega
theorem aPm_snoc (B : tB) (E : tE) (k : Int) : ∀ (n : Nat) (a v : Int), aPmO B E k (n + 1) a v = aPrI B E k (a + n) (a + n - 1).toNat 1 (aPmO B E k n a v) := by
  intro n
  induction n with
  | zero => intro a v; simp [aPmO]
  | succ n ih =>
    intro a v
    have := ih (a + 1) (aPrI B E k a (a - 1).toNat 1 v)
    rw [show a + 1 + (n : Int) = a + ((n + 1 : Nat) : Int) by omega] at this
    exact this
theorem aPm_pr (B : tB) (E : tE) (k : Int) : ∀ (n : Nat), aPmO B E k n 1 0 = aPrO B E k n 1 0 := by
  intro n
  induction n with
  | zero => rfl
  | succ n ih =>
    rw [aPm_snoc, aPr_eq, ih, aPrI_add, show (1 + (n : Int) - 1).toNat = n by omega]
theorem s_M_pairs {d : Nat} {h : mHp} {B : tB} {E : tE} (hB : BM h B) (hO : BOk B) (hM : EM h E) (hE : EOk B E) :
    mRuns (d + 5) 67 0 [some (.ref 114), none, none, none] [] h (.inl (some (.int (zI (aPr B E (aNow E)))), mPI h 114 0 (zI 0))) := by
  have o := hO.1
  have hr := case_rng (nd := bD B) (np := bP B) (by omega) (by omega) (by omega) (by omega)
  have hB' : BM (mPI h 114 0 (zI 0)) B := BM_of hB (fun k h1 _ => hI_off (by omega) _ _ _ _) (fun k h1 _ => hI_ne (by omega) _ _ _)
  have hM' : EM (mPI h 114 0 (zI 0)) E := EM_of hM (hI_off (by omega) _ _ _ _) (hI_ne (by omega) _ _ _)
  refine vc_M_pairs ?_
  simp (disch := omega) only [zI_add, zI_sub, zI_mul, zI_neg, zI_lit, zI_0, zI_1, zI_lt, zI_le, zI_eq, zI_clamp, zI_inT, zI_ite, mOb_0, mOb_1, mOb_3, mOb_4, mLd_1, mAr_1, mLen_1, mTrue_t, Int.toNat_zero, Int.toNat_one, true_and, and_true, not_true_eq_false, not_false_eq_true, true_or, or_true, or_self, false_or, or_false, forall_const, false_implies, true_implies, implies_true]
  unfold aPr; rw [← aPm_pr]
  exact s_M_pairs_out hB' hO hM' hE (bD B * bP B).toNat 1 0 (by omega) (by omega)

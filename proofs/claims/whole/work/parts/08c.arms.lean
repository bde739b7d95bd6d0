/-! SOUNDNESS, part 3: the count of throws, and the arms -/
theorem mCl_at {a : Nat} (h : a < 9) : vwCl[a]? = some (mCn a, mTT a, mNf a) := by
  match a, h with
  | 0, _ => rfl
  | 1, _ => rfl
  | 2, _ => rfl
  | 3, _ => rfl
  | 4, _ => rfl
  | 5, _ => rfl
  | 6, _ => rfl
  | 7, _ => rfl
  | 8, _ => rfl
  | a + 9, h => exact absurd h (by omega)
theorem mCl_ty {a : Nat} (h : a < 9) : ∃ ty0 : Nat → FieldType, (∀ k, k < mNf a → parseFieldDescriptor (mTT a k).2.2.1 = some (ty0 k)) ∧ ∀ x, x < mNf a → ∀ y, y < mNf a → x ≠ y → (mTT a x).2.1 ≠ (mTT a y).2.1 := by
  match a, h with
  | 0, _ => exact ⟨tyX0, tyX0_ok, nmX0⟩
  | 1, _ => exact ⟨tyX1, tyX1_ok, nmX1⟩
  | 2, _ => exact ⟨tyX2, tyX2_ok, nmX2⟩
  | 3, _ => exact ⟨tyX3, tyX3_ok, nmX3⟩
  | 4, _ => exact ⟨tyX4, tyX4_ok, nmX4⟩
  | 5, _ => exact ⟨tyX5, tyX5_ok, nmX5⟩
  | 6, _ => exact ⟨tyX6, tyX6_ok, nmX6⟩
  | 7, _ => exact ⟨tyX7, tyX7_ok, nmX7⟩
  | 8, _ => exact ⟨tyX8, tyX8_ok, nmX8⟩
  | a + 9, h => exact absurd h (by omega)

theorem mUw_0 : ∀ w ∈ u_ws (mCn 0) (mTT 0) (mNf 0), w ∈ tables_1 := by decide +kernel
theorem mUg_0 : (u_ws (mCn 0) (mTT 0) (mNf 0)).all goodWord = true := by decide +kernel
theorem mUw_1 : ∀ w ∈ u_ws (mCn 1) (mTT 1) (mNf 1), w ∈ tables_1 := by decide +kernel
theorem mUg_1 : (u_ws (mCn 1) (mTT 1) (mNf 1)).all goodWord = true := by decide +kernel
theorem mUw_2 : ∀ w ∈ u_ws (mCn 2) (mTT 2) (mNf 2), w ∈ tables_1 := by decide +kernel
theorem mUg_2 : (u_ws (mCn 2) (mTT 2) (mNf 2)).all goodWord = true := by decide +kernel
theorem mUw_3 : ∀ w ∈ u_ws (mCn 3) (mTT 3) (mNf 3), w ∈ tables_1 := by decide +kernel
theorem mUg_3 : (u_ws (mCn 3) (mTT 3) (mNf 3)).all goodWord = true := by decide +kernel
theorem mUw_4 : ∀ w ∈ u_ws (mCn 4) (mTT 4) (mNf 4), w ∈ tables_1 := by decide +kernel
theorem mUg_4 : (u_ws (mCn 4) (mTT 4) (mNf 4)).all goodWord = true := by decide +kernel
theorem mUw_5 : ∀ w ∈ u_ws (mCn 5) (mTT 5) (mNf 5), w ∈ tables_1 := by decide +kernel
theorem mUg_5 : (u_ws (mCn 5) (mTT 5) (mNf 5)).all goodWord = true := by decide +kernel
theorem mUw_6 : ∀ w ∈ u_ws (mCn 6) (mTT 6) (mNf 6), w ∈ tables_1 := by decide +kernel
theorem mUg_6 : (u_ws (mCn 6) (mTT 6) (mNf 6)).all goodWord = true := by decide +kernel
theorem mUw_7 : ∀ w ∈ u_ws (mCn 7) (mTT 7) (mNf 7), w ∈ tables_1 := by decide +kernel
theorem mUg_7 : (u_ws (mCn 7) (mTT 7) (mNf 7)).all goodWord = true := by decide +kernel
theorem mUw_8 : ∀ w ∈ u_ws (mCn 8) (mTT 8) (mNf 8), w ∈ tables_1 := by decide +kernel
theorem mUg_8 : (u_ws (mCn 8) (mTT 8) (mNf 8)).all goodWord = true := by decide +kernel
theorem mCl_ws {a : Nat} (h : a < 9) : ∀ w ∈ u_ws (mCn a) (mTT a) (mNf a), w ∈ mBIG := by
  match a, h with
  | 0, _ => exact fun w hw => mBIG_in (mUw_0 w hw) (List.all_eq_true.mp mUg_0 w hw)
  | 1, _ => exact fun w hw => mBIG_in (mUw_1 w hw) (List.all_eq_true.mp mUg_1 w hw)
  | 2, _ => exact fun w hw => mBIG_in (mUw_2 w hw) (List.all_eq_true.mp mUg_2 w hw)
  | 3, _ => exact fun w hw => mBIG_in (mUw_3 w hw) (List.all_eq_true.mp mUg_3 w hw)
  | 4, _ => exact fun w hw => mBIG_in (mUw_4 w hw) (List.all_eq_true.mp mUg_4 w hw)
  | 5, _ => exact fun w hw => mBIG_in (mUw_5 w hw) (List.all_eq_true.mp mUg_5 w hw)
  | 6, _ => exact fun w hw => mBIG_in (mUw_6 w hw) (List.all_eq_true.mp mUg_6 w hw)
  | 7, _ => exact fun w hw => mBIG_in (mUw_7 w hw) (List.all_eq_true.mp mUg_7 w hw)
  | 8, _ => exact fun w hw => mBIG_in (mUw_8 w hw) (List.all_eq_true.mp mUg_8 w hw)
  | a + 9, h => exact absurd h (by omega)
def mPm : mP := fun _ _ _ _ _ h out => h.2.2.2 ≤ (mOh out).2.2.2
theorem mGf_e {K : Value → Prop} {G : mG} {h : mHp} {r k : Nat} {s : Nat × Nat} (q : mGf K h r k s) : ∃ v, K v ∧ mFv (gA G) r (h.1 r) (h.2.1 r) (h.2.2.1 r) k s = mRv (gA G) v := by
  unfold mGf at q; split at q
  · exact ⟨_, q, rfl⟩
  · exact ⟨_, q, rfl⟩
  · exact ⟨_, q, rfl⟩
  · obtain ⟨h1, h2⟩ := mTrue_e q
    refine ⟨_, h2, ?_⟩
    show (bif Nat.blt (h.2.2.1 r k) 142 then Value.ref (gA G (h.2.2.1 r k)) else .null) = _
    rw [h1]; rfl
  · exact ⟨_, q, rfl⟩
  · exact q.elim
theorem mGf_k {K : Value → Prop} {h : mHp} {r k : Nat} {s : Nat × Nat} (q : mGf K h r k s) : ∃ v, K v := by
  unfold mGf at q; split at q
  · exact ⟨_, q⟩
  · exact ⟨_, q⟩
  · exact ⟨_, q⟩
  · exact ⟨_, (mTrue_e q).2⟩
  · exact ⟨_, q⟩
  · exact q.elim
theorem mLd_k {K : Int32 → Prop} {h : mHp} {i : Int32} {a : Nat} {s : Nat × Nat × Nat} (q : mLd K h i a s) : ∃ v, K v := by
  unfold mLd at q; split at q
  · exact ⟨_, q.2⟩
  · exact ⟨_, q.2⟩
  · exact ⟨_, q.2⟩
  · exact q.elim
theorem mLen_k {K : Int32 → Prop} {h : mHp} {a : Nat} {s : Nat × Nat × Nat} (q : mLen K h a s) : ∃ v, K v := by
  unfold mLen at q; split at q
  · exact ⟨_, q⟩
  · exact ⟨_, q⟩
  · exact ⟨_, q⟩
  · exact ⟨_, q⟩
  · exact ⟨_, q⟩
  · exact q.elim
theorem mStrC_k {K : List Nat → Prop} {s : Nat × Nat × Nat} (q : mStrC K s) : ∃ k z, s = (7, k, z) ∧ K (mStr k) := by
  unfold mStrC at q; split at q
  · exact ⟨_, _, rfl, q⟩
  · exact q.elim
theorem mLdc_k {K : Value → Prop} {v : Int32} {b a : Nat} (q : mLdc K v b a) : (a = 0 ∧ K (.int v)) ∨ (a = 1 ∧ K (.ref b)) := by
  unfold mLdc at q; split at q
  · exact Or.inl ⟨rfl, q⟩
  · exact Or.inr ⟨rfl, q⟩
  · exact q.elim
theorem mDup_k {K : Value → List Value → Prop} {st : List Value} (q : mDup K st) : ∃ v r, st = v :: r ∧ v.category = 1 ∧ K v r := by
  unfold mDup at q; split at q
  · exact ⟨_, _, rfl, rfl, q⟩
  · exact ⟨_, _, rfl, rfl, q⟩
  · exact q.elim
theorem mBr_k {cn : ClassFile.Cond} {x y : Int32} {A : Prop} (q : mBr cn x y A A) : A := by
  cases cn <;> exact (Classical.em _).elim q.1 (fun n => q.2 (by first | exact n | exact Classical.not_not.mp n))
theorem mSw_k {A : Prop} {x : Int32} {b : Nat} : ∀ (ts : List Nat) (j : Nat), mSw (fun _ => A) x ts j → (∃ i, i < ts.length ∧ x = nI (j + i)) → A := by
  intro ts
  induction ts with
  | nil => intro j _ ⟨i, h, _⟩; exact absurd h (Nat.not_lt_zero _)
  | cons t ts ih =>
    intro j q ⟨i, h1, h2⟩
    cases i with
    | zero => exact q.1 h2
    | succ i => exact ih (j + 1) q.2 ⟨i, by simpa using h1, by rw [h2]; congr 1; omega⟩
theorem mI1_p {P : Prop} {K : Int32 → List Value → Prop} {st : List Value} (hk : ∀ x0 x1, K x0 x1 → P) (q : mI1 K st) : P := by
  obtain ⟨x0, x1, -, q⟩ := mI1_e q
  exact hk x0 x1 q
theorem mI2_p {P : Prop} {K : Int32 → Int32 → List Value → Prop} {st : List Value} (hk : ∀ x0 x1 x2, K x0 x1 x2 → P) (q : mI2 K st) : P := by
  obtain ⟨x0, x1, x2, -, q⟩ := mI2_e q
  exact hk x0 x1 x2 q
theorem mL1_p {P : Prop} {K : Int64 → List Value → Prop} {st : List Value} (hk : ∀ x0 x1, K x0 x1 → P) (q : mL1 K st) : P := by
  obtain ⟨x0, x1, -, q⟩ := mL1_e q
  exact hk x0 x1 q
theorem mL2_p {P : Prop} {K : Int64 → Int64 → List Value → Prop} {st : List Value} (hk : ∀ x0 x1 x2, K x0 x1 x2 → P) (q : mL2 K st) : P := by
  obtain ⟨x0, x1, x2, -, q⟩ := mL2_e q
  exact hk x0 x1 x2 q
theorem mIL_p {P : Prop} {K : Int64 → Int32 → List Value → Prop} {st : List Value} (hk : ∀ x0 x1 x2, K x0 x1 x2 → P) (q : mIL K st) : P := by
  obtain ⟨x0, x1, x2, -, q⟩ := mIL_e q
  exact hk x0 x1 x2 q
theorem mR1_p {P : Prop} {K : Nat → List Value → Prop} {st : List Value} (hk : ∀ x0 x1, K x0 x1 → P) (q : mR1 K st) : P := by
  obtain ⟨x0, x1, -, q⟩ := mR1_e q
  exact hk x0 x1 q
theorem mIR_p {P : Prop} {K : Int32 → Nat → List Value → Prop} {st : List Value} (hk : ∀ x0 x1 x2, K x0 x1 x2 → P) (q : mIR K st) : P := by
  obtain ⟨x0, x1, x2, -, q⟩ := mIR_e q
  exact hk x0 x1 x2 q
theorem mIIR_p {P : Prop} {K : Int32 → Int32 → Nat → List Value → Prop} {st : List Value} (hk : ∀ x0 x1 x2 x3, K x0 x1 x2 x3 → P) (q : mIIR K st) : P := by
  obtain ⟨x0, x1, x2, x3, -, q⟩ := mIIR_e q
  exact hk x0 x1 x2 x3 q
theorem mLIR_p {P : Prop} {K : Int64 → Int32 → Nat → List Value → Prop} {st : List Value} (hk : ∀ x0 x1 x2 x3, K x0 x1 x2 x3 → P) (q : mLIR K st) : P := by
  obtain ⟨x0, x1, x2, x3, -, q⟩ := mLIR_e q
  exact hk x0 x1 x2 x3 q
theorem mCpy_p {P : Prop} {K : Int32 → Int32 → Nat → Int32 → Nat → List Value → Prop} {st : List Value} (hk : ∀ x0 x1 x2 x3 x4 x5, K x0 x1 x2 x3 x4 x5 → P) (q : mCpy K st) : P := by
  obtain ⟨x0, x1, x2, x3, x4, x5, -, q⟩ := mCpy_e q
  exact hk x0 x1 x2 x3 x4 x5 q
theorem mGi_p {P : Prop} {K : Int32 → Prop} {o : Option Value} (hk : ∀ x, K x → P) (q : mGi K o) : P := by
  obtain ⟨x, -, q⟩ := mGi_e q
  exact hk x q
theorem mGl_p {P : Prop} {K : Int64 → Prop} {o : Option Value} (hk : ∀ x, K x → P) (q : mGl K o) : P := by
  obtain ⟨x, -, q⟩ := mGl_e q
  exact hk x q
theorem mGr_p {P : Prop} {K : Nat → Prop} {o : Option Value} (hk : ∀ x, K x → P) (q : mGr K o) : P := by
  obtain ⟨x, -, q⟩ := mGr_e q
  exact hk x q
theorem mLdc_p {P : Prop} {K : Value → Prop} {v : Int32} {b a : Nat} (hk : ∀ x, K x → P) (q : mLdc K v b a) : P := (mLdc_k q).elim (fun z => hk _ z.2) (fun z => hk _ z.2)
theorem mDup_p {P : Prop} {K : Value → List Value → Prop} {st : List Value} (hk : ∀ x r, K x r → P) (q : mDup K st) : P := by
  obtain ⟨x, r, -, -, q⟩ := mDup_k q
  exact hk x r q
theorem mAr_p {P : Prop} {t : Nat} {K : Nat → Nat → Prop} {s : Nat × Nat × Nat} (hk : ∀ n y, K n y → P) (q : mAr t K s) : P := by
  obtain ⟨n, y, -, q⟩ := mAr_e q
  exact hk n y q
theorem mTk_p {P : Prop} {K : List Value → List Value → Prop} {n : Nat} {acc st : List Value} (hk : ∀ a r, K a r → P) (q : mTk n acc st K) : P := by
  obtain ⟨as, r, -, -, q⟩ := mTk_e _ _ _ q
  exact hk _ _ q
theorem mPf_k {K : mHp → List Value → Prop} {c : Nat} {h : mHp} {k : Nat} {st : List Value} {s : Nat × Nat} (q : mPf K c h k st s) : ∃ h' r, h'.2.2.2 = h.2.2.2 ∧ K h' r := by
  unfold mPf at q; split at q
  · obtain ⟨x, o, r, -, q⟩ := mIR_e q
    exact ⟨mPI h o k x, r, rfl, (mOb_e q).2⟩
  · obtain ⟨x, o, r, -, q⟩ := mIR_e q
    exact ⟨mPI h o k x, r, rfl, (mOb_e q).2.2⟩
  · obtain ⟨x, o, r, -, q⟩ := mRR_e q
    exact ⟨mPR h o k x, r, rfl, (mOb_e (mOb_e q).2).2⟩
  · obtain ⟨x, o, r, -, q⟩ := mLR_e q
    exact ⟨mPL h o k x, r, rfl, (mOb_e q).2⟩
  · exact q.elim
theorem mRet_m {d d' m pc : Nat} {lv : mLv} {y : Nat} {args rest : List Value} {h : mHp} {out : mOut} {k : Nat} (q : mRet mPm mPm d d' m pc lv y args rest h out k) : h.2.2.2 ≤ (mOh out).2.2.2 := by
  unfold mRet at q; split at q
  · obtain ⟨h', a, b⟩ := q; exact Nat.le_trans a b
  · obtain ⟨x, h', a, b⟩ := q; exact Nat.le_trans a b
  · obtain ⟨x, h', a, b⟩ := q; exact Nat.le_trans a b
  · obtain ⟨x, h', a, b⟩ := q; exact Nat.le_trans a b
  · obtain ⟨x, h', a, b⟩ := q; exact Nat.le_trans a b
  · exact q.elim
theorem mCall_m {m pc : Nat} {lv : mLv} {y : Nat} {args rest : List Value} {h : mHp} {out : mOut} {d : Nat} (q : mCall mPm mPm m pc lv y args rest h out d) : h.2.2.2 ≤ (mOh out).2.2.2 := by
  cases d with
  | zero => exact q.elim
  | succ d =>
    obtain ⟨-, q⟩ := mTrue_e q
    revert q
    cases mTh y with
    | false => exact mRet_m
    | true =>
      rintro (q | ⟨E, h', a, b⟩)
      · exact mRet_m q
      · have a : h.2.2.2 ≤ h'.2.2.2 := a
        revert b
        cases mFind mHl m pc E with
        | none => intro b; have b : out = .inr (E, h') := (mTrue_e b).2; subst b; exact a
        | some z => intro b; exact Nat.le_trans a b
theorem mPf_m {c : Nat} {h : mHp} {k d m pc : Nat} {lv : mLv} {st : List Value} {out : mOut} {s : Nat × Nat} (q : mPf (fun h' r => mPm d m pc lv r h' out) c h k st s) : h.2.2.2 ≤ (mOh out).2.2.2 := by
  obtain ⟨h', r, e, q⟩ := mPf_k q
  have q : h'.2.2.2 ≤ (mOh out).2.2.2 := q
  rw [e] at q
  exact q
theorem mNew_m {a : Nat} {h : mHp} {b : Bool} {out : mOut} (q : mTrue (out = .inr (a, mXc h)) b) : h.2.2.2 ≤ (mOh out).2.2.2 := by
  obtain ⟨-, q⟩ := mTrue_e q
  subst q
  exact Nat.le_succ _
theorem mIRet_m {h : mHp} {st : List Value} {k : Nat} {out : mOut} (q : mIRet (fun x => mBool x (out = .inl (some (.int x), h)) k) st) : h.2.2.2 ≤ (mOh out).2.2.2 := by
  unfold mIRet at q; split at q
  · unfold mBool at q; split at q
    · obtain ⟨-, q⟩ := q; subst q; exact Nat.le_refl _
    · subst q; exact Nat.le_refl _
  · exact q.elim
theorem mLRet_m {h : mHp} {st : List Value} {out : mOut} (q : mLRet (fun x => out = .inl (some (.long x), h)) st) : h.2.2.2 ≤ (mOh out).2.2.2 := by
  unfold mLRet at q; split at q
  · subst q; exact Nat.le_refl _
  · exact q.elim
theorem mARet_m {h : mHp} {st : List Value} {out : mOut} (q : mARet (fun x => out = .inl (some (.ref x), h)) st) : h.2.2.2 ≤ (mOh out).2.2.2 := by
  unfold mARet at q; split at q
  · subst q; exact Nat.le_refl _
  · exact q.elim
theorem mVRet_m {h : mHp} {st : List Value} {out : mOut} (q : mVRet (out = .inl (none, h)) st) : h.2.2.2 ≤ (mOh out).2.2.2 := by
  unfold mVRet at q; split at q
  · subst q; exact Nat.le_refl _
  · exact q.elim
theorem mInvV_m {d m pc : Nat} {lv : mLv} {st : List Value} {h : mHp} {out : mOut} {b c a : Nat} (q : mInvV mPm mPm d m pc lv st h out b c a) : h.2.2.2 ≤ (mOh out).2.2.2 := by
  replace q := (mTrue_e q).2
  unfold mInvV0 at q; revert q
  cases Nat.beq a 900 with
  | true => intro q; obtain ⟨_, _, -, q⟩ := mR1_e q; obtain ⟨_, _, -, q⟩ := mStrC_k q; exact q
  | false =>
    cases Nat.beq a 901 with
    | true => intro q; obtain ⟨_, _, _, -, q⟩ := mIR_e q; obtain ⟨_, _, -, q⟩ := mStrC_k q; exact q.2
    | false => intro q; obtain ⟨_, _, -, -, q⟩ := mTk_e _ _ _ q; obtain ⟨_, _, -, q⟩ := mR1_e q; exact mCall_m (mOb_e q).2
theorem mInvS_m {d m pc : Nat} {lv : mLv} {st : List Value} {h : mHp} {out : mOut} {b a : Nat} (q : mInvS mPm mPm d m pc lv st h out b a) : h.2.2.2 ≤ (mOh out).2.2.2 := by
  replace q := (mTrue_e q).2
  unfold mInvS0 at q; revert q
  cases Nat.beq a 902 with
  | true => intro q; obtain ⟨_, _, _, _, _, _, -, q⟩ := mCpy_e q; obtain ⟨_, _, -, q⟩ := mAr_e q; obtain ⟨_, _, -, q⟩ := mAr_e q; exact q.2.2.2.2.2
  | false =>
    cases Nat.beq a 1 with
    | true => intro q; obtain ⟨_, _, _, -, q⟩ := mI2_e q; exact q
    | false =>
      cases Nat.beq a 2 with
      | true => intro q; obtain ⟨_, _, _, -, q⟩ := mI2_e q; exact q
      | false => intro q; obtain ⟨_, _, -, -, q⟩ := mTk_e _ _ _ q; exact mCall_m q
set_option maxHeartbeats 4000000 in
theorem mEx_m {d m pc : Nat} {lv : mLv} {st : List Value} {h : mHp} {out : mOut} {i : Instr} {a b c : Nat} {v : Int32} {ts : List Nat} (hts : ∀ x : Int32, (x < nI b ∨ nI c < x) ∨ ∃ j, j < ts.length ∧ x = nI (b + j) ∨ (∀ df lo hi o, i ≠ .tableswitch df lo hi o)) (q : mEx mPm mPm d m pc lv st h out i a b c v ts) : h.2.2.2 ≤ (mOh out).2.2.2 := by
  cases i <;> dsimp only [mEx] at q <;> first
    | exact q.elim
    | exact q
    | exact mI1_p (fun _ _ z => z) q
    | exact mI2_p (fun _ _ _ z => z) q
    | exact mL1_p (fun _ _ z => z) q
    | exact mL2_p (fun _ _ _ z => z) q
    | exact mIL_p (fun _ _ _ z => z) q
    | exact mR1_p (fun _ _ z => z) q
    | exact mGi_p (fun _ z => z) q
    | exact mGl_p (fun _ z => z) q
    | exact mGr_p (fun _ z => z) q
    | exact mLdc_p (fun _ z => z) q
    | exact mDup_p (fun _ _ z => z) q
    | exact mI1_p (fun _ _ z => mBr_k z) q
    | exact mI2_p (fun _ _ _ z => mBr_k z) q
    | exact mR1_p (fun _ _ z => (mGf_k (mOb_e z).2).elim fun _ z => z) q
    | exact mIR_p (fun _ _ _ z => (mLd_k z).elim fun _ z => z) q
    | exact mIIR_p (fun _ _ _ _ z => mAr_p (fun _ _ z => z.2) z) q
    | exact mIR_p (fun _ _ _ z => mAr_p (fun _ _ z => z.2) z) q
    | exact mLIR_p (fun _ _ _ _ z => mAr_p (fun _ _ z => z.2) z) q
    | exact mR1_p (fun _ _ z => (mLen_k z).elim fun _ z => z) q
    | exact mI2_p (fun _ _ _ z => And.right z) q
    | exact mL2_p (fun _ _ _ z => And.right z) q
    | exact mIR_p (fun _ _ _ z => z) q
    | exact mPf_m q
    | exact mNew_m q
    | exact mI1_p (fun x _ z => (hts x).elim (fun w => z.1 w) (fun w => w.elim fun j w => w.elim (fun w => mSw_k (b := b) ts b z.2 ⟨j, w⟩) (fun w => absurd rfl (w _ _ _ _)))) q
    | exact mIRet_m q
    | exact mLRet_m q
    | exact mARet_m q
    | exact mVRet_m q
    | exact mInvV_m q
    | exact mInvS_m q

/-! mF is monotone; mRuns is closed; the unfolding mVc is sound -/
theorem mI1_mono {K K' : Int32 → List Value → Prop} (hk : ∀ x r, K x r → K' x r) {st : List Value} (h : mI1 K st) : mI1 K' st := by
  revert h; unfold mI1; split
  · exact hk _ _
  · exact id
theorem mI2_mono {K K' : Int32 → Int32 → List Value → Prop} (hk : ∀ x y r, K x y r → K' x y r) {st : List Value} (h : mI2 K st) : mI2 K' st := by
  revert h; unfold mI2; split
  · exact hk _ _ _
  · exact id
theorem mL1_mono {K K' : Int64 → List Value → Prop} (hk : ∀ x r, K x r → K' x r) {st : List Value} (h : mL1 K st) : mL1 K' st := by
  revert h; unfold mL1; split
  · exact hk _ _
  · exact id
theorem mL2_mono {K K' : Int64 → Int64 → List Value → Prop} (hk : ∀ x y r, K x y r → K' x y r) {st : List Value} (h : mL2 K st) : mL2 K' st := by
  revert h; unfold mL2; split
  · exact hk _ _ _
  · exact id
theorem mIL_mono {K K' : Int64 → Int32 → List Value → Prop} (hk : ∀ x y r, K x y r → K' x y r) {st : List Value} (h : mIL K st) : mIL K' st := by
  revert h; unfold mIL; split
  · exact hk _ _ _
  · exact id
theorem mR1_mono {K K' : Nat → List Value → Prop} (hk : ∀ x r, K x r → K' x r) {st : List Value} (h : mR1 K st) : mR1 K' st := by
  revert h; unfold mR1; split
  · exact hk _ _
  · exact id
theorem mIR_mono {K K' : Int32 → Nat → List Value → Prop} (hk : ∀ x y r, K x y r → K' x y r) {st : List Value} (h : mIR K st) : mIR K' st := by
  revert h; unfold mIR; split
  · exact hk _ _ _
  · exact id
theorem mIIR_mono {K K' : Int32 → Int32 → Nat → List Value → Prop} (hk : ∀ x y z r, K x y z r → K' x y z r) {st : List Value} (h : mIIR K st) : mIIR K' st := by
  revert h; unfold mIIR; split
  · exact hk _ _ _ _
  · exact id
theorem mLIR_mono {K K' : Int64 → Int32 → Nat → List Value → Prop} (hk : ∀ x y z r, K x y z r → K' x y z r) {st : List Value} (h : mLIR K st) : mLIR K' st := by
  revert h; unfold mLIR; split
  · exact hk _ _ _ _
  · exact id
theorem mLR_mono {K K' : Int64 → Nat → List Value → Prop} (hk : ∀ x y r, K x y r → K' x y r) {st : List Value} (h : mLR K st) : mLR K' st := by
  revert h; unfold mLR; split
  · exact hk _ _ _
  · exact id
theorem mRR_mono {K K' : Nat → Nat → List Value → Prop} (hk : ∀ x y r, K x y r → K' x y r) {st : List Value} (h : mRR K st) : mRR K' st := by
  revert h; unfold mRR; split
  · exact hk _ _ _
  · exact id
theorem mDup_mono {K K' : Value → List Value → Prop} (hk : ∀ x r, K x r → K' x r) {st : List Value} (h : mDup K st) : mDup K' st := by
  revert h; unfold mDup; split
  · exact hk _ _
  · exact hk _ _
  · exact id
theorem mCpy_mono {K K' : Int32 → Int32 → Nat → Int32 → Nat → List Value → Prop} (hk : ∀ n dp da sp sa r, K n dp da sp sa r → K' n dp da sp sa r) {st : List Value} (h : mCpy K st) : mCpy K' st := by
  revert h; unfold mCpy; split
  · exact hk _ _ _ _ _ _
  · exact id
theorem mGi_mono {K K' : Int32 → Prop} (hk : ∀ x, K x → K' x) {o : Option Value} (h : mGi K o) : mGi K' o := by
  revert h; unfold mGi; split
  · exact hk _
  · exact id
theorem mGl_mono {K K' : Int64 → Prop} (hk : ∀ x, K x → K' x) {o : Option Value} (h : mGl K o) : mGl K' o := by
  revert h; unfold mGl; split
  · exact hk _
  · exact id
theorem mGr_mono {K K' : Nat → Prop} (hk : ∀ x, K x → K' x) {o : Option Value} (h : mGr K o) : mGr K' o := by
  revert h; unfold mGr; split
  · exact hk _
  · exact id
theorem mBr_mono {cn : ClassFile.Cond} {x y : Int32} {A B A' B' : Prop} (ha : A → A') (hb : B → B') (h : mBr cn x y A B) : mBr cn x y A' B' := by
  cases cn <;> exact ⟨fun c => ha (h.1 c), fun c => hb (h.2 c)⟩
theorem mSw_mono {K K' : Nat → Prop} (hk : ∀ t, K t → K' t) {x : Int32} : ∀ (ts : List Nat) (j : Nat), mSw K x ts j → mSw K' x ts j
  | [], _, _ => trivial
  | _ :: ts, j, h => ⟨fun c => hk _ (h.1 c), mSw_mono hk ts (j + 1) h.2⟩
theorem mTk_mono {K K' : List Value → List Value → Prop} (hk : ∀ a s, K a s → K' a s) : ∀ (n : Nat) (acc st : List Value), mTk n acc st K → mTk n acc st K'
  | 0, _, _, h => hk _ _ h
  | n + 1, acc, v :: st, h => mTk_mono hk n (v :: acc) st h
  | _ + 1, _, [], h => h
theorem mTrue_mono {K K' : Prop} (hk : K → K') {b : Bool} (h : mTrue K b) : mTrue K' b := by
  cases b
  · exact h
  · exact hk h
theorem mOb_mono {K K' : Prop} (hk : K → K') {c : Nat} {s : Nat × Nat × Nat} (h : mOb K c s) : mOb K' c s := by
  revert h; unfold mOb; split
  · exact mTrue_mono hk
  · exact id
theorem mAr_mono {K K' : Nat → Nat → Prop} (hk : ∀ n y, K n y → K' n y) {t : Nat} {s : Nat × Nat × Nat} (h : mAr t K s) : mAr t K' s := by
  obtain ⟨t', n, y⟩ := s
  exact mTrue_mono (hk _ _) h
theorem mLd_mono {K K' : Int32 → Prop} (hk : ∀ x, K x → K' x) {h : mHp} {i : Int32} {a : Nat} {s : Nat × Nat × Nat} (q : mLd K h i a s) : mLd K' h i a s := by
  revert q; unfold mLd; split
  · exact fun q => ⟨q.1, hk _ q.2⟩
  · exact fun q => ⟨q.1, hk _ q.2⟩
  · exact fun q => ⟨q.1, hk _ q.2⟩
  · exact id
theorem mLen_mono {K K' : Int32 → Prop} (hk : ∀ x, K x → K' x) {h : mHp} {a : Nat} {s : Nat × Nat × Nat} (q : mLen K h a s) : mLen K' h a s := by
  revert q; unfold mLen; split
  · exact hk _
  · exact hk _
  · exact hk _
  · exact hk _
  · exact hk _
  · exact id
theorem mGf_mono {K K' : Value → Prop} (hk : ∀ x, K x → K' x) {h : mHp} {r k : Nat} {s : Nat × Nat} (q : mGf K h r k s) : mGf K' h r k s := by
  revert q; unfold mGf; split
  · exact hk _
  · exact hk _
  · exact hk _
  · exact mTrue_mono (hk _)
  · exact hk _
  · exact id
theorem mPf_mono {K K' : mHp → List Value → Prop} (hk : ∀ x r, K x r → K' x r) {c : Nat} {h : mHp} {k : Nat} {st : List Value} {s : Nat × Nat} (q : mPf K c h k st s) : mPf K' c h k st s := by
  revert q; unfold mPf; split
  · exact mIR_mono (fun _ _ _ => mOb_mono (hk _ _))
  · exact mIR_mono (fun _ _ _ => mOb_mono (fun q => ⟨q.1, hk _ _ q.2⟩))
  · exact mRR_mono (fun _ _ _ => mOb_mono (mOb_mono (hk _ _)))
  · exact mLR_mono (fun _ _ _ => mOb_mono (hk _ _))
  · exact id
theorem mStrC_mono {K K' : List Nat → Prop} (hk : ∀ x, K x → K' x) {s : Nat × Nat × Nat} (q : mStrC K s) : mStrC K' s := by
  revert q; unfold mStrC; split
  · exact hk _
  · exact id
theorem mLdc_mono {K K' : Value → Prop} (hk : ∀ x, K x → K' x) {v : Int32} {b a : Nat} (q : mLdc K v b a) : mLdc K' v b a := by
  revert q; unfold mLdc; split
  · exact hk _
  · exact hk _
  · exact id
section MM
variable {PC PN PC' PN' : mP} (h1 : ∀ d m pc lv st h out, PC d m pc lv st h out → PC' d m pc lv st h out) (h2 : ∀ d m pc lv st h out, PN d m pc lv st h out → PN' d m pc lv st h out)
theorem mHnd_mono (h2 : ∀ d m pc lv st h out, PN d m pc lv st h out → PN' d m pc lv st h out) {d m pc : Nat} {lv : mLv} {E : Nat} {h : mHp} {out : mOut} {o : Option (Nat × Nat)} (q : mHnd PN d m pc lv E h out o) : mHnd PN' d m pc lv E h out o := by
  cases o
  · exact q
  · exact h2 _ _ _ _ _ _ _ q
theorem mRet_mono (h1 : ∀ d m pc lv st h out, PC d m pc lv st h out → PC' d m pc lv st h out) (h2 : ∀ d m pc lv st h out, PN d m pc lv st h out → PN' d m pc lv st h out) {d d' m pc : Nat} {lv : mLv} {y : Nat} {args rest : List Value} {h : mHp} {out : mOut} {k : Nat} (q : mRet PC PN d d' m pc lv y args rest h out k) : mRet PC' PN' d d' m pc lv y args rest h out k := by
  revert q; unfold mRet; split
  · exact fun ⟨h', a, b⟩ => ⟨h', h1 _ _ _ _ _ _ _ a, h2 _ _ _ _ _ _ _ b⟩
  · exact fun ⟨x, h', a, b⟩ => ⟨x, h', h1 _ _ _ _ _ _ _ a, h2 _ _ _ _ _ _ _ b⟩
  · exact fun ⟨x, h', a, b⟩ => ⟨x, h', h1 _ _ _ _ _ _ _ a, h2 _ _ _ _ _ _ _ b⟩
  · exact fun ⟨x, h', a, b⟩ => ⟨x, h', h1 _ _ _ _ _ _ _ a, h2 _ _ _ _ _ _ _ b⟩
  · exact fun ⟨x, h', a, b⟩ => ⟨x, h', h1 _ _ _ _ _ _ _ a, h2 _ _ _ _ _ _ _ b⟩
  · exact id
theorem mThr_mono (h1 : ∀ d m pc lv st h out, PC d m pc lv st h out → PC' d m pc lv st h out) (h2 : ∀ d m pc lv st h out, PN d m pc lv st h out → PN' d m pc lv st h out) {d d' m pc : Nat} {lv : mLv} {y : Nat} {args rest : List Value} {h : mHp} {out : mOut} {k : Bool} (q : mThr PC PN d d' m pc lv y args rest h out k) : mThr PC' PN' d d' m pc lv y args rest h out k := by
  cases k
  · exact mRet_mono h1 h2 q
  · rcases q with q | ⟨E, h', a, b⟩
    · exact Or.inl (mRet_mono h1 h2 q)
    · exact Or.inr ⟨E, h', h1 _ _ _ _ _ _ _ a, mHnd_mono h2 b⟩
theorem mCall_mono (h1 : ∀ d m pc lv st h out, PC d m pc lv st h out → PC' d m pc lv st h out) (h2 : ∀ d m pc lv st h out, PN d m pc lv st h out → PN' d m pc lv st h out) {m pc : Nat} {lv : mLv} {y : Nat} {args rest : List Value} {h : mHp} {out : mOut} {d : Nat} (q : mCall PC PN m pc lv y args rest h out d) : mCall PC' PN' m pc lv y args rest h out d := by
  cases d
  · exact q
  · exact mTrue_mono (mThr_mono h1 h2) q
theorem mInvV0_mono (h1 : ∀ d m pc lv st h out, PC d m pc lv st h out → PC' d m pc lv st h out) (h2 : ∀ d m pc lv st h out, PN d m pc lv st h out → PN' d m pc lv st h out) {d m pc : Nat} {lv : mLv} {st : List Value} {h : mHp} {out : mOut} {b c y : Nat} (q : mInvV0 PC PN d m pc lv st h out b c y) : mInvV0 PC' PN' d m pc lv st h out b c y := by
  revert q; unfold mInvV0
  cases Nat.beq y 900
  · cases Nat.beq y 901
    · exact mTk_mono (fun _ _ => mR1_mono (fun _ _ => mOb_mono (mCall_mono h1 h2))) _ _ _
    · exact mIR_mono (fun _ _ _ => mStrC_mono (fun _ q => ⟨q.1, h2 _ _ _ _ _ _ _ q.2⟩))
  · exact mR1_mono (fun _ _ => mStrC_mono (fun _ => h2 _ _ _ _ _ _ _))
theorem mInvS0_mono (h1 : ∀ d m pc lv st h out, PC d m pc lv st h out → PC' d m pc lv st h out) (h2 : ∀ d m pc lv st h out, PN d m pc lv st h out → PN' d m pc lv st h out) {d m pc : Nat} {lv : mLv} {st : List Value} {h : mHp} {out : mOut} {b y : Nat} (q : mInvS0 PC PN d m pc lv st h out b y) : mInvS0 PC' PN' d m pc lv st h out b y := by
  revert q; unfold mInvS0
  cases Nat.beq y 902
  · cases Nat.beq y 1
    · cases Nat.beq y 2
      · exact mTk_mono (fun _ _ => mCall_mono h1 h2) _ _ _
      · exact mI2_mono (fun _ _ _ => h2 _ _ _ _ _ _ _)
    · exact mI2_mono (fun _ _ _ => h2 _ _ _ _ _ _ _)
  · exact mCpy_mono (fun _ _ _ _ _ _ => mAr_mono (fun _ _ => mAr_mono (fun _ _ q => ⟨q.1, q.2.1, q.2.2.1, q.2.2.2.1, q.2.2.2.2.1, h2 _ _ _ _ _ _ _ q.2.2.2.2.2⟩)))
theorem mInvV_mono (h1 : ∀ d m pc lv st h out, PC d m pc lv st h out → PC' d m pc lv st h out) (h2 : ∀ d m pc lv st h out, PN d m pc lv st h out → PN' d m pc lv st h out) {d m pc : Nat} {lv : mLv} {st : List Value} {h : mHp} {out : mOut} {b c y : Nat} (q : mInvV PC PN d m pc lv st h out b c y) : mInvV PC' PN' d m pc lv st h out b c y := mTrue_mono (mInvV0_mono h1 h2) q
theorem mInvS_mono (h1 : ∀ d m pc lv st h out, PC d m pc lv st h out → PC' d m pc lv st h out) (h2 : ∀ d m pc lv st h out, PN d m pc lv st h out → PN' d m pc lv st h out) {d m pc : Nat} {lv : mLv} {st : List Value} {h : mHp} {out : mOut} {b y : Nat} (q : mInvS PC PN d m pc lv st h out b y) : mInvS PC' PN' d m pc lv st h out b y := mTrue_mono (mInvS0_mono h1 h2) q
set_option maxHeartbeats 4000000 in
theorem mEx_mono (h1 : ∀ d m pc lv st h out, PC d m pc lv st h out → PC' d m pc lv st h out) (h2 : ∀ d m pc lv st h out, PN d m pc lv st h out → PN' d m pc lv st h out) {d m pc : Nat} {lv : mLv} {st : List Value} {h : mHp} {out : mOut} {i : Instr} {a b c : Nat} {v : Int32} {ts : List Nat} (q : mEx PC PN d m pc lv st h out i a b c v ts) : mEx PC' PN' d m pc lv st h out i a b c v ts := by
  revert q
  cases i <;> dsimp only [mEx] <;> first
    | exact id
    | exact mLdc_mono (fun _ => h2 _ _ _ _ _ _ _)
    | exact mDup_mono (fun _ _ => h2 _ _ _ _ _ _ _)
    | exact mPf_mono (fun _ _ => h2 _ _ _ _ _ _ _)
    | exact mI1_mono (fun _ _ => mBr_mono (h2 _ _ _ _ _ _ _) (h2 _ _ _ _ _ _ _))
    | exact mI2_mono (fun _ _ _ => mBr_mono (h2 _ _ _ _ _ _ _) (h2 _ _ _ _ _ _ _))
    | exact h2 _ _ _ _ _ _ _
    | exact mI1_mono (fun _ _ => h2 _ _ _ _ _ _ _)
    | exact mI2_mono (fun _ _ _ => h2 _ _ _ _ _ _ _)
    | exact mL1_mono (fun _ _ => h2 _ _ _ _ _ _ _)
    | exact mL2_mono (fun _ _ _ => h2 _ _ _ _ _ _ _)
    | exact mIL_mono (fun _ _ _ => h2 _ _ _ _ _ _ _)
    | exact mR1_mono (fun _ _ => h2 _ _ _ _ _ _ _)
    | exact mGi_mono (fun _ => h2 _ _ _ _ _ _ _)
    | exact mGl_mono (fun _ => h2 _ _ _ _ _ _ _)
    | exact mGr_mono (fun _ => h2 _ _ _ _ _ _ _)
    | exact mLdc_mono (fun _ => h2 _ _ _ _ _ _ _)
    | exact mDup_mono (fun _ _ => h2 _ _ _ _ _ _ _)
    | exact mIR_mono (fun _ _ _ => h2 _ _ _ _ _ _ _)
    | exact mI2_mono (fun _ _ _ q => ⟨q.1, h2 _ _ _ _ _ _ _ q.2⟩)
    | exact mL2_mono (fun _ _ _ q => ⟨q.1, h2 _ _ _ _ _ _ _ q.2⟩)
    | exact mI1_mono (fun _ _ => mBr_mono (h2 _ _ _ _ _ _ _) (h2 _ _ _ _ _ _ _))
    | exact mI2_mono (fun _ _ _ => mBr_mono (h2 _ _ _ _ _ _ _) (h2 _ _ _ _ _ _ _))
    | exact mI1_mono (fun _ _ q => ⟨fun c => h2 _ _ _ _ _ _ _ (q.1 c), mSw_mono (fun _ => h2 _ _ _ _ _ _ _) _ _ q.2⟩)
    | exact mR1_mono (fun _ _ => mOb_mono (mGf_mono (fun _ => h2 _ _ _ _ _ _ _)))
    | exact mPf_mono (fun _ _ => h2 _ _ _ _ _ _ _)
    | exact mIR_mono (fun _ _ _ => mLd_mono (fun _ => h2 _ _ _ _ _ _ _))
    | exact mIIR_mono (fun _ _ _ _ => mAr_mono (fun _ _ q => ⟨q.1, h2 _ _ _ _ _ _ _ q.2⟩))
    | exact mIR_mono (fun _ _ _ => mAr_mono (fun _ _ q => ⟨q.1, h2 _ _ _ _ _ _ _ q.2⟩))
    | exact mLIR_mono (fun _ _ _ _ => mAr_mono (fun _ _ q => ⟨q.1, h2 _ _ _ _ _ _ _ q.2⟩))
    | exact mR1_mono (fun _ _ => mLen_mono (fun _ => h2 _ _ _ _ _ _ _))
    | exact mInvV_mono h1 h2
    | exact mInvS_mono h1 h2
theorem mF_mono (h1 : ∀ d m pc lv st h out, PC d m pc lv st h out → PC' d m pc lv st h out) (h2 : ∀ d m pc lv st h out, PN d m pc lv st h out → PN' d m pc lv st h out) {d m pc : Nat} {lv : mLv} {st : List Value} {h : mHp} {out : mOut} (q : mF PC PN d m pc lv st h out) : mF PC' PN' d m pc lv st h out := by
  unfold mF at q ⊢
  generalize mAt m pc = o at q ⊢
  cases o with
  | none => exact q
  | some it => exact mEx_mono h1 h2 q
end MM
/-- one step -/
theorem mRuns_step {d m pc : Nat} {lv : mLv} {st : List Value} {h : mHp} {out : mOut} (q : mF mRuns mRuns d m pc lv st h out) : mRuns d m pc lv st h out := by
  intro P hP
  exact hP.1 _ _ _ _ _ _ _ (mF_mono (fun _ _ _ _ _ _ _ z => z P hP) (fun _ _ _ _ _ _ _ z => z P hP) q)
theorem mRuns_msk {d m pc : Nat} (bs : List Bool) {lv : mLv} {st : List Value} {h : mHp} {out : mOut} (q : mRuns d m pc (mMsk bs lv) st h out) : mRuns d m pc lv st h out := by
  intro P hP
  exact hP.2 _ _ _ bs _ _ _ _ (q P hP)
theorem mVc_runs : ∀ (n : Nat) {d m pc : Nat} {lv : mLv} {st : List Value} {h : mHp} {out : mOut}, mVc n d m pc lv st h out → mRuns d m pc lv st h out := by
  intro n
  induction n with
  | zero => intro d m pc lv st h out q; exact q
  | succ n ih =>
    intro d m pc lv st h out q
    revert q
    show mCutK d m pc lv st h out (mF mRuns (mVc n) d m pc lv st h out) (mCut m pc) → _
    cases mCut m pc with
    | some bs => exact fun q => mRuns_msk bs q
    | none => exact fun q => mRuns_step (mF_mono (fun _ _ _ _ _ _ _ z => z) (fun _ _ _ _ _ _ _ z => ih z) q)
/-- from a place, unfolded n steps, past its own cut -/
theorem mVc_from (n : Nat) {d m pc : Nat} {lv : mLv} {st : List Value} {h : mHp} {out : mOut} (q : mF mRuns (mVc n) d m pc lv st h out) : mRuns d m pc lv st h out :=
  mRuns_step (mF_mono (fun _ _ _ _ _ _ _ z => z) (fun _ _ _ _ _ _ _ z => mVc_runs n z) q)

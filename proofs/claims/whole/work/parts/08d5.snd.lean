/-! SOUNDNESS, part 9: the invoke instructions, returning or throwing; a throw of one's own -/
section RUNX
variable {G : mG} {l : Launch} {d m pc : Nat} {lv : mLv} {h : mHp} {out : mOut} {p : Program} {e : Env} {R : Room} {s : State} {mid : MethodId} {args : Array Value} {below : List Frame} {meth : Method} {cd : Code} {H : Heap} {locs : List Loc} {cells slots mc ms : Nat} {ls : Array Slot}
theorem mStat_runX {y k : Nat} {av r : List Value} {E : Nat} {h' : mHp} {mc1 ms1 : Nat} (C : mCx G l p s mid args meth cd m) (Lc : mLc G m lv ls) (Wl : mWl G h H) (hS : va_S (mA G) s.heap H locs) (Rm : mRm R (d + 1) cells slots mc ms h out)
    (hy : y < 209 ∧ y ≠ 1 ∧ y ≠ 2) (hh : mHh y = []) (hst : mStat y = true) (hlink : Cond.methodLink (mY m).cls k (mY y) ∈ mBIG) (hnp : mNp y = av.length) (hwr : mWd r ≤ 8) (hwa : mWd av ≤ (mMt y).1) (hP : mP1 G l d y 0 (mEnt (mMt y).1 av) [] h (.inr (E, h'))) (hmc : h'.2.2.2 ≤ mc1 + h.2.2.2) (hms : 6 * h'.2.2.2 ≤ ms1 + 6 * h.2.2.2)
    (hf : cells + mc1 ≤ R.cells ∧ slots + ms1 ≤ R.slots) (hdg : decode (mBy m) pc = .ok (.invokestatic k, 3)) :
    vx_Run p l e R s mid args below meth cd H locs cells slots mc1 ms1 (F0 mid pc ls ((av.reverse ++ r).map (mRv (gA G)))) (r.map (mRv (gA G))) (mQc G (.inr (E, h')) (av.map (mRv (gA G))).toArray) (mXq G (.inr (E, h'))) (mA G) := by
  obtain ⟨hx, hb, hml, hr, hown, hts, hlocks, htab, hl, hSt, hz⟩ := id C
  obtain ⟨c1, c2, c3, c4, c5, c6, c7, c8⟩ := mChW_e (mcv_all hy.1 hy.2.1 hy.2.2)
  have hG : GoodIn mBIG (va_wsS (mY m).cls k (mY y) (mWs y)) := by
    intro w hw
    rcases List.mem_append.mp hw with q | q
    · simp only [List.mem_cons, List.not_mem_nil, or_false] at q
      rcases q with rfl | rfl | rfl
      · exact mBIG_gi hlink
      · exact mBIG_gi (c7 hst)
      · exact mBIG_gi c6
    · exact mWs_good hy.1 w q
  have hp : PreS s H (mPc G h (av.map (mRv (gA G)))) (av.map (mRv (gA G))) := ⟨mPc_blind _ _ _, mPcOk C Wl hS⟩
  have hstk : (F0 mid pc ls ((av.reverse ++ r).map (mRv (gA G)))).stack = (av.map (mRv (gA G))).reverse ++ r.map (mRv (gA G)) := by simp
  exact vx_runS ⟨hx, hb, hml, hown, hts⟩ (mMetX hl hy hh hwa hP hmc hms) (va_cwS (bytes := mBy y) (maxL := (mMt y).1) (ret := mRt y) (mNp y) hts hG (mWs_hd hh) rfl rfl ⟨c2, c3, c4⟩ (mRoomOk Rm c5)) hp rfl (by simp [hnp]) Lc.2.1 hstk (lv_room (by rw [mWd_sum]; exact hwr)) hdg hf
theorem mVirt_runX {y k o c z : Nat} {av r : List Value} {E : Nat} {h' : mHp} {mc1 ms1 : Nat} (C : mCx G l p s mid args meth cd m) (Lc : mLc G m lv ls) (Wl : mWl G h H) (hS : va_S (mA G) s.heap H locs) (Rm : mRm R (d + 1) cells slots mc ms h out)
    (hy : y < 209 ∧ y ≠ 1 ∧ y ≠ 2) (hh : mHh y = []) (hst : mStat y = false) (hlink : Cond.methodLink (mY m).cls k (mY y) ∈ mBIG) (hnp : mNp y = av.length) (hsh : mSh o = (0, c, z)) (hc : c < 9) (hcn : (mY y).cls = mCn c) (hwr : mWd r ≤ 8) (hwa : mWd (.ref o :: av) ≤ (mMt y).1) (hP : mP1 G l d y 0 (mEnt (mMt y).1 (.ref o :: av)) [] h (.inr (E, h'))) (hmc : h'.2.2.2 ≤ mc1 + h.2.2.2) (hms : 6 * h'.2.2.2 ≤ ms1 + 6 * h.2.2.2)
    (hf : cells + mc1 ≤ R.cells ∧ slots + ms1 ≤ R.slots) (hdg : decode (mBy m) pc = .ok (.invokevirtual k, 3)) :
    vx_Run p l e R s mid args below meth cd H locs cells slots mc1 ms1 (F0 mid pc ls ((av.reverse ++ .ref o :: r).map (mRv (gA G)))) (r.map (mRv (gA G))) (mQc G (.inr (E, h')) ((Value.ref o :: av).map (mRv (gA G))).toArray) (mXq G (.inr (E, h'))) (mA G) := by
  obtain ⟨hx, hb, hml, hr, hown, hts, hlocks, htab, hl, hSt, hz⟩ := id C
  obtain ⟨c1, c2, c3, c4, c5, c6, c7, c8⟩ := mChW_e (mcv_all hy.1 hy.2.1 hy.2.2)
  have hG : GoodIn mBIG (wsV (mY m).cls k (mCn c) (mY y) (mWs y)) := by
    intro w hw
    rcases List.mem_append.mp hw with q | q
    · simp only [List.mem_cons, List.not_mem_nil, or_false] at q
      rw [← hcn] at q
      rcases q with rfl | rfl | rfl | rfl
      · exact mBIG_gi hlink
      · exact mBIG_gi (c8 hst).1
      · exact mBIG_gi (c8 hst).2
      · exact mBIG_gi c6
    · exact mWs_good hy.1 w q
  have hp : PreV s H (mCn c) (gA G o) (mPc G h ((Value.ref o :: av).map (mRv (gA G)))) (av.map (mRv (gA G))) := ⟨mPc_blind _ _ _, mRecv hSt Wl hsh hc, mPcOk C Wl hS⟩
  have hstk : (F0 mid pc ls ((av.reverse ++ .ref o :: r).map (mRv (gA G)))).stack = (av.map (mRv (gA G))).reverse ++ .ref (gA G o) :: r.map (mRv (gA G)) := by simp [mRv]
  exact vx_runV ⟨hx, hb, hml, hown, hts⟩ (mMetX hl hy hh hwa hP hmc hms) (cwV (bytes := mBy y) (maxL := (mMt y).1) (ret := mRt y) (mNp y) hts hG (mWs_hd hh) rfl rfl ⟨hcn, c2, c3, c4⟩ (mRoomOk Rm c5)) hp rfl (by simp [hnp]) Lc.2.1 hstk (lv_room (by rw [mWd_sum]; exact hwr)) hdg hf
end RUNX
/-- methods that throw, and methods of objects, have no table of their own -/
theorem mHh_thr : ((List.range 209).all fun y => (!mTh y || (mHh y).isEmpty) && (mStat y || (mHh y).isEmpty)) = true := by decide +kernel
theorem mHh_of {y : Nat} (hy : y < 209) (h : mTh y = true ∨ mStat y = false) : mHh y = [] := by
  have q := List.all_eq_true.mp mHh_thr y (List.mem_range.mpr hy)
  rw [Bool.and_eq_true, Bool.or_eq_true, Bool.or_eq_true] at q
  rcases h with h | h
  · rcases q.1 with z | z
    · rw [h] at z; cases z
    · exact List.isEmpty_iff.mp z
  · rcases q.2 with z | z
    · rw [h] at z; cases z
    · exact List.isEmpty_iff.mp z
theorem mGuard {r args : List Value} {y : Nat} (h : (Nat.ble (mWd r) 8 && Nat.ble (mWd args) (mMt y).1 && !(Nat.beq y 1) && !(Nat.beq y 2) && Nat.blt y 209) = true) : mWd r ≤ 8 ∧ mWd args ≤ (mMt y).1 ∧ y < 209 ∧ y ≠ 1 ∧ y ≠ 2 := by
  obtain ⟨h, h5⟩ := mAnd h
  obtain ⟨h, h4⟩ := mAnd h
  obtain ⟨h, h3⟩ := mAnd h
  obtain ⟨h1, h2⟩ := mAnd h
  refine ⟨Nat.le_of_ble_eq_true h1, Nat.le_of_ble_eq_true h2, mBlt h5, fun e => ?_, fun e => ?_⟩
  · subst e; cases h3
  · subst e; cases h4
section ARITH
variable {R : Room} {d cells slots mc ms : Nat} {h h' : mHp} {out : mOut}
theorem mFit (Rm : mRm R d cells slots mc ms h out) (h1 : h.2.2.2 ≤ h'.2.2.2) (h2 : h'.2.2.2 ≤ (mOh out).2.2.2) : h'.2.2.2 ≤ (h'.2.2.2 - h.2.2.2) + h.2.2.2 ∧ 6 * h'.2.2.2 ≤ 6 * (h'.2.2.2 - h.2.2.2) + 6 * h.2.2.2 ∧ (cells + (h'.2.2.2 - h.2.2.2) ≤ R.cells ∧ slots + 6 * (h'.2.2.2 - h.2.2.2) ≤ R.slots) ∧ mRm R d (cells + (h'.2.2.2 - h.2.2.2)) (slots + 6 * (h'.2.2.2 - h.2.2.2)) mc ms h' out := by
  unfold mRm at Rm ⊢
  obtain ⟨r1, r2, r3, r4, r5, r6⟩ := Rm
  generalize h.2.2.2 = x at *
  generalize h'.2.2.2 = y at *
  generalize (mOh out).2.2.2 = z at *
  refine ⟨by omega, by omega, ⟨by omega, by omega⟩, r1, r2, r3, r4, by omega, by omega⟩
end ARITH
theorem mHnd_le {G : mG} {l : Launch} {d m pc : Nat} {lv : mLv} {E : Nat} {h' : mHp} {out : mOut} {o : Option (Nat × Nat)} (hn : mHnd (mP1 G l) d m pc lv E h' out o) : h'.2.2.2 ≤ (mOh out).2.2.2 := by
  cases o with
  | none => have := (mTrue_e hn).2; subst this; exact Nat.le_refl _
  | some z => exact hn.1
theorem mSnd_V0 {G : mG} {l : Launch} {d m pc : Nat} {lv : mLv} {st : List Value} {h : mHp} {out : mOut} {k a b c w : Nat} (hck1 : decode (mBy m) pc = .ok (.invokevirtual k, 3)) (hck2 : (mChC (mY m).cls k a b w && Nat.blt c 9 && decide ((mY a).cls = mCn c) && !mStat a) = true)
    (hF : mTk b [] st (fun args st' => mR1 (fun o r => mOb (mCall (mP1 G l) (mP1 G l) m pc lv a (.ref o :: args) r h out d) c (mSh o)) st')) : mP0 G l d m pc lv st h out := by
  intro p e R s mid args below meth cd H locs cells slots mc ms ls C Lc Wl hS Rm
  obtain ⟨hck2, hst⟩ := mAnd hck2
  obtain ⟨hck2, hcn⟩ := mAnd hck2
  obtain ⟨hck2, hc⟩ := mAnd hck2
  have hst : mStat a = false := by simpa using hst
  have hcn : (mY a).cls = mCn c := of_decide_eq_true hcn
  have hc := mBlt hc
  obtain ⟨-, hlink, hnp⟩ := mChC_e hck2
  obtain ⟨as, r0, hlen, e9, hF2⟩ := mTk_e _ _ _ hF
  clear hF
  subst e9
  rw [List.append_nil] at hF2
  obtain ⟨o, r, rfl, hF⟩ := mR1_e hF2
  obtain ⟨⟨z, hsh⟩, hF⟩ := mOb_e hF
  cases d with
  | zero => exact hF.elim
  | succ d =>
    obtain ⟨hg, hF⟩ := mTrue_e hF
    obtain ⟨hwr, hwa, hy⟩ := mGuard hg
    have hh := mHh_of hy.1 (Or.inr hst)
    have ret : mRet (mP1 G l) (mP1 G l) (d + 1) d m pc lv a (.ref o :: as) r h out (mMt a).2 → W p l e R s mid args below meth cd H locs cells slots (mQ G below args s mc ms out) (F0 mid pc ls ((as.reverse ++ .ref o :: r).map (mRv (gA G)))) := by
      intro q
      obtain ⟨v, h', hP, hn⟩ := mRet_e q
      obtain ⟨f1, f2, f3, f4⟩ := mFit (h' := h') Rm hP.1 hn.1
      exact mAfterR C Lc hS Rm hP.1 hn (mVirt_run C Lc Wl hS Rm hy hh hst hlink (hnp.trans hlen.symm) hsh hc hcn hwr hwa hP f1 f2 f3 hck1)
    revert hF
    cases hth : mTh a with
    | false => exact ret
    | true =>
      rintro (q | ⟨E, h', hP, hn⟩)
      · exact ret q
      · obtain ⟨f1, f2, f3, f4⟩ := mFit (h' := h') Rm hP.1 (mHnd_le hn)
        exact mAfterX C Lc hS f4 hn (mVirt_runX C Lc Wl hS Rm hy hh hst hlink (hnp.trans hlen.symm) hsh hc hcn hwr hwa hP f1 f2 f3 hck1)
theorem mSnd_S0 {G : mG} {l : Launch} {d m pc : Nat} {lv : mLv} {st : List Value} {h : mHp} {out : mOut} {k a b c w : Nat} (hck1 : decode (mBy m) pc = .ok (.invokestatic k, 3)) (hck2 : ((bif Nat.beq c 100 then Nat.beq a 154 && Nat.beq b 2 && mNest.contains ((mY m).cls, k) else mChC (mY m).cls k a b w) && mStat a) = true) (h154 : mY 154 = mHad ∧ mHh 154 = [] ∧ mNp 154 = 2)
    (hF : mTk b [] st (fun args r => mCall (mP1 G l) (mP1 G l) m pc lv a args r h out d)) : mP0 G l d m pc lv st h out := by
  intro p e R s mid args below meth cd H locs cells slots mc ms ls C Lc Wl hS Rm
  obtain ⟨hck2, hst⟩ := mAnd hck2
  obtain ⟨as, r, hlen, e9, hF2⟩ := mTk_e _ _ _ hF
  clear hF
  subst e9
  rw [List.append_nil] at hF2
  cases d with
  | zero => exact hF2.elim
  | succ d =>
    obtain ⟨hg, hF⟩ := mTrue_e hF2
    obtain ⟨hwr, hwa, hy⟩ := mGuard hg
    revert hck2
    cases hc : Nat.beq c 100 with
    | true =>
      intro hck2
      obtain ⟨hck2, hne⟩ := mAnd hck2
      obtain ⟨h1, h2⟩ := mAnd hck2
      have h1 := Nat.eq_of_beq_eq_true h1
      have h2 := Nat.eq_of_beq_eq_true h2
      subst h1; subst h2
      have hne : ((mY m).cls, k) ∈ mNest := List.contains_iff_mem.mp hne
      have hth : mTh 154 = false := by decide
      rw [hth] at hF
      obtain ⟨v, h', hP, hn⟩ := mRet_e (show mRet (mP1 G l) (mP1 G l) (d + 1) d m pc lv 154 as r h out (mMt 154).2 from hF)
      obtain ⟨f1, f2, f3, f4⟩ := mFit (h' := h') Rm hP.1 hn.1
      exact mAfterR C Lc hS Rm hP.1 hn (mNest_run C Lc Wl hS Rm hy h154.1 h154.2.1 hst hne (h154.2.2.trans hlen.symm) hwr hwa hP f1 f2 f3 hck1)
    | false =>
      intro hck2
      obtain ⟨-, hlink, hnp⟩ := mChC_e hck2
      have ret : mRet (mP1 G l) (mP1 G l) (d + 1) d m pc lv a as r h out (mMt a).2 → W p l e R s mid args below meth cd H locs cells slots (mQ G below args s mc ms out) (F0 mid pc ls ((as.reverse ++ r).map (mRv (gA G)))) := by
        intro q
        obtain ⟨v, h', hP, hn⟩ := mRet_e q
        obtain ⟨f1, f2, f3, f4⟩ := mFit (h' := h') Rm hP.1 hn.1
        exact mAfterR C Lc hS Rm hP.1 hn (mStat_run C Lc Wl hS Rm hy hst hlink (hnp.trans hlen.symm) hwr hwa hP f1 f2 f3 hck1)
      revert hF
      cases hth : mTh a with
      | false => exact ret
      | true =>
        rintro (q | ⟨E, h', hP, hn⟩)
        · exact ret q
        · obtain ⟨f1, f2, f3, f4⟩ := mFit (h' := h') Rm hP.1 (mHnd_le hn)
          exact mAfterX C Lc hS f4 hn (mStat_runX C Lc Wl hS Rm hy (mHh_of hy.1 (Or.inl hth)) hst hlink (hnp.trans hlen.symm) hwr hwa hP f1 f2 f3 hck1)

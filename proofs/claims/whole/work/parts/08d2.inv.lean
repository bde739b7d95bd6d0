/-! SOUNDNESS, part 6: the invoke instructions -/
theorem mChC_e {own : String} {k a b w : Nat} (h : mChC own k a b w = true) : a < 210 ∧ Cond.methodLink own k (mY a) ∈ mBIG ∧ mNp a = b := by
  obtain ⟨h, h3⟩ := mAnd h
  obtain ⟨h1, h2⟩ := mAnd h
  exact ⟨mBlt h1, mWrd_big (of_decide_eq_true h2) rfl, Nat.eq_of_beq_eq_true h3⟩
section INV
variable {G : mG} {l : Launch} {d m pc : Nat} {lv : mLv} {h : mHp} {out : mOut} {p : Program} {e : Env} {R : Room} {s : State} {mid : MethodId} {args : Array Value} {below : List Frame} {meth : Method} {cd : Code} {H : Heap} {locs : List Loc} {cells slots mc ms : Nat} {ls : Array Slot}
set_option maxRecDepth 20000 in
/-- the room of a callee -/
theorem mRoomOk {y mc1 ms1 : Nat} (Rm : mRm R (d + 1) cells slots mc ms h out) (hy : (mMt y).1 ≤ 60) : (mRo d mc1 ms1).frames + 1 ≤ R.frames ∧ 8 + ((mMt y).1 + 11) + (mRo d mc1 ms1).locals ≤ R.locals := by
  obtain ⟨r1, r2, -⟩ := Rm
  generalize (mMt y).1 = n at hy ⊢
  have e1 : (mRo d mc1 ms1).frames = d + 10 := rfl
  have e2 : (mRo d mc1 ms1).locals = 100 * d + 300 := rfl
  rw [e1, e2]
  refine ⟨?_, ?_⟩
  · omega
  · omega
theorem mPcOk {av : List Value} (C : mCx G l p s mid args meth cd m) (Wl : mWl G h H) (hS : va_S (mA G) s.heap H locs) : ∀ U : State, U.heap = H → s.WarmedH U.vm → mPc G h av av.toArray U := by
  intro U hU hW
  obtain ⟨-, -, -, -, -, -, -, -, -, hSt, hz⟩ := C
  refine ⟨rfl, by rw [hU]; exact Wl, ?_, by rw [hU]; exact Nat.le_trans hz hS.1⟩
  rw [hU]
  exact mSt_moved hW (mSt_kept hSt hS.2.1)
theorem mStat_run {y k : Nat} {av r : List Value} {v : Option Value} {h' : mHp} {mc1 ms1 : Nat} (C : mCx G l p s mid args meth cd m) (Lc : mLc G m lv ls) (Wl : mWl G h H) (hS : va_S (mA G) s.heap H locs) (Rm : mRm R (d + 1) cells slots mc ms h out)
    (hy : y < 209 ∧ y ≠ 1 ∧ y ≠ 2) (hst : mStat y = true) (hlink : Cond.methodLink (mY m).cls k (mY y) ∈ mBIG) (hnp : mNp y = av.length) (hwr : mWd r ≤ 8) (hwa : mWd av ≤ (mMt y).1) (hP : mP1 G l d y 0 (mEnt (mMt y).1 av) [] h (.inl (v, h'))) (hmc : h'.2.2.2 ≤ mc1 + h.2.2.2) (hms : 6 * h'.2.2.2 ≤ ms1 + 6 * h.2.2.2)
    (hf : cells + mc1 ≤ R.cells ∧ slots + ms1 ≤ R.slots) (hdg : decode (mBy m) pc = .ok (.invokestatic k, 3)) :
    va_Run p l e R s mid args below meth cd H locs cells slots mc1 ms1 (F0 mid pc ls ((av.reverse ++ r).map (mRv (gA G)))) (r.map (mRv (gA G))) (mQc G (.inl (v, h')) (av.map (mRv (gA G))).toArray) (mA G) := by
  obtain ⟨hx, hb, hml, hr, hown, hts, hlocks, htab, hl, hSt, hz⟩ := id C
  obtain ⟨c1, c2, c3, c4, c5, c6, c7, c8⟩ := mChW_e (mcv_all hy.1 hy.2.1 hy.2.2)
  have hG : GoodIn mBIG (va_wsS (mY m).cls k (mY y) (mWs y)) := by
    intro w hw
    rcases List.mem_append.mp hw with q | q
    · simp only [List.mem_cons, List.not_mem_nil, or_false] at q
      rcases q with rfl | rfl | rfl
      · exact mBIG_gi hlink
      · exact mBIG_gi (c7 hst)
      · exact mBIG_gi c6
    · exact mWs_good hy.1 w q
  have hp : PreS s H (mPc G h (av.map (mRv (gA G)))) (av.map (mRv (gA G))) := ⟨mPc_blind _ _ _, mPcOk C Wl hS⟩
  have hstk : (F0 mid pc ls ((av.reverse ++ r).map (mRv (gA G)))).stack = (av.map (mRv (gA G))).reverse ++ r.map (mRv (gA G)) := by simp
  by_cases hh : mHh y = []
  · exact va_runS ⟨hx, hb, hml, hown, hts⟩ (mMetR hl hy hh hwa hP hmc hms) (va_cwS (bytes := mBy y) (maxL := (mMt y).1) (ret := mRt y) (mNp y) hts hG (mWs_hd hh) rfl rfl ⟨c2, c3, c4⟩ (mRoomOk Rm c5)) hp rfl (by simp [hnp]) Lc.2.1 hstk (lv_room (by rw [mWd_sum]; exact hwr)) hdg hf
  · exact vx_runSW (hh := mHh y) ⟨hx, hb, hml, hown, hts⟩ (mMetW hl hy hh hwa hP hmc hms) (vx_cwSW (bytes := mBy y) (maxL := (mMt y).1) (ret := mRt y) (mNp y) hts hG (mWs_hdW hh) rfl rfl ⟨c2, c3, c4⟩ (mRoomOk Rm c5)) hp rfl (by simp [hnp]) Lc.2.1 hstk (lv_room (by rw [mWd_sum]; exact hwr)) hdg hf
/-- the nest mate's static method -/
theorem mNest_run {k : Nat} {av r : List Value} {v : Option Value} {h' : mHp} {mc1 ms1 : Nat} (C : mCx G l p s mid args meth cd m) (Lc : mLc G m lv ls) (Wl : mWl G h H) (hS : va_S (mA G) s.heap H locs) (Rm : mRm R (d + 1) cells slots mc ms h out)
    {y : Nat} (hy : y < 209 ∧ y ≠ 1 ∧ y ≠ 2) (hyh : mY y = mHad) (hh : mHh y = []) (hst : mStat y = true) (hnest : ((mY m).cls, k) ∈ mNest) (hnp : mNp y = av.length) (hwr : mWd r ≤ 8) (hwa : mWd av ≤ (mMt y).1) (hP : mP1 G l d y 0 (mEnt (mMt y).1 av) [] h (.inl (v, h'))) (hmc : h'.2.2.2 ≤ mc1 + h.2.2.2) (hms : 6 * h'.2.2.2 ≤ ms1 + 6 * h.2.2.2)
    (hf : cells + mc1 ≤ R.cells ∧ slots + ms1 ≤ R.slots) (hdg : decode (mBy m) pc = .ok (.invokestatic k, 3)) :
    va_Run p l e R s mid args below meth cd H locs cells slots mc1 ms1 (F0 mid pc ls ((av.reverse ++ r).map (mRv (gA G)))) (r.map (mRv (gA G))) (mQc G (.inl (v, h')) (av.map (mRv (gA G))).toArray) (mA G) := by
  obtain ⟨hx, hb, hml, hr, hown, hts, hlocks, htab, hl, hSt, hz⟩ := id C
  obtain ⟨c1, c2, c3, c4, c5, c6, c7, c8⟩ := mChW_e (mcv_all hy.1 hy.2.1 hy.2.2)
  have hp : PreS s H (mPc G h (av.map (mRv (gA G)))) (av.map (mRv (gA G))) := ⟨mPc_blind _ _ _, mPcOk C Wl hS⟩
  have hstk : (F0 mid pc ls ((av.reverse ++ r).map (mRv (gA G)))).stack = (av.map (mRv (gA G))).reverse ++ r.map (mRv (gA G)) := by simp
  have hN := hSt.2.2.2.2.2.2.2.1 _ hnest
  rw [← hyh] at hN
  exact va_runSN (host := "TasterTable") ⟨hx, hb, hml, hown, hts⟩ (mMetR hl hy hh hwa hP hmc hms) ⟨va_cnB (bytes := mBy y) (maxL := (mMt y).1) (ret := mRt y) (mNp y) hts (mWs_good hy.1) (mWs_hd hh) rfl rfl hN (hts _ c6) ⟨c2, c3, c4⟩ (mRoomOk Rm c5), hts _ (c7 hst), trivial⟩ hp rfl (by simp [hnp]) Lc.2.1 hstk (lv_room (by rw [mWd_sum]; exact hwr)) hdg hf
theorem mRecv {o c z : Nat} (hSt : mSt G s s.heap) (Wl : mWl G h H) (hsh : mSh o = (0, c, z)) (hc : c < 9) : ∃ cell : Cell, H[gA G o]? = some cell ∧ cell.vm.isStatics = false ∧ s.vm.findClass (mCn c) = some cell.cls := by
  have ho : o < 142 := mSh_lt hsh (by omega)
  exact va_recv hSt.1 Wl.1 (mCl_at hc) (q0 := o) (by rw [mWo_get G h ho, hsh]; rfl)
theorem mVirt_run {y k o c z : Nat} {av r : List Value} {v : Option Value} {h' : mHp} {mc1 ms1 : Nat} (C : mCx G l p s mid args meth cd m) (Lc : mLc G m lv ls) (Wl : mWl G h H) (hS : va_S (mA G) s.heap H locs) (Rm : mRm R (d + 1) cells slots mc ms h out)
    (hy : y < 209 ∧ y ≠ 1 ∧ y ≠ 2) (hh : mHh y = []) (hst : mStat y = false) (hlink : Cond.methodLink (mY m).cls k (mY y) ∈ mBIG) (hnp : mNp y = av.length) (hsh : mSh o = (0, c, z)) (hc : c < 9) (hcn : (mY y).cls = mCn c) (hwr : mWd r ≤ 8) (hwa : mWd (.ref o :: av) ≤ (mMt y).1) (hP : mP1 G l d y 0 (mEnt (mMt y).1 (.ref o :: av)) [] h (.inl (v, h'))) (hmc : h'.2.2.2 ≤ mc1 + h.2.2.2) (hms : 6 * h'.2.2.2 ≤ ms1 + 6 * h.2.2.2)
    (hf : cells + mc1 ≤ R.cells ∧ slots + ms1 ≤ R.slots) (hdg : decode (mBy m) pc = .ok (.invokevirtual k, 3)) :
    va_Run p l e R s mid args below meth cd H locs cells slots mc1 ms1 (F0 mid pc ls ((av.reverse ++ .ref o :: r).map (mRv (gA G)))) (r.map (mRv (gA G))) (mQc G (.inl (v, h')) ((Value.ref o :: av).map (mRv (gA G))).toArray) (mA G) := by
  obtain ⟨hx, hb, hml, hr, hown, hts, hlocks, htab, hl, hSt, hz⟩ := id C
  obtain ⟨c1, c2, c3, c4, c5, c6, c7, c8⟩ := mChW_e (mcv_all hy.1 hy.2.1 hy.2.2)
  have hG : GoodIn mBIG (wsV (mY m).cls k (mCn c) (mY y) (mWs y)) := by
    intro w hw
    rcases List.mem_append.mp hw with q | q
    · simp only [List.mem_cons, List.not_mem_nil, or_false] at q
      rw [← hcn] at q
      rcases q with rfl | rfl | rfl | rfl
      · exact mBIG_gi hlink
      · exact mBIG_gi (c8 hst).1
      · exact mBIG_gi (c8 hst).2
      · exact mBIG_gi c6
    · exact mWs_good hy.1 w q
  have hp : PreV s H (mCn c) (gA G o) (mPc G h ((Value.ref o :: av).map (mRv (gA G)))) (av.map (mRv (gA G))) := ⟨mPc_blind _ _ _, mRecv hSt Wl hsh hc, mPcOk C Wl hS⟩
  have hstk : (F0 mid pc ls ((av.reverse ++ .ref o :: r).map (mRv (gA G)))).stack = (av.map (mRv (gA G))).reverse ++ .ref (gA G o) :: r.map (mRv (gA G)) := by simp [mRv]
  exact va_runV ⟨hx, hb, hml, hown, hts⟩ (mMetR hl hy hh hwa hP hmc hms) (cwV (bytes := mBy y) (maxL := (mMt y).1) (ret := mRt y) (mNp y) hts hG (mWs_hd hh) rfl rfl ⟨hcn, c2, c3, c4⟩ (mRoomOk Rm c5)) hp rfl (by simp [hnp]) Lc.2.1 hstk (lv_room (by rw [mWd_sum]; exact hwr)) hdg hf
end INV

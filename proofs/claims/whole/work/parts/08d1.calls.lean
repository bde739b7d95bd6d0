/-! SOUNDNESS, part 5: calls -/
theorem mWs_hd {y : Nat} (h : mHh y = []) : mWs y = Cond.code (mY y) (mBy y) (mMt y).1 (mRt y) :: mBIG := by unfold mWs; rw [h]
theorem mWs_hdW {y : Nat} (h : mHh y ≠ []) : mWs y = Cond.codeWith (mY y) (mBy y) (mMt y).1 (mRt y) (mHh y) :: mBIG := by
  unfold mWs
  split
  · next e => exact absurd e h
  · rfl
theorem mWs_good {y : Nat} (hy : y < 209) : GoodIn mBIG (mWs y) := by
  intro w hw
  rcases List.mem_cons.mp hw with e | e
  · rw [e]; exact ⟨mcw_all hy, good_of_word (mBIG_good _ (mcw_all hy))⟩
  · exact ⟨e, good_of_word (mBIG_good _ e)⟩
theorem mBIG_gi {w : Cond} (h : w ∈ mBIG) : w ∈ mBIG ∧ ((w.onTables && w.keeps) = true ∨ ∃ ty, w = .arrayClass ty) := ⟨h, good_of_word (mBIG_good _ h)⟩
/-- a method's own words, out of its check -/
theorem mChW_e {y : Nat} (h : mChW y = true) : plainName (mY y).cls = true ∧ (mY y).cls ≠ "java/lang/invoke/MethodHandle" ∧ (mY y).cls ≠ "java/lang/invoke/VarHandle" ∧ (parseMethodDescriptor (mY y).desc).map (fun d => d.parameters.length) = some (mNp y) ∧ (mMt y).1 ≤ 60 ∧
    Cond.initialized (mY y).cls ∈ mBIG ∧ (mStat y = true → Cond.static (mY y) ∈ mBIG) ∧ (mStat y = false → Cond.instanceMethod (mY y) ∈ mBIG ∧ Cond.selects (mY y).cls (mY y) (mY y) ∈ mBIG) := by
  unfold mChW at h
  simp only [Bool.and_eq_true, decide_eq_true_eq] at h
  obtain ⟨⟨⟨⟨⟨⟨h1, h2⟩, h3⟩, h4⟩, h5⟩, h6⟩, h7⟩ := h
  refine ⟨h1, h2, h3, h4, Nat.le_of_ble_eq_true h5, mWrd_big h6 rfl, fun hs => ?_, fun hs => ?_⟩
  · rw [hs] at h7
    exact mWrd_big (of_decide_eq_true h7) rfl
  · rw [hs] at h7
    have h7 : (decide (mWrd (mIw y) = some (.instanceMethod (mY y))) && _) = true := h7
    rw [Bool.and_eq_true] at h7
    refine ⟨mWrd_big (of_decide_eq_true h7.1) rfl, ?_⟩
    have h8 := h7.2
    split at h8
    · exact mWrd_big (of_decide_eq_true h8) rfl
    · exact List.mem_filter.mpr ⟨List.mem_append_left _ (List.mem_of_getElem? (of_decide_eq_true h8)), rfl⟩
abbrev mRo (d mc ms : Nat) : Room := { frames := d + 10, cells := mc, slots := ms, locals := 100 * d + 300 }
def mPc (G : mG) (h : mHp) (av : List Value) : Array Value → State → Prop := va_Pc av (fun U => mWl G h U.heap ∧ mSt G U U.heap ∧ gZ G ≤ U.heap.size)
theorem mPc_blind (G : mG) (h : mHp) (av : List Value) : FrameBlind (mPc G h av) := fun _ U _ _ ⟨q0, q1, q2, q3⟩ => ⟨q0, q1, mSt_moved (u := U) (State.WarmedH.refl U) q2, q3⟩
section MET
variable {G : mG} {l : Launch} {d y : Nat} {av : List Value} {h : mHp}
theorem mBodyR {v : Option Value} {h' : mHp} {p : Program} {e : Env} {R : Room} {s : State} {m : MethodId} {args : Array Value} {below : List Frame} {meth : Method} {c : Code} {mc ms : Nat}
    (C : mCx G l p s m args meth c y) (hw : mWd av ≤ (mMt y).1) (hP : mP1 G l d y 0 (mEnt (mMt y).1 av) [] h (.inl (v, h'))) (hWl : mWl G h s.heap) (hR : mRm R d 0 0 mc ms h (.inl (v, h'))) :
    W p l e R s m args below meth c s.heap [] 0 0 (MQ below (mQc G (.inl (v, h'))) args s mc ms (mA G)) (entryFrame m (av.map (mRv (gA G))).toArray (mMt y).1) := by
  rw [lg_entry_eq]
  have k := hP.2 p e R s m args below meth c s.heap [] 0 0 mc ms _ C ⟨mPad_len _ _, mEnt_has (gA G) av hw⟩ hWl va_S.rf hR
  intro T hT X
  obtain ⟨t, a1, o, b1, b2, b3⟩ := k T hT X
  rcases b3 with ⟨q, r⟩ | ⟨q, rfl, E, ce, L, ⟨k9, h9, e9, -⟩, -⟩
  · exact ⟨t, a1, o, b1, b2, q, r⟩
  · cases e9
theorem mCx_of {p : Program} {e : Env} {s : State} {m : MethodId} {args : Array Value} {below : List Frame} {meth : Method} {c : Code} {s₁ : State} {mc ms : Nat} (hl : l.stackTraces = false)
    (B : BodyLoose p l (mY y) (headSpec (mWs y) (mRo d mc ms)) (mBy y) (mMt y).1 (mRt y) e s m args below meth c s₁) (hml : c.maxLocals = (mMt y).1) (htab : c.exceptionTable.toList = tableOf (mHh y)) (hSt : mSt G s s.heap) (hz : gZ G ≤ s.heap.size) : mCx G l p s m args meth c y :=
  ⟨B.exec, B.bytes, hml, B.returns, findClass_of_methodNamed B.named, fun w hw => atoms_spec (ws := mWs y) B.pre w (List.mem_cons_of_mem _ hw), B.notSynchronized, htab, hl, hSt, hz⟩
theorem mMetR {v : Option Value} {h' : mHp} {mc ms : Nat} (hl : l.stackTraces = false) (hy : y < 209 ∧ y ≠ 1 ∧ y ≠ 2) (hh : mHh y = []) (hw : mWd av ≤ (mMt y).1) (hP : mP1 G l d y 0 (mEnt (mMt y).1 av) [] h (.inl (v, h'))) (hmc : h'.2.2.2 ≤ mc + h.2.2.2) (hms : 6 * h'.2.2.2 ≤ ms + 6 * h.2.2.2) :
    Met l (mY y) (mWs y) (mRo d mc ms) (mPc G h (av.map (mRv (gA G)))) (mQc G (.inl (v, h'))) mc ms (mA G) := by
  refine Met.ofW (cc := mBy y) (maxL := (mMt y).1) (ret := mRt y) (mChW_e (mcv_all hy.1 hy.2.1 hy.2.2)).1 (mWs_hd hh) ?_
  intro p e s m args below meth c s₁ B hml hv
  obtain ⟨rfl, hWl, hSt, hz⟩ := hv
  have htab : c.exceptionTable.toList = tableOf (mHh y) := by
    have := BodyLoose.noHandlers B (atoms_spec (ws := mWs y) B.pre _ (by rw [mWs_hd hh]; exact List.mem_cons_self))
    rw [Array.isEmpty_iff.mp this, hh]; rfl
  exact mBodyR (mCx_of hl B hml htab hSt hz) hw hP hWl ⟨Nat.le_refl _, Nat.le_refl _, Nat.le_refl _, Nat.le_refl _, by rw [Nat.zero_add]; exact hmc, by rw [Nat.zero_add]; exact hms⟩
theorem mMetW {v : Option Value} {h' : mHp} {mc ms : Nat} (hl : l.stackTraces = false) (hy : y < 209 ∧ y ≠ 1 ∧ y ≠ 2) (hh : mHh y ≠ []) (hw : mWd av ≤ (mMt y).1) (hP : mP1 G l d y 0 (mEnt (mMt y).1 av) [] h (.inl (v, h'))) (hmc : h'.2.2.2 ≤ mc + h.2.2.2) (hms : 6 * h'.2.2.2 ≤ ms + 6 * h.2.2.2) :
    Met l (mY y) (mWs y) (mRo d mc ms) (mPc G h (av.map (mRv (gA G)))) (mQc G (.inl (v, h'))) mc ms (mA G) := by
  refine va_MetW (cc := mBy y) (maxL := (mMt y).1) (ret := mRt y) (hh := mHh y) (mChW_e (mcv_all hy.1 hy.2.1 hy.2.2)).1 (mWs_hdW hh) ?_
  intro p e s m args below meth c s₁ B hml hv
  obtain ⟨rfl, hWl, hSt, hz⟩ := hv
  have htab : c.exceptionTable.toList = tableOf (mHh y) := vx_table (x := mY y) B (atoms_spec (ws := mWs y) B.pre _ (by rw [mWs_hdW hh]; exact List.mem_cons_self))
  exact mBodyR (mCx_of hl B hml htab hSt hz) hw hP hWl ⟨Nat.le_refl _, Nat.le_refl _, Nat.le_refl _, Nat.le_refl _, by rw [Nat.zero_add]; exact hmc, by rw [Nat.zero_add]; exact hms⟩
theorem mMetX {E : Nat} {h' : mHp} {mc ms : Nat} (hl : l.stackTraces = false) (hy : y < 209 ∧ y ≠ 1 ∧ y ≠ 2) (hh : mHh y = []) (hw : mWd av ≤ (mMt y).1) (hP : mP1 G l d y 0 (mEnt (mMt y).1 av) [] h (.inr (E, h'))) (hmc : h'.2.2.2 ≤ mc + h.2.2.2) (hms : 6 * h'.2.2.2 ≤ ms + 6 * h.2.2.2) :
    vx_Met l (mY y) (mWs y) (mRo d mc ms) (mPc G h (av.map (mRv (gA G)))) (mQc G (.inr (E, h'))) (mXq G (.inr (E, h'))) mc ms (mA G) := by
  refine vx_ofW (cc := mBy y) (maxL := (mMt y).1) (ret := mRt y) (mChW_e (mcv_all hy.1 hy.2.1 hy.2.2)).1 (mWs_hd hh) ?_
  intro p e s m args below meth c s₁ B hml ht0 hv
  obtain ⟨rfl, hWl, hSt, hz⟩ := hv
  have htab : c.exceptionTable.toList = tableOf (mHh y) := by
    rw [hh]
    exact List.eq_nil_iff_forall_not_mem.mpr ht0
  have C := mCx_of hl B hml htab hSt hz
  rw [lg_entry_eq]
  exact hP.2 p e _ s m _ below meth c s.heap [] 0 0 mc ms _ C ⟨mPad_len _ _, mEnt_has (gA G) av hw⟩ hWl va_S.rf ⟨Nat.le_refl _, Nat.le_refl _, Nat.le_refl _, Nat.le_refl _, by rw [Nat.zero_add]; exact hmc, by rw [Nat.zero_add]; exact hms⟩
end MET
theorem mRet_e {PC PN : mP} {d d' m pc : Nat} {lv : mLv} {y : Nat} {args rest : List Value} {h : mHp} {out : mOut} {k : Nat} (q : mRet PC PN d d' m pc lv y args rest h out k) : ∃ (v : Option Value) (h' : mHp), PC d' y 0 (mEnt (mMt y).1 args) [] h (.inl (v, h')) ∧ PN d m (pc + 3) lv (v.toList ++ rest) h' out := by
  unfold mRet at q; split at q
  · obtain ⟨h', a, b⟩ := q; exact ⟨none, h', a, b⟩
  · obtain ⟨x, h', a, b⟩ := q; exact ⟨some _, h', a, b⟩
  · obtain ⟨x, h', a, b⟩ := q; exact ⟨some _, h', a, b⟩
  · obtain ⟨x, h', a, b⟩ := q; exact ⟨some _, h', a, b⟩
  · obtain ⟨x, h', a, b⟩ := q; exact ⟨some _, h', a, b⟩
  · exact q.elim
theorem mS_keep {A : Nat → Prop} {H0 H : Heap} {locs L : List Loc} {st₀ t : State} {T' : State} (hS : va_S A H0 H locs) (h0 : st₀.heap = H) (e1 : T'.heap = t.heap) (hF : va_F A st₀ t) (hL : ∀ q ∈ L, A q.base) : va_S A H0 T'.heap (locs ++ L) := by
  subst h0
  refine ⟨Nat.le_trans hS.1 (by rw [e1]; exact hF.1), fun q h1 h2 => ?_, fun q hq => ?_⟩
  · rw [e1, hF.2 q (Nat.lt_of_lt_of_le h1 hS.1) h2]
    exact hS.2.1 q h1 h2
  · rcases List.mem_append.mp hq with z | z
    · exact hS.2.2 q z
    · exact hL q z
section AFTER
variable {G : mG} {l : Launch} {d m pc : Nat} {lv : mLv} {h : mHp} {out : mOut} {p : Program} {e : Env} {R : Room} {s : State} {mid : MethodId} {args : Array Value} {below : List Frame} {meth : Method} {cd : Code} {H : Heap} {locs : List Loc} {cells slots mc ms : Nat} {ls : Array Slot}
/-- behind a call that returned -/
theorem mAfterR {a' : Array Value} {v : Option Value} {h' : mHp} {r : List Value} {g : List Value} (C : mCx G l p s mid args meth cd m) (Lc : mLc G m lv ls) (hS : va_S (mA G) s.heap H locs) (Rm : mRm R (d + 1) cells slots mc ms h out)
    (hle : h.2.2.2 ≤ h'.2.2.2) (hn : mP1 G l (d + 1) m (pc + 3) lv (v.toList ++ r) h' out)
    (run : va_Run p l e R s mid args below meth cd H locs cells slots (h'.2.2.2 - h.2.2.2) (6 * (h'.2.2.2 - h.2.2.2)) (F0 mid pc ls g) (r.map (mRv (gA G))) (mQc G (.inl (v, h')) a') (mA G)) :
    W p l e R s mid args below meth cd H locs cells slots (mQ G below args s mc ms out) (F0 mid pc ls g) := by
  intro T hT X
  obtain ⟨v9, st₀, t, T', L, h0, X', hL, e1, e2, ⟨v2, h2, q1, q2, q3, q4⟩, st9⟩ := run T hT X
  cases q1
  have hv9 : v9 = v.map (mRv (gA G)) := Outcome.returned.inj q2
  subst hv9
  obtain ⟨r1, r2, r3, r4, r5, r6⟩ := Rm
  have hn1 := hn.1
  obtain ⟨t2, a1, b1⟩ := hn.2 p e R s mid args below meth cd T'.heap (locs ++ L) (cells + (h'.2.2.2 - h.2.2.2)) (slots + 6 * (h'.2.2.2 - h.2.2.2)) mc ms ls C Lc (by rw [mPo] at q3; rw [e1]; exact q3) (mS_keep hS h0 e1 q4 hL) ⟨r1, r2, r3, r4, by omega, by omega⟩ T' rfl X'
  refine ⟨t2, st9 t2 ?_, b1⟩
  have ev : (v.map (mRv (gA G))).toList ++ r.map (mRv (gA G)) = (v.toList ++ r).map (mRv (gA G)) := by cases v <;> rfl
  rw [ev]
  exact a1
end AFTER

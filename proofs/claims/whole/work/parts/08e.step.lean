/-! SOUNDNESS: the step -/
theorem mLen1 {n : Nat} (h : (Nat.beq n 1 || false) = true) : n = 1 := by rw [Bool.or_false] at h; exact Nat.eq_of_beq_eq_true h
theorem mChF_e {own : String} {k a b w : Nat} (h : mChF own k a b w = true) : a < 9 ∧ b < mNf a ∧ mWrd w = some (.fieldLink own k (mTT a b).1 (mTT a b).2.1 (mTT a b).2.2.1) := by
  obtain ⟨h, h3⟩ := mAnd h
  obtain ⟨h1, h2⟩ := mAnd h
  exact ⟨mBlt h1, mBlt h2, of_decide_eq_true h3⟩
theorem mChP_e {a b : Nat} (h : mChP a b = true) : (mTT a b).2.2.2 = false ∧ (match (mFt a b).1 with
  | 0 => (mTT a b).2.2.1 = "I"
  | 1 => (mTT a b).2.2.1 = "Z"
  | 3 => ∃ nm, parseFieldDescriptor (mTT a b).2.2.1 = some (.object nm)
  | 4 => (mTT a b).2.2.1 = "J"
  | _ => False) := by
  obtain ⟨h1, h2⟩ := mAnd h
  refine ⟨by simpa using h1, ?_⟩
  split at h2 <;> rename_i e
  · rw [e]; exact (of_decide_eq_true h2 : (mTT a b).2.2.1 = "I")
  · rw [e]; exact (of_decide_eq_true h2 : (mTT a b).2.2.1 = "Z")
  · rw [e]
    rcases Bool.or_eq_true _ _ ▸ h2 with h2 | h2
    · exact ⟨_, of_decide_eq_true h2⟩
    · exact ⟨_, of_decide_eq_true h2⟩
  · rw [e]; exact (of_decide_eq_true h2 : (mTT a b).2.2.1 = "J")
  · cases h2
theorem mSwC_at {pc : Nat} : ∀ {os : List Int} {ts : List Nat} {j : Nat}, mSwC pc os ts = true → j < ts.length → ∃ (o : Int) (t : Nat), os[j]? = some o ∧ ts[j]? = some t ∧ (pc : Int) + o = (t : Int) := by
  intro os
  induction os with
  | nil => intro ts j h hj; cases ts with
    | nil => exact absurd hj (Nat.not_lt_zero _)
    | cons t ts => cases h
  | cons o os ih =>
    intro ts j h hj
    cases ts with
    | nil => cases h
    | cons t ts =>
      obtain ⟨h1, h2⟩ := mAnd (show (decide ((pc : Int) + o = (t : Int)) && mSwC pc os ts) = true from h)
      cases j with
      | zero => exact ⟨o, t, rfl, rfl, of_decide_eq_true h1⟩
      | succ j => exact ih h2 (by simpa using hj)
theorem mSw_at {K : Nat → Prop} {x : Int32} : ∀ (ts : List Nat) (b : Nat) {j t : Nat}, mSw K x ts b → j < ts.length → ts[j]? = some t → x = nI (b + j) → K t := by
  intro ts
  induction ts with
  | nil => intro b j t _ hj; exact absurd hj (Nat.not_lt_zero _)
  | cons t0 ts ih =>
    intro b j t q hj ht hx
    cases j with
    | zero => cases ht; exact q.1 hx
    | succ j => exact ih (b + 1) q.2 (by simpa using hj) ht (by rw [hx]; congr 1; omega)
theorem mSh_six {o n z : Nat} (h : mSh o = (6, n, z)) : o = 143 ∧ n = 5 := by
  have key : ∀ b, b < 158 → (mSh b).1 = 6 → b = 143 ∧ (mSh b).2.1 = 5 := by decide +kernel
  rcases Nat.lt_or_ge o 158 with q | q
  · have := key o q (by rw [h])
    rw [h] at this
    exact this
  · have e : Nat.blt o 158 = false := mBltF q
    have : mSh o = (9, 0, 0) := by unfold mSh; rw [e]; rfl
    rw [this] at h
    cases h
theorem mSh_five {o n z : Nat} (h : mSh o = (5, n, z)) : o = 142 := by
  have key : ∀ b, b < 158 → (mSh b).1 = 5 → b = 142 := by decide +kernel
  rcases Nat.lt_or_ge o 158 with q | q
  · exact key o q (by rw [h])
  · have e : Nat.blt o 158 = false := mBltF q
    have : mSh o = (9, 0, 0) := by unfold mSh; rw [e]; rfl
    rw [this] at h
    cases h
theorem mX_lt {b L : Nat} {xs : Nat → Int32} {s : State} (h : va_X b L xs s s.heap) : b < s.heap.size := by
  obtain ⟨scr, e, -⟩ := h
  exact (Array.getElem?_eq_some_iff.mp e).1
theorem mIn_lt {i : Int32} {n : Nat} (h : vp_in i n) : i.toNatClampNeg < n := by
  rcases Nat.lt_or_ge i.toNatClampNeg n with q | q
  · exact q
  · exact absurd (Or.inr q) h
section TLD
variable {p : Program} {l : Launch} {e : Env} {R : Room} {s : State} {m : MethodId} {args : Array Value} {below : List Frame} {meth : Method} {c : Code} {H : Heap} {locs : List Loc} {cells slots : Nat} {Q : State → Prop}
theorem va_tldK {cc : ByteArray} {pc t N : Nat} {ls : Array Slot} {rest : List Value} {A : Nat → Prop} {f g : Nat → Int32} (hT : va_T .int t N (fun j => .int (g j)) A s s.heap) (hfg : ∀ j, j < N → f j = g j) (hexec : p.tables.exec = Jvm.exec) (hb : c.code = cc) (hS : va_S A s.heap H locs) {i : Int32} (hin : vp_in i N) (hdg : decode cc pc = .ok (.iaload, 1))
    (kk : W p l e R s m args below meth c H locs cells slots Q (F0 m (pc + 1) ls (.int (f i.toNatClampNeg) :: rest))) : W p l e R s m args below meth c H locs cells slots Q (F0 m pc ls (.int i :: .ref t :: rest)) := by
  obtain ⟨cell, h1, h2, h3, h4, h5, h6, h7⟩ := hT
  have hl := mIn_lt hin
  rw [hfg _ hl] at kk
  refine W.iald hexec hb (cell := cell) (by rw [hS.2.1 t (Array.getElem?_eq_some_iff.mp h1).1 h7]; exact h1) h2 h3 (fun q => ?_) (h6 _ hl) (g := F0 m pc ls (.int i :: .ref t :: rest)) rfl rfl hdg kk
  rcases q with q | q
  · exact hin (Or.inl q)
  · omega
end TLD
set_option maxHeartbeats 40000000 in
set_option maxRecDepth 100000 in
theorem mSnd_ex {G : mG} {l : Launch} {d m pc : Nat} {lv : mLv} {st : List Value} {h : mHp} {out : mOut} {i : Instr} {len a b c w : Nat} {v : Int32} {ts : List Nat} (hm : m < 210)
    (hck1 : decode (mBy m) pc = .ok (i, len)) (hck2 : mChX m pc len a b c w v ts i = true) (hF : mEx (mP1 G l) (mP1 G l) d m pc lv st h out i a b c v ts) : mP0 G l d m pc lv st h out := by
  intro p e R s mid args below meth cd H locs cells slots mc ms ls C Lc Wl hS Rm
  obtain ⟨hx, hb, hml, hr, hown, hts, hlocks, htab, hl, hSt, hz⟩ := id C
  have go : ∀ {pc' : Nat} {lv' : mLv} {st' : List Value} {ls' : Array Slot}, mP1 G l d m pc' lv' st' h out → mLc G m lv' ls' → W p l e R s mid args below meth cd H locs cells slots (mQ G below args s mc ms out) (F0 mid pc' ls' (st'.map (mRv (gA G)))) :=
    fun hn L' => hn.2 p e R s mid args below meth cd H locs cells slots mc ms _ C L' Wl hS Rm
  cases i with
  | iconst n =>
    obtain ⟨h1, h2⟩ := mAnd hck2
    have h1 := Nat.eq_of_beq_eq_true h1; subst h1
    exact lv_iconst hx hb hck1 (of_decide_eq_true h2) (go hF Lc)
  | bipush n =>
    obtain ⟨h1, h2⟩ := mAnd hck2
    have h1 := Nat.eq_of_beq_eq_true h1; subst h1
    exact lv_bipush hx hb hck1 (of_decide_eq_true h2) (go hF Lc)
  | sipush n =>
    obtain ⟨h1, h2⟩ := mAnd hck2
    have h1 := Nat.eq_of_beq_eq_true h1; subst h1
    exact lv_sipush hx hb hck1 (of_decide_eq_true h2) (go hF Lc)
  | lconst n =>
    obtain ⟨h1, h2⟩ := mAnd hck2
    have h1 := Nat.eq_of_beq_eq_true h1; subst h1
    have h2 := Nat.eq_of_beq_eq_true h2
    exact lv_lconst hx hb hck1 (v := lN a) (by rw [← h2]; rfl) (go hF Lc)
  | ldc2_w k =>
    obtain ⟨h1, h2⟩ := mAnd hck2
    have h1 := Nat.eq_of_beq_eq_true h1; subst h1
    exact lv_ldc2 hx hb hown (hts _ (mWrd_big (of_decide_eq_true h2) rfl)) hck1 (go hF Lc)
  | ldc k =>
    obtain ⟨h1, h2⟩ := mAnd hck2
    have h1 := Nat.eq_of_beq_eq_true h1; subst h1
    rcases mLdc_k (K := fun w => mP1 G l d m (pc + 2) lv (w :: st) h out) hF with ⟨rfl, hn⟩ | ⟨rfl, hn⟩
    · exact lv_ldc hx hb hown (hts _ (mWrd_big (of_decide_eq_true h2) rfl)) hck1 (go hn Lc)
    · obtain ⟨h2, h5⟩ := mAnd h2
      obtain ⟨h2, h4⟩ := mAnd h2
      obtain ⟨h2, h3⟩ := mAnd h2
      have h2 : (mY m).cls = RX6 := of_decide_eq_true h2
      have h3 : 144 ≤ b := Nat.le_of_ble_eq_true h3
      have h4 : b < 158 := by have := h4; simp only [Nat.blt] at this; exact Nat.lt_of_succ_le (Nat.le_of_ble_eq_true this)
      have h5 : mSi (b - 144) = k := Nat.eq_of_beq_eq_true h5
      have hR := hSt.2.2.2.2.2.1.1 (b - 144) (by omega)
      rw [h5, show 144 + (b - 144) = b by omega] at hR
      exact va_ldcS hx hb (own := RX6) (by rw [← h2]; exact hown) hR hck1 (go hn Lc)
  | ldc_w k =>
    obtain ⟨h1, h2⟩ := mAnd hck2
    have h1 := Nat.eq_of_beq_eq_true h1; subst h1
    rcases mLdc_k (K := fun w => mP1 G l d m (pc + 3) lv (w :: st) h out) hF with ⟨rfl, hn⟩ | ⟨rfl, hn⟩
    · exact lv_ldcw hx hb hown (hts _ (mWrd_big (of_decide_eq_true h2) rfl)) hck1 (go hn Lc)
    · cases h2
  | iload k =>
    have h1 := Nat.eq_of_beq_eq_true hck2; subst h1
    obtain ⟨x, hg, hn⟩ := mGi_e hF
    exact lv_iload hx hb hck1 (mLv_get Lc.2 hg) (go hn Lc)
  | iload_n k =>
    obtain ⟨h1, h2⟩ := mAnd hck2
    have h1 := Nat.eq_of_beq_eq_true h1; subst h1
    obtain ⟨x, hg, hn⟩ := mGi_e hF
    exact lv_iload_n hx hb hck1 (Nat.eq_of_beq_eq_true h2) (mLv_get Lc.2 hg) (go hn Lc)
  | lload k =>
    have h1 := Nat.eq_of_beq_eq_true hck2; subst h1
    obtain ⟨x, hg, hn⟩ := mGl_e hF
    exact lv_lload hx hb hck1 (mLv_get Lc.2 hg) (go hn Lc)
  | lload_n k =>
    obtain ⟨h1, h2⟩ := mAnd hck2
    have h1 := Nat.eq_of_beq_eq_true h1; subst h1
    obtain ⟨x, hg, hn⟩ := mGl_e hF
    exact lv_lload_n hx hb hck1 (Nat.eq_of_beq_eq_true h2) (mLv_get Lc.2 hg) (go hn Lc)
  | aload k =>
    have h1 := Nat.eq_of_beq_eq_true hck2; subst h1
    obtain ⟨x, hg, hn⟩ := mGr_e hF
    exact lv_aload hx hb hck1 (mLv_get Lc.2 hg) (go hn Lc)
  | aload_n k =>
    obtain ⟨h1, h2⟩ := mAnd hck2
    have h1 := Nat.eq_of_beq_eq_true h1; subst h1
    obtain ⟨x, hg, hn⟩ := mGr_e hF
    exact lv_aload_n hx hb hck1 (Nat.eq_of_beq_eq_true h2) (mLv_get Lc.2 hg) (go hn Lc)
  | istore k =>
    obtain ⟨h1, h2⟩ := mAnd hck2
    have h1 := Nat.eq_of_beq_eq_true h1; subst h1
    obtain ⟨x, r, rfl, hn⟩ := mI1_e hF
    exact lv_istore (lv' := _) hx hb hck1 Lc.2 (mBlt h2) rfl (fun ls' h' => go hn ⟨by rw [mSet_len]; exact Lc.1, mLv_put1 (v := .int x) h'⟩)
  | istore_n k =>
    obtain ⟨h1, h3⟩ := mAnd hck2
    obtain ⟨h1, h2⟩ := mAnd h1
    have h1 := Nat.eq_of_beq_eq_true h1; subst h1
    obtain ⟨x, r, rfl, hn⟩ := mI1_e hF
    exact lv_istore_n (lv' := _) hx hb hck1 (Nat.eq_of_beq_eq_true h2) Lc.2 (mBlt h3) rfl (fun ls' h' => go hn ⟨by rw [mSet_len]; exact Lc.1, mLv_put1 (v := .int x) h'⟩)
  | astore k =>
    obtain ⟨h1, h2⟩ := mAnd hck2
    have h1 := Nat.eq_of_beq_eq_true h1; subst h1
    obtain ⟨x, r, rfl, hn⟩ := mR1_e hF
    exact lv_astore (lv' := _) hx hb hck1 Lc.2 (mBlt h2) rfl (fun ls' h' => go hn ⟨by rw [mSet_len]; exact Lc.1, mLv_put1 (v := .ref x) h'⟩)
  | astore_n k =>
    obtain ⟨h1, h3⟩ := mAnd hck2
    obtain ⟨h1, h2⟩ := mAnd h1
    have h1 := Nat.eq_of_beq_eq_true h1; subst h1
    obtain ⟨x, r, rfl, hn⟩ := mR1_e hF
    exact lv_astore_n (lv' := _) hx hb hck1 (Nat.eq_of_beq_eq_true h2) Lc.2 (mBlt h3) rfl (fun ls' h' => go hn ⟨by rw [mSet_len]; exact Lc.1, mLv_put1 (v := .ref x) h'⟩)
  | lstore k =>
    obtain ⟨h1, h2⟩ := mAnd hck2
    have h1 := Nat.eq_of_beq_eq_true h1; subst h1
    obtain ⟨x, r, rfl, hn⟩ := mL1_e hF
    exact lv_lstore (lv' := _) hx hb hck1 Lc.2 (mBlt h2) rfl (fun ls' h' => go hn ⟨by rw [mClr_len, mSet_len]; exact Lc.1, mLv_put2 h'⟩)
  | lstore_n k =>
    obtain ⟨h1, h3⟩ := mAnd hck2
    obtain ⟨h1, h2⟩ := mAnd h1
    have h1 := Nat.eq_of_beq_eq_true h1; subst h1
    obtain ⟨x, r, rfl, hn⟩ := mL1_e hF
    exact lv_lstore_n (lv' := _) hx hb hck1 (Nat.eq_of_beq_eq_true h2) Lc.2 (mBlt h3) rfl (fun ls' h' => go hn ⟨by rw [mClr_len, mSet_len]; exact Lc.1, mLv_put2 h'⟩)
  | iinc k n =>
    obtain ⟨h1, h3⟩ := mAnd hck2
    obtain ⟨h1, h2⟩ := mAnd h1
    have h1 := Nat.eq_of_beq_eq_true h1; subst h1
    obtain ⟨x, hg, hn⟩ := mGi_e hF
    obtain ⟨j, hj⟩ := List.getElem?_of_mem ((mPr_mem (ad := gA G) lv 0 _).mpr ⟨k, _, hg, rfl⟩)
    rw [Nat.zero_add] at hj
    exact lv_iinc (v := x + v) (lv' := _) hx hb hck1 Lc.2 hj (by rw [of_decide_eq_true h3]) (mBlt h2) rfl (fun ls' h' => go hn ⟨by rw [mSet_len]; exact Lc.1, mLv_put1 (v := .int (x + v)) h'⟩)
  | iadd =>
    have h1 := mLen1 hck2; subst h1
    obtain ⟨x, y, r, rfl, hn⟩ := mI2_e hF
    exact lv_iadd hx hb hck1 (go hn Lc)
  | isub =>
    have h1 := mLen1 hck2; subst h1
    obtain ⟨x, y, r, rfl, hn⟩ := mI2_e hF
    exact lv_isub hx hb hck1 (go hn Lc)
  | imul =>
    have h1 := mLen1 hck2; subst h1
    obtain ⟨x, y, r, rfl, hn⟩ := mI2_e hF
    exact lv_imul hx hb hck1 (go hn Lc)
  | iand =>
    have h1 := mLen1 hck2; subst h1
    obtain ⟨x, y, r, rfl, hn⟩ := mI2_e hF
    exact lv_iand hx hb hck1 (go hn Lc)
  | ior =>
    have h1 := mLen1 hck2; subst h1
    obtain ⟨x, y, r, rfl, hn⟩ := mI2_e hF
    exact lv_ior hx hb hck1 (go hn Lc)
  | ixor =>
    have h1 := mLen1 hck2; subst h1
    obtain ⟨x, y, r, rfl, hn⟩ := mI2_e hF
    exact lv_ixor hx hb hck1 (go hn Lc)
  | ishl =>
    have h1 := mLen1 hck2; subst h1
    obtain ⟨x, y, r, rfl, hn⟩ := mI2_e hF
    exact lv_ishl hx hb hck1 (go hn Lc)
  | ishr =>
    have h1 := mLen1 hck2; subst h1
    obtain ⟨x, y, r, rfl, hn⟩ := mI2_e hF
    exact lv_ishr hx hb hck1 (go hn Lc)
  | iushr =>
    have h1 := mLen1 hck2; subst h1
    obtain ⟨x, y, r, rfl, hn⟩ := mI2_e hF
    exact lv_iushr hx hb hck1 rfl (go hn Lc)
  | idiv =>
    have h1 := mLen1 hck2; subst h1
    obtain ⟨x, y, r, rfl, hn⟩ := mI2_e hF
    exact lv_idiv hx hb hck1 hn.1 (go hn.2 Lc)
  | irem =>
    have h1 := mLen1 hck2; subst h1
    obtain ⟨x, y, r, rfl, hn⟩ := mI2_e hF
    exact lv_irem hx hb hck1 hn.1 (go hn.2 Lc)
  | ladd =>
    have h1 := mLen1 hck2; subst h1
    obtain ⟨x, y, r, rfl, hn⟩ := mL2_e hF
    exact lv_ladd hx hb hck1 (go hn Lc)
  | lsub =>
    have h1 := mLen1 hck2; subst h1
    obtain ⟨x, y, r, rfl, hn⟩ := mL2_e hF
    exact lv_lsub hx hb hck1 (go hn Lc)
  | lmul =>
    have h1 := mLen1 hck2; subst h1
    obtain ⟨x, y, r, rfl, hn⟩ := mL2_e hF
    exact lv_lmul hx hb hck1 (go hn Lc)
  | lor =>
    have h1 := mLen1 hck2; subst h1
    obtain ⟨x, y, r, rfl, hn⟩ := mL2_e hF
    exact lv_lor hx hb hck1 (go hn Lc)
  | ldiv =>
    have h1 := mLen1 hck2; subst h1
    obtain ⟨x, y, r, rfl, hn⟩ := mL2_e hF
    exact lv_ldiv hx hb hck1 hn.1 (go hn.2 Lc)
  | lrem =>
    have h1 := mLen1 hck2; subst h1
    obtain ⟨x, y, r, rfl, hn⟩ := mL2_e hF
    exact lv_lrem hx hb hck1 hn.1 (go hn.2 Lc)
  | lshl =>
    have h1 := mLen1 hck2; subst h1
    obtain ⟨x, y, r, rfl, hn⟩ := mIL_e hF
    exact lv_lshl hx hb hck1 rfl (go hn Lc)
  | lcmp =>
    have h1 := mLen1 hck2; subst h1
    obtain ⟨x, y, r, rfl, hn⟩ := mL2_e hF
    exact W.lcmp hx hb hck1 (go hn Lc)
  | i2l =>
    have h1 := mLen1 hck2; subst h1
    obtain ⟨x, r, rfl, hn⟩ := mI1_e hF
    exact lv_i2l hx hb hck1 rfl (go hn Lc)
  | l2i =>
    have h1 := mLen1 hck2; subst h1
    obtain ⟨x, r, rfl, hn⟩ := mL1_e hF
    exact lv_l2i hx hb hck1 rfl (go hn Lc)
  | i2b =>
    have h1 := mLen1 hck2; subst h1
    obtain ⟨x, r, rfl, hn⟩ := mI1_e hF
    exact lv_i2b hx hb hck1 rfl (go hn Lc)
  | dup =>
    have h1 := mLen1 hck2; subst h1
    obtain ⟨x, r, rfl, hc, hn⟩ := mDup_k (K := fun x r => mP1 G l d m (pc + 1) lv (x :: x :: r) h out) hF
    exact lv_dup hx hb hck1 (by rw [mRv_cat]; exact hc) (go hn Lc)
  | dup2 =>
    have h1 := mLen1 hck2; subst h1
    obtain ⟨x, y, r, rfl, hn⟩ := mIR_e hF
    exact lv_dup2_11 hx hb hck1 rfl rfl (go hn Lc)
  | goto off =>
    obtain ⟨h1, h2⟩ := mAnd hck2
    have h1 := Nat.eq_of_beq_eq_true h1; subst h1
    exact lv_goto hx hb hck1 (of_decide_eq_true h2) (go hF Lc)
  | ifCond cn off =>
    obtain ⟨h1, h2⟩ := mAnd hck2
    have h1 := Nat.eq_of_beq_eq_true h1; subst h1
    obtain ⟨x, r, rfl, hn⟩ := mI1_e hF
    cases cn with
    | eq => exact lv_if_eq hx hb hck1 (of_decide_eq_true h2) (fun q => go (hn.1 q) Lc) (fun q => go (hn.2 q) Lc)
    | ne => exact lv_if_ne hx hb hck1 (of_decide_eq_true h2) (fun q => go (hn.1 q) Lc) (fun q => go (hn.2 q) Lc)
    | lt => exact lv_if_lt hx hb hck1 (of_decide_eq_true h2) (fun q => go (hn.1 q) Lc) (fun q => go (hn.2 q) Lc)
    | ge => exact lv_if_ge hx hb hck1 (of_decide_eq_true h2) (fun q => go (hn.1 q) Lc) (fun q => go (hn.2 q) Lc)
    | gt => exact lv_if_gt hx hb hck1 (of_decide_eq_true h2) (fun q => go (hn.1 q) Lc) (fun q => go (hn.2 q) Lc)
    | le => exact lv_if_le hx hb hck1 (of_decide_eq_true h2) (fun q => go (hn.1 q) Lc) (fun q => go (hn.2 q) Lc)
  | if_icmp cn off =>
    obtain ⟨h1, h2⟩ := mAnd hck2
    have h1 := Nat.eq_of_beq_eq_true h1; subst h1
    obtain ⟨x, y, r, rfl, hn⟩ := mI2_e hF
    cases cn with
    | eq => exact lv_icmp_eq hx hb hck1 (of_decide_eq_true h2) (fun q => go (hn.1 q) Lc) (fun q => go (hn.2 q) Lc)
    | ne => exact lv_icmp_ne hx hb hck1 (of_decide_eq_true h2) (fun q => go (hn.1 q) Lc) (fun q => go (hn.2 q) Lc)
    | lt => exact lv_icmp_lt hx hb hck1 (of_decide_eq_true h2) (fun q => go (hn.1 q) Lc) (fun q => go (hn.2 q) Lc)
    | ge => exact lv_icmp_ge hx hb hck1 (of_decide_eq_true h2) (fun q => go (hn.1 q) Lc) (fun q => go (hn.2 q) Lc)
    | gt => exact lv_icmp_gt hx hb hck1 (of_decide_eq_true h2) (fun q => go (hn.1 q) Lc) (fun q => go (hn.2 q) Lc)
    | le => exact lv_icmp_le hx hb hck1 (of_decide_eq_true h2) (fun q => go (hn.1 q) Lc) (fun q => go (hn.2 q) Lc)
  | tableswitch df lo hi offs =>
    obtain ⟨h1, h6⟩ := mAnd hck2
    obtain ⟨h1, h5⟩ := mAnd h1
    obtain ⟨h1, h4⟩ := mAnd h1
    obtain ⟨h1, h3⟩ := mAnd h1
    obtain ⟨h1, h2⟩ := mAnd h1
    have h2 : lo = (b : Int) := of_decide_eq_true h2
    have h3 : hi = (c : Int) := of_decide_eq_true h3
    have h4 : c + 1 = b + ts.length := Nat.eq_of_beq_eq_true h4
    have h5 : c < 1000 := mBlt h5
    obtain ⟨x, r, rfl, hn⟩ := mI1_e hF
    have eb : (nI b).toInt = (b : Int) := nI_toInt (by omega)
    have ec : (nI c).toInt = (c : Int) := nI_toInt (by omega)
    by_cases hlo : x.toInt < lo ∨ hi < x.toInt
    · refine lv_tableOut hx hb hck1 hlo (of_decide_eq_true h1) (go (hn.1 ?_) Lc)
      rcases hlo with q | q
      · left; rw [Int32.lt_iff_toInt_lt, eb, ← h2]; exact q
      · right; rw [Int32.lt_iff_toInt_lt, ec, ← h3]; exact q
    · have hl : ¬ x.toInt < lo := fun q => hlo (Or.inl q)
      have hh : ¬ hi < x.toInt := fun q => hlo (Or.inr q)
      obtain ⟨j, hj⟩ : ∃ j : Nat, x.toInt = (b : Int) + j := ⟨(x.toInt - b).toNat, by omega⟩
      have hjl : j < ts.length := by omega
      have hxe : x = nI (b + j) := by
        apply Int32.toInt_inj.mp
        rw [nI_toInt (by omega), hj]; omega
      obtain ⟨o, t, ho, ht, hot⟩ := mSwC_at h6 hjl
      refine lv_tableIn (off := o) (tgt := t) hx hb hck1 hl hh ?_ hot (go (mSw_at ts b hn.2 hjl ht hxe) Lc)
      rw [h2, hj, show ((b : Int) + j - b).toNat = j by omega, ← Array.getElem?_toList]; exact ho
  | getfield k =>
    obtain ⟨h1, h2⟩ := mAnd hck2
    have h1 := Nat.eq_of_beq_eq_true h1; subst h1
    obtain ⟨ha, hbN, hw⟩ := mChF_e h2
    obtain ⟨o, r, rfl, hn⟩ := mR1_e hF
    obtain ⟨⟨z, hsh⟩, hn⟩ := mOb_e hn
    have ho : o < 142 := mSh_lt hsh (by omega)
    obtain ⟨val, hn, hv⟩ := mGf_e (G := G) hn
    have he : (mWo G h)[o]? = some (gA G o, .inr (a, mFs (gA G) o a (h.1 o) (h.2.1 o) (h.2.2.1 o))) := by rw [mWo_get G h ho, hsh]; rfl
    exact va_get (v := mRv (gA G) val) hx hb hts (mCl_ws ha) hown hSt.1 Wl.1 o he (mCl_at ha) b hbN (hts _ (mWrd_big hw rfl)) (fun _ q => q) (by rw [mFs_get hbN, hv]) hck1 (go hn Lc)
  | putfield k =>
    obtain ⟨h1, h3⟩ := mAnd hck2
    obtain ⟨h1, h2⟩ := mAnd h1
    have h1 := Nat.eq_of_beq_eq_true h1; subst h1
    obtain ⟨ha, hbN, hw⟩ := mChF_e h2
    obtain ⟨ty0, hty, hnm⟩ := mCl_ty ha
    obtain ⟨hfin, hk⟩ := mChP_e h3
    have put : ∀ {o : Nat} {z : Nat} {h' : mHp} {val : Value} {r : List Value} {ty : FieldType} {fs' : List Value} (hsh : mSh o = (0, a, z)) (hd : parseFieldDescriptor (mTT a b).2.2.1 = some ty) (hnr : narrow ty (mRv (gA G) val) = mRv (gA G) val) (hft : fits ty (mRv (gA G) val) = true)
        (hfs : (mFs (gA G) o a (h.1 o) (h.2.1 o) (h.2.2.1 o)).set b (mRv (gA G) val) = mFs (gA G) o a (h'.1 o) (h'.2.1 o) (h'.2.2.1 o)) (hoth : ∀ x, x ≠ o → h.1 x = h'.1 x ∧ h.2.1 x = h'.2.1 x ∧ h.2.2.1 x = h'.2.2.1 x) (hcn : h'.2.2.2 = h.2.2.2) (hn : mP1 G l d m (pc + 3) lv r h' out),
        W p l e R s mid args below meth cd H locs cells slots (mQ G below args s mc ms out) (F0 mid pc ls (mRv (gA G) val :: .ref (gA G o) :: r.map (mRv (gA G)))) := by
      intro o z h' val r ty fs' hsh hd hnr hft hfs hoth hcn hn
      have ho : o < 142 := mSh_lt hsh (by omega)
      have he : (mWo G h)[o]? = some (gA G o, .inr (a, mFs (gA G) o a (h.1 o) (h.2.1 o) (h.2.2.1 o))) := by rw [mWo_get G h ho, hsh]; rfl
      refine va_put hx hb hts (mCl_ws ha) ty0 hty hnm hown hSt.1 Wl.1 Wl.2.1 hS o he (mCl_at ha) b hbN (hts _ (mWrd_big hw rfl)) (fun _ q => q) hfin hd hnr hft (by rw [mFs_len]; exact hbN) hck1 (fun H1 locs1 hP1 hD1 hS1 => ?_)
      have ews : (mWo G h).set o (gA G o, .inr (a, (mFs (gA G) o a (h.1 o) (h.2.1 o) (h.2.2.1 o)).set b (mRv (gA G) val))) = mWo G h' := mWo_set ho (by rw [hfs, hsh]; rfl) hoth
      rw [ews] at hP1 hD1
      have e142 := hoth 142 (by omega)
      have e143 := hoth 143 (by omega)
      exact hn.2 p e R s mid args below meth cd H1 locs1 cells slots mc ms ls C Lc ⟨hP1, hD1, mHx_of Wl.2.2 e142.1.symm e143.1.symm e142.2.2.symm⟩ hS1 (by rw [mRm] at Rm ⊢; rw [hcn]; exact Rm)
    unfold mEx mPf at hF
    dsimp only at hF
    split at hF
    · next hft =>
      obtain ⟨x, o, r, rfl, hn⟩ := mIR_e hF
      obtain ⟨⟨z, hsh⟩, hn⟩ := mOb_e hn
      rw [hft] at hk
      refine put (val := .int x) (fs' := []) hsh (ty := .int) (by rw [hk]; rfl) rfl rfl ?_ (fun q hq => ⟨(mPI_ne hq).symm, rfl, rfl⟩) rfl hn
      rw [show mRv (gA G) (.int x) = .int x from rfl, mFs_setI (by rw [hft]; exact Or.inl rfl), mPI_at]; rfl
    · next hft =>
      obtain ⟨x, o, r, rfl, hn⟩ := mIR_e hF
      obtain ⟨⟨z, hsh⟩, hbo, hn⟩ := mOb_e hn
      rw [hft] at hk
      have hb01 : narrow .boolean (.int x) = .int x ∧ fits .boolean (.int x) = true := by rcases hbo with rfl | rfl <;> exact ⟨rfl, rfl⟩
      refine put (val := .int x) (fs' := []) hsh (ty := .boolean) (by rw [hk]; rfl) hb01.1 hb01.2 ?_ (fun q hq => ⟨(mPI_ne hq).symm, rfl, rfl⟩) rfl hn
      rw [show mRv (gA G) (.int x) = .int x from rfl, mFs_setI (by rw [hft]; exact Or.inr rfl), mPI_at]; rfl
    · next hft =>
      obtain ⟨x, o, r, rfl, hn⟩ := mRR_e hF
      obtain ⟨⟨z, hsh⟩, hn⟩ := mOb_e hn
      obtain ⟨⟨z2, hshx⟩, hn⟩ := mOb_e hn
      rw [hft] at hk
      obtain ⟨nm, hk⟩ := hk
      refine put (h' := mPR h o b x) (val := .ref x) (fs' := []) hsh (ty := .object nm) hk rfl rfl ?_ (fun q hq => ⟨rfl, rfl, (mPR_ne hq).symm⟩) rfl hn
      rw [show mRv (gA G) (.ref x) = .ref (gA G x) from rfl, mFs_setR (by rw [hft]) (mSh_lt hshx (by omega)), mPR_at]; rfl
    · next hft =>
      obtain ⟨x, o, r, rfl, hn⟩ := mLR_e hF
      obtain ⟨⟨z, hsh⟩, hn⟩ := mOb_e hn
      rw [hft] at hk
      refine put (h' := mPL h o b x) (val := .long x) (fs' := []) hsh (ty := .long) (by rw [hk]; rfl) rfl rfl ?_ (fun q hq => ⟨rfl, (mPL_ne hq).symm, rfl⟩) rfl hn
      rw [show mRv (gA G) (.long x) = .long x from rfl, mFs_setL (by rw [hft]), mPL_at]; rfl
    · exact hF.elim
  | getstatic k =>
    obtain ⟨h1, h3⟩ := mAnd hck2
    obtain ⟨h1, h2⟩ := mAnd h1
    have h1 := Nat.eq_of_beq_eq_true h1; subst h1
    have h2 := Nat.eq_of_beq_eq_true h2; subst h2
    exact va_gets hx hb hSt.2.2.1.1 hS hown (hts _ (mWrd_big (of_decide_eq_true h3) rfl)) (fun _ q => q) hck1 (go hF Lc)
  | iaload =>
    have h1 := mLen1 hck2; subst h1
    obtain ⟨i, o, r, rfl, hn⟩ := mIR_e hF
    unfold mLd at hn
    split at hn
    · next n z hsh =>
      have ho : o < 142 := mSh_lt hsh (by omega)
      exact va_iald hx hb hSt.1 Wl.1 o 0 (cA := gI G) (n := n) (f := h.1 o) (by rw [mWo_get G h ho, hsh]; rfl) rfl hn.1 hck1 (go hn.2 Lc)
    · next n z hsh =>
      obtain ⟨e1, e2⟩ := mSh_six hsh
      subst e1; subst e2
      exact va_tldK (hSt.2.2.1.2) Wl.2.2.2.2 hx hb hS hn.1 hck1 (go hn.2 Lc)
    · next n z hsh =>
      have e1 := mSh_five hsh
      subst e1
      refine va_sld hx hb hSt.2.1.1 (mX_lt hSt.2.1.1) hSt.2.1.2 hS (by rw [← Wl.2.2.2.1]; exact hn.1) hck1 ?_
      have hin := hn.1
      rw [Wl.2.2.2.1] at hin
      rw [← Wl.2.2.1 _ (mIn_lt hin)]
      exact go hn.2 Lc
    · exact hn.elim
  | baload =>
    have h1 := mLen1 hck2; subst h1
    obtain ⟨i, o, r, rfl, hn⟩ := mIR_e hF
    obtain ⟨n, y, hsh, hin, hn⟩ := mAr_e hn
    have ho : o < 142 := mSh_lt hsh (by omega)
    exact va_bald hx hb hSt.1 Wl.1 o 1 (cA := gB G) (n := n) (f := h.1 o) (by rw [mWo_get G h ho, hsh]; rfl) rfl hin hck1 (go hn Lc)
  | laload =>
    have h1 := mLen1 hck2; subst h1
    obtain ⟨i, o, r, rfl, hn⟩ := mIR_e hF
    obtain ⟨n, y, hsh, hin, hn⟩ := mAr_e hn
    have ho : o < 142 := mSh_lt hsh (by omega)
    exact va_lald hx hb hSt.1 Wl.1 o 2 (cA := gJ G) (n := n) (f := h.2.1 o) (by rw [mWo_get G h ho, hsh]; rfl) rfl hin hck1 (go hn Lc)
  | aaload =>
    have h1 := mLen1 hck2; subst h1
    obtain ⟨i, o, r, rfl, hn⟩ := mIR_e hF
    obtain ⟨n, y, hsh, hin, hn⟩ := mAr_e hn
    have ho : o < 142 := mSh_lt hsh (by omega)
    exact va_aldq hx hb hSt.1 Wl.1 o 3 (cA := gO G) (C := "TasterTable$Plan") (n := n) (f := fun j => some (gA G (o + y + 3 * j))) (by rw [mWo_get G h ho, hsh]; rfl) rfl hin hck1 (go hn Lc)
  | iastore =>
    have h1 := mLen1 hck2; subst h1
    obtain ⟨x, i, o, r, rfl, hn⟩ := mIIR_e hF
    obtain ⟨n, y, hsh, hin, hn⟩ := mAr_e hn
    have ho : o < 142 := mSh_lt hsh (by omega)
    refine va_iast hx hb hSt.1 Wl.1 Wl.2.1 hS o 0 (cA := gI G) (n := n) (f := h.1 o) (by rw [mWo_get G h ho, hsh]; rfl) rfl hin hck1 (fun H1 locs1 hP1 hD1 hS1 => ?_)
    have ews : (mWo G h).set o (gA G o, .inl (gI G, n, .inl (upd (h.1 o) i.toNatClampNeg (x)))) = mWo G (mPI h o i.toNatClampNeg (x)) := mWo_set ho (by rw [mPI_at, hsh]; rfl) (fun q hq => ⟨(mPI_ne hq).symm, rfl, rfl⟩)
    rw [ews] at hP1 hD1
    exact hn.2 p e R s mid args below meth cd H1 locs1 cells slots mc ms ls C Lc ⟨hP1, hD1, mHx_of Wl.2.2 (mPI_ne (fun e => by subst e; exact absurd ho (by decide))) (mPI_ne (fun e => by subst e; exact absurd ho (by decide))) rfl⟩ hS1 Rm
  | bastore =>
    have h1 := mLen1 hck2; subst h1
    obtain ⟨x, i, o, r, rfl, hn⟩ := mIIR_e hF
    obtain ⟨n, y, hsh, hin, hn⟩ := mAr_e hn
    have ho : o < 142 := mSh_lt hsh (by omega)
    refine va_bast hx hb hSt.1 Wl.1 Wl.2.1 hS o 1 (cA := gB G) (n := n) (f := h.1 o) (by rw [mWo_get G h ho, hsh]; rfl) rfl hin hck1 (fun H1 locs1 hP1 hD1 hS1 => ?_)
    have ews : (mWo G h).set o (gA G o, .inl (gB G, n, .inl (upd (h.1 o) i.toNatClampNeg (vp_nar .byte x)))) = mWo G (mPI h o i.toNatClampNeg (vp_nar .byte x)) := mWo_set ho (by rw [mPI_at, hsh]; rfl) (fun q hq => ⟨(mPI_ne hq).symm, rfl, rfl⟩)
    rw [ews] at hP1 hD1
    exact hn.2 p e R s mid args below meth cd H1 locs1 cells slots mc ms ls C Lc ⟨hP1, hD1, mHx_of Wl.2.2 (mPI_ne (fun e => by subst e; exact absurd ho (by decide))) (mPI_ne (fun e => by subst e; exact absurd ho (by decide))) rfl⟩ hS1 Rm
  | lastore =>
    have h1 := mLen1 hck2; subst h1
    obtain ⟨x, i, o, r, rfl, hn⟩ := mLIR_e hF
    obtain ⟨n, y, hsh, hin, hn⟩ := mAr_e hn
    have ho : o < 142 := mSh_lt hsh (by omega)
    refine va_last hx hb hSt.1 Wl.1 Wl.2.1 hS o 2 (cA := gJ G) (n := n) (f := h.2.1 o) (by rw [mWo_get G h ho, hsh]; rfl) rfl hin hck1 (fun H1 locs1 hP1 hD1 hS1 => ?_)
    have ews : (mWo G h).set o (gA G o, .inl (gJ G, n, .inr (.inl (vp_updL (h.2.1 o) i.toNatClampNeg x)))) = mWo G (mPL h o i.toNatClampNeg x) := mWo_set ho (by rw [mPL_at, hsh]; rfl) (fun q hq => ⟨rfl, (mPL_ne hq).symm, rfl⟩)
    rw [ews] at hP1 hD1
    exact hn.2 p e R s mid args below meth cd H1 locs1 cells slots mc ms ls C Lc ⟨hP1, hD1, mHx_of Wl.2.2 rfl rfl rfl⟩ hS1 Rm
  | arraylength =>
    have h1 := mLen1 hck2; subst h1
    obtain ⟨o, r, rfl, hn⟩ := mR1_e hF
    unfold mLen at hn
    split at hn
    · next n z hsh =>
      have ho : o < 142 := mSh_lt hsh (by omega)
      exact va_alen hx hb hSt.1 Wl.1 o 0 (cA := gI G) (x := (n, .inl (h.1 o))) (by rw [mWo_get G h ho, hsh]; rfl) rfl rfl hck1 (go hn Lc)
    · next n z hsh =>
      have ho : o < 142 := mSh_lt hsh (by omega)
      exact va_alen hx hb hSt.1 Wl.1 o 1 (cA := gB G) (x := (n, .inl (h.1 o))) (by rw [mWo_get G h ho, hsh]; rfl) rfl rfl hck1 (go hn Lc)
    · next n z hsh =>
      have ho : o < 142 := mSh_lt hsh (by omega)
      exact va_alen hx hb hSt.1 Wl.1 o 2 (cA := gJ G) (x := (n, .inr (.inl (h.2.1 o)))) (by rw [mWo_get G h ho, hsh]; rfl) rfl rfl hck1 (go hn Lc)
    · next n z hsh =>
      have ho : o < 142 := mSh_lt hsh (by omega)
      exact va_alen hx hb hSt.1 Wl.1 o 3 (cA := gO G) (x := (n, .inr (.inr (.inr (.inr (fun j => some (gA G (o + z + 3 * j)))))))) (by rw [mWo_get G h ho, hsh]; rfl) rfl rfl hck1 (go hn Lc)
    · next n z hsh =>
      have e1 := mSh_five hsh
      subst e1
      refine va_slen hx hb hSt.2.1.1 (mX_lt hSt.2.1.1) hSt.2.1.2 hS hck1 ?_
      rw [Wl.2.2.2.1] at hn
      exact go hn Lc
    · exact hn.elim
  | ireturn =>
    obtain ⟨h1, h2⟩ := mAnd hck2
    have h1 := Nat.eq_of_beq_eq_true h1; subst h1
    unfold mEx mIRet at hF
    dsimp only at hF
    split at hF
    · next x =>
      unfold mBool at hF
      refine vx_ret ?_
      split at hF
      · next e2 =>
        obtain ⟨hbo, hF⟩ := hF
        subst hF
        rw [e2] at h2
        have hr2 : meth.sig.returnType = some .boolean := by rw [hr]; exact of_decide_eq_true h2
        refine W.widen (k := mc) (n := ms) (by have := Rm.2.2.2.2.1; simp only [mOh] at this; omega) (by have := Rm.2.2.2.2.2; simp only [mOh] at this; omega) ?_
        exact W.zret hx hb hr2 (by rcases hbo with rfl | rfl <;> rfl) (fun t ht hW => ⟨_, _, rfl, rfl, by rw [mPo, ht]; exact Wl, hS.F ht⟩) hS.2.2 hck1
      · next e2 =>
        subst hF
        have hr2 : meth.sig.returnType = some .int := by
          rw [hr]
          split at h2
          · exact of_decide_eq_true h2
          · next e3 => exact absurd e3 e2
          · cases h2
        refine W.widen (k := mc) (n := ms) (by have := Rm.2.2.2.2.1; simp only [mOh] at this; omega) (by have := Rm.2.2.2.2.2; simp only [mOh] at this; omega) ?_
        exact W.iret hx hb hr2 (fun t ht hW => ⟨_, _, rfl, rfl, by rw [mPo, ht]; exact Wl, hS.F ht⟩) hS.2.2 hck1
    · exact hF.elim
  | lreturn =>
    obtain ⟨h1, h2⟩ := mAnd hck2
    have h1 := Nat.eq_of_beq_eq_true h1; subst h1
    unfold mEx mLRet at hF
    dsimp only at hF
    split at hF
    · subst hF
      refine vx_ret (W.widen (k := mc) (n := ms) (by have := Rm.2.2.2.2.1; simp only [mOh] at this; omega) (by have := Rm.2.2.2.2.2; simp only [mOh] at this; omega) ?_)
      exact W.lret hx hb (by rw [hr]; exact of_decide_eq_true h2) (fun t ht hW => ⟨_, _, rfl, rfl, by rw [mPo, ht]; exact Wl, hS.F ht⟩) hS.2.2 hck1
    · exact hF.elim
  | areturn =>
    obtain ⟨h1, h2⟩ := mAnd hck2
    have h1 := Nat.eq_of_beq_eq_true h1; subst h1
    unfold mEx mARet at hF
    dsimp only at hF
    split at hF
    · subst hF
      refine vx_ret (W.widen (k := mc) (n := ms) (by have := Rm.2.2.2.2.1; simp only [mOh] at this; omega) (by have := Rm.2.2.2.2.2; simp only [mOh] at this; omega) ?_)
      exact W.aret hx hb (rt := .object "TasterTable$Plan") (by rw [hr]; exact of_decide_eq_true h2) (Or.inl ⟨_, rfl⟩) (Or.inr ⟨_, rfl⟩) (fun t ht hW => ⟨_, _, rfl, rfl, by rw [mPo, ht]; exact Wl, hS.F ht⟩) hS.2.2 hck1
    · exact hF.elim
  | return_ =>
    obtain ⟨h1, h2⟩ := mAnd hck2
    have h1 := Nat.eq_of_beq_eq_true h1; subst h1
    unfold mEx mVRet at hF
    dsimp only at hF
    split at hF
    · subst hF
      refine vx_ret (W.widen (k := mc) (n := ms) (by have := Rm.2.2.2.2.1; simp only [mOh] at this; omega) (by have := Rm.2.2.2.2.2; simp only [mOh] at this; omega) ?_)
      exact W.vret hx hb (by rw [hr]; exact of_decide_eq_true h2) (fun t ht hW => ⟨_, _, rfl, rfl, by rw [mPo, ht]; exact Wl, hS.F ht⟩) hS.2.2 hck1
    · exact hF.elim
  | invokevirtual k =>
    exact mSnd_V (hm := hm) hck1 hck2 hF p e R s mid args below meth cd H locs cells slots mc ms ls C Lc Wl hS Rm
  | invokestatic k =>
    exact mSnd_S (hm := hm) hck1 hck2 hF p e R s mid args below meth cd H locs cells slots mc ms ls C Lc Wl hS Rm
  | new k =>
    exact mSnd_N (hm := hm) hck1 hck2 hF p e R s mid args below meth cd H locs cells slots mc ms ls C Lc Wl hS Rm
  | _ => exact False.elim hF

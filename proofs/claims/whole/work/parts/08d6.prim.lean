/-! SOUNDNESS, part 10: max, min, arraycopy; a throw -/
theorem mMx1 : Cond.static Lib.Math.max.name ∈ mBIG := mWrd_big (w := 435) rfl rfl
theorem mMx2 : Cond.code Lib.Math.max.name Lib.Math.max.code 2 (some .int) ∈ mBIG := mWrd_big (w := mCw 1) rfl rfl
theorem mMn1 : Cond.static Lib.Math.min.name ∈ mBIG := mWrd_big (w := 463) rfl rfl
theorem mMn2 : Cond.code Lib.Math.min.name Lib.Math.min.code 2 (some .int) ∈ mBIG := mWrd_big (w := mCw 2) rfl rfl
theorem mMxI : Cond.initialized "java/lang/Math" ∈ mBIG := mWrd_big (w := 15) rfl rfl
section PRIM
variable {G : mG} {l : Launch} {d m pc : Nat} {lv : mLv} {h : mHp} {out : mOut}
set_option maxRecDepth 20000 in
theorem mSnd_max {st : List Value} {k w : Nat} (hck1 : decode (mBy m) pc = .ok (.invokestatic k, 3)) (hck2 : mChC (mY m).cls k 1 2 w = true) (hF : mI2 (fun x z r => mP1 G l d m (pc + 3) lv (.int (if x < z then z else x) :: r) h out) st) (hwd : mWd st ≤ 40) : mP0 G l d m pc lv st h out := by
  intro p e R s mid args below meth cd H locs cells slots mc ms ls C Lc Wl hS Rm
  obtain ⟨hx, hb, hml, hr, hown, hts, hlocks, htab, hl, hSt, hz⟩ := id C
  obtain ⟨x, z, r, rfl, hn⟩ := mI2_e hF
  have hlink := (mChC_e hck2).2.1
  have hwr : mWd r ≤ 40 := Nat.le_trans (Nat.le_trans (Nat.le_add_left _ _) (Nat.le_add_left _ _)) hwd
  refine va_mmax hx hb (by rw [hml]; exact Lc.2.1.symm) hown (hts _ hlink) (hts _ mMx1) (hts _ mMxI) (hts _ mMx2) ?_ ?_ ?_ ?_ hck1 (hn.2 p e R s mid args below meth cd H locs cells slots mc ms ls C Lc Wl hS Rm)
  · have := Rm.1; omega
  · rw [mWd_sum]; have := Rm.2.1; omega
  · have a1 := Rm.2.2.1; have a2 := Rm.2.2.2.2.1; have a3 := hn.1; omega
  · have a1 := Rm.2.2.2.1; have a2 := Rm.2.2.2.2.2; have a3 := hn.1; omega
set_option maxRecDepth 20000 in
theorem mSnd_min {st : List Value} {k w : Nat} (hck1 : decode (mBy m) pc = .ok (.invokestatic k, 3)) (hck2 : mChC (mY m).cls k 2 2 w = true) (hF : mI2 (fun x z r => mP1 G l d m (pc + 3) lv (.int (if z < x then z else x) :: r) h out) st) (hwd : mWd st ≤ 40) : mP0 G l d m pc lv st h out := by
  intro p e R s mid args below meth cd H locs cells slots mc ms ls C Lc Wl hS Rm
  obtain ⟨hx, hb, hml, hr, hown, hts, hlocks, htab, hl, hSt, hz⟩ := id C
  obtain ⟨x, z, r, rfl, hn⟩ := mI2_e hF
  have hlink := (mChC_e hck2).2.1
  have hwr : mWd r ≤ 40 := Nat.le_trans (Nat.le_trans (Nat.le_add_left _ _) (Nat.le_add_left _ _)) hwd
  refine va_mmin hx hb (by rw [hml]; exact Lc.2.1.symm) hown (hts _ hlink) (hts _ mMn1) (hts _ mMxI) (hts _ mMn2) ?_ ?_ ?_ ?_ hck1 (hn.2 p e R s mid args below meth cd H locs cells slots mc ms ls C Lc Wl hS Rm)
  · have := Rm.1; omega
  · rw [mWd_sum]; have := Rm.2.1; omega
  · have a1 := Rm.2.2.1; have a2 := Rm.2.2.2.2.1; have a3 := hn.1; omega
  · have a1 := Rm.2.2.2.1; have a2 := Rm.2.2.2.2.2; have a3 := hn.1; omega
end PRIM
theorem mCy1 : Cond.static arraycopyName ∈ mBIG := mWrd_big (w := 482) rfl rfl
theorem mCy2 : Cond.native arraycopyName ∈ mBIG := mWrd_big (w := 483) rfl rfl
theorem mCyI : Cond.initialized "java/lang/System" ∈ mBIG := mWrd_big (w := 22) rfl rfl
theorem mCyN : nativeFrameWords "java/lang/System" "arraycopy" 5 + 11 ≤ 200 := by decide +kernel
section PRIM2
variable {G : mG} {l : Launch} {d m pc : Nat} {lv : mLv} {h : mHp} {out : mOut}
set_option maxRecDepth 20000 in
theorem mSnd_cpy {st : List Value} {k w : Nat} (hck1 : decode (mBy m) pc = .ok (.invokestatic k, 3)) (hck2 : mWrd w = some (.methodLink (mY m).cls k arraycopyName)) (hwd : mWd st ≤ 40)
    (hF : mCpy (fun n dp da sp sa r => mAr 1 (fun n0 _ => mAr 1 (fun n1 _ => ¬ sp < 0 ∧ ¬ dp < 0 ∧ ¬ n < 0 ∧ sp.toNatClampNeg + n.toNatClampNeg ≤ n0 ∧ dp.toNatClampNeg + n.toNatClampNeg ≤ n1 ∧ mP1 G l d m (pc + 3) lv r (mCp h sa sp.toNatClampNeg da dp.toNatClampNeg n.toNatClampNeg) out) (mSh da)) (mSh sa)) st) : mP0 G l d m pc lv st h out := by
  intro p e R s mid args below meth cd H locs cells slots mc ms ls C Lc Wl hS Rm
  obtain ⟨hx, hb, hml, hr, hown, hts, hlocks, htab, hl, hSt, hz⟩ := id C
  obtain ⟨n, dp, da, sp, sa, r, e9, hF2⟩ := mCpy_e hF
  clear hF
  subst e9
  obtain ⟨n0, y0, hsh0, hF3⟩ := mAr_e hF2
  obtain ⟨n1, y1, hsh1, h1, h2, h3, h4, h5, hn⟩ := mAr_e hF3
  have hsa : sa < 142 := mSh_lt hsh0 (by omega)
  have hda : da < 142 := mSh_lt hsh1 (by omega)
  have hwr : mWd r ≤ 40 := by simp only [mWd, mW1] at hwd; omega
  have hcn := mCyN
  refine va_copyi hx hb (by rw [hml]; exact Lc.2.1.symm) hown (hts _ (mWrd_big hck2 rfl)) (hts _ mCy2) (hts _ mCy1) (hts _ mCyI) hSt.1 Wl.1 Wl.2.1 hS sa da 0 0 (c0 := gI G) (c1 := gI G) (n0 := n0) (n1 := n1) (f := h.1 sa) (g := h.1 da) (ty := .int) (by rw [mWo_get G h hsa, hsh0]; rfl) (by rw [mWo_get G h hda, hsh1]; rfl) rfl rfl rfl h1 h2 h3 h4 h5 (fun _ _ => rfl) ?_ ?_ hck1 (fun H1 locs1 hP1 hD1 hS1 => ?_)
  · have := Rm.1; omega
  · rw [mWd_sum]; have := Rm.2.1; omega
  · have ews : (mWo G h).set da (gA G da, .inl (gI G, n1, .inl (va_cpy (h.1 sa) (h.1 da) sp.toNatClampNeg dp.toNatClampNeg n.toNatClampNeg))) = mWo G (mCp h sa sp.toNatClampNeg da dp.toNatClampNeg n.toNatClampNeg) := mWo_set hda (by rw [mCp_at, hsh1]; rfl) (fun q hq => ⟨(mCp_ne hq).symm, rfl, rfl⟩)
    rw [ews] at hP1 hD1
    exact hn.2 p e R s mid args below meth cd H1 locs1 cells slots mc ms ls C Lc ⟨hP1, hD1, mHx_of Wl.2.2 (mCp_ne (show (142:Nat) ≠ da from fun e => by subst e; exact absurd hda (by decide))) (mCp_ne (show (143:Nat) ≠ da from fun e => by subst e; exact absurd hda (by decide))) rfl⟩ hS1 Rm
end PRIM2
def mSup : List String := ["java/lang/Exception"]
def mRte : String := "java/lang/RuntimeException"
def mIx (a : Nat) : Nat := match a with
  | 0 => 7
  | _ => 13
def mXb (a : Nat) : ByteArray := match a with
  | 0 => prog_15_method_2_code
  | _ => prog_27_method_4_code
theorem mXb0 : ∀ a, a < 2 → decode (mXb a) 0 = .ok (.aload_n 0, 1) := by decide +kernel
theorem mXb1 : ∀ a, a < 2 → decode (mXb a) 1 = .ok (.aload_n 1, 1) := by decide +kernel
theorem mXb2 : ∀ a, a < 2 → decode (mXb a) 2 = .ok (.invokespecial (mIx a), 3) := by decide +kernel
theorem mXb5 : ∀ a, a < 2 → decode (mXb a) 5 = .ok (.return_, 1) := by decide +kernel
abbrev mXa (a : Nat) : List Cond := mx_at RX7 (mIc a) (mEn a) mRte (mIx a) (mXb a) mSup
def mXn (a : Nat) : List Cond := [.castable (mEn a) (mEn a), .declares (Bundle.initS "java/lang/RuntimeException"), .declares (Bundle.initS "java/lang/Exception"), .declares (Bundle.initS "java/lang/Throwable")]
theorem mAt0 : ∀ w ∈ (mXa 0).filter goodWord, w ∈ tables_1 := by decide +kernel
theorem mAt1 : ∀ w ∈ (mXa 1).filter goodWord, w ∈ tables_1 := by decide +kernel
theorem mBt0 : ∀ w ∈ (mXa 0).filter (fun w => !goodWord w), w ∈ mXn 0 := by decide +kernel
theorem mBt1 : ∀ w ∈ (mXa 1).filter (fun w => !goodWord w), w ∈ mXn 1 := by decide +kernel
theorem mCt0 : (Cond.classLink RX7 (mIk 0) (mEn 0) :: Cond.initialized (mEn 0) :: mXa 0).all vx_ot = true := by decide +kernel
theorem mCt1 : (Cond.classLink RX7 (mIk 1) (mEn 1) :: Cond.initialized (mEn 1) :: mXa 1).all vx_ot = true := by decide +kernel
theorem mLk0 : Cond.classLink RX7 (mIk 0) (mEn 0) ∈ mBIG ∧ Cond.initialized (mEn 0) ∈ mBIG := ⟨mWrd_big (w := 501) rfl rfl, mWrd_big (w := 14) rfl rfl⟩
theorem mLk1 : Cond.classLink RX7 (mIk 1) (mEn 1) ∈ mBIG ∧ Cond.initialized (mEn 1) ∈ mBIG := ⟨mWrd_big (w := 723) rfl rfl, mWrd_big (w := 20) rfl rfl⟩
theorem mHat {G : mG} {s : State} {args : Array Value} (hts : ∀ w ∈ mBIG, w.before args s = true) (hSt : mSt G s s.heap) {a : Nat} (ha : a < 2) :
    (∀ w ∈ mXa a, w.before args s = true) ∧ (∀ w ∈ Cond.classLink RX7 (mIk a) (mEn a) :: Cond.initialized (mEn a) :: mXa a, vx_ot w = true) ∧ (Cond.classLink RX7 (mIk a) (mEn a)).before args s = true ∧ (Cond.initialized (mEn a)).before args s = true ∧ Bundle.fit (mEn a) = true := by
  have hg : ∀ L : List Cond, (∀ w ∈ L.filter goodWord, w ∈ tables_1) → ∀ w ∈ L.filter goodWord, w.before args s = true := fun L h w hw => hts w (mBIG_in (h w hw) (List.mem_filter.mp hw).2)
  have hd : ∀ q ∈ mDec, (Cond.declares q).before args s = true := fun q hq => va_Nw.use rfl (hSt.2.2.2.2.2.2.2.2 q hq)
  have hb : ∀ x, (Cond.castable (mEn x) (mEn x)).before args s = true → ∀ w ∈ mXn x, w.before args s = true := fun x hc => vx_c hc (vx_c (hd _ (by simp [mDec])) (vx_c (hd _ (by simp [mDec])) (vx_c (hd _ (by simp [mDec])) vx_n)))
  match a, ha with
  | 0, _ => exact ⟨vx_hat (hg _ mAt0) mBt0 (hb 0 (va_Nw.use rfl hSt.2.2.2.2.2.2.1.1)), fun w hw => List.all_eq_true.mp mCt0 w hw, hts _ mLk0.1, hts _ mLk0.2, by decide +kernel⟩
  | 1, _ => exact ⟨vx_hat (hg _ mAt1) mBt1 (hb 1 (va_Nw.use rfl hSt.2.2.2.2.2.2.1.2.1)), fun w hw => List.all_eq_true.mp mCt1 w hw, hts _ mLk1.1, hts _ mLk1.2, by decide +kernel⟩
set_option maxRecDepth 20000 in
theorem mSnd_N {G : mG} {l : Launch} {d m pc : Nat} {lv : mLv} {st : List Value} {h : mHp} {out : mOut} {k len a b c w : Nat} {v : Int32} {ts : List Nat} (hm : m < 210) (hck1 : decode (mBy m) pc = .ok (.new k, len)) (hck2 : mChX m pc len a b c w v ts (.new k) = true) (hF : mTrue (out = .inr (a, mXc h)) (Nat.blt a 2 && Nat.ble (mWd st) 8)) : mP0 G l d m pc lv st h out := by
  intro p e R s mid args below meth cd H locs cells slots mc ms ls C Lc Wl hS Rm
  obtain ⟨hx, hb, hml, hr, hown, hts, hlocks, htab, hl, hSt, hz⟩ := id C
  obtain ⟨hg, hF⟩ := mTrue_e hF
  subst hF
  obtain ⟨ha, hw8⟩ := mAnd hg
  have ha := mBlt ha
  have hw8 := Nat.le_of_ble_eq_true hw8
  have hck2 : (Nat.ble 2 a || (decide ((mY m).cls = RX7) && mSeq (mBy m) pc a && (mHh m).isEmpty)) = true := hck2
  rw [Bool.or_eq_true] at hck2
  rcases hck2 with q | q
  · exact absurd (Nat.le_of_ble_eq_true q) (by omega)
  · obtain ⟨q, hemp⟩ := mAnd q
    obtain ⟨hcls, hseq⟩ := mAnd q
    have hcls : (mY m).cls = RX7 := of_decide_eq_true hcls
    rw [hcls] at hown
    obtain ⟨hseq, h3⟩ := mAnd hseq
    obtain ⟨d0, d3⟩ := mAnd hseq
    have d0 := of_decide_eq_true d0
    have d3 := of_decide_eq_true d3
    obtain ⟨tq, htq, h4⟩ := List.any_eq_true.mp h3
    obtain ⟨sa, hstr⟩ := hSt.2.2.2.2.1 tq htq
    obtain ⟨t1, t2, t3, t4, t5⟩ := mHat hts hSt ha
    have hnames : ∀ n ∈ mSup, Bundle.fit n = true := by decide +kernel
    have hout : ∀ z, ∀ x ∈ cd.exceptionTable.toList, covers x z = false := fun z x hx9 => by
      rw [htab, List.isEmpty_iff.mp hemp] at hx9; cases hx9
    have hxq : ∀ t : State, s.vm.Alike t.vm → H.size ≤ t.heap.size → (∀ q : Nat, q < H.size → t.heap[q]? = H[q]?) → mXq G (.inr (a, mXc h)) (mEn a) s t := by
      intro t _ hsz hsm
      refine ⟨a, mXc h, rfl, ha, rfl, ⟨va_P.kept Wl.1 (fun j q hq => hsm _ (Wl.1 j q hq).lt), Wl.2.1, Wl.2.2⟩, Nat.le_trans hS.1 hsz, fun q q1 q2 => ?_⟩
      rw [hsm q (Nat.lt_of_lt_of_le q1 hS.1)]
      exact hS.2.1 q q1 q2
    have r1 := Rm.1
    have r2 := Rm.2.1
    have r3 := Rm.2.2.1
    have r4 := Rm.2.2.2.1
    have r5 : cells + (h.2.2.2 + 1) ≤ mc + h.2.2.2 := Rm.2.2.2.2.1
    have r6 : slots + 6 * (h.2.2.2 + 1) ≤ ms + 6 * h.2.2.2 := Rm.2.2.2.2.2
    have c1 : cells + 1 ≤ mc := by omega
    have c2 : slots + 6 ≤ ms := by omega
    have hloc : ((st.map (mRv (gA G))).map fun v => v.category).sum + (13 * (mSup.length + 2) + 43) ≤ R.locals := by
      rw [mWd_sum]
      have : mSup.length = 1 := rfl
      rw [this]; omega
    have hfr : mSup.length + 4 < R.frames := by
      have : mSup.length = 1 := rfl
      rw [this]; omega
    rw [Bool.or_eq_true] at h4
    rcases h4 with h4 | h4
    · obtain ⟨h4, d9⟩ := mAnd h4
      obtain ⟨d4, d6⟩ := mAnd h4
      exact mx_throwS hx hb hl (mXb0 a ha) (mXb1 a ha) (mXb2 a ha) (mXb5 a ha) (by decide +kernel) hown t5 hnames t3 t4 hstr t1 t2 hSt.2.2.2.1.1 hSt.2.2.2.1.2 hS (by rw [hml]; exact Lc.2.1) d0 d3 (of_decide_eq_true d4) (of_decide_eq_true d6) (of_decide_eq_true d9) (hout _) hfr hloc (Nat.le_trans c1 r3) (Nat.le_trans c2 r4) hlocks hxq hS.2.2 c1 c2
    · obtain ⟨h4, d9⟩ := mAnd h4
      obtain ⟨d4, d6⟩ := mAnd h4
      exact mx_throwSW hx hb hl (mXb0 a ha) (mXb1 a ha) (mXb2 a ha) (mXb5 a ha) (by decide +kernel) hown t5 hnames t3 t4 hstr t1 t2 hSt.2.2.2.1.1 hSt.2.2.2.1.2 hS (by rw [hml]; exact Lc.2.1) d0 d3 (of_decide_eq_true d4) (of_decide_eq_true d6) (of_decide_eq_true d9) (hout _) hfr hloc (Nat.le_trans c1 r3) (Nat.le_trans c2 r4) hlocks hxq hS.2.2 c1 c2

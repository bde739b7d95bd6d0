/-! L3, the court: a day, on the class's side -/
abbrev tC : Type := Int × Int32 × Int × Int × Int × (Int → Int) × (Int → Int → Int)
def cO (C : tC) : Int := C.1
def cS (C : tC) : Int32 := C.2.1
def cL (C : tC) : Int := C.2.2.1
def cH (C : tC) : Int := C.2.2.2.1
def cN (C : tC) : Int := C.2.2.2.2.1
def cHd (C : tC) (i : Int) : Int := C.2.2.2.2.2.1 i
/-- of day i: 0 dish, 1 poison, 2 who fell, 3 failed -/
def cR (C : tC) (k i : Int) : Int := C.2.2.2.2.2.2 k i
def COk (C : tC) : Prop := (cO C = 0 ∨ cO C = 1) ∧ (cO C = 0 → cN C = 0) ∧ 0 ≤ cN C ∧ cN C ≤ 300 ∧ 0 ≤ cL C ∧ cL C ≤ 2 ∧ 0 ≤ cH C ∧ cH C ≤ 1000 ∧ ∀ i, 0 ≤ i → i < 25 → 0 ≤ cHd C i ∧ cHd C i ≤ 99
def cAd (o : Nat) : Prop := o = 102 ∨ o = 108
theorem cSh_of {o : Nat} (h : cAd o) : mSh o = (0, 1, 0) ∧ mSh (o + 1) = (1, 25, 0) ∧ mSh (o + 2) = (1, 300, 0) ∧ mSh (o + 3) = (1, 300, 0) ∧ mSh (o + 4) = (1, 300, 0) ∧ mSh (o + 5) = (1, 300, 0) := by
  rcases h with rfl | rfl <;> decide
def CC (h : mHp) (o : Nat) (C : tC) : Prop :=
  (h.1 o 0 = zI (cO C) ∧ h.1 o 1 = cS C ∧ h.1 o 2 = zI (cL C) ∧ h.1 o 3 = zI (cH C) ∧ h.1 o 4 = zI (cN C)) ∧
  aEq (h.1 (o + 1)) 25 (cHd C) ∧ aEq (h.1 (o + 2)) (cN C) (cR C 0) ∧ aEq (h.1 (o + 3)) (cN C) (cR C 1) ∧ aEq (h.1 (o + 4)) (cN C) (cR C 2) ∧ aEq (h.1 (o + 5)) (cN C) (cR C 3)
theorem CC_of {h h' : mHp} {o : Nat} {C : tC} (hC : CC h o C) (e : ∀ k, k ≤ 5 → h'.1 (o + k) = h.1 (o + k)) : CC h' o C := by
  unfold CC at hC ⊢
  have e0 : h'.1 o = h.1 o := e 0 (by omega)
  rw [e0, e 1 (by omega), e 2 (by omega), e 3 (by omega), e 4 (by omega), e 5 (by omega)]
  exact hC
/-- a plan's cell -/
def pAd (a : Nat) : Prop := ∃ j, j < 18 ∧ a = 33 + 3 * j
theorem pAd_rng {a : Nat} (h : pAd a) : 33 ≤ a ∧ a ≤ 84 := by obtain ⟨j, h1, h2⟩ := h; omega
theorem pSh_of {a : Nat} (h : pAd a) : mSh a = (0, 4, 0) ∧ mSh (a + 1) = (1, 6, 0) ∧ mSh (a + 2) = (1, 6, 0) := by
  obtain ⟨j, h1, rfl⟩ := h
  exact (by decide +kernel : ∀ j : Fin 18, mSh (33 + 3 * j.val) = (0, 4, 0) ∧ mSh (33 + 3 * j.val + 1) = (1, 6, 0) ∧ mSh (33 + 3 * j.val + 2) = (1, 6, 0)) ⟨j, h1⟩
/-- the next seed (by choice, so that nothing unfolds it) -/
noncomputable def aDrS (s : Int32) : Int32 := Classical.choose (show ∃ x : Int32, x = s * zI 1103515245 + zI 12345 from ⟨_, rfl⟩)
theorem aDrS_eq (s : Int32) : aDrS s = s * zI 1103515245 + zI 12345 := Classical.choose_spec (show ∃ x : Int32, x = s * zI 1103515245 + zI 12345 from ⟨_, rfl⟩)
noncomputable def aDrV (s : Int32) : Int := Classical.choose (show ∃ x : Int, x = ((s >>> (zI 16 &&& 31)) &&& zI 32767).toInt from ⟨_, rfl⟩)
theorem aDrV_eq (s : Int32) : aDrV s = ((s >>> (zI 16 &&& 31)) &&& zI 32767).toInt := Classical.choose_spec (show ∃ x : Int, x = ((s >>> (zI 16 &&& 31)) &&& zI 32767).toInt from ⟨_, rfl⟩)
theorem aDrV_spec (s : Int32) : (s >>> (zI 16 &&& 31)) &&& zI 32767 = zI (aDrV s) ∧ 0 ≤ aDrV s ∧ aDrV s ≤ 32767 := by
  refine ⟨by rw [aDrV_eq]; exact zI_of _, ?_⟩
  obtain ⟨m, h1, h2, h3⟩ := and_mask (s >>> (zI 16 &&& 31))
  rw [aDrV_eq, h3, zI_toInt (by omega) (by omega)]; exact ⟨h1, h2⟩
theorem s_Crt_sum_loop {d : Nat} {h : mHp} {a n : Nat} (hs : mSh a = (1, n, 0)) {w : Int → Int} {m : Int} (hm : m ≤ n) (hn : n ≤ 10) (hw : aEq (h.1 a) m w) : ∀ (j : Nat) (i v : Int), i + j = m → 0 ≤ i →
    mRuns (d + 1) 128 4 [some (.ref a), some (.int (zI m)), some (.int (zI v)), some (.int (zI i))] [] h (.inl (some (.int (zI (v + sS w j i))), h)) := by
  intro j
  induction j with
  | zero =>
    intro i v hi h0
    refine vc_Crt_sum_4 ?_
    unfold sS
    simp (disch := omega) only [zI_add, zI_sub, zI_mul, zI_neg, zI_lit, zI_0, zI_1, zI_lt, zI_le, zI_eq, zI_clamp, zI_inT, zI_ite, mOb_0, mOb_1, mOb_3, mOb_4, mLd_1, mAr_1, mLen_1, mTrue_t, Int.toNat_zero, Int.toNat_one, true_and, and_true, not_true_eq_false, not_false_eq_true, true_or, or_true, or_self, false_or, or_false, forall_const, false_implies, true_implies, implies_true, Int.add_zero]
    intro z; omega
  | succ j ih =>
    intro i v hi h0
    refine vc_Crt_sum_4 ?_
    rw [sS_s]
    simp (disch := omega) only [zI_add, zI_sub, zI_mul, zI_neg, zI_lit, zI_0, zI_1, zI_lt, zI_le, zI_eq, zI_clamp, zI_inT, zI_ite, mOb_0, mOb_1, mOb_3, mOb_4, mLd_1, mAr_1, mLen_1, mTrue_t, Int.toNat_zero, Int.toNat_one, true_and, and_true, not_true_eq_false, not_false_eq_true, true_or, or_true, or_self, false_or, or_false, forall_const, false_implies, true_implies, implies_true, hs, hw]
    refine ⟨fun z => by omega, fun _ => ?_⟩
    have := ih (i + 1) (v + w i) (by omega) (by omega)
    rw [show v + w i + sS w j (i + 1) = v + (w i + sS w j (i + 1)) by omega] at this
    exact this
theorem s_Crt_sum {d : Nat} {h : mHp} {a n : Nat} (hs : mSh a = (1, n, 0)) {w : Int → Int} {m : Int} (h0 : 0 ≤ m) (hm : m ≤ n) (hn : n ≤ 10) (hw : aEq (h.1 a) m w) :
    mRuns (d + 1) 128 0 [some (.ref a), some (.int (zI m)), none, none] [] h (.inl (some (.int (zI (sS w m.toNat 0))), h)) := by
  refine vc_Crt_sum ?_
  simp (disch := omega) only [zI_add, zI_sub, zI_mul, zI_neg, zI_lit, zI_0, zI_1, zI_lt, zI_le, zI_eq, zI_clamp, zI_inT, zI_ite, mOb_0, mOb_1, mOb_3, mOb_4, mLd_1, mAr_1, mLen_1, mTrue_t, Int.toNat_zero, Int.toNat_one, true_and, and_true, not_true_eq_false, not_false_eq_true, true_or, or_true, or_self, false_or, or_false, forall_const, false_implies, true_implies, implies_true]
  have := s_Crt_sum_loop (d := d) hs hm hn hw m.toNat 0 0 (by omega) (by omega)
  rw [Int.zero_add] at this; exact this
theorem sS_rng {w : Int → Int} {k : Int} : ∀ (j : Nat) (i : Int), (∀ x, i ≤ x → x < i + j → 0 ≤ w x ∧ w x ≤ k) → 0 ≤ sS w j i ∧ sS w j i ≤ k * j := by
  intro j
  induction j with
  | zero => intro i _; exact ⟨Int.le_refl 0, by show (0 : Int) ≤ k * 0; omega⟩
  | succ j ih =>
    intro i hw
    have h1 := hw i (by omega) (by omega)
    have h2 := ih (i + 1) (fun x a b => hw x (by omega) (by omega))
    rw [sS_s]
    have : k * ((j + 1 : Nat) : Int) = k * j + k := by rw [show ((j + 1 : Nat) : Int) = (j : Int) + 1 by omega, Int.mul_add, Int.mul_one]
    omega
theorem s_Crt_draw {d : Nat} {h : mHp} {o : Nat} (ho : cAd o) {n : Int} (hn : 0 < n) (hn' : n < 2147483648) :
    mRuns (d + 1) 129 0 [some (.ref o), some (.int (zI n))] [] h (.inl (some (.int (zI (aDrV (aDrS (h.1 o 1)) % n))), mPI h o 1 (aDrS (h.1 o 1)))) := by
  have s0 := (cSh_of ho).1
  obtain ⟨e1, e2, e3⟩ := aDrV_spec (aDrS (h.1 o 1))
  refine vc_Crt_draw ?_
  rw [sshr_ushr_mask]
  have es : (h.1 o 1) * (nI 1103515245) + (nI 12345) = aDrS (h.1 o 1) := by rw [aDrS_eq, zI_lit, zI_lit]
  rw [es, hI_same, show nI 16 = zI 16 from rfl, show nI 32767 = zI 32767 from rfl, e1]
  simp (disch := omega) only [zI_add, zI_sub, zI_mul, zI_neg, zI_lit, zI_0, zI_1, zI_lt, zI_le, zI_eq, zI_clamp, zI_inT, zI_ite, mOb_0, mOb_1, mOb_3, mOb_4, mLd_1, mAr_1, mLen_1, mTrue_t, Int.toNat_zero, Int.toNat_one, true_and, and_true, not_true_eq_false, not_false_eq_true, true_or, or_true, or_self, false_or, or_false, forall_const, false_implies, true_implies, implies_true, s0, zI_div, int_rem]
  refine ⟨fun _ => by omega, fun z => by omega⟩
/-- the first by whom the weights together are more; left: what is left of what was drawn -/
def aPk (w : Int → Int) : Nat → Int → Int → Int
  | 0, _, _ => -1
  | j + 1, i, v => if w i ≤ v then aPk w j (i + 1) (v - w i) else i
theorem aPk_rng {w : Int → Int} : ∀ (j : Nat) (i v : Int), (∀ x, i ≤ x → x < i + j → 0 ≤ w x) → 0 ≤ v → v < sS w j i → i ≤ aPk w j i v ∧ aPk w j i v < i + j := by
  intro j
  induction j with
  | zero => intro i v _ h0 h1; exact absurd h1 (by show ¬ v < 0; omega)
  | succ j ih =>
    intro i v hw h0 h1
    rw [sS_s] at h1
    unfold aPk
    split
    · have := ih (i + 1) (v - w i) (fun x a b => hw x (by omega) (by omega)) (by omega) (by omega)
      omega
    · omega
theorem s_Crt_pick_loop {d : Nat} {h : mHp} {a n : Nat} (hs : mSh a = (1, n, 0)) {w : Int → Int} {m D : Int} (hm : m ≤ n) (hn : n ≤ 10) (hw : aEq (h.1 a) m w) (hw2 : ∀ x, 0 ≤ x → x < m → 0 ≤ w x ∧ w x ≤ 99) (hD : 0 ≤ D) (hD' : D ≤ 32767) : ∀ (j : Nat) (i t : Int), i + j = m → 0 ≤ i → 0 ≤ t → t ≤ 99 * i →
    mRuns (d + 1) 130 5 [some (.ref a), some (.int (zI m)), some (.int (zI D)), some (.int (zI t)), some (.int (zI i))] [] h (.inl (some (.int (zI (aPk w j i (D - t)))), h)) := by
  intro j
  induction j with
  | zero =>
    intro i t hi h0 t0 t1
    refine vc_Crt_pick_5 ?_
    unfold aPk
    simp (disch := omega) only [zI_add, zI_sub, zI_mul, zI_neg, zI_lit, zI_0, zI_1, zI_lt, zI_le, zI_eq, zI_clamp, zI_inT, zI_ite, mOb_0, mOb_1, mOb_3, mOb_4, mLd_1, mAr_1, mLen_1, mTrue_t, Int.toNat_zero, Int.toNat_one, true_and, and_true, not_true_eq_false, not_false_eq_true, true_or, or_true, or_self, false_or, or_false, forall_const, false_implies, true_implies, implies_true]
    intro z; omega
  | succ j ih =>
    intro i t hi h0 t0 t1
    have := hw2 i h0 (by omega)
    refine vc_Crt_pick_5 ?_
    unfold aPk
    simp (disch := omega) only [zI_add, zI_sub, zI_mul, zI_neg, zI_lit, zI_0, zI_1, zI_lt, zI_le, zI_eq, zI_clamp, zI_inT, zI_ite, mOb_0, mOb_1, mOb_3, mOb_4, mLd_1, mAr_1, mLen_1, mTrue_t, Int.toNat_zero, Int.toNat_one, true_and, and_true, not_true_eq_false, not_false_eq_true, true_or, or_true, or_self, false_or, or_false, forall_const, false_implies, true_implies, implies_true, hs, hw]
    refine ⟨fun z => by omega, fun _ => ⟨fun z => ?_, fun z => ?_⟩⟩
    · rw [if_pos (by omega)]
      have := ih (i + 1) (t + w i) (by omega) (by omega) (by omega) (by omega)
      rw [show D - (t + w i) = D - t - w i by omega] at this
      exact this
    · rw [if_neg (by omega)]
theorem s_Crt_pick {d : Nat} {h : mHp} {a n : Nat} (hs : mSh a = (1, n, 0)) {w : Int → Int} {m D : Int} (h0 : 0 ≤ m) (hm : m ≤ n) (hn : n ≤ 10) (hw : aEq (h.1 a) m w) (hw2 : ∀ x, 0 ≤ x → x < m → 0 ≤ w x ∧ w x ≤ 99) (hD : 0 ≤ D) (hD' : D ≤ 32767) :
    mRuns (d + 1) 130 0 [some (.ref a), some (.int (zI m)), some (.int (zI D)), none, none] [] h (.inl (some (.int (zI (aPk w m.toNat 0 D))), h)) := by
  refine vc_Crt_pick ?_
  simp (disch := omega) only [zI_add, zI_sub, zI_mul, zI_neg, zI_lit, zI_0, zI_1, zI_lt, zI_le, zI_eq, zI_clamp, zI_inT, zI_ite, mOb_0, mOb_1, mOb_3, mOb_4, mLd_1, mAr_1, mLen_1, mTrue_t, Int.toNat_zero, Int.toNat_one, true_and, and_true, not_true_eq_false, not_false_eq_true, true_or, or_true, or_self, false_or, or_false, forall_const, false_implies, true_implies, implies_true]
  have := s_Crt_pick_loop (d := d) hs hm hn hw hw2 hD hD' m.toNat 0 0 (by omega) (by omega) (by omega) (by omega)
  rw [Int.sub_zero] at this; exact this
/-- who falls: s the set, c how long until it is served -/
def aWfR (B : tB) (hd : Int → Int) (s c p : Int) : Nat → Int → Int → Int
  | 0, _, f => f
  | j + 1, t, f => aWfR B hd s c p j (t + 1) (if aBit s t ≠ 0 ∧ aShow B t p 1 (hd (5 * t + p)) ≠ -1 ∧ aShow B t p 1 (hd (5 * t + p)) ≤ c then aOr f t else f)
def aWf (B : tB) (hd : Int → Int) (s c p : Int) : Int := aWfR B hd s c p (bT B).toNat 0 0
theorem aWfR_rng {B : tB} (hO : BOk B) {hd : Int → Int} {s c p : Int} : ∀ (j : Nat) (t f : Int), 0 ≤ t → t + j ≤ bT B → 0 ≤ f → f < 32 → 0 ≤ aWfR B hd s c p j t f ∧ aWfR B hd s c p j t f < 32 := by
  have o := hO.1
  intro j
  induction j with
  | zero => intro t f _ _ a b; exact ⟨a, b⟩
  | succ j ih =>
    intro t f t0 ht a b
    have := aOr_rng a b t0 (show t < 5 by omega)
    unfold aWfR
    refine ih _ _ (by omega) (by omega) ?_ ?_ <;> split <;> omega
theorem aWf_rng {B : tB} (hO : BOk B) {hd : Int → Int} {s c p : Int} : 0 ≤ aWf B hd s c p ∧ aWf B hd s c p < 32 :=
  aWfR_rng hO _ _ _ (by omega) (by have := hO.1; omega) (by omega) (by omega)
theorem s_Crt_whoFall_loop {d : Nat} {h : mHp} {o b a : Nat} {B : tB} {hd : Int → Int} {q p s c : Int} (ho : cAd o) (hb : bAd b) (ha : pAd a) (hO : BOk B) (hB : BC h b B) (hH : aEq (h.1 (o + 1)) 25 hd) (hh : ∀ i, 0 ≤ i → i < 25 → 0 ≤ hd i ∧ hd i ≤ 99) (hq : 0 ≤ q) (hq' : q < bD B) (hp : 0 ≤ p) (hp' : p < bP B) (hs : h.1 (a + 1) q.toNat = zI s) (s0 : 0 ≤ s) (s1 : s < 32) (c0 : -1000 ≤ c) (c1 : c ≤ 1000) : ∀ (j : Nat) (t f : Int), t + j = bT B → 0 ≤ t → 0 ≤ f → f < 32 →
    mRuns (d + 2) 131 21 [some (.ref o), some (.ref b), some (.ref a), some (.int (zI q)), some (.int (zI p)), some (.int (zI f)), some (.int (zI c)), some (.int (zI t)), none] [] h (.inl (some (.int (zI (aWfR B hd s c p j t f))), h)) := by
  have oo := hO.1
  obtain ⟨z0, z1, z2, z3, z4, z5⟩ := cSh_of ho
  obtain ⟨p0, p1, p2⟩ := pSh_of ha
  have b0 := (bSh_of hb).1
  have e9 := hB.2.2.1
  intro j
  induction j with
  | zero =>
    intro t f ht t0 f0 f1
    refine vc_Crt_whoFall_21 ?_
    simp (disch := omega) only [zI_add, zI_sub, zI_mul, zI_neg, zI_lit, zI_0, zI_1, zI_lt, zI_le, zI_eq, zI_clamp, zI_inT, zI_ite, mOb_0, mOb_1, mOb_3, mOb_4, mLd_1, mAr_1, mLen_1, mTrue_t, Int.toNat_zero, Int.toNat_one, true_and, and_true, not_true_eq_false, not_false_eq_true, true_or, or_true, or_self, false_or, or_false, forall_const, false_implies, true_implies, implies_true, b0, e9]
    refine ⟨fun _ => rfl, fun z => by omega⟩
  | succ j ih =>
    intro t f ht t0 f0 f1
    have h5 := hh (5 * t + p) (by omega) (by omega)
    have hsh := aShow_rng (t := t) (w := 1) (tm := hd (5 * t + p)) hO hp hp'
    have hor := aOr_rng f0 f1 t0 (show t < 5 by omega)
    have hbt := aBit_01 s t
    refine vc_Crt_whoFall_21 ?_
    simp (disch := omega) only [zI_add, zI_sub, zI_mul, zI_neg, zI_lit, zI_0, zI_1, zI_lt, zI_le, zI_eq, zI_clamp, zI_inT, zI_ite, mOb_0, mOb_1, mOb_3, mOb_4, mLd_1, mAr_1, mLen_1, mTrue_t, Int.toNat_zero, Int.toNat_one, true_and, and_true, not_true_eq_false, not_false_eq_true, true_or, or_true, or_self, false_or, or_false, forall_const, false_implies, true_implies, implies_true, b0, z0, e9]
    refine ⟨fun z => by omega, fun _ => ⟨_, _, s_T_hadIndex, ?_⟩⟩
    simp (disch := omega) only [zI_add, zI_sub, zI_mul, zI_neg, zI_lit, zI_0, zI_1, zI_lt, zI_le, zI_eq, zI_clamp, zI_inT, zI_ite, mOb_0, mOb_1, mOb_3, mOb_4, mLd_1, mAr_1, mLen_1, mTrue_t, Int.toNat_zero, Int.toNat_one, true_and, and_true, not_true_eq_false, not_false_eq_true, true_or, or_true, or_self, false_or, or_false, forall_const, false_implies, true_implies, implies_true, z1, hH, b0]
    refine ⟨_, _, s_Brd_show4 hb hB hO t0 (by omega) hp hp' (by omega) (by omega) h5.1 h5.2, ?_⟩
    simp (disch := omega) only [zI_add, zI_sub, zI_mul, zI_neg, zI_lit, zI_0, zI_1, zI_lt, zI_le, zI_eq, zI_clamp, zI_inT, zI_ite, mOb_0, mOb_1, mOb_3, mOb_4, mLd_1, mAr_1, mLen_1, mTrue_t, Int.toNat_zero, Int.toNat_one, true_and, and_true, not_true_eq_false, not_false_eq_true, true_or, or_true, or_self, false_or, or_false, forall_const, false_implies, true_implies, implies_true, p0, p1, hs, zI_bit, zI_shl, zI_or]
    unfold aWfR
    have go : ∀ f', f' = (if aBit s t ≠ 0 ∧ aShow B t p 1 (hd (5 * t + p)) ≠ -1 ∧ aShow B t p 1 (hd (5 * t + p)) ≤ c then aOr f t else f) → mRuns (d + 1 + 1) 131 21 [some (.ref o), some (.ref b), some (.ref a), some (.int (zI q)), some (.int (zI p)), some (.int (zI f')), some (.int (zI c)), some (.int (zI (t + 1))), none] [] h (.inl (some (.int (zI (aWfR B hd s c p j (t + 1) (if aBit s t ≠ 0 ∧ aShow B t p 1 (hd (5 * t + p)) ≠ -1 ∧ aShow B t p 1 (hd (5 * t + p)) ≤ c then aOr f t else f)))), h)) := by
      intro f' hf
      rw [hf]
      refine ih (t + 1) _ (by omega) (by omega) ?_ ?_ <;> split <;> omega
    refine ⟨fun z => go f (by rw [if_neg (by omega)]), fun z => ⟨fun y => go f (by rw [if_neg (by omega)]), fun y => ⟨fun x => go f (by rw [if_neg (by omega)]), fun x => go (aOr f t) (by rw [if_pos (by omega)])⟩⟩⟩
theorem s_Crt_whoFall {d : Nat} {h : mHp} {o b a : Nat} {B : tB} {hd : Int → Int} {q p s k : Int} (ho : cAd o) (hb : bAd b) (ha : pAd a) (hO : BOk B) (hB : BC h b B) (hH : aEq (h.1 (o + 1)) 25 hd) (hh : ∀ i, 0 ≤ i → i < 25 → 0 ≤ hd i ∧ hd i ≤ 99) (hq : 0 ≤ q) (hq' : q < bD B) (hp : 0 ≤ p) (hp' : p < bP B) (hs : h.1 (a + 1) q.toNat = zI s) (s0 : 0 ≤ s) (s1 : s < 32) (hk : h.1 (a + 2) q.toNat = zI k) (k0 : 0 ≤ k) (k1 : k ≤ 100) :
    mRuns (d + 2) 131 0 [some (.ref o), some (.ref b), some (.ref a), some (.int (zI q)), some (.int (zI p)), none, none, none, none] [] h (.inl (some (.int (zI (aWf B hd s (bF B 1 q - k) p))), h)) := by
  have oo := hO.1
  have o2 := hO.2.1 q hq hq'
  obtain ⟨p0, p1, p2⟩ := pSh_of ha
  obtain ⟨b0, b1, b2, b3, b4, b5, b6, b7, b8, b9, b10⟩ := bSh_of hb
  obtain ⟨e0, e4, e9, e13, a1, a2, a3, a4, a5, a6, a7, a8, a9, a10⟩ := id hB
  refine vc_Crt_whoFall ?_
  simp (disch := omega) only [zI_add, zI_sub, zI_mul, zI_neg, zI_lit, zI_0, zI_1, zI_lt, zI_le, zI_eq, zI_clamp, zI_inT, zI_ite, mOb_0, mOb_1, mOb_3, mOb_4, mLd_1, mAr_1, mLen_1, mTrue_t, Int.toNat_zero, Int.toNat_one, true_and, and_true, not_true_eq_false, not_false_eq_true, true_or, or_true, or_self, false_or, or_false, forall_const, false_implies, true_implies, implies_true, b0, b2, p0, p2, a2, hk]
  exact s_Crt_whoFall_loop ho hb ha hO hB hH hh hq hq' hp hp' hs s0 s1 (by omega) (by omega) (bT B).toNat 0 0 (by omega) (by omega) (by omega) (by omega)
/-- had once more -/
def aHar (hd : Int → Int) (s p : Int) (i : Int) : Int := if i % 5 = p ∧ aBit s (i / 5) ≠ 0 then (if hd i + 1 < 99 then hd i + 1 else 99) else hd i
theorem s_Crt_harden_loop {d : Nat} {o : Nat} {hd : Int → Int} {s p : Int} (ho : cAd o) (hh : ∀ i, 0 ≤ i → i < 25 → 0 ≤ hd i ∧ hd i ≤ 99) (hp : 0 ≤ p) (hp' : p < 5) (s0 : 0 ≤ s) (s1 : s < 32) : ∀ (j : Nat) (t : Int) (h : mHp), t + j = 5 → 0 ≤ t → aEq (h.1 (o + 1)) 25 (fun i => if i / 5 < t then aHar hd s p i else hd i) →
    ∃ h', mRuns (d + 2) 132 2 [some (.ref o), some (.int (zI s)), some (.int (zI p)), some (.int (zI t)), none] [] h (.inl (none, h')) ∧ aEq (h'.1 (o + 1)) 25 (aHar hd s p) ∧ hFr [o + 1] h h' := by
  obtain ⟨z0, z1, z2, z3, z4, z5⟩ := cSh_of ho
  intro j
  induction j with
  | zero =>
    intro t h ht t0 hH
    refine ⟨h, vc_Crt_harden_2 ?_, aEq_fn hH (fun i a b => by rw [if_pos (by omega)]), hFr_refl _ _⟩
    simp (disch := omega) only [zI_add, zI_sub, zI_mul, zI_neg, zI_lit, zI_0, zI_1, zI_lt, zI_le, zI_eq, zI_clamp, zI_inT, zI_ite, mOb_0, mOb_1, mOb_3, mOb_4, mLd_1, mAr_1, mLen_1, mTrue_t, Int.toNat_zero, Int.toNat_one, true_and, and_true, not_true_eq_false, not_false_eq_true, true_or, or_true, or_self, false_or, or_false, forall_const, false_implies, true_implies, implies_true]
    intro z; omega
  | succ j ih =>
    intro t h ht t0 hH
    have hbt := aBit_01 s t
    have h5 := hh (5 * t + p) (by omega) (by omega)
    have hv := hH (5 * t + p) (by omega) (by omega)
    have hv : h.1 (o + 1) (5 * t + p).toNat = zI (hd (5 * t + p)) := by
      rw [hv]; show zI (if _ then _ else _) = _; rw [if_neg (by omega)]
    by_cases c : aBit s t = 0
    · obtain ⟨h', r, p1, f⟩ := ih (t + 1) h (by omega) (by omega) (aEq_fn hH (fun i a b => by
        by_cases e : i / 5 < t
        · rw [if_pos e, if_pos (by omega)]
        · rw [if_neg e]
          by_cases e2 : i / 5 < t + 1
          · rw [if_pos e2]; unfold aHar
            have : i / 5 = t := by omega
            rw [this, if_neg (fun y => y.2 c)]
          · rw [if_neg e2]))
      refine ⟨h', vc_Crt_harden_2 ?_, p1, f⟩
      simp (disch := omega) only [zI_add, zI_sub, zI_mul, zI_neg, zI_lit, zI_0, zI_1, zI_lt, zI_le, zI_eq, zI_clamp, zI_inT, zI_ite, mOb_0, mOb_1, mOb_3, mOb_4, mLd_1, mAr_1, mLen_1, mTrue_t, Int.toNat_zero, Int.toNat_one, true_and, and_true, not_true_eq_false, not_false_eq_true, true_or, or_true, or_self, false_or, or_false, forall_const, false_implies, true_implies, implies_true]
      refine ⟨fun z => by omega, fun _ => ⟨_, _, s_T_hadIndex, ?_⟩⟩
      simp (disch := omega) only [zI_add, zI_sub, zI_mul, zI_neg, zI_lit, zI_0, zI_1, zI_lt, zI_le, zI_eq, zI_clamp, zI_inT, zI_ite, mOb_0, mOb_1, mOb_3, mOb_4, mLd_1, mAr_1, mLen_1, mTrue_t, Int.toNat_zero, Int.toNat_one, true_and, and_true, not_true_eq_false, not_false_eq_true, true_or, or_true, or_self, false_or, or_false, forall_const, false_implies, true_implies, implies_true, zI_bit, c]
      repeat' (first | refine And.intro ?_ ?_ | with_reducible intro _)
      all_goals first | omega | exact r
    · obtain ⟨h', r, p1, f⟩ := ih (t + 1) (mPI h (o + 1) (5 * t + p).toNat (zI (if hd (5 * t + p) + 1 < 99 then hd (5 * t + p) + 1 else 99))) (by omega) (by omega) (by
        intro i a b
        show _ = zI (if _ then _ else _)
        by_cases e : i = 5 * t + p
        · rw [e, hI_same, if_pos (show (5 * t + p) / 5 < t + 1 by omega)]; unfold aHar
          rw [if_pos (show (5 * t + p) % 5 = p ∧ aBit s ((5 * t + p) / 5) ≠ 0 from ⟨by omega, by rw [show (5 * t + p) / 5 = t by omega]; exact c⟩)]
        · rw [hI_off (by omega), hH i a b]
          show zI (if _ then _ else _) = _
          by_cases e2 : i / 5 < t
          · rw [if_pos e2, if_pos (by omega)]
          · rw [if_neg e2]
            by_cases e3 : i / 5 < t + 1
            · rw [if_pos e3]; unfold aHar; rw [if_neg (fun y => by omega)]
            · rw [if_neg e3])
      refine ⟨h', vc_Crt_harden_2 ?_, p1, hFr_trans (hFr_pi (hFr_refl _ _) (by simp) _ _) f⟩
      simp (disch := omega) only [zI_add, zI_sub, zI_mul, zI_neg, zI_lit, zI_0, zI_1, zI_lt, zI_le, zI_eq, zI_clamp, zI_inT, zI_ite, mOb_0, mOb_1, mOb_3, mOb_4, mLd_1, mAr_1, mLen_1, mTrue_t, Int.toNat_zero, Int.toNat_one, true_and, and_true, not_true_eq_false, not_false_eq_true, true_or, or_true, or_self, false_or, or_false, forall_const, false_implies, true_implies, implies_true]
      refine ⟨fun z => by omega, fun _ => ⟨_, _, s_T_hadIndex, ?_⟩⟩
      simp (disch := omega) only [zI_add, zI_sub, zI_mul, zI_neg, zI_lit, zI_0, zI_1, zI_lt, zI_le, zI_eq, zI_clamp, zI_inT, zI_ite, mOb_0, mOb_1, mOb_3, mOb_4, mLd_1, mAr_1, mLen_1, mTrue_t, Int.toNat_zero, Int.toNat_one, true_and, and_true, not_true_eq_false, not_false_eq_true, true_or, or_true, or_self, false_or, or_false, forall_const, false_implies, true_implies, implies_true, zI_bit, z0, z1, hv]
      exact ⟨fun z => absurd z c, fun _ => r⟩
theorem s_Crt_harden {d : Nat} {h : mHp} {o : Nat} {hd : Int → Int} {s p : Int} (ho : cAd o) (hh : ∀ i, 0 ≤ i → i < 25 → 0 ≤ hd i ∧ hd i ≤ 99) (hp : 0 ≤ p) (hp' : p < 5) (s0 : 0 ≤ s) (s1 : s < 32) (hH : aEq (h.1 (o + 1)) 25 hd) :
    ∃ h', mRuns (d + 2) 132 0 [some (.ref o), some (.int (zI s)), some (.int (zI p)), none, none] [] h (.inl (none, h')) ∧ aEq (h'.1 (o + 1)) 25 (aHar hd s p) ∧ hFr [o + 1] h h' := by
  obtain ⟨h', r, p1, f⟩ := s_Crt_harden_loop (d := d) ho hh hp hp' s0 s1 5 0 h (by omega) (by omega) (aEq_fn hH (fun i a b => by rw [if_neg (by omega)]))
  refine ⟨h', vc_Crt_harden ?_, p1, f⟩
  simp (disch := omega) only [zI_add, zI_sub, zI_mul, zI_neg, zI_lit, zI_0, zI_1, zI_lt, zI_le, zI_eq, zI_clamp, zI_inT, zI_ite, mOb_0, mOb_1, mOb_3, mOb_4, mLd_1, mAr_1, mLen_1, mTrue_t, Int.toNat_zero, Int.toNat_one, true_and, and_true, not_true_eq_false, not_false_eq_true, true_or, or_true, or_self, false_or, or_false, forall_const, false_implies, true_implies, implies_true]
  exact r

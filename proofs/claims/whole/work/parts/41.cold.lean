/-! L3, the cold of sets, on the class's side -/
/-- how many of a set (by t from i on, j of them) tell of poison p after x ticks at most -/
def aLe (B : tB) (s p x t : Int) : Int := if aBit s t = 1 ∧ aSho B t p 1 ≠ -1 ∧ aSho B t p 1 ≤ x then 1 else 0
def aT3 (B : tB) (s p : Int) : Nat → Int → Int × Int × Int → Int × Int × Int
  | 0, _, f => f
  | j + 1, t, f => aT3 B s p j (t + 1) (if aBit s t = 1 ∧ aSho B t p 1 ≠ -1 then (aMin f.1 (aSho B t p 1), aMin f.2.1 (aMax f.1 (aSho B t p 1)), aMin f.2.2 (aMax f.2.1 (aSho B t p 1))) else f)
theorem aT3_skip {B : tB} {s p t : Int} {j : Nat} {f : Int × Int × Int} (h : ¬ (aBit s t = 1 ∧ aSho B t p 1 ≠ -1)) : aT3 B s p (j + 1) t f = aT3 B s p j (t + 1) f := by
  show aT3 B s p j (t + 1) (if _ then _ else _) = _
  rw [if_neg h]
theorem aT3_take {B : tB} {s p t : Int} {j : Nat} {f : Int × Int × Int} (h : aBit s t = 1 ∧ aSho B t p 1 ≠ -1) : aT3 B s p (j + 1) t f = aT3 B s p j (t + 1) (aMin f.1 (aSho B t p 1), aMin f.2.1 (aMax f.1 (aSho B t p 1)), aMin f.2.2 (aMax f.2.1 (aSho B t p 1))) := by
  show aT3 B s p j (t + 1) (if _ then _ else _) = _
  rw [if_pos h]
def t3Ok (f : Int × Int × Int) : Prop := 0 ≤ f.1 ∧ f.1 ≤ 1023 ∧ 0 ≤ f.2.1 ∧ f.2.1 ≤ 1023 ∧ 0 ≤ f.2.2 ∧ f.2.2 ≤ 1023
theorem aT3_rng {B : tB} (hO : BOk B) {s p : Int} (hp : 0 ≤ p) (hp' : p < bP B) : ∀ (j : Nat) (t : Int) (f : Int × Int × Int), t3Ok f → t3Ok (aT3 B s p j t f) := by
  intro j
  induction j with
  | zero => intro t f h; exact h
  | succ j ih =>
    intro t f h
    unfold aT3
    refine ih _ _ ?_
    have hs := aShow_rng (t := t) (w := 1) (tm := bF B 9 (5 * t + p)) hO hp hp'
    have hs : aSho B t p 1 = -1 ∨ (1 ≤ aSho B t p 1 ∧ aSho B t p 1 ≤ 80) := hs
    split
    · rename_i z
      obtain ⟨h1, h2, h3, h4, h5, h6⟩ := h
      have := z.2
      unfold t3Ok aMin aMax
      refine ⟨?_, ?_, ?_, ?_, ?_, ?_⟩ <;> simp only <;> (repeat' split) <;> omega
    · exact h
theorem aT3_char {B : tB} (hO : BOk B) {s p : Int} (hp : 0 ≤ p) (hp' : p < bP B) {x : Int} (hx : x ≤ 1022) : ∀ (j : Nat) (t : Int) (f : Int × Int × Int) (n : Int), 0 ≤ n → (f.1 ≤ x ↔ 1 ≤ n) → (f.2.1 ≤ x ↔ 2 ≤ n) → (f.2.2 ≤ x ↔ 3 ≤ n) →
    ((aT3 B s p j t f).1 ≤ x ↔ 1 ≤ n + sS (aLe B s p x) j t) ∧ ((aT3 B s p j t f).2.1 ≤ x ↔ 2 ≤ n + sS (aLe B s p x) j t) ∧ ((aT3 B s p j t f).2.2 ≤ x ↔ 3 ≤ n + sS (aLe B s p x) j t) := by
  intro j
  induction j with
  | zero =>
    intro t f n hn h1 h2 h3
    have : sS (aLe B s p x) 0 t = 0 := rfl
    rw [this, Int.add_zero]; exact ⟨h1, h2, h3⟩
  | succ j ih =>
    intro t f n hn h1 h2 h3
    have he : aLe B s p x t = 0 ∨ aLe B s p x t = 1 := by unfold aLe; split <;> omega
    have := ih (t + 1) (if aBit s t = 1 ∧ aSho B t p 1 ≠ -1 then (aMin f.1 (aSho B t p 1), aMin f.2.1 (aMax f.1 (aSho B t p 1)), aMin f.2.2 (aMax f.2.1 (aSho B t p 1))) else f) (n + aLe B s p x t) (by omega)
    rw [show n + aLe B s p x t + sS (aLe B s p x) j (t + 1) = n + sS (aLe B s p x) (j + 1) t by rw [sS_s]; omega] at this
    refine this ?_ ?_ ?_
    all_goals
      unfold aLe
      by_cases c : aBit s t = 1 ∧ aSho B t p 1 ≠ -1
      · rw [if_pos c]
        simp only [c.1, c.2, ne_eq, not_false_eq_true, true_and]
        unfold aMin
        try unfold aMax
        repeat' split
        all_goals omega
      · rw [if_neg c, if_neg (fun z => c ⟨z.1, z.2.1⟩), Int.add_zero]; assumption
def aTk (B : tB) (s p l : Int) : Int := if l = 0 then (if (aT3 B s p (bT B).toNat 0 (1023, 1023, 1023)).1 = 1023 then -1 else (aT3 B s p (bT B).toNat 0 (1023, 1023, 1023)).1) else if l = 1 then (if (aT3 B s p (bT B).toNat 0 (1023, 1023, 1023)).2.1 = 1023 then -1 else (aT3 B s p (bT B).toNat 0 (1023, 1023, 1023)).2.1) else (if (aT3 B s p (bT B).toNat 0 (1023, 1023, 1023)).2.2 = 1023 then -1 else (aT3 B s p (bT B).toNat 0 (1023, 1023, 1023)).2.2)
/-- how many of the set tell after x ticks at most -/
def aLc (B : tB) (s p x : Int) : Int := sS (aLe B s p x) (bT B).toNat 0
theorem aTk_char {B : tB} (hO : BOk B) {s p l : Int} (hp : 0 ≤ p) (hp' : p < bP B) (hl : 0 ≤ l) (hl' : l ≤ 2) : -1 ≤ aTk B s p l ∧ aTk B s p l ≤ 1022 ∧ ∀ x, 0 ≤ x → x ≤ 1022 → ((aTk B s p l ≠ -1 ∧ aTk B s p l ≤ x) ↔ l + 1 ≤ aLc B s p x) := by
  have hr := aT3_rng hO (s := s) hp hp' (bT B).toNat 0 (1023, 1023, 1023) (by unfold t3Ok; simp only; omega)
  have hc := fun x (hx : x ≤ 1022) => aT3_char hO (s := s) hp hp' hx (bT B).toNat 0 (1023, 1023, 1023) 0 (by omega) (by simp only; omega) (by simp only; omega) (by simp only; omega)
  simp only [Int.zero_add] at hc
  unfold aTk
  unfold t3Ok at hr
  generalize aT3 B s p (bT B).toNat 0 (1023, 1023, 1023) = f at hr hc
  obtain ⟨h1, h2, h3, h4, h5, h6⟩ := hr
  refine ⟨by repeat' split <;> omega, by repeat' split <;> omega, fun x x0 x1 => ?_⟩
  have hc := hc x x1
  unfold aLc
  have hl3 : l = 0 ∨ l = 1 ∨ l = 2 := by omega
  rcases hl3 with rfl | rfl | rfl
  · simp only [↓reduceIte]
    rw [show (0 : Int) + 1 = 1 from rfl, ← hc.1]
    by_cases e : f.1 = 1023
    · rw [if_pos e]; omega
    · rw [if_neg e]; omega
  · rw [if_neg (by omega), if_pos rfl, show (1 : Int) + 1 = 2 from rfl, ← hc.2.1]
    by_cases e : f.2.1 = 1023
    · rw [if_pos e]; omega
    · rw [if_neg e]; omega
  · rw [if_neg (by omega), if_neg (by omega), show (2 : Int) + 1 = 3 from rfl, ← hc.2.2]
    by_cases e : f.2.2 = 1023
    · rw [if_pos e]; omega
    · rw [if_neg e]; omega
theorem aLc_mono (B : tB) (p x : Int) {s s' : Int} (h : ∀ t, 0 ≤ t → t < bT B → aBit s t ≤ aBit s' t) : aLc B s p x ≤ aLc B s' p x := by
  unfold aLc
  have : ∀ (j : Nat) (t : Int), 0 ≤ t → t + j ≤ bT B → sS (aLe B s p x) j t ≤ sS (aLe B s' p x) j t := by
    intro j
    induction j with
    | zero => intro t _ _; exact Int.le_refl 0
    | succ j ih =>
      intro t t0 ht
      rw [sS_s, sS_s]
      have h1 := ih (t + 1) (by omega) (by omega)
      have h2 := h t t0 (by omega)
      have b1 := aBit_01 s t
      have b2 := aBit_01 s' t
      have : aLe B s p x t ≤ aLe B s' p x t := by
        unfold aLe
        by_cases c : aBit s t = 1 ∧ aSho B t p 1 ≠ -1 ∧ aSho B t p 1 ≤ x
        · rw [if_pos c, if_pos ⟨by omega, c.2⟩]; omega
        · rw [if_neg c]; split <;> omega
      omega
  by_cases c : 0 ≤ bT B
  · exact this _ 0 (by omega) (by omega)
  · rw [show (bT B).toNat = 0 by omega]; exact Int.le_refl 0
/-- more tasters tell no later -/
theorem aTk_mono {B : tB} (hO : BOk B) {s s' p l : Int} (hp : 0 ≤ p) (hp' : p < bP B) (hl : 0 ≤ l) (hl' : l ≤ 2) (h : ∀ t, 0 ≤ t → t < bT B → aBit s t ≤ aBit s' t) (hs : aTk B s p l ≠ -1) : aTk B s' p l ≠ -1 ∧ aTk B s' p l ≤ aTk B s p l := by
  obtain ⟨a1, a2, a3⟩ := aTk_char hO (s := s) hp hp' hl hl'
  obtain ⟨b1, b2, b3⟩ := aTk_char hO (s := s') hp hp' hl hl'
  have h1 := (a3 (aTk B s p l) (by omega) a2).mp ⟨hs, Int.le_refl _⟩
  exact (b3 (aTk B s p l) (by omega) a2).mpr (Int.le_trans h1 (aLc_mono B p _ h))
def aCsR (B : tB) (s l : Int) : Nat → Int → Int → Int
  | 0, _, v => v
  | j + 1, p, v => if aTk B s p l = -1 then -1 else aCsR B s l j (p + 1) (aMax v (aTk B s p l))
def aCs (B : tB) (s l : Int) : Int := aCsR B s l (bP B).toNat 0 0
theorem s_Pln_ticks_loop {d : Nat} {h : mHp} {b : Nat} {B : tB} (hb : bAd b) (hR : h.2.2.1 26 1 = b) (hB : BC h b B) (hO : BOk B) {s p l : Int} (s0 : 0 ≤ s) (s1 : s < 32) (hp : 0 ≤ p) (hp' : p < bP B) (hl : 0 ≤ l) (hl' : l ≤ 2) : ∀ (j : Nat) (t : Int) (f : Int × Int × Int), t + j = bT B → 0 ≤ t → t3Ok f →
    mRuns (d + 3) 108 18 [some (.ref 26), some (.int (zI s)), some (.int (zI p)), some (.int (zI l)), some (.int (zI f.1)), some (.int (zI f.2.1)), some (.int (zI f.2.2)), some (.int (zI t)), none] [] h (.inl (some (.int (zI (if l = 0 then (if (aT3 B s p j t f).1 = 1023 then -1 else (aT3 B s p j t f).1) else if l = 1 then (if (aT3 B s p j t f).2.1 = 1023 then -1 else (aT3 B s p j t f).2.1) else (if (aT3 B s p j t f).2.2 = 1023 then -1 else (aT3 B s p j t f).2.2)))), h)) := by
  have o := hO.1
  have s0' := (bSh_of hb).1
  have sb := bBl_of hb
  have e9 := hB.2.2.1
  intro j
  induction j with
  | zero =>
    intro t f ht t0 hf
    obtain ⟨h1, h2, h3, h4, h5, h6⟩ := hf
    refine vc_Pln_ticksToTell_18 ?_
    unfold aT3
    simp (disch := omega) only [zI_add, zI_sub, zI_mul, zI_neg, zI_lit, zI_0, zI_1, zI_lt, zI_le, zI_eq, zI_clamp, zI_inT, zI_ite, mOb_0, mOb_1, mOb_3, mOb_4, mLd_1, mAr_1, mLen_1, mTrue_t, Int.toNat_zero, Int.toNat_one, true_and, and_true, not_true_eq_false, not_false_eq_true, true_or, or_true, or_self, false_or, or_false, forall_const, false_implies, true_implies, implies_true, hR, sb, s0', e9]
    refine ⟨fun _ => ⟨fun z => ⟨fun y => ⟨fun x => ?_, fun x => ?_⟩, fun y => ⟨fun x => ?_, fun x => ?_⟩⟩, fun z => ⟨fun x => ?_, fun x => ?_⟩⟩, fun z => by omega⟩
    · rw [if_neg z, if_neg y, if_neg x]
    · rw [if_neg z, if_neg y, if_pos x]
    · rw [if_neg z, if_pos y, if_neg x]
    · rw [if_neg z, if_pos y, if_pos x]
    · rw [if_pos z, if_neg x]
    · rw [if_pos z, if_pos x]
  | succ j ih =>
    intro t f ht t0 hf
    have hs := aShow_rng (t := t) (w := 1) (tm := bF B 9 (5 * t + p)) hO hp hp'
    have hs : aSho B t p 1 = -1 ∨ (1 ≤ aSho B t p 1 ∧ aSho B t p 1 ≤ 80) := hs
    have hbt := aBit_01 s t
    have hf2 := hf
    obtain ⟨h1, h2, h3, h4, h5, h6⟩ := hf
    refine vc_Pln_ticksToTell_18 ?_
    simp (disch := omega) only [zI_add, zI_sub, zI_mul, zI_neg, zI_lit, zI_0, zI_1, zI_lt, zI_le, zI_eq, zI_clamp, zI_inT, zI_ite, mOb_0, mOb_1, mOb_3, mOb_4, mLd_1, mAr_1, mLen_1, mTrue_t, Int.toNat_zero, Int.toNat_one, true_and, and_true, not_true_eq_false, not_false_eq_true, true_or, or_true, or_self, false_or, or_false, forall_const, false_implies, true_implies, implies_true, hR, sb, s0', e9, zI_bit]
    refine ⟨fun z => by omega, fun _ => ⟨fun z => vc_Pln_ticksToTell_54 ?_, fun z => ⟨_, _, s_Brd_show hb hB hO t0 (by omega) hp hp' (by omega) (by omega), vc_Pln_ticksToTell_54 ?_⟩⟩⟩
    · rw [aT3_skip (fun y => by omega)]
      simp (disch := omega) only [zI_add, zI_sub, zI_mul, zI_neg, zI_lit, zI_0, zI_1, zI_lt, zI_le, zI_eq, zI_clamp, zI_inT, zI_ite, mOb_0, mOb_1, mOb_3, mOb_4, mLd_1, mAr_1, mLen_1, mTrue_t, Int.toNat_zero, Int.toNat_one, true_and, and_true, not_true_eq_false, not_false_eq_true, true_or, or_true, or_self, false_or, or_false, forall_const, false_implies, true_implies, implies_true]
      exact ih (t + 1) f (by omega) (by omega) hf2
    · simp (disch := omega) only [zI_add, zI_sub, zI_mul, zI_neg, zI_lit, zI_0, zI_1, zI_lt, zI_le, zI_eq, zI_clamp, zI_inT, zI_ite, mOb_0, mOb_1, mOb_3, mOb_4, mLd_1, mAr_1, mLen_1, mTrue_t, Int.toNat_zero, Int.toNat_one, true_and, and_true, not_true_eq_false, not_false_eq_true, true_or, or_true, or_self, false_or, or_false, forall_const, false_implies, true_implies, implies_true]
      refine ⟨fun y => ?_, fun y => ?_⟩
      · rw [aT3_skip (fun x => x.2 y)]
        exact ih (t + 1) f (by omega) (by omega) hf2
      · have := aT3_rng hO (s := s) hp hp' 1 t f hf2
        rw [aT3_take ⟨by omega, y⟩] at this ⊢
        have hm : (if f.1 < aSho B t p 1 then aSho B t p 1 else f.1) = aMax f.1 (aSho B t p 1) := rfl
        have hm2 : (if f.2.1 < aSho B t p 1 then aSho B t p 1 else f.2.1) = aMax f.2.1 (aSho B t p 1) := rfl
        have r1 : 0 ≤ aMax f.1 (aSho B t p 1) ∧ aMax f.1 (aSho B t p 1) ≤ 1023 := by unfold aMax; split <;> omega
        have r2 : 0 ≤ aMax f.2.1 (aSho B t p 1) ∧ aMax f.2.1 (aSho B t p 1) ≤ 1023 := by unfold aMax; split <;> omega
        rw [hm, hm2]
        have := ih (t + 1) _ (by omega) (by omega) this
        unfold aMin at this ⊢
        first | exact this | (simp (disch := omega) only [zI_add, zI_sub, zI_mul, zI_neg, zI_lit, zI_0, zI_1, zI_lt, zI_le, zI_eq, zI_clamp, zI_inT, zI_ite, mOb_0, mOb_1, mOb_3, mOb_4, mLd_1, mAr_1, mLen_1, mTrue_t, Int.toNat_zero, Int.toNat_one, true_and, and_true, not_true_eq_false, not_false_eq_true, true_or, or_true, or_self, false_or, or_false, forall_const, false_implies, true_implies, implies_true]; exact this)
theorem s_Pln_ticks {d : Nat} {h : mHp} {b : Nat} {B : tB} (hb : bAd b) (hR : h.2.2.1 26 1 = b) (hB : BC h b B) (hO : BOk B) {s p l : Int} (s0 : 0 ≤ s) (s1 : s < 32) (hp : 0 ≤ p) (hp' : p < bP B) (hl : 0 ≤ l) (hl' : l ≤ 2) :
    mRuns (d + 3) 108 0 [some (.ref 26), some (.int (zI s)), some (.int (zI p)), some (.int (zI l)), none, none, none, none, none] [] h (.inl (some (.int (zI (aTk B s p l))), h)) := by
  have o := hO.1
  refine vc_Pln_ticksToTell ?_
  simp (disch := omega) only [zI_add, zI_sub, zI_mul, zI_neg, zI_lit, zI_0, zI_1, zI_lt, zI_le, zI_eq, zI_clamp, zI_inT, zI_ite, mOb_0, mOb_1, mOb_3, mOb_4, mLd_1, mAr_1, mLen_1, mTrue_t, Int.toNat_zero, Int.toNat_one, true_and, and_true, not_true_eq_false, not_false_eq_true, true_or, or_true, or_self, false_or, or_false, forall_const, false_implies, true_implies, implies_true]
  exact s_Pln_ticks_loop hb hR hB hO s0 s1 hp hp' hl hl' (bT B).toNat 0 (1023, 1023, 1023) (by omega) (by omega) (by unfold t3Ok; simp only; omega)
theorem s_Pln_coldOf_loop {d : Nat} {h : mHp} {b : Nat} {B : tB} (hb : bAd b) (hR : h.2.2.1 26 1 = b) (hB : BC h b B) (hO : BOk B) {s l : Int} (s0 : 0 ≤ s) (s1 : s < 32) (hl : 0 ≤ l) (hl' : l ≤ 2) : ∀ (j : Nat) (p v : Int), p + j = bP B → 0 ≤ p → 0 ≤ v → v ≤ 1022 →
    mRuns (d + 4) 107 5 [some (.ref 26), some (.int (zI s)), some (.int (zI l)), some (.int (zI v)), some (.int (zI p)), none] [] h (.inl (some (.int (zI (aCsR B s l j p v))), h)) := by
  have o := hO.1
  have s0' := (bSh_of hb).1
  have sb := bBl_of hb
  have e4 := hB.2.1
  intro j
  induction j with
  | zero =>
    intro p v hp p0 v0 v1
    refine vc_Pln_coldOfSet_5 ?_
    simp (disch := omega) only [zI_add, zI_sub, zI_mul, zI_neg, zI_lit, zI_0, zI_1, zI_lt, zI_le, zI_eq, zI_clamp, zI_inT, zI_ite, mOb_0, mOb_1, mOb_3, mOb_4, mLd_1, mAr_1, mLen_1, mTrue_t, Int.toNat_zero, Int.toNat_one, true_and, and_true, not_true_eq_false, not_false_eq_true, true_or, or_true, or_self, false_or, or_false, forall_const, false_implies, true_implies, implies_true, hR, sb, s0', e4]
    exact ⟨fun _ => rfl, fun z => by omega⟩
  | succ j ih =>
    intro p v hp p0 v0 v1
    obtain ⟨c1, c2, -⟩ := aTk_char hO (s := s) p0 (show p < bP B by omega) hl hl'
    refine vc_Pln_coldOfSet_5 ?_
    unfold aCsR
    simp (disch := omega) only [zI_add, zI_sub, zI_mul, zI_neg, zI_lit, zI_0, zI_1, zI_lt, zI_le, zI_eq, zI_clamp, zI_inT, zI_ite, mOb_0, mOb_1, mOb_3, mOb_4, mLd_1, mAr_1, mLen_1, mTrue_t, Int.toNat_zero, Int.toNat_one, true_and, and_true, not_true_eq_false, not_false_eq_true, true_or, or_true, or_self, false_or, or_false, forall_const, false_implies, true_implies, implies_true, hR, sb, s0', e4]
    refine ⟨fun z => by omega, fun _ => ⟨_, _, s_Pln_ticks hb hR hB hO s0 s1 p0 (by omega) hl hl', ?_⟩⟩
    simp (disch := omega) only [zI_add, zI_sub, zI_mul, zI_neg, zI_lit, zI_0, zI_1, zI_lt, zI_le, zI_eq, zI_clamp, zI_inT, zI_ite, mOb_0, mOb_1, mOb_3, mOb_4, mLd_1, mAr_1, mLen_1, mTrue_t, Int.toNat_zero, Int.toNat_one, true_and, and_true, not_true_eq_false, not_false_eq_true, true_or, or_true, or_self, false_or, or_false, forall_const, false_implies, true_implies, implies_true]
    refine ⟨fun z => ?_, fun z => ?_⟩
    · rw [if_neg z]
      exact ih (p + 1) _ (by omega) (by omega) (by split <;> omega) (by split <;> omega)
    · rw [if_pos z]
theorem aCsR_rng {B : tB} (hO : BOk B) {s l : Int} (hl : 0 ≤ l) (hl' : l ≤ 2) : ∀ (j : Nat) (p v : Int), 0 ≤ p → p + j ≤ bP B → 0 ≤ v → v ≤ 1022 → -1 ≤ aCsR B s l j p v ∧ aCsR B s l j p v ≤ 1022 := by
  intro j
  induction j with
  | zero => intro p v _ _ a b; unfold aCsR; omega
  | succ j ih =>
    intro p v p0 hp a b
    obtain ⟨c1, c2, -⟩ := aTk_char hO (s := s) p0 (show p < bP B by omega) hl hl'
    unfold aCsR; split
    · omega
    · exact ih _ _ (by omega) (by omega) (by unfold aMax; split <;> omega) (by unfold aMax; split <;> omega)
theorem s_Pln_coldOf {d : Nat} {h : mHp} {b : Nat} {B : tB} (hb : bAd b) (hR : h.2.2.1 26 1 = b) (hB : BC h b B) (hO : BOk B) {s l : Int} (s0 : 0 ≤ s) (s1 : s < 32) (hl : 0 ≤ l) (hl' : l ≤ 2) :
    mRuns (d + 4) 107 0 [some (.ref 26), some (.int (zI s)), some (.int (zI l)), none, none, none] [] h (.inl (some (.int (zI (aCs B s l))), h)) := by
  have o := hO.1
  refine vc_Pln_coldOfSet ?_
  simp (disch := omega) only [zI_add, zI_sub, zI_mul, zI_neg, zI_lit, zI_0, zI_1, zI_lt, zI_le, zI_eq, zI_clamp, zI_inT, zI_ite, mOb_0, mOb_1, mOb_3, mOb_4, mLd_1, mAr_1, mLen_1, mTrue_t, Int.toNat_zero, Int.toNat_one, true_and, and_true, not_true_eq_false, not_false_eq_true, true_or, or_true, or_self, false_or, or_false, forall_const, false_implies, true_implies, implies_true]
  exact s_Pln_coldOf_loop hb hR hB hO s0 s1 hl hl' (bP B).toNat 0 0 (by omega) (by omega) (by omega) (by omega)
/-! who is free -/
def aFrR (B : tB) (w : Int) : Nat → Int → Int → Int
  | 0, _, f => f
  | j + 1, t, f => aFrR B w j (t + 1) (if t = w ∨ bF B 7 t = 4 then f else aOr f t)
def aFr (B : tB) (w : Int) : Int := aFrR B w (bT B).toNat 0 0
theorem aOr_bit {f t u : Int} (h1 : 0 ≤ f) (h2 : f < 32) (h3 : 0 ≤ t) (h4 : t < 5) (h5 : 0 ≤ u) (h6 : u < 5) : aBit (aOr f t) u = if u = t then 1 else aBit f u := by
  have H : ∀ (m : Fin 32) (n k : Fin 5), aBit (aOr (m.val : Int) (n.val : Int)) (k.val : Int) = if (k.val : Int) = (n.val : Int) then 1 else aBit (m.val : Int) (k.val : Int) := by decide +kernel
  have := H ⟨f.toNat, by omega⟩ ⟨t.toNat, by omega⟩ ⟨u.toNat, by omega⟩
  have e1 : ((f.toNat : Nat) : Int) = f := by omega
  have e2 : ((t.toNat : Nat) : Int) = t := by omega
  have e3 : ((u.toNat : Nat) : Int) = u := by omega
  simp only [e1, e2, e3] at this; exact this
theorem aFrR_spec {B : tB} (hO : BOk B) {w : Int} : ∀ (j : Nat) (t f : Int), 0 ≤ t → t + j = bT B → 0 ≤ f → f < 32 → 0 ≤ aFrR B w j t f ∧ aFrR B w j t f < 32 ∧ ∀ u, 0 ≤ u → u < 5 → (aBit (aFrR B w j t f) u = 1 ↔ (aBit f u = 1 ∨ (t ≤ u ∧ u < bT B ∧ u ≠ w ∧ bF B 7 u ≠ 4))) := by
  have o := hO.1
  intro j
  induction j with
  | zero => intro t f t0 ht f0 f1; exact ⟨f0, f1, fun u a b => ⟨fun z => Or.inl z, fun z => z.elim id (fun y => by omega)⟩⟩
  | succ j ih =>
    intro t f t0 ht f0 f1
    have hor := aOr_rng f0 f1 t0 (show t < 5 by omega)
    unfold aFrR
    by_cases c : t = w ∨ bF B 7 t = 4
    · rw [if_pos c]
      obtain ⟨k1, k2, k3⟩ := ih (t + 1) f (by omega) (by omega) f0 f1
      refine ⟨k1, k2, fun u a b => (k3 u a b).trans ⟨fun z => z.imp id (fun y => ⟨by omega, y.2⟩), fun z => z.imp id (fun y => ⟨?_, y.2⟩)⟩⟩
      by_cases e : u = t
      · rw [e] at y; exact (c.elim y.2.2.1 y.2.2.2).elim
      · omega
    · rw [if_neg c]
      obtain ⟨k1, k2, k3⟩ := ih (t + 1) (aOr f t) (by omega) (by omega) hor.1 hor.2
      refine ⟨k1, k2, fun u a b => (k3 u a b).trans ?_⟩
      rw [aOr_bit f0 f1 t0 (by omega) a b]
      by_cases e : u = t
      · rw [if_pos e]; exact ⟨fun _ => Or.inr ⟨by omega, by omega, fun z => c (Or.inl (by omega)), fun z => c (Or.inr (by rw [← e]; exact z))⟩, fun _ => Or.inl rfl⟩
      · rw [if_neg e]; exact ⟨fun z => z.imp id (fun y => ⟨by omega, y.2⟩), fun z => z.imp id (fun y => ⟨by omega, y.2⟩)⟩
theorem aFr_spec {B : tB} (hO : BOk B) {w : Int} : 0 ≤ aFr B w ∧ aFr B w < 32 ∧ ∀ u, 0 ≤ u → u < 5 → (aBit (aFr B w) u = 1 ↔ (u < bT B ∧ u ≠ w ∧ bF B 7 u ≠ 4)) := by
  have o := hO.1
  obtain ⟨k1, k2, k3⟩ := aFrR_spec hO (w := w) (bT B).toNat 0 0 (by omega) (by omega) (by omega) (by omega)
  refine ⟨k1, k2, fun u a b => (k3 u a b).trans ⟨fun z => z.elim (fun y => ?_) (fun y => y.2), fun z => Or.inr ⟨a, z⟩⟩⟩
  have : aBit 0 u = 0 := by unfold aBit; simp
  omega
theorem s_Pln_free_loop {d : Nat} {h : mHp} {b : Nat} {B : tB} (hb : bAd b) (hR : h.2.2.1 26 1 = b) (hB : BC h b B) (hO : BOk B) {w : Int} (w0 : -1 ≤ w) (w1 : w < 5) : ∀ (j : Nat) (t f : Int), t + j = bT B → 0 ≤ t → 0 ≤ f → f < 32 →
    mRuns (d + 1) 105 4 [some (.ref 26), some (.int (zI w)), some (.int (zI f)), some (.int (zI t))] [] h (.inl (some (.int (zI (aFrR B w j t f))), h)) := by
  have o := hO.1
  obtain ⟨b0, b1, b2, b3, b4, b5, b6, b7, b8, b9, b10⟩ := bSh_of hb
  have sb := bBl_of hb
  obtain ⟨e0, e4, e9, e13, x1, x2, x3, x4, x5, x6, x7, x8, x9, x10⟩ := id hB
  intro j
  induction j with
  | zero =>
    intro t f ht t0 f0 f1
    refine vc_Pln_freeTasters_4 ?_
    simp (disch := omega) only [zI_add, zI_sub, zI_mul, zI_neg, zI_lit, zI_0, zI_1, zI_lt, zI_le, zI_eq, zI_clamp, zI_inT, zI_ite, mOb_0, mOb_1, mOb_3, mOb_4, mLd_1, mAr_1, mLen_1, mTrue_t, Int.toNat_zero, Int.toNat_one, true_and, and_true, not_true_eq_false, not_false_eq_true, true_or, or_true, or_self, false_or, or_false, forall_const, false_implies, true_implies, implies_true, hR, sb, b0, e9]
    exact ⟨fun _ => rfl, fun z => by omega⟩
  | succ j ih =>
    intro t f ht t0 f0 f1
    have o4 := hO.2.2.2.1 t t0 (by omega)
    have hor := aOr_rng f0 f1 t0 (show t < 5 by omega)
    refine vc_Pln_freeTasters_4 ?_
    unfold aFrR
    simp (disch := omega) only [zI_add, zI_sub, zI_mul, zI_neg, zI_lit, zI_0, zI_1, zI_lt, zI_le, zI_eq, zI_clamp, zI_inT, zI_ite, mOb_0, mOb_1, mOb_3, mOb_4, mLd_1, mAr_1, mLen_1, mTrue_t, Int.toNat_zero, Int.toNat_one, true_and, and_true, not_true_eq_false, not_false_eq_true, true_or, or_true, or_self, false_or, or_false, forall_const, false_implies, true_implies, implies_true, hR, sb, b0, e9, b8, x8, zI_shl, zI_or]
    refine ⟨fun z => by omega, fun _ => ⟨fun z => ?_, fun z => ⟨fun y => ?_, fun y => ?_⟩⟩⟩
    · rw [if_pos (Or.inl z)]; exact ih (t + 1) f (by omega) (by omega) f0 f1
    · rw [if_pos (Or.inr y)]; exact ih (t + 1) f (by omega) (by omega) f0 f1
    · rw [if_neg (fun x => x.elim z y)]; exact ih (t + 1) _ (by omega) (by omega) hor.1 hor.2
theorem s_Pln_free {d : Nat} {h : mHp} {b : Nat} {B : tB} (hb : bAd b) (hR : h.2.2.1 26 1 = b) (hB : BC h b B) (hO : BOk B) {w : Int} (w0 : -1 ≤ w) (w1 : w < 5) :
    mRuns (d + 1) 105 0 [some (.ref 26), some (.int (zI w)), none, none] [] h (.inl (some (.int (zI (aFr B w))), h)) := by
  have o := hO.1
  refine vc_Pln_freeTasters ?_
  simp (disch := omega) only [zI_add, zI_sub, zI_mul, zI_neg, zI_lit, zI_0, zI_1, zI_lt, zI_le, zI_eq, zI_clamp, zI_inT, zI_ite, mOb_0, mOb_1, mOb_3, mOb_4, mLd_1, mAr_1, mLen_1, mTrue_t, Int.toNat_zero, Int.toNat_one, true_and, and_true, not_true_eq_false, not_false_eq_true, true_or, or_true, or_self, false_or, or_false, forall_const, false_implies, true_implies, implies_true]
  exact s_Pln_free_loop hb hR hB hO w0 w1 (bT B).toNat 0 0 (by omega) (by omega) (by omega) (by omega)
/-- the cold of a set, with w tasting nothing; -1: none -/
def aK (B : tB) (l w s : Int) : Int := if aDif s (aFr B w) = 0 then aCs B s l else -1
theorem aK_rng {B : tB} (hO : BOk B) {l w s : Int} (hl : 0 ≤ l) (hl' : l ≤ 2) : -1 ≤ aK B l w s ∧ aK B l w s ≤ 1022 := by
  have o := hO.1
  have := aCsR_rng hO (s := s) hl hl' (bP B).toNat 0 0 (by omega) (by omega) (by omega) (by omega)
  unfold aK aCs; split <;> omega
theorem s_Pln_weigh_loop {d : Nat} {b : Nat} {B : tB} (hb : bAd b) (hO : BOk B) {l w : Int} (hl : 0 ≤ l) (hl' : l ≤ 2) : ∀ (j : Nat) (s : Int) (h : mHp), s + j = 32 → 0 ≤ s → h.2.2.1 26 1 = b → BC h b B → aEq (h.1 28) s (aK B l w) →
    ∃ h', mRuns (d + 5) 106 2 [some (.ref 26), some (.int (zI l)), some (.int (zI (aFr B w))), some (.int (zI s))] [] h (.inl (none, h')) ∧ aEq (h'.1 28) 32 (aK B l w) ∧ hFr [28] h h' := by
  obtain ⟨f0, f1, -⟩ := aFr_spec hO (w := w)
  intro j
  induction j with
  | zero =>
    intro s h hs s0 hR hB hK
    refine ⟨h, vc_Pln_weighSets_2 ?_, fun i a b => hK i a (by omega), hFr_refl _ _⟩
    simp (disch := omega) only [zI_add, zI_sub, zI_mul, zI_neg, zI_lit, zI_0, zI_1, zI_lt, zI_le, zI_eq, zI_clamp, zI_inT, zI_ite, mOb_0, mOb_1, mOb_3, mOb_4, mLd_1, mAr_1, mLen_1, mTrue_t, Int.toNat_zero, Int.toNat_one, true_and, and_true, not_true_eq_false, not_false_eq_true, true_or, or_true, or_self, false_or, or_false, forall_const, false_implies, true_implies, implies_true]
    intro z; omega
  | succ j ih =>
    intro s h hs s0 hR hB hK
    have hdr := aDif_rng s (aFr B w)
    obtain ⟨h', r, p, f⟩ := ih (s + 1) (mPI h 28 s.toNat (zI (aK B l w s))) (by omega) (by omega) hR (BC_of hB (fun k hk => hI_ne (by rcases hb with rfl | rfl <;> omega) _ _ _)) (by
      intro i a b
      by_cases e : i = s
      · rw [e, hI_same]
      · rw [hI_off (by omega)]; exact hK i a (by omega))
    refine ⟨h', vc_Pln_weighSets_2 ?_, p, hFr_trans (hFr_pi (hFr_refl _ _) (by simp) _ _) f⟩
    simp (disch := omega) only [zI_add, zI_sub, zI_mul, zI_neg, zI_lit, zI_0, zI_1, zI_lt, zI_le, zI_eq, zI_clamp, zI_inT, zI_ite, mOb_0, mOb_1, mOb_3, mOb_4, mLd_1, mAr_1, mLen_1, mTrue_t, Int.toNat_zero, Int.toNat_one, true_and, and_true, not_true_eq_false, not_false_eq_true, true_or, or_true, or_self, false_or, or_false, forall_const, false_implies, true_implies, implies_true, zI_dif]
    refine ⟨fun z => by omega, fun _ => ⟨fun z => ?_, fun z => ⟨_, _, s_Pln_coldOf hb hR hB hO s0 (by omega) hl hl', ?_⟩⟩⟩
    · rw [show aK B l w s = -1 by unfold aK; rw [if_neg z]] at r; exact r
    · rw [show aK B l w s = aCs B s l by unfold aK; rw [if_pos z]] at r; exact r
theorem s_Pln_weigh {d : Nat} {h : mHp} {b : Nat} {B : tB} (hb : bAd b) (hR : h.2.2.1 26 1 = b) (hB : BC h b B) (hO : BOk B) {l w : Int} (hl : 0 ≤ l) (hl' : l ≤ 2) :
    ∃ h', mRuns (d + 5) 106 0 [some (.ref 26), some (.int (zI l)), some (.int (zI (aFr B w))), none] [] h (.inl (none, h')) ∧ aEq (h'.1 28) 32 (aK B l w) ∧ hFr [28] h h' := by
  obtain ⟨h', r, p, f⟩ := s_Pln_weigh_loop (d := d) hb hO (w := w) hl hl' 32 0 h (by omega) (by omega) hR hB (fun i a b => by omega)
  refine ⟨h', vc_Pln_weighSets ?_, p, f⟩
  simp (disch := omega) only [zI_add, zI_sub, zI_mul, zI_neg, zI_lit, zI_0, zI_1, zI_lt, zI_le, zI_eq, zI_clamp, zI_inT, zI_ite, mOb_0, mOb_1, mOb_3, mOb_4, mLd_1, mAr_1, mLen_1, mTrue_t, Int.toNat_zero, Int.toNat_one, true_and, and_true, not_true_eq_false, not_false_eq_true, true_or, or_true, or_self, false_or, or_false, forall_const, false_implies, true_implies, implies_true]
  exact r
/-! lean sets are gathered -/
theorem s_Pln_isLean_loop {d : Nat} {h : mHp} {K : Int → Int} (hK : aEq (h.1 28) 32 K) (hk : ∀ s, 0 ≤ s → s < 32 → -1 ≤ K s ∧ K s ≤ 1022) {s : Int} (s0 : 0 ≤ s) (s1 : s < 32) : ∀ (j : Nat) (t : Int), t + j = 5 → 0 ≤ t → (∀ u, 0 ≤ u → u < t → aBit s u = 1 → K (aXor s u) ≠ K s) →
    ∃ x, mRuns (d + 1) 110 2 [some (.ref 26), some (.int (zI s)), some (.int (zI t)), none] [] h (.inl (some (.int (zI x)), h)) ∧ ((x = 1 ∧ isLn K s) ∨ (x = 0 ∧ ¬ isLn K s)) := by
  intro j
  induction j with
  | zero =>
    intro t ht t0 hu
    refine ⟨1, vc_Pln_isLean_2 ?_, Or.inl ⟨rfl, fun u a b => hu u a (by omega)⟩⟩
    simp (disch := omega) only [zI_add, zI_sub, zI_mul, zI_neg, zI_lit, zI_0, zI_1, zI_lt, zI_le, zI_eq, zI_clamp, zI_inT, zI_ite, mOb_0, mOb_1, mOb_3, mOb_4, mLd_1, mAr_1, mLen_1, mTrue_t, Int.toNat_zero, Int.toNat_one, true_and, and_true, not_true_eq_false, not_false_eq_true, true_or, or_true, or_self, false_or, or_false, forall_const, false_implies, true_implies, implies_true]
    intro z; omega
  | succ j ih =>
    intro t ht t0 hu
    have hbt := aBit_01 s t
    have hx := aXor_rng s0 s1 t0 (show t < 5 by omega)
    have hp := aPow_rng t0 (show t < 5 by omega)
    have k1 := hk s s0 s1
    have k2 := hk _ hx.1 hx.2
    by_cases c : aBit s t = 1 ∧ K (aXor s t) = K s
    · refine ⟨0, vc_Pln_isLean_2 ?_, Or.inr ⟨rfl, fun z => z t t0 (by omega) c.1 c.2⟩⟩
      simp (disch := omega) only [zI_add, zI_sub, zI_mul, zI_neg, zI_lit, zI_0, zI_1, zI_lt, zI_le, zI_eq, zI_clamp, zI_inT, zI_ite, mOb_0, mOb_1, mOb_3, mOb_4, mLd_1, mAr_1, mLen_1, mTrue_t, Int.toNat_zero, Int.toNat_one, true_and, and_true, not_true_eq_false, not_false_eq_true, true_or, or_true, or_self, false_or, or_false, forall_const, false_implies, true_implies, implies_true, zI_shl, zI_bitm, zI_xor, hK, c.1, c.2, Int.one_mul]
      repeat' (first | refine And.intro ?_ ?_ | with_reducible intro _)
      all_goals first | omega | rfl
    · obtain ⟨x, r, hx'⟩ := ih (t + 1) (by omega) (by omega) (fun u a b e => by
        by_cases h : u = t
        · rw [h] at e ⊢; exact fun z => c ⟨e, z⟩
        · exact hu u a (by omega) e)
      refine ⟨x, vc_Pln_isLean_2 ?_, hx'⟩
      simp (disch := omega) only [zI_add, zI_sub, zI_mul, zI_neg, zI_lit, zI_0, zI_1, zI_lt, zI_le, zI_eq, zI_clamp, zI_inT, zI_ite, mOb_0, mOb_1, mOb_3, mOb_4, mLd_1, mAr_1, mLen_1, mTrue_t, Int.toNat_zero, Int.toNat_one, true_and, and_true, not_true_eq_false, not_false_eq_true, true_or, or_true, or_self, false_or, or_false, forall_const, false_implies, true_implies, implies_true, zI_shl, zI_xor, hK]
      rw [zI_bitm s0 s1 t0 (by omega)]
      rcases hbt with e | e
      · rw [e, Int.zero_mul]
        refine ⟨fun z => by omega, fun _ => ⟨fun _ => r, fun z => absurd rfl z⟩⟩
      · rw [e, Int.one_mul]
        refine ⟨fun z => by omega, fun _ => ⟨fun z => ?_, fun _ => ⟨fun _ => r, fun z => absurd ⟨e, z⟩ c⟩⟩⟩
        rw [zI_eq (by omega) (by omega) (by omega) (by omega)] at z; omega
theorem s_Pln_isLean {d : Nat} {h : mHp} {K : Int → Int} (hK : aEq (h.1 28) 32 K) (hk : ∀ s, 0 ≤ s → s < 32 → -1 ≤ K s ∧ K s ≤ 1022) {s : Int} (s0 : 0 ≤ s) (s1 : s < 32) :
    ∃ x, mRuns (d + 1) 110 0 [some (.ref 26), some (.int (zI s)), none, none] [] h (.inl (some (.int (zI x)), h)) ∧ ((x = 1 ∧ isLn K s) ∨ (x = 0 ∧ ¬ isLn K s)) := by
  obtain ⟨x, r, hx⟩ := s_Pln_isLean_loop (d := d) hK hk s0 s1 5 0 (by omega) (by omega) (fun u a b => by omega)
  refine ⟨x, vc_Pln_isLean ?_, hx⟩
  simp (disch := omega) only [zI_add, zI_sub, zI_mul, zI_neg, zI_lit, zI_0, zI_1, zI_lt, zI_le, zI_eq, zI_clamp, zI_inT, zI_ite, mOb_0, mOb_1, mOb_3, mOb_4, mLd_1, mAr_1, mLen_1, mTrue_t, Int.toNat_zero, Int.toNat_one, true_and, and_true, not_true_eq_false, not_false_eq_true, true_or, or_true, or_self, false_or, or_false, forall_const, false_implies, true_implies, implies_true]
  exact r
/-- the lean sets in order: g of them n -/
def lnOk (K : Int → Int) (m n : Int) (g : Int → Int) : Prop := (∀ i, 0 ≤ i → i < n → 0 ≤ g i ∧ g i < m ∧ K (g i) ≠ -1 ∧ isLn K (g i)) ∧ (∀ i k, 0 ≤ i → i < k → k < n → g i < g k) ∧ (∀ s, 0 ≤ s → s < m → K s ≠ -1 → isLn K s → ∃ i, 0 ≤ i ∧ i < n ∧ g i = s)
theorem s_Pln_gather_loop {d : Nat} {K : Int → Int} (hk : ∀ s, 0 ≤ s → s < 32 → -1 ≤ K s ∧ K s ≤ 1022) : ∀ (j : Nat) (s n : Int) (g : Int → Int) (h : mHp), s + j = 32 → 0 ≤ s → 0 ≤ n → n ≤ s → aEq (h.1 28) 32 K → h.1 26 4 = zI n → aEq (h.1 29) n g → lnOk K s n g →
    ∃ h' n' g', mRuns (d + 2) 109 7 [some (.ref 26), some (.int (zI s))] [] h (.inl (none, h')) ∧ h'.1 26 4 = zI n' ∧ 0 ≤ n' ∧ n' ≤ 32 ∧ aEq (h'.1 29) n' g' ∧ lnOk K 32 n' g' ∧ hFg 26 [29] [4] h h' := by
  intro j
  induction j with
  | zero =>
    intro s n g h hs s0 n0 n1 hK h4 hg hl
    refine ⟨h, n, g, vc_Pln_gatherLeanSets_7 ?_, h4, n0, by omega, hg, by rw [show (32 : Int) = s by omega]; exact hl, hFg_refl _ _ _ _⟩
    simp (disch := omega) only [zI_add, zI_sub, zI_mul, zI_neg, zI_lit, zI_0, zI_1, zI_lt, zI_le, zI_eq, zI_clamp, zI_inT, zI_ite, mOb_0, mOb_1, mOb_3, mOb_4, mLd_1, mAr_1, mLen_1, mTrue_t, Int.toNat_zero, Int.toNat_one, true_and, and_true, not_true_eq_false, not_false_eq_true, true_or, or_true, or_self, false_or, or_false, forall_const, false_implies, true_implies, implies_true]
    intro z; omega
  | succ j ih =>
    intro s n g h hs s0 n0 n1 hK h4 hg hl
    have k1 := hk s s0 (by omega)
    obtain ⟨l1, l2, l3⟩ := hl
    obtain ⟨x, rx, hx⟩ := s_Pln_isLean (d := d) hK hk s0 (show s < 32 by omega)
    by_cases c : K s ≠ -1 ∧ isLn K s
    · have hx1 : x = 1 := by rcases hx with q | q; exact q.1; exact absurd c.2 q.2
      obtain ⟨h', n', g', r, q1, q2, q3, q4, q5, q6⟩ := ih (s + 1) (n + 1) (fun i => if i = n then s else g i) (mPI (mPI h 29 n.toNat (zI s)) 26 4 (zI (n + 1))) (by omega) (by omega) (by omega) (by omega) (by rw [hI_ne (by omega), hI_ne (by omega)]; exact hK) (hI_same _ _ _ _) (by rw [hI_ne (by omega), hI_row]; exact aEq_push hg n0 s)
        (by
          refine ⟨fun i a b => ?_, fun i k a b e => ?_, fun s' a b e f => ?_⟩
          · show 0 ≤ (if i = n then s else g i) ∧ (if i = n then s else g i) < s + 1 ∧ K (if i = n then s else g i) ≠ -1 ∧ isLn K (if i = n then s else g i)
            by_cases z : i = n
            · rw [if_pos z]; exact ⟨s0, by omega, c.1, c.2⟩
            · rw [if_neg z]; obtain ⟨y1, y2, y3, y4⟩ := l1 i a (by omega); exact ⟨y1, by omega, y3, y4⟩
          · show (if i = n then s else g i) < (if k = n then s else g k)
            rw [if_neg (by omega)]
            by_cases z : k = n
            · rw [if_pos z]; exact (l1 i a (by omega)).2.1
            · rw [if_neg z]; exact l2 i k a b (by omega)
          · by_cases z : s' = s
            · exact ⟨n, n0, by omega, by show (if n = n then s else g n) = s'; rw [if_pos rfl, z]⟩
            · obtain ⟨i, y1, y2, y3⟩ := l3 s' a (by omega) e f
              exact ⟨i, y1, by omega, by show (if i = n then s else g i) = s'; rw [if_neg (by omega)]; exact y3⟩)
      refine ⟨h', n', g', vc_Pln_gatherLeanSets_7 ?_, q1, q2, q3, q4, q5, hFg_trans (hFg_pf (hFg_pi (hFg_refl _ _ _ _) (by simp) (by omega) _ _) (by simp) _) q6⟩
      simp (disch := omega) only [zI_add, zI_sub, zI_mul, zI_neg, zI_lit, zI_0, zI_1, zI_lt, zI_le, zI_eq, zI_clamp, zI_inT, zI_ite, mOb_0, mOb_1, mOb_3, mOb_4, mLd_1, mAr_1, mLen_1, mTrue_t, Int.toNat_zero, Int.toNat_one, true_and, and_true, not_true_eq_false, not_false_eq_true, true_or, or_true, or_self, false_or, or_false, forall_const, false_implies, true_implies, implies_true, hK]
      refine ⟨fun z => by omega, fun _ => ⟨fun z => absurd z c.1, fun _ => ⟨_, _, rx, ?_⟩⟩⟩
      subst hx1
      simp (disch := omega) only [zI_add, zI_sub, zI_mul, zI_neg, zI_lit, zI_0, zI_1, zI_lt, zI_le, zI_eq, zI_clamp, zI_inT, zI_ite, mOb_0, mOb_1, mOb_3, mOb_4, mLd_1, mAr_1, mLen_1, mTrue_t, Int.toNat_zero, Int.toNat_one, true_and, and_true, not_true_eq_false, not_false_eq_true, true_or, or_true, or_self, false_or, or_false, forall_const, false_implies, true_implies, implies_true, h4, hI_ne]
      repeat' (first | refine And.intro ?_ ?_ | with_reducible intro _)
      all_goals first | omega | exact r
    · obtain ⟨h', n', g', r, q1, q2, q3, q4, q5, q6⟩ := ih (s + 1) n g h (by omega) (by omega) n0 (by omega) hK h4 hg
        ⟨fun i a b => by obtain ⟨y1, y2, y3, y4⟩ := l1 i a b; exact ⟨y1, by omega, y3, y4⟩, l2, fun s' a b e f => by
          by_cases z : s' = s
          · rw [z] at e f; exact absurd ⟨e, f⟩ c
          · exact l3 s' a (by omega) e f⟩
      refine ⟨h', n', g', vc_Pln_gatherLeanSets_7 ?_, q1, q2, q3, q4, q5, q6⟩
      simp (disch := omega) only [zI_add, zI_sub, zI_mul, zI_neg, zI_lit, zI_0, zI_1, zI_lt, zI_le, zI_eq, zI_clamp, zI_inT, zI_ite, mOb_0, mOb_1, mOb_3, mOb_4, mLd_1, mAr_1, mLen_1, mTrue_t, Int.toNat_zero, Int.toNat_one, true_and, and_true, not_true_eq_false, not_false_eq_true, true_or, or_true, or_self, false_or, or_false, forall_const, false_implies, true_implies, implies_true, hK]
      refine ⟨fun z => by omega, fun _ => ⟨fun z => r, fun y => ⟨_, _, rx, ?_⟩⟩⟩
      have hx0 : x = 0 := by rcases hx with q | q; exact absurd ⟨y, q.2⟩ c; exact q.1
      subst hx0
      simp (disch := omega) only [zI_add, zI_sub, zI_mul, zI_neg, zI_lit, zI_0, zI_1, zI_lt, zI_le, zI_eq, zI_clamp, zI_inT, zI_ite, mOb_0, mOb_1, mOb_3, mOb_4, mLd_1, mAr_1, mLen_1, mTrue_t, Int.toNat_zero, Int.toNat_one, true_and, and_true, not_true_eq_false, not_false_eq_true, true_or, or_true, or_self, false_or, or_false, forall_const, false_implies, true_implies, implies_true, h4, hI_ne]
      repeat' (first | refine And.intro ?_ ?_ | with_reducible intro _)
      all_goals first | omega | exact r
theorem s_Pln_gather {d : Nat} {h : mHp} {K : Int → Int} (hk : ∀ s, 0 ≤ s → s < 32 → -1 ≤ K s ∧ K s ≤ 1022) (hK : aEq (h.1 28) 32 K) :
    ∃ h' n' g', mRuns (d + 2) 109 0 [some (.ref 26), none] [] h (.inl (none, h')) ∧ h'.1 26 4 = zI n' ∧ 0 ≤ n' ∧ n' ≤ 32 ∧ aEq (h'.1 29) n' g' ∧ lnOk K 32 n' g' ∧ hFg 26 [29] [4] h h' := by
  obtain ⟨h', n', g', r, q1, q2, q3, q4, q5, q6⟩ := s_Pln_gather_loop (d := d) hk 32 0 0 (fun _ => 0) (mPI h 26 4 (zI 0)) (by omega) (by omega) (by omega) (by omega) (by rw [hI_ne (by omega)]; exact hK) (hI_same _ _ _ _) (fun i a b => by omega) ⟨fun i a b => by omega, fun i k a b c => by omega, fun s a b => by omega⟩
  refine ⟨h', n', g', vc_Pln_gatherLeanSets ?_, q1, q2, q3, q4, q5, hFg_trans (hFg_pf (hFg_refl _ _ _ _) (by simp) _) q6⟩
  simp (disch := omega) only [zI_add, zI_sub, zI_mul, zI_neg, zI_lit, zI_0, zI_1, zI_lt, zI_le, zI_eq, zI_clamp, zI_inT, zI_ite, mOb_0, mOb_1, mOb_3, mOb_4, mLd_1, mAr_1, mLen_1, mTrue_t, Int.toNat_zero, Int.toNat_one, true_and, and_true, not_true_eq_false, not_false_eq_true, true_or, or_true, or_self, false_or, or_false, forall_const, false_implies, true_implies, implies_true]
  exact r

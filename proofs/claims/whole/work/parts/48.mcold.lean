/-! L3, the cold of sets, on the model's side -/
theorem sS_upd {f f' : Int → Int} {b : Int} : ∀ (j : Nat) (i : Int), (∀ x, i ≤ x → x < i + j → x ≠ b → f' x = f x) → i ≤ b → b < i + j → sS f' j i = sS f j i + (f' b - f b) := by
  intro j
  induction j with
  | zero => intro i _ _ _; omega
  | succ j ih =>
    intro i h h1 h2
    rw [sS_s, sS_s]
    by_cases e : i = b
    · rw [sS_cong (f := f') (g := f) j (i + 1) (fun x a c => h x (by omega) (by omega) (by omega)), e]; omega
    · rw [h i (by omega) (by omega) e, ih (i + 1) (fun x a c => h x (by omega) (by omega)) (by omega) (by omega)]; omega
theorem sS_le {f g : Int → Int} : ∀ (j : Nat) (i : Int), (∀ x, i ≤ x → x < i + j → f x ≤ g x) → sS f j i ≤ sS g j i := by
  intro j
  induction j with
  | zero => intro i _; exact Int.le_refl 0
  | succ j ih =>
    intro i h
    rw [sS_s, sS_s]
    have := ih (i + 1) (fun x a b => h x (by omega) (by omega)); have := h i (by omega) (by omega); omega
theorem sS_ex {f g : Int → Int} : ∀ (j : Nat) (i : Int), (∀ x, i ≤ x → x < i + j → f x ≤ g x) → sS f j i < sS g j i → ∃ x, i ≤ x ∧ x < i + j ∧ f x < g x := by
  intro j
  induction j with
  | zero => intro i _ h; exact absurd h (Int.lt_irrefl 0)
  | succ j ih =>
    intro i h hl
    rw [sS_s, sS_s] at hl
    by_cases e : f i < g i
    · exact ⟨i, by omega, by omega, e⟩
    · have := h i (by omega) (by omega)
      obtain ⟨x, a, b, c⟩ := ih (i + 1) (fun x a b => h x (by omega) (by omega)) (by omega)
      exact ⟨x, by omega, by omega, c⟩
theorem sS_lt {f g : Int → Int} {b : Int} : ∀ (j : Nat) (i : Int), (∀ x, i ≤ x → x < i + j → f x ≤ g x) → i ≤ b → b < i + j → f b < g b → sS f j i < sS g j i := by
  intro j
  induction j with
  | zero => intro i _ _ _; omega
  | succ j ih =>
    intro i h h1 h2 hl
    rw [sS_s, sS_s]
    by_cases e : i = b
    · have := sS_le j (i + 1) (fun x a b => h x (by omega) (by omega)); rw [e] at *; omega
    · have := ih (i + 1) (fun x a b => h x (by omega) (by omega)) (by omega) (by omega) hl; have := h i (by omega) (by omega); omega
/-- of those that tell in time, those that are used -/
def aLu (B : tB) (s p x us t : Int) : Int := if aBit s t = 1 ∧ aSho B t p 1 ≠ -1 ∧ aSho B t p 1 ≤ x ∧ aBit us t = 1 then 1 else 0
def cand (B : tB) (s p us t : Int) : Prop := aBit s t = 1 ∧ aBit us t = 0 ∧ aSho B t p 1 ≠ -1
theorem aLu_le (B : tB) (s p x us t : Int) : aLu B s p x us t ≤ aLe B s p x t := by
  unfold aLu aLe
  by_cases h : aBit s t = 1 ∧ aSho B t p 1 ≠ -1 ∧ aSho B t p 1 ≤ x ∧ aBit us t = 1
  · rw [if_pos h, if_pos ⟨h.1, h.2.1, h.2.2.1⟩]; omega
  · rw [if_neg h]; split <;> omega
theorem s_M_latest_best {d : Nat} {h : mHp} {B : tB} (hB : BM h B) (hO : BOk B) {q s p us z v : Int} (s0 : 0 ≤ s) (s1 : s < 32) (u0 : 0 ≤ us) (u1 : us < 32) (hp : 0 ≤ p) (hp' : p < bP B) {out : mOut}
    (hnone : (∀ t, 0 ≤ t → t < bT B → ¬ cand B s p us t) → out = .inl (some (.int (zI (-1))), h))
    (hbest : ∀ b, 0 ≤ b → b < bT B → cand B s p us b → (∀ t, 0 ≤ t → t < bT B → cand B s p us t → aSho B b p 1 ≤ aSho B t p 1) → mRuns (d + 3) 46 32 [some (.ref 114), some (.int (zI q)), some (.int (zI s)), some (.int (zI v)), some (.int (zI p)), some (.int (zI (aOr us b))), some (.int (zI (aSho B b p 1))), some (.int (zI (z + 1))), none, none] [] h out) :
    ∀ (j : Nat) (t b : Int), t + j = bT B → 0 ≤ t → ((b = -1 ∧ ∀ u, 0 ≤ u → u < t → ¬ cand B s p us u) ∨ (0 ≤ b ∧ b < t ∧ cand B s p us b ∧ ∀ u, 0 ≤ u → u < t → cand B s p us u → aSho B b p 1 ≤ aSho B u p 1)) →
    mRuns (d + 3) 46 47 [some (.ref 114), some (.int (zI q)), some (.int (zI s)), some (.int (zI v)), some (.int (zI p)), some (.int (zI us)), none, some (.int (zI z)), some (.int (zI b)), some (.int (zI t))] [] h out := by
  have o := hO.1
  have e3 := hB.2.2.1
  intro j
  induction j with
  | zero =>
    intro t b ht t0 hb
    refine vc_M_latest_47 ?_
    rcases hb with ⟨rfl, hb⟩ | ⟨b0, b1, b2, b3⟩
    · simp (disch := omega) only [zI_add, zI_sub, zI_mul, zI_neg, zI_lit, zI_0, zI_1, zI_lt, zI_le, zI_eq, zI_clamp, zI_inT, zI_ite, mOb_0, mOb_1, mOb_3, mOb_4, mLd_1, mAr_1, mLen_1, mTrue_t, Int.toNat_zero, Int.toNat_one, true_and, and_true, not_true_eq_false, not_false_eq_true, true_or, or_true, or_self, false_or, or_false, forall_const, false_implies, true_implies, implies_true, e3]
      refine ⟨fun _ => hnone (fun u a c => hb u a (by omega)), fun z => by omega⟩
    · simp (disch := omega) only [zI_add, zI_sub, zI_mul, zI_neg, zI_lit, zI_0, zI_1, zI_lt, zI_le, zI_eq, zI_clamp, zI_inT, zI_ite, mOb_0, mOb_1, mOb_3, mOb_4, mLd_1, mAr_1, mLen_1, mTrue_t, Int.toNat_zero, Int.toNat_one, true_and, and_true, not_true_eq_false, not_false_eq_true, true_or, or_true, or_self, false_or, or_false, forall_const, false_implies, true_implies, implies_true, e3, zI_shl, zI_or]
      refine ⟨fun _ => ⟨fun _ => ⟨_, _, s_M_showsNow hB hO b0 (by omega) hp hp' (by omega) (by omega), ?_⟩, fun z => by omega⟩, fun z => by omega⟩
      exact hbest b b0 (by omega) b2 (fun u a c => b3 u a (by omega))
  | succ j ih =>
    intro t b ht t0 hb
    have hs := aShow_rng (t := t) (w := 1) (tm := bF B 9 (5 * t + p)) hO hp hp'
    have hs : aSho B t p 1 = -1 ∨ (1 ≤ aSho B t p 1 ∧ aSho B t p 1 ≤ 80) := hs
    have b1 := aBit_01 s t
    have b2 := aBit_01 us t
    have skip : ¬ cand B s p us t → mRuns (d + 3) 46 47 [some (.ref 114), some (.int (zI q)), some (.int (zI s)), some (.int (zI v)), some (.int (zI p)), some (.int (zI us)), none, some (.int (zI z)), some (.int (zI b)), some (.int (zI (t + 1)))] [] h out := by
      intro hc
      refine ih (t + 1) b (by omega) (by omega) ?_
      rcases hb with ⟨rfl, hb⟩ | ⟨c0, c1, c2, c3⟩
      · exact Or.inl ⟨rfl, fun u a e => by
          by_cases y : u = t
          · rw [y]; exact hc
          · exact hb u a (by omega)⟩
      · exact Or.inr ⟨c0, by omega, c2, fun u a e k => by
          by_cases y : u = t
          · rw [y] at k; exact absurd k hc
          · exact c3 u a (by omega) k⟩
    refine vc_M_latest_47 ?_
    simp (disch := omega) only [zI_add, zI_sub, zI_mul, zI_neg, zI_lit, zI_0, zI_1, zI_lt, zI_le, zI_eq, zI_clamp, zI_inT, zI_ite, mOb_0, mOb_1, mOb_3, mOb_4, mLd_1, mAr_1, mLen_1, mTrue_t, Int.toNat_zero, Int.toNat_one, true_and, and_true, not_true_eq_false, not_false_eq_true, true_or, or_true, or_self, false_or, or_false, forall_const, false_implies, true_implies, implies_true, e3, zI_bit]
    refine ⟨fun z => by omega, fun _ => ⟨fun y => skip (fun k => by unfold cand at k; omega), fun y => ⟨fun x => skip (fun k => by unfold cand at k; omega), fun x => ⟨_, _, s_M_showsNow hB hO t0 (by omega) hp hp' (by omega) (by omega), ?_⟩⟩⟩⟩
    simp (disch := omega) only [zI_add, zI_sub, zI_mul, zI_neg, zI_lit, zI_0, zI_1, zI_lt, zI_le, zI_eq, zI_clamp, zI_inT, zI_ite, mOb_0, mOb_1, mOb_3, mOb_4, mLd_1, mAr_1, mLen_1, mTrue_t, Int.toNat_zero, Int.toNat_one, true_and, and_true, not_true_eq_false, not_false_eq_true, true_or, or_true, or_self, false_or, or_false, forall_const, false_implies, true_implies, implies_true]
    refine ⟨fun k => ?_, fun k => skip (fun c => c.2.2 k)⟩
    have hc : cand B s p us t := ⟨by omega, by omega, k⟩
    rcases hb with ⟨rfl, hb⟩ | ⟨c0, c1, c2, c3⟩
    · have := ih (t + 1) t (by omega) (by omega) (Or.inr ⟨t0, by omega, hc, fun u a e kk => by
        by_cases y : u = t
        · rw [y]; omega
        · exact absurd kk (hb u a (by omega))⟩)
      simp (disch := omega) only [zI_add, zI_sub, zI_mul, zI_neg, zI_lit, zI_0, zI_1, zI_lt, zI_le, zI_eq, zI_clamp, zI_inT, zI_ite, mOb_0, mOb_1, mOb_3, mOb_4, mLd_1, mAr_1, mLen_1, mTrue_t, Int.toNat_zero, Int.toNat_one, true_and, and_true, not_true_eq_false, not_false_eq_true, true_or, or_true, or_self, false_or, or_false, forall_const, false_implies, true_implies, implies_true]
      exact this
    · have hsb := aShow_rng (t := b) (w := 1) (tm := bF B 9 (5 * b + p)) hO hp hp'
      have hsb : aSho B b p 1 = -1 ∨ (1 ≤ aSho B b p 1 ∧ aSho B b p 1 ≤ 80) := hsb
      refine ⟨fun z => by omega, fun _ => ⟨_, _, s_M_showsNow hB hO t0 (by omega) hp hp' (by omega) (by omega), _, _, s_M_showsNow hB hO c0 (by omega) hp hp' (by omega) (by omega), ?_⟩⟩
      simp (disch := omega) only [zI_add, zI_sub, zI_mul, zI_neg, zI_lit, zI_0, zI_1, zI_lt, zI_le, zI_eq, zI_clamp, zI_inT, zI_ite, mOb_0, mOb_1, mOb_3, mOb_4, mLd_1, mAr_1, mLen_1, mTrue_t, Int.toNat_zero, Int.toNat_one, true_and, and_true, not_true_eq_false, not_false_eq_true, true_or, or_true, or_self, false_or, or_false, forall_const, false_implies, true_implies, implies_true]
      refine ⟨fun le => ?_, fun le => ?_⟩
      · exact ih (t + 1) b (by omega) (by omega) (Or.inr ⟨c0, by omega, c2, fun u a e kk => by
          by_cases y : u = t
          · rw [y]; exact le
          · exact c3 u a (by omega) kk⟩)
      · exact ih (t + 1) t (by omega) (by omega) (Or.inr ⟨t0, by omega, hc, fun u a e kk => by
          by_cases y : u = t
          · rw [y]; omega
          · have := c3 u a (by omega) kk; omega⟩)
theorem s_M_latest_mid {d : Nat} {h : mHp} {B : tB} (hB : BM h B) (hO : BOk B) {q s p l v : Int} (h32 : h.1 114 32 = zI l) (hl : 0 ≤ l) (hl' : l ≤ 2) (s0 : 0 ≤ s) (s1 : s < 32) (q0 : 0 ≤ q) (q1 : q < bD B) (hp : 0 ≤ p) (hp' : p < bP B) (v0 : -1000 ≤ v) (v1 : v ≤ 95) {out : mOut}
    (hnone : aTk B s p l = -1 → out = .inl (some (.int (zI (-1))), h))
    (hgo : aTk B s p l ≠ -1 → mRuns (d + 3) 46 14 [some (.ref 114), some (.int (zI q)), some (.int (zI s)), some (.int (zI (if v ≤ bF B 1 q - aTk B s p l then v else bF B 1 q - aTk B s p l))), some (.int (zI (p + 1))), none, none, none, none, none] [] h out) :
    ∀ (j : Nat) (z us dl : Int), z + j = l + 1 → 0 ≤ z → 0 ≤ us → us < 32 → 0 ≤ dl → dl ≤ 80 → (∀ x, 0 ≤ x → x ≤ 1022 → sS (aLu B s p x us) (bT B).toNat 0 = aMin (aLc B s p x) z) → (j = 0 → aTk B s p l = dl) →
    mRuns (d + 3) 46 32 [some (.ref 114), some (.int (zI q)), some (.int (zI s)), some (.int (zI v)), some (.int (zI p)), some (.int (zI us)), some (.int (zI dl)), some (.int (zI z)), none, none] [] h out := by
  have o := hO.1
  obtain ⟨e1, e2, e3, e4, a1, a2, a3, a4, a5, a6, a7, a8, a9, a10⟩ := id hB
  have o2 := hO.2.1 q q0 q1
  obtain ⟨k1, k2, k3⟩ := aTk_char hO (s := s) hp hp' hl hl'
  intro j
  induction j with
  | zero =>
    intro z us dl hz z0 u0 u1 d0 d1 hJ hd
    have hd := hd rfl
    rw [hd] at hgo
    have hgo := hgo (by omega)
    refine vc_M_latest_32 ?_
    simp (disch := omega) only [zI_add, zI_sub, zI_mul, zI_neg, zI_lit, zI_0, zI_1, zI_lt, zI_le, zI_eq, zI_clamp, zI_inT, zI_ite, mOb_0, mOb_1, mOb_3, mOb_4, mLd_1, mAr_1, mLen_1, mTrue_t, Int.toNat_zero, Int.toNat_one, true_and, and_true, not_true_eq_false, not_false_eq_true, true_or, or_true, or_self, false_or, or_false, forall_const, false_implies, true_implies, implies_true, h32, a2]
    refine ⟨fun _ => ⟨fun y => ?_, fun y => ?_⟩, fun y => by omega⟩
    · rw [if_pos y] at hgo; exact hgo
    · rw [if_neg y] at hgo; exact hgo
  | succ j ih =>
    intro z us dl hz z0 u0 u1 d0 d1 hJ hd
    refine vc_M_latest_32 ?_
    simp (disch := omega) only [zI_add, zI_sub, zI_mul, zI_neg, zI_lit, zI_0, zI_1, zI_lt, zI_le, zI_eq, zI_clamp, zI_inT, zI_ite, mOb_0, mOb_1, mOb_3, mOb_4, mLd_1, mAr_1, mLen_1, mTrue_t, Int.toNat_zero, Int.toNat_one, true_and, and_true, not_true_eq_false, not_false_eq_true, true_or, or_true, or_self, false_or, or_false, forall_const, false_implies, true_implies, implies_true, h32]
    refine ⟨fun y => by omega, fun _ => ?_⟩
    refine s_M_latest_best hB hO s0 s1 u0 u1 hp hp' (fun hn => hnone ?_) (fun b b0 b1 bc bm => ?_) (bT B).toNat 0 (-1) (by omega) (by omega) (Or.inl ⟨rfl, fun u a e => by omega⟩)
    · -- nobody is left
      have hc : aLc B s p 1022 ≤ sS (aLu B s p 1022 us) (bT B).toNat 0 := by
        unfold aLc
        refine sS_le _ _ (fun x x0 x1 => ?_)
        have hb1 := aBit_01 us x
        unfold aLe aLu
        by_cases w : aBit s x = 1 ∧ aSho B x p 1 ≠ -1 ∧ aSho B x p 1 ≤ 1022
        · have : aBit us x = 1 := by
            rcases hb1 with e | e
            · exact absurd ⟨w.1, e, w.2.1⟩ (hn x x0 (by omega))
            · exact e
          rw [if_pos w, if_pos ⟨w.1, w.2.1, w.2.2, this⟩]; omega
        · rw [if_neg w]; split <;> omega
      rw [hJ 1022 (by omega) (by omega)] at hc
      have := k3 1022 (by omega) (by omega)
      unfold aMin at hc
      by_cases w : aTk B s p l = -1
      · exact w
      · have := this.mp ⟨w, k2⟩
        split at hc <;> omega
    · have hsb := aShow_rng (t := b) (w := 1) (tm := bF B 9 (5 * b + p)) hO hp hp'
      have hsb : aSho B b p 1 = -1 ∨ (1 ≤ aSho B b p 1 ∧ aSho B b p 1 ≤ 80) := hsb
      have hbn := bc.2.2
      have hor := aOr_rng u0 u1 b0 (show b < 5 by omega)
      -- his ticks are the next ones
      have char : ∀ x, 0 ≤ x → x ≤ 1022 → (aSho B b p 1 ≤ x ↔ z + 1 ≤ aLc B s p x) := by
        intro x x0 x1
        have hJx := hJ x x0 x1
        constructor
        · intro le
          have : sS (aLu B s p x us) (bT B).toNat 0 < aLc B s p x := by
            unfold aLc
            refine sS_lt (b := b) _ _ (fun y _ _ => aLu_le B s p x us y) b0 (by omega) ?_
            unfold aLu aLe
            rw [if_neg (fun w => by have := bc.2.1; omega), if_pos ⟨bc.1, hbn, le⟩]; omega
          rw [hJx] at this
          unfold aMin at this; split at this <;> omega
        · intro ge
          have : sS (aLu B s p x us) (bT B).toNat 0 < sS (aLe B s p x) (bT B).toNat 0 := by
            rw [hJx]; unfold aMin; show (if _ then _ else _) < aLc B s p x; split <;> omega
          obtain ⟨y, y0, y1, y2⟩ := sS_ex _ _ (fun y _ _ => aLu_le B s p x us y) this
          unfold aLu aLe at y2
          by_cases w : aBit s y = 1 ∧ aSho B y p 1 ≠ -1 ∧ aSho B y p 1 ≤ x
          · rw [if_pos w] at y2
            by_cases w2 : aBit us y = 1
            · rw [if_pos ⟨w.1, w.2.1, w.2.2, w2⟩] at y2; omega
            · have := bm y y0 (by omega) ⟨w.1, (aBit_01 us y).resolve_right w2, w.2.1⟩
              omega
          · rw [if_neg w] at y2; split at y2 <;> omega
      refine ih (z + 1) (aOr us b) (aSho B b p 1) (by omega) (by omega) hor.1 hor.2 (by omega) (by omega) (fun x x0 x1 => ?_) (fun hj => ?_)
      · have hJx := hJ x x0 x1
        have hupd := sS_upd (f := aLu B s p x us) (f' := aLu B s p x (aOr us b)) (b := b) (bT B).toNat 0 (fun y y0 y1 yb => by
          unfold aLu
          rw [aOr_bit u0 u1 b0 (by omega) y0 (by omega), if_neg yb]) b0 (by omega)
        have f1 : aLu B s p x (aOr us b) b = if aSho B b p 1 ≤ x then 1 else 0 := by
          unfold aLu
          rw [aOr_bit u0 u1 b0 (by omega) b0 (by omega), if_pos rfl]
          by_cases w : aSho B b p 1 ≤ x
          · rw [if_pos w, if_pos ⟨bc.1, hbn, w, rfl⟩]
          · rw [if_neg w, if_neg (fun y => w y.2.2.1)]
        have f0 : aLu B s p x us b = 0 := by unfold aLu; rw [if_neg (fun w => by have := bc.2.1; omega)]
        rw [hupd, hJx, f1, f0]
        have := char x x0 x1
        unfold aMin
        split <;> split <;> split <;> omega
      · have zl : z = l := by omega
        have c1 := char (aSho B b p 1) (by omega) (by omega)
        have c2 := k3 (aSho B b p 1) (by omega) (by omega)
        have c3 : aTk B s p l ≠ -1 ∧ aTk B s p l ≤ aSho B b p 1 := c2.mpr (by have := c1.mp (Int.le_refl _); omega)
        have c4 := char (aTk B s p l) (by omega) (by omega)
        have c5 := k3 (aTk B s p l) (by omega) (by omega)
        have := c4.mpr (by have := c5.mp ⟨c3.1, Int.le_refl _⟩; omega)
        omega
theorem s_M_latest_loop {d : Nat} {h : mHp} {B : tB} (hB : BM h B) (hO : BOk B) {q s l : Int} (h32 : h.1 114 32 = zI l) (hl : 0 ≤ l) (hl' : l ≤ 2) (s0 : 0 ≤ s) (s1 : s < 32) (q0 : 0 ≤ q) (q1 : q < bD B) : ∀ (j : Nat) (p acc : Int), p + j = bP B → 0 ≤ p → 0 ≤ acc → acc ≤ 1022 → bF B 1 q - acc ≥ -1000 →
    mRuns (d + 3) 46 14 [some (.ref 114), some (.int (zI q)), some (.int (zI s)), some (.int (zI (bF B 1 q - acc))), some (.int (zI p)), none, none, none, none, none] [] h (.inl (some (.int (zI (if aCsR B s l j p acc = -1 then -1 else bF B 1 q - aCsR B s l j p acc))), h)) := by
  have o := hO.1
  have e2 := hB.2.1
  have o2 := hO.2.1 q q0 q1
  intro j
  induction j with
  | zero =>
    intro p acc hp p0 a0 a1 a2
    refine vc_M_latest_14 ?_
    unfold aCsR
    rw [if_neg (by omega)]
    simp (disch := omega) only [zI_add, zI_sub, zI_mul, zI_neg, zI_lit, zI_0, zI_1, zI_lt, zI_le, zI_eq, zI_clamp, zI_inT, zI_ite, mOb_0, mOb_1, mOb_3, mOb_4, mLd_1, mAr_1, mLen_1, mTrue_t, Int.toNat_zero, Int.toNat_one, true_and, and_true, not_true_eq_false, not_false_eq_true, true_or, or_true, or_self, false_or, or_false, forall_const, false_implies, true_implies, implies_true, e2]
    intro z; omega
  | succ j ih =>
    intro p acc hp p0 a0 a1 a2
    obtain ⟨k1, k2, k3⟩ := aTk_char hO (s := s) p0 (show p < bP B by omega) hl hl'
    have k80 : aTk B s p l ≤ 80 := by
      -- nobody tells later
      by_cases w : aTk B s p l = -1
      · omega
      · have h1 := (k3 1022 (by omega) (by omega)).mp ⟨w, k2⟩
        have h2 : aLc B s p 1022 = aLc B s p 80 := by
          unfold aLc
          refine sS_cong _ _ (fun x _ _ => ?_)
          have hs := aShow_rng (t := x) (w := 1) (tm := bF B 9 (5 * x + p)) hO p0 (show p < bP B by omega)
          have hs : aSho B x p 1 = -1 ∨ (1 ≤ aSho B x p 1 ∧ aSho B x p 1 ≤ 80) := hs
          unfold aLe
          by_cases c : aBit s x = 1 ∧ aSho B x p 1 ≠ -1 ∧ aSho B x p 1 ≤ 80
          · rw [if_pos c, if_pos ⟨c.1, c.2.1, by omega⟩]
          · rw [if_neg c, if_neg (fun y => c ⟨y.1, y.2.1, by omega⟩)]
        rw [h2] at h1
        exact ((k3 80 (by omega) (by omega)).mpr h1).2
    refine vc_M_latest_14 ?_
    simp (disch := omega) only [zI_add, zI_sub, zI_mul, zI_neg, zI_lit, zI_0, zI_1, zI_lt, zI_le, zI_eq, zI_clamp, zI_inT, zI_ite, mOb_0, mOb_1, mOb_3, mOb_4, mLd_1, mAr_1, mLen_1, mTrue_t, Int.toNat_zero, Int.toNat_one, true_and, and_true, not_true_eq_false, not_false_eq_true, true_or, or_true, or_self, false_or, or_false, forall_const, false_implies, true_implies, implies_true, e2]
    refine ⟨fun z => by omega, fun _ => ?_⟩
    refine s_M_latest_mid hB hO h32 hl hl' s0 s1 q0 q1 p0 (by omega) (by omega) (by omega) (fun w => ?_) (fun w => ?_) (l + 1).toNat 0 0 0 (by omega) (by omega) (by omega) (by omega) (by omega) (by omega) (fun x x0 x1 => ?_) (fun w => by omega)
    · unfold aCsR; rw [if_pos w, if_pos rfl]
    · have hm : (if bF B 1 q - acc ≤ bF B 1 q - aTk B s p l then bF B 1 q - acc else bF B 1 q - aTk B s p l) = bF B 1 q - aMax acc (aTk B s p l) := by
        unfold aMax; split <;> split <;> omega
      rw [hm]
      unfold aCsR; rw [if_neg w]
      exact ih (p + 1) (aMax acc (aTk B s p l)) (by omega) (by omega) (by unfold aMax; split <;> omega) (by unfold aMax; split <;> omega) (by unfold aMax; split <;> omega)
    · have : sS (aLu B s p x 0) (bT B).toNat 0 = 0 := by
        rw [sS_cong (g := fun _ => 0) _ _ (fun y _ _ => ?_), sS_zero]
        unfold aLu
        have : aBit 0 y = 0 := by unfold aBit; simp
        rw [if_neg (fun w => by omega)]
      have hn : 0 ≤ aLc B s p x := by
        have := sS_le (f := fun _ => 0) (g := aLe B s p x) (bT B).toNat 0 (fun y _ _ => by unfold aLe; split <;> omega)
        rw [sS_zero] at this; exact this
      rw [this]; unfold aMin; split <;> omega
theorem s_M_latest {d : Nat} {h : mHp} {B : tB} (hB : BM h B) (hO : BOk B) {q s l : Int} (h32 : h.1 114 32 = zI l) (hl : 0 ≤ l) (hl' : l ≤ 2) (s0 : 0 ≤ s) (s1 : s < 32) (q0 : 0 ≤ q) (q1 : q < bD B) :
    mRuns (d + 3) 46 0 [some (.ref 114), some (.int (zI q)), some (.int (zI s)), none, none, none, none, none, none, none] [] h (.inl (some (.int (zI (if aCs B s l = -1 then -1 else bF B 1 q - aCs B s l))), h)) := by
  have o := hO.1
  have o2 := hO.2.1 q q0 q1
  obtain ⟨e1, e2, e3, e4, a1, a2, a3, a4, a5, a6, a7, a8, a9, a10⟩ := id hB
  refine vc_M_latest ?_
  simp (disch := omega) only [zI_add, zI_sub, zI_mul, zI_neg, zI_lit, zI_0, zI_1, zI_lt, zI_le, zI_eq, zI_clamp, zI_inT, zI_ite, mOb_0, mOb_1, mOb_3, mOb_4, mLd_1, mAr_1, mLen_1, mTrue_t, Int.toNat_zero, Int.toNat_one, true_and, and_true, not_true_eq_false, not_false_eq_true, true_or, or_true, or_self, false_or, or_false, forall_const, false_implies, true_implies, implies_true, a2]
  have := s_M_latest_loop (d := d) hB hO h32 hl hl' s0 s1 q0 q1 (bP B).toNat 0 0 (by omega) (by omega) (by omega) (by omega) (by omega)
  rw [Int.sub_zero] at this
  exact this
/-- the model's cold of a set for a dish -/
def aKd (B : tB) (l w q s : Int) : Int := if aK B l w s = -1 ∨ bF B 1 q - bF B 0 q < aK B l w s then 100000 else aK B l w s
def bMk (w bm : Int) : Prop := (w = -1 ∧ bm = 0) ∨ (0 ≤ w ∧ w < 5 ∧ bm = aPow w)
theorem bMk_and {w bm s : Int} (h : bMk w bm) (s0 : 0 ≤ s) (s1 : s < 32) : ∃ x, zI s &&& zI bm = zI x ∧ 0 ≤ x ∧ x < 32 ∧ (x = 0 ↔ (0 ≤ w → aBit s w = 0)) := by
  rcases h with ⟨rfl, rfl⟩ | ⟨w0, w1, rfl⟩
  · refine ⟨0, ?_, by omega, by omega, ⟨fun _ z => by omega, fun _ => rfl⟩⟩
    have : zI 0 = nI 0 := rfl
    rw [this, zI_nat s0, nx_and, Nat.and_zero]
  · have hp := aPow_rng w0 w1
    have hb := aBit_01 s w
    refine ⟨_, zI_bitm s0 s1 w0 w1, ?_, ?_, ?_⟩
    · rcases hb with e | e <;> rw [e] <;> omega
    · rcases hb with e | e <;> rw [e] <;> omega
    · rcases hb with e | e
      · rw [e]; exact ⟨fun _ _ => rfl, fun _ => by omega⟩
      · rw [e]; exact ⟨fun z => by omega, fun z => by have := z w0; omega⟩
theorem s_M_colds_good {d : Nat} {h : mHp} {B : tB} (hB : BM h B) (hO : BOk B) {q s : Int} (s0 : 0 ≤ s) (s1 : s < 32) {out : mOut} {P : Prop}
    (hyes : P → (∀ t, 0 ≤ t → t < bT B → aBit s t = 1 → bF B 7 t ≠ 4) → (∃ (x2 : Int32) (h1 : mHp), mRuns (d + 3) 46 0 [some (.ref 114), some (.int (zI q)), some (.int (zI s)), none, none, none, none, none, none, none] [] h (.inl (some (.int x2), h1)) ∧ mRuns (d + 4) 45 101 [some (.ref 114), some (.int (zI q)), some (.int (zI s)), none, none] [.int x2] h1 out))
    (hno : ¬ (P ∧ ∀ t, 0 ≤ t → t < bT B → aBit s t = 1 → bF B 7 t ≠ 4) → mRuns (d + 4) 45 101 [some (.ref 114), some (.int (zI q)), some (.int (zI s)), none, none] [.int (zI (-1))] h out) :
    ∀ (j : Nat) (t g : Int), t + j = bT B → 0 ≤ t → ((g = 1 ∧ P ∧ ∀ u, 0 ≤ u → u < t → aBit s u = 1 → bF B 7 u ≠ 4) ∨ (g = 0 ∧ ¬ (P ∧ ∀ u, 0 ≤ u → u < t → aBit s u = 1 → bF B 7 u ≠ 4))) →
    mRuns (d + 4) 45 40 [some (.ref 114), some (.int (zI q)), some (.int (zI s)), some (.int (zI g)), some (.int (zI t))] [] h out := by
  have o := hO.1
  obtain ⟨e1, e2, e3, e4, a1, a2, a3, a4, a5, a6, a7, a8, a9, a10⟩ := id hB
  intro j
  induction j with
  | zero =>
    intro t g ht t0 hg
    refine vc_M_colds_40 ?_
    have et : t = bT B := by omega
    rw [et] at hg
    rcases hg with ⟨rfl, hg⟩ | ⟨rfl, hg⟩
    · simp (disch := omega) only [zI_add, zI_sub, zI_mul, zI_neg, zI_lit, zI_0, zI_1, zI_lt, zI_le, zI_eq, zI_clamp, zI_inT, zI_ite, mOb_0, mOb_1, mOb_3, mOb_4, mLd_1, mAr_1, mLen_1, mTrue_t, Int.toNat_zero, Int.toNat_one, true_and, and_true, not_true_eq_false, not_false_eq_true, true_or, or_true, or_self, false_or, or_false, forall_const, false_implies, true_implies, implies_true, e3]
      refine ⟨fun _ => ⟨fun z => by omega, fun _ => hyes hg.1 hg.2⟩, fun z => by omega⟩
    · simp (disch := omega) only [zI_add, zI_sub, zI_mul, zI_neg, zI_lit, zI_0, zI_1, zI_lt, zI_le, zI_eq, zI_clamp, zI_inT, zI_ite, mOb_0, mOb_1, mOb_3, mOb_4, mLd_1, mAr_1, mLen_1, mTrue_t, Int.toNat_zero, Int.toNat_one, true_and, and_true, not_true_eq_false, not_false_eq_true, true_or, or_true, or_self, false_or, or_false, forall_const, false_implies, true_implies, implies_true, e3]
      have := hno hg
      repeat' (first | refine And.intro ?_ ?_ | with_reducible intro _)
      all_goals first | omega | exact this
  | succ j ih =>
    intro t g ht t0 hg
    have hb := aBit_01 s t
    have o4 := hO.2.2.2.1 t t0 (by omega)
    refine vc_M_colds_40 ?_
    have step : ∀ u, 0 ≤ u → u < t + 1 → (u < t ∨ u = t) := fun u a b => by omega
    rcases hg with ⟨rfl, hP, hg⟩ | ⟨rfl, hg⟩
    · have good : (aBit s t = 1 → bF B 7 t ≠ 4) → mRuns (d + 4) 45 40 [some (.ref 114), some (.int (zI q)), some (.int (zI s)), some (.int (zI 1)), some (.int (zI (t + 1)))] [] h out := fun y =>
        ih (t + 1) 1 (by omega) (by omega) (Or.inl ⟨rfl, hP, fun u a b e => (step u a b).elim (fun x => hg u a x e) (fun x => by rw [x] at e ⊢; exact y e)⟩)
      simp (disch := omega) only [zI_add, zI_sub, zI_mul, zI_neg, zI_lit, zI_0, zI_1, zI_lt, zI_le, zI_eq, zI_clamp, zI_inT, zI_ite, mOb_0, mOb_1, mOb_3, mOb_4, mLd_1, mAr_1, mLen_1, mTrue_t, Int.toNat_zero, Int.toNat_one, true_and, and_true, not_true_eq_false, not_false_eq_true, true_or, or_true, or_self, false_or, or_false, forall_const, false_implies, true_implies, implies_true, e3, zI_bit, a8]
      refine ⟨fun z => by omega, fun _ => ⟨fun z => by omega, fun _ => ⟨fun z => good (fun y => by omega), fun z => ⟨fun y => ?_, fun y => good (fun _ => y)⟩⟩⟩⟩
      exact ih (t + 1) 0 (by omega) (by omega) (Or.inr ⟨rfl, fun x => x.2 t t0 (by omega) (by omega) y⟩)
    · have bad := ih (t + 1) 0 (by omega) (by omega) (Or.inr ⟨rfl, fun x => hg ⟨x.1, fun u a b e => x.2 u a (by omega) e⟩⟩)
      simp (disch := omega) only [zI_add, zI_sub, zI_mul, zI_neg, zI_lit, zI_0, zI_1, zI_lt, zI_le, zI_eq, zI_clamp, zI_inT, zI_ite, mOb_0, mOb_1, mOb_3, mOb_4, mLd_1, mAr_1, mLen_1, mTrue_t, Int.toNat_zero, Int.toNat_one, true_and, and_true, not_true_eq_false, not_false_eq_true, true_or, or_true, or_self, false_or, or_false, forall_const, false_implies, true_implies, implies_true, e3]
      repeat' (first | refine And.intro ?_ ?_ | with_reducible intro _)
      all_goals first | omega | exact bad
theorem aPow_le {n : Int} (n0 : 0 ≤ n) (n5 : n ≤ 5) : 1 ≤ aPow n ∧ aPow n ≤ 32 := by
  have v := aPow_vals
  have : n = 0 ∨ n = 1 ∨ n = 2 ∨ n = 3 ∨ n = 4 ∨ n = 5 := by omega
  rcases this with rfl | rfl | rfl | rfl | rfl | rfl <;> omega
theorem bits_of {s : Int} (s0 : 0 ≤ s) (s1 : s < 32) : s = aBit s 0 + 2 * aBit s 1 + 4 * aBit s 2 + 8 * aBit s 3 + 16 * aBit s 4 := by
  have v := aPow_vals
  unfold aBit
  rw [v.1, v.2.1, v.2.2.1, v.2.2.2.1, v.2.2.2.2.1]
  omega
/-- a set below 2 to the tasters has no others -/
theorem small_iff {n s : Int} (n0 : 0 ≤ n) (n5 : n ≤ 5) (s0 : 0 ≤ s) (s1 : s < 32) : s < aPow n ↔ ∀ t, n ≤ t → t < 5 → aBit s t = 0 := by
  have v := aPow_vals
  have h := bits_of s0 s1
  have b0 := aBit_01 s 0; have b1 := aBit_01 s 1; have b2 := aBit_01 s 2; have b3 := aBit_01 s 3; have b4 := aBit_01 s 4
  have hn : n = 0 ∨ n = 1 ∨ n = 2 ∨ n = 3 ∨ n = 4 ∨ n = 5 := by omega
  constructor
  · intro hl t t0 t1
    have ht : t = 0 ∨ t = 1 ∨ t = 2 ∨ t = 3 ∨ t = 4 := by omega
    rcases hn with rfl | rfl | rfl | rfl | rfl | rfl <;> rcases ht with rfl | rfl | rfl | rfl | rfl <;> omega
  · intro hz
    rcases hn with rfl | rfl | rfl | rfl | rfl | rfl
    · have := hz 0 (by omega) (by omega); have := hz 1 (by omega) (by omega); have := hz 2 (by omega) (by omega); have := hz 3 (by omega) (by omega); have := hz 4 (by omega) (by omega); omega
    · have := hz 1 (by omega) (by omega); have := hz 2 (by omega) (by omega); have := hz 3 (by omega) (by omega); have := hz 4 (by omega) (by omega); omega
    · have := hz 2 (by omega) (by omega); have := hz 3 (by omega) (by omega); have := hz 4 (by omega) (by omega); omega
    · have := hz 3 (by omega) (by omega); have := hz 4 (by omega) (by omega); omega
    · have := hz 4 (by omega) (by omega); omega
    · omega
theorem free_small {B : tB} (hO : BOk B) {w s : Int} (s0 : 0 ≤ s) (s1 : s < 32) (h : aDif s (aFr B w) = 0) : s < aPow (bT B) := by
  have o := hO.1
  obtain ⟨f0, f1, fS⟩ := aFr_spec hO (w := w)
  refine (small_iff (by omega) (by omega) s0 s1).mpr (fun t t0 t1 => ?_)
  rcases aBit_01 s t with e | e
  · exact e
  · have := (fS t (by omega) t1).mp ((aDif_0 _ _).mp h t (by omega) t1 e); omega
def MC (h : mHp) (B : tB) (l w : Int) : Prop := ∀ q s, 0 ≤ q → q < bD B → 0 ≤ s → s < aPow (bT B) → h.1 125 (32 * q + s).toNat = zI (aKd B l w q s)
theorem s_M_colds_set {d : Nat} {B : tB} (hO : BOk B) {l w bm q : Int} (hl : 0 ≤ l) (hl' : l ≤ 2) (hw : bMk w bm) (q0 : 0 ≤ q) (q1 : q < bD B) : ∀ (j : Nat) (s : Int) (h : mHp), s + j = aPow (bT B) → 0 ≤ s → BM h B → h.1 114 32 = zI l → h.1 114 33 = zI bm → (∀ q' s', 0 ≤ q' → q' < q ∨ (q' = q ∧ s' < s) → 0 ≤ s' → s' < aPow (bT B) → h.1 125 (32 * q' + s').toNat = zI (aKd B l w q' s')) →
    ∃ h', (∀ q' s', 0 ≤ q' → q' < q + 1 → 0 ≤ s' → s' < aPow (bT B) → h'.1 125 (32 * q' + s').toNat = zI (aKd B l w q' s')) ∧ hFr [125] h h' ∧ ∀ out, mRuns (d + 4) 45 2 [some (.ref 114), some (.int (zI (q + 1))), none, none, none] [] h' out → mRuns (d + 4) 45 12 [some (.ref 114), some (.int (zI q)), some (.int (zI s)), none, none] [] h out := by
  have o := hO.1
  have hp := aPow_le o.2.2.2.2.1 o.2.2.2.2.2.1
  have o2 := hO.2.1 q q0 q1
  obtain ⟨f0, f1, fS⟩ := aFr_spec hO (w := w)
  intro j
  induction j with
  | zero =>
    intro s h hs s0 hB h32 h33 hC
    have e3 := hB.2.2.1
    refine ⟨h, fun q' s' a b c e => hC q' s' a (by omega) c e, hFr_refl _ _, fun out r => vc_M_colds_12 ?_⟩
    simp (disch := omega) only [zI_add, zI_sub, zI_mul, zI_neg, zI_lit, zI_0, zI_1, zI_lt, zI_le, zI_eq, zI_clamp, zI_inT, zI_ite, mOb_0, mOb_1, mOb_3, mOb_4, mLd_1, mAr_1, mLen_1, mTrue_t, Int.toNat_zero, Int.toNat_one, true_and, and_true, not_true_eq_false, not_false_eq_true, true_or, or_true, or_self, false_or, or_false, forall_const, false_implies, true_implies, implies_true, e3, zI_shl6]
    exact ⟨fun _ => r, fun z => by omega⟩
  | succ j ih =>
    intro s h hs s0 hB h32 h33 hC
    obtain ⟨e1, e2, e3, e4, a1, a2, a3, a4, a5, a6, a7, a8, a9, a10⟩ := id hB
    have s1 : s < 32 := by omega
    obtain ⟨x, hx, x0, x1, hx0⟩ := bMk_and hw s0 s1
    have kr := aK_rng hO (w := w) (s := s) hl hl'
    have cr := aCsR_rng hO (s := s) hl hl' (bP B).toNat 0 0 (by omega) (by omega) (by omega) (by omega)
    have cr : -1 ≤ aCs B s l ∧ aCs B s l ≤ 1022 := cr
    obtain ⟨h', k1, k2, k3⟩ := ih (s + 1) (mPI h 125 (32 * q + s).toNat (zI (aKd B l w q s))) (by omega) (by omega) (BM_of hB (fun k h1 _ => by rw [hI_ne (by omega)]) (fun k h1 _ => hI_ne (by omega) _ _ _)) (by rw [hI_ne (by omega)]; exact h32) (by rw [hI_ne (by omega)]; exact h33) (fun q' s' a b c e => by
      by_cases y : q' = q ∧ s' = s
      · rw [y.1, y.2, hI_same]
      · rw [hI_off (by omega)]; exact hC q' s' a (by omega) c e)
    refine ⟨h', k1, hFr_trans (hFr_pi (hFr_refl _ _) (by simp) _ _) k2, fun out r => vc_M_colds_12 ?_⟩
    have r := k3 out r
    -- what is stored
    have free : (∀ t, 0 ≤ t → t < bT B → aBit s t = 1 → bF B 7 t ≠ 4) → x = 0 → aDif s (aFr B w) = 0 := fun y z => (aDif_0 _ _).mpr (fun t a b e => (fS t a b).mpr (by
      have tn : t < bT B := by
        apply Classical.byContradiction; intro n
        have := (small_iff (n := bT B) (by omega) (by omega) s0 s1).mp (by omega) t (by omega) b; omega
      refine ⟨tn, fun k => ?_, y t a tn e⟩
      have := (hx0.mp z) (by omega); rw [← k] at this; omega))
    have k101 : ∀ v, (v = -1 ∧ aK B l w s = -1) ∨ (v = bF B 1 q - aK B l w s ∧ aK B l w s ≠ -1) → mRuns (d + 4) 45 101 [some (.ref 114), some (.int (zI q)), some (.int (zI s)), none, none] [.int (zI v)] h out := by
      intro v hv
      refine vc_M_colds_101 ?_
      unfold aKd at r
      simp (disch := omega) only [zI_add, zI_sub, zI_mul, zI_neg, zI_lit, zI_0, zI_1, zI_lt, zI_le, zI_eq, zI_clamp, zI_inT, zI_ite, mOb_0, mOb_1, mOb_3, mOb_4, mLd_1, mAr_1, mLen_1, mTrue_t, Int.toNat_zero, Int.toNat_one, true_and, and_true, not_true_eq_false, not_false_eq_true, true_or, or_true, or_self, false_or, or_false, forall_const, false_implies, true_implies, implies_true, a1, a2]
      rcases hv with ⟨rfl, hv⟩ | ⟨rfl, hv⟩
      · rw [if_pos (Or.inl hv)] at r
        exact ⟨fun y => by omega, fun _ => r⟩
      · refine ⟨fun y => ?_, fun y => ?_⟩
        · rw [if_neg (by omega)] at r
          rw [show bF B 1 q - (bF B 1 q - aK B l w s) = aK B l w s by omega]; exact r
        · rw [if_pos (Or.inr (by omega))] at r; exact r
    have k40 := s_M_colds_good (d := d) (q := q) (s := s) (out := out) (P := x = 0) hB hO s0 s1
      (fun y z => ⟨_, _, s_M_latest hB hO h32 hl hl' s0 s1 q0 q1, k101 _ (by
        have hk : aK B l w s = aCs B s l := by unfold aK; rw [if_pos (free z y)]
        rw [hk]
        by_cases c : aCs B s l = -1
        · rw [if_pos c]; exact Or.inl ⟨rfl, c⟩
        · rw [if_neg c]; exact Or.inr ⟨rfl, c⟩)⟩)
      (fun y => k101 (-1) (Or.inl ⟨rfl, by
        unfold aK; rw [if_neg]
        intro z
        refine y ⟨hx0.mpr (fun w0 => ?_), fun t a b e => ((fS t a (by omega)).mp ((aDif_0 _ _).mp z t a (by omega) e)).2.2⟩
        rcases aBit_01 s w with e | e
        · exact e
        · have w5 : w < 5 := by rcases hw with q | q <;> omega
          have := (fS w w0 w5).mp ((aDif_0 _ _).mp z w w0 w5 e); exact absurd rfl this.2.1⟩))
      (bT B).toNat 0
    simp (disch := omega) only [zI_add, zI_sub, zI_mul, zI_neg, zI_lit, zI_0, zI_1, zI_lt, zI_le, zI_eq, zI_clamp, zI_inT, zI_ite, mOb_0, mOb_1, mOb_3, mOb_4, mLd_1, mAr_1, mLen_1, mTrue_t, Int.toNat_zero, Int.toNat_one, true_and, and_true, not_true_eq_false, not_false_eq_true, true_or, or_true, or_self, false_or, or_false, forall_const, false_implies, true_implies, implies_true, e3, zI_shl6, h33]
    rw [hx]
    simp (disch := omega) only [zI_add, zI_sub, zI_mul, zI_neg, zI_lit, zI_0, zI_1, zI_lt, zI_le, zI_eq, zI_clamp, zI_inT, zI_ite, mOb_0, mOb_1, mOb_3, mOb_4, mLd_1, mAr_1, mLen_1, mTrue_t, Int.toNat_zero, Int.toNat_one, true_and, and_true, not_true_eq_false, not_false_eq_true, true_or, or_true, or_self, false_or, or_false, forall_const, false_implies, true_implies, implies_true]
    refine ⟨fun z => by omega, fun _ => ⟨fun z => k40 0 (by omega) (by omega) (Or.inr ⟨rfl, fun y => z y.1⟩), fun z => k40 1 (by omega) (by omega) (Or.inl ⟨rfl, z, fun u a b => by omega⟩)⟩⟩
theorem s_M_colds {d : Nat} {B : tB} (hO : BOk B) {l w bm : Int} (hl : 0 ≤ l) (hl' : l ≤ 2) (hw : bMk w bm) : ∀ (j : Nat) (q : Int) (h : mHp), q + j = bD B → 0 ≤ q → BM h B → h.1 114 32 = zI l → h.1 114 33 = zI bm → (∀ q' s', 0 ≤ q' → q' < q → 0 ≤ s' → s' < aPow (bT B) → h.1 125 (32 * q' + s').toNat = zI (aKd B l w q' s')) →
    ∃ h', mRuns (d + 4) 45 2 [some (.ref 114), some (.int (zI q)), none, none, none] [] h (.inl (none, h')) ∧ MC h' B l w ∧ hFr [125] h h' := by
  have o := hO.1
  have hp := aPow_le o.2.2.2.2.1 o.2.2.2.2.2.1
  intro j
  induction j with
  | zero =>
    intro q h hq q0 hB h32 h33 hC
    have e1 := hB.1
    refine ⟨h, vc_M_colds_2 ?_, fun q' s' a b c e => hC q' s' a (by omega) c e, hFr_refl _ _⟩
    simp (disch := omega) only [zI_add, zI_sub, zI_mul, zI_neg, zI_lit, zI_0, zI_1, zI_lt, zI_le, zI_eq, zI_clamp, zI_inT, zI_ite, mOb_0, mOb_1, mOb_3, mOb_4, mLd_1, mAr_1, mLen_1, mTrue_t, Int.toNat_zero, Int.toNat_one, true_and, and_true, not_true_eq_false, not_false_eq_true, true_or, or_true, or_self, false_or, or_false, forall_const, false_implies, true_implies, implies_true, e1]
    intro z; omega
  | succ j ih =>
    intro q h hq q0 hB h32 h33 hC
    have e1 := hB.1
    obtain ⟨h1, k1, k2, k3⟩ := s_M_colds_set (d := d) hO hl hl' hw q0 (show q < bD B by omega) (aPow (bT B)).toNat 0 h (by omega) (by omega) hB h32 h33 (fun q' s' a b c e => hC q' s' a (by omega) c e)
    obtain ⟨h', r, p, f⟩ := ih (q + 1) h1 (by omega) (by omega) (BM_of hB (fun k h1 _ => by rw [k2.1 114 (by simp)]) (fun k h1 _ => k2.1 k (by simp; omega))) (by rw [k2.1 114 (by simp)]; exact h32) (by rw [k2.1 114 (by simp)]; exact h33) k1
    refine ⟨h', vc_M_colds_2 ?_, p, hFr_trans k2 f⟩
    have r := k3 _ r
    simp (disch := omega) only [zI_add, zI_sub, zI_mul, zI_neg, zI_lit, zI_0, zI_1, zI_lt, zI_le, zI_eq, zI_clamp, zI_inT, zI_ite, mOb_0, mOb_1, mOb_3, mOb_4, mLd_1, mAr_1, mLen_1, mTrue_t, Int.toNat_zero, Int.toNat_one, true_and, and_true, not_true_eq_false, not_false_eq_true, true_or, or_true, or_self, false_or, or_false, forall_const, false_implies, true_implies, implies_true, e1]
    exact ⟨fun z => by omega, fun _ => r⟩

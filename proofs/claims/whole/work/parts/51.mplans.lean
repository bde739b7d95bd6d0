/-! L3, the model's plans -/
theorem s_M_isLess_loop {d : Nat} {h : mHp} {B : tB} (hB : BM h B) (hO : BOk B) {r p : Int → Int} (hr : aEq (h.1 128) (bD B) r) (hp : aEq (h.1 127) (bD B) p) (hrr : pOn B r) (hpp : pOn B p) : ∀ (j : Nat) (i : Int), i + j = bD B → 0 ≤ i →
    mRuns (d + 1) 52 2 [some (.ref 114), some (.int (zI i))] [] h (.inl (some (.int (zI (aLs r p j i))), h)) := by
  have o := hO.1
  have e1 := hB.1
  intro j
  induction j with
  | zero =>
    intro i hi i0
    refine vc_M_isLess_2 ?_
    unfold aLs
    simp (disch := omega) only [zI_add, zI_sub, zI_mul, zI_neg, zI_lit, zI_0, zI_1, zI_lt, zI_le, zI_eq, zI_clamp, zI_inT, zI_ite, mOb_0, mOb_1, mOb_3, mOb_4, mLd_1, mAr_1, mLen_1, mTrue_t, Int.toNat_zero, Int.toNat_one, true_and, and_true, not_true_eq_false, not_false_eq_true, true_or, or_true, or_self, false_or, or_false, forall_const, false_implies, true_implies, implies_true, e1]
    repeat' (first | refine And.intro ?_ ?_ | with_reducible intro _)
    all_goals first | omega | rfl
  | succ j ih =>
    intro i hi i0
    have nx := ih (i + 1) (by omega) (by omega)
    have r1 := hr i i0 (by omega)
    have p1 := hp i i0 (by omega)
    have r2 := hrr i i0 (by omega)
    have p2 := hpp i i0 (by omega)
    refine vc_M_isLess_2 ?_
    unfold aLs
    simp (disch := omega) only [zI_add, zI_sub, zI_mul, zI_neg, zI_lit, zI_0, zI_1, zI_lt, zI_le, zI_eq, zI_clamp, zI_inT, zI_ite, mOb_0, mOb_1, mOb_3, mOb_4, mLd_1, mAr_1, mLen_1, mTrue_t, Int.toNat_zero, Int.toNat_one, true_and, and_true, not_true_eq_false, not_false_eq_true, true_or, or_true, or_self, false_or, or_false, forall_const, false_implies, true_implies, implies_true, e1, r1, p1]
    refine ⟨fun z => by omega, fun _ => ⟨fun e => ?_, fun e => ⟨fun y => ?_, fun y => ?_⟩⟩⟩
    · rw [if_pos e]; exact nx
    · rw [if_neg e, if_neg (by omega)]
    · rw [if_neg e, if_pos (by omega)]
theorem s_M_isLess {d : Nat} {h : mHp} {B : tB} (hB : BM h B) (hO : BOk B) {r p : Int → Int} (hr : aEq (h.1 128) (bD B) r) (hp : aEq (h.1 127) (bD B) p) (hrr : pOn B r) (hpp : pOn B p) :
    mRuns (d + 1) 52 0 [some (.ref 114), none] [] h (.inl (some (.int (zI (aLs r p (bD B).toNat 0))), h)) := by
  have o := hO.1
  exact vc_M_isLess (s_M_isLess_loop hB hO hr hp hrr hpp (bD B).toNat 0 (by omega) (by omega))
/-- what is in both sets -/
theorem and_of (s f : Int) : ∃ c, 0 ≤ c ∧ c < 32 ∧ ∀ t, 0 ≤ t → t < 5 → aBit c t = if aBit f t = 1 then aBit s t else 0 := by
  have key : ∀ x0 x1 x2 x3 x4 : Int, (x0 = 0 ∨ x0 = 1) → (x1 = 0 ∨ x1 = 1) → (x2 = 0 ∨ x2 = 1) → (x3 = 0 ∨ x3 = 1) → (x4 = 0 ∨ x4 = 1) → ∃ c, 0 ≤ c ∧ c < 32 ∧ aBit c 0 = x0 ∧ aBit c 1 = x1 ∧ aBit c 2 = x2 ∧ aBit c 3 = x3 ∧ aBit c 4 = x4 := by
    intro x0 x1 x2 x3 x4 h0 h1 h2 h3 h4
    refine ⟨x0 + 2 * x1 + 4 * x2 + 8 * x3 + 16 * x4, by omega, by omega, ?_⟩
    have v := aPow_vals
    unfold aBit
    rw [v.1, v.2.1, v.2.2.1, v.2.2.2.1, v.2.2.2.2.1]
    refine ⟨by omega, by omega, by omega, by omega, by omega⟩
  have b : ∀ t, (if aBit f t = 1 then aBit s t else 0) = 0 ∨ (if aBit f t = 1 then aBit s t else 0) = 1 := by
    intro t; split
    · exact aBit_01 s t
    · exact Or.inl rfl
  obtain ⟨c, c0, c1, k0, k1, k2, k3, k4⟩ := key _ _ _ _ _ (b 0) (b 1) (b 2) (b 3) (b 4)
  exact ⟨c, c0, c1, five k0 k1 k2 k3 k4⟩
theorem aL_free {K : Int → Int} {T : Nat → Int} {top f : Int} (hf : ∀ s, 0 ≤ s → s < 32 → K s ≠ -1 → ∀ t, 0 ≤ t → t < 5 → aBit s t = 1 → aBit f t = 1) : ∀ (j : Nat) (c c' : Int → Int), (∀ t, 0 ≤ t → t < 5 → aBit f t = 1 → c t = c' t) → aL K T top j c = aL K T top j c' := by
  intro j
  induction j with
  | zero => intro c c' _; rfl
  | succ j ih =>
    intro c c' h
    unfold aL
    refine aMn_cong _ _ _ (fun s a b => ?_)
    rw [ih (cSub c s) (cSub c' s) (fun t x y z => by unfold cSub; rw [h t x y z])]
    by_cases k : K s = -1
    · rw [if_neg (fun z => z.1 k), if_neg (fun z => z.1 k)]
    · have : okS c s ↔ okS c' s := by
        rw [okS_iff, okS_iff]
        exact ⟨fun z t x y e => by rw [← h t x y (hf s a (by omega) k t x y e)]; exact z t x y e, fun z t x y e => by rw [h t x y (hf s a (by omega) k t x y e)]; exact z t x y e⟩
      simp only [okP, this]
def vMo (B : tB) (l w so : Int) : Int := aL (aK B l w) (tmB B) 100000 (bD B).toNat (cf B so 0)
theorem dig_0 (t : Int) : dig 0 t = 0 := by unfold dig; rw [Int.zero_ediv]; rfl
theorem cf_0 (B : tB) (so : Int) : ∀ t, 0 ≤ t → t < 5 → cf B so 0 t = cC B so t := by
  intro t _ _; unfold cf cC; rw [dig_0, Int.sub_zero]
theorem vMo_two {B : tB} (hO : BOk B) {l w so : Int} (hl : 0 ≤ l) (hl' : l ≤ 2) : (vMo B l w so = 100000 ∧ vCo B l w so = 1023) ∨ (vMo B l w so = vCo B l w so ∧ 0 ≤ vCo B l w so ∧ vCo B l w so < 1023 ∧ ∀ i, 0 ≤ i → aRw (aK B l w) (tmB B) 100000 (bD B).toNat (cf B so 0) i.toNat = rCo B l w so i) := by
  have o := hO.1
  have hK := kOk_B hO (w := w) hl hl'
  have hT : ∀ j, tmB B j ≤ 95 := fun j => (tmB_rng hO j).2
  unfold vMo vCo
  rw [aL_cong _ _ _ (cf_0 B so)]
  have nn := aL_nn hK (T := tmB B) (top := 1023) (by omega) (bD B).toNat (cC B so)
  rcases aL_two hK hT (v := 1023) (v' := 100000) (by omega) (by omega) (bD B).toNat (cC B so) (by omega) with z | z
  · exact Or.inl ⟨z.2, z.1⟩
  · have lt : aL (aK B l w) (tmB B) 1023 (bD B).toNat (cC B so) < 1023 := by omega
    refine Or.inr ⟨z.1.symm, nn, lt, fun i _ => ?_⟩
    rw [aRw_cong _ _ _ _ (cf_0 B so)]
    exact (aRw_two hK hT (by omega) (by omega) _ _ _ (by omega) lt).symm
/-- a company with someone who may not eat has no plan that a smaller one hasn't -/
theorem vCo_and {B : tB} (hO : BOk B) {l w so : Int} (hn : aDif so (aFr B w) ≠ 0) : ∃ c, 0 ≤ c ∧ c < 32 ∧ aDif c (aFr B w) = 0 ∧ aCnt c < aCnt so ∧ vCo B l w c = vCo B l w so := by
  obtain ⟨c, c0, c1, hc⟩ := and_of so (aFr B w)
  refine ⟨c, c0, c1, (aDif_0 _ _).mpr (fun t a b e => ?_), ?_, ?_⟩
  · rw [hc t a b] at e
    by_cases z : aBit (aFr B w) t = 1
    · exact z
    · rw [if_neg z] at e; omega
  · have : ∃ t, 0 ≤ t ∧ t < 5 ∧ aBit so t = 1 ∧ ¬ aBit (aFr B w) t = 1 := by
      apply Classical.byContradiction; intro z
      exact hn ((aDif_0 _ _).mpr (fun t a b e => Classical.byContradiction (fun y => z ⟨t, a, b, e, y⟩)))
    obtain ⟨t, t0, t1, e, ne⟩ := this
    have le : ∀ u, 0 ≤ u → u < 5 → aBit c u ≤ aBit so u := by
      intro u a b; rw [hc u a b]; have := aBit_01 so u; split <;> omega
    have lt : aBit c t < aBit so t := by rw [hc t t0 t1, if_neg ne]; omega
    have l0 := le 0 (by omega) (by omega); have l1 := le 1 (by omega) (by omega); have l2 := le 2 (by omega) (by omega); have l3 := le 3 (by omega) (by omega); have l4 := le 4 (by omega) (by omega)
    unfold aCnt
    have : t = 0 ∨ t = 1 ∨ t = 2 ∨ t = 3 ∨ t = 4 := by omega
    rcases this with rfl | rfl | rfl | rfl | rfl <;> omega
  · unfold vCo
    refine aL_free (f := aFr B w) (fun s a b k t x y e => ?_) _ _ _ (fun t x y e => ?_)
    · have : aDif s (aFr B w) = 0 := by
        apply Classical.byContradiction; intro n
        exact k (by unfold aK; rw [if_neg n])
      exact (aDif_0 _ _).mp this t x y e
    · unfold cC; rw [hc t x y, if_pos e]
theorem fCo_none {B : tB} {l w sz : Int} : ∀ (n : Nat) (co : Int) (st : tP), (fCo B l w sz n co st).1 = 0 → st.1 = 0 ∧ ∀ x, co ≤ x → x < co + n → aDif x (aFr B w) = 0 → aCnt x = sz → ¬ vCo B l w x < 1023 := by
  intro n
  induction n with
  | zero => intro co st h; exact ⟨h, fun x a b => by omega⟩
  | succ n ih =>
    intro co st h
    obtain ⟨k1, k2⟩ := ih (co + 1) _ h
    by_cases c : aDif co (aFr B w) = 0 ∧ aCnt co = sz
    · rw [if_pos c] at k1
      unfold fTry at k1
      by_cases z : vCo B l w co < 1023 ∧ better B (vCo B l w co) (rCo B l w co) st
      · rw [if_pos z] at k1; exact absurd k1 (by show ¬ (1 : Int) = 0; omega)
      · rw [if_neg z] at k1
        refine ⟨k1, fun x a b e f => ?_⟩
        by_cases y : x = co
        · rw [y]; exact fun w => z ⟨w, Or.inl k1⟩
        · exact k2 x (by omega) (by omega) e f
    · rw [if_neg c] at k1
      refine ⟨k1, fun x a b e f => ?_⟩
      by_cases y : x = co
      · rw [y] at e f; exact absurd ⟨e, f⟩ c
      · exact k2 x (by omega) (by omega) e f
theorem fCo_add {B : tB} {l w sz : Int} : ∀ (m n : Nat) (co : Int) (st : tP), fCo B l w sz (m + n) co st = fCo B l w sz n (co + m) (fCo B l w sz m co st) := by
  intro m
  induction m with
  | zero => intro n co st; rw [Nat.zero_add, show co + ((0 : Nat) : Int) = co by omega]; rfl
  | succ m ih =>
    intro n co st
    rw [show m + 1 + n = (m + n) + 1 by omega, show co + ((m + 1 : Nat) : Int) = (co + 1) + m by omega]
    show fCo B l w sz (m + n) (co + 1) _ = _
    rw [ih]
    rfl
theorem fCo_rest {B : tB} (hO : BOk B) {l w sz : Int} : ∀ (n : Nat) (co : Int) (st : tP), aPow (bT B) ≤ co → co + n ≤ 32 → fCo B l w sz n co st = st := by
  have o := hO.1
  have hp := aPow_le o.2.2.2.2.1 o.2.2.2.2.2.1
  intro n
  induction n with
  | zero => intro co st _ _; rfl
  | succ n ih =>
    intro co st h1 h2
    unfold fCo
    rw [if_neg (fun z => by have := free_small hO (by omega) (by omega) z.1; omega)]
    exact ih _ _ (by omega) (by omega)

/-! L3, the class's judge: hearing -/
def aFst (B : tB) (E : tE) (t q p i v : Int) : Int := if eF E 0 i = t ∧ eF E 1 i = q ∧ aSho B t p (eF E 3 i) ≠ -1 ∧ eF E 2 i + aSho B t p (eF E 3 i) < v then eF E 2 i + aSho B t p (eF E 3 i) else v
theorem aFlR_snoc (B : tB) (E : tE) (t q p : Int) : ∀ (j : Nat) (i v : Int), aFlR B E t q p (j + 1) i v = aFst B E t q p (i + j) (aFlR B E t q p j i v) := by
  intro j
  induction j with
  | zero => intro i v; rw [show i + ((0 : Nat) : Int) = i by omega]; rfl
  | succ j ih =>
    intro i v
    have := ih (i + 1) (aFst B E t q p i v)
    rw [show i + 1 + (j : Int) = i + ((j + 1 : Nat) : Int) by omega] at this
    exact this
theorem aFlR_rng {B : tB} {E : tE} (hO : BOk B) (hE : EOk B E) {t q p : Int} (hp : 0 ≤ p) (hp' : p < bP B) {j : Nat} (hj : (j : Int) ≤ eN E) : 0 ≤ aFlR B E t q p j 0 1048576 ∧ aFlR B E t q p j 0 1048576 ≤ 1048576 := by
  have := aFlR_two (t := t) (q := q) hO hE hp hp' j 0 1048576 1048576 (by omega) (by omega) (Or.inl (by omega))
  omega
/-- when t falls by case c, after i events -/
def aGE (B : tB) (E : tE) (i t c : Int) : Int := if c = 0 then 1048576 else aFlR B E t ((c - 1) / bP B) ((c - 1) % bP B) i.toNat 0 1048576
theorem aGE_step {B : tB} {E : tE} {i t c : Int} (hi : 0 ≤ i) : aGE B E (i + 1) t c = if c = 0 then 1048576 else aFst B E t ((c - 1) / bP B) ((c - 1) % bP B) i (aGE B E i t c) := by
  unfold aGE
  rw [show (i + 1).toNat = i.toNat + 1 by omega, aFlR_snoc, show (0 : Int) + (i.toNat : Int) = i by omega]
  by_cases e : c = 0
  · simp only [e, ↓reduceIte]
  · simp only [e, ↓reduceIte]
theorem aGE_rng {B : tB} {E : tE} (hO : BOk B) (hE : EOk B E) {i t c : Int} (hi : 0 ≤ i) (hi' : i ≤ eN E) (hc : 0 ≤ c) (hc' : c < 1 + bD B * bP B) : 0 ≤ aGE B E i t c ∧ aGE B E i t c ≤ 1048576 := by
  have o := hO.1
  unfold aGE
  by_cases e : c = 0
  · rw [if_pos e]; omega
  · rw [if_neg e]
    obtain ⟨k1, k2, k3, k4, k5, k6⟩ := case_split (c := c) (nd := bD B) (np := bP B) (by omega) hc' (by omega) (by omega)
    exact aFlR_rng hO hE k4 k5 (by omega)
theorem aGE_all {B : tB} {E : tE} {t c : Int} : aGE B E (eN E) t c = aFlc 1048576 B E c t := rfl
def FA (h : mHp) (B : tB) (G : Int → Int → Int) : Prop := ∀ t c, 0 ≤ t → t < bT B → 0 ≤ c → c < 1 + bD B * bP B → h.1 88 (t * 31 + c).toNat = zI (G t c)
theorem FA_up {h : mHp} {B : tB} (hO : BOk B) {G : Int → Int → Int} (hF : FA h B G) {t0 c0 v : Int} (h1 : 0 ≤ t0) (h3 : 0 ≤ c0) (h4 : c0 < 31) {G' : Int → Int → Int} (hG : ∀ t c, 0 ≤ t → t < bT B → 0 ≤ c → c < 1 + bD B * bP B → G' t c = if t = t0 ∧ c = c0 then v else G t c) : FA (mPI h 88 (t0 * 31 + c0).toNat (zI v)) B G' := by
  have o := hO.1
  have hr := case_rng (nd := bD B) (np := bP B) (by omega) (by omega) (by omega) (by omega)
  intro t c a1 a2 a3 a4
  rw [hG t c a1 a2 a3 a4]
  by_cases e : t = t0 ∧ c = c0
  · rw [if_pos e, e.1, e.2, hI_same]
  · rw [if_neg e, hI_off (by omega)]; exact hF t c a1 a2 a3 a4
theorem s_Jdg_caseOf {d : Nat} {h : mHp} {b : Nat} {B : tB} (hb : bAd b) (hR : h.2.2.1 87 0 = b) (hB : BC h b B) {q p : Int} :
    mRuns (d + 1) 94 0 [some (.ref 87), some (.int (zI q)), some (.int (zI p))] [] h (.inl (some (.int (zI (1 + q * bP B + p))), h)) := by
  have s0 := (bSh_of hb).1
  have sb := bBl_of hb
  have e4 := hB.2.1
  refine vc_Jdg_caseOf ?_
  simp (disch := omega) only [zI_add, zI_sub, zI_mul, zI_neg, zI_lit, zI_0, zI_1, zI_lt, zI_le, zI_eq, zI_clamp, zI_inT, zI_ite, mOb_0, mOb_1, mOb_3, mOb_4, mLd_1, mAr_1, mLen_1, mTrue_t, Int.toNat_zero, Int.toNat_one, true_and, and_true, not_true_eq_false, not_false_eq_true, true_or, or_true, or_self, false_or, or_false, forall_const, false_implies, true_implies, implies_true, hR, sb, s0, e4]
theorem s_Jdg_hearMeal_loop {d : Nat} {b l : Nat} {B : tB} {E : tE} (hb : bAd b) (hl : lAd l) (hO : BOk B) (hE : EOk B E) {i : Int} (hi : 0 ≤ i) (hi' : i < eN E) (hd : eF E 1 i ≠ -1) {G : Int → Int → Int} (hG : ∀ t c, 0 ≤ t → t < bT B → 0 ≤ c → c < 1 + bD B * bP B → 0 ≤ G t c ∧ G t c ≤ 1048576) : ∀ (j : Nat) (p : Int) (h : mHp), p + j = bP B → 0 ≤ p → h.2.2.1 87 0 = b → h.2.2.1 87 1 = l → BC h b B → LC h l E →
    FA h B (fun t c => if t = eF E 0 i ∧ 1 + eF E 1 i * bP B ≤ c ∧ c < 1 + eF E 1 i * bP B + p then aFst B E t ((c - 1) / bP B) ((c - 1) % bP B) i (G t c) else G t c) →
    ∃ h', mRuns (d + 3) 93 12 [some (.ref 87), some (.int (zI i)), some (.int (zI (eF E 0 i))), some (.int (zI p)), none, none] [] h (.inl (none, h')) ∧ FA h' B (fun t c => if t = eF E 0 i ∧ 1 + eF E 1 i * bP B ≤ c ∧ c < 1 + eF E 1 i * bP B + bP B then aFst B E t ((c - 1) / bP B) ((c - 1) % bP B) i (G t c) else G t c) ∧ hFr [88] h h' := by
  have o := hO.1
  have hr := case_rng (nd := bD B) (np := bP B) (by omega) (by omega) (by omega) (by omega)
  have hh := hE.2.1 i hi hi'
  have hn := hE.1
  obtain ⟨s0, s1, s2, s3, s4, s5, s6, s7, s8, s9, s10⟩ := bSh_of hb
  obtain ⟨t0, t1, t2, t3, t4, t5⟩ := lSh_of hl
  have sb := bBl_of hb
  have tb := lBl_of hl
  intro j
  induction j with
  | zero =>
    intro p h hp h0 hR0 hR1 hB hL hF
    have e4 := hB.2.1
    refine ⟨h, vc_Jdg_hearMeal_12 ?_, ?_, hFr_refl _ _⟩
    · simp (disch := omega) only [zI_add, zI_sub, zI_mul, zI_neg, zI_lit, zI_0, zI_1, zI_lt, zI_le, zI_eq, zI_clamp, zI_inT, zI_ite, mOb_0, mOb_1, mOb_3, mOb_4, mLd_1, mAr_1, mLen_1, mTrue_t, Int.toNat_zero, Int.toNat_one, true_and, and_true, not_true_eq_false, not_false_eq_true, true_or, or_true, or_self, false_or, or_false, forall_const, false_implies, true_implies, implies_true, hR0, hR1, sb, s0, e4]
      repeat' (first | refine And.intro ?_ ?_ | with_reducible intro _)
      all_goals first | omega | rfl
    · have : p = bP B := by omega
      rw [this] at hF; exact hF
  | succ j ih =>
    intro p h hp h0 hR0 hR1 hB hL hF
    have e4 := hB.2.1
    obtain ⟨⟨l0, l1, l2, l3, l4⟩, l5⟩ := id hL
    have hs := aShow_rng (t := eF E 0 i) (w := eF E 3 i) (tm := bF B 9 (5 * eF E 0 i + p)) hO h0 (by omega)
    have hs : aSho B (eF E 0 i) p (eF E 3 i) = -1 ∨ (1 ≤ aSho B (eF E 0 i) p (eF E 3 i) ∧ aSho B (eF E 0 i) p (eF E 3 i) ≤ 80) := hs
    obtain ⟨c1, c2, c3, c4⟩ := case_join (nd := bD B) (np := bP B) (q := eF E 1 i) (p := p) (by omega) (by omega) h0 (by omega) (by omega)
    have hg := hG (eF E 0 i) (1 + eF E 1 i * bP B + p) (by omega) (by omega) (by omega) (by omega)
    have hf := hF (eF E 0 i) (1 + eF E 1 i * bP B + p) (by omega) (by omega) (by omega) (by omega)
    have hf : h.1 88 (eF E 0 i * 31 + (1 + eF E 1 i * bP B + p)).toNat = zI (G (eF E 0 i) (1 + eF E 1 i * bP B + p)) := by
      rw [hf]; show zI (if _ then _ else _) = _; rw [if_neg (by omega)]
    have key : ∃ h', mRuns (d + 3) 93 46 [some (.ref 87), some (.int (zI i)), some (.int (zI (eF E 0 i))), some (.int (zI p)), none, none] [.int (zI (eF E 3 i)), .int (zI p), .int (zI (eF E 0 i)), .ref b] h (.inl (none, h')) ∧ FA h' B (fun t c => if t = eF E 0 i ∧ 1 + eF E 1 i * bP B ≤ c ∧ c < 1 + eF E 1 i * bP B + bP B then aFst B E t ((c - 1) / bP B) ((c - 1) % bP B) i (G t c) else G t c) ∧ hFr [88] h h' := by
      by_cases hz : aSho B (eF E 0 i) p (eF E 3 i) = -1
      · obtain ⟨h', r, F, f⟩ := ih (p + 1) h (by omega) (by omega) hR0 hR1 hB hL (by
          intro t c a1 a2 a3 a4
          rw [hF t c a1 a2 a3 a4]
          show zI (if _ then _ else _) = zI (if _ then _ else _)
          by_cases e : t = eF E 0 i ∧ c = 1 + eF E 1 i * bP B + p
          · rw [if_neg (by omega), if_pos (by omega), e.1, e.2, c3, c4]
            unfold aFst; rw [if_neg (by omega)]
          · by_cases e2 : t = eF E 0 i ∧ 1 + eF E 1 i * bP B ≤ c ∧ c < 1 + eF E 1 i * bP B + p
            · rw [if_pos e2, if_pos (by omega)]
            · rw [if_neg e2, if_neg (by omega)])
        refine ⟨h', vc_Jdg_hearMeal_46 ?_, F, f⟩
        simp (disch := omega) only [zI_add, zI_sub, zI_mul, zI_neg, zI_lit, zI_0, zI_1, zI_lt, zI_le, zI_eq, zI_clamp, zI_inT, zI_ite, mOb_0, mOb_1, mOb_3, mOb_4, mLd_1, mAr_1, mLen_1, mTrue_t, Int.toNat_zero, Int.toNat_one, true_and, and_true, not_true_eq_false, not_false_eq_true, true_or, or_true, or_self, false_or, or_false, forall_const, false_implies, true_implies, implies_true, s0]
        refine ⟨_, _, s_Brd_show hb hB hO (by omega) (by omega) h0 (by omega) (by omega) (by omega), ?_⟩
        simp (disch := omega) only [zI_add, zI_sub, zI_mul, zI_neg, zI_lit, zI_0, zI_1, zI_lt, zI_le, zI_eq, zI_clamp, zI_inT, zI_ite, mOb_0, mOb_1, mOb_3, mOb_4, mLd_1, mAr_1, mLen_1, mTrue_t, Int.toNat_zero, Int.toNat_one, true_and, and_true, not_true_eq_false, not_false_eq_true, true_or, or_true, or_self, false_or, or_false, forall_const, false_implies, true_implies, implies_true, hz]
        repeat' (first | refine And.intro ?_ ?_ | with_reducible intro _)
        all_goals first | omega | exact r
      · obtain ⟨h', r, F, f⟩ := ih (p + 1) (mPI h 88 (eF E 0 i * 31 + (1 + eF E 1 i * bP B + p)).toNat (zI (if eF E 2 i + aSho B (eF E 0 i) p (eF E 3 i) < G (eF E 0 i) (1 + eF E 1 i * bP B + p) then eF E 2 i + aSho B (eF E 0 i) p (eF E 3 i) else G (eF E 0 i) (1 + eF E 1 i * bP B + p)))) (by omega) (by omega) hR0 hR1 (BC_of hB (fun k hk => hI_ne (by rcases hb with rfl | rfl <;> omega) _ _ _)) (LC_of hL (fun k hk => hI_ne (by rcases hl with rfl | rfl <;> omega) _ _ _)) (FA_up hO hF (by omega) (by omega) (by omega) (by
          intro t c a1 a2 a3 a4
          show (if _ then _ else _) = (if _ then _ else if _ then _ else _)
          by_cases e : t = eF E 0 i ∧ c = 1 + eF E 1 i * bP B + p
          · rw [if_pos (by omega), if_pos e, e.1, e.2, c3, c4]
            unfold aFst
            simp only [true_and, ne_eq, hz, not_false_eq_true]
          · by_cases e2 : t = eF E 0 i ∧ 1 + eF E 1 i * bP B ≤ c ∧ c < 1 + eF E 1 i * bP B + p
            · rw [if_pos (by omega), if_neg e, if_pos e2]
            · rw [if_neg (by omega), if_neg e, if_neg e2]))
        refine ⟨h', vc_Jdg_hearMeal_46 ?_, F, hFr_trans (hFr_pi (hFr_refl _ _) (by simp) _ _) f⟩
        simp (disch := omega) only [zI_add, zI_sub, zI_mul, zI_neg, zI_lit, zI_0, zI_1, zI_lt, zI_le, zI_eq, zI_clamp, zI_inT, zI_ite, mOb_0, mOb_1, mOb_3, mOb_4, mLd_1, mAr_1, mLen_1, mTrue_t, Int.toNat_zero, Int.toNat_one, true_and, and_true, not_true_eq_false, not_false_eq_true, true_or, or_true, or_self, false_or, or_false, forall_const, false_implies, true_implies, implies_true, s0]
        refine ⟨_, _, s_Brd_show hb hB hO (by omega) (by omega) h0 (by omega) (by omega) (by omega), ?_⟩
        simp (disch := omega) only [zI_add, zI_sub, zI_mul, zI_neg, zI_lit, zI_0, zI_1, zI_lt, zI_le, zI_eq, zI_clamp, zI_inT, zI_ite, mOb_0, mOb_1, mOb_3, mOb_4, mLd_1, mAr_1, mLen_1, mTrue_t, Int.toNat_zero, Int.toNat_one, true_and, and_true, not_true_eq_false, not_false_eq_true, true_or, or_true, or_self, false_or, or_false, forall_const, false_implies, true_implies, implies_true, hR1, tb, t0, t2, l2]
        refine ⟨fun z => absurd z hz, fun _ => ⟨_, _, s_Jdg_caseOf hb hR0 hB, ?_⟩⟩
        simp (disch := omega) only [zI_add, zI_sub, zI_mul, zI_neg, zI_lit, zI_0, zI_1, zI_lt, zI_le, zI_eq, zI_clamp, zI_inT, zI_ite, mOb_0, mOb_1, mOb_3, mOb_4, mLd_1, mAr_1, mLen_1, mTrue_t, Int.toNat_zero, Int.toNat_one, true_and, and_true, not_true_eq_false, not_false_eq_true, true_or, or_true, or_self, false_or, or_false, forall_const, false_implies, true_implies, implies_true, hR1, tb, t0, t3, l3, hf]
        exact r
    obtain ⟨h', r, F, f⟩ := key
    refine ⟨h', vc_Jdg_hearMeal_12 ?_, F, f⟩
    simp (disch := omega) only [zI_add, zI_sub, zI_mul, zI_neg, zI_lit, zI_0, zI_1, zI_lt, zI_le, zI_eq, zI_clamp, zI_inT, zI_ite, mOb_0, mOb_1, mOb_3, mOb_4, mLd_1, mAr_1, mLen_1, mTrue_t, Int.toNat_zero, Int.toNat_one, true_and, and_true, not_true_eq_false, not_false_eq_true, true_or, or_true, or_self, false_or, or_false, forall_const, false_implies, true_implies, implies_true, hR0, hR1, sb, tb, s0, t0, t4, e4, l4]
    refine ⟨fun z => by omega, fun _ => ⟨fun z => ?_, fun z => ?_⟩⟩
    · rw [z] at r; exact r
    · have e : eF E 3 i = 1 := by omega
      rw [e] at r; exact r
theorem s_Jdg_hearMeal {d : Nat} {h : mHp} {b l : Nat} {B : tB} {E : tE} (hb : bAd b) (hl : lAd l) (hO : BOk B) (hE : EOk B E) {i : Int} (hi : 0 ≤ i) (hi' : i < eN E) (hd : eF E 1 i ≠ -1) (hR0 : h.2.2.1 87 0 = b) (hR1 : h.2.2.1 87 1 = l) (hB : BC h b B) (hL : LC h l E) (hF : FA h B (aGE B E i)) :
    ∃ h', mRuns (d + 3) 93 0 [some (.ref 87), some (.int (zI i)), none, none, none, none] [] h (.inl (none, h')) ∧ FA h' B (aGE B E (i + 1)) ∧ hFr [88] h h' := by
  have o := hO.1
  have hh := hE.2.1 i hi hi'
  have hn := hE.1
  obtain ⟨t0, t1, t2, t3, t4, t5⟩ := lSh_of hl
  have tb := lBl_of hl
  obtain ⟨⟨l0, l1, l2, l3, l4⟩, l5⟩ := id hL
  obtain ⟨h', r, F, f⟩ := s_Jdg_hearMeal_loop (d := d) hb hl hO hE hi hi' hd (G := aGE B E i) (fun t c a1 a2 a3 a4 => aGE_rng hO hE hi (by omega) a3 a4) (bP B).toNat 0 h (by omega) (by omega) hR0 hR1 hB hL (by
    intro t c a1 a2 a3 a4
    rw [hF t c a1 a2 a3 a4]
    show _ = zI (if _ then _ else _)
    rw [if_neg (by omega)])
  refine ⟨h', vc_Jdg_hearMeal ?_, ?_, f⟩
  · simp (disch := omega) only [zI_add, zI_sub, zI_mul, zI_neg, zI_lit, zI_0, zI_1, zI_lt, zI_le, zI_eq, zI_clamp, zI_inT, zI_ite, mOb_0, mOb_1, mOb_3, mOb_4, mLd_1, mAr_1, mLen_1, mTrue_t, Int.toNat_zero, Int.toNat_one, true_and, and_true, not_true_eq_false, not_false_eq_true, true_or, or_true, or_self, false_or, or_false, forall_const, false_implies, true_implies, implies_true, hR1, tb, t0, t1, l1]
    exact r
  · intro t c a1 a2 a3 a4
    rw [F t c a1 a2 a3 a4, aGE_step hi]
    show zI (if _ then _ else _) = _
    by_cases e : c = 0
    · have : ¬ (t = eF E 0 i ∧ 1 + eF E 1 i * bP B ≤ c ∧ c < 1 + eF E 1 i * bP B + bP B) := by
        have := (case_rng (nd := eF E 1 i) (np := bP B) (by omega) (by omega) (by omega) (by omega)).1
        omega
      rw [if_neg this, if_pos e]; unfold aGE; rw [if_pos e]
    · rw [if_neg e]
      obtain ⟨k1, k2, k3, k4, k5, k6⟩ := case_split (c := c) (nd := bD B) (np := bP B) (by omega) a4 (by omega) (by omega)
      by_cases e2 : t = eF E 0 i ∧ 1 + eF E 1 i * bP B ≤ c ∧ c < 1 + eF E 1 i * bP B + bP B
      · rw [if_pos e2]
      · rw [if_neg e2]
        have : ¬ (eF E 0 i = t ∧ eF E 1 i = (c - 1) / bP B) := by
          intro z
          rw [z.1, z.2] at e2
          omega
        unfold aFst; rw [if_neg (fun z => this ⟨z.1, z.2.1⟩)]
/-- the class's frame: rows of the list; where the judge and the planner look is free -/
def cFr (l : List Nat) (h h' : mHp) : Prop := (∀ x, x ∉ l → h'.1 x = h.1 x) ∧ h'.2.1 = h.2.1 ∧ (∀ x, x ≠ 87 → x ≠ 26 → h'.2.2.1 x = h.2.2.1 x) ∧ h'.2.2.2 = h.2.2.2
theorem cFr_of {l : List Nat} {h h' : mHp} (f : hFr l h h') : cFr l h h' := ⟨f.1, by rw [f.2], fun x _ _ => by rw [f.2], by rw [f.2]⟩
theorem cFr_trans {l : List Nat} {h h1 h2 : mHp} (a : cFr l h h1) (b : cFr l h1 h2) : cFr l h h2 := ⟨fun x hx => (b.1 x hx).trans (a.1 x hx), b.2.1.trans a.2.1, fun x h1 h2 => (b.2.2.1 x h1 h2).trans (a.2.2.1 x h1 h2), b.2.2.2.trans a.2.2.2⟩
theorem cFr_mono {l l' : List Nat} {h h' : mHp} (a : cFr l h h') (hl : ∀ x, x ∈ l → x ∈ l') : cFr l' h h' := ⟨fun x hx => a.1 x (fun z => hx (hl x z)), a.2⟩
theorem cFr_refl (l : List Nat) (h : mHp) : cFr l h h := ⟨fun _ _ => rfl, rfl, fun _ _ _ => rfl, rfl⟩
theorem s_Jdg_fit_loop {d : Nat} {h : mHp} {b l : Nat} {B : tB} {E : tE} (hb : bAd b) (hl : lAd l) (hO : BOk B) (hE : EOk B E) (hR0 : h.2.2.1 87 0 = b) (hR1 : h.2.2.1 87 1 = l) (hB : BC h b B) (hL : LC h l E) (hF : FA h B (fun t c => aFlc 1048576 B E c t)) {c q k : Int} (hk : 0 ≤ k) (hk' : k ≤ 2000) (hN : h.1 87 2 = zI k) (hc : 0 ≤ c) (hc' : c < 1 + bD B * bP B) (hq : 0 ≤ q) (hq' : q < 1 + bD B * bP B) : ∀ (j : Nat) (t : Int), t + j = bT B → 0 ≤ t →
    mRuns (d + 1) 95 2 [some (.ref 87), some (.int (zI c)), some (.int (zI q)), some (.int (zI t)), none, none, none, none] [] h (.inl (some (.int (zI (aFitR 1048576 B E k c q j t))), h)) := by
  have o := hO.1
  have hr := case_rng (nd := bD B) (np := bP B) (by omega) (by omega) (by omega) (by omega)
  obtain ⟨s0, s1, s2, s3, s4, s5, s6, s7, s8, s9, s10⟩ := bSh_of hb
  obtain ⟨t0, t1, t2, t3, t4, t5⟩ := lSh_of hl
  have sb := bBl_of hb
  have tb := lBl_of hl
  obtain ⟨⟨l0, l1, l2, l3, l4⟩, l5⟩ := id hL
  obtain ⟨e0, e4, e9, e13, a1, a2, a3, a4, a5, a6, a7, a8, a9, a10⟩ := id hB
  intro j
  induction j with
  | zero =>
    intro t hi h0
    refine vc_Jdg_fitTogether_2 ?_
    simp (disch := omega) only [zI_add, zI_sub, zI_mul, zI_neg, zI_lit, zI_0, zI_1, zI_lt, zI_le, zI_eq, zI_clamp, zI_inT, zI_ite, mOb_0, mOb_1, mOb_3, mOb_4, mLd_1, mAr_1, mLen_1, mTrue_t, Int.toNat_zero, Int.toNat_one, true_and, and_true, not_true_eq_false, not_false_eq_true, true_or, or_true, or_self, false_or, or_false, forall_const, false_implies, true_implies, implies_true, hR0, sb, s0, e9]
    repeat' (first | refine And.intro ?_ ?_ | with_reducible intro _)
    all_goals first | omega | rfl
  | succ j ih =>
    intro t hi h0
    have hrr := ih (t + 1) (by omega) (by omega)
    have o4 := hO.2.2.2.1 t h0 (by omega)
    have x1 := aFlc_two (t := t) hO hE hc hc' (v := 1048576) (v' := 1048576) (by omega) (by omega) (by omega) (by omega)
    have x2 := aFlc_two (t := t) hO hE hq hq' (v := 1048576) (v' := 1048576) (by omega) (by omega) (by omega) (by omega)
    have x3 := aFell_rng hE t
    have f1 := hF t c h0 (by omega) hc hc'
    have f2 := hF t q h0 (by omega) hq hq'
    have h88 : ∀ s, (s = 0 ∨ s = 1) → (s = 1 ↔ ((aFell E t = -1 ∧ k < aMin (aFlc 1048576 B E c t) (aFlc 1048576 B E q t)) ∨ (aFell E t ≠ -1 ∧ aMin (aFlc 1048576 B E c t) (aFlc 1048576 B E q t) = aFell E t))) → mRuns (d + 1) 95 88 [some (.ref 87), some (.int (zI c)), some (.int (zI q)), some (.int (zI t)), none, none, none, none] [.int (zI s)] h (.inl (some (.int (zI (aFitR 1048576 B E k c q (j + 1) t))), h)) := by
      intro s hs hs2
      refine vc_Jdg_fitTogether_88 ?_
      unfold aFitR
      simp (disch := omega) only [zI_add, zI_sub, zI_mul, zI_neg, zI_lit, zI_0, zI_1, zI_lt, zI_le, zI_eq, zI_clamp, zI_inT, zI_ite, mOb_0, mOb_1, mOb_3, mOb_4, mLd_1, mAr_1, mLen_1, mTrue_t, Int.toNat_zero, Int.toNat_one, true_and, and_true, not_true_eq_false, not_false_eq_true, true_or, or_true, or_self, false_or, or_false, forall_const, false_implies, true_implies, implies_true, hR0, sb, s0, s8, a8]
      refine ⟨fun z => ?_, fun z => ⟨fun y => ?_, fun y => ?_⟩⟩
      · rw [if_pos (Or.inl z)]; exact hrr
      · rw [if_pos (Or.inr (hs2.mp (by omega)))]; exact hrr
      · rw [if_neg (fun x => x.elim z (fun x => by have := hs2.mpr x; omega))]
    refine vc_Jdg_fitTogether_2 ?_
    have xm : 0 ≤ aMin (aFlc 1048576 B E c t) (aFlc 1048576 B E q t) ∧ aMin (aFlc 1048576 B E c t) (aFlc 1048576 B E q t) ≤ 1048576 := by unfold aMin; split <;> omega
    simp (disch := omega) only [zI_add, zI_sub, zI_mul, zI_neg, zI_lit, zI_0, zI_1, zI_lt, zI_le, zI_eq, zI_clamp, zI_inT, zI_ite, mOb_0, mOb_1, mOb_3, mOb_4, mLd_1, mAr_1, mLen_1, mTrue_t, Int.toNat_zero, Int.toNat_one, true_and, and_true, not_true_eq_false, not_false_eq_true, true_or, or_true, or_self, false_or, or_false, forall_const, false_implies, true_implies, implies_true, hR0, hR1, sb, tb, s0, t0, t5, e9, l5, f1, f2, hN]
    rw [show (if aFlc 1048576 B E q t < aFlc 1048576 B E c t then aFlc 1048576 B E q t else aFlc 1048576 B E c t) = aMin (aFlc 1048576 B E c t) (aFlc 1048576 B E q t) from rfl]
    generalize aMin (aFlc 1048576 B E c t) (aFlc 1048576 B E q t) = m at xm h88 ⊢
    refine ⟨fun z => by omega, fun _ => ⟨fun z => ⟨fun y => h88 0 (by omega) (by omega), fun y => h88 1 (by omega) (by omega)⟩, fun z => ⟨fun y => h88 0 (by omega) (by omega), fun y => h88 1 (by omega) (by omega)⟩⟩⟩
theorem s_Jdg_fit {d : Nat} {h : mHp} {b l : Nat} {B : tB} {E : tE} (hb : bAd b) (hl : lAd l) (hO : BOk B) (hE : EOk B E) (hR0 : h.2.2.1 87 0 = b) (hR1 : h.2.2.1 87 1 = l) (hB : BC h b B) (hL : LC h l E) (hF : FA h B (fun t c => aFlc 1048576 B E c t)) {c q k : Int} (hk : 0 ≤ k) (hk' : k ≤ 2000) (hN : h.1 87 2 = zI k) (hc : 0 ≤ c) (hc' : c < 1 + bD B * bP B) (hq : 0 ≤ q) (hq' : q < 1 + bD B * bP B) :
    mRuns (d + 1) 95 0 [some (.ref 87), some (.int (zI c)), some (.int (zI q)), none, none, none, none, none] [] h (.inl (some (.int (zI (aFit 100000 B E k c q))), h)) := by
  have o := hO.1
  refine vc_Jdg_fitTogether ?_
  simp (disch := omega) only [zI_add, zI_sub, zI_mul, zI_neg, zI_lit, zI_0, zI_1, zI_lt, zI_le, zI_eq, zI_clamp, zI_inT, zI_ite, mOb_0, mOb_1, mOb_3, mOb_4, mLd_1, mAr_1, mLen_1, mTrue_t, Int.toNat_zero, Int.toNat_one, true_and, and_true, not_true_eq_false, not_false_eq_true, true_or, or_true, or_self, false_or, or_false, forall_const, false_implies, true_implies, implies_true]
  rw [← aFit_two hO hE hk' hc hc' hq hq']
  exact s_Jdg_fit_loop hb hl hO hE hR0 hR1 hB hL hF hk hk' hN hc hc' hq hq' (bT B).toNat 0 (by omega) (by omega)

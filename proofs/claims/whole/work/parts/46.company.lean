/-! L3, the class tries a company, whole -/
/-- a plan found so far: whether, how many tasters, cold, sets -/
abbrev tP : Type := Int × Int × Int × (Int → Int)
def pOn (B : tB) (ps : Int → Int) : Prop := ∀ i, 0 ≤ i → i < bD B → 0 ≤ ps i ∧ ps i < 32
def PX (h : mHp) (a : Nat) (B : tB) (st : tP) : Prop := (h.1 a 0 = zI 1 ∧ h.1 a 1 = zI st.1) ∧ (st.1 = 0 ∨ st.1 = 1) ∧ (st.1 = 1 → h.1 a 2 = zI st.2.1 ∧ h.1 a 3 = zI st.2.2.1 ∧ 0 ≤ st.2.2.1 ∧ st.2.2.1 ≤ 1023 ∧ aEq (h.1 (a + 1)) (bD B) st.2.2.2 ∧ pOn B st.2.2.2)
theorem PX_of {h h' : mHp} {a : Nat} {B : tB} {st : tP} (hP : PX h a B st) (e0 : h'.1 a = h.1 a) (e1 : h'.1 (a + 1) = h.1 (a + 1)) : PX h' a B st := by unfold PX at hP ⊢; rw [e0, e1]; exact hP
def vCo (B : tB) (l w co : Int) : Int := aL (aK B l w) (tmB B) 1023 (bD B).toNat (cC B co)
def rCo (B : tB) (l w co : Int) : Int → Int := fun i => aRw (aK B l w) (tmB B) 1023 (bD B).toNat (cC B co) i.toNat
abbrev better (B : tB) (v : Int) (r : Int → Int) (st : tP) : Prop := st.1 = 0 ∨ v < st.2.2.1 ∨ (v = st.2.2.1 ∧ aLs r st.2.2.2 (bD B).toNat 0 = 1)
def fTry (B : tB) (l w : Int) (st : tP) (co : Int) : tP := if vCo B l w co < 1023 ∧ better B (vCo B l w co) (rCo B l w co) st then (1, aCnt co, vCo B l w co, rCo B l w co) else st
/-- from pc 100 on: the value and the row are there -/
theorem s_Pln_try_end {d : Nat} {h : mHp} {b a : Nat} (hb : bAd b) {B : tB} (hO : BOk B) (hR : h.2.2.1 26 1 = b) (hB : BC h b B) (ha : pAd a) {co v : Int} {r : Int → Int} {st : tP} (c0 : 0 ≤ co) (c1 : co < 32) (v0 : 0 ≤ v) (v1 : v < 1023) (hr : aEq (h.1 31) (bD B) r) (hrr : pOn B r) (hP : PX h a B st) :
    ∃ h', mRuns (d + 2) 111 100 [some (.ref 26), some (.int (zI co)), some (.ref a), some (.int (zI (bD B))), none, some (.int (zI v))] [] h (.inl (none, h')) ∧ PX h' a B (if better B v r st then (1, aCnt co, v, r) else st) ∧ hFr [a, a + 1] h h' := by
  have o := hO.1
  have pr := pAd_rng ha
  obtain ⟨p0, p1, p2⟩ := pSh_of ha
  obtain ⟨⟨q0, q1⟩, q2, q3⟩ := id hP
  have hc := aCnt_rng co
  have k136 : ∃ h', mRuns (d + 2) 111 136 [some (.ref 26), some (.int (zI co)), some (.ref a), some (.int (zI (bD B))), none, some (.int (zI v))] [] h (.inl (none, h')) ∧ PX h' a B (1, aCnt co, v, r) ∧ hFr [a, a + 1] h h' := by
    refine ⟨mCp (mPI (mPI (mPI h a 1 (zI 1)) a 2 (zI (aCnt co))) a 3 (zI v)) 31 0 (a + 1) 0 (bD B).toNat, vc_Pln_tryCompany_136 ?_, ⟨⟨?_, ?_⟩, Or.inr rfl, fun _ => ⟨?_, ?_, v0, by show v ≤ 1023; omega, ?_, hrr⟩⟩, ?_⟩
    · simp (disch := omega) only [zI_add, zI_sub, zI_mul, zI_neg, zI_lit, zI_0, zI_1, zI_lt, zI_le, zI_eq, zI_clamp, zI_inT, zI_ite, mOb_0, mOb_1, mOb_3, mOb_4, mLd_1, mAr_1, mLen_1, mTrue_t, Int.toNat_zero, Int.toNat_one, true_and, and_true, not_true_eq_false, not_false_eq_true, true_or, or_true, or_self, false_or, or_false, forall_const, false_implies, true_implies, implies_true, p0]
      refine ⟨_, _, s_bitCount c0 c1, ?_⟩
      simp (disch := omega) only [zI_add, zI_sub, zI_mul, zI_neg, zI_lit, zI_0, zI_1, zI_lt, zI_le, zI_eq, zI_clamp, zI_inT, zI_ite, mOb_0, mOb_1, mOb_3, mOb_4, mLd_1, mAr_1, mLen_1, mTrue_t, Int.toNat_zero, Int.toNat_one, true_and, and_true, not_true_eq_false, not_false_eq_true, true_or, or_true, or_self, false_or, or_false, forall_const, false_implies, true_implies, implies_true, p0, p1, Nat.zero_add]
      refine ⟨by omega, by omega, by omega, by omega, by omega⟩
    · simp (disch := omega) only [hC_ne, hI_off]; exact q0
    · simp (disch := omega) only [hC_ne, hI_off, hI_same]
    · simp (disch := omega) only [hC_ne, hI_off, hI_same]
    · simp (disch := omega) only [hC_ne, hI_off, hI_same]
    · intro i i0 i1
      simp (disch := omega) only [hC_in0, hI_ne]
      exact hr i i0 i1
    · exact hFr_cp (hFr_pi (hFr_pi (hFr_pi (hFr_refl _ _) (by simp) _ _) (by simp) _ _) (by simp) _ _) (by simp) _ _ _ _
  obtain ⟨h', r', g', f'⟩ := k136
  rcases q2 with e | e
  · rw [if_pos (Or.inl e)]
    refine ⟨h', vc_Pln_tryCompany_100 ?_, g', f'⟩
    simp (disch := omega) only [zI_add, zI_sub, zI_mul, zI_neg, zI_lit, zI_0, zI_1, zI_lt, zI_le, zI_eq, zI_clamp, zI_inT, zI_ite, mOb_0, mOb_1, mOb_3, mOb_4, mLd_1, mAr_1, mLen_1, mTrue_t, Int.toNat_zero, Int.toNat_one, true_and, and_true, not_true_eq_false, not_false_eq_true, true_or, or_true, or_self, false_or, or_false, forall_const, false_implies, true_implies, implies_true, p0, q1, e]
    repeat' (first | refine And.intro ?_ ?_ | with_reducible intro _)
    all_goals first | omega | exact r'
  · obtain ⟨g1, g2, g3, g4, g5, g6⟩ := q3 e
    have l01 := aLs_01 r st.2.2.2 (bD B).toNat 0
    by_cases c : v < st.2.2.1
    · rw [if_pos (Or.inr (Or.inl c))]
      refine ⟨h', vc_Pln_tryCompany_100 ?_, g', f'⟩
      simp (disch := omega) only [zI_add, zI_sub, zI_mul, zI_neg, zI_lit, zI_0, zI_1, zI_lt, zI_le, zI_eq, zI_clamp, zI_inT, zI_ite, mOb_0, mOb_1, mOb_3, mOb_4, mLd_1, mAr_1, mLen_1, mTrue_t, Int.toNat_zero, Int.toNat_one, true_and, and_true, not_true_eq_false, not_false_eq_true, true_or, or_true, or_self, false_or, or_false, forall_const, false_implies, true_implies, implies_true, p0, q1, e, g2]
      repeat' (first | refine And.intro ?_ ?_ | with_reducible intro _)
      all_goals first | omega | exact r'
    · by_cases c2 : v = st.2.2.1
      · have rb := s_Pln_before (d := d) hb hO hR hB ha hr g5 (fun i i0 i1 => ⟨(hrr i i0 i1).1, (hrr i i0 i1).2, g6 i i0 i1⟩)
        by_cases c3 : aLs r st.2.2.2 (bD B).toNat 0 = 1
        · rw [if_pos (Or.inr (Or.inr ⟨c2, c3⟩))]
          refine ⟨h', vc_Pln_tryCompany_100 ?_, g', f'⟩
          simp (disch := omega) only [zI_add, zI_sub, zI_mul, zI_neg, zI_lit, zI_0, zI_1, zI_lt, zI_le, zI_eq, zI_clamp, zI_inT, zI_ite, mOb_0, mOb_1, mOb_3, mOb_4, mLd_1, mAr_1, mLen_1, mTrue_t, Int.toNat_zero, Int.toNat_one, true_and, and_true, not_true_eq_false, not_false_eq_true, true_or, or_true, or_self, false_or, or_false, forall_const, false_implies, true_implies, implies_true, p0, q1, e, g2]
          refine ⟨fun z => by omega, fun _ => ⟨fun z => absurd z c, fun _ => ⟨fun z => absurd c2 z, fun _ => ⟨_, _, rb, ?_⟩⟩⟩⟩
          simp (disch := omega) only [zI_add, zI_sub, zI_mul, zI_neg, zI_lit, zI_0, zI_1, zI_lt, zI_le, zI_eq, zI_clamp, zI_inT, zI_ite, mOb_0, mOb_1, mOb_3, mOb_4, mLd_1, mAr_1, mLen_1, mTrue_t, Int.toNat_zero, Int.toNat_one, true_and, and_true, not_true_eq_false, not_false_eq_true, true_or, or_true, or_self, false_or, or_false, forall_const, false_implies, true_implies, implies_true, c3]
          repeat' (first | refine And.intro ?_ ?_ | with_reducible intro _)
          all_goals first | omega | exact r'
        · rw [if_neg (fun z => by rcases z with z | z | z; omega; exact c z; exact c3 z.2)]
          refine ⟨h, vc_Pln_tryCompany_100 ?_, hP, hFr_refl _ _⟩
          have c30 : aLs r st.2.2.2 (bD B).toNat 0 = 0 := by omega
          simp (disch := omega) only [zI_add, zI_sub, zI_mul, zI_neg, zI_lit, zI_0, zI_1, zI_lt, zI_le, zI_eq, zI_clamp, zI_inT, zI_ite, mOb_0, mOb_1, mOb_3, mOb_4, mLd_1, mAr_1, mLen_1, mTrue_t, Int.toNat_zero, Int.toNat_one, true_and, and_true, not_true_eq_false, not_false_eq_true, true_or, or_true, or_self, false_or, or_false, forall_const, false_implies, true_implies, implies_true, p0, q1, e, g2]
          refine ⟨fun z => by omega, fun _ => ⟨fun z => absurd z c, fun _ => fun _ => ⟨_, _, rb, ?_⟩⟩⟩
          simp (disch := omega) only [zI_add, zI_sub, zI_mul, zI_neg, zI_lit, zI_0, zI_1, zI_lt, zI_le, zI_eq, zI_clamp, zI_inT, zI_ite, mOb_0, mOb_1, mOb_3, mOb_4, mLd_1, mAr_1, mLen_1, mTrue_t, Int.toNat_zero, Int.toNat_one, true_and, and_true, not_true_eq_false, not_false_eq_true, true_or, or_true, or_self, false_or, or_false, forall_const, false_implies, true_implies, implies_true, c30]
          repeat' (first | refine And.intro ?_ ?_ | with_reducible intro _)
          all_goals first | omega | rfl
      · rw [if_neg (fun z => by rcases z with z | z | z; omega; exact c z; exact c2 z.1)]
        refine ⟨h, vc_Pln_tryCompany_100 ?_, hP, hFr_refl _ _⟩
        simp (disch := omega) only [zI_add, zI_sub, zI_mul, zI_neg, zI_lit, zI_0, zI_1, zI_lt, zI_le, zI_eq, zI_clamp, zI_inT, zI_ite, mOb_0, mOb_1, mOb_3, mOb_4, mLd_1, mAr_1, mLen_1, mTrue_t, Int.toNat_zero, Int.toNat_one, true_and, and_true, not_true_eq_false, not_false_eq_true, true_or, or_true, or_self, false_or, or_false, forall_const, false_implies, true_implies, implies_true, p0, q1, e, g2]
        repeat' (first | refine And.intro ?_ ?_ | with_reducible intro _)
        all_goals first | omega | rfl
theorem aRw_rng {K : Int → Int} {T : Nat → Int} {top : Int} : ∀ (j : Nat) (c : Int → Int) (y : Nat), 0 ≤ aRw K T top j c y ∧ aRw K T top j c y < 32 := by
  have hs : ∀ (n : Nat) (j : Nat) (c : Int → Int) (i : Int), 0 ≤ i → i + n ≤ 32 → 0 ≤ aSelR K T top j c n i ∧ aSelR K T top j c n i < 32 := by
    intro n j c
    induction n with
    | zero => intro i _ _; exact ⟨Int.le_refl 0, by show (0 : Int) < 32; omega⟩
    | succ n ih => intro i i0 i1; unfold aSelR; split
                   · omega
                   · exact ih _ (by omega) (by omega)
  intro j
  induction j with
  | zero => intro c y; exact ⟨Int.le_refl 0, by show (0 : Int) < 32; omega⟩
  | succ j ih =>
    intro c y
    cases y with
    | zero => exact hs 32 j c 0 (by omega) (by omega)
    | succ y => exact ih _ y
theorem first_of {P : Int → Prop} : ∀ (n : Nat) (x : Int), x.toNat < n → 0 ≤ x → P x → ∃ s, 0 ≤ s ∧ s ≤ x ∧ P s ∧ ∀ y, 0 ≤ y → y < s → ¬ P y := by
  intro n
  induction n with
  | zero => intro x h; omega
  | succ n ih =>
    intro x hx x0 p
    by_cases h : ∃ y, 0 ≤ y ∧ y < x ∧ P y
    · obtain ⟨y, y0, y1, py⟩ := h
      obtain ⟨s, a, b, c, e⟩ := ih y (by omega) y0 py
      exact ⟨s, a, by omega, c, e⟩
    · exact ⟨x, x0, Int.le_refl _, p, fun y y0 y1 py => h ⟨y, y0, y1, py⟩⟩
theorem rCo_on (B : tB) (l w co : Int) : pOn B (rCo B l w co) := fun i _ _ => aRw_rng _ _ _
theorem s_Pln_try {d : Nat} {h : mHp} {b a : Nat} (hb : bAd b) {B : tB} (hO : BOk B) {l w n q co : Int} {g N : Int → Int} {st : tP} (hl : 0 ≤ l) (hl' : l ≤ 2) (ha : pAd a) (hX : SX h b B (aK B l w) n g) (hL : lnF (aK B l w) n g) (hN : NB h q N) (hq : q < 1000000) (c0 : 0 ≤ co) (c1 : co < 32) (hco : aDif co (aFr B w) = 0) (hP : PX h a B st) :
    ∃ h' q' N', mRuns (d + 18) 111 0 [some (.ref 26), some (.int (zI co)), some (.ref a), none, none, none] [] h (.inl (none, h')) ∧ PX h' a B (fTry B l w st co) ∧ SX h' b B (aK B l w) n g ∧ NB h' q' N' ∧ q ≤ q' ∧ q' ≤ q + 1 ∧ hFg 26 [30, 31, 32, a, a + 1] [8] h h' := by
  have o := hO.1
  have pr := pAd_rng ha
  obtain ⟨p0, p1, p2⟩ := pSh_of ha
  have b0 := (bSh_of hb).1
  have sb := bBl_of hb
  obtain ⟨x1, x2, x3, x4, x5, x6⟩ := id hX
  have e0 := x2.1
  have hk : ∀ s, 0 ≤ s → s < 32 → -1 ≤ aK B l w s ∧ aK B l w s ≤ 1022 := fun s _ _ => aK_rng hO hl hl'
  have hkO : kOk (aK B l w) := fun s a b => (hk s a b).1
  obtain ⟨f0, f1, fS⟩ := aFr_spec hO (w := w)
  have hcoT : ∀ t, bT B ≤ t → t < 5 → aBit co t = 0 := fun t t0 t1 => by
    rcases aBit_01 co t with e | e
    · exact e
    · have := (fS t (by omega) t1).mp ((aDif_0 _ _).mp hco t (by omega) t1 e); omega
  have hcO := cC_ok hO hcoT
  have hsub : ∀ s, okS (cC B co) s → aDif s co = 0 := fun s p => (aDif_0 _ _).mpr (fun t a b e => by
    have := (okS_iff _ _).mp p t a b e
    unfold cC at this
    by_cases z : aBit co t = 1
    · exact z
    · rw [if_neg z] at this; omega)
  have hlow : ∀ s, 0 ≤ s → s < 32 → aK B l w s ≠ -1 → okS (cC B co) s → aK B l w co ≤ aK B l w s := fun s a b p1 p2 => (aK_mono hO hl hl' hco (hsub s p2) p1).2
  have hT : ∀ j, tmB B j ≤ 95 := fun j => (tmB_rng hO j).2
  have stay : ∀ (h' : mHp), hFr [31] h h' → SX h' b B (aK B l w) n g ∧ NB h' q N ∧ PX h' a B st ∧ hFg 26 [30, 31, 32, a, a + 1] [8] h h' := by
    intro h' f
    refine ⟨⟨by rw [f.2]; exact x1, BC_of x2 (fun k hk => f.1 _ (by rcases hb with rfl | rfl <;> simp <;> omega)), by rw [f.1 28 (by simp)]; exact x3, by rw [f.1 26 (by simp)]; exact x4, by rw [f.1 29 (by simp)]; exact x5, fun j hj => by rw [f.1 143 (by simp)]; exact x6 j hj⟩, NB_of hN (by rw [f.1 26 (by simp)]) (f.1 32 (by simp)), PX_of hP (f.1 a (by simp; omega)) (f.1 (a + 1) (by simp; omega)), ?_⟩
    exact ⟨fun x hx hy => f.1 x (by simp at hx ⊢; omega), fun k _ => by rw [f.1 26 (by simp)], f.2⟩
  have notyet : vCo B l w co = 1023 → fTry B l w st co = st := fun e => by unfold fTry; rw [if_neg (fun z => by omega)]
  have e1 := hP.1.2
  have e12 := hP.2.1
  by_cases hd : bD B = 0
  · -- no dishes
    have hv : vCo B l w co = 0 := by unfold vCo; rw [hd]; rfl
    obtain ⟨h', r, g', f'⟩ := s_Pln_try_end (d := d + 16) hb hO x1 x2 ha (co := co) (v := 0) (r := rCo B l w co) (st := st) c0 c1 (by omega) (by omega) (fun i a b => by omega) (rCo_on B l w co) hP
    have hf : fTry B l w st co = (if better B 0 (rCo B l w co) st then (1, aCnt co, 0, rCo B l w co) else st) := by
      unfold fTry; rw [hv]
      by_cases z : better B 0 (rCo B l w co) st
      · rw [if_pos z, if_pos ⟨by omega, z⟩]
      · rw [if_neg z, if_neg (fun y => z y.2)]
    rw [← hf] at g'
    have s1 := s_Pln_short (d := d + 15) hb hO x1 x2
    have s2 : aSt B (bD B).toNat 0 1023 = 1023 := by rw [hd]; rfl
    rw [s2] at s1
    have same : mRuns (d + 17) 114 0 [some (.ref 26), some (.int (zI co)), some (.int (zI 0)), none] [] h (.inl (some (.int (zI 1)), h)) := by
      refine vc_Pln_chooseSameSet ?_
      simp (disch := omega) only [zI_add, zI_sub, zI_mul, zI_neg, zI_lit, zI_0, zI_1, zI_lt, zI_le, zI_eq, zI_clamp, zI_inT, zI_ite, mOb_0, mOb_1, mOb_3, mOb_4, mLd_1, mAr_1, mLen_1, mTrue_t, Int.toNat_zero, Int.toNat_one, true_and, and_true, not_true_eq_false, not_false_eq_true, true_or, or_true, or_self, false_or, or_false, forall_const, false_implies, true_implies, implies_true]
      refine vc_Pln_chooseSameSet_2 ?_
      simp (disch := omega) only [zI_add, zI_sub, zI_mul, zI_neg, zI_lit, zI_0, zI_1, zI_lt, zI_le, zI_eq, zI_clamp, zI_inT, zI_ite, mOb_0, mOb_1, mOb_3, mOb_4, mLd_1, mAr_1, mLen_1, mTrue_t, Int.toNat_zero, Int.toNat_one, true_and, and_true, not_true_eq_false, not_false_eq_true, true_or, or_true, or_self, false_or, or_false, forall_const, false_implies, true_implies, implies_true, x1, sb, b0, e0, hd]
      repeat' (first | refine And.intro ?_ ?_ | with_reducible intro _)
      all_goals first | omega | rfl
    have k59 : mRuns (d + 18) 111 59 [some (.ref 26), some (.int (zI co)), some (.ref a), some (.int (zI 0)), some (.int (zI 0)), none] [] h (.inl (none, h')) := by
      refine vc_Pln_tryCompany_59 ⟨_, _, same, ?_⟩
      simp (disch := omega) only [zI_add, zI_sub, zI_mul, zI_neg, zI_lit, zI_0, zI_1, zI_lt, zI_le, zI_eq, zI_clamp, zI_inT, zI_ite, mOb_0, mOb_1, mOb_3, mOb_4, mLd_1, mAr_1, mLen_1, mTrue_t, Int.toNat_zero, Int.toNat_one, true_and, and_true, not_true_eq_false, not_false_eq_true, true_or, or_true, or_self, false_or, or_false, forall_const, false_implies, true_implies, implies_true]
      rw [hd] at r
      repeat' (first | refine And.intro ?_ ?_ | with_reducible intro _)
      all_goals first | omega | exact r
    refine ⟨h', q, N, vc_Pln_tryCompany ?_, g', ?_, ?_, by omega, by omega, ?_⟩
    · simp (disch := omega) only [zI_add, zI_sub, zI_mul, zI_neg, zI_lit, zI_0, zI_1, zI_lt, zI_le, zI_eq, zI_clamp, zI_inT, zI_ite, mOb_0, mOb_1, mOb_3, mOb_4, mLd_1, mAr_1, mLen_1, mTrue_t, Int.toNat_zero, Int.toNat_one, true_and, and_true, not_true_eq_false, not_false_eq_true, true_or, or_true, or_self, false_or, or_false, forall_const, false_implies, true_implies, implies_true, x1, sb, b0, e0, hd]
      refine vc_Pln_tryCompany_22 ?_
      simp (disch := omega) only [zI_add, zI_sub, zI_mul, zI_neg, zI_lit, zI_0, zI_1, zI_lt, zI_le, zI_eq, zI_clamp, zI_inT, zI_ite, mOb_0, mOb_1, mOb_3, mOb_4, mLd_1, mAr_1, mLen_1, mTrue_t, Int.toNat_zero, Int.toNat_one, true_and, and_true, not_true_eq_false, not_false_eq_true, true_or, or_true, or_self, false_or, or_false, forall_const, false_implies, true_implies, implies_true]
      refine ⟨fun z => by omega, fun _ => ⟨_, _, s1, ?_⟩⟩
      have q3 := hP.2.2
      simp (disch := omega) only [zI_add, zI_sub, zI_mul, zI_neg, zI_lit, zI_0, zI_1, zI_lt, zI_le, zI_eq, zI_clamp, zI_inT, zI_ite, mOb_0, mOb_1, mOb_3, mOb_4, mLd_1, mAr_1, mLen_1, mTrue_t, Int.toNat_zero, Int.toNat_one, true_and, and_true, not_true_eq_false, not_false_eq_true, true_or, or_true, or_self, false_or, or_false, forall_const, false_implies, true_implies, implies_true, p0, e1]
      refine ⟨fun _ => ⟨fun _ => k59, fun z => ?_⟩, fun z => by omega⟩
      have ee : st.1 = 1 := by first | exact e12.resolve_left z | exact e12.resolve_left (fun y => z (by rw [y]))
      obtain ⟨g1, g2, g3, g4, g5, g6⟩ := q3 ee
      simp (disch := omega) only [zI_add, zI_sub, zI_mul, zI_neg, zI_lit, zI_0, zI_1, zI_lt, zI_le, zI_eq, zI_clamp, zI_inT, zI_ite, mOb_0, mOb_1, mOb_3, mOb_4, mLd_1, mAr_1, mLen_1, mTrue_t, Int.toNat_zero, Int.toNat_one, true_and, and_true, not_true_eq_false, not_false_eq_true, true_or, or_true, or_self, false_or, or_false, forall_const, false_implies, true_implies, implies_true, g2]
      exact ⟨fun _ => k59, fun z => by omega⟩
    · exact ⟨by rw [f'.2]; exact x1, BC_of x2 (fun k hk => f'.1 _ (by rcases hb with rfl | rfl <;> simp <;> omega)), by rw [f'.1 28 (by simp; omega)]; exact x3, by rw [f'.1 26 (by simp; omega)]; exact x4, by rw [f'.1 29 (by simp; omega)]; exact x5, fun j hj => by rw [f'.1 143 (by simp; omega)]; exact x6 j hj⟩
    · exact NB_of hN (by rw [f'.1 26 (by simp; omega)]) (f'.1 32 (by simp; omega))
    · exact ⟨fun x hx hy => f'.1 x (by simp at hx ⊢; omega), fun k _ => by rw [f'.1 26 (by simp; omega)], f'.2⟩
  · -- some dishes
    have hnd : (((bD B).toNat : Nat) : Int) = bD B := by omega
    have mr := hk co c0 c1
    have s1 := s_Pln_short (d := d + 15) hb hO x1 x2
    obtain ⟨t1, t2, t3⟩ := aSt_spec B (bD B).toNat 0 1023
    have s0r : 0 ≤ aSt B (bD B).toNat 0 1023 := by
      rcases t3 with e | ⟨x, a, b, e⟩
      · omega
      · have := hO.2.1 x a (by omega); omega
    have top : ∀ (k : mHp → Prop), (∀ s, 0 ≤ s → s < 32 → ¬ okP (aK B l w) (tmB B ((bD B).toNat - 1)) (cC B co) s) → vCo B l w co = 1023 := by
      intro _ hno
      unfold vCo
      rw [show (bD B).toNat = ((bD B).toNat - 1) + 1 by omega]
      rcases (aL_spec (aK B l w) (tmB B) 1023 ((bD B).toNat - 1) (cC B co)).2.2 with e | ⟨s, a, b, p, e⟩
      · exact e
      · exact absurd p (hno s a b)
    by_cases m1 : aK B l w co = -1
    · have hv : vCo B l w co = 1023 := top (fun _ => True) (fun s a b p => (aK_mono hO hl hl' hco (hsub s p.2.2) p.1).1 m1)
      obtain ⟨g1, g2, g3, g4⟩ := stay h (hFr_refl _ _)
      refine ⟨h, q, N, vc_Pln_tryCompany ?_, by rw [notyet hv]; exact g3, g1, g2, by omega, by omega, g4⟩
      simp (disch := omega) only [zI_add, zI_sub, zI_mul, zI_neg, zI_lit, zI_0, zI_1, zI_lt, zI_le, zI_eq, zI_clamp, zI_inT, zI_ite, mOb_0, mOb_1, mOb_3, mOb_4, mLd_1, mAr_1, mLen_1, mTrue_t, Int.toNat_zero, Int.toNat_one, true_and, and_true, not_true_eq_false, not_false_eq_true, true_or, or_true, or_self, false_or, or_false, forall_const, false_implies, true_implies, implies_true, x1, sb, b0, e0, x3]
      refine ⟨fun _ => vc_Pln_tryCompany_22 ?_, fun z => absurd z hd⟩
      simp (disch := omega) only [zI_add, zI_sub, zI_mul, zI_neg, zI_lit, zI_0, zI_1, zI_lt, zI_le, zI_eq, zI_clamp, zI_inT, zI_ite, mOb_0, mOb_1, mOb_3, mOb_4, mLd_1, mAr_1, mLen_1, mTrue_t, Int.toNat_zero, Int.toNat_one, true_and, and_true, not_true_eq_false, not_false_eq_true, true_or, or_true, or_self, false_or, or_false, forall_const, false_implies, true_implies, implies_true, m1]
      repeat' (first | refine And.intro ?_ ?_ | with_reducible intro _)
      all_goals first | omega | rfl
    · by_cases m2 : aSt B (bD B).toNat 0 1023 < aK B l w co
      · have hv : vCo B l w co = 1023 := by
          rcases t3 with e | ⟨x, a, b, e⟩
          · omega
          · refine aL_late (m := aK B l w co) hkO (by omega) _ _ hlow ⟨(bD B - 1 - x).toNat, by omega, ?_⟩
            unfold tmB
            rw [if_pos (by omega), show bD B - 1 - (((bD B - 1 - x).toNat : Nat) : Int) = x by omega]; omega
        obtain ⟨g1, g2, g3, g4⟩ := stay h (hFr_refl _ _)
        refine ⟨h, q, N, vc_Pln_tryCompany ?_, by rw [notyet hv]; exact g3, g1, g2, by omega, by omega, g4⟩
        simp (disch := omega) only [zI_add, zI_sub, zI_mul, zI_neg, zI_lit, zI_0, zI_1, zI_lt, zI_le, zI_eq, zI_clamp, zI_inT, zI_ite, mOb_0, mOb_1, mOb_3, mOb_4, mLd_1, mAr_1, mLen_1, mTrue_t, Int.toNat_zero, Int.toNat_one, true_and, and_true, not_true_eq_false, not_false_eq_true, true_or, or_true, or_self, false_or, or_false, forall_const, false_implies, true_implies, implies_true, x1, sb, b0, e0, x3]
        refine ⟨fun _ => vc_Pln_tryCompany_22 ?_, fun z => absurd z hd⟩
        simp (disch := omega) only [zI_add, zI_sub, zI_mul, zI_neg, zI_lit, zI_0, zI_1, zI_lt, zI_le, zI_eq, zI_clamp, zI_inT, zI_ite, mOb_0, mOb_1, mOb_3, mOb_4, mLd_1, mAr_1, mLen_1, mTrue_t, Int.toNat_zero, Int.toNat_one, true_and, and_true, not_true_eq_false, not_false_eq_true, true_or, or_true, or_self, false_or, or_false, forall_const, false_implies, true_implies, implies_true]
        refine fun _ => ⟨_, _, s1, ?_⟩
        simp (disch := omega) only [zI_add, zI_sub, zI_mul, zI_neg, zI_lit, zI_0, zI_1, zI_lt, zI_le, zI_eq, zI_clamp, zI_inT, zI_ite, mOb_0, mOb_1, mOb_3, mOb_4, mLd_1, mAr_1, mLen_1, mTrue_t, Int.toNat_zero, Int.toNat_one, true_and, and_true, not_true_eq_false, not_false_eq_true, true_or, or_true, or_self, false_or, or_false, forall_const, false_implies, true_implies, implies_true]
        intro z; omega
      · clear t3
        have hTm : ∀ i, i < (bD B).toNat → aK B l w co ≤ tmB B i := fun i hi => by
          have := t2 (bD B - 1 - i) (by omega) (by omega)
          unfold tmB; rw [if_pos (by omega)]; omega
        have m95 : aK B l w co ≤ 95 := by have := hTm 0 (by omega); have := hT 0; omega
        have mm : 0 ≤ aK B l w co := by omega
        have mp : aK B l w co * bD B ≤ 95 * 6 := Int.mul_le_mul m95 (by omega) (by omega) (by omega)
        have mp0 : 0 ≤ aK B l w co * bD B := Int.mul_nonneg mm (by omega)
        have low := aL_low (K := aK B l w) (T := tmB B) (top := 1023) mm (bD B).toNat (cC B co) hlow
        rw [hnd] at low
        have low : aK B l w co * bD B ≤ vCo B l w co ∨ 1023 ≤ vCo B l w co := low
        by_cases m3 : st.1 = 1 ∧ st.2.2.1 < aK B l w co * bD B
        · have hf : fTry B l w st co = st := by
            unfold fTry; rw [if_neg]
            rintro ⟨z1, z2⟩
            rcases z2 with z | z | z <;> omega
          obtain ⟨g1, g2, g3, g4⟩ := stay h (hFr_refl _ _)
          obtain ⟨y1, y2, y3, y4, y5, y6⟩ := hP.2.2 m3.1
          refine ⟨h, q, N, vc_Pln_tryCompany ?_, by rw [hf]; exact g3, g1, g2, by omega, by omega, g4⟩
          simp (disch := omega) only [zI_add, zI_sub, zI_mul, zI_neg, zI_lit, zI_0, zI_1, zI_lt, zI_le, zI_eq, zI_clamp, zI_inT, zI_ite, mOb_0, mOb_1, mOb_3, mOb_4, mLd_1, mAr_1, mLen_1, mTrue_t, Int.toNat_zero, Int.toNat_one, true_and, and_true, not_true_eq_false, not_false_eq_true, true_or, or_true, or_self, false_or, or_false, forall_const, false_implies, true_implies, implies_true, x1, sb, b0, e0, x3]
          refine ⟨fun _ => vc_Pln_tryCompany_22 ?_, fun z => absurd z hd⟩
          simp (disch := omega) only [zI_add, zI_sub, zI_mul, zI_neg, zI_lit, zI_0, zI_1, zI_lt, zI_le, zI_eq, zI_clamp, zI_inT, zI_ite, mOb_0, mOb_1, mOb_3, mOb_4, mLd_1, mAr_1, mLen_1, mTrue_t, Int.toNat_zero, Int.toNat_one, true_and, and_true, not_true_eq_false, not_false_eq_true, true_or, or_true, or_self, false_or, or_false, forall_const, false_implies, true_implies, implies_true]
          refine fun _ => ⟨_, _, s1, ?_⟩
          simp (disch := omega) only [zI_add, zI_sub, zI_mul, zI_neg, zI_lit, zI_0, zI_1, zI_lt, zI_le, zI_eq, zI_clamp, zI_inT, zI_ite, mOb_0, mOb_1, mOb_3, mOb_4, mLd_1, mAr_1, mLen_1, mTrue_t, Int.toNat_zero, Int.toNat_one, true_and, and_true, not_true_eq_false, not_false_eq_true, true_or, or_true, or_self, false_or, or_false, forall_const, false_implies, true_implies, implies_true, p0, e1, y2]
          intro z; exact ⟨fun y => by omega, fun _ y => by omega⟩
        · -- the search itself
          have k22 : ∀ out, mRuns (d + 18) 111 59 [some (.ref 26), some (.int (zI co)), some (.ref a), some (.int (zI (bD B))), some (.int (zI (aK B l w co))), none] [] h out → mRuns (d + 18) 111 0 [some (.ref 26), some (.int (zI co)), some (.ref a), none, none, none] [] h out := by
            intro out r
            refine vc_Pln_tryCompany ?_
            simp (disch := omega) only [zI_add, zI_sub, zI_mul, zI_neg, zI_lit, zI_0, zI_1, zI_lt, zI_le, zI_eq, zI_clamp, zI_inT, zI_ite, mOb_0, mOb_1, mOb_3, mOb_4, mLd_1, mAr_1, mLen_1, mTrue_t, Int.toNat_zero, Int.toNat_one, true_and, and_true, not_true_eq_false, not_false_eq_true, true_or, or_true, or_self, false_or, or_false, forall_const, false_implies, true_implies, implies_true, x1, sb, b0, e0, x3]
            refine ⟨fun _ => vc_Pln_tryCompany_22 ?_, fun z => absurd z hd⟩
            simp (disch := omega) only [zI_add, zI_sub, zI_mul, zI_neg, zI_lit, zI_0, zI_1, zI_lt, zI_le, zI_eq, zI_clamp, zI_inT, zI_ite, mOb_0, mOb_1, mOb_3, mOb_4, mLd_1, mAr_1, mLen_1, mTrue_t, Int.toNat_zero, Int.toNat_one, true_and, and_true, not_true_eq_false, not_false_eq_true, true_or, or_true, or_self, false_or, or_false, forall_const, false_implies, true_implies, implies_true]
            refine ⟨fun z => absurd z m1, fun _ => ⟨_, _, s1, ?_⟩⟩
            simp (disch := omega) only [zI_add, zI_sub, zI_mul, zI_neg, zI_lit, zI_0, zI_1, zI_lt, zI_le, zI_eq, zI_clamp, zI_inT, zI_ite, mOb_0, mOb_1, mOb_3, mOb_4, mLd_1, mAr_1, mLen_1, mTrue_t, Int.toNat_zero, Int.toNat_one, true_and, and_true, not_true_eq_false, not_false_eq_true, true_or, or_true, or_self, false_or, or_false, forall_const, false_implies, true_implies, implies_true, p0, e1]
            refine ⟨fun _ => ⟨fun _ => r, fun z => ?_⟩, fun z => by omega⟩
            have ee : st.1 = 1 := by first | exact e12.resolve_left z | exact e12.resolve_left (fun y => z (by rw [y]))
            obtain ⟨y1, y2, y3, y4, y5, y6⟩ := hP.2.2 ee
            simp (disch := omega) only [zI_add, zI_sub, zI_mul, zI_neg, zI_lit, zI_0, zI_1, zI_lt, zI_le, zI_eq, zI_clamp, zI_inT, zI_ite, mOb_0, mOb_1, mOb_3, mOb_4, mLd_1, mAr_1, mLen_1, mTrue_t, Int.toNat_zero, Int.toNat_one, true_and, and_true, not_true_eq_false, not_false_eq_true, true_or, or_true, or_self, false_or, or_false, forall_const, false_implies, true_implies, implies_true, y2]
            exact ⟨fun _ => r, fun z => absurd ⟨ee, by omega⟩ m3⟩
          obtain ⟨s0, sa, sb', sc, sd⟩ := first_of (P := fun x => aDif x co = 0 ∧ aK B l w x = aK B l w co) 33 co (by omega) c0 ⟨(aDif_0 _ _).mpr (fun t _ _ e => e), rfl⟩
          obtain ⟨h1, x, r1, p31, f1, hx⟩ := s_Pln_same_loop (d := d + 15) hb hO hk c0 c1 mm mr.2 (by omega) sa (by omega) sc sd x1 x2 x3 s0.toNat 0 (by omega) (by omega)
          have same : mRuns (d + 17) 114 0 [some (.ref 26), some (.int (zI co)), some (.int (zI (aK B l w co))), none] [] h (.inl (some (.int (zI x)), h1)) := by
            refine vc_Pln_chooseSameSet ?_
            simp (disch := omega) only [zI_add, zI_sub, zI_mul, zI_neg, zI_lit, zI_0, zI_1, zI_lt, zI_le, zI_eq, zI_clamp, zI_inT, zI_ite, mOb_0, mOb_1, mOb_3, mOb_4, mLd_1, mAr_1, mLen_1, mTrue_t, Int.toNat_zero, Int.toNat_one, true_and, and_true, not_true_eq_false, not_false_eq_true, true_or, or_true, or_self, false_or, or_false, forall_const, false_implies, true_implies, implies_true]
            exact r1
          obtain ⟨X1, N1, P1, F1⟩ := stay h1 f1
          rcases hx with ⟨rfl, hcap⟩ | ⟨rfl, -⟩
          · -- the same set for all
            obtain ⟨v1, v2⟩ := aL_same (K := aK B l w) hkO (T := tmB B) (m := aK B l w co) (s0 := s0) (co := co) mm (by omega) sa (by omega) sc sd (fun s a b p q => (aK_mono hO hl hl' hco q p).2) (bD B).toNat (cC B co) (by omega) hTm (fun t a b e => by
                unfold cC at e
                by_cases z : aBit co t = 1
                · exact z
                · rw [if_neg z] at e; omega) (fun t a b e => by
                have z1 := (aDif_0 _ _).mp sc.1 t a b e
                have tn : t < bT B := by
                  apply Classical.byContradiction
                  intro z; have := hcoT t (by omega) b; omega
                have := hcap t a tn e
                unfold cC; rw [if_pos z1]; omega)
            rw [hnd] at v1
            have hv : vCo B l w co = aK B l w co * bD B := v1
            obtain ⟨h', r, g', f'⟩ := s_Pln_try_end (d := d + 16) hb hO X1.1 X1.2.1 ha (co := co) (v := aK B l w co * bD B) (r := rCo B l w co) (st := st) c0 c1 mp0 (by omega) (fun i a b => by rw [p31 i a (by omega)]; unfold rCo; rw [v2 i.toNat (by omega)]) (rCo_on B l w co) P1
            have hf : fTry B l w st co = (if better B (aK B l w co * bD B) (rCo B l w co) st then (1, aCnt co, aK B l w co * bD B, rCo B l w co) else st) := by
              unfold fTry; rw [hv]
              by_cases z : better B (aK B l w co * bD B) (rCo B l w co) st
              · rw [if_pos z, if_pos ⟨by omega, z⟩]
              · rw [if_neg z, if_neg (fun y => z y.2)]
            rw [← hf] at g'
            obtain ⟨y1, y2, y3, y4, y5, y6⟩ := X1
            refine ⟨h', q, N, k22 _ (vc_Pln_tryCompany_59 ⟨_, _, same, ?_⟩), g', ⟨by rw [f'.2]; exact y1, BC_of y2 (fun k hk => f'.1 _ (by rcases hb with rfl | rfl <;> simp <;> omega)), by rw [f'.1 28 (by simp; omega)]; exact y3, by rw [f'.1 26 (by simp; omega)]; exact y4, by rw [f'.1 29 (by simp; omega)]; exact y5, fun j hj => by rw [f'.1 143 (by simp; omega)]; exact y6 j hj⟩, NB_of N1 (by rw [f'.1 26 (by simp; omega)]) (f'.1 32 (by simp; omega)), by omega, by omega, ?_⟩
            · simp (disch := omega) only [zI_add, zI_sub, zI_mul, zI_neg, zI_lit, zI_0, zI_1, zI_lt, zI_le, zI_eq, zI_clamp, zI_inT, zI_ite, mOb_0, mOb_1, mOb_3, mOb_4, mLd_1, mAr_1, mLen_1, mTrue_t, Int.toNat_zero, Int.toNat_one, true_and, and_true, not_true_eq_false, not_false_eq_true, true_or, or_true, or_self, false_or, or_false, forall_const, false_implies, true_implies, implies_true]
              repeat' (first | refine And.intro ?_ ?_ | with_reducible intro _)
              all_goals first | omega | exact r
            · exact hFg_trans F1 ⟨fun x hx hy => f'.1 x (by simp at hx ⊢; omega), fun k _ => by rw [f'.1 26 (by simp; omega)], f'.2⟩
          · -- the search over lean sets
            obtain ⟨h2, r2, X2, N2, C2, F2⟩ := s_Pln_start (d := d + 16) hb hO X1 N1 hq c0 c1 hcoT (tmB B)
            obtain ⟨h3, N3, r3, C3, NT3, F3⟩ := s_Pln_least (d := d + 14 - 2 * (bD B).toNat) hb hO hk hL (q := q + 1) (bD B).toNat (by omega) (cC B co) h2 N X2 N2 C2 hcO
            rw [show d + 14 - 2 * (bD B).toNat + 2 * (bD B).toNat + 3 = d + 17 by omega, show bD B - (((bD B).toNat : Nat) : Int) = 0 by omega] at r3
            have X3 := SX_of hb X2 F3
            have vnn := aL_nn hkO (T := tmB B) (top := 1023) (by omega) (bD B).toNat (cC B co)
            have vle := aL_le (K := aK B l w) (T := tmB B) (top := 1023) (by omega) (bD B).toNat (cC B co)
            have P2 : PX h2 a B st := PX_of P1 (F2.1 a (by simp; omega) (by omega)) (F2.1 (a + 1) (by simp; omega) (by omega))
            have P3 : PX h3 a B st := PX_of P2 (F3.1 a (by simp; omega)) (F3.1 (a + 1) (by simp; omega))
            have G2 : hFg 26 [30, 31, 32, a, a + 1] [8] h h2 := hFg_trans F1 (hFg_mono F2 (by simp +contextual) (by simp))
            have G3 : hFg 26 [30, 31, 32, a, a + 1] [8] h h3 := hFg_fr G2 (hFr_mono F3 (by simp +contextual)) (by simp; omega)
            by_cases big : vCo B l w co < 1023
            · obtain ⟨h4, N4, r4, -, R4, NT4, F4⟩ := s_Pln_row (d := d) hb hO hk hL (q := q + 1) (bD B).toNat (by omega) (cC B co) h3 N3 X3 NT3 C3 hcO (Or.inr big)
              rw [show bD B - (((bD B).toNat : Nat) : Int) = 0 by omega] at r4
              have X4 : SX h4 b B (aK B l w) n g := by
                obtain ⟨y1, y2, y3, y4, y5, y6⟩ := X3
                exact ⟨by rw [F4.2]; exact y1, BC_of y2 (fun k hk => F4.1 _ (by rcases hb with rfl | rfl <;> simp <;> omega)), by rw [F4.1 28 (by simp)]; exact y3, by rw [F4.1 26 (by simp)]; exact y4, by rw [F4.1 29 (by simp)]; exact y5, fun j hj => by rw [F4.1 143 (by simp)]; exact y6 j hj⟩
              have P4 : PX h4 a B st := PX_of P3 (F4.1 a (by simp; omega)) (F4.1 (a + 1) (by simp; omega))
              have row4 : aEq (h4.1 31) (bD B) (rCo B l w co) := fun i a b => by
                have := R4 i.toNat (by omega)
                rw [show (bD B - (((bD B).toNat : Nat) : Int)).toNat + i.toNat = i.toNat by omega] at this
                exact this
              obtain ⟨h', r, g', f'⟩ := s_Pln_try_end (d := d + 16) hb hO X4.1 X4.2.1 ha (co := co) (v := vCo B l w co) (r := rCo B l w co) (st := st) c0 c1 vnn big row4 (rCo_on B l w co) P4
              have hf : fTry B l w st co = (if better B (vCo B l w co) (rCo B l w co) st then (1, aCnt co, vCo B l w co, rCo B l w co) else st) := by
                unfold fTry
                by_cases z : better B (vCo B l w co) (rCo B l w co) st
                · rw [if_pos z, if_pos ⟨big, z⟩]
                · rw [if_neg z, if_neg (fun y => z y.2)]
              rw [← hf] at g'
              obtain ⟨y1, y2, y3, y4, y5, y6⟩ := X4
              refine ⟨h', q + 1, N4, k22 _ (vc_Pln_tryCompany_59 ⟨_, _, same, ?_⟩), g', ⟨by rw [f'.2]; exact y1, BC_of y2 (fun k hk => f'.1 _ (by rcases hb with rfl | rfl <;> simp <;> omega)), by rw [f'.1 28 (by simp; omega)]; exact y3, by rw [f'.1 26 (by simp; omega)]; exact y4, by rw [f'.1 29 (by simp; omega)]; exact y5, fun j hj => by rw [f'.1 143 (by simp; omega)]; exact y6 j hj⟩, NB_of (NT_NB NT4) (by rw [f'.1 26 (by simp; omega)]) (f'.1 32 (by simp; omega)), by omega, by omega, ?_⟩
              · simp (disch := omega) only [zI_add, zI_sub, zI_mul, zI_neg, zI_lit, zI_0, zI_1, zI_lt, zI_le, zI_eq, zI_clamp, zI_inT, zI_ite, mOb_0, mOb_1, mOb_3, mOb_4, mLd_1, mAr_1, mLen_1, mTrue_t, Int.toNat_zero, Int.toNat_one, true_and, and_true, not_true_eq_false, not_false_eq_true, true_or, or_true, or_self, false_or, or_false, forall_const, false_implies, true_implies, implies_true]
                refine ⟨h2, r2, _, _, r3, ?_⟩
                rw [show aL (aK B l w) (tmB B) 1023 (bD B).toNat (cC B co) = vCo B l w co from rfl] at *
                simp (disch := omega) only [zI_add, zI_sub, zI_mul, zI_neg, zI_lit, zI_0, zI_1, zI_lt, zI_le, zI_eq, zI_clamp, zI_inT, zI_ite, mOb_0, mOb_1, mOb_3, mOb_4, mLd_1, mAr_1, mLen_1, mTrue_t, Int.toNat_zero, Int.toNat_one, true_and, and_true, not_true_eq_false, not_false_eq_true, true_or, or_true, or_self, false_or, or_false, forall_const, false_implies, true_implies, implies_true]
                refine ⟨fun _ => ⟨h4, vc_Pln_chooseRow ?_, r⟩, fun z => absurd big z⟩
                simp (disch := omega) only [zI_add, zI_sub, zI_mul, zI_neg, zI_lit, zI_0, zI_1, zI_lt, zI_le, zI_eq, zI_clamp, zI_inT, zI_ite, mOb_0, mOb_1, mOb_3, mOb_4, mLd_1, mAr_1, mLen_1, mTrue_t, Int.toNat_zero, Int.toNat_one, true_and, and_true, not_true_eq_false, not_false_eq_true, true_or, or_true, or_self, false_or, or_false, forall_const, false_implies, true_implies, implies_true]
                exact r4
              · exact hFg_trans (hFg_fr G3 (hFr_mono F4 (by simp +contextual)) (by simp; omega)) ⟨fun x hx hy => f'.1 x (by simp at hx ⊢; omega), fun k _ => by rw [f'.1 26 (by simp; omega)], f'.2⟩
            · have hf : fTry B l w st co = st := by unfold fTry; rw [if_neg (fun z => big z.1)]
              refine ⟨h3, q + 1, N3, k22 _ (vc_Pln_tryCompany_59 ⟨_, _, same, ?_⟩), by rw [hf]; exact P3, X3, NT_NB NT3, by omega, by omega, G3⟩
              simp (disch := omega) only [zI_add, zI_sub, zI_mul, zI_neg, zI_lit, zI_0, zI_1, zI_lt, zI_le, zI_eq, zI_clamp, zI_inT, zI_ite, mOb_0, mOb_1, mOb_3, mOb_4, mLd_1, mAr_1, mLen_1, mTrue_t, Int.toNat_zero, Int.toNat_one, true_and, and_true, not_true_eq_false, not_false_eq_true, true_or, or_true, or_self, false_or, or_false, forall_const, false_implies, true_implies, implies_true]
              refine ⟨h2, r2, _, _, r3, ?_⟩
              rw [show aL (aK B l w) (tmB B) 1023 (bD B).toNat (cC B co) = vCo B l w co from rfl] at *
              simp (disch := omega) only [zI_add, zI_sub, zI_mul, zI_neg, zI_lit, zI_0, zI_1, zI_lt, zI_le, zI_eq, zI_clamp, zI_inT, zI_ite, mOb_0, mOb_1, mOb_3, mOb_4, mLd_1, mAr_1, mLen_1, mTrue_t, Int.toNat_zero, Int.toNat_one, true_and, and_true, not_true_eq_false, not_false_eq_true, true_or, or_true, or_self, false_or, or_false, forall_const, false_implies, true_implies, implies_true]
              intro z; exact absurd z big

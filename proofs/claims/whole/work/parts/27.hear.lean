/-! L3, the class's judge: a hearing whole, and what is asked of it -/
def aNumR (B : tB) (E : tE) (k : Int) : Nat → Int → Int → Int
  | 0, _, v => v
  | j + 1, c, v => aNumR B E k j (c + 1) (v + aFit 100000 B E k c c)
/-- how many cases fit -/
def aNum (B : tB) (E : tE) (k : Int) : Int := aNumR B E k (1 + bD B * bP B).toNat 0 0
theorem aNumR_rng {B : tB} {E : tE} {k : Int} : ∀ (j : Nat) (c v : Int), v ≤ aNumR B E k j c v ∧ aNumR B E k j c v ≤ v + j := by
  intro j
  induction j with
  | zero => intro c v; unfold aNumR; omega
  | succ j ih =>
    intro c v
    have := ih (c + 1) (v + aFit 100000 B E k c c)
    have := aFit_01 100000 B E k c c
    unfold aNumR; omega
theorem aNum_rng {B : tB} (hO : BOk B) (E : tE) (k : Int) : 0 ≤ aNum B E k ∧ aNum B E k ≤ 31 := by
  have o := hO.1
  have hr := case_rng (nd := bD B) (np := bP B) (by omega) (by omega) (by omega) (by omega)
  have := aNumR_rng (B := B) (E := E) (k := k) (1 + bD B * bP B).toNat 0 0
  unfold aNum; omega
/-- a judge that has heard -/
def JH (h : mHp) (b l : Nat) (B : tB) (E : tE) (k : Int) : Prop :=
  h.2.2.1 87 0 = b ∧ h.2.2.1 87 1 = l ∧ h.1 87 2 = zI k ∧ h.1 87 3 = zI (1 + bD B * bP B) ∧ FA h B (fun t c => aFlc 1048576 B E c t) ∧ (∀ c, 0 ≤ c → c < 1 + bD B * bP B → h.1 89 c.toNat = zI (aFit 100000 B E k c c)) ∧ h.1 87 6 = zI (aNum B E k)
theorem s_Jdg_hear_ev {d : Nat} {b l : Nat} {B : tB} {E : tE} (hb : bAd b) (hl : lAd l) (hO : BOk B) (hE : EOk B E) : ∀ (j : Nat) (i : Int) (h : mHp), i + j = eN E → 0 ≤ i → h.2.2.1 87 0 = b → h.2.2.1 87 1 = l → BC h b B → LC h l E → FA h B (aGE B E i) →
    ∃ h', FA h' B (fun t c => aFlc 1048576 B E c t) ∧ hFr [88] h h' ∧ (∀ out, mRuns (d + 4) 92 94 [some (.ref 87), none, none, none, some (.int (zI 0))] [] (mPI h' 87 6 (zI 0)) out → mRuns (d + 4) 92 48 [some (.ref 87), none, none, none, some (.int (zI i))] [] h out) := by
  have hn := hE.1
  have o := hO.1
  obtain ⟨t0, t1, t2, t3, t4, t5⟩ := lSh_of hl
  have tb := lBl_of hl
  intro j
  induction j with
  | zero =>
    intro i h hi h0 hR0 hR1 hB hL hF
    obtain ⟨⟨l0, l1, l2, l3, l4⟩, l5⟩ := id hL
    have e : i = eN E := by omega
    refine ⟨h, ?_, hFr_refl _ _, fun out r => vc_Jdg_hear_48 ?_⟩
    · rw [e] at hF; exact hF
    · simp (disch := omega) only [zI_add, zI_sub, zI_mul, zI_neg, zI_lit, zI_0, zI_1, zI_lt, zI_le, zI_eq, zI_clamp, zI_inT, zI_ite, mOb_0, mOb_1, mOb_3, mOb_4, mLd_1, mAr_1, mLen_1, mTrue_t, Int.toNat_zero, Int.toNat_one, true_and, and_true, not_true_eq_false, not_false_eq_true, true_or, or_true, or_self, false_or, or_false, forall_const, false_implies, true_implies, implies_true, hR1, tb, t0, l0]
      refine ⟨fun _ => r, fun z => absurd z (by omega)⟩
  | succ j ih =>
    intro i h hi h0 hR0 hR1 hB hL hF
    have hh := hE.2.1 i h0 (by omega)
    obtain ⟨⟨l0, l1, l2, l3, l4⟩, l5⟩ := id hL
    by_cases c : eF E 1 i = -1
    · obtain ⟨h', F, f, r⟩ := ih (i + 1) h (by omega) (by omega) hR0 hR1 hB hL (by
        intro t cc a1 a2 a3 a4
        rw [hF t cc a1 a2 a3 a4, aGE_step h0]
        by_cases e : cc = 0
        · rw [if_pos e]; unfold aGE; rw [if_pos e]
        · rw [if_neg e]
          obtain ⟨k1, k2, k3, k4, k5, k6⟩ := case_split (c := cc) (nd := bD B) (np := bP B) (by omega) a4 (by omega) (by omega)
          unfold aFst; rw [if_neg (by omega)])
      refine ⟨h', F, f, fun out q => vc_Jdg_hear_48 ?_⟩
      have r := r out q
      simp (disch := omega) only [zI_add, zI_sub, zI_mul, zI_neg, zI_lit, zI_0, zI_1, zI_lt, zI_le, zI_eq, zI_clamp, zI_inT, zI_ite, mOb_0, mOb_1, mOb_3, mOb_4, mLd_1, mAr_1, mLen_1, mTrue_t, Int.toNat_zero, Int.toNat_one, true_and, and_true, not_true_eq_false, not_false_eq_true, true_or, or_true, or_self, false_or, or_false, forall_const, false_implies, true_implies, implies_true, hR1, tb, t0, t2, l0, l2, c]
      repeat' (first | refine And.intro ?_ ?_ | with_reducible intro _)
      all_goals first | omega | exact r
    · obtain ⟨h1, r1, F1, f1⟩ := s_Jdg_hearMeal (d := d) hb hl hO hE h0 (by omega) c hR0 hR1 hB hL hF
      obtain ⟨h', F, f, r⟩ := ih (i + 1) h1 (by omega) (by omega) (by rw [f1.2]; exact hR0) (by rw [f1.2]; exact hR1) (BC_of hB (fun k hk => f1.1 _ (by rcases hb with rfl | rfl <;> simp <;> omega))) (LC_of hL (fun k hk => f1.1 _ (by rcases hl with rfl | rfl <;> simp <;> omega))) F1
      refine ⟨h', F, hFr_trans f1 f, fun out q => vc_Jdg_hear_48 ?_⟩
      have r := r out q
      simp (disch := omega) only [zI_add, zI_sub, zI_mul, zI_neg, zI_lit, zI_0, zI_1, zI_lt, zI_le, zI_eq, zI_clamp, zI_inT, zI_ite, mOb_0, mOb_1, mOb_3, mOb_4, mLd_1, mAr_1, mLen_1, mTrue_t, Int.toNat_zero, Int.toNat_one, true_and, and_true, not_true_eq_false, not_false_eq_true, true_or, or_true, or_self, false_or, or_false, forall_const, false_implies, true_implies, implies_true, hR1, tb, t0, t2, l0, l2]
      refine ⟨fun z => absurd z (by omega), fun _ => ⟨fun z => absurd z c, fun _ => ⟨_, r1, r⟩⟩⟩
theorem s_Jdg_hear_fit {d : Nat} {b l : Nat} {B : tB} {E : tE} (hb : bAd b) (hl : lAd l) (hO : BOk B) (hE : EOk B E) {k : Int} (hk : 0 ≤ k) (hk' : k ≤ 2000) : ∀ (j : Nat) (c v : Int) (h : mHp), c + j = 1 + bD B * bP B → 0 ≤ c → 0 ≤ v → v ≤ c → h.2.2.1 87 0 = b → h.2.2.1 87 1 = l → BC h b B → LC h l E → FA h B (fun t c => aFlc 1048576 B E c t) → h.1 87 2 = zI k → h.1 87 3 = zI (1 + bD B * bP B) → h.1 87 6 = zI v → (∀ x, 0 ≤ x → x < c → h.1 89 x.toNat = zI (aFit 100000 B E k x x)) →
    ∃ h', mRuns (d + 4) 92 94 [some (.ref 87), none, none, none, some (.int (zI c))] [] h (.inl (none, h')) ∧ (∀ x, 0 ≤ x → x < 1 + bD B * bP B → h'.1 89 x.toNat = zI (aFit 100000 B E k x x)) ∧ h'.1 87 6 = zI (aNumR B E k j c v) ∧ h'.1 87 2 = zI k ∧ h'.1 87 3 = zI (1 + bD B * bP B) ∧ hFr [87, 89] h h' := by
  have o := hO.1
  have hr := case_rng (nd := bD B) (np := bP B) (by omega) (by omega) (by omega) (by omega)
  intro j
  induction j with
  | zero =>
    intro c v h hc h0 v0 v1 hR0 hR1 hB hL hF hN hC h6 hx
    refine ⟨h, vc_Jdg_hear_94 ?_, fun x a1 a2 => hx x a1 (by omega), h6, hN, hC, hFr_refl _ _⟩
    simp (disch := omega) only [zI_add, zI_sub, zI_mul, zI_neg, zI_lit, zI_0, zI_1, zI_lt, zI_le, zI_eq, zI_clamp, zI_inT, zI_ite, mOb_0, mOb_1, mOb_3, mOb_4, mLd_1, mAr_1, mLen_1, mTrue_t, Int.toNat_zero, Int.toNat_one, true_and, and_true, not_true_eq_false, not_false_eq_true, true_or, or_true, or_self, false_or, or_false, forall_const, false_implies, true_implies, implies_true, hC]
    repeat' (first | refine And.intro ?_ ?_ | with_reducible intro _)
    all_goals first | omega | rfl
  | succ j ih =>
    intro c v h hc h0 v0 v1 hR0 hR1 hB hL hF hN hC h6 hx
    have hf := aFit_01 100000 B E k c c
    obtain ⟨h', r, X, S, N, C, f⟩ := ih (c + 1) (v + aFit 100000 B E k c c) (mPI (mPI h 89 c.toNat (zI (aFit 100000 B E k c c))) 87 6 (zI (v + aFit 100000 B E k c c))) (by omega) (by omega) (by omega) (by omega) hR0 hR1
      (BC_of hB (fun i hi => by rcases hb with rfl | rfl <;> (rw [hI_ne (by omega), hI_ne (by omega)]))) (LC_of hL (fun i hi => by rcases hl with rfl | rfl <;> (rw [hI_ne (by omega), hI_ne (by omega)])))
      (by intro t x a1 a2 a3 a4; rw [hI_ne (by omega), hI_ne (by omega)]; exact hF t x a1 a2 a3 a4)
      (by rw [hI_off (by omega), hI_ne (by omega)]; exact hN) (by rw [hI_off (by omega), hI_ne (by omega)]; exact hC) (hI_same _ _ _ _)
      (by
        intro x a1 a2
        rw [hI_ne (by omega)]
        by_cases e : x = c
        · rw [e, hI_same]
        · rw [hI_off (by omega)]; exact hx x a1 (by omega))
    refine ⟨h', vc_Jdg_hear_94 ?_, X, S, N, C, hFr_trans (hFr_pi (hFr_pi (hFr_refl _ _) (by simp) _ _) (by simp) _ _) f⟩
    have key : ∀ s, s = aFit 100000 B E k c c → mRuns (d + 4) 92 125 [some (.ref 87), none, none, none, some (.int (zI c))] [.int (zI s), .int (zI c), .ref 89] h (.inl (none, h')) := by
      intro s hs
      subst hs
      refine vc_Jdg_hear_125 ?_
      simp (disch := omega) only [zI_add, zI_sub, zI_mul, zI_neg, zI_lit, zI_0, zI_1, zI_lt, zI_le, zI_eq, zI_clamp, zI_inT, zI_ite, mOb_0, mOb_1, mOb_3, mOb_4, mLd_1, mAr_1, mLen_1, mTrue_t, Int.toNat_zero, Int.toNat_one, true_and, and_true, not_true_eq_false, not_false_eq_true, true_or, or_true, or_self, false_or, or_false, forall_const, false_implies, true_implies, implies_true, hI_same, hI_ne, h6]
      exact r
    simp (disch := omega) only [zI_add, zI_sub, zI_mul, zI_neg, zI_lit, zI_0, zI_1, zI_lt, zI_le, zI_eq, zI_clamp, zI_inT, zI_ite, mOb_0, mOb_1, mOb_3, mOb_4, mLd_1, mAr_1, mLen_1, mTrue_t, Int.toNat_zero, Int.toNat_one, true_and, and_true, not_true_eq_false, not_false_eq_true, true_or, or_true, or_self, false_or, or_false, forall_const, false_implies, true_implies, implies_true, hC]
    refine ⟨fun z => absurd z (by omega), fun _ => ⟨_, _, s_Jdg_fit hb hl hO hE hR0 hR1 hB hL hF hk hk' hN h0 (by omega) h0 (by omega), ?_⟩⟩
    simp (disch := omega) only [zI_add, zI_sub, zI_mul, zI_neg, zI_lit, zI_0, zI_1, zI_lt, zI_le, zI_eq, zI_clamp, zI_inT, zI_ite, mOb_0, mOb_1, mOb_3, mOb_4, mLd_1, mAr_1, mLen_1, mTrue_t, Int.toNat_zero, Int.toNat_one, true_and, and_true, not_true_eq_false, not_false_eq_true, true_or, or_true, or_self, false_or, or_false, forall_const, false_implies, true_implies, implies_true]
    refine ⟨fun z => key 0 z.symm, fun z => key 1 (by omega)⟩
theorem s_Jdg_hear {d : Nat} {h : mHp} {b l : Nat} {B : tB} {E : tE} (hb : bAd b) (hl : lAd l) (hO : BOk B) (hE : EOk B E) {k : Int} (hk : 0 ≤ k) (hk' : k ≤ 2000) (hB : BC h b B) (hL : LC h l E) :
    ∃ h', mRuns (d + 4) 92 0 [some (.ref 87), some (.ref b), some (.ref l), some (.int (zI k)), none] [] h (.inl (none, h')) ∧ JH h' b l B E k ∧ cFr [87, 88, 89] h h' := by
  have o := hO.1
  have hn := hE.1
  have hr := case_rng (nd := bD B) (np := bP B) (by omega) (by omega) (by omega) (by omega)
  obtain ⟨s0, s1, s2, s3, s4, s5, s6, s7, s8, s9, s10⟩ := bSh_of hb
  obtain ⟨t0, t1, t2, t3, t4, t5⟩ := lSh_of hl
  have sb := bBl_of hb
  have tb := lBl_of hl
  obtain ⟨e0, e4, e9, e13, a1, a2, a3, a4, a5, a6, a7, a8, a9, a10⟩ := id hB
  have b87 : b ≠ 87 := by rcases hb with rfl | rfl <;> omega
  have g1 : BC (mPI (mPI (mPR (mPR h 87 0 b) 87 1 l) 87 2 (zI k)) 87 3 (zI (1 + bD B * bP B))) b B := BC_of hB (fun i hi => by rcases hb with rfl | rfl <;> (rw [hI_ne (by omega), hI_ne (by omega)]; rfl))
  have g2 : LC (mPI (mPI (mPR (mPR h 87 0 b) 87 1 l) 87 2 (zI k)) 87 3 (zI (1 + bD B * bP B))) l E := LC_of hL (fun i hi => by rcases hl with rfl | rfl <;> (rw [hI_ne (by omega), hI_ne (by omega)]; rfl))
  obtain ⟨h1, r1, p1, f1⟩ := s_fill (d := d + 2) (h := mPI (mPI (mPR (mPR h 87 0 b) 87 1 l) 87 2 (zI k)) 87 3 (zI (1 + bD B * bP B))) (a := 88) (n := 155) rfl (by omega) (zI 1048576)
  have q0 : h1.2.2.1 87 0 = b := by rw [f1.2]; show (mPR (mPR h 87 0 b) 87 1 l).2.2.1 87 0 = b; rw [hR_off (by omega), hR_same]
  have q1 : h1.2.2.1 87 1 = l := by rw [f1.2]; show (mPR (mPR h 87 0 b) 87 1 l).2.2.1 87 1 = l; rw [hR_same]
  have g3 : BC h1 b B := BC_of g1 (fun i hi => f1.1 _ (by rcases hb with rfl | rfl <;> simp <;> omega))
  have g4 : LC h1 l E := LC_of g2 (fun i hi => f1.1 _ (by rcases hl with rfl | rfl <;> simp <;> omega))
  obtain ⟨h2, F2, f2, r2⟩ := s_Jdg_hear_ev (d := d) hb hl hO hE (eN E).toNat 0 h1 (by omega) (by omega) q0 q1 g3 g4 (by
    intro t c x1 x2 x3 x4
    rw [p1 _ (by omega)]
    unfold aGE; split <;> rfl)
  have q2 : h2.2 = h1.2 := f2.2
  have g5 : BC (mPI h2 87 6 (zI 0)) b B := BC_of g3 (fun i hi => by rcases hb with rfl | rfl <;> (rw [hI_ne (by omega)]; exact f2.1 _ (by simp <;> omega)))
  have g6 : LC (mPI h2 87 6 (zI 0)) l E := LC_of g4 (fun i hi => by rcases hl with rfl | rfl <;> (rw [hI_ne (by omega)]; exact f2.1 _ (by simp <;> omega)))
  have n2 : h2.1 87 2 = zI k := by rw [f2.1 87 (by simp), f1.1 87 (by simp), hI_off (by omega), hI_same]
  have n3 : h2.1 87 3 = zI (1 + bD B * bP B) := by rw [f2.1 87 (by simp), f1.1 87 (by simp), hI_same]
  obtain ⟨h3, r3, X3, S3, N3, C3, f3⟩ := s_Jdg_hear_fit (d := d) hb hl hO hE hk hk' (1 + bD B * bP B).toNat 0 0 (mPI h2 87 6 (zI 0)) (by omega) (by omega) (by omega) (by omega) (by show h2.2.2.1 87 0 = b; rw [q2]; exact q0) (by show h2.2.2.1 87 1 = l; rw [q2]; exact q1) g5 g6
    (by intro t c x1 x2 x3 x4; rw [hI_ne (by omega)]; exact F2 t c x1 x2 x3 x4) (by rw [hI_off (by omega)]; exact n2) (by rw [hI_off (by omega)]; exact n3) (hI_same _ _ _ _) (fun x z1 z2 => absurd z2 (by omega))
  refine ⟨h3, vc_Jdg_hear ?_, ⟨?_, ?_, N3, C3, ?_, X3, S3⟩, ?_, ?_, ?_, ?_⟩
  · simp (disch := omega) only [zI_add, zI_sub, zI_mul, zI_neg, zI_lit, zI_0, zI_1, zI_lt, zI_le, zI_eq, zI_clamp, zI_inT, zI_ite, mOb_0, mOb_1, mOb_3, mOb_4, mLd_1, mAr_1, mLen_1, mTrue_t, Int.toNat_zero, Int.toNat_one, true_and, and_true, not_true_eq_false, not_false_eq_true, true_or, or_true, or_self, false_or, or_false, forall_const, false_implies, true_implies, implies_true, s0, t0, sb, hR_off, hR_same, hI_2, hI_ne, hR_1, e0, e4]
    exact ⟨h1, r1, r2 _ r3⟩
  · rw [f3.2]; show h2.2.2.1 87 0 = b; rw [q2]; exact q0
  · rw [f3.2]; show h2.2.2.1 87 1 = l; rw [q2]; exact q1
  · intro t c x1 x2 x3 x4; rw [f3.1 88 (by simp), hI_ne (by omega)]; exact F2 t c x1 x2 x3 x4
  · intro x hx
    simp only [List.mem_cons, List.not_mem_nil, or_false, not_or] at hx
    rw [f3.1 x (by simp; omega), hI_ne (by omega), f2.1 x (by simp; omega), f1.1 x (by simp; omega), hI_ne (by omega), hI_ne (by omega)]; rfl
  · rw [f3.2]; show h2.2.1 = _; rw [q2, f1.2]; rfl
  · intro x x1 x2
    rw [f3.2]; show h2.2.2.1 x = _; rw [q2, f1.2]; funext y
    show (mPR (mPR h 87 0 b) 87 1 l).2.2.1 x y = _
    rw [hR_off (by omega), hR_off (by omega)]
  · rw [f3.2]; show h2.2.2.2 = _; rw [q2, f1.2]; rfl

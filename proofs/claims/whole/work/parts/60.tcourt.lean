/-! L3, the class's begin, on and worth -/
def tqF (rs fs : List Nat) (h h' : mHp) : Prop := (∀ x, x < 26 ∨ 86 < x → x ∉ rs → x ≠ 0 → h'.1 x = h.1 x) ∧ (∀ k, k ∉ fs → h'.1 0 k = h.1 0 k) ∧ h'.2.1 = h.2.1 ∧ (∀ x, x ≠ 26 → h'.2.2.1 x = h.2.2.1 x) ∧ h.2.2.2 ≤ h'.2.2.2 ∧ h'.2.2.2 ≤ h.2.2.2 + 1
theorem tqF_of {rs fs : List Nat} {h h' : mHp} (f : tpF fs h h') : tqF rs fs h h' := ⟨fun x a _ c => f.1 x a c, f.2⟩
theorem tqF_fr {rs fs l : List Nat} {h h1 h2 : mHp} (f : tqF rs fs h h1) (g : hFr l h1 h2) (hl : ∀ x, x ∈ l → x ∈ rs) (h0 : 0 ∉ l) : tqF rs fs h h2 :=
  ⟨fun x a b c => by rw [g.1 x (fun z => b (hl x z))]; exact f.1 x a b c, fun k hk => by rw [g.1 0 h0]; exact f.2.1 k hk, by rw [g.2]; exact f.2.2.1, fun x hx => by rw [g.2]; exact f.2.2.2.1 x hx, by rw [g.2]; exact f.2.2.2.2.1, by rw [g.2]; exact f.2.2.2.2.2⟩
theorem tqF_pi {rs fs : List Nat} {h h' : mHp} (f : tqF rs fs h h') {k : Nat} (hk : k ∈ fs) (v : Int32) : tqF rs fs h (mPI h' 0 k v) :=
  ⟨fun x hx hz hy => by rw [hI_ne hy]; exact f.1 x hx hz hy, fun j hj => by rw [hI_off (y := j) (k := k) (fun e => hj (e ▸ hk))]; exact f.2.1 j hj, f.2.2.1, f.2.2.2.1, f.2.2.2.2⟩
theorem tqF_refl (rs fs : List Nat) (h : mHp) : tqF rs fs h h := ⟨fun _ _ _ _ => rfl, fun _ _ => rfl, rfl, fun _ _ => rfl, Nat.le_refl _, Nat.le_succ _⟩
theorem PLs_of {h h' : mHp} {B : tB} {q : Int} (hS : PLs h B q) (e : ∀ x, 26 ≤ x → x ≤ 86 → h'.1 x = h.1 x) (e2 : h'.1 143 = h.1 143) : PLs h' B q := by
  obtain ⟨s1, ⟨N, s2⟩, s3⟩ := hS
  refine ⟨fun l w a b c f => ?_, ⟨N, NB_of s2 (by rw [e 26 (by omega) (by omega)]) (e 32 (by omega) (by omega))⟩, fun j hj => by rw [e2]; exact s3 j hj⟩
  have pr := pAd_rng (pCell_ad a b c f)
  rcases s1 l w a b c f with u | ⟨u, g⟩
  · exact Or.inl (by rw [e _ (by omega) (by omega)]; exact u)
  · exact Or.inr ⟨by rw [e _ (by omega) (by omega)]; exact u, PF_of g (e _ (by omega) (by omega)) (e _ (by omega) (by omega)) (e _ (by omega) (by omega))⟩
theorem s_T_begin {d : Nat} {h : mHp} {b : Nat} (hb : bAd b) {B : tB} (hO : BOk B) {C : tC} {s : Int32} {l c q r : Int} (hR : h.2.2.1 0 0 = b) (hB : BC h b B) (hS : PLs h B q) (hq : q + 200 < 1000000) (hC : CC h 102 C) (hr : h.1 0 14 = zI r) (l1 : -2147483648 ≤ l) (l2 : l < 2147483648) (c1 : -2147483648 ≤ c) (c2 : c < 2147483648) :
    ∃ h' q', mRuns (d + 20) 184 0 [some (.ref 0), some (.int s), some (.int (zI l)), some (.int (zI c))] [] h (tAns (rBegin B l c) 0 h') ∧ PLs h' B q' ∧ q ≤ q' ∧ q' ≤ q + 192 ∧ CC h' 102 (cBegin B C s l c) ∧ h'.1 0 14 = zI (nBegin B l c r) ∧ tqF [102, 103] [14] h h' := by
  have sb := bBl_of hb
  have brr : b = 1 ∨ b = 12 := hb
  have nl := s_T_needLies (d := d + 18) (h := h) l1 l2
  unfold tOut at nl
  have bad : ¬ bgOk l c → mRuns (d + 20) 184 0 [some (.ref 0), some (.int s), some (.int (zI l)), some (.int (zI c))] [] h (.inr (0, mXc h)) → ∃ h' q', mRuns (d + 20) 184 0 [some (.ref 0), some (.int s), some (.int (zI l)), some (.int (zI c))] [] h (tAns (rBegin B l c) 0 h') ∧ PLs h' B q' ∧ q ≤ q' ∧ q' ≤ q + 192 ∧ CC h' 102 (cBegin B C s l c) ∧ h'.1 0 14 = zI (nBegin B l c r) ∧ tqF [102, 103] [14] h h' := by
    intro nb run
    have e1 : rBegin B l c = (1, 0) := by unfold rBegin; rw [if_neg nb]
    have e2 : cBegin B C s l c = C := by unfold cBegin; rw [if_neg (fun z => nb z.1)]
    have e3 : nBegin B l c r = r := by unfold nBegin; rw [if_neg (fun z => nb z.1)]
    rw [e1, e2, e3]
    exact ⟨mXc h, q, run, hS, by omega, by omega, hC, hr, tqF_of (tpF_xc _ _)⟩
  by_cases cl : 0 ≤ l ∧ l ≤ 2
  · rw [if_pos cl] at nl
    by_cases cc : 0 ≤ c ∧ c ≤ 1000
    · have ok : bgOk l c := ⟨cl, cc⟩
      obtain ⟨h1, q1, r1, F1, S1, qa, qb, f1⟩ := s_T_planFor (d := d) hb hO cl.1 cl.2 (show -1 ≤ (-1 : Int) by omega) (by omega) hB hS hq
      obtain ⟨p0, p1, p2⟩ := pSh_of (pCell_ad (w := -1) cl.1 cl.2 (by omega) (by omega))
      obtain ⟨⟨⟨g0, g1⟩, g2, g3⟩, g4⟩ := F1
      have C1 : CC h1 102 C := CC_of hC (fun k hk => f1.1 _ (Or.inr (by omega)))
      have B1 := plF_BC hb f1 hB
      have R1 : h1.2.2.1 0 0 = b := by rw [f1.2.2.1 0 (by omega)]; exact hR
      have n1 : h1.1 0 14 = zI r := by rw [f1.1 0 (Or.inl (by omega))]; exact hr
      have e1 : rBegin B l c = (0, (fPl B l (-1)).1) := by unfold rBegin; rw [if_pos ok]
      rw [e1]
      rcases g2 with e | e
      · have e2 : cBegin B C s l c = C := by unfold cBegin; rw [if_neg (fun z => by omega)]
        have e3 : nBegin B l c r = r + 1 := by unfold nBegin; rw [if_pos ⟨ok, e⟩]
        rw [e2, e3, e]
        refine ⟨mPI h1 0 14 (zI (r + 1)), q1, vc_T_begin (Or.inl ⟨h, nl, ?_⟩), PLs_pi0 S1 _ _, qa, qb, CC_of C1 (fun k hk => hI_ne (by omega) _ _ _), hI_same _ _ _ _, tqF_pi (tqF_of (tpF_pl f1)) (by simp) _⟩
        unfold tAns
        simp (disch := omega) only [zI_add, zI_sub, zI_mul, zI_neg, zI_lit, zI_0, zI_1, zI_lt, zI_le, zI_eq, zI_clamp, zI_inT, zI_ite, mOb_0, mOb_1, mOb_3, mOb_4, mLd_1, mAr_1, mLen_1, mTrue_t, Int.toNat_zero, Int.toNat_one, true_and, and_true, not_true_eq_false, not_false_eq_true, true_or, or_true, or_self, false_or, or_false, forall_const, false_implies, true_implies, implies_true, hR, sb]
        refine ⟨fun z => by omega, fun _ => ⟨fun _ => ⟨_, _, r1, ?_⟩, fun z => by omega⟩⟩
        simp (disch := omega) only [zI_add, zI_sub, zI_mul, zI_neg, zI_lit, zI_0, zI_1, zI_lt, zI_le, zI_eq, zI_clamp, zI_inT, zI_ite, mOb_0, mOb_1, mOb_3, mOb_4, mLd_1, mAr_1, mLen_1, mTrue_t, Int.toNat_zero, Int.toNat_one, true_and, and_true, not_true_eq_false, not_false_eq_true, true_or, or_true, or_self, false_or, or_false, forall_const, false_implies, true_implies, implies_true, p0, g1, e, n1]
        repeat' (first | refine And.intro ?_ ?_ | with_reducible intro _)
        all_goals first | omega | rfl
      · have e2 : cBegin B C s l c = cOpen B C s l c := by unfold cBegin; rw [if_pos ⟨ok, e⟩]
        have e3 : nBegin B l c r = r := by unfold nBegin; rw [if_neg (fun z => by omega)]
        rw [e2, e3, e]
        obtain ⟨h2, r2, C2, G2⟩ := s_Crt_open (d := d + 18) (s := s) (l := l) (c := c) (Or.inl rfl : cAd 102) hb B1 C1
        refine ⟨h2, q1, vc_T_begin (Or.inl ⟨h, nl, ?_⟩), PLs_of S1 (fun x a b => G2.1 x (by simp; omega)) (G2.1 143 (by simp)), qa, qb, C2, by rw [G2.1 0 (by simp)]; exact n1, tqF_fr (tqF_of (tpF_pl f1)) G2 (by simp) (by simp)⟩
        unfold tAns
        simp (disch := omega) only [zI_add, zI_sub, zI_mul, zI_neg, zI_lit, zI_0, zI_1, zI_lt, zI_le, zI_eq, zI_clamp, zI_inT, zI_ite, mOb_0, mOb_1, mOb_3, mOb_4, mLd_1, mAr_1, mLen_1, mTrue_t, Int.toNat_zero, Int.toNat_one, true_and, and_true, not_true_eq_false, not_false_eq_true, true_or, or_true, or_self, false_or, or_false, forall_const, false_implies, true_implies, implies_true, hR, sb]
        refine ⟨fun z => by omega, fun _ => ⟨fun _ => ⟨_, _, r1, ?_⟩, fun z => by omega⟩⟩
        simp (disch := omega) only [zI_add, zI_sub, zI_mul, zI_neg, zI_lit, zI_0, zI_1, zI_lt, zI_le, zI_eq, zI_clamp, zI_inT, zI_ite, mOb_0, mOb_1, mOb_3, mOb_4, mLd_1, mAr_1, mLen_1, mTrue_t, Int.toNat_zero, Int.toNat_one, true_and, and_true, not_true_eq_false, not_false_eq_true, true_or, or_true, or_self, false_or, or_false, forall_const, false_implies, true_implies, implies_true, p0, g1, e, R1, sb]
        refine ⟨fun _ => ⟨h2, r2, rfl⟩, fun z => by omega⟩
    · refine bad (fun z => cc z.2) (vc_T_begin (Or.inl ⟨h, nl, ?_⟩))
      simp (disch := omega) only [zI_add, zI_sub, zI_mul, zI_neg, zI_lit, zI_0, zI_1, zI_lt, zI_le, zI_eq, zI_clamp, zI_inT, zI_ite, mOb_0, mOb_1, mOb_3, mOb_4, mLd_1, mAr_1, mLen_1, mTrue_t, Int.toNat_zero, Int.toNat_one, true_and, and_true, not_true_eq_false, not_false_eq_true, true_or, or_true, or_self, false_or, or_false, forall_const, false_implies, true_implies, implies_true, hR, sb]
      repeat' (first | refine And.intro ?_ ?_ | with_reducible intro _)
      all_goals first | omega | rfl
  · rw [if_neg cl] at nl
    exact bad (fun z => cl z.1) (vc_T_begin (Or.inr ⟨_, _, nl, rfl⟩))
theorem s_T_on {d : Nat} {h : mHp} {b : Nat} (hb : bAd b) {B : tB} (hO : BOk B) {C : tC} {n q r : Int} (hR : h.2.2.1 0 0 = b) (hB : BC h b B) (hS : PLs h B q) (hq : q + 200 < 1000000) (hC : CC h 102 C) (hK : COk C) (hf : cO C = 1 → (fPl B (cL C) (-1)).1 = 1) (hr : h.1 0 14 = zI r) (n1 : -2147483648 ≤ n) (n2 : n < 2147483648) :
    ∃ h' q', mRuns (d + 20) 185 0 [some (.ref 0), some (.int (zI n)), none, none] [] h (tAns (rOn C n) 0 h') ∧ PLs h' B q' ∧ q ≤ q' ∧ q' ≤ q + 192 ∧ CC h' 102 (cOn B C n) ∧ h'.1 0 14 = zI (nOn C n r) ∧ tqF [102, 103, 104, 105, 106, 107] [14] h h' := by
  have sb := bBl_of hb
  have k := hK
  have k1 := k.1
  have k3 := k.2.2.1
  have k4 := k.2.2.2.1
  obtain ⟨e0, e1, e2, e3, e4⟩ := hC.1
  by_cases cn : 0 ≤ n ∧ n ≤ 100
  · by_cases cc : cO C = 1 ∧ cN C + n ≤ 300
    · have w1 : rOn C n = (0, cN C + n) := by unfold rOn; rw [if_pos cn, if_pos cc]
      have w2 : cOn B C n = cDays B (onPs B C) (onPt B C) n.toNat C := by unfold cOn; rw [if_pos ⟨cn, cc⟩]
      have w3 : nOn C n r = r := by unfold nOn; rw [if_neg (fun z => z.2 cc)]
      rw [w1, w2, w3]
      have hl := k.2.2.2.2.1
      have hl' := k.2.2.2.2.2.1
      have ff := hf cc.1
      have ha := pCell_ad (w := -1) hl hl' (by omega) (by omega)
      obtain ⟨h1, q1, r1, F1, S1, qa, qb, f1⟩ := s_T_planFor (d := d) hb hO hl hl' (show -1 ≤ (-1 : Int) by omega) (by omega) hB hS hq
      obtain ⟨⟨⟨g0, g1⟩, g2, g3⟩, g4⟩ := F1
      obtain ⟨y1, y2, y3, y4, y5, y6⟩ := g3 ff
      obtain ⟨h2, r2, C2, G2⟩ := s_T_on_loop (d := d) hb ha hO (fPl_pOk hO hl hl' ff) cn.1 cn.2 n.toNat 0 C h1 (by omega) (by omega) (by rw [f1.2.2.1 0 (by omega)]; exact hR) (plF_BC hb f1 hB) y5 (g4 ff) (CC_of hC (fun k hk => f1.1 _ (Or.inr (by omega)))) hK cc.1 (by omega)
      rw [show ((n.toNat : Nat) : Int) = n by omega] at r2
      refine ⟨h2, q1, vc_T_on ?_, PLs_of S1 (fun x a b => G2.1 x (by simp; omega)) (G2.1 143 (by simp)), qa, qb, C2, by rw [G2.1 0 (by simp), f1.1 0 (Or.inl (by omega))]; exact hr, tqF_fr (tqF_of (tpF_pl f1)) G2 (by simp) (by simp)⟩
      unfold tAns
      simp (disch := omega) only [zI_add, zI_sub, zI_mul, zI_neg, zI_lit, zI_0, zI_1, zI_lt, zI_le, zI_eq, zI_clamp, zI_inT, zI_ite, mOb_0, mOb_1, mOb_3, mOb_4, mLd_1, mAr_1, mLen_1, mTrue_t, Int.toNat_zero, Int.toNat_one, true_and, and_true, not_true_eq_false, not_false_eq_true, true_or, or_true, or_self, false_or, or_false, forall_const, false_implies, true_implies, implies_true, e0, e4, e2, hR, sb]
      refine ⟨fun z => by omega, fun _ => ⟨fun _ => ⟨fun z => by omega, fun _ => ⟨fun _ => ⟨_, _, r1, r2⟩, fun z => by omega⟩⟩, fun z => by omega⟩⟩
    · have w1 : rOn C n = (0, -1) := by unfold rOn; rw [if_pos cn, if_neg cc]
      have w2 : cOn B C n = C := by unfold cOn; rw [if_neg (fun z => cc z.2)]
      have w3 : nOn C n r = r + 1 := by unfold nOn; rw [if_pos ⟨cn, cc⟩]
      rw [w1, w2, w3]
      refine ⟨mPI h 0 14 (zI (r + 1)), q, vc_T_on ?_, PLs_pi0 hS _ _, by omega, by omega, CC_of hC (fun k hk => hI_ne (by omega) _ _ _), hI_same _ _ _ _, tqF_pi (tqF_refl _ _ _) (by simp) _⟩
      unfold tAns
      simp (disch := omega) only [zI_add, zI_sub, zI_mul, zI_neg, zI_lit, zI_0, zI_1, zI_lt, zI_le, zI_eq, zI_clamp, zI_inT, zI_ite, mOb_0, mOb_1, mOb_3, mOb_4, mLd_1, mAr_1, mLen_1, mTrue_t, Int.toNat_zero, Int.toNat_one, true_and, and_true, not_true_eq_false, not_false_eq_true, true_or, or_true, or_self, false_or, or_false, forall_const, false_implies, true_implies, implies_true, e0, e4, e2, hR, sb, hr]
      repeat' (first | refine And.intro ?_ ?_ | with_reducible intro _)
      all_goals first | omega | rfl
  · have w1 : rOn C n = (1, 0) := by unfold rOn; rw [if_neg cn]
    have w2 : cOn B C n = C := by unfold cOn; rw [if_neg (fun z => cn z.1)]
    have w3 : nOn C n r = r := by unfold nOn; rw [if_neg (fun z => cn z.1)]
    rw [w1, w2, w3]
    refine ⟨mXc h, q, vc_T_on ?_, hS, by omega, by omega, hC, hr, tqF_of (tpF_xc _ _)⟩
    unfold tAns
    simp (disch := omega) only [zI_add, zI_sub, zI_mul, zI_neg, zI_lit, zI_0, zI_1, zI_lt, zI_le, zI_eq, zI_clamp, zI_inT, zI_ite, mOb_0, mOb_1, mOb_3, mOb_4, mLd_1, mAr_1, mLen_1, mTrue_t, Int.toNat_zero, Int.toNat_one, true_and, and_true, not_true_eq_false, not_false_eq_true, true_or, or_true, or_self, false_or, or_false, forall_const, false_implies, true_implies, implies_true]
    repeat' (first | refine And.intro ?_ ?_ | with_reducible intro _)
    all_goals first | omega | rfl
theorem s_T_worth {d : Nat} {h : mHp} {b : Nat} (hb : bAd b) {B : tB} (hO : BOk B) {t l q : Int} (hR : h.2.2.1 0 0 = b) (hB : BC h b B) (hS : PLs h B q) (hq : q + 400 < 1000000) (l1 : -2147483648 ≤ l) (l2 : l < 2147483648) (x1 : -2147483648 ≤ t) (x2 : t < 2147483648) :
    ∃ h' q', mRuns (d + 20) 171 0 [some (.ref 0), some (.int (zI t)), some (.int (zI l)), none, none] [] h (tAns (rWorth B t l) (if (rWorth B t l).1 = 1 then 1 else 0) h') ∧ PLs h' B q' ∧ q ≤ q' ∧ q' ≤ q + 384 ∧ tpF [] h h' := by
  have sb := bBl_of hb
  have o := hO.1
  have nt := s_T_needTaster (d := d + 18) hb hR hB hO x1 x2
  have nl := s_T_needLies (d := d + 18) (h := h) l1 l2
  unfold tOut at nt nl
  by_cases ct : 0 ≤ t ∧ t < bT B
  · rw [if_pos ct] at nt
    by_cases cl : 0 ≤ l ∧ l ≤ 2
    · rw [if_pos cl] at nl
      obtain ⟨h1, q1, r1, F1, S1, qa, qb, f1⟩ := s_T_planFor (d := d) hb hO cl.1 cl.2 (show -1 ≤ (-1 : Int) by omega) (by omega) hB hS (by omega)
      have ha := pCell_ad (w := -1) cl.1 cl.2 (by omega) (by omega)
      obtain ⟨p0, p1, p2⟩ := pSh_of ha
      obtain ⟨⟨⟨g0, g1⟩, g2, g3⟩, g4⟩ := id F1
      rcases g2 with e | e
      · have hr : rWorth B t l = (0, 0) := by unfold rWorth; rw [if_neg (fun z => z ct), if_neg (fun z => z cl), if_pos e]
        rw [hr]
        refine ⟨h1, q1, vc_T_worth (Or.inl ⟨h, nt, Or.inl ⟨h, nl, ?_⟩⟩), S1, qa, by omega, tpF_pl f1⟩
        unfold tAns
        simp (disch := omega) only [zI_add, zI_sub, zI_mul, zI_neg, zI_lit, zI_0, zI_1, zI_lt, zI_le, zI_eq, zI_clamp, zI_inT, zI_ite, mOb_0, mOb_1, mOb_3, mOb_4, mLd_1, mAr_1, mLen_1, mTrue_t, Int.toNat_zero, Int.toNat_one, true_and, and_true, not_true_eq_false, not_false_eq_true, true_or, or_true, or_self, false_or, or_false, forall_const, false_implies, true_implies, implies_true, hR, sb]
        refine ⟨_, _, r1, ?_⟩
        simp (disch := omega) only [zI_add, zI_sub, zI_mul, zI_neg, zI_lit, zI_0, zI_1, zI_lt, zI_le, zI_eq, zI_clamp, zI_inT, zI_ite, mOb_0, mOb_1, mOb_3, mOb_4, mLd_1, mAr_1, mLen_1, mTrue_t, Int.toNat_zero, Int.toNat_one, true_and, and_true, not_true_eq_false, not_false_eq_true, true_or, or_true, or_self, false_or, or_false, forall_const, false_implies, true_implies, implies_true, p0, g1, e]
        repeat' (first | refine And.intro ?_ ?_ | with_reducible intro _)
        all_goals first | omega | rfl
      · have R1 : h1.2.2.1 0 0 = b := by rw [f1.2.2.1 0 (by omega)]; exact hR
        obtain ⟨h2, q2, r2, F2, S2, qc, qd, f2, f3⟩ := s_T_planFor2 (d := d) (w := t) hb hO cl.1 cl.2 (by omega) (by omega) (plF_BC hb f1 hB) S1 (by omega)
        have ha2 := pCell_ad (w := t) cl.1 cl.2 (by omega) (by omega)
        obtain ⟨p0', p1', p2'⟩ := pSh_of ha2
        obtain ⟨⟨⟨i0, i1⟩, i2, i3⟩, i4⟩ := id F2
        have keep : h2.1 (pCell l (-1)) = h1.1 (pCell l (-1)) := f3 _ (by have := pAd_rng ha; omega) (by unfold pCell; omega) (by unfold pCell; omega) (by unfold pCell; omega)
        have n1 := fPl_num hO cl.1 cl.2 e
        obtain ⟨y1, y2, -⟩ := g3 e
        rcases i2 with f | f
        · have hr : rWorth B t l = (0, -1) := by unfold rWorth; rw [if_neg (fun z => z ct), if_neg (fun z => z cl), if_neg (show ¬ (fPl B l (-1)).1 = 0 by omega), if_pos f]
          rw [hr]
          refine ⟨h2, q2, vc_T_worth (Or.inl ⟨h, nt, Or.inl ⟨h, nl, ?_⟩⟩), S2, by omega, by omega, tpF_pl (plF_trans f1 f2)⟩
          unfold tAns
          simp (disch := omega) only [zI_add, zI_sub, zI_mul, zI_neg, zI_lit, zI_0, zI_1, zI_lt, zI_le, zI_eq, zI_clamp, zI_inT, zI_ite, mOb_0, mOb_1, mOb_3, mOb_4, mLd_1, mAr_1, mLen_1, mTrue_t, Int.toNat_zero, Int.toNat_one, true_and, and_true, not_true_eq_false, not_false_eq_true, true_or, or_true, or_self, false_or, or_false, forall_const, false_implies, true_implies, implies_true, hR, sb]
          refine ⟨_, _, r1, ?_⟩
          simp (disch := omega) only [zI_add, zI_sub, zI_mul, zI_neg, zI_lit, zI_0, zI_1, zI_lt, zI_le, zI_eq, zI_clamp, zI_inT, zI_ite, mOb_0, mOb_1, mOb_3, mOb_4, mLd_1, mAr_1, mLen_1, mTrue_t, Int.toNat_zero, Int.toNat_one, true_and, and_true, not_true_eq_false, not_false_eq_true, true_or, or_true, or_self, false_or, or_false, forall_const, false_implies, true_implies, implies_true, p0, g1, e, R1, sb]
          refine ⟨fun _ => ⟨_, _, r2, ?_⟩, fun z => by omega⟩
          simp (disch := omega) only [zI_add, zI_sub, zI_mul, zI_neg, zI_lit, zI_0, zI_1, zI_lt, zI_le, zI_eq, zI_clamp, zI_inT, zI_ite, mOb_0, mOb_1, mOb_3, mOb_4, mLd_1, mAr_1, mLen_1, mTrue_t, Int.toNat_zero, Int.toNat_one, true_and, and_true, not_true_eq_false, not_false_eq_true, true_or, or_true, or_self, false_or, or_false, forall_const, false_implies, true_implies, implies_true, p0', i1, f]
          repeat' (first | refine And.intro ?_ ?_ | with_reducible intro _)
          all_goals first | omega | rfl
        · have hr : rWorth B t l = (0, 1000 * ((fPl B l t).2.1 - (fPl B l (-1)).2.1) + (fPl B l t).2.2.1 - (fPl B l (-1)).2.2.1) := by unfold rWorth; rw [if_neg (fun z => z ct), if_neg (fun z => z cl), if_neg (show ¬ (fPl B l (-1)).1 = 0 by omega), if_neg (show ¬ (fPl B l t).1 = 0 by omega)]
          rw [hr]
          obtain ⟨w1, w2, -⟩ := i3 f
          refine ⟨h2, q2, vc_T_worth (Or.inl ⟨h, nt, Or.inl ⟨h, nl, ?_⟩⟩), S2, by omega, by omega, tpF_pl (plF_trans f1 f2)⟩
          unfold tAns
          simp (disch := omega) only [zI_add, zI_sub, zI_mul, zI_neg, zI_lit, zI_0, zI_1, zI_lt, zI_le, zI_eq, zI_clamp, zI_inT, zI_ite, mOb_0, mOb_1, mOb_3, mOb_4, mLd_1, mAr_1, mLen_1, mTrue_t, Int.toNat_zero, Int.toNat_one, true_and, and_true, not_true_eq_false, not_false_eq_true, true_or, or_true, or_self, false_or, or_false, forall_const, false_implies, true_implies, implies_true, hR, sb]
          refine ⟨_, _, r1, ?_⟩
          simp (disch := omega) only [zI_add, zI_sub, zI_mul, zI_neg, zI_lit, zI_0, zI_1, zI_lt, zI_le, zI_eq, zI_clamp, zI_inT, zI_ite, mOb_0, mOb_1, mOb_3, mOb_4, mLd_1, mAr_1, mLen_1, mTrue_t, Int.toNat_zero, Int.toNat_one, true_and, and_true, not_true_eq_false, not_false_eq_true, true_or, or_true, or_self, false_or, or_false, forall_const, false_implies, true_implies, implies_true, p0, g1, e, R1, sb]
          refine ⟨fun _ => ⟨_, _, r2, ?_⟩, fun z => by omega⟩
          simp (disch := omega) only [zI_add, zI_sub, zI_mul, zI_neg, zI_lit, zI_0, zI_1, zI_lt, zI_le, zI_eq, zI_clamp, zI_inT, zI_ite, mOb_0, mOb_1, mOb_3, mOb_4, mLd_1, mAr_1, mLen_1, mTrue_t, Int.toNat_zero, Int.toNat_one, true_and, and_true, not_true_eq_false, not_false_eq_true, true_or, or_true, or_self, false_or, or_false, forall_const, false_implies, true_implies, implies_true, p0', p0, i1, f, keep, y1, y2, w1, w2]
          repeat' (first | refine And.intro ?_ ?_ | with_reducible intro _)
          all_goals first | omega | rfl
    · rw [if_neg cl] at nl
      have hr : rWorth B t l = (2, 0) := by unfold rWorth; rw [if_neg (fun z => z ct), if_pos cl]
      rw [hr]
      exact ⟨mXc h, q, vc_T_worth (Or.inl ⟨h, nt, Or.inr ⟨_, _, nl, rfl⟩⟩), hS, by omega, by omega, tpF_xc _ _⟩
  · rw [if_neg ct] at nt
    have hr : rWorth B t l = (1, 0) := by unfold rWorth; rw [if_pos ct]
    rw [hr]
    exact ⟨mXc h, q, vc_T_worth (Or.inr ⟨_, _, nt, rfl⟩), hS, by omega, by omega, tpF_xc _ _⟩

/-! L3, ate, fell, undo -/
abbrev evOk (E : tE) (k : Int) : Prop := eN E < 60 ∧ 0 ≤ k ∧ k ≤ 999
def wF (rs fs : List Nat) (h h' : mHp) : Prop := (∀ x, x ∉ rs → x ≠ 0 → h'.1 x = h.1 x) ∧ (∀ k, k ∉ fs → h'.1 0 k = h.1 0 k) ∧ h'.2.1 = h.2.1 ∧ h'.2.2.1 = h.2.2.1 ∧ h.2.2.2 ≤ h'.2.2.2 ∧ h'.2.2.2 ≤ h.2.2.2 + 1
theorem wF_refl (rs fs : List Nat) (h : mHp) : wF rs fs h h := ⟨fun _ _ _ => rfl, fun _ _ => rfl, rfl, rfl, Nat.le_refl _, Nat.le_succ _⟩
theorem wF_x (rs fs : List Nat) (h : mHp) : wF rs fs h (mXc h) := ⟨fun _ _ _ => rfl, fun _ _ => rfl, rfl, rfl, Nat.le_succ _, Nat.le_refl _⟩
theorem wF_fr {rs fs l : List Nat} {h h' : mHp} (g : hFr l h h') (hl : ∀ x, x ∈ l → x ∈ rs) (h0 : 0 ∉ l) : wF rs fs h h' :=
  ⟨fun x a _ => g.1 x (fun z => a (hl x z)), fun k _ => by rw [g.1 0 h0], by rw [g.2], by rw [g.2], by rw [g.2]; exact Nat.le_refl _, by rw [g.2]; exact Nat.le_succ _⟩
theorem wF_pi {rs fs : List Nat} {h h' : mHp} (f : wF rs fs h h') {k : Nat} (hk : k ∈ fs) (v : Int32) : wF rs fs h (mPI h' 0 k v) :=
  ⟨fun x hx hy => by rw [hI_ne hy]; exact f.1 x hx hy, fun j hj => by rw [hI_off (y := j) (k := k) (fun e => hj (e ▸ hk))]; exact f.2.1 j hj, f.2.2.1, f.2.2.2.1, f.2.2.2.2⟩
abbrev teOk (B : tB) (t q : Int) : Prop := (0 ≤ t ∧ t < bT B) ∧ (0 ≤ q ∧ q < bD B)
def rAte (B : tB) (E : tE) (t q k : Int) : Int × Int := if teOk B t q then (0, if evOk E k then eN E + 1 else -1) else (1, 0)
def eAte (B : tB) (E : tE) (t q k w : Int) : tE := if teOk B t q ∧ evOk E k then eAdd E t q k w else E
def nAte (B : tB) (E : tE) (t q k r : Int) : Int := if teOk B t q ∧ ¬ evOk E k then r + 1 else r
abbrev fallOk (E : tE) (t k : Int) : Prop := aFell E t = -1 ∧ evOk E k
def rFall (B : tB) (E : tE) (t k : Int) : Int × Int := if 0 ≤ t ∧ t < bT B then (0, if fallOk E t k then eN E + 1 else -1) else (1, 0)
def eFall (B : tB) (E : tE) (t k : Int) : tE := if (0 ≤ t ∧ t < bT B) ∧ fallOk E t k then eAdd E t (-1) k 0 else E
def nFall (B : tB) (E : tE) (t k r : Int) : Int := if (0 ≤ t ∧ t < bT B) ∧ ¬ fallOk E t k then r + 1 else r
theorem s_T_ate {d : Nat} {h : mHp} {b : Nat} {B : tB} {E : tE} {r : Int} (hb : bAd b) (hR : h.2.2.1 0 0 = b) (hB : BC h b B) (hO : BOk B) (hL : LC h 90 E) (hE : EOk B E) (hr : h.1 0 13 = zI r) {t q k w : Int} (t1 : -2147483648 ≤ t) (t2 : t < 2147483648) (q1 : -2147483648 ≤ q) (q2 : q < 2147483648) (k1 : -2147483648 ≤ k) (k2 : k < 2147483648) (w0 : 0 ≤ w) (w1 : w ≤ 1) :
    ∃ h', mRuns (d + 3) 172 0 [some (.ref 0), some (.int (zI t)), some (.int (zI q)), some (.int (zI k)), some (.int (zI w))] [] h (tAns (rAte B E t q k) 1 h') ∧ LC h' 90 (eAte B E t q k w) ∧ h'.1 0 13 = zI (nAte B E t q k r) ∧ wF [90, 91, 92, 93, 94, 95] [13] h h' := by
  have hn := hE.1
  have nt := s_T_needTaster (d := d + 1) hb hR hB hO t1 t2
  have nd := s_T_needDish (d := d + 1) hb hR hB hO q1 q2
  unfold tOut at nt nd
  by_cases ct : 0 ≤ t ∧ t < bT B
  · rw [if_pos ct] at nt
    by_cases cq : 0 ≤ q ∧ q < bD B
    · rw [if_pos cq] at nd
      have ok : teOk B t q := ⟨ct, cq⟩
      by_cases ce : evOk E k
      · have e1 : rAte B E t q k = (0, eN E + 1) := by unfold rAte; rw [if_pos ok, if_pos ce]
        have e2 : eAte B E t q k w = eAdd E t q k w := by unfold eAte; rw [if_pos ⟨ok, ce⟩]
        have e3 : nAte B E t q k r = r := by unfold nAte; rw [if_neg (fun z => z.2 ce)]
        rw [e1, e2, e3]
        obtain ⟨h1, r1, L1, f1⟩ := s_Log_addMeal_yes (d := d) (t := t) (q := q) (Or.inl rfl : lAd 90) hL hE cq.1 ce.1 ce.2.1 ce.2.2 w0 w1
        have e90 : h1.1 90 0 = zI (eN E + 1) := L1.1.1
        refine ⟨h1, vc_T_ate (Or.inl ⟨h, nt, Or.inl ⟨h, nd, _, _, r1, zI (eN E + 1), h1, vc_T_answerEvent ?_, rfl⟩⟩), L1, by rw [f1.1 0 (by simp)]; exact hr, wF_fr f1 (by simp) (by simp)⟩
        simp (disch := omega) only [zI_add, zI_sub, zI_mul, zI_neg, zI_lit, zI_0, zI_1, zI_lt, zI_le, zI_eq, zI_clamp, zI_inT, zI_ite, mOb_0, mOb_1, mOb_3, mOb_4, mLd_1, mAr_1, mLen_1, mTrue_t, Int.toNat_zero, Int.toNat_one, true_and, and_true, not_true_eq_false, not_false_eq_true, true_or, or_true, or_self, false_or, or_false, forall_const, false_implies, true_implies, implies_true, e90]
        repeat' (first | refine And.intro ?_ ?_ | with_reducible intro _)
        all_goals first | omega | rfl
      · have e1 : rAte B E t q k = (0, -1) := by unfold rAte; rw [if_pos ok, if_neg ce]
        have e2 : eAte B E t q k w = E := by unfold eAte; rw [if_neg (fun z => ce z.2)]
        have e3 : nAte B E t q k r = r + 1 := by unfold nAte; rw [if_pos ⟨ok, ce⟩]
        rw [e1, e2, e3]
        have r1 := s_Log_addMeal_no (d := d) (t := t) (q := q) (w := w) (Or.inl rfl : lAd 90) hL hE k1 k2 ce
        refine ⟨mPI h 0 13 (zI (r + 1)), vc_T_ate (Or.inl ⟨h, nt, Or.inl ⟨h, nd, _, _, r1, zI (-1), mPI h 0 13 (zI (r + 1)), vc_T_answerEvent ?_, rfl⟩⟩), LC_of hL (fun k hk => hI_ne (by omega) _ _ _), hI_same _ _ _ _, wF_pi (wF_refl _ _ _) (by simp) _⟩
        simp (disch := omega) only [zI_add, zI_sub, zI_mul, zI_neg, zI_lit, zI_0, zI_1, zI_lt, zI_le, zI_eq, zI_clamp, zI_inT, zI_ite, mOb_0, mOb_1, mOb_3, mOb_4, mLd_1, mAr_1, mLen_1, mTrue_t, Int.toNat_zero, Int.toNat_one, true_and, and_true, not_true_eq_false, not_false_eq_true, true_or, or_true, or_self, false_or, or_false, forall_const, false_implies, true_implies, implies_true, hr]
        repeat' (first | refine And.intro ?_ ?_ | with_reducible intro _)
        all_goals first | omega | rfl
    · rw [if_neg cq] at nd
      have e1 : rAte B E t q k = (1, 0) := by unfold rAte; rw [if_neg (fun z => cq z.2)]
      have e2 : eAte B E t q k w = E := by unfold eAte; rw [if_neg (fun z => cq z.1.2)]
      have e3 : nAte B E t q k r = r := by unfold nAte; rw [if_neg (fun z => cq z.1.2)]
      rw [e1, e2, e3]
      exact ⟨mXc h, vc_T_ate (Or.inl ⟨h, nt, Or.inr ⟨_, _, nd, rfl⟩⟩), hL, hr, wF_x _ _ _⟩
  · rw [if_neg ct] at nt
    have e1 : rAte B E t q k = (1, 0) := by unfold rAte; rw [if_neg (fun z => ct z.1)]
    have e2 : eAte B E t q k w = E := by unfold eAte; rw [if_neg (fun z => ct z.1.1)]
    have e3 : nAte B E t q k r = r := by unfold nAte; rw [if_neg (fun z => ct z.1.1)]
    rw [e1, e2, e3]
    exact ⟨mXc h, vc_T_ate (Or.inr ⟨_, _, nt, rfl⟩), hL, hr, wF_x _ _ _⟩
theorem s_T_fell {d : Nat} {h : mHp} {b : Nat} {B : tB} {E : tE} {r : Int} (hb : bAd b) (hR : h.2.2.1 0 0 = b) (hB : BC h b B) (hO : BOk B) (hL : LC h 90 E) (hE : EOk B E) (hr : h.1 0 13 = zI r) {t k : Int} (t1 : -2147483648 ≤ t) (t2 : t < 2147483648) (k1 : -2147483648 ≤ k) (k2 : k < 2147483648) :
    ∃ h', mRuns (d + 3) 174 0 [some (.ref 0), some (.int (zI t)), some (.int (zI k))] [] h (tAns (rFall B E t k) 1 h') ∧ LC h' 90 (eFall B E t k) ∧ h'.1 0 13 = zI (nFall B E t k r) ∧ wF [90, 91, 92, 93, 94, 95] [13] h h' := by
  have hn := hE.1
  have o := hO.1
  have nt := s_T_needTaster (d := d + 1) hb hR hB hO t1 t2
  unfold tOut at nt
  by_cases ct : 0 ≤ t ∧ t < bT B
  · rw [if_pos ct] at nt
    by_cases ce : fallOk E t k
    · have e1 : rFall B E t k = (0, eN E + 1) := by unfold rFall; rw [if_pos ct, if_pos ce]
      have e2 : eFall B E t k = eAdd E t (-1) k 0 := by unfold eFall; rw [if_pos ⟨ct, ce⟩]
      have e3 : nFall B E t k r = r := by unfold nFall; rw [if_neg (fun z => z.2 ce)]
      rw [e1, e2, e3]
      obtain ⟨h1, r1, L1, f1⟩ := s_Log_addFall_yes (d := d) (Or.inl rfl : lAd 90) hL hE ct.1 (by omega) ce.1 ce.2.1 ce.2.2.1 ce.2.2.2
      have e90 : h1.1 90 0 = zI (eN E + 1) := L1.1.1
      refine ⟨h1, vc_T_fell (Or.inl ⟨h, nt, _, _, r1, zI (eN E + 1), h1, vc_T_answerEvent ?_, rfl⟩), L1, by rw [f1.1 0 (by simp)]; exact hr, wF_fr f1 (by simp) (by simp)⟩
      simp (disch := omega) only [zI_add, zI_sub, zI_mul, zI_neg, zI_lit, zI_0, zI_1, zI_lt, zI_le, zI_eq, zI_clamp, zI_inT, zI_ite, mOb_0, mOb_1, mOb_3, mOb_4, mLd_1, mAr_1, mLen_1, mTrue_t, Int.toNat_zero, Int.toNat_one, true_and, and_true, not_true_eq_false, not_false_eq_true, true_or, or_true, or_self, false_or, or_false, forall_const, false_implies, true_implies, implies_true, e90]
      repeat' (first | refine And.intro ?_ ?_ | with_reducible intro _)
      all_goals first | omega | rfl
    · have e1 : rFall B E t k = (0, -1) := by unfold rFall; rw [if_pos ct, if_neg ce]
      have e2 : eFall B E t k = E := by unfold eFall; rw [if_neg (fun z => ce z.2)]
      have e3 : nFall B E t k r = r + 1 := by unfold nFall; rw [if_pos ⟨ct, ce⟩]
      rw [e1, e2, e3]
      have r1 := s_Log_addFall_no (d := d) (Or.inl rfl : lAd 90) hL hE ct.1 (by omega) k1 k2 ce
      refine ⟨mPI h 0 13 (zI (r + 1)), vc_T_fell (Or.inl ⟨h, nt, _, _, r1, zI (-1), mPI h 0 13 (zI (r + 1)), vc_T_answerEvent ?_, rfl⟩), LC_of hL (fun k hk => hI_ne (by omega) _ _ _), hI_same _ _ _ _, wF_pi (wF_refl _ _ _) (by simp) _⟩
      simp (disch := omega) only [zI_add, zI_sub, zI_mul, zI_neg, zI_lit, zI_0, zI_1, zI_lt, zI_le, zI_eq, zI_clamp, zI_inT, zI_ite, mOb_0, mOb_1, mOb_3, mOb_4, mLd_1, mAr_1, mLen_1, mTrue_t, Int.toNat_zero, Int.toNat_one, true_and, and_true, not_true_eq_false, not_false_eq_true, true_or, or_true, or_self, false_or, or_false, forall_const, false_implies, true_implies, implies_true, hr]
      repeat' (first | refine And.intro ?_ ?_ | with_reducible intro _)
      all_goals first | omega | rfl
  · rw [if_neg ct] at nt
    have e1 : rFall B E t k = (1, 0) := by unfold rFall; rw [if_neg ct]
    have e2 : eFall B E t k = E := by unfold eFall; rw [if_neg (fun z => ct z.1)]
    have e3 : nFall B E t k r = r := by unfold nFall; rw [if_neg (fun z => ct z.1)]
    rw [e1, e2, e3]
    exact ⟨mXc h, vc_T_fell (Or.inr ⟨_, _, nt, rfl⟩), hL, hr, wF_x _ _ _⟩
def rUndo (E : tE) : Int := if eN E = 0 then -1 else eN E - 1
def eUndo (E : tE) : tE := if eN E = 0 then E else eDrop E
theorem s_T_undo {d : Nat} {h : mHp} {B : tB} {E : tE} (hO : BOk B) (hL : LC h 90 E) (hE : EOk B E) :
    ∃ h', mRuns (d + 2) 152 0 [some (.ref 0)] [] h (.inl (some (.int (zI (rUndo E))), h')) ∧ LC h' 90 (eUndo E) ∧ wF [90, 91, 92, 93, 94, 95] [] h h' := by
  have hn := hE.1
  unfold rUndo eUndo
  by_cases c : eN E = 0
  · rw [if_pos c, if_pos c]
    refine ⟨h, vc_T_undo ⟨_, _, s_Log_drop_no (d := d) (Or.inl rfl : lAd 90) hL hE c, ?_⟩, hL, wF_refl _ _ _⟩
    simp (disch := omega) only [zI_add, zI_sub, zI_mul, zI_neg, zI_lit, zI_0, zI_1, zI_lt, zI_le, zI_eq, zI_clamp, zI_inT, zI_ite, mOb_0, mOb_1, mOb_3, mOb_4, mLd_1, mAr_1, mLen_1, mTrue_t, Int.toNat_zero, Int.toNat_one, true_and, and_true, not_true_eq_false, not_false_eq_true, true_or, or_true, or_self, false_or, or_false, forall_const, false_implies, true_implies, implies_true]
    repeat' (first | refine And.intro ?_ ?_ | with_reducible intro _)
    all_goals first | omega | rfl
  · rw [if_neg c, if_neg c]
    obtain ⟨h1, r1, L1, f1⟩ := s_Log_drop_yes (d := d) (Or.inl rfl : lAd 90) hL hO hE (by omega)
    have e90 : h1.1 90 0 = zI (eN E - 1) := L1.1.1
    refine ⟨h1, vc_T_undo ⟨_, _, r1, ?_⟩, L1, wF_fr f1 (by simp) (by simp)⟩
    simp (disch := omega) only [zI_add, zI_sub, zI_mul, zI_neg, zI_lit, zI_0, zI_1, zI_lt, zI_le, zI_eq, zI_clamp, zI_inT, zI_ite, mOb_0, mOb_1, mOb_3, mOb_4, mLd_1, mAr_1, mLen_1, mTrue_t, Int.toNat_zero, Int.toNat_one, true_and, and_true, not_true_eq_false, not_false_eq_true, true_or, or_true, or_self, false_or, or_false, forall_const, false_implies, true_implies, implies_true, e90]
    repeat' (first | refine And.intro ?_ ?_ | with_reducible intro _)
    all_goals first | omega | rfl
theorem s_M_undo {d : Nat} {h : mHp} {B : tB} {E : tE} (hM : EM h E) (hE : EOk B E) :
    ∃ h', mRuns (d + 1) 59 0 [some (.ref 114)] [] h (.inl (some (.int (zI (rUndo E))), h')) ∧ EM h' (eUndo E) ∧ hFg 114 [] [0, 42] h h' := by
  have hn := hE.1
  have e42 : (mPI h 114 0 (zI 0)).1 114 42 = zI (eN E) := by rw [hI_off (by omega)]; exact hM.1
  unfold rUndo eUndo
  by_cases c : eN E = 0
  · rw [if_pos c, if_pos c]
    refine ⟨mPI h 114 0 (zI 0), vc_M_undo ?_, EM_of hM (hI_off (by omega) _ _ _ _) (hI_ne (by omega) _ _ _), hFg_pf (hFg_refl _ _ _ _) (by simp) _⟩
    simp (disch := omega) only [zI_add, zI_sub, zI_mul, zI_neg, zI_lit, zI_0, zI_1, zI_lt, zI_le, zI_eq, zI_clamp, zI_inT, zI_ite, mOb_0, mOb_1, mOb_3, mOb_4, mLd_1, mAr_1, mLen_1, mTrue_t, Int.toNat_zero, Int.toNat_one, true_and, and_true, not_true_eq_false, not_false_eq_true, true_or, or_true, or_self, false_or, or_false, forall_const, false_implies, true_implies, implies_true, e42]
    repeat' (first | refine And.intro ?_ ?_ | with_reducible intro _)
    all_goals first | omega | rfl
  · rw [if_neg c, if_neg c]
    refine ⟨mPI (mPI h 114 0 (zI 0)) 114 42 (zI (eN E - 1)), vc_M_undo ?_, ⟨hI_same _ _ _ _, ?_, ?_, ?_, ?_⟩, hFg_pf (hFg_pf (hFg_refl _ _ _ _) (by simp) _) (by simp) _⟩
    · simp (disch := omega) only [zI_add, zI_sub, zI_mul, zI_neg, zI_lit, zI_0, zI_1, zI_lt, zI_le, zI_eq, zI_clamp, zI_inT, zI_ite, mOb_0, mOb_1, mOb_3, mOb_4, mLd_1, mAr_1, mLen_1, mTrue_t, Int.toNat_zero, Int.toNat_one, true_and, and_true, not_true_eq_false, not_false_eq_true, true_or, or_true, or_self, false_or, or_false, forall_const, false_implies, true_implies, implies_true, e42, hI_same]
      repeat' (first | refine And.intro ?_ ?_ | with_reducible intro _)
      all_goals first | omega | rfl
    all_goals (intro i i0 i1; rw [hI_ne (by omega), hI_ne (by omega)]; have i1 : i < eN E - 1 := i1)
    · exact hM.2.1 i i0 (by omega)
    · exact hM.2.2.1 i i0 (by omega)
    · exact hM.2.2.2.1 i i0 (by omega)
    · exact hM.2.2.2.2 i i0 (by omega)

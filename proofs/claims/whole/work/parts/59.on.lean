noncomputable def cDays (B : tB) (ps pt : Int → Int) : Nat → tC → tC
  | 0, C => C
  | n + 1, C => cDays B ps pt n (cDay B ps pt C)
def onPs (B : tB) (C : tC) : Int → Int := (fPl B (cL C) (-1)).2.2.2
def onPt (B : tB) (C : tC) : Int → Int := pTk B (cL C) (-1)
def rOn (C : tC) (n : Int) : Int × Int := if 0 ≤ n ∧ n ≤ 100 then (0, if cO C = 1 ∧ cN C + n ≤ 300 then cN C + n else -1) else (1, 0)
noncomputable def cOn (B : tB) (C : tC) (n : Int) : tC := if (0 ≤ n ∧ n ≤ 100) ∧ cO C = 1 ∧ cN C + n ≤ 300 then cDays B (onPs B C) (onPt B C) n.toNat C else C
def nOn (C : tC) (n r : Int) : Int := if (0 ≤ n ∧ n ≤ 100) ∧ ¬ (cO C = 1 ∧ cN C + n ≤ 300) then r + 1 else r
theorem COk_days {B : tB} {ps pt : Int → Int} : ∀ (j : Nat) (C : tC), COk C → cO C = 1 → cN C + j ≤ 300 → COk (cDays B ps pt j C) ∧ cO (cDays B ps pt j C) = 1 ∧ cN (cDays B ps pt j C) = cN C + j ∧ cL (cDays B ps pt j C) = cL C := by
  intro j
  induction j with
  | zero => intro C h h1 _; exact ⟨h, h1, by show cN C = cN C + ((0 : Nat) : Int); omega, rfl⟩
  | succ j ih =>
    intro C h h1 h2
    have cd := cN_day B ps pt C
    obtain ⟨k1, k2, k3, k4⟩ := ih (cDay B ps pt C) (COk_day h (by omega) h1) (by rw [cd.2.1]; exact h1) (by omega)
    exact ⟨k1, k2, by show cN (cDays B ps pt j (cDay B ps pt C)) = _; omega, by show cL (cDays B ps pt j (cDay B ps pt C)) = _; rw [k4]; exact cd.2.2.1⟩
theorem s_M_on_loop {d : Nat} {B : tB} (hO : BOk B) {ps pt : Int → Int} (hp : pOk B ps pt) {n : Int} (n0 : 0 ≤ n) (n1 : n ≤ 100) : ∀ (j : Nat) (i : Int) (C : tC) (h : mHp), i + j = n → 0 ≤ i → BM h B → PM h B ps pt → CM h C → COk C → cO C = 1 → cN C + j ≤ 300 →
    ∃ h', mRuns (d + 3) 74 56 [some (.ref 114), some (.int (zI n)), some (.int (zI i))] [] h (.inl (some (.int (zI (cN C + j))), h')) ∧ CM h' (cDays B ps pt j C) ∧ hFg 114 [135, 136] [46, 47] h h' := by
  intro j
  induction j with
  | zero =>
    intro i C h hi i0 hB hM hC hK h1 h2
    have e := hC.1.1
    rw [if_pos h1] at e
    refine ⟨h, vc_M_on_56 ?_, hC, hFg_refl _ _ _ _⟩
    rw [show cN C + ((0 : Nat) : Int) = cN C by omega]
    simp (disch := omega) only [zI_add, zI_sub, zI_mul, zI_neg, zI_lit, zI_0, zI_1, zI_lt, zI_le, zI_eq, zI_clamp, zI_inT, zI_ite, mOb_0, mOb_1, mOb_3, mOb_4, mLd_1, mAr_1, mLen_1, mTrue_t, Int.toNat_zero, Int.toNat_one, true_and, and_true, not_true_eq_false, not_false_eq_true, true_or, or_true, or_self, false_or, or_false, forall_const, false_implies, true_implies, implies_true, e]
    repeat' (first | refine And.intro ?_ ?_ | with_reducible intro _)
    all_goals first | omega | rfl
  | succ j ih =>
    intro i C h hi i0 hB hM hC hK h1 h2
    have cd := cN_day B ps pt C
    obtain ⟨h1', r1, C1, G1⟩ := s_M_dayGoes (d := d) hB hO hp hM hC hK h1 (by omega)
    obtain ⟨h2', r2, C2, G2⟩ := ih (i + 1) (cDay B ps pt C) h1' (by omega) (by omega) (BM_fg hB G1 (by simp) (by simp)) (PM_of hM (G1.1 134 (by simp) (by omega))) C1 (COk_day hK (by omega) h1) (by rw [cd.2.1]; exact h1) (by omega)
    refine ⟨h2', vc_M_on_56 ?_, C2, hFg_trans G1 G2⟩
    rw [show cN (cDay B ps pt C) + (j : Int) = cN C + ((j + 1 : Nat) : Int) by omega] at r2
    simp (disch := omega) only [zI_add, zI_sub, zI_mul, zI_neg, zI_lit, zI_0, zI_1, zI_lt, zI_le, zI_eq, zI_clamp, zI_inT, zI_ite, mOb_0, mOb_1, mOb_3, mOb_4, mLd_1, mAr_1, mLen_1, mTrue_t, Int.toNat_zero, Int.toNat_one, true_and, and_true, not_true_eq_false, not_false_eq_true, true_or, or_true, or_self, false_or, or_false, forall_const, false_implies, true_implies, implies_true]
    exact ⟨fun z => by omega, fun _ => ⟨_, r1, r2⟩⟩
theorem s_M_on {d : Nat} {h : mHp} {B : tB} {C : tC} {n r : Int} (hB : BM h B) (hO : BOk B) (hC : CM h C) (hK : COk C) (hf : cO C = 1 → (fPl B (cL C) (-1)).1 = 1 ∧ PM h B (onPs B C) (onPt B C)) (hr : h.1 120 2 = zI r) (n1 : -2147483648 ≤ n) (n2 : n < 2147483648) :
    ∃ h', mRuns (d + 4) 74 0 [some (.ref 114), some (.int (zI n)), none] [] h (.inl (some (.int (zI (rOn C n).2)), h')) ∧ h'.1 114 0 = zI (rOn C n).1 ∧ CM h' (cOn B C n) ∧ h'.1 120 2 = zI (nOn C n r) ∧ (∀ k, k ≠ 2 → h'.1 120 k = h.1 120 k) ∧ hFg 114 [120, 135, 136] [0, 46, 47] h h' := by
  have o := hO.1
  have k := hK
  have k1 := k.1
  have k3 := k.2.2.1
  have k4 := k.2.2.2.1
  have F0 : hFg 114 [120, 135, 136] [0, 46, 47] h (mPI h 114 0 (zI 0)) := hFg_pf (hFg_refl _ _ _ _) (by simp) _
  have B0 := BM_of (h' := mPI h 114 0 (zI 0)) hB (fun k _ _ => hI_off (by omega) _ _ _ _) (fun k _ _ => hI_ne (by omega) _ _ _)
  have C0 := CM_of (h' := mPI h 114 0 (zI 0)) hC (fun k _ _ => hI_off (by omega) _ _ _ _) (hI_ne (by omega) _ _ _) (hI_ne (by omega) _ _ _)
  have t0 : (mPI h 114 0 (zI 0)).1 114 0 = zI 0 := hI_same _ _ _ _
  have h120 : (mPI h 114 0 (zI 0)).1 120 = h.1 120 := hI_ne (by omega) _ _ _
  have wi := s_M_within (d := d + 2) (h := mPI h 114 0 (zI 0)) (a := n) (b := 0) (c := 100) n1 n2 (by omega) (by omega) (by omega) (by omega)
  by_cases cn : 0 ≤ n ∧ n ≤ 100
  · rw [if_pos cn] at wi
    have rt := s_M_right_t (d := d + 2) (w := 1) t0 (a := 1) rfl
    have e46 := C0.1.1
    by_cases cc : cO C = 1 ∧ cN C + n ≤ 300
    · have e1 : rOn C n = (0, cN C + n) := by unfold rOn; rw [if_pos cn, if_pos cc]
      have e2 : cOn B C n = cDays B (onPs B C) (onPt B C) n.toNat C := by unfold cOn; rw [if_pos ⟨cn, cc⟩]
      have e3 : nOn C n r = r := by unfold nOn; rw [if_neg (fun z => z.2 cc)]
      rw [e1, e2, e3]
      obtain ⟨f1, f2⟩ := hf cc.1
      have hl := k.2.2.2.2.1
      have hl' := k.2.2.2.2.2.1
      rw [if_pos cc.1] at e46
      obtain ⟨h1, r1, C1, G1⟩ := s_M_on_loop (d := d + 1) hO (fPl_pOk hO hl hl' f1) cn.1 cn.2 n.toNat 0 C (mPI h 114 0 (zI 0)) (by omega) (by omega) B0 (PM_of f2 (hI_ne (by omega) _ _ _)) C0 hK cc.1 (by omega)
      rw [show ((n.toNat : Nat) : Int) = n by omega] at r1
      refine ⟨h1, vc_M_on ?_, by rw [G1.2.1 0 (by simp), t0], C1, by rw [G1.1 120 (by simp) (by omega), h120]; exact hr, fun k _ => by rw [G1.1 120 (by simp) (by omega), h120], hFg_trans F0 (hFg_mono G1 (by simp) (by simp))⟩
      simp (disch := omega) only [zI_add, zI_sub, zI_mul, zI_neg, zI_lit, zI_0, zI_1, zI_lt, zI_le, zI_eq, zI_clamp, zI_inT, zI_ite, mOb_0, mOb_1, mOb_3, mOb_4, mLd_1, mAr_1, mLen_1, mTrue_t, Int.toNat_zero, Int.toNat_one, true_and, and_true, not_true_eq_false, not_false_eq_true, true_or, or_true, or_self, false_or, or_false, forall_const, false_implies, true_implies, implies_true]
      refine ⟨_, _, wi, _, _, rt, ?_⟩
      simp (disch := omega) only [zI_add, zI_sub, zI_mul, zI_neg, zI_lit, zI_0, zI_1, zI_lt, zI_le, zI_eq, zI_clamp, zI_inT, zI_ite, mOb_0, mOb_1, mOb_3, mOb_4, mLd_1, mAr_1, mLen_1, mTrue_t, Int.toNat_zero, Int.toNat_one, true_and, and_true, not_true_eq_false, not_false_eq_true, true_or, or_true, or_self, false_or, or_false, forall_const, false_implies, true_implies, implies_true, e46]
      repeat' (first | refine And.intro ?_ ?_ | with_reducible intro _)
      all_goals first | omega | exact r1
    · have e1 : rOn C n = (0, -1) := by unfold rOn; rw [if_pos cn, if_neg cc]
      have e2 : cOn B C n = C := by unfold cOn; rw [if_neg (fun z => cc z.2)]
      have e3 : nOn C n r = r + 1 := by unfold nOn; rw [if_pos ⟨cn, cc⟩]
      rw [e1, e2, e3]
      rw [← h120] at hr
      refine ⟨mPI (mPI h 114 0 (zI 0)) 120 2 (zI (r + 1)), vc_M_on ?_, by rw [hI_ne (by omega)]; exact t0, CM_of C0 (fun k _ _ => by rw [hI_ne (by omega)]) (hI_ne (by omega) _ _ _) (hI_ne (by omega) _ _ _), hI_same _ _ _ _, fun k hk => by rw [hI_off hk, h120], hFg_pi F0 (by simp) (by omega) _ _⟩
      have tw : (2 : Int).toNat = 2 := rfl
      simp (disch := omega) only [zI_add, zI_sub, zI_mul, zI_neg, zI_lit, zI_0, zI_1, zI_lt, zI_le, zI_eq, zI_clamp, zI_inT, zI_ite, mOb_0, mOb_1, mOb_3, mOb_4, mLd_1, mAr_1, mLen_1, mTrue_t, Int.toNat_zero, Int.toNat_one, true_and, and_true, not_true_eq_false, not_false_eq_true, true_or, or_true, or_self, false_or, or_false, forall_const, false_implies, true_implies, implies_true]
      refine ⟨_, _, wi, _, _, rt, ?_⟩
      rcases k1 with z | z
      · rw [if_neg (by omega)] at e46
        simp (disch := omega) only [zI_add, zI_sub, zI_mul, zI_neg, zI_lit, zI_0, zI_1, zI_lt, zI_le, zI_eq, zI_clamp, zI_inT, zI_ite, mOb_0, mOb_1, mOb_3, mOb_4, mLd_1, mAr_1, mLen_1, mTrue_t, Int.toNat_zero, Int.toNat_one, true_and, and_true, not_true_eq_false, not_false_eq_true, true_or, or_true, or_self, false_or, or_false, forall_const, false_implies, true_implies, implies_true, e46, tw, hr]
        repeat' (first | refine And.intro ?_ ?_ | with_reducible intro _)
        all_goals first | omega | rfl
      · rw [if_pos z] at e46
        simp (disch := omega) only [zI_add, zI_sub, zI_mul, zI_neg, zI_lit, zI_0, zI_1, zI_lt, zI_le, zI_eq, zI_clamp, zI_inT, zI_ite, mOb_0, mOb_1, mOb_3, mOb_4, mLd_1, mAr_1, mLen_1, mTrue_t, Int.toNat_zero, Int.toNat_one, true_and, and_true, not_true_eq_false, not_false_eq_true, true_or, or_true, or_self, false_or, or_false, forall_const, false_implies, true_implies, implies_true, e46, tw, hr]
        repeat' (first | refine And.intro ?_ ?_ | with_reducible intro _)
        all_goals first | omega | rfl
  · rw [if_neg cn] at wi
    have rf := s_M_right_f (d := d + 2) (w := 1) t0 (by omega) (by omega)
    have e1 : rOn C n = (1, 0) := by unfold rOn; rw [if_neg cn]
    have e2 : cOn B C n = C := by unfold cOn; rw [if_neg (fun z => cn z.1)]
    have e3 : nOn C n r = r := by unfold nOn; rw [if_neg (fun z => cn z.1)]
    rw [e1, e2, e3]
    refine ⟨mPI (mPI h 114 0 (zI 0)) 114 0 (zI 1), vc_M_on ?_, hI_same _ _ _ _, CM_of C0 (fun k _ _ => hI_off (by omega) _ _ _ _) (hI_ne (by omega) _ _ _) (hI_ne (by omega) _ _ _), by rw [hI_ne (by omega), h120]; exact hr, fun k _ => by rw [hI_ne (by omega), h120], hFg_pf F0 (by simp) _⟩
    simp (disch := omega) only [zI_add, zI_sub, zI_mul, zI_neg, zI_lit, zI_0, zI_1, zI_lt, zI_le, zI_eq, zI_clamp, zI_inT, zI_ite, mOb_0, mOb_1, mOb_3, mOb_4, mLd_1, mAr_1, mLen_1, mTrue_t, Int.toNat_zero, Int.toNat_one, true_and, and_true, not_true_eq_false, not_false_eq_true, true_or, or_true, or_self, false_or, or_false, forall_const, false_implies, true_implies, implies_true]
    refine ⟨_, _, wi, _, _, rf, ?_⟩
    simp (disch := omega) only [zI_add, zI_sub, zI_mul, zI_neg, zI_lit, zI_0, zI_1, zI_lt, zI_le, zI_eq, zI_clamp, zI_inT, zI_ite, mOb_0, mOb_1, mOb_3, mOb_4, mLd_1, mAr_1, mLen_1, mTrue_t, Int.toNat_zero, Int.toNat_one, true_and, and_true, not_true_eq_false, not_false_eq_true, true_or, or_true, or_self, false_or, or_false, forall_const, false_implies, true_implies, implies_true]
    repeat' (first | refine And.intro ?_ ?_ | with_reducible intro _)
    all_goals first | omega | rfl
/-! the class's -/
theorem s_T_on_loop {d : Nat} {b a : Nat} (hb : bAd b) (ha : pAd a) {B : tB} (hO : BOk B) {ps pt : Int → Int} (hp : pOk B ps pt) {n : Int} (n0 : 0 ≤ n) (n1 : n ≤ 100) : ∀ (j : Nat) (i : Int) (C : tC) (h : mHp), i + j = n → 0 ≤ i → h.2.2.1 0 0 = b → BC h b B → aEq (h.1 (a + 1)) (bD B) ps → aEq (h.1 (a + 2)) (bD B) pt → CC h 102 C → COk C → cO C = 1 → cN C + j ≤ 300 →
    ∃ h', mRuns (d + 20) 185 80 [some (.ref 0), some (.int (zI n)), some (.ref a), some (.int (zI i))] [] h (.inl (some (.int (zI (cN C + j))), h')) ∧ CC h' 102 (cDays B ps pt j C) ∧ hFr [102, 103, 104, 105, 106, 107] h h' := by
  have sb := bBl_of hb
  have pr := pAd_rng ha
  have brr : b = 1 ∨ b = 12 := hb
  intro j
  induction j with
  | zero =>
    intro i C h hi i0 hR hB hs ht hC hK h1 h2
    have e := hC.1.2.2.2.2
    refine ⟨h, vc_T_on_80 ?_, hC, hFr_refl _ _⟩
    rw [show cN C + ((0 : Nat) : Int) = cN C by omega]
    simp (disch := omega) only [zI_add, zI_sub, zI_mul, zI_neg, zI_lit, zI_0, zI_1, zI_lt, zI_le, zI_eq, zI_clamp, zI_inT, zI_ite, mOb_0, mOb_1, mOb_3, mOb_4, mLd_1, mAr_1, mLen_1, mTrue_t, Int.toNat_zero, Int.toNat_one, true_and, and_true, not_true_eq_false, not_false_eq_true, true_or, or_true, or_self, false_or, or_false, forall_const, false_implies, true_implies, implies_true, e]
    repeat' (first | refine And.intro ?_ ?_ | with_reducible intro _)
    all_goals first | omega | rfl
  | succ j ih =>
    intro i C h hi i0 hR hB hs ht hC hK h1 h2
    have cd := cN_day B ps pt C
    obtain ⟨h1', r1, C1, G1⟩ := s_Crt_passDay (d := d + 16) (Or.inl rfl : cAd 102) hb ha hO hB hC hK (by omega) hs ht (fun i a b => ⟨(hp i a b).1, (hp i a b).2.1, (hp i a b).2.2.1, (hp i a b).2.2.2.1⟩)
    have g : ∀ x, x < 102 → h1'.1 x = h.1 x := fun x hx => G1.1 x (by simp; omega)
    obtain ⟨h2', r2, C2, G2⟩ := ih (i + 1) (cDay B ps pt C) h1' (by omega) (by omega) (by rw [G1.2]; exact hR) (BC_of hB (fun k hk => g _ (by omega))) (by rw [g _ (by omega)]; exact hs) (by rw [g _ (by omega)]; exact ht) C1 (COk_day hK (by omega) h1) (by rw [cd.2.1]; exact h1) (by omega)
    refine ⟨h2', vc_T_on_80 ?_, C2, hFr_trans G1 G2⟩
    rw [show cN (cDay B ps pt C) + (j : Int) = cN C + ((j + 1 : Nat) : Int) by omega] at r2
    simp (disch := omega) only [zI_add, zI_sub, zI_mul, zI_neg, zI_lit, zI_0, zI_1, zI_lt, zI_le, zI_eq, zI_clamp, zI_inT, zI_ite, mOb_0, mOb_1, mOb_3, mOb_4, mLd_1, mAr_1, mLen_1, mTrue_t, Int.toNat_zero, Int.toNat_one, true_and, and_true, not_true_eq_false, not_false_eq_true, true_or, or_true, or_self, false_or, or_false, forall_const, false_implies, true_implies, implies_true, hR, sb]
    exact ⟨fun z => by omega, fun _ => ⟨_, r1, r2⟩⟩

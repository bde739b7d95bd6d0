/-! L3, feed: the tape's raw words g i; the class keeps their low bytes with a sign, the model without -/
def TC (h : mHp) (n : Int) (g : Int → Int32) : Prop := h.1 23 1 = zI n ∧ ∀ i, 0 ≤ i → i < n → h.1 24 i.toNat = vp_nar .byte ((g i).toInt8.toInt32)
def TM (h : mHp) (n : Int) (g : Int → Int32) : Prop := h.1 114 10 = zI n ∧ ∀ i, 0 ≤ i → i < n → h.1 119 i.toNat = g i &&& zI 255
def gP (g : Int → Int32) (n : Int) (v : Int32) : Int → Int32 := fun i => if i = n then v else g i
def g4 (v : Int32) : Nat → Int → Int → (Int → Int32) → (Int → Int32)
  | 0, _, _, g => g
  | j + 1, s, n, g => g4 v j (s - 8) (n + 1) (gP g n (v >>> (zI s &&& 31)))
theorem s_Rdr_add_loop {d : Nat} {v : Int32} : ∀ (j : Nat) (s n : Int) (g : Int → Int32) (h : mHp), s = 8 * (j : Int) - 8 → j ≤ 4 → 0 ≤ n → n + j ≤ 700 → TC h n g →
    ∃ h', mRuns (d + 1) 133 3 [some (.ref 23), some (.int v), some (.int (zI s))] [] h (.inl (none, h')) ∧ TC h' (n + j) (g4 v j s n g) ∧ hFg 23 [24] [1] h h' := by
  intro j
  induction j with
  | zero =>
    intro s n g h hs hj n0 n1 hT
    refine ⟨h, vc_Rdr_addBytes_3 ?_, by rw [show n + ((0 : Nat) : Int) = n by omega]; exact hT, hFg_refl _ _ _ _⟩
    simp (disch := omega) only [zI_add, zI_sub, zI_mul, zI_neg, zI_lit, zI_0, zI_1, zI_lt, zI_le, zI_eq, zI_clamp, zI_inT, zI_ite, mOb_0, mOb_1, mOb_3, mOb_4, mLd_1, mAr_1, mLen_1, mTrue_t, Int.toNat_zero, Int.toNat_one, true_and, and_true, not_true_eq_false, not_false_eq_true, true_or, or_true, or_self, false_or, or_false, forall_const, false_implies, true_implies, implies_true]
    repeat' (first | refine And.intro ?_ ?_ | with_reducible intro _)
    all_goals first | omega | rfl
  | succ j ih =>
    intro s n g h hs hj n0 n1 hT
    have e := hT.1
    obtain ⟨h', r, p, f⟩ := ih (s - 8) (n + 1) (gP g n (v >>> (zI s &&& 31))) (mPI (mPI h 24 n.toNat (vp_nar .byte ((v >>> (zI s &&& 31)).toInt8.toInt32))) 23 1 (zI (n + 1))) (by omega) (by omega) (by omega) (by omega) ⟨hI_same _ _ _ _, fun i i0 i1 => by
      rw [hI_ne (by omega)]
      unfold gP
      by_cases c : i = n
      · rw [if_pos c, c, hI_same]
      · rw [if_neg c, hI_off (by omega)]; exact hT.2 i i0 (by omega)⟩
    rw [show n + 1 + (j : Int) = n + ((j + 1 : Nat) : Int) by omega] at p
    refine ⟨h', vc_Rdr_addBytes_3 ?_, p, hFg_trans (hFg_pf (hFg_pi (hFg_refl _ _ _ _) (by simp) (by omega) _ _) (by simp) _) f⟩
    rw [show s - 8 = s + -8 by omega] at r
    have e' : ∀ w, (mPI h 24 n.toNat w).1 23 = h.1 23 := fun w => hI_ne (by omega) _ _ _
    have e8 : (-8 : Int32) = zI (-8) := by decide
    rw [e8]
    simp (disch := omega) only [zI_add, zI_sub, zI_mul, zI_neg, zI_lit, zI_0, zI_1, zI_lt, zI_le, zI_eq, zI_clamp, zI_inT, zI_ite, mOb_0, mOb_1, mOb_3, mOb_4, mLd_1, mAr_1, mLen_1, mTrue_t, Int.toNat_zero, Int.toNat_one, true_and, and_true, not_true_eq_false, not_false_eq_true, true_or, or_true, or_self, false_or, or_false, forall_const, false_implies, true_implies, implies_true, e, e']
    repeat' (first | refine And.intro ?_ ?_ | with_reducible intro _)
    all_goals first | omega | exact r
theorem s_M_lays_loop {d : Nat} {v : Int32} : ∀ (j : Nat) (s n : Int) (g : Int → Int32) (h : mHp), s = 8 * (j : Int) - 8 → j ≤ 4 → 0 ≤ n → n + j ≤ 700 → TM h n g →
    ∃ h', mRuns (d + 1) 6 3 [some (.ref 114), some (.int v), some (.int (zI s))] [] h (.inl (none, h')) ∧ TM h' (n + j) (g4 v j s n g) ∧ hFg 114 [119] [10] h h' := by
  intro j
  induction j with
  | zero =>
    intro s n g h hs hj n0 n1 hT
    refine ⟨h, vc_M_lays_3 ?_, by rw [show n + ((0 : Nat) : Int) = n by omega]; exact hT, hFg_refl _ _ _ _⟩
    simp (disch := omega) only [zI_add, zI_sub, zI_mul, zI_neg, zI_lit, zI_0, zI_1, zI_lt, zI_le, zI_eq, zI_clamp, zI_inT, zI_ite, mOb_0, mOb_1, mOb_3, mOb_4, mLd_1, mAr_1, mLen_1, mTrue_t, Int.toNat_zero, Int.toNat_one, true_and, and_true, not_true_eq_false, not_false_eq_true, true_or, or_true, or_self, false_or, or_false, forall_const, false_implies, true_implies, implies_true]
    repeat' (first | refine And.intro ?_ ?_ | with_reducible intro _)
    all_goals first | omega | rfl
  | succ j ih =>
    intro s n g h hs hj n0 n1 hT
    have e := hT.1
    obtain ⟨h', r, p, f⟩ := ih (s - 8) (n + 1) (gP g n (v >>> (zI s &&& 31))) (mPI (mPI h 119 n.toNat ((v >>> (zI s &&& 31)) &&& zI 255)) 114 10 (zI (n + 1))) (by omega) (by omega) (by omega) (by omega) ⟨hI_same _ _ _ _, fun i i0 i1 => by
      rw [hI_ne (by omega)]
      unfold gP
      by_cases c : i = n
      · rw [if_pos c, c, hI_same]
      · rw [if_neg c, hI_off (by omega)]; exact hT.2 i i0 (by omega)⟩
    rw [show n + 1 + (j : Int) = n + ((j + 1 : Nat) : Int) by omega] at p
    refine ⟨h', vc_M_lays_3 ?_, p, hFg_trans (hFg_pf (hFg_pi (hFg_refl _ _ _ _) (by simp) (by omega) _ _) (by simp) _) f⟩
    rw [show s - 8 = s + -8 by omega] at r
    have e' : ∀ w, (mPI h 119 n.toNat w).1 114 = h.1 114 := fun w => hI_ne (by omega) _ _ _
    have e8 : (-8 : Int32) = zI (-8) := by decide
    rw [e8]
    simp (disch := omega) only [zI_add, zI_sub, zI_mul, zI_neg, zI_lit, zI_0, zI_1, zI_lt, zI_le, zI_eq, zI_clamp, zI_inT, zI_ite, mOb_0, mOb_1, mOb_3, mOb_4, mLd_1, mAr_1, mLen_1, mTrue_t, Int.toNat_zero, Int.toNat_one, true_and, and_true, not_true_eq_false, not_false_eq_true, true_or, or_true, or_self, false_or, or_false, forall_const, false_implies, true_implies, implies_true, e, e']
    repeat' (first | refine And.intro ?_ ?_ | with_reducible intro _)
    all_goals first | omega | exact r

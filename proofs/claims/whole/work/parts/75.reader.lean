/-! L3, what a reader does, and the class's small methods -/
def aSc (u : Int → Int) (n : Int) (R : tR) : tR := ((lex u n (rAt R)).1, (lex u n (rAt R)).2.1, (lex u n (rAt R)).2.2.1, (lex u n (rAt R)).2.2.2, rF R, rPl R)
def aFl (k : Int) (R : tR) : tR := if rF R = 0 then (rSo R, rSt R, rAt R, rVa R, k, rSt R) else R
def aW (u : Int → Int) (k : Nat) (R : tR) : Int := aIs u (mStr k) (rSo R) (rSt R) (rAt R)
def aNu (u : Int → Int) (n lo hi : Int) (R : tR) : tR × Int :=
  if rF R ≠ 0 then (R, lo) else if rSo R ≠ 2 then (aFl 1 R, lo) else if rVa R < lo ∨ hi < rVa R then (aFl 2 R, lo) else (aSc u n R, rVa R)
def aOp (u : Int → Int) (n : Int) (k : Nat) (hi wo : Int) (R : tR) : tR × Int :=
  if rF R ≠ 0 ∨ aW u k R = 0 then (R, wo) else aNu u n 0 hi (aSc u n R)
def aEn (u : Int → Int) (n : Int) (R : tR) : tR := if rF R ≠ 0 then R else if rSo R = 3 then aSc u n R else aFl 1 R
def aTo (u : Int → Int) (n told : Int) (used : Int → Bool) (R : tR) : tR × Int :=
  if rF R ≠ 0 then (R, -1) else if rSo R ≠ 2 then (aFl 1 R, -1) else if rVa R = 10000 then (aFl 2 R, -1) else if told ≤ rVa R then (aFl 3 R, -1) else if used (rVa R) = true then (aFl 4 R, -1) else (aSc u n R, rVa R)
def aKn (u : Int → Int) (R : tR) : Int := if aW u 9 R = 1 then 0 else if aW u 10 R = 1 then 1 else if aW u 11 R = 1 then 2 else if aW u 12 R = 1 then 3 else if aW u 13 R = 1 then 4 else -1
def aKi (u : Int → Int) (n : Int) (R : tR) : tR := if aKn u R = -1 then aFl 1 R else aSc u n R
def ROk (u : Int → Int) (n : Int) (R : tR) : Prop := LOk u n (rSo R) (rSt R) (rAt R) (rVa R) ∧ 0 ≤ rF R ∧ rF R ≤ 5 ∧ -1 ≤ rPl R ∧ rPl R ≤ 700
theorem ROk_sc {u : Int → Int} {n : Int} {R : tR} (h : ROk u n R) : ROk u n (aSc u n R) ∧ rAt R ≤ rSt (aSc u n R) := by
  obtain ⟨⟨t1, t2, t3, t4, t5, t6, t7, t8, t9, t10, t11⟩, f⟩ := h
  obtain ⟨a, b⟩ := lex_ok u (n := n) (p := rAt R) (by omega) t5
  exact ⟨⟨a, f⟩, b⟩
theorem ROk_fl {u : Int → Int} {n k : Int} {R : tR} (n1 : n ≤ 700) (h : ROk u n R) (k0 : 0 ≤ k) (k1 : k ≤ 5) : ROk u n (aFl k R) ∧ rSt (aFl k R) = rSt R := by
  unfold aFl
  split
  · obtain ⟨t, f⟩ := h
    have a := t.2.2.1
    have b := t.2.2.2.1
    have c := t.2.2.2.2.1
    exact ⟨⟨t, k0, k1, by show -1 ≤ rSt R; omega, by show rSt R ≤ 700; omega⟩, rfl⟩
  · exact ⟨h, rfl⟩
/-- the state is right, and its start is not before the other's -/
def Aft (u : Int → Int) (n : Int) (R R' : tR) : Prop := ROk u n R' ∧ rSt R ≤ rSt R'
theorem Aft_sc {u : Int → Int} {n : Int} {R : tR} (h : ROk u n R) : Aft u n R (aSc u n R) := by
  obtain ⟨a, b⟩ := ROk_sc h
  have c := h.1.2.2.2.1
  exact ⟨a, by omega⟩
theorem Aft_fl {u : Int → Int} {n k : Int} {R : tR} (n1 : n ≤ 700) (h : ROk u n R) (k0 : 0 ≤ k) (k1 : k ≤ 5) : Aft u n R (aFl k R) := by
  obtain ⟨a, b⟩ := ROk_fl n1 h k0 k1
  exact ⟨a, by omega⟩
theorem Aft_trans {u : Int → Int} {n : Int} {R R1 R2 : tR} (a : Aft u n R R1) (b : Aft u n R1 R2) : Aft u n R R2 := ⟨b.1, Int.le_trans a.2 b.2⟩
theorem Aft_nu {u : Int → Int} {n lo hi : Int} {R : tR} (n1 : n ≤ 700) (h : ROk u n R) : Aft u n R (aNu u n lo hi R).1 := by
  unfold aNu
  repeat' split
  · exact ⟨h, Int.le_refl _⟩
  · exact Aft_fl n1 h (by omega) (by omega)
  · exact Aft_fl n1 h (by omega) (by omega)
  · exact Aft_sc h
theorem Aft_op {u : Int → Int} {n hi wo : Int} {k : Nat} {R : tR} (n1 : n ≤ 700) (h : ROk u n R) : Aft u n R (aOp u n k hi wo R).1 := by
  unfold aOp
  split
  · exact ⟨h, Int.le_refl _⟩
  · exact Aft_trans (Aft_sc h) (Aft_nu n1 (Aft_sc h).1)
theorem Aft_en {u : Int → Int} {n : Int} {R : tR} (n1 : n ≤ 700) (h : ROk u n R) : Aft u n R (aEn u n R) := by
  unfold aEn
  repeat' split
  · exact ⟨h, Int.le_refl _⟩
  · exact Aft_sc h
  · exact Aft_fl n1 h (by omega) (by omega)
theorem Aft_to {u : Int → Int} {n told : Int} {used : Int → Bool} {R : tR} (n1 : n ≤ 700) (h : ROk u n R) : Aft u n R (aTo u n told used R).1 := by
  unfold aTo
  repeat' split
  · exact ⟨h, Int.le_refl _⟩
  · exact Aft_fl n1 h (by omega) (by omega)
  · exact Aft_fl n1 h (by omega) (by omega)
  · exact Aft_fl n1 h (by omega) (by omega)
  · exact Aft_fl n1 h (by omega) (by omega)
  · exact Aft_sc h
theorem Aft_ki {u : Int → Int} {n : Int} {R : tR} (n1 : n ≤ 700) (h : ROk u n R) : Aft u n R (aKi u n R) := by
  unfold aKi
  split
  · exact Aft_fl n1 h (by omega) (by omega)
  · exact Aft_sc h
/-! no fault behind: none ahead -/
theorem sc_f (u : Int → Int) (n : Int) (R : tR) : rF (aSc u n R) = rF R := rfl
theorem fl_f {k : Int} (hk : k ≠ 0) (R : tR) : rF (aFl k R) ≠ 0 := by
  unfold aFl
  split
  · exact hk
  · assumption
theorem nu_f {u : Int → Int} {n lo hi : Int} {R : tR} (h : rF (aNu u n lo hi R).1 = 0) : rF R = 0 ∧ aNu u n lo hi R = (aSc u n R, rVa R) ∧ rSo R = 2 ∧ lo ≤ rVa R ∧ rVa R ≤ hi := by
  unfold aNu at h ⊢
  split at h
  · exact absurd h (by assumption)
  · split at h
    · exact absurd h (fl_f (by omega) R)
    · split at h
      · exact absurd h (fl_f (by omega) R)
      · rename_i a b c
        rw [if_neg a, if_neg b, if_neg c]
        exact ⟨by omega, rfl, by omega, by omega, by omega⟩
theorem nu_v (u : Int → Int) (n lo hi : Int) (R : tR) : (aNu u n lo hi R).2 = lo ∨ (lo ≤ (aNu u n lo hi R).2 ∧ (aNu u n lo hi R).2 ≤ hi) := by
  unfold aNu
  repeat' split
  · exact Or.inl rfl
  · exact Or.inl rfl
  · exact Or.inl rfl
  · refine Or.inr ⟨?_, ?_⟩
    · show lo ≤ rVa R; omega
    · show rVa R ≤ hi; omega
theorem op_f {u : Int → Int} {n hi wo : Int} {k : Nat} {R : tR} (h : rF (aOp u n k hi wo R).1 = 0) : rF R = 0 ∧ ((aOp u n k hi wo R).2 = wo ∨ (0 ≤ (aOp u n k hi wo R).2 ∧ (aOp u n k hi wo R).2 ≤ hi)) := by
  unfold aOp at h ⊢
  split at h
  · rename_i a
    rw [if_pos a]
    exact ⟨h, Or.inl rfl⟩
  · rename_i a
    rw [if_neg a]
    obtain ⟨x, y, z, v, w⟩ := nu_f h
    rw [y]
    exact ⟨x, Or.inr ⟨v, w⟩⟩
theorem en_f {u : Int → Int} {n : Int} {R : tR} (h : rF (aEn u n R) = 0) : rF R = 0 ∧ rSo R = 3 ∧ aEn u n R = aSc u n R := by
  unfold aEn at h ⊢
  split at h
  · exact absurd h (by assumption)
  · split at h
    · rename_i a b
      rw [if_neg a, if_pos b]
      exact ⟨h, b, rfl⟩
    · exact absurd h (fl_f (by omega) R)
theorem to_f {u : Int → Int} {n told : Int} {used : Int → Bool} {R : tR} (h : rF (aTo u n told used R).1 = 0) : rF R = 0 ∧ aTo u n told used R = (aSc u n R, rVa R) ∧ rSo R = 2 ∧ rVa R ≠ 10000 ∧ rVa R < told ∧ used (rVa R) = false := by
  unfold aTo at h ⊢
  split at h
  · exact absurd h (by assumption)
  · split at h
    · exact absurd h (fl_f (by omega) R)
    · split at h
      · exact absurd h (fl_f (by omega) R)
      · split at h
        · exact absurd h (fl_f (by omega) R)
        · split at h
          · exact absurd h (fl_f (by omega) R)
          · rename_i a b c d e
            rw [if_neg a, if_neg b, if_neg c, if_neg d, if_neg e]
            exact ⟨h, rfl, by omega, c, by omega, by simpa using e⟩
theorem ki_f {u : Int → Int} {n : Int} {R : tR} (h : rF (aKi u n R) = 0) : rF R = 0 ∧ aKn u R ≠ -1 ∧ aKi u n R = aSc u n R := by
  unfold aKi at h ⊢
  split at h
  · exact absurd h (fl_f (by omega) R)
  · rename_i a
    rw [if_neg a]
    exact ⟨h, a, rfl⟩
theorem kn_rng (u : Int → Int) (R : tR) : -1 ≤ aKn u R ∧ aKn u R ≤ 4 := by
  unfold aKn
  repeat' split
  all_goals omega
/-! the class -/
abbrev fsR : List Nat := [3, 4, 5, 6, 7, 10]
def RC (h : mHp) (u : Int → Int) (n : Int) (R : tR) : Prop :=
  h.1 23 2 = zI n ∧ XC h n u ∧ h.1 23 3 = zI (rAt R) ∧ h.1 23 4 = zI (rSo R) ∧ h.1 23 5 = zI (rSt R) ∧ (rSo R = 2 → h.1 23 6 = zI (rVa R)) ∧ h.1 23 7 = zI (rF R) ∧ h.1 23 10 = zI (rPl R)
theorem RC_fr {h h' : mHp} {u : Int → Int} {n : Int} {R : tR} (hR : RC h u n R) (f : h'.1 23 = h.1 23) (g : h'.1 24 = h.1 24) : RC h' u n R := by
  obtain ⟨a1, a2, a3, a4, a5, a6, a7, a8⟩ := hR
  unfold RC
  rw [f]
  exact ⟨a1, fun i i0 i1 => by rw [g]; exact a2 i i0 i1, a3, a4, a5, a6, a7, a8⟩
theorem s_Rdr_sc {d : Nat} {u : Int → Int} {n : Int} {R : tR} {h : mHp} (n1 : n ≤ 700) (hu : uR u) (hO : ROk u n R) (hR : RC h u n R) :
    ∃ h', mRuns (d + 2) 135 0 [some (.ref 23)] [] h (.inl (none, h')) ∧ RC h' u n (aSc u n R) ∧ hFg 23 [] fsR h h' := by
  obtain ⟨a1, a2, a3, a4, a5, a6, a7, a8⟩ := hR
  have t3 := hO.1.2.2.1
  have t4 := hO.1.2.2.2.1
  have t5 := hO.1.2.2.2.2.1
  obtain ⟨h', r, b1, b2, b3, b4, f⟩ := s_Rdr_scan (d := d) n1 hu (show 0 ≤ rAt R by omega) t5 a2 a1 a3
  exact ⟨h', r, ⟨by rw [f.2.1 2 (by simp)]; exact a1, XC_fr a2 f (by simp), b3, b1, b2, b4, by rw [f.2.1 7 (by simp)]; exact a7, by rw [f.2.1 10 (by simp)]; exact a8⟩, hFg_mono f (by simp) (by simp)⟩
theorem s_Rdr_fl {d : Nat} {u : Int → Int} {n k : Int} {R : tR} {h : mHp} (hO : ROk u n R) (hR : RC h u n R) :
    ∃ h', mRuns (d + 1) 140 0 [some (.ref 23), some (.int (zI k))] [] h (.inl (none, h')) ∧ RC h' u n (aFl k R) ∧ hFg 23 [] fsR h h' := by
  obtain ⟨a1, a2, a3, a4, a5, a6, a7, a8⟩ := hR
  have o := hO.2
  by_cases c : rF R = 0
  · have F : hFg 23 [] fsR h (mPI (mPI h 23 7 (zI k)) 23 10 (zI (rSt R))) := hFg_pf (hFg_pf (hFg_refl _ _ _ _) (by simp) _) (by simp) _
    refine ⟨mPI (mPI h 23 7 (zI k)) 23 10 (zI (rSt R)), vc_Rdr_fail ?_, ?_, F⟩
    · simp (disch := omega) only [zI_add, zI_sub, zI_mul, zI_neg, zI_lit, zI_0, zI_1, zI_lt, zI_le, zI_eq, zI_clamp, zI_inT, zI_ite, mOb_0, mOb_1, mOb_3, mOb_4, mLd_1, mAr_1, mLen_1, mTrue_t, Int.toNat_zero, Int.toNat_one, true_and, and_true, not_true_eq_false, not_false_eq_true, true_or, or_true, or_self, false_or, or_false, forall_const, false_implies, true_implies, implies_true, a7, a5, hI_off]
      repeat' (first | refine And.intro ?_ ?_ | with_reducible intro _)
      all_goals first | omega | rfl
    · unfold aFl
      rw [if_pos c]
      refine ⟨by rw [hI_off (by omega), hI_off (by omega)]; exact a1, XC_fr a2 F (by simp), ?_, ?_, ?_, fun z => ?_, ?_, ?_⟩
      · rw [hI_off (by omega), hI_off (by omega)]; exact a3
      · rw [hI_off (by omega), hI_off (by omega)]; exact a4
      · rw [hI_off (by omega), hI_off (by omega)]; exact a5
      · rw [hI_off (by omega), hI_off (by omega)]; exact a6 z
      · rw [hI_off (by omega), hI_same]; rfl
      · rw [hI_same]; rfl
  · refine ⟨h, vc_Rdr_fail ?_, by unfold aFl; rw [if_neg c]; exact ⟨a1, a2, a3, a4, a5, a6, a7, a8⟩, hFg_refl _ _ _ _⟩
    simp (disch := omega) only [zI_add, zI_sub, zI_mul, zI_neg, zI_lit, zI_0, zI_1, zI_lt, zI_le, zI_eq, zI_clamp, zI_inT, zI_ite, mOb_0, mOb_1, mOb_3, mOb_4, mLd_1, mAr_1, mLen_1, mTrue_t, Int.toNat_zero, Int.toNat_one, true_and, and_true, not_true_eq_false, not_false_eq_true, true_or, or_true, or_self, false_or, or_false, forall_const, false_implies, true_implies, implies_true, a7]
    repeat' (first | refine And.intro ?_ ?_ | with_reducible intro _)
    all_goals first | omega | rfl
theorem s_Rdr_w {d : Nat} {u : Int → Int} {n : Int} {R : tR} {h : mHp} {k : Nat} (hk : k < 14) (n1 : n ≤ 700) (hu : uR u) (hO : ROk u n R) (hR : RC h u n R) :
    mRuns (d + 1) 138 0 [some (.ref 23), some (.ref (144 + k)), none] [] h (.inl (some (.int (zI (aW u k R))), h)) := by
  obtain ⟨a1, a2, a3, a4, a5, a6, a7, a8⟩ := hR
  exact s_Rdr_isWord hk n1 hu a2 hO.1 a3 a4 a5
theorem s_Rdr_nu {d : Nat} {u : Int → Int} {n lo hi : Int} {R : tR} {h : mHp} (n1 : n ≤ 700) (hu : uR u) (hO : ROk u n R) (hR : RC h u n R) (l0 : 0 ≤ lo) (l1 : lo ≤ 20000) (i0 : 0 ≤ hi) (i1 : hi ≤ 20000) :
    ∃ h', mRuns (d + 3) 141 0 [some (.ref 23), some (.int (zI lo)), some (.int (zI hi)), none] [] h (.inl (some (.int (zI (aNu u n lo hi R).2)), h')) ∧ RC h' u n (aNu u n lo hi R).1 ∧ hFg 23 [] fsR h h' := by
  have o := hO.2
  have ov := hO.1.2.2.2.2.2.2.2
  have a4 := hR.2.2.2.1
  have a6 := hR.2.2.2.2.2.1
  have a7 := hR.2.2.2.2.2.2.1
  have so := hO.1
  have so1 := so.1
  have so2 := so.2.1
  unfold aNu
  by_cases c0 : rF R = 0
  · rw [if_neg (by omega)]
    by_cases c1 : rSo R = 2
    · rw [if_neg (by omega)]
      have a6 := a6 c1
      by_cases c2 : rVa R < lo ∨ hi < rVa R
      · rw [if_pos c2]
        obtain ⟨h', r, C, f⟩ := s_Rdr_fl (d := d + 1) (k := 2) hO hR
        refine ⟨h', vc_Rdr_number ?_, C, f⟩
        simp (disch := omega) only [zI_add, zI_sub, zI_mul, zI_neg, zI_lit, zI_0, zI_1, zI_lt, zI_le, zI_eq, zI_clamp, zI_inT, zI_ite, mOb_0, mOb_1, mOb_3, mOb_4, mLd_1, mAr_1, mLen_1, mTrue_t, Int.toNat_zero, Int.toNat_one, true_and, and_true, not_true_eq_false, not_false_eq_true, true_or, or_true, or_self, false_or, or_false, forall_const, false_implies, true_implies, implies_true, a7, a4, a6]
        repeat' (first | refine And.intro ?_ ?_ | with_reducible intro _)
        all_goals first | omega | exact ⟨h', r, rfl⟩
      · rw [if_neg c2]
        obtain ⟨h', r, C, f⟩ := s_Rdr_sc (d := d) n1 hu hO hR
        refine ⟨h', vc_Rdr_number ?_, C, f⟩
        simp (disch := omega) only [zI_add, zI_sub, zI_mul, zI_neg, zI_lit, zI_0, zI_1, zI_lt, zI_le, zI_eq, zI_clamp, zI_inT, zI_ite, mOb_0, mOb_1, mOb_3, mOb_4, mLd_1, mAr_1, mLen_1, mTrue_t, Int.toNat_zero, Int.toNat_one, true_and, and_true, not_true_eq_false, not_false_eq_true, true_or, or_true, or_self, false_or, or_false, forall_const, false_implies, true_implies, implies_true, a7, a4, a6]
        repeat' (first | refine And.intro ?_ ?_ | with_reducible intro _)
        all_goals first | omega | exact ⟨h', r, rfl⟩
    · rw [if_pos c1]
      obtain ⟨h', r, C, f⟩ := s_Rdr_fl (d := d + 1) (k := 1) hO hR
      refine ⟨h', vc_Rdr_number ?_, C, f⟩
      simp (disch := omega) only [zI_add, zI_sub, zI_mul, zI_neg, zI_lit, zI_0, zI_1, zI_lt, zI_le, zI_eq, zI_clamp, zI_inT, zI_ite, mOb_0, mOb_1, mOb_3, mOb_4, mLd_1, mAr_1, mLen_1, mTrue_t, Int.toNat_zero, Int.toNat_one, true_and, and_true, not_true_eq_false, not_false_eq_true, true_or, or_true, or_self, false_or, or_false, forall_const, false_implies, true_implies, implies_true, a7, a4]
      repeat' (first | refine And.intro ?_ ?_ | with_reducible intro _)
      all_goals first | omega | exact ⟨h', r, rfl⟩
  · rw [if_pos c0]
    refine ⟨h, vc_Rdr_number ?_, hR, hFg_refl _ _ _ _⟩
    simp (disch := omega) only [zI_add, zI_sub, zI_mul, zI_neg, zI_lit, zI_0, zI_1, zI_lt, zI_le, zI_eq, zI_clamp, zI_inT, zI_ite, mOb_0, mOb_1, mOb_3, mOb_4, mLd_1, mAr_1, mLen_1, mTrue_t, Int.toNat_zero, Int.toNat_one, true_and, and_true, not_true_eq_false, not_false_eq_true, true_or, or_true, or_self, false_or, or_false, forall_const, false_implies, true_implies, implies_true, a7]
    repeat' (first | refine And.intro ?_ ?_ | with_reducible intro _)
    all_goals first | omega | rfl
theorem s_Rdr_op {d : Nat} {u : Int → Int} {n hi wo : Int} {R : tR} {h : mHp} {k : Nat} (hk : k < 14) (n1 : n ≤ 700) (hu : uR u) (hO : ROk u n R) (hR : RC h u n R) (i0 : 0 ≤ hi) (i1 : hi ≤ 20000) :
    ∃ h', mRuns (d + 4) 142 0 [some (.ref 23), some (.ref (144 + k)), some (.int (zI hi)), some (.int (zI wo))] [] h (.inl (some (.int (zI (aOp u n k hi wo R).2)), h')) ∧ RC h' u n (aOp u n k hi wo R).1 ∧ hFg 23 [] fsR h h' := by
  have o := hO.2
  have a7 := hR.2.2.2.2.2.2.1
  have w := s_Rdr_w (d := d + 2) hk n1 hu hO hR
  have w01 : aW u k R = 0 ∨ aW u k R = 1 := aIs_01 _ _ _ _ _
  unfold aOp
  by_cases c0 : rF R = 0
  · by_cases c1 : aW u k R = 0
    · rw [if_pos (Or.inr c1)]
      refine ⟨h, vc_Rdr_option ?_, hR, hFg_refl _ _ _ _⟩
      simp (disch := omega) only [zI_add, zI_sub, zI_mul, zI_neg, zI_lit, zI_0, zI_1, zI_lt, zI_le, zI_eq, zI_clamp, zI_inT, zI_ite, mOb_0, mOb_1, mOb_3, mOb_4, mLd_1, mAr_1, mLen_1, mTrue_t, Int.toNat_zero, Int.toNat_one, true_and, and_true, not_true_eq_false, not_false_eq_true, true_or, or_true, or_self, false_or, or_false, forall_const, false_implies, true_implies, implies_true, a7]
      refine fun _ => ⟨_, _, w, ?_⟩
      simp (disch := omega) only [zI_add, zI_sub, zI_mul, zI_neg, zI_lit, zI_0, zI_1, zI_lt, zI_le, zI_eq, zI_clamp, zI_inT, zI_ite, mOb_0, mOb_1, mOb_3, mOb_4, mLd_1, mAr_1, mLen_1, mTrue_t, Int.toNat_zero, Int.toNat_one, true_and, and_true, not_true_eq_false, not_false_eq_true, true_or, or_true, or_self, false_or, or_false, forall_const, false_implies, true_implies, implies_true]
      repeat' (first | refine And.intro ?_ ?_ | with_reducible intro _)
      all_goals first | omega | rfl
    · rw [if_neg (by omega)]
      obtain ⟨h1, r1, C1, f1⟩ := s_Rdr_sc (d := d + 1) n1 hu hO hR
      obtain ⟨h2, r2, C2, f2⟩ := s_Rdr_nu (d := d) (lo := 0) n1 hu (ROk_sc hO).1 C1 (by omega) (by omega) i0 i1
      refine ⟨h2, vc_Rdr_option ?_, C2, hFg_trans f1 f2⟩
      simp (disch := omega) only [zI_add, zI_sub, zI_mul, zI_neg, zI_lit, zI_0, zI_1, zI_lt, zI_le, zI_eq, zI_clamp, zI_inT, zI_ite, mOb_0, mOb_1, mOb_3, mOb_4, mLd_1, mAr_1, mLen_1, mTrue_t, Int.toNat_zero, Int.toNat_one, true_and, and_true, not_true_eq_false, not_false_eq_true, true_or, or_true, or_self, false_or, or_false, forall_const, false_implies, true_implies, implies_true, a7]
      refine ⟨fun z => absurd c0 z, fun _ => ⟨_, _, w, ?_⟩⟩
      simp (disch := omega) only [zI_add, zI_sub, zI_mul, zI_neg, zI_lit, zI_0, zI_1, zI_lt, zI_le, zI_eq, zI_clamp, zI_inT, zI_ite, mOb_0, mOb_1, mOb_3, mOb_4, mLd_1, mAr_1, mLen_1, mTrue_t, Int.toNat_zero, Int.toNat_one, true_and, and_true, not_true_eq_false, not_false_eq_true, true_or, or_true, or_self, false_or, or_false, forall_const, false_implies, true_implies, implies_true]
      repeat' (first | refine And.intro ?_ ?_ | with_reducible intro _)
      all_goals first | omega | exact ⟨h1, r1, _, h2, r2, rfl⟩
  · rw [if_pos (Or.inl c0)]
    refine ⟨h, vc_Rdr_option ?_, hR, hFg_refl _ _ _ _⟩
    simp (disch := omega) only [zI_add, zI_sub, zI_mul, zI_neg, zI_lit, zI_0, zI_1, zI_lt, zI_le, zI_eq, zI_clamp, zI_inT, zI_ite, mOb_0, mOb_1, mOb_3, mOb_4, mLd_1, mAr_1, mLen_1, mTrue_t, Int.toNat_zero, Int.toNat_one, true_and, and_true, not_true_eq_false, not_false_eq_true, true_or, or_true, or_self, false_or, or_false, forall_const, false_implies, true_implies, implies_true, a7]
    repeat' (first | refine And.intro ?_ ?_ | with_reducible intro _)
    all_goals first | omega | rfl
theorem s_Rdr_en {d : Nat} {u : Int → Int} {n : Int} {R : tR} {h : mHp} (n1 : n ≤ 700) (hu : uR u) (hO : ROk u n R) (hR : RC h u n R) :
    ∃ h', mRuns (d + 3) 143 0 [some (.ref 23)] [] h (.inl (none, h')) ∧ RC h' u n (aEn u n R) ∧ hFg 23 [] fsR h h' := by
  have o := hO.2
  have a4 := hR.2.2.2.1
  have a7 := hR.2.2.2.2.2.2.1
  have so1 := hO.1.1
  have so2 := hO.1.2.1
  unfold aEn
  by_cases c0 : rF R = 0
  · rw [if_neg (by omega)]
    by_cases c1 : rSo R = 3
    · rw [if_pos c1]
      obtain ⟨h', r, C, f⟩ := s_Rdr_sc (d := d) n1 hu hO hR
      refine ⟨h', vc_Rdr_endLine ?_, C, f⟩
      simp (disch := omega) only [zI_add, zI_sub, zI_mul, zI_neg, zI_lit, zI_0, zI_1, zI_lt, zI_le, zI_eq, zI_clamp, zI_inT, zI_ite, mOb_0, mOb_1, mOb_3, mOb_4, mLd_1, mAr_1, mLen_1, mTrue_t, Int.toNat_zero, Int.toNat_one, true_and, and_true, not_true_eq_false, not_false_eq_true, true_or, or_true, or_self, false_or, or_false, forall_const, false_implies, true_implies, implies_true, a7, a4]
      repeat' (first | refine And.intro ?_ ?_ | with_reducible intro _)
      all_goals first | omega | exact ⟨h', r, rfl⟩
    · rw [if_neg c1]
      obtain ⟨h', r, C, f⟩ := s_Rdr_fl (d := d + 1) (k := 1) hO hR
      refine ⟨h', vc_Rdr_endLine ?_, C, f⟩
      simp (disch := omega) only [zI_add, zI_sub, zI_mul, zI_neg, zI_lit, zI_0, zI_1, zI_lt, zI_le, zI_eq, zI_clamp, zI_inT, zI_ite, mOb_0, mOb_1, mOb_3, mOb_4, mLd_1, mAr_1, mLen_1, mTrue_t, Int.toNat_zero, Int.toNat_one, true_and, and_true, not_true_eq_false, not_false_eq_true, true_or, or_true, or_self, false_or, or_false, forall_const, false_implies, true_implies, implies_true, a7, a4]
      repeat' (first | refine And.intro ?_ ?_ | with_reducible intro _)
      all_goals first | omega | exact ⟨h', r, rfl⟩
  · rw [if_pos c0]
    refine ⟨h, vc_Rdr_endLine ?_, hR, hFg_refl _ _ _ _⟩
    simp (disch := omega) only [zI_add, zI_sub, zI_mul, zI_neg, zI_lit, zI_0, zI_1, zI_lt, zI_le, zI_eq, zI_clamp, zI_inT, zI_ite, mOb_0, mOb_1, mOb_3, mOb_4, mLd_1, mAr_1, mLen_1, mTrue_t, Int.toNat_zero, Int.toNat_one, true_and, and_true, not_true_eq_false, not_false_eq_true, true_or, or_true, or_self, false_or, or_false, forall_const, false_implies, true_implies, implies_true, a7]
    repeat' (first | refine And.intro ?_ ?_ | with_reducible intro _)
    all_goals first | omega | rfl
theorem b_tst {x : Int32} {v : Int} (v0 : 0 ≤ v) (v1 : v < 32) : (x >>> (zI v &&& 31)) &&& zI 1 = zI (if bt x v.toNat = true then 1 else 0) := by
  rw [zI_nat v0, show zI 1 = nI 1 from rfl]
  apply b_ext
  intro i hi
  rw [b_and, b_sshr v.toNat (by omega) _ hi]
  have h1 : ∀ i, i < 32 → bt (nI 1) i = decide (i = 0) := by decide +kernel
  have h0 : ∀ i, bt (zI 0) i = false := fun i => b_0 i
  rw [h1 i hi]
  by_cases e : i = 0
  · subst e
    rw [if_pos (show v.toNat + 0 < 32 by omega), Nat.add_zero]
    by_cases q : bt x v.toNat = true
    · rw [if_pos q, q]
      exact (h1 0 (by omega)).symm
    · rw [if_neg q, h0]
      simp at q
      rw [q]; rfl
  · have : (decide (i = 0)) = false := by simp [e]
    rw [this, Bool.and_false]
    split
    · exact ((h1 i hi).trans this).symm
    · exact (h0 i).symm
theorem s_Rdr_to {d : Nat} {u : Int → Int} {n told : Int} {used : Int → Bool} {x : Int32} {R : tR} {h : mHp} (n1 : n ≤ 700) (hu : uR u) (hO : ROk u n R) (hR : RC h u n R) (t1 : told ≤ 5) (t2 : -1 ≤ told) (hx : ∀ v, 0 ≤ v → v < told → bt x v.toNat = used v) :
    ∃ h', mRuns (d + 3) 148 0 [some (.ref 23), some (.int (zI told)), some (.int x), none] [] h (.inl (some (.int (zI (aTo u n told used R).2)), h')) ∧ RC h' u n (aTo u n told used R).1 ∧ hFg 23 [] fsR h h' := by
  have o := hO.2
  have a4 := hR.2.2.2.1
  have a6 := hR.2.2.2.2.2.1
  have a7 := hR.2.2.2.2.2.2.1
  have so1 := hO.1.1
  have so2 := hO.1.2.1
  have va1 := hO.1.2.2.2.2.2.2.2.1
  have va2 := hO.1.2.2.2.2.2.2.2.2.1
  have m1 : (-1 : Int32) = zI (-1) := rfl
  have F : ∀ k : Int, 1 ≤ k → k ≤ 5 → rF R = 0 → ∃ h', mRuns (d + 2) 140 0 [some (.ref 23), some (.int (zI k))] [] h (.inl (none, h')) ∧ RC h' u n (aFl k R) ∧ hFg 23 [] fsR h h' ∧ mRuns (d + 3) 148 75 [some (.ref 23), none, none, none] [] h' (.inl (some (.int (zI (-1))), h')) := by
    intro k k0 k1 hf
    obtain ⟨h', r, C, f⟩ := s_Rdr_fl (d := d + 1) (k := k) hO hR
    refine ⟨h', r, C, f, vc_Rdr_toldNumber_75 ?_⟩
    have e7 : h'.1 23 7 = zI k := by
      have := C.2.2.2.2.2.2.1
      rw [this]
      unfold aFl
      rw [if_pos hf]
      rfl
    rw [m1]
    simp (disch := omega) only [zI_add, zI_sub, zI_mul, zI_neg, zI_lit, zI_0, zI_1, zI_lt, zI_le, zI_eq, zI_clamp, zI_inT, zI_ite, mOb_0, mOb_1, mOb_3, mOb_4, mLd_1, mAr_1, mLen_1, mTrue_t, Int.toNat_zero, Int.toNat_one, true_and, and_true, not_true_eq_false, not_false_eq_true, true_or, or_true, or_self, false_or, or_false, forall_const, false_implies, true_implies, implies_true, e7]
    repeat' (first | refine And.intro ?_ ?_ | with_reducible intro _)
    all_goals first | omega | rfl
  unfold aTo
  by_cases c0 : rF R = 0
  · rw [if_neg (by omega)]
    by_cases c1 : rSo R = 2
    · rw [if_neg (by omega)]
      have a6 := a6 c1
      by_cases c2 : rVa R = 10000
      · rw [if_pos c2]
        obtain ⟨h', r, C, f, q⟩ := F 2 (by omega) (by omega) c0
        refine ⟨h', vc_Rdr_toldNumber ?_, C, f⟩
        simp (disch := omega) only [zI_add, zI_sub, zI_mul, zI_neg, zI_lit, zI_0, zI_1, zI_lt, zI_le, zI_eq, zI_clamp, zI_inT, zI_ite, mOb_0, mOb_1, mOb_3, mOb_4, mLd_1, mAr_1, mLen_1, mTrue_t, Int.toNat_zero, Int.toNat_one, true_and, and_true, not_true_eq_false, not_false_eq_true, true_or, or_true, or_self, false_or, or_false, forall_const, false_implies, true_implies, implies_true, a7, a4, a6]
        repeat' (first | refine And.intro ?_ ?_ | with_reducible intro _)
        all_goals first | omega | exact ⟨h', r, q⟩
      · rw [if_neg c2]
        by_cases c3 : told ≤ rVa R
        · rw [if_pos c3]
          obtain ⟨h', r, C, f, q⟩ := F 3 (by omega) (by omega) c0
          refine ⟨h', vc_Rdr_toldNumber ?_, C, f⟩
          simp (disch := omega) only [zI_add, zI_sub, zI_mul, zI_neg, zI_lit, zI_0, zI_1, zI_lt, zI_le, zI_eq, zI_clamp, zI_inT, zI_ite, mOb_0, mOb_1, mOb_3, mOb_4, mLd_1, mAr_1, mLen_1, mTrue_t, Int.toNat_zero, Int.toNat_one, true_and, and_true, not_true_eq_false, not_false_eq_true, true_or, or_true, or_self, false_or, or_false, forall_const, false_implies, true_implies, implies_true, a7, a4, a6]
          repeat' (first | refine And.intro ?_ ?_ | with_reducible intro _)
          all_goals first | omega | exact ⟨h', r, q⟩
        · rw [if_neg c3]
          have bx := hx (rVa R) va1 (by omega)
          by_cases c4 : used (rVa R) = true
          · rw [if_pos c4]
            rw [c4] at bx
            obtain ⟨h', r, C, f, q⟩ := F 4 (by omega) (by omega) c0
            refine ⟨h', vc_Rdr_toldNumber ?_, C, f⟩
            simp (disch := omega) only [zI_add, zI_sub, zI_mul, zI_neg, zI_lit, zI_0, zI_1, zI_lt, zI_le, zI_eq, zI_clamp, zI_inT, zI_ite, mOb_0, mOb_1, mOb_3, mOb_4, mLd_1, mAr_1, mLen_1, mTrue_t, Int.toNat_zero, Int.toNat_one, true_and, and_true, not_true_eq_false, not_false_eq_true, true_or, or_true, or_self, false_or, or_false, forall_const, false_implies, true_implies, implies_true, a7, a4, a6]
            rw [b_tst va1 (by omega), if_pos bx]
            simp (disch := omega) only [zI_add, zI_sub, zI_mul, zI_neg, zI_lit, zI_0, zI_1, zI_lt, zI_le, zI_eq, zI_clamp, zI_inT, zI_ite, mOb_0, mOb_1, mOb_3, mOb_4, mLd_1, mAr_1, mLen_1, mTrue_t, Int.toNat_zero, Int.toNat_one, true_and, and_true, not_true_eq_false, not_false_eq_true, true_or, or_true, or_self, false_or, or_false, forall_const, false_implies, true_implies, implies_true]
            repeat' (first | refine And.intro ?_ ?_ | with_reducible intro _)
            all_goals first | omega | exact ⟨h', r, q⟩
          · rw [if_neg c4]
            obtain ⟨h', r, C, f⟩ := s_Rdr_sc (d := d) n1 hu hO hR
            have q : mRuns (d + 3) 148 75 [some (.ref 23), none, none, none] [] h (.inl (some (.int (zI (rVa R))), h')) := by
              refine vc_Rdr_toldNumber_75 ?_
              simp (disch := omega) only [zI_add, zI_sub, zI_mul, zI_neg, zI_lit, zI_0, zI_1, zI_lt, zI_le, zI_eq, zI_clamp, zI_inT, zI_ite, mOb_0, mOb_1, mOb_3, mOb_4, mLd_1, mAr_1, mLen_1, mTrue_t, Int.toNat_zero, Int.toNat_one, true_and, and_true, not_true_eq_false, not_false_eq_true, true_or, or_true, or_self, false_or, or_false, forall_const, false_implies, true_implies, implies_true, a7, a6]
              repeat' (first | refine And.intro ?_ ?_ | with_reducible intro _)
              all_goals first | omega | exact ⟨h', r, rfl⟩
            refine ⟨h', vc_Rdr_toldNumber ?_, C, f⟩
            simp (disch := omega) only [zI_add, zI_sub, zI_mul, zI_neg, zI_lit, zI_0, zI_1, zI_lt, zI_le, zI_eq, zI_clamp, zI_inT, zI_ite, mOb_0, mOb_1, mOb_3, mOb_4, mLd_1, mAr_1, mLen_1, mTrue_t, Int.toNat_zero, Int.toNat_one, true_and, and_true, not_true_eq_false, not_false_eq_true, true_or, or_true, or_self, false_or, or_false, forall_const, false_implies, true_implies, implies_true, a7, a4, a6]
            rw [b_tst va1 (by omega), if_neg (by rw [bx]; exact c4)]
            simp (disch := omega) only [zI_add, zI_sub, zI_mul, zI_neg, zI_lit, zI_0, zI_1, zI_lt, zI_le, zI_eq, zI_clamp, zI_inT, zI_ite, mOb_0, mOb_1, mOb_3, mOb_4, mLd_1, mAr_1, mLen_1, mTrue_t, Int.toNat_zero, Int.toNat_one, true_and, and_true, not_true_eq_false, not_false_eq_true, true_or, or_true, or_self, false_or, or_false, forall_const, false_implies, true_implies, implies_true]
            repeat' (first | refine And.intro ?_ ?_ | with_reducible intro _)
            all_goals first | omega | exact q
    · rw [if_pos c1]
      obtain ⟨h', r, C, f, q⟩ := F 1 (by omega) (by omega) c0
      refine ⟨h', vc_Rdr_toldNumber ?_, C, f⟩
      simp (disch := omega) only [zI_add, zI_sub, zI_mul, zI_neg, zI_lit, zI_0, zI_1, zI_lt, zI_le, zI_eq, zI_clamp, zI_inT, zI_ite, mOb_0, mOb_1, mOb_3, mOb_4, mLd_1, mAr_1, mLen_1, mTrue_t, Int.toNat_zero, Int.toNat_one, true_and, and_true, not_true_eq_false, not_false_eq_true, true_or, or_true, or_self, false_or, or_false, forall_const, false_implies, true_implies, implies_true, a7, a4]
      repeat' (first | refine And.intro ?_ ?_ | with_reducible intro _)
      all_goals first | omega | exact ⟨h', r, q⟩
  · rw [if_pos c0]
    refine ⟨h, vc_Rdr_toldNumber ?_, hR, hFg_refl _ _ _ _⟩
    rw [m1]
    simp (disch := omega) only [zI_add, zI_sub, zI_mul, zI_neg, zI_lit, zI_0, zI_1, zI_lt, zI_le, zI_eq, zI_clamp, zI_inT, zI_ite, mOb_0, mOb_1, mOb_3, mOb_4, mLd_1, mAr_1, mLen_1, mTrue_t, Int.toNat_zero, Int.toNat_one, true_and, and_true, not_true_eq_false, not_false_eq_true, true_or, or_true, or_self, false_or, or_false, forall_const, false_implies, true_implies, implies_true, a7]
    repeat' (first | refine And.intro ?_ ?_ | with_reducible intro _)
    all_goals first | omega | rfl
theorem s_Rdr_ki {d : Nat} {u : Int → Int} {n : Int} {R : tR} {h : mHp} (n1 : n ≤ 700) (hu : uR u) (hO : ROk u n R) (hR : RC h u n R) :
    ∃ h', mRuns (d + 3) 146 0 [some (.ref 23), none] [] h (.inl (some (.int (zI (aKn u R))), h')) ∧ RC h' u n (aKi u n R) ∧ hFg 23 [] fsR h h' := by
  have w9 := s_Rdr_w (d := d + 1) (k := 9) (by omega) n1 hu hO hR
  have w10 := s_Rdr_w (d := d + 1) (k := 10) (by omega) n1 hu hO hR
  have w11 := s_Rdr_w (d := d + 1) (k := 11) (by omega) n1 hu hO hR
  have w12 := s_Rdr_w (d := d + 1) (k := 12) (by omega) n1 hu hO hR
  have w13 := s_Rdr_w (d := d + 1) (k := 13) (by omega) n1 hu hO hR
  have z9 : aW u 9 R = 0 ∨ aW u 9 R = 1 := aIs_01 _ _ _ _ _
  have z10 : aW u 10 R = 0 ∨ aW u 10 R = 1 := aIs_01 _ _ _ _ _
  have z11 : aW u 11 R = 0 ∨ aW u 11 R = 1 := aIs_01 _ _ _ _ _
  have z12 : aW u 12 R = 0 ∨ aW u 12 R = 1 := aIs_01 _ _ _ _ _
  have z13 : aW u 13 R = 0 ∨ aW u 13 R = 1 := aIs_01 _ _ _ _ _
  have kr := kn_rng u R
  have m1 : (-1 : Int32) = zI (-1) := rfl
  have E : ∃ h', RC h' u n (aKi u n R) ∧ hFg 23 [] fsR h h' ∧ mRuns (d + 3) 146 69 [some (.ref 23), some (.int (zI (aKn u R)))] [] h (.inl (some (.int (zI (aKn u R))), h')) := by
    unfold aKi
    by_cases c : aKn u R = -1
    · rw [if_pos c]
      obtain ⟨h', r, C, f⟩ := s_Rdr_fl (d := d + 1) (k := 1) hO hR
      refine ⟨h', C, f, vc_Rdr_kindOfWord_69 ?_⟩
      rw [m1]
      simp (disch := omega) only [zI_add, zI_sub, zI_mul, zI_neg, zI_lit, zI_0, zI_1, zI_lt, zI_le, zI_eq, zI_clamp, zI_inT, zI_ite, mOb_0, mOb_1, mOb_3, mOb_4, mLd_1, mAr_1, mLen_1, mTrue_t, Int.toNat_zero, Int.toNat_one, true_and, and_true, not_true_eq_false, not_false_eq_true, true_or, or_true, or_self, false_or, or_false, forall_const, false_implies, true_implies, implies_true]
      repeat' (first | refine And.intro ?_ ?_ | with_reducible intro _)
      all_goals first | omega | exact ⟨h', r, rfl⟩
    · rw [if_neg c]
      obtain ⟨h', r, C, f⟩ := s_Rdr_sc (d := d) n1 hu hO hR
      refine ⟨h', C, f, vc_Rdr_kindOfWord_69 ?_⟩
      rw [m1]
      simp (disch := omega) only [zI_add, zI_sub, zI_mul, zI_neg, zI_lit, zI_0, zI_1, zI_lt, zI_le, zI_eq, zI_clamp, zI_inT, zI_ite, mOb_0, mOb_1, mOb_3, mOb_4, mLd_1, mAr_1, mLen_1, mTrue_t, Int.toNat_zero, Int.toNat_one, true_and, and_true, not_true_eq_false, not_false_eq_true, true_or, or_true, or_self, false_or, or_false, forall_const, false_implies, true_implies, implies_true]
      repeat' (first | refine And.intro ?_ ?_ | with_reducible intro _)
      all_goals first | omega | exact ⟨h', r, rfl⟩
  obtain ⟨h', C, f, q⟩ := E
  have q' : ∀ v : Int, aKn u R = v → mRuns (d + 3) 146 69 [some (.ref 23), some (.int (zI v))] [] h (.inl (some (.int (zI (aKn u R))), h')) := fun v e => e ▸ q
  refine ⟨h', vc_Rdr_kindOfWord ?_, C, f⟩
  rw [m1]
  refine ⟨_, _, w9, ?_⟩
  simp (disch := omega) only [zI_add, zI_sub, zI_mul, zI_neg, zI_lit, zI_0, zI_1, zI_lt, zI_le, zI_eq, zI_clamp, zI_inT, zI_ite, mOb_0, mOb_1, mOb_3, mOb_4, mLd_1, mAr_1, mLen_1, mTrue_t, Int.toNat_zero, Int.toNat_one, true_and, and_true, not_true_eq_false, not_false_eq_true, true_or, or_true, or_self, false_or, or_false, forall_const, false_implies, true_implies, implies_true]
  refine ⟨fun y9 => ⟨_, _, w10, ?_⟩, fun y9 => q' 0 (by unfold aKn; rw [if_pos (by omega)])⟩
  simp (disch := omega) only [zI_add, zI_sub, zI_mul, zI_neg, zI_lit, zI_0, zI_1, zI_lt, zI_le, zI_eq, zI_clamp, zI_inT, zI_ite, mOb_0, mOb_1, mOb_3, mOb_4, mLd_1, mAr_1, mLen_1, mTrue_t, Int.toNat_zero, Int.toNat_one, true_and, and_true, not_true_eq_false, not_false_eq_true, true_or, or_true, or_self, false_or, or_false, forall_const, false_implies, true_implies, implies_true]
  refine ⟨fun y10 => ⟨_, _, w11, ?_⟩, fun y10 => q' 1 (by unfold aKn; rw [if_neg (by omega), if_pos (by omega)])⟩
  simp (disch := omega) only [zI_add, zI_sub, zI_mul, zI_neg, zI_lit, zI_0, zI_1, zI_lt, zI_le, zI_eq, zI_clamp, zI_inT, zI_ite, mOb_0, mOb_1, mOb_3, mOb_4, mLd_1, mAr_1, mLen_1, mTrue_t, Int.toNat_zero, Int.toNat_one, true_and, and_true, not_true_eq_false, not_false_eq_true, true_or, or_true, or_self, false_or, or_false, forall_const, false_implies, true_implies, implies_true]
  refine ⟨fun y11 => ⟨_, _, w12, ?_⟩, fun y11 => q' 2 (by unfold aKn; rw [if_neg (by omega), if_neg (by omega), if_pos (by omega)])⟩
  simp (disch := omega) only [zI_add, zI_sub, zI_mul, zI_neg, zI_lit, zI_0, zI_1, zI_lt, zI_le, zI_eq, zI_clamp, zI_inT, zI_ite, mOb_0, mOb_1, mOb_3, mOb_4, mLd_1, mAr_1, mLen_1, mTrue_t, Int.toNat_zero, Int.toNat_one, true_and, and_true, not_true_eq_false, not_false_eq_true, true_or, or_true, or_self, false_or, or_false, forall_const, false_implies, true_implies, implies_true]
  refine ⟨fun y12 => ⟨_, _, w13, ?_⟩, fun y12 => q' 3 (by unfold aKn; rw [if_neg (by omega), if_neg (by omega), if_neg (by omega), if_pos (by omega)])⟩
  simp (disch := omega) only [zI_add, zI_sub, zI_mul, zI_neg, zI_lit, zI_0, zI_1, zI_lt, zI_le, zI_eq, zI_clamp, zI_inT, zI_ite, mOb_0, mOb_1, mOb_3, mOb_4, mLd_1, mAr_1, mLen_1, mTrue_t, Int.toNat_zero, Int.toNat_one, true_and, and_true, not_true_eq_false, not_false_eq_true, true_or, or_true, or_self, false_or, or_false, forall_const, false_implies, true_implies, implies_true]
  exact ⟨fun y13 => q' (-1) (by unfold aKn; rw [if_neg (by omega), if_neg (by omega), if_neg (by omega), if_neg (by omega), if_neg (by omega)]), fun y13 => q' 4 (by unfold aKn; rw [if_neg (by omega), if_neg (by omega), if_neg (by omega), if_neg (by omega), if_pos (by omega)])⟩

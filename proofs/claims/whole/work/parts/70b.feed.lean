def gAdd (g : Int → Int32) (n : Int) (a b c d e : Int32) : Int → Int32 := g4 e 4 24 (n + 16) (g4 d 4 24 (n + 12) (g4 c 4 24 (n + 8) (g4 b 4 24 (n + 4) (g4 a 4 24 n g))))
theorem s_Rdr_add {d : Nat} {v : Int32} {n : Int} {g : Int → Int32} {h : mHp} (n0 : 0 ≤ n) (n1 : n + 4 ≤ 700) (hT : TC h n g) :
    ∃ h', mRuns (d + 1) 133 0 [some (.ref 23), some (.int v), none] [] h (.inl (none, h')) ∧ TC h' (n + 4) (g4 v 4 24 n g) ∧ hFg 23 [24] [1] h h' := by
  obtain ⟨h', r, p, f⟩ := s_Rdr_add_loop (d := d) (v := v) 4 24 n g h (by omega) (by omega) n0 (by omega) hT
  exact ⟨h', vc_Rdr_addBytes r, p, f⟩
theorem s_M_lays {d : Nat} {v : Int32} {n : Int} {g : Int → Int32} {h : mHp} (n0 : 0 ≤ n) (n1 : n + 4 ≤ 700) (hT : TM h n g) :
    ∃ h', mRuns (d + 1) 6 0 [some (.ref 114), some (.int v), none] [] h (.inl (none, h')) ∧ TM h' (n + 4) (g4 v 4 24 n g) ∧ hFg 114 [119] [10] h h' := by
  obtain ⟨h', r, p, f⟩ := s_M_lays_loop (d := d) (v := v) 4 24 n g h (by omega) (by omega) n0 (by omega) hT
  exact ⟨h', vc_M_lays r, p, f⟩
theorem s_T_feed {d : Nat} {h : mHp} {n : Int} {g : Int → Int32} {a b c e f : Int32} (n0 : 0 ≤ n) (n1 : n ≤ 700) (hT : TC h n g) :
    ∃ h', mRuns (d + 2) 150 0 [some (.ref 0), some (.int a), some (.int b), some (.int c), some (.int e), some (.int f)] [] h (.inl (some (.int (zI (if n + 20 ≤ 700 then n + 20 else -1))), h')) ∧ (n + 20 ≤ 700 → TC h' (n + 20) (gAdd g n a b c e f)) ∧ (¬ n + 20 ≤ 700 → TC h' n g) ∧ hFg 23 [24] [1] h h' := by
  have e0 := hT.1
  by_cases cn : n + 20 ≤ 700
  · obtain ⟨h1, r1, T1, f1⟩ := s_Rdr_add (d := d) (v := a) n0 (by omega) hT
    obtain ⟨h2, r2, T2, f2⟩ := s_Rdr_add (d := d) (v := b) (by omega) (by omega) T1
    obtain ⟨h3, r3, T3, f3⟩ := s_Rdr_add (d := d) (v := c) (by omega) (by omega) T2
    obtain ⟨h4, r4, T4, f4⟩ := s_Rdr_add (d := d) (v := e) (by omega) (by omega) T3
    obtain ⟨h5, r5, T5, f5⟩ := s_Rdr_add (d := d) (v := f) (by omega) (by omega) T4
    rw [show n + 4 + 4 + 4 + 4 + 4 = n + 20 by omega, show n + 4 + 4 + 4 + 4 = n + 16 by omega, show n + 4 + 4 + 4 = n + 12 by omega, show n + 4 + 4 = n + 8 by omega] at T5
    have e5 := T5.1
    rw [if_pos cn]
    refine ⟨h5, vc_T_feed ?_, fun _ => T5, fun z => absurd cn z, hFg_trans f1 (hFg_trans f2 (hFg_trans f3 (hFg_trans f4 f5)))⟩
    simp (disch := omega) only [zI_add, zI_sub, zI_mul, zI_neg, zI_lit, zI_0, zI_1, zI_lt, zI_le, zI_eq, zI_clamp, zI_inT, zI_ite, mOb_0, mOb_1, mOb_3, mOb_4, mLd_1, mAr_1, mLen_1, mTrue_t, Int.toNat_zero, Int.toNat_one, true_and, and_true, not_true_eq_false, not_false_eq_true, true_or, or_true, or_self, false_or, or_false, forall_const, false_implies, true_implies, implies_true, e0]
    refine ⟨fun _ => ⟨h1, r1, h2, r2, h3, r3, h4, r4, h5, r5, by rw [e5]⟩, fun z => by omega⟩
  · rw [if_neg cn]
    refine ⟨h, vc_T_feed ?_, fun z => absurd z cn, fun _ => hT, hFg_refl _ _ _ _⟩
    simp (disch := omega) only [zI_add, zI_sub, zI_mul, zI_neg, zI_lit, zI_0, zI_1, zI_lt, zI_le, zI_eq, zI_clamp, zI_inT, zI_ite, mOb_0, mOb_1, mOb_3, mOb_4, mLd_1, mAr_1, mLen_1, mTrue_t, Int.toNat_zero, Int.toNat_one, true_and, and_true, not_true_eq_false, not_false_eq_true, true_or, or_true, or_self, false_or, or_false, forall_const, false_implies, true_implies, implies_true, e0]
    repeat' (first | refine And.intro ?_ ?_ | with_reducible intro _)
    all_goals first | omega | rfl
theorem s_M_feed {d : Nat} {h : mHp} {n : Int} {g : Int → Int32} {a b c e f : Int32} (n0 : 0 ≤ n) (n1 : n ≤ 700) (hT : TM h n g) :
    ∃ h', mRuns (d + 2) 5 0 [some (.ref 114), some (.int a), some (.int b), some (.int c), some (.int e), some (.int f)] [] h (.inl (some (.int (zI (if n + 20 ≤ 700 then n + 20 else -1))), h')) ∧ (n + 20 ≤ 700 → TM h' (n + 20) (gAdd g n a b c e f)) ∧ (¬ n + 20 ≤ 700 → TM h' n g) ∧ h'.1 114 0 = zI 0 ∧ hFg 114 [119] [0, 10] h h' := by
  have hT0 : TM (mPI h 114 0 (zI 0)) n g := ⟨by rw [hI_off (by omega)]; exact hT.1, fun i i0 i1 => by rw [hI_ne (by omega)]; exact hT.2 i i0 i1⟩
  have e0 := hT0.1
  have F0 : hFg 114 [119] [0, 10] h (mPI h 114 0 (zI 0)) := hFg_pf (hFg_refl _ _ _ _) (by simp) _
  by_cases cn : n + 20 ≤ 700
  · obtain ⟨h1, r1, T1, f1⟩ := s_M_lays (d := d) (v := a) n0 (by omega) hT0
    obtain ⟨h2, r2, T2, f2⟩ := s_M_lays (d := d) (v := b) (by omega) (by omega) T1
    obtain ⟨h3, r3, T3, f3⟩ := s_M_lays (d := d) (v := c) (by omega) (by omega) T2
    obtain ⟨h4, r4, T4, f4⟩ := s_M_lays (d := d) (v := e) (by omega) (by omega) T3
    obtain ⟨h5, r5, T5, f5⟩ := s_M_lays (d := d) (v := f) (by omega) (by omega) T4
    rw [show n + 4 + 4 + 4 + 4 + 4 = n + 20 by omega, show n + 4 + 4 + 4 + 4 = n + 16 by omega, show n + 4 + 4 + 4 = n + 12 by omega, show n + 4 + 4 = n + 8 by omega] at T5
    have e5 := T5.1
    have ff := hFg_trans f1 (hFg_trans f2 (hFg_trans f3 (hFg_trans f4 f5)))
    rw [if_pos cn]
    refine ⟨h5, vc_M_feed ?_, fun _ => T5, fun z => absurd cn z, by rw [ff.2.1 0 (by simp), hI_same], hFg_trans F0 (hFg_mono ff (by simp) (by simp))⟩
    simp (disch := omega) only [zI_add, zI_sub, zI_mul, zI_neg, zI_lit, zI_0, zI_1, zI_lt, zI_le, zI_eq, zI_clamp, zI_inT, zI_ite, mOb_0, mOb_1, mOb_3, mOb_4, mLd_1, mAr_1, mLen_1, mTrue_t, Int.toNat_zero, Int.toNat_one, true_and, and_true, not_true_eq_false, not_false_eq_true, true_or, or_true, or_self, false_or, or_false, forall_const, false_implies, true_implies, implies_true, e0]
    refine ⟨fun _ => ⟨h1, r1, h2, r2, h3, r3, h4, r4, h5, r5, by rw [e5]⟩, fun z => by omega⟩
  · rw [if_neg cn]
    refine ⟨mPI h 114 0 (zI 0), vc_M_feed ?_, fun z => absurd z cn, fun _ => hT0, hI_same _ _ _ _, F0⟩
    simp (disch := omega) only [zI_add, zI_sub, zI_mul, zI_neg, zI_lit, zI_0, zI_1, zI_lt, zI_le, zI_eq, zI_clamp, zI_inT, zI_ite, mOb_0, mOb_1, mOb_3, mOb_4, mLd_1, mAr_1, mLen_1, mTrue_t, Int.toNat_zero, Int.toNat_one, true_and, and_true, not_true_eq_false, not_false_eq_true, true_or, or_true, or_self, false_or, or_false, forall_const, false_implies, true_implies, implies_true, e0]
    repeat' (first | refine And.intro ?_ ?_ | with_reducible intro _)
    all_goals first | omega | rfl

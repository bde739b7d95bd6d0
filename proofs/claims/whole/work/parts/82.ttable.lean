/-! L3, table: the class's face, the model's refusal -/
theorem s_T_takeDraft {d : Nat} {h : mHp} {b b' : Nat} {B : tB} {C : tC} {q : Int} (hb : bAd b) (hb' : bAd b') (hR : h.2.2.1 0 0 = b) (hR' : h.2.2.1 0 1 = b') (hN : ∃ N, NB h q N) (hn : nOk h) (hC : CC h 102 C) :
    ∃ h', mRuns (d + 3) 158 0 [some (.ref 0), none] [] h (.inl (none, h')) ∧ h'.2.2.1 0 0 = b' ∧ h'.2.2.1 0 1 = b ∧ PLs h' B q ∧ LC h' 90 eNil ∧ CC h' 102 (cEnd C) ∧ h'.1 0 9 = zI 0 ∧ h'.1 0 10 = zI (-1) ∧ (∀ k, k ≠ 9 → k ≠ 10 → h'.1 0 k = h.1 0 k) ∧ (∀ x, x < 26 ∨ 86 < x → x ≠ 0 → x ≠ 90 → x ≠ 95 → x ≠ 102 → h'.1 x = h.1 x) ∧ h'.2.1 = h.2.1 ∧ (∀ x, x ≠ 0 → x ≠ 26 → h'.2.2.1 x = h.2.2.1 x) ∧ h'.2.2.2 = h.2.2.2 := by
  obtain ⟨h1, r1, P1, f1, e26, e32⟩ := s_Pln_forget (d := d + 1) (h := mPR (mPR h 0 0 b') 0 1 b) B
  obtain ⟨h2, r2, L2, f2⟩ := s_Log_clear (d := d) (h := h1) (l := 90) (Or.inl rfl)
  have q1 : ∀ x, x < 26 ∨ 86 < x → h1.1 x = h.1 x := fun x hx => by rw [f1.1 x hx]; rfl
  have q2 : ∀ x, x < 26 ∨ 86 < x → x ≠ 90 → x ≠ 95 → h2.1 x = h.1 x := fun x hx a b => by rw [f2.1 x (by simp; exact ⟨a, b⟩), q1 x hx]
  have C2 : CC h2 102 C := CC_of hC (fun k hk => q2 _ (by omega) (by omega) (by omega))
  obtain ⟨h3, r3, C3, f3⟩ := s_Crt_end (d := d + 1) (h := h2) (o := 102) (C := C) (Or.inl rfl) C2
  have s0 := (bSh_of hb).1
  have s0' := (bSh_of hb').1
  have t0 := bBl_of hb
  have t0' := bBl_of hb'
  have q3 : ∀ x, x < 26 ∨ 86 < x → x ≠ 90 → x ≠ 95 → x ≠ 102 → h3.1 x = h.1 x := fun x hx a b c => by rw [f3.1 x (by simp; exact c), q2 x hx a b]
  have w3 : ∀ x, 26 ≤ x → x ≤ 86 → h3.1 x = h1.1 x := fun x a b => by rw [f3.1 x (by simp; omega), f2.1 x (by simp; omega)]
  have k2 : h3.2 = h1.2 := by rw [f3.2, f2.2]
  have n26 : h1.1 26 = h.1 26 := by rw [e26]; rfl
  have n32 : h1.1 32 = h.1 32 := by rw [e32]; rfl
  obtain ⟨N, hN⟩ := hN
  have S1 : PLs h1 B q := ⟨P1, ⟨N, NB_of hN (by rw [n26]) n32⟩, fun j hj => by rw [q1 143 (by omega)]; exact hn j hj⟩
  have S3 : PLs h3 B q := PLs_of S1 w3 (by rw [q3 143 (by omega) (by omega) (by omega) (by omega), q1 143 (by omega)])
  refine ⟨mPI (mPI h3 0 9 (zI 0)) 0 10 (zI (-1)), vc_T_takeDraft ?_, ?_, ?_, PLs_pi0 (PLs_pi0 S3 _ _) _ _, LC_of (LC_of L2 (h' := h3) (fun k hk => f3.1 _ (by simp; omega))) (fun k hk => by rw [hI_ne (by omega), hI_ne (by omega)]), CC_of C3 (fun k hk => by rw [hI_ne (by omega), hI_ne (by omega)]), ?_, ?_, fun k a b => ?_, fun x hx a0 a b c => ?_, ?_, fun x a b => ?_, ?_⟩
  · rw [hR, hR', t0, t0', s0, s0']
    exact ⟨h1, r1, h2, r2, h3, r3, Or.inl rfl, rfl⟩
  · show h3.2.2.1 0 0 = b'
    rw [k2, f1.2.2.1 0 (by omega), hR_off (Or.inr (by omega)), hR_same]
  · show h3.2.2.1 0 1 = b
    rw [k2, f1.2.2.1 0 (by omega), hR_same]
  · rw [hI_off (by omega), hI_same]
  · rw [hI_same]
  · rw [hI_off b, hI_off a, q3 0 (by omega) (by omega) (by omega) (by omega)]
  · rw [hI_ne a0, hI_ne a0, q3 x hx a b c]
  · show h3.2.1 = h.2.1
    rw [k2, f1.2.1]; rfl
  · show h3.2.2.1 x = h.2.2.1 x
    rw [k2, f1.2.2.1 x b]
    funext y
    rw [hR_off (Or.inl a), hR_off (Or.inl a)]
  · show h3.2.2.2 = h.2.2.2
    rw [k2, f1.2.2.2]; rfl
def rTable (m : Int) (u : Int → Int) (n : Int) : Int × Int := if 0 ≤ n ∧ n ≤ m then (0, rF (xAl u n).1) else (1, 0)
/-- no such length -/
theorem s_T_table_no {d : Nat} {h : mHp} {m n : Int} (hm : h.1 23 1 = zI m) (m0 : 0 ≤ m) (m1 : m ≤ 700) (n1 : -2147483648 ≤ n) (n2 : n < 2147483648) (c : ¬ (0 ≤ n ∧ n ≤ m)) :
    mRuns (d + 1) 157 0 [some (.ref 0), some (.int (zI n)), none] [] h (.inr (0, mXc h)) := by
  refine vc_T_table ?_
  simp (disch := omega) only [zI_add, zI_sub, zI_mul, zI_neg, zI_lit, zI_0, zI_1, zI_lt, zI_le, zI_eq, zI_clamp, zI_inT, zI_ite, mOb_0, mOb_1, mOb_3, mOb_4, mLd_1, mAr_1, mLen_1, mTrue_t, Int.toNat_zero, Int.toNat_one, true_and, and_true, not_true_eq_false, not_false_eq_true, true_or, or_true, or_self, false_or, or_false, forall_const, false_implies, true_implies, implies_true, hm]
  intro z y
  exact absurd ⟨by omega, y⟩ c
theorem s_M_table_no {d : Nat} {h : mHp} {m n : Int} (hm : h.1 114 10 = zI m) (m0 : 0 ≤ m) (m1 : m ≤ 700) (n1 : -2147483648 ≤ n) (n2 : n < 2147483648) (c : ¬ (0 ≤ n ∧ n ≤ m)) :
    mRuns (d + 2) 7 0 [some (.ref 114), some (.int (zI n)), none] [] h (.inl (some (.int (zI 0)), mPI h 114 0 (zI 1))) := by
  have hm' : (mPI h 114 0 (zI 0)).1 114 10 = zI m := by rw [hI_off (by omega)]; exact hm
  have rt := s_M_right_f (d := d) (h := mPI h 114 0 (zI 0)) (hI_same _ _ _ _) (w := 1) (by omega) (by omega)
  rw [hI_two] at rt
  have q : mRuns (d + 2) 7 23 [some (.ref 114), some (.int (zI n)), none] [.int (zI 0), .ref 114] (mPI h 114 0 (zI 0)) (.inl (some (.int (zI 0)), mPI h 114 0 (zI 1))) :=
    vc_M_table_23 ⟨_, _, rt, fun z => absurd rfl z, fun _ => rfl⟩
  refine vc_M_table ?_
  simp (disch := omega) only [zI_add, zI_sub, zI_mul, zI_neg, zI_lit, zI_0, zI_1, zI_lt, zI_le, zI_eq, zI_clamp, zI_inT, zI_ite, mOb_0, mOb_1, mOb_3, mOb_4, mLd_1, mAr_1, mLen_1, mTrue_t, Int.toNat_zero, Int.toNat_one, true_and, and_true, not_true_eq_false, not_false_eq_true, true_or, or_true, or_self, false_or, or_false, forall_const, false_implies, true_implies, implies_true, hm']
  refine ⟨fun _ => q, fun z => ⟨fun _ => q, fun y => absurd ⟨by omega, by omega⟩ c⟩⟩
/-- a text with a fault -/
theorem s_T_table_bad {d : Nat} {h : mHp} {b' : Nat} {m n r : Int} {g : Int → Int32} (hb' : bAd b') (hR' : h.2.2.1 0 1 = b') (hT : TC h m g) (n0 : 0 ≤ n) (nm : n ≤ m) (m1 : m ≤ 700) (hr : h.1 0 12 = zI r) (c : rF (xAl (gU g) n).1 ≠ 0) :
    ∃ h', mRuns (d + 8) 157 0 [some (.ref 0), some (.int (zI n)), none] [] h (.inl (some (.int (zI (rF (xAl (gU g) n).1))), h')) ∧ h'.1 23 1 = zI 0 ∧ h'.1 0 11 = zI (rPl (xAl (gU g) n).1) ∧ h'.1 0 12 = zI (r + 1) ∧ (∀ k, k ≠ 11 → k ≠ 12 → h'.1 0 k = h.1 0 k) ∧ (∀ x, x ≠ 0 → x ≠ 23 → x ≠ 25 → (x < b' ∨ b' + 10 < x) → h'.1 x = h.1 x) ∧ h'.2 = h.2 := by
  obtain ⟨h1, r1, Q1, O1, z1, f1, g1⟩ := s_Rdr_read (d := d) hb' hT n0 nm m1
  have e1 := hT.1
  have t0' := bBl_of hb'
  have b0 : 0 < b' ∨ b' + 10 < 0 := Or.inl (by rcases hb' with e | e <;> omega)
  have e0 : h1.1 0 = h.1 0 := f1 0 (by omega) (by omega) b0
  have pl : h1.1 23 10 = zI (rPl (xAl (gU g) n).1) := Q1.1.2.2.2.2.2.2.2
  have of := O1.2
  refine ⟨mPI (mPI h1 0 11 (zI (rPl (xAl (gU g) n).1))) 0 12 (zI (r + 1)), vc_T_table ?_, ?_, ?_, ?_, fun k a b => ?_, fun x a0 a b c => ?_, ?_⟩
  · simp (disch := omega) only [zI_add, zI_sub, zI_mul, zI_neg, zI_lit, zI_0, zI_1, zI_lt, zI_le, zI_eq, zI_clamp, zI_inT, zI_ite, mOb_0, mOb_1, mOb_3, mOb_4, mLd_1, mAr_1, mLen_1, mTrue_t, Int.toNat_zero, Int.toNat_one, true_and, and_true, not_true_eq_false, not_false_eq_true, true_or, or_true, or_self, false_or, or_false, forall_const, false_implies, true_implies, implies_true, e1]
    refine ⟨fun z => by omega, fun _ => ⟨fun _ => ?_, fun z => by omega⟩⟩
    rw [hR', t0', mTrue_t]
    refine ⟨_, _, r1, fun z => ?_, fun _ => ?_⟩
    · rw [zI_eq (by omega) (by omega) (by omega) (by omega)] at z
      exact absurd z c
    · rw [pl, hI_off (by omega), e0, hr, zI_add]
  · rw [hI_ne (by omega), hI_ne (by omega)]; exact z1
  · rw [hI_off (by omega), hI_same]
  · rw [hI_same]
  · rw [hI_off b, hI_off a, e0]
  · rw [hI_ne a0, hI_ne a0, f1 x a b c]
  · show h1.2 = h.2
    exact g1
/-- a text that is taken -/
theorem s_T_table_ok {d : Nat} {h : mHp} {b b' : Nat} {C : tC} {m n q : Int} {g : Int → Int32} (hb : bAd b) (hb' : bAd b') (hbb : b ≠ b') (hR : h.2.2.1 0 0 = b) (hR' : h.2.2.1 0 1 = b') (hT : TC h m g) (n0 : 0 ≤ n) (nm : n ≤ m) (m1 : m ≤ 700) (hN : ∃ N, NB h q N) (hn : nOk h) (hC : CC h 102 C) (c : rF (xAl (gU g) n).1 = 0) :
    ∃ h', mRuns (d + 8) 157 0 [some (.ref 0), some (.int (zI n)), none] [] h (.inl (some (.int (zI 0)), h')) ∧ BOk (xAl (gU g) n).2.1 ∧ BC h' b' (xAl (gU g) n).2.1 ∧ h'.1 23 1 = zI 0 ∧ h'.1 0 11 = zI (-1) ∧ h'.2.2.1 0 0 = b' ∧ h'.2.2.1 0 1 = b ∧ PLs h' (xAl (gU g) n).2.1 q ∧ LC h' 90 eNil ∧ CC h' 102 (cEnd C) ∧ h'.1 0 9 = zI 0 ∧ h'.1 0 10 = zI (-1) ∧ (∀ k, k ≠ 9 → k ≠ 10 → k ≠ 11 → h'.1 0 k = h.1 0 k) ∧ (∀ x, 102 < x → h'.1 x = h.1 x) ∧ h'.2.1 = h.2.1 ∧ (∀ x, x ≠ 0 → x ≠ 26 → h'.2.2.1 x = h.2.2.1 x) ∧ h'.2.2.2 = h.2.2.2 := by
  obtain ⟨h1, r1, Q1, O1, z1, f1, g1⟩ := s_Rdr_read (d := d) hb' hT n0 nm m1
  have e1 := hT.1
  have t0' := bBl_of hb'
  have bl : b' = 1 ∨ b' = 12 := hb'
  have b0 : ∀ x, x = 0 ∨ 22 < x → x < b' ∨ b' + 10 < x := fun x hx => by omega
  have e0 : h1.1 0 = h.1 0 := f1 0 (by omega) (by omega) (b0 0 (by omega))
  obtain ⟨B1, O2, -⟩ := Q1.2 c
  have N1 : ∃ N, NB (mPI h1 0 11 (zI (-1))) q N := by
    obtain ⟨N, hN⟩ := hN
    exact ⟨N, NB_pi0 (NB_of hN (by rw [f1 26 (by omega) (by omega) (b0 26 (by omega))]) (f1 32 (by omega) (by omega) (b0 32 (by omega)))) _ _⟩
  have n1 : nOk (mPI h1 0 11 (zI (-1))) := fun j hj => by rw [hI_ne (by omega), f1 143 (by omega) (by omega) (b0 143 (by omega))]; exact hn j hj
  have C1 : CC (mPI h1 0 11 (zI (-1))) 102 C := CC_of hC (fun k hk => by rw [hI_ne (by omega), f1 _ (by omega) (by omega) (b0 _ (by omega))])
  obtain ⟨h2, r2, p0, p1, S2, L2, C2, k9, k10, k0, fx, fl, fr, fc⟩ := s_T_takeDraft (d := d + 4) (h := mPI h1 0 11 (zI (-1))) (B := (xAl (gU g) n).2.1) hb hb' (show h1.2.2.1 0 0 = b by rw [g1]; exact hR) (show h1.2.2.1 0 1 = b' by rw [g1]; exact hR') N1 n1 C1
  refine ⟨h2, vc_T_table ?_, O2, BC_of B1 (fun k hk => ?_), ?_, ?_, p0, p1, S2, L2, C2, k9, k10, fun k a b c => ?_, fun x hx => ?_, ?_, fun x a b => ?_, ?_⟩
  · simp (disch := omega) only [zI_add, zI_sub, zI_mul, zI_neg, zI_lit, zI_0, zI_1, zI_lt, zI_le, zI_eq, zI_clamp, zI_inT, zI_ite, mOb_0, mOb_1, mOb_3, mOb_4, mLd_1, mAr_1, mLen_1, mTrue_t, Int.toNat_zero, Int.toNat_one, true_and, and_true, not_true_eq_false, not_false_eq_true, true_or, or_true, or_self, false_or, or_false, forall_const, false_implies, true_implies, implies_true, e1]
    refine ⟨fun z => by omega, fun _ => ⟨fun _ => ?_, fun z => by omega⟩⟩
    rw [hR', t0', mTrue_t]
    refine ⟨_, _, r1, fun _ => ⟨h2, r2, rfl⟩, fun z => ?_⟩
    exact absurd (rf_0 c) z
  · rw [fx _ (by omega) (by omega) (by omega) (by omega) (by omega), hI_ne (by omega)]
  · rw [fx 23 (by omega) (by omega) (by omega) (by omega) (by omega), hI_ne (by omega)]; exact z1
  · rw [k0 11 (by omega) (by omega), hI_same]
  · rw [k0 k a b, hI_off c, e0]
  · rw [fx x (by omega) (by omega) (by omega) (by omega) (by omega), hI_ne (by omega), f1 x (by omega) (by omega) (b0 x (by omega))]
  · rw [fl]; show h1.2.1 = h.2.1; rw [g1]
  · rw [fr x a b]; show h1.2.2.1 x = h.2.2.1 x; rw [g1]
  · rw [fc]; show h1.2.2.2 = h.2.2.2; rw [g1]

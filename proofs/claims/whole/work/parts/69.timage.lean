/-! L3, image and restore of the class; fault -/
theorem wF_trans_fr {rs fs l : List Nat} {h h1 h2 : mHp} (f : wF rs fs h h1) (g : hFr l h1 h2) (hl : ∀ x, x ∈ l → x ∈ rs) (h0 : 0 ∉ l) : wF rs fs h h2 :=
  ⟨fun x a b => by rw [g.1 x (fun z => a (hl x z))]; exact f.1 x a b, fun k hk => by rw [g.1 0 h0]; exact f.2.1 k hk, by rw [g.2]; exact f.2.2.1, by rw [g.2]; exact f.2.2.2.1, by rw [g.2]; exact f.2.2.2.2.1, by rw [g.2]; exact f.2.2.2.2.2⟩
theorem s_T_image {d : Nat} {h : mHp} {B : tB} {E : tE} {C : tC} (hL : LC h 90 E) (hE : EOk B E) (hC : CC h 102 C) (hK : COk C) :
    ∃ h', mRuns (d + 2) 155 0 [some (.ref 0)] [] h (.inl (none, h')) ∧ LC h' 96 E ∧ CC h' 108 C ∧ h'.1 0 9 = zI 1 ∧ wF [96, 97, 98, 99, 100, 101, 108, 109, 110, 111, 112, 113] [9] h h' := by
  obtain ⟨h1, r1, L1, f1⟩ := s_Log_copy (d := d) (Or.inr rfl : lAd 96) (Or.inl rfl : lAd 90) (by omega) hL hE
  have C1 : CC h1 102 C := CC_of hC (fun k hk => f1.1 _ (by simp; omega))
  obtain ⟨h2, r2, C2, f2⟩ := s_Crt_copy (d := d) (Or.inr rfl : cAd 108) (Or.inl rfl : cAd 102) (by omega) C1 hK
  refine ⟨mPI h2 0 9 (zI 1), vc_T_image ⟨h1, r1, h2, r2, Or.inr rfl, ?_⟩, LC_of L1 (fun k hk => by rw [hI_ne (by omega), f2.1 _ (by simp; omega)]), CC_of C2 (fun k hk => hI_ne (by omega) _ _ _), hI_same _ _ _ _, wF_pi (wF_trans_fr (wF_fr f1 (by simp) (by simp)) f2 (by simp) (by simp)) (by simp) _⟩
  rfl
theorem s_T_restore_no {d : Nat} {h : mHp} (h9 : h.1 0 9 = zI 0) : mRuns (d + 1) 156 0 [some (.ref 0)] [] h (.inl (some (.int (zI 0)), h)) := by
  refine vc_T_restore ?_
  simp (disch := omega) only [zI_add, zI_sub, zI_mul, zI_neg, zI_lit, zI_0, zI_1, zI_lt, zI_le, zI_eq, zI_clamp, zI_inT, zI_ite, mOb_0, mOb_1, mOb_3, mOb_4, mLd_1, mAr_1, mLen_1, mTrue_t, Int.toNat_zero, Int.toNat_one, true_and, and_true, not_true_eq_false, not_false_eq_true, true_or, or_true, or_self, false_or, or_false, forall_const, false_implies, true_implies, implies_true, h9]
  repeat' (first | refine And.intro ?_ ?_ | with_reducible intro _)
  all_goals first | omega | rfl
theorem s_T_restore {d : Nat} {h : mHp} {B : tB} {E : tE} {C : tC} (h9 : h.1 0 9 = zI 1) (hL : LC h 96 E) (hE : EOk B E) (hC : CC h 108 C) (hK : COk C) :
    ∃ h', mRuns (d + 2) 156 0 [some (.ref 0)] [] h (.inl (some (.int (zI 1)), h')) ∧ LC h' 90 E ∧ CC h' 102 C ∧ wF [90, 91, 92, 93, 94, 95, 102, 103, 104, 105, 106, 107] [] h h' := by
  obtain ⟨h1, r1, L1, f1⟩ := s_Log_copy (d := d) (Or.inl rfl : lAd 90) (Or.inr rfl : lAd 96) (by omega) hL hE
  have C1 : CC h1 108 C := CC_of hC (fun k hk => f1.1 _ (by simp; omega))
  obtain ⟨h2, r2, C2, f2⟩ := s_Crt_copy (d := d) (Or.inl rfl : cAd 102) (Or.inr rfl : cAd 108) (by omega) C1 hK
  refine ⟨h2, vc_T_restore ?_, LC_of L1 (fun k hk => f2.1 _ (by simp; omega)), C2, wF_trans_fr (wF_fr f1 (by simp) (by simp)) f2 (by simp) (by simp)⟩
  simp (disch := omega) only [zI_add, zI_sub, zI_mul, zI_neg, zI_lit, zI_0, zI_1, zI_lt, zI_le, zI_eq, zI_clamp, zI_inT, zI_ite, mOb_0, mOb_1, mOb_3, mOb_4, mLd_1, mAr_1, mLen_1, mTrue_t, Int.toNat_zero, Int.toNat_one, true_and, and_true, not_true_eq_false, not_false_eq_true, true_or, or_true, or_self, false_or, or_false, forall_const, false_implies, true_implies, implies_true, h9]
  refine ⟨fun _ => ⟨h1, r1, h2, r2, rfl⟩, fun z => by omega⟩
theorem s_T_fault {d : Nat} {h : mHp} {p : Int} (hp : h.1 0 11 = zI p) : mRuns (d + 1) 151 0 [some (.ref 0)] [] h (.inl (some (.int (zI p)), h)) := by
  refine vc_T_fault ?_
  rw [hp]
theorem s_M_fault {d : Nat} {h : mHp} {p : Int} (hp : h.1 114 12 = zI p) : mRuns (d + 1) 28 0 [some (.ref 114)] [] h (.inl (some (.int (zI p)), mPI h 114 0 (zI 0))) := by
  refine vc_M_fault ?_
  simp (disch := omega) only [zI_add, zI_sub, zI_mul, zI_neg, zI_lit, zI_0, zI_1, zI_lt, zI_le, zI_eq, zI_clamp, zI_inT, zI_ite, mOb_0, mOb_1, mOb_3, mOb_4, mLd_1, mAr_1, mLen_1, mTrue_t, Int.toNat_zero, Int.toNat_one, true_and, and_true, not_true_eq_false, not_false_eq_true, true_or, or_true, or_self, false_or, or_false, forall_const, false_implies, true_implies, implies_true, hI_off, hp]

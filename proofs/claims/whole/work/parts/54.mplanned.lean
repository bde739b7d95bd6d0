/-! L3, planned and worth, on the model's side -/
def rPlanned (B : tB) (k q x : Int) : Int × Int := if (0 ≤ q ∧ q < bD B) ∧ 0 ≤ k ∧ (x = 0 ∨ x = 1) then (0, if x = 0 then (fPl B k (-1)).2.2.2 q else pTk B k (-1) q) else (1, 0)
theorem hI_two (h : mHp) (a k : Nat) (v v' : Int32) : mPI (mPI h a k v) a k v' = mPI h a k v' := by
  unfold mPI; refine Prod.ext ?_ rfl; funext x y; show (if _ then _ else (if _ then _ else _)) = (if _ then _ else _); split <;> rfl
theorem s_M_planned {d : Nat} {h : mHp} {B : tB} {k q x : Int} (hB : BM h B) (hO : BOk B) (hK : KM h B k) (q1 : -2147483648 ≤ q) (q2 : q < 2147483648) (x1 : -2147483648 ≤ x) (x2 : x < 2147483648) :
    mRuns (d + 3) 53 0 [some (.ref 114), some (.int (zI q)), some (.int (zI x))] [] h (.inl (some (.int (zI (rPlanned B k q x).2)), mPI h 114 0 (zI (rPlanned B k q x).1))) := by
  have o := hO.1
  have B0 := BM_of (h' := mPI h 114 0 (zI 0)) hB (fun k _ _ => hI_off (by omega) _ _ _ _) (fun k _ _ => hI_ne (by omega) _ _ _)
  have t0 : (mPI h 114 0 (zI 0)).1 114 0 = zI 0 := hI_same _ _ _ _
  have two : mPI (mPI h 114 0 (zI 0)) 114 0 (zI 1) = mPI h 114 0 (zI 1) := hI_two _ _ _ _ _
  have id := s_M_isDish (d := d) B0 hO t0 q1 q2
  have rt := s_M_right_t (d := d + 1) (w := 1) t0 (a := 1) rfl
  have rf := s_M_right_f (d := d + 1) (w := 1) t0 (by omega) (by omega)
  rw [two] at rf id
  have K0 := KM_of (h' := mPI h 114 0 (zI 0)) hK (hI_off (by omega) _ _ _ _) (hI_ne (by omega) _ _ _)
  unfold rPlanned
  by_cases cq : 0 ≤ q ∧ q < bD B
  · rw [if_pos cq] at id
    have no : mRuns (d + 3) 53 35 [some (.ref 114), some (.int (zI q)), some (.int (zI x))] [.int (zI 0), .ref 114] (mPI h 114 0 (zI 0)) (.inl (some (.int (zI 0)), mPI h 114 0 (zI 1))) := by
      refine vc_M_planned_35 ?_
      simp (disch := omega) only [zI_add, zI_sub, zI_mul, zI_neg, zI_lit, zI_0, zI_1, zI_lt, zI_le, zI_eq, zI_clamp, zI_inT, zI_ite, mOb_0, mOb_1, mOb_3, mOb_4, mLd_1, mAr_1, mLen_1, mTrue_t, Int.toNat_zero, Int.toNat_one, true_and, and_true, not_true_eq_false, not_false_eq_true, true_or, or_true, or_self, false_or, or_false, forall_const, false_implies, true_implies, implies_true]
      refine ⟨_, _, rf, ?_⟩
      simp (disch := omega) only [zI_add, zI_sub, zI_mul, zI_neg, zI_lit, zI_0, zI_1, zI_lt, zI_le, zI_eq, zI_clamp, zI_inT, zI_ite, mOb_0, mOb_1, mOb_3, mOb_4, mLd_1, mAr_1, mLen_1, mTrue_t, Int.toNat_zero, Int.toNat_one, true_and, and_true, not_true_eq_false, not_false_eq_true, true_or, or_true, or_self, false_or, or_false, forall_const, false_implies, true_implies, implies_true]
      repeat' (first | refine And.intro ?_ ?_ | with_reducible intro _)
      all_goals first | omega | rfl
    rcases K0 with ⟨ek, e38⟩ | ⟨k0, k2, kf, e38, k3, k4⟩
    · rw [if_neg (fun z => by omega)]
      refine vc_M_planned ?_
      simp (disch := omega) only [zI_add, zI_sub, zI_mul, zI_neg, zI_lit, zI_0, zI_1, zI_lt, zI_le, zI_eq, zI_clamp, zI_inT, zI_ite, mOb_0, mOb_1, mOb_3, mOb_4, mLd_1, mAr_1, mLen_1, mTrue_t, Int.toNat_zero, Int.toNat_one, true_and, and_true, not_true_eq_false, not_false_eq_true, true_or, or_true, or_self, false_or, or_false, forall_const, false_implies, true_implies, implies_true]
      refine ⟨_, _, id, ?_⟩
      simp (disch := omega) only [zI_add, zI_sub, zI_mul, zI_neg, zI_lit, zI_0, zI_1, zI_lt, zI_le, zI_eq, zI_clamp, zI_inT, zI_ite, mOb_0, mOb_1, mOb_3, mOb_4, mLd_1, mAr_1, mLen_1, mTrue_t, Int.toNat_zero, Int.toNat_one, true_and, and_true, not_true_eq_false, not_false_eq_true, true_or, or_true, or_self, false_or, or_false, forall_const, false_implies, true_implies, implies_true, e38]
      repeat' (first | refine And.intro ?_ ?_ | with_reducible intro _)
      all_goals first | omega | exact no
    · by_cases cx : x = 0 ∨ x = 1
      · rw [if_pos ⟨cq, k0, cx⟩]
        have r3 := k3 q cq.1 cq.2
        have r4 := k4 q cq.1 cq.2
        have yes : mRuns (d + 3) 53 35 [some (.ref 114), some (.int (zI q)), some (.int (zI x))] [.int (zI 1), .ref 114] (mPI h 114 0 (zI 0)) (.inl (some (.int (zI (if x = 0 then (fPl B k (-1)).2.2.2 q else pTk B k (-1) q))), mPI h 114 0 (zI 0))) := by
          refine vc_M_planned_35 ?_
          simp (disch := omega) only [zI_add, zI_sub, zI_mul, zI_neg, zI_lit, zI_0, zI_1, zI_lt, zI_le, zI_eq, zI_clamp, zI_inT, zI_ite, mOb_0, mOb_1, mOb_3, mOb_4, mLd_1, mAr_1, mLen_1, mTrue_t, Int.toNat_zero, Int.toNat_one, true_and, and_true, not_true_eq_false, not_false_eq_true, true_or, or_true, or_self, false_or, or_false, forall_const, false_implies, true_implies, implies_true]
          refine ⟨_, _, rt, ?_⟩
          rcases cx with rfl | rfl
          · simp (disch := omega) only [zI_add, zI_sub, zI_mul, zI_neg, zI_lit, zI_0, zI_1, zI_lt, zI_le, zI_eq, zI_clamp, zI_inT, zI_ite, mOb_0, mOb_1, mOb_3, mOb_4, mLd_1, mAr_1, mLen_1, mTrue_t, Int.toNat_zero, Int.toNat_one, true_and, and_true, not_true_eq_false, not_false_eq_true, true_or, or_true, or_self, false_or, or_false, forall_const, false_implies, true_implies, implies_true, Int.add_zero, r3]
            repeat' (first | refine And.intro ?_ ?_ | with_reducible intro _)
            all_goals first | omega | rfl
          · simp (disch := omega) only [zI_add, zI_sub, zI_mul, zI_neg, zI_lit, zI_0, zI_1, zI_lt, zI_le, zI_eq, zI_clamp, zI_inT, zI_ite, mOb_0, mOb_1, mOb_3, mOb_4, mLd_1, mAr_1, mLen_1, mTrue_t, Int.toNat_zero, Int.toNat_one, true_and, and_true, not_true_eq_false, not_false_eq_true, true_or, or_true, or_self, false_or, or_false, forall_const, false_implies, true_implies, implies_true, r4]
            repeat' (first | refine And.intro ?_ ?_ | with_reducible intro _)
            all_goals first | omega | rfl
        refine vc_M_planned ?_
        simp (disch := omega) only [zI_add, zI_sub, zI_mul, zI_neg, zI_lit, zI_0, zI_1, zI_lt, zI_le, zI_eq, zI_clamp, zI_inT, zI_ite, mOb_0, mOb_1, mOb_3, mOb_4, mLd_1, mAr_1, mLen_1, mTrue_t, Int.toNat_zero, Int.toNat_one, true_and, and_true, not_true_eq_false, not_false_eq_true, true_or, or_true, or_self, false_or, or_false, forall_const, false_implies, true_implies, implies_true]
        refine ⟨_, _, id, ?_⟩
        simp (disch := omega) only [zI_add, zI_sub, zI_mul, zI_neg, zI_lit, zI_0, zI_1, zI_lt, zI_le, zI_eq, zI_clamp, zI_inT, zI_ite, mOb_0, mOb_1, mOb_3, mOb_4, mLd_1, mAr_1, mLen_1, mTrue_t, Int.toNat_zero, Int.toNat_one, true_and, and_true, not_true_eq_false, not_false_eq_true, true_or, or_true, or_self, false_or, or_false, forall_const, false_implies, true_implies, implies_true, e38]
        repeat' (first | refine And.intro ?_ ?_ | with_reducible intro _)
        all_goals first | omega | exact yes
      · rw [if_neg (fun z => cx z.2.2)]
        refine vc_M_planned ?_
        simp (disch := omega) only [zI_add, zI_sub, zI_mul, zI_neg, zI_lit, zI_0, zI_1, zI_lt, zI_le, zI_eq, zI_clamp, zI_inT, zI_ite, mOb_0, mOb_1, mOb_3, mOb_4, mLd_1, mAr_1, mLen_1, mTrue_t, Int.toNat_zero, Int.toNat_one, true_and, and_true, not_true_eq_false, not_false_eq_true, true_or, or_true, or_self, false_or, or_false, forall_const, false_implies, true_implies, implies_true]
        refine ⟨_, _, id, ?_⟩
        simp (disch := omega) only [zI_add, zI_sub, zI_mul, zI_neg, zI_lit, zI_0, zI_1, zI_lt, zI_le, zI_eq, zI_clamp, zI_inT, zI_ite, mOb_0, mOb_1, mOb_3, mOb_4, mLd_1, mAr_1, mLen_1, mTrue_t, Int.toNat_zero, Int.toNat_one, true_and, and_true, not_true_eq_false, not_false_eq_true, true_or, or_true, or_self, false_or, or_false, forall_const, false_implies, true_implies, implies_true, e38]
        repeat' (first | refine And.intro ?_ ?_ | with_reducible intro _)
        all_goals first | omega | exact no
  · rw [if_neg (fun z => cq z.1)]
    rw [if_neg cq] at id
    refine vc_M_planned ?_
    simp (disch := omega) only [zI_add, zI_sub, zI_mul, zI_neg, zI_lit, zI_0, zI_1, zI_lt, zI_le, zI_eq, zI_clamp, zI_inT, zI_ite, mOb_0, mOb_1, mOb_3, mOb_4, mLd_1, mAr_1, mLen_1, mTrue_t, Int.toNat_zero, Int.toNat_one, true_and, and_true, not_true_eq_false, not_false_eq_true, true_or, or_true, or_self, false_or, or_false, forall_const, false_implies, true_implies, implies_true]
    refine ⟨_, _, id, ?_⟩
    simp (disch := omega) only [zI_add, zI_sub, zI_mul, zI_neg, zI_lit, zI_0, zI_1, zI_lt, zI_le, zI_eq, zI_clamp, zI_inT, zI_ite, mOb_0, mOb_1, mOb_3, mOb_4, mLd_1, mAr_1, mLen_1, mTrue_t, Int.toNat_zero, Int.toNat_one, true_and, and_true, not_true_eq_false, not_false_eq_true, true_or, or_true, or_self, false_or, or_false, forall_const, false_implies, true_implies, implies_true]
    repeat' (first | refine And.intro ?_ ?_ | with_reducible intro _)
    all_goals first | omega | rfl
def rWorth (B : tB) (t l : Int) : Int × Int := if ¬ (0 ≤ t ∧ t < bT B) then (1, 0) else if ¬ (0 ≤ l ∧ l ≤ 2) then (2, 0) else if (fPl B l (-1)).1 = 0 then (0, 0) else if (fPl B l t).1 = 0 then (0, -1) else (0, 1000 * ((fPl B l t).2.1 - (fPl B l (-1)).2.1) + (fPl B l t).2.2.1 - (fPl B l (-1)).2.2.1)
theorem s_M_worth {d : Nat} {h : mHp} {B : tB} {t l : Int} (hB : BM h B) (hO : BOk B) (hP : PW h) (l1 : -2147483648 ≤ l) (l2 : l < 2147483648) (x1 : -2147483648 ≤ t) (x2 : t < 2147483648) :
    ∃ h', mRuns (d + 6) 55 0 [some (.ref 114), some (.int (zI t)), some (.int (zI l)), none, none] [] h (.inl (some (.int (zI (rWorth B t l).2)), h')) ∧ h'.1 114 0 = zI (rWorth B t l).1 ∧ hFg 114 [125, 126, 127, 128] [0, 32, 33, 39, 40] h h' := by
  have o := hO.1
  have F0 : hFg 114 [125, 126, 127, 128] [0, 32, 33, 39, 40] h (mPI h 114 0 (zI 0)) := hFg_pf (hFg_refl _ _ _ _) (by simp) _
  have B0 := BM_of (h' := mPI h 114 0 (zI 0)) hB (fun k _ _ => hI_off (by omega) _ _ _ _) (fun k _ _ => hI_ne (by omega) _ _ _)
  have t0 : (mPI h 114 0 (zI 0)).1 114 0 = zI 0 := hI_same _ _ _ _
  have it := s_M_isTaster (d := d + 3) B0 hO t0 x1 x2
  by_cases ct : 0 ≤ t ∧ t < bT B
  · rw [if_pos ct] at it
    have il := s_M_isLies (d := d + 3) (w := 2) t0 l1 l2 (by omega) (by omega)
    by_cases cl : 0 ≤ l ∧ l ≤ 2
    · rw [if_pos cl] at il
      obtain ⟨h1, r1, X1, C1, M1, G1⟩ := s_M_plans (d := d) hO cl.1 cl.2 (Or.inl ⟨rfl, rfl⟩ : bMk (-1) 0) B0 (PW_of hP (hI_ne (by omega) _ _ _))
      have G1' : hFg 114 [125, 126, 127, 128] [0, 32, 33, 39, 40] h h1 := hFg_trans F0 (hFg_mono G1 (by simp) (by simp))
      have B1 := BM_fg0 hB G1' (by simp) (by simp)
      rcases (fPl_good B l (-1)).1 with e | e
      · have hr : rWorth B t l = (0, 0) := by unfold rWorth; rw [if_neg (fun z => z ct), if_neg (fun z => z cl), if_pos e]
        rw [hr]
        refine ⟨h1, vc_M_worth ?_, by rw [G1.2.1 0 (by simp), t0], G1'⟩
        rw [e] at r1
        simp (disch := omega) only [zI_add, zI_sub, zI_mul, zI_neg, zI_lit, zI_0, zI_1, zI_lt, zI_le, zI_eq, zI_clamp, zI_inT, zI_ite, mOb_0, mOb_1, mOb_3, mOb_4, mLd_1, mAr_1, mLen_1, mTrue_t, Int.toNat_zero, Int.toNat_one, true_and, and_true, not_true_eq_false, not_false_eq_true, true_or, or_true, or_self, false_or, or_false, forall_const, false_implies, true_implies, implies_true]
        refine ⟨_, _, it, ?_⟩
        simp (disch := omega) only [zI_add, zI_sub, zI_mul, zI_neg, zI_lit, zI_0, zI_1, zI_lt, zI_le, zI_eq, zI_clamp, zI_inT, zI_ite, mOb_0, mOb_1, mOb_3, mOb_4, mLd_1, mAr_1, mLen_1, mTrue_t, Int.toNat_zero, Int.toNat_one, true_and, and_true, not_true_eq_false, not_false_eq_true, true_or, or_true, or_self, false_or, or_false, forall_const, false_implies, true_implies, implies_true]
        refine ⟨fun z => by omega, fun _ => ⟨_, _, il, ?_⟩⟩
        simp (disch := omega) only [zI_add, zI_sub, zI_mul, zI_neg, zI_lit, zI_0, zI_1, zI_lt, zI_le, zI_eq, zI_clamp, zI_inT, zI_ite, mOb_0, mOb_1, mOb_3, mOb_4, mLd_1, mAr_1, mLen_1, mTrue_t, Int.toNat_zero, Int.toNat_one, true_and, and_true, not_true_eq_false, not_false_eq_true, true_or, or_true, or_self, false_or, or_false, forall_const, false_implies, true_implies, implies_true]
        refine ⟨fun _ => ⟨_, _, r1, ?_⟩, fun z => by omega⟩
        simp (disch := omega) only [zI_add, zI_sub, zI_mul, zI_neg, zI_lit, zI_0, zI_1, zI_lt, zI_le, zI_eq, zI_clamp, zI_inT, zI_ite, mOb_0, mOb_1, mOb_3, mOb_4, mLd_1, mAr_1, mLen_1, mTrue_t, Int.toNat_zero, Int.toNat_one, true_and, and_true, not_true_eq_false, not_false_eq_true, true_or, or_true, or_self, false_or, or_false, forall_const, false_implies, true_implies, implies_true]
        repeat' (first | refine And.intro ?_ ?_ | with_reducible intro _)
        all_goals first | omega | rfl
      · obtain ⟨h2, r2, X2, C2, M2, G2⟩ := s_M_plans (d := d) hO cl.1 cl.2 (Or.inr ⟨ct.1, by omega, rfl⟩ : bMk t (aPow t)) B1 (PW_of hP (G1'.1 129 (by simp) (by omega)))
        have G2' : hFg 114 [125, 126, 127, 128] [0, 32, 33, 39, 40] h h2 := hFg_trans G1' (hFg_mono G2 (by simp) (by simp))
        have n1 := fPl_num hO cl.1 cl.2 e
        have y1 := X1.2 e
        have z1 := C1 e
        rw [e] at r1
        rcases (fPl_good B l t).1 with f | f
        · have hr : rWorth B t l = (0, -1) := by unfold rWorth; rw [if_neg (fun z => z ct), if_neg (fun z => z cl), if_neg (show ¬ (fPl B l (-1)).1 = 0 by omega), if_pos f]
          rw [hr]
          refine ⟨h2, vc_M_worth ?_, by rw [G2.2.1 0 (by simp), G1.2.1 0 (by simp), t0], G2'⟩
          rw [f] at r2
          simp (disch := omega) only [zI_add, zI_sub, zI_mul, zI_neg, zI_lit, zI_0, zI_1, zI_lt, zI_le, zI_eq, zI_clamp, zI_inT, zI_ite, mOb_0, mOb_1, mOb_3, mOb_4, mLd_1, mAr_1, mLen_1, mTrue_t, Int.toNat_zero, Int.toNat_one, true_and, and_true, not_true_eq_false, not_false_eq_true, true_or, or_true, or_self, false_or, or_false, forall_const, false_implies, true_implies, implies_true]
          refine ⟨_, _, it, ?_⟩
          simp (disch := omega) only [zI_add, zI_sub, zI_mul, zI_neg, zI_lit, zI_0, zI_1, zI_lt, zI_le, zI_eq, zI_clamp, zI_inT, zI_ite, mOb_0, mOb_1, mOb_3, mOb_4, mLd_1, mAr_1, mLen_1, mTrue_t, Int.toNat_zero, Int.toNat_one, true_and, and_true, not_true_eq_false, not_false_eq_true, true_or, or_true, or_self, false_or, or_false, forall_const, false_implies, true_implies, implies_true]
          refine ⟨fun z => by omega, fun _ => ⟨_, _, il, ?_⟩⟩
          simp (disch := omega) only [zI_add, zI_sub, zI_mul, zI_neg, zI_lit, zI_0, zI_1, zI_lt, zI_le, zI_eq, zI_clamp, zI_inT, zI_ite, mOb_0, mOb_1, mOb_3, mOb_4, mLd_1, mAr_1, mLen_1, mTrue_t, Int.toNat_zero, Int.toNat_one, true_and, and_true, not_true_eq_false, not_false_eq_true, true_or, or_true, or_self, false_or, or_false, forall_const, false_implies, true_implies, implies_true]
          refine ⟨fun _ => ⟨_, _, r1, ?_⟩, fun z => by omega⟩
          simp (disch := omega) only [zI_add, zI_sub, zI_mul, zI_neg, zI_lit, zI_0, zI_1, zI_lt, zI_le, zI_eq, zI_clamp, zI_inT, zI_ite, mOb_0, mOb_1, mOb_3, mOb_4, mLd_1, mAr_1, mLen_1, mTrue_t, Int.toNat_zero, Int.toNat_one, true_and, and_true, not_true_eq_false, not_false_eq_true, true_or, or_true, or_self, false_or, or_false, forall_const, false_implies, true_implies, implies_true, zI_shl]
          refine ⟨fun _ => ⟨_, _, r2, ?_⟩, fun z => by omega⟩
          simp (disch := omega) only [zI_add, zI_sub, zI_mul, zI_neg, zI_lit, zI_0, zI_1, zI_lt, zI_le, zI_eq, zI_clamp, zI_inT, zI_ite, mOb_0, mOb_1, mOb_3, mOb_4, mLd_1, mAr_1, mLen_1, mTrue_t, Int.toNat_zero, Int.toNat_one, true_and, and_true, not_true_eq_false, not_false_eq_true, true_or, or_true, or_self, false_or, or_false, forall_const, false_implies, true_implies, implies_true]
          repeat' (first | refine And.intro ?_ ?_ | with_reducible intro _)
          all_goals first | omega | rfl
        · have hr : rWorth B t l = (0, 1000 * ((fPl B l t).2.1 - (fPl B l (-1)).2.1) + (fPl B l t).2.2.1 - (fPl B l (-1)).2.2.1) := by unfold rWorth; rw [if_neg (fun z => z ct), if_neg (fun z => z cl), if_neg (show ¬ (fPl B l (-1)).1 = 0 by omega), if_neg (show ¬ (fPl B l t).1 = 0 by omega)]
          rw [hr]
          have y2 := X2.2 f
          have z2 := C2 f
          refine ⟨h2, vc_M_worth ?_, by rw [G2.2.1 0 (by simp), G1.2.1 0 (by simp), t0], G2'⟩
          rw [f] at r2
          simp (disch := omega) only [zI_add, zI_sub, zI_mul, zI_neg, zI_lit, zI_0, zI_1, zI_lt, zI_le, zI_eq, zI_clamp, zI_inT, zI_ite, mOb_0, mOb_1, mOb_3, mOb_4, mLd_1, mAr_1, mLen_1, mTrue_t, Int.toNat_zero, Int.toNat_one, true_and, and_true, not_true_eq_false, not_false_eq_true, true_or, or_true, or_self, false_or, or_false, forall_const, false_implies, true_implies, implies_true]
          refine ⟨_, _, it, ?_⟩
          simp (disch := omega) only [zI_add, zI_sub, zI_mul, zI_neg, zI_lit, zI_0, zI_1, zI_lt, zI_le, zI_eq, zI_clamp, zI_inT, zI_ite, mOb_0, mOb_1, mOb_3, mOb_4, mLd_1, mAr_1, mLen_1, mTrue_t, Int.toNat_zero, Int.toNat_one, true_and, and_true, not_true_eq_false, not_false_eq_true, true_or, or_true, or_self, false_or, or_false, forall_const, false_implies, true_implies, implies_true]
          refine ⟨fun z => by omega, fun _ => ⟨_, _, il, ?_⟩⟩
          simp (disch := omega) only [zI_add, zI_sub, zI_mul, zI_neg, zI_lit, zI_0, zI_1, zI_lt, zI_le, zI_eq, zI_clamp, zI_inT, zI_ite, mOb_0, mOb_1, mOb_3, mOb_4, mLd_1, mAr_1, mLen_1, mTrue_t, Int.toNat_zero, Int.toNat_one, true_and, and_true, not_true_eq_false, not_false_eq_true, true_or, or_true, or_self, false_or, or_false, forall_const, false_implies, true_implies, implies_true]
          refine ⟨fun _ => ⟨_, _, r1, ?_⟩, fun z => by omega⟩
          simp (disch := omega) only [zI_add, zI_sub, zI_mul, zI_neg, zI_lit, zI_0, zI_1, zI_lt, zI_le, zI_eq, zI_clamp, zI_inT, zI_ite, mOb_0, mOb_1, mOb_3, mOb_4, mLd_1, mAr_1, mLen_1, mTrue_t, Int.toNat_zero, Int.toNat_one, true_and, and_true, not_true_eq_false, not_false_eq_true, true_or, or_true, or_self, false_or, or_false, forall_const, false_implies, true_implies, implies_true, zI_shl]
          refine ⟨fun _ => ⟨_, _, r2, ?_⟩, fun z => by omega⟩
          simp (disch := omega) only [zI_add, zI_sub, zI_mul, zI_neg, zI_lit, zI_0, zI_1, zI_lt, zI_le, zI_eq, zI_clamp, zI_inT, zI_ite, mOb_0, mOb_1, mOb_3, mOb_4, mLd_1, mAr_1, mLen_1, mTrue_t, Int.toNat_zero, Int.toNat_one, true_and, and_true, not_true_eq_false, not_false_eq_true, true_or, or_true, or_self, false_or, or_false, forall_const, false_implies, true_implies, implies_true, y1.1, z1, y2.1, z2]
          repeat' (first | refine And.intro ?_ ?_ | with_reducible intro _)
          all_goals first | omega | rfl
    · rw [if_neg cl] at il
      have hr : rWorth B t l = (2, 0) := by unfold rWorth; rw [if_neg (fun z => z ct), if_pos cl]
      rw [hr]
      refine ⟨mPI (mPI h 114 0 (zI 0)) 114 0 (zI 2), vc_M_worth ?_, hI_same _ _ _ _, hFg_pf F0 (by simp) _⟩
      simp (disch := omega) only [zI_add, zI_sub, zI_mul, zI_neg, zI_lit, zI_0, zI_1, zI_lt, zI_le, zI_eq, zI_clamp, zI_inT, zI_ite, mOb_0, mOb_1, mOb_3, mOb_4, mLd_1, mAr_1, mLen_1, mTrue_t, Int.toNat_zero, Int.toNat_one, true_and, and_true, not_true_eq_false, not_false_eq_true, true_or, or_true, or_self, false_or, or_false, forall_const, false_implies, true_implies, implies_true]
      refine ⟨_, _, it, ?_⟩
      simp (disch := omega) only [zI_add, zI_sub, zI_mul, zI_neg, zI_lit, zI_0, zI_1, zI_lt, zI_le, zI_eq, zI_clamp, zI_inT, zI_ite, mOb_0, mOb_1, mOb_3, mOb_4, mLd_1, mAr_1, mLen_1, mTrue_t, Int.toNat_zero, Int.toNat_one, true_and, and_true, not_true_eq_false, not_false_eq_true, true_or, or_true, or_self, false_or, or_false, forall_const, false_implies, true_implies, implies_true]
      refine ⟨fun z => by omega, fun _ => ⟨_, _, il, ?_⟩⟩
      simp (disch := omega) only [zI_add, zI_sub, zI_mul, zI_neg, zI_lit, zI_0, zI_1, zI_lt, zI_le, zI_eq, zI_clamp, zI_inT, zI_ite, mOb_0, mOb_1, mOb_3, mOb_4, mLd_1, mAr_1, mLen_1, mTrue_t, Int.toNat_zero, Int.toNat_one, true_and, and_true, not_true_eq_false, not_false_eq_true, true_or, or_true, or_self, false_or, or_false, forall_const, false_implies, true_implies, implies_true]
      repeat' (first | refine And.intro ?_ ?_ | with_reducible intro _)
      all_goals first | omega | rfl
  · rw [if_neg ct] at it
    have hr : rWorth B t l = (1, 0) := by unfold rWorth; rw [if_pos ct]
    rw [hr]
    refine ⟨mPI (mPI h 114 0 (zI 0)) 114 0 (zI 1), vc_M_worth ?_, hI_same _ _ _ _, hFg_pf F0 (by simp) _⟩
    simp (disch := omega) only [zI_add, zI_sub, zI_mul, zI_neg, zI_lit, zI_0, zI_1, zI_lt, zI_le, zI_eq, zI_clamp, zI_inT, zI_ite, mOb_0, mOb_1, mOb_3, mOb_4, mLd_1, mAr_1, mLen_1, mTrue_t, Int.toNat_zero, Int.toNat_one, true_and, and_true, not_true_eq_false, not_false_eq_true, true_or, or_true, or_self, false_or, or_false, forall_const, false_implies, true_implies, implies_true]
    refine ⟨_, _, it, ?_⟩
    simp (disch := omega) only [zI_add, zI_sub, zI_mul, zI_neg, zI_lit, zI_0, zI_1, zI_lt, zI_le, zI_eq, zI_clamp, zI_inT, zI_ite, mOb_0, mOb_1, mOb_3, mOb_4, mLd_1, mAr_1, mLen_1, mTrue_t, Int.toNat_zero, Int.toNat_one, true_and, and_true, not_true_eq_false, not_false_eq_true, true_or, or_true, or_self, false_or, or_false, forall_const, false_implies, true_implies, implies_true]
    repeat' (first | refine And.intro ?_ ?_ | with_reducible intro _)
    all_goals first | omega | rfl

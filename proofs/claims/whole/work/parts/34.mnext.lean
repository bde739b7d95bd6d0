/-! L3, next: the model's groups by ticks have the class's greatest; the model's row of trials is the class's -/
def aIt (B : tB) (t q w c : Int) : Int := if aIts B c = q then (if aSho B t ((c - 1) % bP B) w = -1 then 0 else aSho B t ((c - 1) % bP B) w) else 0
/-- whether case c fits and he falls after x ticks -/
def aHas (B : tB) (E : tE) (k t q w x c : Int) : Int := if aFit 100000 B E k c c ≠ 0 ∧ aIt B t q w c = x then 1 else 0
def aCn (B : tB) (E : tE) (k t q w : Int) (n : Nat) (x : Int) : Int := sS (aHas B E k t q w x) n 0
def isMx (B : tB) (E : tE) (k t q w : Int) (n : Nat) (v : Int) : Prop := 0 ≤ v ∧ (∀ x, 0 ≤ x → x < 100 → aCn B E k t q w n x ≤ v) ∧ (v = 0 ∨ ∃ x, 0 ≤ x ∧ x < 100 ∧ aCn B E k t q w n x = v)
theorem isMx_one {B : tB} {E : tE} {k t q w v v' : Int} {n : Nat} (a : isMx B E k t q w n v) (b : isMx B E k t q w n v') : v = v' := by
  obtain ⟨a0, a1, a2⟩ := a
  obtain ⟨b0, b1, b2⟩ := b
  have h1 : v ≤ v' := by
    rcases a2 with h | ⟨x, h1, h2, h3⟩
    · omega
    · have := b1 x h1 h2; omega
  have h2 : v' ≤ v := by
    rcases b2 with h | ⟨x, h1, h2, h3⟩
    · omega
    · have := a1 x h1 h2; omega
  omega
theorem aCn_s (B : tB) (E : tE) (k t q w : Int) (n : Nat) (x : Int) : aCn B E k t q w (n + 1) x = aCn B E k t q w n x + aHas B E k t q w x n := by
  unfold aCn
  rw [sS_app]
  simp only [sS, Int.add_zero, Int.zero_add]
theorem aCn_rng (B : tB) (E : tE) (k t q w : Int) (n : Nat) (x : Int) : 0 ≤ aCn B E k t q w n x ∧ aCn B E k t q w n x ≤ n := by
  induction n with
  | zero => exact ⟨Int.le_refl 0, Int.le_refl 0⟩
  | succ n ih =>
    rw [aCn_s]
    have : aHas B E k t q w x n = 0 ∨ aHas B E k t q w x n = 1 := by unfold aHas; split <;> omega
    omega
theorem aIt_rng {B : tB} (hO : BOk B) {t q w c : Int} (hq : 0 ≤ q) (hc : 0 ≤ c) (hc' : c < 1 + bD B * bP B) : 0 ≤ aIt B t q w c ∧ aIt B t q w c ≤ 80 := by
  have o := hO.1
  unfold aIt aIts
  by_cases z : c = 0
  · rw [if_pos z, if_neg (by omega)]; omega
  · rw [if_neg z]
    obtain ⟨k1, k2, k3, k4, k5, k6⟩ := case_split (c := c) (nd := bD B) (np := bP B) (by omega) hc' (by omega) (by omega)
    have hs := aShow_rng (t := t) (w := w) (tm := bF B 9 (5 * t + (c - 1) % bP B)) hO k4 k5
    have hs : aSho B t ((c - 1) % bP B) w = -1 ∨ (1 ≤ aSho B t ((c - 1) % bP B) w ∧ aSho B t ((c - 1) % bP B) w ≤ 80) := hs
    split
    · split <;> omega
    · omega
def GA (h : mHp) (G : Int → Int) : Prop := ∀ x, 0 ≤ x → x < 100 → h.1 132 x.toNat = zI (G x)
theorem s_M_great_loop {d : Nat} {B : tB} {E : tE} (hO : BOk B) (hE : EOk B E) {t q w : Int} (ht : 0 ≤ t) (ht' : t < bT B) (hq : 0 ≤ q) (hq' : q < bD B) (hw : 0 ≤ w) (hw' : w ≤ 1) : ∀ (j : Nat) (c v : Int) (h : mHp), c + j = 1 + bD B * bP B → 0 ≤ c → BM h B → EM h E → GA h (aCn B E (aNow E) t q w c.toNat) → isMx B E (aNow E) t q w c.toNat v →
    ∃ h' r, mRuns (d + 5) 69 30 [some (.ref 114), some (.int (zI t)), some (.int (zI q)), some (.int (zI w)), some (.int (zI v)), some (.int (zI c)), none] [] h (.inl (some (.int (zI r)), h')) ∧ isMx B E (aNow E) t q w (1 + bD B * bP B).toNat r ∧ hFr [132] h h' := by
  have o := hO.1
  have hr := case_rng (nd := bD B) (np := bP B) (by omega) (by omega) (by omega) (by omega)
  have hn := aNow_rng hE
  intro j
  induction j with
  | zero =>
    intro c v h hc c0 hB hM hG hv
    refine ⟨h, v, vc_M_greatest_30 ⟨_, _, s_M_allCases hB, ?_⟩, ?_, hFr_refl _ _⟩
    · simp (disch := omega) only [zI_add, zI_sub, zI_mul, zI_neg, zI_lit, zI_0, zI_1, zI_lt, zI_le, zI_eq, zI_clamp, zI_inT, zI_ite, mOb_0, mOb_1, mOb_3, mOb_4, mLd_1, mAr_1, mLen_1, mTrue_t, Int.toNat_zero, Int.toNat_one, true_and, and_true, not_true_eq_false, not_false_eq_true, true_or, or_true, or_self, false_or, or_false, forall_const, false_implies, true_implies, implies_true]
      intro z; omega
    · rw [show (1 + bD B * bP B).toNat = c.toNat by omega]; exact hv
  | succ j ih =>
    intro c v h hc c0 hB hM hG hv
    have hf := aFit_01 100000 B E (aNow E) c c
    have e2 := hB.2.1
    have hcn : (c + 1).toNat = c.toNat + 1 := by omega
    have hci : ((c.toNat : Nat) : Int) = c := by omega
    by_cases z : aFit 100000 B E (aNow E) c c = 0
    · have hsame : ∀ x, aCn B E (aNow E) t q w (c + 1).toNat x = aCn B E (aNow E) t q w c.toNat x := by
        intro x; rw [hcn, aCn_s, hci]; unfold aHas; rw [if_neg (fun y => y.1 z)]; omega
      obtain ⟨h', r, k1, k2, k3⟩ := ih (c + 1) v h (by omega) (by omega) hB hM (fun x a1 a2 => by rw [hsame]; exact hG x a1 a2) (by
        obtain ⟨b0, b1, b2⟩ := hv
        exact ⟨b0, fun x a1 a2 => by rw [hsame]; exact b1 x a1 a2, b2.imp id (fun ⟨x, a1, a2, a3⟩ => ⟨x, a1, a2, by rw [hsame]; exact a3⟩)⟩)
      refine ⟨h', r, vc_M_greatest_30 ⟨_, _, s_M_allCases hB, ?_⟩, k2, k3⟩
      simp (disch := omega) only [zI_add, zI_sub, zI_mul, zI_neg, zI_lit, zI_0, zI_1, zI_lt, zI_le, zI_eq, zI_clamp, zI_inT, zI_ite, mOb_0, mOb_1, mOb_3, mOb_4, mLd_1, mAr_1, mLen_1, mTrue_t, Int.toNat_zero, Int.toNat_one, true_and, and_true, not_true_eq_false, not_false_eq_true, true_or, or_true, or_self, false_or, or_false, forall_const, false_implies, true_implies, implies_true]
      refine ⟨fun z => by omega, fun _ => ⟨_, _, s_M_now hM hE, _, _, s_M_fits hB hO hM hE c0 (by omega) c0 (by omega) hn.1 (by omega), ?_⟩⟩
      simp (disch := omega) only [zI_add, zI_sub, zI_mul, zI_neg, zI_lit, zI_0, zI_1, zI_lt, zI_le, zI_eq, zI_clamp, zI_inT, zI_ite, mOb_0, mOb_1, mOb_3, mOb_4, mLd_1, mAr_1, mLen_1, mTrue_t, Int.toNat_zero, Int.toNat_one, true_and, and_true, not_true_eq_false, not_false_eq_true, true_or, or_true, or_self, false_or, or_false, forall_const, false_implies, true_implies, implies_true]
      exact ⟨fun y => absurd z y, fun _ => k1⟩
    · have hi := aIt_rng hO (t := t) (w := w) hq c0 (by omega)
      have hg := hG _ hi.1 (by omega)
      have hgr := aCn_rng B E (aNow E) t q w c.toNat (aIt B t q w c)
      have hstep : ∀ x, aCn B E (aNow E) t q w (c + 1).toNat x = if x = aIt B t q w c then aCn B E (aNow E) t q w c.toNat (aIt B t q w c) + 1 else aCn B E (aNow E) t q w c.toNat x := by
        intro x; rw [hcn, aCn_s, hci]; unfold aHas
        by_cases e : x = aIt B t q w c
        · rw [if_pos ⟨z, e.symm⟩, if_pos e, e]
        · rw [if_neg (fun y => e y.2.symm), if_neg e]; omega
      have hvr : 0 ≤ v ∧ v ≤ 40 := by
        obtain ⟨b0, b1, b2⟩ := hv
        refine ⟨b0, ?_⟩
        rcases b2 with b2 | ⟨x, a1, a2, a3⟩
        · omega
        · have := aCn_rng B E (aNow E) t q w c.toNat x; omega
      obtain ⟨h', r, k1, k2, k3⟩ := ih (c + 1) (if v < aCn B E (aNow E) t q w c.toNat (aIt B t q w c) + 1 then aCn B E (aNow E) t q w c.toNat (aIt B t q w c) + 1 else v) (mPI h 132 (aIt B t q w c).toNat (zI (aCn B E (aNow E) t q w c.toNat (aIt B t q w c) + 1))) (by omega) (by omega)
        (BM_of hB (fun k h1 _ => by rw [hI_ne (by omega)]) (fun k h1 _ => hI_ne (by omega) _ _ _)) (EM_of hM (by rw [hI_ne (by omega)]) (hI_ne (by omega) _ _ _))
        (fun x a1 a2 => by
          rw [hstep]
          by_cases e : x = aIt B t q w c
          · rw [if_pos e, e, hI_same]
          · rw [if_neg e, hI_off (by omega)]; exact hG x a1 a2)
        (by
          obtain ⟨b0, b1, b2⟩ := hv
          refine ⟨by split <;> omega, fun x a1 a2 => ?_, ?_⟩
          · rw [hstep]; have := b1 x a1 a2
            split <;> split <;> omega
          · by_cases y : v < aCn B E (aNow E) t q w c.toNat (aIt B t q w c) + 1
            · rw [if_pos y]; exact Or.inr ⟨_, hi.1, by omega, by rw [hstep, if_pos rfl]⟩
            · rw [if_neg y]
              rcases b2 with b2 | ⟨x, a1, a2, a3⟩
              · exact Or.inl b2
              · refine Or.inr ⟨x, a1, a2, ?_⟩
                rw [hstep, if_neg (fun e => by rw [e] at a3; omega)]; exact a3)
      refine ⟨h', r, vc_M_greatest_30 ⟨_, _, s_M_allCases hB, ?_⟩, k2, hFr_trans (hFr_pi (hFr_refl _ _) (by simp) _ _) k3⟩
      have k108 : mRuns (d + 5) 69 108 [some (.ref 114), some (.int (zI t)), some (.int (zI q)), some (.int (zI w)), some (.int (zI v)), some (.int (zI c)), none] [.int (zI (aIt B t q w c))] h (.inl (some (.int (zI r)), h')) := by
        refine vc_M_greatest_108 ?_
        simp (disch := omega) only [zI_add, zI_sub, zI_mul, zI_neg, zI_lit, zI_0, zI_1, zI_lt, zI_le, zI_eq, zI_clamp, zI_inT, zI_ite, mOb_0, mOb_1, mOb_3, mOb_4, mLd_1, mAr_1, mLen_1, mTrue_t, Int.toNat_zero, Int.toNat_one, true_and, and_true, not_true_eq_false, not_false_eq_true, true_or, or_true, or_self, false_or, or_false, forall_const, false_implies, true_implies, implies_true, hg, hI_same]
        refine ⟨fun y => ?_, fun y => ?_⟩
        · rw [if_neg (by omega)] at k1; exact k1
        · rw [if_pos (by omega)] at k1; exact k1
      have k75 : aIt B t q w c = 0 → mRuns (d + 5) 69 75 [some (.ref 114), some (.int (zI t)), some (.int (zI q)), some (.int (zI w)), some (.int (zI v)), some (.int (zI c)), none] [] h (.inl (some (.int (zI r)), h')) := by
        intro y
        rw [y] at k108
        refine vc_M_greatest_75 ?_
        simp (disch := omega) only [zI_add, zI_sub, zI_mul, zI_neg, zI_lit, zI_0, zI_1, zI_lt, zI_le, zI_eq, zI_clamp, zI_inT, zI_ite, mOb_0, mOb_1, mOb_3, mOb_4, mLd_1, mAr_1, mLen_1, mTrue_t, Int.toNat_zero, Int.toNat_one, true_and, and_true, not_true_eq_false, not_false_eq_true, true_or, or_true, or_self, false_or, or_false, forall_const, false_implies, true_implies, implies_true]
        repeat' (first | refine And.intro ?_ ?_ | with_reducible intro _)
        all_goals first | omega | exact k108
      simp (disch := omega) only [zI_add, zI_sub, zI_mul, zI_neg, zI_lit, zI_0, zI_1, zI_lt, zI_le, zI_eq, zI_clamp, zI_inT, zI_ite, mOb_0, mOb_1, mOb_3, mOb_4, mLd_1, mAr_1, mLen_1, mTrue_t, Int.toNat_zero, Int.toNat_one, true_and, and_true, not_true_eq_false, not_false_eq_true, true_or, or_true, or_self, false_or, or_false, forall_const, false_implies, true_implies, implies_true]
      refine ⟨fun z => by omega, fun _ => ⟨_, _, s_M_now hM hE, _, _, s_M_fits hB hO hM hE c0 (by omega) c0 (by omega) hn.1 (by omega), ?_⟩⟩
      simp (disch := omega) only [zI_add, zI_sub, zI_mul, zI_neg, zI_lit, zI_0, zI_1, zI_lt, zI_le, zI_eq, zI_clamp, zI_inT, zI_ite, mOb_0, mOb_1, mOb_3, mOb_4, mLd_1, mAr_1, mLen_1, mTrue_t, Int.toNat_zero, Int.toNat_one, true_and, and_true, not_true_eq_false, not_false_eq_true, true_or, or_true, or_self, false_or, or_false, forall_const, false_implies, true_implies, implies_true]
      refine ⟨fun _ => ⟨fun y => ?_, fun y => ?_⟩, fun y => absurd y z⟩
      · exact k75 (by unfold aIt aIts; rw [if_pos y, if_neg (by omega)])
      · obtain ⟨k1, k2, k3, k4, k5, k6⟩ := case_split (c := c) (nd := bD B) (np := bP B) (by omega) (by omega) (by omega) (by omega)
        have hs := aShow_rng (t := t) (w := w) (tm := bF B 9 (5 * t + (c - 1) % bP B)) hO k4 k5
        have hs : aSho B t ((c - 1) % bP B) w = -1 ∨ (1 ≤ aSho B t ((c - 1) % bP B) w ∧ aSho B t ((c - 1) % bP B) w ≤ 80) := hs
        simp (disch := omega) only [zI_add, zI_sub, zI_mul, zI_neg, zI_lit, zI_0, zI_1, zI_lt, zI_le, zI_eq, zI_clamp, zI_inT, zI_ite, mOb_0, mOb_1, mOb_3, mOb_4, mLd_1, mAr_1, mLen_1, mTrue_t, Int.toNat_zero, Int.toNat_one, true_and, and_true, not_true_eq_false, not_false_eq_true, true_or, or_true, or_self, false_or, or_false, forall_const, false_implies, true_implies, implies_true, e2, zI_div, int_rem]
        refine ⟨by omega, fun x => ⟨by omega, _, _, s_M_showsNow hB hO ht ht' k4 k5 hw hw', ?_⟩, fun x => ?_⟩
        · have e9 : aIt B t q w c = if aSho B t ((c - 1) % bP B) w = -1 then 0 else aSho B t ((c - 1) % bP B) w := by
            unfold aIt aIts; rw [if_neg y, if_pos x]
          rw [e9] at k108
          simp (disch := omega) only [zI_add, zI_sub, zI_mul, zI_neg, zI_lit, zI_0, zI_1, zI_lt, zI_le, zI_eq, zI_clamp, zI_inT, zI_ite, mOb_0, mOb_1, mOb_3, mOb_4, mLd_1, mAr_1, mLen_1, mTrue_t, Int.toNat_zero, Int.toNat_one, true_and, and_true, not_true_eq_false, not_false_eq_true, true_or, or_true, or_self, false_or, or_false, forall_const, false_implies, true_implies, implies_true]
          refine ⟨fun u => ?_, fun u => ?_⟩
          · rw [if_neg u] at k108; exact k108
          · rw [if_pos u] at k108; exact k108
        · exact k75 (by unfold aIt aIts; rw [if_neg y, if_neg x])
theorem s_M_great_first {d : Nat} {B : tB} {E : tE} (hO : BOk B) (hE : EOk B E) {t q w : Int} (ht : 0 ≤ t) (ht' : t < bT B) (hq : 0 ≤ q) (hq' : q < bD B) (hw : 0 ≤ w) (hw' : w ≤ 1) : ∀ (j : Nat) (i : Int) (h : mHp), i + j = 100 → 0 ≤ i → BM h B → EM h E → (∀ x, 0 ≤ x → x < i → h.1 132 x.toNat = zI 0) →
    ∃ h' r, mRuns (d + 5) 69 3 [some (.ref 114), some (.int (zI t)), some (.int (zI q)), some (.int (zI w)), some (.int (zI i)), none, none] [] h (.inl (some (.int (zI r)), h')) ∧ isMx B E (aNow E) t q w (1 + bD B * bP B).toNat r ∧ hFr [132] h h' := by
  have o := hO.1
  have hr := case_rng (nd := bD B) (np := bP B) (by omega) (by omega) (by omega) (by omega)
  intro j
  induction j with
  | zero =>
    intro i h hi h0 hB hM hx
    obtain ⟨h', r, k1, k2, k3⟩ := s_M_great_loop (d := d) hO hE ht ht' hq hq' hw hw' (1 + bD B * bP B).toNat 0 0 h (by omega) (by omega) hB hM (fun x a1 a2 => hx x a1 (by omega)) ⟨Int.le_refl 0, fun x _ _ => Int.le_refl 0, Or.inl rfl⟩
    refine ⟨h', r, vc_M_greatest_3 ?_, k2, k3⟩
    simp (disch := omega) only [zI_add, zI_sub, zI_mul, zI_neg, zI_lit, zI_0, zI_1, zI_lt, zI_le, zI_eq, zI_clamp, zI_inT, zI_ite, mOb_0, mOb_1, mOb_3, mOb_4, mLd_1, mAr_1, mLen_1, mTrue_t, Int.toNat_zero, Int.toNat_one, true_and, and_true, not_true_eq_false, not_false_eq_true, true_or, or_true, or_self, false_or, or_false, forall_const, false_implies, true_implies, implies_true]
    exact ⟨fun _ => k1, fun z => by omega⟩
  | succ j ih =>
    intro i h hi h0 hB hM hx
    obtain ⟨h', r, k1, k2, k3⟩ := ih (i + 1) (mPI h 132 i.toNat (zI 0)) (by omega) (by omega) (BM_of hB (fun k h1 _ => by rw [hI_ne (by omega)]) (fun k h1 _ => hI_ne (by omega) _ _ _)) (EM_of hM (by rw [hI_ne (by omega)]) (hI_ne (by omega) _ _ _))
      (fun x a1 a2 => by
        by_cases e : x = i
        · rw [e, hI_same]
        · rw [hI_off (by omega)]; exact hx x a1 (by omega))
    refine ⟨h', r, vc_M_greatest_3 ?_, k2, hFr_trans (hFr_pi (hFr_refl _ _) (by simp) _ _) k3⟩
    simp (disch := omega) only [zI_add, zI_sub, zI_mul, zI_neg, zI_lit, zI_0, zI_1, zI_lt, zI_le, zI_eq, zI_clamp, zI_inT, zI_ite, mOb_0, mOb_1, mOb_3, mOb_4, mLd_1, mAr_1, mLen_1, mTrue_t, Int.toNat_zero, Int.toNat_one, true_and, and_true, not_true_eq_false, not_false_eq_true, true_or, or_true, or_self, false_or, or_false, forall_const, false_implies, true_implies, implies_true]
    exact ⟨fun z => by omega, fun _ => k1⟩
/-! the class's greatest group is the greatest -/
theorem sS_only {B : tB} (hO : BOk B) {f : Int → Int} {q : Int} (hq : 0 ≤ q) (hq' : q < bD B) (hf : ∀ c, 0 ≤ c → c < 1 + bD B * bP B → aIts B c ≠ q → f c = 0) : sS f (1 + bD B * bP B).toNat 0 = sS f (bP B).toNat (1 + q * bP B) := by
  have o := hO.1
  have hr := case_rng (nd := bD B) (np := bP B) (by omega) (by omega) (by omega) (by omega)
  have hm : (1 + bD B * bP B).toNat = 1 + (bD B).toNat * (bP B).toNat := by
    have : (((bD B).toNat * (bP B).toNat : Nat) : Int) = bD B * bP B := by
      rw [Int.natCast_mul, show (((bD B).toNat : Nat) : Int) = bD B by omega, show (((bP B).toNat : Nat) : Int) = bP B by omega]
    omega
  rw [hm, sS_app, show (0 : Int) + ((1 : Nat) : Int) = 1 from rfl]
  have h0 : sS f 1 0 = 0 := by
    simp only [sS, Int.add_zero]
    exact hf 0 (by omega) (by omega) (by unfold aIts; rw [if_pos rfl]; omega)
  rw [h0, sS_blocks, Int.zero_add]
  have h1 : sS (fun x => sS f (bP B).toNat (1 + x * ((bP B).toNat : Nat))) (bD B).toNat 0 = sS (fun x => if x = q then sS f (bP B).toNat (1 + q * bP B) else 0) (bD B).toNat 0 := by
    refine sS_cong _ _ (fun x h1 h2 => ?_)
    rw [show (((bP B).toNat : Nat) : Int) = bP B by omega]
    by_cases e : x = q
    · rw [if_pos e, e]
    · rw [if_neg e, sS_cong (g := fun _ => 0) _ _ (fun c z1 z2 => ?_), sS_zero]
      obtain ⟨c1, c2, c3, c4⟩ := case_join (nd := bD B) (np := bP B) (q := x) (p := c - (1 + x * bP B)) (by omega) (by omega) (by omega) (by omega) (by omega)
      rw [show 1 + x * bP B + (c - (1 + x * bP B)) = c by omega] at c1 c2 c3
      refine hf c (by omega) c2 ?_
      unfold aIts; rw [if_neg (by omega), c3]; exact e
  rw [h1, sS_single _ _ _ _ (by omega) (by omega)]
theorem aNum_sS (B : tB) (E : tE) (k : Int) : aNum B E k = sS (fun c => aFit 100000 B E k c c) (1 + bD B * bP B).toNat 0 := by
  unfold aNum
  have : ∀ (j : Nat) (c v : Int), aNumR B E k j c v = v + sS (fun c => aFit 100000 B E k c c) j c := by
    intro j
    induction j with
    | zero => intro c v; simp [aNumR, sS]
    | succ j ih => intro c v; unfold aNumR sS; rw [ih]; omega
  rw [this, Int.zero_add]
theorem aAl_sS (B : tB) (E : tE) (k t q w x : Int) : aAl B E k t q w x = sS (fun p => if aTT B E k t q w p = x then 1 else 0) (bP B).toNat 0 := by
  unfold aAl
  have : ∀ (j : Nat) (p v : Int), aAlR B E k t q w x j p v = v + sS (fun p => if aTT B E k t q w p = x then 1 else 0) j p := by
    intro j
    induction j with
    | zero => intro c v; simp [aAlR, sS]
    | succ j ih =>
      intro p v; unfold aAlR; rw [sS_s, ih]
      split <;> omega
  rw [this, Int.zero_add]
theorem sS_add (f g : Int → Int) : ∀ (j : Nat) (c : Int), sS (fun x => f x + g x) j c = sS f j c + sS g j c := by
  intro j
  induction j with
  | zero => intro c; rfl
  | succ j ih => intro c; rw [sS_s, sS_s, sS_s, ih]; omega
theorem aCn_al {B : tB} (hO : BOk B) {E : tE} {k t q w x : Int} (hq : 0 ≤ q) (hq' : q < bD B) (hx : 1 ≤ x) : aCn B E k t q w (1 + bD B * bP B).toNat x = aAl B E k t q w x := by
  have o := hO.1
  unfold aCn
  rw [sS_only hO hq hq' (fun c _ _ h => by unfold aHas aIt; rw [if_neg h, if_neg (by omega)]), aAl_sS, show 1 + q * bP B = 1 + q * bP B + 0 by omega, ← sS_shift (aHas B E k t q w x) (1 + q * bP B)]
  refine sS_cong _ _ (fun p h1 h2 => ?_)
  obtain ⟨c1, c2, c3, c4⟩ := case_join (nd := bD B) (np := bP B) (q := q) (p := p) (by omega) (by omega) (by omega) (by omega) (by omega)
  have hs := aShow_rng (t := t) (w := w) (tm := bF B 9 (5 * t + p)) hO h1 (by omega)
  have hs : aSho B t p w = -1 ∨ (1 ≤ aSho B t p w ∧ aSho B t p w ≤ 80) := hs
  unfold aHas aIt aIts aTT
  rw [if_neg (show ¬ 1 + q * bP B + p = 0 by omega), c3, c4, if_pos rfl]
  by_cases z : aFit 100000 B E k (1 + q * bP B + p) (1 + q * bP B + p) = 0
  · rw [if_neg (fun y => y.1 z), if_pos z, if_neg (by omega)]
  · rw [if_neg z]
    by_cases y : aSho B t p w = -1
    · rw [if_pos y, if_neg (by omega), if_neg (by omega)]
    · rw [if_neg y]
      by_cases u : aSho B t p w = x
      · rw [if_pos ⟨z, u⟩, if_pos u]
      · rw [if_neg (fun v => u v.2), if_neg u]
def aTl (B : tB) (E : tE) (k t q w : Int) (j : Nat) (p : Int) : Int := sS (fun p => if aTT B E k t q w p = -1 then 0 else 1) j p
theorem aCn_0 {B : tB} (hO : BOk B) {E : tE} {k t q w : Int} (hq : 0 ≤ q) (hq' : q < bD B) : aCn B E k t q w (1 + bD B * bP B).toNat 0 = aNum B E k - aTl B E k t q w (bP B).toNat 0 := by
  have o := hO.1
  have hr := case_rng (nd := bD B) (np := bP B) (by omega) (by omega) (by omega) (by omega)
  have h1 : sS (fun c => if aFit 100000 B E k c c ≠ 0 ∧ aIt B t q w c ≠ 0 then 1 else 0) (1 + bD B * bP B).toNat 0 = aTl B E k t q w (bP B).toNat 0 := by
    rw [sS_only hO hq hq' (fun c _ _ h => by unfold aIt; rw [if_neg h, if_neg (fun z => z.2 rfl)]), show 1 + q * bP B = 1 + q * bP B + 0 by omega, ← sS_shift (fun c => if aFit 100000 B E k c c ≠ 0 ∧ aIt B t q w c ≠ 0 then 1 else 0) (1 + q * bP B)]
    unfold aTl
    refine sS_cong _ _ (fun p h1 h2 => ?_)
    obtain ⟨c1, c2, c3, c4⟩ := case_join (nd := bD B) (np := bP B) (q := q) (p := p) (by omega) (by omega) (by omega) (by omega) (by omega)
    have hs := aShow_rng (t := t) (w := w) (tm := bF B 9 (5 * t + p)) hO h1 (by omega)
    have hs : aSho B t p w = -1 ∨ (1 ≤ aSho B t p w ∧ aSho B t p w ≤ 80) := hs
    unfold aIt aIts aTT
    rw [if_neg (show ¬ 1 + q * bP B + p = 0 by omega), c3, c4, if_pos rfl]
    by_cases z : aFit 100000 B E k (1 + q * bP B + p) (1 + q * bP B + p) = 0
    · rw [if_neg (fun y => y.1 z), if_pos z, if_pos rfl]
    · rw [if_neg z]
      by_cases y : aSho B t p w = -1
      · rw [if_pos y, if_pos y, if_neg (fun u => u.2 rfl)]
      · rw [if_neg y, if_neg y, if_pos ⟨z, by omega⟩]
  have h2 : aNum B E k = sS (fun c => aHas B E k t q w 0 c + (if aFit 100000 B E k c c ≠ 0 ∧ aIt B t q w c ≠ 0 then 1 else 0)) (1 + bD B * bP B).toNat 0 := by
    rw [aNum_sS]
    refine sS_cong _ _ (fun c _ _ => ?_)
    have hf := aFit_01 100000 B E k c c
    unfold aHas
    by_cases z : aFit 100000 B E k c c = 0
    · rw [if_neg (fun y => y.1 z), if_neg (fun y => y.1 z), z]; rfl
    · by_cases y : aIt B t q w c = 0
      · rw [if_pos ⟨z, y⟩, if_neg (fun u => u.2 y)]; omega
      · rw [if_neg (fun u => y u.2), if_pos ⟨z, y⟩]; omega
  rw [h2, sS_add, h1]
  unfold aCn; omega
theorem aGgR_mx {B : tB} (hO : BOk B) {E : tE} {k t q w : Int} (hq : 0 ≤ q) (hq' : q < bD B) : ∀ (j : Nat) (p g tl : Int), p + j = bP B → 0 ≤ p → tl + aTl B E k t q w j p = aTl B E k t q w (bP B).toNat 0 → 0 ≤ g → (∀ x, 1 ≤ x → x < 100 → (∃ p', 0 ≤ p' ∧ p' < p ∧ aTT B E k t q w p' = x) → aAl B E k t q w x ≤ g) → (g = 0 ∨ ∃ x, 1 ≤ x ∧ x < 100 ∧ aAl B E k t q w x = g) →
    isMx B E k t q w (1 + bD B * bP B).toNat (aGgR B E k t q w j p g tl) := by
  have o := hO.1
  intro j
  induction j with
  | zero =>
    intro p g tl hp p0 htl g0 hg hg2
    have h0 : aCn B E k t q w (1 + bD B * bP B).toNat 0 = aNum B E k - tl := by
      have : aTl B E k t q w 0 p = 0 := rfl
      rw [aCn_0 hO hq hq', ← htl, this, Int.add_zero]
    have hc0 := aCn_rng B E k t q w (1 + bD B * bP B).toNat 0
    unfold aGgR aMax
    refine ⟨by split <;> omega, fun x x0 x1 => ?_, ?_⟩
    · by_cases e : x = 0
      · rw [e, h0]; split <;> omega
      · rw [aCn_al hO hq hq' (by omega)]
        have : aAl B E k t q w x ≤ g := by
          by_cases hz : aAl B E k t q w x = 0
          · omega
          · refine hg x (by omega) x1 ?_
            apply Classical.byContradiction
            intro hno
            apply hz
            rw [aAl_sS, sS_cong (g := fun _ => 0) _ _ (fun p' h1 h2 => ?_), sS_zero]
            rw [if_neg (fun y => hno ⟨p', h1, by omega, y⟩)]
        split <;> omega
    · by_cases e : g < aNum B E k - tl
      · rw [if_pos e]; exact Or.inr ⟨0, by omega, by omega, h0⟩
      · rw [if_neg e]
        rcases hg2 with h | ⟨x, x0, x1, x2⟩
        · exact Or.inl h
        · exact Or.inr ⟨x, by omega, x1, by rw [aCn_al hO hq hq' x0]; exact x2⟩
  | succ j ih =>
    intro p g tl hp p0 htl g0 hg hg2
    have hs := aTT_rng hO (E := E) (k := k) (t := t) (q := q) (w := w) p0 (by omega)
    have hal := aAl_rng hO (E := E) (k := k) (t := t) (q := q) (w := w) (x := aTT B E k t q w p)
    have hts : aTl B E k t q w (j + 1) p = (if aTT B E k t q w p = -1 then 0 else 1) + aTl B E k t q w j (p + 1) := rfl
    rw [hts] at htl
    unfold aGgR
    by_cases z : aTT B E k t q w p = -1
    · rw [if_pos z] at htl
      rw [if_pos z]
      refine ih (p + 1) g tl (by omega) (by omega) (by omega) g0 (fun x x0 x1 ⟨p', a1, a2, a3⟩ => ?_) hg2
      refine hg x x0 x1 ⟨p', a1, ?_, a3⟩
      by_cases e : p' = p
      · rw [e, z] at a3; omega
      · omega
    · rw [if_neg z] at htl
      rw [if_neg z]
      refine ih (p + 1) _ (tl + 1) (by omega) (by omega) (by omega) (by unfold aMax; split <;> omega) (fun x x0 x1 ⟨p', a1, a2, a3⟩ => ?_) ?_
      · by_cases e : p' = p
        · rw [e] at a3; rw [← a3]; unfold aMax; split <;> omega
        · have := hg x x0 x1 ⟨p', a1, by omega, a3⟩
          unfold aMax; split <;> omega
      · unfold aMax
        by_cases e : g < aAl B E k t q w (aTT B E k t q w p)
        · rw [if_pos e]; exact Or.inr ⟨_, by omega, by omega, rfl⟩
        · rw [if_neg e]; exact hg2
theorem aGg_mx {B : tB} (hO : BOk B) {E : tE} {k t q w : Int} (hq : 0 ≤ q) (hq' : q < bD B) : isMx B E k t q w (1 + bD B * bP B).toNat (aGg B E k t q w) := by
  have o := hO.1
  exact aGgR_mx hO hq hq' (bP B).toNat 0 0 0 (by omega) (by omega) (by omega) (by omega) (fun x _ _ ⟨p', a1, a2, _⟩ => by omega) (Or.inl rfl)
theorem s_M_great {d : Nat} {h : mHp} {B : tB} {E : tE} (hB : BM h B) (hO : BOk B) (hM : EM h E) (hE : EOk B E) {t q w : Int} (ht : 0 ≤ t) (ht' : t < bT B) (hq : 0 ≤ q) (hq' : q < bD B) (hw : 0 ≤ w) (hw' : w ≤ 1) :
    ∃ h', mRuns (d + 5) 69 0 [some (.ref 114), some (.int (zI t)), some (.int (zI q)), some (.int (zI w)), none, none, none] [] h (.inl (some (.int (zI (aGg B E (aNow E) t q w))), h')) ∧ hFr [132] h h' := by
  obtain ⟨h', r, k1, k2, k3⟩ := s_M_great_first (d := d) hO hE ht ht' hq hq' hw hw' 100 0 h (by omega) (by omega) hB hM (fun x a1 a2 => by omega)
  rw [isMx_one k2 (aGg_mx hO hq hq')] at k1
  refine ⟨h', vc_M_greatest ?_, k3⟩
  simp (disch := omega) only [zI_add, zI_sub, zI_mul, zI_neg, zI_lit, zI_0, zI_1, zI_lt, zI_le, zI_eq, zI_clamp, zI_inT, zI_ite, mOb_0, mOb_1, mOb_3, mOb_4, mLd_1, mAr_1, mLen_1, mTrue_t, Int.toNat_zero, Int.toNat_one, true_and, and_true, not_true_eq_false, not_false_eq_true, true_or, or_true, or_self, false_or, or_false, forall_const, false_implies, true_implies, implies_true]
  exact k1
/-! all trials, in order -/
def aF0 (B : tB) (E : tE) (k t c : Int) (s : Int × Int) : Int × Int := if bF B 7 t = 4 ∨ aFell E t ≠ -1 then s else aCtI B E k t (2 * bD B - c).toNat c s
theorem s_M_next_loop {d : Nat} {B : tB} {E : tE} (hO : BOk B) (hE : EOk B E) {x : Int} (hx : x = 0 ∨ x = 1) : ∀ (j : Nat) (t c m : Int) (s : Int × Int) (h : mHp), 20 * t + c + j = 20 * bT B → 0 ≤ t → t < bT B → 0 ≤ c → c < 20 → BM h B → EM h E → sOk s → (s.1 = -1 ∨ m = s.2) → 0 ≤ m → m ≤ 31 →
    ∃ h', mRuns (d + 6) 68 36 [some (.ref 114), some (.int (zI x)), some (.int (zI s.1)), some (.int (zI m)), some (.int (zI (20 * t + c))), none, none, none] [] h (.inl (some (.int (zI (if x = 0 then (aCtO B E (aNow E) (bT B - t - 1).toNat (t + 1) (aF0 B E (aNow E) t c s)).1 else (aCtO B E (aNow E) (bT B - t - 1).toNat (t + 1) (aF0 B E (aNow E) t c s)).2))), h')) ∧ hFr [132] h h' := by
  have o := hO.1
  intro j
  induction j with
  | zero => intro t c m s h hk; omega
  | succ j ih =>
    intro t c m s h hk t0 t1 c0 c1 hB hM hs hm m0 m1
    obtain ⟨e1, e2, e3, e4, a1, a2, a3, a4, a5, a6, a7, a8, a9, a10⟩ := id hB
    have o4 := hO.2.2.2.1 t t0 t1
    have x3 := aFell_rng hE t
    have hsr : -1 ≤ s.1 ∧ s.1 < 200 ∧ -1 ≤ s.2 ∧ s.2 ≤ 31 := by unfold sOk at hs; omega
    have d1 : (20 * t + c) / 20 = t := by omega
    have d2 : (20 * t + c) % 20 / 2 = c / 2 := by omega
    have d3 : (20 * t + c) % 2 = c % 2 := by omega
    have d4 : 20 * t + c - t * 20 = c := by omega
    -- going on with s'
    have goOn : ∀ (s' : Int × Int) (m' : Int) (h1 : mHp), BM h1 B → EM h1 E → sOk s' → (s'.1 = -1 ∨ m' = s'.2) → 0 ≤ m' → m' ≤ 31 → aF0 B E (aNow E) t c s = aF0 B E (aNow E) t (c + 1) s' → hFr [132] h h1 →
        ∃ h', mRuns (d + 6) 68 36 [some (.ref 114), some (.int (zI x)), some (.int (zI s'.1)), some (.int (zI m')), some (.int (zI (20 * t + c + 1))), none, none, none] [] h1 (.inl (some (.int (zI (if x = 0 then (aCtO B E (aNow E) (bT B - t - 1).toNat (t + 1) (aF0 B E (aNow E) t c s)).1 else (aCtO B E (aNow E) (bT B - t - 1).toNat (t + 1) (aF0 B E (aNow E) t c s)).2))), h')) ∧ hFr [132] h h' := by
      intro s' m' h1 hB1 hM1 hs' hm' m0' m1' hF hf
      rw [hF]
      by_cases c9 : c + 1 < 20
      · obtain ⟨h', r, f⟩ := ih t (c + 1) m' s' h1 (by omega) t0 t1 (by omega) c9 hB1 hM1 hs' hm' m0' m1'
        rw [show 20 * t + (c + 1) = 20 * t + c + 1 by omega] at r
        exact ⟨h', r, hFr_trans hf f⟩
      · have hF2 : aF0 B E (aNow E) t (c + 1) s' = s' := by
          unfold aF0; split
          · rfl
          · rw [show (2 * bD B - (c + 1)).toNat = 0 by omega]; rfl
        rw [hF2]
        by_cases t9 : t + 1 < bT B
        · obtain ⟨h', r, f⟩ := ih (t + 1) 0 m' s' h1 (by omega) (by omega) t9 (by omega) (by omega) hB1 hM1 hs' hm' m0' m1'
          rw [show 20 * (t + 1) + 0 = 20 * t + c + 1 by omega] at r
          refine ⟨h', ?_, hFr_trans hf f⟩
          have e9 : aCtO B E (aNow E) (bT B - t - 1).toNat (t + 1) s' = aCtO B E (aNow E) (bT B - (t + 1) - 1).toNat (t + 1 + 1) (aF0 B E (aNow E) (t + 1) 0 s') := by
            rw [show (bT B - t - 1).toNat = (bT B - (t + 1) - 1).toNat + 1 by omega]
            unfold aF0
            rw [Int.sub_zero]
            rfl
          rw [e9]; exact r
        · rw [show (bT B - t - 1).toNat = 0 by omega]
          have e3' := hB1.2.2.1
          have hsr' : -1 ≤ s'.1 ∧ s'.1 < 200 ∧ -1 ≤ s'.2 ∧ s'.2 ≤ 31 := by unfold sOk at hs'; omega
          refine ⟨h1, vc_M_next_36 ?_, hf⟩
          unfold aCtO
          simp (disch := omega) only [zI_add, zI_sub, zI_mul, zI_neg, zI_lit, zI_0, zI_1, zI_lt, zI_le, zI_eq, zI_clamp, zI_inT, zI_ite, mOb_0, mOb_1, mOb_3, mOb_4, mLd_1, mAr_1, mLen_1, mTrue_t, Int.toNat_zero, Int.toNat_one, true_and, and_true, not_true_eq_false, not_false_eq_true, true_or, or_true, or_self, false_or, or_false, forall_const, false_implies, true_implies, implies_true, e3']
          refine ⟨fun _ => ⟨fun z => ?_, fun z => ⟨fun y => ?_, fun y => ?_⟩⟩, fun z => by omega⟩
          · have : s'.2 = -1 := by unfold sOk at hs'; omega
            rw [this, z]; congr 5; split <;> rfl
          · rw [if_neg y]
            rcases hm' with q | q
            · exact absurd q z
            · rw [q]
          · rw [if_pos y]
    by_cases sk : bD B ≤ c / 2 ∨ bF B 7 t = 4 ∨ aFell E t ≠ -1
    · obtain ⟨h', r, f⟩ := goOn s m h hB hM hs hm m0 m1 (by
        unfold aF0; split
        · rfl
        · rename_i z
          rw [show (2 * bD B - c).toNat = 0 by omega, show (2 * bD B - (c + 1)).toNat = 0 by omega]; rfl) (hFr_refl _ _)
      refine ⟨h', vc_M_next_36 ?_, f⟩
      simp (disch := omega) only [zI_add, zI_sub, zI_mul, zI_neg, zI_lit, zI_0, zI_1, zI_lt, zI_le, zI_eq, zI_clamp, zI_inT, zI_ite, mOb_0, mOb_1, mOb_3, mOb_4, mLd_1, mAr_1, mLen_1, mTrue_t, Int.toNat_zero, Int.toNat_one, true_and, and_true, not_true_eq_false, not_false_eq_true, true_or, or_true, or_self, false_or, or_false, forall_const, false_implies, true_implies, implies_true, e1, e3, zI_div, int_rem, d1, d2, d3, d4]
      have q20 : ¬ (20 : Int) = 0 := by omega
      have q2 : ¬ (2 : Int) = 0 := by omega
      refine ⟨fun z => by omega, fun _ => ⟨q20, q20, q2, fun z => r, fun z => ?_⟩⟩
      simp (disch := omega) only [zI_add, zI_sub, zI_mul, zI_neg, zI_lit, zI_0, zI_1, zI_lt, zI_le, zI_eq, zI_clamp, zI_inT, zI_ite, mOb_0, mOb_1, mOb_3, mOb_4, mLd_1, mAr_1, mLen_1, mTrue_t, Int.toNat_zero, Int.toNat_one, true_and, and_true, not_true_eq_false, not_false_eq_true, true_or, or_true, or_self, false_or, or_false, forall_const, false_implies, true_implies, implies_true, a8]
      refine ⟨fun y => r, fun y => ⟨_, _, s_M_fellAt hM hO hE t0 (by omega), ?_⟩⟩
      simp (disch := omega) only [zI_add, zI_sub, zI_mul, zI_neg, zI_lit, zI_0, zI_1, zI_lt, zI_le, zI_eq, zI_clamp, zI_inT, zI_ite, mOb_0, mOb_1, mOb_3, mOb_4, mLd_1, mAr_1, mLen_1, mTrue_t, Int.toNat_zero, Int.toNat_one, true_and, and_true, not_true_eq_false, not_false_eq_true, true_or, or_true, or_self, false_or, or_false, forall_const, false_implies, true_implies, implies_true]
      refine ⟨fun u => by omega, fun u => r⟩
    · obtain ⟨h1, r1, f1⟩ := s_M_great (d := d) hB hO hM hE t0 t1 (q := c / 2) (w := c % 2) (by omega) (by omega) (by omega) (by omega)
      have hg := aGg_rng hO (E := E) (k := aNow E) (t := t) (q := c / 2) (w := c % 2)
      have hB1 : BM h1 B := BM_of hB (fun k h1 _ => by rw [f1.1 114 (by simp)]) (fun k h1 _ => f1.1 k (by simp; omega))
      have hM1 : EM h1 E := EM_of hM (by rw [f1.1 114 (by simp)]) (f1.1 131 (by simp))
      have hF : aF0 B E (aNow E) t c s = aF0 B E (aNow E) t (c + 1) (if s.1 = -1 ∨ aGg B E (aNow E) t (c / 2) (c % 2) < s.2 then (20 * t + c, aGg B E (aNow E) t (c / 2) (c % 2)) else s) := by
        unfold aF0
        rw [if_neg (fun z => sk (Or.inr z)), if_neg (fun z => sk (Or.inr z)), show (2 * bD B - c).toNat = (2 * bD B - (c + 1)).toNat + 1 by omega]
        rfl
      have key : ∃ h', mRuns (d + 6) 68 117 [some (.ref 114), some (.int (zI x)), some (.int (zI s.1)), some (.int (zI m)), some (.int (zI (20 * t + c))), none, none, none] [.int (zI (c % 2)), .int (zI (c / 2)), .int (zI t), .ref 114] h (.inl (some (.int (zI (if x = 0 then (aCtO B E (aNow E) (bT B - t - 1).toNat (t + 1) (aF0 B E (aNow E) t c s)).1 else (aCtO B E (aNow E) (bT B - t - 1).toNat (t + 1) (aF0 B E (aNow E) t c s)).2))), h')) ∧ hFr [132] h h' := by
        by_cases cc : s.1 = -1 ∨ aGg B E (aNow E) t (c / 2) (c % 2) < s.2
        · rw [if_pos cc] at hF
          obtain ⟨h', r, f⟩ := goOn (20 * t + c, aGg B E (aNow E) t (c / 2) (c % 2)) (aGg B E (aNow E) t (c / 2) (c % 2)) h1 hB1 hM1 (by unfold sOk; simp only; omega) (Or.inr rfl) hg.1 hg.2 hF f1
          refine ⟨h', vc_M_next_117 ⟨_, _, r1, ?_⟩, f⟩
          simp (disch := omega) only [zI_add, zI_sub, zI_mul, zI_neg, zI_lit, zI_0, zI_1, zI_lt, zI_le, zI_eq, zI_clamp, zI_inT, zI_ite, mOb_0, mOb_1, mOb_3, mOb_4, mLd_1, mAr_1, mLen_1, mTrue_t, Int.toNat_zero, Int.toNat_one, true_and, and_true, not_true_eq_false, not_false_eq_true, true_or, or_true, or_self, false_or, or_false, forall_const, false_implies, true_implies, implies_true]
          refine ⟨fun z => r, fun z => ⟨fun y => r, fun y => ?_⟩⟩
          rcases cc with q | q
          · exact absurd q z
          · rcases hm with u | u
            · exact absurd u z
            · omega
        · rw [if_neg cc] at hF
          obtain ⟨h', r, f⟩ := goOn s m h1 hB1 hM1 hs hm m0 m1 hF f1
          refine ⟨h', vc_M_next_117 ⟨_, _, r1, ?_⟩, f⟩
          simp (disch := omega) only [zI_add, zI_sub, zI_mul, zI_neg, zI_lit, zI_0, zI_1, zI_lt, zI_le, zI_eq, zI_clamp, zI_inT, zI_ite, mOb_0, mOb_1, mOb_3, mOb_4, mLd_1, mAr_1, mLen_1, mTrue_t, Int.toNat_zero, Int.toNat_one, true_and, and_true, not_true_eq_false, not_false_eq_true, true_or, or_true, or_self, false_or, or_false, forall_const, false_implies, true_implies, implies_true]
          refine ⟨fun z => absurd (Or.inl z) cc, fun z => ⟨fun y => ?_, fun y => r⟩⟩
          rcases hm with u | u
          · exact absurd u z
          · exact absurd (Or.inr (by omega)) cc
      obtain ⟨h', r, f⟩ := key
      refine ⟨h', vc_M_next_36 ?_, f⟩
      simp (disch := omega) only [zI_add, zI_sub, zI_mul, zI_neg, zI_lit, zI_0, zI_1, zI_lt, zI_le, zI_eq, zI_clamp, zI_inT, zI_ite, mOb_0, mOb_1, mOb_3, mOb_4, mLd_1, mAr_1, mLen_1, mTrue_t, Int.toNat_zero, Int.toNat_one, true_and, and_true, not_true_eq_false, not_false_eq_true, true_or, or_true, or_self, false_or, or_false, forall_const, false_implies, true_implies, implies_true, e1, e3, zI_div, int_rem, d1, d2, d3, d4]
      have q20 : ¬ (20 : Int) = 0 := by omega
      have q2 : ¬ (2 : Int) = 0 := by omega
      refine ⟨fun z => by omega, fun _ => ⟨q20, q20, q2, fun z => absurd (Or.inl z) sk, fun z => ?_⟩⟩
      simp (disch := omega) only [zI_add, zI_sub, zI_mul, zI_neg, zI_lit, zI_0, zI_1, zI_lt, zI_le, zI_eq, zI_clamp, zI_inT, zI_ite, mOb_0, mOb_1, mOb_3, mOb_4, mLd_1, mAr_1, mLen_1, mTrue_t, Int.toNat_zero, Int.toNat_one, true_and, and_true, not_true_eq_false, not_false_eq_true, true_or, or_true, or_self, false_or, or_false, forall_const, false_implies, true_implies, implies_true, a8]
      refine ⟨fun y => absurd (Or.inr (Or.inl y)) sk, fun y => ⟨_, _, s_M_fellAt hM hO hE t0 (by omega), ?_⟩⟩
      simp (disch := omega) only [zI_add, zI_sub, zI_mul, zI_neg, zI_lit, zI_0, zI_1, zI_lt, zI_le, zI_eq, zI_clamp, zI_inT, zI_ite, mOb_0, mOb_1, mOb_3, mOb_4, mLd_1, mAr_1, mLen_1, mTrue_t, Int.toNat_zero, Int.toNat_one, true_and, and_true, not_true_eq_false, not_false_eq_true, true_or, or_true, or_self, false_or, or_false, forall_const, false_implies, true_implies, implies_true]
      refine ⟨fun u => ⟨q2, fun v => ?_, fun v => ?_⟩, fun u => absurd (Or.inr (Or.inr u)) sk⟩
      · rw [show c % 2 = 0 by omega] at r; exact r
      · rw [v] at r; exact r
def rNext (B : tB) (E : tE) (x : Int) : Int × Int := if x = 0 then (0, (aCt B E (aNow E)).1) else if x = 1 then (0, (aCt B E (aNow E)).2) else (1, 0)
theorem s_M_next {d : Nat} {h : mHp} {B : tB} {E : tE} (hB : BM h B) (hO : BOk B) (hM : EM h E) (hE : EOk B E) {x : Int} (x1 : -2147483648 ≤ x) (x2 : x < 2147483648) :
    ∃ h', mRuns (d + 6) 68 0 [some (.ref 114), some (.int (zI x)), none, none, none, none, none, none] [] h (.inl (some (.int (zI (rNext B E x).2)), h')) ∧ h'.1 114 0 = zI (rNext B E x).1 ∧ hFg 114 [132] [0] h h' := by
  have o := hO.1
  have hB' : BM (mPI h 114 0 (zI 0)) B := BM_of hB (fun k h1 _ => hI_off (by omega) _ _ _ _) (fun k h1 _ => hI_ne (by omega) _ _ _)
  have hM' : EM (mPI h 114 0 (zI 0)) E := EM_of hM (hI_off (by omega) _ _ _ _) (hI_ne (by omega) _ _ _)
  have e3 := hB'.2.2.1
  unfold rNext
  by_cases c : x = 0 ∨ x = 1
  · have key : ∃ h', mRuns (d + 6) 68 36 [some (.ref 114), some (.int (zI x)), some (.int (zI (-1))), some (.int (zI 0)), some (.int (zI 0)), none, none, none] [] (mPI h 114 0 (zI 0)) (.inl (some (.int (zI (if x = 0 then (aCt B E (aNow E)).1 else (aCt B E (aNow E)).2))), h')) ∧ hFr [132] (mPI h 114 0 (zI 0)) h' := by
      by_cases ct : 0 < bT B
      · obtain ⟨h', r, f⟩ := s_M_next_loop (d := d) hO hE c (20 * bT B).toNat 0 0 0 (-1, -1) (mPI h 114 0 (zI 0)) (by omega) (by omega) ct (by omega) (by omega) hB' hM' (Or.inl ⟨rfl, rfl⟩) (Or.inl rfl) (by omega) (by omega)
        have e9 : aCtO B E (aNow E) (bT B - 0 - 1).toNat (0 + 1) (aF0 B E (aNow E) 0 0 (-1, -1)) = aCt B E (aNow E) := by
          unfold aCt
          rw [show (bT B).toNat = (bT B - 0 - 1).toNat + 1 by omega]
          unfold aF0
          simp only [Int.sub_zero]
          rfl
        rw [e9] at r
        exact ⟨h', r, f⟩
      · refine ⟨mPI h 114 0 (zI 0), vc_M_next_36 ?_, hFr_refl _ _⟩
        unfold aCt
        rw [show (bT B).toNat = 0 by omega]
        unfold aCtO
        simp (disch := omega) only [zI_add, zI_sub, zI_mul, zI_neg, zI_lit, zI_0, zI_1, zI_lt, zI_le, zI_eq, zI_clamp, zI_inT, zI_ite, mOb_0, mOb_1, mOb_3, mOb_4, mLd_1, mAr_1, mLen_1, mTrue_t, Int.toNat_zero, Int.toNat_one, true_and, and_true, not_true_eq_false, not_false_eq_true, true_or, or_true, or_self, false_or, or_false, forall_const, false_implies, true_implies, implies_true, e3]
        refine ⟨fun _ => ?_, fun z => by omega⟩
        congr 5; split <;> rfl
    obtain ⟨h', r, f⟩ := key
    have k20 : mRuns (d + 6) 68 20 [some (.ref 114), some (.int (zI x)), none, none, none, none, none, none] [.int (zI 1), .ref 114] (mPI h 114 0 (zI 0)) (.inl (some (.int (zI (if x = 0 then (aCt B E (aNow E)).1 else (aCt B E (aNow E)).2))), h')) := by
      refine vc_M_next_20 ?_
      simp (disch := omega) only [zI_add, zI_sub, zI_mul, zI_neg, zI_lit, zI_0, zI_1, zI_lt, zI_le, zI_eq, zI_clamp, zI_inT, zI_ite, mOb_0, mOb_1, mOb_3, mOb_4, mLd_1, mAr_1, mLen_1, mTrue_t, Int.toNat_zero, Int.toNat_one, true_and, and_true, not_true_eq_false, not_false_eq_true, true_or, or_true, or_self, false_or, or_false, forall_const, false_implies, true_implies, implies_true]
      refine ⟨_, _, s_M_right_t (hI_same _ _ _ _) rfl, ?_⟩
      simp (disch := omega) only [zI_add, zI_sub, zI_mul, zI_neg, zI_lit, zI_0, zI_1, zI_lt, zI_le, zI_eq, zI_clamp, zI_inT, zI_ite, mOb_0, mOb_1, mOb_3, mOb_4, mLd_1, mAr_1, mLen_1, mTrue_t, Int.toNat_zero, Int.toNat_one, true_and, and_true, not_true_eq_false, not_false_eq_true, true_or, or_true, or_self, false_or, or_false, forall_const, false_implies, true_implies, implies_true]
      exact ⟨fun _ => r, fun z => by omega⟩
    refine ⟨h', vc_M_next ?_, ?_, ?_⟩
    · simp (disch := omega) only [zI_add, zI_sub, zI_mul, zI_neg, zI_lit, zI_0, zI_1, zI_lt, zI_le, zI_eq, zI_clamp, zI_inT, zI_ite, mOb_0, mOb_1, mOb_3, mOb_4, mLd_1, mAr_1, mLen_1, mTrue_t, Int.toNat_zero, Int.toNat_one, true_and, and_true, not_true_eq_false, not_false_eq_true, true_or, or_true, or_self, false_or, or_false, forall_const, false_implies, true_implies, implies_true]
      rcases c with c | c
      · subst c
        rw [if_pos rfl] at k20 ⊢
        repeat' (first | refine And.intro ?_ ?_ | with_reducible intro _)
        all_goals first | omega | exact k20
      · subst c
        rw [if_neg (by omega)] at k20 ⊢
        rw [if_pos rfl]
        repeat' (first | refine And.intro ?_ ?_ | with_reducible intro _)
        all_goals first | omega | exact k20
    · rw [f.1 114 (by simp), hI_same]
      rcases c with c | c
      · rw [if_pos c]
      · rw [if_neg (by omega), if_pos c]
    · exact hFg_fr (hFg_pf (hFg_refl _ _ _ _) (by simp) _) f (by simp)
  · have k20 : mRuns (d + 6) 68 20 [some (.ref 114), some (.int (zI x)), none, none, none, none, none, none] [.int (zI 0), .ref 114] (mPI h 114 0 (zI 0)) (.inl (some (.int (zI 0)), mPI (mPI h 114 0 (zI 0)) 114 0 (zI 1))) := by
      refine vc_M_next_20 ?_
      simp (disch := omega) only [zI_add, zI_sub, zI_mul, zI_neg, zI_lit, zI_0, zI_1, zI_lt, zI_le, zI_eq, zI_clamp, zI_inT, zI_ite, mOb_0, mOb_1, mOb_3, mOb_4, mLd_1, mAr_1, mLen_1, mTrue_t, Int.toNat_zero, Int.toNat_one, true_and, and_true, not_true_eq_false, not_false_eq_true, true_or, or_true, or_self, false_or, or_false, forall_const, false_implies, true_implies, implies_true]
      refine ⟨_, _, s_M_right_f (hI_same _ _ _ _) (by omega) (by omega), ?_⟩
      simp (disch := omega) only [zI_add, zI_sub, zI_mul, zI_neg, zI_lit, zI_0, zI_1, zI_lt, zI_le, zI_eq, zI_clamp, zI_inT, zI_ite, mOb_0, mOb_1, mOb_3, mOb_4, mLd_1, mAr_1, mLen_1, mTrue_t, Int.toNat_zero, Int.toNat_one, true_and, and_true, not_true_eq_false, not_false_eq_true, true_or, or_true, or_self, false_or, or_false, forall_const, false_implies, true_implies, implies_true]
    refine ⟨mPI (mPI h 114 0 (zI 0)) 114 0 (zI 1), vc_M_next ?_, ?_, ?_⟩
    · rw [if_neg (by omega), if_neg (by omega)]
      simp (disch := omega) only [zI_add, zI_sub, zI_mul, zI_neg, zI_lit, zI_0, zI_1, zI_lt, zI_le, zI_eq, zI_clamp, zI_inT, zI_ite, mOb_0, mOb_1, mOb_3, mOb_4, mLd_1, mAr_1, mLen_1, mTrue_t, Int.toNat_zero, Int.toNat_one, true_and, and_true, not_true_eq_false, not_false_eq_true, true_or, or_true, or_self, false_or, or_false, forall_const, false_implies, true_implies, implies_true]
      repeat' (first | refine And.intro ?_ ?_ | with_reducible intro _)
      all_goals first | omega | exact k20
    · rw [if_neg (by omega), if_neg (by omega)]; exact hI_same _ _ _ _
    · exact hFg_pf (hFg_pf (hFg_refl _ _ _ _) (by simp) _) (by simp) _

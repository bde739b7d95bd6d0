/-! L3, odds: the model's sum over all cases is the class's by dishes -/
def sS (f : Int → Int) : Nat → Int → Int
  | 0, _ => 0
  | j + 1, c => f c + sS f j (c + 1)
theorem sS_s (f : Int → Int) (j : Nat) (c : Int) : sS f (j + 1) c = f c + sS f j (c + 1) := rfl
theorem sS_app (f : Int → Int) : ∀ (a b : Nat) (c : Int), sS f (a + b) c = sS f a c + sS f b (c + a) := by
  intro a
  induction a with
  | zero => intro b c; rw [Nat.zero_add, show c + ((0 : Nat) : Int) = c by omega]; simp [sS]
  | succ a ih =>
    intro b c
    rw [show a + 1 + b = (a + b) + 1 by omega, sS_s, sS_s, ih b (c + 1), show c + 1 + (a : Int) = c + ((a + 1 : Nat) : Int) by omega]; omega
theorem sS_cong {f g : Int → Int} : ∀ (j : Nat) (c : Int), (∀ x, c ≤ x → x < c + j → f x = g x) → sS f j c = sS g j c := by
  intro j
  induction j with
  | zero => intro c _; rfl
  | succ j ih => intro c h; unfold sS; rw [h c (by omega) (by omega), ih (c + 1) (fun x h1 h2 => h x (by omega) (by omega))]
theorem sS_zero : ∀ (j : Nat) (c : Int), sS (fun _ => 0) j c = 0 := by
  intro j
  induction j with
  | zero => intro c; rfl
  | succ j ih => intro c; unfold sS; rw [ih]; rfl
theorem sS_shift (f : Int → Int) (a : Int) : ∀ (j : Nat) (p : Int), sS (fun p => f (a + p)) j p = sS f j (a + p) := by
  intro j
  induction j with
  | zero => intro p; rfl
  | succ j ih => intro p; unfold sS; rw [ih, show a + (p + 1) = a + p + 1 by omega]
theorem sS_blocks (f : Int → Int) (np : Nat) : ∀ (n : Nat), sS f (n * np) 1 = sS (fun q => sS f np (1 + q * np)) n 0 := by
  intro n
  induction n with
  | zero => rw [Nat.zero_mul]; rfl
  | succ n ih =>
    rw [Nat.add_mul, Nat.one_mul, sS_app, ih, show n + 1 = n + 1 from rfl, sS_app (fun q => sS f np (1 + q * np)) n 1 0]
    simp only [sS, Int.add_zero]
    rw [show (1 : Int) + ((n * np : Nat) : Int) = 1 + (0 + (n : Int)) * np by rw [Int.natCast_mul, Int.zero_add]]
theorem sS_single (a q : Int) : ∀ (n : Nat) (c : Int), c ≤ q → q < c + n → sS (fun x => if x = q then a else 0) n c = a := by
  intro n
  induction n with
  | zero => intro c h1 h2; omega
  | succ n ih =>
    intro c h1 h2
    unfold sS
    by_cases e : c = q
    · rw [if_pos e, sS_cong (g := fun _ => 0) n (c + 1) (fun x h3 h4 => if_neg (by omega)), sS_zero]; omega
    · rw [if_neg e, ih (c + 1) (by omega) (by omega)]; omega
def aWt (B : tB) (c : Int) : Int := if c = 0 then bC B else bF B 2 ((c - 1) / bP B) * bF B 6 ((c - 1) % bP B)
def aIts (B : tB) (c : Int) : Int := if c = 0 then -1 else (c - 1) / bP B
def aOd (B : tB) (E : tE) (k : Int) (c : Int) : Int := aFit 100000 B E k c c * aWt B c
theorem aWt_rng {B : tB} (hO : BOk B) {c : Int} (hc : 0 ≤ c) (hc' : c < 1 + bD B * bP B) : 0 ≤ aWt B c ∧ aWt B c ≤ 9999 := by
  have o := hO.1
  unfold aWt; split
  · omega
  · obtain ⟨k1, k2, k3, k4, k5, k6⟩ := case_split (c := c) (nd := bD B) (np := bP B) (by omega) hc' (by omega) (by omega)
    have o2 := hO.2.1 _ k2 k3
    have o3 := hO.2.2.1 _ k4 k5
    have := fww (f := 1) (Or.inr rfl) o2.2.2.2.1 o2.2.2.2.2 o3.2.2.2.2.2.2.1 o3.2.2.2.2.2.2.2
    rw [Int.one_mul] at this; omega
theorem s_M_weight {d : Nat} {h : mHp} {B : tB} (hB : BM h B) (hO : BOk B) {c : Int} (hc : 0 ≤ c) (hc' : c < 1 + bD B * bP B) :
    mRuns (d + 1) 65 0 [some (.ref 114), some (.int (zI c))] [] h (.inl (some (.int (zI (aWt B c))), h)) := by
  have o := hO.1
  have hr := case_rng (nd := bD B) (np := bP B) (by omega) (by omega) (by omega) (by omega)
  obtain ⟨e1, e2, e3, e4, a1, a2, a3, a4, a5, a6, a7, a8, a9, a10⟩ := hB
  refine vc_M_weight ?_
  unfold aWt
  by_cases z : c = 0
  · simp (disch := omega) only [zI_add, zI_sub, zI_mul, zI_neg, zI_lit, zI_0, zI_1, zI_lt, zI_le, zI_eq, zI_clamp, zI_inT, zI_ite, mOb_0, mOb_1, mOb_3, mOb_4, mLd_1, mAr_1, mLen_1, mTrue_t, Int.toNat_zero, Int.toNat_one, true_and, and_true, not_true_eq_false, not_false_eq_true, true_or, or_true, or_self, false_or, or_false, forall_const, false_implies, true_implies, implies_true, e4, z]
    simp only [↓reduceIte]
  · obtain ⟨k1, k2, k3, k4, k5, k6⟩ := case_split (c := c) (nd := bD B) (np := bP B) (by omega) hc' (by omega) (by omega)
    rw [if_neg z]
    simp (disch := omega) only [zI_add, zI_sub, zI_mul, zI_neg, zI_lit, zI_0, zI_1, zI_lt, zI_le, zI_eq, zI_clamp, zI_inT, zI_ite, mOb_0, mOb_1, mOb_3, mOb_4, mLd_1, mAr_1, mLen_1, mTrue_t, Int.toNat_zero, Int.toNat_one, true_and, and_true, not_true_eq_false, not_false_eq_true, true_or, or_true, or_self, false_or, or_false, forall_const, false_implies, true_implies, implies_true, e2, zI_div, int_rem, a3, a7]
    exact ⟨fun _ => by omega, fun y => absurd y z⟩
theorem s_M_odds_loop {d : Nat} {h : mHp} {B : tB} {E : tE} (hB : BM h B) (hO : BOk B) (hM : EM h E) (hE : EOk B E) {q x : Int} (hq : -1 ≤ q) (hq' : q < bD B) (hx : x = 0 ∨ x = 1) : ∀ (j : Nat) (c u w : Int), c + j = 1 + bD B * bP B → 0 ≤ c → 0 ≤ u → u ≤ 9999 * c → 0 ≤ w → w ≤ 9999 * c →
    mRuns (d + 5) 64 50 [some (.ref 114), some (.int (zI q)), some (.int (zI x)), some (.long (zL u)), none, some (.long (zL w)), none, some (.int (zI c)), none] [] h (.inl (some (.int (zI (aPart (u + sS (fun c => if aIts B c = q then aOd B E (aNow E) c else 0) j c).toNat (w + sS (aOd B E (aNow E)) j c).toNat x))), h)) := by
  have o := hO.1
  have hr := case_rng (nd := bD B) (np := bP B) (by omega) (by omega) (by omega) (by omega)
  have hw := aNow_rng hE
  have e2 := hB.2.1
  intro j
  induction j with
  | zero =>
    intro c u w hc c0 u0 u1 w0 w1
    have r := s_M_part (d := d + 3) (h := h) (u := u.toNat) (w := w.toNat) (x := x) (by omega) (by omega) hx
    have hp := aPart_rng (u := u.toNat) (w := w.toNat) (x := x) (by omega) (by omega) hx
    rw [show ((u.toNat : Nat) : Int) = u by omega, show ((w.toNat : Nat) : Int) = w by omega] at r
    refine vc_M_odds_50 ⟨_, _, s_M_allCases hB, ?_⟩
    simp (disch := omega) only [zI_add, zI_sub, zI_mul, zI_neg, zI_lit, zI_0, zI_1, zI_lt, zI_le, zI_eq, zI_clamp, zI_inT, zI_ite, mOb_0, mOb_1, mOb_3, mOb_4, mLd_1, mAr_1, mLen_1, mTrue_t, Int.toNat_zero, Int.toNat_one, true_and, and_true, not_true_eq_false, not_false_eq_true, true_or, or_true, or_self, false_or, or_false, forall_const, false_implies, true_implies, implies_true]
    refine ⟨fun _ => ⟨_, _, r, ?_⟩, fun z => by omega⟩
    unfold sS
    rw [zL_toI (by omega) (by omega), Int.add_zero, Int.add_zero]
  | succ j ih =>
    intro c u w hc c0 u0 u1 w0 w1
    have hf := aFit_01 100000 B E (aNow E) c c
    have ht := aWt_rng hO c0 (by omega)
    refine vc_M_odds_50 ⟨_, _, s_M_allCases hB, ?_⟩
    simp (disch := omega) only [zI_add, zI_sub, zI_mul, zI_neg, zI_lit, zI_0, zI_1, zI_lt, zI_le, zI_eq, zI_clamp, zI_inT, zI_ite, mOb_0, mOb_1, mOb_3, mOb_4, mLd_1, mAr_1, mLen_1, mTrue_t, Int.toNat_zero, Int.toNat_one, true_and, and_true, not_true_eq_false, not_false_eq_true, true_or, or_true, or_self, false_or, or_false, forall_const, false_implies, true_implies, implies_true]
    refine ⟨fun z => by omega, fun _ => ⟨_, _, s_M_now hM hE, _, _, s_M_fits hB hO hM hE c0 (by omega) c0 (by omega) hw.1 (by omega), ?_⟩⟩
    simp (disch := omega) only [zI_add, zI_sub, zI_mul, zI_neg, zI_lit, zI_0, zI_1, zI_lt, zI_le, zI_eq, zI_clamp, zI_inT, zI_ite, mOb_0, mOb_1, mOb_3, mOb_4, mLd_1, mAr_1, mLen_1, mTrue_t, Int.toNat_zero, Int.toNat_one, true_and, and_true, not_true_eq_false, not_false_eq_true, true_or, or_true, or_self, false_or, or_false, forall_const, false_implies, true_implies, implies_true]
    refine ⟨fun z => ⟨_, _, s_M_weight hB hO c0 (by omega), ?_⟩, fun z => ?_⟩
    · have hod : aOd B E (aNow E) c = aWt B c := by unfold aOd; rw [show aFit 100000 B E (aNow E) c c = 1 by omega, Int.one_mul]
      have key : mRuns (d + 5) 64 107 [some (.ref 114), some (.int (zI q)), some (.int (zI x)), some (.long (zL u)), none, some (.long (zL (w + aWt B c))), none, some (.int (zI c)), none] [.int (zI (aIts B c))] h (.inl (some (.int (zI (aPart (u + sS (fun c => if aIts B c = q then aOd B E (aNow E) c else 0) (j + 1) c).toNat (w + sS (aOd B E (aNow E)) (j + 1) c).toNat x))), h)) := by
        have hi : -1 ≤ aIts B c ∧ aIts B c < 10 := by
          unfold aIts; split
          · omega
          · obtain ⟨k1, k2, k3, k4, k5, k6⟩ := case_split (c := c) (nd := bD B) (np := bP B) (by omega) (by omega) (by omega) (by omega)
            omega
        refine vc_M_odds_107 ?_
        unfold sS
        rw [hod]
        simp (disch := omega) only [zI_add, zI_sub, zI_mul, zI_neg, zI_lit, zI_0, zI_1, zI_lt, zI_le, zI_eq, zI_clamp, zI_inT, zI_ite, mOb_0, mOb_1, mOb_3, mOb_4, mLd_1, mAr_1, mLen_1, mTrue_t, Int.toNat_zero, Int.toNat_one, true_and, and_true, not_true_eq_false, not_false_eq_true, true_or, or_true, or_self, false_or, or_false, forall_const, false_implies, true_implies, implies_true]
        refine ⟨fun y => ?_, fun y => ⟨_, _, s_M_weight hB hO c0 (by omega), ?_⟩⟩
        · have r := ih (c + 1) u (w + aWt B c) (by omega) (by omega) (by omega) (by omega) (by omega) (by omega)
          rw [if_neg y, zL_lit, zL_add]
          rw [show u + (0 + sS (fun c => if aIts B c = q then aOd B E (aNow E) c else 0) j (c + 1)) = u + sS (fun c => if aIts B c = q then aOd B E (aNow E) c else 0) j (c + 1) by omega, show w + (aWt B c + sS (aOd B E (aNow E)) j (c + 1)) = w + aWt B c + sS (aOd B E (aNow E)) j (c + 1) by omega, Int.add_zero]
          exact r
        · have r := ih (c + 1) (u + aWt B c) (w + aWt B c) (by omega) (by omega) (by omega) (by omega) (by omega) (by omega)
          rw [if_pos y, zI_toL (by omega) (by omega), zL_add]
          rw [show u + (aWt B c + sS (fun c => if aIts B c = q then aOd B E (aNow E) c else 0) j (c + 1)) = u + aWt B c + sS (fun c => if aIts B c = q then aOd B E (aNow E) c else 0) j (c + 1) by omega, show w + (aWt B c + sS (aOd B E (aNow E)) j (c + 1)) = w + aWt B c + sS (aOd B E (aNow E)) j (c + 1) by omega]
          exact r
      rw [zI_toL (by omega) (by omega), zL_add]
      refine ⟨fun y => ?_, fun y => ?_⟩
      · obtain ⟨k1, k2, k3, k4, k5, k6⟩ := case_split (c := c) (nd := bD B) (np := bP B) (by omega) (by omega) (by omega) (by omega)
        simp (disch := omega) only [zI_add, zI_sub, zI_mul, zI_neg, zI_lit, zI_0, zI_1, zI_lt, zI_le, zI_eq, zI_clamp, zI_inT, zI_ite, mOb_0, mOb_1, mOb_3, mOb_4, mLd_1, mAr_1, mLen_1, mTrue_t, Int.toNat_zero, Int.toNat_one, true_and, and_true, not_true_eq_false, not_false_eq_true, true_or, or_true, or_self, false_or, or_false, forall_const, false_implies, true_implies, implies_true, e2, zI_div]
        refine ⟨by omega, ?_⟩
        unfold aIts at key; rw [if_neg y] at key; exact key
      · have e9 : aIts B c = -1 := by unfold aIts; rw [if_pos y]
        rw [e9] at key; exact key
    · have hod : aOd B E (aNow E) c = 0 := by unfold aOd; rw [z, Int.zero_mul]
      have r := ih (c + 1) u w (by omega) (by omega) (by omega) (by omega) (by omega) (by omega)
      unfold sS
      rw [hod, show (if aIts B c = q then (0 : Int) else 0) = 0 by split <;> rfl, Int.zero_add, Int.zero_add]
      exact r
/-! the class's sums are the same -/
theorem aWqR_sS (B : tB) (E : tE) (k q : Int) : ∀ (j : Nat) (p v : Int), aWqR B E k q j p v = v + sS (fun p => aFit 100000 B E k (1 + q * bP B + p) (1 + q * bP B + p) * bF B 2 q * bF B 6 p) j p := by
  intro j
  induction j with
  | zero => intro p v; simp [aWqR, sS]
  | succ j ih => intro p v; unfold aWqR sS; rw [ih]; omega
theorem aWaR_sS (B : tB) (E : tE) (k : Int) : ∀ (j : Nat) (q v : Int), aWaR B E k j q v = v + sS (aWq B E k) j q := by
  intro j
  induction j with
  | zero => intro p v; simp [aWaR, sS]
  | succ j ih => intro p v; unfold aWaR sS; rw [ih]; omega
theorem aWq_blk {B : tB} (hO : BOk B) (E : tE) (k : Int) {q : Int} (hq : 0 ≤ q) (hq' : q < bD B) : aWq B E k q = sS (aOd B E k) (bP B).toNat (1 + q * bP B) := by
  have o := hO.1
  unfold aWq
  rw [if_neg (by omega), aWqR_sS, Int.zero_add]
  have h1 : sS (fun p => aFit 100000 B E k (1 + q * bP B + p) (1 + q * bP B + p) * bF B 2 q * bF B 6 p) (bP B).toNat 0 = sS (fun p => aOd B E k (1 + q * bP B + p)) (bP B).toNat 0 := by
    refine sS_cong _ _ (fun p h1 h2 => ?_)
    obtain ⟨c1, c2, c3, c4⟩ := case_join (nd := bD B) (np := bP B) (q := q) (p := p) (by omega) (by omega) h1 (by omega) (by omega)
    unfold aOd aWt
    rw [if_neg (by omega), c3, c4, Int.mul_assoc]
  rw [h1, sS_shift, Int.add_zero]
theorem aWa_all {B : tB} (hO : BOk B) (E : tE) (k : Int) : aWa B E k = sS (aOd B E k) (1 + bD B * bP B).toNat 0 := by
  have o := hO.1
  have hr := case_rng (nd := bD B) (np := bP B) (by omega) (by omega) (by omega) (by omega)
  unfold aWa
  rw [aWaR_sS]
  have hm : (1 + bD B * bP B).toNat = 1 + (bD B).toNat * (bP B).toNat := by
    have : (((bD B).toNat * (bP B).toNat : Nat) : Int) = bD B * bP B := by
      rw [Int.natCast_mul, show (((bD B).toNat : Nat) : Int) = bD B by omega, show (((bP B).toNat : Nat) : Int) = bP B by omega]
    omega
  rw [hm, sS_app]
  have h1 : aWq B E k (-1) = sS (aOd B E k) 1 0 := by
    simp only [sS, Int.add_zero]; unfold aWq aOd aWt; rw [if_pos rfl, if_pos rfl]
  have h2 : sS (aWq B E k) (bD B).toNat 0 = sS (aOd B E k) ((bD B).toNat * (bP B).toNat) (0 + ((1 : Nat) : Int)) := by
    rw [show (0 : Int) + ((1 : Nat) : Int) = 1 from rfl, sS_blocks]
    refine sS_cong _ _ (fun q h1 h2 => ?_)
    rw [aWq_blk hO E k h1 (by omega), show (((bP B).toNat : Nat) : Int) = bP B by omega]
  rw [h1, h2]
theorem aWq_up {B : tB} (hO : BOk B) (E : tE) (k : Int) {q : Int} (hq : -1 ≤ q) (hq' : q < bD B) : aWq B E k q = sS (fun c => if aIts B c = q then aOd B E k c else 0) (1 + bD B * bP B).toNat 0 := by
  have o := hO.1
  have hr := case_rng (nd := bD B) (np := bP B) (by omega) (by omega) (by omega) (by omega)
  have hm : (1 + bD B * bP B).toNat = 1 + (bD B).toNat * (bP B).toNat := by
    have : (((bD B).toNat * (bP B).toNat : Nat) : Int) = bD B * bP B := by
      rw [Int.natCast_mul, show (((bD B).toNat : Nat) : Int) = bD B by omega, show (((bP B).toNat : Nat) : Int) = bP B by omega]
    omega
  rw [hm, sS_app, show (0 : Int) + ((1 : Nat) : Int) = 1 from rfl]
  have h0 : sS (fun c => if aIts B c = q then aOd B E k c else 0) 1 0 = if q = -1 then aOd B E k 0 else 0 := by
    simp only [sS, Int.add_zero]
    unfold aIts; rw [if_pos rfl]
    by_cases e : q = -1
    · rw [if_pos e, if_pos e.symm]
    · rw [if_neg e, if_neg (fun z => e z.symm)]
  rw [h0, sS_blocks]
  have h1 : sS (fun x => sS (fun c => if aIts B c = q then aOd B E k c else 0) (bP B).toNat (1 + x * ((bP B).toNat : Nat))) (bD B).toNat 0 = sS (fun x => if x = q then aWq B E k q else 0) (bD B).toNat 0 := by
    refine sS_cong _ _ (fun x h1 h2 => ?_)
    rw [show (((bP B).toNat : Nat) : Int) = bP B by omega]
    have h3 : ∀ c, 1 + x * bP B ≤ c → c < 1 + x * bP B + ((bP B).toNat : Nat) → aIts B c = x := by
      intro c z1 z2
      obtain ⟨c1, c2, c3, c4⟩ := case_join (nd := bD B) (np := bP B) (q := x) (p := c - (1 + x * bP B)) (by omega) (by omega) (by omega) (by omega) (by omega)
      rw [show 1 + x * bP B + (c - (1 + x * bP B)) = c by omega] at c1 c3
      unfold aIts; rw [if_neg (by omega)]; exact c3
    by_cases e : x = q
    · rw [if_pos e, ← e, aWq_blk hO E k h1 (by omega)]
      exact sS_cong _ _ (fun c z1 z2 => if_pos (h3 c z1 z2))
    · rw [if_neg e, sS_cong (g := fun _ => 0) _ _ (fun c z1 z2 => if_neg (by rw [h3 c z1 z2]; exact e)), sS_zero]
  rw [h1]
  by_cases e : q = -1
  · rw [if_pos e, sS_cong (g := fun _ => 0) _ _ (fun c z1 z2 => if_neg (by omega)), sS_zero, Int.add_zero]
    unfold aWq aOd aWt; rw [if_pos e, if_pos rfl]
  · rw [if_neg e, Int.zero_add, sS_single _ _ _ _ (by omega) (by omega)]
/-- what odds answers -/
def rOdds (B : tB) (E : tE) (q x : Int) : Int × Int := if (q = -1 ∨ (0 ≤ q ∧ q < bD B)) ∧ (x = 0 ∨ x = 1) then (0, aPart (aWq B E (aNow E) q).toNat (aWa B E (aNow E)).toNat x) else (1, 0)
theorem s_M_odds {d : Nat} {h : mHp} {B : tB} {E : tE} (hB : BM h B) (hO : BOk B) (hM : EM h E) (hE : EOk B E) {q x : Int} (q1 : -2147483648 ≤ q) (q2 : q < 2147483648) (x1 : -2147483648 ≤ x) (x2 : x < 2147483648) :
    mRuns (d + 5) 64 0 [some (.ref 114), some (.int (zI q)), some (.int (zI x)), none, none, none, none, none, none] [] h (.inl (some (.int (zI (rOdds B E q x).2)), mPI h 114 0 (zI (rOdds B E q x).1))) := by
  have o := hO.1
  have hr := case_rng (nd := bD B) (np := bP B) (by omega) (by omega) (by omega) (by omega)
  have hB' : BM (mPI h 114 0 (zI 0)) B := BM_of hB (fun k h1 _ => hI_off (by omega) _ _ _ _) (fun k h1 _ => hI_ne (by omega) _ _ _)
  have hM' : EM (mPI h 114 0 (zI 0)) E := EM_of hM (hI_off (by omega) _ _ _ _) (hI_ne (by omega) _ _ _)
  have hh : ∀ v, mPI (mPI h 114 0 (zI 0)) 114 0 v = mPI h 114 0 v := by
    intro v; unfold mPI; simp only [Prod.mk.injEq, and_true]; funext x y; split <;> rfl
  have k33 : ∀ s, (s = 1 ∧ (q = -1 ∨ (0 ≤ q ∧ q < bD B)) ∧ (x = 0 ∨ x = 1)) ∨ (s = 0 ∧ ¬ (x = 0 ∨ x = 1)) → mRuns (d + 5) 64 33 [some (.ref 114), some (.int (zI q)), some (.int (zI x)), none, none, none, none, none, none] [.int (zI s), .ref 114] (mPI h 114 0 (zI 0)) (.inl (some (.int (zI (rOdds B E q x).2)), mPI h 114 0 (zI (rOdds B E q x).1))) := by
    intro s hs
    refine vc_M_odds_33 ?_
    rcases hs with ⟨rfl, h1, h2⟩ | ⟨rfl, h1⟩
    · simp (disch := omega) only [zI_add, zI_sub, zI_mul, zI_neg, zI_lit, zI_0, zI_1, zI_lt, zI_le, zI_eq, zI_clamp, zI_inT, zI_ite, mOb_0, mOb_1, mOb_3, mOb_4, mLd_1, mAr_1, mLen_1, mTrue_t, Int.toNat_zero, Int.toNat_one, true_and, and_true, not_true_eq_false, not_false_eq_true, true_or, or_true, or_self, false_or, or_false, forall_const, false_implies, true_implies, implies_true]
      refine ⟨_, _, s_M_right_t (hI_same _ _ _ _) rfl, ?_⟩
      simp (disch := omega) only [zI_add, zI_sub, zI_mul, zI_neg, zI_lit, zI_0, zI_1, zI_lt, zI_le, zI_eq, zI_clamp, zI_inT, zI_ite, mOb_0, mOb_1, mOb_3, mOb_4, mLd_1, mAr_1, mLen_1, mTrue_t, Int.toNat_zero, Int.toNat_one, true_and, and_true, not_true_eq_false, not_false_eq_true, true_or, or_true, or_self, false_or, or_false, forall_const, false_implies, true_implies, implies_true, zL_lit]
      refine ⟨fun _ => ?_, fun z => by omega⟩
      unfold rOdds
      rw [if_pos ⟨h1, h2⟩, aWq_up hO E _ (by omega) (by omega), aWa_all hO]
      have := s_M_odds_loop (d := d) hB' hO hM' hE (q := q) (x := x) (by omega) (by omega) h2 (1 + bD B * bP B).toNat 0 0 0 (by omega) (by omega) (by omega) (by omega) (by omega) (by omega)
      rw [Int.zero_add, Int.zero_add] at this
      exact this
    · simp (disch := omega) only [zI_add, zI_sub, zI_mul, zI_neg, zI_lit, zI_0, zI_1, zI_lt, zI_le, zI_eq, zI_clamp, zI_inT, zI_ite, mOb_0, mOb_1, mOb_3, mOb_4, mLd_1, mAr_1, mLen_1, mTrue_t, Int.toNat_zero, Int.toNat_one, true_and, and_true, not_true_eq_false, not_false_eq_true, true_or, or_true, or_self, false_or, or_false, forall_const, false_implies, true_implies, implies_true]
      refine ⟨_, _, s_M_right_f (hI_same _ _ _ _) (by omega) (by omega), ?_⟩
      simp (disch := omega) only [zI_add, zI_sub, zI_mul, zI_neg, zI_lit, zI_0, zI_1, zI_lt, zI_le, zI_eq, zI_clamp, zI_inT, zI_ite, mOb_0, mOb_1, mOb_3, mOb_4, mLd_1, mAr_1, mLen_1, mTrue_t, Int.toNat_zero, Int.toNat_one, true_and, and_true, not_true_eq_false, not_false_eq_true, true_or, or_true, or_self, false_or, or_false, forall_const, false_implies, true_implies, implies_true]
      unfold rOdds
      rw [if_neg (fun z => h1 z.2), hh]
  have k18 : (q = -1 ∨ (0 ≤ q ∧ q < bD B)) → mRuns (d + 5) 64 18 [some (.ref 114), some (.int (zI q)), some (.int (zI x)), none, none, none, none, none, none] [] (mPI h 114 0 (zI 0)) (.inl (some (.int (zI (rOdds B E q x).2)), mPI h 114 0 (zI (rOdds B E q x).1))) := by
    intro hq
    refine vc_M_odds_18 ?_
    simp (disch := omega) only [zI_add, zI_sub, zI_mul, zI_neg, zI_lit, zI_0, zI_1, zI_lt, zI_le, zI_eq, zI_clamp, zI_inT, zI_ite, mOb_0, mOb_1, mOb_3, mOb_4, mLd_1, mAr_1, mLen_1, mTrue_t, Int.toNat_zero, Int.toNat_one, true_and, and_true, not_true_eq_false, not_false_eq_true, true_or, or_true, or_self, false_or, or_false, forall_const, false_implies, true_implies, implies_true]
    exact ⟨fun z => k33 1 (Or.inl ⟨rfl, hq, Or.inl z⟩), fun z => ⟨fun y => k33 0 (Or.inr ⟨rfl, by omega⟩), fun y => k33 1 (Or.inl ⟨rfl, hq, Or.inr y⟩)⟩⟩
  refine vc_M_odds ?_
  simp (disch := omega) only [zI_add, zI_sub, zI_mul, zI_neg, zI_lit, zI_0, zI_1, zI_lt, zI_le, zI_eq, zI_clamp, zI_inT, zI_ite, mOb_0, mOb_1, mOb_3, mOb_4, mLd_1, mAr_1, mLen_1, mTrue_t, Int.toNat_zero, Int.toNat_one, true_and, and_true, not_true_eq_false, not_false_eq_true, true_or, or_true, or_self, false_or, or_false, forall_const, false_implies, true_implies, implies_true]
  refine ⟨fun z => k18 (Or.inl z), fun z => ?_⟩
  have hd := s_M_isDish (d := d + 2) hB' hO (hI_same _ _ _ _) q1 q2
  by_cases c : 0 ≤ q ∧ q < bD B
  · rw [if_pos c] at hd
    refine ⟨_, _, hd, ?_⟩
    simp (disch := omega) only [zI_add, zI_sub, zI_mul, zI_neg, zI_lit, zI_0, zI_1, zI_lt, zI_le, zI_eq, zI_clamp, zI_inT, zI_ite, mOb_0, mOb_1, mOb_3, mOb_4, mLd_1, mAr_1, mLen_1, mTrue_t, Int.toNat_zero, Int.toNat_one, true_and, and_true, not_true_eq_false, not_false_eq_true, true_or, or_true, or_self, false_or, or_false, forall_const, false_implies, true_implies, implies_true]
    exact ⟨fun z => by omega, fun _ => k18 (Or.inr c)⟩
  · rw [if_neg c] at hd
    refine ⟨_, _, hd, ?_⟩
    simp (disch := omega) only [zI_add, zI_sub, zI_mul, zI_neg, zI_lit, zI_0, zI_1, zI_lt, zI_le, zI_eq, zI_clamp, zI_inT, zI_ite, mOb_0, mOb_1, mOb_3, mOb_4, mLd_1, mAr_1, mLen_1, mTrue_t, Int.toNat_zero, Int.toNat_one, true_and, and_true, not_true_eq_false, not_false_eq_true, true_or, or_true, or_self, false_or, or_false, forall_const, false_implies, true_implies, implies_true]
    unfold rOdds
    rw [if_neg (fun y => y.1.elim z c), hh]

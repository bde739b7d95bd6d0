/-! L3, the cook's trial: ways to choose, on both sides -/
def aBin : Nat → Nat → Nat
  | _, 0 => 1
  | 0, _ + 1 => 0
  | n + 1, k + 1 => aBin n k + aBin n (k + 1)
theorem aBin_0 (n : Nat) : aBin n 0 = 1 := by cases n <;> rfl
theorem aBin_s (n k : Nat) : aBin (n + 1) (k + 1) = aBin n k + aBin n (k + 1) := rfl
theorem binId : ∀ n k, (k + 1) * aBin (n + 1) (k + 1) = (n + 1) * aBin n k := by
  intro n
  induction n with
  | zero =>
    intro k
    cases k with
    | zero => rfl
    | succ k => simp [aBin]
  | succ n ih =>
    intro k
    cases k with
    | zero =>
      have := ih 0
      rw [aBin_s (n + 1) 0, aBin_0]
      rw [aBin_0] at this
      omega
    | succ k =>
      have h1 := ih (k + 1)
      have h2 := ih k
      have h3 := aBin_s n k
      rw [aBin_s (n + 1) (k + 1)]
      generalize aBin (n + 1) (k + 1) = z at h2 h3 ⊢
      generalize aBin (n + 1) (k + 1 + 1) = w at h1 ⊢
      generalize aBin n k = x at h2 h3
      generalize aBin n (k + 1) = y at h1 h3
      subst h3
      have e1 : (k + 1 + 1) * (x + y + w) = (k + 1) * (x + y) + (x + y) + (k + 1 + 1) * w := by rw [Nat.mul_add, Nat.add_mul (k + 1) 1 (x + y), Nat.one_mul]
      have e2 : (n + 1 + 1) * (x + y) = (n + 1) * x + (n + 1) * y + (x + y) := by rw [Nat.add_mul (n + 1) 1 (x + y), Nat.mul_add, Nat.one_mul]
      omega
theorem aBin_le : ∀ n k, aBin n k ≤ 2 ^ n := by
  intro n
  induction n with
  | zero => intro k; cases k <;> simp [aBin]
  | succ n ih =>
    intro k
    cases k with
    | zero => rw [aBin_0]; exact Nat.one_le_two_pow
    | succ k =>
      rw [aBin_s, Nat.pow_succ]
      have := ih k; have := ih (k + 1); omega
theorem aBin_lt (n k : Nat) (hn : n ≤ 30) : aBin n k ≤ 1073741824 := Nat.le_trans (aBin_le n k) (Nat.pow_le_pow_right (show 2 > 0 by omega) hn : 2 ^ n ≤ 2 ^ 30)
def aChs (n k : Int) : Int := if k < 0 ∨ n < k then 0 else (aBin n.toNat k.toNat : Nat)
theorem aChs_rng {n k : Int} (hn : n ≤ 30) : 0 ≤ aChs n k ∧ aChs n k ≤ 1073741824 := by
  unfold aChs; split
  · omega
  · have := aBin_lt n.toNat k.toNat (by omega); omega
theorem s_T_choose_loop {d : Nat} {h : mHp} {n k : Int} (hn : n ≤ 30) (hk : 0 ≤ k) (hk' : k ≤ n) : ∀ (j s : Nat), (s : Int) + j = k →
    mRuns (d + 1) 183 16 [some (.int (zI n)), some (.int (zI k)), some (.long (zL (aBin ((n - k).toNat + s) s : Nat))), none, some (.int (zI (s + 1)))] [] h (.inl (some (.long (zL (aBin n.toNat k.toNat : Nat))), h)) := by
  intro j
  induction j with
  | zero =>
    intro s hs
    refine vc_T_choose_16 ?_
    simp (disch := omega) only [zI_add, zI_sub, zI_mul, zI_neg, zI_lit, zI_0, zI_1, zI_lt, zI_le, zI_eq, zI_clamp, zI_inT, zI_ite, mOb_0, mOb_1, mOb_3, mOb_4, mLd_1, mAr_1, mLen_1, mTrue_t, Int.toNat_zero, Int.toNat_one, true_and, and_true, not_true_eq_false, not_false_eq_true, true_or, or_true, or_self, false_or, or_false, forall_const, false_implies, true_implies, implies_true]
    refine ⟨fun _ => ?_, fun z => by omega⟩
    rw [show (n - k).toNat + s = n.toNat by omega, show s = k.toNat by omega]
  | succ j ih =>
    intro s hs
    have hi := ih (s + 1) (by omega)
    have hb := binId ((n - k).toNat + s) s
    have b1 := aBin_lt ((n - k).toNat + s) s (by omega)
    refine vc_T_choose_16 ?_
    simp (disch := omega) only [zI_add, zI_sub, zI_mul, zI_neg, zI_lit, zI_0, zI_1, zI_lt, zI_le, zI_eq, zI_clamp, zI_inT, zI_ite, mOb_0, mOb_1, mOb_3, mOb_4, mLd_1, mAr_1, mLen_1, mTrue_t, Int.toNat_zero, Int.toNat_one, true_and, and_true, not_true_eq_false, not_false_eq_true, true_or, or_true, or_self, false_or, or_false, forall_const, false_implies, true_implies, implies_true, zI_toL, zL_0, zL_eq, zL_mul]
    refine ⟨fun z => by omega, fun _ => ⟨by omega, ?_⟩⟩
    have e1 : (aBin ((n - k).toNat + s) s : Int) * (n - k + (s + 1)) = ((aBin ((n - k).toNat + s) s * ((n - k).toNat + s + 1) : Nat) : Int) := by
      rw [Int.natCast_mul]; congr 1; omega
    have b2 : aBin ((n - k).toNat + s) s * ((n - k).toNat + s + 1) ≤ 1073741824 * 31 := Nat.mul_le_mul b1 (by omega)
    have e2 : (aBin ((n - k).toNat + s) s * ((n - k).toNat + s + 1)) / (s + 1) = aBin ((n - k).toNat + s + 1) (s + 1) := by
      rw [Nat.mul_comm (aBin _ _), ← hb]; exact Nat.mul_div_cancel_left _ (by omega)
    rw [e1]
    generalize hq : aBin ((n - k).toNat + s) s * ((n - k).toNat + s + 1) = q at b2 e2 ⊢
    rw [zL_div (by omega) (by omega) (by omega) (by omega), show (q : Int) / ((s : Int) + 1) = ((q / (s + 1) : Nat) : Int) from rfl, e2]
    rw [show (s : Int) + 1 + 1 = ((s + 1 : Nat) : Int) + 1 by omega]
    exact hi
theorem s_T_choose {d : Nat} {h : mHp} {n k : Int} (hn0 : 0 ≤ n) (hn : n ≤ 30) (hk0 : -100 ≤ k) (hk1 : k ≤ 100) :
    mRuns (d + 1) 183 0 [some (.int (zI n)), some (.int (zI k)), none, none, none] [] h (.inl (some (.long (zL (aChs n k))), h)) := by
  refine vc_T_choose ?_
  unfold aChs
  simp (disch := omega) only [zI_add, zI_sub, zI_mul, zI_neg, zI_lit, zI_0, zI_1, zI_lt, zI_le, zI_eq, zI_clamp, zI_inT, zI_ite, mOb_0, mOb_1, mOb_3, mOb_4, mLd_1, mAr_1, mLen_1, mTrue_t, Int.toNat_zero, Int.toNat_one, true_and, and_true, not_true_eq_false, not_false_eq_true, true_or, or_true, or_self, false_or, or_false, forall_const, false_implies, true_implies, implies_true, zL_lit]
  refine ⟨fun z => ?_, fun z => ⟨fun y => ?_, fun y => ?_⟩⟩
  · rw [if_pos (Or.inl z)]
  · rw [if_neg (by omega)]
    have := s_T_choose_loop (d := d) (h := h) hn (k := k) (by omega) y k.toNat 0 (by omega)
    rw [aBin_0] at this
    exact this
  · rw [if_pos (Or.inr (by omega))]
/-! the model's row of ways -/
def lFr (h h' : mHp) : Prop := h'.1 = h.1 ∧ (∀ x, x ≠ 133 → h'.2.1 x = h.2.1 x) ∧ h'.2.2 = h.2.2
theorem lFr_refl (h : mHp) : lFr h h := ⟨rfl, fun _ _ => rfl, rfl⟩
theorem lFr_trans {h h1 h2 : mHp} (a : lFr h h1) (b : lFr h1 h2) : lFr h h2 := ⟨b.1.trans a.1, fun x hx => (b.2.1 x hx).trans (a.2.1 x hx), b.2.2.trans a.2.2⟩
theorem lFr_pl {h h' : mHp} (a : lFr h h') (k : Nat) (v : Int64) : lFr h (mPL h' 133 k v) := ⟨a.1, fun x hx => by rw [hL_ne hx]; exact a.2.1 x hx, a.2.2⟩
theorem s_M_choose_in {d : Nat} {n k i : Int} (hn : n ≤ 30) (hk : 0 ≤ k) (hk' : k ≤ n) (hi : 0 ≤ i) (hi' : i < n) : ∀ (j : Nat) (h : mHp), j ≤ 30 → (∀ x, x ≤ 30 → h.2.1 133 x = zL (if j < x then aBin (i.toNat + 1) x else aBin i.toNat x : Nat)) →
    ∃ h', (∀ x, x ≤ 30 → h'.2.1 133 x = zL (aBin (i.toNat + 1) x : Nat)) ∧ lFr h h' ∧ (∀ out, mRuns (d + 1) 72 42 [some (.ref 114), some (.int (zI n)), some (.int (zI k)), some (.int (zI (i + 1))), none] [] h' out → mRuns (d + 1) 72 51 [some (.ref 114), some (.int (zI n)), some (.int (zI k)), some (.int (zI i)), some (.int (zI j))] [] h out) := by
  intro j
  induction j with
  | zero =>
    intro h hj hx
    refine ⟨h, fun x h1 => ?_, lFr_refl h, fun out r => vc_M_choose_51 ?_⟩
    · rw [hx x h1]; split
      · rfl
      · rw [show x = 0 by omega, aBin_0, aBin_0]
    · simp (disch := omega) only [zI_add, zI_sub, zI_mul, zI_neg, zI_lit, zI_0, zI_1, zI_lt, zI_le, zI_eq, zI_clamp, zI_inT, zI_ite, mOb_0, mOb_1, mOb_3, mOb_4, mLd_1, mAr_1, mLen_1, mTrue_t, Int.toNat_zero, Int.toNat_one, true_and, and_true, not_true_eq_false, not_false_eq_true, true_or, or_true, or_self, false_or, or_false, forall_const, false_implies, true_implies, implies_true]
      refine ⟨fun _ => r, fun z => by omega⟩
  | succ j ih =>
    intro h hj hx
    obtain ⟨h', p, f, r⟩ := ih (mPL h 133 (j + 1) (zL (aBin (i.toNat + 1) (j + 1) : Nat))) (by omega) (by
      intro x h1
      by_cases e : x = j + 1
      · rw [e, hL_same, if_pos (by omega)]
      · rw [hL_off e, hx x h1]
        by_cases e2 : j + 1 < x
        · rw [if_pos e2, if_pos (by omega)]
        · rw [if_neg e2, if_neg (by omega)])
    refine ⟨h', p, lFr_trans (lFr_pl (lFr_refl _) _ _) f, fun out q => vc_M_choose_51 ?_⟩
    have r := r out q
    have x1 := hx (j + 1) hj
    have x2 := hx j (by omega)
    rw [if_neg (by omega)] at x1 x2
    have t1 : ((j + 1 : Nat) : Int).toNat = j + 1 := by omega
    have t2 : (((j + 1 : Nat) : Int) - 1).toNat = j := by omega
    have t3 : ((j + 1 : Nat) : Int) + -1 = (j : Int) := by omega
    simp (disch := omega) only [zI_add, zI_sub, zI_mul, zI_neg, zI_lit, zI_0, zI_1, zI_lt, zI_le, zI_eq, zI_clamp, zI_inT, zI_ite, mOb_0, mOb_1, mOb_3, mOb_4, mLd_1, mAr_1, mLen_1, mTrue_t, Int.toNat_zero, Int.toNat_one, true_and, and_true, not_true_eq_false, not_false_eq_true, true_or, or_true, or_self, false_or, or_false, forall_const, false_implies, true_implies, implies_true, t1, t2, t3, x1, x2, zL_add]
    refine ⟨fun z => by omega, fun _ => ?_⟩
    rw [show (aBin i.toNat (j + 1) : Int) + (aBin i.toNat j : Int) = ((aBin (i.toNat + 1) (j + 1) : Nat) : Int) by rw [aBin_s]; omega]
    exact r
theorem s_M_choose_mid {d : Nat} {n k : Int} (hn : n ≤ 30) (hk : 0 ≤ k) (hk' : k ≤ n) : ∀ (j : Nat) (i : Int) (h : mHp), i + j = n → 0 ≤ i → (∀ x, x ≤ 30 → h.2.1 133 x = zL (aBin i.toNat x : Nat)) →
    ∃ h', mRuns (d + 1) 72 42 [some (.ref 114), some (.int (zI n)), some (.int (zI k)), some (.int (zI i)), none] [] h (.inl (some (.long (zL (aBin n.toNat k.toNat : Nat))), h')) ∧ lFr h h' := by
  intro j
  induction j with
  | zero =>
    intro i h hi h0 hx
    refine ⟨h, vc_M_choose_42 ?_, lFr_refl h⟩
    have x1 := hx k.toNat (by omega)
    simp (disch := omega) only [zI_add, zI_sub, zI_mul, zI_neg, zI_lit, zI_0, zI_1, zI_lt, zI_le, zI_eq, zI_clamp, zI_inT, zI_ite, mOb_0, mOb_1, mOb_3, mOb_4, mLd_1, mAr_1, mLen_1, mTrue_t, Int.toNat_zero, Int.toNat_one, true_and, and_true, not_true_eq_false, not_false_eq_true, true_or, or_true, or_self, false_or, or_false, forall_const, false_implies, true_implies, implies_true, x1]
    refine ⟨fun _ => ?_, fun z => by omega⟩
    rw [show i = n by omega]
  | succ j ih =>
    intro i h hi h0 hx
    obtain ⟨h1, p1, f1, r1⟩ := s_M_choose_in (d := d) (n := n) (k := k) (i := i) hn hk hk' h0 (by omega) 30 h (by omega) (fun x hx' => by rw [hx x hx', if_neg (by omega)])
    obtain ⟨h', r, f⟩ := ih (i + 1) h1 (by omega) (by omega) (fun x hx' => by rw [p1 x hx', show (i + 1).toNat = i.toNat + 1 by omega])
    refine ⟨h', vc_M_choose_42 ?_, lFr_trans f1 f⟩
    simp (disch := omega) only [zI_add, zI_sub, zI_mul, zI_neg, zI_lit, zI_0, zI_1, zI_lt, zI_le, zI_eq, zI_clamp, zI_inT, zI_ite, mOb_0, mOb_1, mOb_3, mOb_4, mLd_1, mAr_1, mLen_1, mTrue_t, Int.toNat_zero, Int.toNat_one, true_and, and_true, not_true_eq_false, not_false_eq_true, true_or, or_true, or_self, false_or, or_false, forall_const, false_implies, true_implies, implies_true]
    exact ⟨fun z => by omega, fun _ => r1 _ r⟩
theorem s_M_choose_first {d : Nat} {n k : Int} (hn : n ≤ 30) (hk : 0 ≤ k) (hk' : k ≤ n) : ∀ (j : Nat) (i : Int) (h : mHp), i + j = 31 → 0 ≤ i → (∀ x, x < i.toNat → h.2.1 133 x = zL (aBin 0 x : Nat)) →
    ∃ h', mRuns (d + 1) 72 13 [some (.ref 114), some (.int (zI n)), some (.int (zI k)), some (.int (zI i)), none] [] h (.inl (some (.long (zL (aBin n.toNat k.toNat : Nat))), h')) ∧ lFr h h' := by
  intro j
  induction j with
  | zero =>
    intro i h hi h0 hx
    obtain ⟨h', r, f⟩ := s_M_choose_mid (d := d) hn hk hk' n.toNat 0 h (by omega) (by omega) (fun x hx' => by rw [hx x (by omega)]; rfl)
    refine ⟨h', vc_M_choose_13 ?_, f⟩
    simp (disch := omega) only [zI_add, zI_sub, zI_mul, zI_neg, zI_lit, zI_0, zI_1, zI_lt, zI_le, zI_eq, zI_clamp, zI_inT, zI_ite, mOb_0, mOb_1, mOb_3, mOb_4, mLd_1, mAr_1, mLen_1, mTrue_t, Int.toNat_zero, Int.toNat_one, true_and, and_true, not_true_eq_false, not_false_eq_true, true_or, or_true, or_self, false_or, or_false, forall_const, false_implies, true_implies, implies_true]
    exact ⟨fun _ => r, fun z => by omega⟩
  | succ j ih =>
    intro i h hi h0 hx
    obtain ⟨h', r, f⟩ := ih (i + 1) (mPL h 133 i.toNat (zL (aBin 0 i.toNat : Nat))) (by omega) (by omega) (fun x hx' => by
      by_cases e : x = i.toNat
      · rw [e, hL_same]
      · rw [hL_off e]; exact hx x (by omega))
    refine ⟨h', vc_M_choose_13 ?_, lFr_trans (lFr_pl (lFr_refl _) _ _) f⟩
    simp (disch := omega) only [zI_add, zI_sub, zI_mul, zI_neg, zI_lit, zI_0, zI_1, zI_lt, zI_le, zI_eq, zI_clamp, zI_inT, zI_ite, mOb_0, mOb_1, mOb_3, mOb_4, mLd_1, mAr_1, mLen_1, mTrue_t, Int.toNat_zero, Int.toNat_one, true_and, and_true, not_true_eq_false, not_false_eq_true, true_or, or_true, or_self, false_or, or_false, forall_const, false_implies, true_implies, implies_true, zL_lit]
    refine ⟨fun z => by omega, fun _ => ⟨fun z => ?_, fun z => ?_⟩⟩
    · obtain ⟨y, hy⟩ : ∃ y, i.toNat = y + 1 := ⟨i.toNat - 1, by omega⟩
      rw [hy] at r ⊢; exact r
    · rw [z] at r ⊢; exact r
theorem s_M_choose {d : Nat} {h : mHp} {n k : Int} (hn0 : 0 ≤ n) (hn : n ≤ 30) (hk0 : -100 ≤ k) (hk1 : k ≤ 100) :
    ∃ h', mRuns (d + 1) 72 0 [some (.ref 114), some (.int (zI n)), some (.int (zI k)), none, none] [] h (.inl (some (.long (zL (aChs n k))), h')) ∧ lFr h h' := by
  by_cases c : k < 0 ∨ n < k
  · refine ⟨h, vc_M_choose ?_, lFr_refl h⟩
    unfold aChs
    simp (disch := omega) only [zI_add, zI_sub, zI_mul, zI_neg, zI_lit, zI_0, zI_1, zI_lt, zI_le, zI_eq, zI_clamp, zI_inT, zI_ite, mOb_0, mOb_1, mOb_3, mOb_4, mLd_1, mAr_1, mLen_1, mTrue_t, Int.toNat_zero, Int.toNat_one, true_and, and_true, not_true_eq_false, not_false_eq_true, true_or, or_true, or_self, false_or, or_false, forall_const, false_implies, true_implies, implies_true, zL_lit]
    rw [if_pos c]
    repeat' (first | refine And.intro ?_ ?_ | with_reducible intro _)
    all_goals first | omega | rfl
  · obtain ⟨h', r, f⟩ := s_M_choose_first (d := d) (n := n) (k := k) hn (by omega) (by omega) 31 0 h (by omega) (by omega) (fun x hx => absurd hx (by omega))
    refine ⟨h', vc_M_choose ?_, f⟩
    unfold aChs
    simp (disch := omega) only [zI_add, zI_sub, zI_mul, zI_neg, zI_lit, zI_0, zI_1, zI_lt, zI_le, zI_eq, zI_clamp, zI_inT, zI_ite, mOb_0, mOb_1, mOb_3, mOb_4, mLd_1, mAr_1, mLen_1, mTrue_t, Int.toNat_zero, Int.toNat_one, true_and, and_true, not_true_eq_false, not_false_eq_true, true_or, or_true, or_self, false_or, or_false, forall_const, false_implies, true_implies, implies_true, zL_lit]
    rw [if_neg c]
    refine ⟨fun z => by omega, fun _ => ⟨fun _ => r, fun z => by omega⟩⟩
/-! the sum -/
def aTrR (n m l : Int) : Nat → Int → Int → Int
  | 0, _, v => v
  | j + 1, k, v => aTrR n m l j (k + 1) (v + aChs m k * aChs (n - m) (l - k))
theorem aChs_mul {n m k l : Int} (hm : 0 ≤ m) (hm' : m ≤ n) (hn : n ≤ 30) : 0 ≤ aChs m k * aChs (n - m) l ∧ aChs m k * aChs (n - m) l ≤ 1073741824 := by
  have h1 : aChs m k ≤ ((2 ^ m.toNat : Nat) : Int) := by
    unfold aChs; split
    · exact Int.natCast_nonneg _
    · have := aBin_le m.toNat k.toNat; omega
  have h2 : aChs (n - m) l ≤ ((2 ^ (n - m).toNat : Nat) : Int) := by
    unfold aChs; split
    · exact Int.natCast_nonneg _
    · have := aBin_le (n - m).toNat l.toNat; omega
  have h3 := (aChs_rng (n := m) (k := k) (by omega)).1
  have h4 := (aChs_rng (n := n - m) (k := l) (by omega)).1
  refine ⟨Int.mul_nonneg h3 h4, Int.le_trans (Int.mul_le_mul h1 h2 h4 (by omega)) ?_⟩
  rw [← Int.natCast_mul, ← Nat.pow_add, show m.toNat + (n - m).toNat = n.toNat by omega]
  have : 2 ^ n.toNat ≤ 2 ^ 30 := Nat.pow_le_pow_right (by omega) (by omega)
  omega
theorem aTrR_rng {n m l : Int} (hm : 0 ≤ m) (hm' : m ≤ n) (hn : n ≤ 30) : ∀ (j : Nat) (k v : Int), v ≤ aTrR n m l j k v ∧ aTrR n m l j k v ≤ v + 1073741824 * j := by
  intro j
  induction j with
  | zero => intro k v; unfold aTrR; omega
  | succ j ih =>
    intro k v
    have := aChs_mul (k := k) (l := l - k) hm hm' hn
    have := ih (k + 1) (v + aChs m k * aChs (n - m) (l - k))
    unfold aTrR; omega
def aTri (n m l k x : Int) : Int := aPart (aTrR n m l (l - k + 1).toNat k 0).toNat (aChs n l).toNat x
theorem s_T_trial_loop {d : Nat} {h : mHp} {n m l x : Int} (hn0 : 1 ≤ n) (hn : n ≤ 30) (hm : 0 ≤ m) (hm' : m ≤ n) (hl : 0 ≤ l) (hl' : l ≤ n) (hx : x = 0 ∨ x = 1) : ∀ (j : Nat) (k v : Int), k + j = l + 1 → 0 ≤ k → 0 ≤ v → v ≤ 1073741824 * k →
    mRuns (d + 3) 182 63 [none, some (.int (zI n)), some (.int (zI m)), some (.int (zI l)), none, some (.int (zI x)), some (.long (zL v)), none, some (.int (zI k))] [] h (.inl (some (.int (zI (aPart (aTrR n m l j k v).toNat (aChs n l).toNat x))), h)) := by
  intro j
  induction j with
  | zero =>
    intro k v hk h0 v0 v1
    have hc := aChs_rng (n := n) (k := l) hn
    have r := s_T_partOf (d := d) (h := h) (u := v.toNat) (w := (aChs n l).toNat) (x := x) (by omega) (by omega) hx
    rw [show ((v.toNat : Nat) : Int) = v by omega, show (((aChs n l).toNat : Nat) : Int) = aChs n l by omega] at r
    refine vc_T_trial_63 ?_
    simp (disch := omega) only [zI_add, zI_sub, zI_mul, zI_neg, zI_lit, zI_0, zI_1, zI_lt, zI_le, zI_eq, zI_clamp, zI_inT, zI_ite, mOb_0, mOb_1, mOb_3, mOb_4, mLd_1, mAr_1, mLen_1, mTrue_t, Int.toNat_zero, Int.toNat_one, true_and, and_true, not_true_eq_false, not_false_eq_true, true_or, or_true, or_self, false_or, or_false, forall_const, false_implies, true_implies, implies_true]
    refine ⟨fun _ => ⟨_, _, s_T_choose (by omega) hn (by omega) (by omega), _, _, r, rfl⟩, fun z => by omega⟩
  | succ j ih =>
    intro k v hk h0 v0 v1
    have hc := aChs_mul (k := k) (l := l - k) hm hm' hn
    have hi := ih (k + 1) (v + aChs m k * aChs (n - m) (l - k)) (by omega) (by omega) (by omega) (by omega)
    refine vc_T_trial_63 ?_
    simp (disch := omega) only [zI_add, zI_sub, zI_mul, zI_neg, zI_lit, zI_0, zI_1, zI_lt, zI_le, zI_eq, zI_clamp, zI_inT, zI_ite, mOb_0, mOb_1, mOb_3, mOb_4, mLd_1, mAr_1, mLen_1, mTrue_t, Int.toNat_zero, Int.toNat_one, true_and, and_true, not_true_eq_false, not_false_eq_true, true_or, or_true, or_self, false_or, or_false, forall_const, false_implies, true_implies, implies_true]
    refine ⟨fun z => by omega, fun _ => ⟨_, _, s_T_choose (by omega) (by omega) (by omega) (by omega), _, _, s_T_choose (by omega) (by omega) (by omega) (by omega), ?_⟩⟩
    rw [zL_mul, zL_add]
    exact hi
theorem s_M_trial_loop {d : Nat} {n m l x : Int} (hn0 : 1 ≤ n) (hn : n ≤ 30) (hm : 0 ≤ m) (hm' : m ≤ n) (hl : 0 ≤ l) (hl' : l ≤ n) (hx : x = 0 ∨ x = 1) : ∀ (j : Nat) (k v : Int) (h : mHp), k + j = l + 1 → 0 ≤ k → 0 ≤ v → v ≤ 1073741824 * k →
    ∃ h', mRuns (d + 3) 71 91 [some (.ref 114), some (.int (zI n)), some (.int (zI m)), some (.int (zI l)), none, some (.int (zI x)), some (.long (zL v)), none, some (.int (zI k))] [] h (.inl (some (.int (zI (aPart (aTrR n m l j k v).toNat (aChs n l).toNat x))), h')) ∧ lFr h h' := by
  intro j
  induction j with
  | zero =>
    intro k v h hk h0 v0 v1
    have hc := aChs_rng (n := n) (k := l) hn
    obtain ⟨h1, r1, f1⟩ := s_M_choose (d := d + 1) (h := h) (n := n) (k := l) (by omega) hn (by omega) (by omega)
    have r := s_M_part (d := d + 1) (h := h1) (u := v.toNat) (w := (aChs n l).toNat) (x := x) (by omega) (by omega) hx
    have hp := aPart_rng (u := v.toNat) (w := (aChs n l).toNat) (x := x) (by omega) (by omega) hx
    rw [show ((v.toNat : Nat) : Int) = v by omega, show (((aChs n l).toNat : Nat) : Int) = aChs n l by omega] at r
    refine ⟨h1, vc_M_trial_91 ?_, f1⟩
    simp (disch := omega) only [zI_add, zI_sub, zI_mul, zI_neg, zI_lit, zI_0, zI_1, zI_lt, zI_le, zI_eq, zI_clamp, zI_inT, zI_ite, mOb_0, mOb_1, mOb_3, mOb_4, mLd_1, mAr_1, mLen_1, mTrue_t, Int.toNat_zero, Int.toNat_one, true_and, and_true, not_true_eq_false, not_false_eq_true, true_or, or_true, or_self, false_or, or_false, forall_const, false_implies, true_implies, implies_true]
    refine ⟨fun _ => ⟨_, _, r1, _, _, r, ?_⟩, fun z => by omega⟩
    rw [zL_toI (by omega) (by omega)]; rfl
  | succ j ih =>
    intro k v h hk h0 v0 v1
    have hc := aChs_mul (k := k) (l := l - k) hm hm' hn
    obtain ⟨h1, r1, f1⟩ := s_M_choose (d := d + 1) (h := h) (n := m) (k := k) (by omega) (by omega) (by omega) (by omega)
    obtain ⟨h2, r2, f2⟩ := s_M_choose (d := d + 1) (h := h1) (n := n - m) (k := l - k) (by omega) (by omega) (by omega) (by omega)
    obtain ⟨h', r, f⟩ := ih (k + 1) (v + aChs m k * aChs (n - m) (l - k)) h2 (by omega) (by omega) (by omega) (by omega)
    refine ⟨h', vc_M_trial_91 ?_, lFr_trans f1 (lFr_trans f2 f)⟩
    simp (disch := omega) only [zI_add, zI_sub, zI_mul, zI_neg, zI_lit, zI_0, zI_1, zI_lt, zI_le, zI_eq, zI_clamp, zI_inT, zI_ite, mOb_0, mOb_1, mOb_3, mOb_4, mLd_1, mAr_1, mLen_1, mTrue_t, Int.toNat_zero, Int.toNat_one, true_and, and_true, not_true_eq_false, not_false_eq_true, true_or, or_true, or_self, false_or, or_false, forall_const, false_implies, true_implies, implies_true]
    refine ⟨fun z => by omega, fun _ => ⟨_, _, r1, _, _, r2, ?_⟩⟩
    rw [zL_mul, zL_add]
    exact r

/-! L3, base: numbers as zI of Ints, cells of the small machine's heap -/
def zI (a : Int) : Int32 := Int32.ofInt a
theorem zI_toInt {a : Int} (h1 : -2147483648 ≤ a) (h2 : a < 2147483648) : (zI a).toInt = a := Int32.toInt_ofInt_of_le h1 h2
theorem zI_of (x : Int32) : x = zI x.toInt := (Int32.ofInt_toInt x).symm
theorem zI_add (a b : Int) : zI a + zI b = zI (a + b) := (Int32.ofInt_add a b).symm
theorem zI_sub (a b : Int) : zI a - zI b = zI (a - b) := (Int32.ofInt_sub a b).symm
theorem zI_mul (a b : Int) : zI a * zI b = zI (a * b) := (Int32.ofInt_mul a b).symm
theorem zI_neg (a : Int) : - zI a = zI (-a) := (Int32.ofInt_neg a).symm
theorem zI_n (n : Nat) : nI n = zI (n : Int) := Int32.ofInt_eq_ofNat.symm
theorem zI_lit (n : Nat) : nI (no_index (OfNat.ofNat n)) = zI (OfNat.ofNat n) := zI_n n
theorem zI_0 : (0 : Int32) = zI 0 := rfl
theorem zI_1 : (1 : Int32) = zI 1 := rfl
theorem zI_lt {a b : Int} (h1 : -2147483648 ≤ a) (h2 : a < 2147483648) (h3 : -2147483648 ≤ b) (h4 : b < 2147483648) : (zI a < zI b) = (a < b) := by
  rw [Int32.lt_iff_toInt_lt, zI_toInt h1 h2, zI_toInt h3 h4]
theorem zI_le {a b : Int} (h1 : -2147483648 ≤ a) (h2 : a < 2147483648) (h3 : -2147483648 ≤ b) (h4 : b < 2147483648) : (zI a ≤ zI b) = (a ≤ b) := by
  rw [Int32.le_iff_toInt_le, zI_toInt h1 h2, zI_toInt h3 h4]
theorem zI_eq {a b : Int} (h1 : -2147483648 ≤ a) (h2 : a < 2147483648) (h3 : -2147483648 ≤ b) (h4 : b < 2147483648) : (zI a = zI b) = (a = b) := by
  rw [← Int32.toInt_inj, zI_toInt h1 h2, zI_toInt h3 h4]
theorem zI_clamp {a : Int} (h1 : -2147483648 ≤ a) (h2 : a < 2147483648) : (zI a).toNatClampNeg = a.toNat := Int32.toNatClampNeg_ofInt_of_le h1 h2
theorem zI_in {a : Int} {n : Nat} (h1 : -2147483648 ≤ a) (h2 : a < 2147483648) : vp_in (zI a) n = (0 ≤ a ∧ a < (n : Int)) := by
  rw [vp_in_iff, zI_toInt h1 h2]
theorem zI_inT {a : Int} {n : Nat} (h1 : 0 ≤ a) (h2 : a < (n : Int)) (h3 : (n : Int) ≤ 2147483648) : vp_in (zI a) n = True := by
  rw [zI_in (by omega) (by omega)]; exact eq_true ⟨h1, h2⟩
theorem zI_inOk {a : Int} {n : Nat} (h1 : 0 ≤ a) (h2 : a < (n : Int)) (h3 : (n : Int) ≤ 2147483648) : vp_in (zI a) n := of_eq_true (zI_inT h1 h2 h3)
theorem zI_ite (c : Prop) [Decidable c] (a b : Int) : (if c then zI a else zI b) = zI (if c then a else b) := by split <;> rfl
theorem zI_div {a b : Int} (h1 : 0 ≤ a) (h2 : a < 2147483648) (h3 : 0 < b) (h4 : b < 2147483648) : zI a / zI b = zI (a / b) := by
  have hb : zI b ≠ -1 := by
    intro h; have := congrArg Int32.toInt h; rw [zI_toInt (by omega) h4] at this
    have : b = -1 := this
    omega
  apply Int32.toInt_inj.mp
  rw [Int32.toInt_div_of_ne_right _ _ hb, zI_toInt (by omega) h2, zI_toInt (by omega) h4, Int.tdiv_eq_ediv_of_nonneg h1]
  have h5 : 0 ≤ a / b := Int.ediv_nonneg h1 (by omega)
  have h6 : a / b ≤ a := Int.ediv_le_self b h1
  rw [zI_toInt (by omega) (by omega)]
theorem zI_rem {a b : Int} (h1 : 0 ≤ a) (h2 : a < 2147483648) (h3 : 0 < b) (h4 : b < 2147483648) : zI a - zI a / zI b * zI b = zI (a % b) := by
  rw [zI_div h1 h2 h3 h4, zI_mul, zI_sub]; congr 1
  have := Int.emod_add_mul_ediv a b
  have h9 : a / b * b = b * (a / b) := Int.mul_comm _ _
  omega
theorem int_rem (a b : Int) : a - a / b * b = a % b := by
  have := Int.emod_add_mul_ediv a b
  have h9 : a / b * b = b * (a / b) := Int.mul_comm _ _
  omega
/-! shapes -/
theorem mOb_0 (K : Prop) (y : Nat) : mOb K 0 (0, 0, y) = K := rfl
theorem mOb_1 (K : Prop) (y : Nat) : mOb K 1 (0, 1, y) = K := rfl
theorem mOb_3 (K : Prop) (y : Nat) : mOb K 3 (0, 3, y) = K := rfl
theorem mOb_4 (K : Prop) (y : Nat) : mOb K 4 (0, 4, y) = K := rfl
theorem mTrue_t (K : Prop) : mTrue K true = K := rfl
theorem mLd_1 (K : Int32 → Prop) (h : mHp) (i : Int32) (a n y : Nat) : mLd K h i a (1, n, y) = (vp_in i n ∧ K (h.1 a i.toNatClampNeg)) := rfl
theorem mAr_1 (K : Nat → Nat → Prop) (n y : Nat) : mAr 1 K (1, n, y) = K n y := rfl
theorem mLen_1 (K : Int32 → Prop) (h : mHp) (a n y : Nat) : mLen K h a (1, n, y) = K (nI n) := rfl
theorem mStrC_7 (K : List Nat → Prop) (k y : Nat) : mStrC K (7, k, y) = K (mStr k) := rfl
/-! cells -/
theorem hI_same (h : mHp) (a k : Nat) (v : Int32) : (mPI h a k v).1 a k = v := by simp [mPI]
theorem hI_ne {x a : Nat} (hx : x ≠ a) (h : mHp) (k : Nat) (v : Int32) : (mPI h a k v).1 x = h.1 x := by funext y; simp [mPI, hx]
theorem hI_off {y k : Nat} (hy : y ≠ k) (h : mHp) (x a : Nat) (v : Int32) : (mPI h a k v).1 x y = h.1 x y := by simp [mPI, hy]
theorem hI_row (h : mHp) (a k : Nat) (v : Int32) : (mPI h a k v).1 a = fun y => if y = k then v else h.1 a y := by funext y; simp [mPI]
theorem hI_2 (h : mHp) (a k : Nat) (v : Int32) : (mPI h a k v).2 = h.2 := rfl
theorem hI_rd (h : mHp) (a k x y : Nat) (v : Int32) : (mPI h a k v).1 x y = if x = a ∧ y = k then v else h.1 x y := rfl
theorem hR_1 (h : mHp) (a k v : Nat) : (mPR h a k v).1 = h.1 := rfl
theorem hR_L (h : mHp) (a k v : Nat) : (mPR h a k v).2.1 = h.2.1 := rfl
theorem hR_X (h : mHp) (a k v : Nat) : (mPR h a k v).2.2.2 = h.2.2.2 := rfl
theorem hR_same (h : mHp) (a k v : Nat) : (mPR h a k v).2.2.1 a k = v := by simp [mPR]
theorem hR_off {x a y k : Nat} (hy : x ≠ a ∨ y ≠ k) (h : mHp) (v : Nat) : (mPR h a k v).2.2.1 x y = h.2.2.1 x y := by
  have : ¬ (x = a ∧ y = k) := fun z => hy.elim (fun q => q z.1) (fun q => q z.2)
  simp [mPR, this]
theorem hL_1 (h : mHp) (a k : Nat) (v : Int64) : (mPL h a k v).1 = h.1 := rfl
theorem hL_R (h : mHp) (a k : Nat) (v : Int64) : (mPL h a k v).2.2 = h.2.2 := rfl
theorem hL_same (h : mHp) (a k : Nat) (v : Int64) : (mPL h a k v).2.1 a k = v := by simp [mPL]
theorem hL_ne {x a : Nat} (hx : x ≠ a) (h : mHp) (k : Nat) (v : Int64) : (mPL h a k v).2.1 x = h.2.1 x := by funext y; simp [mPL, hx]
theorem hL_off {y k : Nat} (hy : y ≠ k) (h : mHp) (x a : Nat) (v : Int64) : (mPL h a k v).2.1 x y = h.2.1 x y := by simp [mPL, hy]
theorem hC_ne {x da : Nat} (hx : x ≠ da) (h : mHp) (sa sp dp n : Nat) : (mCp h sa sp da dp n).1 x = h.1 x := by funext y; simp [mCp, hx]
theorem hC_in {da dp n y : Nat} (h1 : dp ≤ y) (h2 : y < dp + n) (h : mHp) (sa sp : Nat) : (mCp h sa sp da dp n).1 da y = h.1 sa (sp + (y - dp)) := by simp [mCp, h1, h2]
theorem hC_in0 {da n y : Nat} (h2 : y < n) (h : mHp) (sa : Nat) : (mCp h sa 0 da 0 n).1 da y = h.1 sa y := by simp [mCp, h2]
theorem hC_out {da dp n y : Nat} (h1 : y < dp ∨ dp + n ≤ y) (h : mHp) (x sa sp : Nat) : (mCp h sa sp da dp n).1 x y = h.1 x y := by
  have : ¬ (x = da ∧ dp ≤ y ∧ y < dp + n) := by omega
  simp [mCp, this]
theorem hC_2 (h : mHp) (sa sp da dp n : Nat) : (mCp h sa sp da dp n).2 = h.2 := rfl
theorem hX_1 (h : mHp) : (mXc h).1 = h.1 := rfl
theorem hX_L (h : mHp) : (mXc h).2.1 = h.2.1 := rfl
theorem hX_R (h : mHp) : (mXc h).2.2.1 = h.2.2.1 := rfl
theorem hX_X (h : mHp) : (mXc h).2.2.2 = h.2.2.2 + 1 := rfl
/-- nothing but rows of the list has changed -/
def hFr (l : List Nat) (h h' : mHp) : Prop := (∀ x, x ∉ l → h'.1 x = h.1 x) ∧ h'.2 = h.2
theorem hFr_refl (l : List Nat) (h : mHp) : hFr l h h := ⟨fun _ _ => rfl, rfl⟩
theorem hFr_trans {l : List Nat} {h h1 h2 : mHp} (a : hFr l h h1) (b : hFr l h1 h2) : hFr l h h2 := ⟨fun x hx => (b.1 x hx).trans (a.1 x hx), b.2.trans a.2⟩
theorem hFr_mono {l l' : List Nat} {h h' : mHp} (a : hFr l h h') (hl : ∀ x, x ∈ l → x ∈ l') : hFr l' h h' := ⟨fun x hx => a.1 x (fun z => hx (hl x z)), a.2⟩
theorem hFr_pi {l : List Nat} {h h' : mHp} (a : hFr l h h') {x : Nat} (hx : x ∈ l) (k : Nat) (v : Int32) : hFr l h (mPI h' x k v) :=
  ⟨fun y hy => by rw [hI_ne (x := y) (a := x) (fun e => hy (e ▸ hx))]; exact a.1 y hy, a.2⟩
theorem hFr_cp {l : List Nat} {h h' : mHp} (a : hFr l h h') {x : Nat} (hx : x ∈ l) (sa sp dp n : Nat) : hFr l h (mCp h' sa sp x dp n) :=
  ⟨fun y hy => by rw [hC_ne (x := y) (da := x) (fun e => hy (e ▸ hx))]; exact a.1 y hy, a.2⟩
/-! a row is filled -/
theorem s_fill_loop {d a n : Nat} (hs : mSh a = (1, n, 0)) (hn : n < 5000) (v : Int32) : ∀ (j : Nat) (i : Int) (h : mHp), i + j = n → 0 ≤ i → (∀ k, k < i.toNat → h.1 a k = v) →
    ∃ h', mRuns (d + 1) 0 5 [some (.ref a), some (.int v), some (.int (zI i)), some (.int (zI n))] [] h (.inl (none, h')) ∧ (∀ k, k < n → h'.1 a k = v) ∧ hFr [a] h h' := by
  intro j
  induction j with
  | zero =>
    intro i h hi h0 hk
    refine ⟨h, vc_JA_fill_5 ?_, fun k hk' => hk k (by omega), hFr_refl _ _⟩
    simp (disch := omega) only [zI_add, zI_sub, zI_mul, zI_neg, zI_lit, zI_0, zI_1, zI_lt, zI_le, zI_eq, zI_clamp, zI_inT, zI_ite, mOb_0, mOb_1, mOb_3, mOb_4, mLd_1, mAr_1, mLen_1, mTrue_t, Int.toNat_zero, Int.toNat_one, true_and, and_true, not_true_eq_false, not_false_eq_true, true_or, or_true, or_self, false_or, or_false, forall_const, false_implies, true_implies, implies_true, hs]
    repeat' (first | refine And.intro ?_ ?_ | with_reducible intro _)
    all_goals first | omega | rfl
  | succ j ih =>
    intro i h hi h0 hk
    obtain ⟨h', r, p, f⟩ := ih (i + 1) (mPI h a i.toNat v) (by omega) (by omega) (fun k hk' => by
      by_cases e : k = i.toNat
      · rw [e, hI_same]
      · rw [hI_off e]; exact hk k (by omega))
    refine ⟨h', vc_JA_fill_5 ?_, p, hFr_trans (hFr_pi (hFr_refl _ _) (by simp) _ _) f⟩
    simp (disch := omega) only [zI_add, zI_sub, zI_mul, zI_neg, zI_lit, zI_0, zI_1, zI_lt, zI_le, zI_eq, zI_clamp, zI_inT, zI_ite, mOb_0, mOb_1, mOb_3, mOb_4, mLd_1, mAr_1, mLen_1, mTrue_t, Int.toNat_zero, Int.toNat_one, true_and, and_true, not_true_eq_false, not_false_eq_true, true_or, or_true, or_self, false_or, or_false, forall_const, false_implies, true_implies, implies_true, hs]
    repeat' (first | refine And.intro ?_ ?_ | with_reducible intro _)
    all_goals first | omega | exact r
theorem s_fill {d a n : Nat} {h : mHp} (hs : mSh a = (1, n, 0)) (hn : n < 5000) (v : Int32) :
    ∃ h', mRuns (d + 1) 0 0 [some (.ref a), some (.int v), none, none] [] h (.inl (none, h')) ∧ (∀ k, k < n → h'.1 a k = v) ∧ hFr [a] h h' := by
  obtain ⟨h', r, p, f⟩ := s_fill_loop (d := d) hs hn v n 0 h (by omega) (by omega) (fun k hk => absurd hk (by omega))
  refine ⟨h', vc_JA_fill ?_, p, f⟩
  rw [hs, mLen_1, zI_n n, zI_lit]
  exact r
/-- of one object some fields, and some rows -/
def hFg (a : Nat) (l fs : List Nat) (h h' : mHp) : Prop := (∀ x, x ∉ l → x ≠ a → h'.1 x = h.1 x) ∧ (∀ k, k ∉ fs → h'.1 a k = h.1 a k) ∧ h'.2 = h.2
theorem hFg_refl (a : Nat) (l fs : List Nat) (h : mHp) : hFg a l fs h h := ⟨fun _ _ _ => rfl, fun _ _ => rfl, rfl⟩
theorem hFg_trans {a : Nat} {l fs : List Nat} {h h1 h2 : mHp} (p : hFg a l fs h h1) (q : hFg a l fs h1 h2) : hFg a l fs h h2 :=
  ⟨fun x hx hy => (q.1 x hx hy).trans (p.1 x hx hy), fun k hk => (q.2.1 k hk).trans (p.2.1 k hk), q.2.2.trans p.2.2⟩
theorem hFg_mono {a : Nat} {l l' fs fs' : List Nat} {h h' : mHp} (p : hFg a l fs h h') (hl : ∀ x, x ∈ l → x ∈ l') (hf : ∀ x, x ∈ fs → x ∈ fs') : hFg a l' fs' h h' :=
  ⟨fun x hx hy => p.1 x (fun z => hx (hl x z)) hy, fun k hk => p.2.1 k (fun z => hk (hf k z)), p.2.2⟩
theorem hFg_pi {a : Nat} {l fs : List Nat} {h h' : mHp} (p : hFg a l fs h h') {x : Nat} (hx : x ∈ l) (ha : x ≠ a) (k : Nat) (v : Int32) : hFg a l fs h (mPI h' x k v) :=
  ⟨fun y hy hz => by rw [hI_ne (x := y) (a := x) (fun e => hy (e ▸ hx))]; exact p.1 y hy hz, fun k hk => by rw [hI_ne (x := a) (a := x) (fun e => ha e.symm)]; exact p.2.1 k hk, p.2.2⟩
theorem hFg_pf {a : Nat} {l fs : List Nat} {h h' : mHp} (p : hFg a l fs h h') {k : Nat} (hk : k ∈ fs) (v : Int32) : hFg a l fs h (mPI h' a k v) :=
  ⟨fun y hy hz => by rw [hI_ne hz]; exact p.1 y hy hz, fun j hj => by rw [hI_off (y := j) (k := k) (fun e => hj (e ▸ hk))]; exact p.2.1 j hj, p.2.2⟩
theorem hFg_fr {a : Nat} {l fs : List Nat} {h h' h'' : mHp} (p : hFg a l fs h h') (q : hFr l h' h'') (ha : a ∉ l) : hFg a l fs h h'' :=
  ⟨fun x hx hy => (q.1 x hx).trans (p.1 x hx hy), fun k hk => by rw [q.1 a ha]; exact p.2.1 k hk, q.2.trans p.2.2⟩
abbrev aEq (f : Nat → Int32) (n : Int) (g : Int → Int) : Prop := ∀ i : Int, 0 ≤ i → i < n → f i.toNat = zI (g i)
theorem aEq_push {f : Nat → Int32} {n : Int} {g : Int → Int} (h : aEq f n g) (hn : 0 ≤ n) (v : Int) : aEq (fun y => if y = n.toNat then zI v else f y) (n + 1) (fun i => if i = n then v else g i) := by
  intro i h0 h1
  show (if i.toNat = n.toNat then _ else _) = zI (if i = n then v else g i)
  by_cases e : i = n
  · rw [if_pos (by rw [e]), if_pos e]
  · rw [if_neg (by omega), if_neg e]; exact h i h0 (by omega)
theorem aEq_less {f : Nat → Int32} {n m : Int} {g : Int → Int} (h : aEq f n g) (hn : m ≤ n) : aEq f m g := fun i h0 h1 => h i h0 (by omega)
theorem aEq_fn {f : Nat → Int32} {n : Int} {g g' : Int → Int} (h : aEq f n g) (hg : ∀ i, 0 ≤ i → i < n → g' i = g i) : aEq f n g' := fun i h0 h1 => by rw [hg i h0 h1]; exact h i h0 h1

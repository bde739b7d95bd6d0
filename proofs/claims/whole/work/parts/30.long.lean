/-! L3, longs: fractions in lowest terms, ways to choose -/
def zL (a : Int) : Int64 := Int64.ofInt a
theorem zL_toInt {a : Int} (h1 : -9223372036854775808 ≤ a) (h2 : a < 9223372036854775808) : (zL a).toInt = a := Int64.toInt_ofInt_of_le h1 h2
theorem zL_add (a b : Int) : zL a + zL b = zL (a + b) := (Int64.ofInt_add a b).symm
theorem zL_sub (a b : Int) : zL a - zL b = zL (a - b) := (Int64.ofInt_sub a b).symm
theorem zL_mul (a b : Int) : zL a * zL b = zL (a * b) := (Int64.ofInt_mul a b).symm
theorem zL_n (n : Nat) : lN n = zL (n : Int) := Int64.ofInt_eq_ofNat.symm
theorem zL_lit (n : Nat) : lN (no_index (OfNat.ofNat n)) = zL (OfNat.ofNat n) := zL_n n
theorem zL_0 : (0 : Int64) = zL 0 := rfl
theorem zL_eq {a b : Int} (h1 : -9223372036854775808 ≤ a) (h2 : a < 9223372036854775808) (h3 : -9223372036854775808 ≤ b) (h4 : b < 9223372036854775808) : (zL a = zL b) = (a = b) := by
  rw [← Int64.toInt_inj, zL_toInt h1 h2, zL_toInt h3 h4]
theorem zI_toL {a : Int} (h1 : -2147483648 ≤ a) (h2 : a < 2147483648) : (zI a).toInt64 = zL a := by
  rw [← Int64.ofInt_int32ToInt, zI_toInt h1 h2]; rfl
theorem zL_toI {a : Int} (h1 : -9223372036854775808 ≤ a) (h2 : a < 9223372036854775808) : (zL a).toInt32 = zI a := by
  rw [← Int32.ofInt_int64ToInt, zL_toInt h1 h2]; rfl
def aSg (a b : Int) : Int := if b < a then 1 else if a = b then 0 else -1
theorem zL_cmp {a b : Int} (h1 : -9223372036854775808 ≤ a) (h2 : a < 9223372036854775808) (h3 : -9223372036854775808 ≤ b) (h4 : b < 9223372036854775808) : lg_cmp (zL a) (zL b) = zI (aSg a b) := by
  unfold lg_cmp aSg
  have e1 : (zL a > zL b) = (b < a) := by
    show (zL b < zL a) = _
    rw [Int64.lt_iff_toInt_lt, zL_toInt h1 h2, zL_toInt h3 h4]
  have e2 := zL_eq h1 h2 h3 h4
  simp only [e1, e2]
  split
  · rfl
  · split <;> rfl
theorem aSg_0 (a b : Int) : (aSg a b = 0) = (a = b) := by unfold aSg; apply propext; split <;> (try split) <;> omega
theorem aSg_pos (a b : Int) : (0 < aSg a b) = (b < a) := by unfold aSg; apply propext; split <;> (try split) <;> omega
theorem aSg_rng (a b : Int) : -1 ≤ aSg a b ∧ aSg a b ≤ 1 := by unfold aSg; split <;> (try split) <;> omega
theorem zL_cmp0 {a b : Int} (h1 : -9223372036854775808 ≤ a) (h2 : a < 9223372036854775808) (h3 : -9223372036854775808 ≤ b) (h4 : b < 9223372036854775808) : (lg_cmp (zL a) (zL b) = zI 0) = (a = b) := by
  have := aSg_rng a b
  rw [zL_cmp h1 h2 h3 h4, zI_eq (by omega) (by omega) (by omega) (by omega), aSg_0]
theorem zL_cmpp {a b : Int} (h1 : -9223372036854775808 ≤ a) (h2 : a < 9223372036854775808) (h3 : -9223372036854775808 ≤ b) (h4 : b < 9223372036854775808) : (zI 0 < lg_cmp (zL a) (zL b)) = (b < a) := by
  have := aSg_rng a b
  rw [zL_cmp h1 h2 h3 h4, zI_lt (by omega) (by omega) (by omega) (by omega), aSg_pos]
theorem zL_div {a b : Int} (h1 : 0 ≤ a) (h2 : a < 9223372036854775808) (h3 : 0 < b) (h4 : b < 9223372036854775808) : zL a / zL b = zL (a / b) := by
  have hb : zL b ≠ -1 := by
    intro h; have := congrArg Int64.toInt h; rw [zL_toInt (by omega) h4] at this
    have : b = -1 := this
    omega
  apply Int64.toInt_inj.mp
  rw [Int64.toInt_div_of_ne_right _ _ hb, zL_toInt (by omega) h2, zL_toInt (by omega) h4, Int.tdiv_eq_ediv_of_nonneg h1]
  have h5 : 0 ≤ a / b := Int.ediv_nonneg h1 (by omega)
  have h6 : a / b ≤ a := Int.ediv_le_self b h1
  rw [zL_toInt (by omega) (by omega)]
/-! Euclid -/
def aCd : Nat → Nat → Nat → Nat
  | 0, a, _ => a
  | n + 1, a, b => if b = 0 then a else aCd n b (a % b)
theorem aCd_gcd : ∀ (m n a b : Nat), b < 2 ^ m → 2 * m ≤ n → aCd n a b = Nat.gcd a b := by
  intro m
  induction m with
  | zero =>
    intro n a b hb _
    have : b = 0 := by simp at hb; exact hb
    subst this
    cases n with
    | zero => simp [aCd]
    | succ n => simp [aCd]
  | succ m ih =>
    intro n a b hb hn
    obtain ⟨n, rfl⟩ : ∃ k, n = k + 2 := ⟨n - 2, by omega⟩
    unfold aCd
    by_cases h1 : b = 0
    · rw [if_pos h1, h1, Nat.gcd_zero_right]
    · rw [if_neg h1]
      unfold aCd
      have hr : a % b < b := Nat.mod_lt _ (by omega)
      by_cases h2 : a % b = 0
      · rw [if_pos h2, Nat.gcd_comm, Nat.gcd_rec, h2, Nat.gcd_zero_left]
      · rw [if_neg h2]
        have h3 : b % (a % b) < a % b := Nat.mod_lt _ (by omega)
        have h4 : b % (a % b) + a % b ≤ b := by
          have := Nat.mod_add_div b (a % b)
          have h5 : 1 ≤ b / (a % b) := Nat.div_pos (by omega) (by omega)
          have h6 : (a % b) * 1 ≤ (a % b) * (b / (a % b)) := Nat.mul_le_mul_left _ h5
          omega
        rw [ih n _ _ (by rw [Nat.pow_succ] at hb; omega) (by omega)]
        rw [Nat.gcd_comm (a % b), ← Nat.gcd_rec, ← Nat.gcd_rec, Nat.gcd_comm]
def aPart (u w : Nat) (x : Int) : Int := if w = 0 then x else if x = 0 then ((u / Nat.gcd u w : Nat) : Int) else ((w / Nat.gcd u w : Nat) : Int)
theorem s_T_cd_loop {d : Nat} {h : mHp} : ∀ (n : Nat) (a b : Nat) (i : Int), i + n = 100 → 0 ≤ i → (a : Int) < 9223372036854775808 → (b : Int) < 9223372036854775808 →
    mRuns (d + 1) 179 9 [none, none, none, none, some (.long (zL a)), none, some (.long (zL b)), none, some (.int (zI i)), none, none] [] h (.inl (some (.long (zL (aCd n a b))), h)) := by
  intro n
  induction n with
  | zero =>
    intro a b i hi h0 ha hb
    refine vc_T_commonDivisor_9 ?_
    simp (disch := omega) only [zI_add, zI_sub, zI_mul, zI_neg, zI_lit, zI_0, zI_1, zI_lt, zI_le, zI_eq, zI_clamp, zI_inT, zI_ite, mOb_0, mOb_1, mOb_3, mOb_4, mLd_1, mAr_1, mLen_1, mTrue_t, Int.toNat_zero, Int.toNat_one, true_and, and_true, not_true_eq_false, not_false_eq_true, true_or, or_true, or_self, false_or, or_false, forall_const, false_implies, true_implies, implies_true]
    refine ⟨fun _ => rfl, fun z => by omega⟩
  | succ n ih =>
    intro a b i hi h0 ha hb
    refine vc_T_commonDivisor_9 ?_
    unfold aCd
    simp (disch := omega) only [zI_add, zI_sub, zI_mul, zI_neg, zI_lit, zI_0, zI_1, zI_lt, zI_le, zI_eq, zI_clamp, zI_inT, zI_ite, mOb_0, mOb_1, mOb_3, mOb_4, mLd_1, mAr_1, mLen_1, mTrue_t, Int.toNat_zero, Int.toNat_one, true_and, and_true, not_true_eq_false, not_false_eq_true, true_or, or_true, or_self, false_or, or_false, forall_const, false_implies, true_implies, implies_true, zL_lit, zL_cmp0, zL_0, zL_eq]
    refine ⟨fun z => by omega, fun _ => ⟨fun z => ?_, fun z => ⟨z, ?_⟩⟩⟩
    · rw [if_pos (by omega)]
    · rw [if_neg (by omega), zL_div (by omega) (by omega) (by omega) (by omega), zL_mul, zL_sub, int_rem]
      have hm : a % b < b := Nat.mod_lt _ (by omega)
      have := ih b (a % b) (i + 1) (by omega) (by omega) hb (by omega)
      rw [show (a : Int) % (b : Int) = ((a % b : Nat) : Int) from rfl]
      exact this
theorem s_T_partOf {d : Nat} {h : mHp} {u w : Nat} {x : Int} (hu : u < 2 ^ 45) (hw : w < 2 ^ 45) (hx : x = 0 ∨ x = 1) :
    mRuns (d + 2) 178 0 [some (.long (zL u)), none, some (.long (zL w)), none, some (.int (zI x)), none, none] [] h (.inl (some (.int (zI (aPart u w x))), h)) := by
  have hu' : (u : Int) < 35184372088832 := by omega
  have hw' : (w : Int) < 35184372088832 := by omega
  refine vc_T_partOf ?_
  unfold aPart
  simp (disch := omega) only [zI_add, zI_sub, zI_mul, zI_neg, zI_lit, zI_0, zI_1, zI_lt, zI_le, zI_eq, zI_clamp, zI_inT, zI_ite, mOb_0, mOb_1, mOb_3, mOb_4, mLd_1, mAr_1, mLen_1, mTrue_t, Int.toNat_zero, Int.toNat_one, true_and, and_true, not_true_eq_false, not_false_eq_true, true_or, or_true, or_self, false_or, or_false, forall_const, false_implies, true_implies, implies_true, zL_lit, zL_cmpp]
  refine ⟨fun z => ⟨zL (aCd 100 u w), h, vc_T_commonDivisor ?_, ?_⟩, fun z => ⟨fun y => ?_, fun y => ?_⟩⟩
  · simp (disch := omega) only [zI_add, zI_sub, zI_mul, zI_neg, zI_lit, zI_0, zI_1, zI_lt, zI_le, zI_eq, zI_clamp, zI_inT, zI_ite, mOb_0, mOb_1, mOb_3, mOb_4, mLd_1, mAr_1, mLen_1, mTrue_t, Int.toNat_zero, Int.toNat_one, true_and, and_true, not_true_eq_false, not_false_eq_true, true_or, or_true, or_self, false_or, or_false, forall_const, false_implies, true_implies, implies_true]
    exact s_T_cd_loop 100 u w 0 (by omega) (by omega) (by omega) (by omega)
  · rw [aCd_gcd 45 100 u w hw (by omega)]
    have hg : 0 < Nat.gcd u w := Nat.gcd_pos_of_pos_right _ (by omega)
    have hg2 : Nat.gcd u w ≤ w := Nat.gcd_le_right _ (by omega)
    have d1 : u / Nat.gcd u w ≤ u := Nat.div_le_self _ _
    have d2 : w / Nat.gcd u w ≤ w := Nat.div_le_self _ _
    have c1 : (u : Int) / (Nat.gcd u w : Int) = ((u / Nat.gcd u w : Nat) : Int) := rfl
    have c2 : (w : Int) / (Nat.gcd u w : Int) = ((w / Nat.gcd u w : Nat) : Int) := rfl
    simp (disch := omega) only [zI_add, zI_sub, zI_mul, zI_neg, zI_lit, zI_0, zI_1, zI_lt, zI_le, zI_eq, zI_clamp, zI_inT, zI_ite, mOb_0, mOb_1, mOb_3, mOb_4, mLd_1, mAr_1, mLen_1, mTrue_t, Int.toNat_zero, Int.toNat_one, true_and, and_true, not_true_eq_false, not_false_eq_true, true_or, or_true, or_self, false_or, or_false, forall_const, false_implies, true_implies, implies_true, zL_lit, zL_cmpp, zL_div, zL_0, zL_eq, c1, c2]
    generalize u / Nat.gcd u w = p1 at d1 ⊢
    generalize w / Nat.gcd u w = p2 at d2 ⊢
    simp (disch := omega) only [zI_add, zI_sub, zI_mul, zI_neg, zI_lit, zI_0, zI_1, zI_lt, zI_le, zI_eq, zI_clamp, zI_inT, zI_ite, mOb_0, mOb_1, mOb_3, mOb_4, mLd_1, mAr_1, mLen_1, mTrue_t, Int.toNat_zero, Int.toNat_one, true_and, and_true, not_true_eq_false, not_false_eq_true, true_or, or_true, or_self, false_or, or_false, forall_const, false_implies, true_implies, implies_true, zL_toI]
    rw [if_neg (show ¬ w = 0 by omega)]
    refine ⟨fun _ => ⟨fun y => ⟨by omega, ?_⟩, fun y => ⟨by omega, ?_⟩⟩, fun y => by omega⟩
    · rw [if_neg y]
    · rw [if_pos y]
  · rw [if_pos (show w = 0 by omega), show x = 1 by omega]
  · rw [if_pos (show w = 0 by omega), y]
theorem s_M_part_loop {d : Nat} {h : mHp} {u w : Nat} {x : Int} (hu : u < 2 ^ 45) (hw : w < 2 ^ 45) (hw0 : w ≠ 0) (hx : x = 0 ∨ x = 1) : ∀ (n : Nat) (a b : Nat), b < n → Nat.gcd a b = Nat.gcd u w → a < 2 ^ 45 → b < 2 ^ 45 →
    mRuns (d + 1) 66 16 [some (.long (zL u)), none, some (.long (zL w)), none, some (.int (zI x)), some (.long (zL a)), none, some (.long (zL b)), none, none, none] [] h (.inl (some (.long (zL (aPart u w x))), h)) := by
  have hu' : (u : Int) < 35184372088832 := by omega
  have hw' : (w : Int) < 35184372088832 := by omega
  intro n
  induction n with
  | zero => intro a b hb; omega
  | succ n ih =>
    intro a b hb hg ha hb'
    have ha' : (a : Int) < 35184372088832 := by omega
    have hb'' : (b : Int) < 35184372088832 := by omega
    refine vc_M_part_16 ?_
    simp (disch := omega) only [zI_add, zI_sub, zI_mul, zI_neg, zI_lit, zI_0, zI_1, zI_lt, zI_le, zI_eq, zI_clamp, zI_inT, zI_ite, mOb_0, mOb_1, mOb_3, mOb_4, mLd_1, mAr_1, mLen_1, mTrue_t, Int.toNat_zero, Int.toNat_one, true_and, and_true, not_true_eq_false, not_false_eq_true, true_or, or_true, or_self, false_or, or_false, forall_const, false_implies, true_implies, implies_true, zL_lit, zL_cmp0, zL_0, zL_eq]
    refine ⟨fun z => ?_, fun z => ⟨z, ?_⟩⟩
    · have hb0 : b = 0 := by omega
      rw [hb0, Nat.gcd_zero_right] at hg
      have hp : 0 < Nat.gcd u w := Nat.gcd_pos_of_pos_right _ (by omega)
      have c1 : (u : Int) / (a : Int) = ((u / a : Nat) : Int) := rfl
      have c2 : (w : Int) / (a : Int) = ((w / a : Nat) : Int) := rfl
      rw [zL_div (by omega) (by omega) (by omega) (by omega), zL_div (by omega) (by omega) (by omega) (by omega), c1, c2]
      unfold aPart
      rw [if_neg hw0, ← hg]
      refine ⟨fun y => ⟨by omega, ?_⟩, fun y => ⟨by omega, ?_⟩⟩
      · rw [if_neg y]
      · rw [if_pos y]
    · rw [zL_div (by omega) (by omega) (by omega) (by omega), zL_mul, zL_sub, int_rem]
      have hm : a % b < b := Nat.mod_lt _ (by omega)
      have := ih b (a % b) (by omega) (by rw [← hg, Nat.gcd_comm a b, Nat.gcd_rec b a, Nat.gcd_comm]) (by omega) (by omega)
      rw [show (a : Int) % (b : Int) = ((a % b : Nat) : Int) from rfl]
      exact this
theorem s_M_part {d : Nat} {h : mHp} {u w : Nat} {x : Int} (hu : u < 2 ^ 45) (hw : w < 2 ^ 45) (hx : x = 0 ∨ x = 1) :
    mRuns (d + 1) 66 0 [some (.long (zL u)), none, some (.long (zL w)), none, some (.int (zI x)), none, none, none, none, none, none] [] h (.inl (some (.long (zL (aPart u w x))), h)) := by
  have hw' : (w : Int) < 35184372088832 := by omega
  refine vc_M_part ?_
  simp (disch := omega) only [zI_add, zI_sub, zI_mul, zI_neg, zI_lit, zI_0, zI_1, zI_lt, zI_le, zI_eq, zI_clamp, zI_inT, zI_ite, mOb_0, mOb_1, mOb_3, mOb_4, mLd_1, mAr_1, mLen_1, mTrue_t, Int.toNat_zero, Int.toNat_one, true_and, and_true, not_true_eq_false, not_false_eq_true, true_or, or_true, or_self, false_or, or_false, forall_const, false_implies, true_implies, implies_true, zL_lit, zL_cmp0, zI_toL]
  refine ⟨fun z => ?_, fun z => ?_⟩
  · exact s_M_part_loop hu hw (by omega) hx (u + 1) w u (by omega) (Nat.gcd_comm _ _) hw hu
  · unfold aPart; rw [if_pos (by omega)]
theorem aPart_rng {u w : Nat} {x : Int} (hu : u < 2 ^ 45) (hw : w < 2 ^ 45) (hx : x = 0 ∨ x = 1) : 0 ≤ aPart u w x ∧ aPart u w x < 35184372088832 := by
  have d1 : u / Nat.gcd u w ≤ u := Nat.div_le_self _ _
  have d2 : w / Nat.gcd u w ≤ w := Nat.div_le_self _ _
  unfold aPart
  generalize u / Nat.gcd u w = p1 at d1 ⊢
  generalize w / Nat.gcd u w = p2 at d2 ⊢
  split
  · omega
  · split <;> omega

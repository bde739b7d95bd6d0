/-! L3, the model's steps -/
def kF (l fs : List Nat) (h h' : mHp) : Prop := (∀ x, x ∉ l → x ≠ 114 → h'.1 x = h.1 x) ∧ (∀ k, k ∉ fs → h'.1 114 k = h.1 114 k) ∧ (∀ x, x ≠ 114 → h'.2.1 x = h.2.1 x) ∧ h'.2.2 = h.2.2
theorem kF_refl (l fs : List Nat) (h : mHp) : kF l fs h h := ⟨fun _ _ _ => rfl, fun _ _ => rfl, fun _ _ => rfl, rfl⟩
theorem kF_trans {l fs : List Nat} {h h1 h2 : mHp} (p : kF l fs h h1) (q : kF l fs h1 h2) : kF l fs h h2 :=
  ⟨fun x hx hy => (q.1 x hx hy).trans (p.1 x hx hy), fun k hk => (q.2.1 k hk).trans (p.2.1 k hk), fun x hx => (q.2.2.1 x hx).trans (p.2.2.1 x hx), q.2.2.2.trans p.2.2.2⟩
theorem kF_mono {l l' fs fs' : List Nat} {h h' : mHp} (p : kF l fs h h') (hl : ∀ x, x ∈ l → x ∈ l') (hf : ∀ x, x ∈ fs → x ∈ fs') : kF l' fs' h h' :=
  ⟨fun x hx hy => p.1 x (fun z => hx (hl x z)) hy, fun k hk => p.2.1 k (fun z => hk (hf k z)), p.2.2.1, p.2.2.2⟩
theorem kF_pi {l fs : List Nat} {h h' : mHp} (p : kF l fs h h') {x : Nat} (hx : x ∈ l) (ha : x ≠ 114) (k : Nat) (v : Int32) : kF l fs h (mPI h' x k v) :=
  ⟨fun y hy hz => by rw [hI_ne (x := y) (a := x) (fun e => hy (e ▸ hx))]; exact p.1 y hy hz, fun k hk => by rw [hI_ne (x := 114) (a := x) (fun e => ha e.symm)]; exact p.2.1 k hk, p.2.2.1, p.2.2.2⟩
theorem kF_pf {l fs : List Nat} {h h' : mHp} (p : kF l fs h h') {k : Nat} (hk : k ∈ fs) (v : Int32) : kF l fs h (mPI h' 114 k v) :=
  ⟨fun y hy hz => by rw [hI_ne hz]; exact p.1 y hy hz, fun j hj => by rw [hI_off (y := j) (k := k) (fun e => hj (e ▸ hk))]; exact p.2.1 j hj, p.2.2.1, p.2.2.2⟩
theorem kF_pl {l fs : List Nat} {h h' : mHp} (p : kF l fs h h') (k : Nat) (v : Int64) : kF l fs h (mPL h' 114 k v) :=
  ⟨p.1, p.2.1, fun x hx => by rw [hL_ne hx]; exact p.2.2.1 x hx, p.2.2.2⟩
theorem XM_fr {h h' : mHp} {n : Int} {u : Int → Int} {l fs : List Nat} (hX : XM h n u) (f : kF l fs h h') (hl : 119 ∉ l) : XM h' n u := fun i i0 i1 => by
  rw [f.1 119 hl (by omega)]; exact hX i i0 i1
/-! a word of up to seven letters as a number -/
def pk (u : Int → Int) (st : Int) : Nat → Int
  | 0 => 0
  | m + 1 => 32 * pk u st m + (u (st + m) - 96)
theorem pk_rng (u : Int → Int) (st : Int) : ∀ m : Nat, (∀ i : Nat, i < m → 97 ≤ u (st + i) ∧ u (st + i) ≤ 122) → 0 ≤ pk u st m ∧ pk u st m < 32 ^ m := by
  intro m
  induction m with
  | zero => intro _; exact ⟨Int.le_refl 0, by show (0:Int) < 32 ^ 0; decide⟩
  | succ m ih =>
    intro h
    have a := ih (fun i hi => h i (by omega))
    have b := h m (by omega)
    unfold pk
    rw [Int.pow_succ]
    omega
theorem pk_rng7 (u : Int → Int) (st : Int) {m : Nat} (hm : m ≤ 7) (h : ∀ i : Nat, i < m → 97 ≤ u (st + i) ∧ u (st + i) ≤ 122) : 0 ≤ pk u st m ∧ pk u st m < 34359738368 := by
  have a := pk_rng u st m h
  have b : (32 : Int) ^ m ≤ 34359738368 := by
    have : ∀ k : Fin 8, (32 : Int) ^ k.val ≤ 34359738368 := by decide +kernel
    exact this ⟨m, by omega⟩
  omega
theorem zL_nat {a : Int} (h : 0 ≤ a) : zL a = lN a.toNat := by rw [zL_n, show ((a.toNat : Nat) : Int) = a by omega]
theorem lN_shl5 (a : Nat) : lN a <<< ((nI 5).toInt64 &&& 63) = lN (a * 32) := by
  apply Int64.toBitVec_inj.mp
  rw [Int64.toBitVec_shiftLeft]
  show (BitVec.ofNat 64 a) <<< (((nI 5).toInt64 &&& 63).toBitVec.smod 64).toNat = BitVec.ofNat 64 (a * 32)
  rw [show (((nI 5).toInt64 &&& 63).toBitVec.smod 64).toNat = 5 by decide +kernel]
  apply BitVec.eq_of_toNat_eq
  rw [BitVec.toNat_shiftLeft, BitVec.toNat_ofNat, BitVec.toNat_ofNat, Nat.shiftLeft_eq]
  omega
theorem lN_or (a b : Nat) : lN a ||| lN b = lN (a ||| b) := by
  apply Int64.toBitVec_inj.1
  show BitVec.ofNat 64 a ||| BitVec.ofNat 64 b = BitVec.ofNat 64 (a ||| b)
  apply BitVec.eq_of_getLsbD_eq
  intro i hi
  simp [hi]
theorem zL_pk {w c : Int} (w0 : 0 ≤ w) (c0 : 0 ≤ c) (c1 : c < 32) : (zL w <<< ((nI 5).toInt64 &&& 63)) ||| zL c = zL (32 * w + c) := by
  rw [zL_nat w0, zL_nat c0, lN_shl5, lN_or]
  have : w.toNat * 32 ||| c.toNat = w.toNat * 32 + c.toNat := by
    have := Nat.shiftLeft_add_eq_or_of_lt (b := c.toNat) (i := 5) (by omega) w.toNat
    rw [Nat.shiftLeft_eq] at this
    exact this.symm
  rw [this, zL_n]
  congr 1; omega
theorem s_M_isLetter {d : Nat} {h : mHp} {c : Int} (h1 : -128 ≤ c) (h2 : c ≤ 255) : mRuns (d + 1) 11 0 [some (.int (zI c))] [] h (.inl (some (.int (zI (if 97 ≤ c ∧ c ≤ 122 then 1 else 0))), h)) := by
  refine vc_M_isLetter ?_
  simp (disch := omega) only [zI_add, zI_sub, zI_mul, zI_neg, zI_lit, zI_0, zI_1, zI_lt, zI_le, zI_eq, zI_clamp, zI_inT, zI_ite, mOb_0, mOb_1, mOb_3, mOb_4, mLd_1, mAr_1, mLen_1, mTrue_t, Int.toNat_zero, Int.toNat_one, true_and, and_true, not_true_eq_false, not_false_eq_true, true_or, or_true, or_self, false_or, or_false, forall_const, false_implies, true_implies, implies_true]
  repeat' (first | refine And.intro ?_ ?_ | with_reducible intro _)
  all_goals first | omega | exact oI (by split <;> omega)
theorem s_M_isDigit {d : Nat} {h : mHp} {c : Int} (h1 : -128 ≤ c) (h2 : c ≤ 255) : mRuns (d + 1) 12 0 [some (.int (zI c))] [] h (.inl (some (.int (zI (if 48 ≤ c ∧ c ≤ 57 then 1 else 0))), h)) := by
  refine vc_M_isDigit ?_
  simp (disch := omega) only [zI_add, zI_sub, zI_mul, zI_neg, zI_lit, zI_0, zI_1, zI_lt, zI_le, zI_eq, zI_clamp, zI_inT, zI_ite, mOb_0, mOb_1, mOb_3, mOb_4, mLd_1, mAr_1, mLen_1, mTrue_t, Int.toNat_zero, Int.toNat_one, true_and, and_true, not_true_eq_false, not_false_eq_true, true_or, or_true, or_self, false_or, or_false, forall_const, false_implies, true_implies, implies_true]
  repeat' (first | refine And.intro ?_ ?_ | with_reducible intro _)
  all_goals first | omega | exact oI (by split <;> omega)
theorem s_M_byteAt {d : Nat} {h : mHp} {n p : Int} {u : Int → Int} (n1 : n ≤ 700) (p0 : 0 ≤ p) (p1 : p ≤ n) (hX : XM h n u) (e : h.1 114 14 = zI n) : mRuns (d + 1) 10 0 [some (.ref 114), some (.int (zI p))] [] h (.inl (some (.int (zI (if p < n then u p else 0))), h)) := by
  refine vc_M_byteAt ?_
  by_cases c : p < n
  · rw [if_pos c]
    have ux := hX p p0 c
    simp (disch := omega) only [zI_add, zI_sub, zI_mul, zI_neg, zI_lit, zI_0, zI_1, zI_lt, zI_le, zI_eq, zI_clamp, zI_inT, zI_ite, mOb_0, mOb_1, mOb_3, mOb_4, mLd_1, mAr_1, mLen_1, mTrue_t, Int.toNat_zero, Int.toNat_one, true_and, and_true, not_true_eq_false, not_false_eq_true, true_or, or_true, or_self, false_or, or_false, forall_const, false_implies, true_implies, implies_true, e, ux]
    repeat' (first | refine And.intro ?_ ?_ | with_reducible intro _)
    all_goals first | omega | rfl
  · rw [if_neg c]
    simp (disch := omega) only [zI_add, zI_sub, zI_mul, zI_neg, zI_lit, zI_0, zI_1, zI_lt, zI_le, zI_eq, zI_clamp, zI_inT, zI_ite, mOb_0, mOb_1, mOb_3, mOb_4, mLd_1, mAr_1, mLen_1, mTrue_t, Int.toNat_zero, Int.toNat_one, true_and, and_true, not_true_eq_false, not_false_eq_true, true_or, or_true, or_self, false_or, or_false, forall_const, false_implies, true_implies, implies_true, e]
    repeat' (first | refine And.intro ?_ ?_ | with_reducible intro _)
    all_goals first | omega | rfl
theorem s_M_skip {d : Nat} {n : Int} {u : Int → Int} (n1 : n ≤ 700) (hu : uR u) : ∀ (j : Nat) (p : Int) (h : mHp), p + j = n → 0 ≤ p → XM h n u → h.1 114 14 = zI n → h.1 114 15 = zI p →
    ∃ h', h'.1 114 15 = zI (lSkip u n j p) ∧ kF [] [15] h h' ∧ ∀ out, mRuns (d + 2) 9 50 [some (.ref 114), none] [] h' out → mRuns (d + 2) 9 0 [some (.ref 114), none] [] h out := by
  intro j
  induction j with
  | zero =>
    intro p h hp p0 hX e2 e3
    refine ⟨h, e3, kF_refl _ _ _, fun out H => vc_M_steps ?_⟩
    simp (disch := omega) only [zI_add, zI_sub, zI_mul, zI_neg, zI_lit, zI_0, zI_1, zI_lt, zI_le, zI_eq, zI_clamp, zI_inT, zI_ite, mOb_0, mOb_1, mOb_3, mOb_4, mLd_1, mAr_1, mLen_1, mTrue_t, Int.toNat_zero, Int.toNat_one, true_and, and_true, not_true_eq_false, not_false_eq_true, true_or, or_true, or_self, false_or, or_false, forall_const, false_implies, true_implies, implies_true, e2, e3]
    repeat' (first | refine And.intro ?_ ?_ | with_reducible intro _)
    all_goals first | omega | exact H
  | succ j ih =>
    intro p h hp p0 hX e2 e3
    have hu' := hu p
    have F0 : kF [] [15] h (mPI h 114 15 (zI (p + 1))) := kF_pf (kF_refl _ _ _) (by simp) _
    have b := s_M_byteAt (d := d) n1 p0 (by omega) hX e2
    rw [if_pos (by omega)] at b
    unfold lSkip
    by_cases c : p < n ∧ (u p = 32 ∨ u p = 10)
    · rw [if_pos c]
      obtain ⟨h', a, f, k⟩ := ih (p + 1) (mPI h 114 15 (zI (p + 1))) (by omega) (by omega) (XM_fr hX F0 (by simp)) (by rw [hI_off (by omega)]; exact e2) (hI_same _ _ _ _)
      refine ⟨h', a, kF_trans F0 f, fun out H => vc_M_steps ?_⟩
      simp (disch := omega) only [zI_add, zI_sub, zI_mul, zI_neg, zI_lit, zI_0, zI_1, zI_lt, zI_le, zI_eq, zI_clamp, zI_inT, zI_ite, mOb_0, mOb_1, mOb_3, mOb_4, mLd_1, mAr_1, mLen_1, mTrue_t, Int.toNat_zero, Int.toNat_one, true_and, and_true, not_true_eq_false, not_false_eq_true, true_or, or_true, or_self, false_or, or_false, forall_const, false_implies, true_implies, implies_true, e2, e3]
      refine ⟨fun z => by omega, fun _ => ⟨_, _, b, ?_⟩⟩
      simp (disch := omega) only [zI_add, zI_sub, zI_mul, zI_neg, zI_lit, zI_0, zI_1, zI_lt, zI_le, zI_eq, zI_clamp, zI_inT, zI_ite, mOb_0, mOb_1, mOb_3, mOb_4, mLd_1, mAr_1, mLen_1, mTrue_t, Int.toNat_zero, Int.toNat_one, true_and, and_true, not_true_eq_false, not_false_eq_true, true_or, or_true, or_self, false_or, or_false, forall_const, false_implies, true_implies, implies_true, e3]
      refine ⟨fun _ => k out H, fun z => ⟨_, _, b, ?_⟩⟩
      simp (disch := omega) only [zI_add, zI_sub, zI_mul, zI_neg, zI_lit, zI_0, zI_1, zI_lt, zI_le, zI_eq, zI_clamp, zI_inT, zI_ite, mOb_0, mOb_1, mOb_3, mOb_4, mLd_1, mAr_1, mLen_1, mTrue_t, Int.toNat_zero, Int.toNat_one, true_and, and_true, not_true_eq_false, not_false_eq_true, true_or, or_true, or_self, false_or, or_false, forall_const, false_implies, true_implies, implies_true, e3]
      repeat' (first | refine And.intro ?_ ?_ | with_reducible intro _)
      all_goals first | omega | exact k out H
    · rw [if_neg c]
      refine ⟨h, e3, kF_refl _ _ _, fun out H => vc_M_steps ?_⟩
      simp (disch := omega) only [zI_add, zI_sub, zI_mul, zI_neg, zI_lit, zI_0, zI_1, zI_lt, zI_le, zI_eq, zI_clamp, zI_inT, zI_ite, mOb_0, mOb_1, mOb_3, mOb_4, mLd_1, mAr_1, mLen_1, mTrue_t, Int.toNat_zero, Int.toNat_one, true_and, and_true, not_true_eq_false, not_false_eq_true, true_or, or_true, or_self, false_or, or_false, forall_const, false_implies, true_implies, implies_true, e2, e3]
      refine ⟨fun z => by omega, fun _ => ⟨_, _, b, ?_⟩⟩
      simp (disch := omega) only [zI_add, zI_sub, zI_mul, zI_neg, zI_lit, zI_0, zI_1, zI_lt, zI_le, zI_eq, zI_clamp, zI_inT, zI_ite, mOb_0, mOb_1, mOb_3, mOb_4, mLd_1, mAr_1, mLen_1, mTrue_t, Int.toNat_zero, Int.toNat_one, true_and, and_true, not_true_eq_false, not_false_eq_true, true_or, or_true, or_self, false_or, or_false, forall_const, false_implies, true_implies, implies_true, e3]
      refine ⟨fun z => by omega, fun z => ⟨_, _, b, ?_⟩⟩
      simp (disch := omega) only [zI_add, zI_sub, zI_mul, zI_neg, zI_lit, zI_0, zI_1, zI_lt, zI_le, zI_eq, zI_clamp, zI_inT, zI_ite, mOb_0, mOb_1, mOb_3, mOb_4, mLd_1, mAr_1, mLen_1, mTrue_t, Int.toNat_zero, Int.toNat_one, true_and, and_true, not_true_eq_false, not_false_eq_true, true_or, or_true, or_self, false_or, or_false, forall_const, false_implies, true_implies, implies_true, e3]
      repeat' (first | refine And.intro ?_ ?_ | with_reducible intro _)
      all_goals first | omega | exact H
theorem s_M_wrd {d : Nat} {n st : Int} {u : Int → Int} (n1 : n ≤ 700) (hu : uR u) (s0 : 0 ≤ st) : ∀ (j : Nat) (p : Int) (h : mHp), p + j = n → st ≤ p → (∀ i, st ≤ i → i < p → 97 ≤ u i ∧ u i ≤ 122) → XM h n u → h.1 114 14 = zI n → h.1 114 15 = zI p → h.1 114 17 = zI st → h.2.1 114 20 = zL (pk u st (min (p - st) 7).toNat) →
    ∃ h', mRuns (d + 2) 9 103 [some (.ref 114), none] [] h (.inl (none, h')) ∧ h'.1 114 15 = zI (lWrd u n j p) ∧ h'.1 114 16 = zI 1 ∧ h'.1 114 18 = zI (lWrd u n j p - st) ∧ h'.2.1 114 20 = zL (pk u st (min (lWrd u n j p - st) 7).toNat) ∧ kF [] [15, 16, 18] h h' := by
  intro j
  induction j with
  | zero =>
    intro p h hp p0 hl hX e2 e3 e5 e6
    have b := s_M_byteAt (d := d) n1 (show 0 ≤ p by omega) (by omega) hX e2
    rw [if_neg (by omega)] at b
    have L := s_M_isLetter (d := d) (h := h) (c := 0) (by omega) (by omega)
    rw [if_neg (by omega)] at L
    refine ⟨mPI (mPI h 114 16 (zI 1)) 114 18 (zI (p - st)), vc_M_steps_103 ?_, by rw [hI_off (by omega), hI_off (by omega)]; exact e3, by rw [hI_off (by omega), hI_same], hI_same _ _ _ _, e6, kF_pf (kF_pf (kF_refl _ _ _) (by simp) _) (by simp) _⟩
    simp (disch := omega) only [zI_add, zI_sub, zI_mul, zI_neg, zI_lit, zI_0, zI_1, zI_lt, zI_le, zI_eq, zI_clamp, zI_inT, zI_ite, mOb_0, mOb_1, mOb_3, mOb_4, mLd_1, mAr_1, mLen_1, mTrue_t, Int.toNat_zero, Int.toNat_one, true_and, and_true, not_true_eq_false, not_false_eq_true, true_or, or_true, or_self, false_or, or_false, forall_const, false_implies, true_implies, implies_true, e3]
    refine ⟨_, _, b, _, _, L, ?_⟩
    simp (disch := omega) only [zI_add, zI_sub, zI_mul, zI_neg, zI_lit, zI_0, zI_1, zI_lt, zI_le, zI_eq, zI_clamp, zI_inT, zI_ite, mOb_0, mOb_1, mOb_3, mOb_4, mLd_1, mAr_1, mLen_1, mTrue_t, Int.toNat_zero, Int.toNat_one, true_and, and_true, not_true_eq_false, not_false_eq_true, true_or, or_true, or_self, false_or, or_false, forall_const, false_implies, true_implies, implies_true, e3, e5, hI_off, hI_same]
    repeat' (first | refine And.intro ?_ ?_ | with_reducible intro _)
    all_goals first | omega | rfl
  | succ j ih =>
    intro p h hp p0 hl hX e2 e3 e5 e6
    have hu' := hu p
    have b := s_M_byteAt (d := d) n1 (show 0 ≤ p by omega) (by omega) hX e2
    rw [if_pos (by omega)] at b
    have L := s_M_isLetter (d := d) (h := h) (c := u p) (by omega) (by omega)
    unfold lWrd
    by_cases c : p < n ∧ 97 ≤ u p ∧ u p ≤ 122
    · rw [if_pos c]
      rw [if_pos (by omega)] at L
      have hl' : ∀ i, st ≤ i → i < p + 1 → 97 ≤ u i ∧ u i ≤ 122 := fun i i0 i1 => by
        by_cases e : i = p
        · rw [e]; exact c.2
        · exact hl i i0 (by omega)
      by_cases c7 : 7 ≤ p - st
      · have F0 : kF [] [15, 16, 18] h (mPI h 114 15 (zI (p + 1))) := kF_pf (kF_refl _ _ _) (by simp) _
        obtain ⟨h', k, a1, a2, a3, a4, f⟩ := ih (p + 1) (mPI h 114 15 (zI (p + 1))) (by omega) (by omega) hl' (XM_fr hX F0 (by simp)) (by rw [hI_off (by omega)]; exact e2) (hI_same _ _ _ _) (by rw [hI_off (by omega)]; exact e5) (by rw [hI_2, e6, show min (p - st) 7 = 7 by omega, show min (p + 1 - st) 7 = 7 by omega])
        refine ⟨h', vc_M_steps_103 ?_, a1, a2, a3, a4, kF_trans F0 f⟩
        simp (disch := omega) only [zI_add, zI_sub, zI_mul, zI_neg, zI_lit, zI_0, zI_1, zI_lt, zI_le, zI_eq, zI_clamp, zI_inT, zI_ite, mOb_0, mOb_1, mOb_3, mOb_4, mLd_1, mAr_1, mLen_1, mTrue_t, Int.toNat_zero, Int.toNat_one, true_and, and_true, not_true_eq_false, not_false_eq_true, true_or, or_true, or_self, false_or, or_false, forall_const, false_implies, true_implies, implies_true, e3]
        refine ⟨_, _, b, _, _, L, ?_⟩
        simp (disch := omega) only [zI_add, zI_sub, zI_mul, zI_neg, zI_lit, zI_0, zI_1, zI_lt, zI_le, zI_eq, zI_clamp, zI_inT, zI_ite, mOb_0, mOb_1, mOb_3, mOb_4, mLd_1, mAr_1, mLen_1, mTrue_t, Int.toNat_zero, Int.toNat_one, true_and, and_true, not_true_eq_false, not_false_eq_true, true_or, or_true, or_self, false_or, or_false, forall_const, false_implies, true_implies, implies_true, e3, e5]
        repeat' (first | refine And.intro ?_ ?_ | with_reducible intro _)
        all_goals first | omega | exact k
      · have pr := pk_rng7 u st (m := (p - st).toNat) (by omega) (fun i hi => hl (st + i) (by omega) (by omega))
        have pe : pk u st (min (p + 1 - st) 7).toNat = 32 * pk u st (p - st).toNat + (u p - 96) := by
          rw [show (min (p + 1 - st) 7).toNat = (p - st).toNat + 1 by omega]
          show 32 * pk u st (p - st).toNat + (u (st + ((p - st).toNat : Int)) - 96) = _
          rw [show st + ((p - st).toNat : Int) = p by omega]
        have e6' : h.2.1 114 20 = zL (pk u st (p - st).toNat) := by rw [e6, show min (p - st) 7 = p - st by omega]
        have F0 : kF [] [15, 16, 18] h (mPI (mPL h 114 20 (zL (32 * pk u st (p - st).toNat + (u p - 96)))) 114 15 (zI (p + 1))) := kF_pf (kF_pl (kF_refl _ _ _) _ _) (by simp) _
        obtain ⟨h', k, a1, a2, a3, a4, f⟩ := ih (p + 1) (mPI (mPL h 114 20 (zL (32 * pk u st (p - st).toNat + (u p - 96)))) 114 15 (zI (p + 1))) (by omega) (by omega) hl' (XM_fr hX F0 (by simp)) (by rw [hI_off (by omega)]; exact e2) (hI_same _ _ _ _) (by rw [hI_off (by omega)]; exact e5) (by rw [hI_2, hL_same, pe])
        refine ⟨h', vc_M_steps_103 ?_, a1, a2, a3, a4, kF_trans F0 f⟩
        simp (disch := omega) only [zI_add, zI_sub, zI_mul, zI_neg, zI_lit, zI_0, zI_1, zI_lt, zI_le, zI_eq, zI_clamp, zI_inT, zI_ite, mOb_0, mOb_1, mOb_3, mOb_4, mLd_1, mAr_1, mLen_1, mTrue_t, Int.toNat_zero, Int.toNat_one, true_and, and_true, not_true_eq_false, not_false_eq_true, true_or, or_true, or_self, false_or, or_false, forall_const, false_implies, true_implies, implies_true, e3]
        refine ⟨_, _, b, _, _, L, ?_⟩
        simp (disch := omega) only [zI_add, zI_sub, zI_mul, zI_neg, zI_lit, zI_0, zI_1, zI_lt, zI_le, zI_eq, zI_clamp, zI_inT, zI_ite, mOb_0, mOb_1, mOb_3, mOb_4, mLd_1, mAr_1, mLen_1, mTrue_t, Int.toNat_zero, Int.toNat_one, true_and, and_true, not_true_eq_false, not_false_eq_true, true_or, or_true, or_self, false_or, or_false, forall_const, false_implies, true_implies, implies_true, e3, e5]
        refine ⟨fun z => by omega, fun _ => ⟨fun z => by omega, fun _ => ⟨_, _, b, ?_⟩⟩⟩
        simp (disch := omega) only [zI_add, zI_sub, zI_mul, zI_neg, zI_lit, zI_0, zI_1, zI_lt, zI_le, zI_eq, zI_clamp, zI_inT, zI_ite, mOb_0, mOb_1, mOb_3, mOb_4, mLd_1, mAr_1, mLen_1, mTrue_t, Int.toNat_zero, Int.toNat_one, true_and, and_true, not_true_eq_false, not_false_eq_true, true_or, or_true, or_self, false_or, or_false, forall_const, false_implies, true_implies, implies_true, e3, e6', hL_1, zI_toL]
        rw [show (zL 5 : Int64) = (nI 5).toInt64 from by decide, zL_pk pr.1 (c := u p - 96) (by omega) (by omega)]
        exact k
    · rw [if_neg c]
      rw [if_neg (by omega)] at L
      refine ⟨mPI (mPI h 114 16 (zI 1)) 114 18 (zI (p - st)), vc_M_steps_103 ?_, by rw [hI_off (by omega), hI_off (by omega)]; exact e3, by rw [hI_off (by omega), hI_same], hI_same _ _ _ _, e6, kF_pf (kF_pf (kF_refl _ _ _) (by simp) _) (by simp) _⟩
      simp (disch := omega) only [zI_add, zI_sub, zI_mul, zI_neg, zI_lit, zI_0, zI_1, zI_lt, zI_le, zI_eq, zI_clamp, zI_inT, zI_ite, mOb_0, mOb_1, mOb_3, mOb_4, mLd_1, mAr_1, mLen_1, mTrue_t, Int.toNat_zero, Int.toNat_one, true_and, and_true, not_true_eq_false, not_false_eq_true, true_or, or_true, or_self, false_or, or_false, forall_const, false_implies, true_implies, implies_true, e3]
      refine ⟨_, _, b, _, _, L, ?_⟩
      simp (disch := omega) only [zI_add, zI_sub, zI_mul, zI_neg, zI_lit, zI_0, zI_1, zI_lt, zI_le, zI_eq, zI_clamp, zI_inT, zI_ite, mOb_0, mOb_1, mOb_3, mOb_4, mLd_1, mAr_1, mLen_1, mTrue_t, Int.toNat_zero, Int.toNat_one, true_and, and_true, not_true_eq_false, not_false_eq_true, true_or, or_true, or_self, false_or, or_false, forall_const, false_implies, true_implies, implies_true, e3, e5, hI_off, hI_same]
      repeat' (first | refine And.intro ?_ ?_ | with_reducible intro _)
      all_goals first | omega | rfl
/-- the model's number: the first four digits -/
theorem s_M_dig {d : Nat} {n st : Int} {u : Int → Int} (n1 : n ≤ 700) (hu : uR u) (s0 : 0 ≤ st) : ∀ (j : Nat) (p v w : Int) (h : mHp), p + j = n → st ≤ p → vB (p - st) v → 0 ≤ w → w ≤ 9999 → (p - st ≤ 4 → w = v) → XM h n u → h.1 114 14 = zI n → h.1 114 15 = zI p → h.1 114 17 = zI st → h.1 114 19 = zI w →
    ∃ h', mRuns (d + 2) 9 182 [some (.ref 114), none] [] h (.inl (none, h')) ∧ h'.1 114 15 = zI (lDig u n j p) ∧ h'.1 114 16 = zI 2 ∧ h'.1 114 18 = zI (lDig u n j p - st) ∧ (∃ w' : Int, h'.1 114 19 = zI w' ∧ 0 ≤ w' ∧ w' ≤ 9999 ∧ (lDig u n j p - st ≤ 4 → w' = lVal u n st j p v)) ∧ kF [] [15, 16, 18, 19] h h' := by
  intro j
  induction j with
  | zero =>
    intro p v w h hp p0 hv w0 w1 hw hX e2 e3 e5 e6
    have b := s_M_byteAt (d := d) n1 (show 0 ≤ p by omega) (by omega) hX e2
    rw [if_neg (by omega)] at b
    have L := s_M_isDigit (d := d) (h := h) (c := 0) (by omega) (by omega)
    rw [if_neg (by omega)] at L
    refine ⟨mPI (mPI h 114 16 (zI 2)) 114 18 (zI (p - st)), vc_M_steps_182 ?_, by rw [hI_off (by omega), hI_off (by omega)]; exact e3, by rw [hI_off (by omega), hI_same], hI_same _ _ _ _, ⟨w, by rw [hI_off (by omega), hI_off (by omega)]; exact e6, w0, w1, hw⟩, kF_pf (kF_pf (kF_refl _ _ _) (by simp) _) (by simp) _⟩
    simp (disch := omega) only [zI_add, zI_sub, zI_mul, zI_neg, zI_lit, zI_0, zI_1, zI_lt, zI_le, zI_eq, zI_clamp, zI_inT, zI_ite, mOb_0, mOb_1, mOb_3, mOb_4, mLd_1, mAr_1, mLen_1, mTrue_t, Int.toNat_zero, Int.toNat_one, true_and, and_true, not_true_eq_false, not_false_eq_true, true_or, or_true, or_self, false_or, or_false, forall_const, false_implies, true_implies, implies_true, e3]
    refine ⟨_, _, b, _, _, L, ?_⟩
    simp (disch := omega) only [zI_add, zI_sub, zI_mul, zI_neg, zI_lit, zI_0, zI_1, zI_lt, zI_le, zI_eq, zI_clamp, zI_inT, zI_ite, mOb_0, mOb_1, mOb_3, mOb_4, mLd_1, mAr_1, mLen_1, mTrue_t, Int.toNat_zero, Int.toNat_one, true_and, and_true, not_true_eq_false, not_false_eq_true, true_or, or_true, or_self, false_or, or_false, forall_const, false_implies, true_implies, implies_true, e3, e5, hI_off, hI_same]
    repeat' (first | refine And.intro ?_ ?_ | with_reducible intro _)
    all_goals first | omega | rfl
  | succ j ih =>
    intro p v w h hp p0 hv w0 w1 hw hX e2 e3 e5 e6
    have hu' := hu p
    have b := s_M_byteAt (d := d) n1 (show 0 ≤ p by omega) (by omega) hX e2
    rw [if_pos (by omega)] at b
    have L := s_M_isDigit (d := d) (h := h) (c := u p) (by omega) (by omega)
    unfold lDig lVal
    by_cases c : p < n ∧ 48 ≤ u p ∧ u p ≤ 57
    · rw [if_pos c, if_pos c]
      rw [if_pos (by omega)] at L
      by_cases c4 : 4 ≤ p - st
      · rw [if_neg (by omega)]
        have F0 : kF [] [15, 16, 18, 19] h (mPI h 114 15 (zI (p + 1))) := kF_pf (kF_refl _ _ _) (by simp) _
        obtain ⟨h', k, a1, a2, a3, a4, f⟩ := ih (p + 1) 10000 w (mPI h 114 15 (zI (p + 1))) (by omega) (by omega) (by unfold vB at hv ⊢; omega) w0 w1 (by omega) (XM_fr hX F0 (by simp)) (by rw [hI_off (by omega)]; exact e2) (hI_same _ _ _ _) (by rw [hI_off (by omega)]; exact e5) (by rw [hI_off (by omega)]; exact e6)
        refine ⟨h', vc_M_steps_182 ?_, a1, a2, a3, a4, kF_trans F0 f⟩
        simp (disch := omega) only [zI_add, zI_sub, zI_mul, zI_neg, zI_lit, zI_0, zI_1, zI_lt, zI_le, zI_eq, zI_clamp, zI_inT, zI_ite, mOb_0, mOb_1, mOb_3, mOb_4, mLd_1, mAr_1, mLen_1, mTrue_t, Int.toNat_zero, Int.toNat_one, true_and, and_true, not_true_eq_false, not_false_eq_true, true_or, or_true, or_self, false_or, or_false, forall_const, false_implies, true_implies, implies_true, e3]
        refine ⟨_, _, b, _, _, L, ?_⟩
        simp (disch := omega) only [zI_add, zI_sub, zI_mul, zI_neg, zI_lit, zI_0, zI_1, zI_lt, zI_le, zI_eq, zI_clamp, zI_inT, zI_ite, mOb_0, mOb_1, mOb_3, mOb_4, mLd_1, mAr_1, mLen_1, mTrue_t, Int.toNat_zero, Int.toNat_one, true_and, and_true, not_true_eq_false, not_false_eq_true, true_or, or_true, or_self, false_or, or_false, forall_const, false_implies, true_implies, implies_true, e3, e5]
        repeat' (first | refine And.intro ?_ ?_ | with_reducible intro _)
        all_goals first | omega | exact k
      · rw [if_pos (by omega)]
        have hw := hw (by omega)
        have wv : 10 * w + u p - 48 = v * 10 + u p - 48 := by omega
        have F0 : kF [] [15, 16, 18, 19] h (mPI (mPI h 114 19 (zI (10 * w + u p - 48))) 114 15 (zI (p + 1))) := kF_pf (kF_pf (kF_refl _ _ _) (by simp) _) (by simp) _
        obtain ⟨h', k, a1, a2, a3, a4, f⟩ := ih (p + 1) (v * 10 + u p - 48) (10 * w + u p - 48) (mPI (mPI h 114 19 (zI (10 * w + u p - 48))) 114 15 (zI (p + 1))) (by omega) (by omega) (by unfold vB at hv ⊢; omega) (by omega) (by unfold vB at hv; omega) (by omega) (XM_fr hX F0 (by simp)) (by rw [hI_off (by omega), hI_off (by omega)]; exact e2) (hI_same _ _ _ _) (by rw [hI_off (by omega), hI_off (by omega)]; exact e5) (by rw [hI_off (by omega), hI_same])
        refine ⟨h', vc_M_steps_182 ?_, a1, a2, a3, a4, kF_trans F0 f⟩
        simp (disch := omega) only [zI_add, zI_sub, zI_mul, zI_neg, zI_lit, zI_0, zI_1, zI_lt, zI_le, zI_eq, zI_clamp, zI_inT, zI_ite, mOb_0, mOb_1, mOb_3, mOb_4, mLd_1, mAr_1, mLen_1, mTrue_t, Int.toNat_zero, Int.toNat_one, true_and, and_true, not_true_eq_false, not_false_eq_true, true_or, or_true, or_self, false_or, or_false, forall_const, false_implies, true_implies, implies_true, e3]
        refine ⟨_, _, b, _, _, L, ?_⟩
        simp (disch := omega) only [zI_add, zI_sub, zI_mul, zI_neg, zI_lit, zI_0, zI_1, zI_lt, zI_le, zI_eq, zI_clamp, zI_inT, zI_ite, mOb_0, mOb_1, mOb_3, mOb_4, mLd_1, mAr_1, mLen_1, mTrue_t, Int.toNat_zero, Int.toNat_one, true_and, and_true, not_true_eq_false, not_false_eq_true, true_or, or_true, or_self, false_or, or_false, forall_const, false_implies, true_implies, implies_true, e3, e5]
        refine ⟨fun z => by omega, fun _ => ⟨fun z => by omega, fun _ => ⟨_, _, b, ?_⟩⟩⟩
        simp (disch := omega) only [zI_add, zI_sub, zI_mul, zI_neg, zI_lit, zI_0, zI_1, zI_lt, zI_le, zI_eq, zI_clamp, zI_inT, zI_ite, mOb_0, mOb_1, mOb_3, mOb_4, mLd_1, mAr_1, mLen_1, mTrue_t, Int.toNat_zero, Int.toNat_one, true_and, and_true, not_true_eq_false, not_false_eq_true, true_or, or_true, or_self, false_or, or_false, forall_const, false_implies, true_implies, implies_true, e3, e6, hI_off, hI_same]
        exact k
    · rw [if_neg c, if_neg c]
      rw [if_neg (by omega)] at L
      refine ⟨mPI (mPI h 114 16 (zI 2)) 114 18 (zI (p - st)), vc_M_steps_182 ?_, by rw [hI_off (by omega), hI_off (by omega)]; exact e3, by rw [hI_off (by omega), hI_same], hI_same _ _ _ _, ⟨w, by rw [hI_off (by omega), hI_off (by omega)]; exact e6, w0, w1, hw⟩, kF_pf (kF_pf (kF_refl _ _ _) (by simp) _) (by simp) _⟩
      simp (disch := omega) only [zI_add, zI_sub, zI_mul, zI_neg, zI_lit, zI_0, zI_1, zI_lt, zI_le, zI_eq, zI_clamp, zI_inT, zI_ite, mOb_0, mOb_1, mOb_3, mOb_4, mLd_1, mAr_1, mLen_1, mTrue_t, Int.toNat_zero, Int.toNat_one, true_and, and_true, not_true_eq_false, not_false_eq_true, true_or, or_true, or_self, false_or, or_false, forall_const, false_implies, true_implies, implies_true, e3]
      refine ⟨_, _, b, _, _, L, ?_⟩
      simp (disch := omega) only [zI_add, zI_sub, zI_mul, zI_neg, zI_lit, zI_0, zI_1, zI_lt, zI_le, zI_eq, zI_clamp, zI_inT, zI_ite, mOb_0, mOb_1, mOb_3, mOb_4, mLd_1, mAr_1, mLen_1, mTrue_t, Int.toNat_zero, Int.toNat_one, true_and, and_true, not_true_eq_false, not_false_eq_true, true_or, or_true, or_self, false_or, or_false, forall_const, false_implies, true_implies, implies_true, e3, e5, hI_off, hI_same]
      repeat' (first | refine And.intro ?_ ?_ | with_reducible intro _)
      all_goals first | omega | rfl
/-- what the model keeps of a token -/
def KT (h : mHp) (u : Int → Int) (so st at' va : Int) : Prop :=
  h.1 114 16 = zI so ∧ h.1 114 17 = zI st ∧ h.1 114 15 = zI at' ∧ h.1 114 18 = zI (at' - st) ∧ (∃ w : Int, h.1 114 19 = zI w ∧ 0 ≤ w ∧ w ≤ 9999 ∧ (so = 2 → at' - st ≤ 4 → w = va)) ∧ (so = 1 → h.2.1 114 20 = zL (pk u st (min (at' - st) 7).toNat))
theorem s_M_steps {d : Nat} {n p : Int} {u : Int → Int} {h : mHp} (n1 : n ≤ 700) (hu : uR u) (p0 : 0 ≤ p) (p1 : p ≤ n) (hX : XM h n u) (e2 : h.1 114 14 = zI n) (e3 : h.1 114 15 = zI p) :
    ∃ h', mRuns (d + 2) 9 0 [some (.ref 114), none] [] h (.inl (none, h')) ∧ KT h' u (lex u n p).1 (lex u n p).2.1 (lex u n p).2.2.1 (lex u n p).2.2.2 ∧ kF [] [15, 16, 17, 18, 19] h h' := by
  obtain ⟨h1, a1, f1, k1⟩ := s_M_skip (d := d) n1 hu (n - p).toNat p h (by omega) p0 hX e2 e3
  have hs := lSkip_rng u n (n - p).toNat p (by omega)
  have F1 : kF [] [15, 16, 17, 18, 19] h h1 := kF_mono f1 (by simp) (by simp)
  have b2 : h1.1 114 14 = zI n := by rw [f1.2.1 14 (by simp)]; exact e2
  have x1 : XM h1 n u := XM_fr hX f1 (by simp)
  unfold lex
  generalize lSkip u n (n - p).toNat p = s at hs a1 ⊢
  have F2 : kF [] [15, 16, 17, 18, 19] h1 (mPI (mPL (mPI h1 114 17 (zI s)) 114 20 (zL 0)) 114 19 (zI 0)) := kF_pf (kF_pl (kF_pf (kF_refl _ _ _) (by simp) _) _ _) (by simp) _
  have x2 := XM_fr x1 F2 (by simp)
  have c2 : (mPI (mPL (mPI h1 114 17 (zI s)) 114 20 (zL 0)) 114 19 (zI 0)).1 114 14 = zI n := by rw [F2.2.1 14 (by simp)]; exact b2
  have c3 : (mPI (mPL (mPI h1 114 17 (zI s)) 114 20 (zL 0)) 114 19 (zI 0)).1 114 15 = zI s := by rw [hI_off (by omega), hL_1, hI_off (by omega)]; exact a1
  have c5 : (mPI (mPL (mPI h1 114 17 (zI s)) 114 20 (zL 0)) 114 19 (zI 0)).1 114 17 = zI s := by rw [hI_off (by omega), hL_1, hI_same]
  have c9 : (mPI (mPL (mPI h1 114 17 (zI s)) 114 20 (zL 0)) 114 19 (zI 0)).1 114 19 = zI 0 := hI_same _ _ _ _
  have cL : (mPI (mPL (mPI h1 114 17 (zI s)) 114 20 (zL 0)) 114 19 (zI 0)).2.1 114 20 = zL 0 := by rw [hI_2, hL_same]
  have F3 := kF_trans F1 F2
  have K : ∀ out, (∃ (x2 : Int32) (h1' : mHp), mRuns (d + 1) 10 0 [some (.ref 114), some (.int (zI s))] [] (mPI (mPL (mPI h1 114 17 (zI s)) 114 20 (zL 0)) 114 19 (zI 0)) (.inl (some (.int x2), h1')) ∧
 (((h1'.1 114 15) < (h1'.1 114 14) → (∃ (x4 : Int32) (h3 : mHp), mRuns (d + 1) 11 0 [some (.int x2)] [] h1' (.inl (some (.int x4), h3)) ∧
 ((x4 = 0 → (∃ (x6 : Int32) (h5 : mHp), mRuns (d + 1) 12 0 [some (.int x2)] [] h3 (.inl (some (.int x6), h5)) ∧
 ((x6 = 0 → ((¬ x2 = (nI 59) → out = .inl (none, mPI (mPI (mPI h5 114 15 ((h5.1 114 15) + (nI 1))) 114 16 (nI 4)) 114 18 (((mPI (mPI h5 114 15 ((h5.1 114 15) + (nI 1))) 114 16 (nI 4)).1 114 15) - ((mPI (mPI h5 114 15 ((h5.1 114 15) + (nI 1))) 114 16 (nI 4)).1 114 17)))) ∧
 (x2 = (nI 59) → out = .inl (none, mPI (mPI (mPI h5 114 15 ((h5.1 114 15) + (nI 1))) 114 16 (nI 3)) 114 18 (((mPI (mPI h5 114 15 ((h5.1 114 15) + (nI 1))) 114 16 (nI 3)).1 114 15) - ((mPI (mPI h5 114 15 ((h5.1 114 15) + (nI 1))) 114 16 (nI 3)).1 114 17)))))) ∧
 (¬ x6 = 0 → mRuns (d + 2) 9 182 [some (.ref 114), none] [] h5 out)))) ∧
 (¬ x4 = 0 → mRuns (d + 2) 9 103 [some (.ref 114), none] [] h3 out)))) ∧
 (¬ (h1'.1 114 15) < (h1'.1 114 14) → out = .inl (none, mPI (mPI h1' 114 16 (nI 0)) 114 18 (((mPI h1' 114 16 (nI 0)).1 114 15) - ((mPI h1' 114 16 (nI 0)).1 114 17)))))) → mRuns (d + 2) 9 0 [some (.ref 114), none] [] h out := by
    intro out H
    refine k1 out (vc_M_steps_50 ?_)
    rw [a1, show lN 0 = zL 0 from rfl, show nI 0 = zI 0 from rfl, c3]
    exact H
  clear k1
  generalize mPI (mPL (mPI h1 114 17 (zI s)) 114 20 (zL 0)) 114 19 (zI 0) = h2 at F2 x2 c2 c3 c5 c9 cL F3 K
  have b := s_M_byteAt (d := d) n1 (show 0 ≤ s by omega) (by omega) x2 c2
  by_cases q0 : n ≤ s
  · rw [if_pos q0]
    rw [if_neg (by omega)] at b
    refine ⟨mPI (mPI h2 114 16 (zI 0)) 114 18 (zI (s - s)), K _ ⟨_, _, b, ?_⟩, ⟨by rw [hI_off (by omega), hI_same], by rw [hI_off (by omega), hI_off (by omega)]; exact c5, by rw [hI_off (by omega), hI_off (by omega)]; exact c3, hI_same _ _ _ _, ⟨0, by rw [hI_off (by omega), hI_off (by omega)]; exact c9, by omega, by omega, fun _ _ => rfl⟩, fun z => absurd z (by show ¬ (0:Int) = 1; omega)⟩, kF_trans F3 (kF_pf (kF_pf (kF_refl _ _ _) (by simp) _) (by simp) _)⟩
    simp (disch := omega) only [zI_add, zI_sub, zI_mul, zI_neg, zI_lit, zI_0, zI_1, zI_lt, zI_le, zI_eq, zI_clamp, zI_inT, zI_ite, mOb_0, mOb_1, mOb_3, mOb_4, mLd_1, mAr_1, mLen_1, mTrue_t, Int.toNat_zero, Int.toNat_one, true_and, and_true, not_true_eq_false, not_false_eq_true, true_or, or_true, or_self, false_or, or_false, forall_const, false_implies, true_implies, implies_true, c2, c3, c5, hI_off, hI_same]
    repeat' (first | refine And.intro ?_ ?_ | with_reducible intro _)
    all_goals first | omega | rfl
  · rw [if_neg q0]
    have hu' := hu s
    rw [if_pos (by omega)] at b
    have L := s_M_isLetter (d := d) (h := h2) (c := u s) (by omega) (by omega)
    have D := s_M_isDigit (d := d) (h := h2) (c := u s) (by omega) (by omega)
    by_cases q1 : 97 ≤ u s ∧ u s ≤ 122
    · rw [if_pos q1]
      rw [if_pos q1] at L
      obtain ⟨h', k, g1, g2, g3, g4, f⟩ := s_M_wrd (d := d) n1 hu (show 0 ≤ s by omega) (n - s).toNat s h2 (by omega) (by omega) (fun i a b => absurd a (by omega)) x2 c2 c3 c5 (by rw [cL, show (min (s - s) 7).toNat = 0 by omega]; rfl)
      refine ⟨h', K _ ⟨_, _, b, ?_⟩, ⟨g2, by rw [f.2.1 17 (by simp)]; exact c5, g1, g3, ⟨0, by rw [f.2.1 19 (by simp)]; exact c9, by omega, by omega, fun _ _ => rfl⟩, fun _ => g4⟩, kF_trans F3 (kF_mono f (by simp) (by simp))⟩
      simp (disch := omega) only [zI_add, zI_sub, zI_mul, zI_neg, zI_lit, zI_0, zI_1, zI_lt, zI_le, zI_eq, zI_clamp, zI_inT, zI_ite, mOb_0, mOb_1, mOb_3, mOb_4, mLd_1, mAr_1, mLen_1, mTrue_t, Int.toNat_zero, Int.toNat_one, true_and, and_true, not_true_eq_false, not_false_eq_true, true_or, or_true, or_self, false_or, or_false, forall_const, false_implies, true_implies, implies_true, c2, c3]
      refine ⟨fun _ => ⟨_, _, L, ?_⟩, fun z => by omega⟩
      simp (disch := omega) only [zI_add, zI_sub, zI_mul, zI_neg, zI_lit, zI_0, zI_1, zI_lt, zI_le, zI_eq, zI_clamp, zI_inT, zI_ite, mOb_0, mOb_1, mOb_3, mOb_4, mLd_1, mAr_1, mLen_1, mTrue_t, Int.toNat_zero, Int.toNat_one, true_and, and_true, not_true_eq_false, not_false_eq_true, true_or, or_true, or_self, false_or, or_false, forall_const, false_implies, true_implies, implies_true]
      repeat' (first | refine And.intro ?_ ?_ | with_reducible intro _)
      all_goals first | omega | exact k
    · rw [if_neg q1]
      rw [if_neg q1] at L
      by_cases q2 : 48 ≤ u s ∧ u s ≤ 57
      · rw [if_pos q2]
        rw [if_pos q2] at D
        obtain ⟨h', k, g1, g2, g3, ⟨w, g4, g5, g6, g7⟩, f⟩ := s_M_dig (d := d) n1 hu (show 0 ≤ s by omega) (n - s).toNat s 0 0 h2 (by omega) (by omega) (by unfold vB; omega) (by omega) (by omega) (fun _ => rfl) x2 c2 c3 c5 c9
        refine ⟨h', K _ ⟨_, _, b, ?_⟩, ⟨g2, by rw [f.2.1 17 (by simp)]; exact c5, g1, g3, ⟨w, g4, g5, g6, fun _ z => g7 z⟩, fun z => absurd z (by show ¬ (2:Int) = 1; omega)⟩, kF_trans F3 (kF_mono f (by simp) (by simp))⟩
        simp (disch := omega) only [zI_add, zI_sub, zI_mul, zI_neg, zI_lit, zI_0, zI_1, zI_lt, zI_le, zI_eq, zI_clamp, zI_inT, zI_ite, mOb_0, mOb_1, mOb_3, mOb_4, mLd_1, mAr_1, mLen_1, mTrue_t, Int.toNat_zero, Int.toNat_one, true_and, and_true, not_true_eq_false, not_false_eq_true, true_or, or_true, or_self, false_or, or_false, forall_const, false_implies, true_implies, implies_true, c2, c3]
        refine ⟨fun _ => ⟨_, _, L, ?_⟩, fun z => by omega⟩
        simp (disch := omega) only [zI_add, zI_sub, zI_mul, zI_neg, zI_lit, zI_0, zI_1, zI_lt, zI_le, zI_eq, zI_clamp, zI_inT, zI_ite, mOb_0, mOb_1, mOb_3, mOb_4, mLd_1, mAr_1, mLen_1, mTrue_t, Int.toNat_zero, Int.toNat_one, true_and, and_true, not_true_eq_false, not_false_eq_true, true_or, or_true, or_self, false_or, or_false, forall_const, false_implies, true_implies, implies_true]
        refine ⟨_, _, D, ?_⟩
        simp (disch := omega) only [zI_add, zI_sub, zI_mul, zI_neg, zI_lit, zI_0, zI_1, zI_lt, zI_le, zI_eq, zI_clamp, zI_inT, zI_ite, mOb_0, mOb_1, mOb_3, mOb_4, mLd_1, mAr_1, mLen_1, mTrue_t, Int.toNat_zero, Int.toNat_one, true_and, and_true, not_true_eq_false, not_false_eq_true, true_or, or_true, or_self, false_or, or_false, forall_const, false_implies, true_implies, implies_true]
        repeat' (first | refine And.intro ?_ ?_ | with_reducible intro _)
        all_goals first | omega | exact k
      · rw [if_neg q2]
        rw [if_neg q2] at D
        by_cases q3 : u s = 59
        · rw [if_pos q3]
          refine ⟨mPI (mPI (mPI h2 114 15 (zI (s + 1))) 114 16 (zI 3)) 114 18 (zI (s + 1 - s)), K _ ⟨_, _, b, ?_⟩, ⟨by rw [hI_off (by omega), hI_same], by rw [hI_off (by omega), hI_off (by omega), hI_off (by omega)]; exact c5, by rw [hI_off (by omega), hI_off (by omega), hI_same], hI_same _ _ _ _, ⟨0, by rw [hI_off (by omega), hI_off (by omega), hI_off (by omega)]; exact c9, by omega, by omega, fun _ _ => rfl⟩, fun z => absurd z (by show ¬ (3:Int) = 1; omega)⟩, kF_trans F3 (kF_pf (kF_pf (kF_pf (kF_refl _ _ _) (by simp) _) (by simp) _) (by simp) _)⟩
          simp (disch := omega) only [zI_add, zI_sub, zI_mul, zI_neg, zI_lit, zI_0, zI_1, zI_lt, zI_le, zI_eq, zI_clamp, zI_inT, zI_ite, mOb_0, mOb_1, mOb_3, mOb_4, mLd_1, mAr_1, mLen_1, mTrue_t, Int.toNat_zero, Int.toNat_one, true_and, and_true, not_true_eq_false, not_false_eq_true, true_or, or_true, or_self, false_or, or_false, forall_const, false_implies, true_implies, implies_true, c2, c3]
          refine ⟨fun _ => ⟨_, _, L, ?_⟩, fun z => by omega⟩
          simp (disch := omega) only [zI_add, zI_sub, zI_mul, zI_neg, zI_lit, zI_0, zI_1, zI_lt, zI_le, zI_eq, zI_clamp, zI_inT, zI_ite, mOb_0, mOb_1, mOb_3, mOb_4, mLd_1, mAr_1, mLen_1, mTrue_t, Int.toNat_zero, Int.toNat_one, true_and, and_true, not_true_eq_false, not_false_eq_true, true_or, or_true, or_self, false_or, or_false, forall_const, false_implies, true_implies, implies_true]
          refine ⟨_, _, D, ?_⟩
          simp (disch := omega) only [zI_add, zI_sub, zI_mul, zI_neg, zI_lit, zI_0, zI_1, zI_lt, zI_le, zI_eq, zI_clamp, zI_inT, zI_ite, mOb_0, mOb_1, mOb_3, mOb_4, mLd_1, mAr_1, mLen_1, mTrue_t, Int.toNat_zero, Int.toNat_one, true_and, and_true, not_true_eq_false, not_false_eq_true, true_or, or_true, or_self, false_or, or_false, forall_const, false_implies, true_implies, implies_true, c3, c5, hI_off, hI_same]
          repeat' (first | refine And.intro ?_ ?_ | with_reducible intro _)
          all_goals first | omega | rfl
        · rw [if_neg q3]
          refine ⟨mPI (mPI (mPI h2 114 15 (zI (s + 1))) 114 16 (zI 4)) 114 18 (zI (s + 1 - s)), K _ ⟨_, _, b, ?_⟩, ⟨by rw [hI_off (by omega), hI_same], by rw [hI_off (by omega), hI_off (by omega), hI_off (by omega)]; exact c5, by rw [hI_off (by omega), hI_off (by omega), hI_same], hI_same _ _ _ _, ⟨0, by rw [hI_off (by omega), hI_off (by omega), hI_off (by omega)]; exact c9, by omega, by omega, fun _ _ => rfl⟩, fun z => absurd z (by show ¬ (4:Int) = 1; omega)⟩, kF_trans F3 (kF_pf (kF_pf (kF_pf (kF_refl _ _ _) (by simp) _) (by simp) _) (by simp) _)⟩
          simp (disch := omega) only [zI_add, zI_sub, zI_mul, zI_neg, zI_lit, zI_0, zI_1, zI_lt, zI_le, zI_eq, zI_clamp, zI_inT, zI_ite, mOb_0, mOb_1, mOb_3, mOb_4, mLd_1, mAr_1, mLen_1, mTrue_t, Int.toNat_zero, Int.toNat_one, true_and, and_true, not_true_eq_false, not_false_eq_true, true_or, or_true, or_self, false_or, or_false, forall_const, false_implies, true_implies, implies_true, c2, c3]
          refine ⟨fun _ => ⟨_, _, L, ?_⟩, fun z => by omega⟩
          simp (disch := omega) only [zI_add, zI_sub, zI_mul, zI_neg, zI_lit, zI_0, zI_1, zI_lt, zI_le, zI_eq, zI_clamp, zI_inT, zI_ite, mOb_0, mOb_1, mOb_3, mOb_4, mLd_1, mAr_1, mLen_1, mTrue_t, Int.toNat_zero, Int.toNat_one, true_and, and_true, not_true_eq_false, not_false_eq_true, true_or, or_true, or_self, false_or, or_false, forall_const, false_implies, true_implies, implies_true]
          refine ⟨_, _, D, ?_⟩
          simp (disch := omega) only [zI_add, zI_sub, zI_mul, zI_neg, zI_lit, zI_0, zI_1, zI_lt, zI_le, zI_eq, zI_clamp, zI_inT, zI_ite, mOb_0, mOb_1, mOb_3, mOb_4, mLd_1, mAr_1, mLen_1, mTrue_t, Int.toNat_zero, Int.toNat_one, true_and, and_true, not_true_eq_false, not_false_eq_true, true_or, or_true, or_self, false_or, or_false, forall_const, false_implies, true_implies, implies_true, c3, c5, hI_off, hI_same]
          repeat' (first | refine And.intro ?_ ?_ | with_reducible intro _)
          all_goals first | omega | rfl

/-! L3, words on both sides -/
def pkL (l : List Nat) : Int := l.foldl (fun (a : Int) (c : Nat) => 32 * a + ((c : Int) - 96)) 0
theorem pkL_snoc (l : List Nat) (c : Nat) : pkL (l ++ [c]) = 32 * pkL l + ((c : Int) - 96) := by unfold pkL; rw [List.foldl_append]; rfl
theorem l_snoc {l : List Nat} (e : l ≠ []) : ∃ L c, l = L ++ [c] := ⟨l.dropLast, l.getLast e, (List.dropLast_concat_getLast e).symm⟩
theorem pkL_nn : ∀ (m : Nat) (l : List Nat), l.length = m → (∀ c, c ∈ l → 97 ≤ c ∧ c ≤ 122) → 0 ≤ pkL l := by
  intro m
  induction m with
  | zero => intro l hl _; rw [List.length_eq_zero_iff] at hl; subst hl; exact Int.le_refl 0
  | succ m ih =>
    intro l hl hc
    obtain ⟨L, c, rfl⟩ := l_snoc (l := l) (fun e => by rw [e] at hl; simp at hl)
    have a := ih L (by simp at hl; exact hl) (fun x hx => hc x (by simp [hx]))
    have b := hc c (by simp)
    rw [pkL_snoc]
    omega
theorem gd_app (L : List Nat) (c : Nat) {i : Nat} (hi : i < L.length) : (L ++ [c]).getD i 0 = L.getD i 0 := by
  rw [List.getD_eq_getElem?_getD, List.getD_eq_getElem?_getD, List.getElem?_append_left hi]
theorem gd_last (L : List Nat) (c : Nat) : (L ++ [c]).getD L.length 0 = c := by
  rw [List.getD_eq_getElem?_getD]; simp
theorem gd_mem {l : List Nat} {i : Nat} (hi : i < l.length) : l.getD i 0 ∈ l := by
  rw [List.getD_eq_getElem?_getD, List.getElem?_eq_getElem hi]
  exact List.getElem_mem hi
theorem pk_inj (u : Int → Int) (st : Int) : ∀ (m : Nat) (l : List Nat), (∀ i : Nat, i < m → 97 ≤ u (st + i) ∧ u (st + i) ≤ 122) → (∀ c, c ∈ l → 97 ≤ c ∧ c ≤ 122) →
    (pk u st m = pkL l ↔ m = l.length ∧ ∀ i : Nat, i < m → u (st + i) = ((l.getD i 0 : Nat) : Int)) := by
  intro m
  induction m with
  | zero =>
    intro l hu hl
    by_cases e : l = []
    · subst e
      exact ⟨fun _ => ⟨rfl, fun i hi => absurd hi (by omega)⟩, fun _ => rfl⟩
    · obtain ⟨L, c, rfl⟩ := l_snoc e
      have a := pkL_nn _ L rfl (fun x hx => hl x (by simp [hx]))
      have b := hl c (by simp)
      rw [pkL_snoc]
      refine ⟨fun h => ?_, fun h => ?_⟩
      · have : pk u st 0 = 0 := rfl
        omega
      · have := h.1
        simp at this
  | succ m ih =>
    intro l hu hl
    have pr := pk_rng u st m (fun i hi => hu i (by omega))
    have d := hu m (by omega)
    have pe : pk u st (m + 1) = 32 * pk u st m + (u (st + m) - 96) := rfl
    by_cases e : l = []
    · subst e
      refine ⟨fun h => ?_, fun h => ?_⟩
      · have : pkL [] = 0 := rfl
        omega
      · have := h.1
        simp at this
    · obtain ⟨L, c, rfl⟩ := l_snoc e
      have a := pkL_nn _ L rfl (fun x hx => hl x (by simp [hx]))
      have b := hl c (by simp)
      have ih' := ih L (fun i hi => hu i (by omega)) (fun x hx => hl x (by simp [hx]))
      rw [pkL_snoc, pe]
      refine ⟨fun h => ?_, fun h => ?_⟩
      · have h1 : pk u st m = pkL L := by omega
        have h2 : u (st + m) = (c : Int) := by omega
        obtain ⟨x, y⟩ := ih'.mp h1
        refine ⟨by simp; omega, fun i hi => ?_⟩
        by_cases q : i = m
        · rw [q, h2, x, gd_last]
        · rw [gd_app _ _ (by omega)]; exact y i (by omega)
      · obtain ⟨x, y⟩ := h
        have x' : m = L.length := by simp at x; omega
        have h2 := y m (by omega)
        rw [x', gd_last, ← x'] at h2
        have h1 := ih'.mpr ⟨x', fun i hi => by rw [y i (by omega), gd_app _ _ (by omega)]⟩
        omega
def aIs (u : Int → Int) (l : List Nat) (so st at' : Int) : Int := if so = 1 ∧ at' - st < 8 ∧ pk u st (at' - st).toNat = pkL l then 1 else 0
theorem aIs_01 (u : Int → Int) (l : List Nat) (so st at' : Int) : aIs u l so st at' = 0 ∨ aIs u l so st at' = 1 := by unfold aIs; split <;> omega
theorem mStr_w : ∀ k : Fin 14, (mStr k.val).length ≤ 7 ∧ 3 ≤ (mStr k.val).length ∧ (∀ c, c ∈ mStr k.val → 97 ≤ c ∧ c ≤ 122) := by decide +kernel
theorem mSh_w : ∀ k : Fin 14, (mSh (144 + k.val)).1 = 7 ∧ (mSh (144 + k.val)).2.1 = k.val := by decide +kernel
theorem mSh_w' {k : Nat} (hk : k < 14) : ∃ y, mSh (144 + k) = (7, k, y) := by
  have := mSh_w ⟨k, hk⟩
  have a : (mSh (144 + k)).1 = 7 := this.1
  have b : (mSh (144 + k)).2.1 = k := this.2
  exact ⟨(mSh (144 + k)).2.2, Prod.ext a (Prod.ext b rfl)⟩
theorem s_Rdr_isWord_loop {d : Nat} {h : mHp} {n st : Int} {u : Int → Int} {a k y : Nat} {L : Nat} (n1 : n ≤ 700) (hu : uR u) (hX : XC h n u) (e5 : h.1 23 5 = zI st) (s0 : 0 ≤ st) (hn : st + L ≤ n) (hs : mSh a = (7, k, y)) (hl : (mStr k).length = L) (hL : L ≤ 7) (hc : ∀ c, c ∈ mStr k → 97 ≤ c ∧ c ≤ 122) :
    ∀ (j : Nat) (i : Int), i + j = L → 0 ≤ i → ∃ r : Int, (r = 0 ∨ r = 1) ∧ (r = 1 ↔ ∀ x : Nat, i ≤ x → x < L → u (st + x) = (((mStr k).getD x 0 : Nat) : Int)) ∧ mRuns (d + 1) 138 28 [some (.ref 23), some (.ref a), some (.int (zI i))] [] h (.inl (some (.int (zI r)), h)) := by
  have e1 : nI L = zI L := zI_n L
  intro j
  induction j with
  | zero =>
    intro i hi i0
    refine ⟨1, Or.inr rfl, ⟨fun _ x a b => absurd a (by omega), fun _ => rfl⟩, vc_Rdr_isWord_28 ?_⟩
    rw [hs]
    simp (disch := omega) only [zI_add, zI_sub, zI_mul, zI_neg, zI_lit, zI_0, zI_1, zI_lt, zI_le, zI_eq, zI_clamp, zI_inT, zI_ite, mOb_0, mOb_1, mOb_3, mOb_4, mLd_1, mAr_1, mLen_1, mTrue_t, Int.toNat_zero, Int.toNat_one, true_and, and_true, not_true_eq_false, not_false_eq_true, true_or, or_true, or_self, false_or, or_false, forall_const, false_implies, true_implies, implies_true, mStrC_7, hl, e1]
    repeat' (first | refine And.intro ?_ ?_ | with_reducible intro _)
    all_goals first | omega | rfl
  | succ j ih =>
    intro i hi i0
    obtain ⟨r, r01, rr, R⟩ := ih (i + 1) (by omega) (by omega)
    have ux := hX (st + i) (by omega) (by omega)
    have us := sB_cs (hu (st + i))
    have us0 := hu (st + i)
    have gc := hc _ (gd_mem (l := mStr k) (i := i.toNat) (by omega))
    have e2 : nI ((mStr k).getD i.toNat 0) = zI ((mStr k).getD i.toNat 0 : Nat) := zI_n _
    by_cases c : u (st + i) = (((mStr k).getD i.toNat 0 : Nat) : Int)
    · refine ⟨r, r01, ⟨fun z x a b => ?_, fun z => rr.mpr (fun x a b => z x (by omega) b)⟩, vc_Rdr_isWord_28 ?_⟩
      · by_cases q : (x : Int) = i
        · rw [q, c, show i.toNat = x by omega]
        · exact rr.mp z x (by omega) b
      · rw [hs]
        have us' : sB (u (st + i)) = (((mStr k).getD i.toNat 0 : Nat) : Int) := by omega
        simp (disch := omega) only [zI_add, zI_sub, zI_mul, zI_neg, zI_lit, zI_0, zI_1, zI_lt, zI_le, zI_eq, zI_clamp, zI_inT, zI_ite, mOb_0, mOb_1, mOb_3, mOb_4, mLd_1, mAr_1, mLen_1, mTrue_t, Int.toNat_zero, Int.toNat_one, true_and, and_true, not_true_eq_false, not_false_eq_true, true_or, or_true, or_self, false_or, or_false, forall_const, false_implies, true_implies, implies_true, mStrC_7, e1, e5, ux, e2, us', hl]
        repeat' (first | refine And.intro ?_ ?_ | with_reducible intro _)
        all_goals first | omega | exact R | skip
    · refine ⟨0, Or.inl rfl, ⟨fun z => absurd z (by omega), fun z => absurd (z i.toNat (by omega) (by omega)) (by rw [show ((i.toNat : Nat) : Int) = i by omega]; exact c)⟩, vc_Rdr_isWord_28 ?_⟩
      rw [hs]
      simp (disch := omega) only [zI_add, zI_sub, zI_mul, zI_neg, zI_lit, zI_0, zI_1, zI_lt, zI_le, zI_eq, zI_clamp, zI_inT, zI_ite, mOb_0, mOb_1, mOb_3, mOb_4, mLd_1, mAr_1, mLen_1, mTrue_t, Int.toNat_zero, Int.toNat_one, true_and, and_true, not_true_eq_false, not_false_eq_true, true_or, or_true, or_self, false_or, or_false, forall_const, false_implies, true_implies, implies_true, mStrC_7, e1, e5, ux, e2, hl]
      repeat' (first | refine And.intro ?_ ?_ | with_reducible intro _)
      all_goals first | omega | rfl | skip
theorem s_Rdr_isWord {d : Nat} {h : mHp} {n so st at' va : Int} {u : Int → Int} {k : Nat} (hk : k < 14) (n1 : n ≤ 700) (hu : uR u) (hX : XC h n u) (hT : LOk u n so st at' va) (e3 : h.1 23 3 = zI at') (e4 : h.1 23 4 = zI so) (e5 : h.1 23 5 = zI st) :
    mRuns (d + 1) 138 0 [some (.ref 23), some (.ref (144 + k)), none] [] h (.inl (some (.int (zI (aIs u (mStr k) so st at'))), h)) := by
  obtain ⟨y, hs⟩ := mSh_w' hk
  obtain ⟨w1, w2, w3⟩ := mStr_w ⟨k, hk⟩
  replace w1 : (mStr k).length ≤ 7 := w1
  replace w3 : ∀ c, c ∈ mStr k → 97 ≤ c ∧ c ≤ 122 := w3
  obtain ⟨t1, t2, t3, t4, t5, t6, t7, t8, t9, t10, t11⟩ := hT
  have e1 : nI (mStr k).length = zI ((mStr k).length : Nat) := zI_n _
  by_cases c : so = 1
  · have lt := t11 c
    have pj := pk_inj u st (at' - st).toNat (mStr k) (fun i hi => lt (st + i) (by omega) (by omega)) w3
    by_cases cl : at' - st = ((mStr k).length : Nat)
    · obtain ⟨r, r01, rr, R⟩ := s_Rdr_isWord_loop (d := d) n1 hu hX e5 t3 (by omega) hs rfl w1 w3 (mStr k).length 0 (by omega) (by omega)
      have er : aIs u (mStr k) so st at' = r := by
        unfold aIs
        by_cases q : pk u st (at' - st).toNat = pkL (mStr k)
        · rw [if_pos ⟨c, by omega, q⟩]
          exact (rr.mpr (fun x _ b => (pj.mp q).2 x (by omega))).symm
        · rw [if_neg (fun z => q z.2.2)]
          rcases r01 with z | z
          · exact z.symm
          · exact absurd (pj.mpr ⟨by omega, fun i hi => rr.mp z i (by omega) (by omega)⟩) q
      rw [er]
      refine vc_Rdr_isWord ?_
      rw [hs]
      simp (disch := omega) only [zI_add, zI_sub, zI_mul, zI_neg, zI_lit, zI_0, zI_1, zI_lt, zI_le, zI_eq, zI_clamp, zI_inT, zI_ite, mOb_0, mOb_1, mOb_3, mOb_4, mLd_1, mAr_1, mLen_1, mTrue_t, Int.toNat_zero, Int.toNat_one, true_and, and_true, not_true_eq_false, not_false_eq_true, true_or, or_true, or_self, false_or, or_false, forall_const, false_implies, true_implies, implies_true, mStrC_7, e1, e3, e4, e5]
      repeat' (first | refine And.intro ?_ ?_ | with_reducible intro _)
      all_goals first | omega | exact R | skip
    · have er : aIs u (mStr k) so st at' = 0 := by
        unfold aIs
        exact if_neg (fun z => cl (by have := (pj.mp z.2.2).1; omega))
      rw [er]
      refine vc_Rdr_isWord ?_
      rw [hs]
      simp (disch := omega) only [zI_add, zI_sub, zI_mul, zI_neg, zI_lit, zI_0, zI_1, zI_lt, zI_le, zI_eq, zI_clamp, zI_inT, zI_ite, mOb_0, mOb_1, mOb_3, mOb_4, mLd_1, mAr_1, mLen_1, mTrue_t, Int.toNat_zero, Int.toNat_one, true_and, and_true, not_true_eq_false, not_false_eq_true, true_or, or_true, or_self, false_or, or_false, forall_const, false_implies, true_implies, implies_true, mStrC_7, e1, e3, e4, e5]
      repeat' (first | refine And.intro ?_ ?_ | with_reducible intro _)
      all_goals first | omega | rfl | skip
  · have er : aIs u (mStr k) so st at' = 0 := by unfold aIs; exact if_neg (fun z => c z.1)
    rw [er]
    refine vc_Rdr_isWord ?_
    rw [hs]
    simp (disch := omega) only [zI_add, zI_sub, zI_mul, zI_neg, zI_lit, zI_0, zI_1, zI_lt, zI_le, zI_eq, zI_clamp, zI_inT, zI_ite, mOb_0, mOb_1, mOb_3, mOb_4, mLd_1, mAr_1, mLen_1, mTrue_t, Int.toNat_zero, Int.toNat_one, true_and, and_true, not_true_eq_false, not_false_eq_true, true_or, or_true, or_self, false_or, or_false, forall_const, false_implies, true_implies, implies_true, mStrC_7, e4]
    repeat' (first | refine And.intro ?_ ?_ | with_reducible intro _)
    all_goals first | omega | rfl | skip
/-! the model's -/
def spv (a b c e f g i : Int32) : Int64 :=
  (fun v2 : Int64 => if i = 0 then v2 else (v2 <<< ((nI 5).toInt64 &&& 63)) ||| ((i - (nI 96)).toInt64))
  ((fun v1 : Int64 => if g = 0 then v1 else (v1 <<< ((nI 5).toInt64 &&& 63)) ||| ((g - (nI 96)).toInt64))
  ((fun v0 : Int64 => if f = 0 then v0 else (v0 <<< ((nI 5).toInt64 &&& 63)) ||| ((f - (nI 96)).toInt64))
  (if e = 0 then ((((a.toInt64 - (lN 96)) <<< ((nI 10).toInt64 &&& 63)) ||| ((b.toInt64 - (lN 96)) <<< ((nI 5).toInt64 &&& 63))) ||| ((c - (nI 96)).toInt64)) else ((((((a.toInt64 - (lN 96)) <<< ((nI 10).toInt64 &&& 63)) ||| ((b.toInt64 - (lN 96)) <<< ((nI 5).toInt64 &&& 63))) ||| ((c - (nI 96)).toInt64)) <<< ((nI 5).toInt64 &&& 63)) ||| ((e - (nI 96)).toInt64)))))
theorem s_M_spelled {d : Nat} {h : mHp} {a b c e f g i : Int32} : mRuns (d + 1) 17 0 [some (.int a), some (.int b), some (.int c), some (.int e), some (.int f), some (.int g), some (.int i), none, none] [] h (.inl (some (.long (spv a b c e f g i)), h)) := by
  have h3 : ∀ v : Int64, mRuns (d + 1) 17 78 [none, none, none, none, none, none, some (.int i), some (.long v), none] [] h (.inl (some (.long (if i = 0 then v else (v <<< ((nI 5).toInt64 &&& 63)) ||| ((i - (nI 96)).toInt64))), h)) := fun v =>
    vc_M_spelled_78 ⟨fun z => by rw [if_pos z], fun z => by rw [if_neg z]⟩
  have h2 : ∀ v : Int64, mRuns (d + 1) 17 60 [none, none, none, none, none, some (.int g), some (.int i), some (.long v), none] [] h (.inl (some (.long ((fun v2 : Int64 => if i = 0 then v2 else (v2 <<< ((nI 5).toInt64 &&& 63)) ||| ((i - (nI 96)).toInt64)) (if g = 0 then v else (v <<< ((nI 5).toInt64 &&& 63)) ||| ((g - (nI 96)).toInt64)))), h)) := fun v =>
    vc_M_spelled_60 ⟨fun z => by rw [if_pos z]; exact h3 _, fun z => by rw [if_neg z]; exact h3 _⟩
  have h1 : ∀ v : Int64, mRuns (d + 1) 17 42 [none, none, none, none, some (.int f), some (.int g), some (.int i), some (.long v), none] [] h (.inl (some (.long ((fun v2 : Int64 => if i = 0 then v2 else (v2 <<< ((nI 5).toInt64 &&& 63)) ||| ((i - (nI 96)).toInt64)) ((fun v1 : Int64 => if g = 0 then v1 else (v1 <<< ((nI 5).toInt64 &&& 63)) ||| ((g - (nI 96)).toInt64)) (if f = 0 then v else (v <<< ((nI 5).toInt64 &&& 63)) ||| ((f - (nI 96)).toInt64))))), h)) := fun v =>
    vc_M_spelled_42 ⟨fun z => by rw [if_pos z]; exact h2 _, fun z => by rw [if_neg z]; exact h2 _⟩
  unfold spv
  exact vc_M_spelled ⟨fun z => by rw [if_pos z]; exact h1 _, fun z => by rw [if_neg z]; exact h1 _⟩
theorem s_M_spw {d : Nat} {h : mHp} {a b c e f g i : Int32} {v : Int64} (hv : spv a b c e f g i = v) : ∃ (j : Int64) (h' : mHp), mRuns (d + 1) 17 0 [some (.int a), some (.int b), some (.int c), some (.int e), some (.int f), some (.int g), some (.int i), none, none] [] h (.inl (some (.long j), h')) ∧ (Sum.inl (some (.long v), h) : mOut) = .inl (some (.long j), h') :=
  ⟨_, _, s_M_spelled, by rw [hv]⟩
theorem nI_ne : ∀ a b : Fin 14, a ≠ b → ¬ nI a.val = nI b.val := by decide +kernel
theorem s_M_letters {d : Nat} {h : mHp} {k : Nat} (hk : k < 14) : mRuns (d + 2) 16 0 [some (.int (nI k))] [] h (.inl (some (.long (zL (pkL (mStr k)))), h)) := by
  refine vc_M_letters ?_
  have N : ∀ b : Nat, b < 14 → k ≠ b → ¬ nI k = nI b := fun b hb hne => nI_ne ⟨k, hk⟩ ⟨b, hb⟩ (fun e => hne (by have := congrArg Fin.val e; exact this))
  refine ⟨fun z => ?_, fun z => ?_, fun z => ?_, fun z => ?_, fun z => ?_, fun z => ?_, fun z => ?_, fun z => ?_, fun z => ?_, fun z => ?_, fun z => ?_, fun z => ?_, fun z => ?_, fun z => ?_, trivial⟩
  · have : k = 13 := by
      rw [zI_n, show nI 0 = zI 0 from rfl, show nI 12 = zI 12 from rfl, zI_lt (by omega) (by omega) (by omega) (by omega), zI_lt (by omega) (by omega) (by omega) (by omega)] at z
      omega
    subst this
    exact s_M_spw (by decide +kernel)
  · by_cases e : k = 0
    · subst e; exact s_M_spw (by decide +kernel)
    · exact absurd z (N 0 (by omega) e)
  · by_cases e : k = 1
    · subst e; exact s_M_spw (by decide +kernel)
    · exact absurd z (N 1 (by omega) e)
  · by_cases e : k = 2
    · subst e; exact s_M_spw (by decide +kernel)
    · exact absurd z (N 2 (by omega) e)
  · by_cases e : k = 3
    · subst e; exact s_M_spw (by decide +kernel)
    · exact absurd z (N 3 (by omega) e)
  · by_cases e : k = 4
    · subst e; exact s_M_spw (by decide +kernel)
    · exact absurd z (N 4 (by omega) e)
  · by_cases e : k = 5
    · subst e; exact s_M_spw (by decide +kernel)
    · exact absurd z (N 5 (by omega) e)
  · by_cases e : k = 6
    · subst e; exact s_M_spw (by decide +kernel)
    · exact absurd z (N 6 (by omega) e)
  · by_cases e : k = 7
    · subst e; exact s_M_spw (by decide +kernel)
    · exact absurd z (N 7 (by omega) e)
  · by_cases e : k = 8
    · subst e; exact s_M_spw (by decide +kernel)
    · exact absurd z (N 8 (by omega) e)
  · by_cases e : k = 9
    · subst e; exact s_M_spw (by decide +kernel)
    · exact absurd z (N 9 (by omega) e)
  · by_cases e : k = 10
    · subst e; exact s_M_spw (by decide +kernel)
    · exact absurd z (N 10 (by omega) e)
  · by_cases e : k = 11
    · subst e; exact s_M_spw (by decide +kernel)
    · exact absurd z (N 11 (by omega) e)
  · by_cases e : k = 12
    · subst e; exact s_M_spw (by decide +kernel)
    · exact absurd z (N 12 (by omega) e)
theorem pkL_rng : ∀ k : Fin 14, 0 ≤ pkL (mStr k.val) ∧ pkL (mStr k.val) < 34359738368 := by decide +kernel
theorem s_M_is {d : Nat} {h : mHp} {n so st at' va : Int} {u : Int → Int} {k : Nat} (hk : k < 14) (hT : LOk u n so st at' va) (n1 : n ≤ 700) (hK : KT h u so st at' va) :
    mRuns (d + 3) 15 0 [some (.ref 114), some (.int (nI k))] [] h (.inl (some (.int (zI (aIs u (mStr k) so st at'))), h)) := by
  obtain ⟨k1, k2, k3, k4, -, k6⟩ := hK
  obtain ⟨t1, t2, t3, t4, t5, t6, t7, t8, t9, t10, t11⟩ := hT
  have kr := pkL_rng ⟨k, hk⟩
  replace kr : 0 ≤ pkL (mStr k) ∧ pkL (mStr k) < 34359738368 := kr
  refine vc_M_is ?_
  by_cases c : so = 1
  · have k6 := k6 c
    by_cases c8 : 8 ≤ at' - st
    · have er : aIs u (mStr k) so st at' = 0 := by unfold aIs; exact if_neg (by omega)
      rw [er]
      simp (disch := omega) only [zI_add, zI_sub, zI_mul, zI_neg, zI_lit, zI_0, zI_1, zI_lt, zI_le, zI_eq, zI_clamp, zI_inT, zI_ite, mOb_0, mOb_1, mOb_3, mOb_4, mLd_1, mAr_1, mLen_1, mTrue_t, Int.toNat_zero, Int.toNat_one, true_and, and_true, not_true_eq_false, not_false_eq_true, true_or, or_true, or_self, false_or, or_false, forall_const, false_implies, true_implies, implies_true, k1, k4]
      repeat' (first | refine And.intro ?_ ?_ | with_reducible intro _)
      all_goals first | omega | rfl
    · rw [show min (at' - st) 7 = at' - st by omega] at k6
      have pr := pk_rng7 u st (m := (at' - st).toNat) (by omega) (fun i hi => t11 c (st + i) (by omega) (by omega))
      by_cases q : pk u st (at' - st).toNat = pkL (mStr k)
      · have er : aIs u (mStr k) so st at' = 1 := by unfold aIs; exact if_pos ⟨c, by omega, q⟩
        rw [er]
        simp (disch := omega) only [zI_add, zI_sub, zI_mul, zI_neg, zI_lit, zI_0, zI_1, zI_lt, zI_le, zI_eq, zI_clamp, zI_inT, zI_ite, mOb_0, mOb_1, mOb_3, mOb_4, mLd_1, mAr_1, mLen_1, mTrue_t, Int.toNat_zero, Int.toNat_one, true_and, and_true, not_true_eq_false, not_false_eq_true, true_or, or_true, or_self, false_or, or_false, forall_const, false_implies, true_implies, implies_true, k1, k4]
        refine ⟨fun z => by omega, fun _ => ⟨fun z => by omega, fun _ => ⟨_, _, s_M_letters hk, ?_⟩⟩⟩
        simp (disch := omega) only [zI_add, zI_sub, zI_mul, zI_neg, zI_lit, zI_0, zI_1, zI_lt, zI_le, zI_eq, zI_clamp, zI_inT, zI_ite, mOb_0, mOb_1, mOb_3, mOb_4, mLd_1, mAr_1, mLen_1, mTrue_t, Int.toNat_zero, Int.toNat_one, true_and, and_true, not_true_eq_false, not_false_eq_true, true_or, or_true, or_self, false_or, or_false, forall_const, false_implies, true_implies, implies_true, k6, zL_cmp0]
        repeat' (first | refine And.intro ?_ ?_ | with_reducible intro _)
        all_goals first | omega | rfl
      · have er : aIs u (mStr k) so st at' = 0 := by unfold aIs; exact if_neg (fun z => q z.2.2)
        rw [er]
        simp (disch := omega) only [zI_add, zI_sub, zI_mul, zI_neg, zI_lit, zI_0, zI_1, zI_lt, zI_le, zI_eq, zI_clamp, zI_inT, zI_ite, mOb_0, mOb_1, mOb_3, mOb_4, mLd_1, mAr_1, mLen_1, mTrue_t, Int.toNat_zero, Int.toNat_one, true_and, and_true, not_true_eq_false, not_false_eq_true, true_or, or_true, or_self, false_or, or_false, forall_const, false_implies, true_implies, implies_true, k1, k4]
        refine fun _ _ => ⟨_, _, s_M_letters hk, ?_⟩
        simp (disch := omega) only [zI_add, zI_sub, zI_mul, zI_neg, zI_lit, zI_0, zI_1, zI_lt, zI_le, zI_eq, zI_clamp, zI_inT, zI_ite, mOb_0, mOb_1, mOb_3, mOb_4, mLd_1, mAr_1, mLen_1, mTrue_t, Int.toNat_zero, Int.toNat_one, true_and, and_true, not_true_eq_false, not_false_eq_true, true_or, or_true, or_self, false_or, or_false, forall_const, false_implies, true_implies, implies_true, k6, zL_cmp0]
        repeat' (first | refine And.intro ?_ ?_ | with_reducible intro _)
        all_goals first | omega | rfl
  · have er : aIs u (mStr k) so st at' = 0 := by unfold aIs; exact if_neg (fun z => c z.1)
    rw [er]
    simp (disch := omega) only [zI_add, zI_sub, zI_mul, zI_neg, zI_lit, zI_0, zI_1, zI_lt, zI_le, zI_eq, zI_clamp, zI_inT, zI_ite, mOb_0, mOb_1, mOb_3, mOb_4, mLd_1, mAr_1, mLen_1, mTrue_t, Int.toNat_zero, Int.toNat_one, true_and, and_true, not_true_eq_false, not_false_eq_true, true_or, or_true, or_self, false_or, or_false, forall_const, false_implies, true_implies, implies_true, k1]
    repeat' (first | refine And.intro ?_ ?_ | with_reducible intro _)
    all_goals first | omega | rfl

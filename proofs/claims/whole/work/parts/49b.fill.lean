/-! L3, the model fills its table -/
def cf (B : tB) (so u : Int) : Int → Int := fun t => if aBit so t = 1 then bF B 8 t - dig u t else 0
theorem tm_of {B : tB} {q : Int} {j : Nat} (q0 : 0 ≤ q) (hj : q + j + 1 = bD B) : tmB B j = bF B 1 q - bF B 0 q := by
  unfold tmB
  rw [if_pos (by omega), show bD B - 1 - (j : Int) = q by omega]
def fCtx (B : tB) (l so q : Int) : Prop := BOk B ∧ 0 ≤ l ∧ l ≤ 2 ∧ 0 ≤ so ∧ so < aPow (bT B) ∧ 0 ≤ q
theorem dig_bit {B : tB} (hO : BOk B) {u s : Int} (u0 : 0 ≤ u) (s0 : 0 ≤ s) (s1 : s < aPow (bT B)) (hm : mrOk B u s) : ∀ t, 0 ≤ t → t < 5 → dig u t + aBit s t ≤ 6 := by
  intro t t0 t1
  have o := hO.1
  have hp := aPow_le o.2.2.2.2.1 o.2.2.2.2.2.1
  have hz := (small_iff (by omega) (by omega) s0 (by omega)).mp s1
  have := dig_rng (t := t) u0
  rcases aBit_01 s t with e | e
  · omega
  · by_cases tn : t < bT B
    · have := hm t t0 tn e; have := hO.2.2.2.1 t t0 tn; omega
    · have := hz t (by omega) t1; omega
theorem f_ok {B : tB} {l w so q u s : Int} (C : fCtx B l so q) {j : Nat} (hj : q + j + 1 = bD B) (u0 : 0 ≤ u) (hu : isU B u so q) (s0 : 0 ≤ s) (s1 : s < aPow (bT B)) :
    okP (aK B l w) (tmB B j) (cf B so u) s ↔ (aDif s so = 0 ∧ aKd B l w q s ≠ 100000 ∧ mrOk B u s) := by
  obtain ⟨hO, hl, hl', so0, so1, q0⟩ := C
  have o := hO.1
  have hp := aPow_le o.2.2.2.2.1 o.2.2.2.2.2.1
  have hz := (small_iff (by omega) (by omega) s0 (by omega)).mp s1
  have kr := aK_rng hO (w := w) (s := s) hl hl'
  have o2 := hO.2.1 q q0 (by omega)
  have hkd : (aK B l w s ≠ -1 ∧ aK B l w s ≤ tmB B j) ↔ aKd B l w q s ≠ 100000 := by
    rw [tm_of q0 hj]
    unfold aKd
    split <;> omega
  have hs : okS (cf B so u) s ↔ (aDif s so = 0 ∧ mrOk B u s) := by
    rw [okS_iff, aDif_0]
    constructor
    · intro k
      refine ⟨fun t a b e => ?_, fun t a b e => ?_⟩
      · have := k t a b e; unfold cf at this
        apply Classical.byContradiction; intro n; rw [if_neg n] at this; omega
      · have := k t a (by omega) e; unfold cf at this
        split at this <;> omega
    · rintro ⟨k1, k2⟩ t a b e
      have tn : t < bT B := by
        apply Classical.byContradiction; intro n
        have := hz t (by omega) b; omega
      have := k2 t a tn e
      unfold cf; rw [if_pos (k1 t a b e)]; omega
  unfold okP
  rw [hs, ← hkd]
  exact ⟨fun ⟨x, y, z, k⟩ => ⟨z, ⟨x, y⟩, k⟩, fun ⟨z, ⟨x, y⟩, k⟩ => ⟨x, y, z, k⟩⟩
theorem f_then {B : tB} {l so q u s : Int} (C : fCtx B l so q) (u0 : 0 ≤ u) (u1 : u < p7 (bT B)) (hu : isU B u so q) (s0 : 0 ≤ s) (s1 : s < aPow (bT B)) (hd : aDif s so = 0) (hm : mrOk B u s) :
    0 ≤ u + sm s ∧ u + sm s < p7 (bT B) ∧ isU B (u + sm s) so (q + 1) ∧ ∀ t, 0 ≤ t → t < 5 → cf B so (u + sm s) t = cSub (cf B so u) s t := by
  obtain ⟨hO, hl, hl', so0, so1, q0⟩ := C
  have o := hO.1
  have pr := p7_rng (bT B)
  have hb := dig_bit hO u0 s0 s1 hm
  have hp := p7_le (by omega) (by omega) u0 u1 s0 s1 hb
  have ha := dig_add u0 (by omega) hb
  have hd := (aDif_0 _ _).mp hd
  refine ⟨hp.1, hp.2, fun t a b => ?_, fun t a b => ?_⟩
  · rw [ha t a (by omega)]
    have h1 := hu t a b
    have h2 := aBit_01 s t
    have h3 := hd t a (by omega)
    by_cases e : aBit so t = 1
    · rw [if_pos e] at h1 ⊢; omega
    · rw [if_neg e] at h1 ⊢; omega
  · show (if aBit so t = 1 then bF B 8 t - dig (u + sm s) t else 0) = (if aBit so t = 1 then bF B 8 t - dig u t else 0) - aBit s t
    have h2 := aBit_01 s t
    have h3 := hd t a b
    by_cases e : aBit so t = 1
    · rw [if_pos e, if_pos e, ha t a b]; omega
    · rw [if_neg e, if_neg e]; omega
theorem aMn_tail {f : Int → Int} : ∀ (n : Nat) (i v : Int), (∀ s, i ≤ s → s < i + n → v ≤ f s) → aMn f n i v = v := by
  intro n
  induction n with
  | zero => intro i v _; rfl
  | succ n ih => intro i v h; unfold aMn; rw [if_neg (by have := h i (by omega) (by omega); omega)]; exact ih _ _ (fun s a b => h s (by omega) (by omega))
theorem aMn_add {f : Int → Int} : ∀ (m n : Nat) (i v : Int), aMn f (m + n) i v = aMn f n (i + m) (aMn f m i v) := by
  intro m
  induction m with
  | zero => intro n i v; rw [Nat.zero_add, show i + ((0 : Nat) : Int) = i by omega]; rfl
  | succ m ih =>
    intro n i v
    rw [show m + 1 + n = (m + n) + 1 by omega, show i + ((m + 1 : Nat) : Int) = (i + 1) + m by omega]
    show aMn f (m + n) (i + 1) _ = _
    rw [ih]
    rfl
theorem aL_small {B : tB} (hO : BOk B) {l w : Int} {j : Nat} {c : Int → Int} :
    aMn (fun s => if okP (aK B l w) (tmB B j) c s then aK B l w s + aL (aK B l w) (tmB B) 100000 j (cSub c s) else 100000) (aPow (bT B)).toNat 0 100000 = aL (aK B l w) (tmB B) 100000 (j + 1) c := by
  have o := hO.1
  have hp := aPow_le o.2.2.2.2.1 o.2.2.2.2.2.1
  show _ = aMn _ 32 0 100000
  rw [show (32 : Nat) = (aPow (bT B)).toNat + (32 - (aPow (bT B)).toNat) by omega, aMn_add]
  refine (aMn_tail _ _ _ (fun s a b => ?_)).symm
  rw [if_neg]
  · exact (aMn_spec _ _ _ _).1
  · rintro ⟨k, _⟩
    have : aDif s (aFr B w) = 0 := by
      apply Classical.byContradiction; intro n
      exact k (by unfold aK; rw [if_neg n])
    have := free_small hO (by omega) (by omega) this
    omega
def LF (h : mHp) (B : tB) (l w so q n : Int) : Prop := ∀ u, 0 ≤ u → u < n → isU B u so q → h.1 126 (16807 * q + u).toNat = zI (aL (aK B l w) (tmB B) 100000 (bD B - q).toNat (cf B so u))
theorem kOk_B {B : tB} (hO : BOk B) {l w : Int} (hl : 0 ≤ l) (hl' : l ≤ 2) : kOk (aK B l w) := fun s _ _ => (aK_rng hO (w := w) (s := s) hl hl').1
theorem s_M_fills_set {d : Nat} {h : mHp} {B : tB} {l w so q u : Int} (C : fCtx B l so q) (hB : BM h B) (hP : PW h) (hM : MC h B l w) {j : Nat} (hj : q + j + 1 = bD B) (hF : LF h B l w so (q + 1) (p7 (bT B))) (u0 : 0 ≤ u) (u1 : u < p7 (bT B)) (hu : isU B u so q) {out : mOut} : ∀ (n : Nat) (s v : Int), s + n = aPow (bT B) → 0 ≤ s → 0 ≤ v → v ≤ 100000 →
    mRuns (d + 2) 48 191 [some (.ref 114), some (.int (zI so)), some (.int (zI q)), some (.int (zI u)), some (.int (zI (aMn (fun s => if okP (aK B l w) (tmB B j) (cf B so u) s then aK B l w s + aL (aK B l w) (tmB B) 100000 j (cSub (cf B so u) s) else 100000) n s v))), none, none, none] [] h out →
    mRuns (d + 2) 48 72 [some (.ref 114), some (.int (zI so)), some (.int (zI q)), some (.int (zI u)), some (.int (zI v)), some (.int (zI s)), none, none] [] h out := by
  obtain ⟨hO, hl, hl', so0, so1, q0⟩ := id C
  have o := hO.1
  have hp := aPow_le o.2.2.2.2.1 o.2.2.2.2.2.1
  have pr := p7_rng (bT B)
  obtain ⟨e1, e2, e3, e4, a1, a2, a3, a4, a5, a6, a7, a8, a9, a10⟩ := id hB
  intro n
  induction n with
  | zero =>
    intro s v hs s0 v0 v1 r
    refine vc_M_fills_72 ?_
    simp (disch := omega) only [zI_add, zI_sub, zI_mul, zI_neg, zI_lit, zI_0, zI_1, zI_lt, zI_le, zI_eq, zI_clamp, zI_inT, zI_ite, mOb_0, mOb_1, mOb_3, mOb_4, mLd_1, mAr_1, mLen_1, mTrue_t, Int.toNat_zero, Int.toNat_one, true_and, and_true, not_true_eq_false, not_false_eq_true, true_or, or_true, or_self, false_or, or_false, forall_const, false_implies, true_implies, implies_true, e3, zI_shl6]
    exact ⟨fun _ => r, fun z => by omega⟩
  | succ n ih =>
    intro s v hs s0 v0 v1 r
    have s1 : s < aPow (bT B) := by omega
    have hok := f_ok (w := w) C hj u0 hu s0 s1
    unfold aMn at r
    have dr := aDif_rng s so
    have hMs := hM q s q0 (by omega) s0 s1
    have kr := aK_rng hO (w := w) (s := s) hl hl'
    have kd : -1 ≤ aKd B l w q s ∧ aKd B l w q s ≤ 100000 := by unfold aKd; split <;> omega
    have skip : ¬ okP (aK B l w) (tmB B j) (cf B so u) s → mRuns (d + 2) 48 72 [some (.ref 114), some (.int (zI so)), some (.int (zI q)), some (.int (zI u)), some (.int (zI v)), some (.int (zI (s + 1))), none, none] [] h out := by
      intro k
      refine ih (s + 1) v (by omega) (by omega) v0 v1 ?_
      rw [if_neg k, if_neg (show ¬ (100000 < v) by omega)] at r
      exact r
    obtain ⟨x, hx, run⟩ := s_M_more (d := d) hB hO hP u0 (show u < 16807 by omega) s0 s1
    refine vc_M_fills_72 ?_
    simp (disch := omega) only [zI_add, zI_sub, zI_mul, zI_neg, zI_lit, zI_0, zI_1, zI_lt, zI_le, zI_eq, zI_clamp, zI_inT, zI_ite, mOb_0, mOb_1, mOb_3, mOb_4, mLd_1, mAr_1, mLen_1, mTrue_t, Int.toNat_zero, Int.toNat_one, true_and, and_true, not_true_eq_false, not_false_eq_true, true_or, or_true, or_self, false_or, or_false, forall_const, false_implies, true_implies, implies_true, e3, e1, zI_shl6, zI_dif, hMs]
    refine ⟨fun z => by omega, fun _ => ⟨fun z => by omega, fun _ => ⟨fun y => skip (fun k => y (hok.mp k).1), fun y => ⟨fun z => ⟨_, _, run, ?_⟩, fun z => skip (fun k => (hok.mp k).2.1 z)⟩⟩⟩⟩
    rcases hx with ⟨hm, rfl⟩ | ⟨hm, rfl⟩
    · obtain ⟨t1, t2, t3, t4⟩ := f_then C u0 u1 hu s0 s1 y hm
      have hF := hF _ t1 t2 t3
      rw [aL_cong _ _ _ t4, show (bD B - (q + 1)).toNat = j by omega] at hF
      have ln := aL_nn (kOk_B hO (w := w) hl hl') (T := tmB B) (top := 100000) (by omega) j (cSub (cf B so u) s)
      have ll := aL_le (K := aK B l w) (T := tmB B) (top := 100000) (by omega) j (cSub (cf B so u) s)
      have hk : aKd B l w q s = aK B l w s ∧ 0 ≤ aK B l w s := by unfold aKd at z ⊢; split at z <;> first | omega | (rename_i k; rw [if_neg k]; omega)
      rw [if_pos (hok.mpr ⟨y, z, hm⟩)] at r
      simp (disch := omega) only [zI_add, zI_sub, zI_mul, zI_neg, zI_lit, zI_0, zI_1, zI_lt, zI_le, zI_eq, zI_clamp, zI_inT, zI_ite, mOb_0, mOb_1, mOb_3, mOb_4, mLd_1, mAr_1, mLen_1, mTrue_t, Int.toNat_zero, Int.toNat_one, true_and, and_true, not_true_eq_false, not_false_eq_true, true_or, or_true, or_self, false_or, or_false, forall_const, false_implies, true_implies, implies_true, hMs, hF]
      rw [hk.1]
      repeat' (first | refine And.intro ?_ ?_ | with_reducible intro _)
      all_goals first | omega | skip
      · rename_i k
        rw [if_neg (by omega)] at r
        exact ih (s + 1) v (by omega) (by omega) v0 v1 r
      · rename_i k
        rw [if_pos (by omega)] at r
        exact ih (s + 1) _ (by omega) (by omega) (by omega) (by omega) r
    · simp (disch := omega) only [zI_add, zI_sub, zI_mul, zI_neg, zI_lit, zI_0, zI_1, zI_lt, zI_le, zI_eq, zI_clamp, zI_inT, zI_ite, mOb_0, mOb_1, mOb_3, mOb_4, mLd_1, mAr_1, mLen_1, mTrue_t, Int.toNat_zero, Int.toNat_one, true_and, and_true, not_true_eq_false, not_false_eq_true, true_or, or_true, or_self, false_or, or_false, forall_const, false_implies, true_implies, implies_true]
      exact skip (fun k => hm (hok.mp k).2.2)

/-! L3, the lines of a text: what they do to a board; the class's -/
abbrev tL : Type := tR × tB × (Int → Bool) × Int
def fU (f : Int → Int → Int) (k0 i0 v : Int) : Int → Int → Int := fun k i => if k = k0 ∧ i = i0 then v else f k i
def bPD (B : tB) (a b c : Int) : tB := (bD B + 1, bP B, bT B, bC B, fU (fU (fU (bF B) 0 (bD B) a) 1 (bD B) b) 2 (bD B) c)
def bPP (B : tB) (a b c e : Int) : tB := (bD B, bP B + 1, bT B, bC B, fU (fU (fU (fU (bF B) 3 (bP B) a) 4 (bP B) b) 5 (bP B) c) 6 (bP B) e)
def bPT (B : tB) (a b : Int) : tB := (bD B, bP B, bT B + 1, bC B, fU (fU (bF B) 7 (bT B) a) 8 (bT B) b)
def bPH (B : tB) (j v : Int) : tB := (bD B, bP B, bT B, bC B, fU (bF B) 9 j v)
def bPC (B : tB) (v : Int) : tB := (bD B, bP B, bT B, v, bF B)
def b00 : tB := (0, 0, 0, 1, fun _ _ => 0)
theorem fU_k {f : Int → Int → Int} {k0 i0 v k i : Int} (h : k ≠ k0) : fU f k0 i0 v k i = f k i := if_neg (fun z => h z.1)
theorem fU_i {f : Int → Int → Int} {k0 i0 v i : Int} : fU f k0 i0 v k0 i = if i = i0 then v else f k0 i := by
  unfold fU; by_cases e : i = i0
  · rw [if_pos ⟨rfl, e⟩, if_pos e]
  · rw [if_neg (fun z => e z.2), if_neg e]
theorem BOk_00 : BOk b00 := ⟨by show (0:Int) ≤ 0 ∧ (0:Int) ≤ 6 ∧ (0:Int) ≤ 0 ∧ (0:Int) ≤ 5 ∧ (0:Int) ≤ 0 ∧ (0:Int) ≤ 5 ∧ (0:Int) ≤ 1 ∧ (1:Int) ≤ 9999; omega,
  fun i a b => absurd b (by show ¬ i < 0; omega), fun i a b => absurd b (by show ¬ i < 0; omega), fun i a b => absurd b (by show ¬ i < 0; omega), fun i a b => by show (0:Int) ≤ 0 ∧ (0:Int) ≤ 99; omega⟩
theorem BOk_D {B : tB} {a b c : Int} (h : BOk B) (hd : bD B < 6) (ha : 0 ≤ a) (hb : a + 1 ≤ b) (hb' : b ≤ 95) (hc : 0 ≤ c) (hc' : c ≤ 99) : BOk (bPD B a b c) := by
  obtain ⟨o1, o2, o3, o4, o5⟩ := h
  have e0 : ∀ i, bF (bPD B a b c) 0 i = if i = bD B then a else bF B 0 i := fun i => by show fU (fU (fU (bF B) 0 (bD B) a) 1 (bD B) b) 2 (bD B) c 0 i = _; rw [fU_k (by omega), fU_k (by omega), fU_i]
  have e1 : ∀ i, bF (bPD B a b c) 1 i = if i = bD B then b else bF B 1 i := fun i => by show fU (fU (fU (bF B) 0 (bD B) a) 1 (bD B) b) 2 (bD B) c 1 i = _; rw [fU_k (by omega), fU_i, fU_k (by omega)]
  have e2 : ∀ i, bF (bPD B a b c) 2 i = if i = bD B then c else bF B 2 i := fun i => by show fU (fU (fU (bF B) 0 (bD B) a) 1 (bD B) b) 2 (bD B) c 2 i = _; rw [fU_i, fU_k (by omega), fU_k (by omega)]
  have eo : ∀ k i, k ≠ 0 → k ≠ 1 → k ≠ 2 → bF (bPD B a b c) k i = bF B k i := fun k i h0 h1 h2 => by show fU (fU (fU (bF B) 0 (bD B) a) 1 (bD B) b) 2 (bD B) c k i = _; rw [fU_k h2, fU_k h1, fU_k h0]
  refine ⟨by show 0 ≤ bD B + 1 ∧ bD B + 1 ≤ 6 ∧ 0 ≤ bP B ∧ bP B ≤ 5 ∧ 0 ≤ bT B ∧ bT B ≤ 5 ∧ 0 ≤ bC B ∧ bC B ≤ 9999; omega, fun i i0 i1 => ?_, fun i i0 i1 => ?_, fun i i0 i1 => ?_, fun i i0 i1 => ?_⟩
  · replace i1 : i < bD B + 1 := i1
    rw [e0, e1, e2]
    by_cases e : i = bD B
    · rw [if_pos e, if_pos e, if_pos e]; omega
    · rw [if_neg e, if_neg e, if_neg e]; exact o2 i i0 (by omega)
  · rw [eo _ _ (by omega) (by omega) (by omega), eo _ _ (by omega) (by omega) (by omega), eo _ _ (by omega) (by omega) (by omega), eo _ _ (by omega) (by omega) (by omega)]; exact o3 i i0 i1
  · rw [eo _ _ (by omega) (by omega) (by omega), eo _ _ (by omega) (by omega) (by omega)]; exact o4 i i0 i1
  · rw [eo _ _ (by omega) (by omega) (by omega)]; exact o5 i i0 i1
theorem BOk_P {B : tB} {a b c e : Int} (h : BOk B) (hd : bP B < 5) (ha : 1 ≤ a) (ha' : a ≤ 40) (hb : 0 ≤ b) (hb' : b ≤ 1) (hc : 0 ≤ c) (hc' : c ≤ 9) (he : 0 ≤ e) (he' : e ≤ 99) : BOk (bPP B a b c e) := by
  obtain ⟨o1, o2, o3, o4, o5⟩ := h
  have e3 : ∀ i, bF (bPP B a b c e) 3 i = if i = bP B then a else bF B 3 i := fun i => by show fU (fU (fU (fU (bF B) 3 (bP B) a) 4 (bP B) b) 5 (bP B) c) 6 (bP B) e 3 i = _; rw [fU_k (by omega), fU_k (by omega), fU_k (by omega), fU_i]
  have e4 : ∀ i, bF (bPP B a b c e) 4 i = if i = bP B then b else bF B 4 i := fun i => by show fU (fU (fU (fU (bF B) 3 (bP B) a) 4 (bP B) b) 5 (bP B) c) 6 (bP B) e 4 i = _; rw [fU_k (by omega), fU_k (by omega), fU_i, fU_k (by omega)]
  have e5 : ∀ i, bF (bPP B a b c e) 5 i = if i = bP B then c else bF B 5 i := fun i => by show fU (fU (fU (fU (bF B) 3 (bP B) a) 4 (bP B) b) 5 (bP B) c) 6 (bP B) e 5 i = _; rw [fU_k (by omega), fU_i, fU_k (by omega), fU_k (by omega)]
  have e6 : ∀ i, bF (bPP B a b c e) 6 i = if i = bP B then e else bF B 6 i := fun i => by show fU (fU (fU (fU (bF B) 3 (bP B) a) 4 (bP B) b) 5 (bP B) c) 6 (bP B) e 6 i = _; rw [fU_i, fU_k (by omega), fU_k (by omega), fU_k (by omega)]
  have eo : ∀ k i, k ≠ 3 → k ≠ 4 → k ≠ 5 → k ≠ 6 → bF (bPP B a b c e) k i = bF B k i := fun k i h0 h1 h2 h3 => by show fU (fU (fU (fU (bF B) 3 (bP B) a) 4 (bP B) b) 5 (bP B) c) 6 (bP B) e k i = _; rw [fU_k h3, fU_k h2, fU_k h1, fU_k h0]
  refine ⟨by show 0 ≤ bD B ∧ bD B ≤ 6 ∧ 0 ≤ bP B + 1 ∧ bP B + 1 ≤ 5 ∧ 0 ≤ bT B ∧ bT B ≤ 5 ∧ 0 ≤ bC B ∧ bC B ≤ 9999; omega, fun i i0 i1 => ?_, fun i i0 i1 => ?_, fun i i0 i1 => ?_, fun i i0 i1 => ?_⟩
  · rw [eo _ _ (by omega) (by omega) (by omega) (by omega), eo _ _ (by omega) (by omega) (by omega) (by omega), eo _ _ (by omega) (by omega) (by omega) (by omega)]; exact o2 i i0 i1
  · replace i1 : i < bP B + 1 := i1
    rw [e3, e4, e5, e6]
    by_cases q : i = bP B
    · rw [if_pos q, if_pos q, if_pos q, if_pos q]; omega
    · rw [if_neg q, if_neg q, if_neg q, if_neg q]; exact o3 i i0 (by omega)
  · rw [eo _ _ (by omega) (by omega) (by omega) (by omega), eo _ _ (by omega) (by omega) (by omega) (by omega)]; exact o4 i i0 i1
  · rw [eo _ _ (by omega) (by omega) (by omega) (by omega)]; exact o5 i i0 i1
theorem BOk_T {B : tB} {a b : Int} (h : BOk B) (hd : bT B < 5) (ha : 0 ≤ a) (ha' : a ≤ 4) (hb : 0 ≤ b) (hb' : b ≤ 6) : BOk (bPT B a b) := by
  obtain ⟨o1, o2, o3, o4, o5⟩ := h
  have e7 : ∀ i, bF (bPT B a b) 7 i = if i = bT B then a else bF B 7 i := fun i => by show fU (fU (bF B) 7 (bT B) a) 8 (bT B) b 7 i = _; rw [fU_k (by omega), fU_i]
  have e8 : ∀ i, bF (bPT B a b) 8 i = if i = bT B then b else bF B 8 i := fun i => by show fU (fU (bF B) 7 (bT B) a) 8 (bT B) b 8 i = _; rw [fU_i, fU_k (by omega)]
  have eo : ∀ k i, k ≠ 7 → k ≠ 8 → bF (bPT B a b) k i = bF B k i := fun k i h0 h1 => by show fU (fU (bF B) 7 (bT B) a) 8 (bT B) b k i = _; rw [fU_k h1, fU_k h0]
  refine ⟨by show 0 ≤ bD B ∧ bD B ≤ 6 ∧ 0 ≤ bP B ∧ bP B ≤ 5 ∧ 0 ≤ bT B + 1 ∧ bT B + 1 ≤ 5 ∧ 0 ≤ bC B ∧ bC B ≤ 9999; omega, fun i i0 i1 => ?_, fun i i0 i1 => ?_, fun i i0 i1 => ?_, fun i i0 i1 => ?_⟩
  · rw [eo _ _ (by omega) (by omega), eo _ _ (by omega) (by omega), eo _ _ (by omega) (by omega)]; exact o2 i i0 i1
  · rw [eo _ _ (by omega) (by omega), eo _ _ (by omega) (by omega), eo _ _ (by omega) (by omega), eo _ _ (by omega) (by omega)]; exact o3 i i0 i1
  · replace i1 : i < bT B + 1 := i1
    rw [e7, e8]
    by_cases q : i = bT B
    · rw [if_pos q, if_pos q]; omega
    · rw [if_neg q, if_neg q]; exact o4 i i0 (by omega)
  · rw [eo _ _ (by omega) (by omega)]; exact o5 i i0 i1
theorem BOk_H {B : tB} {j v : Int} (h : BOk B) (hv : 0 ≤ v) (hv' : v ≤ 99) : BOk (bPH B j v) := by
  obtain ⟨o1, o2, o3, o4, o5⟩ := h
  have e9 : ∀ i, bF (bPH B j v) 9 i = if i = j then v else bF B 9 i := fun i => fU_i
  have eo : ∀ k i, k ≠ 9 → bF (bPH B j v) k i = bF B k i := fun k i h0 => fU_k h0
  refine ⟨o1, fun i i0 i1 => ?_, fun i i0 i1 => ?_, fun i i0 i1 => ?_, fun i i0 i1 => ?_⟩
  · rw [eo _ _ (by omega), eo _ _ (by omega), eo _ _ (by omega)]; exact o2 i i0 i1
  · rw [eo _ _ (by omega), eo _ _ (by omega), eo _ _ (by omega), eo _ _ (by omega)]; exact o3 i i0 i1
  · rw [eo _ _ (by omega), eo _ _ (by omega)]; exact o4 i i0 i1
  · rw [e9]
    split
    · omega
    · exact o5 i i0 i1
theorem BOk_C {B : tB} {v : Int} (h : BOk B) (hv : 0 ≤ v) (hv' : v ≤ 9999) : BOk (bPC B v) :=
  ⟨⟨h.1.1, h.1.2.1, h.1.2.2.1, h.1.2.2.2.1, h.1.2.2.2.2.1, h.1.2.2.2.2.2.1, hv, hv'⟩, h.2.1, h.2.2.1, h.2.2.2.1, h.2.2.2.2⟩
/-! the lines -/
section
variable (u : Int → Int) (n : Int)
def dD1 (R : tR) : tR × Int := aNu u n 0 95 (aSc u n R)
def dD2 (R : tR) : tR × Int := aNu u n ((dD1 u n R).2 + 1) 95 (dD1 u n R).1
def dD3 (R : tR) : tR × Int := aOp u n 5 99 1 (dD2 u n R).1
def dP1 (R : tR) : tR × Int := aNu u n 1 40 (aSc u n R)
def dPw (R : tR) : Int := if rF (dP1 u n R).1 = 0 ∧ aW u 6 (dP1 u n R).1 = 1 then 1 else 0
def dP2 (R : tR) : tR := if dPw u n R = 1 then aSc u n (dP1 u n R).1 else (dP1 u n R).1
def dP3 (R : tR) : tR × Int := aOp u n 7 9 0 (dP2 u n R)
def dP4 (R : tR) : tR × Int := aOp u n 5 99 1 (dP3 u n R).1
def dT1 (R : tR) : tR := aKi u n (aSc u n R)
def dTk (R : tR) : Int := aKn u (aSc u n R)
def dT2 (R : tR) : tR × Int := aOp u n 8 6 6 (dT1 u n R)
def dH1 (R : tR) (B : tB) : tR × Int := aTo u n (bT B) (fun _ => false) (aSc u n R)
def dH2 (R : tR) (B : tB) (T : Int → Bool) : tR × Int := aTo u n (bP B) (fun v => if (dH1 u n R B).2 = -1 then false else T (5 * (dH1 u n R B).2 + v)) (dH1 u n R B).1
def dH3 (R : tR) (B : tB) (T : Int → Bool) : tR × Int := aNu u n 0 99 (dH2 u n R B T).1
def dHk (R : tR) (B : tB) (T : Int → Bool) : Int := 5 * (dH1 u n R B).2 + (dH2 u n R B T).2
def dC1 (R : tR) : tR × Int := aNu u n 0 9999 (aSc u n R)
def xDi (R : tR) (B : tB) (T : Int → Bool) (cl : Int) : tL := if 6 ≤ bD B then (aFl 2 R, B, T, cl) else (aEn u n (dD3 u n R).1, bPD B (dD1 u n R).2 (dD2 u n R).2 (dD3 u n R).2, T, cl)
def xPo (R : tR) (B : tB) (T : Int → Bool) (cl : Int) : tL := if 5 ≤ bP B then (aFl 2 R, B, T, cl) else (aEn u n (dP4 u n R).1, bPP B (dP1 u n R).2 (dPw u n R) (dP3 u n R).2 (dP4 u n R).2, T, cl)
def xTa (R : tR) (B : tB) (T : Int → Bool) (cl : Int) : tL := if 5 ≤ bT B then (aFl 2 R, B, T, cl) else (aEn u n (dT2 u n R).1, bPT B (dTk u n R) (dT2 u n R).2, T, cl)
def xHa (R : tR) (B : tB) (T : Int → Bool) (cl : Int) : tL := (aEn u n (dH3 u n R B T).1, bPH B (dHk u n R B T) (dH3 u n R B T).2, fun j => T j || decide (j = dHk u n R B T), cl)
def xCl (R : tR) (B : tB) (T : Int → Bool) (cl : Int) : tL := if cl ≠ 0 then (aFl 5 R, B, T, cl) else (aEn u n (dC1 u n R).1, bPC B (dC1 u n R).2, T, 1)
def xLn (S : tL) : tL :=
  if aW u 0 S.1 = 1 then xDi u n S.1 S.2.1 S.2.2.1 S.2.2.2 else if aW u 1 S.1 = 1 then xPo u n S.1 S.2.1 S.2.2.1 S.2.2.2 else if aW u 2 S.1 = 1 then xTa u n S.1 S.2.1 S.2.2.1 S.2.2.2 else if aW u 3 S.1 = 1 then xHa u n S.1 S.2.1 S.2.2.1 S.2.2.2 else if aW u 4 S.1 = 1 then xCl u n S.1 S.2.1 S.2.2.1 S.2.2.2 else (aFl 1 S.1, S.2)
end
/-! what a text's lines do to the class's heap -/
def gF (b : Nat) (h h' : mHp) : Prop := (∀ x, x ≠ 23 → x ≠ 25 → (x < b ∨ b + 10 < x) → h'.1 x = h.1 x) ∧ (∀ k, k ∉ [3, 4, 5, 6, 7, 8, 10] → h'.1 23 k = h.1 23 k) ∧ h'.2 = h.2
theorem gF_refl (b : Nat) (h : mHp) : gF b h h := ⟨fun _ _ _ _ => rfl, fun _ _ => rfl, rfl⟩
theorem gF_trans {b : Nat} {h h1 h2 : mHp} (p : gF b h h1) (q : gF b h1 h2) : gF b h h2 := ⟨fun x a b c => (q.1 x a b c).trans (p.1 x a b c), fun k hk => (q.2.1 k hk).trans (p.2.1 k hk), q.2.2.trans p.2.2⟩
theorem gF_of {b : Nat} {h h' : mHp} (p : hFg 23 [] fsR h h') : gF b h h' := ⟨fun x a _ _ => p.1 x (by simp) a, fun k hk => p.2.1 k (fun z => hk (by simp at z ⊢; omega)), p.2.2⟩
theorem gF_b {b : Nat} (hb : bAd b) {h h' : mHp} (p : gF b h h') {i : Nat} (hi : i ≤ 10) (k : Nat) (v : Int32) : gF b h (mPI h' (b + i) k v) := by
  have hb' : b + i ≠ 23 ∧ b + i ≠ 25 := by rcases hb with e | e <;> omega
  refine ⟨fun x a c e => ?_, fun j hj => ?_, p.2.2⟩
  · rw [hI_ne (by omega)]; exact p.1 x a c e
  · rw [hI_ne (by omega)]; exact p.2.1 j hj
theorem gF_25 {b : Nat} {h h' : mHp} (p : gF b h h') (k : Nat) (v : Int32) : gF b h (mPI h' 25 k v) := by
  refine ⟨fun x a c e => ?_, fun j hj => ?_, p.2.2⟩
  · rw [hI_ne c]; exact p.1 x a c e
  · rw [hI_ne (by omega)]; exact p.2.1 j hj
theorem gF_23 {b : Nat} {h h' : mHp} (p : gF b h h') (v : Int32) : gF b h (mPI h' 23 8 v) := by
  refine ⟨fun x a c e => ?_, fun j hj => ?_, p.2.2⟩
  · rw [hI_ne a]; exact p.1 x a c e
  · rw [hI_off (fun z => hj (by rw [z]; simp))]; exact p.2.1 j hj
def UC (h : mHp) (T : Int → Bool) : Prop := ∀ t p, 0 ≤ t → t < 5 → 0 ≤ p → p < 5 → bt (h.1 25 t.toNat) p.toNat = T (5 * t + p)
def QC (h : mHp) (b : Nat) (u : Int → Int) (n : Int) (S : tL) : Prop :=
  RC h u n S.1 ∧ (rF S.1 = 0 → BC h b S.2.1 ∧ BOk S.2.1 ∧ UC h S.2.2.1 ∧ h.1 23 8 = zI S.2.2.2 ∧ (S.2.2.2 = 0 ∨ S.2.2.2 = 1))
theorem UC_of {h h' : mHp} {T : Int → Bool} (hU : UC h T) (e : h'.1 25 = h.1 25) : UC h' T := fun t p a b c d => by rw [e]; exact hU t p a b c d
theorem BC_fg {h h' : mHp} {b : Nat} {B : tB} (hb : bAd b) (hB : BC h b B) (f : hFg 23 [] fsR h h') : BC h' b B :=
  BC_of hB (fun k hk => f.1 _ (by simp) (by rcases hb with e | e <;> omega))
theorem BC_D {h : mHp} {b : Nat} {B : tB} {a x c : Int} (hb : bAd b) (hB : BC h b B) (d0 : 0 ≤ bD B) :
    BC (mPI (mPI (mPI (mPI h (b + 1) (bD B).toNat (zI a)) (b + 2) (bD B).toNat (zI x)) (b + 3) (bD B).toNat (zI c)) b 0 (zI (bD B + 1))) b (bPD B a x c) := by
  obtain ⟨e0, e4, e9, e13, a1, a2, a3, a4, a5, a6, a7, a8, a9, a10⟩ := hB
  have q0 : ∀ i, bF (bPD B a x c) 0 i = if i = bD B then a else bF B 0 i := fun i => by show fU (fU (fU (bF B) 0 (bD B) a) 1 (bD B) x) 2 (bD B) c 0 i = _; rw [fU_k (by omega), fU_k (by omega), fU_i]
  have q1 : ∀ i, bF (bPD B a x c) 1 i = if i = bD B then x else bF B 1 i := fun i => by show fU (fU (fU (bF B) 0 (bD B) a) 1 (bD B) x) 2 (bD B) c 1 i = _; rw [fU_k (by omega), fU_i, fU_k (by omega)]
  have q2 : ∀ i, bF (bPD B a x c) 2 i = if i = bD B then c else bF B 2 i := fun i => by show fU (fU (fU (bF B) 0 (bD B) a) 1 (bD B) x) 2 (bD B) c 2 i = _; rw [fU_i, fU_k (by omega), fU_k (by omega)]
  have eo : ∀ k i, k ≠ 0 → k ≠ 1 → k ≠ 2 → bF (bPD B a x c) k i = bF B k i := fun k i h0 h1 h2 => by show fU (fU (fU (bF B) 0 (bD B) a) 1 (bD B) x) 2 (bD B) c k i = _; rw [fU_k h2, fU_k h1, fU_k h0]
  refine ⟨hI_same _ _ _ _, ?_, ?_, ?_, ?_, ?_, ?_, ?_, ?_, ?_, ?_, ?_, ?_, ?_⟩
  · rw [hI_off (by omega), hI_ne (by omega), hI_ne (by omega), hI_ne (by omega)]; exact e4
  · rw [hI_off (by omega), hI_ne (by omega), hI_ne (by omega), hI_ne (by omega)]; exact e9
  · rw [hI_off (by omega), hI_ne (by omega), hI_ne (by omega), hI_ne (by omega)]; exact e13
  · rw [hI_ne (by omega), hI_ne (by omega), hI_ne (by omega), hI_row]; exact aEq_fn (aEq_push a1 d0 a) (fun i _ _ => q0 i)
  · rw [hI_ne (by omega), hI_ne (by omega), hI_row, hI_ne (by omega)]; exact aEq_fn (aEq_push a2 d0 x) (fun i _ _ => q1 i)
  · rw [hI_ne (by omega), hI_row, hI_ne (by omega), hI_ne (by omega)]; exact aEq_fn (aEq_push a3 d0 c) (fun i _ _ => q2 i)
  · rw [hI_ne (by omega), hI_ne (by omega), hI_ne (by omega), hI_ne (by omega)]; exact aEq_fn a4 (fun i _ _ => eo _ _ (by omega) (by omega) (by omega))
  · rw [hI_ne (by omega), hI_ne (by omega), hI_ne (by omega), hI_ne (by omega)]; exact aEq_fn a5 (fun i _ _ => eo _ _ (by omega) (by omega) (by omega))
  · rw [hI_ne (by omega), hI_ne (by omega), hI_ne (by omega), hI_ne (by omega)]; exact aEq_fn a6 (fun i _ _ => eo _ _ (by omega) (by omega) (by omega))
  · rw [hI_ne (by omega), hI_ne (by omega), hI_ne (by omega), hI_ne (by omega)]; exact aEq_fn a7 (fun i _ _ => eo _ _ (by omega) (by omega) (by omega))
  · rw [hI_ne (by omega), hI_ne (by omega), hI_ne (by omega), hI_ne (by omega)]; exact aEq_fn a8 (fun i _ _ => eo _ _ (by omega) (by omega) (by omega))
  · rw [hI_ne (by omega), hI_ne (by omega), hI_ne (by omega), hI_ne (by omega)]; exact aEq_fn a9 (fun i _ _ => eo _ _ (by omega) (by omega) (by omega))
  · rw [hI_ne (by omega), hI_ne (by omega), hI_ne (by omega), hI_ne (by omega)]; exact aEq_fn a10 (fun i _ _ => eo _ _ (by omega) (by omega) (by omega))
theorem BC_P {h : mHp} {b : Nat} {B : tB} {a x c e : Int} (hb : bAd b) (hB : BC h b B) (d0 : 0 ≤ bP B) :
    BC (mPI (mPI (mPI (mPI (mPI h (b + 4) (bP B).toNat (zI a)) (b + 5) (bP B).toNat (zI x)) (b + 6) (bP B).toNat (zI c)) (b + 7) (bP B).toNat (zI e)) b 4 (zI (bP B + 1))) b (bPP B a x c e) := by
  obtain ⟨e0, e4, e9, e13, a1, a2, a3, a4, a5, a6, a7, a8, a9, a10⟩ := hB
  have q3 : ∀ i, bF (bPP B a x c e) 3 i = if i = bP B then a else bF B 3 i := fun i => by show fU (fU (fU (fU (bF B) 3 (bP B) a) 4 (bP B) x) 5 (bP B) c) 6 (bP B) e 3 i = _; rw [fU_k (by omega), fU_k (by omega), fU_k (by omega), fU_i]
  have q4 : ∀ i, bF (bPP B a x c e) 4 i = if i = bP B then x else bF B 4 i := fun i => by show fU (fU (fU (fU (bF B) 3 (bP B) a) 4 (bP B) x) 5 (bP B) c) 6 (bP B) e 4 i = _; rw [fU_k (by omega), fU_k (by omega), fU_i, fU_k (by omega)]
  have q5 : ∀ i, bF (bPP B a x c e) 5 i = if i = bP B then c else bF B 5 i := fun i => by show fU (fU (fU (fU (bF B) 3 (bP B) a) 4 (bP B) x) 5 (bP B) c) 6 (bP B) e 5 i = _; rw [fU_k (by omega), fU_i, fU_k (by omega), fU_k (by omega)]
  have q6 : ∀ i, bF (bPP B a x c e) 6 i = if i = bP B then e else bF B 6 i := fun i => by show fU (fU (fU (fU (bF B) 3 (bP B) a) 4 (bP B) x) 5 (bP B) c) 6 (bP B) e 6 i = _; rw [fU_i, fU_k (by omega), fU_k (by omega), fU_k (by omega)]
  have eo : ∀ k i, k ≠ 3 → k ≠ 4 → k ≠ 5 → k ≠ 6 → bF (bPP B a x c e) k i = bF B k i := fun k i h0 h1 h2 h3 => by show fU (fU (fU (fU (bF B) 3 (bP B) a) 4 (bP B) x) 5 (bP B) c) 6 (bP B) e k i = _; rw [fU_k h3, fU_k h2, fU_k h1, fU_k h0]
  refine ⟨?_, hI_same _ _ _ _, ?_, ?_, ?_, ?_, ?_, ?_, ?_, ?_, ?_, ?_, ?_, ?_⟩
  · rw [hI_off (by omega), hI_ne (by omega), hI_ne (by omega), hI_ne (by omega), hI_ne (by omega)]; exact e0
  · rw [hI_off (by omega), hI_ne (by omega), hI_ne (by omega), hI_ne (by omega), hI_ne (by omega)]; exact e9
  · rw [hI_off (by omega), hI_ne (by omega), hI_ne (by omega), hI_ne (by omega), hI_ne (by omega)]; exact e13
  · rw [hI_ne (by omega), hI_ne (by omega), hI_ne (by omega), hI_ne (by omega), hI_ne (by omega)]; exact aEq_fn a1 (fun i _ _ => eo _ _ (by omega) (by omega) (by omega) (by omega))
  · rw [hI_ne (by omega), hI_ne (by omega), hI_ne (by omega), hI_ne (by omega), hI_ne (by omega)]; exact aEq_fn a2 (fun i _ _ => eo _ _ (by omega) (by omega) (by omega) (by omega))
  · rw [hI_ne (by omega), hI_ne (by omega), hI_ne (by omega), hI_ne (by omega), hI_ne (by omega)]; exact aEq_fn a3 (fun i _ _ => eo _ _ (by omega) (by omega) (by omega) (by omega))
  · rw [hI_ne (by omega), hI_ne (by omega), hI_ne (by omega), hI_ne (by omega), hI_row]; exact aEq_fn (aEq_push a4 d0 a) (fun i _ _ => q3 i)
  · rw [hI_ne (by omega), hI_ne (by omega), hI_ne (by omega), hI_row, hI_ne (by omega)]; exact aEq_fn (aEq_push a5 d0 x) (fun i _ _ => q4 i)
  · rw [hI_ne (by omega), hI_ne (by omega), hI_row, hI_ne (by omega), hI_ne (by omega)]; exact aEq_fn (aEq_push a6 d0 c) (fun i _ _ => q5 i)
  · rw [hI_ne (by omega), hI_row, hI_ne (by omega), hI_ne (by omega), hI_ne (by omega)]; exact aEq_fn (aEq_push a7 d0 e) (fun i _ _ => q6 i)
  · rw [hI_ne (by omega), hI_ne (by omega), hI_ne (by omega), hI_ne (by omega), hI_ne (by omega)]; exact aEq_fn a8 (fun i _ _ => eo _ _ (by omega) (by omega) (by omega) (by omega))
  · rw [hI_ne (by omega), hI_ne (by omega), hI_ne (by omega), hI_ne (by omega), hI_ne (by omega)]; exact aEq_fn a9 (fun i _ _ => eo _ _ (by omega) (by omega) (by omega) (by omega))
  · rw [hI_ne (by omega), hI_ne (by omega), hI_ne (by omega), hI_ne (by omega), hI_ne (by omega)]; exact aEq_fn a10 (fun i _ _ => eo _ _ (by omega) (by omega) (by omega) (by omega))
theorem BC_T {h : mHp} {b : Nat} {B : tB} {a x : Int} (hb : bAd b) (hB : BC h b B) (d0 : 0 ≤ bT B) :
    BC (mPI (mPI (mPI h (b + 8) (bT B).toNat (zI a)) (b + 9) (bT B).toNat (zI x)) b 9 (zI (bT B + 1))) b (bPT B a x) := by
  obtain ⟨e0, e4, e9, e13, a1, a2, a3, a4, a5, a6, a7, a8, a9, a10⟩ := hB
  have q7 : ∀ i, bF (bPT B a x) 7 i = if i = bT B then a else bF B 7 i := fun i => by show fU (fU (bF B) 7 (bT B) a) 8 (bT B) x 7 i = _; rw [fU_k (by omega), fU_i]
  have q8 : ∀ i, bF (bPT B a x) 8 i = if i = bT B then x else bF B 8 i := fun i => by show fU (fU (bF B) 7 (bT B) a) 8 (bT B) x 8 i = _; rw [fU_i, fU_k (by omega)]
  have eo : ∀ k i, k ≠ 7 → k ≠ 8 → bF (bPT B a x) k i = bF B k i := fun k i h0 h1 => by show fU (fU (bF B) 7 (bT B) a) 8 (bT B) x k i = _; rw [fU_k h1, fU_k h0]
  refine ⟨?_, ?_, hI_same _ _ _ _, ?_, ?_, ?_, ?_, ?_, ?_, ?_, ?_, ?_, ?_, ?_⟩
  · rw [hI_off (by omega), hI_ne (by omega), hI_ne (by omega)]; exact e0
  · rw [hI_off (by omega), hI_ne (by omega), hI_ne (by omega)]; exact e4
  · rw [hI_off (by omega), hI_ne (by omega), hI_ne (by omega)]; exact e13
  · rw [hI_ne (by omega), hI_ne (by omega), hI_ne (by omega)]; exact aEq_fn a1 (fun i _ _ => eo _ _ (by omega) (by omega))
  · rw [hI_ne (by omega), hI_ne (by omega), hI_ne (by omega)]; exact aEq_fn a2 (fun i _ _ => eo _ _ (by omega) (by omega))
  · rw [hI_ne (by omega), hI_ne (by omega), hI_ne (by omega)]; exact aEq_fn a3 (fun i _ _ => eo _ _ (by omega) (by omega))
  · rw [hI_ne (by omega), hI_ne (by omega), hI_ne (by omega)]; exact aEq_fn a4 (fun i _ _ => eo _ _ (by omega) (by omega))
  · rw [hI_ne (by omega), hI_ne (by omega), hI_ne (by omega)]; exact aEq_fn a5 (fun i _ _ => eo _ _ (by omega) (by omega))
  · rw [hI_ne (by omega), hI_ne (by omega), hI_ne (by omega)]; exact aEq_fn a6 (fun i _ _ => eo _ _ (by omega) (by omega))
  · rw [hI_ne (by omega), hI_ne (by omega), hI_ne (by omega)]; exact aEq_fn a7 (fun i _ _ => eo _ _ (by omega) (by omega))
  · rw [hI_ne (by omega), hI_ne (by omega), hI_row]; exact aEq_fn (aEq_push a8 d0 a) (fun i _ _ => q7 i)
  · rw [hI_ne (by omega), hI_row, hI_ne (by omega)]; exact aEq_fn (aEq_push a9 d0 x) (fun i _ _ => q8 i)
  · rw [hI_ne (by omega), hI_ne (by omega), hI_ne (by omega)]; exact aEq_fn a10 (fun i _ _ => eo _ _ (by omega) (by omega))
theorem BC_H {h : mHp} {b : Nat} {B : tB} {j v : Int} (hB : BC h b B) (j0 : 0 ≤ j) : BC (mPI h (b + 10) j.toNat (zI v)) b (bPH B j v) := by
  obtain ⟨e0, e4, e9, e13, a1, a2, a3, a4, a5, a6, a7, a8, a9, a10⟩ := hB
  have eo : ∀ k i, k ≠ 9 → bF (bPH B j v) k i = bF B k i := fun k i h0 => fU_k h0
  refine ⟨?_, ?_, ?_, ?_, ?_, ?_, ?_, ?_, ?_, ?_, ?_, ?_, ?_, ?_⟩
  · rw [hI_ne (by omega)]; exact e0
  · rw [hI_ne (by omega)]; exact e4
  · rw [hI_ne (by omega)]; exact e9
  · rw [hI_ne (by omega)]; exact e13
  · rw [hI_ne (by omega)]; exact aEq_fn a1 (fun i _ _ => eo _ _ (by omega))
  · rw [hI_ne (by omega)]; exact aEq_fn a2 (fun i _ _ => eo _ _ (by omega))
  · rw [hI_ne (by omega)]; exact aEq_fn a3 (fun i _ _ => eo _ _ (by omega))
  · rw [hI_ne (by omega)]; exact aEq_fn a4 (fun i _ _ => eo _ _ (by omega))
  · rw [hI_ne (by omega)]; exact aEq_fn a5 (fun i _ _ => eo _ _ (by omega))
  · rw [hI_ne (by omega)]; exact aEq_fn a6 (fun i _ _ => eo _ _ (by omega))
  · rw [hI_ne (by omega)]; exact aEq_fn a7 (fun i _ _ => eo _ _ (by omega))
  · rw [hI_ne (by omega)]; exact aEq_fn a8 (fun i _ _ => eo _ _ (by omega))
  · rw [hI_ne (by omega)]; exact aEq_fn a9 (fun i _ _ => eo _ _ (by omega))
  · intro i i0 i1
    rw [hI_row]
    show (if i.toNat = j.toNat then zI v else h.1 (b + 10) i.toNat) = zI (fU (bF B) 9 j v 9 i)
    rw [fU_i]
    by_cases e : i = j
    · rw [if_pos (by rw [e]), if_pos e]
    · rw [if_neg (by omega), if_neg e]; exact a10 i i0 i1
theorem BC_C {h : mHp} {b : Nat} {B : tB} {v : Int} (hB : BC h b B) : BC (mPI h b 13 (zI v)) b (bPC B v) := by
  obtain ⟨e0, e4, e9, e13, a1, a2, a3, a4, a5, a6, a7, a8, a9, a10⟩ := hB
  refine ⟨?_, ?_, ?_, hI_same _ _ _ _, ?_, ?_, ?_, ?_, ?_, ?_, ?_, ?_, ?_, ?_⟩
  · rw [hI_off (by omega)]; exact e0
  · rw [hI_off (by omega)]; exact e4
  · rw [hI_off (by omega)]; exact e9
  · rw [hI_ne (by omega)]; exact a1
  · rw [hI_ne (by omega)]; exact a2
  · rw [hI_ne (by omega)]; exact a3
  · rw [hI_ne (by omega)]; exact a4
  · rw [hI_ne (by omega)]; exact a5
  · rw [hI_ne (by omega)]; exact a6
  · rw [hI_ne (by omega)]; exact a7
  · rw [hI_ne (by omega)]; exact a8
  · rw [hI_ne (by omega)]; exact a9
  · rw [hI_ne (by omega)]; exact a10

/-! L3, plans, pure: the least cold of dishes by the caps that are left; K the cold of a set (-1: none), T the time of the dish that has so many behind it -/
abbrev okS (c : Int → Int) (s : Int) : Prop := (aBit s 0 = 0 ∨ 0 < c 0) ∧ (aBit s 1 = 0 ∨ 0 < c 1) ∧ (aBit s 2 = 0 ∨ 0 < c 2) ∧ (aBit s 3 = 0 ∨ 0 < c 3) ∧ (aBit s 4 = 0 ∨ 0 < c 4)
def aMn (f : Int → Int) : Nat → Int → Int → Int
  | 0, _, v => v
  | n + 1, s, v => aMn f n (s + 1) (if f s < v then f s else v)
theorem aMn_spec (f : Int → Int) : ∀ (n : Nat) (i v : Int), aMn f n i v ≤ v ∧ (∀ s, i ≤ s → s < i + n → aMn f n i v ≤ f s) ∧ (aMn f n i v = v ∨ ∃ s, i ≤ s ∧ s < i + n ∧ aMn f n i v = f s) := by
  intro n
  induction n with
  | zero => intro i v; exact ⟨Int.le_refl _, fun s a b => by omega, Or.inl rfl⟩
  | succ n ih =>
    intro i v
    obtain ⟨h1, h2, h3⟩ := ih (i + 1) (if f i < v then f i else v)
    unfold aMn
    have hm : (if f i < v then f i else v) ≤ v ∧ (if f i < v then f i else v) ≤ f i := by split <;> omega
    refine ⟨by omega, fun s a b => ?_, ?_⟩
    · by_cases e : s = i
      · rw [e]; omega
      · exact h2 s (by omega) (by omega)
    · rcases h3 with h | ⟨s, a, b, h⟩
      · by_cases c : f i < v
        · rw [if_pos c] at h ⊢; exact Or.inr ⟨i, by omega, by omega, h⟩
        · rw [if_neg c] at h ⊢; exact Or.inl h
      · exact Or.inr ⟨s, by omega, by omega, h⟩
theorem aMn_cong {f g : Int → Int} : ∀ (n : Nat) (i v : Int), (∀ s, i ≤ s → s < i + n → f s = g s) → aMn f n i v = aMn g n i v := by
  intro n
  induction n with
  | zero => intro i v _; rfl
  | succ n ih => intro i v h; unfold aMn; rw [h i (by omega) (by omega)]; exact ih _ _ (fun s a b => h s (by omega) (by omega))
theorem aMn_uniq {f : Int → Int} {n : Nat} {i v r : Int} (h1 : r ≤ v) (h2 : ∀ s, i ≤ s → s < i + n → r ≤ f s) (h3 : r = v ∨ ∃ s, i ≤ s ∧ s < i + n ∧ r = f s) : r = aMn f n i v := by
  obtain ⟨k1, k2, k3⟩ := aMn_spec f n i v
  have a : r ≤ aMn f n i v := by
    rcases k3 with h | ⟨s, x, y, h⟩
    · omega
    · have := h2 s x y; omega
  have b : aMn f n i v ≤ r := by
    rcases h3 with h | ⟨s, x, y, h⟩
    · omega
    · have := k2 s x y; omega
  omega
def cSub (c : Int → Int) (s : Int) : Int → Int := fun t => c t - aBit s t
abbrev okP (K : Int → Int) (T : Int) (c : Int → Int) (s : Int) : Prop := K s ≠ -1 ∧ K s ≤ T ∧ okS c s
def aL (K : Int → Int) (T : Nat → Int) (top : Int) : Nat → (Int → Int) → Int
  | 0, _ => 0
  | j + 1, c => aMn (fun s => if okP K (T j) c s then K s + aL K T top j (cSub c s) else top) 32 0 top
theorem aL_spec (K : Int → Int) (T : Nat → Int) (top : Int) (j : Nat) (c : Int → Int) : aL K T top (j + 1) c ≤ top ∧ (∀ s, 0 ≤ s → s < 32 → okP K (T j) c s → aL K T top (j + 1) c ≤ K s + aL K T top j (cSub c s)) ∧ (aL K T top (j + 1) c = top ∨ ∃ s, 0 ≤ s ∧ s < 32 ∧ okP K (T j) c s ∧ aL K T top (j + 1) c = K s + aL K T top j (cSub c s)) := by
  obtain ⟨h1, h2, h3⟩ := aMn_spec (fun s => if okP K (T j) c s then K s + aL K T top j (cSub c s) else top) 32 0 top
  refine ⟨h1, fun s a b p => ?_, ?_⟩
  · have := h2 s a (by omega)
    rw [if_pos p] at this; exact this
  · rcases h3 with h | ⟨s, a, b, h⟩
    · exact Or.inl h
    · by_cases p : okP K (T j) c s
      · rw [if_pos p] at h; exact Or.inr ⟨s, a, by omega, p, h⟩
      · rw [if_neg p] at h; exact Or.inl h
theorem aL_uniq {K : Int → Int} {T : Nat → Int} {top : Int} {j : Nat} {c : Int → Int} {r : Int} (h1 : r ≤ top) (h2 : ∀ s, 0 ≤ s → s < 32 → okP K (T j) c s → r ≤ K s + aL K T top j (cSub c s)) (h3 : r = top ∨ ∃ s, 0 ≤ s ∧ s < 32 ∧ okP K (T j) c s ∧ r = K s + aL K T top j (cSub c s)) : r = aL K T top (j + 1) c := by
  obtain ⟨k1, k2, k3⟩ := aL_spec K T top j c
  have a : r ≤ aL K T top (j + 1) c := by
    rcases k3 with h | ⟨s, x, y, p, h⟩
    · omega
    · have := h2 s x y p; omega
  have b : aL K T top (j + 1) c ≤ r := by
    rcases h3 with h | ⟨s, x, y, p, h⟩
    · omega
    · have := k2 s x y p; omega
  omega
def kOk (K : Int → Int) : Prop := ∀ s, 0 ≤ s → s < 32 → -1 ≤ K s
theorem aL_nn {K : Int → Int} (hK : kOk K) {T : Nat → Int} {top : Int} (ht : 0 ≤ top) : ∀ (j : Nat) (c : Int → Int), 0 ≤ aL K T top j c := by
  intro j
  induction j with
  | zero => intro c; exact Int.le_refl 0
  | succ j ih =>
    intro c
    obtain ⟨k1, k2, k3⟩ := aL_spec K T top j c
    rcases k3 with h | ⟨s, a, b, p, h⟩
    · omega
    · have := hK s a b; have := ih (cSub c s); have := p.1; omega
theorem aL_le {K : Int → Int} {T : Nat → Int} {top : Int} (ht : 0 ≤ top) (j : Nat) (c : Int → Int) : aL K T top j c ≤ top := by
  cases j with
  | zero => exact ht
  | succ j => exact (aL_spec K T top j c).1
theorem aL_two {K : Int → Int} (hK : kOk K) {T : Nat → Int} (hT : ∀ j, T j ≤ 95) {v v' : Int} (hv : 1023 ≤ v) (hv' : 1023 ≤ v') : ∀ (j : Nat) (c : Int → Int), j ≤ 6 → (aL K T v j c = v ∧ aL K T v' j c = v') ∨ (aL K T v j c = aL K T v' j c ∧ aL K T v j c ≤ 95 * j) := by
  intro j
  induction j with
  | zero => intro c _; exact Or.inr ⟨rfl, Int.le_refl 0⟩
  | succ j ih =>
    intro c hj
    obtain ⟨k1, k2, k3⟩ := aL_spec K T v j c
    obtain ⟨m1, m2, m3⟩ := aL_spec K T v' j c
    have hTj := hT j
    rcases k3 with h | ⟨s, a, b, p, h⟩
    · rcases m3 with g | ⟨s, a, b, p, g⟩
      · exact Or.inl ⟨h, g⟩
      · have := k2 s a b p
        rcases ih (cSub c s) (by omega) with q | q
        · have := aL_nn hK (T := T) (top := v') (by omega) j (cSub c s)
          have := hK s a b; have := p.1; have := m1
          refine Or.inl ⟨h, ?_⟩; omega
        · have := p.2.1; omega
    · rcases ih (cSub c s) (by omega) with q | q
      · have := hK s a b; have := p.1
        have hh : aL K T v (j + 1) c = v := by omega
        rcases m3 with g | ⟨s', a', b', p', g⟩
        · exact Or.inl ⟨hh, g⟩
        · have := k2 s' a' b' p'
          rcases ih (cSub c s') (by omega) with q' | q'
          · have := hK s' a' b'; have := p'.1
            refine Or.inl ⟨hh, ?_⟩; omega
          · have := p'.2.1; omega
      · have w1 := m2 s a b p
        have w2 : aL K T v (j + 1) c ≤ aL K T v' (j + 1) c := by
          rcases m3 with g | ⟨s', a', b', p', g⟩
          · have := p.2.1; omega
          · have := k2 s' a' b' p'
            rcases ih (cSub c s') (by omega) with q' | q'
            · have := hK s' a' b'; have := p'.1; have := p.2.1; omega
            · omega
        refine Or.inr ⟨by omega, ?_⟩
        have := p.2.1; omega
theorem cSub_of {c c' : Int → Int} (h : ∀ t, 0 ≤ t → t < 5 → c t = c' t) (s : Int) : ∀ t, 0 ≤ t → t < 5 → cSub c s t = cSub c' s t := by
  intro t a b; unfold cSub; rw [h t a b]
theorem okS_cong {c c' : Int → Int} (h : ∀ t, 0 ≤ t → t < 5 → c t = c' t) (s : Int) : okS c s ↔ okS c' s := by
  unfold okS; rw [h 0 (by omega) (by omega), h 1 (by omega) (by omega), h 2 (by omega) (by omega), h 3 (by omega) (by omega), h 4 (by omega) (by omega)]
theorem aL_cong {K : Int → Int} {T : Nat → Int} {top : Int} : ∀ (j : Nat) (c c' : Int → Int), (∀ t, 0 ≤ t → t < 5 → c t = c' t) → aL K T top j c = aL K T top j c' := by
  intro j
  induction j with
  | zero => intro c c' _; rfl
  | succ j ih =>
    intro c c' h
    unfold aL
    refine aMn_cong _ _ _ (fun s _ _ => ?_)
    rw [ih _ _ (cSub_of h s)]
    have := okS_cong h s
    simp only [okP, this]
theorem okS_iff (c : Int → Int) (s : Int) : okS c s ↔ ∀ t, 0 ≤ t → t < 5 → aBit s t = 1 → 0 < c t := by
  constructor
  · rintro ⟨h0, h1, h2, h3, h4⟩ t a b e
    have : t = 0 ∨ t = 1 ∨ t = 2 ∨ t = 3 ∨ t = 4 := by omega
    rcases this with rfl | rfl | rfl | rfl | rfl
    · exact h0.elim (fun z => by omega) id
    · exact h1.elim (fun z => by omega) id
    · exact h2.elim (fun z => by omega) id
    · exact h3.elim (fun z => by omega) id
    · exact h4.elim (fun z => by omega) id
  · intro h
    have k : ∀ t, 0 ≤ t → t < 5 → aBit s t = 0 ∨ 0 < c t := by
      intro t a b
      rcases aBit_01 s t with e | e
      · exact Or.inl e
      · exact Or.inr (h t a b e)
    exact ⟨k 0 (by omega) (by omega), k 1 (by omega) (by omega), k 2 (by omega) (by omega), k 3 (by omega) (by omega), k 4 (by omega) (by omega)⟩
theorem aL_mono {K : Int → Int} {T : Nat → Int} {top : Int} : ∀ (j : Nat) (c c' : Int → Int), (∀ t, 0 ≤ t → t < 5 → c t ≤ c' t) → aL K T top j c' ≤ aL K T top j c := by
  intro j
  induction j with
  | zero => intro c c' _; exact Int.le_refl 0
  | succ j ih =>
    intro c c' h
    obtain ⟨k1, k2, k3⟩ := aL_spec K T top j c
    obtain ⟨m1, m2, m3⟩ := aL_spec K T top j c'
    rcases k3 with e | ⟨s, a, b, p, e⟩
    · omega
    · have := m2 s a b ⟨p.1, p.2.1, (okS_iff _ _).mpr (fun t x y z => by have := (okS_iff _ _).mp p.2.2 t x y z; have := h t x y; omega)⟩
      have := ih (cSub c s) (cSub c' s) (fun t x y => by unfold cSub; have := h t x y; omega)
      omega
theorem aL_cap {K : Int → Int} {T : Nat → Int} {top : Int} : ∀ (j : Nat) (c c' : Int → Int), (∀ t, 0 ≤ t → t < 5 → aMin (c t) j = aMin (c' t) j) → aL K T top j c = aL K T top j c' := by
  intro j
  induction j with
  | zero => intro c c' _; rfl
  | succ j ih =>
    intro c c' h
    unfold aL
    refine aMn_cong _ _ _ (fun s _ _ => ?_)
    have h1 : okS c s ↔ okS c' s := by
      rw [okS_iff, okS_iff]
      have k : ∀ t, 0 ≤ t → t < 5 → (0 < c t ↔ 0 < c' t) := by
        intro t x y; have := h t x y; unfold aMin at this
        split at this <;> split at this <;> omega
      exact ⟨fun z t x y w => (k t x y).mp (z t x y w), fun z t x y w => (k t x y).mpr (z t x y w)⟩
    rw [ih (cSub c s) (cSub c' s) (fun t x y => by
      have hb := aBit_01 s t
      have := h t x y
      unfold cSub aMin at *
      split at this <;> split at this <;> split <;> split <;> omega)]
    simp only [okP, h1]
theorem aL_low {K : Int → Int} {T : Nat → Int} {top m : Int} (hm : 0 ≤ m) : ∀ (j : Nat) (c : Int → Int), (∀ s, 0 ≤ s → s < 32 → K s ≠ -1 → okS c s → m ≤ K s) → m * j ≤ aL K T top j c ∨ top ≤ aL K T top j c := by
  intro j
  induction j with
  | zero => intro c _; exact Or.inl (by show m * 0 ≤ 0; omega)
  | succ j ih =>
    intro c h
    obtain ⟨k1, k2, k3⟩ := aL_spec K T top j c
    rcases k3 with e | ⟨s, a, b, p, e⟩
    · exact Or.inr (by omega)
    · have h1 := h s a b p.1 p.2.2
      rcases ih (cSub c s) (fun s' a' b' p1 p2 => h s' a' b' p1 ((okS_iff _ _).mpr (fun t x y z => by have := (okS_iff _ _).mp p2 t x y z; unfold cSub at this; have := aBit_01 s t; omega))) with q | q
      · refine Or.inl ?_
        have : m * ((j + 1 : Nat) : Int) = m * j + m := by rw [show ((j + 1 : Nat) : Int) = (j : Int) + 1 by omega, Int.mul_add, Int.mul_one]
        omega
      · exact Or.inr (by omega)
/-! lean sets -/
theorem xor_facts {s t : Int} (h1 : 0 ≤ s) (h2 : s < 32) (h3 : 0 ≤ t) (h4 : t < 5) (h5 : aBit s t = 1) : 0 ≤ aXor s t ∧ aXor s t < s ∧ ∀ u, 0 ≤ u → u < 5 → aBit (aXor s t) u ≤ aBit s u := by
  have H : ∀ (m : Fin 32) (n : Fin 5), aBit (m.val : Int) (n.val : Int) = 1 → 0 ≤ aXor (m.val : Int) (n.val : Int) ∧ aXor (m.val : Int) (n.val : Int) < (m.val : Int) ∧ ∀ u : Fin 5, aBit (aXor (m.val : Int) (n.val : Int)) (u.val : Int) ≤ aBit (m.val : Int) (u.val : Int) := by decide +kernel
  have := H ⟨s.toNat, by omega⟩ ⟨t.toNat, by omega⟩
  have e1 : ((s.toNat : Nat) : Int) = s := by omega
  have e2 : ((t.toNat : Nat) : Int) = t := by omega
  simp only [e1, e2] at this
  obtain ⟨k1, k2, k3⟩ := this h5
  refine ⟨k1, k2, fun u a b => ?_⟩
  have := k3 ⟨u.toNat, by omega⟩
  have e3 : ((u.toNat : Nat) : Int) = u := by omega
  simp only [e3] at this; exact this
def isLn (K : Int → Int) (s : Int) : Prop := ∀ t, 0 ≤ t → t < 5 → aBit s t = 1 → K (aXor s t) ≠ K s
theorem lean_of {K : Int → Int} {T : Nat → Int} {top : Int} {j : Nat} {c : Int → Int} : ∀ (n : Nat) (s : Int), s.toNat < n → 0 ≤ s → s < 32 → okP K (T j) c s → ∃ s', 0 ≤ s' ∧ s' ≤ s ∧ isLn K s' ∧ okP K (T j) c s' ∧ K s' = K s ∧ aL K T top j (cSub c s') ≤ aL K T top j (cSub c s) := by
  intro n
  induction n with
  | zero => intro s h; omega
  | succ n ih =>
    intro s hn s0 s1 p
    by_cases l : isLn K s
    · exact ⟨s, s0, Int.le_refl _, l, p, rfl, Int.le_refl _⟩
    · have : ∃ t, 0 ≤ t ∧ t < 5 ∧ aBit s t = 1 ∧ K (aXor s t) = K s := by
        apply Classical.byContradiction
        intro z
        exact l (fun t a b e w => z ⟨t, a, b, e, w⟩)
      obtain ⟨t, a, b, e, w⟩ := this
      obtain ⟨x1, x2, x3⟩ := xor_facts s0 s1 a b e
      have p' : okP K (T j) c (aXor s t) := ⟨by rw [w]; exact p.1, by rw [w]; exact p.2.1, (okS_iff _ _).mpr (fun u y z q => (okS_iff _ _).mp p.2.2 u y z (by have := x3 u y z; have := aBit_01 s u; omega))⟩
      obtain ⟨s', g1, g2, g3, g4, g5, g6⟩ := ih (aXor s t) (by omega) x1 (by omega) p'
      refine ⟨s', g1, by omega, g3, g4, by rw [g5, w], Int.le_trans g6 (aL_mono j _ _ (fun u y z => by unfold cSub; have := x3 u y z; omega))⟩
/-- the first set of a dish by which the least cold is kept -/
def aSelR (K : Int → Int) (T : Nat → Int) (top : Int) (j : Nat) (c : Int → Int) : Nat → Int → Int
  | 0, _ => 0
  | n + 1, s => if okP K (T j) c s ∧ K s + aL K T top j (cSub c s) = aL K T top (j + 1) c then s else aSelR K T top j c n (s + 1)
def aSel (K : Int → Int) (T : Nat → Int) (top : Int) (j : Nat) (c : Int → Int) : Int := aSelR K T top j c 32 0
abbrev isSel (K : Int → Int) (T : Nat → Int) (top : Int) (j : Nat) (c : Int → Int) (s : Int) : Prop := okP K (T j) c s ∧ K s + aL K T top j (cSub c s) = aL K T top (j + 1) c
theorem aSelR_spec {K : Int → Int} {T : Nat → Int} {top : Int} {j : Nat} {c : Int → Int} : ∀ (n : Nat) (i : Int), (∃ s, i ≤ s ∧ s < i + n ∧ isSel K T top j c s) → i ≤ aSelR K T top j c n i ∧ aSelR K T top j c n i < i + n ∧ isSel K T top j c (aSelR K T top j c n i) ∧ ∀ s, i ≤ s → s < aSelR K T top j c n i → ¬ isSel K T top j c s := by
  intro n
  induction n with
  | zero => rintro i ⟨s, a, b, _⟩; omega
  | succ n ih =>
    rintro i ⟨s, a, b, p⟩
    unfold aSelR
    by_cases e : okP K (T j) c i ∧ K i + aL K T top j (cSub c i) = aL K T top (j + 1) c
    · rw [if_pos e]; exact ⟨Int.le_refl _, by omega, e, fun s x y => by omega⟩
    · rw [if_neg e]
      obtain ⟨k1, k2, k3, k4⟩ := ih (i + 1) ⟨s, by
        by_cases h : s = i
        · rw [h] at p; exact absurd p e
        · omega, by omega, p⟩
      refine ⟨by omega, by omega, k3, fun s' x y => ?_⟩
      by_cases h : s' = i
      · rw [h]; exact e
      · exact k4 s' (by omega) y
theorem aSel_spec {K : Int → Int} {T : Nat → Int} {top : Int} {j : Nat} {c : Int → Int} (h : aL K T top (j + 1) c < top) : 0 ≤ aSel K T top j c ∧ aSel K T top j c < 32 ∧ isSel K T top j c (aSel K T top j c) ∧ ∀ s, 0 ≤ s → s < aSel K T top j c → ¬ isSel K T top j c s := by
  obtain ⟨k1, k2, k3⟩ := aL_spec K T top j c
  rcases k3 with e | ⟨s, a, b, p, e⟩
  · omega
  · have := aSelR_spec (K := K) (T := T) (top := top) (j := j) (c := c) 32 0 ⟨s, a, by omega, p, e.symm⟩
    unfold aSel; exact ⟨this.1, by have := this.2.1; omega, this.2.2⟩
theorem aSel_uniq {K : Int → Int} {T : Nat → Int} {top : Int} {j : Nat} {c : Int → Int} {r : Int} (h0 : 0 ≤ r) (h1 : r < 32) (h2 : isSel K T top j c r) (h3 : ∀ s, 0 ≤ s → s < r → ¬ isSel K T top j c s) : aSel K T top j c = r := by
  have := aSelR_spec (K := K) (T := T) (top := top) (j := j) (c := c) 32 0 ⟨r, h0, by omega, h2⟩
  obtain ⟨k1, k2, k3, k4⟩ := this
  unfold aSel
  rcases Int.lt_trichotomy (aSelR K T top j c 32 0) r with h | h | h
  · exact absurd k3 (h3 _ k1 h)
  · exact h
  · exact absurd h2 (k4 r h0 h)
/-- the first selected set is lean -/
theorem aSel_lean {K : Int → Int} (hK : kOk K) {T : Nat → Int} {top : Int} (ht : 0 ≤ top) {j : Nat} {c : Int → Int} (h : aL K T top (j + 1) c < top) : isLn K (aSel K T top j c) := by
  obtain ⟨a, b, p, q⟩ := aSel_spec h
  obtain ⟨s', g1, g2, g3, g4, g5, g6⟩ := lean_of (K := K) (T := T) (top := top) (j := j) (c := c) 33 (aSel K T top j c) (by omega) a b p.1
  by_cases e : s' = aSel K T top j c
  · rw [← e]; exact g3
  · have l := (aL_spec K T top j c).2.1 s' g1 (by omega) g4
    have := p.2
    exact absurd ⟨g4, by omega⟩ (q s' g1 (by omega))
/-- the row of sets for the last j dishes -/
def aRw (K : Int → Int) (T : Nat → Int) (top : Int) : Nat → (Int → Int) → Nat → Int
  | 0, _, _ => 0
  | j + 1, c, i => match i with
    | 0 => aSel K T top j c
    | i + 1 => aRw K T top j (cSub c (aSel K T top j c)) i

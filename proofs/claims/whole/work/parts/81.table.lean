/-! L3, table of both -/
theorem s_Brd_clear {d : Nat} {h : mHp} {b : Nat} (hb : bAd b) :
    ∃ h', mRuns (d + 2) 90 0 [some (.ref b)] [] h (.inl (none, h')) ∧ BC h' b b00 ∧ hFr [b, b + 10] h h' := by
  obtain ⟨s0, s1, s2, s3, s4, s5, s6, s7, s8, s9, s10⟩ := bSh_of hb
  obtain ⟨h', r, p, f⟩ := s_fill (d := d) (h := mPI (mPI (mPI (mPI h b 0 (zI 0)) b 4 (zI 0)) b 9 (zI 0)) b 13 (zI 1)) s10 (by omega) (zI 0)
  have fb : h'.1 b = (mPI (mPI (mPI (mPI h b 0 (zI 0)) b 4 (zI 0)) b 9 (zI 0)) b 13 (zI 1)).1 b := f.1 b (by simp)
  refine ⟨h', vc_Brd_clear ?_, ⟨?_, ?_, ?_, ?_, ?_⟩, ?_⟩
  · simp (disch := omega) only [zI_add, zI_sub, zI_mul, zI_neg, zI_lit, zI_0, zI_1, zI_lt, zI_le, zI_eq, zI_clamp, zI_inT, zI_ite, mOb_0, mOb_1, mOb_3, mOb_4, mLd_1, mAr_1, mLen_1, mTrue_t, Int.toNat_zero, Int.toNat_one, true_and, and_true, not_true_eq_false, not_false_eq_true, true_or, or_true, or_self, false_or, or_false, forall_const, false_implies, true_implies, implies_true, s0]
    exact ⟨h', r, rfl⟩
  · rw [fb, hI_off (by omega), hI_off (by omega), hI_off (by omega), hI_same]; rfl
  · rw [fb, hI_off (by omega), hI_off (by omega), hI_same]; rfl
  · rw [fb, hI_off (by omega), hI_same]; rfl
  · rw [fb, hI_same]; rfl
  · have z : ∀ (f : Nat → Int32) (g : Int → Int), aEq f 0 g := fun f g i i0 i1 => absurd i1 (by omega)
    exact ⟨z _ _, z _ _, z _ _, z _ _, z _ _, z _ _, z _ _, z _ _, z _ _, fun i i0 i1 => p i.toNat (by omega)⟩
  · refine ⟨fun x hx => ?_, by rw [f.2]; rfl⟩
    simp only [List.mem_cons, List.mem_nil_iff, or_false, not_or] at hx
    rw [f.1 x (by simp; exact hx.2), hI_ne hx.1, hI_ne hx.1, hI_ne hx.1, hI_ne hx.1]
theorem s_Rdr_read {d : Nat} {h : mHp} {b : Nat} {m n : Int} {g : Int → Int32} (hb : bAd b) (hT : TC h m g) (n0 : 0 ≤ n) (nm : n ≤ m) (m1 : m ≤ 700) :
    ∃ h', mRuns (d + 7) 134 0 [some (.ref 23), some (.int (zI n)), some (.ref b), none] [] h (.inl (some (.int (zI (rF (xAl (gU g) n).1))), h')) ∧ QC h' b (gU g) n (xAl (gU g) n) ∧ ROk (gU g) n (xAl (gU g) n).1 ∧ h'.1 23 1 = zI 0 ∧ (∀ x, x ≠ 23 → x ≠ 25 → (x < b ∨ b + 10 < x) → h'.1 x = h.1 x) ∧ h'.2 = h.2 := by
  obtain ⟨s0, -⟩ := bSh_of hb
  have hbn : b ≠ 23 ∧ b + 10 ≠ 23 ∧ b ≠ 24 ∧ b + 10 ≠ 24 ∧ b ≠ 25 ∧ b + 10 ≠ 25 := by rcases hb with e | e <;> omega
  have hu : uR (gU g) := fun i => gU_rng g i
  have e1 := hT.1
  have ml : (if (h.1 23 1) < zI n then (h.1 23 1) else zI n) = zI n := by
    rw [e1]
    by_cases c : zI m < zI n
    · rw [zI_lt (by omega) (by omega) (by omega) (by omega)] at c; omega
    · rw [if_neg c]
  obtain ⟨h1, r1, p1, f1⟩ := s_fill (d := d + 5) (h := mPI (mPI (mPI (mPI (mPI (mPI h 23 2 (zI n)) 23 1 (zI 0)) 23 3 (zI 0)) 23 7 (zI 0)) 23 10 (zI (-1))) 23 8 (zI 0)) (a := 25) (n := 5) (by decide) (by omega) (zI 0)
  obtain ⟨h2, r2, B2, f2⟩ := s_Brd_clear (d := d + 4) (h := h1) hb
  have q : ∀ x, x ≠ 23 → x ≠ 25 → x ≠ b → x ≠ b + 10 → h2.1 x = h.1 x := fun x a0 a1 a2 a3 => by
    rw [f2.1 x (by simp; exact ⟨a2, a3⟩), f1.1 x (by simp; exact a1), hI_ne a0, hI_ne a0, hI_ne a0, hI_ne a0, hI_ne a0, hI_ne a0]
  have q23 : h2.1 23 = (mPI (mPI (mPI (mPI (mPI (mPI h 23 2 (zI n)) 23 1 (zI 0)) 23 3 (zI 0)) 23 7 (zI 0)) 23 10 (zI (-1))) 23 8 (zI 0)).1 23 := by
    rw [f2.1 23 (by simp; omega), f1.1 23 (by simp)]
  have k2 : h2.1 23 2 = zI n := by rw [q23, hI_off (by omega), hI_off (by omega), hI_off (by omega), hI_off (by omega), hI_off (by omega), hI_same]
  have k1 : h2.1 23 1 = zI 0 := by rw [q23, hI_off (by omega), hI_off (by omega), hI_off (by omega), hI_off (by omega), hI_same]
  have k3 : h2.1 23 3 = zI 0 := by rw [q23, hI_off (by omega), hI_off (by omega), hI_off (by omega), hI_same]
  have k7 : h2.1 23 7 = zI 0 := by rw [q23, hI_off (by omega), hI_off (by omega), hI_same]
  have k10 : h2.1 23 10 = zI (-1) := by rw [q23, hI_off (by omega), hI_same]
  have k8 : h2.1 23 8 = zI 0 := by rw [q23, hI_same]
  have x2 : XC h2 n (gU g) := fun i i0 i1 => by rw [q 24 (by omega) (by omega) (by omega) (by omega)]; exact XC_of hT nm i i0 i1
  obtain ⟨h3, r3, c4, c5, c3, c6, f3⟩ := s_Rdr_scan (d := d + 4) (show n ≤ 700 by omega) hu (show (0:Int) ≤ 0 by omega) n0 x2 k2 k3
  have C3 : RC h3 (gU g) n (aSc (gU g) n (0, 0, 0, 0, 0, -1)) := ⟨by rw [f3.2.1 2 (by simp)]; exact k2, XC_fr x2 f3 (by simp), c3, c4, c5, c6, by rw [f3.2.1 7 (by simp)]; exact k7, by rw [f3.2.1 10 (by simp)]; exact k10⟩
  have U3 : UC h3 (fun _ => false) := fun t p t0 t1 p0 p5 => by
    rw [f3.1 25 (by simp) (by omega), f2.1 25 (by simp; omega), p1 t.toNat (by omega)]
    exact b_0 _
  have Q3 : QC h3 b (gU g) n (aSc (gU g) n (0, 0, 0, 0, 0, -1), b00, fun _ => false, 0) := ⟨C3, fun _ => ⟨BC_of B2 (fun k hk => f3.1 _ (by simp) (by rcases hb with e | e <;> omega)), BOk_00, U3, by rw [f3.2.1 8 (by simp)]; exact k8, Or.inl rfl⟩⟩
  have O3 := ROk_0 (gU g) n0
  have st3 := O3.1.2.2.1
  obtain ⟨h', r', Q', O', f'⟩ := s_Rdr_lines (d := d + 1) hb n0 (show n ≤ 700 by omega) hu (n + 1).toNat (aSc (gU g) n (0, 0, 0, 0, 0, -1), b00, fun _ => false, 0) 0 h3 O3 Q3 (by omega) (by omega) (fun _ => st3) (Or.inr (by
    show n - rSt (aSc (gU g) n (0, 0, 0, 0, 0, -1)) < _
    omega))
  refine ⟨h', vc_Rdr_read ⟨Or.inl rfl, h1, by rw [ml]; exact r1, ?_⟩, Q', O', ?_, fun x a0 a1 a2 => ?_, ?_⟩
  · rw [s0]
    exact ⟨h2, r2, h3, r3, r'⟩
  · rw [f'.2.1 1 (by simp), f3.2.1 1 (by simp)]; exact k1
  · rw [f'.1 x a0 a1 a2, f3.1 x (by simp) a0, q x a0 a1 (by omega) (by omega)]
  · rw [f'.2.2, f3.2.2, f2.2, f1.2]; rfl
/-! no fault: no place -/
def PI0 (R : tR) : Prop := rF R = 0 → rPl R = -1
theorem PI_fl {k : Int} (hk : k ≠ 0) (R : tR) : PI0 (aFl k R) := fun z => absurd z (fl_f hk R)
theorem PI_sc {u : Int → Int} {n : Int} {R : tR} (h : PI0 R) : PI0 (aSc u n R) := h
theorem PI_nu {u : Int → Int} {n lo hi : Int} {R : tR} (h : PI0 R) : PI0 (aNu u n lo hi R).1 := by
  unfold aNu
  repeat' split
  · exact h
  · exact PI_fl (by omega) R
  · exact PI_fl (by omega) R
  · exact h
theorem PI_op {u : Int → Int} {n hi wo : Int} {k : Nat} {R : tR} (h : PI0 R) : PI0 (aOp u n k hi wo R).1 := by
  unfold aOp
  split
  · exact h
  · exact PI_nu (PI_sc h)
theorem PI_en {u : Int → Int} {n : Int} {R : tR} (h : PI0 R) : PI0 (aEn u n R) := by
  unfold aEn
  repeat' split
  · exact h
  · exact h
  · exact PI_fl (by omega) R
theorem PI_to {u : Int → Int} {n told : Int} {used : Int → Bool} {R : tR} (h : PI0 R) : PI0 (aTo u n told used R).1 := by
  unfold aTo
  repeat' split
  · exact h
  · exact PI_fl (by omega) R
  · exact PI_fl (by omega) R
  · exact PI_fl (by omega) R
  · exact PI_fl (by omega) R
  · exact h
theorem PI_ki {u : Int → Int} {n : Int} {R : tR} (h : PI0 R) : PI0 (aKi u n R) := by
  unfold aKi
  split
  · exact PI_fl (by omega) R
  · exact h
theorem PI_ln {u : Int → Int} {n : Int} {S : tL} (h : PI0 S.1) : PI0 (xLn u n S).1 := by
  unfold xLn
  split
  · unfold xDi
    split
    · exact PI_fl (by omega) _
    · exact PI_en (PI_op (PI_nu (PI_nu (PI_sc h))))
  · split
    · unfold xPo
      split
      · exact PI_fl (by omega) _
      · refine PI_en (PI_op (PI_op ?_))
        unfold dP2
        split
        · exact PI_sc (PI_nu (PI_sc h))
        · exact PI_nu (PI_sc h)
    · split
      · unfold xTa
        split
        · exact PI_fl (by omega) _
        · exact PI_en (PI_op (PI_ki (PI_sc h)))
      · split
        · unfold xHa
          exact PI_en (PI_nu (PI_to (PI_to (PI_sc h))))
        · split
          · unfold xCl
            split
            · exact PI_fl (by omega) _
            · exact PI_en (PI_nu (PI_sc h))
          · exact PI_fl (by omega) _
theorem PI_rd {u : Int → Int} {n : Int} : ∀ (j : Nat) (S : tL), PI0 S.1 → PI0 (xRd u n j S).1 := by
  intro j
  induction j with
  | zero => intro S h; exact h
  | succ j ih =>
    intro S h
    unfold xRd
    split
    · exact h
    · exact ih _ (PI_ln h)
theorem PI_al (u : Int → Int) (n : Int) : PI0 (xAl u n).1 := PI_rd _ _ (fun _ => rfl)
/-! the model -/
abbrev rsT : List Nat := [115, 116, 117, 118, 120, 121, 122, 123, 124]
abbrev fsT : List Nat := [0, 1, 2, 3, 4, 10, 11, 12, 14, 15, 16, 17, 18, 19, 21, 22, 23, 24, 25, 26, 38, 42, 46, 53]
theorem s_M_zero124 {d : Nat} : ∀ (j : Nat) (i : Int) (h : mHp), i + j = 25 → 0 ≤ i → (∀ k : Nat, (k : Int) < i → h.1 124 k = zI 0) →
    ∃ h', (∀ k : Nat, k < 25 → h'.1 124 k = zI 0) ∧ hFr [124] h h' ∧ ∀ out, ((∃ h1, mRuns d 9 0 [some (.ref 114), none] [] h' (.inl (none, h1)) ∧ mRuns (d + 1) 7 112 [some (.ref 114), none, none] [] h1 out) → mRuns (d + 1) 7 89 [some (.ref 114), none, some (.int (zI i))] [] h out) := by
  intro j
  induction j with
  | zero =>
    intro i h hi i0 hk
    refine ⟨h, fun k hk' => hk k (by omega), hFr_refl _ _, fun out H => vc_M_table_89 ?_⟩
    simp (disch := omega) only [zI_add, zI_sub, zI_mul, zI_neg, zI_lit, zI_0, zI_1, zI_lt, zI_le, zI_eq, zI_clamp, zI_inT, zI_ite, mOb_0, mOb_1, mOb_3, mOb_4, mLd_1, mAr_1, mLen_1, mTrue_t, Int.toNat_zero, Int.toNat_one, true_and, and_true, not_true_eq_false, not_false_eq_true, true_or, or_true, or_self, false_or, or_false, forall_const, false_implies, true_implies, implies_true]
    repeat' (first | refine And.intro ?_ ?_ | with_reducible intro _)
    all_goals first | omega | exact H
  | succ j ih =>
    intro i h hi i0 hk
    obtain ⟨h', p, f, K⟩ := ih (i + 1) (mPI h 124 i.toNat (zI 0)) (by omega) (by omega) (fun k hk' => by
      by_cases e : k = i.toNat
      · rw [e, hI_same]
      · rw [hI_off e]; exact hk k (by omega))
    refine ⟨h', p, hFr_trans (hFr_pi (hFr_refl _ _) (by simp) _ _) f, fun out H => vc_M_table_89 ?_⟩
    have K := K out H
    simp (disch := omega) only [zI_add, zI_sub, zI_mul, zI_neg, zI_lit, zI_0, zI_1, zI_lt, zI_le, zI_eq, zI_clamp, zI_inT, zI_ite, mOb_0, mOb_1, mOb_3, mOb_4, mLd_1, mAr_1, mLen_1, mTrue_t, Int.toNat_zero, Int.toNat_one, true_and, and_true, not_true_eq_false, not_false_eq_true, true_or, or_true, or_self, false_or, or_false, forall_const, false_implies, true_implies, implies_true]
    repeat' (first | refine And.intro ?_ ?_ | with_reducible intro _)
    all_goals first | omega | exact K
theorem rf_0 {f : Int} (c : f = 0) : zI f = zI 0 := by rw [c]
theorem s_M_table {d : Nat} {h : mHp} {m n : Int} {g : Int → Int32} (hT : TM h m g) (n0 : 0 ≤ n) (nm : n ≤ m) (m1 : m ≤ 700) :
    ∃ h', mRuns (d + 8) 7 0 [some (.ref 114), some (.int (zI n)), none] [] h (.inl (some (.int (zI (rF (xAl (gU g) n).1))), h')) ∧ h'.1 114 0 = zI 0 ∧ h'.1 114 10 = zI 0 ∧ h'.1 114 12 = zI (rPl (xAl (gU g) n).1) ∧ kF rsT fsT h h' ∧
      (rF (xAl (gU g) n).1 ≠ 0 → h'.1 120 = (fun y => if y = 0 then h.1 120 0 + zI 1 else h.1 120 y) ∧ (∀ k, k ∈ [1, 2, 3, 4, 38, 42, 46, 53] → h'.1 114 k = h.1 114 k) ∧ (∀ x, 115 ≤ x → x ≤ 118 → h'.1 x = h.1 x)) ∧
      (rF (xAl (gU g) n).1 = 0 → BM h' (xAl (gU g) n).2.1 ∧ BOk (xAl (gU g) n).2.1 ∧ h'.1 120 = h.1 120 ∧ h'.1 114 42 = zI 0 ∧ h'.1 114 38 = zI 0 ∧ h'.1 114 46 = zI (-1) ∧ h'.1 114 53 = zI 0) := by
  have hu : uR (gU g) := fun i => gU_rng g i
  have n1 : n ≤ 700 := by omega
  have e10 := hT.1
  have e10' : (mPI h 114 0 (zI 0)).1 114 10 = zI m := by rw [hI_off (by omega)]; exact e10
  have rt := s_M_right_t (d := d + 6) (h := mPI h 114 0 (zI 0)) (hI_same _ _ _ _) (a := 1) (w := 1) rfl
  have EX : ∃ h0 : mHp, h0 = (mPI (mPI (mPI (mPI (mPI (mPI (mPI (mPI (mPI (mPI (mPI (mPI h 114 0 (zI 0)) 114 10 (zI 0)) 114 12 (zI (-1))) 114 11 (zI 0)) 114 14 (zI n)) 114 15 (zI 0)) 114 21 (zI 0)) 114 22 (zI 0)) 114 23 (zI 0)) 114 24 (zI 1)) 114 25 (zI 0)) 114 26 (zI 0)) := ⟨_, rfl⟩
  obtain ⟨h0, E0⟩ := EX
  have F0 : kF rsT fsT h h0 := by
    rw [E0]
    exact kF_pf (kF_pf (kF_pf (kF_pf (kF_pf (kF_pf (kF_pf (kF_pf (kF_pf (kF_pf (kF_pf (kF_pf (kF_refl _ _ _) (by simp) _) (by simp) _) (by simp) _) (by simp) _) (by simp) _) (by simp) _) (by simp) _) (by simp) _) (by simp) _) (by simp) _) (by simp) _) (by simp) _
  have z26 : h0.1 114 26 = zI 0 := by rw [E0, hI_same]
  have z25 : h0.1 114 25 = zI 0 := by rw [E0, hI_off (by omega), hI_same]
  have z24 : h0.1 114 24 = zI 1 := by rw [E0, hI_off (by omega), hI_off (by omega), hI_same]
  have z23 : h0.1 114 23 = zI 0 := by rw [E0, hI_off (by omega), hI_off (by omega), hI_off (by omega), hI_same]
  have z22 : h0.1 114 22 = zI 0 := by rw [E0, hI_off (by omega), hI_off (by omega), hI_off (by omega), hI_off (by omega), hI_same]
  have z21 : h0.1 114 21 = zI 0 := by rw [E0, hI_off (by omega), hI_off (by omega), hI_off (by omega), hI_off (by omega), hI_off (by omega), hI_same]
  have z15 : h0.1 114 15 = zI 0 := by rw [E0, hI_off (by omega), hI_off (by omega), hI_off (by omega), hI_off (by omega), hI_off (by omega), hI_off (by omega), hI_same]
  have z14 : h0.1 114 14 = zI n := by rw [E0, hI_off (by omega), hI_off (by omega), hI_off (by omega), hI_off (by omega), hI_off (by omega), hI_off (by omega), hI_off (by omega), hI_same]
  have z11 : h0.1 114 11 = zI 0 := by rw [E0, hI_off (by omega), hI_off (by omega), hI_off (by omega), hI_off (by omega), hI_off (by omega), hI_off (by omega), hI_off (by omega), hI_off (by omega), hI_same]
  have z12 : h0.1 114 12 = zI (-1) := by rw [E0, hI_off (by omega), hI_off (by omega), hI_off (by omega), hI_off (by omega), hI_off (by omega), hI_off (by omega), hI_off (by omega), hI_off (by omega), hI_off (by omega), hI_same]
  have z10 : h0.1 114 10 = zI 0 := by rw [E0, hI_off (by omega), hI_off (by omega), hI_off (by omega), hI_off (by omega), hI_off (by omega), hI_off (by omega), hI_off (by omega), hI_off (by omega), hI_off (by omega), hI_off (by omega), hI_same]
  have z0 : h0.1 114 0 = zI 0 := by rw [E0, hI_off (by omega), hI_off (by omega), hI_off (by omega), hI_off (by omega), hI_off (by omega), hI_off (by omega), hI_off (by omega), hI_off (by omega), hI_off (by omega), hI_off (by omega), hI_off (by omega), hI_same]
  have zk : ∀ k, k ∈ [1, 2, 3, 4, 38, 42, 46, 53] → h0.1 114 k = h.1 114 k := by
    intro k hk
    have : k ≠ 0 ∧ k ≠ 10 ∧ k ≠ 12 ∧ k ≠ 11 ∧ k ≠ 14 ∧ k ≠ 15 ∧ k ≠ 21 ∧ k ≠ 22 ∧ k ≠ 23 ∧ k ≠ 24 ∧ k ≠ 25 ∧ k ≠ 26 := by simp at hk; omega
    obtain ⟨a1, a2, a3, a4, a5, a6, a7, a8, a9, a10, a11, a12⟩ := this
    rw [E0, hI_off a12, hI_off a11, hI_off a10, hI_off a9, hI_off a8, hI_off a7, hI_off a6, hI_off a5, hI_off a4, hI_off a3, hI_off a2, hI_off a1]
  have zr : ∀ x, x ≠ 114 → h0.1 x = h.1 x := by
    intro x hx
    rw [E0, hI_ne hx, hI_ne hx, hI_ne hx, hI_ne hx, hI_ne hx, hI_ne hx, hI_ne hx, hI_ne hx, hI_ne hx, hI_ne hx, hI_ne hx, hI_ne hx]
  have S1 : ∀ out, mRuns (d + 8) 7 89 [some (.ref 114), none, some (.int (zI 0))] [] h0 out → mRuns (d + 8) 7 0 [some (.ref 114), some (.int (zI n)), none] [] h out := by
    intro out H
    have q : mRuns (d + 8) 7 23 [some (.ref 114), some (.int (zI n)), none] [.int (zI 1), .ref 114] (mPI h 114 0 (zI 0)) out := by
      refine vc_M_table_23 ⟨_, _, rt, ?_⟩
      rw [show (-1 : Int32) = zI (-1) from rfl]
      rw [E0] at H
      simp (disch := omega) only [zI_add, zI_sub, zI_mul, zI_neg, zI_lit, zI_0, zI_1, zI_lt, zI_le, zI_eq, zI_clamp, zI_inT, zI_ite, mOb_0, mOb_1, mOb_3, mOb_4, mLd_1, mAr_1, mLen_1, mTrue_t, Int.toNat_zero, Int.toNat_one, true_and, and_true, not_true_eq_false, not_false_eq_true, true_or, or_true, or_self, false_or, or_false, forall_const, false_implies, true_implies, implies_true]
      exact ⟨fun _ => H, fun z => by omega⟩
    refine vc_M_table ?_
    simp (disch := omega) only [zI_add, zI_sub, zI_mul, zI_neg, zI_lit, zI_0, zI_1, zI_lt, zI_le, zI_eq, zI_clamp, zI_inT, zI_ite, mOb_0, mOb_1, mOb_3, mOb_4, mLd_1, mAr_1, mLen_1, mTrue_t, Int.toNat_zero, Int.toNat_one, true_and, and_true, not_true_eq_false, not_false_eq_true, true_or, or_true, or_self, false_or, or_false, forall_const, false_implies, true_implies, implies_true, e10']
    repeat' (first | refine And.intro ?_ ?_ | with_reducible intro _)
    all_goals first | omega | exact q
  clear E0 rt e10'
  obtain ⟨h1, p1, f1, K1⟩ := s_M_zero124 (d := d + 7) 25 0 h0 (by omega) (by omega) (fun k hk => by omega)
  have g1 : h1.1 114 = h0.1 114 := f1.1 114 (by simp)
  have x1 : XM h1 n (gU g) := fun i i0 i1 => by rw [f1.1 119 (by simp), zr 119 (by omega)]; exact XM_of hT nm i i0 i1
  obtain ⟨h2, r2, T2, f2⟩ := s_M_steps (d := d + 5) n1 hu (show (0:Int) ≤ 0 by omega) n0 x1 (by rw [g1]; exact z14) (by rw [g1]; exact z15)
  have k2 : ∀ k, k ∉ [15, 16, 17, 18, 19] → h2.1 114 k = h0.1 114 k := fun k hk => by rw [f2.2.1 k hk, g1]
  have C2 : RM h2 (gU g) n (aSc (gU g) n (0, 0, 0, 0, 0, -1)) := ⟨by rw [k2 14 (by simp)]; exact z14, XM_fr x1 f2 (by simp), T2, by rw [k2 11 (by simp)]; exact z11, by rw [k2 12 (by simp)]; exact z12⟩
  have r24 : ∀ k : Nat, k < 25 → h2.1 124 k = zI 0 := fun k hk => by rw [f2.1 124 (by simp) (by omega)]; exact p1 k hk
  have N2 : NM h2 b00 := ⟨by rw [k2 21 (by simp)]; exact z21, by rw [k2 22 (by simp)]; exact z22, by rw [k2 23 (by simp)]; exact z23, by rw [k2 24 (by simp)]; exact z24,
    fun i i0 i1 => absurd i1 (by show ¬ i < 0; omega), fun i i0 i1 => absurd i1 (by show ¬ i < 0; omega), fun i i0 i1 => absurd i1 (by show ¬ i < 0; omega), fun i i0 i1 => absurd i1 (by show ¬ i < 0; omega), fun i i0 i1 => absurd i1 (by show ¬ i < 0; omega), fun i i0 i1 => absurd i1 (by show ¬ i < 0; omega), fun i i0 i1 => absurd i1 (by show ¬ i < 0; omega), fun i i0 i1 => absurd i1 (by show ¬ i < 0; omega), fun i i0 i1 => absurd i1 (by show ¬ i < 0; omega), fun i i0 i1 => r24 i.toNat (by omega)⟩
  have Q2 : QM h2 (gU g) n (aSc (gU g) n (0, 0, 0, 0, 0, -1), b00, fun _ => false, 0) := ⟨C2, fun _ => ⟨N2, BOk_00, fun k k0 k1 => by rw [k2 25 (by simp), z25]; exact b_0 _, by rw [k2 26 (by simp)]; exact z26, Or.inl rfl⟩⟩
  have O2 := ROk_0 (gU g) n0
  have st2 := O2.1.2.2.1
  obtain ⟨h3, Q3, O3, f3, K3⟩ := s_M_lines (d := d + 1) n0 n1 hu (n + 1).toNat (aSc (gU g) n (0, 0, 0, 0, 0, -1), b00, fun _ => false, 0) h2 O2 Q2 (Or.inr (by
    show n - rSt (aSc (gU g) n (0, 0, 0, 0, 0, -1)) < _
    omega))
  replace Q3 : QM h3 (gU g) n (xAl (gU g) n) := Q3
  replace O3 : ROk (gU g) n (xAl (gU g) n).1 := O3
  have S2 : ∀ out, mRuns (d + 8) 7 133 [some (.ref 114), none, none] [] h3 out → mRuns (d + 8) 7 0 [some (.ref 114), some (.int (zI n)), none] [] h out := fun out H => S1 out (K1 out ⟨h2, r2, K3 out H⟩)
  have F1 : kF rsT fsT h h1 := ⟨fun x hx hy => by rw [f1.1 x (fun z => hx (by simp at z ⊢; omega))]; exact F0.1 x hx hy, fun k hk => by rw [g1]; exact F0.2.1 k hk, fun x hx => by rw [f1.2]; exact F0.2.2.1 x hx, by rw [f1.2]; exact F0.2.2.2⟩
  have F3 : kF rsT fsT h h3 := kF_trans F1 (kF_trans (kF_mono f2 (by simp) (by simp)) (kF_mono f3 (by simp) (by simp)))
  have k3 : ∀ k, k ∉ fsL → h3.1 114 k = h0.1 114 k := fun k hk => by
    rw [f3.2.1 k hk, k2 k (by simp at hk ⊢; omega)]
  have r3 : ∀ x, x ≠ 114 → x ∉ rsL → h3.1 x = h.1 x := fun x hx hy => by
    rw [f3.1 x hy hx, f2.1 x (by simp) hx, f1.1 x (by simp at hy ⊢; omega), zr x hx]
  have e12 := Q3.1.2.2.2.2
  have e11 := Q3.1.2.2.2.1
  have of := O3.2
  by_cases c : rF (xAl (gU g) n).1 = 0
  · have G := s_M_good1 (d := d + 6) Q3.1 c
    obtain ⟨N3, B3, U3, -⟩ := Q3.2 c
    obtain ⟨a21, a22, a23, a24, a1, a2, a3, a4, a5, a6, a7, a8, a9, a10⟩ := N3
    have ob := B3.1
    obtain ⟨h4, E4⟩ : ∃ h4 : mHp, h4 = mPI (mPI (mPI (mPI h3 114 1 (zI (bD (xAl (gU g) n).2.1))) 114 2 (zI (bP (xAl (gU g) n).2.1))) 114 3 (zI (bT (xAl (gU g) n).2.1))) 114 4 (zI (bC (xAl (gU g) n).2.1)) := ⟨_, rfl⟩
    obtain ⟨h5, r5, p5, f5⟩ := s_M_copies (d := d + 6) (h := h4) (a := 121) (o := 115) (n := 18) (m := 18) (by decide) (by decide) (by omega) (by omega) (by omega)
    obtain ⟨h6, r6, p6, f6⟩ := s_M_copies (d := d + 6) (h := h5) (a := 122) (o := 116) (n := 20) (m := 20) (by decide) (by decide) (by omega) (by omega) (by omega)
    obtain ⟨h7, r7, p7', f7⟩ := s_M_copies (d := d + 6) (h := h6) (a := 123) (o := 117) (n := 10) (m := 10) (by decide) (by decide) (by omega) (by omega) (by omega)
    obtain ⟨h8, r8, p8, f8⟩ := s_M_copies (d := d + 6) (h := h7) (a := 124) (o := 118) (n := 25) (m := 25) (by decide) (by decide) (by omega) (by omega) (by omega)
    have q4 : ∀ x, x ≠ 114 → h4.1 x = h3.1 x := fun x hx => by rw [E4, hI_ne hx, hI_ne hx, hI_ne hx, hI_ne hx]
    have q4k : ∀ k, k ≠ 1 → k ≠ 2 → k ≠ 3 → k ≠ 4 → h4.1 114 k = h3.1 114 k := fun k b1 b2 b3 b4 => by rw [E4, hI_off b4, hI_off b3, hI_off b2, hI_off b1]
    have m1 : h4.1 114 1 = zI (bD (xAl (gU g) n).2.1) := by rw [E4, hI_off (by omega), hI_off (by omega), hI_off (by omega), hI_same]
    have m2 : h4.1 114 2 = zI (bP (xAl (gU g) n).2.1) := by rw [E4, hI_off (by omega), hI_off (by omega), hI_same]
    have m3 : h4.1 114 3 = zI (bT (xAl (gU g) n).2.1) := by rw [E4, hI_off (by omega), hI_same]
    have m4 : h4.1 114 4 = zI (bC (xAl (gU g) n).2.1) := by rw [E4, hI_same]
    have F4 : kF rsT fsT h h4 := by rw [E4]; exact kF_pf (kF_pf (kF_pf (kF_pf F3 (by simp) _) (by simp) _) (by simp) _) (by simp) _
    have q8 : ∀ x, x ≠ 115 → x ≠ 116 → x ≠ 117 → x ≠ 118 → h8.1 x = h4.1 x := fun x b1 b2 b3 b4 => by
      rw [f8.1 x (by simp; exact b4), f7.1 x (by simp; exact b3), f6.1 x (by simp; exact b2), f5.1 x (by simp; exact b1)]
    have q82 : h8.2 = h4.2 := by rw [f8.2, f7.2, f6.2, f5.2]
    have q115 : ∀ k : Nat, k < 18 → h8.1 115 k = h3.1 121 k := fun k hk => by
      rw [f8.1 115 (by simp), f7.1 115 (by simp), f6.1 115 (by simp), p5 k hk, q4 121 (by omega)]
    have q116 : ∀ k : Nat, k < 20 → h8.1 116 k = h3.1 122 k := fun k hk => by
      rw [f8.1 116 (by simp), f7.1 116 (by simp), p6 k hk, f5.1 122 (by simp), q4 122 (by omega)]
    have q117 : ∀ k : Nat, k < 10 → h8.1 117 k = h3.1 123 k := fun k hk => by
      rw [f8.1 117 (by simp), p7' k hk, f6.1 123 (by simp), f5.1 123 (by simp), q4 123 (by omega)]
    have q118 : ∀ k : Nat, k < 25 → h8.1 118 k = h3.1 124 k := fun k hk => by
      rw [p8 k hk, f7.1 124 (by simp), f6.1 124 (by simp), f5.1 124 (by simp), q4 124 (by omega)]
    have q114 : h8.1 114 = h4.1 114 := q8 114 (by omega) (by omega) (by omega) (by omega)
    have F8 : kF rsT fsT h h8 := ⟨fun x hx hy => by rw [q8 x (by simp at hx; omega) (by simp at hx; omega) (by simp at hx; omega) (by simp at hx; omega)]; exact F4.1 x hx hy, fun k hk => by rw [q114]; exact F4.2.1 k hk, fun x hx => by rw [q82]; exact F4.2.2.1 x hx, by rw [q82]; exact F4.2.2.2⟩
    obtain ⟨h9, E9⟩ : ∃ h9 : mHp, h9 = mPI (mPI (mPI (mPI h8 114 42 (zI 0)) 114 38 (zI 0)) 114 46 (zI (-1))) 114 53 (zI 0) := ⟨_, rfl⟩
    have q9 : ∀ x, x ≠ 114 → h9.1 x = h8.1 x := fun x hx => by rw [E9, hI_ne hx, hI_ne hx, hI_ne hx, hI_ne hx]
    have q9k : ∀ k, k ≠ 42 → k ≠ 38 → k ≠ 46 → k ≠ 53 → h9.1 114 k = h8.1 114 k := fun k b1 b2 b3 b4 => by rw [E9, hI_off b4, hI_off b3, hI_off b2, hI_off b1]
    refine ⟨h9, S2 _ (vc_M_table_133 ⟨_, _, G, fun _ => ⟨h5, ?_, h6, r6, h7, r7, h8, r8, Or.inl rfl, Or.inl rfl, ?_⟩, fun z => ?_⟩), ?_, ?_, ?_, ?_, fun z => absurd c z, fun _ => ⟨?_, B3, ?_, ?_, ?_, ?_, ?_⟩⟩
    · have : mPI (mPI (mPI (mPI h3 114 1 (h3.1 114 21)) 114 2 ((mPI h3 114 1 (h3.1 114 21)).1 114 22)) 114 3 ((mPI (mPI h3 114 1 (h3.1 114 21)) 114 2 ((mPI h3 114 1 (h3.1 114 21)).1 114 22)).1 114 23)) 114 4 ((mPI (mPI (mPI h3 114 1 (h3.1 114 21)) 114 2 ((mPI h3 114 1 (h3.1 114 21)).1 114 22)) 114 3 ((mPI (mPI h3 114 1 (h3.1 114 21)) 114 2 ((mPI h3 114 1 (h3.1 114 21)).1 114 22)).1 114 23)).1 114 24) = h4 := by
        have b2 : ∀ v, (mPI h3 114 1 v).1 114 22 = zI (bP (xAl (gU g) n).2.1) := fun v => by rw [hI_off (by omega)]; exact a22
        have b3 : ∀ v w, (mPI (mPI h3 114 1 v) 114 2 w).1 114 23 = zI (bT (xAl (gU g) n).2.1) := fun v w => by rw [hI_off (by omega), hI_off (by omega)]; exact a23
        have b4 : ∀ v w y, (mPI (mPI (mPI h3 114 1 v) 114 2 w) 114 3 y).1 114 24 = zI (bC (xAl (gU g) n).2.1) := fun v w y => by rw [hI_off (by omega), hI_off (by omega), hI_off (by omega)]; exact a24
        rw [b4, b3, b2, a21, E4]
      rw [this]
      exact r5
    · rw [E9, rf_0 c]; rfl
    · rw [zI_0, zI_eq (by omega) (by omega) (by omega) (by omega)] at z
      omega
    · rw [q9k 0 (by omega) (by omega) (by omega) (by omega), q114, q4k 0 (by omega) (by omega) (by omega) (by omega), k3 0 (by simp)]; exact z0
    · rw [q9k 10 (by omega) (by omega) (by omega) (by omega), q114, q4k 10 (by omega) (by omega) (by omega) (by omega), k3 10 (by simp)]; exact z10
    · rw [q9k 12 (by omega) (by omega) (by omega) (by omega), q114, q4k 12 (by omega) (by omega) (by omega) (by omega)]; exact e12
    · rw [E9]; exact kF_pf (kF_pf (kF_pf (kF_pf F8 (by simp) _) (by simp) _) (by simp) _) (by simp) _
    · refine ⟨?_, ?_, ?_, ?_, ?_, ?_, ?_, ?_, ?_, ?_, ?_, ?_, ?_, ?_⟩
      · rw [q9k 1 (by omega) (by omega) (by omega) (by omega), q114]; exact m1
      · rw [q9k 2 (by omega) (by omega) (by omega) (by omega), q114]; exact m2
      · rw [q9k 3 (by omega) (by omega) (by omega) (by omega), q114]; exact m3
      · rw [q9k 4 (by omega) (by omega) (by omega) (by omega), q114]; exact m4
      · intro i i0 i1; rw [q9 115 (by omega), q115 _ (by omega)]; exact a1 i i0 i1
      · intro i i0 i1; rw [q9 115 (by omega), q115 _ (by omega)]; exact a2 i i0 i1
      · intro i i0 i1; rw [q9 115 (by omega), q115 _ (by omega)]; exact a3 i i0 i1
      · intro i i0 i1; rw [q9 116 (by omega), q116 _ (by omega)]; exact a4 i i0 i1
      · intro i i0 i1; rw [q9 116 (by omega), q116 _ (by omega)]; exact a5 i i0 i1
      · intro i i0 i1; rw [q9 116 (by omega), q116 _ (by omega)]; exact a6 i i0 i1
      · intro i i0 i1; rw [q9 116 (by omega), q116 _ (by omega)]; exact a7 i i0 i1
      · intro i i0 i1; rw [q9 117 (by omega), q117 _ (by omega)]; exact a8 i i0 i1
      · intro i i0 i1; rw [q9 117 (by omega), q117 _ (by omega)]; exact a9 i i0 i1
      · intro i i0 i1; rw [q9 118 (by omega), q118 _ (by omega)]; exact a10 i i0 i1
    · rw [q9 120 (by omega), q8 120 (by omega) (by omega) (by omega) (by omega), q4 120 (by omega), r3 120 (by omega) (by simp)]
    · rw [E9, hI_off (by omega), hI_off (by omega), hI_off (by omega), hI_same]
    · rw [E9, hI_off (by omega), hI_off (by omega), hI_same]
    · rw [E9, hI_off (by omega), hI_same]
    · rw [E9, hI_same]
  · have G := s_M_good0 (d := d + 6) O3 Q3.1 c
    have er : h3.1 120 = h.1 120 := r3 120 (by omega) (by simp)
    refine ⟨mPI h3 120 0 (h.1 120 0 + zI 1), S2 _ (vc_M_table_133 ⟨_, _, G, fun z => absurd rfl z, fun _ => ⟨?_, ?_, ?_⟩⟩), ?_, ?_, ?_, kF_pi F3 (x := 120) (by simp) (by omega) _ _, fun _ => ⟨?_, fun k hk => ?_, fun x x0 x1 => ?_⟩, fun z => absurd z c⟩
    · exact zI_inOk (a := 0) (by omega) (by omega) (by omega)
    · exact zI_inOk (a := 0) (by omega) (by omega) (by omega)
    · have : (nI 0).toNatClampNeg = 0 := by decide
      rw [this, hI_ne (by omega), e11, er]; rfl
    · rw [hI_ne (by omega), k3 0 (by simp)]; exact z0
    · rw [hI_ne (by omega), k3 10 (by simp)]; exact z10
    · rw [hI_ne (by omega)]; exact e12
    · rw [hI_row, er]
    · rw [hI_ne (by omega), k3 k (by simp at hk ⊢; omega), zk k hk]
    · rw [hI_ne (by omega), r3 x (by omega) (by simp; omega)]

/-! L3, a whole text: both loops -/
def xRd (u : Int → Int) (n : Int) : Nat → tL → tL
  | 0, S => S
  | j + 1, S => if rSo S.1 = 0 ∨ rF S.1 ≠ 0 then S else xRd u n j (xLn u n S)
theorem x_sc {u : Int → Int} {n : Int} {R : tR} (hO : ROk u n R) (hs : rSo R ≠ 0) : ROk u n (aSc u n R) ∧ rSt R < rSt (aSc u n R) := by
  obtain ⟨a, b⟩ := ROk_sc hO
  have c := hO.1.2.2.2.2.2.1 hs
  exact ⟨a, by omega⟩
theorem x_en {u : Int → Int} {n : Int} {R R1 : tR} (n1 : n ≤ 700) (h1 : rSt R < rSt (aSc u n R)) (A : Aft u n (aSc u n R) R1) : ROk u n (aEn u n R1) ∧ rSt R < rSt (aEn u n R1) := by
  have := Aft_trans A (Aft_en n1 A.1)
  exact ⟨this.1, by have := this.2; omega⟩
theorem xLn_ok {u : Int → Int} {n : Int} {S : tL} (n1 : n ≤ 700) (hO : ROk u n S.1) (hs : rSo S.1 ≠ 0) : ROk u n (xLn u n S).1 ∧ (rF (xLn u n S).1 = 0 → rSt S.1 < rSt (xLn u n S).1) := by
  obtain ⟨R, B, T, cl⟩ := S
  replace hO : ROk u n R := hO
  replace hs : rSo R ≠ 0 := hs
  obtain ⟨O1, l1⟩ := x_sc hO hs
  have fl : ∀ k : Int, 1 ≤ k → k ≤ 5 → ROk u n (aFl k R) ∧ (rF (aFl k R) = 0 → rSt R < rSt (aFl k R)) := fun k k0 k1 => ⟨(ROk_fl n1 hO (by omega) k1).1, fun z => absurd z (fl_f (by omega) R)⟩
  have A0 : Aft u n (aSc u n R) (aSc u n R) := ⟨O1, Int.le_refl _⟩
  show ROk u n (if aW u 0 R = 1 then xDi u n R B T cl else if aW u 1 R = 1 then xPo u n R B T cl else if aW u 2 R = 1 then xTa u n R B T cl else if aW u 3 R = 1 then xHa u n R B T cl else if aW u 4 R = 1 then xCl u n R B T cl else (aFl 1 R, B, T, cl)).1 ∧ (rF (if aW u 0 R = 1 then xDi u n R B T cl else if aW u 1 R = 1 then xPo u n R B T cl else if aW u 2 R = 1 then xTa u n R B T cl else if aW u 3 R = 1 then xHa u n R B T cl else if aW u 4 R = 1 then xCl u n R B T cl else (aFl 1 R, B, T, cl)).1 = 0 → rSt R < rSt (if aW u 0 R = 1 then xDi u n R B T cl else if aW u 1 R = 1 then xPo u n R B T cl else if aW u 2 R = 1 then xTa u n R B T cl else if aW u 3 R = 1 then xHa u n R B T cl else if aW u 4 R = 1 then xCl u n R B T cl else (aFl 1 R, B, T, cl)).1)
  by_cases y0 : aW u 0 R = 1
  · simp only [if_pos y0]
    unfold xDi
    by_cases c : 6 ≤ bD B
    · simp only [if_pos c]; exact fl 2 (by omega) (by omega)
    · simp only [if_neg c]
      have A1 : Aft u n (aSc u n R) (dD1 u n R).1 := Aft_nu n1 O1
      have A2 : Aft u n (aSc u n R) (dD2 u n R).1 := Aft_trans A1 (Aft_nu n1 A1.1)
      have A3 : Aft u n (aSc u n R) (dD3 u n R).1 := Aft_trans A2 (Aft_op n1 A2.1)
      exact ⟨(x_en n1 l1 A3).1, fun _ => (x_en n1 l1 A3).2⟩
  · simp only [if_neg y0]
    by_cases y1 : aW u 1 R = 1
    · simp only [if_pos y1]
      unfold xPo
      by_cases c : 5 ≤ bP B
      · simp only [if_pos c]; exact fl 2 (by omega) (by omega)
      · simp only [if_neg c]
        have A1 : Aft u n (aSc u n R) (dP1 u n R).1 := Aft_nu n1 O1
        have A2 : Aft u n (aSc u n R) (dP2 u n R) := by
          unfold dP2
          split
          · exact Aft_trans A1 (Aft_sc A1.1)
          · exact A1
        have A3 : Aft u n (aSc u n R) (dP3 u n R).1 := Aft_trans A2 (Aft_op n1 A2.1)
        have A4 : Aft u n (aSc u n R) (dP4 u n R).1 := Aft_trans A3 (Aft_op n1 A3.1)
        exact ⟨(x_en n1 l1 A4).1, fun _ => (x_en n1 l1 A4).2⟩
    · simp only [if_neg y1]
      by_cases y2 : aW u 2 R = 1
      · simp only [if_pos y2]
        unfold xTa
        by_cases c : 5 ≤ bT B
        · simp only [if_pos c]; exact fl 2 (by omega) (by omega)
        · simp only [if_neg c]
          have A1 : Aft u n (aSc u n R) (dT1 u n R) := Aft_ki n1 O1
          have A2 : Aft u n (aSc u n R) (dT2 u n R).1 := Aft_trans A1 (Aft_op n1 A1.1)
          exact ⟨(x_en n1 l1 A2).1, fun _ => (x_en n1 l1 A2).2⟩
      · simp only [if_neg y2]
        by_cases y3 : aW u 3 R = 1
        · simp only [if_pos y3]
          unfold xHa
          have A1 : Aft u n (aSc u n R) (dH1 u n R B).1 := Aft_to n1 O1
          have A2 : Aft u n (aSc u n R) (dH2 u n R B T).1 := Aft_trans A1 (Aft_to n1 A1.1)
          have A3 : Aft u n (aSc u n R) (dH3 u n R B T).1 := Aft_trans A2 (Aft_nu n1 A2.1)
          exact ⟨(x_en n1 l1 A3).1, fun _ => (x_en n1 l1 A3).2⟩
        · simp only [if_neg y3]
          by_cases y4 : aW u 4 R = 1
          · simp only [if_pos y4]
            unfold xCl
            by_cases c : cl ≠ 0
            · simp only [if_pos c]; exact fl 5 (by omega) (by omega)
            · simp only [if_neg c]
              have A1 : Aft u n (aSc u n R) (dC1 u n R).1 := Aft_nu n1 O1
              exact ⟨(x_en n1 l1 A1).1, fun _ => (x_en n1 l1 A1).2⟩
          · simp only [if_neg y4]; exact fl 1 (by omega) (by omega)
/-- the class does one line -/
theorem s_Rdr_line {d : Nat} {u : Int → Int} {n v : Int} {S : tL} {h : mHp} {b : Nat} (hb : bAd b) (n1 : n ≤ 700) (hu : uR u) (hO : ROk u n S.1) (hQ : QC h b u n S) (c0 : rF S.1 = 0) (hs : rSo S.1 ≠ 0) (v0 : 0 ≤ v) (v1 : v < n) :
    ∃ h', QC h' b u n (xLn u n S) ∧ gF b h h' ∧ ∀ out, mRuns (d + 6) 134 55 [some (.ref 23), none, some (.ref b), some (.int (zI (v + 1)))] [] h' out → mRuns (d + 6) 134 55 [some (.ref 23), none, some (.ref b), some (.int (zI v))] [] h out := by
  obtain ⟨R, B, T, cl⟩ := S
  replace hO : ROk u n R := hO
  replace c0 : rF R = 0 := c0
  replace hs : rSo R ≠ 0 := hs
  have hR := (QC_d hQ c0).1
  have w0 := s_Rdr_w (d := d + 4) (k := 0) (by omega) n1 hu hO hR
  have w1 := s_Rdr_w (d := d + 4) (k := 1) (by omega) n1 hu hO hR
  have w2 := s_Rdr_w (d := d + 4) (k := 2) (by omega) n1 hu hO hR
  have w3 := s_Rdr_w (d := d + 4) (k := 3) (by omega) n1 hu hO hR
  have w4 := s_Rdr_w (d := d + 4) (k := 4) (by omega) n1 hu hO hR
  have z0 : aW u 0 R = 0 ∨ aW u 0 R = 1 := aIs_01 _ _ _ _ _
  have z1 : aW u 1 R = 0 ∨ aW u 1 R = 1 := aIs_01 _ _ _ _ _
  have z2 : aW u 2 R = 0 ∨ aW u 2 R = 1 := aIs_01 _ _ _ _ _
  have z3 : aW u 3 R = 0 ∨ aW u 3 R = 1 := aIs_01 _ _ _ _ _
  have z4 : aW u 4 R = 0 ∨ aW u 4 R = 1 := aIs_01 _ _ _ _ _
  have e2 := hR.1
  have e4 := hR.2.2.2.1
  have e7 := hR.2.2.2.2.2.2.1
  have so1 := hO.1.1
  have so2 := hO.1.2.1
  have of := hO.2
  have D : ∀ out, ((aW u 0 R = 1 → ∃ h', mRuns (d + 5) 139 0 [some (.ref 23), some (.ref b), none, none, none, none] [] h (.inl (none, h')) ∧ mRuns (d + 6) 134 55 [some (.ref 23), none, some (.ref b), some (.int (zI (v + 1)))] [] h' out) ∧
      (¬ aW u 0 R = 1 → aW u 1 R = 1 → ∃ h', mRuns (d + 5) 144 0 [some (.ref 23), some (.ref b), none, none, none, none, none] [] h (.inl (none, h')) ∧ mRuns (d + 6) 134 55 [some (.ref 23), none, some (.ref b), some (.int (zI (v + 1)))] [] h' out) ∧
      (¬ aW u 0 R = 1 → ¬ aW u 1 R = 1 → aW u 2 R = 1 → ∃ h', mRuns (d + 5) 145 0 [some (.ref 23), some (.ref b), none, none, none] [] h (.inl (none, h')) ∧ mRuns (d + 6) 134 55 [some (.ref 23), none, some (.ref b), some (.int (zI (v + 1)))] [] h' out) ∧
      (¬ aW u 0 R = 1 → ¬ aW u 1 R = 1 → ¬ aW u 2 R = 1 → aW u 3 R = 1 → ∃ h', mRuns (d + 5) 147 0 [some (.ref 23), some (.ref b), none, none, none] [] h (.inl (none, h')) ∧ mRuns (d + 6) 134 55 [some (.ref 23), none, some (.ref b), some (.int (zI (v + 1)))] [] h' out) ∧
      (¬ aW u 0 R = 1 → ¬ aW u 1 R = 1 → ¬ aW u 2 R = 1 → ¬ aW u 3 R = 1 → aW u 4 R = 1 → ∃ h', mRuns (d + 5) 149 0 [some (.ref 23), some (.ref b), none] [] h (.inl (none, h')) ∧ mRuns (d + 6) 134 55 [some (.ref 23), none, some (.ref b), some (.int (zI (v + 1)))] [] h' out) ∧
      (¬ aW u 0 R = 1 → ¬ aW u 1 R = 1 → ¬ aW u 2 R = 1 → ¬ aW u 3 R = 1 → ¬ aW u 4 R = 1 → ∃ h', mRuns (d + 5) 140 0 [some (.ref 23), some (.int (zI 1))] [] h (.inl (none, h')) ∧ mRuns (d + 6) 134 55 [some (.ref 23), none, some (.ref b), some (.int (zI (v + 1)))] [] h' out)) → mRuns (d + 6) 134 55 [some (.ref 23), none, some (.ref b), some (.int (zI v))] [] h out := by
    intro out H
    obtain ⟨H0, H1, H2, H3, H4, H5⟩ := H
    refine vc_Rdr_read_55 ?_
    rw [e2, e4, e7, zI_0, show nI 1 = zI 1 from rfl, zI_add, zI_eq (by omega) (by omega) (by omega) (by omega), zI_eq (by omega) (by omega) (by omega) (by omega), zI_le (by omega) (by omega) (by omega) (by omega)]
    refine ⟨fun z => absurd z (by omega), fun _ => ⟨fun z => absurd z hs, fun _ => ⟨fun z => absurd c0 z, fun _ => ⟨_, _, w0, ?_⟩⟩⟩⟩
    rw [zI_eq (by omega) (by omega) (by omega) (by omega)]
    refine ⟨fun y0 => ⟨_, _, w1, ?_⟩, fun y0 => H0 (w_n0 z0 y0)⟩
    rw [zI_eq (by omega) (by omega) (by omega) (by omega)]
    refine ⟨fun y1 => ⟨_, _, w2, ?_⟩, fun y1 => H1 (w_n1 y0) (w_n0 z1 y1)⟩
    rw [zI_eq (by omega) (by omega) (by omega) (by omega)]
    refine ⟨fun y2 => ⟨_, _, w3, ?_⟩, fun y2 => H2 (w_n1 y0) (w_n1 y1) (w_n0 z2 y2)⟩
    rw [zI_eq (by omega) (by omega) (by omega) (by omega)]
    refine ⟨fun y3 => ⟨_, _, w4, ?_⟩, fun y3 => H3 (w_n1 y0) (w_n1 y1) (w_n1 y2) (w_n0 z3 y3)⟩
    rw [zI_eq (by omega) (by omega) (by omega) (by omega)]
    exact ⟨fun y4 => H5 (w_n1 y0) (w_n1 y1) (w_n1 y2) (w_n1 y3) (w_n1 y4), fun y4 => H4 (w_n1 y0) (w_n1 y1) (w_n1 y2) (w_n1 y3) (w_n0 z4 y4)⟩
  clear w0 w1 w2 w3 w4 z0 z1 z2 z3 z4
  show ∃ h', QC h' b u n (if aW u 0 R = 1 then xDi u n R B T cl else if aW u 1 R = 1 then xPo u n R B T cl else if aW u 2 R = 1 then xTa u n R B T cl else if aW u 3 R = 1 then xHa u n R B T cl else if aW u 4 R = 1 then xCl u n R B T cl else (aFl 1 R, B, T, cl)) ∧ _
  by_cases y0 : aW u 0 R = 1
  · rw [if_pos y0]
    obtain ⟨h', r, C, f⟩ := s_Rdr_dish (d := d) hb n1 hu hO hQ c0
    exact ⟨h', C, f, fun out H => D out ⟨fun _ => ⟨h', r, H⟩, fun z => absurd y0 z, fun z => absurd y0 z, fun z => absurd y0 z, fun z => absurd y0 z, fun z => absurd y0 z⟩⟩
  · rw [if_neg y0]
    by_cases y1 : aW u 1 R = 1
    · rw [if_pos y1]
      obtain ⟨h', r, C, f⟩ := s_Rdr_pois (d := d) hb n1 hu hO hQ c0
      exact ⟨h', C, f, fun out H => D out ⟨fun z => absurd z y0, fun _ _ => ⟨h', r, H⟩, fun _ z => absurd y1 z, fun _ z => absurd y1 z, fun _ z => absurd y1 z, fun _ z => absurd y1 z⟩⟩
    · rw [if_neg y1]
      by_cases y2 : aW u 2 R = 1
      · rw [if_pos y2]
        obtain ⟨h', r, C, f⟩ := s_Rdr_tast (d := d) hb n1 hu hO hQ c0
        exact ⟨h', C, f, fun out H => D out ⟨fun z => absurd z y0, fun _ z => absurd z y1, fun _ _ _ => ⟨h', r, H⟩, fun _ _ z => absurd y2 z, fun _ _ z => absurd y2 z, fun _ _ z => absurd y2 z⟩⟩
      · rw [if_neg y2]
        by_cases y3 : aW u 3 R = 1
        · rw [if_pos y3]
          obtain ⟨h', r, C, f⟩ := s_Rdr_had (d := d) hb n1 hu hO hQ c0
          exact ⟨h', C, f, fun out H => D out ⟨fun z => absurd z y0, fun _ z => absurd z y1, fun _ _ z => absurd z y2, fun _ _ _ _ => ⟨h', r, H⟩, fun _ _ _ z => absurd y3 z, fun _ _ _ z => absurd y3 z⟩⟩
        · rw [if_neg y3]
          by_cases y4 : aW u 4 R = 1
          · rw [if_pos y4]
            obtain ⟨h', r, C, f⟩ := s_Rdr_clean (d := d) hb n1 hu hO hQ c0
            exact ⟨h', C, f, fun out H => D out ⟨fun z => absurd z y0, fun _ z => absurd z y1, fun _ _ z => absurd z y2, fun _ _ _ z => absurd z y3, fun _ _ _ _ _ => ⟨h', r, H⟩, fun _ _ _ _ z => absurd y4 z⟩⟩
          · rw [if_neg y4]
            obtain ⟨h', r, C, f⟩ := s_Rdr_fl (d := d + 4) (k := 1) hO hR
            exact ⟨h', ⟨C, fun z => absurd z (fl_f (by omega) R)⟩, gF_of f, fun out H => D out ⟨fun z => absurd z y0, fun _ z => absurd z y1, fun _ _ z => absurd z y2, fun _ _ _ z => absurd z y3, fun _ _ _ _ z => absurd z y4, fun _ _ _ _ _ => ⟨h', r, H⟩⟩⟩
theorem xRd_end {u : Int → Int} {n : Int} {j : Nat} {S : tL} (c : rSo S.1 = 0 ∨ rF S.1 ≠ 0) : xRd u n j S = S := by
  cases j with
  | zero => rfl
  | succ j => show (if rSo S.1 = 0 ∨ rF S.1 ≠ 0 then S else xRd u n j (xLn u n S)) = S; rw [if_pos c]
theorem s_Rdr_lines {d : Nat} {u : Int → Int} {n : Int} {b : Nat} (hb : bAd b) (n0 : 0 ≤ n) (n1 : n ≤ 700) (hu : uR u) : ∀ (j : Nat) (S : tL) (v : Int) (h : mHp), ROk u n S.1 → QC h b u n S → 0 ≤ v → v ≤ 800 → (rF S.1 = 0 → v ≤ rSt S.1) → (rF S.1 ≠ 0 ∨ n - rSt S.1 < j) →
    ∃ h', mRuns (d + 6) 134 55 [some (.ref 23), none, some (.ref b), some (.int (zI v))] [] h (.inl (some (.int (zI (rF (xRd u n j S).1))), h')) ∧ QC h' b u n (xRd u n j S) ∧ ROk u n (xRd u n j S).1 ∧ gF b h h' := by
  intro j
  induction j with
  | zero =>
    intro S v h hO hQ v0 v1 hv hj
    have st := hO.1.2.2.2.1
    have at' := hO.1.2.2.2.2.1
    have c : rF S.1 ≠ 0 := by
      rcases hj with z | z
      · exact z
      · omega
    have e2 := hQ.1.1
    have e7 := hQ.1.2.2.2.2.2.2.1
    have of := hO.2
    refine ⟨h, vc_Rdr_read_55 ?_, hQ, hO, gF_refl _ _⟩
    rw [e7]
    refine ⟨fun _ => rfl, fun _ => ⟨fun _ => rfl, fun _ => ⟨fun _ => rfl, fun z => ?_⟩⟩⟩
    exact (f_nz of.1 of.2.1 c z).elim
  | succ j ih =>
    intro S v h hO hQ v0 v1 hv hj
    have e2 := hQ.1.1
    have e4 := hQ.1.2.2.2.1
    have e7 := hQ.1.2.2.2.2.2.2.1
    have of := hO.2
    have so1 := hO.1.1
    have so2 := hO.1.2.1
    have sa := hO.1.2.2.2.2.2.1
    have an := hO.1.2.2.2.2.1
    by_cases c : rSo S.1 = 0 ∨ rF S.1 ≠ 0
    · rw [xRd_end c]
      refine ⟨h, vc_Rdr_read_55 ?_, hQ, hO, gF_refl _ _⟩
      rw [e7]
      refine ⟨fun _ => rfl, fun _ => ⟨fun _ => rfl, fun y => ⟨fun _ => rfl, fun z => ?_⟩⟩⟩
      rcases c with c | c
      · rw [e4, c] at y; exact absurd rfl y
      · exact (f_nz of.1 of.2.1 c z).elim
    · have c1 : rSo S.1 ≠ 0 := fun z => c (Or.inl z)
      have c2 : rF S.1 = 0 := by
        by_cases z : rF S.1 = 0
        · exact z
        · exact absurd (Or.inr z) c
      have sa := sa c1
      have hv := hv c2
      obtain ⟨h1, C1, f1, K⟩ := s_Rdr_line (d := d) (v := v) hb n1 hu hO hQ c2 c1 v0 (by omega)
      obtain ⟨O1, st1⟩ := xLn_ok n1 hO c1
      obtain ⟨h', r, C', O', f'⟩ := ih (xLn u n S) (v + 1) h1 O1 C1 (by omega) (by omega) (fun z => by have := st1 z; omega) (by
        by_cases z : rF (xLn u n S).1 = 0
        · have := st1 z
          right
          rcases hj with y | y
          · exact absurd c2 y
          · omega
        · exact Or.inl z)
      have e : xRd u n (j + 1) S = xRd u n j (xLn u n S) := if_neg c
      rw [e]
      exact ⟨h', K _ r, C', O', gF_trans f1 f'⟩
theorem s_M_lines {d : Nat} {u : Int → Int} {n : Int} (n0 : 0 ≤ n) (n1 : n ≤ 700) (hu : uR u) : ∀ (j : Nat) (S : tL) (h : mHp), ROk u n S.1 → QM h u n S → (rF S.1 ≠ 0 ∨ n - rSt S.1 < j) →
    ∃ h', QM h' u n (xRd u n j S) ∧ ROk u n (xRd u n j S).1 ∧ kF rsL fsL h h' ∧ ∀ out, mRuns (d + 7) 7 133 [some (.ref 114), none, none] [] h' out → mRuns (d + 7) 7 112 [some (.ref 114), none, none] [] h out := by
  intro j
  induction j with
  | zero =>
    intro S h hO hQ hj
    have st := hO.1.2.2.2.1
    have at' := hO.1.2.2.2.2.1
    have c : rF S.1 ≠ 0 := by
      rcases hj with z | z
      · exact z
      · omega
    have G := s_M_good0 (d := d + 5) hO hQ.1 c
    exact ⟨h, hQ, hO, kF_refl _ _ _, fun out H => vc_M_table_112 ⟨_, _, G, fun _ => H, fun z => absurd rfl z⟩⟩
  | succ j ih =>
    intro S h hO hQ hj
    have k1 := hQ.1.2.2.1.1
    have so1 := hO.1.1
    have so2 := hO.1.2.1
    by_cases c2 : rF S.1 = 0
    · have G := s_M_good1 (d := d + 5) hQ.1 c2
      by_cases c1 : rSo S.1 = 0
      · rw [xRd_end (Or.inl c1)]
        refine ⟨h, hQ, hO, kF_refl _ _ _, fun out H => vc_M_table_112 ⟨_, _, G, fun _ => H, fun _ => ⟨fun _ => H, fun z => ?_⟩⟩⟩
        rw [k1, c1] at z
        exact absurd rfl z
      · obtain ⟨h1, r1, C1, f1⟩ := s_M_line (d := d) n1 hu hO hQ c2
        obtain ⟨O1, st1⟩ := xLn_ok n1 hO c1
        obtain ⟨h', C', O', f', K⟩ := ih (xLn u n S) h1 O1 C1 (by
          by_cases z : rF (xLn u n S).1 = 0
          · have := st1 z
            right
            rcases hj with y | y
            · exact absurd c2 y
            · omega
          · exact Or.inl z)
        have e : xRd u n (j + 1) S = xRd u n j (xLn u n S) := if_neg (fun z => z.elim (fun y => c1 y) (fun y => y c2))
        rw [e]
        refine ⟨h', C', O', kF_trans f1 f', fun out H => vc_M_table_112 ⟨_, _, G, fun z => ?_, fun _ => ⟨fun z => ?_, fun _ => ⟨h1, r1, K out H⟩⟩⟩⟩
        · rw [zI_0, zI_eq (by omega) (by omega) (by omega) (by omega)] at z
          omega
        · rw [k1, zI_0, zI_eq (by omega) (by omega) (by omega) (by omega)] at z
          exact absurd z c1
    · rw [xRd_end (Or.inr c2)]
      have G := s_M_good0 (d := d + 5) hO hQ.1 c2
      exact ⟨h, hQ, hO, kF_refl _ _ _, fun out H => vc_M_table_112 ⟨_, _, G, fun _ => H, fun z => absurd rfl z⟩⟩
/-- what a text of n signs gives -/
def xAl (u : Int → Int) (n : Int) : tL := xRd u n (n + 1).toNat (aSc u n (0, 0, 0, 0, 0, -1), b00, fun _ => false, 0)
theorem ROk_0 (u : Int → Int) {n : Int} (n0 : 0 ≤ n) : ROk u n (aSc u n (0, 0, 0, 0, 0, -1)) := by
  obtain ⟨a, -⟩ := lex_ok u (n := n) (p := 0) (by omega) n0
  exact ⟨a, by show (0:Int) ≤ 0; omega, by show (0:Int) ≤ 5; omega, by show (-1:Int) ≤ -1; omega, by show (-1:Int) ≤ 700; omega⟩

/-! L3, image of the model -/
def EI (h : mHp) (E : tE) : Prop :=
  h.1 114 54 = zI (eN E) ∧ (∀ i, 0 ≤ i → i < eN E → h.1 137 (4 * i).toNat = zI (eF E 0 i)) ∧ (∀ i, 0 ≤ i → i < eN E → h.1 137 (4 * i + 1).toNat = zI (eF E 1 i)) ∧ (∀ i, 0 ≤ i → i < eN E → h.1 137 (4 * i + 2).toNat = zI (eF E 2 i)) ∧ (∀ i, 0 ≤ i → i < eN E → h.1 137 (4 * i + 3).toNat = zI (eF E 3 i))
def CI (h : mHp) (C : tC) : Prop :=
  (h.1 114 55 = zI (if cO C = 1 then cN C else -1) ∧ h.1 114 56 = cS C ∧ h.1 114 57 = zI (cL C) ∧ h.1 114 58 = zI (cH C)) ∧ aEq (h.1 139) 25 (cHd C) ∧
  (∀ i, 0 ≤ i → i < cN C → h.1 140 (4 * i).toNat = zI (cR C 0 i)) ∧ (∀ i, 0 ≤ i → i < cN C → h.1 140 (4 * i + 1).toNat = zI (cR C 1 i)) ∧ (∀ i, 0 ≤ i → i < cN C → h.1 140 (4 * i + 2).toNat = zI (cR C 2 i)) ∧ (∀ i, 0 ≤ i → i < cN C → h.1 140 (4 * i + 3).toNat = zI (cR C 3 i))
theorem s_M_image {d : Nat} {h : mHp} {B : tB} {E : tE} {C : tC} (hM : EM h E) (hE : EOk B E) (hC : CM h C) (hK : COk C) :
    ∃ h', mRuns (d + 2) 79 0 [some (.ref 114)] [] h (.inl (none, h')) ∧ h'.1 114 0 = zI 0 ∧ h'.1 114 53 = zI 1 ∧ EI h' E ∧ CI h' C ∧ (∀ k, k < 12 → h'.1 138 k = h.1 134 k) ∧ hFg 114 [137, 138, 139, 140] [0, 53, 54, 55, 56, 57, 58] h h' := by
  have hn := hE.1
  have k4 := hK.2.2.2.1
  obtain ⟨m0, m1, m2, m3, m4⟩ := hM
  obtain ⟨⟨c46, c47, c48, c49⟩, ch, d0, d1, d2, d3⟩ := hC
  generalize hH : (mPI (mPI (mPI (mPI (mPI (mPI (mPI h 114 0 (zI 0)) 114 53 (zI 1)) 114 54 (h.1 114 42)) 114 55 (h.1 114 46)) 114 56 (h.1 114 47)) 114 57 (h.1 114 48)) 114 58 (h.1 114 49)) = H
  have Hx : ∀ x, x ≠ 114 → H.1 x = h.1 x := fun x z => by rw [← hH, hI_ne z, hI_ne z, hI_ne z, hI_ne z, hI_ne z, hI_ne z, hI_ne z]
  have HF : hFg 114 [137, 138, 139, 140] [0, 53, 54, 55, 56, 57, 58] h H := by
    rw [← hH]
    exact hFg_pf (hFg_pf (hFg_pf (hFg_pf (hFg_pf (hFg_pf (hFg_pf (hFg_refl _ _ _ _) (by simp) _) (by simp) _) (by simp) _) (by simp) _) (by simp) _) (by simp) _) (by simp) _
  have H0 : H.1 114 0 = zI 0 := by rw [← hH]; simp (disch := omega) only [hI_off, hI_same]
  have H53 : H.1 114 53 = zI 1 := by rw [← hH]; simp (disch := omega) only [hI_off, hI_same]
  have H54 : H.1 114 54 = h.1 114 42 := by rw [← hH]; simp (disch := omega) only [hI_off, hI_same]
  have H55 : H.1 114 55 = h.1 114 46 := by rw [← hH]; simp (disch := omega) only [hI_off, hI_same]
  have H56 : H.1 114 56 = h.1 114 47 := by rw [← hH]; simp (disch := omega) only [hI_off, hI_same]
  have H57 : H.1 114 57 = h.1 114 48 := by rw [← hH]; simp (disch := omega) only [hI_off, hI_same]
  have H58 : H.1 114 58 = h.1 114 49 := by rw [← hH]; simp (disch := omega) only [hI_off, hI_same]
  obtain ⟨h1, r1, p1, f1⟩ := s_M_copies (d := d) (h := H) (a := 131) (o := 137) (n := 240) (m := 240) (by decide) (by decide) (by omega) (by omega) (by omega)
  obtain ⟨h2, r2, p2, f2⟩ := s_M_copies (d := d) (h := h1) (a := 134) (o := 138) (n := 12) (m := 12) (by decide) (by decide) (by omega) (by omega) (by omega)
  obtain ⟨h3, r3, p3, f3⟩ := s_M_copies (d := d) (h := h2) (a := 135) (o := 139) (n := 25) (m := 25) (by decide) (by decide) (by omega) (by omega) (by omega)
  obtain ⟨h4, r4, p4, f4⟩ := s_M_copies (d := d) (h := h3) (a := 136) (o := 140) (n := 1200) (m := 1200) (by decide) (by decide) (by omega) (by omega) (by omega)
  have q : ∀ x, x ≠ 137 → x ≠ 138 → x ≠ 139 → x ≠ 140 → h4.1 x = H.1 x := fun x z1 z2 z3 z4 => by rw [f4.1 x (by simp [z4]), f3.1 x (by simp [z3]), f2.1 x (by simp [z2]), f1.1 x (by simp [z1])]
  have q114 := q 114 (by omega) (by omega) (by omega) (by omega)
  have r137 : ∀ k, k < 240 → h4.1 137 k = h.1 131 k := fun k hk => by rw [f4.1 137 (by simp), f3.1 137 (by simp), f2.1 137 (by simp), p1 k hk, Hx 131 (by omega)]
  have r138 : ∀ k, k < 12 → h4.1 138 k = h.1 134 k := fun k hk => by rw [f4.1 138 (by simp), f3.1 138 (by simp), p2 k hk, f1.1 134 (by simp), Hx 134 (by omega)]
  have r139 : ∀ k, k < 25 → h4.1 139 k = h.1 135 k := fun k hk => by rw [f4.1 139 (by simp), p3 k hk, f2.1 135 (by simp), f1.1 135 (by simp), Hx 135 (by omega)]
  have r140 : ∀ k, k < 1200 → h4.1 140 k = h.1 136 k := fun k hk => by rw [p4 k hk, f3.1 136 (by simp), f2.1 136 (by simp), f1.1 136 (by simp), Hx 136 (by omega)]
  refine ⟨h4, vc_M_image ⟨Or.inr rfl, h1, ?_, h2, r2, h3, r3, h4, r4, rfl⟩, by rw [q114]; exact H0, by rw [q114]; exact H53, ⟨by rw [q114, H54]; exact m0, ?_, ?_, ?_, ?_⟩, ⟨⟨by rw [q114, H55]; exact c46, by rw [q114, H56]; exact c47, by rw [q114, H57]; exact c48, by rw [q114, H58]; exact c49⟩, ?_, ?_, ?_, ?_, ?_⟩, r138, ?_⟩
  · have eH : (mPI (mPI (mPI (mPI (mPI (mPI (mPI h 114 0 (zI 0)) 114 53 (zI 1)) 114 54 (h.1 114 42)) 114 55 (h.1 114 46)) 114 56 (h.1 114 47)) 114 57 (h.1 114 48)) 114 58 (h.1 114 49)) = H := hH
    rw [← eH] at r1
    simp (disch := omega) only [zI_lit, hI_off]
    exact r1
  · intro i i0 i1; rw [r137 _ (by omega)]; exact m1 i i0 i1
  · intro i i0 i1; rw [r137 _ (by omega)]; exact m2 i i0 i1
  · intro i i0 i1; rw [r137 _ (by omega)]; exact m3 i i0 i1
  · intro i i0 i1; rw [r137 _ (by omega)]; exact m4 i i0 i1
  · intro i i0 i1; rw [r139 _ (by omega)]; exact ch i i0 i1
  · intro i i0 i1; rw [r140 _ (by omega)]; exact d0 i i0 i1
  · intro i i0 i1; rw [r140 _ (by omega)]; exact d1 i i0 i1
  · intro i i0 i1; rw [r140 _ (by omega)]; exact d2 i i0 i1
  · intro i i0 i1; rw [r140 _ (by omega)]; exact d3 i i0 i1
  · exact hFg_fr (hFg_fr (hFg_fr (hFg_fr HF (hFr_mono f1 (by simp)) (by simp)) (hFr_mono f2 (by simp)) (by simp)) (hFr_mono f3 (by simp)) (by simp)) (hFr_mono f4 (by simp)) (by simp)
theorem s_M_restore_no {d : Nat} {h : mHp} (h53 : h.1 114 53 = zI 0) : mRuns (d + 1) 80 0 [some (.ref 114)] [] h (.inl (some (.int (zI 0)), mPI h 114 0 (zI 0))) := by
  refine vc_M_restore ?_
  have e : (mPI h 114 0 (zI 0)).1 114 53 = zI 0 := by rw [hI_off (by omega)]; exact h53
  refine ⟨fun z => absurd ?_ z, fun _ => ⟨Or.inl rfl, rfl⟩⟩
  exact e
theorem s_M_restore {d : Nat} {h : mHp} {B : tB} {E : tE} {C : tC} (h53 : h.1 114 53 = zI 1) (hM : EI h E) (hE : EOk B E) (hC : CI h C) (hK : COk C) :
    ∃ h', mRuns (d + 2) 80 0 [some (.ref 114)] [] h (.inl (some (.int (zI 1)), h')) ∧ h'.1 114 0 = zI 0 ∧ EM h' E ∧ CM h' C ∧ (∀ k, k < 12 → h'.1 134 k = h.1 138 k) ∧ hFg 114 [131, 134, 135, 136] [0, 42, 46, 47, 48, 49] h h' := by
  have hn := hE.1
  have k4 := hK.2.2.2.1
  obtain ⟨m0, m1, m2, m3, m4⟩ := hM
  obtain ⟨⟨c46, c47, c48, c49⟩, ch, d0, d1, d2, d3⟩ := hC
  generalize hH : (mPI (mPI (mPI (mPI (mPI (mPI h 114 0 (zI 0)) 114 42 (h.1 114 54)) 114 46 (h.1 114 55)) 114 47 (h.1 114 56)) 114 48 (h.1 114 57)) 114 49 (h.1 114 58)) = H
  have Hx : ∀ x, x ≠ 114 → H.1 x = h.1 x := fun x z => by rw [← hH, hI_ne z, hI_ne z, hI_ne z, hI_ne z, hI_ne z, hI_ne z]
  have HF : hFg 114 [131, 134, 135, 136] [0, 42, 46, 47, 48, 49] h H := by
    rw [← hH]
    exact hFg_pf (hFg_pf (hFg_pf (hFg_pf (hFg_pf (hFg_pf (hFg_refl _ _ _ _) (by simp) _) (by simp) _) (by simp) _) (by simp) _) (by simp) _) (by simp) _
  have H0 : H.1 114 0 = zI 0 := by rw [← hH]; simp (disch := omega) only [hI_off, hI_same]
  have H42 : H.1 114 42 = h.1 114 54 := by rw [← hH]; simp (disch := omega) only [hI_off, hI_same]
  have H46 : H.1 114 46 = h.1 114 55 := by rw [← hH]; simp (disch := omega) only [hI_off, hI_same]
  have H47 : H.1 114 47 = h.1 114 56 := by rw [← hH]; simp (disch := omega) only [hI_off, hI_same]
  have H48 : H.1 114 48 = h.1 114 57 := by rw [← hH]; simp (disch := omega) only [hI_off, hI_same]
  have H49 : H.1 114 49 = h.1 114 58 := by rw [← hH]; simp (disch := omega) only [hI_off, hI_same]
  obtain ⟨h1, r1, p1, f1⟩ := s_M_copies (d := d) (h := H) (a := 137) (o := 131) (n := 240) (m := 240) (by decide) (by decide) (by omega) (by omega) (by omega)
  obtain ⟨h2, r2, p2, f2⟩ := s_M_copies (d := d) (h := h1) (a := 138) (o := 134) (n := 12) (m := 12) (by decide) (by decide) (by omega) (by omega) (by omega)
  obtain ⟨h3, r3, p3, f3⟩ := s_M_copies (d := d) (h := h2) (a := 139) (o := 135) (n := 25) (m := 25) (by decide) (by decide) (by omega) (by omega) (by omega)
  obtain ⟨h4, r4, p4, f4⟩ := s_M_copies (d := d) (h := h3) (a := 140) (o := 136) (n := 1200) (m := 1200) (by decide) (by decide) (by omega) (by omega) (by omega)
  have q : ∀ x, x ≠ 131 → x ≠ 134 → x ≠ 135 → x ≠ 136 → h4.1 x = H.1 x := fun x z1 z2 z3 z4 => by rw [f4.1 x (by simp [z4]), f3.1 x (by simp [z3]), f2.1 x (by simp [z2]), f1.1 x (by simp [z1])]
  have q114 := q 114 (by omega) (by omega) (by omega) (by omega)
  have r131 : ∀ k, k < 240 → h4.1 131 k = h.1 137 k := fun k hk => by rw [f4.1 131 (by simp), f3.1 131 (by simp), f2.1 131 (by simp), p1 k hk, Hx 137 (by omega)]
  have r134 : ∀ k, k < 12 → h4.1 134 k = h.1 138 k := fun k hk => by rw [f4.1 134 (by simp), f3.1 134 (by simp), p2 k hk, f1.1 138 (by simp), Hx 138 (by omega)]
  have r135 : ∀ k, k < 25 → h4.1 135 k = h.1 139 k := fun k hk => by rw [f4.1 135 (by simp), p3 k hk, f2.1 139 (by simp), f1.1 139 (by simp), Hx 139 (by omega)]
  have r136 : ∀ k, k < 1200 → h4.1 136 k = h.1 140 k := fun k hk => by rw [p4 k hk, f3.1 140 (by simp), f2.1 140 (by simp), f1.1 140 (by simp), Hx 140 (by omega)]
  have e53 : (mPI h 114 0 (nI 0)).1 114 53 = zI 1 := by rw [hI_off (by omega)]; exact h53
  refine ⟨h4, vc_M_restore ⟨fun _ => ⟨h1, ?_, h2, r2, h3, r3, h4, r4, Or.inr rfl, rfl⟩, fun z => ?_⟩, by rw [q114]; exact H0, ⟨by rw [q114, H42]; exact m0, ?_, ?_, ?_, ?_⟩, ⟨⟨by rw [q114, H46]; exact c46, by rw [q114, H47]; exact c47, by rw [q114, H48]; exact c48, by rw [q114, H49]; exact c49⟩, ?_, ?_, ?_, ?_, ?_⟩, r134, ?_⟩
  · rw [← hH] at r1
    simp (disch := omega) only [zI_lit, hI_off]
    exact r1
  · rw [e53] at z
    simp (disch := omega) only [zI_0, zI_eq] at z
    omega
  · intro i i0 i1; rw [r131 _ (by omega)]; exact m1 i i0 i1
  · intro i i0 i1; rw [r131 _ (by omega)]; exact m2 i i0 i1
  · intro i i0 i1; rw [r131 _ (by omega)]; exact m3 i i0 i1
  · intro i i0 i1; rw [r131 _ (by omega)]; exact m4 i i0 i1
  · intro i i0 i1; rw [r135 _ (by omega)]; exact ch i i0 i1
  · intro i i0 i1; rw [r136 _ (by omega)]; exact d0 i i0 i1
  · intro i i0 i1; rw [r136 _ (by omega)]; exact d1 i i0 i1
  · intro i i0 i1; rw [r136 _ (by omega)]; exact d2 i i0 i1
  · intro i i0 i1; rw [r136 _ (by omega)]; exact d3 i i0 i1
  · exact hFg_fr (hFg_fr (hFg_fr (hFg_fr HF (hFr_mono f1 (by simp)) (by simp)) (hFr_mono f2 (by simp)) (by simp)) (hFr_mono f3 (by simp)) (by simp)) (hFr_mono f4 (by simp)) (by simp)

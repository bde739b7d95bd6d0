/-! L3, the whole state: what the class holds, what the model holds, what is so of both -/
def IO (n : Int) (B : tB) (E : tE) (k : Int) (C : tC) (i : Int) (E' : tE) (C' : tC) : Prop :=
  (0 ≤ n ∧ n ≤ 700) ∧ BOk B ∧ EOk B E ∧ (k = -1 ∨ (0 ≤ k ∧ k ≤ 2 ∧ (fPl B k (-1)).1 = 1)) ∧ COk C ∧ (cO C = 1 → (fPl B (cL C) (-1)).1 = 1) ∧ (i = 0 ∨ i = 1) ∧ (i = 1 → EOk B E' ∧ COk C' ∧ (cO C' = 1 → (fPl B (cL C') (-1)).1 = 1))
def IC (h : mHp) (b : Nat) (n : Int) (g : Int → Int32) (B : tB) (E : tE) (k : Int) (C : tC) (i : Int) (E' : tE) (C' : tC) (r0 r1 r2 p q : Int) : Prop :=
  (bAd b ∧ h.2.2.1 0 0 = b ∧ h.2.2.1 0 1 = 13 - b) ∧ TC h n g ∧ BC h b B ∧ LC h 90 E ∧ h.1 0 10 = zI k ∧ CC h 102 C ∧ h.1 0 9 = zI i ∧ (i = 1 → LC h 96 E' ∧ CC h 108 C') ∧ h.1 0 12 = zI r0 ∧ h.1 0 13 = zI r1 ∧ h.1 0 14 = zI r2 ∧ h.1 0 11 = zI p ∧ PLs h B q
def IM (h : mHp) (n : Int) (g : Int → Int32) (B : tB) (E : tE) (k : Int) (C : tC) (i : Int) (E' : tE) (C' : tC) (r0 r1 r2 p : Int) : Prop :=
  PW h ∧ TM h n g ∧ BM h B ∧ EM h E ∧ KM h B k ∧ CM h C ∧ (cO C = 1 → PM h B (onPs B C) (onPt B C)) ∧ h.1 114 53 = zI i ∧ (i = 1 → EI h E' ∧ CI h C' ∧ (cO C' = 1 → (∀ j, 0 ≤ j → j < bD B → h.1 138 (2 * j).toNat = zI (onPs B C' j)) ∧ (∀ j, 0 ≤ j → j < bD B → h.1 138 (2 * j + 1).toNat = zI (onPt B C' j)))) ∧ h.1 120 0 = zI r0 ∧ h.1 120 1 = zI r1 ∧ h.1 120 2 = zI r2 ∧ h.1 114 12 = zI p
theorem TC_of {h h' : mHp} {n : Int} {g : Int → Int32} (hT : TC h n g) (e1 : h'.1 23 1 = h.1 23 1) (e2 : h'.1 24 = h.1 24) : TC h' n g := by unfold TC at hT ⊢; rw [e1, e2]; exact hT
theorem TM_of {h h' : mHp} {n : Int} {g : Int → Int32} (hT : TM h n g) (e1 : h'.1 114 10 = h.1 114 10) (e2 : h'.1 119 = h.1 119) : TM h' n g := by unfold TM at hT ⊢; rw [e1, e2]; exact hT
theorem PWof {h h' : mHp} (hP : PW h) (e : h'.1 129 = h.1 129) : PW h' := fun t a b => by rw [e]; exact hP t a b
theorem EI_of {h h' : mHp} {E : tE} (hE : EI h E) (e0 : h'.1 114 54 = h.1 114 54) (e : h'.1 137 = h.1 137) : EI h' E := by unfold EI at hE ⊢; rw [e0, e]; exact hE
theorem CI_of {h h' : mHp} {C : tC} (hC : CI h C) (e0 : ∀ k, 55 ≤ k → k ≤ 58 → h'.1 114 k = h.1 114 k) (e1 : h'.1 139 = h.1 139) (e2 : h'.1 140 = h.1 140) : CI h' C := by
  unfold CI at hC ⊢; rw [e0 55 (by omega) (by omega), e0 56 (by omega) (by omega), e0 57 (by omega) (by omega), e0 58 (by omega) (by omega), e1, e2]; exact hC
/-- what the class does not touch -/
def fC (h h' : mHp) : Prop := (∀ x, 114 ≤ x → h'.1 x = h.1 x) ∧ (∀ x, x ≠ 141 → h'.2.1 x = h.2.1 x) ∧ (∀ x, 114 ≤ x → h'.2.2.1 x = h.2.2.1 x) ∧ h'.2.2.2 ≤ h.2.2.2 + 1
def fM (h h' : mHp) : Prop := (∀ x, x < 114 ∨ 140 < x → h'.1 x = h.1 x) ∧ (∀ x, x ≠ 114 → x ≠ 133 → h'.2.1 x = h.2.1 x) ∧ h'.2.2 = h.2.2
theorem IC_of {h h' : mHp} {b : Nat} {n : Int} {g : Int → Int32} {B : tB} {E : tE} {k : Int} {C : tC} {i : Int} {E' : tE} {C' : tC} {r0 r1 r2 p q : Int} (hI : IC h b n g B E k C i E' C' r0 r1 r2 p q) (e : ∀ x, x < 114 → h'.1 x = h.1 x) (e3 : h'.1 143 = h.1 143) (e4 : h'.2.2.1 0 = h.2.2.1 0) : IC h' b n g B E k C i E' C' r0 r1 r2 p q := by
  obtain ⟨⟨hb, a1, a2⟩, a3, a4, a5, a6, a7, a8, a9, a10, a11, a12, a13, a14⟩ := hI
  have bl : b ≤ 12 := by rcases hb with z | z <;> omega
  exact ⟨⟨hb, by rw [e4]; exact a1, by rw [e4]; exact a2⟩, TC_of a3 (by rw [e 23 (by omega)]) (e 24 (by omega)), BC_of a4 (fun j hj => e _ (by omega)), LC_of a5 (fun j hj => e _ (by omega)), by rw [e 0 (by omega)]; exact a6, CC_of a7 (fun j hj => e _ (by omega)), by rw [e 0 (by omega)]; exact a8, fun z => ⟨LC_of (a9 z).1 (fun j hj => e _ (by omega)), CC_of (a9 z).2 (fun j hj => e _ (by omega))⟩, by rw [e 0 (by omega)]; exact a10, by rw [e 0 (by omega)]; exact a11, by rw [e 0 (by omega)]; exact a12, by rw [e 0 (by omega)]; exact a13, PLs_of a14 (fun x _ hx => e x (by omega)) e3⟩
theorem IM_of {h h' : mHp} {n : Int} {g : Int → Int32} {B : tB} {E : tE} {k : Int} {C : tC} {i : Int} {E' : tE} {C' : tC} {r0 r1 r2 p : Int} (hI : IM h n g B E k C i E' C' r0 r1 r2 p) (e0 : ∀ j, j ∉ [0, 32, 33, 39, 40] → h'.1 114 j = h.1 114 j) (e : ∀ x, 115 ≤ x → x ≤ 140 → x ≠ 125 → x ≠ 126 → x ≠ 127 → x ≠ 128 → x ≠ 132 → h'.1 x = h.1 x) : IM h' n g B E k C i E' C' r0 r1 r2 p := by
  obtain ⟨a1, a2, a3, a4, a5, a6, a7, a8, a9, a10, a11, a12, a13⟩ := hI
  have e' : ∀ x, 115 ≤ x → (x ≤ 124 ∨ 129 ≤ x) ∧ x ≠ 132 → x ≤ 140 → h'.1 x = h.1 x := fun x a b c => e x a c (by omega) (by omega) (by omega) (by omega) (by omega)
  refine ⟨PWof a1 (e' 129 (by omega) (by omega) (by omega)), TM_of a2 (e0 10 (by simp)) (e' 119 (by omega) (by omega) (by omega)), BM_of a3 (fun j _ _ => e0 j (by simp; omega)) (fun j _ _ => e' j (by omega) (by omega) (by omega)), EM_of a4 (e0 42 (by simp)) (e' 131 (by omega) (by omega) (by omega)), KM_of a5 (e0 38 (by simp)) (e' 130 (by omega) (by omega) (by omega)), CM_of a6 (fun j _ _ => e0 j (by simp; omega)) (e' 135 (by omega) (by omega) (by omega)) (e' 136 (by omega) (by omega) (by omega)), fun z => PM_of (a7 z) (e' 134 (by omega) (by omega) (by omega)), by rw [e0 53 (by simp)]; exact a8, fun z => ?_, by rw [e' 120 (by omega) (by omega) (by omega)]; exact a10, by rw [e' 120 (by omega) (by omega) (by omega)]; exact a11, by rw [e' 120 (by omega) (by omega) (by omega)]; exact a12, by rw [e0 12 (by simp)]; exact a13⟩
  obtain ⟨b1, b2, b3⟩ := a9 z
  exact ⟨EI_of b1 (e0 54 (by simp)) (e' 137 (by omega) (by omega) (by omega)), CI_of b2 (fun j _ _ => e0 j (by simp; omega)) (e' 139 (by omega) (by omega) (by omega)) (e' 140 (by omega) (by omega) (by omega)), fun y => by rw [e' 138 (by omega) (by omega) (by omega)]; exact b3 y⟩
theorem fC_IM {h h' : mHp} {n : Int} {g : Int → Int32} {B : tB} {E : tE} {k : Int} {C : tC} {i : Int} {E' : tE} {C' : tC} {r0 r1 r2 p : Int} (f : fC h h') (hI : IM h n g B E k C i E' C' r0 r1 r2 p) : IM h' n g B E k C i E' C' r0 r1 r2 p :=
  IM_of hI (fun j _ => by rw [f.1 114 (by omega)]) (fun x a _ _ _ _ _ _ => f.1 x (by omega))
theorem fM_IC {h h' : mHp} {b : Nat} {n : Int} {g : Int → Int32} {B : tB} {E : tE} {k : Int} {C : tC} {i : Int} {E' : tE} {C' : tC} {r0 r1 r2 p q : Int} (f : fM h h') (hI : IC h b n g B E k C i E' C' r0 r1 r2 p q) : IC h' b n g B E k C i E' C' r0 r1 r2 p q :=
  IC_of hI (fun x hx => f.1 x (Or.inl hx)) (f.1 143 (by omega)) (by rw [f.2.2])
/-- the field 'thrown' alone -/
theorem IM_t {h : mHp} {n : Int} {g : Int → Int32} {B : tB} {E : tE} {k : Int} {C : tC} {i : Int} {E' : tE} {C' : tC} {r0 r1 r2 p : Int} (hI : IM h n g B E k C i E' C' r0 r1 r2 p) (v : Int32) : IM (mPI h 114 0 v) n g B E k C i E' C' r0 r1 r2 p :=
  IM_of hI (fun j hj => hI_off (by simp at hj; omega) _ _ _ _) (fun x a _ _ _ _ _ _ => hI_ne (by omega) _ _ _)
theorem fM_t (h : mHp) (v : Int32) : fM h (mPI h 114 0 v) := ⟨fun x hx => hI_ne (by omega) _ _ _, fun _ _ _ => rfl, rfl⟩
theorem fM_fg {l fs : List Nat} {h h' : mHp} (f : hFg 114 l fs h h') (hl : ∀ x, x ∈ l → 114 ≤ x ∧ x ≤ 140) : fM h h' :=
  ⟨fun x hx => f.1 x (fun z => by have := hl x z; omega) (by omega), fun x _ _ => by rw [f.2.2], by rw [f.2.2]⟩
theorem fC_refl (h : mHp) : fC h h := ⟨fun _ _ => rfl, fun _ _ => rfl, fun _ _ => rfl, by omega⟩
theorem fC_xc (h : mHp) : fC h (mXc h) := ⟨fun _ _ => rfl, fun _ _ => rfl, fun _ _ => rfl, Nat.le_refl _⟩
theorem fC_tp {fs : List Nat} {h h' : mHp} (f : tpF fs h h') : fC h h' := ⟨fun x hx => f.1 x (by omega) (by omega), fun x _ => by rw [f.2.2.1], fun x hx => f.2.2.2.1 x (by omega), f.2.2.2.2.2⟩
theorem fC_tq {rs fs : List Nat} {h h' : mHp} (f : tqF rs fs h h') (hr : ∀ x, x ∈ rs → x < 114) : fC h h' := ⟨fun x hx => f.1 x (by omega) (fun z => by have := hr x z; omega) (by omega), fun x _ => by rw [f.2.2.1], fun x hx => f.2.2.2.1 x (by omega), f.2.2.2.2.2⟩
theorem fC_j {h h' : mHp} (f : jF h h') : fC h h' := ⟨fun x hx => f.1 x (by simp; omega), fun x _ => by rw [f.2.1], fun x hx => f.2.2.1 x (by omega) (by omega), f.2.2.2.2⟩
theorem fC_w {rs fs : List Nat} {h h' : mHp} (f : wF rs fs h h') (hr : ∀ x, x ∈ rs → x < 114) : fC h h' := ⟨fun x hx => f.1 x (fun z => by have := hr x z; omega) (by omega), fun x _ => by rw [f.2.2.1], fun x _ => by rw [f.2.2.2.1], f.2.2.2.2.2⟩
/-- Int32 as a number -/
theorem tR1 (a : Int32) : -2147483648 ≤ a.toInt := by have := Int32.le_toInt a; omega
theorem tR2 (a : Int32) : a.toInt < 2147483648 := by have := Int32.toInt_lt a; omega

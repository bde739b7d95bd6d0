/-! THE START, part 2: the first heap holds the first state -/
def c00 : tC := (0, 0, 0, 0, 0, fun _ => 0, fun _ _ => 0)
theorem COk_00 : COk c00 := ⟨Or.inl rfl, fun _ => rfl, by show (0:Int) ≤ 0; omega, by show (0:Int) ≤ 300; omega, by show (0:Int) ≤ 0; omega, by show (0:Int) ≤ 2; omega, by show (0:Int) ≤ 0; omega, by show (0:Int) ≤ 1000; omega, fun i _ _ => ⟨by show (0:Int) ≤ 0; omega, by show (0:Int) ≤ 99; omega⟩⟩
theorem h0_row {xs : Nat → Int32} {a : Nat} (h : a ≠ 142 ∧ a ≠ 143 ∧ a ≠ 129 ∧ a ≠ 95 ∧ a ≠ 101 ∧ a ≠ 0 ∧ a ≠ 1 ∧ a ≠ 12 ∧ a ≠ 114) (k : Nat) : h0I xs a k = 0 := by
  have ne : ∀ b, a ≠ b → Nat.beq a b = false := fun b hb => by
    cases e : Nat.beq a b with
    | true => exact absurd (Nat.eq_of_beq_eq_true e) hb
    | false => rfl
  unfold h0I
  rw [ne 142 h.1, ne 143 h.2.1, ne 129 h.2.2.1, ne 95 h.2.2.2.1, ne 101 h.2.2.2.2.1, ne 0 h.2.2.2.2.2.1, ne 1 h.2.2.2.2.2.2.1, ne 12 h.2.2.2.2.2.2.2.1, ne 114 h.2.2.2.2.2.2.2.2]
  rfl
theorem up4 {k : Nat} (h : k < 5) : k = 0 ∨ k = 1 ∨ k = 2 ∨ k = 3 ∨ k = 4 := by omega
theorem aEq_0 (f : Nat → Int32) (g : Int → Int) : aEq f 0 g := fun i i0 i1 => absurd i1 (by omega)
theorem IC_00 (L : Nat) (xs : Nat → Int32) (g : Int → Int32) : IC (h00 L xs) 1 0 g b00 eNil (-1) c00 0 eNil c00 0 0 0 (-1) 0 := by
  have z : ∀ a k, (a ≠ 142 ∧ a ≠ 143 ∧ a ≠ 129 ∧ a ≠ 95 ∧ a ≠ 101 ∧ a ≠ 0 ∧ a ≠ 1 ∧ a ≠ 12 ∧ a ≠ 114) → (h00 L xs).1 a k = zI 0 := fun a k h => h0_row h k
  refine ⟨⟨Or.inl rfl, rfl, rfl⟩, ⟨rfl, fun i i0 i1 => absurd i1 (by omega)⟩, ⟨rfl, rfl, rfl, rfl, aEq_0 _ _, aEq_0 _ _, aEq_0 _ _, aEq_0 _ _, aEq_0 _ _, aEq_0 _ _, aEq_0 _ _, aEq_0 _ _, aEq_0 _ _, fun i _ _ => z 11 _ (by omega)⟩, LC_nil_of rfl (fun k hk => ?_), rfl, ⟨⟨rfl, rfl, rfl, rfl, rfl⟩, fun i _ _ => z 103 _ (by omega), aEq_0 _ _, aEq_0 _ _, aEq_0 _ _, aEq_0 _ _⟩, rfl, fun z => absurd z (by omega), rfl, rfl, rfl, rfl, ?_, ⟨fun _ => 0, rfl, by omega, fun i _ _ => z 32 _ (by omega), fun i _ _ => by show (0:Int) ≤ 0 ∧ (0:Int) < (0 + 1) * 1024; omega⟩, fun j hj => ?_⟩
  · rcases up4 hk with e | e | e | e | e <;> subst e <;> rfl
  · intro l w l0 l1 w0 w1
    have pr := pAd_rng (pCell_ad l0 l1 w0 w1)
    exact Or.inl (z _ _ (by omega))
  · rcases up4 hj with e | e | e | e | e <;> subst e <;> rfl
theorem IM_00 (L : Nat) (xs : Nat → Int32) (g : Int → Int32) : IM (h00 L xs) 0 g b00 eNil (-1) c00 0 eNil c00 0 0 0 (-1) := by
  have z : ∀ a k, (a ≠ 142 ∧ a ≠ 143 ∧ a ≠ 129 ∧ a ≠ 95 ∧ a ≠ 101 ∧ a ≠ 0 ∧ a ≠ 1 ∧ a ≠ 12 ∧ a ≠ 114) → (h00 L xs).1 a k = zI 0 := fun a k h => h0_row h k
  have n0 : ∀ {P : Prop} (i : Int), 0 ≤ i → i < 0 → P := fun i a b => absurd b (by omega)
  refine ⟨fun t t0 t5 => ?_, ⟨rfl, fun i a b => n0 i a b⟩, ⟨rfl, rfl, rfl, rfl, fun i a b => n0 i a b, fun i a b => n0 i a b, fun i a b => n0 i a b, fun i a b => n0 i a b, fun i a b => n0 i a b, fun i a b => n0 i a b, fun i a b => n0 i a b, fun i a b => n0 i a b, fun i a b => n0 i a b, fun i _ _ => z 118 _ (by omega)⟩, ⟨rfl, fun i a b => n0 i a b, fun i a b => n0 i a b, fun i a b => n0 i a b, fun i a b => n0 i a b⟩, Or.inl ⟨rfl, rfl⟩, ⟨⟨rfl, rfl, rfl, rfl⟩, fun i _ _ => z 135 _ (by omega), fun i a b => n0 i a b, fun i a b => n0 i a b, fun i a b => n0 i a b, fun i a b => n0 i a b⟩, fun z => absurd z (show ¬ (0:Int) = 1 by omega), rfl, fun z => absurd z (by omega), rfl, rfl, rfl, rfl⟩
  rcases (show t = 0 ∨ t = 1 ∨ t = 2 ∨ t = 3 ∨ t = 4 ∨ t = 5 by omega) with e | e | e | e | e | e <;> subst e <;> rfl
theorem Iv_00 (L : Nat) (xs : Nat → Int32) : Iv (h00 L xs) 0 :=
  ⟨1, 0, fun _ => 0, b00, eNil, -1, c00, 0, eNil, c00, 0, 0, 0, -1, 0, IC_00 L xs _, IM_00 L xs _, ⟨by omega, BOk_00, EOk_nil _, Or.inl rfl, COk_00, fun z => absurd z (show ¬ (0:Int) = 1 by omega), Or.inl rfl, fun z => absurd z (by omega)⟩, by omega, Nat.le_refl _⟩

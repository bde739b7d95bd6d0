/-! THE START, part 1: the first heap of the small machine, and the constructors' world as its cells -/
def h0I (xs : Nat → Int32) : Nat → Nat → Int32 := fun a k =>
  bif Nat.beq a 142 then xs k else bif Nat.beq a 143 then mNo k
  else bif Nat.beq a 129 then (upd (upd (upd (upd (upd (upd (fun _ => 0) (0 : Int32).toNatClampNeg 1) (1 : Int32).toNatClampNeg 7) (2 : Int32).toNatClampNeg 49) (3 : Int32).toNatClampNeg 343) (4 : Int32).toNatClampNeg 2401) (5 : Int32).toNatClampNeg 16807) k
  else bif Nat.beq a 95 then fG (fun _ => 0) (-1) 5 k else bif Nat.beq a 101 then fG (fun _ => 0) (-1) 5 k
  else bif Nat.beq a 0 && (Nat.beq k 10 || Nat.beq k 11) then -1
  else bif (Nat.beq a 1 || Nat.beq a 12) && Nat.beq k 13 then 1
  else bif Nat.beq a 114 && Nat.beq k 4 then 1
  else bif Nat.beq a 114 && (Nat.beq k 12 || Nat.beq k 46) then -1 else 0
def h0R (L : Nat) : Nat → Nat → Nat := fun a k => bif Nat.beq a 0 then (bif Nat.beq k 0 then 1 else 12) else bif Nat.beq a 142 then L else 1000
def h00 (L : Nat) (xs : Nat → Int32) : mHp := (h0I xs, fun _ _ => 0, h0R L, 0)
abbrev mEy (G : mG) (h : mHp) (a : Nat) : Nat × va_E := (gA G a, mCr G a (h.1 a) (h.2.1 a) (h.2.2.1 a) (mSh a))
def pX (G : mG) : Nat × va_E := (gA G 27, .inl (gO G, 18, .inr (.inr (.inr (.inr (pF ((List.range 18).map fun j => fun k => gA G (26 + (7 + 3 * j + k)))))))))
theorem wb_0 (G : mG) (L : Nat) (xs : Nat → Int32) : [mEy G (h00 L xs) 0] = [(gA G 0, .inr (7, [.ref (gA G 1), .ref (gA G 12), .ref (gA G 23), .ref (gA G 26), .ref (gA G 87), .ref (gA G 90), .ref (gA G 96), .ref (gA G 102), .ref (gA G 108), .int 0, .int (-1), .int (-1), .int 0, .int 0, .int 0]))] := rfl
theorem wb_1 (G : mG) (L : Nat) (xs : Nat → Int32) : (List.range' 1 11).map (mEy G (h00 L xs)) = wBoard G (fun k => gA G (1 + k)) := rfl
theorem wb_12 (G : mG) (L : Nat) (xs : Nat → Int32) : (List.range' 12 11).map (mEy G (h00 L xs)) = wBoard G (fun k => gA G (12 + k)) := rfl
theorem wb_23 (G : mG) (L : Nat) (xs : Nat → Int32) : (List.range' 23 3).map (mEy G (h00 L xs)) = wReader G (fun k => gA G (23 + k)) := rfl
theorem wb_87 (G : mG) (L : Nat) (xs : Nat → Int32) : (List.range' 87 3).map (mEy G (h00 L xs)) = wJudge G (fun k => gA G (87 + k)) := rfl
theorem wb_90 (G : mG) (L : Nat) (xs : Nat → Int32) : (List.range' 90 6).map (mEy G (h00 L xs)) = wLog G (fun k => gA G (90 + k)) := rfl
theorem wb_96 (G : mG) (L : Nat) (xs : Nat → Int32) : (List.range' 96 6).map (mEy G (h00 L xs)) = wLog G (fun k => gA G (96 + k)) := rfl
theorem wb_102 (G : mG) (L : Nat) (xs : Nat → Int32) : (List.range' 102 6).map (mEy G (h00 L xs)) = wCourt G (fun k => gA G (102 + k)) := rfl
theorem wb_108 (G : mG) (L : Nat) (xs : Nat → Int32) : (List.range' 108 6).map (mEy G (h00 L xs)) = wCourt G (fun k => gA G (108 + k)) := rfl
set_option maxRecDepth 100000 in
theorem wb_114 (G : mG) (L : Nat) (xs : Nat → Int32) : (List.range' 114 27).map (mEy G (h00 L xs)) = wModel G (fun k => gA G (114 + k)) := rfl
theorem wb_141 (G : mG) (L : Nat) (xs : Nat → Int32) : [mEy G (h00 L xs) 141] = [(gA G 141, .inl (gJ G, 1, .inr (.inl (fun _ => 0))))] := rfl
set_option maxRecDepth 100000 in
theorem wb_26 (G : mG) (L : Nat) (xs : Nat → Int32) : ((List.range' 26 61).map (mEy G (h00 L xs))).set 1 (pX G) = wPlanner G (fun k => gA G (26 + k)) := rfl
def wAll (G : mG) : va_W := wTable G (gA G) ++ wModel G (fun k => gA G (114 + k)) ++ [(gA G 141, .inl (gJ G, 1, .inr (.inl (fun _ => 0))))]
theorem rng142 : List.range 142 = [0] ++ List.range' 1 11 ++ List.range' 12 11 ++ List.range' 23 3 ++ List.range' 26 61 ++ List.range' 87 3 ++ List.range' 90 6 ++ List.range' 96 6 ++ List.range' 102 6 ++ List.range' 108 6 ++ List.range' 114 27 ++ [141] := by decide
theorem wAll_eq (G : mG) (L : Nat) (xs : Nat → Int32) : wAll G = (mWo G (h00 L xs)).set 27 (pX G) := by
  have e : mWo G (h00 L xs) = [mEy G (h00 L xs) 0] ++ (List.range' 1 11).map (mEy G (h00 L xs)) ++ (List.range' 12 11).map (mEy G (h00 L xs)) ++ (List.range' 23 3).map (mEy G (h00 L xs)) ++ (List.range' 26 61).map (mEy G (h00 L xs)) ++ (List.range' 87 3).map (mEy G (h00 L xs)) ++ (List.range' 90 6).map (mEy G (h00 L xs)) ++ (List.range' 96 6).map (mEy G (h00 L xs)) ++ (List.range' 102 6).map (mEy G (h00 L xs)) ++ (List.range' 108 6).map (mEy G (h00 L xs)) ++ (List.range' 114 27).map (mEy G (h00 L xs)) ++ [mEy G (h00 L xs) 141] := by
    show (List.range 142).map (mEy G (h00 L xs)) = _
    rw [rng142]
    simp only [List.map_append, List.map_cons, List.map_nil]
  have s : ∀ (A B C1 C2 C3 C4 C5 C6 C7 C8 : va_W), A.length = 26 → 1 < B.length → (A ++ B ++ C1 ++ C2 ++ C3 ++ C4 ++ C5 ++ C6 ++ C7).set 27 (pX G) = A ++ B.set 1 (pX G) ++ C1 ++ C2 ++ C3 ++ C4 ++ C5 ++ C6 ++ C7 := by
    intro A B C1 C2 C3 C4 C5 C6 C7 C8 ha hb
    simp only [List.append_assoc]
    rw [List.set_append_right _ _ (by omega), ha, List.set_append_left _ _ (by omega)]
  rw [e, s _ _ _ _ _ _ _ _ _ [] (by simp) (by simp), wb_26, wb_0, wb_1, wb_12, wb_23, wb_87, wb_90, wb_96, wb_102, wb_108, wb_114, wb_141]
  rfl
theorem arrV_cong {c : ClassId} {n : Nat} {f g : Nat → Value} (h : ∀ j, j < n → f j = g j) : arrV c n f = arrV c n g := by
  unfold arrV
  congr 1
  apply Array.ext
  · simp
  · intro j h1 h2
    simp at h1 h2 ⊢
    exact h j h1
theorem wAll_P {G : mG} {L : Nat} {xs : Nat → Int32} {H : Heap} (hP : va_P (gD G) vwCl (wAll G) H) : va_P (gD G) vwCl (mWo G (h00 L xs)) H := by
  rw [wAll_eq G L xs] at hP
  intro k q hk
  by_cases c : k = 27
  · subst c
    have h1 := hP 27 (pX G) (by rw [List.getElem?_set_self (by rw [mWo_len]; omega)])
    have h2 : H[gA G 27]? = some (arrV (gO G) 18 (fun j => va_rf (pF ((List.range 18).map fun j => fun k => gA G (26 + (7 + 3 * j + k))) j))) := h1
    rw [mWo_get G _ (by omega)] at hk
    rw [← Option.some.inj hk]
    show H[gA G 27]? = some (arrV (gO G) 18 (fun j => va_rf (some (gA G (27 + 6 + 3 * j)))))
    rw [h2]
    refine congrArg some (arrV_cong (fun j hj => ?_))
    unfold pF
    rw [List.getElem?_map, List.getElem?_range hj]
    show va_rf (some (gA G (26 + (7 + 3 * j + 0)))) = va_rf (some (gA G (27 + 6 + 3 * j)))
    rw [show 26 + (7 + 3 * j + 0) = 27 + 6 + 3 * j by omega]
  · refine hP k q ?_
    rw [List.getElem?_set_ne (fun z => c z.symm)]
    exact hk
theorem wAll_D {G : mG} {L : Nat} {xs : Nat → Int32} {A : Nat → Prop} (hD : va_D A (wAll G)) : va_D A (mWo G (h00 L xs)) := by
  rw [wAll_eq G L xs] at hD
  have key : ∀ (k : Nat) (q : Nat × va_E), (mWo G (h00 L xs))[k]? = some q → ∃ q', ((mWo G (h00 L xs)).set 27 (pX G))[k]? = some q' ∧ q'.1 = q.1 := by
    intro k q hk
    by_cases c : k = 27
    · subst c
      refine ⟨pX G, by rw [List.getElem?_set_self (by rw [mWo_len]; omega)], ?_⟩
      rw [mWo_get G _ (by omega)] at hk
      rw [← Option.some.inj hk]
      rfl
    · exact ⟨q, by rw [List.getElem?_set_ne (fun z => c z.symm)]; exact hk, rfl⟩
  refine ⟨fun i j p q hi hj e => ?_, fun k q hk => ?_⟩
  · obtain ⟨p', hp, e1⟩ := key i p hi
    obtain ⟨q', hq, e2⟩ := key j q hj
    exact hD.1 i j p' q' hp hq (by rw [e1, e2]; exact e)
  · obtain ⟨q', hq, e⟩ := key k q hk
    rw [← e]
    exact hD.2 k q' hq

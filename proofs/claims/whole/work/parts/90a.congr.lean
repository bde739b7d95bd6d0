/-! CONSTRUCTORS, part 8a: worlds by their addresses -/
theorem wBoard_congr (G : mG) {x y : Nat → Nat} (h : ∀ k, k < 11 → x k = y k) : wBoard G x = wBoard G y := by
  unfold wBoard
  rw [h 0 (by decide), h 1 (by decide), h 2 (by decide), h 3 (by decide), h 4 (by decide), h 5 (by decide), h 6 (by decide), h 7 (by decide), h 8 (by decide), h 9 (by decide), h 10 (by decide)]
theorem wReader_congr (G : mG) {x y : Nat → Nat} (h : ∀ k, k < 3 → x k = y k) : wReader G x = wReader G y := by
  unfold wReader
  rw [h 0 (by decide), h 1 (by decide), h 2 (by decide)]
theorem wJudge_congr (G : mG) {x y : Nat → Nat} (h : ∀ k, k < 3 → x k = y k) : wJudge G x = wJudge G y := by
  unfold wJudge
  rw [h 0 (by decide), h 1 (by decide), h 2 (by decide)]
theorem wLog_congr (G : mG) {x y : Nat → Nat} (h : ∀ k, k < 6 → x k = y k) : wLog G x = wLog G y := by
  unfold wLog
  rw [h 0 (by decide), h 1 (by decide), h 2 (by decide), h 3 (by decide), h 4 (by decide), h 5 (by decide)]
theorem wCourt_congr (G : mG) {x y : Nat → Nat} (h : ∀ k, k < 6 → x k = y k) : wCourt G x = wCourt G y := by
  unfold wCourt
  rw [h 0 (by decide), h 1 (by decide), h 2 (by decide), h 3 (by decide), h 4 (by decide), h 5 (by decide)]
theorem wPlanner_congr (G : mG) {x y : Nat → Nat} (h : ∀ k, k < 61 → x k = y k) : wPlanner G x = wPlanner G y := by
  have e1 : pF ((List.range 18).map fun j => fun k => x (7 + 3 * j + k)) = pF ((List.range 18).map fun j => fun k => y (7 + 3 * j + k)) := by
    funext j
    unfold pF
    by_cases hj : j < 18
    · rw [List.getElem?_map, List.getElem?_range hj, List.getElem?_map, List.getElem?_range hj]
      show some (x (7 + 3 * j + 0)) = some (y (7 + 3 * j + 0))
      rw [h _ (by omega)]
    · rw [List.getElem?_eq_none_iff.mpr (by simp; omega), List.getElem?_eq_none_iff.mpr (by simp; omega)]
  have e2 : ((List.range 18).map fun j => fun k => x (7 + 3 * j + k)).flatMap (wPlan G) = ((List.range 18).map fun j => fun k => y (7 + 3 * j + k)).flatMap (wPlan G) := by
    rw [List.flatMap_def, List.flatMap_def, List.map_map, List.map_map]
    congr 1
    apply List.map_congr_left
    intro j hj
    have hj := List.mem_range.mp hj
    exact wPlan_congr G (fun i hi => h _ (by omega))
  unfold wPlanner pW pH
  rw [e1, e2, h 0 (by decide), h 1 (by decide), h 2 (by decide), h 3 (by decide), h 4 (by decide), h 5 (by decide), h 6 (by decide)]
theorem bltT {a b : Nat} (h : a < b) : Nat.blt a b = true := by
  cases e : Nat.blt a b with
  | true => rfl
  | false =>
    have : Nat.ble (a + 1) b = true := Nat.ble_eq_true_of_le h
    have e2 : Nat.ble (a + 1) b = false := e
    rw [this] at e2
    exact absurd e2 (by decide)

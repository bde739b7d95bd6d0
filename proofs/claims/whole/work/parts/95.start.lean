/-! THE START, part 4: the law's entry (heads from the kit's skeleton), its own rows up to the loop, and the loop out of the small machine -/
def R_law : String := "TasterTableLaw"
def lw_P (b : Addr) (xs : List Int32) (args : Array Value) (s : State) : Prop := args = #[.ref b] ∧ s.IntsAt b xs ∧ xs.length ≤ 3072 ∧ (Jvm.Cond.and given_1 narrow_1).before args s = true
def lw_Q (_ : Array Value) (s : State) (o : Outcome) (t : State) : Prop := o = .returned (some (.int 1)) ∧ Framed s o t [] 601024 7293034
def lw_Z (below : List Frame) (a : Array Value) (s : State) : State → Prop := fun t => ∃ o, t.status = .running ∧ Ended t below o ∧ lw_Q a s o t
/-- what holds at the law's entry: the machine, the code, the tables' words (any of lw_tbl by 'hts w (by decide +kernel)'), the script of L ints xs at the cell b, what the Statement gives of the start (any of its parts by flat_of_before) -/
def lw_At (p : Program) (s : State) (m : MethodId) (meth : Method) (c : Code) (b L : Nat) (xs : Nat → Int32) : Prop :=
  p.tables.exec = Jvm.exec ∧ c.code = code ∧ meth.sig.returnType = ret ∧ c.maxLocals = 7 ∧ s.vm.findClass R_law = some m.cls ∧ (∀ w ∈ lw_tbl, w.before #[Value.ref b] s = true) ∧ va_X b L xs s s.heap ∧ b < s.heap.size ∧ meth.locks = false ∧ (Jvm.Cond.and given_1 narrow_1).before #[Value.ref b] s = true
theorem wTable_congr (G : mG) {x y : Nat → Nat} (h : ∀ k, k < 114 → x k = y k) : wTable G x = wTable G y := by
  unfold wTable
  rw [wBoard_congr G (x := fun k => x (1 + k)) (y := fun k => y (1 + k)) (fun k hk => h _ (by omega)), wBoard_congr G (x := fun k => x (12 + k)) (y := fun k => y (12 + k)) (fun k hk => h _ (by omega)), wReader_congr G (x := fun k => x (23 + k)) (y := fun k => y (23 + k)) (fun k hk => h _ (by omega)), wPlanner_congr G (x := fun k => x (26 + k)) (y := fun k => y (26 + k)) (fun k hk => h _ (by omega)), wJudge_congr G (x := fun k => x (87 + k)) (y := fun k => y (87 + k)) (fun k hk => h _ (by omega)), wLog_congr G (x := fun k => x (90 + k)) (y := fun k => y (90 + k)) (fun k hk => h _ (by omega)), wLog_congr G (x := fun k => x (96 + k)) (y := fun k => y (96 + k)) (fun k hk => h _ (by omega)), wCourt_congr G (x := fun k => x (102 + k)) (y := fun k => y (102 + k)) (fun k hk => h _ (by omega)), wCourt_congr G (x := fun k => x (108 + k)) (y := fun k => y (108 + k)) (fun k hk => h _ (by omega))]
  rw [h 0 (by omega), h 1 (by omega), h 12 (by omega), h 23 (by omega), h 26 (by omega), h 87 (by omega), h 90 (by omega), h 96 (by omega), h 102 (by omega), h 108 (by omega)]
theorem wModel_congr (G : mG) {x y : Nat → Nat} (h : ∀ k, k < 27 → x k = y k) : wModel G x = wModel G y := by
  unfold wModel
  rw [h 0 (by omega), h 1 (by omega), h 2 (by omega), h 3 (by omega), h 4 (by omega), h 5 (by omega), h 6 (by omega), h 7 (by omega), h 8 (by omega), h 9 (by omega), h 10 (by omega), h 11 (by omega), h 12 (by omega), h 13 (by omega), h 14 (by omega), h 15 (by omega), h 16 (by omega), h 17 (by omega), h 18 (by omega), h 19 (by omega), h 20 (by omega), h 21 (by omega), h 22 (by omega), h 23 (by omega), h 24 (by omega), h 25 (by omega), h 26 (by omega)]
theorem frm_forget {s t : State} {o : Outcome} {L : List Loc} {k n : Nat} (h : FrameEnd s o t L k n) (hL : ∀ q ∈ L, s.heap.size ≤ q.base) : Framed s o t [] k n := by
  obtain ⟨h1, h2, e1, e2, e3, e4, e5, e6⟩ := h
  refine ⟨h1, h2, e1, e2, e3, e4, e5, fun a c hc => ?_⟩
  obtain ⟨c', f1, f2, f3, f4⟩ := e6 a c hc
  refine ⟨c', f1, f2, f3, fun i _ => f4 i (fun z => ?_)⟩
  have h1 := hL _ z
  have h2 : a < s.heap.size := (Array.getElem?_eq_some_iff.mp hc).1
  exact absurd h2 (Nat.not_lt.mpr h1)
theorem ld_0 : decode code 0 = .ok (.new 8, 3) := by decide +kernel
theorem ld_3 : decode code 3 = .ok (.dup, 1) := by decide +kernel
theorem ld_4 : decode code 4 = .ok (.invokespecial 82, 3) := by decide +kernel
theorem ld_7 : decode code 7 = .ok (.astore_n 1, 1) := by decide +kernel
theorem ld_8 : decode code 8 = .ok (.new 83, 3) := by decide +kernel
theorem ld_11 : decode code 11 = .ok (.dup, 1) := by decide +kernel
theorem ld_12 : decode code 12 = .ok (.invokespecial 85, 3) := by decide +kernel
theorem ld_15 : decode code 15 = .ok (.astore_n 2, 1) := by decide +kernel
theorem ld_16 : decode code 16 = .ok (.iconst 1, 1) := by decide +kernel
theorem ld_17 : decode code 17 = .ok (.newarray .long, 2) := by decide +kernel
theorem ld_19 : decode code 19 = .ok (.astore_n 3, 1) := by decide +kernel
theorem ld_20 : decode code 20 = .ok (.iconst 0, 1) := by decide +kernel
theorem ld_21 : decode code 21 = .ok (.istore 4, 2) := by decide +kernel
/-- from the loop's head on: what the small machine runs -/
theorem law_from {p : Program} {l : Launch} {e : Env} {s : State} {m : MethodId} {below : List Frame} {meth : Method} {c : Code} {b L : Nat} {xs : Nat → Int32} {H : Heap} {locs : List Loc} {ls : Array Slot} {G : mG} (hst : l.stackTraces = false) (hL : L ≤ 3072) (C0 : lw_At p s m meth c b L xs) (htab : c.exceptionTable.toList = []) (hSt : mSt G s s.heap) (hZ : gZ G = s.heap.size) (gL' : gL G = L) (gX' : gX G = xs) (hP : va_P (gD G) vwCl (wAll G) H) (hD : va_D (mA G) (wAll G)) (hS : va_S (mA G) s.heap H locs)
    (hl : lv_has ls 7 [(0, .ref (gA G 142)), (1, .ref (gA G 0)), (2, .ref (gA G 114)), (3, .ref (gA G 141)), (4, .int (zI (6 * ((0 : Nat) : Int))))]) {cells slots : Nat} (hc : cells ≤ 600000) (hs : slots ≤ 7000000) : W p l e room_1 s m #[Value.ref b] below meth c H locs cells slots (lw_Z below #[Value.ref b] s) (F0 m 23 ls []) := by
  obtain ⟨hx, hb, hr, hml, hown, hts, hX, hbl, hlocks, hgv⟩ := C0
  obtain ⟨h', r, x⟩ := law_loop (d := 0) (N := L) hL 512 0 (h00 L xs) (Iv_00 L xs) rfl (by omega) (by omega)
  have C : mCx G l p s m #[Value.ref b] meth c 209 := ⟨hx, hb, hml, hr, hown, fun w hw => hts w (mBIG_sub w hw), hlocks, htab, hst, hSt, Nat.le_of_eq hZ⟩
  have Wl : mWl G (h00 L xs) H := ⟨wAll_P hP, wAll_D hD, by rw [gL']; exact fun j _ => by rw [gX']; rfl, by rw [gL']; rfl, fun j _ => rfl⟩
  have k := (mRuns_sound (G := G) (l := l) r).2 p e room_1 s m #[Value.ref b] below meth c H locs cells slots 601024 7293034 ls C ⟨rfl, hl⟩ Wl hS ⟨by show 32 ≤ 2048; omega, by show 100 * 22 + 300 ≤ 84000; omega, Nat.le_refl _, Nat.le_refl _, by show cells + h'.2.2.2 ≤ 601024 + 0; omega, by show slots + 6 * h'.2.2.2 ≤ 7293034 + 6 * 0; omega⟩
  intro T hT X
  obtain ⟨t, a1, o, b1, b2, b3⟩ := k T hT X
  rcases b3 with ⟨⟨v, h9, e9, o9, -, -⟩, L9, hFE, hL9⟩ | ⟨q, rfl, E, ce, L, ⟨k9, h9, e9, -⟩, -⟩
  · have e9 : (some (.int (zI 1)), h') = (v, h9) := Sum.inl.inj e9
    have ev : v = some (.int (zI 1)) := (congrArg Prod.fst e9).symm
    rw [ev] at o9
    refine ⟨t, a1, o, b1, b2, o9, frm_forget hFE (fun q hq => ?_)⟩
    have := hL9 q hq
    have : gZ G ≤ q.base := this
    rw [hZ] at this
    exact this
  · cases e9
set_option maxHeartbeats 4000000 in
set_option maxRecDepth 100000 in
theorem whole_start2 {p : Program} {e : Env} {s : State} {m : MethodId} {below : List Frame} {meth : Method} {c : Code} (l : Launch) (hst : l.stackTraces = false) {b L : Nat} {xs : Nat → Int32} (hL : L ≤ 3072) (C0 : lw_At p s m meth c b L xs) (htab : c.exceptionTable.toList = []) : W p l e room_1 s m #[Value.ref b] below meth c s.heap [] 0 0 (lw_Z below #[Value.ref b] s) (entryFrame m ([Value.ref b] : List Value).toArray 7) := by
  obtain ⟨hx, hb, hr, hml, hown, hts, hX, hbl, hlocks, hgv⟩ := id C0
  have htB : ∀ w ∈ mBIG, w.before #[Value.ref b] s = true := fun w hw => hts w (mBIG_sub w hw)
  obtain ⟨D, cs, tn, f, hM⟩ := mSt_start hts hgv hX hbl
  obtain ⟨ga, ga1, ga2, ga3⟩ : ∃ ga : Nat → Nat, ga 142 = b ∧ ga 143 = tn ∧ ∀ i, i < 14 → ga (144 + i) = (f i).1 := by
    refine ⟨fun k => bif Nat.beq k 142 then b else bif Nat.beq k 143 then tn else (f (k - 144)).1, rfl, rfl, fun i hi => ?_⟩
    have n1 : Nat.beq (144 + i) 142 = false := by
      cases e : Nat.beq (144 + i) 142 with
      | true => exact absurd (Nat.eq_of_beq_eq_true e) (by omega)
      | false => rfl
    have n2 : Nat.beq (144 + i) 143 = false := by
      cases e : Nat.beq (144 + i) 143 with
      | true => exact absurd (Nat.eq_of_beq_eq_true e) (by omega)
      | false => rfl
    show (bif Nat.beq (144 + i) 142 then b else bif Nat.beq (144 + i) 143 then tn else (f (144 + i - 144)).1) = _
    rw [n1, n2, Nat.add_sub_cancel_left]
    rfl
  have hK := (hM ga ⟨ga1, ga2, ga3⟩).2
  obtain ⟨G, hG⟩ : ∃ G : mG, G = (D, cs, ga, s.heap.size, L, xs, fun i => (f i).2) := ⟨_, rfl⟩
  rw [← hG] at hK
  have hA : ∀ q : Nat, s.heap.size ≤ q → (fun q : Nat => s.heap.size ≤ q) q := fun _ h => h
  have hB : bI G (fun q : Nat => s.heap.size ≤ q) [] s.heap s.heap [] := ⟨fun k q h => by simp at h, ⟨fun i j p q h => by simp at h, fun k q h => by simp at h⟩, va_S.rf⟩
  have hl := lv_entry ([.ref b]) (n := 7) (Nat.le_of_ble_eq_true rfl)
  rw [lg_entry_eq]
  generalize (lg_sl ([.ref b]) ++ List.replicate (7 - (lg_sl ([.ref b])).length) Slot.unset).toArray = ls at hl ⊢
  have hl : lv_has ls 7 [(0, .ref b)] := hl
  refine bNew (ci := 7) (by decide) tyX7 tyX7_ok hx hb htB hown (mWrd_big (w := 23) rfl rfl) (mWrd_big (w := 24) rfl rfl) (mWrd_big (w := 1) rfl rfl) hK hB hA (by decide +kernel) (by decide +kernel) ld_0 (fun z1 H1 hB => ?_)
  refine lv_dup hx hb ld_3 rfl ?_
  refine cCall (ws := []) (ci := 7) cF_Table (mWrd_big (w := 25) rfl rfl) hx hb (by rw [hml]; exact hl.1.symm) hown htB hK hB hA (c_Table G l) (Nat.le_of_ble_eq_true rfl) ⟨by decide +kernel, by decide +kernel⟩ ⟨by decide +kernel, by decide +kernel⟩ ld_4 (fun adT H2 locs2 e9 hB2 => ?_)
  subst e9
  refine lv_astore_n (lv' := [(1, .ref (adT 0)), (0, .ref b)]) hx hb ld_7 rfl hl (by decide) rfl (fun ls hl => ?_)
  refine bNew (ci := 8) (by decide) tyX8 tyX8_ok hx hb htB hown (mWrd_big (w := 1089) rfl rfl) (mWrd_big (w := 1090) rfl rfl) (mWrd_big (w := 10) rfl rfl) hK hB2 hA (by decide +kernel) (by decide +kernel) ld_8 (fun z2 H3 hB3 => ?_)
  refine lv_dup hx hb ld_11 rfl ?_
  refine cCall (ws := [] ++ wTable G adT) (ci := 8) cF_Model (mWrd_big (w := 1091) rfl rfl) hx hb (by rw [hml]; exact hl.1.symm) hown htB hK hB3 hA (c_Model G l) (Nat.le_of_ble_eq_true rfl) ⟨by decide +kernel, by decide +kernel⟩ ⟨by decide +kernel, by decide +kernel⟩ ld_12 (fun adM H4 locs4 e9 hB4 => ?_)
  subst e9
  refine lv_astore_n (lv' := [(2, .ref (adM 0)), (1, .ref (adT 0)), (0, .ref b)]) hx hb ld_15 rfl hl (by decide) rfl (fun ls hl => ?_)
  refine lv_iconst (v := 1) hx hb ld_16 (by decide) ?_
  refine bArrJ (N := 1) hx hb htB hK hB4 hA (by decide) (by decide) (Nat.le_of_ble_eq_true rfl) (by decide +kernel) (by decide +kernel) ld_17 (fun z3 H5 hB5 => ?_)
  refine lv_astore_n (lv' := [(3, .ref z3), (2, .ref (adM 0)), (1, .ref (adT 0)), (0, .ref b)]) hx hb ld_19 rfl hl (by decide) rfl (fun ls hl => ?_)
  refine lv_iconst (v := 0) hx hb ld_20 (by decide) ?_
  refine lv_istore (lv' := [(4, .int 0), (3, .ref z3), (2, .ref (adM 0)), (1, .ref (adT 0)), (0, .ref b)]) hx hb ld_21 hl (by decide) rfl (fun ls hl => ?_)
  obtain ⟨gf, g0, g1, g2, g3⟩ : ∃ gf : Nat → Nat, (∀ k, k < 114 → gf k = adT k) ∧ (∀ k, k < 27 → gf (114 + k) = adM k) ∧ gf 141 = z3 ∧ ∀ k, 141 < k → gf k = ga k := by
    refine ⟨fun k => if k < 114 then adT k else if k < 141 then adM (k - 114) else if k = 141 then z3 else ga k, fun k hk => if_pos hk, fun k hk => ?_, ?_, fun k hk => ?_⟩
    · show (if 114 + k < 114 then _ else if 114 + k < 141 then adM (114 + k - 114) else _) = _
      rw [if_neg (by omega), if_pos (by omega), Nat.add_sub_cancel_left]
    · show (if 141 < 114 then _ else if 141 < 141 then _ else if 141 = 141 then z3 else _) = _
      rw [if_neg (by omega), if_neg (by omega), if_pos rfl]
    · show (if k < 114 then _ else if k < 141 then _ else if k = 141 then z3 else ga k) = _
      rw [if_neg (by omega), if_neg (by omega), if_neg (by omega)]
  have hSt := (hM gf ⟨by rw [g3 142 (by omega)]; exact ga1, by rw [g3 143 (by omega)]; exact ga2, fun i hi => by rw [g3 (144 + i) (by omega)]; exact ga3 i hi⟩).1
  obtain ⟨G2, hG2⟩ : ∃ G2 : mG, G2 = (D, cs, gf, s.heap.size, L, xs, fun i => (f i).2) := ⟨_, rfl⟩
  rw [← hG2] at hSt
  have eW : wAll G2 = [] ++ wTable G adT ++ wModel G adM ++ [(z3, .inl (gJ G, 1, .inr (.inl (fun _ => 0))))] := by
    unfold wAll
    rw [wTable_congr G2 (x := gA G2) (y := adT) (fun k hk => by rw [hG2]; exact g0 k hk), wModel_congr G2 (x := fun k => gA G2 (114 + k)) (y := adM) (fun k hk => by rw [hG2]; exact g1 k hk), show gA G2 141 = z3 by rw [hG2]; exact g2, hG2, hG]
    rfl
  have eD : gD G2 = gD G := by rw [hG2, hG]
  have eA : mA G2 = fun q : Nat => s.heap.size ≤ q := by rw [hG2]; rfl
  refine law_from (G := G2) hst hL C0 htab hSt (by rw [hG2]) (by rw [hG2]) (by rw [hG2]) (by rw [eD, eW]; exact hB5.1) (by rw [eA, eW]; exact hB5.2.1) (by rw [eA]; exact hB5.2.2) ?_ (by decide +kernel) (by decide +kernel)
  rw [show gA G2 142 = b by rw [hG2]; show gf 142 = b; rw [g3 142 (by omega)]; exact ga1, show gA G2 0 = adT 0 by rw [hG2]; exact g0 0 (by omega), show gA G2 114 = adM 0 by rw [hG2]; exact g1 0 (by omega), show gA G2 141 = z3 by rw [hG2]; exact g2]
  exact lv_sub hl [4, 3, 2, 1, 0] rfl

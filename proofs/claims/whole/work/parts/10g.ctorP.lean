/-! CONSTRUCTORS, part 7: the planner (by program, wip/gen/gen_planner.py) -/
theorem cD_Planner_0 : decode prog_7_method_1_code 0 = .ok (.aload_n 0, 1) := by decide +kernel
theorem cD_Planner_1 : decode prog_7_method_1_code 1 = .ok (.invokespecial 3, 3) := by decide +kernel
theorem cD_Planner_4 : decode prog_7_method_1_code 4 = .ok (.aload_n 0, 1) := by decide +kernel
theorem cD_Planner_5 : decode prog_7_method_1_code 5 = .ok (.bipush 18, 2) := by decide +kernel
theorem cD_Planner_7 : decode prog_7_method_1_code 7 = .ok (.anewarray 9, 3) := by decide +kernel
theorem cD_Planner_10 : decode prog_7_method_1_code 10 = .ok (.putfield 11, 3) := by decide +kernel
theorem cD_Planner_13 : decode prog_7_method_1_code 13 = .ok (.aload_n 0, 1) := by decide +kernel
theorem cD_Planner_14 : decode prog_7_method_1_code 14 = .ok (.bipush 32, 2) := by decide +kernel
theorem cD_Planner_16 : decode prog_7_method_1_code 16 = .ok (.newarray .int, 2) := by decide +kernel
theorem cD_Planner_18 : decode prog_7_method_1_code 18 = .ok (.putfield 17, 3) := by decide +kernel
theorem cD_Planner_21 : decode prog_7_method_1_code 21 = .ok (.aload_n 0, 1) := by decide +kernel
theorem cD_Planner_22 : decode prog_7_method_1_code 22 = .ok (.bipush 32, 2) := by decide +kernel
theorem cD_Planner_24 : decode prog_7_method_1_code 24 = .ok (.newarray .int, 2) := by decide +kernel
theorem cD_Planner_26 : decode prog_7_method_1_code 26 = .ok (.putfield 21, 3) := by decide +kernel
theorem cD_Planner_29 : decode prog_7_method_1_code 29 = .ok (.aload_n 0, 1) := by decide +kernel
theorem cD_Planner_30 : decode prog_7_method_1_code 30 = .ok (.iconst 5, 1) := by decide +kernel
theorem cD_Planner_31 : decode prog_7_method_1_code 31 = .ok (.newarray .int, 2) := by decide +kernel
theorem cD_Planner_33 : decode prog_7_method_1_code 33 = .ok (.putfield 24, 3) := by decide +kernel
theorem cD_Planner_36 : decode prog_7_method_1_code 36 = .ok (.aload_n 0, 1) := by decide +kernel
theorem cD_Planner_37 : decode prog_7_method_1_code 37 = .ok (.bipush 6, 2) := by decide +kernel
theorem cD_Planner_39 : decode prog_7_method_1_code 39 = .ok (.newarray .int, 2) := by decide +kernel
theorem cD_Planner_41 : decode prog_7_method_1_code 41 = .ok (.putfield 27, 3) := by decide +kernel
theorem cD_Planner_44 : decode prog_7_method_1_code 44 = .ok (.aload_n 0, 1) := by decide +kernel
theorem cD_Planner_45 : decode prog_7_method_1_code 45 = .ok (.sipush 4424, 3) := by decide +kernel
theorem cD_Planner_48 : decode prog_7_method_1_code 48 = .ok (.newarray .int, 2) := by decide +kernel
theorem cD_Planner_50 : decode prog_7_method_1_code 50 = .ok (.putfield 30, 3) := by decide +kernel
theorem cD_Planner_53 : decode prog_7_method_1_code 53 = .ok (.iconst 0, 1) := by decide +kernel
theorem cD_Planner_54 : decode prog_7_method_1_code 54 = .ok (.istore_n 1, 1) := by decide +kernel
theorem cD_Planner_55 : decode prog_7_method_1_code 55 = .ok (.iload_n 1, 1) := by decide +kernel
theorem cD_Planner_56 : decode prog_7_method_1_code 56 = .ok (.aload_n 0, 1) := by decide +kernel
theorem cD_Planner_57 : decode prog_7_method_1_code 57 = .ok (.getfield 11, 3) := by decide +kernel
theorem cD_Planner_60 : decode prog_7_method_1_code 60 = .ok (.arraylength, 1) := by decide +kernel
theorem cD_Planner_61 : decode prog_7_method_1_code 61 = .ok (.if_icmp .ge 22, 3) := by decide +kernel
theorem cD_Planner_64 : decode prog_7_method_1_code 64 = .ok (.aload_n 0, 1) := by decide +kernel
theorem cD_Planner_65 : decode prog_7_method_1_code 65 = .ok (.getfield 11, 3) := by decide +kernel
theorem cD_Planner_68 : decode prog_7_method_1_code 68 = .ok (.iload_n 1, 1) := by decide +kernel
theorem cD_Planner_69 : decode prog_7_method_1_code 69 = .ok (.new 9, 3) := by decide +kernel
theorem cD_Planner_72 : decode prog_7_method_1_code 72 = .ok (.dup, 1) := by decide +kernel
theorem cD_Planner_73 : decode prog_7_method_1_code 73 = .ok (.invokespecial 33, 3) := by decide +kernel
theorem cD_Planner_76 : decode prog_7_method_1_code 76 = .ok (.aastore, 1) := by decide +kernel
theorem cD_Planner_77 : decode prog_7_method_1_code 77 = .ok (.iinc 1 1, 3) := by decide +kernel
theorem cD_Planner_80 : decode prog_7_method_1_code 80 = .ok (.goto (-25), 3) := by decide +kernel
theorem cD_Planner_83 : decode prog_7_method_1_code 83 = .ok (.return_, 1) := by decide +kernel
def pF (ads : List (Nat → Nat)) : Nat → Option Nat := fun j => (ads[j]?).map (fun x => x 0)
def pH (G : mG) (a z1 z2 z3 z4 z5 z6 : Nat) (ads : List (Nat → Nat)) : va_W := [(a, .inr (5, [.ref (z1), .null, .ref (z2), .ref (z3), .int 0, .ref (z4), .ref (z5), .ref (z6), .int 0])), (z1, .inl (gO G, 18, .inr (.inr (.inr (.inr (pF ads)))))), (z2, .inl (gI G, 32, .inl (fun _ => 0))), (z3, .inl (gI G, 32, .inl (fun _ => 0))), (z4, .inl (gI G, 5, .inl (fun _ => 0))), (z5, .inl (gI G, 6, .inl (fun _ => 0))), (z6, .inl (gI G, 4424, .inl (fun _ => 0)))]
def pW (G : mG) (a z1 z2 z3 z4 z5 z6 : Nat) (ads : List (Nat → Nat)) : va_W := pH G a z1 z2 z3 z4 z5 z6 ads ++ ads.flatMap (wPlan G)
theorem pF_up (ads : List (Nat → Nat)) (ad : Nat → Nat) : va_up (pF ads) ads.length (some (ad 0)) = pF (ads ++ [ad]) := by
  funext j
  unfold va_up pF
  by_cases h : j = ads.length
  · subst h; simp
  · by_cases h2 : j < ads.length
    · simp [h, List.getElem?_append_left h2]
    · have h3 : ads.length + 1 ≤ j := by omega
      simp [h, List.getElem?_eq_none_iff.mpr (show (ads ++ [ad]).length ≤ j by simp; exact h3), List.getElem?_eq_none_iff.mpr (show ads.length ≤ j by omega)]
-- made: cells 6 + 3 * 18, slots 4517 + 18 * 18
def wPlanner (G : mG) (ad : Nat → Nat) : va_W := pW G (ad 0) (ad 1) (ad 2) (ad 3) (ad 4) (ad 5) (ad 6) ((List.range 18).map fun j => fun k => ad (7 + 3 * j + k))
theorem wPlan_congr (G : mG) {x y : Nat → Nat} (h : ∀ i, i < 3 → x i = y i) : wPlan G x = wPlan G y := by
  unfold wPlan
  rw [h 0 (by decide), h 1 (by decide), h 2 (by decide)]
def pA (hs : List Nat) (ads : List (Nat → Nat)) : Nat → Nat := fun k => if k < 7 then hs.getD k 0 else (ads.getD ((k - 7) / 3) (fun _ => 0)) ((k - 7) % 3)
theorem pA_at {hs : List Nat} {ads : List (Nat → Nat)} {j i : Nat} (hi : i < 3) (hj : j < ads.length) : pA hs ads (7 + 3 * j + i) = ads[j] i := by
  unfold pA
  rw [if_neg (by omega), show 7 + 3 * j + i - 7 = 3 * j + i by omega, show (3 * j + i) / 3 = j by omega, show (3 * j + i) % 3 = i by omega]
  simp [List.getD_eq_getElem?_getD, hj]
theorem pW_fin (G : mG) (a z1 z2 z3 z4 z5 z6 : Nat) (ads : List (Nat → Nat)) (h : ads.length = 18) : wPlanner G (pA [a, z1, z2, z3, z4, z5, z6] ads) = pW G a z1 z2 z3 z4 z5 z6 ads := by
  have e1 : pF ((List.range 18).map fun j => fun k => pA [a, z1, z2, z3, z4, z5, z6] ads (7 + 3 * j + k)) = pF ads := by
    funext j
    unfold pF
    by_cases hj : j < 18
    · rw [List.getElem?_map, List.getElem?_range hj, List.getElem?_eq_getElem (by omega)]
      show some (pA _ ads (7 + 3 * j + 0)) = some _
      rw [pA_at (by decide) (by omega)]
    · rw [List.getElem?_eq_none_iff.mpr (by simp; omega), List.getElem?_eq_none_iff.mpr (by omega)]
  have e2 : ((List.range 18).map fun j => fun k => pA [a, z1, z2, z3, z4, z5, z6] ads (7 + 3 * j + k)).flatMap (wPlan G) = ads.flatMap (wPlan G) := by
    rw [List.flatMap_def, List.flatMap_def]
    congr 1
    apply List.ext_getElem
    · simp [h]
    · intro j h1 h2
      simp only [List.getElem_map, List.getElem_range]
      refine wPlan_congr G (fun i hi => pA_at hi ?_)
      simp at h2; exact h2
  unfold wPlanner pW pH
  rw [e1, e2]
  rfl
theorem cF_Planner : cFacts RX5 prog_7_method_1_code 2 := ⟨(mWrd_big (w := 177) rfl rfl), (mWrd_big (w := 4) rfl rfl), by decide +kernel, ⟨by decide, by decide⟩, by decide, (mWrd_big (w := 176) rfl rfl)⟩
set_option maxHeartbeats 4000000 in
set_option maxRecDepth 100000 in
theorem pLoop {G : mG} {l : Launch} {p : Program} {e : Env} {s : State} {mid : MethodId} {args : Array Value} {below : List Frame} {meth : Method} {cd : Code} {A : Nat → Prop} {a z1 z2 z3 z4 z5 z6 : Nat} (hAe : A = cA a s.heap.size) (hx : p.tables.exec = Jvm.exec) (hb : cd.code = prog_7_method_1_code) (hml : cd.maxLocals = 2) (hr : meth.sig.returnType = none) (hown : s.vm.findClass RX5 = some mid.cls) (hts : ∀ w ∈ mBIG, w.before args s = true) (hlocks : meth.locks = false) (hK : bK G s) (hA : ∀ q, s.heap.size ≤ q → A q) :
    ∀ (j : Nat) (ads : List (Nat → Nat)), ads.length + j = 18 → ∀ (H : Heap) (locs : List Loc) (ls : Array Slot), lv_has ls 2 [(1, .int (nI ads.length)), (0, .ref a)] → bI G A (pW G a z1 z2 z3 z4 z5 z6 ads) s.heap H locs →
    W p l e (cRo 2 60 4841) s mid args below meth cd H locs (6 + 3 * ads.length) (4517 + 18 * ads.length) (MQ below (cQ G a s.heap.size (wPlanner G)) args s 60 4841 A) (F0 mid 55 ls []) := by
  intro j
  induction j with
  | zero =>
    intro ads hk H locs ls hl hB
    have hk : ads.length = 18 := by omega
    rw [hk] at hl ⊢
    refine lv_iload_n hx hb cD_Planner_55 rfl (lv_at hl 0 rfl) ?_
    refine lv_aload_n hx hb cD_Planner_56 rfl (lv_at hl 1 rfl) ?_
    refine bGet (ci := 5) (k := 0) (q0 := 0) (by decide) (by decide) hx hb hts hown (mWrd_big (w := 214) rfl rfl) hK hB rfl rfl cD_Planner_57 ?_
    refine va_alen (v := 18) hx hb hK.1 hB.1 1 3 rfl rfl rfl cD_Planner_60 ?_
    refine lv_icmp_ge (tgt := 83) hx hb cD_Planner_61 rfl (fun _ => ?_) (fun h9 => absurd (by decide) h9)
    exact W.vret hx hb hr (fun t ht _ => ⟨rfl, ⟨pA [a, z1, z2, z3, z4, z5, z6] ads, rfl, by rw [pW_fin G a z1 z2 z3 z4 z5 z6 ads hk, ht]; exact hB.1, by rw [pW_fin G a z1 z2 z3 z4 z5 z6 ads hk, ← hAe]; exact hB.2.1⟩, by rw [← hAe]; exact hB.2.2.F ht⟩) hB.2.2.2.2 cD_Planner_83
  | succ j ih =>
    intro ads hk H locs ls hl hB
    have hk5 : ads.length < 18 := by omega
    have e1 : (nI ads.length).toInt = (ads.length : Int) := nI_toInt (by omega)
    refine lv_iload_n hx hb cD_Planner_55 rfl (lv_at hl 0 rfl) ?_
    refine lv_aload_n hx hb cD_Planner_56 rfl (lv_at hl 1 rfl) ?_
    refine bGet (ci := 5) (k := 0) (q0 := 0) (by decide) (by decide) hx hb hts hown (mWrd_big (w := 214) rfl rfl) hK hB rfl rfl cD_Planner_57 ?_
    refine va_alen (v := 18) hx hb hK.1 hB.1 1 3 rfl rfl rfl cD_Planner_60 ?_
    refine lv_icmp_ge (tgt := 83) hx hb cD_Planner_61 rfl (fun h9 => ?_) (fun _ => ?_)
    · have h8 := Int32.le_iff_toInt_le.mp h9
      rw [e1] at h8
      have : (18 : Int32).toInt = 18 := by decide
      omega
    refine lv_aload_n hx hb cD_Planner_64 rfl (lv_at hl 1 rfl) ?_
    refine bGet (ci := 5) (k := 0) (q0 := 0) (by decide) (by decide) hx hb hts hown (mWrd_big (w := 214) rfl rfl) hK hB rfl rfl cD_Planner_65 ?_
    refine lv_iload_n hx hb cD_Planner_68 rfl (lv_at hl 0 rfl) ?_
    have hc1 : 6 + 3 * ads.length + 1 ≤ (cRo 2 60 4841).cells := by show _ ≤ 60; omega
    have hs1 : 4517 + 18 * ads.length + mNf 4 ≤ (cRo 2 60 4841).slots := by show _ + 6 ≤ 4841; omega
    refine bNew (ci := 4) (by decide) tyX4 tyX4_ok hx hb hts hown (mWrd_big (w := 179) rfl rfl) (mWrd_big (w := 181) rfl rfl) (mWrd_big (w := 5) rfl rfl) hK hB hA hc1 hs1 cD_Planner_69 (fun z H1 hB => ?_)
    refine lv_dup hx hb cD_Planner_72 rfl ?_
    have hc2 : 6 + 3 * ads.length + 1 + 2 ≤ (cRo 2 60 4841).cells := by show _ ≤ 60; omega
    have hs2 : 4517 + 18 * ads.length + mNf 4 + 12 ≤ (cRo 2 60 4841).slots := by show _ + 6 + 12 ≤ 4841; omega
    refine cCallN (ci := 4) cF_Plan (by simp [bNst, RX5, RX7, RX0, RX1, RX2, RX4, RX6]) hx hb (by rw [hml]; exact hl.1.symm) hown hts hK hB hA (c_Plan G l) (Nat.le_of_ble_eq_true rfl) ⟨Nat.le_of_ble_eq_true rfl, Nat.le_of_ble_eq_true rfl⟩ ⟨hc2, hs2⟩ cD_Planner_73 (fun ad H2 locs2 e9 hB2 => ?_)
    subst e9
    have hv : ∃ vs, (pW G a z1 z2 z3 z4 z5 z6 ads ++ wPlan G ad)[(pW G a z1 z2 z3 z4 z5 z6 ads).length]? = some (ad 0, .inr (4, vs)) := by
      rw [List.getElem?_append_right (Nat.le_refl _), Nat.sub_self]
      exact ⟨_, rfl⟩
    obtain ⟨vs, hv⟩ := hv
    have hin : vp_in (nI ads.length) 18 := vp_in_nI (by omega) (by omega)
    have htc : (nI ads.length).toNatClampNeg = ads.length := by
      have : (nI ads.length).toNatClampNeg = (nI ads.length).toInt.toNat := rfl
      rw [this, e1]; rfl
    refine va_astq (r := (RX4, TX4, 6)) (cA := gO G) (n := 18) (f := pF ads) hx hb hK.1 hB2.1 hB2.2.1 hB2.2.2 1 3 _ 4 rfl rfl hv rfl hin cD_Planner_76 (fun H3 locs3 hP3 hD3 hS3 => ?_)
    rw [htc, pF_up] at hP3 hD3
    have ew : ∀ x, (pW G a z1 z2 z3 z4 z5 z6 ads ++ wPlan G ad).set 1 x = (pH G a z1 z2 z3 z4 z5 z6 ads).set 1 x ++ (ads ++ [ad]).flatMap (wPlan G) := fun x => by
      rw [List.flatMap_append]
      simp [pW, pH]
    rw [ew] at hP3 hD3
    refine lv_iinc (v := nI (ads.length + 1)) hx hb cD_Planner_77 hl (k := 0) rfl (nI_1 _) (by decide) rfl (fun ls hl => ?_)
    refine lv_goto (tgt := 55) hx hb cD_Planner_80 rfl ?_
    have hl : lv_has ls 2 [(1, .int (nI (ads.length + 1))), (0, .ref a)] := hl
    have el : (ads ++ [ad]).length = ads.length + 1 := by simp
    refine W.widen (k := 6 + 3 * (ads ++ [ad]).length) (n := 4517 + 18 * (ads ++ [ad]).length) (by rw [el]; omega) (by rw [el]; show _ + 6 + 12 ≤ _; omega) ?_
    exact ih (ads ++ [ad]) (by rw [el]; omega) H3 locs3 ls (by rw [el]; exact hl) ⟨hP3, hD3, hS3⟩

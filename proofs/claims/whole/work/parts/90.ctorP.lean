/-! CONSTRUCTORS, part 8: the planner, whole (by program; rows of wip/gen/gen_planner.py) -/
set_option maxHeartbeats 4000000 in
set_option maxRecDepth 100000 in
theorem c_Planner (G : mG) (l : Launch) : cMet G l RX5 prog_7_method_1_code 2 2 60 4841 5 (bZ tyX5 9) (wPlanner G) := by
  refine cMet_of (by decide +kernel) (fun p e s mid args below meth cd a A hAe C hA hB => ?_)
  obtain ⟨hx, hb, hml, hr, hown, hts, hlocks, hin, hK⟩ := C
  have hB : bI G A [(a, .inr (5, [.null, .null, .null, .null, .int 0, .null, .null, .null, .int 0]))] s.heap s.heap [] := hB
  have hl := lv_entry [Value.ref a] (n := 2) (Nat.le_of_ble_eq_true rfl)
  generalize (lg_sl [Value.ref a] ++ List.replicate (2 - (lg_sl [Value.ref a]).length) Slot.unset).toArray = ls at hl ⊢
  have hl : lv_has ls 2 [(0, .ref a)] := hl
  refine lv_aload_n hx hb cD_Planner_0 rfl (lv_at hl 0 rfl) ?_
  refine W.objInit hx hb hown (hts _ (mWrd_big (w := 178) rfl rfl)) (hts _ (mWrd_big (w := 29) rfl rfl)) (hts _ (mWrd_big (w := 30) rfl rfl)) rfl (by rw [hml]; exact hl.1) rfl cD_Planner_1 (Nat.le_of_ble_eq_true rfl) (Nat.le_of_ble_eq_true rfl) ?_
  refine W.eq (g2 := F0 mid 4 ls []) rfl ?_
  refine lv_aload_n hx hb cD_Planner_4 rfl (lv_at hl 0 rfl) ?_
  refine lv_bipush (v := 18) hx hb cD_Planner_5 (by decide) ?_
  refine bAnw (N := 18) hx hb hts hown (mWrd_big (w := 179) rfl rfl) hK hB hA (by decide) (by decide) (Nat.le_of_ble_eq_true rfl) (Nat.le_of_ble_eq_true rfl) (by decide +kernel) cD_Planner_7 (fun z1 H1 hB => ?_)
  have hB : bI G A ([(a, .inr (5, [.null, .null, .null, .null, .int 0, .null, .null, .null, .int 0])), (z1, .inl (gO G, 18, .inr (.inr (.inr (.inr (fun _ => none))))))]) s.heap _ _ := hB
  refine bPut (ci := 5) (k := 0) (q0 := 0) (t := (.array (.object "TasterTable$Plan"))) (by decide) (by decide) hx hb hts hown hin rfl (mWrd_big (w := 214) rfl rfl) hK hB rfl (by decide +kernel) rfl rfl (Nat.le_of_ble_eq_true rfl) cD_Planner_10 (fun H1_10 locs hB => ?_)
  have hB : bI G A ([(a, .inr (5, [.ref (z1), .null, .null, .null, .int 0, .null, .null, .null, .int 0])), (z1, .inl (gO G, 18, .inr (.inr (.inr (.inr (fun _ => none))))))]) s.heap _ _ := hB
  refine lv_aload_n hx hb cD_Planner_13 rfl (lv_at hl 0 rfl) ?_
  refine lv_bipush (v := 32) hx hb cD_Planner_14 (by decide) ?_
  refine bArrI (N := 32) hx hb hts hK hB hA (by decide) (by decide) (Nat.le_of_ble_eq_true rfl) (Nat.le_of_ble_eq_true rfl) (by decide +kernel) cD_Planner_16 (fun z2 H2 hB => ?_)
  have hB : bI G A ([(a, .inr (5, [.ref (z1), .null, .null, .null, .int 0, .null, .null, .null, .int 0])), (z1, .inl (gO G, 18, .inr (.inr (.inr (.inr (fun _ => none)))))), (z2, .inl (gI G, 32, .inl (fun _ => 0)))]) s.heap _ _ := hB
  refine bPut (ci := 5) (k := 2) (q0 := 0) (t := (.array .int)) (by decide) (by decide) hx hb hts hown hin rfl (mWrd_big (w := 216) rfl rfl) hK hB rfl (by decide +kernel) rfl rfl (Nat.le_of_ble_eq_true rfl) cD_Planner_18 (fun H2_18 locs hB => ?_)
  have hB : bI G A ([(a, .inr (5, [.ref (z1), .null, .ref (z2), .null, .int 0, .null, .null, .null, .int 0])), (z1, .inl (gO G, 18, .inr (.inr (.inr (.inr (fun _ => none)))))), (z2, .inl (gI G, 32, .inl (fun _ => 0)))]) s.heap _ _ := hB
  refine lv_aload_n hx hb cD_Planner_21 rfl (lv_at hl 0 rfl) ?_
  refine lv_bipush (v := 32) hx hb cD_Planner_22 (by decide) ?_
  refine bArrI (N := 32) hx hb hts hK hB hA (by decide) (by decide) (Nat.le_of_ble_eq_true rfl) (Nat.le_of_ble_eq_true rfl) (by decide +kernel) cD_Planner_24 (fun z3 H3 hB => ?_)
  have hB : bI G A ([(a, .inr (5, [.ref (z1), .null, .ref (z2), .null, .int 0, .null, .null, .null, .int 0])), (z1, .inl (gO G, 18, .inr (.inr (.inr (.inr (fun _ => none)))))), (z2, .inl (gI G, 32, .inl (fun _ => 0))), (z3, .inl (gI G, 32, .inl (fun _ => 0)))]) s.heap _ _ := hB
  refine bPut (ci := 5) (k := 3) (q0 := 0) (t := (.array .int)) (by decide) (by decide) hx hb hts hown hin rfl (mWrd_big (w := 217) rfl rfl) hK hB rfl (by decide +kernel) rfl rfl (Nat.le_of_ble_eq_true rfl) cD_Planner_26 (fun H3_26 locs hB => ?_)
  have hB : bI G A ([(a, .inr (5, [.ref (z1), .null, .ref (z2), .ref (z3), .int 0, .null, .null, .null, .int 0])), (z1, .inl (gO G, 18, .inr (.inr (.inr (.inr (fun _ => none)))))), (z2, .inl (gI G, 32, .inl (fun _ => 0))), (z3, .inl (gI G, 32, .inl (fun _ => 0)))]) s.heap _ _ := hB
  refine lv_aload_n hx hb cD_Planner_29 rfl (lv_at hl 0 rfl) ?_
  refine lv_iconst (v := 5) hx hb cD_Planner_30 (by decide) ?_
  refine bArrI (N := 5) hx hb hts hK hB hA (by decide) (by decide) (Nat.le_of_ble_eq_true rfl) (Nat.le_of_ble_eq_true rfl) (by decide +kernel) cD_Planner_31 (fun z4 H4 hB => ?_)
  have hB : bI G A ([(a, .inr (5, [.ref (z1), .null, .ref (z2), .ref (z3), .int 0, .null, .null, .null, .int 0])), (z1, .inl (gO G, 18, .inr (.inr (.inr (.inr (fun _ => none)))))), (z2, .inl (gI G, 32, .inl (fun _ => 0))), (z3, .inl (gI G, 32, .inl (fun _ => 0))), (z4, .inl (gI G, 5, .inl (fun _ => 0)))]) s.heap _ _ := hB
  refine bPut (ci := 5) (k := 5) (q0 := 0) (t := (.array .int)) (by decide) (by decide) hx hb hts hown hin rfl (mWrd_big (w := 219) rfl rfl) hK hB rfl (by decide +kernel) rfl rfl (Nat.le_of_ble_eq_true rfl) cD_Planner_33 (fun H4_33 locs hB => ?_)
  have hB : bI G A ([(a, .inr (5, [.ref (z1), .null, .ref (z2), .ref (z3), .int 0, .ref (z4), .null, .null, .int 0])), (z1, .inl (gO G, 18, .inr (.inr (.inr (.inr (fun _ => none)))))), (z2, .inl (gI G, 32, .inl (fun _ => 0))), (z3, .inl (gI G, 32, .inl (fun _ => 0))), (z4, .inl (gI G, 5, .inl (fun _ => 0)))]) s.heap _ _ := hB
  refine lv_aload_n hx hb cD_Planner_36 rfl (lv_at hl 0 rfl) ?_
  refine lv_bipush (v := 6) hx hb cD_Planner_37 (by decide) ?_
  refine bArrI (N := 6) hx hb hts hK hB hA (by decide) (by decide) (Nat.le_of_ble_eq_true rfl) (Nat.le_of_ble_eq_true rfl) (by decide +kernel) cD_Planner_39 (fun z5 H5 hB => ?_)
  have hB : bI G A ([(a, .inr (5, [.ref (z1), .null, .ref (z2), .ref (z3), .int 0, .ref (z4), .null, .null, .int 0])), (z1, .inl (gO G, 18, .inr (.inr (.inr (.inr (fun _ => none)))))), (z2, .inl (gI G, 32, .inl (fun _ => 0))), (z3, .inl (gI G, 32, .inl (fun _ => 0))), (z4, .inl (gI G, 5, .inl (fun _ => 0))), (z5, .inl (gI G, 6, .inl (fun _ => 0)))]) s.heap _ _ := hB
  refine bPut (ci := 5) (k := 6) (q0 := 0) (t := (.array .int)) (by decide) (by decide) hx hb hts hown hin rfl (mWrd_big (w := 220) rfl rfl) hK hB rfl (by decide +kernel) rfl rfl (Nat.le_of_ble_eq_true rfl) cD_Planner_41 (fun H5_41 locs hB => ?_)
  have hB : bI G A ([(a, .inr (5, [.ref (z1), .null, .ref (z2), .ref (z3), .int 0, .ref (z4), .ref (z5), .null, .int 0])), (z1, .inl (gO G, 18, .inr (.inr (.inr (.inr (fun _ => none)))))), (z2, .inl (gI G, 32, .inl (fun _ => 0))), (z3, .inl (gI G, 32, .inl (fun _ => 0))), (z4, .inl (gI G, 5, .inl (fun _ => 0))), (z5, .inl (gI G, 6, .inl (fun _ => 0)))]) s.heap _ _ := hB
  refine lv_aload_n hx hb cD_Planner_44 rfl (lv_at hl 0 rfl) ?_
  refine lv_sipush (v := 4424) hx hb cD_Planner_45 (by decide) ?_
  refine bArrI (N := 4424) hx hb hts hK hB hA (by decide) (by decide) (Nat.le_of_ble_eq_true rfl) (Nat.le_of_ble_eq_true rfl) (by decide +kernel) cD_Planner_48 (fun z6 H6 hB => ?_)
  have hB : bI G A ([(a, .inr (5, [.ref (z1), .null, .ref (z2), .ref (z3), .int 0, .ref (z4), .ref (z5), .null, .int 0])), (z1, .inl (gO G, 18, .inr (.inr (.inr (.inr (fun _ => none)))))), (z2, .inl (gI G, 32, .inl (fun _ => 0))), (z3, .inl (gI G, 32, .inl (fun _ => 0))), (z4, .inl (gI G, 5, .inl (fun _ => 0))), (z5, .inl (gI G, 6, .inl (fun _ => 0))), (z6, .inl (gI G, 4424, .inl (fun _ => 0)))]) s.heap _ _ := hB
  refine bPut (ci := 5) (k := 7) (q0 := 0) (t := (.array .int)) (by decide) (by decide) hx hb hts hown hin rfl (mWrd_big (w := 221) rfl rfl) hK hB rfl (by decide +kernel) rfl rfl (Nat.le_of_ble_eq_true rfl) cD_Planner_50 (fun H6_50 locs hB => ?_)
  have hB : bI G A ([(a, .inr (5, [.ref (z1), .null, .ref (z2), .ref (z3), .int 0, .ref (z4), .ref (z5), .ref (z6), .int 0])), (z1, .inl (gO G, 18, .inr (.inr (.inr (.inr (fun _ => none)))))), (z2, .inl (gI G, 32, .inl (fun _ => 0))), (z3, .inl (gI G, 32, .inl (fun _ => 0))), (z4, .inl (gI G, 5, .inl (fun _ => 0))), (z5, .inl (gI G, 6, .inl (fun _ => 0))), (z6, .inl (gI G, 4424, .inl (fun _ => 0)))]) s.heap _ _ := hB
  refine lv_iconst (v := 0) hx hb cD_Planner_53 (by decide) ?_
  refine lv_istore_n (lv' := [(1, .int 0), (0, .ref a)]) hx hb cD_Planner_54 rfl hl (by decide) rfl (fun ls hl => ?_)
  have hB : bI G A (pW G a z1 z2 z3 z4 z5 z6 []) s.heap _ _ := hB
  have hl : lv_has ls 2 [(1, .int (nI ([] : List (Nat → Nat)).length)), (0, .ref a)] := hl
  refine W.widen (k := 6 + 3 * ([] : List (Nat → Nat)).length) (n := 4517 + 18 * ([] : List (Nat → Nat)).length) (Nat.le_of_ble_eq_true rfl) (Nat.le_of_ble_eq_true rfl) ?_
  exact pLoop hAe hx hb hml hr hown hts hlocks hK hA 18 [] rfl _ _ ls hl hB

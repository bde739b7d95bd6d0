/-! CONSTRUCTORS, part 6: the log (by program, wip/gen/gen_ctor.py) -/
theorem cD_Log_0 : decode prog_5_method_1_code 0 = .ok (.aload_n 0, 1) := by decide +kernel
theorem cD_Log_1 : decode prog_5_method_1_code 1 = .ok (.invokespecial 3, 3) := by decide +kernel
theorem cD_Log_4 : decode prog_5_method_1_code 4 = .ok (.aload_n 0, 1) := by decide +kernel
theorem cD_Log_5 : decode prog_5_method_1_code 5 = .ok (.bipush 60, 2) := by decide +kernel
theorem cD_Log_7 : decode prog_5_method_1_code 7 = .ok (.newarray .int, 2) := by decide +kernel
theorem cD_Log_9 : decode prog_5_method_1_code 9 = .ok (.putfield 9, 3) := by decide +kernel
theorem cD_Log_12 : decode prog_5_method_1_code 12 = .ok (.aload_n 0, 1) := by decide +kernel
theorem cD_Log_13 : decode prog_5_method_1_code 13 = .ok (.bipush 60, 2) := by decide +kernel
theorem cD_Log_15 : decode prog_5_method_1_code 15 = .ok (.newarray .int, 2) := by decide +kernel
theorem cD_Log_17 : decode prog_5_method_1_code 17 = .ok (.putfield 15, 3) := by decide +kernel
theorem cD_Log_20 : decode prog_5_method_1_code 20 = .ok (.aload_n 0, 1) := by decide +kernel
theorem cD_Log_21 : decode prog_5_method_1_code 21 = .ok (.bipush 60, 2) := by decide +kernel
theorem cD_Log_23 : decode prog_5_method_1_code 23 = .ok (.newarray .int, 2) := by decide +kernel
theorem cD_Log_25 : decode prog_5_method_1_code 25 = .ok (.putfield 18, 3) := by decide +kernel
theorem cD_Log_28 : decode prog_5_method_1_code 28 = .ok (.aload_n 0, 1) := by decide +kernel
theorem cD_Log_29 : decode prog_5_method_1_code 29 = .ok (.bipush 60, 2) := by decide +kernel
theorem cD_Log_31 : decode prog_5_method_1_code 31 = .ok (.newarray .int, 2) := by decide +kernel
theorem cD_Log_33 : decode prog_5_method_1_code 33 = .ok (.putfield 21, 3) := by decide +kernel
theorem cD_Log_36 : decode prog_5_method_1_code 36 = .ok (.aload_n 0, 1) := by decide +kernel
theorem cD_Log_37 : decode prog_5_method_1_code 37 = .ok (.iconst 5, 1) := by decide +kernel
theorem cD_Log_38 : decode prog_5_method_1_code 38 = .ok (.newarray .int, 2) := by decide +kernel
theorem cD_Log_40 : decode prog_5_method_1_code 40 = .ok (.putfield 24, 3) := by decide +kernel
theorem cD_Log_43 : decode prog_5_method_1_code 43 = .ok (.aload_n 0, 1) := by decide +kernel
theorem cD_Log_44 : decode prog_5_method_1_code 44 = .ok (.getfield 24, 3) := by decide +kernel
theorem cD_Log_47 : decode prog_5_method_1_code 47 = .ok (.iconst (-1), 1) := by decide +kernel
theorem cD_Log_48 : decode prog_5_method_1_code 48 = .ok (.invokestatic 27, 3) := by decide +kernel
theorem cD_Log_51 : decode prog_5_method_1_code 51 = .ok (.return_, 1) := by decide +kernel
def wLog (G : mG) (ad : Nat → Nat) : va_W := [(ad 0, .inr (3, [.int 0, .ref (ad 1), .ref (ad 2), .ref (ad 3), .ref (ad 4), .ref (ad 5)])), (ad 1, .inl (gI G, 60, .inl (fun _ => 0))), (ad 2, .inl (gI G, 60, .inl (fun _ => 0))), (ad 3, .inl (gI G, 60, .inl (fun _ => 0))), (ad 4, .inl (gI G, 60, .inl (fun _ => 0))), (ad 5, .inl (gI G, 5, .inl (fG (fun _ => 0) (-1) 5)))]
theorem cF_Log : cFacts RX3 prog_5_method_1_code 1 := ⟨(mWrd_big (w := 283) rfl rfl), (mWrd_big (w := 7) rfl rfl), by decide +kernel, ⟨by decide, by decide⟩, by decide, (mWrd_big (w := 282) rfl rfl)⟩
set_option maxHeartbeats 4000000 in
set_option maxRecDepth 100000 in
theorem c_Log (G : mG) (l : Launch) : cMet G l RX3 prog_5_method_1_code 1 2 5 245 3 (bZ tyX3 6) (wLog G) := by
  refine cMet_of (by decide +kernel) (fun p e s mid args below meth cd a A hAe C hA hB => ?_)
  obtain ⟨hx, hb, hml, hr, hown, hts, hlocks, hin, hK⟩ := C
  have hB : bI G A [(a, .inr (3, [.int 0, .null, .null, .null, .null, .null]))] s.heap s.heap [] := hB
  have hl := lv_entry [Value.ref a] (n := 1) (Nat.le_of_ble_eq_true rfl)
  generalize (lg_sl [Value.ref a] ++ List.replicate (1 - (lg_sl [Value.ref a]).length) Slot.unset).toArray = ls at hl ⊢
  have hl : lv_has ls 1 [(0, .ref a)] := hl
  refine lv_aload_n hx hb cD_Log_0 rfl (lv_at hl 0 rfl) ?_
  refine W.objInit hx hb hown (hts _ (mWrd_big (w := 284) rfl rfl)) (hts _ (mWrd_big (w := 29) rfl rfl)) (hts _ (mWrd_big (w := 30) rfl rfl)) rfl (by rw [hml]; exact hl.1) rfl cD_Log_1 (Nat.le_of_ble_eq_true rfl) (Nat.le_of_ble_eq_true rfl) ?_
  refine W.eq (g2 := F0 mid 4 ls []) rfl ?_
  refine lv_aload_n hx hb cD_Log_4 rfl (lv_at hl 0 rfl) ?_
  refine lv_bipush (v := 60) hx hb cD_Log_5 (by decide) ?_
  refine bArrI (N := 60) hx hb hts hK hB hA (by decide) (by decide) (Nat.le_of_ble_eq_true rfl) (Nat.le_of_ble_eq_true rfl) (Nat.le_of_ble_eq_true rfl) cD_Log_7 (fun z1 H1 hB => ?_)
  have hB : bI G A ([(a, .inr (3, [.int 0, .null, .null, .null, .null, .null])), (z1, .inl (gI G, 60, .inl (fun _ => 0)))]) s.heap _ _ := hB
  refine bPut (ci := 3) (k := 1) (q0 := 0) (t := (.array .int)) (by decide) (by decide) hx hb hts hown hin rfl (mWrd_big (w := 291) rfl rfl) hK hB rfl (by decide +kernel) rfl rfl (Nat.le_of_ble_eq_true rfl) cD_Log_9 (fun H1_9 locs hB => ?_)
  have hB : bI G A ([(a, .inr (3, [.int 0, .ref (z1), .null, .null, .null, .null])), (z1, .inl (gI G, 60, .inl (fun _ => 0)))]) s.heap _ _ := hB
  refine lv_aload_n hx hb cD_Log_12 rfl (lv_at hl 0 rfl) ?_
  refine lv_bipush (v := 60) hx hb cD_Log_13 (by decide) ?_
  refine bArrI (N := 60) hx hb hts hK hB hA (by decide) (by decide) (Nat.le_of_ble_eq_true rfl) (Nat.le_of_ble_eq_true rfl) (Nat.le_of_ble_eq_true rfl) cD_Log_15 (fun z2 H2 hB => ?_)
  have hB : bI G A ([(a, .inr (3, [.int 0, .ref (z1), .null, .null, .null, .null])), (z1, .inl (gI G, 60, .inl (fun _ => 0))), (z2, .inl (gI G, 60, .inl (fun _ => 0)))]) s.heap _ _ := hB
  refine bPut (ci := 3) (k := 2) (q0 := 0) (t := (.array .int)) (by decide) (by decide) hx hb hts hown hin rfl (mWrd_big (w := 293) rfl rfl) hK hB rfl (by decide +kernel) rfl rfl (Nat.le_of_ble_eq_true rfl) cD_Log_17 (fun H2_17 locs hB => ?_)
  have hB : bI G A ([(a, .inr (3, [.int 0, .ref (z1), .ref (z2), .null, .null, .null])), (z1, .inl (gI G, 60, .inl (fun _ => 0))), (z2, .inl (gI G, 60, .inl (fun _ => 0)))]) s.heap _ _ := hB
  refine lv_aload_n hx hb cD_Log_20 rfl (lv_at hl 0 rfl) ?_
  refine lv_bipush (v := 60) hx hb cD_Log_21 (by decide) ?_
  refine bArrI (N := 60) hx hb hts hK hB hA (by decide) (by decide) (Nat.le_of_ble_eq_true rfl) (Nat.le_of_ble_eq_true rfl) (Nat.le_of_ble_eq_true rfl) cD_Log_23 (fun z3 H3 hB => ?_)
  have hB : bI G A ([(a, .inr (3, [.int 0, .ref (z1), .ref (z2), .null, .null, .null])), (z1, .inl (gI G, 60, .inl (fun _ => 0))), (z2, .inl (gI G, 60, .inl (fun _ => 0))), (z3, .inl (gI G, 60, .inl (fun _ => 0)))]) s.heap _ _ := hB
  refine bPut (ci := 3) (k := 3) (q0 := 0) (t := (.array .int)) (by decide) (by decide) hx hb hts hown hin rfl (mWrd_big (w := 295) rfl rfl) hK hB rfl (by decide +kernel) rfl rfl (Nat.le_of_ble_eq_true rfl) cD_Log_25 (fun H3_25 locs hB => ?_)
  have hB : bI G A ([(a, .inr (3, [.int 0, .ref (z1), .ref (z2), .ref (z3), .null, .null])), (z1, .inl (gI G, 60, .inl (fun _ => 0))), (z2, .inl (gI G, 60, .inl (fun _ => 0))), (z3, .inl (gI G, 60, .inl (fun _ => 0)))]) s.heap _ _ := hB
  refine lv_aload_n hx hb cD_Log_28 rfl (lv_at hl 0 rfl) ?_
  refine lv_bipush (v := 60) hx hb cD_Log_29 (by decide) ?_
  refine bArrI (N := 60) hx hb hts hK hB hA (by decide) (by decide) (Nat.le_of_ble_eq_true rfl) (Nat.le_of_ble_eq_true rfl) (Nat.le_of_ble_eq_true rfl) cD_Log_31 (fun z4 H4 hB => ?_)
  have hB : bI G A ([(a, .inr (3, [.int 0, .ref (z1), .ref (z2), .ref (z3), .null, .null])), (z1, .inl (gI G, 60, .inl (fun _ => 0))), (z2, .inl (gI G, 60, .inl (fun _ => 0))), (z3, .inl (gI G, 60, .inl (fun _ => 0))), (z4, .inl (gI G, 60, .inl (fun _ => 0)))]) s.heap _ _ := hB
  refine bPut (ci := 3) (k := 4) (q0 := 0) (t := (.array .int)) (by decide) (by decide) hx hb hts hown hin rfl (mWrd_big (w := 297) rfl rfl) hK hB rfl (by decide +kernel) rfl rfl (Nat.le_of_ble_eq_true rfl) cD_Log_33 (fun H4_33 locs hB => ?_)
  have hB : bI G A ([(a, .inr (3, [.int 0, .ref (z1), .ref (z2), .ref (z3), .ref (z4), .null])), (z1, .inl (gI G, 60, .inl (fun _ => 0))), (z2, .inl (gI G, 60, .inl (fun _ => 0))), (z3, .inl (gI G, 60, .inl (fun _ => 0))), (z4, .inl (gI G, 60, .inl (fun _ => 0)))]) s.heap _ _ := hB
  refine lv_aload_n hx hb cD_Log_36 rfl (lv_at hl 0 rfl) ?_
  refine lv_iconst (v := 5) hx hb cD_Log_37 (by decide) ?_
  refine bArrI (N := 5) hx hb hts hK hB hA (by decide) (by decide) (Nat.le_of_ble_eq_true rfl) (Nat.le_of_ble_eq_true rfl) (Nat.le_of_ble_eq_true rfl) cD_Log_38 (fun z5 H5 hB => ?_)
  have hB : bI G A ([(a, .inr (3, [.int 0, .ref (z1), .ref (z2), .ref (z3), .ref (z4), .null])), (z1, .inl (gI G, 60, .inl (fun _ => 0))), (z2, .inl (gI G, 60, .inl (fun _ => 0))), (z3, .inl (gI G, 60, .inl (fun _ => 0))), (z4, .inl (gI G, 60, .inl (fun _ => 0))), (z5, .inl (gI G, 5, .inl (fun _ => 0)))]) s.heap _ _ := hB
  refine bPut (ci := 3) (k := 5) (q0 := 0) (t := (.array .int)) (by decide) (by decide) hx hb hts hown hin rfl (mWrd_big (w := 299) rfl rfl) hK hB rfl (by decide +kernel) rfl rfl (Nat.le_of_ble_eq_true rfl) cD_Log_40 (fun H5_40 locs hB => ?_)
  have hB : bI G A ([(a, .inr (3, [.int 0, .ref (z1), .ref (z2), .ref (z3), .ref (z4), .ref (z5)])), (z1, .inl (gI G, 60, .inl (fun _ => 0))), (z2, .inl (gI G, 60, .inl (fun _ => 0))), (z3, .inl (gI G, 60, .inl (fun _ => 0))), (z4, .inl (gI G, 60, .inl (fun _ => 0))), (z5, .inl (gI G, 5, .inl (fun _ => 0)))]) s.heap _ _ := hB
  refine lv_aload_n hx hb cD_Log_43 rfl (lv_at hl 0 rfl) ?_
  refine bGet (ci := 3) (k := 5) (q0 := 0) (by decide) (by decide) hx hb hts hown (mWrd_big (w := 299) rfl rfl) hK hB rfl rfl cD_Log_44 ?_
  refine lv_iconst (v := -1) hx hb cD_Log_47 (by decide) ?_
  refine fCall (ws := [(a, .inr (3, [.int 0, .ref (z1), .ref (z2), .ref (z3), .ref (z4), .ref (z5)])), (z1, .inl (gI G, 60, .inl (fun _ => 0))), (z2, .inl (gI G, 60, .inl (fun _ => 0))), (z3, .inl (gI G, 60, .inl (fun _ => 0))), (z4, .inl (gI G, 60, .inl (fun _ => 0)))]) (v := -1) (mWrd_big (w := 285) rfl rfl) hx hb (by rw [hml]; exact hl.1.symm) hown hts hK hB hA (Nat.le_of_ble_eq_true rfl) ⟨(Nat.le_of_ble_eq_true rfl), (Nat.le_of_ble_eq_true rfl)⟩ ⟨(Nat.le_of_ble_eq_true rfl), (Nat.le_of_ble_eq_true rfl)⟩ cD_Log_48 (fun adf H5c locs e9 hB => ?_)
  unfold fW at hB; rw [e9] at hB
  have hB : bI G A ([(a, .inr (3, [.int 0, .ref (z1), .ref (z2), .ref (z3), .ref (z4), .ref (z5)])), (z1, .inl (gI G, 60, .inl (fun _ => 0))), (z2, .inl (gI G, 60, .inl (fun _ => 0))), (z3, .inl (gI G, 60, .inl (fun _ => 0))), (z4, .inl (gI G, 60, .inl (fun _ => 0))), (z5, .inl (gI G, 5, .inl (fG (fun _ => 0) (-1) 5)))]) s.heap _ _ := hB
  refine W.widen (k := 5) (n := 245) (Nat.le_of_ble_eq_true rfl) (Nat.le_of_ble_eq_true rfl) ?_
  exact W.vret hx hb hr (fun t ht _ => ⟨rfl, ⟨fun k => [a, z1, z2, z3, z4, z5].getD k 0, rfl, by rw [ht]; exact hB.1, by rw [← hAe]; exact hB.2.1⟩, by rw [← hAe]; exact hB.2.2.F ht⟩) hB.2.2.2.2 cD_Log_51

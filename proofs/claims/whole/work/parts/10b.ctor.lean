/-! CONSTRUCTORS, part 2 (by program, wip/gen/gen_ctor.py) -/
theorem cD_Plan_0 : decode prog_6_method_1_code 0 = .ok (.aload_n 0, 1) := by decide +kernel
theorem cD_Plan_1 : decode prog_6_method_1_code 1 = .ok (.invokespecial 3, 3) := by decide +kernel
theorem cD_Plan_4 : decode prog_6_method_1_code 4 = .ok (.aload_n 0, 1) := by decide +kernel
theorem cD_Plan_5 : decode prog_6_method_1_code 5 = .ok (.bipush 6, 2) := by decide +kernel
theorem cD_Plan_7 : decode prog_6_method_1_code 7 = .ok (.newarray .int, 2) := by decide +kernel
theorem cD_Plan_9 : decode prog_6_method_1_code 9 = .ok (.putfield 9, 3) := by decide +kernel
theorem cD_Plan_12 : decode prog_6_method_1_code 12 = .ok (.aload_n 0, 1) := by decide +kernel
theorem cD_Plan_13 : decode prog_6_method_1_code 13 = .ok (.bipush 6, 2) := by decide +kernel
theorem cD_Plan_15 : decode prog_6_method_1_code 15 = .ok (.newarray .int, 2) := by decide +kernel
theorem cD_Plan_17 : decode prog_6_method_1_code 17 = .ok (.putfield 15, 3) := by decide +kernel
theorem cD_Plan_20 : decode prog_6_method_1_code 20 = .ok (.return_, 1) := by decide +kernel
def wPlan (G : mG) (ad : Nat → Nat) : va_W := [(ad 0, .inr (4, [.int 0, .int 0, .int 0, .int 0, .ref (ad 1), .ref (ad 2)])), (ad 1, .inl (gI G, 6, .inl (fun _ => 0))), (ad 2, .inl (gI G, 6, .inl (fun _ => 0)))]
theorem cF_Plan : cFacts RX4 prog_6_method_1_code 1 := ⟨(mWrd_big (w := 184) rfl rfl), (mWrd_big (w := 5) rfl rfl), by decide +kernel, ⟨by decide, by decide⟩, by decide, (mWrd_big (w := 183) rfl rfl)⟩
set_option maxHeartbeats 4000000 in
set_option maxRecDepth 100000 in
theorem c_Plan (G : mG) (l : Launch) : cMet G l RX4 prog_6_method_1_code 1 1 2 12 4 (bZ tyX4 6) (wPlan G) := by
  refine cMet_of (by decide +kernel) (fun p e s mid args below meth cd a A hAe C hA hB => ?_)
  obtain ⟨hx, hb, hml, hr, hown, hts, hlocks, hin, hK⟩ := C
  have hB : bI G A [(a, .inr (4, [.int 0, .int 0, .int 0, .int 0, .null, .null]))] s.heap s.heap [] := hB
  have hl := lv_entry [Value.ref a] (n := 1) (Nat.le_of_ble_eq_true rfl)
  generalize (lg_sl [Value.ref a] ++ List.replicate (1 - (lg_sl [Value.ref a]).length) Slot.unset).toArray = ls at hl ⊢
  have hl : lv_has ls 1 [(0, .ref a)] := hl
  refine lv_aload_n hx hb cD_Plan_0 rfl (lv_at hl 0 rfl) ?_
  refine W.objInit hx hb hown (hts _ (mWrd_big (w := 185) rfl rfl)) (hts _ (mWrd_big (w := 29) rfl rfl)) (hts _ (mWrd_big (w := 30) rfl rfl)) rfl (by rw [hml]; exact hl.1) rfl cD_Plan_1 (Nat.le_of_ble_eq_true rfl) (Nat.le_of_ble_eq_true rfl) ?_
  refine W.eq (g2 := F0 mid 4 ls []) rfl ?_
  refine lv_aload_n hx hb cD_Plan_4 rfl (lv_at hl 0 rfl) ?_
  refine lv_bipush (v := 6) hx hb cD_Plan_5 (by decide) ?_
  refine bArrI (N := 6) hx hb hts hK hB hA (by decide) (by decide) (Nat.le_of_ble_eq_true rfl) (Nat.le_of_ble_eq_true rfl) (Nat.le_of_ble_eq_true rfl) cD_Plan_7 (fun z1 H1 hB => ?_)
  have hB : bI G A ([(a, .inr (4, [.int 0, .int 0, .int 0, .int 0, .null, .null])), (z1, .inl (gI G, 6, .inl (fun _ => 0)))]) s.heap _ _ := hB
  refine bPut (ci := 4) (k := 4) (q0 := 0) (t := (.array .int)) (by decide) (by decide) hx hb hts hown hin rfl (mWrd_big (w := 193) rfl rfl) hK hB rfl (by decide +kernel) rfl rfl (Nat.le_of_ble_eq_true rfl) cD_Plan_9 (fun H1_9 locs hB => ?_)
  have hB : bI G A ([(a, .inr (4, [.int 0, .int 0, .int 0, .int 0, .ref (z1), .null])), (z1, .inl (gI G, 6, .inl (fun _ => 0)))]) s.heap _ _ := hB
  refine lv_aload_n hx hb cD_Plan_12 rfl (lv_at hl 0 rfl) ?_
  refine lv_bipush (v := 6) hx hb cD_Plan_13 (by decide) ?_
  refine bArrI (N := 6) hx hb hts hK hB hA (by decide) (by decide) (Nat.le_of_ble_eq_true rfl) (Nat.le_of_ble_eq_true rfl) (Nat.le_of_ble_eq_true rfl) cD_Plan_15 (fun z2 H2 hB => ?_)
  have hB : bI G A ([(a, .inr (4, [.int 0, .int 0, .int 0, .int 0, .ref (z1), .null])), (z1, .inl (gI G, 6, .inl (fun _ => 0))), (z2, .inl (gI G, 6, .inl (fun _ => 0)))]) s.heap _ _ := hB
  refine bPut (ci := 4) (k := 5) (q0 := 0) (t := (.array .int)) (by decide) (by decide) hx hb hts hown hin rfl (mWrd_big (w := 197) rfl rfl) hK hB rfl (by decide +kernel) rfl rfl (Nat.le_of_ble_eq_true rfl) cD_Plan_17 (fun H2_17 locs hB => ?_)
  have hB : bI G A ([(a, .inr (4, [.int 0, .int 0, .int 0, .int 0, .ref (z1), .ref (z2)])), (z1, .inl (gI G, 6, .inl (fun _ => 0))), (z2, .inl (gI G, 6, .inl (fun _ => 0)))]) s.heap _ _ := hB
  refine W.widen (k := 2) (n := 12) (Nat.le_of_ble_eq_true rfl) (Nat.le_of_ble_eq_true rfl) ?_
  exact W.vret hx hb hr (fun t ht _ => ⟨rfl, ⟨fun k => [a, z1, z2].getD k 0, rfl, by rw [ht]; exact hB.1, by rw [← hAe]; exact hB.2.1⟩, by rw [← hAe]; exact hB.2.2.F ht⟩) hB.2.2.2.2 cD_Plan_20
theorem cD_Judge_0 : decode prog_4_method_1_code 0 = .ok (.aload_n 0, 1) := by decide +kernel
theorem cD_Judge_1 : decode prog_4_method_1_code 1 = .ok (.invokespecial 3, 3) := by decide +kernel
theorem cD_Judge_4 : decode prog_4_method_1_code 4 = .ok (.aload_n 0, 1) := by decide +kernel
theorem cD_Judge_5 : decode prog_4_method_1_code 5 = .ok (.sipush 155, 3) := by decide +kernel
theorem cD_Judge_8 : decode prog_4_method_1_code 8 = .ok (.newarray .int, 2) := by decide +kernel
theorem cD_Judge_10 : decode prog_4_method_1_code 10 = .ok (.putfield 11, 3) := by decide +kernel
theorem cD_Judge_13 : decode prog_4_method_1_code 13 = .ok (.aload_n 0, 1) := by decide +kernel
theorem cD_Judge_14 : decode prog_4_method_1_code 14 = .ok (.bipush 31, 2) := by decide +kernel
theorem cD_Judge_16 : decode prog_4_method_1_code 16 = .ok (.newarray .int, 2) := by decide +kernel
theorem cD_Judge_18 : decode prog_4_method_1_code 18 = .ok (.putfield 15, 3) := by decide +kernel
theorem cD_Judge_21 : decode prog_4_method_1_code 21 = .ok (.return_, 1) := by decide +kernel
def wJudge (G : mG) (ad : Nat → Nat) : va_W := [(ad 0, .inr (2, [.null, .null, .int 0, .int 0, .ref (ad 1), .ref (ad 2), .int 0, .int 0, .int 0])), (ad 1, .inl (gI G, 155, .inl (fun _ => 0))), (ad 2, .inl (gI G, 31, .inl (fun _ => 0)))]
theorem cF_Judge : cFacts RX2 prog_4_method_1_code 1 := ⟨(mWrd_big (w := 246) rfl rfl), (mWrd_big (w := 6) rfl rfl), by decide +kernel, ⟨by decide, by decide⟩, by decide, (mWrd_big (w := 245) rfl rfl)⟩
set_option maxHeartbeats 4000000 in
set_option maxRecDepth 100000 in
theorem c_Judge (G : mG) (l : Launch) : cMet G l RX2 prog_4_method_1_code 1 1 2 186 2 (bZ tyX2 9) (wJudge G) := by
  refine cMet_of (by decide +kernel) (fun p e s mid args below meth cd a A hAe C hA hB => ?_)
  obtain ⟨hx, hb, hml, hr, hown, hts, hlocks, hin, hK⟩ := C
  have hB : bI G A [(a, .inr (2, [.null, .null, .int 0, .int 0, .null, .null, .int 0, .int 0, .int 0]))] s.heap s.heap [] := hB
  have hl := lv_entry [Value.ref a] (n := 1) (Nat.le_of_ble_eq_true rfl)
  generalize (lg_sl [Value.ref a] ++ List.replicate (1 - (lg_sl [Value.ref a]).length) Slot.unset).toArray = ls at hl ⊢
  have hl : lv_has ls 1 [(0, .ref a)] := hl
  refine lv_aload_n hx hb cD_Judge_0 rfl (lv_at hl 0 rfl) ?_
  refine W.objInit hx hb hown (hts _ (mWrd_big (w := 247) rfl rfl)) (hts _ (mWrd_big (w := 29) rfl rfl)) (hts _ (mWrd_big (w := 30) rfl rfl)) rfl (by rw [hml]; exact hl.1) rfl cD_Judge_1 (Nat.le_of_ble_eq_true rfl) (Nat.le_of_ble_eq_true rfl) ?_
  refine W.eq (g2 := F0 mid 4 ls []) rfl ?_
  refine lv_aload_n hx hb cD_Judge_4 rfl (lv_at hl 0 rfl) ?_
  refine lv_sipush (v := 155) hx hb cD_Judge_5 (by decide) ?_
  refine bArrI (N := 155) hx hb hts hK hB hA (by decide) (by decide) (Nat.le_of_ble_eq_true rfl) (Nat.le_of_ble_eq_true rfl) (Nat.le_of_ble_eq_true rfl) cD_Judge_8 (fun z1 H1 hB => ?_)
  have hB : bI G A ([(a, .inr (2, [.null, .null, .int 0, .int 0, .null, .null, .int 0, .int 0, .int 0])), (z1, .inl (gI G, 155, .inl (fun _ => 0)))]) s.heap _ _ := hB
  refine bPut (ci := 2) (k := 4) (q0 := 0) (t := (.array .int)) (by decide) (by decide) hx hb hts hown hin rfl (mWrd_big (w := 252) rfl rfl) hK hB rfl (by decide +kernel) rfl rfl (Nat.le_of_ble_eq_true rfl) cD_Judge_10 (fun H1_10 locs hB => ?_)
  have hB : bI G A ([(a, .inr (2, [.null, .null, .int 0, .int 0, .ref (z1), .null, .int 0, .int 0, .int 0])), (z1, .inl (gI G, 155, .inl (fun _ => 0)))]) s.heap _ _ := hB
  refine lv_aload_n hx hb cD_Judge_13 rfl (lv_at hl 0 rfl) ?_
  refine lv_bipush (v := 31) hx hb cD_Judge_14 (by decide) ?_
  refine bArrI (N := 31) hx hb hts hK hB hA (by decide) (by decide) (Nat.le_of_ble_eq_true rfl) (Nat.le_of_ble_eq_true rfl) (Nat.le_of_ble_eq_true rfl) cD_Judge_16 (fun z2 H2 hB => ?_)
  have hB : bI G A ([(a, .inr (2, [.null, .null, .int 0, .int 0, .ref (z1), .null, .int 0, .int 0, .int 0])), (z1, .inl (gI G, 155, .inl (fun _ => 0))), (z2, .inl (gI G, 31, .inl (fun _ => 0)))]) s.heap _ _ := hB
  refine bPut (ci := 2) (k := 5) (q0 := 0) (t := (.array .int)) (by decide) (by decide) hx hb hts hown hin rfl (mWrd_big (w := 253) rfl rfl) hK hB rfl (by decide +kernel) rfl rfl (Nat.le_of_ble_eq_true rfl) cD_Judge_18 (fun H2_18 locs hB => ?_)
  have hB : bI G A ([(a, .inr (2, [.null, .null, .int 0, .int 0, .ref (z1), .ref (z2), .int 0, .int 0, .int 0])), (z1, .inl (gI G, 155, .inl (fun _ => 0))), (z2, .inl (gI G, 31, .inl (fun _ => 0)))]) s.heap _ _ := hB
  refine W.widen (k := 2) (n := 186) (Nat.le_of_ble_eq_true rfl) (Nat.le_of_ble_eq_true rfl) ?_
  exact W.vret hx hb hr (fun t ht _ => ⟨rfl, ⟨fun k => [a, z1, z2].getD k 0, rfl, by rw [ht]; exact hB.1, by rw [← hAe]; exact hB.2.1⟩, by rw [← hAe]; exact hB.2.2.F ht⟩) hB.2.2.2.2 cD_Judge_21
theorem cD_Reader_0 : decode prog_8_method_1_code 0 = .ok (.aload_n 0, 1) := by decide +kernel
theorem cD_Reader_1 : decode prog_8_method_1_code 1 = .ok (.invokespecial 3, 3) := by decide +kernel
theorem cD_Reader_4 : decode prog_8_method_1_code 4 = .ok (.aload_n 0, 1) := by decide +kernel
theorem cD_Reader_5 : decode prog_8_method_1_code 5 = .ok (.sipush 700, 3) := by decide +kernel
theorem cD_Reader_8 : decode prog_8_method_1_code 8 = .ok (.newarray .byte, 2) := by decide +kernel
theorem cD_Reader_10 : decode prog_8_method_1_code 10 = .ok (.putfield 9, 3) := by decide +kernel
theorem cD_Reader_13 : decode prog_8_method_1_code 13 = .ok (.aload_n 0, 1) := by decide +kernel
theorem cD_Reader_14 : decode prog_8_method_1_code 14 = .ok (.iconst 5, 1) := by decide +kernel
theorem cD_Reader_15 : decode prog_8_method_1_code 15 = .ok (.newarray .int, 2) := by decide +kernel
theorem cD_Reader_17 : decode prog_8_method_1_code 17 = .ok (.putfield 15, 3) := by decide +kernel
theorem cD_Reader_20 : decode prog_8_method_1_code 20 = .ok (.return_, 1) := by decide +kernel
def wReader (G : mG) (ad : Nat → Nat) : va_W := [(ad 0, .inr (6, [.ref (ad 1), .int 0, .int 0, .int 0, .int 0, .int 0, .int 0, .int 0, .int 0, .ref (ad 2), .int 0])), (ad 1, .inl (gB G, 700, .inl (fun _ => 0))), (ad 2, .inl (gI G, 5, .inl (fun _ => 0)))]
theorem cF_Reader : cFacts RX6 prog_8_method_1_code 1 := ⟨(mWrd_big (w := 134) rfl rfl), (mWrd_big (w := 3) rfl rfl), by decide +kernel, ⟨by decide, by decide⟩, by decide, (mWrd_big (w := 133) rfl rfl)⟩
set_option maxHeartbeats 4000000 in
set_option maxRecDepth 100000 in
theorem c_Reader (G : mG) (l : Launch) : cMet G l RX6 prog_8_method_1_code 1 1 2 705 6 (bZ tyX6 11) (wReader G) := by
  refine cMet_of (by decide +kernel) (fun p e s mid args below meth cd a A hAe C hA hB => ?_)
  obtain ⟨hx, hb, hml, hr, hown, hts, hlocks, hin, hK⟩ := C
  have hB : bI G A [(a, .inr (6, [.null, .int 0, .int 0, .int 0, .int 0, .int 0, .int 0, .int 0, .int 0, .null, .int 0]))] s.heap s.heap [] := hB
  have hl := lv_entry [Value.ref a] (n := 1) (Nat.le_of_ble_eq_true rfl)
  generalize (lg_sl [Value.ref a] ++ List.replicate (1 - (lg_sl [Value.ref a]).length) Slot.unset).toArray = ls at hl ⊢
  have hl : lv_has ls 1 [(0, .ref a)] := hl
  refine lv_aload_n hx hb cD_Reader_0 rfl (lv_at hl 0 rfl) ?_
  refine W.objInit hx hb hown (hts _ (mWrd_big (w := 135) rfl rfl)) (hts _ (mWrd_big (w := 29) rfl rfl)) (hts _ (mWrd_big (w := 30) rfl rfl)) rfl (by rw [hml]; exact hl.1) rfl cD_Reader_1 (Nat.le_of_ble_eq_true rfl) (Nat.le_of_ble_eq_true rfl) ?_
  refine W.eq (g2 := F0 mid 4 ls []) rfl ?_
  refine lv_aload_n hx hb cD_Reader_4 rfl (lv_at hl 0 rfl) ?_
  refine lv_sipush (v := 700) hx hb cD_Reader_5 (by decide) ?_
  refine bArrB (N := 700) hx hb hts hK hB hA (by decide) (by decide) (Nat.le_of_ble_eq_true rfl) (Nat.le_of_ble_eq_true rfl) (Nat.le_of_ble_eq_true rfl) cD_Reader_8 (fun z1 H1 hB => ?_)
  have hB : bI G A ([(a, .inr (6, [.null, .int 0, .int 0, .int 0, .int 0, .int 0, .int 0, .int 0, .int 0, .null, .int 0])), (z1, .inl (gB G, 700, .inl (fun _ => 0)))]) s.heap _ _ := hB
  refine bPut (ci := 6) (k := 0) (q0 := 0) (t := (.array .byte)) (by decide) (by decide) hx hb hts hown hin rfl (mWrd_big (w := 136) rfl rfl) hK hB rfl (by decide +kernel) rfl rfl (Nat.le_of_ble_eq_true rfl) cD_Reader_10 (fun H1_10 locs hB => ?_)
  have hB : bI G A ([(a, .inr (6, [.ref (z1), .int 0, .int 0, .int 0, .int 0, .int 0, .int 0, .int 0, .int 0, .null, .int 0])), (z1, .inl (gB G, 700, .inl (fun _ => 0)))]) s.heap _ _ := hB
  refine lv_aload_n hx hb cD_Reader_13 rfl (lv_at hl 0 rfl) ?_
  refine lv_iconst (v := 5) hx hb cD_Reader_14 (by decide) ?_
  refine bArrI (N := 5) hx hb hts hK hB hA (by decide) (by decide) (Nat.le_of_ble_eq_true rfl) (Nat.le_of_ble_eq_true rfl) (Nat.le_of_ble_eq_true rfl) cD_Reader_15 (fun z2 H2 hB => ?_)
  have hB : bI G A ([(a, .inr (6, [.ref (z1), .int 0, .int 0, .int 0, .int 0, .int 0, .int 0, .int 0, .int 0, .null, .int 0])), (z1, .inl (gB G, 700, .inl (fun _ => 0))), (z2, .inl (gI G, 5, .inl (fun _ => 0)))]) s.heap _ _ := hB
  refine bPut (ci := 6) (k := 9) (q0 := 0) (t := (.array .int)) (by decide) (by decide) hx hb hts hown hin rfl (mWrd_big (w := 146) rfl rfl) hK hB rfl (by decide +kernel) rfl rfl (Nat.le_of_ble_eq_true rfl) cD_Reader_17 (fun H2_17 locs hB => ?_)
  have hB : bI G A ([(a, .inr (6, [.ref (z1), .int 0, .int 0, .int 0, .int 0, .int 0, .int 0, .int 0, .int 0, .ref (z2), .int 0])), (z1, .inl (gB G, 700, .inl (fun _ => 0))), (z2, .inl (gI G, 5, .inl (fun _ => 0)))]) s.heap _ _ := hB
  refine W.widen (k := 2) (n := 705) (Nat.le_of_ble_eq_true rfl) (Nat.le_of_ble_eq_true rfl) ?_
  exact W.vret hx hb hr (fun t ht _ => ⟨rfl, ⟨fun k => [a, z1, z2].getD k 0, rfl, by rw [ht]; exact hB.1, by rw [← hAe]; exact hB.2.1⟩, by rw [← hAe]; exact hB.2.2.F ht⟩) hB.2.2.2.2 cD_Reader_20
theorem cD_Court_0 : decode prog_3_method_1_code 0 = .ok (.aload_n 0, 1) := by decide +kernel
theorem cD_Court_1 : decode prog_3_method_1_code 1 = .ok (.invokespecial 3, 3) := by decide +kernel
theorem cD_Court_4 : decode prog_3_method_1_code 4 = .ok (.aload_n 0, 1) := by decide +kernel
theorem cD_Court_5 : decode prog_3_method_1_code 5 = .ok (.bipush 25, 2) := by decide +kernel
theorem cD_Court_7 : decode prog_3_method_1_code 7 = .ok (.newarray .int, 2) := by decide +kernel
theorem cD_Court_9 : decode prog_3_method_1_code 9 = .ok (.putfield 9, 3) := by decide +kernel
theorem cD_Court_12 : decode prog_3_method_1_code 12 = .ok (.aload_n 0, 1) := by decide +kernel
theorem cD_Court_13 : decode prog_3_method_1_code 13 = .ok (.sipush 300, 3) := by decide +kernel
theorem cD_Court_16 : decode prog_3_method_1_code 16 = .ok (.newarray .int, 2) := by decide +kernel
theorem cD_Court_18 : decode prog_3_method_1_code 18 = .ok (.putfield 15, 3) := by decide +kernel
theorem cD_Court_21 : decode prog_3_method_1_code 21 = .ok (.aload_n 0, 1) := by decide +kernel
theorem cD_Court_22 : decode prog_3_method_1_code 22 = .ok (.sipush 300, 3) := by decide +kernel
theorem cD_Court_25 : decode prog_3_method_1_code 25 = .ok (.newarray .int, 2) := by decide +kernel
theorem cD_Court_27 : decode prog_3_method_1_code 27 = .ok (.putfield 18, 3) := by decide +kernel
theorem cD_Court_30 : decode prog_3_method_1_code 30 = .ok (.aload_n 0, 1) := by decide +kernel
theorem cD_Court_31 : decode prog_3_method_1_code 31 = .ok (.sipush 300, 3) := by decide +kernel
theorem cD_Court_34 : decode prog_3_method_1_code 34 = .ok (.newarray .int, 2) := by decide +kernel
theorem cD_Court_36 : decode prog_3_method_1_code 36 = .ok (.putfield 21, 3) := by decide +kernel
theorem cD_Court_39 : decode prog_3_method_1_code 39 = .ok (.aload_n 0, 1) := by decide +kernel
theorem cD_Court_40 : decode prog_3_method_1_code 40 = .ok (.sipush 300, 3) := by decide +kernel
theorem cD_Court_43 : decode prog_3_method_1_code 43 = .ok (.newarray .int, 2) := by decide +kernel
theorem cD_Court_45 : decode prog_3_method_1_code 45 = .ok (.putfield 24, 3) := by decide +kernel
theorem cD_Court_48 : decode prog_3_method_1_code 48 = .ok (.return_, 1) := by decide +kernel
def wCourt (G : mG) (ad : Nat → Nat) : va_W := [(ad 0, .inr (1, [.int 0, .int 0, .int 0, .int 0, .int 0, .ref (ad 1), .ref (ad 2), .ref (ad 3), .ref (ad 4), .ref (ad 5)])), (ad 1, .inl (gI G, 25, .inl (fun _ => 0))), (ad 2, .inl (gI G, 300, .inl (fun _ => 0))), (ad 3, .inl (gI G, 300, .inl (fun _ => 0))), (ad 4, .inl (gI G, 300, .inl (fun _ => 0))), (ad 5, .inl (gI G, 300, .inl (fun _ => 0)))]
theorem cF_Court : cFacts RX1 prog_3_method_1_code 1 := ⟨(mWrd_big (w := 319) rfl rfl), (mWrd_big (w := 9) rfl rfl), by decide +kernel, ⟨by decide, by decide⟩, by decide, (mWrd_big (w := 318) rfl rfl)⟩
set_option maxHeartbeats 4000000 in
set_option maxRecDepth 100000 in
theorem c_Court (G : mG) (l : Launch) : cMet G l RX1 prog_3_method_1_code 1 1 5 1225 1 (bZ tyX1 10) (wCourt G) := by
  refine cMet_of (by decide +kernel) (fun p e s mid args below meth cd a A hAe C hA hB => ?_)
  obtain ⟨hx, hb, hml, hr, hown, hts, hlocks, hin, hK⟩ := C
  have hB : bI G A [(a, .inr (1, [.int 0, .int 0, .int 0, .int 0, .int 0, .null, .null, .null, .null, .null]))] s.heap s.heap [] := hB
  have hl := lv_entry [Value.ref a] (n := 1) (Nat.le_of_ble_eq_true rfl)
  generalize (lg_sl [Value.ref a] ++ List.replicate (1 - (lg_sl [Value.ref a]).length) Slot.unset).toArray = ls at hl ⊢
  have hl : lv_has ls 1 [(0, .ref a)] := hl
  refine lv_aload_n hx hb cD_Court_0 rfl (lv_at hl 0 rfl) ?_
  refine W.objInit hx hb hown (hts _ (mWrd_big (w := 320) rfl rfl)) (hts _ (mWrd_big (w := 29) rfl rfl)) (hts _ (mWrd_big (w := 30) rfl rfl)) rfl (by rw [hml]; exact hl.1) rfl cD_Court_1 (Nat.le_of_ble_eq_true rfl) (Nat.le_of_ble_eq_true rfl) ?_
  refine W.eq (g2 := F0 mid 4 ls []) rfl ?_
  refine lv_aload_n hx hb cD_Court_4 rfl (lv_at hl 0 rfl) ?_
  refine lv_bipush (v := 25) hx hb cD_Court_5 (by decide) ?_
  refine bArrI (N := 25) hx hb hts hK hB hA (by decide) (by decide) (Nat.le_of_ble_eq_true rfl) (Nat.le_of_ble_eq_true rfl) (Nat.le_of_ble_eq_true rfl) cD_Court_7 (fun z1 H1 hB => ?_)
  have hB : bI G A ([(a, .inr (1, [.int 0, .int 0, .int 0, .int 0, .int 0, .null, .null, .null, .null, .null])), (z1, .inl (gI G, 25, .inl (fun _ => 0)))]) s.heap _ _ := hB
  refine bPut (ci := 1) (k := 5) (q0 := 0) (t := (.array .int)) (by decide) (by decide) hx hb hts hown hin rfl (mWrd_big (w := 329) rfl rfl) hK hB rfl (by decide +kernel) rfl rfl (Nat.le_of_ble_eq_true rfl) cD_Court_9 (fun H1_9 locs hB => ?_)
  have hB : bI G A ([(a, .inr (1, [.int 0, .int 0, .int 0, .int 0, .int 0, .ref (z1), .null, .null, .null, .null])), (z1, .inl (gI G, 25, .inl (fun _ => 0)))]) s.heap _ _ := hB
  refine lv_aload_n hx hb cD_Court_12 rfl (lv_at hl 0 rfl) ?_
  refine lv_sipush (v := 300) hx hb cD_Court_13 (by decide) ?_
  refine bArrI (N := 300) hx hb hts hK hB hA (by decide) (by decide) (Nat.le_of_ble_eq_true rfl) (Nat.le_of_ble_eq_true rfl) (Nat.le_of_ble_eq_true rfl) cD_Court_16 (fun z2 H2 hB => ?_)
  have hB : bI G A ([(a, .inr (1, [.int 0, .int 0, .int 0, .int 0, .int 0, .ref (z1), .null, .null, .null, .null])), (z1, .inl (gI G, 25, .inl (fun _ => 0))), (z2, .inl (gI G, 300, .inl (fun _ => 0)))]) s.heap _ _ := hB
  refine bPut (ci := 1) (k := 6) (q0 := 0) (t := (.array .int)) (by decide) (by decide) hx hb hts hown hin rfl (mWrd_big (w := 331) rfl rfl) hK hB rfl (by decide +kernel) rfl rfl (Nat.le_of_ble_eq_true rfl) cD_Court_18 (fun H2_18 locs hB => ?_)
  have hB : bI G A ([(a, .inr (1, [.int 0, .int 0, .int 0, .int 0, .int 0, .ref (z1), .ref (z2), .null, .null, .null])), (z1, .inl (gI G, 25, .inl (fun _ => 0))), (z2, .inl (gI G, 300, .inl (fun _ => 0)))]) s.heap _ _ := hB
  refine lv_aload_n hx hb cD_Court_21 rfl (lv_at hl 0 rfl) ?_
  refine lv_sipush (v := 300) hx hb cD_Court_22 (by decide) ?_
  refine bArrI (N := 300) hx hb hts hK hB hA (by decide) (by decide) (Nat.le_of_ble_eq_true rfl) (Nat.le_of_ble_eq_true rfl) (Nat.le_of_ble_eq_true rfl) cD_Court_25 (fun z3 H3 hB => ?_)
  have hB : bI G A ([(a, .inr (1, [.int 0, .int 0, .int 0, .int 0, .int 0, .ref (z1), .ref (z2), .null, .null, .null])), (z1, .inl (gI G, 25, .inl (fun _ => 0))), (z2, .inl (gI G, 300, .inl (fun _ => 0))), (z3, .inl (gI G, 300, .inl (fun _ => 0)))]) s.heap _ _ := hB
  refine bPut (ci := 1) (k := 7) (q0 := 0) (t := (.array .int)) (by decide) (by decide) hx hb hts hown hin rfl (mWrd_big (w := 333) rfl rfl) hK hB rfl (by decide +kernel) rfl rfl (Nat.le_of_ble_eq_true rfl) cD_Court_27 (fun H3_27 locs hB => ?_)
  have hB : bI G A ([(a, .inr (1, [.int 0, .int 0, .int 0, .int 0, .int 0, .ref (z1), .ref (z2), .ref (z3), .null, .null])), (z1, .inl (gI G, 25, .inl (fun _ => 0))), (z2, .inl (gI G, 300, .inl (fun _ => 0))), (z3, .inl (gI G, 300, .inl (fun _ => 0)))]) s.heap _ _ := hB
  refine lv_aload_n hx hb cD_Court_30 rfl (lv_at hl 0 rfl) ?_
  refine lv_sipush (v := 300) hx hb cD_Court_31 (by decide) ?_
  refine bArrI (N := 300) hx hb hts hK hB hA (by decide) (by decide) (Nat.le_of_ble_eq_true rfl) (Nat.le_of_ble_eq_true rfl) (Nat.le_of_ble_eq_true rfl) cD_Court_34 (fun z4 H4 hB => ?_)
  have hB : bI G A ([(a, .inr (1, [.int 0, .int 0, .int 0, .int 0, .int 0, .ref (z1), .ref (z2), .ref (z3), .null, .null])), (z1, .inl (gI G, 25, .inl (fun _ => 0))), (z2, .inl (gI G, 300, .inl (fun _ => 0))), (z3, .inl (gI G, 300, .inl (fun _ => 0))), (z4, .inl (gI G, 300, .inl (fun _ => 0)))]) s.heap _ _ := hB
  refine bPut (ci := 1) (k := 8) (q0 := 0) (t := (.array .int)) (by decide) (by decide) hx hb hts hown hin rfl (mWrd_big (w := 335) rfl rfl) hK hB rfl (by decide +kernel) rfl rfl (Nat.le_of_ble_eq_true rfl) cD_Court_36 (fun H4_36 locs hB => ?_)
  have hB : bI G A ([(a, .inr (1, [.int 0, .int 0, .int 0, .int 0, .int 0, .ref (z1), .ref (z2), .ref (z3), .ref (z4), .null])), (z1, .inl (gI G, 25, .inl (fun _ => 0))), (z2, .inl (gI G, 300, .inl (fun _ => 0))), (z3, .inl (gI G, 300, .inl (fun _ => 0))), (z4, .inl (gI G, 300, .inl (fun _ => 0)))]) s.heap _ _ := hB
  refine lv_aload_n hx hb cD_Court_39 rfl (lv_at hl 0 rfl) ?_
  refine lv_sipush (v := 300) hx hb cD_Court_40 (by decide) ?_
  refine bArrI (N := 300) hx hb hts hK hB hA (by decide) (by decide) (Nat.le_of_ble_eq_true rfl) (Nat.le_of_ble_eq_true rfl) (Nat.le_of_ble_eq_true rfl) cD_Court_43 (fun z5 H5 hB => ?_)
  have hB : bI G A ([(a, .inr (1, [.int 0, .int 0, .int 0, .int 0, .int 0, .ref (z1), .ref (z2), .ref (z3), .ref (z4), .null])), (z1, .inl (gI G, 25, .inl (fun _ => 0))), (z2, .inl (gI G, 300, .inl (fun _ => 0))), (z3, .inl (gI G, 300, .inl (fun _ => 0))), (z4, .inl (gI G, 300, .inl (fun _ => 0))), (z5, .inl (gI G, 300, .inl (fun _ => 0)))]) s.heap _ _ := hB
  refine bPut (ci := 1) (k := 9) (q0 := 0) (t := (.array .int)) (by decide) (by decide) hx hb hts hown hin rfl (mWrd_big (w := 337) rfl rfl) hK hB rfl (by decide +kernel) rfl rfl (Nat.le_of_ble_eq_true rfl) cD_Court_45 (fun H5_45 locs hB => ?_)
  have hB : bI G A ([(a, .inr (1, [.int 0, .int 0, .int 0, .int 0, .int 0, .ref (z1), .ref (z2), .ref (z3), .ref (z4), .ref (z5)])), (z1, .inl (gI G, 25, .inl (fun _ => 0))), (z2, .inl (gI G, 300, .inl (fun _ => 0))), (z3, .inl (gI G, 300, .inl (fun _ => 0))), (z4, .inl (gI G, 300, .inl (fun _ => 0))), (z5, .inl (gI G, 300, .inl (fun _ => 0)))]) s.heap _ _ := hB
  refine W.widen (k := 5) (n := 1225) (Nat.le_of_ble_eq_true rfl) (Nat.le_of_ble_eq_true rfl) ?_
  exact W.vret hx hb hr (fun t ht _ => ⟨rfl, ⟨fun k => [a, z1, z2, z3, z4, z5].getD k 0, rfl, by rw [ht]; exact hB.1, by rw [← hAe]; exact hB.2.1⟩, by rw [← hAe]; exact hB.2.2.F ht⟩) hB.2.2.2.2 cD_Court_48
theorem cD_Board_0 : decode prog_2_method_1_code 0 = .ok (.aload_n 0, 1) := by decide +kernel
theorem cD_Board_1 : decode prog_2_method_1_code 1 = .ok (.invokespecial 3, 3) := by decide +kernel
theorem cD_Board_4 : decode prog_2_method_1_code 4 = .ok (.aload_n 0, 1) := by decide +kernel
theorem cD_Board_5 : decode prog_2_method_1_code 5 = .ok (.bipush 6, 2) := by decide +kernel
theorem cD_Board_7 : decode prog_2_method_1_code 7 = .ok (.newarray .int, 2) := by decide +kernel
theorem cD_Board_9 : decode prog_2_method_1_code 9 = .ok (.putfield 9, 3) := by decide +kernel
theorem cD_Board_12 : decode prog_2_method_1_code 12 = .ok (.aload_n 0, 1) := by decide +kernel
theorem cD_Board_13 : decode prog_2_method_1_code 13 = .ok (.bipush 6, 2) := by decide +kernel
theorem cD_Board_15 : decode prog_2_method_1_code 15 = .ok (.newarray .int, 2) := by decide +kernel
theorem cD_Board_17 : decode prog_2_method_1_code 17 = .ok (.putfield 15, 3) := by decide +kernel
theorem cD_Board_20 : decode prog_2_method_1_code 20 = .ok (.aload_n 0, 1) := by decide +kernel
theorem cD_Board_21 : decode prog_2_method_1_code 21 = .ok (.bipush 6, 2) := by decide +kernel
theorem cD_Board_23 : decode prog_2_method_1_code 23 = .ok (.newarray .int, 2) := by decide +kernel
theorem cD_Board_25 : decode prog_2_method_1_code 25 = .ok (.putfield 18, 3) := by decide +kernel
theorem cD_Board_28 : decode prog_2_method_1_code 28 = .ok (.aload_n 0, 1) := by decide +kernel
theorem cD_Board_29 : decode prog_2_method_1_code 29 = .ok (.iconst 5, 1) := by decide +kernel
theorem cD_Board_30 : decode prog_2_method_1_code 30 = .ok (.newarray .int, 2) := by decide +kernel
theorem cD_Board_32 : decode prog_2_method_1_code 32 = .ok (.putfield 21, 3) := by decide +kernel
theorem cD_Board_35 : decode prog_2_method_1_code 35 = .ok (.aload_n 0, 1) := by decide +kernel
theorem cD_Board_36 : decode prog_2_method_1_code 36 = .ok (.iconst 5, 1) := by decide +kernel
theorem cD_Board_37 : decode prog_2_method_1_code 37 = .ok (.newarray .int, 2) := by decide +kernel
theorem cD_Board_39 : decode prog_2_method_1_code 39 = .ok (.putfield 24, 3) := by decide +kernel
theorem cD_Board_42 : decode prog_2_method_1_code 42 = .ok (.aload_n 0, 1) := by decide +kernel
theorem cD_Board_43 : decode prog_2_method_1_code 43 = .ok (.iconst 5, 1) := by decide +kernel
theorem cD_Board_44 : decode prog_2_method_1_code 44 = .ok (.newarray .int, 2) := by decide +kernel
theorem cD_Board_46 : decode prog_2_method_1_code 46 = .ok (.putfield 27, 3) := by decide +kernel
theorem cD_Board_49 : decode prog_2_method_1_code 49 = .ok (.aload_n 0, 1) := by decide +kernel
theorem cD_Board_50 : decode prog_2_method_1_code 50 = .ok (.iconst 5, 1) := by decide +kernel
theorem cD_Board_51 : decode prog_2_method_1_code 51 = .ok (.newarray .int, 2) := by decide +kernel
theorem cD_Board_53 : decode prog_2_method_1_code 53 = .ok (.putfield 30, 3) := by decide +kernel
theorem cD_Board_56 : decode prog_2_method_1_code 56 = .ok (.aload_n 0, 1) := by decide +kernel
theorem cD_Board_57 : decode prog_2_method_1_code 57 = .ok (.iconst 5, 1) := by decide +kernel
theorem cD_Board_58 : decode prog_2_method_1_code 58 = .ok (.newarray .int, 2) := by decide +kernel
theorem cD_Board_60 : decode prog_2_method_1_code 60 = .ok (.putfield 33, 3) := by decide +kernel
theorem cD_Board_63 : decode prog_2_method_1_code 63 = .ok (.aload_n 0, 1) := by decide +kernel
theorem cD_Board_64 : decode prog_2_method_1_code 64 = .ok (.iconst 5, 1) := by decide +kernel
theorem cD_Board_65 : decode prog_2_method_1_code 65 = .ok (.newarray .int, 2) := by decide +kernel
theorem cD_Board_67 : decode prog_2_method_1_code 67 = .ok (.putfield 36, 3) := by decide +kernel
theorem cD_Board_70 : decode prog_2_method_1_code 70 = .ok (.aload_n 0, 1) := by decide +kernel
theorem cD_Board_71 : decode prog_2_method_1_code 71 = .ok (.bipush 25, 2) := by decide +kernel
theorem cD_Board_73 : decode prog_2_method_1_code 73 = .ok (.newarray .int, 2) := by decide +kernel
theorem cD_Board_75 : decode prog_2_method_1_code 75 = .ok (.putfield 39, 3) := by decide +kernel
theorem cD_Board_78 : decode prog_2_method_1_code 78 = .ok (.aload_n 0, 1) := by decide +kernel
theorem cD_Board_79 : decode prog_2_method_1_code 79 = .ok (.iconst 1, 1) := by decide +kernel
theorem cD_Board_80 : decode prog_2_method_1_code 80 = .ok (.putfield 42, 3) := by decide +kernel
theorem cD_Board_83 : decode prog_2_method_1_code 83 = .ok (.return_, 1) := by decide +kernel
def wBoard (G : mG) (ad : Nat → Nat) : va_W := [(ad 0, .inr (0, [.int 0, .ref (ad 1), .ref (ad 2), .ref (ad 3), .int 0, .ref (ad 4), .ref (ad 5), .ref (ad 6), .ref (ad 7), .int 0, .ref (ad 8), .ref (ad 9), .ref (ad 10), .int 1])), (ad 1, .inl (gI G, 6, .inl (fun _ => 0))), (ad 2, .inl (gI G, 6, .inl (fun _ => 0))), (ad 3, .inl (gI G, 6, .inl (fun _ => 0))), (ad 4, .inl (gI G, 5, .inl (fun _ => 0))), (ad 5, .inl (gI G, 5, .inl (fun _ => 0))), (ad 6, .inl (gI G, 5, .inl (fun _ => 0))), (ad 7, .inl (gI G, 5, .inl (fun _ => 0))), (ad 8, .inl (gI G, 5, .inl (fun _ => 0))), (ad 9, .inl (gI G, 5, .inl (fun _ => 0))), (ad 10, .inl (gI G, 25, .inl (fun _ => 0)))]
theorem cF_Board : cFacts RX0 prog_2_method_1_code 1 := ⟨(mWrd_big (w := 35) rfl rfl), (mWrd_big (w := 2) rfl rfl), by decide +kernel, ⟨by decide, by decide⟩, by decide, (mWrd_big (w := 34) rfl rfl)⟩
set_option maxHeartbeats 4000000 in
set_option maxRecDepth 100000 in
theorem c_Board (G : mG) (l : Launch) : cMet G l RX0 prog_2_method_1_code 1 1 10 73 0 (bZ tyX0 14) (wBoard G) := by
  refine cMet_of (by decide +kernel) (fun p e s mid args below meth cd a A hAe C hA hB => ?_)
  obtain ⟨hx, hb, hml, hr, hown, hts, hlocks, hin, hK⟩ := C
  have hB : bI G A [(a, .inr (0, [.int 0, .null, .null, .null, .int 0, .null, .null, .null, .null, .int 0, .null, .null, .null, .int 0]))] s.heap s.heap [] := hB
  have hl := lv_entry [Value.ref a] (n := 1) (Nat.le_of_ble_eq_true rfl)
  generalize (lg_sl [Value.ref a] ++ List.replicate (1 - (lg_sl [Value.ref a]).length) Slot.unset).toArray = ls at hl ⊢
  have hl : lv_has ls 1 [(0, .ref a)] := hl
  refine lv_aload_n hx hb cD_Board_0 rfl (lv_at hl 0 rfl) ?_
  refine W.objInit hx hb hown (hts _ (mWrd_big (w := 36) rfl rfl)) (hts _ (mWrd_big (w := 29) rfl rfl)) (hts _ (mWrd_big (w := 30) rfl rfl)) rfl (by rw [hml]; exact hl.1) rfl cD_Board_1 (Nat.le_of_ble_eq_true rfl) (Nat.le_of_ble_eq_true rfl) ?_
  refine W.eq (g2 := F0 mid 4 ls []) rfl ?_
  refine lv_aload_n hx hb cD_Board_4 rfl (lv_at hl 0 rfl) ?_
  refine lv_bipush (v := 6) hx hb cD_Board_5 (by decide) ?_
  refine bArrI (N := 6) hx hb hts hK hB hA (by decide) (by decide) (Nat.le_of_ble_eq_true rfl) (Nat.le_of_ble_eq_true rfl) (Nat.le_of_ble_eq_true rfl) cD_Board_7 (fun z1 H1 hB => ?_)
  have hB : bI G A ([(a, .inr (0, [.int 0, .null, .null, .null, .int 0, .null, .null, .null, .null, .int 0, .null, .null, .null, .int 0])), (z1, .inl (gI G, 6, .inl (fun _ => 0)))]) s.heap _ _ := hB
  refine bPut (ci := 0) (k := 1) (q0 := 0) (t := (.array .int)) (by decide) (by decide) hx hb hts hown hin rfl (mWrd_big (w := 43) rfl rfl) hK hB rfl (by decide +kernel) rfl rfl (Nat.le_of_ble_eq_true rfl) cD_Board_9 (fun H1_9 locs hB => ?_)
  have hB : bI G A ([(a, .inr (0, [.int 0, .ref (z1), .null, .null, .int 0, .null, .null, .null, .null, .int 0, .null, .null, .null, .int 0])), (z1, .inl (gI G, 6, .inl (fun _ => 0)))]) s.heap _ _ := hB
  refine lv_aload_n hx hb cD_Board_12 rfl (lv_at hl 0 rfl) ?_
  refine lv_bipush (v := 6) hx hb cD_Board_13 (by decide) ?_
  refine bArrI (N := 6) hx hb hts hK hB hA (by decide) (by decide) (Nat.le_of_ble_eq_true rfl) (Nat.le_of_ble_eq_true rfl) (Nat.le_of_ble_eq_true rfl) cD_Board_15 (fun z2 H2 hB => ?_)
  have hB : bI G A ([(a, .inr (0, [.int 0, .ref (z1), .null, .null, .int 0, .null, .null, .null, .null, .int 0, .null, .null, .null, .int 0])), (z1, .inl (gI G, 6, .inl (fun _ => 0))), (z2, .inl (gI G, 6, .inl (fun _ => 0)))]) s.heap _ _ := hB
  refine bPut (ci := 0) (k := 2) (q0 := 0) (t := (.array .int)) (by decide) (by decide) hx hb hts hown hin rfl (mWrd_big (w := 47) rfl rfl) hK hB rfl (by decide +kernel) rfl rfl (Nat.le_of_ble_eq_true rfl) cD_Board_17 (fun H2_17 locs hB => ?_)
  have hB : bI G A ([(a, .inr (0, [.int 0, .ref (z1), .ref (z2), .null, .int 0, .null, .null, .null, .null, .int 0, .null, .null, .null, .int 0])), (z1, .inl (gI G, 6, .inl (fun _ => 0))), (z2, .inl (gI G, 6, .inl (fun _ => 0)))]) s.heap _ _ := hB
  refine lv_aload_n hx hb cD_Board_20 rfl (lv_at hl 0 rfl) ?_
  refine lv_bipush (v := 6) hx hb cD_Board_21 (by decide) ?_
  refine bArrI (N := 6) hx hb hts hK hB hA (by decide) (by decide) (Nat.le_of_ble_eq_true rfl) (Nat.le_of_ble_eq_true rfl) (Nat.le_of_ble_eq_true rfl) cD_Board_23 (fun z3 H3 hB => ?_)
  have hB : bI G A ([(a, .inr (0, [.int 0, .ref (z1), .ref (z2), .null, .int 0, .null, .null, .null, .null, .int 0, .null, .null, .null, .int 0])), (z1, .inl (gI G, 6, .inl (fun _ => 0))), (z2, .inl (gI G, 6, .inl (fun _ => 0))), (z3, .inl (gI G, 6, .inl (fun _ => 0)))]) s.heap _ _ := hB
  refine bPut (ci := 0) (k := 3) (q0 := 0) (t := (.array .int)) (by decide) (by decide) hx hb hts hown hin rfl (mWrd_big (w := 52) rfl rfl) hK hB rfl (by decide +kernel) rfl rfl (Nat.le_of_ble_eq_true rfl) cD_Board_25 (fun H3_25 locs hB => ?_)
  have hB : bI G A ([(a, .inr (0, [.int 0, .ref (z1), .ref (z2), .ref (z3), .int 0, .null, .null, .null, .null, .int 0, .null, .null, .null, .int 0])), (z1, .inl (gI G, 6, .inl (fun _ => 0))), (z2, .inl (gI G, 6, .inl (fun _ => 0))), (z3, .inl (gI G, 6, .inl (fun _ => 0)))]) s.heap _ _ := hB
  refine lv_aload_n hx hb cD_Board_28 rfl (lv_at hl 0 rfl) ?_
  refine lv_iconst (v := 5) hx hb cD_Board_29 (by decide) ?_
  refine bArrI (N := 5) hx hb hts hK hB hA (by decide) (by decide) (Nat.le_of_ble_eq_true rfl) (Nat.le_of_ble_eq_true rfl) (Nat.le_of_ble_eq_true rfl) cD_Board_30 (fun z4 H4 hB => ?_)
  have hB : bI G A ([(a, .inr (0, [.int 0, .ref (z1), .ref (z2), .ref (z3), .int 0, .null, .null, .null, .null, .int 0, .null, .null, .null, .int 0])), (z1, .inl (gI G, 6, .inl (fun _ => 0))), (z2, .inl (gI G, 6, .inl (fun _ => 0))), (z3, .inl (gI G, 6, .inl (fun _ => 0))), (z4, .inl (gI G, 5, .inl (fun _ => 0)))]) s.heap _ _ := hB
  refine bPut (ci := 0) (k := 5) (q0 := 0) (t := (.array .int)) (by decide) (by decide) hx hb hts hown hin rfl (mWrd_big (w := 63) rfl rfl) hK hB rfl (by decide +kernel) rfl rfl (Nat.le_of_ble_eq_true rfl) cD_Board_32 (fun H4_32 locs hB => ?_)
  have hB : bI G A ([(a, .inr (0, [.int 0, .ref (z1), .ref (z2), .ref (z3), .int 0, .ref (z4), .null, .null, .null, .int 0, .null, .null, .null, .int 0])), (z1, .inl (gI G, 6, .inl (fun _ => 0))), (z2, .inl (gI G, 6, .inl (fun _ => 0))), (z3, .inl (gI G, 6, .inl (fun _ => 0))), (z4, .inl (gI G, 5, .inl (fun _ => 0)))]) s.heap _ _ := hB
  refine lv_aload_n hx hb cD_Board_35 rfl (lv_at hl 0 rfl) ?_
  refine lv_iconst (v := 5) hx hb cD_Board_36 (by decide) ?_
  refine bArrI (N := 5) hx hb hts hK hB hA (by decide) (by decide) (Nat.le_of_ble_eq_true rfl) (Nat.le_of_ble_eq_true rfl) (Nat.le_of_ble_eq_true rfl) cD_Board_37 (fun z5 H5 hB => ?_)
  have hB : bI G A ([(a, .inr (0, [.int 0, .ref (z1), .ref (z2), .ref (z3), .int 0, .ref (z4), .null, .null, .null, .int 0, .null, .null, .null, .int 0])), (z1, .inl (gI G, 6, .inl (fun _ => 0))), (z2, .inl (gI G, 6, .inl (fun _ => 0))), (z3, .inl (gI G, 6, .inl (fun _ => 0))), (z4, .inl (gI G, 5, .inl (fun _ => 0))), (z5, .inl (gI G, 5, .inl (fun _ => 0)))]) s.heap _ _ := hB
  refine bPut (ci := 0) (k := 6) (q0 := 0) (t := (.array .int)) (by decide) (by decide) hx hb hts hown hin rfl (mWrd_big (w := 66) rfl rfl) hK hB rfl (by decide +kernel) rfl rfl (Nat.le_of_ble_eq_true rfl) cD_Board_39 (fun H5_39 locs hB => ?_)
  have hB : bI G A ([(a, .inr (0, [.int 0, .ref (z1), .ref (z2), .ref (z3), .int 0, .ref (z4), .ref (z5), .null, .null, .int 0, .null, .null, .null, .int 0])), (z1, .inl (gI G, 6, .inl (fun _ => 0))), (z2, .inl (gI G, 6, .inl (fun _ => 0))), (z3, .inl (gI G, 6, .inl (fun _ => 0))), (z4, .inl (gI G, 5, .inl (fun _ => 0))), (z5, .inl (gI G, 5, .inl (fun _ => 0)))]) s.heap _ _ := hB
  refine lv_aload_n hx hb cD_Board_42 rfl (lv_at hl 0 rfl) ?_
  refine lv_iconst (v := 5) hx hb cD_Board_43 (by decide) ?_
  refine bArrI (N := 5) hx hb hts hK hB hA (by decide) (by decide) (Nat.le_of_ble_eq_true rfl) (Nat.le_of_ble_eq_true rfl) (Nat.le_of_ble_eq_true rfl) cD_Board_44 (fun z6 H6 hB => ?_)
  have hB : bI G A ([(a, .inr (0, [.int 0, .ref (z1), .ref (z2), .ref (z3), .int 0, .ref (z4), .ref (z5), .null, .null, .int 0, .null, .null, .null, .int 0])), (z1, .inl (gI G, 6, .inl (fun _ => 0))), (z2, .inl (gI G, 6, .inl (fun _ => 0))), (z3, .inl (gI G, 6, .inl (fun _ => 0))), (z4, .inl (gI G, 5, .inl (fun _ => 0))), (z5, .inl (gI G, 5, .inl (fun _ => 0))), (z6, .inl (gI G, 5, .inl (fun _ => 0)))]) s.heap _ _ := hB
  refine bPut (ci := 0) (k := 7) (q0 := 0) (t := (.array .int)) (by decide) (by decide) hx hb hts hown hin rfl (mWrd_big (w := 69) rfl rfl) hK hB rfl (by decide +kernel) rfl rfl (Nat.le_of_ble_eq_true rfl) cD_Board_46 (fun H6_46 locs hB => ?_)
  have hB : bI G A ([(a, .inr (0, [.int 0, .ref (z1), .ref (z2), .ref (z3), .int 0, .ref (z4), .ref (z5), .ref (z6), .null, .int 0, .null, .null, .null, .int 0])), (z1, .inl (gI G, 6, .inl (fun _ => 0))), (z2, .inl (gI G, 6, .inl (fun _ => 0))), (z3, .inl (gI G, 6, .inl (fun _ => 0))), (z4, .inl (gI G, 5, .inl (fun _ => 0))), (z5, .inl (gI G, 5, .inl (fun _ => 0))), (z6, .inl (gI G, 5, .inl (fun _ => 0)))]) s.heap _ _ := hB
  refine lv_aload_n hx hb cD_Board_49 rfl (lv_at hl 0 rfl) ?_
  refine lv_iconst (v := 5) hx hb cD_Board_50 (by decide) ?_
  refine bArrI (N := 5) hx hb hts hK hB hA (by decide) (by decide) (Nat.le_of_ble_eq_true rfl) (Nat.le_of_ble_eq_true rfl) (Nat.le_of_ble_eq_true rfl) cD_Board_51 (fun z7 H7 hB => ?_)
  have hB : bI G A ([(a, .inr (0, [.int 0, .ref (z1), .ref (z2), .ref (z3), .int 0, .ref (z4), .ref (z5), .ref (z6), .null, .int 0, .null, .null, .null, .int 0])), (z1, .inl (gI G, 6, .inl (fun _ => 0))), (z2, .inl (gI G, 6, .inl (fun _ => 0))), (z3, .inl (gI G, 6, .inl (fun _ => 0))), (z4, .inl (gI G, 5, .inl (fun _ => 0))), (z5, .inl (gI G, 5, .inl (fun _ => 0))), (z6, .inl (gI G, 5, .inl (fun _ => 0))), (z7, .inl (gI G, 5, .inl (fun _ => 0)))]) s.heap _ _ := hB
  refine bPut (ci := 0) (k := 8) (q0 := 0) (t := (.array .int)) (by decide) (by decide) hx hb hts hown hin rfl (mWrd_big (w := 72) rfl rfl) hK hB rfl (by decide +kernel) rfl rfl (Nat.le_of_ble_eq_true rfl) cD_Board_53 (fun H7_53 locs hB => ?_)
  have hB : bI G A ([(a, .inr (0, [.int 0, .ref (z1), .ref (z2), .ref (z3), .int 0, .ref (z4), .ref (z5), .ref (z6), .ref (z7), .int 0, .null, .null, .null, .int 0])), (z1, .inl (gI G, 6, .inl (fun _ => 0))), (z2, .inl (gI G, 6, .inl (fun _ => 0))), (z3, .inl (gI G, 6, .inl (fun _ => 0))), (z4, .inl (gI G, 5, .inl (fun _ => 0))), (z5, .inl (gI G, 5, .inl (fun _ => 0))), (z6, .inl (gI G, 5, .inl (fun _ => 0))), (z7, .inl (gI G, 5, .inl (fun _ => 0)))]) s.heap _ _ := hB
  refine lv_aload_n hx hb cD_Board_56 rfl (lv_at hl 0 rfl) ?_
  refine lv_iconst (v := 5) hx hb cD_Board_57 (by decide) ?_
  refine bArrI (N := 5) hx hb hts hK hB hA (by decide) (by decide) (Nat.le_of_ble_eq_true rfl) (Nat.le_of_ble_eq_true rfl) (Nat.le_of_ble_eq_true rfl) cD_Board_58 (fun z8 H8 hB => ?_)
  have hB : bI G A ([(a, .inr (0, [.int 0, .ref (z1), .ref (z2), .ref (z3), .int 0, .ref (z4), .ref (z5), .ref (z6), .ref (z7), .int 0, .null, .null, .null, .int 0])), (z1, .inl (gI G, 6, .inl (fun _ => 0))), (z2, .inl (gI G, 6, .inl (fun _ => 0))), (z3, .inl (gI G, 6, .inl (fun _ => 0))), (z4, .inl (gI G, 5, .inl (fun _ => 0))), (z5, .inl (gI G, 5, .inl (fun _ => 0))), (z6, .inl (gI G, 5, .inl (fun _ => 0))), (z7, .inl (gI G, 5, .inl (fun _ => 0))), (z8, .inl (gI G, 5, .inl (fun _ => 0)))]) s.heap _ _ := hB
  refine bPut (ci := 0) (k := 10) (q0 := 0) (t := (.array .int)) (by decide) (by decide) hx hb hts hown hin rfl (mWrd_big (w := 83) rfl rfl) hK hB rfl (by decide +kernel) rfl rfl (Nat.le_of_ble_eq_true rfl) cD_Board_60 (fun H8_60 locs hB => ?_)
  have hB : bI G A ([(a, .inr (0, [.int 0, .ref (z1), .ref (z2), .ref (z3), .int 0, .ref (z4), .ref (z5), .ref (z6), .ref (z7), .int 0, .ref (z8), .null, .null, .int 0])), (z1, .inl (gI G, 6, .inl (fun _ => 0))), (z2, .inl (gI G, 6, .inl (fun _ => 0))), (z3, .inl (gI G, 6, .inl (fun _ => 0))), (z4, .inl (gI G, 5, .inl (fun _ => 0))), (z5, .inl (gI G, 5, .inl (fun _ => 0))), (z6, .inl (gI G, 5, .inl (fun _ => 0))), (z7, .inl (gI G, 5, .inl (fun _ => 0))), (z8, .inl (gI G, 5, .inl (fun _ => 0)))]) s.heap _ _ := hB
  refine lv_aload_n hx hb cD_Board_63 rfl (lv_at hl 0 rfl) ?_
  refine lv_iconst (v := 5) hx hb cD_Board_64 (by decide) ?_
  refine bArrI (N := 5) hx hb hts hK hB hA (by decide) (by decide) (Nat.le_of_ble_eq_true rfl) (Nat.le_of_ble_eq_true rfl) (Nat.le_of_ble_eq_true rfl) cD_Board_65 (fun z9 H9 hB => ?_)
  have hB : bI G A ([(a, .inr (0, [.int 0, .ref (z1), .ref (z2), .ref (z3), .int 0, .ref (z4), .ref (z5), .ref (z6), .ref (z7), .int 0, .ref (z8), .null, .null, .int 0])), (z1, .inl (gI G, 6, .inl (fun _ => 0))), (z2, .inl (gI G, 6, .inl (fun _ => 0))), (z3, .inl (gI G, 6, .inl (fun _ => 0))), (z4, .inl (gI G, 5, .inl (fun _ => 0))), (z5, .inl (gI G, 5, .inl (fun _ => 0))), (z6, .inl (gI G, 5, .inl (fun _ => 0))), (z7, .inl (gI G, 5, .inl (fun _ => 0))), (z8, .inl (gI G, 5, .inl (fun _ => 0))), (z9, .inl (gI G, 5, .inl (fun _ => 0)))]) s.heap _ _ := hB
  refine bPut (ci := 0) (k := 11) (q0 := 0) (t := (.array .int)) (by decide) (by decide) hx hb hts hown hin rfl (mWrd_big (w := 88) rfl rfl) hK hB rfl (by decide +kernel) rfl rfl (Nat.le_of_ble_eq_true rfl) cD_Board_67 (fun H9_67 locs hB => ?_)
  have hB : bI G A ([(a, .inr (0, [.int 0, .ref (z1), .ref (z2), .ref (z3), .int 0, .ref (z4), .ref (z5), .ref (z6), .ref (z7), .int 0, .ref (z8), .ref (z9), .null, .int 0])), (z1, .inl (gI G, 6, .inl (fun _ => 0))), (z2, .inl (gI G, 6, .inl (fun _ => 0))), (z3, .inl (gI G, 6, .inl (fun _ => 0))), (z4, .inl (gI G, 5, .inl (fun _ => 0))), (z5, .inl (gI G, 5, .inl (fun _ => 0))), (z6, .inl (gI G, 5, .inl (fun _ => 0))), (z7, .inl (gI G, 5, .inl (fun _ => 0))), (z8, .inl (gI G, 5, .inl (fun _ => 0))), (z9, .inl (gI G, 5, .inl (fun _ => 0)))]) s.heap _ _ := hB
  refine lv_aload_n hx hb cD_Board_70 rfl (lv_at hl 0 rfl) ?_
  refine lv_bipush (v := 25) hx hb cD_Board_71 (by decide) ?_
  refine bArrI (N := 25) hx hb hts hK hB hA (by decide) (by decide) (Nat.le_of_ble_eq_true rfl) (Nat.le_of_ble_eq_true rfl) (Nat.le_of_ble_eq_true rfl) cD_Board_73 (fun z10 H10 hB => ?_)
  have hB : bI G A ([(a, .inr (0, [.int 0, .ref (z1), .ref (z2), .ref (z3), .int 0, .ref (z4), .ref (z5), .ref (z6), .ref (z7), .int 0, .ref (z8), .ref (z9), .null, .int 0])), (z1, .inl (gI G, 6, .inl (fun _ => 0))), (z2, .inl (gI G, 6, .inl (fun _ => 0))), (z3, .inl (gI G, 6, .inl (fun _ => 0))), (z4, .inl (gI G, 5, .inl (fun _ => 0))), (z5, .inl (gI G, 5, .inl (fun _ => 0))), (z6, .inl (gI G, 5, .inl (fun _ => 0))), (z7, .inl (gI G, 5, .inl (fun _ => 0))), (z8, .inl (gI G, 5, .inl (fun _ => 0))), (z9, .inl (gI G, 5, .inl (fun _ => 0))), (z10, .inl (gI G, 25, .inl (fun _ => 0)))]) s.heap _ _ := hB
  refine bPut (ci := 0) (k := 12) (q0 := 0) (t := (.array .int)) (by decide) (by decide) hx hb hts hown hin rfl (mWrd_big (w := 92) rfl rfl) hK hB rfl (by decide +kernel) rfl rfl (Nat.le_of_ble_eq_true rfl) cD_Board_75 (fun H10_75 locs hB => ?_)
  have hB : bI G A ([(a, .inr (0, [.int 0, .ref (z1), .ref (z2), .ref (z3), .int 0, .ref (z4), .ref (z5), .ref (z6), .ref (z7), .int 0, .ref (z8), .ref (z9), .ref (z10), .int 0])), (z1, .inl (gI G, 6, .inl (fun _ => 0))), (z2, .inl (gI G, 6, .inl (fun _ => 0))), (z3, .inl (gI G, 6, .inl (fun _ => 0))), (z4, .inl (gI G, 5, .inl (fun _ => 0))), (z5, .inl (gI G, 5, .inl (fun _ => 0))), (z6, .inl (gI G, 5, .inl (fun _ => 0))), (z7, .inl (gI G, 5, .inl (fun _ => 0))), (z8, .inl (gI G, 5, .inl (fun _ => 0))), (z9, .inl (gI G, 5, .inl (fun _ => 0))), (z10, .inl (gI G, 25, .inl (fun _ => 0)))]) s.heap _ _ := hB
  refine lv_aload_n hx hb cD_Board_78 rfl (lv_at hl 0 rfl) ?_
  refine lv_iconst (v := 1) hx hb cD_Board_79 (by decide) ?_
  refine bPut (ci := 0) (k := 13) (q0 := 0) (t := .int) (by decide) (by decide) hx hb hts hown hin rfl (mWrd_big (w := 96) rfl rfl) hK hB rfl (by decide +kernel) rfl rfl (Nat.le_of_ble_eq_true rfl) cD_Board_80 (fun H10_80 locs hB => ?_)
  have hB : bI G A ([(a, .inr (0, [.int 0, .ref (z1), .ref (z2), .ref (z3), .int 0, .ref (z4), .ref (z5), .ref (z6), .ref (z7), .int 0, .ref (z8), .ref (z9), .ref (z10), .int 1])), (z1, .inl (gI G, 6, .inl (fun _ => 0))), (z2, .inl (gI G, 6, .inl (fun _ => 0))), (z3, .inl (gI G, 6, .inl (fun _ => 0))), (z4, .inl (gI G, 5, .inl (fun _ => 0))), (z5, .inl (gI G, 5, .inl (fun _ => 0))), (z6, .inl (gI G, 5, .inl (fun _ => 0))), (z7, .inl (gI G, 5, .inl (fun _ => 0))), (z8, .inl (gI G, 5, .inl (fun _ => 0))), (z9, .inl (gI G, 5, .inl (fun _ => 0))), (z10, .inl (gI G, 25, .inl (fun _ => 0)))]) s.heap _ _ := hB
  refine W.widen (k := 10) (n := 73) (Nat.le_of_ble_eq_true rfl) (Nat.le_of_ble_eq_true rfl) ?_
  exact W.vret hx hb hr (fun t ht _ => ⟨rfl, ⟨fun k => [a, z1, z2, z3, z4, z5, z6, z7, z8, z9, z10].getD k 0, rfl, by rw [ht]; exact hB.1, by rw [← hAe]; exact hB.2.1⟩, by rw [← hAe]; exact hB.2.2.F ht⟩) hB.2.2.2.2 cD_Board_83

/-! CONSTRUCTORS, part 9: TasterTable (by program, wip/gen/gen_table.py) -/
theorem cD_Table_0 : decode prog_1_method_1_code 0 = .ok (.aload_n 0, 1) := by decide +kernel
theorem cD_Table_1 : decode prog_1_method_1_code 1 = .ok (.invokespecial 1, 3) := by decide +kernel
theorem cD_Table_4 : decode prog_1_method_1_code 4 = .ok (.aload_n 0, 1) := by decide +kernel
theorem cD_Table_5 : decode prog_1_method_1_code 5 = .ok (.new 7, 3) := by decide +kernel
theorem cD_Table_8 : decode prog_1_method_1_code 8 = .ok (.dup, 1) := by decide +kernel
theorem cD_Table_9 : decode prog_1_method_1_code 9 = .ok (.invokespecial 9, 3) := by decide +kernel
theorem cD_Table_12 : decode prog_1_method_1_code 12 = .ok (.putfield 10, 3) := by decide +kernel
theorem cD_Table_15 : decode prog_1_method_1_code 15 = .ok (.aload_n 0, 1) := by decide +kernel
theorem cD_Table_16 : decode prog_1_method_1_code 16 = .ok (.new 7, 3) := by decide +kernel
theorem cD_Table_19 : decode prog_1_method_1_code 19 = .ok (.dup, 1) := by decide +kernel
theorem cD_Table_20 : decode prog_1_method_1_code 20 = .ok (.invokespecial 9, 3) := by decide +kernel
theorem cD_Table_23 : decode prog_1_method_1_code 23 = .ok (.putfield 16, 3) := by decide +kernel
theorem cD_Table_26 : decode prog_1_method_1_code 26 = .ok (.aload_n 0, 1) := by decide +kernel
theorem cD_Table_27 : decode prog_1_method_1_code 27 = .ok (.new 19, 3) := by decide +kernel
theorem cD_Table_30 : decode prog_1_method_1_code 30 = .ok (.dup, 1) := by decide +kernel
theorem cD_Table_31 : decode prog_1_method_1_code 31 = .ok (.invokespecial 21, 3) := by decide +kernel
theorem cD_Table_34 : decode prog_1_method_1_code 34 = .ok (.putfield 22, 3) := by decide +kernel
theorem cD_Table_37 : decode prog_1_method_1_code 37 = .ok (.aload_n 0, 1) := by decide +kernel
theorem cD_Table_38 : decode prog_1_method_1_code 38 = .ok (.new 26, 3) := by decide +kernel
theorem cD_Table_41 : decode prog_1_method_1_code 41 = .ok (.dup, 1) := by decide +kernel
theorem cD_Table_42 : decode prog_1_method_1_code 42 = .ok (.invokespecial 28, 3) := by decide +kernel
theorem cD_Table_45 : decode prog_1_method_1_code 45 = .ok (.putfield 29, 3) := by decide +kernel
theorem cD_Table_48 : decode prog_1_method_1_code 48 = .ok (.aload_n 0, 1) := by decide +kernel
theorem cD_Table_49 : decode prog_1_method_1_code 49 = .ok (.new 33, 3) := by decide +kernel
theorem cD_Table_52 : decode prog_1_method_1_code 52 = .ok (.dup, 1) := by decide +kernel
theorem cD_Table_53 : decode prog_1_method_1_code 53 = .ok (.invokespecial 35, 3) := by decide +kernel
theorem cD_Table_56 : decode prog_1_method_1_code 56 = .ok (.putfield 36, 3) := by decide +kernel
theorem cD_Table_59 : decode prog_1_method_1_code 59 = .ok (.aload_n 0, 1) := by decide +kernel
theorem cD_Table_60 : decode prog_1_method_1_code 60 = .ok (.new 40, 3) := by decide +kernel
theorem cD_Table_63 : decode prog_1_method_1_code 63 = .ok (.dup, 1) := by decide +kernel
theorem cD_Table_64 : decode prog_1_method_1_code 64 = .ok (.invokespecial 42, 3) := by decide +kernel
theorem cD_Table_67 : decode prog_1_method_1_code 67 = .ok (.putfield 43, 3) := by decide +kernel
theorem cD_Table_70 : decode prog_1_method_1_code 70 = .ok (.aload_n 0, 1) := by decide +kernel
theorem cD_Table_71 : decode prog_1_method_1_code 71 = .ok (.new 40, 3) := by decide +kernel
theorem cD_Table_74 : decode prog_1_method_1_code 74 = .ok (.dup, 1) := by decide +kernel
theorem cD_Table_75 : decode prog_1_method_1_code 75 = .ok (.invokespecial 42, 3) := by decide +kernel
theorem cD_Table_78 : decode prog_1_method_1_code 78 = .ok (.putfield 47, 3) := by decide +kernel
theorem cD_Table_81 : decode prog_1_method_1_code 81 = .ok (.aload_n 0, 1) := by decide +kernel
theorem cD_Table_82 : decode prog_1_method_1_code 82 = .ok (.new 50, 3) := by decide +kernel
theorem cD_Table_85 : decode prog_1_method_1_code 85 = .ok (.dup, 1) := by decide +kernel
theorem cD_Table_86 : decode prog_1_method_1_code 86 = .ok (.invokespecial 52, 3) := by decide +kernel
theorem cD_Table_89 : decode prog_1_method_1_code 89 = .ok (.putfield 53, 3) := by decide +kernel
theorem cD_Table_92 : decode prog_1_method_1_code 92 = .ok (.aload_n 0, 1) := by decide +kernel
theorem cD_Table_93 : decode prog_1_method_1_code 93 = .ok (.new 50, 3) := by decide +kernel
theorem cD_Table_96 : decode prog_1_method_1_code 96 = .ok (.dup, 1) := by decide +kernel
theorem cD_Table_97 : decode prog_1_method_1_code 97 = .ok (.invokespecial 52, 3) := by decide +kernel
theorem cD_Table_100 : decode prog_1_method_1_code 100 = .ok (.putfield 57, 3) := by decide +kernel
theorem cD_Table_103 : decode prog_1_method_1_code 103 = .ok (.aload_n 0, 1) := by decide +kernel
theorem cD_Table_104 : decode prog_1_method_1_code 104 = .ok (.iconst (-1), 1) := by decide +kernel
theorem cD_Table_105 : decode prog_1_method_1_code 105 = .ok (.putfield 60, 3) := by decide +kernel
theorem cD_Table_108 : decode prog_1_method_1_code 108 = .ok (.aload_n 0, 1) := by decide +kernel
theorem cD_Table_109 : decode prog_1_method_1_code 109 = .ok (.iconst (-1), 1) := by decide +kernel
theorem cD_Table_110 : decode prog_1_method_1_code 110 = .ok (.putfield 64, 3) := by decide +kernel
theorem cD_Table_113 : decode prog_1_method_1_code 113 = .ok (.return_, 1) := by decide +kernel
def wTable (G : mG) (ad : Nat → Nat) : va_W := [(ad 0, .inr (7, [.ref (ad 1), .ref (ad 12), .ref (ad 23), .ref (ad 26), .ref (ad 87), .ref (ad 90), .ref (ad 96), .ref (ad 102), .ref (ad 108), .int 0, .int (-1), .int (-1), .int 0, .int 0, .int 0]))] ++ wBoard G (fun k => ad (1 + k)) ++ wBoard G (fun k => ad (12 + k)) ++ wReader G (fun k => ad (23 + k)) ++ wPlanner G (fun k => ad (26 + k)) ++ wJudge G (fun k => ad (87 + k)) ++ wLog G (fun k => ad (90 + k)) ++ wLog G (fun k => ad (96 + k)) ++ wCourt G (fun k => ad (102 + k)) ++ wCourt G (fun k => ad (108 + k))
theorem cF_Table : cFacts RX7 prog_1_method_1_code 1 := ⟨(mWrd_big (w := 27) rfl rfl), (mWrd_big (w := 1) rfl rfl), by decide +kernel, ⟨by decide, by decide⟩, by decide, (mWrd_big (w := 26) rfl rfl)⟩
set_option maxHeartbeats 4000000 in
set_option maxRecDepth 100000 in
theorem c_Table (G : mG) (l : Launch) : cMet G l RX7 prog_1_method_1_code 1 3 113 8907 7 (bZ tyX7 15) (wTable G) := by
  refine cMet_of (by decide +kernel) (fun p e s mid args below meth cd a A hAe C hA hB => ?_)
  obtain ⟨hx, hb, hml, hr, hown, hts, hlocks, hin, hK⟩ := C
  have hB : bI G A [(a, .inr (7, [.null, .null, .null, .null, .null, .null, .null, .null, .null, .int 0, .int 0, .int 0, .int 0, .int 0, .int 0]))] s.heap s.heap [] := hB
  have hl := lv_entry [Value.ref a] (n := 1) (Nat.le_of_ble_eq_true rfl)
  generalize (lg_sl [Value.ref a] ++ List.replicate (1 - (lg_sl [Value.ref a]).length) Slot.unset).toArray = ls at hl ⊢
  have hl : lv_has ls 1 [(0, .ref a)] := hl
  refine lv_aload_n hx hb cD_Table_0 rfl (lv_at hl 0 rfl) ?_
  refine W.objInit hx hb hown (hts _ (mWrd_big (w := 28) rfl rfl)) (hts _ (mWrd_big (w := 29) rfl rfl)) (hts _ (mWrd_big (w := 30) rfl rfl)) rfl (by rw [hml]; exact hl.1) rfl cD_Table_1 (Nat.le_of_ble_eq_true rfl) (Nat.le_of_ble_eq_true rfl) ?_
  refine W.eq (g2 := F0 mid 4 ls []) rfl ?_
  refine lv_aload_n hx hb cD_Table_4 rfl (lv_at hl 0 rfl) ?_
  refine bNew (ci := 0) (by decide) tyX0 tyX0_ok hx hb hts hown (mWrd_big (w := 31) rfl rfl) (mWrd_big (w := 32) rfl rfl) (mWrd_big (w := 2) rfl rfl) hK hB hA (Nat.le_of_ble_eq_true rfl) (Nat.le_of_ble_eq_true rfl) cD_Table_5 (fun z1 H1 hB => ?_)
  refine lv_dup hx hb cD_Table_8 rfl ?_
  refine cCallN (ws := [(a, .inr (7, [.null, .null, .null, .null, .null, .null, .null, .null, .null, .int 0, .int 0, .int 0, .int 0, .int 0, .int 0]))]) (ci := 0) cF_Board (by simp [bNst, RX5, RX7, RX0, RX1, RX2, RX4, RX6]) hx hb (by rw [hml]; exact hl.1.symm) hown hts hK hB hA (c_Board G l) (Nat.le_of_ble_eq_true rfl) ⟨(Nat.le_of_ble_eq_true rfl), (Nat.le_of_ble_eq_true rfl)⟩ ⟨(Nat.le_of_ble_eq_true rfl), (Nat.le_of_ble_eq_true rfl)⟩ cD_Table_9 (fun ad1 H1c locs e9 hB2 => ?_)
  subst e9
  have hB : bI G A ([(a, .inr (7, [.null, .null, .null, .null, .null, .null, .null, .null, .null, .int 0, .int 0, .int 0, .int 0, .int 0, .int 0]))] ++ wBoard G ad1) s.heap _ _ := hB2
  refine bPut (ci := 7) (k := 0) (q0 := 0) (t := (.object "TasterTable$Board")) (by decide) (by decide) hx hb hts hown hin rfl (mWrd_big (w := 360) rfl rfl) hK hB rfl (by decide +kernel) rfl rfl (Nat.le_of_ble_eq_true rfl) cD_Table_12 (fun H1_12 locs hB => ?_)
  have hB : bI G A ([(a, .inr (7, [.ref (ad1 0), .null, .null, .null, .null, .null, .null, .null, .null, .int 0, .int 0, .int 0, .int 0, .int 0, .int 0]))] ++ wBoard G ad1) s.heap _ _ := hB
  refine lv_aload_n hx hb cD_Table_15 rfl (lv_at hl 0 rfl) ?_
  refine bNew (ci := 0) (by decide) tyX0 tyX0_ok hx hb hts hown (mWrd_big (w := 31) rfl rfl) (mWrd_big (w := 32) rfl rfl) (mWrd_big (w := 2) rfl rfl) hK hB hA (Nat.le_of_ble_eq_true rfl) (Nat.le_of_ble_eq_true rfl) cD_Table_16 (fun z2 H2 hB => ?_)
  refine lv_dup hx hb cD_Table_19 rfl ?_
  refine cCallN (ws := [(a, .inr (7, [.ref (ad1 0), .null, .null, .null, .null, .null, .null, .null, .null, .int 0, .int 0, .int 0, .int 0, .int 0, .int 0]))] ++ wBoard G ad1) (ci := 0) cF_Board (by simp [bNst, RX5, RX7, RX0, RX1, RX2, RX4, RX6]) hx hb (by rw [hml]; exact hl.1.symm) hown hts hK hB hA (c_Board G l) (Nat.le_of_ble_eq_true rfl) ⟨(Nat.le_of_ble_eq_true rfl), (Nat.le_of_ble_eq_true rfl)⟩ ⟨(Nat.le_of_ble_eq_true rfl), (Nat.le_of_ble_eq_true rfl)⟩ cD_Table_20 (fun ad2 H2c locs e9 hB2 => ?_)
  subst e9
  have hB : bI G A ([(a, .inr (7, [.ref (ad1 0), .null, .null, .null, .null, .null, .null, .null, .null, .int 0, .int 0, .int 0, .int 0, .int 0, .int 0]))] ++ wBoard G ad1 ++ wBoard G ad2) s.heap _ _ := hB2
  refine bPut (ci := 7) (k := 1) (q0 := 0) (t := (.object "TasterTable$Board")) (by decide) (by decide) hx hb hts hown hin rfl (mWrd_big (w := 361) rfl rfl) hK hB rfl (by decide +kernel) rfl rfl (Nat.le_of_ble_eq_true rfl) cD_Table_23 (fun H2_23 locs hB => ?_)
  have hB : bI G A ([(a, .inr (7, [.ref (ad1 0), .ref (ad2 0), .null, .null, .null, .null, .null, .null, .null, .int 0, .int 0, .int 0, .int 0, .int 0, .int 0]))] ++ wBoard G ad1 ++ wBoard G ad2) s.heap _ _ := hB
  refine lv_aload_n hx hb cD_Table_26 rfl (lv_at hl 0 rfl) ?_
  refine bNew (ci := 6) (by decide) tyX6 tyX6_ok hx hb hts hown (mWrd_big (w := 130) rfl rfl) (mWrd_big (w := 131) rfl rfl) (mWrd_big (w := 3) rfl rfl) hK hB hA (Nat.le_of_ble_eq_true rfl) (Nat.le_of_ble_eq_true rfl) cD_Table_27 (fun z3 H3 hB => ?_)
  refine lv_dup hx hb cD_Table_30 rfl ?_
  refine cCallN (ws := [(a, .inr (7, [.ref (ad1 0), .ref (ad2 0), .null, .null, .null, .null, .null, .null, .null, .int 0, .int 0, .int 0, .int 0, .int 0, .int 0]))] ++ wBoard G ad1 ++ wBoard G ad2) (ci := 6) cF_Reader (by simp [bNst, RX5, RX7, RX0, RX1, RX2, RX4, RX6]) hx hb (by rw [hml]; exact hl.1.symm) hown hts hK hB hA (c_Reader G l) (Nat.le_of_ble_eq_true rfl) ⟨(Nat.le_of_ble_eq_true rfl), (Nat.le_of_ble_eq_true rfl)⟩ ⟨(Nat.le_of_ble_eq_true rfl), (Nat.le_of_ble_eq_true rfl)⟩ cD_Table_31 (fun ad3 H3c locs e9 hB2 => ?_)
  subst e9
  have hB : bI G A ([(a, .inr (7, [.ref (ad1 0), .ref (ad2 0), .null, .null, .null, .null, .null, .null, .null, .int 0, .int 0, .int 0, .int 0, .int 0, .int 0]))] ++ wBoard G ad1 ++ wBoard G ad2 ++ wReader G ad3) s.heap _ _ := hB2
  refine bPut (ci := 7) (k := 2) (q0 := 0) (t := (.object "TasterTable$Reader")) (by decide) (by decide) hx hb hts hown hin rfl (mWrd_big (w := 362) rfl rfl) hK hB rfl (by decide +kernel) rfl rfl (Nat.le_of_ble_eq_true rfl) cD_Table_34 (fun H3_34 locs hB => ?_)
  have hB : bI G A ([(a, .inr (7, [.ref (ad1 0), .ref (ad2 0), .ref (ad3 0), .null, .null, .null, .null, .null, .null, .int 0, .int 0, .int 0, .int 0, .int 0, .int 0]))] ++ wBoard G ad1 ++ wBoard G ad2 ++ wReader G ad3) s.heap _ _ := hB
  refine lv_aload_n hx hb cD_Table_37 rfl (lv_at hl 0 rfl) ?_
  refine bNew (ci := 5) (by decide) tyX5 tyX5_ok hx hb hts hown (mWrd_big (w := 173) rfl rfl) (mWrd_big (w := 174) rfl rfl) (mWrd_big (w := 4) rfl rfl) hK hB hA (Nat.le_of_ble_eq_true rfl) (Nat.le_of_ble_eq_true rfl) cD_Table_38 (fun z4 H4 hB => ?_)
  refine lv_dup hx hb cD_Table_41 rfl ?_
  refine cCall (ws := [(a, .inr (7, [.ref (ad1 0), .ref (ad2 0), .ref (ad3 0), .null, .null, .null, .null, .null, .null, .int 0, .int 0, .int 0, .int 0, .int 0, .int 0]))] ++ wBoard G ad1 ++ wBoard G ad2 ++ wReader G ad3) (ci := 5) cF_Planner (mWrd_big (w := 175) rfl rfl) hx hb (by rw [hml]; exact hl.1.symm) hown hts hK hB hA (c_Planner G l) (Nat.le_of_ble_eq_true rfl) ⟨(Nat.le_of_ble_eq_true rfl), (Nat.le_of_ble_eq_true rfl)⟩ ⟨(Nat.le_of_ble_eq_true rfl), (Nat.le_of_ble_eq_true rfl)⟩ cD_Table_42 (fun ad4 H4c locs e9 hB2 => ?_)
  subst e9
  have hB : bI G A ([(a, .inr (7, [.ref (ad1 0), .ref (ad2 0), .ref (ad3 0), .null, .null, .null, .null, .null, .null, .int 0, .int 0, .int 0, .int 0, .int 0, .int 0]))] ++ wBoard G ad1 ++ wBoard G ad2 ++ wReader G ad3 ++ wPlanner G ad4) s.heap _ _ := hB2
  refine bPut (ci := 7) (k := 3) (q0 := 0) (t := (.object "TasterTable$Planner")) (by decide) (by decide) hx hb hts hown hin rfl (mWrd_big (w := 363) rfl rfl) hK hB rfl (by decide +kernel) rfl rfl (Nat.le_of_ble_eq_true rfl) cD_Table_45 (fun H4_45 locs hB => ?_)
  have hB : bI G A ([(a, .inr (7, [.ref (ad1 0), .ref (ad2 0), .ref (ad3 0), .ref (ad4 0), .null, .null, .null, .null, .null, .int 0, .int 0, .int 0, .int 0, .int 0, .int 0]))] ++ wBoard G ad1 ++ wBoard G ad2 ++ wReader G ad3 ++ wPlanner G ad4) s.heap _ _ := hB
  refine lv_aload_n hx hb cD_Table_48 rfl (lv_at hl 0 rfl) ?_
  refine bNew (ci := 2) (by decide) tyX2 tyX2_ok hx hb hts hown (mWrd_big (w := 242) rfl rfl) (mWrd_big (w := 243) rfl rfl) (mWrd_big (w := 6) rfl rfl) hK hB hA (Nat.le_of_ble_eq_true rfl) (Nat.le_of_ble_eq_true rfl) cD_Table_49 (fun z5 H5 hB => ?_)
  refine lv_dup hx hb cD_Table_52 rfl ?_
  refine cCallN (ws := [(a, .inr (7, [.ref (ad1 0), .ref (ad2 0), .ref (ad3 0), .ref (ad4 0), .null, .null, .null, .null, .null, .int 0, .int 0, .int 0, .int 0, .int 0, .int 0]))] ++ wBoard G ad1 ++ wBoard G ad2 ++ wReader G ad3 ++ wPlanner G ad4) (ci := 2) cF_Judge (by simp [bNst, RX5, RX7, RX0, RX1, RX2, RX4, RX6]) hx hb (by rw [hml]; exact hl.1.symm) hown hts hK hB hA (c_Judge G l) (Nat.le_of_ble_eq_true rfl) ⟨(Nat.le_of_ble_eq_true rfl), (Nat.le_of_ble_eq_true rfl)⟩ ⟨(Nat.le_of_ble_eq_true rfl), (Nat.le_of_ble_eq_true rfl)⟩ cD_Table_53 (fun ad5 H5c locs e9 hB2 => ?_)
  subst e9
  have hB : bI G A ([(a, .inr (7, [.ref (ad1 0), .ref (ad2 0), .ref (ad3 0), .ref (ad4 0), .null, .null, .null, .null, .null, .int 0, .int 0, .int 0, .int 0, .int 0, .int 0]))] ++ wBoard G ad1 ++ wBoard G ad2 ++ wReader G ad3 ++ wPlanner G ad4 ++ wJudge G ad5) s.heap _ _ := hB2
  refine bPut (ci := 7) (k := 4) (q0 := 0) (t := (.object "TasterTable$Judge")) (by decide) (by decide) hx hb hts hown hin rfl (mWrd_big (w := 364) rfl rfl) hK hB rfl (by decide +kernel) rfl rfl (Nat.le_of_ble_eq_true rfl) cD_Table_56 (fun H5_56 locs hB => ?_)
  have hB : bI G A ([(a, .inr (7, [.ref (ad1 0), .ref (ad2 0), .ref (ad3 0), .ref (ad4 0), .ref (ad5 0), .null, .null, .null, .null, .int 0, .int 0, .int 0, .int 0, .int 0, .int 0]))] ++ wBoard G ad1 ++ wBoard G ad2 ++ wReader G ad3 ++ wPlanner G ad4 ++ wJudge G ad5) s.heap _ _ := hB
  refine lv_aload_n hx hb cD_Table_59 rfl (lv_at hl 0 rfl) ?_
  refine bNew (ci := 3) (by decide) tyX3 tyX3_ok hx hb hts hown (mWrd_big (w := 279) rfl rfl) (mWrd_big (w := 280) rfl rfl) (mWrd_big (w := 7) rfl rfl) hK hB hA (Nat.le_of_ble_eq_true rfl) (Nat.le_of_ble_eq_true rfl) cD_Table_60 (fun z6 H6 hB => ?_)
  refine lv_dup hx hb cD_Table_63 rfl ?_
  refine cCall (ws := [(a, .inr (7, [.ref (ad1 0), .ref (ad2 0), .ref (ad3 0), .ref (ad4 0), .ref (ad5 0), .null, .null, .null, .null, .int 0, .int 0, .int 0, .int 0, .int 0, .int 0]))] ++ wBoard G ad1 ++ wBoard G ad2 ++ wReader G ad3 ++ wPlanner G ad4 ++ wJudge G ad5) (ci := 3) cF_Log (mWrd_big (w := 281) rfl rfl) hx hb (by rw [hml]; exact hl.1.symm) hown hts hK hB hA (c_Log G l) (Nat.le_of_ble_eq_true rfl) ⟨(Nat.le_of_ble_eq_true rfl), (Nat.le_of_ble_eq_true rfl)⟩ ⟨(Nat.le_of_ble_eq_true rfl), (Nat.le_of_ble_eq_true rfl)⟩ cD_Table_64 (fun ad6 H6c locs e9 hB2 => ?_)
  subst e9
  have hB : bI G A ([(a, .inr (7, [.ref (ad1 0), .ref (ad2 0), .ref (ad3 0), .ref (ad4 0), .ref (ad5 0), .null, .null, .null, .null, .int 0, .int 0, .int 0, .int 0, .int 0, .int 0]))] ++ wBoard G ad1 ++ wBoard G ad2 ++ wReader G ad3 ++ wPlanner G ad4 ++ wJudge G ad5 ++ wLog G ad6) s.heap _ _ := hB2
  refine bPut (ci := 7) (k := 5) (q0 := 0) (t := (.object "TasterTable$Log")) (by decide) (by decide) hx hb hts hown hin rfl (mWrd_big (w := 365) rfl rfl) hK hB rfl (by decide +kernel) rfl rfl (Nat.le_of_ble_eq_true rfl) cD_Table_67 (fun H6_67 locs hB => ?_)
  have hB : bI G A ([(a, .inr (7, [.ref (ad1 0), .ref (ad2 0), .ref (ad3 0), .ref (ad4 0), .ref (ad5 0), .ref (ad6 0), .null, .null, .null, .int 0, .int 0, .int 0, .int 0, .int 0, .int 0]))] ++ wBoard G ad1 ++ wBoard G ad2 ++ wReader G ad3 ++ wPlanner G ad4 ++ wJudge G ad5 ++ wLog G ad6) s.heap _ _ := hB
  refine lv_aload_n hx hb cD_Table_70 rfl (lv_at hl 0 rfl) ?_
  refine bNew (ci := 3) (by decide) tyX3 tyX3_ok hx hb hts hown (mWrd_big (w := 279) rfl rfl) (mWrd_big (w := 280) rfl rfl) (mWrd_big (w := 7) rfl rfl) hK hB hA (Nat.le_of_ble_eq_true rfl) (Nat.le_of_ble_eq_true rfl) cD_Table_71 (fun z7 H7 hB => ?_)
  refine lv_dup hx hb cD_Table_74 rfl ?_
  refine cCall (ws := [(a, .inr (7, [.ref (ad1 0), .ref (ad2 0), .ref (ad3 0), .ref (ad4 0), .ref (ad5 0), .ref (ad6 0), .null, .null, .null, .int 0, .int 0, .int 0, .int 0, .int 0, .int 0]))] ++ wBoard G ad1 ++ wBoard G ad2 ++ wReader G ad3 ++ wPlanner G ad4 ++ wJudge G ad5 ++ wLog G ad6) (ci := 3) cF_Log (mWrd_big (w := 281) rfl rfl) hx hb (by rw [hml]; exact hl.1.symm) hown hts hK hB hA (c_Log G l) (Nat.le_of_ble_eq_true rfl) ⟨(Nat.le_of_ble_eq_true rfl), (Nat.le_of_ble_eq_true rfl)⟩ ⟨(Nat.le_of_ble_eq_true rfl), (Nat.le_of_ble_eq_true rfl)⟩ cD_Table_75 (fun ad7 H7c locs e9 hB2 => ?_)
  subst e9
  have hB : bI G A ([(a, .inr (7, [.ref (ad1 0), .ref (ad2 0), .ref (ad3 0), .ref (ad4 0), .ref (ad5 0), .ref (ad6 0), .null, .null, .null, .int 0, .int 0, .int 0, .int 0, .int 0, .int 0]))] ++ wBoard G ad1 ++ wBoard G ad2 ++ wReader G ad3 ++ wPlanner G ad4 ++ wJudge G ad5 ++ wLog G ad6 ++ wLog G ad7) s.heap _ _ := hB2
  refine bPut (ci := 7) (k := 6) (q0 := 0) (t := (.object "TasterTable$Log")) (by decide) (by decide) hx hb hts hown hin rfl (mWrd_big (w := 366) rfl rfl) hK hB rfl (by decide +kernel) rfl rfl (Nat.le_of_ble_eq_true rfl) cD_Table_78 (fun H7_78 locs hB => ?_)
  have hB : bI G A ([(a, .inr (7, [.ref (ad1 0), .ref (ad2 0), .ref (ad3 0), .ref (ad4 0), .ref (ad5 0), .ref (ad6 0), .ref (ad7 0), .null, .null, .int 0, .int 0, .int 0, .int 0, .int 0, .int 0]))] ++ wBoard G ad1 ++ wBoard G ad2 ++ wReader G ad3 ++ wPlanner G ad4 ++ wJudge G ad5 ++ wLog G ad6 ++ wLog G ad7) s.heap _ _ := hB
  refine lv_aload_n hx hb cD_Table_81 rfl (lv_at hl 0 rfl) ?_
  refine bNew (ci := 1) (by decide) tyX1 tyX1_ok hx hb hts hown (mWrd_big (w := 315) rfl rfl) (mWrd_big (w := 316) rfl rfl) (mWrd_big (w := 9) rfl rfl) hK hB hA (Nat.le_of_ble_eq_true rfl) (Nat.le_of_ble_eq_true rfl) cD_Table_82 (fun z8 H8 hB => ?_)
  refine lv_dup hx hb cD_Table_85 rfl ?_
  refine cCallN (ws := [(a, .inr (7, [.ref (ad1 0), .ref (ad2 0), .ref (ad3 0), .ref (ad4 0), .ref (ad5 0), .ref (ad6 0), .ref (ad7 0), .null, .null, .int 0, .int 0, .int 0, .int 0, .int 0, .int 0]))] ++ wBoard G ad1 ++ wBoard G ad2 ++ wReader G ad3 ++ wPlanner G ad4 ++ wJudge G ad5 ++ wLog G ad6 ++ wLog G ad7) (ci := 1) cF_Court (by simp [bNst, RX5, RX7, RX0, RX1, RX2, RX4, RX6]) hx hb (by rw [hml]; exact hl.1.symm) hown hts hK hB hA (c_Court G l) (Nat.le_of_ble_eq_true rfl) ⟨(Nat.le_of_ble_eq_true rfl), (Nat.le_of_ble_eq_true rfl)⟩ ⟨(Nat.le_of_ble_eq_true rfl), (Nat.le_of_ble_eq_true rfl)⟩ cD_Table_86 (fun ad8 H8c locs e9 hB2 => ?_)
  subst e9
  have hB : bI G A ([(a, .inr (7, [.ref (ad1 0), .ref (ad2 0), .ref (ad3 0), .ref (ad4 0), .ref (ad5 0), .ref (ad6 0), .ref (ad7 0), .null, .null, .int 0, .int 0, .int 0, .int 0, .int 0, .int 0]))] ++ wBoard G ad1 ++ wBoard G ad2 ++ wReader G ad3 ++ wPlanner G ad4 ++ wJudge G ad5 ++ wLog G ad6 ++ wLog G ad7 ++ wCourt G ad8) s.heap _ _ := hB2
  refine bPut (ci := 7) (k := 7) (q0 := 0) (t := (.object "TasterTable$Court")) (by decide) (by decide) hx hb hts hown hin rfl (mWrd_big (w := 367) rfl rfl) hK hB rfl (by decide +kernel) rfl rfl (Nat.le_of_ble_eq_true rfl) cD_Table_89 (fun H8_89 locs hB => ?_)
  have hB : bI G A ([(a, .inr (7, [.ref (ad1 0), .ref (ad2 0), .ref (ad3 0), .ref (ad4 0), .ref (ad5 0), .ref (ad6 0), .ref (ad7 0), .ref (ad8 0), .null, .int 0, .int 0, .int 0, .int 0, .int 0, .int 0]))] ++ wBoard G ad1 ++ wBoard G ad2 ++ wReader G ad3 ++ wPlanner G ad4 ++ wJudge G ad5 ++ wLog G ad6 ++ wLog G ad7 ++ wCourt G ad8) s.heap _ _ := hB
  refine lv_aload_n hx hb cD_Table_92 rfl (lv_at hl 0 rfl) ?_
  refine bNew (ci := 1) (by decide) tyX1 tyX1_ok hx hb hts hown (mWrd_big (w := 315) rfl rfl) (mWrd_big (w := 316) rfl rfl) (mWrd_big (w := 9) rfl rfl) hK hB hA (Nat.le_of_ble_eq_true rfl) (Nat.le_of_ble_eq_true rfl) cD_Table_93 (fun z9 H9 hB => ?_)
  refine lv_dup hx hb cD_Table_96 rfl ?_
  refine cCallN (ws := [(a, .inr (7, [.ref (ad1 0), .ref (ad2 0), .ref (ad3 0), .ref (ad4 0), .ref (ad5 0), .ref (ad6 0), .ref (ad7 0), .ref (ad8 0), .null, .int 0, .int 0, .int 0, .int 0, .int 0, .int 0]))] ++ wBoard G ad1 ++ wBoard G ad2 ++ wReader G ad3 ++ wPlanner G ad4 ++ wJudge G ad5 ++ wLog G ad6 ++ wLog G ad7 ++ wCourt G ad8) (ci := 1) cF_Court (by simp [bNst, RX5, RX7, RX0, RX1, RX2, RX4, RX6]) hx hb (by rw [hml]; exact hl.1.symm) hown hts hK hB hA (c_Court G l) (Nat.le_of_ble_eq_true rfl) ⟨(Nat.le_of_ble_eq_true rfl), (Nat.le_of_ble_eq_true rfl)⟩ ⟨(Nat.le_of_ble_eq_true rfl), (Nat.le_of_ble_eq_true rfl)⟩ cD_Table_97 (fun ad9 H9c locs e9 hB2 => ?_)
  subst e9
  have hB : bI G A ([(a, .inr (7, [.ref (ad1 0), .ref (ad2 0), .ref (ad3 0), .ref (ad4 0), .ref (ad5 0), .ref (ad6 0), .ref (ad7 0), .ref (ad8 0), .null, .int 0, .int 0, .int 0, .int 0, .int 0, .int 0]))] ++ wBoard G ad1 ++ wBoard G ad2 ++ wReader G ad3 ++ wPlanner G ad4 ++ wJudge G ad5 ++ wLog G ad6 ++ wLog G ad7 ++ wCourt G ad8 ++ wCourt G ad9) s.heap _ _ := hB2
  refine bPut (ci := 7) (k := 8) (q0 := 0) (t := (.object "TasterTable$Court")) (by decide) (by decide) hx hb hts hown hin rfl (mWrd_big (w := 368) rfl rfl) hK hB rfl (by decide +kernel) rfl rfl (Nat.le_of_ble_eq_true rfl) cD_Table_100 (fun H9_100 locs hB => ?_)
  have hB : bI G A ([(a, .inr (7, [.ref (ad1 0), .ref (ad2 0), .ref (ad3 0), .ref (ad4 0), .ref (ad5 0), .ref (ad6 0), .ref (ad7 0), .ref (ad8 0), .ref (ad9 0), .int 0, .int 0, .int 0, .int 0, .int 0, .int 0]))] ++ wBoard G ad1 ++ wBoard G ad2 ++ wReader G ad3 ++ wPlanner G ad4 ++ wJudge G ad5 ++ wLog G ad6 ++ wLog G ad7 ++ wCourt G ad8 ++ wCourt G ad9) s.heap _ _ := hB
  refine lv_aload_n hx hb cD_Table_103 rfl (lv_at hl 0 rfl) ?_
  refine lv_iconst (v := -1) hx hb cD_Table_104 (by decide) ?_
  refine bPut (ci := 7) (k := 10) (q0 := 0) (t := .int) (by decide) (by decide) hx hb hts hown hin rfl (mWrd_big (w := 370) rfl rfl) hK hB rfl (by decide +kernel) rfl rfl (Nat.le_of_ble_eq_true rfl) cD_Table_105 (fun H9_105 locs hB => ?_)
  have hB : bI G A ([(a, .inr (7, [.ref (ad1 0), .ref (ad2 0), .ref (ad3 0), .ref (ad4 0), .ref (ad5 0), .ref (ad6 0), .ref (ad7 0), .ref (ad8 0), .ref (ad9 0), .int 0, .int (-1), .int 0, .int 0, .int 0, .int 0]))] ++ wBoard G ad1 ++ wBoard G ad2 ++ wReader G ad3 ++ wPlanner G ad4 ++ wJudge G ad5 ++ wLog G ad6 ++ wLog G ad7 ++ wCourt G ad8 ++ wCourt G ad9) s.heap _ _ := hB
  refine lv_aload_n hx hb cD_Table_108 rfl (lv_at hl 0 rfl) ?_
  refine lv_iconst (v := -1) hx hb cD_Table_109 (by decide) ?_
  refine bPut (ci := 7) (k := 11) (q0 := 0) (t := .int) (by decide) (by decide) hx hb hts hown hin rfl (mWrd_big (w := 371) rfl rfl) hK hB rfl (by decide +kernel) rfl rfl (Nat.le_of_ble_eq_true rfl) cD_Table_110 (fun H9_110 locs hB => ?_)
  have hB : bI G A ([(a, .inr (7, [.ref (ad1 0), .ref (ad2 0), .ref (ad3 0), .ref (ad4 0), .ref (ad5 0), .ref (ad6 0), .ref (ad7 0), .ref (ad8 0), .ref (ad9 0), .int 0, .int (-1), .int (-1), .int 0, .int 0, .int 0]))] ++ wBoard G ad1 ++ wBoard G ad2 ++ wReader G ad3 ++ wPlanner G ad4 ++ wJudge G ad5 ++ wLog G ad6 ++ wLog G ad7 ++ wCourt G ad8 ++ wCourt G ad9) s.heap _ _ := hB
  refine W.widen (k := 113) (n := 8907) (Nat.le_of_ble_eq_true rfl) (Nat.le_of_ble_eq_true rfl) ?_
  have key : ∀ f : Nat → Nat, (∀ k, f k = (fun k => bif Nat.blt k 1 then a else bif Nat.blt k 12 then ad1 (k - 1) else bif Nat.blt k 23 then ad2 (k - 12) else bif Nat.blt k 26 then ad3 (k - 23) else bif Nat.blt k 87 then ad4 (k - 26) else bif Nat.blt k 90 then ad5 (k - 87) else bif Nat.blt k 96 then ad6 (k - 90) else bif Nat.blt k 102 then ad7 (k - 96) else bif Nat.blt k 108 then ad8 (k - 102) else ad9 (k - 108)) k) → wTable G f = [(a, .inr (7, [.ref (ad1 0), .ref (ad2 0), .ref (ad3 0), .ref (ad4 0), .ref (ad5 0), .ref (ad6 0), .ref (ad7 0), .ref (ad8 0), .ref (ad9 0), .int 0, .int (-1), .int (-1), .int 0, .int 0, .int 0]))] ++ wBoard G ad1 ++ wBoard G ad2 ++ wReader G ad3 ++ wPlanner G ad4 ++ wJudge G ad5 ++ wLog G ad6 ++ wLog G ad7 ++ wCourt G ad8 ++ wCourt G ad9 := by
    intro f hf
    have e0 : wBoard G (fun k => f (1 + k)) = wBoard G ad1 := wBoard_congr G (fun k hk => by
      show f (1 + k) = ad1 k
      rw [hf]
      show (bif Nat.blt (1 + k) 1 then a else bif Nat.blt (1 + k) 12 then ad1 (1 + k - 1) else bif Nat.blt (1 + k) 23 then ad2 (1 + k - 12) else bif Nat.blt (1 + k) 26 then ad3 (1 + k - 23) else bif Nat.blt (1 + k) 87 then ad4 (1 + k - 26) else bif Nat.blt (1 + k) 90 then ad5 (1 + k - 87) else bif Nat.blt (1 + k) 96 then ad6 (1 + k - 90) else bif Nat.blt (1 + k) 102 then ad7 (1 + k - 96) else bif Nat.blt (1 + k) 108 then ad8 (1 + k - 102) else ad9 (1 + k - 108)) = ad1 k
      rw [mBltF (by omega), bltT (by omega)]
      show ad1 (1 + k - 1) = ad1 k
      rw [Nat.add_sub_cancel_left])
    have e1 : wBoard G (fun k => f (12 + k)) = wBoard G ad2 := wBoard_congr G (fun k hk => by
      show f (12 + k) = ad2 k
      rw [hf]
      show (bif Nat.blt (12 + k) 1 then a else bif Nat.blt (12 + k) 12 then ad1 (12 + k - 1) else bif Nat.blt (12 + k) 23 then ad2 (12 + k - 12) else bif Nat.blt (12 + k) 26 then ad3 (12 + k - 23) else bif Nat.blt (12 + k) 87 then ad4 (12 + k - 26) else bif Nat.blt (12 + k) 90 then ad5 (12 + k - 87) else bif Nat.blt (12 + k) 96 then ad6 (12 + k - 90) else bif Nat.blt (12 + k) 102 then ad7 (12 + k - 96) else bif Nat.blt (12 + k) 108 then ad8 (12 + k - 102) else ad9 (12 + k - 108)) = ad2 k
      rw [mBltF (by omega), mBltF (by omega), bltT (by omega)]
      show ad2 (12 + k - 12) = ad2 k
      rw [Nat.add_sub_cancel_left])
    have e2 : wReader G (fun k => f (23 + k)) = wReader G ad3 := wReader_congr G (fun k hk => by
      show f (23 + k) = ad3 k
      rw [hf]
      show (bif Nat.blt (23 + k) 1 then a else bif Nat.blt (23 + k) 12 then ad1 (23 + k - 1) else bif Nat.blt (23 + k) 23 then ad2 (23 + k - 12) else bif Nat.blt (23 + k) 26 then ad3 (23 + k - 23) else bif Nat.blt (23 + k) 87 then ad4 (23 + k - 26) else bif Nat.blt (23 + k) 90 then ad5 (23 + k - 87) else bif Nat.blt (23 + k) 96 then ad6 (23 + k - 90) else bif Nat.blt (23 + k) 102 then ad7 (23 + k - 96) else bif Nat.blt (23 + k) 108 then ad8 (23 + k - 102) else ad9 (23 + k - 108)) = ad3 k
      rw [mBltF (by omega), mBltF (by omega), mBltF (by omega), bltT (by omega)]
      show ad3 (23 + k - 23) = ad3 k
      rw [Nat.add_sub_cancel_left])
    have e3 : wPlanner G (fun k => f (26 + k)) = wPlanner G ad4 := wPlanner_congr G (fun k hk => by
      show f (26 + k) = ad4 k
      rw [hf]
      show (bif Nat.blt (26 + k) 1 then a else bif Nat.blt (26 + k) 12 then ad1 (26 + k - 1) else bif Nat.blt (26 + k) 23 then ad2 (26 + k - 12) else bif Nat.blt (26 + k) 26 then ad3 (26 + k - 23) else bif Nat.blt (26 + k) 87 then ad4 (26 + k - 26) else bif Nat.blt (26 + k) 90 then ad5 (26 + k - 87) else bif Nat.blt (26 + k) 96 then ad6 (26 + k - 90) else bif Nat.blt (26 + k) 102 then ad7 (26 + k - 96) else bif Nat.blt (26 + k) 108 then ad8 (26 + k - 102) else ad9 (26 + k - 108)) = ad4 k
      rw [mBltF (by omega), mBltF (by omega), mBltF (by omega), mBltF (by omega), bltT (by omega)]
      show ad4 (26 + k - 26) = ad4 k
      rw [Nat.add_sub_cancel_left])
    have e4 : wJudge G (fun k => f (87 + k)) = wJudge G ad5 := wJudge_congr G (fun k hk => by
      show f (87 + k) = ad5 k
      rw [hf]
      show (bif Nat.blt (87 + k) 1 then a else bif Nat.blt (87 + k) 12 then ad1 (87 + k - 1) else bif Nat.blt (87 + k) 23 then ad2 (87 + k - 12) else bif Nat.blt (87 + k) 26 then ad3 (87 + k - 23) else bif Nat.blt (87 + k) 87 then ad4 (87 + k - 26) else bif Nat.blt (87 + k) 90 then ad5 (87 + k - 87) else bif Nat.blt (87 + k) 96 then ad6 (87 + k - 90) else bif Nat.blt (87 + k) 102 then ad7 (87 + k - 96) else bif Nat.blt (87 + k) 108 then ad8 (87 + k - 102) else ad9 (87 + k - 108)) = ad5 k
      rw [mBltF (by omega), mBltF (by omega), mBltF (by omega), mBltF (by omega), mBltF (by omega), bltT (by omega)]
      show ad5 (87 + k - 87) = ad5 k
      rw [Nat.add_sub_cancel_left])
    have e5 : wLog G (fun k => f (90 + k)) = wLog G ad6 := wLog_congr G (fun k hk => by
      show f (90 + k) = ad6 k
      rw [hf]
      show (bif Nat.blt (90 + k) 1 then a else bif Nat.blt (90 + k) 12 then ad1 (90 + k - 1) else bif Nat.blt (90 + k) 23 then ad2 (90 + k - 12) else bif Nat.blt (90 + k) 26 then ad3 (90 + k - 23) else bif Nat.blt (90 + k) 87 then ad4 (90 + k - 26) else bif Nat.blt (90 + k) 90 then ad5 (90 + k - 87) else bif Nat.blt (90 + k) 96 then ad6 (90 + k - 90) else bif Nat.blt (90 + k) 102 then ad7 (90 + k - 96) else bif Nat.blt (90 + k) 108 then ad8 (90 + k - 102) else ad9 (90 + k - 108)) = ad6 k
      rw [mBltF (by omega), mBltF (by omega), mBltF (by omega), mBltF (by omega), mBltF (by omega), mBltF (by omega), bltT (by omega)]
      show ad6 (90 + k - 90) = ad6 k
      rw [Nat.add_sub_cancel_left])
    have e6 : wLog G (fun k => f (96 + k)) = wLog G ad7 := wLog_congr G (fun k hk => by
      show f (96 + k) = ad7 k
      rw [hf]
      show (bif Nat.blt (96 + k) 1 then a else bif Nat.blt (96 + k) 12 then ad1 (96 + k - 1) else bif Nat.blt (96 + k) 23 then ad2 (96 + k - 12) else bif Nat.blt (96 + k) 26 then ad3 (96 + k - 23) else bif Nat.blt (96 + k) 87 then ad4 (96 + k - 26) else bif Nat.blt (96 + k) 90 then ad5 (96 + k - 87) else bif Nat.blt (96 + k) 96 then ad6 (96 + k - 90) else bif Nat.blt (96 + k) 102 then ad7 (96 + k - 96) else bif Nat.blt (96 + k) 108 then ad8 (96 + k - 102) else ad9 (96 + k - 108)) = ad7 k
      rw [mBltF (by omega), mBltF (by omega), mBltF (by omega), mBltF (by omega), mBltF (by omega), mBltF (by omega), mBltF (by omega), bltT (by omega)]
      show ad7 (96 + k - 96) = ad7 k
      rw [Nat.add_sub_cancel_left])
    have e7 : wCourt G (fun k => f (102 + k)) = wCourt G ad8 := wCourt_congr G (fun k hk => by
      show f (102 + k) = ad8 k
      rw [hf]
      show (bif Nat.blt (102 + k) 1 then a else bif Nat.blt (102 + k) 12 then ad1 (102 + k - 1) else bif Nat.blt (102 + k) 23 then ad2 (102 + k - 12) else bif Nat.blt (102 + k) 26 then ad3 (102 + k - 23) else bif Nat.blt (102 + k) 87 then ad4 (102 + k - 26) else bif Nat.blt (102 + k) 90 then ad5 (102 + k - 87) else bif Nat.blt (102 + k) 96 then ad6 (102 + k - 90) else bif Nat.blt (102 + k) 102 then ad7 (102 + k - 96) else bif Nat.blt (102 + k) 108 then ad8 (102 + k - 102) else ad9 (102 + k - 108)) = ad8 k
      rw [mBltF (by omega), mBltF (by omega), mBltF (by omega), mBltF (by omega), mBltF (by omega), mBltF (by omega), mBltF (by omega), mBltF (by omega), bltT (by omega)]
      show ad8 (102 + k - 102) = ad8 k
      rw [Nat.add_sub_cancel_left])
    have e8 : wCourt G (fun k => f (108 + k)) = wCourt G ad9 := wCourt_congr G (fun k hk => by
      show f (108 + k) = ad9 k
      rw [hf]
      show (bif Nat.blt (108 + k) 1 then a else bif Nat.blt (108 + k) 12 then ad1 (108 + k - 1) else bif Nat.blt (108 + k) 23 then ad2 (108 + k - 12) else bif Nat.blt (108 + k) 26 then ad3 (108 + k - 23) else bif Nat.blt (108 + k) 87 then ad4 (108 + k - 26) else bif Nat.blt (108 + k) 90 then ad5 (108 + k - 87) else bif Nat.blt (108 + k) 96 then ad6 (108 + k - 90) else bif Nat.blt (108 + k) 102 then ad7 (108 + k - 96) else bif Nat.blt (108 + k) 108 then ad8 (108 + k - 102) else ad9 (108 + k - 108)) = ad9 k
      rw [mBltF (by omega), mBltF (by omega), mBltF (by omega), mBltF (by omega), mBltF (by omega), mBltF (by omega), mBltF (by omega), mBltF (by omega), mBltF (by omega)]
      show ad9 (108 + k - 108) = ad9 k
      rw [Nat.add_sub_cancel_left])
    unfold wTable
    rw [e0, e1, e2, e3, e4, e5, e6, e7, e8]
    rw [hf 0, hf 1, hf 12, hf 23, hf 26, hf 87, hf 90, hf 96, hf 102, hf 108]
    rfl
  have e9 := key (fun k => bif Nat.blt k 1 then a else bif Nat.blt k 12 then ad1 (k - 1) else bif Nat.blt k 23 then ad2 (k - 12) else bif Nat.blt k 26 then ad3 (k - 23) else bif Nat.blt k 87 then ad4 (k - 26) else bif Nat.blt k 90 then ad5 (k - 87) else bif Nat.blt k 96 then ad6 (k - 90) else bif Nat.blt k 102 then ad7 (k - 96) else bif Nat.blt k 108 then ad8 (k - 102) else ad9 (k - 108)) (fun _ => rfl)
  exact W.vret hx hb hr (fun t ht _ => ⟨rfl, ⟨fun k => bif Nat.blt k 1 then a else bif Nat.blt k 12 then ad1 (k - 1) else bif Nat.blt k 23 then ad2 (k - 12) else bif Nat.blt k 26 then ad3 (k - 23) else bif Nat.blt k 87 then ad4 (k - 26) else bif Nat.blt k 90 then ad5 (k - 87) else bif Nat.blt k 96 then ad6 (k - 90) else bif Nat.blt k 102 then ad7 (k - 96) else bif Nat.blt k 108 then ad8 (k - 102) else ad9 (k - 108), rfl, by rw [e9, ht]; exact hB.1, by rw [e9, ← hAe]; exact hB.2.1⟩, by rw [← hAe]; exact hB.2.2.F ht⟩) hB.2.2.2.2 cD_Table_113

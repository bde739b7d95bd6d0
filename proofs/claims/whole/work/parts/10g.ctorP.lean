/-! CONSTRUCTORS, part 7: the planner (by program, wip/gen/gen_planner.py) -/
theorem cD_Planner_0 : decode prog_7_method_1_code 0 = .ok (.aload_n 0, 1) := by decide +kernel
theorem cD_Planner_1 : decode prog_7_method_1_code 1 = .ok (.invokespecial 3, 3) := by decide +kernel
theorem cD_Planner_4 : decode prog_7_method_1_code 4 = .ok (.aload_n 0, 1) := by decide +kernel
theorem cD_Planner_5 : decode prog_7_method_1_code 5 = .ok (.bipush 18, 2) := by decide +kernel
theorem cD_Planner_7 : decode prog_7_method_1_code 7 = .ok (.anewarray 9, 3) := by decide +kernel
theorem cD_Planner_10 : decode prog_7_method_1_code 10 = .ok (.putfield 11, 3) := by decide +kernel
theorem cD_Planner_13 : decode prog_7_method_1_code 13 = .ok (.aload_n 0, 1) := by decide +kernel
theorem cD_Planner_14 : decode prog_7_method_1_code 14 = .ok (.bipush 32, 2) := by decide +kernel
theorem cD_Planner_16 : decode prog_7_method_1_code 16 = .ok (.newarray .int, 2) := by decide +kernel
theorem cD_Planner_18 : decode prog_7_method_1_code 18 = .ok (.putfield 17, 3) := by decide +kernel
theorem cD_Planner_21 : decode prog_7_method_1_code 21 = .ok (.aload_n 0, 1) := by decide +kernel
theorem cD_Planner_22 : decode prog_7_method_1_code 22 = .ok (.bipush 32, 2) := by decide +kernel
theorem cD_Planner_24 : decode prog_7_method_1_code 24 = .ok (.newarray .int, 2) := by decide +kernel
theorem cD_Planner_26 : decode prog_7_method_1_code 26 = .ok (.putfield 21, 3) := by decide +kernel
theorem cD_Planner_29 : decode prog_7_method_1_code 29 = .ok (.aload_n 0, 1) := by decide +kernel
theorem cD_Planner_30 : decode prog_7_method_1_code 30 = .ok (.iconst 5, 1) := by decide +kernel
theorem cD_Planner_31 : decode prog_7_method_1_code 31 = .ok (.newarray .int, 2) := by decide +kernel
theorem cD_Planner_33 : decode prog_7_method_1_code 33 = .ok (.putfield 24, 3) := by decide +kernel
theorem cD_Planner_36 : decode prog_7_method_1_code 36 = .ok (.aload_n 0, 1) := by decide +kernel
theorem cD_Planner_37 : decode prog_7_method_1_code 37 = .ok (.bipush 6, 2) := by decide +kernel
theorem cD_Planner_39 : decode prog_7_method_1_code 39 = .ok (.newarray .int, 2) := by decide +kernel
theorem cD_Planner_41 : decode prog_7_method_1_code 41 = .ok (.putfield 27, 3) := by decide +kernel
theorem cD_Planner_44 : decode prog_7_method_1_code 44 = .ok (.aload_n 0, 1) := by decide +kernel
theorem cD_Planner_45 : decode prog_7_method_1_code 45 = .ok (.sipush 4424, 3) := by decide +kernel
theorem cD_Planner_48 : decode prog_7_method_1_code 48 = .ok (.newarray .int, 2) := by decide +kernel
theorem cD_Planner_50 : decode prog_7_method_1_code 50 = .ok (.putfield 30, 3) := by decide +kernel
theorem cD_Planner_53 : decode prog_7_method_1_code 53 = .ok (.iconst 0, 1) := by decide +kernel
theorem cD_Planner_54 : decode prog_7_method_1_code 54 = .ok (.istore_n 1, 1) := by decide +kernel
theorem cD_Planner_55 : decode prog_7_method_1_code 55 = .ok (.iload_n 1, 1) := by decide +kernel
theorem cD_Planner_56 : decode prog_7_method_1_code 56 = .ok (.aload_n 0, 1) := by decide +kernel
theorem cD_Planner_57 : decode prog_7_method_1_code 57 = .ok (.getfield 11, 3) := by decide +kernel
theorem cD_Planner_60 : decode prog_7_method_1_code 60 = .ok (.arraylength, 1) := by decide +kernel
theorem cD_Planner_61 : decode prog_7_method_1_code 61 = .ok (.if_icmp .ge 22, 3) := by decide +kernel
theorem cD_Planner_64 : decode prog_7_method_1_code 64 = .ok (.aload_n 0, 1) := by decide +kernel
theorem cD_Planner_65 : decode prog_7_method_1_code 65 = .ok (.getfield 11, 3) := by decide +kernel
theorem cD_Planner_68 : decode prog_7_method_1_code 68 = .ok (.iload_n 1, 1) := by decide +kernel
theorem cD_Planner_69 : decode prog_7_method_1_code 69 = .ok (.new 9, 3) := by decide +kernel
theorem cD_Planner_72 : decode prog_7_method_1_code 72 = .ok (.dup, 1) := by decide +kernel
theorem cD_Planner_73 : decode prog_7_method_1_code 73 = .ok (.invokespecial 33, 3) := by decide +kernel
theorem cD_Planner_76 : decode prog_7_method_1_code 76 = .ok (.aastore, 1) := by decide +kernel
theorem cD_Planner_77 : decode prog_7_method_1_code 77 = .ok (.iinc 1 1, 3) := by decide +kernel
theorem cD_Planner_80 : decode prog_7_method_1_code 80 = .ok (.goto (-25), 3) := by decide +kernel
theorem cD_Planner_83 : decode prog_7_method_1_code 83 = .ok (.return_, 1) := by decide +kernel
def pF (ads : List (Nat → Nat)) : Nat → Option Nat := fun j => (ads[j]?).map (fun x => x 0)
def pH (G : mG) (a z1 z2 z3 z4 z5 z6 : Nat) (ads : List (Nat → Nat)) : va_W := [(a, .inr (5, [.ref (z1), .null, .ref (z2), .ref (z3), .int 0, .ref (z4), .ref (z5), .ref (z6), .int 0])), (z1, .inl (gO G, 18, .inr (.inr (.inr (.inr (pF ads)))))), (z2, .inl (gI G, 32, .inl (fun _ => 0))), (z3, .inl (gI G, 32, .inl (fun _ => 0))), (z4, .inl (gI G, 5, .inl (fun _ => 0))), (z5, .inl (gI G, 6, .inl (fun _ => 0))), (z6, .inl (gI G, 4424, .inl (fun _ => 0)))]
def pW (G : mG) (a z1 z2 z3 z4 z5 z6 : Nat) (ads : List (Nat → Nat)) : va_W := pH G a z1 z2 z3 z4 z5 z6 ads ++ ads.flatMap (wPlan G)
theorem pF_up (ads : List (Nat → Nat)) (ad : Nat → Nat) : va_up (pF ads) ads.length (some (ad 0)) = pF (ads ++ [ad]) := by
  funext j
  unfold va_up pF
  by_cases h : j = ads.length
  · subst h; simp
  · by_cases h2 : j < ads.length
    · simp [h, List.getElem?_append_left h2]
    · have h3 : ads.length + 1 ≤ j := by omega
      simp [h, List.getElem?_eq_none_iff.mpr (show (ads ++ [ad]).length ≤ j by simp; exact h3), List.getElem?_eq_none_iff.mpr (show ads.length ≤ j by omega)]
-- made: cells 6 + 3 * 18, slots 4517 + 18 * 18

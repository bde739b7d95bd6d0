/-! CONSTRUCTORS, part 4: Arrays.fill of the log's five slots -/
abbrev fY : MethodName := ⟨"java/util/Arrays", "fill", "([II)V"⟩
def fW (G : mG) (f : Nat → Int32) (ad : Nat → Nat) : va_W := [(ad 0, .inl (gI G, 5, .inl f))]
def fPc (G : mG) (q z : Nat) (f : Nat → Int32) (v : Int32) : Array Value → State → Prop := va_Pc [.ref q, .int v] (fun U => U.heap.size = z ∧ va_P (gD G) vwCl [(q, .inl (gI G, 5, .inl f))] U.heap ∧ bK G U)
theorem fPc_blind (G : mG) (q z : Nat) (f : Nat → Int32) (v : Int32) : FrameBlind (fPc G q z f v) := fun _ U _ _ ⟨q0, q1, q2, q3⟩ => ⟨q0, q1, q2, bK_moved (u := U) (State.WarmedH.refl U) q3⟩
def fG (f : Nat → Int32) (v : Int32) : Nat → Nat → Int32
  | 0 => f
  | k + 1 => upd (fG f v k) (nI k).toNatClampNeg v
theorem fD0 : decode prog_26_method_103_code 0 = .ok (.iconst 0, 1) := by decide +kernel
theorem fD1 : decode prog_26_method_103_code 1 = .ok (.istore_n 2, 1) := by decide +kernel
theorem fD2 : decode prog_26_method_103_code 2 = .ok (.aload_n 0, 1) := by decide +kernel
theorem fD3 : decode prog_26_method_103_code 3 = .ok (.arraylength, 1) := by decide +kernel
theorem fD4 : decode prog_26_method_103_code 4 = .ok (.istore_n 3, 1) := by decide +kernel
theorem fD5 : decode prog_26_method_103_code 5 = .ok (.iload_n 2, 1) := by decide +kernel
theorem fD6 : decode prog_26_method_103_code 6 = .ok (.iload_n 3, 1) := by decide +kernel
theorem fD7 : decode prog_26_method_103_code 7 = .ok (.if_icmp .ge 13, 3) := by decide +kernel
theorem fD10 : decode prog_26_method_103_code 10 = .ok (.aload_n 0, 1) := by decide +kernel
theorem fD11 : decode prog_26_method_103_code 11 = .ok (.iload_n 2, 1) := by decide +kernel
theorem fD12 : decode prog_26_method_103_code 12 = .ok (.iload_n 1, 1) := by decide +kernel
theorem fD13 : decode prog_26_method_103_code 13 = .ok (.iastore, 1) := by decide +kernel
theorem fD14 : decode prog_26_method_103_code 14 = .ok (.iinc 2 1, 3) := by decide +kernel
theorem fD17 : decode prog_26_method_103_code 17 = .ok (.goto (-12), 3) := by decide +kernel
theorem fD20 : decode prog_26_method_103_code 20 = .ok (.return_, 1) := by decide +kernel

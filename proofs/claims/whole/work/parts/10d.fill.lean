/-! CONSTRUCTORS, part 4: Arrays.fill of the log's five slots -/
abbrev fY : MethodName := ⟨"java/util/Arrays", "fill", "([II)V"⟩
def fW (G : mG) (f : Nat → Int32) (ad : Nat → Nat) : va_W := [(ad 0, .inl (gI G, 5, .inl f))]
def fPc (G : mG) (q z : Nat) (f : Nat → Int32) (v : Int32) : Array Value → State → Prop := va_Pc [.ref q, .int v] (fun U => U.heap.size = z ∧ va_P (gD G) vwCl [(q, .inl (gI G, 5, .inl f))] U.heap ∧ bK G U)
theorem fPc_blind (G : mG) (q z : Nat) (f : Nat → Int32) (v : Int32) : FrameBlind (fPc G q z f v) := fun _ U _ _ ⟨q0, q1, q2, q3⟩ => ⟨q0, q1, q2, bK_moved (u := U) (State.WarmedH.refl U) q3⟩
def fG (f : Nat → Int32) (v : Int32) : Nat → Nat → Int32
  | 0 => f
  | k + 1 => upd (fG f v k) (nI k).toNatClampNeg v
theorem fD0 : decode prog_26_method_103_code 0 = .ok (.iconst 0, 1) := by decide +kernel
theorem fD1 : decode prog_26_method_103_code 1 = .ok (.istore_n 2, 1) := by decide +kernel
theorem fD2 : decode prog_26_method_103_code 2 = .ok (.aload_n 0, 1) := by decide +kernel
theorem fD3 : decode prog_26_method_103_code 3 = .ok (.arraylength, 1) := by decide +kernel
theorem fD4 : decode prog_26_method_103_code 4 = .ok (.istore_n 3, 1) := by decide +kernel
theorem fD5 : decode prog_26_method_103_code 5 = .ok (.iload_n 2, 1) := by decide +kernel
theorem fD6 : decode prog_26_method_103_code 6 = .ok (.iload_n 3, 1) := by decide +kernel
theorem fD7 : decode prog_26_method_103_code 7 = .ok (.if_icmp .ge 13, 3) := by decide +kernel
theorem fD10 : decode prog_26_method_103_code 10 = .ok (.aload_n 0, 1) := by decide +kernel
theorem fD11 : decode prog_26_method_103_code 11 = .ok (.iload_n 2, 1) := by decide +kernel
theorem fD12 : decode prog_26_method_103_code 12 = .ok (.iload_n 1, 1) := by decide +kernel
theorem fD13 : decode prog_26_method_103_code 13 = .ok (.iastore, 1) := by decide +kernel
theorem fD14 : decode prog_26_method_103_code 14 = .ok (.iinc 2 1, 3) := by decide +kernel
theorem fD17 : decode prog_26_method_103_code 17 = .ok (.goto (-12), 3) := by decide +kernel
theorem fD20 : decode prog_26_method_103_code 20 = .ok (.return_, 1) := by decide +kernel
theorem fFacts : Cond.code fY prog_26_method_103_code 4 none ∈ mBIG := mWrd_big (w := 287) rfl rfl
set_option maxRecDepth 20000 in
theorem fMet (G : mG) (l : Launch) (f : Nat → Int32) (v : Int32) (q z : Nat) : Met l fY (sWs fY prog_26_method_103_code 4 none) (cRo 1 0 0) (fPc G q z f v) (cQ G q z (fW G (fG f v 5))) 0 0 (cA q z) := by
  refine Met.ofW (cc := prog_26_method_103_code) (maxL := 4) (ret := none) (by decide +kernel) rfl ?_
  intro p e s m args below meth c s₁ B hml hv
  obtain ⟨rfl, hz, hP, hK⟩ := hv
  subst hz
  have hx := B.exec
  have hb := B.bytes
  have hr := B.returns
  have hlocks := B.notSynchronized
  have hl := lv_entry [Value.ref q, Value.int v] (n := 4) (Nat.le_of_ble_eq_true rfl)
  rw [lg_entry_eq]
  generalize (lg_sl [Value.ref q, Value.int v] ++ List.replicate (4 - (lg_sl [Value.ref q, Value.int v]).length) Slot.unset).toArray = ls at hl ⊢
  have hl : lv_has ls 4 [(0, .ref q), (1, .int v)] := hl
  have hB : bI G (cA q s.heap.size) [(q, .inl (gI G, 5, .inl f))] s.heap s.heap [] := by
    refine ⟨hP, ⟨fun i j p q hi hj _ => ?_, fun k x hk => ?_⟩, va_S.rf⟩
    · have h1 := (List.getElem?_eq_some_iff.mp hi).1
      have h2 := (List.getElem?_eq_some_iff.mp hj).1
      simp at h1 h2
      omega
    · have h1 := (List.getElem?_eq_some_iff.mp hk).1
      have h2 : k = 0 := by simp at h1; omega
      subst h2
      cases hk
      exact Or.inl rfl
  refine lv_iconst (v := 0) hx hb fD0 (by decide) ?_
  refine lv_istore_n hx hb fD1 rfl hl (by decide) rfl (fun ls hl => ?_)
  have hl : lv_has ls 4 [(2, .int 0), (0, .ref q), (1, .int v)] := hl
  refine lv_aload_n hx hb fD2 rfl (lv_at hl 1 rfl) ?_
  refine va_alen (v := 5) hx hb hK.1 hB.1 0 0 rfl rfl rfl fD3 ?_
  refine lv_istore_n hx hb fD4 rfl hl (by decide) rfl (fun ls hl => ?_)
  have hl : lv_has ls 4 [(3, .int 5), (2, .int (nI 0)), (0, .ref q), (1, .int v)] := hl
  have loop : ∀ (j k : Nat), k + j = 5 → ∀ (H : Heap) (locs : List Loc) (ls : Array Slot), lv_has ls 4 [(3, .int 5), (2, .int (nI k)), (0, .ref q), (1, .int v)] → bI G (cA q s.heap.size) [(q, .inl (gI G, 5, .inl (fG f v k)))] s.heap H locs → W p l e (cRo 1 0 0) s m ([Value.ref q, Value.int v] : List Value).toArray below meth c H locs 0 0 (MQ below (cQ G q s.heap.size (fW G (fG f v 5))) ([Value.ref q, Value.int v] : List Value).toArray s 0 0 (cA q s.heap.size)) (F0 m 5 ls []) := by
    intro j
    induction j with
    | zero =>
      intro k hk H locs ls hl hB
      have hk : k = 5 := by omega
      subst hk
      refine lv_iload_n hx hb fD5 rfl (lv_at hl 1 rfl) ?_
      refine lv_iload_n hx hb fD6 rfl (lv_at hl 0 rfl) ?_
      refine lv_icmp_ge (tgt := 20) hx hb fD7 rfl (fun _ => ?_) (fun h9 => absurd (by decide) h9)
      exact W.vret hx hb hr (fun t ht _ => ⟨rfl, ⟨fun _ => q, rfl, by rw [ht]; exact hB.1, hB.2.1⟩, hB.2.2.F ht⟩) hB.2.2.2.2 fD20
    | succ j ih =>
      intro k hk H locs ls hl hB
      have hk5 : k < 5 := by omega
      have e1 : (nI k).toInt = (k : Int) := nI_toInt (by omega)
      refine lv_iload_n hx hb fD5 rfl (lv_at hl 1 rfl) ?_
      refine lv_iload_n hx hb fD6 rfl (lv_at hl 0 rfl) ?_
      refine lv_icmp_ge (tgt := 20) hx hb fD7 rfl (fun h9 => ?_) (fun _ => ?_)
      · have h8 := Int32.le_iff_toInt_le.mp h9
        rw [e1] at h8
        have : (5 : Int32).toInt = 5 := by decide
        omega
      refine lv_aload_n hx hb fD10 rfl (lv_at hl 2 rfl) ?_
      refine lv_iload_n hx hb fD11 rfl (lv_at hl 1 rfl) ?_
      refine lv_iload_n hx hb fD12 rfl (lv_at hl 3 rfl) ?_
      refine bAst (q0 := 0) hx hb hK hB rfl (vp_in_nI (by omega) (by omega)) fD13 (fun H locs hB => ?_)
      refine lv_iinc (v := nI (k + 1)) hx hb fD14 hl (k := 1) rfl (nI_1 k) (by decide) rfl (fun ls hl => ?_)
      refine lv_goto (tgt := 5) hx hb fD17 rfl ?_
      have hl : lv_has ls 4 [(2, .int (nI (k + 1))), (3, .int 5), (0, .ref q), (1, .int v)] := hl
      exact ih (k + 1) (by omega) H locs ls (lv_sub hl [1, 0, 2, 3] rfl) hB
  exact loop 5 0 rfl s.heap [] ls hl hB

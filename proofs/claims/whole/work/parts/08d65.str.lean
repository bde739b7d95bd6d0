/-! SOUNDNESS, part 10b: length and charAt of the reader's texts, as the JDK's code has them -/
def sWs (y : MethodName) (b : ByteArray) (n : Nat) (r : Option FieldType) : List Cond := Cond.code y b n r :: mBIG
theorem sWs_good {y : MethodName} {b : ByteArray} {n : Nat} {r : Option FieldType} (h : Cond.code y b n r ∈ mBIG) : GoodIn mBIG (sWs y b n r) := by
  intro w hw
  rcases List.mem_cons.mp hw with e | e
  · rw [e]; exact mBIG_gi h
  · exact mBIG_gi e
abbrev sRo (f : Nat) : Room := { frames := f, cells := 0, slots := 0, locals := 30 * f }
def sPc (G : mG) (av : List Value) : Array Value → State → Prop := va_Pc av (fun U => mStS G U U.heap)
theorem sPc_blind (G : mG) (av : List Value) : FrameBlind (sPc G av) := fun _ U _ _ ⟨q0, q1⟩ => ⟨q0, mStS_moved (u := U) (State.WarmedH.refl U) q1⟩
def sQ (v : Option Value) : Array Value → State → Outcome → State → Prop := fun _ st oc t => oc = .returned v ∧ t.heap = st.heap
abbrev sMet (G : mG) (l : Launch) (y : MethodName) (b : ByteArray) (n : Nat) (r : Option FieldType) (f : Nat) (av : List Value) (v : Option Value) : Prop := Met l y (sWs y b n r) (sRo f) (sPc G av) (sQ v) 0 0 (mA G)
def sCx (G : mG) (p : Program) (s : State) (mid : MethodId) (args : Array Value) (meth : Method) (c : Code) (cls : String) (b : ByteArray) (n : Nat) (r : Option FieldType) : Prop :=
  p.tables.exec = Jvm.exec ∧ c.code = b ∧ c.maxLocals = n ∧ meth.sig.returnType = r ∧ s.vm.findClass cls = some mid.cls ∧ (∀ w ∈ mBIG, w.before args s = true) ∧ meth.locks = false ∧ mStS G s s.heap
theorem sMet_of {G : mG} {l : Launch} {y : MethodName} {b : ByteArray} {n : Nat} {r : Option FieldType} {f : Nat} {av : List Value} {v : Option Value} (hpl : plainName y.cls = true)
    (body : ∀ (p : Program) (e : Env) (s : State) (mid : MethodId) (args : Array Value) (below : List Frame) (meth : Method) (c : Code), sCx G p s mid args meth c y.cls b n r → W p l e (sRo f) s mid args below meth c s.heap [] 0 0 (MQ below (sQ v) args s 0 0 (mA G)) (F0 mid 0 ((lg_sl av ++ List.replicate (n - (lg_sl av).length) Slot.unset).toArray) [])) : sMet G l y b n r f av v := by
  refine Met.ofW (cc := b) (maxL := n) (ret := r) hpl rfl ?_
  intro p e s m args below meth c s₁ B hml hv
  obtain ⟨rfl, hE⟩ := hv
  rw [lg_entry_eq]
  exact body p e s m _ below meth c ⟨B.exec, B.bytes, hml, B.returns, findClass_of_methodNamed B.named, fun w hw => atoms_spec (ws := sWs y b n r) B.pre w (List.mem_cons_of_mem _ hw), B.notSynchronized, hE⟩
/-- what the tables say of a method of this kind -/
def sFacts (y : MethodName) (b : ByteArray) (n : Nat) (r : Option FieldType) (np : Nat) : Prop :=
  Cond.code y b n r ∈ mBIG ∧ Cond.initialized y.cls ∈ mBIG ∧ plainName y.cls = true ∧ (y.cls ≠ "java/lang/invoke/MethodHandle" ∧ y.cls ≠ "java/lang/invoke/VarHandle" ∧ (parseMethodDescriptor y.desc).map (fun d => d.parameters.length) = some np) ∧ n ≤ 3
section STR
variable {G : mG} {l : Launch} {p : Program} {e : Env} {R : Room} {s : State} {mid : MethodId} {args : Array Value} {below : List Frame} {meth : Method} {cd : Code} {H : Heap} {locs : List Loc} {cells slots pc : Nat} {ls : Array Slot} {Q : State → Prop} {cc : ByteArray}
theorem sAfter {v : Option Value} {a' : Array Value} {g rest : List Value} (hS : va_S (mA G) s.heap H locs) (run : va_Run p l e R s mid args below meth cd H locs cells slots 0 0 (F0 mid pc ls g) rest (sQ v a') (mA G))
    (k : ∀ locs', va_S (mA G) s.heap H locs' → W p l e R s mid args below meth cd H locs' cells slots Q (F0 mid (pc + 3) ls (v.toList ++ rest))) : W p l e R s mid args below meth cd H locs cells slots Q (F0 mid pc ls g) := by
  intro T hT X
  obtain ⟨v9, st₀, t, T', L, h0, X', hL, e1, e2, ⟨q1, q2⟩, st9⟩ := run T hT X
  have hv9 : v9 = v := Outcome.returned.inj q1
  subst hv9
  obtain ⟨t2, a1, b1⟩ := k (locs ++ L) ⟨hS.1, hS.2.1, fun q hq => (List.mem_append.mp hq).elim (hS.2.2 q) (hL q)⟩ T' (by rw [e1, q2, h0]) X'
  exact ⟨t2, st9 t2 a1, b1⟩
theorem sPcOk {av : List Value} (hE : mStS G s s.heap) (hS : va_S (mA G) s.heap H locs) : ∀ U : State, U.heap = H → s.WarmedH U.vm → sPc G av av.toArray U := by
  intro U hU hW
  refine ⟨rfl, ?_⟩
  show mStS G U U.heap
  rw [hU]
  exact mStS_moved hW (mStS_kept hE hS.2.1)
theorem sCallS {own : String} {y : MethodName} {b : ByteArray} {n np f k : Nat} {r : Option FieldType} {As rest : List Value} {v : Option Value} (F : sFacts y b n r np) (h1 : Cond.static y ∈ mBIG) (hl : Cond.methodLink own k y ∈ mBIG)
    (hx : p.tables.exec = Jvm.exec) (hb : cd.code = cc) (hml : cd.maxLocals = ls.size) (hown : s.vm.findClass own = some mid.cls) (hts : ∀ w ∈ mBIG, w.before args s = true) (hE : mStS G s s.heap) (hS : va_S (mA G) s.heap H locs)
    (hM : sMet G l y b n r f As v) (hn : As.length = np) (hwr : (rest.map fun v => v.category).sum ≤ 8) (hR : f + 1 ≤ R.frames ∧ 30 * f + 22 ≤ R.locals) (hf : cells ≤ R.cells ∧ slots ≤ R.slots) (hdg : decode cc pc = .ok (.invokestatic k, 3))
    (kk : ∀ locs', va_S (mA G) s.heap H locs' → W p l e R s mid args below meth cd H locs' cells slots Q (F0 mid (pc + 3) ls (v.toList ++ rest))) : W p l e R s mid args below meth cd H locs cells slots Q (F0 mid pc ls (As.reverse ++ rest)) := by
  obtain ⟨f1, f2, f3, f4, f5⟩ := F
  have hG : GoodIn mBIG (va_wsS own k y (sWs y b n r)) := by
    intro w hw
    rcases List.mem_append.mp hw with q | q
    · simp only [List.mem_cons, List.not_mem_nil, or_false] at q
      rcases q with rfl | rfl | rfl
      · exact mBIG_gi hl
      · exact mBIG_gi h1
      · exact mBIG_gi f2
    · exact sWs_good f1 w q
  refine sAfter (a' := As.toArray) hS (va_runS (rm := sRo f) ⟨hx, hb, hml, hown, hts⟩ hM (va_cwS (bytes := b) (maxL := n) (ret := r) np hts hG rfl rfl rfl f4 ⟨hR.1, ?_⟩) ⟨sPc_blind _ _, sPcOk hE hS⟩ rfl hn rfl rfl (lv_room hwr) hdg hf) kk
  have e2 : (sRo f).locals = 30 * f := rfl
  rw [e2]; have := hR.2; omega
theorem sCallV {own : String} {y : MethodName} {b : ByteArray} {n np f k i : Nat} {r : Option FieldType} {As rest : List Value} {v : Option Value} (F : sFacts y b n r np) (hc : y.cls = "java/lang/String") (h1 : Cond.instanceMethod y ∈ mBIG) (h2 : Cond.selects "java/lang/String" y y ∈ mBIG) (hl : Cond.methodLink own k y ∈ mBIG)
    (hx : p.tables.exec = Jvm.exec) (hb : cd.code = cc) (hml : cd.maxLocals = ls.size) (hown : s.vm.findClass own = some mid.cls) (hts : ∀ w ∈ mBIG, w.before args s = true) (hE : mStS G s s.heap) (hS : va_S (mA G) s.heap H locs) (hi : i < 14)
    (hM : sMet G l y b n r f (.ref (gA G (144 + i)) :: As) v) (hn : As.length = np) (hwr : (rest.map fun v => v.category).sum ≤ 8) (hR : f + 1 ≤ R.frames ∧ 30 * f + 22 ≤ R.locals) (hf : cells ≤ R.cells ∧ slots ≤ R.slots) (hdg : decode cc pc = .ok (.invokevirtual k, 3))
    (kk : ∀ locs', va_S (mA G) s.heap H locs' → W p l e R s mid args below meth cd H locs' cells slots Q (F0 mid (pc + 3) ls (v.toList ++ rest))) : W p l e R s mid args below meth cd H locs cells slots Q (F0 mid pc ls (As.reverse ++ .ref (gA G (144 + i)) :: rest)) := by
  obtain ⟨f1, f2, f3, f4, f5⟩ := F
  have hG : GoodIn mBIG (wsV own k "java/lang/String" y (sWs y b n r)) := by
    intro w hw
    rcases List.mem_append.mp hw with q | q
    · simp only [List.mem_cons, List.not_mem_nil, or_false] at q
      rcases q with rfl | rfl | rfl | rfl
      · exact mBIG_gi hl
      · exact mBIG_gi h1
      · exact mBIG_gi h2
      · exact mBIG_gi (hc ▸ f2)
    · exact sWs_good f1 w q
  refine sAfter (a' := (Value.ref (gA G (144 + i)) :: As).toArray) hS (va_runV (rm := sRo f) (C := "java/lang/String") ⟨hx, hb, hml, hown, hts⟩ hM (cwV (bytes := b) (maxL := n) (ret := r) np hts hG rfl rfl rfl ⟨hc, f4⟩ ⟨hR.1, ?_⟩) ⟨sPc_blind _ _, vk_recv (adK := fun i => gA G (144 + i)) (i := i) hE.2.1 hi hS, sPcOk hE hS⟩ rfl hn rfl rfl (lv_room hwr) hdg hf) kk
  have e2 : (sRo f).locals = 30 * f := rfl
  rw [e2]; have := hR.2; omega
end STR
abbrev sY1 : MethodName := ⟨"java/lang/String", "coder", "()B"⟩
abbrev sY2 : MethodName := ⟨"java/lang/String", "isLatin1", "()Z"⟩
abbrev sY3 : MethodName := ⟨"java/lang/String", "length", "()I"⟩
abbrev sY4 : MethodName := ⟨"jdk/internal/util/Preconditions", "checkIndex", "(IILjava/util/function/BiFunction;)I"⟩
abbrev sY5 : MethodName := ⟨"java/lang/String", "checkIndex", "(II)V"⟩
abbrev sY6 : MethodName := ⟨"java/lang/StringLatin1", "charAt", "([BI)C"⟩
abbrev sY7 : MethodName := ⟨"java/lang/String", "charAt", "(I)C"⟩
theorem sI : Cond.initialized "java/lang/String" ∈ mBIG := mWrd_big (w := 16) rfl rfl
theorem sF1 : sFacts sY1 prog_19_method_152_code 1 (some .byte) 0 := ⟨mWrd_big (w := 600) rfl rfl, sI, by decide +kernel, ⟨by decide, by decide, by decide +kernel⟩, by decide⟩
theorem sF2 : sFacts sY2 prog_19_method_154_code 1 (some .boolean) 0 := ⟨mWrd_big (w := 610) rfl rfl, sI, by decide +kernel, ⟨by decide, by decide, by decide +kernel⟩, by decide⟩
theorem sF3 : sFacts sY3 prog_19_method_54_code 1 (some .int) 0 := ⟨mWrd_big (w := 596) rfl rfl, sI, by decide +kernel, ⟨by decide, by decide, by decide +kernel⟩, by decide⟩
theorem sF4 : sFacts sY4 prog_28_method_11_code 3 (some .int) 3 := ⟨mWrd_big (w := 621) rfl rfl, mWrd_big (w := 18) rfl rfl, by decide +kernel, ⟨by decide, by decide, by decide +kernel⟩, by decide⟩
theorem sF5 : sFacts sY5 prog_19_method_155_code 2 none 2 := ⟨mWrd_big (w := 616) rfl rfl, sI, by decide +kernel, ⟨by decide, by decide, by decide +kernel⟩, by decide⟩
theorem sF6 : sFacts sY6 prog_20_method_2_code 2 (some .char) 2 := ⟨mWrd_big (w := 613) rfl rfl, mWrd_big (w := 17) rfl rfl, by decide +kernel, ⟨by decide, by decide, by decide +kernel⟩, by decide⟩
theorem sF7 : sFacts sY7 prog_19_method_56_code 2 (some .char) 1 := ⟨mWrd_big (w := 606) rfl rfl, sI, by decide +kernel, ⟨by decide, by decide, by decide +kernel⟩, by decide⟩
theorem sD1_0 : decode prog_19_method_152_code 0 = .ok (.getstatic 38, 3) := by decide +kernel
theorem sD1_3 : decode prog_19_method_152_code 3 = .ok (.ifCond .eq 10, 3) := by decide +kernel
theorem sD1_6 : decode prog_19_method_152_code 6 = .ok (.aload_n 0, 1) := by decide +kernel
theorem sD1_7 : decode prog_19_method_152_code 7 = .ok (.getfield 15, 3) := by decide +kernel
theorem sD1_10 : decode prog_19_method_152_code 10 = .ok (.goto 4, 3) := by decide +kernel
theorem sD1_14 : decode prog_19_method_152_code 14 = .ok (.ireturn, 1) := by decide +kernel
theorem sD2_0 : decode prog_19_method_154_code 0 = .ok (.getstatic 38, 3) := by decide +kernel
theorem sD2_3 : decode prog_19_method_154_code 3 = .ok (.ifCond .eq 14, 3) := by decide +kernel
theorem sD2_6 : decode prog_19_method_154_code 6 = .ok (.aload_n 0, 1) := by decide +kernel
theorem sD2_7 : decode prog_19_method_154_code 7 = .ok (.getfield 15, 3) := by decide +kernel
theorem sD2_10 : decode prog_19_method_154_code 10 = .ok (.ifCond .ne 7, 3) := by decide +kernel
theorem sD2_13 : decode prog_19_method_154_code 13 = .ok (.iconst 1, 1) := by decide +kernel
theorem sD2_14 : decode prog_19_method_154_code 14 = .ok (.goto 4, 3) := by decide +kernel
theorem sD2_18 : decode prog_19_method_154_code 18 = .ok (.ireturn, 1) := by decide +kernel
theorem sD3_0 : decode prog_19_method_54_code 0 = .ok (.aload_n 0, 1) := by decide +kernel
theorem sD3_1 : decode prog_19_method_54_code 1 = .ok (.getfield 9, 3) := by decide +kernel
theorem sD3_4 : decode prog_19_method_54_code 4 = .ok (.arraylength, 1) := by decide +kernel
theorem sD3_5 : decode prog_19_method_54_code 5 = .ok (.aload_n 0, 1) := by decide +kernel
theorem sD3_6 : decode prog_19_method_54_code 6 = .ok (.invokevirtual 335, 3) := by decide +kernel
theorem sD3_9 : decode prog_19_method_54_code 9 = .ok (.ishr, 1) := by decide +kernel
theorem sD3_10 : decode prog_19_method_54_code 10 = .ok (.ireturn, 1) := by decide +kernel
theorem sD4_0 : decode prog_28_method_11_code 0 = .ok (.iload_n 0, 1) := by decide +kernel
theorem sD4_1 : decode prog_28_method_11_code 1 = .ok (.ifCond .lt 8, 3) := by decide +kernel
theorem sD4_4 : decode prog_28_method_11_code 4 = .ok (.iload_n 0, 1) := by decide +kernel
theorem sD4_5 : decode prog_28_method_11_code 5 = .ok (.iload_n 1, 1) := by decide +kernel
theorem sD4_6 : decode prog_28_method_11_code 6 = .ok (.if_icmp .lt 10, 3) := by decide +kernel
theorem sD4_16 : decode prog_28_method_11_code 16 = .ok (.iload_n 0, 1) := by decide +kernel
theorem sD4_17 : decode prog_28_method_11_code 17 = .ok (.ireturn, 1) := by decide +kernel
theorem sD5_0 : decode prog_19_method_155_code 0 = .ok (.iload_n 0, 1) := by decide +kernel
theorem sD5_1 : decode prog_19_method_155_code 1 = .ok (.iload_n 1, 1) := by decide +kernel
theorem sD5_2 : decode prog_19_method_155_code 2 = .ok (.getstatic 1053, 3) := by decide +kernel
theorem sD5_5 : decode prog_19_method_155_code 5 = .ok (.invokestatic 1059, 3) := by decide +kernel
theorem sD5_8 : decode prog_19_method_155_code 8 = .ok (.pop, 1) := by decide +kernel
theorem sD5_9 : decode prog_19_method_155_code 9 = .ok (.return_, 1) := by decide +kernel
theorem sD6_0 : decode prog_20_method_2_code 0 = .ok (.iload_n 1, 1) := by decide +kernel
theorem sD6_1 : decode prog_20_method_2_code 1 = .ok (.aload_n 0, 1) := by decide +kernel
theorem sD6_2 : decode prog_20_method_2_code 2 = .ok (.arraylength, 1) := by decide +kernel
theorem sD6_3 : decode prog_20_method_2_code 3 = .ok (.invokestatic 9, 3) := by decide +kernel
theorem sD6_6 : decode prog_20_method_2_code 6 = .ok (.aload_n 0, 1) := by decide +kernel
theorem sD6_7 : decode prog_20_method_2_code 7 = .ok (.iload_n 1, 1) := by decide +kernel
theorem sD6_8 : decode prog_20_method_2_code 8 = .ok (.baload, 1) := by decide +kernel
theorem sD6_9 : decode prog_20_method_2_code 9 = .ok (.sipush 255, 3) := by decide +kernel
theorem sD6_12 : decode prog_20_method_2_code 12 = .ok (.iand, 1) := by decide +kernel
theorem sD6_13 : decode prog_20_method_2_code 13 = .ok (.i2c, 1) := by decide +kernel
theorem sD6_14 : decode prog_20_method_2_code 14 = .ok (.ireturn, 1) := by decide +kernel
theorem sD7_0 : decode prog_19_method_56_code 0 = .ok (.aload_n 0, 1) := by decide +kernel
theorem sD7_1 : decode prog_19_method_56_code 1 = .ok (.invokevirtual 492, 3) := by decide +kernel
theorem sD7_4 : decode prog_19_method_56_code 4 = .ok (.ifCond .eq 12, 3) := by decide +kernel
theorem sD7_7 : decode prog_19_method_56_code 7 = .ok (.aload_n 0, 1) := by decide +kernel
theorem sD7_8 : decode prog_19_method_56_code 8 = .ok (.getfield 9, 3) := by decide +kernel
theorem sD7_11 : decode prog_19_method_56_code 11 = .ok (.iload_n 1, 1) := by decide +kernel
theorem sD7_12 : decode prog_19_method_56_code 12 = .ok (.invokestatic 495, 3) := by decide +kernel
theorem sD7_15 : decode prog_19_method_56_code 15 = .ok (.ireturn, 1) := by decide +kernel
theorem sM1 (G : mG) (l : Launch) {i : Nat} (hi : i < 14) : sMet G l sY1 prog_19_method_152_code 1 (some .byte) 1 [.ref (gA G (144 + i))] (some (.int 0)) := by
  refine sMet_of sF1.2.2.1 (fun p e s mid args below meth c C => ?_)
  obtain ⟨hx, hb, hml, hr, hown, hts, hlocks, hE⟩ := C
  have hS : va_S (mA G) s.heap s.heap [] := va_S.rf
  refine va_gets hx hb hE.2.2.1 hS hown (hts _ (mWrd_big (w := 601) rfl rfl)) (fun _ q => q) sD1_0 ?_
  refine lv_if_eq (tgt := 13) hx hb sD1_3 rfl (fun q => absurd q (by decide)) (fun _ => ?_)
  refine lv_aload_n (i := 0) (x := gA G (144 + i)) hx hb sD1_6 rfl rfl ?_
  refine vk_getf hx hb (hE.2.1.1 i hi).2.1 hS hown (hts _ (mWrd_big (w := 1606) rfl rfl)) (fun _ q => q) sD1_7 ?_
  refine lv_goto (tgt := 14) hx hb sD1_10 rfl ?_
  exact W.zret hx hb hr rfl (fun t ht _ => ⟨rfl, ht⟩) hS.2.2 sD1_14
theorem sM2 (G : mG) (l : Launch) {i : Nat} (hi : i < 14) : sMet G l sY2 prog_19_method_154_code 1 (some .boolean) 1 [.ref (gA G (144 + i))] (some (.int 1)) := by
  refine sMet_of sF2.2.2.1 (fun p e s mid args below meth c C => ?_)
  obtain ⟨hx, hb, hml, hr, hown, hts, hlocks, hE⟩ := C
  have hS : va_S (mA G) s.heap s.heap [] := va_S.rf
  refine va_gets hx hb hE.2.2.1 hS hown (hts _ (mWrd_big (w := 601) rfl rfl)) (fun _ q => q) sD2_0 ?_
  refine lv_if_eq (tgt := 17) hx hb sD2_3 rfl (fun q => absurd q (by decide)) (fun _ => ?_)
  refine lv_aload_n (i := 0) (x := gA G (144 + i)) hx hb sD2_6 rfl rfl ?_
  refine vk_getf hx hb (hE.2.1.1 i hi).2.1 hS hown (hts _ (mWrd_big (w := 1606) rfl rfl)) (fun _ q => q) sD2_7 ?_
  refine lv_if_ne (tgt := 17) hx hb sD2_10 rfl (fun q => absurd rfl q) (fun _ => ?_)
  refine lv_iconst (v := 1) hx hb sD2_13 rfl ?_
  refine lv_goto (tgt := 18) hx hb sD2_14 rfl ?_
  exact W.zret hx hb hr rfl (fun t ht _ => ⟨rfl, ht⟩) hS.2.2 sD2_18
theorem sLen : ∀ i, i < 14 → Int32.ofNat (mSLen.getD i 0) >>> (0 &&& 31) = nI ((mStr i).length) ∧ mSLen.getD i 0 = (mStr i).length := by decide +kernel
theorem sM3 (G : mG) (l : Launch) {i : Nat} (hi : i < 14) : sMet G l sY3 prog_19_method_54_code 1 (some .int) 2 [.ref (gA G (144 + i))] (some (.int (nI (mStr i).length))) := by
  refine sMet_of sF3.2.2.1 (fun p e s mid args below meth c C => ?_)
  obtain ⟨hx, hb, hml, hr, hown, hts, hlocks, hE⟩ := C
  have hS : va_S (mA G) s.heap s.heap [] := va_S.rf
  refine lv_aload_n (i := 0) (x := gA G (144 + i)) hx hb sD3_0 rfl rfl ?_
  refine vk_getf hx hb (hE.2.1.1 i hi).2.2.1 hS hown (hts _ (mWrd_big (w := 1605) rfl rfl)) (fun _ q => q) sD3_1 ?_
  refine va_tlen hx hb (hE.2.1.1 i hi).2.2.2 hS rfl sD3_4 ?_
  refine lv_aload_n (i := 0) (x := gA G (144 + i)) hx hb sD3_5 rfl rfl ?_
  refine sCallV (As := []) sF1 rfl (mWrd_big (w := 598) rfl rfl) (mWrd_big (w := 599) rfl rfl) (mWrd_big (w := 597) rfl rfl) hx hb hml hown hts hE hS hi (sM1 G l hi) rfl (Nat.le_of_ble_eq_true rfl) ⟨by decide, by decide⟩ ⟨by decide, by decide⟩ sD3_6 (fun locs' hS' => ?_)
  refine lv_ishr hx hb sD3_9 ?_
  rw [(sLen i hi).1]
  exact W.iret hx hb hr (fun t ht _ => ⟨rfl, ht⟩) hS'.2.2 sD3_10
theorem sM4 (G : mG) (l : Launch) {i n : Int32} {f : Value} (h0 : ¬ i < 0) (hn : i < n) (hf : f.category = 1) : sMet G l sY4 prog_28_method_11_code 3 (some .int) 1 [.int i, .int n, f] (some (.int i)) := by
  refine sMet_of sF4.2.2.1 (fun p e s mid args below meth c C => ?_)
  obtain ⟨hx, hb, hml, hr, hown, hts, hlocks, hE⟩ := C
  have hS : va_S (mA G) s.heap s.heap [] := va_S.rf
  refine lv_iload_n (i := 0) (x := i) hx hb sD4_0 rfl rfl ?_
  refine lv_if_lt (tgt := 9) hx hb sD4_1 rfl (fun q => absurd q h0) (fun _ => ?_)
  refine lv_iload_n (i := 0) (x := i) hx hb sD4_4 rfl rfl ?_
  refine lv_iload_n (i := 1) (x := n) hx hb sD4_5 rfl rfl ?_
  refine lv_icmp_lt (tgt := 16) hx hb sD4_6 rfl (fun _ => ?_) (fun q => absurd hn q)
  refine lv_iload_n (i := 0) (x := i) hx hb sD4_16 rfl rfl ?_
  exact W.iret hx hb hr (fun t ht _ => ⟨rfl, ht⟩) hS.2.2 sD4_17
theorem sM5 (G : mG) (l : Launch) {i n : Int32} (h0 : ¬ i < 0) (hn : i < n) : sMet G l sY5 prog_19_method_155_code 2 none 2 [.int i, .int n] none := by
  refine sMet_of sF5.2.2.1 (fun p e s mid args below meth c C => ?_)
  obtain ⟨hx, hb, hml, hr, hown, hts, hlocks, hE⟩ := C
  have hS : va_S (mA G) s.heap s.heap [] := va_S.rf
  refine lv_iload_n (i := 0) (x := i) hx hb sD5_0 rfl rfl ?_
  refine lv_iload_n (i := 1) (x := n) hx hb sD5_1 rfl rfl ?_
  have go : ∀ f : Value, f.category = 1 → va_Z "jdk/internal/util/Preconditions" "SIOOBE_FORMATTER" "Ljava/util/function/BiFunction;" f (mA G) s s.heap → W p l e (sRo 2) s mid args below meth c s.heap [] 0 0 (MQ below (sQ none) args s 0 0 (mA G)) (F0 mid 2 ((lg_sl [Value.int i, .int n] ++ List.replicate (2 - (lg_sl [Value.int i, .int n]).length) Slot.unset).toArray) [.int n, .int i]) := by
    intro f hf hZ
    refine va_gets hx hb hZ hS hown (hts _ (mWrd_big (w := 617) rfl rfl)) (fun _ q => q) sD5_2 ?_
    refine sCallS (As := [.int i, .int n, f]) (rest := []) sF4 (mWrd_big (w := 620) rfl rfl) (mWrd_big (w := 619) rfl rfl) hx hb hml hown hts hE hS (sM4 G l h0 hn hf) rfl (by decide) ⟨by decide, by decide⟩ ⟨by decide, by decide⟩ sD5_5 (fun locs' hS' => ?_)
    refine lv_pop hx hb sD5_8 rfl ?_
    exact W.vret hx hb hr (fun t ht _ => ⟨rfl, ht⟩) hS'.2.2 sD5_9
  rcases hE.2.2.2 with q | ⟨t, q⟩
  · exact go .null rfl q
  · exact go (.ref t) rfl q
theorem mIn_lt' {i : Int32} {n : Nat} (h : vp_in i n) : i.toNatClampNeg < n := Nat.not_le.mp fun q => h (Or.inr q)
theorem sIn {i : Int32} {n : Nat} (h : vp_in i n) (hn : n < 100000) : ¬ i < 0 ∧ i < Int32.ofNat n ∧ i.toNatClampNeg < n := by
  have h0 : ¬ i < 0 := fun q => h (Or.inl q)
  have hl := mIn_lt' h
  refine ⟨h0, ?_, hl⟩
  rw [Int32.lt_iff_toInt_lt]
  have e1 : (Int32.ofNat n).toInt = (n : Int) := nI_toInt (by omega)
  rw [e1]
  have e2 : i.toNatClampNeg = i.toInt.toNat := rfl
  omega
theorem sChr : ∀ i, i < 14 → ∀ j, j < (mStr i).length → ((((mSByt.getD i []).getD j 0) &&& 255).toUInt32 % 65536).toInt32 = nI ((mStr i).getD j 0) ∧ narrow .char (.int (nI ((mStr i).getD j 0))) = .int (nI ((mStr i).getD j 0)) ∧ (mStr i).length < 100 := by decide +kernel
theorem sM6 (G : mG) (l : Launch) {k : Nat} (hk : k < 14) {i : Int32} (hin : vp_in i (mStr k).length) : sMet G l sY6 prog_20_method_2_code 2 (some .char) 3 [.ref (gV G k), .int i] (some (.int (nI ((mStr k).getD i.toNatClampNeg 0)))) := by
  refine sMet_of sF6.2.2.1 (fun p e s mid args below meth c C => ?_)
  obtain ⟨hx, hb, hml, hr, hown, hts, hlocks, hE⟩ := C
  have hS : va_S (mA G) s.heap s.heap [] := va_S.rf
  have hjl : i.toNatClampNeg < (mStr k).length := mIn_lt' hin
  obtain ⟨c1, c2, c3⟩ := sChr k hk _ hjl
  obtain ⟨i0, i1, -⟩ := sIn hin (by omega)
  have hT := (hE.2.1.1 k hk).2.2.2
  rw [(sLen k hk).2] at hT
  refine lv_iload_n (i := 1) (x := i) hx hb sD6_0 rfl rfl ?_
  refine lv_aload_n (i := 0) (x := gV G k) hx hb sD6_1 rfl rfl ?_
  refine va_tlen hx hb hT hS rfl sD6_2 ?_
  refine sCallS (As := [.int i, .int (Int32.ofNat (mStr k).length)]) (rest := []) sF5 (mWrd_big (w := 615) rfl rfl) (mWrd_big (w := 614) rfl rfl) hx hb hml hown hts hE hS (sM5 G l i0 i1) rfl (by decide) ⟨by decide, by decide⟩ ⟨by decide, by decide⟩ sD6_3 (fun locs' hS' => ?_)
  refine lv_aload_n (i := 0) (x := gV G k) hx hb sD6_6 rfl rfl ?_
  refine lv_iload_n (i := 1) (x := i) hx hb sD6_7 rfl rfl ?_
  refine va_tb hx hb hT hS' hin rfl sD6_8 ?_
  refine lv_sipush (v := 255) hx hb sD6_9 (by decide) ?_
  refine lv_iand hx hb sD6_12 ?_
  refine lv_i2c hx hb sD6_13 c1 ?_
  exact W.zret hx hb hr c2 (fun t ht _ => ⟨rfl, ht⟩) hS'.2.2 sD6_14
theorem sM7 (G : mG) (l : Launch) {k : Nat} (hk : k < 14) {i : Int32} (hin : vp_in i (mStr k).length) : sMet G l sY7 prog_19_method_56_code 2 (some .char) 4 [.ref (gA G (144 + k)), .int i] (some (.int (nI ((mStr k).getD i.toNatClampNeg 0)))) := by
  refine sMet_of sF7.2.2.1 (fun p e s mid args below meth c C => ?_)
  obtain ⟨hx, hb, hml, hr, hown, hts, hlocks, hE⟩ := C
  have hS : va_S (mA G) s.heap s.heap [] := va_S.rf
  have hjl : i.toNatClampNeg < (mStr k).length := mIn_lt' hin
  obtain ⟨c1, c2, c3⟩ := sChr k hk _ hjl
  refine lv_aload_n (i := 0) (x := gA G (144 + k)) hx hb sD7_0 rfl rfl ?_
  refine sCallV (As := []) sF2 rfl (mWrd_big (w := 608) rfl rfl) (mWrd_big (w := 609) rfl rfl) (mWrd_big (w := 607) rfl rfl) hx hb hml hown hts hE hS hk (sM2 G l hk) rfl (by decide) ⟨by decide, by decide⟩ ⟨by decide, by decide⟩ sD7_1 (fun locs' hS' => ?_)
  refine lv_if_eq (tgt := 16) hx hb sD7_4 rfl (fun q => absurd q (by decide)) (fun _ => ?_)
  refine lv_aload_n (i := 0) (x := gA G (144 + k)) hx hb sD7_7 rfl rfl ?_
  refine vk_getf hx hb (hE.2.1.1 k hk).2.2.1 hS' hown (hts _ (mWrd_big (w := 1605) rfl rfl)) (fun _ q => q) sD7_8 ?_
  refine lv_iload_n (i := 1) (x := i) hx hb sD7_11 rfl rfl ?_
  refine sCallS (As := [.ref (gV G k), .int i]) (rest := []) sF6 (mWrd_big (w := 612) rfl rfl) (mWrd_big (w := 611) rfl rfl) hx hb hml hown hts hE hS' (sM6 G l hk hin) rfl (by decide) ⟨by decide, by decide⟩ ⟨by decide, by decide⟩ sD7_12 (fun locs'' hS'' => ?_)
  exact W.zret hx hb hr c2 (fun t ht _ => ⟨rfl, ht⟩) hS''.2.2 sD7_15
section STR2
variable {G : mG} {l : Launch} {d m pc : Nat} {lv : mLv} {st : List Value} {h : mHp} {out : mOut} {k : Nat}
theorem mSh_str {o k z : Nat} (h : mSh o = (7, k, z)) : o = 144 + k ∧ k < 14 := by
  have key : ∀ b, b < 158 → (mSh b).1 = 7 → b = 144 + (mSh b).2.1 ∧ (mSh b).2.1 < 14 := by decide +kernel
  rcases Nat.lt_or_ge o 158 with q | q
  · have := key o q (by rw [h])
    rw [h] at this
    exact this
  · have e : Nat.blt o 158 = false := mBltF q
    have : mSh o = (9, 0, 0) := by unfold mSh; rw [e]; rfl
    rw [this] at h
    cases h
set_option maxRecDepth 20000 in
theorem mSnd_len (hck1 : decode (mBy m) pc = .ok (.invokevirtual k, 3)) (hcls : (mY m).cls = RX6) (hk : k = 179) (hwd : mWd st ≤ 8)
    (hF : mR1 (fun s r => mStrC (fun q => mP1 G l d m (pc + 3) lv (.int (nI q.length) :: r) h out) (mSh s)) st) : mP0 G l d m pc lv st h out := by
  intro p e R s mid args below meth cd H locs cells slots mc ms ls C Lc Wl hS Rm
  obtain ⟨hx, hb, hml, hr, hown, hts, hlocks, htab, hl, hSt, hz⟩ := id C
  obtain ⟨o, r, rfl, hF2⟩ := mR1_e hF
  obtain ⟨i, z, hsh, hn⟩ := mStrC_k hF2
  obtain ⟨rfl, hi⟩ := mSh_str hsh
  subst hk
  rw [hcls] at hown
  have r1 := Rm.1
  have r2 := Rm.2.1
  have r3 := Rm.2.2.1
  have r4 := Rm.2.2.2.1
  have r5 := Rm.2.2.2.2.1
  have r6 := Rm.2.2.2.2.2
  have r7 := hn.1
  refine sCallV (As := []) (f := 2) (rest := r.map (mRv (gA G))) sF3 rfl (mWrd_big (w := 594) rfl rfl) (mWrd_big (w := 595) rfl rfl) (mWrd_big (w := 593) rfl rfl) hx hb (by rw [hml]; exact Lc.2.1.symm) hown hts hSt.2.2.2.2.2.1 hS hi (sM3 G l hi) rfl ?_ ⟨by omega, by omega⟩ ⟨by omega, by omega⟩ hck1 (fun locs' hS' => ?_)
  · rw [mWd_sum]; exact Nat.le_trans (Nat.le_add_left _ _) hwd
  · exact hn.2 p e R s mid args below meth cd H locs' cells slots mc ms ls C Lc Wl hS' Rm
set_option maxRecDepth 20000 in
theorem mSnd_chr (hck1 : decode (mBy m) pc = .ok (.invokevirtual k, 3)) (hcls : (mY m).cls = RX6) (hk : k = 183) (hwd : mWd st ≤ 8)
    (hF : mIR (fun i s r => mStrC (fun q => vp_in i q.length ∧ mP1 G l d m (pc + 3) lv (.int (nI (q.getD i.toNatClampNeg 0)) :: r) h out) (mSh s)) st) : mP0 G l d m pc lv st h out := by
  intro p e R s mid args below meth cd H locs cells slots mc ms ls C Lc Wl hS Rm
  obtain ⟨hx, hb, hml, hr, hown, hts, hlocks, htab, hl, hSt, hz⟩ := id C
  obtain ⟨x, o, r, rfl, hF2⟩ := mIR_e hF
  obtain ⟨i, z, hsh, hin, hn⟩ := mStrC_k hF2
  obtain ⟨rfl, hi⟩ := mSh_str hsh
  subst hk
  rw [hcls] at hown
  have r1 := Rm.1
  have r2 := Rm.2.1
  have r3 := Rm.2.2.1
  have r4 := Rm.2.2.2.1
  have r5 := Rm.2.2.2.2.1
  have r6 := Rm.2.2.2.2.2
  have r7 := hn.1
  refine sCallV (As := [.int x]) (f := 4) (rest := r.map (mRv (gA G))) sF7 rfl (mWrd_big (w := 604) rfl rfl) (mWrd_big (w := 605) rfl rfl) (mWrd_big (w := 603) rfl rfl) hx hb (by rw [hml]; exact Lc.2.1.symm) hown hts hSt.2.2.2.2.2.1 hS hi (sM7 G l hi hin) rfl ?_ ⟨by omega, by omega⟩ ⟨by omega, by omega⟩ hck1 (fun locs' hS' => ?_)
  · rw [mWd_sum]; exact Nat.le_trans (Nat.le_add_left _ _) (Nat.le_trans (Nat.le_add_left _ _) hwd)
  · exact hn.2 p e R s mid args below meth cd H locs' cells slots mc ms ls C Lc Wl hS' Rm
end STR2

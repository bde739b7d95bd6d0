/-! CONSTRUCTORS, part 1: rows for a world that grows -/
abbrev bInit (c : String) : MethodName := ⟨c, "<init>", "()V"⟩
def bNst : List (String × Nat × MethodName) := [(RX7, 9, bInit RX0), (RX7, 21, bInit RX6), (RX7, 35, bInit RX2), (RX7, 52, bInit RX1), (RX5, 33, bInit RX4)]
def bK (G : mG) (U : State) : Prop := va_K (gD G) vwCl (mTys G) U ∧ va_AO "TasterTable$Plan" U ∧ ∀ q ∈ bNst, va_Nw (.methodLinkNest q.1 q.2.1 q.2.2 "TasterTable") U
theorem bK_moved {G : mG} {u U : State} (hW : u.WarmedH U.vm) (h : bK G u) : bK G U := ⟨va_K.moved hW.alike h.1, va_AO.moved hW.alike h.2.1, fun q hq => va_Nw.warmM hW (h.2.2 q hq)⟩
def bI (G : mG) (A : Nat → Prop) (ws : va_W) (H0 H : Heap) (locs : List Loc) : Prop := va_P (gD G) vwCl ws H ∧ va_D A ws ∧ va_S A H0 H locs
theorem bI_push {G : mG} {A : Nat → Prop} {ws : va_W} {H0 H H1 : Heap} {locs : List Loc} {x : va_E} (hB : bI G A ws H0 H locs) (hA : ∀ q, H0.size ≤ q → A q) (hs : H1.size = H.size + 1) (ho : ∀ q, q < H.size → H1[q]? = H[q]?) (he : va_at (gD G) vwCl (H.size, x) H1) : bI G A (ws ++ [(H.size, x)]) H0 H1 locs := by
  obtain ⟨hP, hD, hS⟩ := hB
  refine ⟨(hP.kept (fun k q hk => ho q.1 ((hP k q hk).lt))).app (fun k q hk => ?_), hD.push hP rfl (hA _ hS.1), ⟨Nat.le_trans hS.1 (by omega), fun q h1 h2 => (ho q (Nat.lt_of_lt_of_le h1 hS.1)).trans (hS.2.1 q h1 h2), hS.2.2⟩⟩
  have hk0 : k < 1 := (List.getElem?_eq_some_iff.mp hk).1
  rw [show k = 0 by omega] at hk
  cases hk
  exact he
def bZ (ty : Nat → FieldType) (n : Nat) : List Value := (List.range n).map fun j => defaultValue (ty j)
theorem bZ_at {ty : Nat → FieldType} {n j : Nat} (h : j < n) : defaultValue (ty j) = vp_V (bZ ty n) j := by
  unfold vp_V bZ
  rw [List.getD_eq_getElem?_getD, List.getElem?_map, List.getElem?_range h]
  rfl
section BLD
variable {G : mG} {l : Launch} {p : Program} {e : Env} {R : Room} {s : State} {mid : MethodId} {args : Array Value} {below : List Frame} {meth : Method} {cd : Code} {H : Heap} {locs : List Loc} {cells slots pc : Nat} {ls : Array Slot} {Q : State → Prop} {cc : ByteArray} {A : Nat → Prop} {ws : va_W} {rest : List Value}
theorem bArr {atype : ArrayType} {cA : ClassId} {n : Int32} {N : Nat} {a0 : vp_A} (hx : p.tables.exec = Jvm.exec) (hb : cd.code = cc) (harr : (Cond.arrayClass (newarray.typeOf atype)).before args s = true) (hnm : s.vm.findClass ("[" ++ (newarray.typeOf atype).toString) = some cA) (hB : bI G A ws s.heap H locs) (hA : ∀ q, s.heap.size ≤ q → A q)
    (ha : vp_cell cA a0 = arrV cA N (fun _ => defaultValue (newarray.typeOf atype))) (hn : ¬ n < 0) (hN : n.toNatClampNeg = N) (hbytes : N * componentBytes (newarray.typeOf atype) ≤ 536870912) (hcells : cells + 1 ≤ R.cells) (hslots : slots + N ≤ R.slots) (hdg : decode cc pc = .ok (.newarray atype, 2))
    (kk : ∀ (z : Nat) (H1 : Heap), bI G A (ws ++ [(z, .inl (cA, a0))]) s.heap H1 locs → W p l e R s mid args below meth cd H1 locs (cells + 1) (slots + N) Q (F0 mid (pc + 2) ls (.ref z :: rest))) : W p l e R s mid args below meth cd H locs cells slots Q (F0 mid pc ls (.int n :: rest)) := by
  refine va_newaK hx hb harr rfl hdg rfl hn hN hbytes hcells hslots rfl (fun H1 cA' e1 z1 o1 hAr hNm => ?_)
  have : cA' = cA := Option.some.inj (hNm.symm.trans hnm)
  subst this
  refine kk H.size H1 (bI_push hB hA z1 o1 ?_)
  show H1[H.size]? = some (vp_cell _ _)
  rw [ha]; exact e1
theorem bArrI {n : Int32} {N : Nat} (hx : p.tables.exec = Jvm.exec) (hb : cd.code = cc) (hts : ∀ w ∈ mBIG, w.before args s = true) (hK : bK G s) (hB : bI G A ws s.heap H locs) (hA : ∀ q, s.heap.size ≤ q → A q)
    (hn : ¬ n < 0) (hN : n.toNatClampNeg = N) (hbytes : N * componentBytes .int ≤ 536870912) (hcells : cells + 1 ≤ R.cells) (hslots : slots + N ≤ R.slots) (hdg : decode cc pc = .ok (.newarray .int, 2))
    (kk : ∀ (z : Nat) (H1 : Heap), bI G A (ws ++ [(z, .inl (gI G, N, .inl (fun _ => 0)))]) s.heap H1 locs → W p l e R s mid args below meth cd H1 locs (cells + 1) (slots + N) Q (F0 mid (pc + 2) ls (.ref z :: rest))) : W p l e R s mid args below meth cd H locs cells slots Q (F0 mid pc ls (.int n :: rest)) :=
  bArr (atype := .int) hx hb (hts _ (mWrd_big (w := 129) rfl rfl)) (hK.1.2 0 (gI G, .int) rfl).2 hB hA rfl hn hN hbytes hcells hslots hdg kk
theorem bArrB {n : Int32} {N : Nat} (hx : p.tables.exec = Jvm.exec) (hb : cd.code = cc) (hts : ∀ w ∈ mBIG, w.before args s = true) (hK : bK G s) (hB : bI G A ws s.heap H locs) (hA : ∀ q, s.heap.size ≤ q → A q)
    (hn : ¬ n < 0) (hN : n.toNatClampNeg = N) (hbytes : N * componentBytes .byte ≤ 536870912) (hcells : cells + 1 ≤ R.cells) (hslots : slots + N ≤ R.slots) (hdg : decode cc pc = .ok (.newarray .byte, 2))
    (kk : ∀ (z : Nat) (H1 : Heap), bI G A (ws ++ [(z, .inl (gB G, N, .inl (fun _ => 0)))]) s.heap H1 locs → W p l e R s mid args below meth cd H1 locs (cells + 1) (slots + N) Q (F0 mid (pc + 2) ls (.ref z :: rest))) : W p l e R s mid args below meth cd H locs cells slots Q (F0 mid pc ls (.int n :: rest)) :=
  bArr (atype := .byte) hx hb (hts _ (mWrd_big (w := 172) rfl rfl)) (hK.1.2 1 (gB G, .byte) rfl).2 hB hA rfl hn hN hbytes hcells hslots hdg kk
theorem bArrJ {n : Int32} {N : Nat} (hx : p.tables.exec = Jvm.exec) (hb : cd.code = cc) (hts : ∀ w ∈ mBIG, w.before args s = true) (hK : bK G s) (hB : bI G A ws s.heap H locs) (hA : ∀ q, s.heap.size ≤ q → A q)
    (hn : ¬ n < 0) (hN : n.toNatClampNeg = N) (hbytes : N * componentBytes .long ≤ 536870912) (hcells : cells + 1 ≤ R.cells) (hslots : slots + N ≤ R.slots) (hdg : decode cc pc = .ok (.newarray .long, 2))
    (kk : ∀ (z : Nat) (H1 : Heap), bI G A (ws ++ [(z, .inl (gJ G, N, .inr (.inl (fun _ => 0))))]) s.heap H1 locs → W p l e R s mid args below meth cd H1 locs (cells + 1) (slots + N) Q (F0 mid (pc + 2) ls (.ref z :: rest))) : W p l e R s mid args below meth cd H locs cells slots Q (F0 mid pc ls (.int n :: rest)) :=
  bArr (atype := .long) hx hb (hts _ (mWrd_big (w := 1286) rfl rfl)) (hK.1.2 2 (gJ G, .long) rfl).2 hB hA rfl hn hN hbytes hcells hslots hdg kk
theorem bAnw {own : String} {index : Nat} {n : Int32} {N : Nat} (hx : p.tables.exec = Jvm.exec) (hb : cd.code = cc) (hts : ∀ w ∈ mBIG, w.before args s = true) (hown : s.vm.findClass own = some mid.cls) (hcl : Cond.classLink own index "TasterTable$Plan" ∈ mBIG) (hK : bK G s) (hB : bI G A ws s.heap H locs) (hA : ∀ q, s.heap.size ≤ q → A q)
    (hn : ¬ n < 0) (hN : n.toNatClampNeg = N) (hbytes : N * 4 ≤ 536870912) (hcells : cells + 1 ≤ R.cells) (hslots : slots + N ≤ R.slots) (hdg : decode cc pc = .ok (.anewarray index, 3))
    (kk : ∀ (z : Nat) (H1 : Heap), bI G A (ws ++ [(z, .inl (gO G, N, .inr (.inr (.inr (.inr (fun _ => none))))))]) s.heap H1 locs → W p l e R s mid args below meth cd H1 locs (cells + 1) (slots + N) Q (F0 mid (pc + 3) ls (.ref z :: rest))) : W p l e R s mid args below meth cd H locs cells slots Q (F0 mid pc ls (.int n :: rest)) := by
  subst hN
  obtain ⟨kA0, comp0, g1, g2, g3, g4⟩ := (hK.1.2 3 (gO G, .object "TasterTable$Plan") rfl).2
  refine W.anew hx hb hown (hts _ hcl) (va_AO.use hK.2.1) rfl hdg rfl hn hbytes hcells hslots (fun cA kA comp f1 f2 f3 f4 => ?_)
  have : cA = gO G := Option.some.inj (f1.symm.trans g4)
  subst this
  refine kk _ _ (bI_push hB hA (by simp) (fun q hq => by rw [Array.getElem?_push, if_neg (Nat.ne_of_lt hq)]) ?_)
  show _ = some (arrV (gO G) n.toNatClampNeg (fun _ => Value.null))
  rw [Array.getElem?_push_size, ← arrV_new]
theorem bNew {own : String} {index ci : Nat} (hci : ci < 9) (ty : Nat → FieldType) (hty : ∀ k, k < mNf ci → parseFieldDescriptor (mTT ci k).2.2.1 = some (ty k)) (hx : p.tables.exec = Jvm.exec) (hb : cd.code = cc) (hts : ∀ w ∈ mBIG, w.before args s = true) (hown : s.vm.findClass own = some mid.cls)
    (hcl : Cond.classLink own index (mCn ci) ∈ mBIG) (hins : Cond.instantiable (mCn ci) (mNf ci) ∈ mBIG) (hini : Cond.initialized (mCn ci) ∈ mBIG) (hK : bK G s) (hB : bI G A ws s.heap H locs) (hA : ∀ q, s.heap.size ≤ q → A q) (hcells : cells + 1 ≤ R.cells) (hslots : slots + mNf ci ≤ R.slots) (hdg : decode cc pc = .ok (.new index, 3))
    (kk : ∀ (z : Nat) (H1 : Heap), bI G A (ws ++ [(z, .inr (ci, bZ ty (mNf ci)))]) s.heap H1 locs → W p l e R s mid args below meth cd H1 locs (cells + 1) (slots + mNf ci) Q (F0 mid (pc + 3) ls (.ref z :: rest))) : W p l e R s mid args below meth cd H locs cells slots Q (F0 mid pc ls rest) := by
  have hKn := hK.1.1 ci _ (mCl_at hci)
  refine W.newcK hx hb hown (hts _ hcl) (hts _ hins) (hts _ hini) rfl hdg hcells hslots hKn.2.1 rfl (fun H1 kC hkC e1 z1 o1 => ?_)
  refine kk _ H1 (bI_push hB hA z1 o1 ?_)
  exact ⟨_, mCl_at hci, (u_born ty hts (mCl_ws hci) hKn hkC e1 hty).to (fun j hj => bZ_at hj)⟩
theorem bPut {own : String} {index ci k q0 a : Nat} {fs : List Value} {v : Value} {t : FieldType} (hci : ci < 9) (hk : k < mNf ci) (hx : p.tables.exec = Jvm.exec) (hb : cd.code = cc) (hts : ∀ w ∈ mBIG, w.before args s = true) (hown : s.vm.findClass own = some mid.cls) (hin2 : meth.name = "<init>") (hdecl : (mTT ci k).1 = own)
    (hlink : Cond.fieldLink own index (mTT ci k).1 (mTT ci k).2.1 (mTT ci k).2.2.1 ∈ mBIG) (hK : bK G s) (hB : bI G A ws s.heap H locs) (he : ws[q0]? = some (a, .inr (ci, fs))) (hd : parseFieldDescriptor (mTT ci k).2.2.1 = some t) (hn : narrow t v = v) (hfit : fits t v = true) (hl : k < fs.length)
    (hdg : decode cc pc = .ok (.putfield index, 3)) (kk : ∀ (H1 : Heap) (locs1 : List Loc), bI G A (ws.set q0 (a, .inr (ci, fs.set k v))) s.heap H1 locs1 → W p l e R s mid args below meth cd H1 locs1 cells slots Q (F0 mid (pc + 3) ls rest)) : W p l e R s mid args below meth cd H locs cells slots Q (F0 mid pc ls (v :: .ref a :: rest)) := by
  obtain ⟨ty0, hty, hnm⟩ := mCl_ty hci
  obtain ⟨hP, hD, hS⟩ := hB
  cases hfin : (mTT ci k).2.2.2 with
  | false => exact va_put hx hb hts (mCl_ws hci) ty0 hty hnm hown hK.1 hP hD hS q0 he (mCl_at hci) k hk (hts _ hlink) (fun _ q => q) hfin hd hn hfit hl hdg (fun H1 locs1 a1 a2 a3 => kk H1 locs1 ⟨a1, a2, a3⟩)
  | true => exact va_putF hx hb hts (mCl_ws hci) ty0 hty hnm hown hK.1 hP hD hS q0 he (mCl_at hci) k hk (hts _ hlink) (fun _ q => q) hfin hin2 hdecl hd hn hfit hl hdg (fun H1 locs1 a1 a2 a3 => kk H1 locs1 ⟨a1, a2, a3⟩)
theorem bAst {q0 a n : Nat} {f : Nat → Int32} {i x : Int32} (hx : p.tables.exec = Jvm.exec) (hb : cd.code = cc) (hK : bK G s) (hB : bI G A ws s.heap H locs) (he : ws[q0]? = some (a, .inl (gI G, n, .inl f))) (hin : vp_in i n) (hdg : decode cc pc = .ok (.iastore, 1))
    (kk : ∀ (H1 : Heap) (locs1 : List Loc), bI G A (ws.set q0 (a, .inl (gI G, n, .inl (upd f i.toNatClampNeg x)))) s.heap H1 locs1 → W p l e R s mid args below meth cd H1 locs1 cells slots Q (F0 mid (pc + 1) ls rest)) : W p l e R s mid args below meth cd H locs cells slots Q (F0 mid pc ls (.int x :: .int i :: .ref a :: rest)) :=
  va_iast hx hb hK.1 hB.1 hB.2.1 hB.2.2 q0 0 he rfl hin hdg (fun H1 locs1 a1 a2 a3 => kk H1 locs1 ⟨a1, a2, a3⟩)
/-! a constructor's contract -/
def cA (a z : Nat) : Nat → Prop := fun q => q = a ∨ z ≤ q
def cPc (G : mG) (a z ci : Nat) (fs : List Value) : Array Value → State → Prop := va_Pc [.ref a] (fun U => U.heap.size = z ∧ va_P (gD G) vwCl [(a, .inr (ci, fs))] U.heap ∧ bK G U)
theorem cPc_blind (G : mG) (a z ci : Nat) (fs : List Value) : FrameBlind (cPc G a z ci fs) := fun _ U _ _ ⟨q0, q1, q2, q3⟩ => ⟨q0, q1, q2, bK_moved (u := U) (State.WarmedH.refl U) q3⟩
def cQ (G : mG) (a z : Nat) (wF : (Nat → Nat) → va_W) : Array Value → State → Outcome → State → Prop := fun _ st oc t => oc = .returned none ∧ (∃ ad : Nat → Nat, ad 0 = a ∧ va_P (gD G) vwCl (wF ad) t.heap ∧ va_D (cA a z) (wF ad)) ∧ va_F (cA a z) st t
abbrev cRo (f mc ms : Nat) : Room := { frames := f, cells := mc, slots := ms, locals := 30 * f }
abbrev cMet (G : mG) (l : Launch) (c : String) (b : ByteArray) (n f mc ms ci : Nat) (fs : List Value) (wF : (Nat → Nat) → va_W) : Prop := ∀ a z : Nat, Met l (bInit c) (sWs (bInit c) b n none) (cRo f mc ms) (cPc G a z ci fs) (cQ G a z wF) mc ms (cA a z)
def cCx (G : mG) (p : Program) (s : State) (mid : MethodId) (args : Array Value) (meth : Method) (c : Code) (cls : String) (b : ByteArray) (n : Nat) : Prop :=
  p.tables.exec = Jvm.exec ∧ c.code = b ∧ c.maxLocals = n ∧ meth.sig.returnType = none ∧ s.vm.findClass cls = some mid.cls ∧ (∀ w ∈ mBIG, w.before args s = true) ∧ meth.locks = false ∧ meth.name = "<init>" ∧ bK G s
theorem cMet_of {c : String} {b : ByteArray} {n f mc ms ci : Nat} {fs : List Value} {wF : (Nat → Nat) → va_W} (hpl : plainName c = true)
    (body : ∀ (p : Program) (e : Env) (s : State) (mid : MethodId) (args : Array Value) (below : List Frame) (meth : Method) (cd : Code) (a : Nat) (A : Nat → Prop), A = cA a s.heap.size → cCx G p s mid args meth cd c b n → (∀ q, s.heap.size ≤ q → A q) → bI G A [(a, .inr (ci, fs))] s.heap s.heap [] →
      W p l e (cRo f mc ms) s mid args below meth cd s.heap [] 0 0 (MQ below (cQ G a s.heap.size wF) args s mc ms A) (F0 mid 0 ((lg_sl [Value.ref a] ++ List.replicate (n - (lg_sl [Value.ref a]).length) Slot.unset).toArray) [])) : cMet G l c b n f mc ms ci fs wF := by
  intro a z
  refine Met.ofW (cc := b) (maxL := n) (ret := none) hpl rfl ?_
  intro p e s m args below meth c0 s₁ B hml hv
  obtain ⟨rfl, hz, hP, hK⟩ := hv
  subst hz
  rw [lg_entry_eq]
  refine body p e s m _ below meth c0 a _ rfl ⟨B.exec, B.bytes, hml, B.returns, findClass_of_methodNamed B.named, fun w hw => atoms_spec (ws := sWs (bInit c) b n none) B.pre w (List.mem_cons_of_mem _ hw), B.notSynchronized, (name_of_methodNamed B.named B.method).1, hK⟩ (fun q h => Or.inr h) ⟨hP, ⟨fun i j p q hi hj _ => ?_, fun k q hk => ?_⟩, va_S.rf⟩
  · have h1 := (List.getElem?_eq_some_iff.mp hi).1
    have h2 := (List.getElem?_eq_some_iff.mp hj).1
    simp at h1 h2
    omega
  · have h1 := (List.getElem?_eq_some_iff.mp hk).1
    have h2 : k = 0 := by simp at h1; omega
    subst h2
    cases hk
    exact Or.inl rfl
/-- what the tables say of a constructor -/
def cFacts (c : String) (b : ByteArray) (n : Nat) : Prop := Cond.code (bInit c) b n none ∈ mBIG ∧ Cond.initialized c ∈ mBIG ∧ plainName c = true ∧ (c ≠ "java/lang/invoke/MethodHandle" ∧ c ≠ "java/lang/invoke/VarHandle") ∧ n ≤ 2 ∧ Cond.instanceMethod (bInit c) ∈ mBIG
theorem cDesc : (parseMethodDescriptor "()V").map (fun d => d.parameters.length) = some 0 := by decide +kernel
theorem bI_join {H1 : Heap} {locs1 : List Loc} {a : Nat} {x0 : va_E} {w1 : va_W} {A : Nat → Prop} (hB : bI G A (ws ++ [(a, x0)]) s.heap H locs) (hA : ∀ q, s.heap.size ≤ q → A q) (hP1 : va_P (gD G) vwCl w1 H1) (hD1 : va_D (cA a H.size) w1) (hF : H.size ≤ H1.size ∧ ∀ q, q < H.size → ¬ cA a H.size q → H1[q]? = H[q]?) (hL : ∀ q ∈ locs1, A q.base) : bI G A (ws ++ w1) s.heap H1 locs1 := by
  obtain ⟨hP, hD, hS⟩ := hB
  have hlen : (ws ++ [(a, x0)])[ws.length]? = some (a, x0) := by simp
  have hAa : A a := hD.2 _ _ hlen
  have hAc : ∀ q, cA a H.size q → A q := fun q hq => hq.elim (fun z => z ▸ hAa) (fun z => hA q (Nat.le_trans hS.1 z))
  have hin : ∀ (k : Nat) (q : Nat × va_E), ws[k]? = some q → (ws ++ [(a, x0)])[k]? = some q := fun k q hk => by
    rw [List.getElem?_append_left (List.getElem?_eq_some_iff.mp hk).1]; exact hk
  have hne : ∀ (k : Nat) (q : Nat × va_E), ws[k]? = some q → ¬ cA a H.size q.1 := fun k q hk hc => by
    rcases hc with z | z
    · have := hD.1 k ws.length q _ (hin k q hk) hlen z
      have := (List.getElem?_eq_some_iff.mp hk).1
      omega
    · exact absurd ((hP k q (hin k q hk)).lt) (Nat.not_lt.mpr z)
  refine ⟨va_P.app (fun k q hk => (hP k q (hin k q hk)).kept (hF.2 _ (hP k q (hin k q hk)).lt (hne k q hk))) hP1, va_D.app ⟨fun i j p q hi hj => hD.1 i j p q (hin i p hi) (hin j q hj), fun k q hk => hD.2 k q (hin k q hk)⟩ (hD1.weaken (fun _ _ _ h => hAc _ h)) (fun i j p q hi hj e => hne i p hi (e ▸ hD1.2 j q hj)), Nat.le_trans hS.1 hF.1, fun q h1 h2 => ?_, hL⟩
  rw [hF.2 q (Nat.lt_of_lt_of_le h1 hS.1) (fun z => h2 (hAc q z))]
  exact hS.2.1 q h1 h2
theorem cAfter {a mc ms : Nat} {x0 : va_E} {g : List Value} {wF : (Nat → Nat) → va_W} {a' : Array Value} (hB : bI G A (ws ++ [(a, x0)]) s.heap H locs) (hA : ∀ q, s.heap.size ≤ q → A q) (run : va_Run p l e R s mid args below meth cd H locs cells slots mc ms (F0 mid pc ls g) rest (cQ G a H.size wF a') (cA a H.size))
    (kk : ∀ (ad : Nat → Nat) (H1 : Heap) (locs1 : List Loc), ad 0 = a → bI G A (ws ++ wF ad) s.heap H1 locs1 → W p l e R s mid args below meth cd H1 locs1 (cells + mc) (slots + ms) Q (F0 mid (pc + 3) ls rest)) : W p l e R s mid args below meth cd H locs cells slots Q (F0 mid pc ls g) := by
  intro T hT X
  obtain ⟨v9, st₀, t, T', L, h0, X', hL, e1, e2, ⟨q1, ⟨ad, h2, h3, h4⟩, hF⟩, st9⟩ := run T hT X
  have hv9 : v9 = none := Outcome.returned.inj q1
  subst hv9
  have hlen : (ws ++ [(a, x0)])[ws.length]? = some (a, x0) := by simp
  have hAa : A a := hB.2.1.2 _ _ hlen
  have hj := bI_join (H1 := T'.heap) (locs1 := locs ++ L) hB hA (by rw [e1]; exact h3) h4 (by have hF2 := hF; unfold va_F at hF2; rw [h0] at hF2; rw [e1]; exact hF2) (fun q hq => (List.mem_append.mp hq).elim (hB.2.2.2.2 q) (fun z => (hL q z).elim (fun z => z ▸ hAa) (fun z => hA _ (Nat.le_trans hB.2.2.1 z))))
  obtain ⟨t2, a1, b1⟩ := kk ad T'.heap (locs ++ L) h2 hj T' rfl X'
  exact ⟨t2, st9 t2 a1, b1⟩
theorem cPre {a ci : Nat} {fs : List Value} (hK : bK G s) (hB : bI G A (ws ++ [(a, .inr (ci, fs))]) s.heap H locs) : PreS s H (cPc G a H.size ci fs) [.ref a] := by
  refine ⟨cPc_blind _ _ _ _ _, fun U hU hW => ⟨rfl, by rw [hU], ?_, bK_moved hW hK⟩⟩
  rw [hU]
  refine hB.1.by (fun k => ws.length + k) (fun k q hk => ?_)
  rw [List.getElem?_append_right (by omega)]
  rw [show ws.length + k - ws.length = k by omega]
  exact hk
theorem cCall {own c : String} {index a ci n f mc ms : Nat} {b : ByteArray} {fs : List Value} {wF : (Nat → Nat) → va_W} (F : cFacts c b n) (hl : Cond.methodLink own index (bInit c) ∈ mBIG) (hx : p.tables.exec = Jvm.exec) (hb : cd.code = cc) (hml : cd.maxLocals = ls.size) (hown : s.vm.findClass own = some mid.cls) (hts : ∀ w ∈ mBIG, w.before args s = true) (hK : bK G s)
    (hB : bI G A (ws ++ [(a, .inr (ci, fs))]) s.heap H locs) (hA : ∀ q, s.heap.size ≤ q → A q) (hM : cMet G l c b n f mc ms ci fs wF) (hwr : (rest.map fun v => v.category).sum ≤ 8) (hR : f + 1 ≤ R.frames ∧ 30 * f + 30 ≤ R.locals) (hf : cells + mc ≤ R.cells ∧ slots + ms ≤ R.slots) (hdg : decode cc pc = .ok (.invokespecial index, 3))
    (kk : ∀ (ad : Nat → Nat) (H1 : Heap) (locs1 : List Loc), ad 0 = a → bI G A (ws ++ wF ad) s.heap H1 locs1 → W p l e R s mid args below meth cd H1 locs1 (cells + mc) (slots + ms) Q (F0 mid (pc + 3) ls rest)) : W p l e R s mid args below meth cd H locs cells slots Q (F0 mid pc ls (.ref a :: rest)) := by
  obtain ⟨f1, f2, f3, f4, f5, f6⟩ := F
  refine cAfter hB hA (va_runI (rm := cRo f mc ms) (As := []) ⟨hx, hb, hml, hown, hts⟩ (hM a H.size) (cwI 0 hts (sWs_good f1) rfl rfl rfl (hts _ f2) (hts _ hl) (hts _ f6) rfl ⟨f4.1, f4.2, cDesc⟩ ⟨hR.1, ?_⟩) (cPre hK hB) rfl rfl rfl rfl (lv_room hwr) hdg hf) kk
  have e2 : (cRo f mc ms).locals = 30 * f := rfl
  rw [e2]; have := hR.2; omega
theorem cCallN {own c : String} {index a ci n f mc ms : Nat} {b : ByteArray} {fs : List Value} {wF : (Nat → Nat) → va_W} (F : cFacts c b n) (hl : (own, index, bInit c) ∈ bNst) (hx : p.tables.exec = Jvm.exec) (hb : cd.code = cc) (hml : cd.maxLocals = ls.size) (hown : s.vm.findClass own = some mid.cls) (hts : ∀ w ∈ mBIG, w.before args s = true) (hK : bK G s)
    (hB : bI G A (ws ++ [(a, .inr (ci, fs))]) s.heap H locs) (hA : ∀ q, s.heap.size ≤ q → A q) (hM : cMet G l c b n f mc ms ci fs wF) (hwr : (rest.map fun v => v.category).sum ≤ 8) (hR : f + 1 ≤ R.frames ∧ 30 * f + 30 ≤ R.locals) (hf : cells + mc ≤ R.cells ∧ slots + ms ≤ R.slots) (hdg : decode cc pc = .ok (.invokespecial index, 3))
    (kk : ∀ (ad : Nat → Nat) (H1 : Heap) (locs1 : List Loc), ad 0 = a → bI G A (ws ++ wF ad) s.heap H1 locs1 → W p l e R s mid args below meth cd H1 locs1 (cells + mc) (slots + ms) Q (F0 mid (pc + 3) ls rest)) : W p l e R s mid args below meth cd H locs cells slots Q (F0 mid pc ls (.ref a :: rest)) := by
  obtain ⟨f1, f2, f3, f4, f5, f6⟩ := F
  refine cAfter hB hA (va_runIN (host := "TasterTable") (rm := cRo f mc ms) (As := []) ⟨hx, hb, hml, hown, hts⟩ (hM a H.size) ⟨va_cnB (bytes := b) (maxL := n) (ret := none) 0 hts (sWs_good f1) rfl rfl rfl (hK.2.2 _ hl) (hts _ f2) ⟨f4.1, f4.2, cDesc⟩ ⟨hR.1, ?_⟩, rfl, hts _ f6⟩ (cPre hK hB) rfl rfl rfl rfl (lv_room hwr) hdg hf) kk
  have e2 : (cRo f mc ms).locals = 30 * f := rfl
  rw [e2]; have := hR.2; omega
end BLD

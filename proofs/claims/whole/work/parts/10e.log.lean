/-! CONSTRUCTORS, part 5: the call of fill, a field read -/
section FIL
variable {G : mG} {l : Launch} {p : Program} {e : Env} {R : Room} {s : State} {mid : MethodId} {args : Array Value} {below : List Frame} {meth : Method} {cd : Code} {H : Heap} {locs : List Loc} {cells slots pc : Nat} {ls : Array Slot} {Q : State → Prop} {cc : ByteArray} {A : Nat → Prop} {ws : va_W} {rest : List Value}
theorem fCall {own : String} {index q : Nat} {f : Nat → Int32} {v : Int32} (hl : Cond.methodLink own index fY ∈ mBIG) (hx : p.tables.exec = Jvm.exec) (hb : cd.code = cc) (hml : cd.maxLocals = ls.size) (hown : s.vm.findClass own = some mid.cls) (hts : ∀ w ∈ mBIG, w.before args s = true) (hK : bK G s)
    (hB : bI G A (ws ++ [(q, .inl (gI G, 5, .inl f))]) s.heap H locs) (hA : ∀ x, s.heap.size ≤ x → A x) (hwr : (rest.map fun v => v.category).sum ≤ 8) (hR : 1 + 1 ≤ R.frames ∧ 60 ≤ R.locals) (hf : cells ≤ R.cells ∧ slots ≤ R.slots) (hdg : decode cc pc = .ok (.invokestatic index, 3))
    (kk : ∀ (ad : Nat → Nat) (H1 : Heap) (locs1 : List Loc), ad 0 = q → bI G A (ws ++ fW G (fG f v 5) ad) s.heap H1 locs1 → W p l e R s mid args below meth cd H1 locs1 (cells + 0) (slots + 0) Q (F0 mid (pc + 3) ls rest)) : W p l e R s mid args below meth cd H locs cells slots Q (F0 mid pc ls (.int v :: .ref q :: rest)) := by
  have hG : GoodIn mBIG (va_wsS own index fY (sWs fY prog_26_method_103_code 4 none)) := by
    intro w hw
    rcases List.mem_append.mp hw with x | x
    · simp only [List.mem_cons, List.not_mem_nil, or_false] at x
      rcases x with rfl | rfl | rfl
      · exact mBIG_gi hl
      · exact mBIG_gi (mWrd_big (w := 286) rfl rfl)
      · exact mBIG_gi (mWrd_big (w := 8) rfl rfl)
    · exact sWs_good fFacts w x
  have hp : PreS s H (fPc G q H.size f v) [.ref q, .int v] := by
    refine ⟨fPc_blind _ _ _ _ _, fun U hU hW => ⟨rfl, by rw [hU], ?_, bK_moved hW hK⟩⟩
    rw [hU]
    refine hB.1.by (fun k => ws.length + k) (fun k x hk => ?_)
    rw [List.getElem?_append_right (by omega)]
    rw [show ws.length + k - ws.length = k by omega]
    exact hk
  refine cAfter hB hA (a' := [Value.ref q, .int v].toArray) (va_runS (rm := cRo 1 0 0) (As := [.ref q, .int v]) ⟨hx, hb, hml, hown, hts⟩ (fMet G l f v q H.size) (va_cwS (bytes := prog_26_method_103_code) (maxL := 4) (ret := none) 2 hts hG rfl rfl rfl ⟨by decide, by decide, by decide +kernel⟩ ⟨hR.1, ?_⟩) hp rfl rfl rfl rfl (lv_room hwr) hdg hf) kk
  have e2 : (cRo 1 0 0).locals = 30 := rfl
  rw [e2]; have := hR.2; omega
theorem bGet {own : String} {index ci k q0 a : Nat} {fs : List Value} {v : Value} (hci : ci < 9) (hk : k < mNf ci) (hx : p.tables.exec = Jvm.exec) (hb : cd.code = cc) (hts : ∀ w ∈ mBIG, w.before args s = true) (hown : s.vm.findClass own = some mid.cls)
    (hlink : Cond.fieldLink own index (mTT ci k).1 (mTT ci k).2.1 (mTT ci k).2.2.1 ∈ mBIG) (hK : bK G s) (hB : bI G A ws s.heap H locs) (he : ws[q0]? = some (a, .inr (ci, fs))) (hv : fs[k]? = some v)
    (hdg : decode cc pc = .ok (.getfield index, 3)) (kk : W p l e R s mid args below meth cd H locs cells slots Q (F0 mid (pc + 3) ls (v :: rest))) : W p l e R s mid args below meth cd H locs cells slots Q (F0 mid pc ls (.ref a :: rest)) :=
  va_get (v := v) hx hb hts (mCl_ws hci) hown hK.1 hB.1 q0 he (mCl_at hci) k hk (hts _ hlink) (fun _ q => q) hv hdg kk
end FIL

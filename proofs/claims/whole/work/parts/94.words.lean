/-! THE START, part 3: what the Statement gives at the law's entry (by program, wip/gen/gen_start.py) -/
abbrev gvC : Cond := Jvm.Cond.and given_1 narrow_1
theorem tW {s : State} {a : Array Value} (hts : ∀ w ∈ lw_tbl, w.before a s = true) {k : Nat} {c : Cond} (e : mWrd k = some c) : c.before a s = true := hts _ (List.mem_append_right _ (mWrd_in e))
theorem nW {s : State} {a : Array Value} (hgv : gvC.before a s = true) {k : Nat} {c : Cond} (e : (flatC gvC)[k]? = some c) : c.before a s = true := flat_of_before _ hgv c (List.mem_of_getElem? e)
theorem K_cl {s : State} {a : Array Value} (hts : ∀ w ∈ lw_tbl, w.before a s = true) : ∃ D : va_G, ∀ (c : Nat) (q : vw_C), vwCl[c]? = some q → u_Kn s q.1 q.2.1 q.2.2 (D.1 c) (D.2 c) := by
  have hb : ∀ w ∈ mBIG, w.before a s = true := fun w hw => hts w (mBIG_sub w hw)
  have hin : ∀ c, c < 9 → (Cond.instantiable (mCn c) (mNf c)).before a s = true := fun c hc => by
    match c, hc with
    | 0, _ => exact tW hts (k := 32) rfl
    | 1, _ => exact tW hts (k := 316) rfl
    | 2, _ => exact tW hts (k := 243) rfl
    | 3, _ => exact tW hts (k := 280) rfl
    | 4, _ => exact tW hts (k := 181) rfl
    | 5, _ => exact tW hts (k := 174) rfl
    | 6, _ => exact tW hts (k := 131) rfl
    | 7, _ => exact tW hts (k := 24) rfl
    | 8, _ => exact tW hts (k := 1090) rfl
  have h0 : ∀ c : Nat, ∃ q : ClassId × (Nat → Nat), c < 9 → u_Kn s (mCn c) (mTT c) (mNf c) q.1 q.2 := by
    intro c
    by_cases hc : c < 9
    · obtain ⟨cC, iS, h⟩ := u_known (C := mCn c) (T := mTT c) (N := mNf c) (n := mNf c) hb (mCl_ws hc) (hin c hc)
      exact ⟨(cC, iS), fun _ => h⟩
    · exact ⟨(0, fun _ => 0), fun h => absurd h hc⟩
  obtain ⟨f, hf⟩ := Classical.axiomOfChoice h0
  refine ⟨(fun c => (f c).1, fun c => (f c).2), fun c q hq => ?_⟩
  have hc : c < 9 := (List.getElem?_eq_some_iff.mp hq).1
  rw [mCl_at hc] at hq
  rw [← Option.some.inj hq]
  exact hf c hc
theorem K_ar {s : State} {a : Array Value} {ty : FieldType} (h : (Cond.arrayClass ty).before a s = true) (hty : ∀ C, ty ≠ .object C) : ∃ c : ClassId, ArrOfT s c ty ∧ va_RA s c ty := by
  obtain ⟨cA, kA, comp, h1, h2, h3⟩ := Cond.arrayClass_spec h
  refine ⟨cA, fun n z => ⟨fun k h => (by cases h), kA, h2, comp, h3⟩, ?_⟩
  cases ty with
  | object C => exact absurd rfl (hty C)
  | _ => exact h1
theorem K_ao {s : State} {a : Array Value} {C : String} (h : (Cond.arrayOver (.object C)).before a s = true) : ∃ c : ClassId, ArrOfT s c (.object C) ∧ va_RA s c (.object C) := by
  obtain ⟨comp, c, k, h1, h2, h3, h4, h5⟩ := Cond.arrayOver_spec h
  exact ⟨c, fun n z => ⟨fun k h => (by cases h), k, h3, comp, h4⟩, k, comp, h3, h4, h1, h5⟩
theorem K_all {s : State} {a : Array Value} (hts : ∀ w ∈ lw_tbl, w.before a s = true) : ∃ (D : va_G) (cI cB cJ cO : ClassId), va_K D vwCl [(cI, .int), (cB, .byte), (cJ, .long), (cO, .object "TasterTable$Plan")] s := by
  obtain ⟨D, hD⟩ := K_cl hts
  obtain ⟨cI, i1, i2⟩ := K_ar (tW hts (k := 129) (c := Cond.arrayClass .int) rfl) (fun C h => by cases h)
  obtain ⟨cB, b1, b2⟩ := K_ar (tW hts (k := 172) (c := Cond.arrayClass .byte) rfl) (fun C h => by cases h)
  obtain ⟨cJ, j1, j2⟩ := K_ar (tW hts (k := 1286) (c := Cond.arrayClass .long) rfl) (fun C h => by cases h)
  obtain ⟨cO, o1, o2⟩ := K_ao (tW hts (k := 180) (c := Cond.arrayOver (.object "TasterTable$Plan")) rfl)
  refine ⟨D, cI, cB, cJ, cO, hD, fun k q hk => ?_⟩
  match k, hk with
  | 0, hk => cases hk; exact ⟨i1, i2⟩
  | 1, hk => cases hk; exact ⟨b1, b2⟩
  | 2, hk => cases hk; exact ⟨j1, j2⟩
  | 3, hk => cases hk; exact ⟨o1, o2⟩
  | k + 4, hk => simp at hk
def sFa (s : State) (a : Array Value) (A : Nat → Prop) (i : Nat) (q : Nat × Nat) : Prop := (Term.string RX6 (mSi i)).eval a s none [] s = some (.ref q.1) ∧ va_O "java/lang/String" q.1 A s s.heap ∧ va_OF "java/lang/String" "coder" "B" (.int 0) q.1 A s s.heap ∧ va_OF "java/lang/String" "value" "[B" (.ref q.2) q.1 A s s.heap ∧ va_T .byte q.2 (mSLen.getD i 0) (fun j => .int ((mSByt.getD i []).getD j 0)) A s s.heap
theorem sS_0 {s : State} {a : Array Value} {A : Nat → Prop} (hgv : gvC.before a s = true) (hA : ∀ x : Nat, x < s.heap.size → ¬ A x) : ∃ q : Nat × Nat, sFa s a A 0 q := by
  obtain ⟨adK, adV, ⟨h1, -⟩, h2⟩ := vk_Sof (args := a) (s := s) (N := 1) (tm := fun _ => Term.string RX6 62) (len := [4]) (byt := [mSByt.getD 0 []]) (A := A) (fun i hi => match i, hi with | 0, _ => by decide) (fun _ _ => nW hgv (k := 73) rfl) (fun _ _ => nW hgv (k := 74) rfl) (fun _ _ => nW hgv (k := 75) rfl) (fun i hi => match i, hi with | 0, _ => nW hgv (k := 76) rfl) (fun i hi j hj => by
    obtain rfl : i = 0 := by omega
    have hj : j < 4 := hj
    match j, hj with
    | 0, _ => exact nW hgv (k := 77) rfl
    | 1, _ => exact nW hgv (k := 78) rfl
    | 2, _ => exact nW hgv (k := 79) rfl
    | 3, _ => exact nW hgv (k := 80) rfl) (fun i j hi hj hij => absurd (by omega) hij) hA
  exact ⟨(adK 0, adV 0), h2 0 (by omega), h1 0 (by omega)⟩
theorem sS_1 {s : State} {a : Array Value} {A : Nat → Prop} (hgv : gvC.before a s = true) (hA : ∀ x : Nat, x < s.heap.size → ¬ A x) : ∃ q : Nat × Nat, sFa s a A 1 q := by
  obtain ⟨adK, adV, ⟨h1, -⟩, h2⟩ := vk_Sof (args := a) (s := s) (N := 1) (tm := fun _ => Term.string RX6 72) (len := [6]) (byt := [mSByt.getD 1 []]) (A := A) (fun i hi => match i, hi with | 0, _ => by decide) (fun _ _ => nW hgv (k := 91) rfl) (fun _ _ => nW hgv (k := 92) rfl) (fun _ _ => nW hgv (k := 93) rfl) (fun i hi => match i, hi with | 0, _ => nW hgv (k := 94) rfl) (fun i hi j hj => by
    obtain rfl : i = 0 := by omega
    have hj : j < 6 := hj
    match j, hj with
    | 0, _ => exact nW hgv (k := 95) rfl
    | 1, _ => exact nW hgv (k := 96) rfl
    | 2, _ => exact nW hgv (k := 97) rfl
    | 3, _ => exact nW hgv (k := 98) rfl
    | 4, _ => exact nW hgv (k := 99) rfl
    | 5, _ => exact nW hgv (k := 100) rfl) (fun i j hi hj hij => absurd (by omega) hij) hA
  exact ⟨(adK 0, adV 0), h2 0 (by omega), h1 0 (by omega)⟩
theorem sS_2 {s : State} {a : Array Value} {A : Nat → Prop} (hgv : gvC.before a s = true) (hA : ∀ x : Nat, x < s.heap.size → ¬ A x) : ∃ q : Nat × Nat, sFa s a A 2 q := by
  obtain ⟨adK, adV, ⟨h1, -⟩, h2⟩ := vk_Sof (args := a) (s := s) (N := 1) (tm := fun _ => Term.string RX6 77) (len := [6]) (byt := [mSByt.getD 2 []]) (A := A) (fun i hi => match i, hi with | 0, _ => by decide) (fun _ _ => nW hgv (k := 120) rfl) (fun _ _ => nW hgv (k := 121) rfl) (fun _ _ => nW hgv (k := 122) rfl) (fun i hi => match i, hi with | 0, _ => nW hgv (k := 123) rfl) (fun i hi j hj => by
    obtain rfl : i = 0 := by omega
    have hj : j < 6 := hj
    match j, hj with
    | 0, _ => exact nW hgv (k := 124) rfl
    | 1, _ => exact nW hgv (k := 125) rfl
    | 2, _ => exact nW hgv (k := 126) rfl
    | 3, _ => exact nW hgv (k := 127) rfl
    | 4, _ => exact nW hgv (k := 128) rfl
    | 5, _ => exact nW hgv (k := 129) rfl) (fun i j hi hj hij => absurd (by omega) hij) hA
  exact ⟨(adK 0, adV 0), h2 0 (by omega), h1 0 (by omega)⟩
theorem sS_3 {s : State} {a : Array Value} {A : Nat → Prop} (hgv : gvC.before a s = true) (hA : ∀ x : Nat, x < s.heap.size → ¬ A x) : ∃ q : Nat × Nat, sFa s a A 3 q := by
  obtain ⟨adK, adV, ⟨h1, -⟩, h2⟩ := vk_Sof (args := a) (s := s) (N := 1) (tm := fun _ => Term.string RX6 82) (len := [3]) (byt := [mSByt.getD 3 []]) (A := A) (fun i hi => match i, hi with | 0, _ => by decide) (fun _ _ => nW hgv (k := 178) rfl) (fun _ _ => nW hgv (k := 179) rfl) (fun _ _ => nW hgv (k := 180) rfl) (fun i hi => match i, hi with | 0, _ => nW hgv (k := 181) rfl) (fun i hi j hj => by
    obtain rfl : i = 0 := by omega
    have hj : j < 3 := hj
    match j, hj with
    | 0, _ => exact nW hgv (k := 182) rfl
    | 1, _ => exact nW hgv (k := 183) rfl
    | 2, _ => exact nW hgv (k := 184) rfl) (fun i j hi hj hij => absurd (by omega) hij) hA
  exact ⟨(adK 0, adV 0), h2 0 (by omega), h1 0 (by omega)⟩
theorem sS_4 {s : State} {a : Array Value} {A : Nat → Prop} (hgv : gvC.before a s = true) (hA : ∀ x : Nat, x < s.heap.size → ¬ A x) : ∃ q : Nat × Nat, sFa s a A 4 q := by
  obtain ⟨adK, adV, ⟨h1, -⟩, h2⟩ := vk_Sof (args := a) (s := s) (N := 1) (tm := fun _ => Term.string RX6 87) (len := [5]) (byt := [mSByt.getD 4 []]) (A := A) (fun i hi => match i, hi with | 0, _ => by decide) (fun _ _ => nW hgv (k := 185) rfl) (fun _ _ => nW hgv (k := 186) rfl) (fun _ _ => nW hgv (k := 187) rfl) (fun i hi => match i, hi with | 0, _ => nW hgv (k := 188) rfl) (fun i hi j hj => by
    obtain rfl : i = 0 := by omega
    have hj : j < 5 := hj
    match j, hj with
    | 0, _ => exact nW hgv (k := 189) rfl
    | 1, _ => exact nW hgv (k := 190) rfl
    | 2, _ => exact nW hgv (k := 191) rfl
    | 3, _ => exact nW hgv (k := 192) rfl
    | 4, _ => exact nW hgv (k := 193) rfl) (fun i j hi hj hij => absurd (by omega) hij) hA
  exact ⟨(adK 0, adV 0), h2 0 (by omega), h1 0 (by omega)⟩
theorem sS_5 {s : State} {a : Array Value} {A : Nat → Prop} (hgv : gvC.before a s = true) (hA : ∀ x : Nat, x < s.heap.size → ¬ A x) : ∃ q : Nat × Nat, sFa s a A 5 q := by
  obtain ⟨adK, adV, ⟨h1, -⟩, h2⟩ := vk_Sof (args := a) (s := s) (N := 1) (tm := fun _ => Term.string RX6 102) (len := [6]) (byt := [mSByt.getD 5 []]) (A := A) (fun i hi => match i, hi with | 0, _ => by decide) (fun _ _ => nW hgv (k := 81) rfl) (fun _ _ => nW hgv (k := 82) rfl) (fun _ _ => nW hgv (k := 83) rfl) (fun i hi => match i, hi with | 0, _ => nW hgv (k := 84) rfl) (fun i hi j hj => by
    obtain rfl : i = 0 := by omega
    have hj : j < 6 := hj
    match j, hj with
    | 0, _ => exact nW hgv (k := 85) rfl
    | 1, _ => exact nW hgv (k := 86) rfl
    | 2, _ => exact nW hgv (k := 87) rfl
    | 3, _ => exact nW hgv (k := 88) rfl
    | 4, _ => exact nW hgv (k := 89) rfl
    | 5, _ => exact nW hgv (k := 90) rfl) (fun i j hi hj hij => absurd (by omega) hij) hA
  exact ⟨(adK 0, adV 0), h2 0 (by omega), h1 0 (by omega)⟩
theorem sS_6 {s : State} {a : Array Value} {A : Nat → Prop} (hgv : gvC.before a s = true) (hA : ∀ x : Nat, x < s.heap.size → ¬ A x) : ∃ q : Nat × Nat, sFa s a A 6 q := by
  obtain ⟨adK, adV, ⟨h1, -⟩, h2⟩ := vk_Sof (args := a) (s := s) (N := 1) (tm := fun _ => Term.string RX6 123) (len := [4]) (byt := [mSByt.getD 6 []]) (A := A) (fun i hi => match i, hi with | 0, _ => by decide) (fun _ _ => nW hgv (k := 101) rfl) (fun _ _ => nW hgv (k := 102) rfl) (fun _ _ => nW hgv (k := 103) rfl) (fun i hi => match i, hi with | 0, _ => nW hgv (k := 104) rfl) (fun i hi j hj => by
    obtain rfl : i = 0 := by omega
    have hj : j < 4 := hj
    match j, hj with
    | 0, _ => exact nW hgv (k := 105) rfl
    | 1, _ => exact nW hgv (k := 106) rfl
    | 2, _ => exact nW hgv (k := 107) rfl
    | 3, _ => exact nW hgv (k := 108) rfl) (fun i j hi hj hij => absurd (by omega) hij) hA
  exact ⟨(adK 0, adV 0), h2 0 (by omega), h1 0 (by omega)⟩
theorem sS_7 {s : State} {a : Array Value} {A : Nat → Prop} (hgv : gvC.before a s = true) (hA : ∀ x : Nat, x < s.heap.size → ¬ A x) : ∃ q : Nat × Nat, sFa s a A 7 q := by
  obtain ⟨adK, adV, ⟨h1, -⟩, h2⟩ := vk_Sof (args := a) (s := s) (N := 1) (tm := fun _ => Term.string RX6 125) (len := [7]) (byt := [mSByt.getD 7 []]) (A := A) (fun i hi => match i, hi with | 0, _ => by decide) (fun _ _ => nW hgv (k := 109) rfl) (fun _ _ => nW hgv (k := 110) rfl) (fun _ _ => nW hgv (k := 111) rfl) (fun i hi => match i, hi with | 0, _ => nW hgv (k := 112) rfl) (fun i hi j hj => by
    obtain rfl : i = 0 := by omega
    have hj : j < 7 := hj
    match j, hj with
    | 0, _ => exact nW hgv (k := 113) rfl
    | 1, _ => exact nW hgv (k := 114) rfl
    | 2, _ => exact nW hgv (k := 115) rfl
    | 3, _ => exact nW hgv (k := 116) rfl
    | 4, _ => exact nW hgv (k := 117) rfl
    | 5, _ => exact nW hgv (k := 118) rfl
    | 6, _ => exact nW hgv (k := 119) rfl) (fun i j hi hj hij => absurd (by omega) hij) hA
  exact ⟨(adK 0, adV 0), h2 0 (by omega), h1 0 (by omega)⟩
theorem sS_8 {s : State} {a : Array Value} {A : Nat → Prop} (hgv : gvC.before a s = true) (hA : ∀ x : Nat, x < s.heap.size → ¬ A x) : ∃ q : Nat × Nat, sFa s a A 8 q := by
  obtain ⟨adK, adV, ⟨h1, -⟩, h2⟩ := vk_Sof (args := a) (s := s) (N := 1) (tm := fun _ => Term.string RX6 145) (len := [3]) (byt := [mSByt.getD 8 []]) (A := A) (fun i hi => match i, hi with | 0, _ => by decide) (fun _ _ => nW hgv (k := 171) rfl) (fun _ _ => nW hgv (k := 172) rfl) (fun _ _ => nW hgv (k := 173) rfl) (fun i hi => match i, hi with | 0, _ => nW hgv (k := 174) rfl) (fun i hi j hj => by
    obtain rfl : i = 0 := by omega
    have hj : j < 3 := hj
    match j, hj with
    | 0, _ => exact nW hgv (k := 175) rfl
    | 1, _ => exact nW hgv (k := 176) rfl
    | 2, _ => exact nW hgv (k := 177) rfl) (fun i j hi hj hij => absurd (by omega) hij) hA
  exact ⟨(adK 0, adV 0), h2 0 (by omega), h1 0 (by omega)⟩
theorem sS_9 {s : State} {a : Array Value} {A : Nat → Prop} (hgv : gvC.before a s = true) (hA : ∀ x : Nat, x < s.heap.size → ¬ A x) : ∃ q : Nat × Nat, sFa s a A 9 q := by
  obtain ⟨adK, adV, ⟨h1, -⟩, h2⟩ := vk_Sof (args := a) (s := s) (N := 1) (tm := fun _ => Term.string RX6 152) (len := [5]) (byt := [mSByt.getD 9 []]) (A := A) (fun i hi => match i, hi with | 0, _ => by decide) (fun _ _ => nW hgv (k := 130) rfl) (fun _ _ => nW hgv (k := 131) rfl) (fun _ _ => nW hgv (k := 132) rfl) (fun i hi => match i, hi with | 0, _ => nW hgv (k := 133) rfl) (fun i hi j hj => by
    obtain rfl : i = 0 := by omega
    have hj : j < 5 := hj
    match j, hj with
    | 0, _ => exact nW hgv (k := 134) rfl
    | 1, _ => exact nW hgv (k := 135) rfl
    | 2, _ => exact nW hgv (k := 136) rfl
    | 3, _ => exact nW hgv (k := 137) rfl
    | 4, _ => exact nW hgv (k := 138) rfl) (fun i j hi hj hij => absurd (by omega) hij) hA
  exact ⟨(adK 0, adV 0), h2 0 (by omega), h1 0 (by omega)⟩
theorem sS_10 {s : State} {a : Array Value} {A : Nat → Prop} (hgv : gvC.before a s = true) (hA : ∀ x : Nat, x < s.heap.size → ¬ A x) : ∃ q : Nat × Nat, sFa s a A 10 q := by
  obtain ⟨adK, adV, ⟨h1, -⟩, h2⟩ := vk_Sof (args := a) (s := s) (N := 1) (tm := fun _ => Term.string RX6 154) (len := [4]) (byt := [mSByt.getD 10 []]) (A := A) (fun i hi => match i, hi with | 0, _ => by decide) (fun _ _ => nW hgv (k := 139) rfl) (fun _ _ => nW hgv (k := 140) rfl) (fun _ _ => nW hgv (k := 141) rfl) (fun i hi => match i, hi with | 0, _ => nW hgv (k := 142) rfl) (fun i hi j hj => by
    obtain rfl : i = 0 := by omega
    have hj : j < 4 := hj
    match j, hj with
    | 0, _ => exact nW hgv (k := 143) rfl
    | 1, _ => exact nW hgv (k := 144) rfl
    | 2, _ => exact nW hgv (k := 145) rfl
    | 3, _ => exact nW hgv (k := 146) rfl) (fun i j hi hj hij => absurd (by omega) hij) hA
  exact ⟨(adK 0, adV 0), h2 0 (by omega), h1 0 (by omega)⟩
theorem sS_11 {s : State} {a : Array Value} {A : Nat → Prop} (hgv : gvC.before a s = true) (hA : ∀ x : Nat, x < s.heap.size → ¬ A x) : ∃ q : Nat × Nat, sFa s a A 11 q := by
  obtain ⟨adK, adV, ⟨h1, -⟩, h2⟩ := vk_Sof (args := a) (s := s) (N := 1) (tm := fun _ => Term.string RX6 156) (len := [5]) (byt := [mSByt.getD 11 []]) (A := A) (fun i hi => match i, hi with | 0, _ => by decide) (fun _ _ => nW hgv (k := 147) rfl) (fun _ _ => nW hgv (k := 148) rfl) (fun _ _ => nW hgv (k := 149) rfl) (fun i hi => match i, hi with | 0, _ => nW hgv (k := 150) rfl) (fun i hi j hj => by
    obtain rfl : i = 0 := by omega
    have hj : j < 5 := hj
    match j, hj with
    | 0, _ => exact nW hgv (k := 151) rfl
    | 1, _ => exact nW hgv (k := 152) rfl
    | 2, _ => exact nW hgv (k := 153) rfl
    | 3, _ => exact nW hgv (k := 154) rfl
    | 4, _ => exact nW hgv (k := 155) rfl) (fun i j hi hj hij => absurd (by omega) hij) hA
  exact ⟨(adK 0, adV 0), h2 0 (by omega), h1 0 (by omega)⟩
theorem sS_12 {s : State} {a : Array Value} {A : Nat → Prop} (hgv : gvC.before a s = true) (hA : ∀ x : Nat, x < s.heap.size → ¬ A x) : ∃ q : Nat × Nat, sFa s a A 12 q := by
  obtain ⟨adK, adV, ⟨h1, -⟩, h2⟩ := vk_Sof (args := a) (s := s) (N := 1) (tm := fun _ => Term.string RX6 158) (len := [3]) (byt := [mSByt.getD 12 []]) (A := A) (fun i hi => match i, hi with | 0, _ => by decide) (fun _ _ => nW hgv (k := 156) rfl) (fun _ _ => nW hgv (k := 157) rfl) (fun _ _ => nW hgv (k := 158) rfl) (fun i hi => match i, hi with | 0, _ => nW hgv (k := 159) rfl) (fun i hi j hj => by
    obtain rfl : i = 0 := by omega
    have hj : j < 3 := hj
    match j, hj with
    | 0, _ => exact nW hgv (k := 160) rfl
    | 1, _ => exact nW hgv (k := 161) rfl
    | 2, _ => exact nW hgv (k := 162) rfl) (fun i j hi hj hij => absurd (by omega) hij) hA
  exact ⟨(adK 0, adV 0), h2 0 (by omega), h1 0 (by omega)⟩
theorem sS_13 {s : State} {a : Array Value} {A : Nat → Prop} (hgv : gvC.before a s = true) (hA : ∀ x : Nat, x < s.heap.size → ¬ A x) : ∃ q : Nat × Nat, sFa s a A 13 q := by
  obtain ⟨adK, adV, ⟨h1, -⟩, h2⟩ := vk_Sof (args := a) (s := s) (N := 1) (tm := fun _ => Term.string RX6 160) (len := [4]) (byt := [mSByt.getD 13 []]) (A := A) (fun i hi => match i, hi with | 0, _ => by decide) (fun _ _ => nW hgv (k := 163) rfl) (fun _ _ => nW hgv (k := 164) rfl) (fun _ _ => nW hgv (k := 165) rfl) (fun i hi => match i, hi with | 0, _ => nW hgv (k := 166) rfl) (fun i hi j hj => by
    obtain rfl : i = 0 := by omega
    have hj : j < 4 := hj
    match j, hj with
    | 0, _ => exact nW hgv (k := 167) rfl
    | 1, _ => exact nW hgv (k := 168) rfl
    | 2, _ => exact nW hgv (k := 169) rfl
    | 3, _ => exact nW hgv (k := 170) rfl) (fun i j hi hj hij => absurd (by omega) hij) hA
  exact ⟨(adK 0, adV 0), h2 0 (by omega), h1 0 (by omega)⟩
theorem sS_all {s : State} {a : Array Value} {A : Nat → Prop} (hgv : gvC.before a s = true) (hA : ∀ x : Nat, x < s.heap.size → ¬ A x) : ∃ f : Nat → Nat × Nat, ∀ i, i < 14 → sFa s a A i (f i) := by
  have h0 : ∀ i : Nat, ∃ q : Nat × Nat, i < 14 → sFa s a A i q := by
    intro i
    by_cases hi : i < 14
    · match i, hi with
      | 0, _ => obtain ⟨q, h⟩ := sS_0 hgv hA; exact ⟨q, fun _ => h⟩
      | 1, _ => obtain ⟨q, h⟩ := sS_1 hgv hA; exact ⟨q, fun _ => h⟩
      | 2, _ => obtain ⟨q, h⟩ := sS_2 hgv hA; exact ⟨q, fun _ => h⟩
      | 3, _ => obtain ⟨q, h⟩ := sS_3 hgv hA; exact ⟨q, fun _ => h⟩
      | 4, _ => obtain ⟨q, h⟩ := sS_4 hgv hA; exact ⟨q, fun _ => h⟩
      | 5, _ => obtain ⟨q, h⟩ := sS_5 hgv hA; exact ⟨q, fun _ => h⟩
      | 6, _ => obtain ⟨q, h⟩ := sS_6 hgv hA; exact ⟨q, fun _ => h⟩
      | 7, _ => obtain ⟨q, h⟩ := sS_7 hgv hA; exact ⟨q, fun _ => h⟩
      | 8, _ => obtain ⟨q, h⟩ := sS_8 hgv hA; exact ⟨q, fun _ => h⟩
      | 9, _ => obtain ⟨q, h⟩ := sS_9 hgv hA; exact ⟨q, fun _ => h⟩
      | 10, _ => obtain ⟨q, h⟩ := sS_10 hgv hA; exact ⟨q, fun _ => h⟩
      | 11, _ => obtain ⟨q, h⟩ := sS_11 hgv hA; exact ⟨q, fun _ => h⟩
      | 12, _ => obtain ⟨q, h⟩ := sS_12 hgv hA; exact ⟨q, fun _ => h⟩
      | 13, _ => obtain ⟨q, h⟩ := sS_13 hgv hA; exact ⟨q, fun _ => h⟩
    · exact ⟨(0, 0), fun h => absurd h hi⟩
  exact Classical.axiomOfChoice h0
theorem va_OF_fun {o n d : String} {v w : Value} {t : Nat} {A : Nat → Prop} {U : State} {H : Heap} (h1 : va_OF o n d v t A U H) (h2 : va_OF o n d w t A U H) : v = w := by
  obtain ⟨cf, k, i, f, cell, a1, a2, a3, a4, a5, -⟩ := h1
  obtain ⟨cf', k', i', f', cell', b1, b2, b3, b4, b5, -⟩ := h2
  rw [a1] at b1
  have e := Option.some.inj b1
  rw [a3] at b3
  have e2 := Option.some.inj b3
  have ef : f = f' := by injection e with _ e; injection e with _ e; injection e with _ e
  subst ef
  subst e2
  rw [a5] at b5
  exact Option.some.inj b5
theorem va_T_fun {ty : FieldType} {t N M : Nat} {f g : Nat → Value} {A : Nat → Prop} {U : State} {H : Heap} (hN : N < 2 ^ 31) (hM : M < 2 ^ 31) (h1 : va_T ty t N f A U H) (h2 : va_T ty t M g A U H) : N = M ∧ ∀ j, j < N → f j = g j := by
  obtain ⟨c, a1, a2, a3, a4, a5, a6, -⟩ := h1
  obtain ⟨c', b1, b2, b3, b4, b5, b6, -⟩ := h2
  rw [a1] at b1
  have e := Option.some.inj b1
  subst e
  have e : N = M := by
    rw [a5] at b5
    have := congrArg Int32.toInt b5
    rw [Int32.toInt_ofNat_of_lt hN, Int32.toInt_ofNat_of_lt hM] at this
    omega
  subst e
  exact ⟨rfl, fun j hj => by have := (a6 j hj).symm.trans (b6 j hj); exact Option.some.inj this⟩
def sEqv (i j : Nat) : Bool := mSLen.getD i 0 == mSLen.getD j 0 && (List.range (mSLen.getD i 0)).all fun k => (mSByt.getD i []).getD k 0 == (mSByt.getD j []).getD k 0
theorem sEqv_id : ∀ i, i < 14 → ∀ j, j < 14 → sEqv i j = true → i = j := by decide +kernel
theorem sLen_lt : ∀ i, i < 14 → mSLen.getD i 0 < 2 ^ 31 := by decide +kernel
theorem sS_inj {s : State} {a : Array Value} {A : Nat → Prop} {f : Nat → Nat × Nat} (h : ∀ i, i < 14 → sFa s a A i (f i)) : ∀ i j : Nat, i < 14 → j < 14 → (f i).1 = (f j).1 → i = j := by
  intro i j hi hj e
  obtain ⟨-, -, -, a4, a5⟩ := h i hi
  obtain ⟨-, -, -, b4, b5⟩ := h j hj
  rw [← e] at b4
  have e2 : (f i).2 = (f j).2 := by
    have := va_OF_fun a4 b4
    injection this
  rw [← e2] at b5
  obtain ⟨l1, l2⟩ := va_T_fun (sLen_lt i hi) (sLen_lt j hj) a5 b5
  refine sEqv_id i hi j hj ?_
  unfold sEqv
  rw [Bool.and_eq_true]
  refine ⟨by rw [l1]; exact beq_self_eq_true _, List.all_eq_true.mpr (fun k hk => ?_)⟩
  have := l2 k (List.mem_range.mp hk)
  have : (mSByt.getD i []).getD k 0 = (mSByt.getD j []).getD k 0 := by injection this
  rw [this]
  exact beq_self_eq_true _
theorem sR_all {s : State} {a : Array Value} {A : Nat → Prop} {f : Nat → Nat × Nat} (hts : ∀ w ∈ lw_tbl, w.before a s = true) (h : ∀ i, i < 14 → sFa s a A i (f i)) : ∀ i, i < 14 → vk_R RX6 (mSi i) (mTt i) (f i).1 s := by
  intro i hi
  refine vk_R.of (A := a) ?_ (h i hi).1
  match i, hi with
  | 0, _ => exact tW hts (k := 588) rfl
  | 1, _ => exact tW hts (k := 662) rfl
  | 2, _ => exact tW hts (k := 669) rfl
  | 3, _ => exact tW hts (k := 684) rfl
  | 4, _ => exact tW hts (k := 694) rfl
  | 5, _ => exact tW hts (k := 653) rfl
  | 6, _ => exact tW hts (k := 667) rfl
  | 7, _ => exact tW hts (k := 668) rfl
  | 8, _ => exact tW hts (k := 683) rfl
  | 9, _ => exact tW hts (k := 678) rfl
  | 10, _ => exact tW hts (k := 679) rfl
  | 11, _ => exact tW hts (k := 680) rfl
  | 12, _ => exact tW hts (k := 681) rfl
  | 13, _ => exact tW hts (k := 682) rfl
theorem exR {s : State} {a : Array Value} {own tx : String} {k : Nat} (h1 : (Cond.stringRef own k tx).before a s = true) (h2 : (Cond.exactly (Term.string own k) "java/lang/String").before a s = true) : ∃ sa, vk_R own k tx sa s := by
  obtain ⟨x, c, cA, kA, q1, -⟩ := Cond.exactly_spec (args := a) (first := s) (o := none) (s := s) (idx := []) (t := Term.string own k) (cls := "java/lang/String") h2
  exact ⟨x, vk_R.of (A := a) h1 q1⟩
set_option maxRecDepth 100000 in
theorem tx_all {s : State} {a : Array Value} (hts : ∀ w ∈ lw_tbl, w.before a s = true) (hgv : gvC.before a s = true) : ∀ q ∈ mTx, ∃ sa, vk_R RX7 q.1 q.2 sa s := by
  unfold mTx
  refine List.forall_mem_cons.mpr ⟨exR (tW hts (k := 541) rfl) (nW hgv (k := 39) rfl), ?_⟩
  refine List.forall_mem_cons.mpr ⟨exR (tW hts (k := 732) rfl) (nW hgv (k := 194) rfl), ?_⟩
  refine List.forall_mem_cons.mpr ⟨exR (tW hts (k := 751) rfl) (nW hgv (k := 227) rfl), ?_⟩
  refine List.forall_mem_cons.mpr ⟨exR (tW hts (k := 764) rfl) (nW hgv (k := 272) rfl), ?_⟩
  refine List.forall_mem_cons.mpr ⟨exR (tW hts (k := 777) rfl) (nW hgv (k := 319) rfl), ?_⟩
  refine List.forall_mem_cons.mpr ⟨exR (tW hts (k := 902) rfl) (nW hgv (k := 396) rfl), ?_⟩
  refine List.forall_mem_cons.mpr ⟨exR (tW hts (k := 963) rfl) (nW hgv (k := 415) rfl), ?_⟩
  refine List.forall_mem_cons.mpr ⟨exR (tW hts (k := 1013) rfl) (nW hgv (k := 431) rfl), ?_⟩
  refine List.forall_mem_cons.mpr ⟨exR (tW hts (k := 1021) rfl) (nW hgv (k := 454) rfl), ?_⟩
  refine List.forall_mem_cons.mpr ⟨exR (tW hts (k := 1032) rfl) (nW hgv (k := 471) rfl), ?_⟩
  refine List.forall_mem_cons.mpr ⟨exR (tW hts (k := 1044) rfl) (nW hgv (k := 489) rfl), ?_⟩
  refine List.forall_mem_cons.mpr ⟨exR (tW hts (k := 1079) rfl) (nW hgv (k := 517) rfl), ?_⟩
  refine List.forall_mem_cons.mpr ⟨exR (tW hts (k := 1080) rfl) (nW hgv (k := 542) rfl), ?_⟩
  refine List.forall_mem_cons.mpr ⟨exR (tW hts (k := 1088) rfl) (nW hgv (k := 568) rfl), ?_⟩
  refine List.forall_mem_cons.mpr ⟨exR (tW hts (k := 750) rfl) (nW hgv (k := 211) rfl), ?_⟩
  refine List.forall_mem_cons.mpr ⟨exR (tW hts (k := 763) rfl) (nW hgv (k := 254) rfl), ?_⟩
  refine List.forall_mem_cons.mpr ⟨exR (tW hts (k := 776) rfl) (nW hgv (k := 301) rfl), ?_⟩
  refine List.forall_mem_cons.mpr ⟨exR (tW hts (k := 797) rfl) (nW hgv (k := 348) rfl), ?_⟩
  refine List.forall_mem_cons.mpr ⟨exR (tW hts (k := 801) rfl) (nW hgv (k := 364) rfl), ?_⟩
  exact fun _ h => absurd h List.not_mem_nil
theorem notes_at {s : State} {a : Array Value} {A : Nat → Prop} (hts : ∀ w ∈ lw_tbl, w.before a s = true) (hgv : gvC.before a s = true) (hA : ∀ x : Nat, x < s.heap.size → ¬ A x) : ∃ t : Nat, va_Z RX5 "NOTES_FROM" "[I" (.ref t) A s s.heap ∧ va_T .int t 5 (fun j => .int (mNo j)) A s s.heap := by
  obtain ⟨t, ht, hT⟩ := va_Tof (args := a) (s := s) (tm := Term.static RX5 "NOTES_FROM" "[I") (ty := .int) (N := 5) (f := fun j => .int (mNo j)) (A := A) (by decide) (nW hgv (k := 12) rfl) (va_eqt (nW hgv (k := 13) rfl)) (fun j hj => by
    match j, hj with
    | 0, _ => exact va_eqt (nW hgv (k := 14) rfl)
    | 1, _ => exact va_eqt (nW hgv (k := 15) rfl)
    | 2, _ => exact va_eqt (nW hgv (k := 16) rfl)
    | 3, _ => exact va_eqt (nW hgv (k := 17) rfl)
    | 4, _ => exact va_eqt (nW hgv (k := 18) rfl)) hA
  exact ⟨t, va_Zref (tW hts (k := 873) rfl) (tW hts (k := 4) rfl) ht hA, hT⟩
theorem nst_all {s : State} {a : Array Value} (hts : ∀ w ∈ lw_tbl, w.before a s = true) : ∀ q ∈ bNst, va_Nw (.methodLinkNest q.1 q.2.1 q.2.2 "TasterTable") s := by
  unfold bNst
  refine List.forall_mem_cons.mpr ⟨va_Nw.of rfl (tW hts (k := 33) rfl), ?_⟩
  refine List.forall_mem_cons.mpr ⟨va_Nw.of rfl (tW hts (k := 132) rfl), ?_⟩
  refine List.forall_mem_cons.mpr ⟨va_Nw.of rfl (tW hts (k := 244) rfl), ?_⟩
  refine List.forall_mem_cons.mpr ⟨va_Nw.of rfl (tW hts (k := 317) rfl), ?_⟩
  refine List.forall_mem_cons.mpr ⟨va_Nw.of rfl (tW hts (k := 182) rfl), ?_⟩
  exact fun _ h => absurd h List.not_mem_nil
theorem had_all {s : State} {a : Array Value} (hts : ∀ w ∈ lw_tbl, w.before a s = true) : ∀ q ∈ mNest, va_Nw (.methodLinkNest q.1 q.2 mHad "TasterTable") s := by
  unfold mNest
  refine List.forall_mem_cons.mpr ⟨va_Nw.of rfl (tW hts (k := 451) rfl), ?_⟩
  refine List.forall_mem_cons.mpr ⟨va_Nw.of rfl (tW hts (k := 693) rfl), ?_⟩
  refine List.forall_mem_cons.mpr ⟨va_Nw.of rfl (tW hts (k := 1064) rfl), ?_⟩
  exact fun _ h => absurd h List.not_mem_nil
theorem dec_all {s : State} {a : Array Value} (hts : ∀ w ∈ lw_tbl, w.before a s = true) : ∀ q ∈ mDec, va_Nw (.declares q) s := by
  unfold mDec
  refine List.forall_mem_cons.mpr ⟨va_Nw.of rfl (tW hts (k := 505) rfl), ?_⟩
  refine List.forall_mem_cons.mpr ⟨va_Nw.of rfl (tW hts (k := 507) rfl), ?_⟩
  refine List.forall_mem_cons.mpr ⟨va_Nw.of rfl (tW hts (k := 509) rfl), ?_⟩
  exact fun _ h => absurd h List.not_mem_nil
/-- all that stays, at the law's entry -/
theorem mSt_start {s : State} {b L : Nat} {xs : Nat → Int32} (hts : ∀ w ∈ lw_tbl, w.before #[Value.ref b] s = true) (hgv : gvC.before #[Value.ref b] s = true) (hX : va_X b L xs s s.heap) (hbl : b < s.heap.size) :
    ∃ (D : va_G) (cs : ClassId × ClassId × ClassId × ClassId) (tn : Nat) (f : Nat → Nat × Nat), ∀ gaf : Nat → Nat, (gaf 142 = b ∧ gaf 143 = tn ∧ ∀ i, i < 14 → gaf (144 + i) = (f i).1) → mSt (D, cs, gaf, s.heap.size, L, xs, fun i => (f i).2) s s.heap ∧ bK (D, cs, gaf, s.heap.size, L, xs, fun i => (f i).2) s := by
  have hA : ∀ x : Nat, x < s.heap.size → ¬ (fun q : Nat => s.heap.size ≤ q) x := fun x hx => Nat.not_le.mpr hx
  obtain ⟨D, cI, cB, cJ, cO, hK⟩ := K_all hts
  obtain ⟨tn, n1, n2⟩ := notes_at (A := fun q : Nat => s.heap.size ≤ q) hts hgv hA
  obtain ⟨f, hf⟩ := sS_all (A := fun q : Nat => s.heap.size ≤ q) hgv hA
  have hR := sR_all hts hf
  have hJ := sS_inj hf
  refine ⟨D, (cI, cB, cJ, cO), tn, f, fun gaf hg => ?_⟩
  obtain ⟨g1, g2, g3⟩ := hg
  refine ⟨⟨hK, ⟨by show va_X (gaf 142) L xs s s.heap; rw [g1]; exact hX, by show ¬ s.heap.size ≤ gaf 142; rw [g1]; exact Nat.not_le.mpr hbl⟩, ⟨by show va_Z RX5 "NOTES_FROM" "[I" (.ref (gaf 143)) _ s s.heap; rw [g2]; exact n1, by show va_T .int (gaf 143) 5 _ _ s s.heap; rw [g2]; exact n2⟩, ⟨vx_Zqof (tW hts (k := 528) rfl) (tW hts (k := 11) rfl) (nW hgv (k := 4) rfl) hA, vx_Zqof (tW hts (k := 530) rfl) (tW hts (k := 11) rfl) (nW hgv (k := 5) rfl) hA⟩, tx_all hts hgv, ⟨fun i hi => by show vk_R RX6 (mSi i) (mTt i) (gaf (144 + i)) s; rw [g3 i hi]; exact hR i hi, ⟨fun i hi => ?_, fun i j hi hj e => ?_⟩, va_Zof (tW hts (k := 602) rfl) (tW hts (k := 16) rfl) (va_eqt (nW hgv (k := 6) rfl)) hA, va_Zqof (tW hts (k := 618) rfl) (tW hts (k := 18) rfl) (nW hgv (k := 7) rfl) hA⟩, ⟨va_Nw.of rfl (tW hts (k := 503) rfl), va_Nw.of rfl (tW hts (k := 725) rfl), va_Nc.of (nW hgv (k := 38) rfl)⟩, had_all hts, dec_all hts⟩, hK, va_AO.of (tW hts (k := 180) rfl), nst_all hts⟩
  · obtain ⟨-, a2, a3, a4, a5⟩ := hf i hi
    show va_O "java/lang/String" (gaf (144 + i)) _ s s.heap ∧ va_OF "java/lang/String" "coder" "B" (.int 0) (gaf (144 + i)) _ s s.heap ∧ va_OF "java/lang/String" "value" "[B" (.ref (f i).2) (gaf (144 + i)) _ s s.heap ∧ va_T .byte (f i).2 (mSLen.getD i 0) _ _ s s.heap
    rw [g3 i hi]
    exact ⟨a2, a3, a4, a5⟩
  · have e : gaf (144 + i) = gaf (144 + j) := e
    rw [g3 i hi, g3 j hj] at e
    exact hJ i j hi hj e

/-! L3, every call of the class over the whole state -/
theorem IC_tq {h h' : mHp} {b : Nat} {n : Int} {g : Int → Int32} {B : tB} {E : tE} {k : Int} {C : tC} {i : Int} {E' : tE} {C' : tC} {r0 r1 r2 p q : Int} {rs fs : List Nat} {k1 s2 q1 : Int} {C1 : tC} (hI : IC h b n g B E k C i E' C' r0 r1 r2 p q) (f : tqF rs fs h h') (hr : ∀ x, x ∈ rs → 102 ≤ x ∧ x ≤ 107) (hf : ∀ x, x ∈ fs → x = 10 ∨ x = 14) (hS : PLs h' B q1) (hC : CC h' 102 C1) (h10 : h'.1 0 10 = zI k1) (h14 : h'.1 0 14 = zI s2) : IC h' b n g B E k1 C1 i E' C' r0 r1 s2 p q1 := by
  obtain ⟨⟨hb, a1, a2⟩, a3, a4, a5, a6, a7, a8, a9, a10, a11, a12, a13, a14⟩ := hI
  have bl : 0 < b ∧ b ≤ 12 := by rcases hb with z | z <;> omega
  have e : ∀ x, x < 26 ∨ 86 < x → x < 102 ∨ 107 < x → x ≠ 0 → h'.1 x = h.1 x := fun x u v w => f.1 x u (fun z => by have := hr x z; omega) w
  have e0 : ∀ j, j ≠ 10 → j ≠ 14 → h'.1 0 j = h.1 0 j := fun j u v => f.2.1 j (fun z => by have := hf j z; omega)
  have er : h'.2.2.1 0 = h.2.2.1 0 := f.2.2.2.1 0 (by omega)
  exact ⟨⟨hb, by rw [er]; exact a1, by rw [er]; exact a2⟩, TC_of a3 (by rw [e 23 (by omega) (by omega) (by omega)]) (e 24 (by omega) (by omega) (by omega)), BC_of a4 (fun j hj => e _ (by omega) (by omega) (by omega)), LC_of a5 (fun j hj => e _ (by omega) (by omega) (by omega)), h10, hC, by rw [e0 9 (by omega) (by omega)]; exact a8, fun z => ⟨LC_of (a9 z).1 (fun j hj => e _ (by omega) (by omega) (by omega)), CC_of (a9 z).2 (fun j hj => e _ (by omega) (by omega) (by omega))⟩, by rw [e0 12 (by omega) (by omega)]; exact a10, by rw [e0 13 (by omega) (by omega)]; exact a11, h14, by rw [e0 11 (by omega) (by omega)]; exact a13, hS⟩
theorem IC_j {h h' : mHp} {b : Nat} {n : Int} {g : Int → Int32} {B : tB} {E : tE} {k : Int} {C : tC} {i : Int} {E' : tE} {C' : tC} {r0 r1 r2 p q : Int} (hI : IC h b n g B E k C i E' C' r0 r1 r2 p q) (f : jF h h') : IC h' b n g B E k C i E' C' r0 r1 r2 p q := by
  obtain ⟨⟨hb, a1, a2⟩, a3, a4, a5, a6, a7, a8, a9, a10, a11, a12, a13, a14⟩ := hI
  have bl : 0 < b ∧ b ≤ 12 := by rcases hb with z | z <;> omega
  have e : ∀ x, x < 87 ∨ 89 < x → h'.1 x = h.1 x := fun x u => f.1 x (by simp; omega)
  have er : h'.2.2.1 0 = h.2.2.1 0 := f.2.2.1 0 (by omega) (by omega)
  exact ⟨⟨hb, by rw [er]; exact a1, by rw [er]; exact a2⟩, TC_of a3 (by rw [e 23 (by omega)]) (e 24 (by omega)), BC_of a4 (fun j hj => e _ (by omega)), LC_of a5 (fun j hj => e _ (by omega)), by rw [e 0 (by omega)]; exact a6, CC_of a7 (fun j hj => e _ (by omega)), by rw [e 0 (by omega)]; exact a8, fun z => ⟨LC_of (a9 z).1 (fun j hj => e _ (by omega)), CC_of (a9 z).2 (fun j hj => e _ (by omega))⟩, by rw [e 0 (by omega)]; exact a10, by rw [e 0 (by omega)]; exact a11, by rw [e 0 (by omega)]; exact a12, by rw [e 0 (by omega)]; exact a13, PLs_of a14 (fun x u v => e x (by omega)) (e 143 (by omega))⟩
theorem IC_w {h h' : mHp} {b : Nat} {n : Int} {g : Int → Int32} {B : tB} {E : tE} {k : Int} {C : tC} {i : Int} {E' : tE} {C' : tC} {r0 r1 r2 p q : Int} {rs fs : List Nat} {s1 : Int} {E1 : tE} (hI : IC h b n g B E k C i E' C' r0 r1 r2 p q) (f : wF rs fs h h') (hr : ∀ x, x ∈ rs → 90 ≤ x ∧ x ≤ 95) (hf : ∀ x, x ∈ fs → x = 13) (hL : LC h' 90 E1) (h13 : h'.1 0 13 = zI s1) : IC h' b n g B E1 k C i E' C' r0 s1 r2 p q := by
  obtain ⟨⟨hb, a1, a2⟩, a3, a4, a5, a6, a7, a8, a9, a10, a11, a12, a13, a14⟩ := hI
  have bl : 0 < b ∧ b ≤ 12 := by rcases hb with z | z <;> omega
  have e : ∀ x, x < 90 ∨ 95 < x → x ≠ 0 → h'.1 x = h.1 x := fun x u w => f.1 x (fun z => by have := hr x z; omega) w
  have e0 : ∀ j, j ≠ 13 → h'.1 0 j = h.1 0 j := fun j u => f.2.1 j (fun z => u (hf j z))
  have er : h'.2.2.1 0 = h.2.2.1 0 := by rw [f.2.2.2.1]
  exact ⟨⟨hb, by rw [er]; exact a1, by rw [er]; exact a2⟩, TC_of a3 (by rw [e 23 (by omega) (by omega)]) (e 24 (by omega) (by omega)), BC_of a4 (fun j hj => e _ (by omega) (by omega)), hL, by rw [e0 10 (by omega)]; exact a6, CC_of a7 (fun j hj => e _ (by omega) (by omega)), by rw [e0 9 (by omega)]; exact a8, fun z => ⟨LC_of (a9 z).1 (fun j hj => e _ (by omega) (by omega)), CC_of (a9 z).2 (fun j hj => e _ (by omega) (by omega))⟩, by rw [e0 12 (by omega)]; exact a10, h13, by rw [e0 14 (by omega)]; exact a12, by rw [e0 11 (by omega)]; exact a13, PLs_of a14 (fun x u v => e x (by omega) (by omega)) (e 143 (by omega) (by omega))⟩
theorem IC_xc {h : mHp} {b : Nat} {n : Int} {g : Int → Int32} {B : tB} {E : tE} {k : Int} {C : tC} {i : Int} {E' : tE} {C' : tC} {r0 r1 r2 p q : Int} (hI : IC h b n g B E k C i E' C' r0 r1 r2 p q) : IC (mXc h) b n g B E k C i E' C' r0 r1 r2 p q := IC_of hI (fun _ _ => rfl) rfl rfl
theorem tQ_ans {r : Int × Int} {h : mHp} {d m : Nat} {lv : mLv} {b : Nat} {n : Int} {g : Int → Int32} {B : tB} {E : tE} {k : Int} {C : tC} {i : Int} {E' : tE} {C' : tC} {r0 r1 r2 p q : Int} (hI : IC h b n g B E k C i E' C' r0 r1 r2 p q) (hr : mRuns d m 0 lv [] h (tQ r h)) : ∃ h' q', mRuns d m 0 lv [] h (tAns r 1 h') ∧ IC h' b n g B E k C i E' C' r0 r1 r2 p q' ∧ fC h h' ∧ q ≤ q' ∧ q' ≤ q + 384 := by
  unfold tQ at hr
  by_cases c : r.1 = 0
  · rw [if_pos c] at hr
    exact ⟨h, q, by unfold tAns; rw [if_pos c]; exact hr, hI, fC_refl h, by omega, by omega⟩
  · rw [if_neg c] at hr
    exact ⟨mXc h, q, by unfold tAns; rw [if_neg c]; exact hr, IC_xc hI, fC_xc h, by omega, by omega⟩
theorem cs_count {d : Nat} {h : mHp} {b : Nat} {n : Int} {g : Int → Int32} {B : tB} {E : tE} {k : Int} {C : tC} {i : Int} {E' : tE} {C' : tC} {r0 r1 r2 p q : Int} (hI : IC h b n g B E k C i E' C' r0 r1 r2 p q) (hO : IO n B E k C i E' C') (a : Int32) : ∃ h' q', mRuns (d + 20) 159 0 [some (.ref 0), some (.int a)] [] h (tAns (rCount B E C n r0 r1 r2 a.toInt) 1 h') ∧ IC h' b n g B E k C i E' C' r0 r1 r2 p q' ∧ fC h h' ∧ q ≤ q' ∧ q' ≤ q + 384 := by
  obtain ⟨⟨hb, a1, a2⟩, a3, a4, a5, a6, a7, a8, a9, a10, a11, a12, a13, a14⟩ := hI
  have r := s_T_count (d := d + 18) hb a1 a4 a5 hO.2.2.1 a7 a3.1 a10 a11 a12 (tR1 a) (tR2 a)
  rw [← zI_of a] at r
  exact tQ_ans ⟨⟨hb, a1, a2⟩, a3, a4, a5, a6, a7, a8, a9, a10, a11, a12, a13, a14⟩ r
theorem cs_dish {d : Nat} {h : mHp} {b : Nat} {n : Int} {g : Int → Int32} {B : tB} {E : tE} {k : Int} {C : tC} {i : Int} {E' : tE} {C' : tC} {r0 r1 r2 p q : Int} (hI : IC h b n g B E k C i E' C' r0 r1 r2 p q) (hO : IO n B E k C i E' C') (a c : Int32) : ∃ h' q', mRuns (d + 20) 160 0 [some (.ref 0), some (.int a), some (.int c)] [] h (tAns (rDish B a.toInt c.toInt) 1 h') ∧ IC h' b n g B E k C i E' C' r0 r1 r2 p q' ∧ fC h h' ∧ q ≤ q' ∧ q' ≤ q + 384 := by
  have r := s_T_dish (d := d + 18) hI.1.1 hI.1.2.1 hI.2.2.1 hO.2.1 (tR1 a) (tR2 a) (tR1 c) (tR2 c)
  rw [← zI_of a, ← zI_of c] at r
  exact tQ_ans hI r
theorem cs_poison {d : Nat} {h : mHp} {b : Nat} {n : Int} {g : Int → Int32} {B : tB} {E : tE} {k : Int} {C : tC} {i : Int} {E' : tE} {C' : tC} {r0 r1 r2 p q : Int} (hI : IC h b n g B E k C i E' C' r0 r1 r2 p q) (hO : IO n B E k C i E' C') (a c : Int32) : ∃ h' q', mRuns (d + 20) 162 0 [some (.ref 0), some (.int a), some (.int c)] [] h (tAns (rPois B a.toInt c.toInt) 1 h') ∧ IC h' b n g B E k C i E' C' r0 r1 r2 p q' ∧ fC h h' ∧ q ≤ q' ∧ q' ≤ q + 384 := by
  have r := s_T_poison (d := d + 18) hI.1.1 hI.1.2.1 hI.2.2.1 hO.2.1 (tR1 a) (tR2 a) (tR1 c) (tR2 c)
  rw [← zI_of a, ← zI_of c] at r
  exact tQ_ans hI r
theorem cs_taster {d : Nat} {h : mHp} {b : Nat} {n : Int} {g : Int → Int32} {B : tB} {E : tE} {k : Int} {C : tC} {i : Int} {E' : tE} {C' : tC} {r0 r1 r2 p q : Int} (hI : IC h b n g B E k C i E' C' r0 r1 r2 p q) (hO : IO n B E k C i E' C') (a c : Int32) : ∃ h' q', mRuns (d + 20) 164 0 [some (.ref 0), some (.int a), some (.int c)] [] h (tAns (rTast B E a.toInt c.toInt) 1 h') ∧ IC h' b n g B E k C i E' C' r0 r1 r2 p q' ∧ fC h h' ∧ q ≤ q' ∧ q' ≤ q + 384 := by
  have r := s_T_taster (d := d + 18) hI.1.1 hI.1.2.1 hI.2.2.1 hO.2.1 hI.2.2.2.1 (tR1 a) (tR2 a) (tR1 c) (tR2 c)
  rw [← zI_of a, ← zI_of c] at r
  exact tQ_ans hI r
theorem cs_shows {d : Nat} {h : mHp} {b : Nat} {n : Int} {g : Int → Int32} {B : tB} {E : tE} {k : Int} {C : tC} {i : Int} {E' : tE} {C' : tC} {r0 r1 r2 p q : Int} (hI : IC h b n g B E k C i E' C' r0 r1 r2 p q) (hO : IO n B E k C i E' C') (a c : Int32) {w : Int} (w0 : 0 ≤ w) (w1 : w ≤ 1) : ∃ h' q', mRuns (d + 20) 166 0 [some (.ref 0), some (.int a), some (.int c), some (.int (zI w))] [] h (tAns (rShow B a.toInt c.toInt w) 1 h') ∧ IC h' b n g B E k C i E' C' r0 r1 r2 p q' ∧ fC h h' ∧ q ≤ q' ∧ q' ≤ q + 384 := by
  have r := s_T_shows (d := d + 17) hI.1.1 hI.1.2.1 hI.2.2.1 hO.2.1 (tR1 a) (tR2 a) (tR1 c) (tR2 c) w0 w1
  rw [← zI_of a, ← zI_of c] at r
  exact tQ_ans hI r
theorem cs_day {d : Nat} {h : mHp} {b : Nat} {n : Int} {g : Int → Int32} {B : tB} {E : tE} {k : Int} {C : tC} {i : Int} {E' : tE} {C' : tC} {r0 r1 r2 p q : Int} (hI : IC h b n g B E k C i E' C' r0 r1 r2 p q) (hO : IO n B E k C i E' C') (a c : Int32) : ∃ h' q', mRuns (d + 20) 186 0 [some (.ref 0), some (.int a), some (.int c)] [] h (tAns (rDay C a.toInt c.toInt) 1 h') ∧ IC h' b n g B E k C i E' C' r0 r1 r2 p q' ∧ fC h h' ∧ q ≤ q' ∧ q' ≤ q + 384 := by
  have r := s_T_day (d := d + 19) hI.2.2.2.2.2.1 hO.2.2.2.2.1 (tR1 a) (tR2 a) (tR1 c) (tR2 c)
  rw [← zI_of a, ← zI_of c] at r
  exact tQ_ans hI r
theorem cs_had {d : Nat} {h : mHp} {b : Nat} {n : Int} {g : Int → Int32} {B : tB} {E : tE} {k : Int} {C : tC} {i : Int} {E' : tE} {C' : tC} {r0 r1 r2 p q : Int} (hI : IC h b n g B E k C i E' C' r0 r1 r2 p q) (hO : IO n B E k C i E' C') (a c : Int32) : ∃ h' q', mRuns (d + 20) 187 0 [some (.ref 0), some (.int a), some (.int c)] [] h (tAns (rHad B C a.toInt c.toInt) 1 h') ∧ IC h' b n g B E k C i E' C' r0 r1 r2 p q' ∧ fC h h' ∧ q ≤ q' ∧ q' ≤ q + 384 := by
  have r := s_T_had (d := d + 18) hI.1.1 hI.1.2.1 hI.2.2.1 hO.2.1 hI.2.2.2.2.2.1 hO.2.2.2.2.1 (tR1 a) (tR2 a) (tR1 c) (tR2 c)
  rw [← zI_of a, ← zI_of c] at r
  exact tQ_ans hI r
theorem cs_plan {d : Nat} {h : mHp} {b : Nat} {n : Int} {g : Int → Int32} {B : tB} {E : tE} {k : Int} {C : tC} {i : Int} {E' : tE} {C' : tC} {r0 r1 r2 p q : Int} (hI : IC h b n g B E k C i E' C' r0 r1 r2 p q) (hO : IO n B E k C i E' C') (hq : q + 400 < 1000000) (a c : Int32) : ∃ h' q', mRuns (d + 20) 167 0 [some (.ref 0), some (.int a), some (.int c), none] [] h (tAns (rPlan B a.toInt c.toInt) (if (rPlan B a.toInt c.toInt).1 = 1 then 1 else 0) h') ∧ IC h' b n g B E (kPlan B k a.toInt c.toInt) C i E' C' r0 r1 r2 p q' ∧ fC h h' ∧ q ≤ q' ∧ q' ≤ q + 384 := by
  obtain ⟨⟨hb, a1, a2⟩, a3, a4, a5, a6, a7, a8, a9, a10, a11, a12, a13, a14⟩ := hI
  obtain ⟨h', q', r, S, qa, qb, hk, f⟩ := s_T_plan (d := d) hb hO.2.1 a1 a4 a14 (by omega) a6 (tR1 a) (tR2 a) (tR1 c) (tR2 c)
  rw [← zI_of a, ← zI_of c] at r
  exact ⟨h', q', r, IC_tq ⟨⟨hb, a1, a2⟩, a3, a4, a5, a6, a7, a8, a9, a10, a11, a12, a13, a14⟩ (tqF_of (rs := []) f) (by simp) (by simp) S (CC_of a7 (fun j hj => f.1 _ (by omega) (by omega))) hk (by rw [f.2.1 14 (by simp)]; exact a12), fC_tp f, qa, by omega⟩
theorem cs_planned {d : Nat} {h : mHp} {b : Nat} {n : Int} {g : Int → Int32} {B : tB} {E : tE} {k : Int} {C : tC} {i : Int} {E' : tE} {C' : tC} {r0 r1 r2 p q : Int} (hI : IC h b n g B E k C i E' C' r0 r1 r2 p q) (hO : IO n B E k C i E' C') (hq : q + 400 < 1000000) (a c : Int32) : ∃ h' q', mRuns (d + 20) 169 0 [some (.ref 0), some (.int a), some (.int c), none] [] h (tAns (rPlanned B k a.toInt c.toInt) 1 h') ∧ IC h' b n g B E k C i E' C' r0 r1 r2 p q' ∧ fC h h' ∧ q ≤ q' ∧ q' ≤ q + 384 := by
  obtain ⟨⟨hb, a1, a2⟩, a3, a4, a5, a6, a7, a8, a9, a10, a11, a12, a13, a14⟩ := hI
  obtain ⟨h', q', r, S, qa, qb, f⟩ := s_T_planned (d := d) hb hO.2.1 a1 a4 a14 (by omega) a6 hO.2.2.2.1 (tR1 a) (tR2 a) (tR1 c) (tR2 c)
  rw [← zI_of a, ← zI_of c] at r
  exact ⟨h', q', r, IC_tq ⟨⟨hb, a1, a2⟩, a3, a4, a5, a6, a7, a8, a9, a10, a11, a12, a13, a14⟩ (tqF_of (rs := []) f) (by simp) (by simp) S (CC_of a7 (fun j hj => f.1 _ (by omega) (by omega))) (by rw [f.2.1 10 (by simp)]; exact a6) (by rw [f.2.1 14 (by simp)]; exact a12), fC_tp f, qa, by omega⟩
theorem cs_bars {d : Nat} {h : mHp} {b : Nat} {n : Int} {g : Int → Int32} {B : tB} {E : tE} {k : Int} {C : tC} {i : Int} {E' : tE} {C' : tC} {r0 r1 r2 p q : Int} (hI : IC h b n g B E k C i E' C' r0 r1 r2 p q) (hO : IO n B E k C i E' C') (hq : q + 400 < 1000000) (a : Int32) : ∃ h' q', mRuns (d + 20) 170 0 [some (.ref 0), some (.int a), none, none] [] h (tAns (rBars B a.toInt) 0 h') ∧ IC h' b n g B E k C i E' C' r0 r1 r2 p q' ∧ fC h h' ∧ q ≤ q' ∧ q' ≤ q + 384 := by
  obtain ⟨⟨hb, a1, a2⟩, a3, a4, a5, a6, a7, a8, a9, a10, a11, a12, a13, a14⟩ := hI
  obtain ⟨h', q', r, S, qa, qb, f⟩ := s_T_bars (d := d) hb hO.2.1 a1 a4 a14 (by omega) (tR1 a) (tR2 a)
  rw [← zI_of a] at r
  exact ⟨h', q', r, IC_tq ⟨⟨hb, a1, a2⟩, a3, a4, a5, a6, a7, a8, a9, a10, a11, a12, a13, a14⟩ (tqF_of (rs := []) f) (by simp) (by simp) S (CC_of a7 (fun j hj => f.1 _ (by omega) (by omega))) (by rw [f.2.1 10 (by simp)]; exact a6) (by rw [f.2.1 14 (by simp)]; exact a12), fC_tp f, qa, by omega⟩
theorem cs_worth {d : Nat} {h : mHp} {b : Nat} {n : Int} {g : Int → Int32} {B : tB} {E : tE} {k : Int} {C : tC} {i : Int} {E' : tE} {C' : tC} {r0 r1 r2 p q : Int} (hI : IC h b n g B E k C i E' C' r0 r1 r2 p q) (hO : IO n B E k C i E' C') (hq : q + 400 < 1000000) (a c : Int32) : ∃ h' q', mRuns (d + 20) 171 0 [some (.ref 0), some (.int a), some (.int c), none, none] [] h (tAns (rWorth B a.toInt c.toInt) (if (rWorth B a.toInt c.toInt).1 = 1 then 1 else 0) h') ∧ IC h' b n g B E k C i E' C' r0 r1 r2 p q' ∧ fC h h' ∧ q ≤ q' ∧ q' ≤ q + 384 := by
  obtain ⟨⟨hb, a1, a2⟩, a3, a4, a5, a6, a7, a8, a9, a10, a11, a12, a13, a14⟩ := hI
  obtain ⟨h', q', r, S, qa, qb, f⟩ := s_T_worth (d := d) hb hO.2.1 (t := a.toInt) (l := c.toInt) a1 a4 a14 (by omega) (tR1 c) (tR2 c) (tR1 a) (tR2 a)
  rw [← zI_of a, ← zI_of c] at r
  exact ⟨h', q', r, IC_tq ⟨⟨hb, a1, a2⟩, a3, a4, a5, a6, a7, a8, a9, a10, a11, a12, a13, a14⟩ (tqF_of (rs := []) f) (by simp) (by simp) S (CC_of a7 (fun j hj => f.1 _ (by omega) (by omega))) (by rw [f.2.1 10 (by simp)]; exact a6) (by rw [f.2.1 14 (by simp)]; exact a12), fC_tp f, qa, by omega⟩
theorem cs_begin {d : Nat} {h : mHp} {b : Nat} {n : Int} {g : Int → Int32} {B : tB} {E : tE} {k : Int} {C : tC} {i : Int} {E' : tE} {C' : tC} {r0 r1 r2 p q : Int} (hI : IC h b n g B E k C i E' C' r0 r1 r2 p q) (hO : IO n B E k C i E' C') (hq : q + 400 < 1000000) (s a c : Int32) : ∃ h' q', mRuns (d + 20) 184 0 [some (.ref 0), some (.int s), some (.int a), some (.int c)] [] h (tAns (rBegin B a.toInt c.toInt) 0 h') ∧ IC h' b n g B E k (cBegin B C s a.toInt c.toInt) i E' C' r0 r1 (nBegin B a.toInt c.toInt r2) p q' ∧ fC h h' ∧ q ≤ q' ∧ q' ≤ q + 384 := by
  obtain ⟨⟨hb, a1, a2⟩, a3, a4, a5, a6, a7, a8, a9, a10, a11, a12, a13, a14⟩ := hI
  obtain ⟨h', q', r, S, qa, qb, hC, hn, f⟩ := s_T_begin (d := d) (s := s) hb hO.2.1 a1 a4 a14 (by omega) a7 a12 (tR1 a) (tR2 a) (tR1 c) (tR2 c)
  rw [← zI_of a, ← zI_of c] at r
  exact ⟨h', q', r, IC_tq ⟨⟨hb, a1, a2⟩, a3, a4, a5, a6, a7, a8, a9, a10, a11, a12, a13, a14⟩ f (by simp) (by simp) S hC (by rw [f.2.1 10 (by simp)]; exact a6) hn, fC_tq f (by simp), qa, by omega⟩
theorem cs_on {d : Nat} {h : mHp} {b : Nat} {n : Int} {g : Int → Int32} {B : tB} {E : tE} {k : Int} {C : tC} {i : Int} {E' : tE} {C' : tC} {r0 r1 r2 p q : Int} (hI : IC h b n g B E k C i E' C' r0 r1 r2 p q) (hO : IO n B E k C i E' C') (hq : q + 400 < 1000000) (a : Int32) : ∃ h' q', mRuns (d + 20) 185 0 [some (.ref 0), some (.int a), none, none] [] h (tAns (rOn C a.toInt) 0 h') ∧ IC h' b n g B E k (cOn B C a.toInt) i E' C' r0 r1 (nOn C a.toInt r2) p q' ∧ fC h h' ∧ q ≤ q' ∧ q' ≤ q + 384 := by
  obtain ⟨⟨hb, a1, a2⟩, a3, a4, a5, a6, a7, a8, a9, a10, a11, a12, a13, a14⟩ := hI
  obtain ⟨h', q', r, S, qa, qb, hC, hn, f⟩ := s_T_on (d := d) hb hO.2.1 a1 a4 a14 (by omega) a7 hO.2.2.2.2.1 hO.2.2.2.2.2.1 a12 (tR1 a) (tR2 a)
  rw [← zI_of a] at r
  exact ⟨h', q', r, IC_tq ⟨⟨hb, a1, a2⟩, a3, a4, a5, a6, a7, a8, a9, a10, a11, a12, a13, a14⟩ f (by simp) (by simp) S hC (by rw [f.2.1 10 (by simp)]; exact a6) hn, fC_tq f (by simp), qa, by omega⟩
theorem cs_cases {d : Nat} {h : mHp} {b : Nat} {n : Int} {g : Int → Int32} {B : tB} {E : tE} {k : Int} {C : tC} {i : Int} {E' : tE} {C' : tC} {r0 r1 r2 p q : Int} (hI : IC h b n g B E k C i E' C' r0 r1 r2 p q) (hO : IO n B E k C i E' C') (a : Int32) : ∃ h' q', mRuns (d + 20) 175 0 [some (.ref 0), some (.int a), none] [] h (tAns (rCases B E a.toInt) 1 h') ∧ IC h' b n g B E k C i E' C' r0 r1 r2 p q' ∧ fC h h' ∧ q ≤ q' ∧ q' ≤ q + 384 := by
  obtain ⟨h', r, f⟩ := s_T_cases (d := d + 15) hI.1.1 hI.1.2.1 hO.2.1 hO.2.2.1 hI.2.2.1 hI.2.2.2.1 (tR1 a) (tR2 a)
  rw [← zI_of a] at r
  exact ⟨h', q, r, IC_j hI f, fC_j f, by omega, by omega⟩
theorem cs_waiting {d : Nat} {h : mHp} {b : Nat} {n : Int} {g : Int → Int32} {B : tB} {E : tE} {k : Int} {C : tC} {i : Int} {E' : tE} {C' : tC} {r0 r1 r2 p q : Int} (hI : IC h b n g B E k C i E' C' r0 r1 r2 p q) (hO : IO n B E k C i E' C') (a : Int32) : ∃ h' q', mRuns (d + 20) 181 0 [some (.ref 0), some (.int a)] [] h (tAns (rWaiting B E a.toInt) 0 h') ∧ IC h' b n g B E k C i E' C' r0 r1 r2 p q' ∧ fC h h' ∧ q ≤ q' ∧ q' ≤ q + 384 := by
  obtain ⟨h', r, f⟩ := s_T_waiting (d := d + 15) hI.1.1 hI.1.2.1 hO.2.1 hO.2.2.1 hI.2.2.1 hI.2.2.2.1 (tR1 a) (tR2 a)
  rw [← zI_of a] at r
  exact ⟨h', q, r, IC_j hI f, fC_j f, by omega, by omega⟩
theorem cs_pairs {d : Nat} {h : mHp} {b : Nat} {n : Int} {g : Int → Int32} {B : tB} {E : tE} {k : Int} {C : tC} {i : Int} {E' : tE} {C' : tC} {r0 r1 r2 p q : Int} (hI : IC h b n g B E k C i E' C' r0 r1 r2 p q) (hO : IO n B E k C i E' C') : ∃ h' q', mRuns (d + 20) 153 0 [some (.ref 0)] [] h (.inl (some (.int (zI (aPr B E (aNow E)))), h')) ∧ IC h' b n g B E k C i E' C' r0 r1 r2 p q' ∧ fC h h' ∧ q ≤ q' ∧ q' ≤ q + 384 := by
  obtain ⟨h', r, f⟩ := s_T_pairs (d := d + 15) hI.1.1 hI.1.2.1 hO.2.1 hO.2.2.1 hI.2.2.1 hI.2.2.2.1
  exact ⟨h', q, r, IC_j hI f, fC_j f, by omega, by omega⟩
theorem cs_next {d : Nat} {h : mHp} {b : Nat} {n : Int} {g : Int → Int32} {B : tB} {E : tE} {k : Int} {C : tC} {i : Int} {E' : tE} {C' : tC} {r0 r1 r2 p q : Int} (hI : IC h b n g B E k C i E' C' r0 r1 r2 p q) (hO : IO n B E k C i E' C') (a : Int32) : ∃ h' q', mRuns (d + 20) 180 0 [some (.ref 0), some (.int a)] [] h (tAns (rNext B E a.toInt) 1 h') ∧ IC h' b n g B E k C i E' C' r0 r1 r2 p q' ∧ fC h h' ∧ q ≤ q' ∧ q' ≤ q + 384 := by
  obtain ⟨h', r, f⟩ := s_T_next (d := d + 14) hI.1.1 hI.1.2.1 hO.2.1 hO.2.2.1 hI.2.2.1 hI.2.2.2.1 (tR1 a) (tR2 a)
  rw [← zI_of a] at r
  exact ⟨h', q, r, IC_j hI f, fC_j f, by omega, by omega⟩
theorem cs_odds {d : Nat} {h : mHp} {b : Nat} {n : Int} {g : Int → Int32} {B : tB} {E : tE} {k : Int} {C : tC} {i : Int} {E' : tE} {C' : tC} {r0 r1 r2 p q : Int} (hI : IC h b n g B E k C i E' C' r0 r1 r2 p q) (hO : IO n B E k C i E' C') (a c : Int32) : ∃ h' q', mRuns (d + 20) 176 0 [some (.ref 0), some (.int a), some (.int c)] [] h (tAns (rOdds B E a.toInt c.toInt) 1 h') ∧ IC h' b n g B E k C i E' C' r0 r1 r2 p q' ∧ fC h h' ∧ q ≤ q' ∧ q' ≤ q + 384 := by
  obtain ⟨h', r, f⟩ := s_T_odds (d := d + 15) hI.1.1 hI.1.2.1 hO.2.1 hO.2.2.1 hI.2.2.1 hI.2.2.2.1 (tR1 a) (tR2 a) (tR1 c) (tR2 c)
  rw [← zI_of a, ← zI_of c] at r
  exact ⟨h', q, r, IC_j hI f, fC_j f, by omega, by omega⟩
theorem cs_ate {d : Nat} {h : mHp} {b : Nat} {n : Int} {g : Int → Int32} {B : tB} {E : tE} {k : Int} {C : tC} {i : Int} {E' : tE} {C' : tC} {r0 r1 r2 p q : Int} (hI : IC h b n g B E k C i E' C' r0 r1 r2 p q) (hO : IO n B E k C i E' C') (a c e : Int32) {w : Int} (w0 : 0 ≤ w) (w1 : w ≤ 1) : ∃ h' q', mRuns (d + 20) 172 0 [some (.ref 0), some (.int a), some (.int c), some (.int e), some (.int (zI w))] [] h (tAns (rAte B E a.toInt c.toInt e.toInt) 1 h') ∧ IC h' b n g B (eAte B E a.toInt c.toInt e.toInt w) k C i E' C' r0 (nAte B E a.toInt c.toInt e.toInt r1) r2 p q' ∧ fC h h' ∧ q ≤ q' ∧ q' ≤ q + 384 := by
  obtain ⟨h', r, L, hn, f⟩ := s_T_ate (d := d + 17) hI.1.1 hI.1.2.1 hI.2.2.1 hO.2.1 hI.2.2.2.1 hO.2.2.1 hI.2.2.2.2.2.2.2.2.2.1 (tR1 a) (tR2 a) (tR1 c) (tR2 c) (tR1 e) (tR2 e) w0 w1
  rw [← zI_of a, ← zI_of c, ← zI_of e] at r
  exact ⟨h', q, r, IC_w hI f (by simp) (by simp) L hn, fC_w f (by simp), by omega, by omega⟩
theorem cs_fell {d : Nat} {h : mHp} {b : Nat} {n : Int} {g : Int → Int32} {B : tB} {E : tE} {k : Int} {C : tC} {i : Int} {E' : tE} {C' : tC} {r0 r1 r2 p q : Int} (hI : IC h b n g B E k C i E' C' r0 r1 r2 p q) (hO : IO n B E k C i E' C') (a c : Int32) : ∃ h' q', mRuns (d + 20) 174 0 [some (.ref 0), some (.int a), some (.int c)] [] h (tAns (rFall B E a.toInt c.toInt) 1 h') ∧ IC h' b n g B (eFall B E a.toInt c.toInt) k C i E' C' r0 (nFall B E a.toInt c.toInt r1) r2 p q' ∧ fC h h' ∧ q ≤ q' ∧ q' ≤ q + 384 := by
  obtain ⟨h', r, L, hn, f⟩ := s_T_fell (d := d + 17) hI.1.1 hI.1.2.1 hI.2.2.1 hO.2.1 hI.2.2.2.1 hO.2.2.1 hI.2.2.2.2.2.2.2.2.2.1 (tR1 a) (tR2 a) (tR1 c) (tR2 c)
  rw [← zI_of a, ← zI_of c] at r
  exact ⟨h', q, r, IC_w hI f (by simp) (by simp) L hn, fC_w f (by simp), by omega, by omega⟩
theorem cs_undo {d : Nat} {h : mHp} {b : Nat} {n : Int} {g : Int → Int32} {B : tB} {E : tE} {k : Int} {C : tC} {i : Int} {E' : tE} {C' : tC} {r0 r1 r2 p q : Int} (hI : IC h b n g B E k C i E' C' r0 r1 r2 p q) (hO : IO n B E k C i E' C') : ∃ h' q', mRuns (d + 20) 152 0 [some (.ref 0)] [] h (.inl (some (.int (zI (rUndo E))), h')) ∧ IC h' b n g B (eUndo E) k C i E' C' r0 r1 r2 p q' ∧ fC h h' ∧ q ≤ q' ∧ q' ≤ q + 384 := by
  obtain ⟨h', r, L, f⟩ := s_T_undo (d := d + 18) hO.2.1 hI.2.2.2.1 hO.2.2.1
  exact ⟨h', q, r, IC_w hI f (by simp) (by simp) L (by rw [f.2.1 13 (by simp)]; exact hI.2.2.2.2.2.2.2.2.2.1), fC_w f (by simp), by omega, by omega⟩
theorem cs_trial {d : Nat} {h : mHp} {b : Nat} {n : Int} {g : Int → Int32} {B : tB} {E : tE} {k : Int} {C : tC} {i : Int} {E' : tE} {C' : tC} {r0 r1 r2 p q : Int} (hI : IC h b n g B E k C i E' C' r0 r1 r2 p q) (hO : IO n B E k C i E' C') (a c e u x : Int32) : ∃ h' q', mRuns (d + 20) 182 0 [some (.ref 0), some (.int a), some (.int c), some (.int e), some (.int u), some (.int x), none, none, none] [] h (tAns (rTrial a.toInt c.toInt e.toInt u.toInt x.toInt) (if (rTrial a.toInt c.toInt e.toInt u.toInt x.toInt).1 = 1 then 1 else 0) h') ∧ IC h' b n g B E k C i E' C' r0 r1 r2 p q' ∧ fC h h' ∧ q ≤ q' ∧ q' ≤ q + 384 := by
  obtain ⟨h', r, f⟩ := s_T_trial (d := d + 17) (h := h) (tR1 a) (tR2 a) (tR1 c) (tR2 c) (tR1 e) (tR2 e) (tR1 u) (tR2 u) (tR1 x) (tR2 x)
  rw [← zI_of a, ← zI_of c, ← zI_of e, ← zI_of u, ← zI_of x] at r
  exact ⟨h', q, r, IC_w hI f (by simp) (by simp) (LC_of hI.2.2.2.1 (fun j hj => f.1 _ (by simp) (by omega))) (by rw [f.2.1 13 (by simp)]; exact hI.2.2.2.2.2.2.2.2.2.1), fC_w f (by simp), by omega, by omega⟩
theorem cs_fault {d : Nat} {h : mHp} {b : Nat} {n : Int} {g : Int → Int32} {B : tB} {E : tE} {k : Int} {C : tC} {i : Int} {E' : tE} {C' : tC} {r0 r1 r2 p q : Int} (hI : IC h b n g B E k C i E' C' r0 r1 r2 p q) (hO : IO n B E k C i E' C') : ∃ h' q', mRuns (d + 20) 151 0 [some (.ref 0)] [] h (.inl (some (.int (zI p)), h')) ∧ IC h' b n g B E k C i E' C' r0 r1 r2 p q' ∧ fC h h' ∧ q ≤ q' ∧ q' ≤ q + 384 :=
  ⟨h, q, s_T_fault (d := d + 19) hI.2.2.2.2.2.2.2.2.2.2.2.1, hI, fC_refl h, by omega, by omega⟩
theorem cs_feed {d : Nat} {h : mHp} {b : Nat} {n : Int} {g : Int → Int32} {B : tB} {E : tE} {k : Int} {C : tC} {i : Int} {E' : tE} {C' : tC} {r0 r1 r2 p q : Int} (hI : IC h b n g B E k C i E' C' r0 r1 r2 p q) (hO : IO n B E k C i E' C') (a c e u x : Int32) : ∃ h' q', mRuns (d + 20) 150 0 [some (.ref 0), some (.int a), some (.int c), some (.int e), some (.int u), some (.int x)] [] h (.inl (some (.int (zI (if n + 20 ≤ 700 then n + 20 else -1))), h')) ∧ IC h' b (if n + 20 ≤ 700 then n + 20 else n) (if n + 20 ≤ 700 then gAdd g n a c e u x else g) B E k C i E' C' r0 r1 r2 p q' ∧ fC h h' ∧ q ≤ q' ∧ q' ≤ q + 384 := by
  obtain ⟨⟨hb, a1, a2⟩, a3, a4, a5, a6, a7, a8, a9, a10, a11, a12, a13, a14⟩ := hI
  obtain ⟨h', r, t1, t2, f⟩ := s_T_feed (d := d + 18) (a := a) (b := c) (c := e) (e := u) (f := x) hO.1.1 hO.1.2 a3
  have bl : 0 < b ∧ b ≤ 12 := by rcases hb with z | z <;> omega
  have e : ∀ x, x ≠ 23 → x ≠ 24 → h'.1 x = h.1 x := fun x u v => f.1 x (by simp; exact v) u
  have er : h'.2.2.1 0 = h.2.2.1 0 := by rw [f.2.2]
  refine ⟨h', q, r, ⟨⟨hb, by rw [er]; exact a1, by rw [er]; exact a2⟩, ?_, BC_of a4 (fun j hj => e _ (by omega) (by omega)), LC_of a5 (fun j hj => e _ (by omega) (by omega)), by rw [e 0 (by omega) (by omega)]; exact a6, CC_of a7 (fun j hj => e _ (by omega) (by omega)), by rw [e 0 (by omega) (by omega)]; exact a8, fun z => ⟨LC_of (a9 z).1 (fun j hj => e _ (by omega) (by omega)), CC_of (a9 z).2 (fun j hj => e _ (by omega) (by omega))⟩, by rw [e 0 (by omega) (by omega)]; exact a10, by rw [e 0 (by omega) (by omega)]; exact a11, by rw [e 0 (by omega) (by omega)]; exact a12, by rw [e 0 (by omega) (by omega)]; exact a13, PLs_of a14 (fun x u v => e x (by omega) (by omega)) (e 143 (by omega) (by omega))⟩, ⟨fun x hx => e x (by omega) (by omega), fun x _ => by rw [f.2.2], fun x _ => by rw [f.2.2], by rw [f.2.2]; omega⟩, by omega, by omega⟩
  by_cases c : n + 20 ≤ 700
  · rw [if_pos c, if_pos c]; exact t1 c
  · rw [if_neg c, if_neg c]; exact t2 c
theorem cs_image {d : Nat} {h : mHp} {b : Nat} {n : Int} {g : Int → Int32} {B : tB} {E : tE} {k : Int} {C : tC} {i : Int} {E' : tE} {C' : tC} {r0 r1 r2 p q : Int} (hI : IC h b n g B E k C i E' C' r0 r1 r2 p q) (hO : IO n B E k C i E' C') : ∃ h' q', mRuns (d + 20) 155 0 [some (.ref 0)] [] h (.inl (none, h')) ∧ IC h' b n g B E k C 1 E C r0 r1 r2 p q' ∧ fC h h' ∧ q ≤ q' ∧ q' ≤ q + 384 := by
  obtain ⟨⟨hb, a1, a2⟩, a3, a4, a5, a6, a7, a8, a9, a10, a11, a12, a13, a14⟩ := hI
  obtain ⟨h', r, L, CC', h9, f⟩ := s_T_image (d := d + 18) a5 hO.2.2.1 a7 hO.2.2.2.2.1
  have bl : 0 < b ∧ b ≤ 12 := by rcases hb with z | z <;> omega
  have e : ∀ x, x < 96 ∨ (101 < x ∧ x < 108) ∨ 113 < x → x ≠ 0 → h'.1 x = h.1 x := fun x u v => f.1 x (by simp; omega) v
  have e0 : ∀ j, j ≠ 9 → h'.1 0 j = h.1 0 j := fun j u => f.2.1 j (by simp; exact u)
  have er : h'.2.2.1 0 = h.2.2.1 0 := by rw [f.2.2.2.1]
  exact ⟨h', q, r, ⟨⟨hb, by rw [er]; exact a1, by rw [er]; exact a2⟩, TC_of a3 (by rw [e 23 (by omega) (by omega)]) (e 24 (by omega) (by omega)), BC_of a4 (fun j hj => e _ (by omega) (by omega)), LC_of a5 (fun j hj => e _ (by omega) (by omega)), by rw [e0 10 (by omega)]; exact a6, CC_of a7 (fun j hj => e _ (by omega) (by omega)), h9, fun _ => ⟨L, CC'⟩, by rw [e0 12 (by omega)]; exact a10, by rw [e0 13 (by omega)]; exact a11, by rw [e0 14 (by omega)]; exact a12, by rw [e0 11 (by omega)]; exact a13, PLs_of a14 (fun x u v => e x (by omega) (by omega)) (e 143 (by omega) (by omega))⟩, fC_w f (by simp), by omega, by omega⟩
theorem cs_restore_no {d : Nat} {h : mHp} {b : Nat} {n : Int} {g : Int → Int32} {B : tB} {E : tE} {k : Int} {C : tC} {i : Int} {E' : tE} {C' : tC} {r0 r1 r2 p q : Int} (hI : IC h b n g B E k C i E' C' r0 r1 r2 p q) (hO : IO n B E k C i E' C') (c : i = 0) : ∃ h' q', mRuns (d + 20) 156 0 [some (.ref 0)] [] h (.inl (some (.int (zI 0)), h')) ∧ IC h' b n g B E k C i E' C' r0 r1 r2 p q' ∧ fC h h' ∧ q ≤ q' ∧ q' ≤ q + 384 :=
  ⟨h, q, s_T_restore_no (d := d + 19) (by rw [hI.2.2.2.2.2.2.1, c]), hI, fC_refl h, by omega, by omega⟩
theorem cs_restore {d : Nat} {h : mHp} {b : Nat} {n : Int} {g : Int → Int32} {B : tB} {E : tE} {k : Int} {C : tC} {i : Int} {E' : tE} {C' : tC} {r0 r1 r2 p q : Int} (hI : IC h b n g B E k C i E' C' r0 r1 r2 p q) (hO : IO n B E k C i E' C') (c : i = 1) : ∃ h' q', mRuns (d + 20) 156 0 [some (.ref 0)] [] h (.inl (some (.int (zI 1)), h')) ∧ IC h' b n g B E' k C' i E' C' r0 r1 r2 p q' ∧ fC h h' ∧ q ≤ q' ∧ q' ≤ q + 384 := by
  obtain ⟨⟨hb, a1, a2⟩, a3, a4, a5, a6, a7, a8, a9, a10, a11, a12, a13, a14⟩ := hI
  obtain ⟨o1, o2, -⟩ := hO.2.2.2.2.2.2.2 c
  obtain ⟨h', r, L, CC', f⟩ := s_T_restore (d := d + 18) (by rw [a8, c]) (a9 c).1 o1 (a9 c).2 o2
  have bl : 0 < b ∧ b ≤ 12 := by rcases hb with z | z <;> omega
  have e : ∀ x, x < 90 ∨ (95 < x ∧ x < 102) ∨ 107 < x → x ≠ 0 → h'.1 x = h.1 x := fun x u v => f.1 x (by simp; omega) v
  have e0 : ∀ j, h'.1 0 j = h.1 0 j := fun j => f.2.1 j (by simp)
  have er : h'.2.2.1 0 = h.2.2.1 0 := by rw [f.2.2.2.1]
  exact ⟨h', q, r, ⟨⟨hb, by rw [er]; exact a1, by rw [er]; exact a2⟩, TC_of a3 (by rw [e 23 (by omega) (by omega)]) (e 24 (by omega) (by omega)), BC_of a4 (fun j hj => e _ (by omega) (by omega)), L, by rw [e0 10]; exact a6, CC', by rw [e0 9]; exact a8, fun z => ⟨LC_of (a9 z).1 (fun j hj => e _ (by omega) (by omega)), CC_of (a9 z).2 (fun j hj => e _ (by omega) (by omega))⟩, by rw [e0 12]; exact a10, by rw [e0 13]; exact a11, by rw [e0 14]; exact a12, by rw [e0 11]; exact a13, PLs_of a14 (fun x u v => e x (by omega) (by omega)) (e 143 (by omega) (by omega))⟩, fC_w f (by simp), by omega, by omega⟩
theorem cs_table_no {d : Nat} {h : mHp} {b : Nat} {n : Int} {g : Int → Int32} {B : tB} {E : tE} {k : Int} {C : tC} {i : Int} {E' : tE} {C' : tC} {r0 r1 r2 p q : Int} (hI : IC h b n g B E k C i E' C' r0 r1 r2 p q) (hO : IO n B E k C i E' C') (a : Int32) (c : ¬ (0 ≤ a.toInt ∧ a.toInt ≤ n)) : ∃ h' q', mRuns (d + 20) 157 0 [some (.ref 0), some (.int a), none] [] h (tAns (1, 0) 0 h') ∧ IC h' b n g B E k C i E' C' r0 r1 r2 p q' ∧ fC h h' ∧ q ≤ q' ∧ q' ≤ q + 384 := by
  have r := s_T_table_no (d := d + 19) hI.2.1.1 hO.1.1 hO.1.2 (tR1 a) (tR2 a) c
  rw [← zI_of a] at r
  exact ⟨mXc h, q, r, IC_xc hI, fC_xc h, by omega, by omega⟩
theorem dAd {b : Nat} (hb : bAd b) : bAd (13 - b) ∧ b ≠ 13 - b ∧ 13 - (13 - b) = b := by rcases hb with e | e <;> subst e <;> exact ⟨by simp [bAd], by omega, by omega⟩
theorem cs_table_bad {d : Nat} {h : mHp} {b : Nat} {n : Int} {g : Int → Int32} {B : tB} {E : tE} {k : Int} {C : tC} {i : Int} {E' : tE} {C' : tC} {r0 r1 r2 p q : Int} (hI : IC h b n g B E k C i E' C' r0 r1 r2 p q) (hO : IO n B E k C i E' C') (a : Int32) (c : 0 ≤ a.toInt ∧ a.toInt ≤ n) (hF : rF (xAl (gU g) a.toInt).1 ≠ 0) : ∃ h' q', mRuns (d + 20) 157 0 [some (.ref 0), some (.int a), none] [] h (tAns (0, rF (xAl (gU g) a.toInt).1) 0 h') ∧ IC h' b 0 g B E k C i E' C' (r0 + 1) r1 r2 (rPl (xAl (gU g) a.toInt).1) q' ∧ fC h h' ∧ q ≤ q' ∧ q' ≤ q + 384 := by
  obtain ⟨⟨hb, a1, a2⟩, a3, a4, a5, a6, a7, a8, a9, a10, a11, a12, a13, a14⟩ := hI
  have bd := dAd hb
  obtain ⟨h', r, t1, pl, hr, e0, e, fz⟩ := s_T_table_bad (d := d + 12) bd.1 a2 a3 c.1 c.2 hO.1.2 a10 hF
  rw [← zI_of a] at r
  have bl : b = 1 ∨ b = 12 := hb
  have er : h'.2.2.1 0 = h.2.2.1 0 := by rw [fz]
  have e' : ∀ x, 25 < x → h'.1 x = h.1 x := fun x hx => e x (by omega) (by omega) (by omega) (by omega)
  refine ⟨h', q, r, ⟨⟨hb, by rw [er]; exact a1, by rw [er]; exact a2⟩, ⟨t1, fun j j0 j1 => absurd j1 (by omega)⟩, BC_of a4 (fun j hj => e _ (by omega) (by omega) (by omega) (by omega)), LC_of a5 (fun j hj => e' _ (by omega)), by rw [e0 10 (by omega) (by omega)]; exact a6, CC_of a7 (fun j hj => e' _ (by omega)), by rw [e0 9 (by omega) (by omega)]; exact a8, fun z => ⟨LC_of (a9 z).1 (fun j hj => e' _ (by omega)), CC_of (a9 z).2 (fun j hj => e' _ (by omega))⟩, hr, by rw [e0 13 (by omega) (by omega)]; exact a11, by rw [e0 14 (by omega) (by omega)]; exact a12, pl, PLs_of a14 (fun x u v => e' x (by omega)) (e' 143 (by omega))⟩, ⟨fun x hx => e' x (by omega), fun x _ => by rw [fz], fun x _ => by rw [fz], by rw [fz]; omega⟩, by omega, by omega⟩
theorem cs_table_ok {d : Nat} {h : mHp} {b : Nat} {n : Int} {g : Int → Int32} {B : tB} {E : tE} {k : Int} {C : tC} {i : Int} {E' : tE} {C' : tC} {r0 r1 r2 p q : Int} (hI : IC h b n g B E k C i E' C' r0 r1 r2 p q) (hO : IO n B E k C i E' C') (a : Int32) (c : 0 ≤ a.toInt ∧ a.toInt ≤ n) (hF : rF (xAl (gU g) a.toInt).1 = 0) : ∃ h' q', mRuns (d + 20) 157 0 [some (.ref 0), some (.int a), none] [] h (tAns (0, 0) 0 h') ∧ IC h' (13 - b) 0 g (xAl (gU g) a.toInt).2.1 eNil (-1) (cEnd C) 0 E' C' r0 r1 r2 (-1) q' ∧ BOk (xAl (gU g) a.toInt).2.1 ∧ fC h h' ∧ q ≤ q' ∧ q' ≤ q + 384 := by
  obtain ⟨⟨hb, a1, a2⟩, a3, a4, a5, a6, a7, a8, a9, a10, a11, a12, a13, a14⟩ := hI
  have bd := dAd hb
  obtain ⟨h', r, OB, B', t1, pl, p0, p1, S, L, CC', h9, h10, e0, e, fl, fr, fc⟩ := s_T_table_ok (d := d + 12) hb bd.1 bd.2.1 a1 a2 a3 c.1 c.2 hO.1.2 a14.2.1 a14.2.2 a7 hF
  rw [← zI_of a] at r
  exact ⟨h', q, r, ⟨⟨bd.1, p0, by rw [bd.2.2]; exact p1⟩, ⟨t1, fun j j0 j1 => absurd j1 (by omega)⟩, B', L, h10, CC', h9, fun z => absurd z (by omega), by rw [e0 12 (by omega) (by omega) (by omega)]; exact a10, by rw [e0 13 (by omega) (by omega) (by omega)]; exact a11, by rw [e0 14 (by omega) (by omega) (by omega)]; exact a12, pl, S⟩, OB, ⟨fun x hx => e x (by omega), fun x _ => by rw [fl], fun x hx => fr x (by omega) (by omega), by rw [fc]; omega⟩, by omega, by omega⟩

/-! L3, every call of the model over the whole state -/
theorem IM_q {h : mHp} {d m : Nat} {lv : mLv} {r : Int × Int} {n : Int} {g : Int → Int32} {B : tB} {E : tE} {k : Int} {C : tC} {i : Int} {E' : tE} {C' : tC} {r0 r1 r2 p : Int} (hI : IM h n g B E k C i E' C' r0 r1 r2 p) (hr : mRuns d m 0 lv [] h (.inl (some (.int (zI r.2)), mPI h 114 0 (zI r.1)))) : ∃ h', mRuns d m 0 lv [] h (.inl (some (.int (zI r.2)), h')) ∧ h'.1 114 0 = zI r.1 ∧ IM h' n g B E k C i E' C' r0 r1 r2 p ∧ fM h h' :=
  ⟨_, hr, hI_same _ _ _ _, IM_t hI _, fM_t _ _⟩
theorem ms_count {d : Nat} {h : mHp} {n : Int} {g : Int → Int32} {B : tB} {E : tE} {k : Int} {C : tC} {i : Int} {E' : tE} {C' : tC} {r0 r1 r2 p : Int} (hI : IM h n g B E k C i E' C' r0 r1 r2 p) (hO : IO n B E k C i E' C') (a : Int32) : ∃ h', mRuns (d + 8) 29 0 [some (.ref 114), some (.int a)] [] h (.inl (some (.int (zI (rCount B E C n r0 r1 r2 a.toInt).2)), h')) ∧ h'.1 114 0 = zI (rCount B E C n r0 r1 r2 a.toInt).1 ∧ IM h' n g B E k C i E' C' r0 r1 r2 p ∧ fM h h' := by
  have r := s_M_count (d := d + 6) hI.2.2.1 hI.2.2.2.1 hO.2.2.1 hI.2.2.2.2.2.1 hO.2.2.2.2.1 hI.2.1.1 hI.2.2.2.2.2.2.2.2.2.1 hI.2.2.2.2.2.2.2.2.2.2.1 hI.2.2.2.2.2.2.2.2.2.2.2.1 (tR1 a) (tR2 a)
  rw [← zI_of a] at r
  exact IM_q hI r
theorem ms_dish {d : Nat} {h : mHp} {n : Int} {g : Int → Int32} {B : tB} {E : tE} {k : Int} {C : tC} {i : Int} {E' : tE} {C' : tC} {r0 r1 r2 p : Int} (hI : IM h n g B E k C i E' C' r0 r1 r2 p) (hO : IO n B E k C i E' C') (a c : Int32) : ∃ h', mRuns (d + 8) 32 0 [some (.ref 114), some (.int a), some (.int c)] [] h (.inl (some (.int (zI (rDish B a.toInt c.toInt).2)), h')) ∧ h'.1 114 0 = zI (rDish B a.toInt c.toInt).1 ∧ IM h' n g B E k C i E' C' r0 r1 r2 p ∧ fM h h' := by
  have r := s_M_dish (d := d + 5) hI.2.2.1 hO.2.1 (tR1 a) (tR2 a) (tR1 c) (tR2 c)
  rw [← zI_of a, ← zI_of c] at r
  exact IM_q hI r
theorem ms_poison {d : Nat} {h : mHp} {n : Int} {g : Int → Int32} {B : tB} {E : tE} {k : Int} {C : tC} {i : Int} {E' : tE} {C' : tC} {r0 r1 r2 p : Int} (hI : IM h n g B E k C i E' C' r0 r1 r2 p) (hO : IO n B E k C i E' C') (a c : Int32) : ∃ h', mRuns (d + 8) 34 0 [some (.ref 114), some (.int a), some (.int c)] [] h (.inl (some (.int (zI (rPois B a.toInt c.toInt).2)), h')) ∧ h'.1 114 0 = zI (rPois B a.toInt c.toInt).1 ∧ IM h' n g B E k C i E' C' r0 r1 r2 p ∧ fM h h' := by
  have r := s_M_poison (d := d + 5) hI.2.2.1 hO.2.1 (tR1 a) (tR2 a) (tR1 c) (tR2 c)
  rw [← zI_of a, ← zI_of c] at r
  exact IM_q hI r
theorem ms_taster {d : Nat} {h : mHp} {n : Int} {g : Int → Int32} {B : tB} {E : tE} {k : Int} {C : tC} {i : Int} {E' : tE} {C' : tC} {r0 r1 r2 p : Int} (hI : IM h n g B E k C i E' C' r0 r1 r2 p) (hO : IO n B E k C i E' C') (a c : Int32) : ∃ h', mRuns (d + 8) 36 0 [some (.ref 114), some (.int a), some (.int c)] [] h (.inl (some (.int (zI (rTast B E a.toInt c.toInt).2)), h')) ∧ h'.1 114 0 = zI (rTast B E a.toInt c.toInt).1 ∧ IM h' n g B E k C i E' C' r0 r1 r2 p ∧ fM h h' := by
  have r := s_M_taster (d := d + 5) hI.2.2.1 hO.2.1 hI.2.2.2.1 hO.2.2.1 (tR1 a) (tR2 a) (tR1 c) (tR2 c)
  rw [← zI_of a, ← zI_of c] at r
  exact IM_q hI r
theorem ms_day {d : Nat} {h : mHp} {n : Int} {g : Int → Int32} {B : tB} {E : tE} {k : Int} {C : tC} {i : Int} {E' : tE} {C' : tC} {r0 r1 r2 p : Int} (hI : IM h n g B E k C i E' C' r0 r1 r2 p) (hO : IO n B E k C i E' C') (a c : Int32) : ∃ h', mRuns (d + 8) 77 0 [some (.ref 114), some (.int a), some (.int c)] [] h (.inl (some (.int (zI (rDay C a.toInt c.toInt).2)), h')) ∧ h'.1 114 0 = zI (rDay C a.toInt c.toInt).1 ∧ IM h' n g B E k C i E' C' r0 r1 r2 p ∧ fM h h' := by
  have r := s_M_day (d := d + 6) hI.2.2.2.2.2.1 hO.2.2.2.2.1 (tR1 a) (tR2 a) (tR1 c) (tR2 c)
  rw [← zI_of a, ← zI_of c] at r
  exact IM_q hI r
theorem ms_had {d : Nat} {h : mHp} {n : Int} {g : Int → Int32} {B : tB} {E : tE} {k : Int} {C : tC} {i : Int} {E' : tE} {C' : tC} {r0 r1 r2 p : Int} (hI : IM h n g B E k C i E' C' r0 r1 r2 p) (hO : IO n B E k C i E' C') (a c : Int32) : ∃ h', mRuns (d + 8) 78 0 [some (.ref 114), some (.int a), some (.int c)] [] h (.inl (some (.int (zI (rHad B C a.toInt c.toInt).2)), h')) ∧ h'.1 114 0 = zI (rHad B C a.toInt c.toInt).1 ∧ IM h' n g B E k C i E' C' r0 r1 r2 p ∧ fM h h' := by
  have r := s_M_had (d := d + 5) hI.2.2.1 hO.2.1 hI.2.2.2.2.2.1 hO.2.2.2.2.1 (tR1 a) (tR2 a) (tR1 c) (tR2 c)
  rw [← zI_of a, ← zI_of c] at r
  exact IM_q hI r
theorem ms_planned {d : Nat} {h : mHp} {n : Int} {g : Int → Int32} {B : tB} {E : tE} {k : Int} {C : tC} {i : Int} {E' : tE} {C' : tC} {r0 r1 r2 p : Int} (hI : IM h n g B E k C i E' C' r0 r1 r2 p) (hO : IO n B E k C i E' C') (a c : Int32) : ∃ h', mRuns (d + 8) 53 0 [some (.ref 114), some (.int a), some (.int c)] [] h (.inl (some (.int (zI (rPlanned B k a.toInt c.toInt).2)), h')) ∧ h'.1 114 0 = zI (rPlanned B k a.toInt c.toInt).1 ∧ IM h' n g B E k C i E' C' r0 r1 r2 p ∧ fM h h' := by
  have r := s_M_planned (d := d + 5) hI.2.2.1 hO.2.1 hI.2.2.2.2.1 (tR1 a) (tR2 a) (tR1 c) (tR2 c)
  rw [← zI_of a, ← zI_of c] at r
  exact IM_q hI r
theorem ms_cases {d : Nat} {h : mHp} {n : Int} {g : Int → Int32} {B : tB} {E : tE} {k : Int} {C : tC} {i : Int} {E' : tE} {C' : tC} {r0 r1 r2 p : Int} (hI : IM h n g B E k C i E' C' r0 r1 r2 p) (hO : IO n B E k C i E' C') (a : Int32) : ∃ h', mRuns (d + 8) 60 0 [some (.ref 114), some (.int a), none, none] [] h (.inl (some (.int (zI (rCases B E a.toInt).2)), h')) ∧ h'.1 114 0 = zI (rCases B E a.toInt).1 ∧ IM h' n g B E k C i E' C' r0 r1 r2 p ∧ fM h h' := by
  have r := s_M_cases (d := d + 3) hI.2.2.1 hO.2.1 hI.2.2.2.1 hO.2.2.1 (tR1 a) (tR2 a)
  rw [← zI_of a] at r
  exact IM_q hI r
theorem ms_waiting {d : Nat} {h : mHp} {n : Int} {g : Int → Int32} {B : tB} {E : tE} {k : Int} {C : tC} {i : Int} {E' : tE} {C' : tC} {r0 r1 r2 p : Int} (hI : IM h n g B E k C i E' C' r0 r1 r2 p) (hO : IO n B E k C i E' C') (a : Int32) : ∃ h', mRuns (d + 8) 70 0 [some (.ref 114), some (.int a), none, none] [] h (.inl (some (.int (zI (rWaiting B E a.toInt).2)), h')) ∧ h'.1 114 0 = zI (rWaiting B E a.toInt).1 ∧ IM h' n g B E k C i E' C' r0 r1 r2 p ∧ fM h h' := by
  have r := s_M_waiting (d := d + 3) hI.2.2.1 hO.2.1 hI.2.2.2.1 hO.2.2.1 (tR1 a) (tR2 a)
  rw [← zI_of a] at r
  exact IM_q hI r
theorem ms_odds {d : Nat} {h : mHp} {n : Int} {g : Int → Int32} {B : tB} {E : tE} {k : Int} {C : tC} {i : Int} {E' : tE} {C' : tC} {r0 r1 r2 p : Int} (hI : IM h n g B E k C i E' C' r0 r1 r2 p) (hO : IO n B E k C i E' C') (a c : Int32) : ∃ h', mRuns (d + 8) 64 0 [some (.ref 114), some (.int a), some (.int c), none, none, none, none, none, none] [] h (.inl (some (.int (zI (rOdds B E a.toInt c.toInt).2)), h')) ∧ h'.1 114 0 = zI (rOdds B E a.toInt c.toInt).1 ∧ IM h' n g B E k C i E' C' r0 r1 r2 p ∧ fM h h' := by
  have r := s_M_odds (d := d + 3) hI.2.2.1 hO.2.1 hI.2.2.2.1 hO.2.2.1 (tR1 a) (tR2 a) (tR1 c) (tR2 c)
  rw [← zI_of a, ← zI_of c] at r
  exact IM_q hI r
theorem ms_shows {d : Nat} {h : mHp} {n : Int} {g : Int → Int32} {B : tB} {E : tE} {k : Int} {C : tC} {i : Int} {E' : tE} {C' : tC} {r0 r1 r2 p : Int} (hI : IM h n g B E k C i E' C' r0 r1 r2 p) (hO : IO n B E k C i E' C') (a c : Int32) {w : Int} (w0 : 0 ≤ w) (w1 : w ≤ 1) : ∃ h', mRuns (d + 8) 39 0 [some (.ref 114), some (.int a), some (.int c), some (.int (zI w))] [] h (.inl (some (.int (zI (rShow B a.toInt c.toInt w).2)), h')) ∧ h'.1 114 0 = zI (rShow B a.toInt c.toInt w).1 ∧ IM h' n g B E k C i E' C' r0 r1 r2 p ∧ fM h h' := by
  have r := s_M_shows (d := d + 5) hI.2.2.1 hO.2.1 (tR1 a) (tR2 a) (tR1 c) (tR2 c) w0 w1
  rw [← zI_of a, ← zI_of c] at r
  exact IM_q hI r
theorem ms_pairs {d : Nat} {h : mHp} {n : Int} {g : Int → Int32} {B : tB} {E : tE} {k : Int} {C : tC} {i : Int} {E' : tE} {C' : tC} {r0 r1 r2 p : Int} (hI : IM h n g B E k C i E' C' r0 r1 r2 p) (hO : IO n B E k C i E' C') : ∃ h', mRuns (d + 8) 67 0 [some (.ref 114), none, none, none] [] h (.inl (some (.int (zI (aPr B E (aNow E)))), h')) ∧ IM h' n g B E k C i E' C' r0 r1 r2 p ∧ fM h h' :=
  ⟨_, s_M_pairs (d := d + 3) hI.2.2.1 hO.2.1 hI.2.2.2.1 hO.2.2.1, IM_t hI _, fM_t _ _⟩
theorem ms_fault {d : Nat} {h : mHp} {n : Int} {g : Int → Int32} {B : tB} {E : tE} {k : Int} {C : tC} {i : Int} {E' : tE} {C' : tC} {r0 r1 r2 p : Int} (hI : IM h n g B E k C i E' C' r0 r1 r2 p) (hO : IO n B E k C i E' C') : ∃ h', mRuns (d + 8) 28 0 [some (.ref 114)] [] h (.inl (some (.int (zI p)), h')) ∧ IM h' n g B E k C i E' C' r0 r1 r2 p ∧ fM h h' :=
  ⟨_, s_M_fault (d := d + 7) hI.2.2.2.2.2.2.2.2.2.2.2.2, IM_t hI _, fM_t _ _⟩
theorem ms_bars {d : Nat} {h : mHp} {n : Int} {g : Int → Int32} {B : tB} {E : tE} {k : Int} {C : tC} {i : Int} {E' : tE} {C' : tC} {r0 r1 r2 p : Int} (hI : IM h n g B E k C i E' C' r0 r1 r2 p) (hO : IO n B E k C i E' C') (a : Int32) : ∃ h', mRuns (d + 8) 54 0 [some (.ref 114), some (.int a), none, none, none, none, none] [] h (.inl (some (.int (zI (rBars B a.toInt).2)), h')) ∧ h'.1 114 0 = zI (rBars B a.toInt).1 ∧ IM h' n g B E k C i E' C' r0 r1 r2 p ∧ fM h h' := by
  obtain ⟨h', r, t, f⟩ := s_M_bars (d := d + 2) hI.2.2.1 hO.2.1 hI.1 (tR1 a) (tR2 a)
  rw [← zI_of a] at r
  exact ⟨h', r, t, IM_of hI (fun j hj => f.2.1 j hj) (fun x a b c1 c2 c3 c4 c5 => f.1 x (by simp <;> omega) (by omega)), fM_fg f (by simp)⟩
theorem ms_worth {d : Nat} {h : mHp} {n : Int} {g : Int → Int32} {B : tB} {E : tE} {k : Int} {C : tC} {i : Int} {E' : tE} {C' : tC} {r0 r1 r2 p : Int} (hI : IM h n g B E k C i E' C' r0 r1 r2 p) (hO : IO n B E k C i E' C') (a c : Int32) : ∃ h', mRuns (d + 8) 55 0 [some (.ref 114), some (.int a), some (.int c), none, none] [] h (.inl (some (.int (zI (rWorth B a.toInt c.toInt).2)), h')) ∧ h'.1 114 0 = zI (rWorth B a.toInt c.toInt).1 ∧ IM h' n g B E k C i E' C' r0 r1 r2 p ∧ fM h h' := by
  obtain ⟨h', r, t, f⟩ := s_M_worth (d := d + 2) (t := a.toInt) (l := c.toInt) hI.2.2.1 hO.2.1 hI.1 (tR1 c) (tR2 c) (tR1 a) (tR2 a)
  rw [← zI_of a, ← zI_of c] at r
  exact ⟨h', r, t, IM_of hI (fun j hj => f.2.1 j hj) (fun x a b c1 c2 c3 c4 c5 => f.1 x (by simp <;> omega) (by omega)), fM_fg f (by simp)⟩
theorem ms_next {d : Nat} {h : mHp} {n : Int} {g : Int → Int32} {B : tB} {E : tE} {k : Int} {C : tC} {i : Int} {E' : tE} {C' : tC} {r0 r1 r2 p : Int} (hI : IM h n g B E k C i E' C' r0 r1 r2 p) (hO : IO n B E k C i E' C') (a : Int32) : ∃ h', mRuns (d + 8) 68 0 [some (.ref 114), some (.int a), none, none, none, none, none, none] [] h (.inl (some (.int (zI (rNext B E a.toInt).2)), h')) ∧ h'.1 114 0 = zI (rNext B E a.toInt).1 ∧ IM h' n g B E k C i E' C' r0 r1 r2 p ∧ fM h h' := by
  obtain ⟨h', r, t, f⟩ := s_M_next (d := d + 2) hI.2.2.1 hO.2.1 hI.2.2.2.1 hO.2.2.1 (tR1 a) (tR2 a)
  rw [← zI_of a] at r
  exact ⟨h', r, t, IM_of hI (fun j hj => f.2.1 j (by simp at hj ⊢; omega)) (fun x a b c1 c2 c3 c4 c5 => f.1 x (by simp <;> omega) (by omega)), fM_fg f (by simp)⟩
theorem ms_trial {d : Nat} {h : mHp} {n : Int} {g : Int → Int32} {B : tB} {E : tE} {k : Int} {C : tC} {i : Int} {E' : tE} {C' : tC} {r0 r1 r2 p : Int} (hI : IM h n g B E k C i E' C' r0 r1 r2 p) (hO : IO n B E k C i E' C') (a c e u x : Int32) : ∃ h', mRuns (d + 8) 71 0 [some (.ref 114), some (.int a), some (.int c), some (.int e), some (.int u), some (.int x), none, none, none] [] h (.inl (some (.int (zI (rTrial a.toInt c.toInt e.toInt u.toInt x.toInt).2)), h')) ∧ h'.1 114 0 = zI (rTrial a.toInt c.toInt e.toInt u.toInt x.toInt).1 ∧ IM h' n g B E k C i E' C' r0 r1 r2 p ∧ fM h h' := by
  obtain ⟨h', r, f1, f2, f3⟩ := s_M_trial (d := d + 5) (h := h) (tR1 a) (tR2 a) (tR1 c) (tR2 c) (tR1 e) (tR2 e) (tR1 u) (tR2 u) (tR1 x) (tR2 x)
  rw [← zI_of a, ← zI_of c, ← zI_of e, ← zI_of u, ← zI_of x] at r
  refine ⟨h', r, by rw [f1, hI_same], IM_of (IM_t hI _) (fun j _ => by rw [f1]) (fun y _ _ _ _ _ _ _ => by rw [f1]), ⟨fun y hy => by rw [f1, hI_ne (by omega)], fun y _ y2 => by rw [f2 y y2]; rfl, by rw [f3]; rfl⟩⟩
theorem ms_plan {d : Nat} {h : mHp} {n : Int} {g : Int → Int32} {B : tB} {E : tE} {k : Int} {C : tC} {i : Int} {E' : tE} {C' : tC} {r0 r1 r2 p : Int} (hI : IM h n g B E k C i E' C' r0 r1 r2 p) (hO : IO n B E k C i E' C') (a c : Int32) : ∃ h', mRuns (d + 8) 42 0 [some (.ref 114), some (.int a), some (.int c), none] [] h (.inl (some (.int (zI (rPlan B a.toInt c.toInt).2)), h')) ∧ h'.1 114 0 = zI (rPlan B a.toInt c.toInt).1 ∧ IM h' n g B E (kPlan B k a.toInt c.toInt) C i E' C' r0 r1 r2 p ∧ fM h h' := by
  obtain ⟨a1, a2, a3, a4, a5, a6, a7, a8, a9, a10, a11, a12, a13⟩ := hI
  obtain ⟨h', r, t, K, f⟩ := s_M_plan (d := d + 2) a3 hO.2.1 a1 a5 (tR1 a) (tR2 a) (tR1 c) (tR2 c)
  rw [← zI_of a, ← zI_of c] at r
  exact ⟨h', r, t, ⟨PWof a1 (f.1 129 (by simp) (by omega)), TM_of a2 (f.2.1 10 (by simp)) (f.1 119 (by simp) (by omega)), BM_of a3 (fun j _ _ => f.2.1 j (by simp <;> omega)) (fun j _ _ => f.1 j (by simp <;> omega) (by omega)), EM_of a4 (f.2.1 42 (by simp)) (f.1 131 (by simp) (by omega)), K, CM_of a6 (fun j _ _ => f.2.1 j (by simp <;> omega)) (f.1 135 (by simp) (by omega)) (f.1 136 (by simp) (by omega)), fun z => PM_of (a7 z) (f.1 134 (by simp) (by omega)), by rw [f.2.1 53 (by simp)]; exact a8, fun z => ⟨EI_of (a9 z).1 (f.2.1 54 (by simp)) (f.1 137 (by simp) (by omega)), CI_of (a9 z).2.1 (fun j _ _ => f.2.1 j (by simp <;> omega)) (f.1 139 (by simp) (by omega)) (f.1 140 (by simp) (by omega)), fun y => by rw [f.1 138 (by simp) (by omega)]; exact (a9 z).2.2 y⟩, by rw [f.1 120 (by simp) (by omega)]; exact a10, by rw [f.1 120 (by simp) (by omega)]; exact a11, by rw [f.1 120 (by simp) (by omega)]; exact a12, by rw [f.2.1 12 (by simp)]; exact a13⟩, fM_fg f (by simp)⟩
theorem ms_begin {d : Nat} {h : mHp} {n : Int} {g : Int → Int32} {B : tB} {E : tE} {k : Int} {C : tC} {i : Int} {E' : tE} {C' : tC} {r0 r1 r2 p : Int} (hI : IM h n g B E k C i E' C' r0 r1 r2 p) (hO : IO n B E k C i E' C') (s a c : Int32) : ∃ h', mRuns (d + 8) 73 0 [some (.ref 114), some (.int s), some (.int a), some (.int c), none] [] h (.inl (some (.int (zI (rBegin B a.toInt c.toInt).2)), h')) ∧ h'.1 114 0 = zI (rBegin B a.toInt c.toInt).1 ∧ IM h' n g B E k (cBegin B C s a.toInt c.toInt) i E' C' r0 r1 (nBegin B a.toInt c.toInt r2) p ∧ fM h h' := by
  obtain ⟨a1, a2, a3, a4, a5, a6, a7, a8, a9, a10, a11, a12, a13⟩ := hI
  obtain ⟨h', r, t, K, q1, q2, hn, ho, f⟩ := s_M_begin (d := d + 2) (s := s) a3 hO.2.1 a1 a6 a12 (tR1 a) (tR2 a) (tR1 c) (tR2 c)
  rw [← zI_of a, ← zI_of c] at r
  have PP : cO (cBegin B C s a.toInt c.toInt) = 1 → PM h' B (onPs B (cBegin B C s a.toInt c.toInt)) (onPt B (cBegin B C s a.toInt c.toInt)) := by
    intro z
    by_cases u : bgOk a.toInt c.toInt ∧ (fPl B a.toInt (-1)).1 = 1
    · have e : cBegin B C s a.toInt c.toInt = cOpen B C s a.toInt c.toInt := if_pos u
      rw [e]
      exact q1 u
    · have e : cBegin B C s a.toInt c.toInt = C := if_neg u
      rw [e] at z ⊢
      exact PM_of (a7 z) (q2 u)
  exact ⟨h', r, t, ⟨PWof a1 (f.1 129 (by simp) (by omega)), TM_of a2 (f.2.1 10 (by simp)) (f.1 119 (by simp) (by omega)), BM_of a3 (fun j _ _ => f.2.1 j (by simp <;> omega)) (fun j _ _ => f.1 j (by simp <;> omega) (by omega)), EM_of a4 (f.2.1 42 (by simp)) (f.1 131 (by simp) (by omega)), KM_of a5 (f.2.1 38 (by simp)) (f.1 130 (by simp) (by omega)), K, PP, by rw [f.2.1 53 (by simp)]; exact a8, fun z => ⟨EI_of (a9 z).1 (f.2.1 54 (by simp)) (f.1 137 (by simp) (by omega)), CI_of (a9 z).2.1 (fun j _ _ => f.2.1 j (by simp <;> omega)) (f.1 139 (by simp) (by omega)) (f.1 140 (by simp) (by omega)), fun y => by rw [f.1 138 (by simp) (by omega)]; exact (a9 z).2.2 y⟩, by rw [ho 0 (by omega)]; exact a10, by rw [ho 1 (by omega)]; exact a11, hn, by rw [f.2.1 12 (by simp)]; exact a13⟩, fM_fg f (by simp)⟩
theorem ms_on {d : Nat} {h : mHp} {n : Int} {g : Int → Int32} {B : tB} {E : tE} {k : Int} {C : tC} {i : Int} {E' : tE} {C' : tC} {r0 r1 r2 p : Int} (hI : IM h n g B E k C i E' C' r0 r1 r2 p) (hO : IO n B E k C i E' C') (a : Int32) : ∃ h', mRuns (d + 8) 74 0 [some (.ref 114), some (.int a), none] [] h (.inl (some (.int (zI (rOn C a.toInt).2)), h')) ∧ h'.1 114 0 = zI (rOn C a.toInt).1 ∧ IM h' n g B E k (cOn B C a.toInt) i E' C' r0 r1 (nOn C a.toInt r2) p ∧ fM h h' := by
  obtain ⟨a1, a2, a3, a4, a5, a6, a7, a8, a9, a10, a11, a12, a13⟩ := hI
  obtain ⟨h', r, t, K, hn, ho, f⟩ := s_M_on (d := d + 4) a3 hO.2.1 a6 hO.2.2.2.2.1 (fun z => ⟨hO.2.2.2.2.2.1 z, a7 z⟩) a12 (tR1 a) (tR2 a)
  rw [← zI_of a] at r
  have PP : cO (cOn B C a.toInt) = 1 → PM h' B (onPs B (cOn B C a.toInt)) (onPt B (cOn B C a.toInt)) := by
    intro z
    by_cases u : (0 ≤ a.toInt ∧ a.toInt ≤ 100) ∧ cO C = 1 ∧ cN C + a.toInt ≤ 300
    · have e : cOn B C a.toInt = cDays B (onPs B C) (onPt B C) a.toInt.toNat C := if_pos u
      have cd := (COk_days (B := B) (ps := onPs B C) (pt := onPt B C) a.toInt.toNat C hO.2.2.2.2.1 u.2.1 (by omega)).2.2.2
      have e2 : onPs B (cOn B C a.toInt) = onPs B C := by unfold onPs; rw [e, cd]
      have e3 : onPt B (cOn B C a.toInt) = onPt B C := by unfold onPt; rw [e, cd]
      rw [e2, e3]
      exact PM_of (a7 u.2.1) (f.1 134 (by simp) (by omega))
    · have e : cOn B C a.toInt = C := if_neg u
      rw [e] at z ⊢
      exact PM_of (a7 z) (f.1 134 (by simp) (by omega))
  exact ⟨h', r, t, ⟨PWof a1 (f.1 129 (by simp) (by omega)), TM_of a2 (f.2.1 10 (by simp)) (f.1 119 (by simp) (by omega)), BM_of a3 (fun j _ _ => f.2.1 j (by simp <;> omega)) (fun j _ _ => f.1 j (by simp <;> omega) (by omega)), EM_of a4 (f.2.1 42 (by simp)) (f.1 131 (by simp) (by omega)), KM_of a5 (f.2.1 38 (by simp)) (f.1 130 (by simp) (by omega)), K, PP, by rw [f.2.1 53 (by simp)]; exact a8, fun z => ⟨EI_of (a9 z).1 (f.2.1 54 (by simp)) (f.1 137 (by simp) (by omega)), CI_of (a9 z).2.1 (fun j _ _ => f.2.1 j (by simp <;> omega)) (f.1 139 (by simp) (by omega)) (f.1 140 (by simp) (by omega)), fun y => by rw [f.1 138 (by simp) (by omega)]; exact (a9 z).2.2 y⟩, by rw [ho 0 (by omega)]; exact a10, by rw [ho 1 (by omega)]; exact a11, hn, by rw [f.2.1 12 (by simp)]; exact a13⟩, fM_fg f (by simp)⟩
theorem ms_ate {d : Nat} {h : mHp} {n : Int} {g : Int → Int32} {B : tB} {E : tE} {k : Int} {C : tC} {i : Int} {E' : tE} {C' : tC} {r0 r1 r2 p : Int} (hI : IM h n g B E k C i E' C' r0 r1 r2 p) (hO : IO n B E k C i E' C') (a c e : Int32) {w : Int} (w0 : 0 ≤ w) (w1 : w ≤ 1) : ∃ h', mRuns (d + 8) 56 0 [some (.ref 114), some (.int a), some (.int c), some (.int e), some (.int (zI w))] [] h (.inl (some (.int (zI (rAte B E a.toInt c.toInt e.toInt).2)), h')) ∧ h'.1 114 0 = zI (rAte B E a.toInt c.toInt e.toInt).1 ∧ IM h' n g B (eAte B E a.toInt c.toInt e.toInt w) k C i E' C' r0 (nAte B E a.toInt c.toInt e.toInt r1) r2 p ∧ fM h h' := by
  obtain ⟨a1, a2, a3, a4, a5, a6, a7, a8, a9, a10, a11, a12, a13⟩ := hI
  obtain ⟨h', r, t, K, hn, ho, f⟩ := s_M_ate (d := d + 5) a3 hO.2.1 a4 hO.2.2.1 a11 (tR1 a) (tR2 a) (tR1 c) (tR2 c) (tR1 e) (tR2 e) w0 w1
  rw [← zI_of a, ← zI_of c, ← zI_of e] at r
  exact ⟨h', r, t, ⟨PWof a1 (f.1 129 (by simp) (by omega)), TM_of a2 (f.2.1 10 (by simp)) (f.1 119 (by simp) (by omega)), BM_of a3 (fun j _ _ => f.2.1 j (by simp <;> omega)) (fun j _ _ => f.1 j (by simp <;> omega) (by omega)), K, KM_of a5 (f.2.1 38 (by simp)) (f.1 130 (by simp) (by omega)), CM_of a6 (fun j _ _ => f.2.1 j (by simp <;> omega)) (f.1 135 (by simp) (by omega)) (f.1 136 (by simp) (by omega)), fun z => PM_of (a7 z) (f.1 134 (by simp) (by omega)), by rw [f.2.1 53 (by simp)]; exact a8, fun z => ⟨EI_of (a9 z).1 (f.2.1 54 (by simp)) (f.1 137 (by simp) (by omega)), CI_of (a9 z).2.1 (fun j _ _ => f.2.1 j (by simp <;> omega)) (f.1 139 (by simp) (by omega)) (f.1 140 (by simp) (by omega)), fun y => by rw [f.1 138 (by simp) (by omega)]; exact (a9 z).2.2 y⟩, by rw [ho 0 (by omega)]; exact a10, hn, by rw [ho 2 (by omega)]; exact a12, by rw [f.2.1 12 (by simp)]; exact a13⟩, fM_fg f (by simp)⟩
theorem ms_fell {d : Nat} {h : mHp} {n : Int} {g : Int → Int32} {B : tB} {E : tE} {k : Int} {C : tC} {i : Int} {E' : tE} {C' : tC} {r0 r1 r2 p : Int} (hI : IM h n g B E k C i E' C' r0 r1 r2 p) (hO : IO n B E k C i E' C') (a c : Int32) : ∃ h', mRuns (d + 8) 58 0 [some (.ref 114), some (.int a), some (.int c)] [] h (.inl (some (.int (zI (rFall B E a.toInt c.toInt).2)), h')) ∧ h'.1 114 0 = zI (rFall B E a.toInt c.toInt).1 ∧ IM h' n g B (eFall B E a.toInt c.toInt) k C i E' C' r0 (nFall B E a.toInt c.toInt r1) r2 p ∧ fM h h' := by
  obtain ⟨a1, a2, a3, a4, a5, a6, a7, a8, a9, a10, a11, a12, a13⟩ := hI
  obtain ⟨h', r, t, K, hn, ho, f⟩ := s_M_fell (d := d + 5) a3 hO.2.1 a4 hO.2.2.1 a11 (tR1 a) (tR2 a) (tR1 c) (tR2 c)
  rw [← zI_of a, ← zI_of c] at r
  exact ⟨h', r, t, ⟨PWof a1 (f.1 129 (by simp) (by omega)), TM_of a2 (f.2.1 10 (by simp)) (f.1 119 (by simp) (by omega)), BM_of a3 (fun j _ _ => f.2.1 j (by simp <;> omega)) (fun j _ _ => f.1 j (by simp <;> omega) (by omega)), K, KM_of a5 (f.2.1 38 (by simp)) (f.1 130 (by simp) (by omega)), CM_of a6 (fun j _ _ => f.2.1 j (by simp <;> omega)) (f.1 135 (by simp) (by omega)) (f.1 136 (by simp) (by omega)), fun z => PM_of (a7 z) (f.1 134 (by simp) (by omega)), by rw [f.2.1 53 (by simp)]; exact a8, fun z => ⟨EI_of (a9 z).1 (f.2.1 54 (by simp)) (f.1 137 (by simp) (by omega)), CI_of (a9 z).2.1 (fun j _ _ => f.2.1 j (by simp <;> omega)) (f.1 139 (by simp) (by omega)) (f.1 140 (by simp) (by omega)), fun y => by rw [f.1 138 (by simp) (by omega)]; exact (a9 z).2.2 y⟩, by rw [ho 0 (by omega)]; exact a10, hn, by rw [ho 2 (by omega)]; exact a12, by rw [f.2.1 12 (by simp)]; exact a13⟩, fM_fg f (by simp)⟩
theorem ms_undo {d : Nat} {h : mHp} {n : Int} {g : Int → Int32} {B : tB} {E : tE} {k : Int} {C : tC} {i : Int} {E' : tE} {C' : tC} {r0 r1 r2 p : Int} (hI : IM h n g B E k C i E' C' r0 r1 r2 p) (hO : IO n B E k C i E' C') : ∃ h', mRuns (d + 8) 59 0 [some (.ref 114)] [] h (.inl (some (.int (zI (rUndo E))), h')) ∧ IM h' n g B (eUndo E) k C i E' C' r0 r1 r2 p ∧ fM h h' := by
  obtain ⟨a1, a2, a3, a4, a5, a6, a7, a8, a9, a10, a11, a12, a13⟩ := hI
  obtain ⟨h', r, K, f⟩ := s_M_undo (d := d + 7) a4 hO.2.2.1
  exact ⟨h', r, ⟨PWof a1 (f.1 129 (by simp) (by omega)), TM_of a2 (f.2.1 10 (by simp)) (f.1 119 (by simp) (by omega)), BM_of a3 (fun j _ _ => f.2.1 j (by simp <;> omega)) (fun j _ _ => f.1 j (by simp <;> omega) (by omega)), K, KM_of a5 (f.2.1 38 (by simp)) (f.1 130 (by simp) (by omega)), CM_of a6 (fun j _ _ => f.2.1 j (by simp <;> omega)) (f.1 135 (by simp) (by omega)) (f.1 136 (by simp) (by omega)), fun z => PM_of (a7 z) (f.1 134 (by simp) (by omega)), by rw [f.2.1 53 (by simp)]; exact a8, fun z => ⟨EI_of (a9 z).1 (f.2.1 54 (by simp)) (f.1 137 (by simp) (by omega)), CI_of (a9 z).2.1 (fun j _ _ => f.2.1 j (by simp <;> omega)) (f.1 139 (by simp) (by omega)) (f.1 140 (by simp) (by omega)), fun y => by rw [f.1 138 (by simp) (by omega)]; exact (a9 z).2.2 y⟩, by rw [f.1 120 (by simp) (by omega)]; exact a10, by rw [f.1 120 (by simp) (by omega)]; exact a11, by rw [f.1 120 (by simp) (by omega)]; exact a12, by rw [f.2.1 12 (by simp)]; exact a13⟩, fM_fg f (by simp)⟩
theorem ms_feed {d : Nat} {h : mHp} {n : Int} {g : Int → Int32} {B : tB} {E : tE} {k : Int} {C : tC} {i : Int} {E' : tE} {C' : tC} {r0 r1 r2 p : Int} (hI : IM h n g B E k C i E' C' r0 r1 r2 p) (hO : IO n B E k C i E' C') (a c e u x : Int32) : ∃ h', mRuns (d + 8) 5 0 [some (.ref 114), some (.int a), some (.int c), some (.int e), some (.int u), some (.int x)] [] h (.inl (some (.int (zI (if n + 20 ≤ 700 then n + 20 else -1))), h')) ∧ IM h' (if n + 20 ≤ 700 then n + 20 else n) (if n + 20 ≤ 700 then gAdd g n a c e u x else g) B E k C i E' C' r0 r1 r2 p ∧ fM h h' := by
  obtain ⟨a1, a2, a3, a4, a5, a6, a7, a8, a9, a10, a11, a12, a13⟩ := hI
  obtain ⟨h', r, t1, t2, t, f⟩ := s_M_feed (d := d + 6) (a := a) (b := c) (c := e) (e := u) (f := x) hO.1.1 hO.1.2 a2
  have TT : TM h' (if n + 20 ≤ 700 then n + 20 else n) (if n + 20 ≤ 700 then gAdd g n a c e u x else g) := by
    by_cases z : n + 20 ≤ 700
    · rw [if_pos z, if_pos z]; exact t1 z
    · rw [if_neg z, if_neg z]; exact t2 z
  exact ⟨h', r, ⟨PWof a1 (f.1 129 (by simp) (by omega)), TT, BM_of a3 (fun j _ _ => f.2.1 j (by simp <;> omega)) (fun j _ _ => f.1 j (by simp <;> omega) (by omega)), EM_of a4 (f.2.1 42 (by simp)) (f.1 131 (by simp) (by omega)), KM_of a5 (f.2.1 38 (by simp)) (f.1 130 (by simp) (by omega)), CM_of a6 (fun j _ _ => f.2.1 j (by simp <;> omega)) (f.1 135 (by simp) (by omega)) (f.1 136 (by simp) (by omega)), fun z => PM_of (a7 z) (f.1 134 (by simp) (by omega)), by rw [f.2.1 53 (by simp)]; exact a8, fun z => ⟨EI_of (a9 z).1 (f.2.1 54 (by simp)) (f.1 137 (by simp) (by omega)), CI_of (a9 z).2.1 (fun j _ _ => f.2.1 j (by simp <;> omega)) (f.1 139 (by simp) (by omega)) (f.1 140 (by simp) (by omega)), fun y => by rw [f.1 138 (by simp) (by omega)]; exact (a9 z).2.2 y⟩, by rw [f.1 120 (by simp) (by omega)]; exact a10, by rw [f.1 120 (by simp) (by omega)]; exact a11, by rw [f.1 120 (by simp) (by omega)]; exact a12, by rw [f.2.1 12 (by simp)]; exact a13⟩, fM_fg f (by simp)⟩
theorem ms_image {d : Nat} {h : mHp} {n : Int} {g : Int → Int32} {B : tB} {E : tE} {k : Int} {C : tC} {i : Int} {E' : tE} {C' : tC} {r0 r1 r2 p : Int} (hI : IM h n g B E k C i E' C' r0 r1 r2 p) (hO : IO n B E k C i E' C') : ∃ h', mRuns (d + 8) 79 0 [some (.ref 114)] [] h (.inl (none, h')) ∧ IM h' n g B E k C 1 E C r0 r1 r2 p ∧ fM h h' := by
  obtain ⟨a1, a2, a3, a4, a5, a6, a7, a8, a9, a10, a11, a12, a13⟩ := hI
  obtain ⟨h', r, t, t1, e1, c1, e8, f⟩ := s_M_image (d := d + 6) a4 hO.2.2.1 a6 hO.2.2.2.2.1
  have ob := hO.2.1.1
  exact ⟨h', r, ⟨PWof a1 (f.1 129 (by simp) (by omega)), TM_of a2 (f.2.1 10 (by simp)) (f.1 119 (by simp) (by omega)), BM_of a3 (fun j _ _ => f.2.1 j (by simp <;> omega)) (fun j _ _ => f.1 j (by simp <;> omega) (by omega)), EM_of a4 (f.2.1 42 (by simp)) (f.1 131 (by simp) (by omega)), KM_of a5 (f.2.1 38 (by simp)) (f.1 130 (by simp) (by omega)), CM_of a6 (fun j _ _ => f.2.1 j (by simp <;> omega)) (f.1 135 (by simp) (by omega)) (f.1 136 (by simp) (by omega)), fun z => PM_of (a7 z) (f.1 134 (by simp) (by omega)), t1, fun _ => ⟨e1, c1, fun z => ⟨fun j j0 j1 => by rw [e8 _ (by omega)]; exact (a7 z).1 j j0 j1, fun j j0 j1 => by rw [e8 _ (by omega)]; exact (a7 z).2 j j0 j1⟩⟩, by rw [f.1 120 (by simp) (by omega)]; exact a10, by rw [f.1 120 (by simp) (by omega)]; exact a11, by rw [f.1 120 (by simp) (by omega)]; exact a12, by rw [f.2.1 12 (by simp)]; exact a13⟩, fM_fg f (by simp)⟩
theorem ms_restore_no {d : Nat} {h : mHp} {n : Int} {g : Int → Int32} {B : tB} {E : tE} {k : Int} {C : tC} {i : Int} {E' : tE} {C' : tC} {r0 r1 r2 p : Int} (hI : IM h n g B E k C i E' C' r0 r1 r2 p) (hO : IO n B E k C i E' C') (c : i = 0) : ∃ h', mRuns (d + 8) 80 0 [some (.ref 114)] [] h (.inl (some (.int (zI 0)), h')) ∧ IM h' n g B E k C i E' C' r0 r1 r2 p ∧ fM h h' :=
  ⟨_, s_M_restore_no (d := d + 7) (by rw [hI.2.2.2.2.2.2.2.1, c]), IM_t hI _, fM_t _ _⟩
theorem ms_restore {d : Nat} {h : mHp} {n : Int} {g : Int → Int32} {B : tB} {E : tE} {k : Int} {C : tC} {i : Int} {E' : tE} {C' : tC} {r0 r1 r2 p : Int} (hI : IM h n g B E k C i E' C' r0 r1 r2 p) (hO : IO n B E k C i E' C') (c : i = 1) : ∃ h', mRuns (d + 8) 80 0 [some (.ref 114)] [] h (.inl (some (.int (zI 1)), h')) ∧ IM h' n g B E' k C' i E' C' r0 r1 r2 p ∧ fM h h' := by
  obtain ⟨a1, a2, a3, a4, a5, a6, a7, a8, a9, a10, a11, a12, a13⟩ := hI
  obtain ⟨o1, o2, -⟩ := hO.2.2.2.2.2.2.2 c
  have ob := hO.2.1.1
  obtain ⟨h', r, t, e1, c1, e8, f⟩ := s_M_restore (d := d + 6) (by rw [a8, c]) (a9 c).1 o1 (a9 c).2.1 o2
  exact ⟨h', r, ⟨PWof a1 (f.1 129 (by simp) (by omega)), TM_of a2 (f.2.1 10 (by simp)) (f.1 119 (by simp) (by omega)), BM_of a3 (fun j _ _ => f.2.1 j (by simp <;> omega)) (fun j _ _ => f.1 j (by simp <;> omega) (by omega)), e1, KM_of a5 (f.2.1 38 (by simp)) (f.1 130 (by simp) (by omega)), c1, fun z => ⟨fun j j0 j1 => by rw [e8 _ (by omega)]; exact ((a9 c).2.2 z).1 j j0 j1, fun j j0 j1 => by rw [e8 _ (by omega)]; exact ((a9 c).2.2 z).2 j j0 j1⟩, by rw [f.2.1 53 (by simp)]; exact a8, fun z => ⟨EI_of (a9 z).1 (f.2.1 54 (by simp)) (f.1 137 (by simp) (by omega)), CI_of (a9 z).2.1 (fun j _ _ => f.2.1 j (by simp <;> omega)) (f.1 139 (by simp) (by omega)) (f.1 140 (by simp) (by omega)), fun y => by rw [f.1 138 (by simp) (by omega)]; exact (a9 z).2.2 y⟩, by rw [f.1 120 (by simp) (by omega)]; exact a10, by rw [f.1 120 (by simp) (by omega)]; exact a11, by rw [f.1 120 (by simp) (by omega)]; exact a12, by rw [f.2.1 12 (by simp)]; exact a13⟩, fM_fg f (by simp)⟩
theorem ms_table_no {d : Nat} {h : mHp} {n : Int} {g : Int → Int32} {B : tB} {E : tE} {k : Int} {C : tC} {i : Int} {E' : tE} {C' : tC} {r0 r1 r2 p : Int} (hI : IM h n g B E k C i E' C' r0 r1 r2 p) (hO : IO n B E k C i E' C') (a : Int32) (c : ¬ (0 ≤ a.toInt ∧ a.toInt ≤ n)) : ∃ h', mRuns (d + 8) 7 0 [some (.ref 114), some (.int a), none] [] h (.inl (some (.int (zI 0)), h')) ∧ h'.1 114 0 = zI 1 ∧ IM h' n g B E k C i E' C' r0 r1 r2 p ∧ fM h h' := by
  have r := s_M_table_no (d := d + 6) hI.2.1.1 hO.1.1 hO.1.2 (tR1 a) (tR2 a) c
  rw [← zI_of a] at r
  exact ⟨_, r, hI_same _ _ _ _, IM_t hI _, fM_t _ _⟩
theorem fM_k {l fs : List Nat} {h h' : mHp} (f : kF l fs h h') (hl : ∀ x, x ∈ l → 114 ≤ x ∧ x ≤ 140) : fM h h' :=
  ⟨fun x hx => f.1 x (fun z => by have := hl x z; omega) (by omega), fun x a _ => f.2.2.1 x a, f.2.2.2⟩
theorem ms_table_bad {d : Nat} {h : mHp} {n : Int} {g : Int → Int32} {B : tB} {E : tE} {k : Int} {C : tC} {i : Int} {E' : tE} {C' : tC} {r0 r1 r2 p : Int} (hI : IM h n g B E k C i E' C' r0 r1 r2 p) (hO : IO n B E k C i E' C') (a : Int32) (c : 0 ≤ a.toInt ∧ a.toInt ≤ n) (hF : rF (xAl (gU g) a.toInt).1 ≠ 0) : ∃ h', mRuns (d + 8) 7 0 [some (.ref 114), some (.int a), none] [] h (.inl (some (.int (zI (rF (xAl (gU g) a.toInt).1))), h')) ∧ h'.1 114 0 = zI 0 ∧ IM h' 0 g B E k C i E' C' (r0 + 1) r1 r2 (rPl (xAl (gU g) a.toInt).1) ∧ fM h h' := by
  obtain ⟨a1, a2, a3, a4, a5, a6, a7, a8, a9, a10, a11, a12, a13⟩ := hI
  obtain ⟨h', r, t, t10, pl, f, B1, -⟩ := s_M_table (d := d) a2 c.1 c.2 hO.1.2
  rw [← zI_of a] at r
  obtain ⟨b1, b2, b3⟩ := B1 hF
  have ff : ∀ j, 5 ≤ j → j ∉ [10, 11, 12, 14, 15, 16, 17, 18, 19, 21, 22, 23, 24, 25, 26] → h'.1 114 j = h.1 114 j := fun j j5 hj => by
    by_cases u : j ∈ [1, 2, 3, 4, 38, 42, 46, 53]
    · exact b2 j u
    · exact f.2.1 j (by simp at hj u ⊢; omega)
  exact ⟨h', r, t, ⟨PWof a1 (f.1 129 (by simp) (by omega)), ⟨t10, fun j j0 j1 => absurd j1 (by omega)⟩, BM_of a3 (fun j j0 j1 => b2 j (by simp <;> omega)) (fun j j0 j1 => b3 j j0 j1), EM_of a4 (ff 42 (by omega) (by simp)) (f.1 131 (by simp) (by omega)), KM_of a5 (ff 38 (by omega) (by simp)) (f.1 130 (by simp) (by omega)), CM_of a6 (fun j j0 j1 => ff j (by omega) (by simp <;> omega)) (f.1 135 (by simp) (by omega)) (f.1 136 (by simp) (by omega)), fun z => PM_of (a7 z) (f.1 134 (by simp) (by omega)), by rw [ff 53 (by omega) (by simp)]; exact a8, fun z => ⟨EI_of (a9 z).1 (ff 54 (by omega) (by simp)) (f.1 137 (by simp) (by omega)), CI_of (a9 z).2.1 (fun j _ _ => ff j (by omega) (by simp <;> omega)) (f.1 139 (by simp) (by omega)) (f.1 140 (by simp) (by omega)), fun y => by rw [f.1 138 (by simp) (by omega)]; exact (a9 z).2.2 y⟩, by rw [b1]; show h.1 120 0 + zI 1 = _; rw [a10, zI_add], by rw [b1]; exact a11, by rw [b1]; exact a12, pl⟩, fM_k f (by simp)⟩
theorem ms_table_ok {d : Nat} {h : mHp} {n : Int} {g : Int → Int32} {B : tB} {E : tE} {k : Int} {C : tC} {i : Int} {E' : tE} {C' : tC} {r0 r1 r2 p : Int} (hI : IM h n g B E k C i E' C' r0 r1 r2 p) (hO : IO n B E k C i E' C') (a : Int32) (c : 0 ≤ a.toInt ∧ a.toInt ≤ n) (hF : rF (xAl (gU g) a.toInt).1 = 0) : ∃ h', mRuns (d + 8) 7 0 [some (.ref 114), some (.int a), none] [] h (.inl (some (.int (zI 0)), h')) ∧ h'.1 114 0 = zI 0 ∧ IM h' 0 g (xAl (gU g) a.toInt).2.1 eNil (-1) (cEnd C) 0 E' C' r0 r1 r2 (-1) ∧ fM h h' := by
  obtain ⟨a1, a2, a3, a4, a5, a6, a7, a8, a9, a10, a11, a12, a13⟩ := hI
  obtain ⟨h', r, t, t10, pl, f, -, B1⟩ := s_M_table (d := d) a2 c.1 c.2 hO.1.2
  rw [← zI_of a, hF] at r
  rw [PI_al (gU g) a.toInt hF] at pl
  obtain ⟨b1, b2, b3, b4, b5, b6, b7⟩ := B1 hF
  obtain ⟨⟨c1, c2, c3, c4⟩, c5, c6⟩ := a6
  have z0 : ∀ j : Int, 0 ≤ j → j < cN (cEnd C) → False := fun j j0 j1 => by have : cN (cEnd C) = 0 := rfl; omega
  have y0 : ∀ j : Int, 0 ≤ j → j < eN eNil → False := fun j j0 j1 => by have : eN eNil = 0 := rfl; omega
  exact ⟨h', r, t, ⟨PWof a1 (f.1 129 (by simp) (by omega)), ⟨t10, fun j j0 j1 => absurd j1 (by omega)⟩, b1, ⟨b4, fun j j0 j1 => (y0 j j0 j1).elim, fun j j0 j1 => (y0 j j0 j1).elim, fun j j0 j1 => (y0 j j0 j1).elim, fun j j0 j1 => (y0 j j0 j1).elim⟩, Or.inl ⟨rfl, b5⟩, ⟨⟨b6, by rw [f.2.1 47 (by simp)]; exact c2, by rw [f.2.1 48 (by simp)]; exact c3, by rw [f.2.1 49 (by simp)]; exact c4⟩, by rw [f.1 135 (by simp) (by omega)]; exact c5, fun j j0 j1 => (z0 j j0 j1).elim, fun j j0 j1 => (z0 j j0 j1).elim, fun j j0 j1 => (z0 j j0 j1).elim, fun j j0 j1 => (z0 j j0 j1).elim⟩, fun z => absurd z (show ¬ (0 : Int) = 1 by omega), b7, fun z => absurd z (by omega), by rw [b3]; exact a10, by rw [b3]; exact a11, by rw [b3]; exact a12, pl⟩, fM_k f (by simp)⟩
theorem s_M_thrown {d : Nat} {h : mHp} : mRuns (d + 1) 4 0 [some (.ref 114)] [] h (.inl (some (.int (h.1 114 0)), h)) := vc_M_thrown rfl

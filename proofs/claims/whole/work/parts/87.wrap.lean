/-! L3, the law's wrappers: what was thrown as a number, the answer in the law's row -/
theorem fC_pl {h h1 : mHp} (f : fC h h1) (k : Nat) (v : Int64) : fC h (mPL h1 141 k v) := ⟨f.1, fun x hx => by rw [hL_ne hx]; exact f.2.1 x hx, f.2.2.1, f.2.2.2⟩
theorem IC_pl {h : mHp} {b : Nat} {n : Int} {g : Int → Int32} {B : tB} {E : tE} {k : Int} {C : tC} {i : Int} {E' : tE} {C' : tC} {r0 r1 r2 p q : Int} (hI : IC h b n g B E k C i E' C' r0 r1 r2 p q) (j : Nat) (v : Int64) : IC (mPL h 141 j v) b n g B E k C i E' C' r0 r1 r2 p q := IC_of hI (fun _ _ => rfl) rfl rfl
theorem in01 : vp_in (nI 0) 1 := zI_inOk (a := 0) (by omega) (by omega) (by omega)
theorem fPl_01 (B : tB) (l w : Int) : (fPl B l w).1 = 0 ∨ (fPl B l w).1 = 1 := (fPl_good B l w).1
theorem w_count {d : Nat} {h : mHp} {b : Nat} {n : Int} {g : Int → Int32} {B : tB} {E : tE} {k : Int} {C : tC} {i : Int} {E' : tE} {C' : tC} {r0 r1 r2 p q : Int} (hI : IC h b n g B E k C i E' C' r0 r1 r2 p q) (hO : IO n B E k C i E' C') (a : Int32) : ∃ h' q', mRuns (d + 21) 189 0 [some (.ref 0), some (.int a), some (.ref 141), none] [] h (.inl (some (.int (zI (rCount B E C n r0 r1 r2 a.toInt).1)), h')) ∧ ((rCount B E C n r0 r1 r2 a.toInt).1 = 0 → h'.2.1 141 0 = (zI (rCount B E C n r0 r1 r2 a.toInt).2).toInt64) ∧ (0 ≤ (rCount B E C n r0 r1 r2 a.toInt).1 ∧ (rCount B E C n r0 r1 r2 a.toInt).1 ≤ 2) ∧ IC h' b n g B E k C i E' C' r0 r1 r2 p q' ∧ fC h h' ∧ q ≤ q' ∧ q' ≤ q + 384 := by
  have e01 : (rCount B E C n r0 r1 r2 a.toInt).1 = 0 ∨ (rCount B E C n r0 r1 r2 a.toInt).1 = 1 := by
    unfold rCount
    repeat' split
    all_goals simp
  obtain ⟨h1, q1, r, I1, f1, qa, qb⟩ := cs_count (d := d) hI hO a
  unfold tAns at r
  by_cases z : (rCount B E C n r0 r1 r2 a.toInt).1 = 0
  · rw [if_pos z] at r
    rw [z]
    exact ⟨mPL h1 141 0 (zI (rCount B E C n r0 r1 r2 a.toInt).2).toInt64, q1, vc_L_count (Or.inl ⟨_, _, r, in01, rfl⟩), fun _ => hL_same _ _ _ _, by omega, IC_pl I1 _ _, fC_pl f1 _ _, qa, qb⟩
  · rw [if_neg z] at r
    rcases e01 with e1 | e1
    · exact absurd e1 z
    · exact ⟨h1, q1, vc_L_count (Or.inr ⟨_, _, r, by rw [e1]; exact rfl⟩), fun y => absurd y z, by omega, I1, f1, qa, qb⟩
theorem w_dish {d : Nat} {h : mHp} {b : Nat} {n : Int} {g : Int → Int32} {B : tB} {E : tE} {k : Int} {C : tC} {i : Int} {E' : tE} {C' : tC} {r0 r1 r2 p q : Int} (hI : IC h b n g B E k C i E' C' r0 r1 r2 p q) (hO : IO n B E k C i E' C') (a c : Int32) : ∃ h' q', mRuns (d + 21) 190 0 [some (.ref 0), some (.int a), some (.int c), some (.ref 141), none] [] h (.inl (some (.int (zI (rDish B a.toInt c.toInt).1)), h')) ∧ ((rDish B a.toInt c.toInt).1 = 0 → h'.2.1 141 0 = (zI (rDish B a.toInt c.toInt).2).toInt64) ∧ (0 ≤ (rDish B a.toInt c.toInt).1 ∧ (rDish B a.toInt c.toInt).1 ≤ 2) ∧ IC h' b n g B E k C i E' C' r0 r1 r2 p q' ∧ fC h h' ∧ q ≤ q' ∧ q' ≤ q + 384 := by
  have e01 : (rDish B a.toInt c.toInt).1 = 0 ∨ (rDish B a.toInt c.toInt).1 = 1 := by
    unfold rDish
    repeat' split
    all_goals simp
  obtain ⟨h1, q1, r, I1, f1, qa, qb⟩ := cs_dish (d := d) hI hO a c
  unfold tAns at r
  by_cases z : (rDish B a.toInt c.toInt).1 = 0
  · rw [if_pos z] at r
    rw [z]
    exact ⟨mPL h1 141 0 (zI (rDish B a.toInt c.toInt).2).toInt64, q1, vc_L_dish (Or.inl ⟨_, _, r, in01, rfl⟩), fun _ => hL_same _ _ _ _, by omega, IC_pl I1 _ _, fC_pl f1 _ _, qa, qb⟩
  · rw [if_neg z] at r
    rcases e01 with e1 | e1
    · exact absurd e1 z
    · exact ⟨h1, q1, vc_L_dish (Or.inr ⟨_, _, r, by rw [e1]; exact rfl⟩), fun y => absurd y z, by omega, I1, f1, qa, qb⟩
theorem w_poison {d : Nat} {h : mHp} {b : Nat} {n : Int} {g : Int → Int32} {B : tB} {E : tE} {k : Int} {C : tC} {i : Int} {E' : tE} {C' : tC} {r0 r1 r2 p q : Int} (hI : IC h b n g B E k C i E' C' r0 r1 r2 p q) (hO : IO n B E k C i E' C') (a c : Int32) : ∃ h' q', mRuns (d + 21) 191 0 [some (.ref 0), some (.int a), some (.int c), some (.ref 141), none] [] h (.inl (some (.int (zI (rPois B a.toInt c.toInt).1)), h')) ∧ ((rPois B a.toInt c.toInt).1 = 0 → h'.2.1 141 0 = (zI (rPois B a.toInt c.toInt).2).toInt64) ∧ (0 ≤ (rPois B a.toInt c.toInt).1 ∧ (rPois B a.toInt c.toInt).1 ≤ 2) ∧ IC h' b n g B E k C i E' C' r0 r1 r2 p q' ∧ fC h h' ∧ q ≤ q' ∧ q' ≤ q + 384 := by
  have e01 : (rPois B a.toInt c.toInt).1 = 0 ∨ (rPois B a.toInt c.toInt).1 = 1 := by
    unfold rPois
    repeat' split
    all_goals simp
  obtain ⟨h1, q1, r, I1, f1, qa, qb⟩ := cs_poison (d := d) hI hO a c
  unfold tAns at r
  by_cases z : (rPois B a.toInt c.toInt).1 = 0
  · rw [if_pos z] at r
    rw [z]
    exact ⟨mPL h1 141 0 (zI (rPois B a.toInt c.toInt).2).toInt64, q1, vc_L_poison (Or.inl ⟨_, _, r, in01, rfl⟩), fun _ => hL_same _ _ _ _, by omega, IC_pl I1 _ _, fC_pl f1 _ _, qa, qb⟩
  · rw [if_neg z] at r
    rcases e01 with e1 | e1
    · exact absurd e1 z
    · exact ⟨h1, q1, vc_L_poison (Or.inr ⟨_, _, r, by rw [e1]; exact rfl⟩), fun y => absurd y z, by omega, I1, f1, qa, qb⟩
theorem w_taster {d : Nat} {h : mHp} {b : Nat} {n : Int} {g : Int → Int32} {B : tB} {E : tE} {k : Int} {C : tC} {i : Int} {E' : tE} {C' : tC} {r0 r1 r2 p q : Int} (hI : IC h b n g B E k C i E' C' r0 r1 r2 p q) (hO : IO n B E k C i E' C') (a c : Int32) : ∃ h' q', mRuns (d + 21) 192 0 [some (.ref 0), some (.int a), some (.int c), some (.ref 141), none] [] h (.inl (some (.int (zI (rTast B E a.toInt c.toInt).1)), h')) ∧ ((rTast B E a.toInt c.toInt).1 = 0 → h'.2.1 141 0 = (zI (rTast B E a.toInt c.toInt).2).toInt64) ∧ (0 ≤ (rTast B E a.toInt c.toInt).1 ∧ (rTast B E a.toInt c.toInt).1 ≤ 2) ∧ IC h' b n g B E k C i E' C' r0 r1 r2 p q' ∧ fC h h' ∧ q ≤ q' ∧ q' ≤ q + 384 := by
  have e01 : (rTast B E a.toInt c.toInt).1 = 0 ∨ (rTast B E a.toInt c.toInt).1 = 1 := by
    unfold rTast
    repeat' split
    all_goals simp
  obtain ⟨h1, q1, r, I1, f1, qa, qb⟩ := cs_taster (d := d) hI hO a c
  unfold tAns at r
  by_cases z : (rTast B E a.toInt c.toInt).1 = 0
  · rw [if_pos z] at r
    rw [z]
    exact ⟨mPL h1 141 0 (zI (rTast B E a.toInt c.toInt).2).toInt64, q1, vc_L_taster (Or.inl ⟨_, _, r, in01, rfl⟩), fun _ => hL_same _ _ _ _, by omega, IC_pl I1 _ _, fC_pl f1 _ _, qa, qb⟩
  · rw [if_neg z] at r
    rcases e01 with e1 | e1
    · exact absurd e1 z
    · exact ⟨h1, q1, vc_L_taster (Or.inr ⟨_, _, r, by rw [e1]; exact rfl⟩), fun y => absurd y z, by omega, I1, f1, qa, qb⟩
theorem w_shows {d : Nat} {h : mHp} {b : Nat} {n : Int} {g : Int → Int32} {B : tB} {E : tE} {k : Int} {C : tC} {i : Int} {E' : tE} {C' : tC} {r0 r1 r2 p q : Int} (hI : IC h b n g B E k C i E' C' r0 r1 r2 p q) (hO : IO n B E k C i E' C') (a c : Int32) {w : Int} (w0 : 0 ≤ w) (w1 : w ≤ 1) : ∃ h' q', mRuns (d + 21) 193 0 [some (.ref 0), some (.int a), some (.int c), some (.int (zI w)), some (.ref 141), none] [] h (.inl (some (.int (zI (rShow B a.toInt c.toInt w).1)), h')) ∧ ((rShow B a.toInt c.toInt w).1 = 0 → h'.2.1 141 0 = (zI (rShow B a.toInt c.toInt w).2).toInt64) ∧ (0 ≤ (rShow B a.toInt c.toInt w).1 ∧ (rShow B a.toInt c.toInt w).1 ≤ 2) ∧ IC h' b n g B E k C i E' C' r0 r1 r2 p q' ∧ fC h h' ∧ q ≤ q' ∧ q' ≤ q + 384 := by
  have e01 : (rShow B a.toInt c.toInt w).1 = 0 ∨ (rShow B a.toInt c.toInt w).1 = 1 := by
    unfold rShow
    repeat' split
    all_goals simp
  obtain ⟨h1, q1, r, I1, f1, qa, qb⟩ := cs_shows (d := d) hI hO a c w0 w1
  unfold tAns at r
  by_cases z : (rShow B a.toInt c.toInt w).1 = 0
  · rw [if_pos z] at r
    rw [z]
    exact ⟨mPL h1 141 0 (zI (rShow B a.toInt c.toInt w).2).toInt64, q1, vc_L_shows (Or.inl ⟨_, _, r, in01, rfl⟩), fun _ => hL_same _ _ _ _, by omega, IC_pl I1 _ _, fC_pl f1 _ _, qa, qb⟩
  · rw [if_neg z] at r
    rcases e01 with e1 | e1
    · exact absurd e1 z
    · exact ⟨h1, q1, vc_L_shows (Or.inr ⟨_, _, r, by rw [e1]; exact rfl⟩), fun y => absurd y z, by omega, I1, f1, qa, qb⟩
theorem w_plan {d : Nat} {h : mHp} {b : Nat} {n : Int} {g : Int → Int32} {B : tB} {E : tE} {k : Int} {C : tC} {i : Int} {E' : tE} {C' : tC} {r0 r1 r2 p q : Int} (hI : IC h b n g B E k C i E' C' r0 r1 r2 p q) (hO : IO n B E k C i E' C') (hq : q + 400 < 1000000) (a c : Int32) : ∃ h' q', mRuns (d + 21) 194 0 [some (.ref 0), some (.int a), some (.int c), some (.ref 141), none] [] h (.inl (some (.int (zI (rPlan B a.toInt c.toInt).1)), h')) ∧ ((rPlan B a.toInt c.toInt).1 = 0 → h'.2.1 141 0 = (zI (rPlan B a.toInt c.toInt).2).toInt64) ∧ (0 ≤ (rPlan B a.toInt c.toInt).1 ∧ (rPlan B a.toInt c.toInt).1 ≤ 2) ∧ IC h' b n g B E (kPlan B k a.toInt c.toInt) C i E' C' r0 r1 r2 p q' ∧ fC h h' ∧ q ≤ q' ∧ q' ≤ q + 384 := by
  have e01 : (rPlan B a.toInt c.toInt).1 = 0 ∨ (rPlan B a.toInt c.toInt).1 = 1 ∨ (rPlan B a.toInt c.toInt).1 = 2 := by
    unfold rPlan
    repeat' split
    all_goals simp
  obtain ⟨h1, q1, r, I1, f1, qa, qb⟩ := cs_plan (d := d) hI hO hq a c
  unfold tAns at r
  by_cases z : (rPlan B a.toInt c.toInt).1 = 0
  · rw [if_pos z] at r
    rw [z]
    exact ⟨mPL h1 141 0 (zI (rPlan B a.toInt c.toInt).2).toInt64, q1, vc_L_plan (Or.inl ⟨_, _, r, in01, rfl⟩), fun _ => hL_same _ _ _ _, by omega, IC_pl I1 _ _, fC_pl f1 _ _, qa, qb⟩
  · rw [if_neg z] at r
    rcases e01 with e1 | e1 | e1
    · exact absurd e1 z
    · rw [if_pos e1] at r
      exact ⟨h1, q1, vc_L_plan (Or.inr ⟨_, _, r, by rw [e1]; exact rfl⟩), fun y => absurd y z, by omega, I1, f1, qa, qb⟩
    · rw [if_neg (by omega)] at r
      exact ⟨h1, q1, vc_L_plan (Or.inr ⟨_, _, r, by rw [e1]; exact rfl⟩), fun y => absurd y z, by omega, I1, f1, qa, qb⟩
theorem w_planned {d : Nat} {h : mHp} {b : Nat} {n : Int} {g : Int → Int32} {B : tB} {E : tE} {k : Int} {C : tC} {i : Int} {E' : tE} {C' : tC} {r0 r1 r2 p q : Int} (hI : IC h b n g B E k C i E' C' r0 r1 r2 p q) (hO : IO n B E k C i E' C') (hq : q + 400 < 1000000) (a c : Int32) : ∃ h' q', mRuns (d + 21) 195 0 [some (.ref 0), some (.int a), some (.int c), some (.ref 141), none] [] h (.inl (some (.int (zI (rPlanned B k a.toInt c.toInt).1)), h')) ∧ ((rPlanned B k a.toInt c.toInt).1 = 0 → h'.2.1 141 0 = (zI (rPlanned B k a.toInt c.toInt).2).toInt64) ∧ (0 ≤ (rPlanned B k a.toInt c.toInt).1 ∧ (rPlanned B k a.toInt c.toInt).1 ≤ 2) ∧ IC h' b n g B E k C i E' C' r0 r1 r2 p q' ∧ fC h h' ∧ q ≤ q' ∧ q' ≤ q + 384 := by
  have e01 : (rPlanned B k a.toInt c.toInt).1 = 0 ∨ (rPlanned B k a.toInt c.toInt).1 = 1 := by
    unfold rPlanned
    repeat' split
    all_goals simp
  obtain ⟨h1, q1, r, I1, f1, qa, qb⟩ := cs_planned (d := d) hI hO hq a c
  unfold tAns at r
  by_cases z : (rPlanned B k a.toInt c.toInt).1 = 0
  · rw [if_pos z] at r
    rw [z]
    exact ⟨mPL h1 141 0 (zI (rPlanned B k a.toInt c.toInt).2).toInt64, q1, vc_L_planned (Or.inl ⟨_, _, r, in01, rfl⟩), fun _ => hL_same _ _ _ _, by omega, IC_pl I1 _ _, fC_pl f1 _ _, qa, qb⟩
  · rw [if_neg z] at r
    rcases e01 with e1 | e1
    · exact absurd e1 z
    · exact ⟨h1, q1, vc_L_planned (Or.inr ⟨_, _, r, by rw [e1]; exact rfl⟩), fun y => absurd y z, by omega, I1, f1, qa, qb⟩
theorem w_bars {d : Nat} {h : mHp} {b : Nat} {n : Int} {g : Int → Int32} {B : tB} {E : tE} {k : Int} {C : tC} {i : Int} {E' : tE} {C' : tC} {r0 r1 r2 p q : Int} (hI : IC h b n g B E k C i E' C' r0 r1 r2 p q) (hO : IO n B E k C i E' C') (hq : q + 400 < 1000000) (a : Int32) : ∃ h' q', mRuns (d + 21) 196 0 [some (.ref 0), some (.int a), some (.ref 141), none] [] h (.inl (some (.int (zI (rBars B a.toInt).1)), h')) ∧ ((rBars B a.toInt).1 = 0 → h'.2.1 141 0 = (zI (rBars B a.toInt).2).toInt64) ∧ (0 ≤ (rBars B a.toInt).1 ∧ (rBars B a.toInt).1 ≤ 2) ∧ IC h' b n g B E k C i E' C' r0 r1 r2 p q' ∧ fC h h' ∧ q ≤ q' ∧ q' ≤ q + 384 := by
  have e01 : (rBars B a.toInt).1 = 0 ∨ (rBars B a.toInt).1 = 1 := by
    unfold rBars
    repeat' split
    all_goals simp
  obtain ⟨h1, q1, r, I1, f1, qa, qb⟩ := cs_bars (d := d) hI hO hq a
  unfold tAns at r
  by_cases z : (rBars B a.toInt).1 = 0
  · rw [if_pos z] at r
    rw [z]
    exact ⟨mPL h1 141 0 (zI (rBars B a.toInt).2).toInt64, q1, vc_L_bars (Or.inl ⟨_, _, r, in01, rfl⟩), fun _ => hL_same _ _ _ _, by omega, IC_pl I1 _ _, fC_pl f1 _ _, qa, qb⟩
  · rw [if_neg z] at r
    rcases e01 with e1 | e1
    · exact absurd e1 z
    · exact ⟨h1, q1, vc_L_bars (Or.inr ⟨_, _, r, by rw [e1]; exact rfl⟩), fun y => absurd y z, by omega, I1, f1, qa, qb⟩
theorem w_worth {d : Nat} {h : mHp} {b : Nat} {n : Int} {g : Int → Int32} {B : tB} {E : tE} {k : Int} {C : tC} {i : Int} {E' : tE} {C' : tC} {r0 r1 r2 p q : Int} (hI : IC h b n g B E k C i E' C' r0 r1 r2 p q) (hO : IO n B E k C i E' C') (hq : q + 400 < 1000000) (a c : Int32) : ∃ h' q', mRuns (d + 21) 197 0 [some (.ref 0), some (.int a), some (.int c), some (.ref 141), none] [] h (.inl (some (.int (zI (rWorth B a.toInt c.toInt).1)), h')) ∧ ((rWorth B a.toInt c.toInt).1 = 0 → h'.2.1 141 0 = (zI (rWorth B a.toInt c.toInt).2).toInt64) ∧ (0 ≤ (rWorth B a.toInt c.toInt).1 ∧ (rWorth B a.toInt c.toInt).1 ≤ 2) ∧ IC h' b n g B E k C i E' C' r0 r1 r2 p q' ∧ fC h h' ∧ q ≤ q' ∧ q' ≤ q + 384 := by
  have e01 : (rWorth B a.toInt c.toInt).1 = 0 ∨ (rWorth B a.toInt c.toInt).1 = 1 ∨ (rWorth B a.toInt c.toInt).1 = 2 := by
    unfold rWorth
    repeat' split
    all_goals simp
  obtain ⟨h1, q1, r, I1, f1, qa, qb⟩ := cs_worth (d := d) hI hO hq a c
  unfold tAns at r
  by_cases z : (rWorth B a.toInt c.toInt).1 = 0
  · rw [if_pos z] at r
    rw [z]
    exact ⟨mPL h1 141 0 (zI (rWorth B a.toInt c.toInt).2).toInt64, q1, vc_L_worth (Or.inl ⟨_, _, r, in01, rfl⟩), fun _ => hL_same _ _ _ _, by omega, IC_pl I1 _ _, fC_pl f1 _ _, qa, qb⟩
  · rw [if_neg z] at r
    rcases e01 with e1 | e1 | e1
    · exact absurd e1 z
    · rw [if_pos e1] at r
      exact ⟨h1, q1, vc_L_worth (Or.inr ⟨_, _, r, by rw [e1]; exact rfl⟩), fun y => absurd y z, by omega, I1, f1, qa, qb⟩
    · rw [if_neg (by omega)] at r
      exact ⟨h1, q1, vc_L_worth (Or.inr ⟨_, _, r, by rw [e1]; exact rfl⟩), fun y => absurd y z, by omega, I1, f1, qa, qb⟩
theorem w_ate {d : Nat} {h : mHp} {b : Nat} {n : Int} {g : Int → Int32} {B : tB} {E : tE} {k : Int} {C : tC} {i : Int} {E' : tE} {C' : tC} {r0 r1 r2 p q : Int} (hI : IC h b n g B E k C i E' C' r0 r1 r2 p q) (hO : IO n B E k C i E' C') (a c e : Int32) {w : Int} (w0 : 0 ≤ w) (w1 : w ≤ 1) : ∃ h' q', mRuns (d + 21) 198 0 [some (.ref 0), some (.int a), some (.int c), some (.int e), some (.int (zI w)), some (.ref 141), none] [] h (.inl (some (.int (zI (rAte B E a.toInt c.toInt e.toInt).1)), h')) ∧ ((rAte B E a.toInt c.toInt e.toInt).1 = 0 → h'.2.1 141 0 = (zI (rAte B E a.toInt c.toInt e.toInt).2).toInt64) ∧ (0 ≤ (rAte B E a.toInt c.toInt e.toInt).1 ∧ (rAte B E a.toInt c.toInt e.toInt).1 ≤ 2) ∧ IC h' b n g B (eAte B E a.toInt c.toInt e.toInt w) k C i E' C' r0 (nAte B E a.toInt c.toInt e.toInt r1) r2 p q' ∧ fC h h' ∧ q ≤ q' ∧ q' ≤ q + 384 := by
  have e01 : (rAte B E a.toInt c.toInt e.toInt).1 = 0 ∨ (rAte B E a.toInt c.toInt e.toInt).1 = 1 := by
    unfold rAte
    repeat' split
    all_goals simp
  obtain ⟨h1, q1, r, I1, f1, qa, qb⟩ := cs_ate (d := d) hI hO a c e w0 w1
  unfold tAns at r
  by_cases z : (rAte B E a.toInt c.toInt e.toInt).1 = 0
  · rw [if_pos z] at r
    rw [z]
    exact ⟨mPL h1 141 0 (zI (rAte B E a.toInt c.toInt e.toInt).2).toInt64, q1, vc_L_ate (Or.inl ⟨_, _, r, in01, rfl⟩), fun _ => hL_same _ _ _ _, by omega, IC_pl I1 _ _, fC_pl f1 _ _, qa, qb⟩
  · rw [if_neg z] at r
    rcases e01 with e1 | e1
    · exact absurd e1 z
    · exact ⟨h1, q1, vc_L_ate (Or.inr ⟨_, _, r, by rw [e1]; exact rfl⟩), fun y => absurd y z, by omega, I1, f1, qa, qb⟩
theorem w_fell {d : Nat} {h : mHp} {b : Nat} {n : Int} {g : Int → Int32} {B : tB} {E : tE} {k : Int} {C : tC} {i : Int} {E' : tE} {C' : tC} {r0 r1 r2 p q : Int} (hI : IC h b n g B E k C i E' C' r0 r1 r2 p q) (hO : IO n B E k C i E' C') (a c : Int32) : ∃ h' q', mRuns (d + 21) 199 0 [some (.ref 0), some (.int a), some (.int c), some (.ref 141), none] [] h (.inl (some (.int (zI (rFall B E a.toInt c.toInt).1)), h')) ∧ ((rFall B E a.toInt c.toInt).1 = 0 → h'.2.1 141 0 = (zI (rFall B E a.toInt c.toInt).2).toInt64) ∧ (0 ≤ (rFall B E a.toInt c.toInt).1 ∧ (rFall B E a.toInt c.toInt).1 ≤ 2) ∧ IC h' b n g B (eFall B E a.toInt c.toInt) k C i E' C' r0 (nFall B E a.toInt c.toInt r1) r2 p q' ∧ fC h h' ∧ q ≤ q' ∧ q' ≤ q + 384 := by
  have e01 : (rFall B E a.toInt c.toInt).1 = 0 ∨ (rFall B E a.toInt c.toInt).1 = 1 := by
    unfold rFall
    repeat' split
    all_goals simp
  obtain ⟨h1, q1, r, I1, f1, qa, qb⟩ := cs_fell (d := d) hI hO a c
  unfold tAns at r
  by_cases z : (rFall B E a.toInt c.toInt).1 = 0
  · rw [if_pos z] at r
    rw [z]
    exact ⟨mPL h1 141 0 (zI (rFall B E a.toInt c.toInt).2).toInt64, q1, vc_L_fell (Or.inl ⟨_, _, r, in01, rfl⟩), fun _ => hL_same _ _ _ _, by omega, IC_pl I1 _ _, fC_pl f1 _ _, qa, qb⟩
  · rw [if_neg z] at r
    rcases e01 with e1 | e1
    · exact absurd e1 z
    · exact ⟨h1, q1, vc_L_fell (Or.inr ⟨_, _, r, by rw [e1]; exact rfl⟩), fun y => absurd y z, by omega, I1, f1, qa, qb⟩
theorem w_cases {d : Nat} {h : mHp} {b : Nat} {n : Int} {g : Int → Int32} {B : tB} {E : tE} {k : Int} {C : tC} {i : Int} {E' : tE} {C' : tC} {r0 r1 r2 p q : Int} (hI : IC h b n g B E k C i E' C' r0 r1 r2 p q) (hO : IO n B E k C i E' C') (a : Int32) : ∃ h' q', mRuns (d + 21) 200 0 [some (.ref 0), some (.int a), some (.ref 141), none] [] h (.inl (some (.int (zI (rCases B E a.toInt).1)), h')) ∧ ((rCases B E a.toInt).1 = 0 → h'.2.1 141 0 = (zI (rCases B E a.toInt).2).toInt64) ∧ (0 ≤ (rCases B E a.toInt).1 ∧ (rCases B E a.toInt).1 ≤ 2) ∧ IC h' b n g B E k C i E' C' r0 r1 r2 p q' ∧ fC h h' ∧ q ≤ q' ∧ q' ≤ q + 384 := by
  have e01 : (rCases B E a.toInt).1 = 0 ∨ (rCases B E a.toInt).1 = 1 := by
    unfold rCases
    repeat' split
    all_goals simp
  obtain ⟨h1, q1, r, I1, f1, qa, qb⟩ := cs_cases (d := d) hI hO a
  unfold tAns at r
  by_cases z : (rCases B E a.toInt).1 = 0
  · rw [if_pos z] at r
    rw [z]
    exact ⟨mPL h1 141 0 (zI (rCases B E a.toInt).2).toInt64, q1, vc_L_cases (Or.inl ⟨_, _, r, in01, rfl⟩), fun _ => hL_same _ _ _ _, by omega, IC_pl I1 _ _, fC_pl f1 _ _, qa, qb⟩
  · rw [if_neg z] at r
    rcases e01 with e1 | e1
    · exact absurd e1 z
    · exact ⟨h1, q1, vc_L_cases (Or.inr ⟨_, _, r, by rw [e1]; exact rfl⟩), fun y => absurd y z, by omega, I1, f1, qa, qb⟩
theorem w_odds {d : Nat} {h : mHp} {b : Nat} {n : Int} {g : Int → Int32} {B : tB} {E : tE} {k : Int} {C : tC} {i : Int} {E' : tE} {C' : tC} {r0 r1 r2 p q : Int} (hI : IC h b n g B E k C i E' C' r0 r1 r2 p q) (hO : IO n B E k C i E' C') (a c : Int32) : ∃ h' q', mRuns (d + 21) 201 0 [some (.ref 0), some (.int a), some (.int c), some (.ref 141), none] [] h (.inl (some (.int (zI (rOdds B E a.toInt c.toInt).1)), h')) ∧ ((rOdds B E a.toInt c.toInt).1 = 0 → h'.2.1 141 0 = (zI (rOdds B E a.toInt c.toInt).2).toInt64) ∧ (0 ≤ (rOdds B E a.toInt c.toInt).1 ∧ (rOdds B E a.toInt c.toInt).1 ≤ 2) ∧ IC h' b n g B E k C i E' C' r0 r1 r2 p q' ∧ fC h h' ∧ q ≤ q' ∧ q' ≤ q + 384 := by
  have e01 : (rOdds B E a.toInt c.toInt).1 = 0 ∨ (rOdds B E a.toInt c.toInt).1 = 1 := by
    unfold rOdds
    repeat' split
    all_goals simp
  obtain ⟨h1, q1, r, I1, f1, qa, qb⟩ := cs_odds (d := d) hI hO a c
  unfold tAns at r
  by_cases z : (rOdds B E a.toInt c.toInt).1 = 0
  · rw [if_pos z] at r
    rw [z]
    exact ⟨mPL h1 141 0 (zI (rOdds B E a.toInt c.toInt).2).toInt64, q1, vc_L_odds (Or.inl ⟨_, _, r, in01, rfl⟩), fun _ => hL_same _ _ _ _, by omega, IC_pl I1 _ _, fC_pl f1 _ _, qa, qb⟩
  · rw [if_neg z] at r
    rcases e01 with e1 | e1
    · exact absurd e1 z
    · exact ⟨h1, q1, vc_L_odds (Or.inr ⟨_, _, r, by rw [e1]; exact rfl⟩), fun y => absurd y z, by omega, I1, f1, qa, qb⟩
theorem w_next {d : Nat} {h : mHp} {b : Nat} {n : Int} {g : Int → Int32} {B : tB} {E : tE} {k : Int} {C : tC} {i : Int} {E' : tE} {C' : tC} {r0 r1 r2 p q : Int} (hI : IC h b n g B E k C i E' C' r0 r1 r2 p q) (hO : IO n B E k C i E' C') (a : Int32) : ∃ h' q', mRuns (d + 21) 202 0 [some (.ref 0), some (.int a), some (.ref 141), none] [] h (.inl (some (.int (zI (rNext B E a.toInt).1)), h')) ∧ ((rNext B E a.toInt).1 = 0 → h'.2.1 141 0 = (zI (rNext B E a.toInt).2).toInt64) ∧ (0 ≤ (rNext B E a.toInt).1 ∧ (rNext B E a.toInt).1 ≤ 2) ∧ IC h' b n g B E k C i E' C' r0 r1 r2 p q' ∧ fC h h' ∧ q ≤ q' ∧ q' ≤ q + 384 := by
  have e01 : (rNext B E a.toInt).1 = 0 ∨ (rNext B E a.toInt).1 = 1 := by
    unfold rNext
    repeat' split
    all_goals simp
  obtain ⟨h1, q1, r, I1, f1, qa, qb⟩ := cs_next (d := d) hI hO a
  unfold tAns at r
  by_cases z : (rNext B E a.toInt).1 = 0
  · rw [if_pos z] at r
    rw [z]
    exact ⟨mPL h1 141 0 (zI (rNext B E a.toInt).2).toInt64, q1, vc_L_next (Or.inl ⟨_, _, r, in01, rfl⟩), fun _ => hL_same _ _ _ _, by omega, IC_pl I1 _ _, fC_pl f1 _ _, qa, qb⟩
  · rw [if_neg z] at r
    rcases e01 with e1 | e1
    · exact absurd e1 z
    · exact ⟨h1, q1, vc_L_next (Or.inr ⟨_, _, r, by rw [e1]; exact rfl⟩), fun y => absurd y z, by omega, I1, f1, qa, qb⟩
theorem w_waiting {d : Nat} {h : mHp} {b : Nat} {n : Int} {g : Int → Int32} {B : tB} {E : tE} {k : Int} {C : tC} {i : Int} {E' : tE} {C' : tC} {r0 r1 r2 p q : Int} (hI : IC h b n g B E k C i E' C' r0 r1 r2 p q) (hO : IO n B E k C i E' C') (a : Int32) : ∃ h' q', mRuns (d + 21) 203 0 [some (.ref 0), some (.int a), some (.ref 141), none] [] h (.inl (some (.int (zI (rWaiting B E a.toInt).1)), h')) ∧ ((rWaiting B E a.toInt).1 = 0 → h'.2.1 141 0 = (zI (rWaiting B E a.toInt).2).toInt64) ∧ (0 ≤ (rWaiting B E a.toInt).1 ∧ (rWaiting B E a.toInt).1 ≤ 2) ∧ IC h' b n g B E k C i E' C' r0 r1 r2 p q' ∧ fC h h' ∧ q ≤ q' ∧ q' ≤ q + 384 := by
  have e01 : (rWaiting B E a.toInt).1 = 0 ∨ (rWaiting B E a.toInt).1 = 1 := by
    unfold rWaiting
    repeat' split
    all_goals simp
  obtain ⟨h1, q1, r, I1, f1, qa, qb⟩ := cs_waiting (d := d) hI hO a
  unfold tAns at r
  by_cases z : (rWaiting B E a.toInt).1 = 0
  · rw [if_pos z] at r
    rw [z]
    exact ⟨mPL h1 141 0 (zI (rWaiting B E a.toInt).2).toInt64, q1, vc_L_waiting (Or.inl ⟨_, _, r, in01, rfl⟩), fun _ => hL_same _ _ _ _, by omega, IC_pl I1 _ _, fC_pl f1 _ _, qa, qb⟩
  · rw [if_neg z] at r
    rcases e01 with e1 | e1
    · exact absurd e1 z
    · exact ⟨h1, q1, vc_L_waiting (Or.inr ⟨_, _, r, by rw [e1]; exact rfl⟩), fun y => absurd y z, by omega, I1, f1, qa, qb⟩
theorem w_trial {d : Nat} {h : mHp} {b : Nat} {n : Int} {g : Int → Int32} {B : tB} {E : tE} {k : Int} {C : tC} {i : Int} {E' : tE} {C' : tC} {r0 r1 r2 p q : Int} (hI : IC h b n g B E k C i E' C' r0 r1 r2 p q) (hO : IO n B E k C i E' C') (a c e u x : Int32) : ∃ h' q', mRuns (d + 21) 204 0 [some (.ref 0), some (.int a), some (.int c), some (.int e), some (.int u), some (.int x), some (.ref 141), none] [] h (.inl (some (.int (zI (rTrial a.toInt c.toInt e.toInt u.toInt x.toInt).1)), h')) ∧ ((rTrial a.toInt c.toInt e.toInt u.toInt x.toInt).1 = 0 → h'.2.1 141 0 = (zI (rTrial a.toInt c.toInt e.toInt u.toInt x.toInt).2).toInt64) ∧ (0 ≤ (rTrial a.toInt c.toInt e.toInt u.toInt x.toInt).1 ∧ (rTrial a.toInt c.toInt e.toInt u.toInt x.toInt).1 ≤ 2) ∧ IC h' b n g B E k C i E' C' r0 r1 r2 p q' ∧ fC h h' ∧ q ≤ q' ∧ q' ≤ q + 384 := by
  have e01 : (rTrial a.toInt c.toInt e.toInt u.toInt x.toInt).1 = 0 ∨ (rTrial a.toInt c.toInt e.toInt u.toInt x.toInt).1 = 1 ∨ (rTrial a.toInt c.toInt e.toInt u.toInt x.toInt).1 = 2 := by
    unfold rTrial
    repeat' split
    all_goals simp
  obtain ⟨h1, q1, r, I1, f1, qa, qb⟩ := cs_trial (d := d) hI hO a c e u x
  unfold tAns at r
  by_cases z : (rTrial a.toInt c.toInt e.toInt u.toInt x.toInt).1 = 0
  · rw [if_pos z] at r
    rw [z]
    exact ⟨mPL h1 141 0 (zI (rTrial a.toInt c.toInt e.toInt u.toInt x.toInt).2).toInt64, q1, vc_L_trial (Or.inl ⟨_, _, r, in01, rfl⟩), fun _ => hL_same _ _ _ _, by omega, IC_pl I1 _ _, fC_pl f1 _ _, qa, qb⟩
  · rw [if_neg z] at r
    rcases e01 with e1 | e1 | e1
    · exact absurd e1 z
    · rw [if_pos e1] at r
      exact ⟨h1, q1, vc_L_trial (Or.inr ⟨_, _, r, by rw [e1]; exact rfl⟩), fun y => absurd y z, by omega, I1, f1, qa, qb⟩
    · rw [if_neg (by omega)] at r
      exact ⟨h1, q1, vc_L_trial (Or.inr ⟨_, _, r, by rw [e1]; exact rfl⟩), fun y => absurd y z, by omega, I1, f1, qa, qb⟩
theorem w_begin {d : Nat} {h : mHp} {b : Nat} {n : Int} {g : Int → Int32} {B : tB} {E : tE} {k : Int} {C : tC} {i : Int} {E' : tE} {C' : tC} {r0 r1 r2 p q : Int} (hI : IC h b n g B E k C i E' C' r0 r1 r2 p q) (hO : IO n B E k C i E' C') (hq : q + 400 < 1000000) (s a c : Int32) : ∃ h' q', mRuns (d + 21) 205 0 [some (.ref 0), some (.int s), some (.int a), some (.int c), some (.ref 141), none] [] h (.inl (some (.int (zI (rBegin B a.toInt c.toInt).1)), h')) ∧ ((rBegin B a.toInt c.toInt).1 = 0 → ((rBegin B a.toInt c.toInt).2 = 0 ∧ h'.2.1 141 0 = lN 0) ∨ ((rBegin B a.toInt c.toInt).2 = 1 ∧ h'.2.1 141 0 = lN 1)) ∧ (0 ≤ (rBegin B a.toInt c.toInt).1 ∧ (rBegin B a.toInt c.toInt).1 ≤ 2) ∧ IC h' b n g B E k (cBegin B C s a.toInt c.toInt) i E' C' r0 r1 (nBegin B a.toInt c.toInt r2) p q' ∧ fC h h' ∧ q ≤ q' ∧ q' ≤ q + 384 := by
  have e01 : (rBegin B a.toInt c.toInt).1 = 0 ∨ (rBegin B a.toInt c.toInt).1 = 1 := by
    unfold rBegin
    repeat' split
    all_goals simp
  obtain ⟨h1, q1, r, I1, f1, qa, qb⟩ := cs_begin (d := d) hI hO hq s a c
  unfold tAns at r
  by_cases z : (rBegin B a.toInt c.toInt).1 = 0
  · rw [if_pos z] at r
    have e2 : (rBegin B a.toInt c.toInt).2 = 0 ∨ (rBegin B a.toInt c.toInt).2 = 1 := by
      unfold rBegin
      split
      · exact fPl_01 B a.toInt (-1)
      · exact Or.inl rfl
    rw [z]
    rcases e2 with e2 | e2
    · rw [e2] at r
      refine ⟨mPL h1 141 0 (lN 0), q1, vc_L_begin (Or.inl ⟨_, _, r, fun y => ?_, fun y => ?_⟩), fun _ => Or.inl ⟨e2, hL_same _ _ _ _⟩, by omega, IC_pl I1 _ _, fC_pl f1 _ _, qa, qb⟩
      · exact ⟨in01, rfl⟩
      · exact absurd rfl y
    · rw [e2] at r
      refine ⟨mPL h1 141 0 (lN 1), q1, vc_L_begin (Or.inl ⟨_, _, r, fun y => ?_, fun y => ?_⟩), fun _ => Or.inr ⟨e2, hL_same _ _ _ _⟩, by omega, IC_pl I1 _ _, fC_pl f1 _ _, qa, qb⟩
      · exact absurd y (by decide)
      · exact ⟨in01, rfl⟩
  · rw [if_neg z] at r
    rcases e01 with e1 | e1
    · exact absurd e1 z
    · exact ⟨h1, q1, vc_L_begin (Or.inr ⟨_, _, r, by rw [e1]; exact rfl⟩), fun y => absurd y z, by omega, I1, f1, qa, qb⟩
theorem w_on {d : Nat} {h : mHp} {b : Nat} {n : Int} {g : Int → Int32} {B : tB} {E : tE} {k : Int} {C : tC} {i : Int} {E' : tE} {C' : tC} {r0 r1 r2 p q : Int} (hI : IC h b n g B E k C i E' C' r0 r1 r2 p q) (hO : IO n B E k C i E' C') (hq : q + 400 < 1000000) (a : Int32) : ∃ h' q', mRuns (d + 21) 206 0 [some (.ref 0), some (.int a), some (.ref 141), none] [] h (.inl (some (.int (zI (rOn C a.toInt).1)), h')) ∧ ((rOn C a.toInt).1 = 0 → h'.2.1 141 0 = (zI (rOn C a.toInt).2).toInt64) ∧ (0 ≤ (rOn C a.toInt).1 ∧ (rOn C a.toInt).1 ≤ 2) ∧ IC h' b n g B E k (cOn B C a.toInt) i E' C' r0 r1 (nOn C a.toInt r2) p q' ∧ fC h h' ∧ q ≤ q' ∧ q' ≤ q + 384 := by
  have e01 : (rOn C a.toInt).1 = 0 ∨ (rOn C a.toInt).1 = 1 := by
    unfold rOn
    repeat' split
    all_goals simp
  obtain ⟨h1, q1, r, I1, f1, qa, qb⟩ := cs_on (d := d) hI hO hq a
  unfold tAns at r
  by_cases z : (rOn C a.toInt).1 = 0
  · rw [if_pos z] at r
    rw [z]
    exact ⟨mPL h1 141 0 (zI (rOn C a.toInt).2).toInt64, q1, vc_L_on (Or.inl ⟨_, _, r, in01, rfl⟩), fun _ => hL_same _ _ _ _, by omega, IC_pl I1 _ _, fC_pl f1 _ _, qa, qb⟩
  · rw [if_neg z] at r
    rcases e01 with e1 | e1
    · exact absurd e1 z
    · exact ⟨h1, q1, vc_L_on (Or.inr ⟨_, _, r, by rw [e1]; exact rfl⟩), fun y => absurd y z, by omega, I1, f1, qa, qb⟩
theorem w_day {d : Nat} {h : mHp} {b : Nat} {n : Int} {g : Int → Int32} {B : tB} {E : tE} {k : Int} {C : tC} {i : Int} {E' : tE} {C' : tC} {r0 r1 r2 p q : Int} (hI : IC h b n g B E k C i E' C' r0 r1 r2 p q) (hO : IO n B E k C i E' C') (a c : Int32) : ∃ h' q', mRuns (d + 21) 207 0 [some (.ref 0), some (.int a), some (.int c), some (.ref 141), none] [] h (.inl (some (.int (zI (rDay C a.toInt c.toInt).1)), h')) ∧ ((rDay C a.toInt c.toInt).1 = 0 → h'.2.1 141 0 = (zI (rDay C a.toInt c.toInt).2).toInt64) ∧ (0 ≤ (rDay C a.toInt c.toInt).1 ∧ (rDay C a.toInt c.toInt).1 ≤ 2) ∧ IC h' b n g B E k C i E' C' r0 r1 r2 p q' ∧ fC h h' ∧ q ≤ q' ∧ q' ≤ q + 384 := by
  have e01 : (rDay C a.toInt c.toInt).1 = 0 ∨ (rDay C a.toInt c.toInt).1 = 1 := by
    unfold rDay
    repeat' split
    all_goals simp
  obtain ⟨h1, q1, r, I1, f1, qa, qb⟩ := cs_day (d := d) hI hO a c
  unfold tAns at r
  by_cases z : (rDay C a.toInt c.toInt).1 = 0
  · rw [if_pos z] at r
    rw [z]
    exact ⟨mPL h1 141 0 (zI (rDay C a.toInt c.toInt).2).toInt64, q1, vc_L_day (Or.inl ⟨_, _, r, in01, rfl⟩), fun _ => hL_same _ _ _ _, by omega, IC_pl I1 _ _, fC_pl f1 _ _, qa, qb⟩
  · rw [if_neg z] at r
    rcases e01 with e1 | e1
    · exact absurd e1 z
    · exact ⟨h1, q1, vc_L_day (Or.inr ⟨_, _, r, by rw [e1]; exact rfl⟩), fun y => absurd y z, by omega, I1, f1, qa, qb⟩
theorem w_had {d : Nat} {h : mHp} {b : Nat} {n : Int} {g : Int → Int32} {B : tB} {E : tE} {k : Int} {C : tC} {i : Int} {E' : tE} {C' : tC} {r0 r1 r2 p q : Int} (hI : IC h b n g B E k C i E' C' r0 r1 r2 p q) (hO : IO n B E k C i E' C') (a c : Int32) : ∃ h' q', mRuns (d + 21) 208 0 [some (.ref 0), some (.int a), some (.int c), some (.ref 141), none] [] h (.inl (some (.int (zI (rHad B C a.toInt c.toInt).1)), h')) ∧ ((rHad B C a.toInt c.toInt).1 = 0 → h'.2.1 141 0 = (zI (rHad B C a.toInt c.toInt).2).toInt64) ∧ (0 ≤ (rHad B C a.toInt c.toInt).1 ∧ (rHad B C a.toInt c.toInt).1 ≤ 2) ∧ IC h' b n g B E k C i E' C' r0 r1 r2 p q' ∧ fC h h' ∧ q ≤ q' ∧ q' ≤ q + 384 := by
  have e01 : (rHad B C a.toInt c.toInt).1 = 0 ∨ (rHad B C a.toInt c.toInt).1 = 1 := by
    unfold rHad
    repeat' split
    all_goals simp
  obtain ⟨h1, q1, r, I1, f1, qa, qb⟩ := cs_had (d := d) hI hO a c
  unfold tAns at r
  by_cases z : (rHad B C a.toInt c.toInt).1 = 0
  · rw [if_pos z] at r
    rw [z]
    exact ⟨mPL h1 141 0 (zI (rHad B C a.toInt c.toInt).2).toInt64, q1, vc_L_had (Or.inl ⟨_, _, r, in01, rfl⟩), fun _ => hL_same _ _ _ _, by omega, IC_pl I1 _ _, fC_pl f1 _ _, qa, qb⟩
  · rw [if_neg z] at r
    rcases e01 with e1 | e1
    · exact absurd e1 z
    · exact ⟨h1, q1, vc_L_had (Or.inr ⟨_, _, r, by rw [e1]; exact rfl⟩), fun y => absurd y z, by omega, I1, f1, qa, qb⟩
theorem w_table_no {d : Nat} {h : mHp} {b : Nat} {n : Int} {g : Int → Int32} {B : tB} {E : tE} {k : Int} {C : tC} {i : Int} {E' : tE} {C' : tC} {r0 r1 r2 p q : Int} (hI : IC h b n g B E k C i E' C' r0 r1 r2 p q) (hO : IO n B E k C i E' C') (a : Int32) (c : ¬ (0 ≤ a.toInt ∧ a.toInt ≤ n)) : ∃ h' q', mRuns (d + 21) 188 0 [some (.ref 0), some (.int a), some (.ref 141), none] [] h (.inl (some (.int (zI ((1, 0) : Int × Int).1)), h')) ∧ (((1, 0) : Int × Int).1 = 0 → h'.2.1 141 0 = (zI ((1, 0) : Int × Int).2).toInt64) ∧ (0 ≤ ((1, 0) : Int × Int).1 ∧ ((1, 0) : Int × Int).1 ≤ 2) ∧ IC h' b n g B E k C i E' C' r0 r1 r2 p q' ∧ fC h h' ∧ q ≤ q' ∧ q' ≤ q + 384 := by
  obtain ⟨h1, q1, r, I1, f1, qa, qb⟩ := cs_table_no (d := d) hI hO a c
  exact ⟨h1, q1, vc_L_table (Or.inr ⟨_, _, r, rfl⟩), fun y => absurd y (show ¬ (1 : Int) = 0 by omega), ⟨by show (0:Int) ≤ 1; omega, by show (1:Int) ≤ 2; omega⟩, I1, f1, qa, qb⟩
theorem w_table_bad {d : Nat} {h : mHp} {b : Nat} {n : Int} {g : Int → Int32} {B : tB} {E : tE} {k : Int} {C : tC} {i : Int} {E' : tE} {C' : tC} {r0 r1 r2 p q : Int} (hI : IC h b n g B E k C i E' C' r0 r1 r2 p q) (hO : IO n B E k C i E' C') (a : Int32) (c : 0 ≤ a.toInt ∧ a.toInt ≤ n) (hF : rF (xAl (gU g) a.toInt).1 ≠ 0) : ∃ h' q', mRuns (d + 21) 188 0 [some (.ref 0), some (.int a), some (.ref 141), none] [] h (.inl (some (.int (zI ((0, rF (xAl (gU g) a.toInt).1) : Int × Int).1)), h')) ∧ (((0, rF (xAl (gU g) a.toInt).1) : Int × Int).1 = 0 → h'.2.1 141 0 = (zI ((0, rF (xAl (gU g) a.toInt).1) : Int × Int).2).toInt64) ∧ (0 ≤ ((0, rF (xAl (gU g) a.toInt).1) : Int × Int).1 ∧ ((0, rF (xAl (gU g) a.toInt).1) : Int × Int).1 ≤ 2) ∧ IC h' b 0 g B E k C i E' C' (r0 + 1) r1 r2 (rPl (xAl (gU g) a.toInt).1) q' ∧ fC h h' ∧ q ≤ q' ∧ q' ≤ q + 384 := by
  obtain ⟨h1, q1, r, I1, f1, qa, qb⟩ := cs_table_bad (d := d) hI hO a c hF
  exact ⟨mPL h1 141 0 (zI (rF (xAl (gU g) a.toInt).1)).toInt64, q1, vc_L_table (Or.inl ⟨_, _, r, in01, rfl⟩), fun _ => hL_same _ _ _ _, ⟨by show (0:Int) ≤ 0; omega, by show (0:Int) ≤ 2; omega⟩, IC_pl I1 _ _, fC_pl f1 _ _, qa, qb⟩
theorem w_table_ok {d : Nat} {h : mHp} {b : Nat} {n : Int} {g : Int → Int32} {B : tB} {E : tE} {k : Int} {C : tC} {i : Int} {E' : tE} {C' : tC} {r0 r1 r2 p q : Int} (hI : IC h b n g B E k C i E' C' r0 r1 r2 p q) (hO : IO n B E k C i E' C') (a : Int32) (c : 0 ≤ a.toInt ∧ a.toInt ≤ n) (hF : rF (xAl (gU g) a.toInt).1 = 0) : ∃ h' q', mRuns (d + 21) 188 0 [some (.ref 0), some (.int a), some (.ref 141), none] [] h (.inl (some (.int (zI ((0, 0) : Int × Int).1)), h')) ∧ (((0, 0) : Int × Int).1 = 0 → h'.2.1 141 0 = (zI ((0, 0) : Int × Int).2).toInt64) ∧ (0 ≤ ((0, 0) : Int × Int).1 ∧ ((0, 0) : Int × Int).1 ≤ 2) ∧ IC h' (13 - b) 0 g ((xAl (gU g) a.toInt).2.1) eNil (-1) (cEnd C) 0 E' C' r0 r1 r2 (-1) q' ∧ BOk (xAl (gU g) a.toInt).2.1 ∧ fC h h' ∧ q ≤ q' ∧ q' ≤ q + 384 := by
  obtain ⟨h1, q1, r, I1, OB, f1, qa, qb⟩ := cs_table_ok (d := d) hI hO a c hF
  exact ⟨mPL h1 141 0 (zI 0).toInt64, q1, vc_L_table (Or.inl ⟨_, _, r, in01, rfl⟩), fun _ => hL_same _ _ _ _, ⟨by show (0:Int) ≤ 0; omega, by show (0:Int) ≤ 2; omega⟩, IC_pl I1 _ _, OB, fC_pl f1 _ _, qa, qb⟩

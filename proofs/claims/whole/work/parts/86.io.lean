/-! L3, what is so of every state stays so -/
theorem io_plan {n : Int} {B : tB} {E : tE} {k : Int} {C : tC} {i : Int} {E' : tE} {C' : tC} (hO : IO n B E k C i E' C') (l x : Int) : IO n B E (kPlan B k l x) C i E' C' := by
  obtain ⟨o1, o2, o3, o4, o5, o6, o7, o8⟩ := hO
  refine ⟨o1, o2, o3, ?_, o5, o6, o7, o8⟩
  unfold kPlan
  split
  · rename_i u
    exact Or.inr ⟨u.2.1.1, u.2.1.2, u.2.2⟩
  · exact o4
theorem io_begin {n : Int} {B : tB} {E : tE} {k : Int} {C : tC} {i : Int} {E' : tE} {C' : tC} (hO : IO n B E k C i E' C') (s : Int32) (l x : Int) : IO n B E k (cBegin B C s l x) i E' C' := by
  obtain ⟨o1, o2, o3, o4, o5, o6, o7, o8⟩ := hO
  unfold cBegin
  split
  · rename_i u
    exact ⟨o1, o2, o3, o4, COk_open o2 C s u.1.1.1 u.1.1.2 u.1.2.1 u.1.2.2, fun _ => u.2, o7, o8⟩
  · exact ⟨o1, o2, o3, o4, o5, o6, o7, o8⟩
theorem io_on {n : Int} {B : tB} {E : tE} {k : Int} {C : tC} {i : Int} {E' : tE} {C' : tC} (hO : IO n B E k C i E' C') (x : Int) : IO n B E k (cOn B C x) i E' C' := by
  obtain ⟨o1, o2, o3, o4, o5, o6, o7, o8⟩ := hO
  by_cases u : (0 ≤ x ∧ x ≤ 100) ∧ cO C = 1 ∧ cN C + x ≤ 300
  · have e : cOn B C x = cDays B (onPs B C) (onPt B C) x.toNat C := if_pos u
    obtain ⟨c1, c2, c3, c4⟩ := COk_days (B := B) (ps := onPs B C) (pt := onPt B C) x.toNat C o5 u.2.1 (by omega)
    rw [e]
    exact ⟨o1, o2, o3, o4, c1, fun _ => by rw [c4]; exact o6 u.2.1, o7, o8⟩
  · have e : cOn B C x = C := if_neg u
    rw [e]
    exact ⟨o1, o2, o3, o4, o5, o6, o7, o8⟩
theorem io_ate {n : Int} {B : tB} {E : tE} {k : Int} {C : tC} {i : Int} {E' : tE} {C' : tC} (hO : IO n B E k C i E' C') (t q x : Int) {w : Int} (w0 : 0 ≤ w) (w1 : w ≤ 1) : IO n B (eAte B E t q x w) k C i E' C' := by
  obtain ⟨o1, o2, o3, o4, o5, o6, o7, o8⟩ := hO
  refine ⟨o1, o2, ?_, o4, o5, o6, o7, o8⟩
  unfold eAte
  split
  · rename_i u
    obtain ⟨⟨⟨u1, u2⟩, u3, u4⟩, u5, u6, u7⟩ := u
    exact EOk_add o3 u5 u1 u2 (by omega) u4 u6 u7 w0 w1 (fun z => by omega)
  · exact o3
theorem io_fell {n : Int} {B : tB} {E : tE} {k : Int} {C : tC} {i : Int} {E' : tE} {C' : tC} (hO : IO n B E k C i E' C') (t x : Int) : IO n B (eFall B E t x) k C i E' C' := by
  obtain ⟨o1, o2, o3, o4, o5, o6, o7, o8⟩ := hO
  have ob := o2.1
  refine ⟨o1, o2, ?_, o4, o5, o6, o7, o8⟩
  unfold eFall
  split
  · rename_i u
    obtain ⟨⟨u1, u2⟩, u3, u5, u6, u7⟩ := u
    exact EOk_add o3 u5 u1 u2 (by omega) (by omega) u6 u7 (by omega) (by omega) (fun _ => u3)
  · exact o3
theorem io_undo {n : Int} {B : tB} {E : tE} {k : Int} {C : tC} {i : Int} {E' : tE} {C' : tC} (hO : IO n B E k C i E' C') : IO n B (eUndo E) k C i E' C' := by
  obtain ⟨o1, o2, o3, o4, o5, o6, o7, o8⟩ := hO
  have oe := o3.1
  refine ⟨o1, o2, ?_, o4, o5, o6, o7, o8⟩
  unfold eUndo
  split
  · exact o3
  · exact EOk_drop o3 (by omega)
theorem io_feed {n : Int} {B : tB} {E : tE} {k : Int} {C : tC} {i : Int} {E' : tE} {C' : tC} (hO : IO n B E k C i E' C') : IO (if n + 20 ≤ 700 then n + 20 else n) B E k C i E' C' := by
  obtain ⟨o1, o2⟩ := hO
  refine ⟨?_, o2⟩
  split <;> omega
theorem io_image {n : Int} {B : tB} {E : tE} {k : Int} {C : tC} {i : Int} {E' : tE} {C' : tC} (hO : IO n B E k C i E' C') : IO n B E k C 1 E C := by
  obtain ⟨o1, o2, o3, o4, o5, o6, o7, o8⟩ := hO
  exact ⟨o1, o2, o3, o4, o5, o6, Or.inr rfl, fun _ => ⟨o3, o5, o6⟩⟩
theorem io_restore {n : Int} {B : tB} {E : tE} {k : Int} {C : tC} {i : Int} {E' : tE} {C' : tC} (hO : IO n B E k C i E' C') (c : i = 1) : IO n B E' k C' i E' C' := by
  obtain ⟨o1, o2, o3, o4, o5, o6, o7, o8⟩ := hO
  obtain ⟨p1, p2, p3⟩ := o8 c
  exact ⟨o1, o2, p1, o4, p2, p3, o7, o8⟩
theorem io_bad {n : Int} {B : tB} {E : tE} {k : Int} {C : tC} {i : Int} {E' : tE} {C' : tC} (hO : IO n B E k C i E' C') : IO 0 B E k C i E' C' := ⟨by omega, hO.2⟩
theorem io_ok {n : Int} {B B' : tB} {E : tE} {k : Int} {C : tC} {i : Int} {E' : tE} {C' : tC} (hO : IO n B E k C i E' C') (hB : BOk B') : IO 0 B' eNil (-1) (cEnd C) 0 E' C' := by
  obtain ⟨o1, o2, o3, o4, o5, o6, o7, o8⟩ := hO
  exact ⟨by omega, hB, EOk_nil B', Or.inl rfl, COk_end o5, fun z => absurd z (show ¬ (0 : Int) = 1 by omega), Or.inl rfl, fun z => absurd z (by omega)⟩

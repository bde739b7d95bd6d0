/-! The unfolded stretches of methods (by program, wip/gen/vcgen.py): each gives mRuns at its place -/
-- TasterTable$Log.dropLast()Z
set_option maxRecDepth 20000 in
theorem vc_Log_dropLast {d : Nat} {h : mHp} {out : mOut} {o : Nat} (H : mOb (((0 < (h.1 o 0) → mOb (mOb (mOb (mOb (mLd (fun x1 => ((¬ x1 = (-1) → (((nI 1) = 0 ∨ (nI 1) = 1) ∧ out = .inl (some (.int (nI 1)), mPI h o 0 ((h.1 o 0) - (nI 1))))) ∧
 (x1 = (-1) → mOb (mOb (mOb (mLd (fun x2 => mAr 1 (fun n3 _ => vp_in x2 n3 ∧ (((nI 1) = 0 ∨ (nI 1) = 1) ∧ out = .inl (some (.int (nI 1)), mPI (mPI h o 0 ((h.1 o 0) - (nI 1))) (o + 5) x2.toNatClampNeg (-1)))) (mSh (o + 5))) (mPI h o 0 ((h.1 o 0) - (nI 1))) ((mPI h o 0 ((h.1 o 0) - (nI 1))).1 o 0) (o + 1) (mSh (o + 1))) 3 (mSh o)) 3 (mSh o)) 3 (mSh o)))) (mPI h o 0 ((h.1 o 0) - (nI 1))) ((mPI h o 0 ((h.1 o 0) - (nI 1))).1 o 0) (o + 2) (mSh (o + 2))) 3 (mSh o)) 3 (mSh o)) 3 (mSh o)) 3 (mSh o)) ∧
 (¬ 0 < (h.1 o 0) → (((nI 0) = 0 ∨ (nI 0) = 1) ∧ out = .inl (some (.int (nI 0)), h))))) 3 (mSh o)) :
  mRuns (d + 1) 81 0 [some (.ref o)] [] h out := mVc_from 27 H
-- TasterTable$Log.latestTick()I
set_option maxRecDepth 20000 in
theorem vc_Log_latestTick {d : Nat} {h : mHp} {out : mOut} {o : Nat} (H : mRuns (d + 1) 82 4 [some (.ref o), some (.int (nI 0)), some (.int (nI 0))] [] h out) :
  mRuns (d + 1) 82 0 [some (.ref o), none, none] [] h out := mVc_from 5 H
set_option maxRecDepth 20000 in
theorem vc_Log_latestTick_4 {d : Nat} {h : mHp} {out : mOut} {v0 : Nat} {v1 : Int32} {v2 : Int32} (H : mOb ((((h.1 v0 0) ≤ v2 → out = .inl (some (.int v1), h)) ∧
 (¬ (h.1 v0 0) ≤ v2 → mOb (mLd (fun x1 => mRuns (d + 1) 82 4 [some (.ref v0), some (.int (if v1 < x1 then x1 else v1)), some (.int (v2 + nI 1))] [] h out) h v2 (v0 + 3) (mSh (v0 + 3))) 3 (mSh v0)))) 3 (mSh v0)) :
  mRuns (d + 1) 82 4 [some (.ref v0), some (.int v1), some (.int v2)] [] h out := mVc_from 14 H
-- TasterTable$Log.copyFrom(LTasterTable$Log;)V
set_option maxRecDepth 20000 in
theorem vc_Log_copyFrom {d : Nat} {h : mHp} {out : mOut} {o : Nat} {a1 : Nat} (H : mOb (mOb (mOb (mOb (mOb (mAr 1 (fun n1 _ => mAr 1 (fun n2 _ => (¬ (nI 0) < 0 ∧ ¬ (nI 0) < 0 ∧ ¬ ((mPI h o 0 (h.1 a1 0)).1 o 0) < 0 ∧ (nI 0).toNatClampNeg + ((mPI h o 0 (h.1 a1 0)).1 o 0).toNatClampNeg ≤ n1 ∧ (nI 0).toNatClampNeg + ((mPI h o 0 (h.1 a1 0)).1 o 0).toNatClampNeg ≤ n2 ∧ mRuns (d + 1) 83 25 [some (.ref o), some (.ref a1)] [] (mCp (mPI h o 0 (h.1 a1 0)) (a1 + 1) (nI 0).toNatClampNeg (o + 1) (nI 0).toNatClampNeg ((mPI h o 0 (h.1 a1 0)).1 o 0).toNatClampNeg) out)) (mSh (o + 1))) (mSh (a1 + 1))) 3 (mSh o)) 3 (mSh o)) 3 (mSh a1)) 3 (mSh o)) 3 (mSh a1)) :
  mRuns (d + 1) 83 0 [some (.ref o), some (.ref a1)] [] h out := mVc_from 14 H
set_option maxRecDepth 20000 in
theorem vc_Log_copyFrom_25 {d : Nat} {h : mHp} {out : mOut} {v0 : Nat} {v1 : Nat} (H : mOb (mOb (mOb (mAr 1 (fun n1 _ => mAr 1 (fun n2 _ => (¬ (nI 0) < 0 ∧ ¬ (nI 0) < 0 ∧ ¬ (h.1 v0 0) < 0 ∧ (nI 0).toNatClampNeg + (h.1 v0 0).toNatClampNeg ≤ n1 ∧ (nI 0).toNatClampNeg + (h.1 v0 0).toNatClampNeg ≤ n2 ∧ mRuns (d + 1) 83 42 [some (.ref v0), some (.ref v1)] [] (mCp h (v1 + 2) (nI 0).toNatClampNeg (v0 + 2) (nI 0).toNatClampNeg (h.1 v0 0).toNatClampNeg) out)) (mSh (v0 + 2))) (mSh (v1 + 2))) 3 (mSh v0)) 3 (mSh v0)) 3 (mSh v1)) :
  mRuns (d + 1) 83 25 [some (.ref v0), some (.ref v1)] [] h out := mVc_from 10 H
set_option maxRecDepth 20000 in
theorem vc_Log_copyFrom_42 {d : Nat} {h : mHp} {out : mOut} {v0 : Nat} {v1 : Nat} (H : mOb (mOb (mOb (mAr 1 (fun n1 _ => mAr 1 (fun n2 _ => (¬ (nI 0) < 0 ∧ ¬ (nI 0) < 0 ∧ ¬ (h.1 v0 0) < 0 ∧ (nI 0).toNatClampNeg + (h.1 v0 0).toNatClampNeg ≤ n1 ∧ (nI 0).toNatClampNeg + (h.1 v0 0).toNatClampNeg ≤ n2 ∧ mRuns (d + 1) 83 59 [some (.ref v0), some (.ref v1)] [] (mCp h (v1 + 3) (nI 0).toNatClampNeg (v0 + 3) (nI 0).toNatClampNeg (h.1 v0 0).toNatClampNeg) out)) (mSh (v0 + 3))) (mSh (v1 + 3))) 3 (mSh v0)) 3 (mSh v0)) 3 (mSh v1)) :
  mRuns (d + 1) 83 42 [some (.ref v0), some (.ref v1)] [] h out := mVc_from 10 H
set_option maxRecDepth 20000 in
theorem vc_Log_copyFrom_59 {d : Nat} {h : mHp} {out : mOut} {v0 : Nat} {v1 : Nat} (H : mOb (mOb (mOb (mAr 1 (fun n1 _ => mAr 1 (fun n2 _ => (¬ (nI 0) < 0 ∧ ¬ (nI 0) < 0 ∧ ¬ (h.1 v0 0) < 0 ∧ (nI 0).toNatClampNeg + (h.1 v0 0).toNatClampNeg ≤ n1 ∧ (nI 0).toNatClampNeg + (h.1 v0 0).toNatClampNeg ≤ n2 ∧ mRuns (d + 1) 83 76 [some (.ref v0), some (.ref v1)] [] (mCp h (v1 + 4) (nI 0).toNatClampNeg (v0 + 4) (nI 0).toNatClampNeg (h.1 v0 0).toNatClampNeg) out)) (mSh (v0 + 4))) (mSh (v1 + 4))) 3 (mSh v0)) 3 (mSh v0)) 3 (mSh v1)) :
  mRuns (d + 1) 83 59 [some (.ref v0), some (.ref v1)] [] h out := mVc_from 10 H
set_option maxRecDepth 20000 in
theorem vc_Log_copyFrom_76 {d : Nat} {h : mHp} {out : mOut} {v0 : Nat} {v1 : Nat} (H : mOb (mOb (mAr 1 (fun n1 _ => mAr 1 (fun n2 _ => (¬ (nI 0) < 0 ∧ ¬ (nI 0) < 0 ∧ ¬ (nI 5) < 0 ∧ (nI 0).toNatClampNeg + (nI 5).toNatClampNeg ≤ n1 ∧ (nI 0).toNatClampNeg + (nI 5).toNatClampNeg ≤ n2 ∧ mRuns (d + 1) 83 90 [none, none] [] (mCp h (v1 + 5) (nI 0).toNatClampNeg (v0 + 5) (nI 0).toNatClampNeg (nI 5).toNatClampNeg) out)) (mSh (v0 + 5))) (mSh (v1 + 5))) 3 (mSh v0)) 3 (mSh v1)) :
  mRuns (d + 1) 83 76 [some (.ref v0), some (.ref v1)] [] h out := mVc_from 9 H
set_option maxRecDepth 20000 in
theorem vc_Log_copyFrom_90 {d : Nat} {h : mHp} {out : mOut}  (H : out = .inl (none, h)) :
  mRuns (d + 1) 83 90 [none, none] [] h out := mVc_from 1 H
-- TasterTable$Log.clear()V
set_option maxRecDepth 20000 in
theorem vc_Log_clear {d : Nat} {h : mHp} {out : mOut} {o : Nat} (H : mOb (mOb ((∃ h1 : mHp, mRuns d 0 0 [some (.ref (o + 5)), some (.int (-1)), none, none] [] (mPI h o 0 (nI 0)) (.inl (none, h1)) ∧
 out = .inl (none, h1))) 3 (mSh o)) 3 (mSh o)) :
  mRuns (d + 1) 84 0 [some (.ref o)] [] h out := mVc_from 8 H
-- TasterTable$Log.addMeal(IIIZ)Z
set_option maxRecDepth 20000 in
theorem vc_Log_addMeal {d : Nat} {h : mHp} {out : mOut} {o : Nat} {a1 : Int32} {a2 : Int32} {a3 : Int32} {a4 : Int32} (H : mOb (∃ (x2 : Int32) (h1 : mHp), mRuns d 86 0 [some (.ref o), some (.int a1), some (.int a2), some (.int a3), some (.int a4)] [] h (.inl (some (.int x2), h1)) ∧
 ((x2 = 0 ∨ x2 = 1) ∧ out = .inl (some (.int x2), h1))) 3 (mSh o)) :
  mRuns (d + 1) 85 0 [some (.ref o), some (.int a1), some (.int a2), some (.int a3), some (.int a4)] [] h out := mVc_from 7 H
-- TasterTable$Log.add(IIIZ)Z
set_option maxRecDepth 20000 in
theorem vc_Log_add {d : Nat} {h : mHp} {out : mOut} {o : Nat} {a1 : Int32} {a2 : Int32} {a3 : Int32} {a4 : Int32} (H : mOb ((((nI 60) ≤ (h.1 o 0) → (((nI 0) = 0 ∨ (nI 0) = 1) ∧ out = .inl (some (.int (nI 0)), h))) ∧
 (¬ (nI 60) ≤ (h.1 o 0) → ((a3 < 0 → (((nI 0) = 0 ∨ (nI 0) = 1) ∧ out = .inl (some (.int (nI 0)), h))) ∧
 (¬ a3 < 0 → ((a3 ≤ (nI 999) → mOb (mOb (mAr 1 (fun n1 _ => vp_in (h.1 o 0) n1 ∧ mOb (mOb (mAr 1 (fun n2 _ => vp_in ((mPI h (o + 1) (h.1 o 0).toNatClampNeg a1).1 o 0) n2 ∧ mOb (mOb (mAr 1 (fun n3 _ => vp_in ((mPI (mPI h (o + 1) (h.1 o 0).toNatClampNeg a1) (o + 2) ((mPI h (o + 1) (h.1 o 0).toNatClampNeg a1).1 o 0).toNatClampNeg a2).1 o 0) n3 ∧ mOb (mOb (((a4 = 0 → mAr 1 (fun n4 _ => vp_in ((mPI (mPI (mPI h (o + 1) (h.1 o 0).toNatClampNeg a1) (o + 2) ((mPI h (o + 1) (h.1 o 0).toNatClampNeg a1).1 o 0).toNatClampNeg a2) (o + 3) ((mPI (mPI h (o + 1) (h.1 o 0).toNatClampNeg a1) (o + 2) ((mPI h (o + 1) (h.1 o 0).toNatClampNeg a1).1 o 0).toNatClampNeg a2).1 o 0).toNatClampNeg a3).1 o 0) n4 ∧ mOb (mOb ((((nI 1) = 0 ∨ (nI 1) = 1) ∧ out = .inl (some (.int (nI 1)), mPI (mPI (mPI (mPI (mPI h (o + 1) (h.1 o 0).toNatClampNeg a1) (o + 2) ((mPI h (o + 1) (h.1 o 0).toNatClampNeg a1).1 o 0).toNatClampNeg a2) (o + 3) ((mPI (mPI h (o + 1) (h.1 o 0).toNatClampNeg a1) (o + 2) ((mPI h (o + 1) (h.1 o 0).toNatClampNeg a1).1 o 0).toNatClampNeg a2).1 o 0).toNatClampNeg a3) (o + 4) ((mPI (mPI (mPI h (o + 1) (h.1 o 0).toNatClampNeg a1) (o + 2) ((mPI h (o + 1) (h.1 o 0).toNatClampNeg a1).1 o 0).toNatClampNeg a2) (o + 3) ((mPI (mPI h (o + 1) (h.1 o 0).toNatClampNeg a1) (o + 2) ((mPI h (o + 1) (h.1 o 0).toNatClampNeg a1).1 o 0).toNatClampNeg a2).1 o 0).toNatClampNeg a3).1 o 0).toNatClampNeg (nI 0)) o 0 (((mPI (mPI (mPI (mPI h (o + 1) (h.1 o 0).toNatClampNeg a1) (o + 2) ((mPI h (o + 1) (h.1 o 0).toNatClampNeg a1).1 o 0).toNatClampNeg a2) (o + 3) ((mPI (mPI h (o + 1) (h.1 o 0).toNatClampNeg a1) (o + 2) ((mPI h (o + 1) (h.1 o 0).toNatClampNeg a1).1 o 0).toNatClampNeg a2).1 o 0).toNatClampNeg a3) (o + 4) ((mPI (mPI (mPI h (o + 1) (h.1 o 0).toNatClampNeg a1) (o + 2) ((mPI h (o + 1) (h.1 o 0).toNatClampNeg a1).1 o 0).toNatClampNeg a2) (o + 3) ((mPI (mPI h (o + 1) (h.1 o 0).toNatClampNeg a1) (o + 2) ((mPI h (o + 1) (h.1 o 0).toNatClampNeg a1).1 o 0).toNatClampNeg a2).1 o 0).toNatClampNeg a3).1 o 0).toNatClampNeg (nI 0)).1 o 0) + (nI 1))))) 3 (mSh o)) 3 (mSh o)) (mSh (o + 4))) ∧
 (¬ a4 = 0 → mAr 1 (fun n5 _ => vp_in ((mPI (mPI (mPI h (o + 1) (h.1 o 0).toNatClampNeg a1) (o + 2) ((mPI h (o + 1) (h.1 o 0).toNatClampNeg a1).1 o 0).toNatClampNeg a2) (o + 3) ((mPI (mPI h (o + 1) (h.1 o 0).toNatClampNeg a1) (o + 2) ((mPI h (o + 1) (h.1 o 0).toNatClampNeg a1).1 o 0).toNatClampNeg a2).1 o 0).toNatClampNeg a3).1 o 0) n5 ∧ mOb (mOb ((((nI 1) = 0 ∨ (nI 1) = 1) ∧ out = .inl (some (.int (nI 1)), mPI (mPI (mPI (mPI (mPI h (o + 1) (h.1 o 0).toNatClampNeg a1) (o + 2) ((mPI h (o + 1) (h.1 o 0).toNatClampNeg a1).1 o 0).toNatClampNeg a2) (o + 3) ((mPI (mPI h (o + 1) (h.1 o 0).toNatClampNeg a1) (o + 2) ((mPI h (o + 1) (h.1 o 0).toNatClampNeg a1).1 o 0).toNatClampNeg a2).1 o 0).toNatClampNeg a3) (o + 4) ((mPI (mPI (mPI h (o + 1) (h.1 o 0).toNatClampNeg a1) (o + 2) ((mPI h (o + 1) (h.1 o 0).toNatClampNeg a1).1 o 0).toNatClampNeg a2) (o + 3) ((mPI (mPI h (o + 1) (h.1 o 0).toNatClampNeg a1) (o + 2) ((mPI h (o + 1) (h.1 o 0).toNatClampNeg a1).1 o 0).toNatClampNeg a2).1 o 0).toNatClampNeg a3).1 o 0).toNatClampNeg (nI 1)) o 0 (((mPI (mPI (mPI (mPI h (o + 1) (h.1 o 0).toNatClampNeg a1) (o + 2) ((mPI h (o + 1) (h.1 o 0).toNatClampNeg a1).1 o 0).toNatClampNeg a2) (o + 3) ((mPI (mPI h (o + 1) (h.1 o 0).toNatClampNeg a1) (o + 2) ((mPI h (o + 1) (h.1 o 0).toNatClampNeg a1).1 o 0).toNatClampNeg a2).1 o 0).toNatClampNeg a3) (o + 4) ((mPI (mPI (mPI h (o + 1) (h.1 o 0).toNatClampNeg a1) (o + 2) ((mPI h (o + 1) (h.1 o 0).toNatClampNeg a1).1 o 0).toNatClampNeg a2) (o + 3) ((mPI (mPI h (o + 1) (h.1 o 0).toNatClampNeg a1) (o + 2) ((mPI h (o + 1) (h.1 o 0).toNatClampNeg a1).1 o 0).toNatClampNeg a2).1 o 0).toNatClampNeg a3).1 o 0).toNatClampNeg (nI 1)).1 o 0) + (nI 1))))) 3 (mSh o)) 3 (mSh o)) (mSh (o + 4))))) 3 (mSh o)) 3 (mSh o)) (mSh (o + 3))) 3 (mSh o)) 3 (mSh o)) (mSh (o + 2))) 3 (mSh o)) 3 (mSh o)) (mSh (o + 1))) 3 (mSh o)) 3 (mSh o)) ∧
 (¬ a3 ≤ (nI 999) → (((nI 0) = 0 ∨ (nI 0) = 1) ∧ out = .inl (some (.int (nI 0)), h))))))))) 3 (mSh o)) :
  mRuns (d + 1) 86 0 [some (.ref o), some (.int a1), some (.int a2), some (.int a3), some (.int a4)] [] h out := mVc_from 44 H
-- TasterTable$Log.addFall(II)Z
set_option maxRecDepth 20000 in
theorem vc_Log_addFall {d : Nat} {h : mHp} {out : mOut} {o : Nat} {a1 : Int32} {a2 : Int32} (H : mOb (mLd (fun x1 => ((¬ x1 = (-1) → (((nI 0) = 0 ∨ (nI 0) = 1) ∧ out = .inl (some (.int (nI 0)), h))) ∧
 (x1 = (-1) → mOb (∃ (x3 : Int32) (h2 : mHp), mRuns d 86 0 [some (.ref o), some (.int a1), some (.int (-1)), some (.int a2), some (.int (nI 0))] [] h (.inl (some (.int x3), h2)) ∧
 ((¬ x3 = 0 → mOb (mAr 1 (fun n4 _ => vp_in a1 n4 ∧ (((nI 1) = 0 ∨ (nI 1) = 1) ∧ out = .inl (some (.int (nI 1)), mPI h2 (o + 5) a1.toNatClampNeg a2))) (mSh (o + 5))) 3 (mSh o)) ∧
 (x3 = 0 → (((nI 0) = 0 ∨ (nI 0) = 1) ∧ out = .inl (some (.int (nI 0)), h2))))) 3 (mSh o)))) h a1 (o + 5) (mSh (o + 5))) 3 (mSh o)) :
  mRuns (d + 1) 87 0 [some (.ref o), some (.int a1), some (.int a2)] [] h out := mVc_from 20 H
-- TasterTable$Board.showTicks(IIZ)I
set_option maxRecDepth 20000 in
theorem vc_Brd_showTicks {d : Nat} {h : mHp} {out : mOut} {o : Nat} {a1 : Int32} {a2 : Int32} {a3 : Int32} (H : mOb ((∃ (x2 : Int32) (h1 : mHp), mRuns d 154 0 [some (.int a1), some (.int a2)] [] h (.inl (some (.int x2), h1)) ∧
 mLd (fun x3 => mOb (∃ (x5 : Int32) (h4 : mHp), mRuns d 89 0 [some (.ref o), some (.int a1), some (.int a2), some (.int a3), some (.int x3), none] [] h1 (.inl (some (.int x5), h4)) ∧
 out = .inl (some (.int x5), h4)) 0 (mSh o)) h1 x2 (o + 10) (mSh (o + 10)))) 0 (mSh o)) :
  mRuns (d + 1) 88 0 [some (.ref o), some (.int a1), some (.int a2), some (.int a3)] [] h out := mVc_from 12 H
-- TasterTable$Board.showTicks(IIZI)I
set_option maxRecDepth 20000 in
theorem vc_Brd_showTicks4 {d : Nat} {h : mHp} {out : mOut} {o : Nat} {a1 : Int32} {a2 : Int32} {a3 : Int32} {a4 : Int32} (H : mOb (mLd (fun x1 => ((x1 ≤ 0 → mRuns (d + 1) 89 22 [some (.ref o), some (.int a1), some (.int a2), some (.int a3), none, none] [] h out) ∧
 (¬ x1 ≤ 0 → mOb (mLd (fun x2 => ((a4 < x2 → mRuns (d + 1) 89 22 [some (.ref o), some (.int a1), some (.int a2), some (.int a3), none, none] [] h out) ∧
 (¬ a4 < x2 → out = .inl (some (.int (-1)), h)))) h a2 (o + 6) (mSh (o + 6))) 0 (mSh o)))) h a2 (o + 6) (mSh (o + 6))) 0 (mSh o)) :
  mRuns (d + 1) 89 0 [some (.ref o), some (.int a1), some (.int a2), some (.int a3), some (.int a4), none] [] h out := mVc_from 13 H
set_option maxRecDepth 20000 in
theorem vc_Brd_showTicks4_22 {d : Nat} {h : mHp} {out : mOut} {v0 : Nat} {v1 : Int32} {v2 : Int32} {v3 : Int32} (H : mOb (mLd (fun x1 => ((x1 = (nI 2) → mRuns (d + 1) 89 51 [some (.ref v0), some (.int v1), some (.int v2), none, none, none] [.int (nI 1)] h out) ∧
 (¬ x1 = (nI 2) → ((v3 = 0 → mRuns (d + 1) 89 51 [some (.ref v0), some (.int v1), some (.int v2), none, none, none] [.int (nI 0)] h out) ∧
 (¬ v3 = 0 → mOb (mLd (fun x2 => ((x2 = (nI 3) → mRuns (d + 1) 89 51 [some (.ref v0), some (.int v1), some (.int v2), none, none, none] [.int (nI 0)] h out) ∧
 (¬ x2 = (nI 3) → mRuns (d + 1) 89 51 [some (.ref v0), some (.int v1), some (.int v2), none, none, none] [.int (nI 1)] h out))) h v1 (v0 + 8) (mSh (v0 + 8))) 0 (mSh v0)))))) h v1 (v0 + 8) (mSh (v0 + 8))) 0 (mSh v0)) :
  mRuns (d + 1) 89 22 [some (.ref v0), some (.int v1), some (.int v2), some (.int v3), none, none] [] h out := mVc_from 17 H
set_option maxRecDepth 20000 in
theorem vc_Brd_showTicks4_51 {d : Nat} {h : mHp} {out : mOut} {s0 : Int32} {v0 : Nat} {v1 : Int32} {v2 : Int32} (H : mOb (mLd (fun x1 => ((x1 = 0 → mRuns (d + 1) 89 69 [some (.ref v0), some (.int v1), some (.int v2), none, none, none] [] h out) ∧
 (¬ x1 = 0 → ((¬ s0 = 0 → mRuns (d + 1) 89 69 [some (.ref v0), some (.int v1), some (.int v2), none, none, none] [] h out) ∧
 (s0 = 0 → out = .inl (some (.int (-1)), h)))))) h v2 (v0 + 5) (mSh (v0 + 5))) 0 (mSh v0)) :
  mRuns (d + 1) 89 51 [some (.ref v0), some (.int v1), some (.int v2), none, none, none] [.int s0] h out := mVc_from 10 H
set_option maxRecDepth 20000 in
theorem vc_Brd_showTicks4_69 {d : Nat} {h : mHp} {out : mOut} {v0 : Nat} {v1 : Int32} {v2 : Int32} (H : mOb (mLd (fun x1 => ((x1 < nI 1 ∨ nI 3 < x1 → mOb (mLd (fun x2 => out = .inl (some (.int x2), h)) h v2 (v0 + 4) (mSh (v0 + 4))) 0 (mSh v0)) ∧
 (x1 = nI 1 → mOb (mLd (fun x3 => out = .inl (some (.int ((nI 2) * x3)), h)) h v2 (v0 + 4) (mSh (v0 + 4))) 0 (mSh v0)) ∧
 (x1 = nI 2 → mOb (mLd (fun x4 => out = .inl (some (.int (x4 + (nI 4))), h)) h v2 (v0 + 4) (mSh (v0 + 4))) 0 (mSh v0)) ∧
 (x1 = nI 3 → mOb (mLd (fun x5 => (¬ (nI 2) = 0 ∧ out = .inl (some (.int ((x5 + (nI 1)) / (nI 2))), h))) h v2 (v0 + 4) (mSh (v0 + 4))) 0 (mSh v0)) ∧
 True)) h v1 (v0 + 8) (mSh (v0 + 8))) 0 (mSh v0)) :
  mRuns (d + 1) 89 69 [some (.ref v0), some (.int v1), some (.int v2), none, none, none] [] h out := mVc_from 14 H
-- TasterTable$Board.clear()V
set_option maxRecDepth 20000 in
theorem vc_Brd_clear {d : Nat} {h : mHp} {out : mOut} {o : Nat} (H : mOb (mOb (mOb (mOb (mOb ((∃ h1 : mHp, mRuns d 0 0 [some (.ref (o + 10)), some (.int (nI 0)), none, none] [] (mPI (mPI (mPI (mPI h o 0 (nI 0)) o 4 (nI 0)) o 9 (nI 0)) o 13 (nI 1)) (.inl (none, h1)) ∧
 out = .inl (none, h1))) 0 (mSh o)) 0 (mSh o)) 0 (mSh o)) 0 (mSh o)) 0 (mSh o)) :
  mRuns (d + 1) 90 0 [some (.ref o)] [] h out := mVc_from 17 H
-- TasterTable$Board.witnesses(II)I
set_option maxRecDepth 20000 in
theorem vc_Brd_witnesses {d : Nat} {h : mHp} {out : mOut} {o : Nat} {a1 : Int32} {a2 : Int32} (H : mRuns (d + 1) 91 5 [some (.ref o), some (.int a1), some (.int a2), some (.int (nI 0)), some (.int (nI 0)), none] [] h out) :
  mRuns (d + 1) 91 0 [some (.ref o), some (.int a1), some (.int a2), none, none, none] [] h out := mVc_from 5 H
set_option maxRecDepth 20000 in
theorem vc_Brd_witnesses_5 {d : Nat} {h : mHp} {out : mOut} {v0 : Nat} {v1 : Int32} {v2 : Int32} {v3 : Int32} {v4 : Int32} (H : mOb ((((h.1 v0 9) ≤ v4 → out = .inl (some (.int v3), h)) ∧
 (¬ (h.1 v0 9) ≤ v4 → mOb (∃ (x2 : Int32) (h1 : mHp), mRuns d 88 0 [some (.ref v0), some (.int v4), some (.int v2), some (.int (nI 1))] [] h (.inl (some (.int x2), h1)) ∧
 mOb (mLd (fun x3 => ((x3 = (nI 4) → mRuns (d + 1) 91 5 [some (.ref v0), some (.int v1), some (.int v2), some (.int v3), some (.int (v4 + nI 1)), none] [] h1 out) ∧
 (¬ x3 = (nI 4) → ((x2 = (-1) → mRuns (d + 1) 91 5 [some (.ref v0), some (.int v1), some (.int v2), some (.int v3), some (.int (v4 + nI 1)), none] [] h1 out) ∧
 (¬ x2 = (-1) → mOb (mLd (fun x4 => mOb (mLd (fun x5 => (((x4 - x5) < x2 → mRuns (d + 1) 91 5 [some (.ref v0), some (.int v1), some (.int v2), some (.int v3), some (.int (v4 + nI 1)), none] [] h1 out) ∧
 (¬ (x4 - x5) < x2 → mRuns (d + 1) 91 5 [some (.ref v0), some (.int v1), some (.int v2), some (.int (v3 + nI 1)), some (.int (v4 + nI 1)), none] [] h1 out))) h1 v1 (v0 + 1) (mSh (v0 + 1))) 0 (mSh v0)) h1 v1 (v0 + 2) (mSh (v0 + 2))) 0 (mSh v0)))))) h1 v4 (v0 + 8) (mSh (v0 + 8))) 0 (mSh v0)) 0 (mSh v0)))) 0 (mSh v0)) :
  mRuns (d + 1) 91 5 [some (.ref v0), some (.int v1), some (.int v2), some (.int v3), some (.int v4), none] [] h out := mVc_from 34 H
-- TasterTable$Judge.hear(LTasterTable$Board;LTasterTable$Log;I)V
set_option maxRecDepth 20000 in
theorem vc_Jdg_hear {d : Nat} {h : mHp} {out : mOut} {a1 : Nat} {a2 : Nat} {a3 : Int32} (H : mOb (mOb (mTrue (mOb (mTrue (mOb ((∃ h1 : mHp, mRuns d 0 0 [some (.ref 88), some (.int (nI 1048576)), none, none] [] (mPI (mPI (mPR (mPR h 87 0 a1) 87 1 a2) 87 2 a3) 87 3 ((nI 1) + (((mPI (mPR (mPR h 87 0 a1) 87 1 a2) 87 2 a3).1 ((mPI (mPR (mPR h 87 0 a1) 87 1 a2) 87 2 a3).2.2.1 87 0) 0) * ((mPI (mPR (mPR h 87 0 a1) 87 1 a2) 87 2 a3).1 ((mPI (mPR (mPR h 87 0 a1) 87 1 a2) 87 2 a3).2.2.1 87 0) 4)))) (.inl (none, h1)) ∧
 mRuns (d + 1) 92 48 [some (.ref 87), none, none, none, some (.int (nI 0))] [] h1 out)) 0 (mSh ((mPI (mPR (mPR h 87 0 a1) 87 1 a2) 87 2 a3).2.2.1 87 0))) (Nat.blt ((mPI (mPR (mPR h 87 0 a1) 87 1 a2) 87 2 a3).2.2.1 87 0) 142)) 0 (mSh ((mPI (mPR (mPR h 87 0 a1) 87 1 a2) 87 2 a3).2.2.1 87 0))) (Nat.blt ((mPI (mPR (mPR h 87 0 a1) 87 1 a2) 87 2 a3).2.2.1 87 0) 142)) 3 (mSh a2)) 0 (mSh a1)) :
  mRuns (d + 1) 92 0 [some (.ref 87), some (.ref a1), some (.ref a2), some (.int a3), none] [] h out := mVc_from 27 H
set_option maxRecDepth 20000 in
theorem vc_Jdg_hear_48 {d : Nat} {h : mHp} {out : mOut} {v4 : Int32} (H : mTrue (mOb ((((h.1 (h.2.2.1 87 1) 0) ≤ v4 → mRuns (d + 1) 92 94 [some (.ref 87), none, none, none, some (.int (nI 0))] [] (mPI h 87 6 (nI 0)) out) ∧
 (¬ (h.1 (h.2.2.1 87 1) 0) ≤ v4 → mTrue (mOb (mLd (fun x1 => ((x1 = (-1) → mRuns (d + 1) 92 48 [some (.ref 87), none, none, none, some (.int (v4 + nI 1))] [] h out) ∧
 (¬ x1 = (-1) → (∃ h2 : mHp, mRuns d 93 0 [some (.ref 87), some (.int v4), none, none, none, none] [] h (.inl (none, h2)) ∧
 mRuns (d + 1) 92 48 [some (.ref 87), none, none, none, some (.int (v4 + nI 1))] [] h2 out)))) h v4 ((h.2.2.1 87 1) + 2) (mSh ((h.2.2.1 87 1) + 2))) 3 (mSh (h.2.2.1 87 1))) (Nat.blt (h.2.2.1 87 1) 142)))) 3 (mSh (h.2.2.1 87 1))) (Nat.blt (h.2.2.1 87 1) 142)) :
  mRuns (d + 1) 92 48 [some (.ref 87), none, none, none, some (.int v4)] [] h out := mVc_from 18 H
set_option maxRecDepth 20000 in
theorem vc_Jdg_hear_94 {d : Nat} {h : mHp} {out : mOut} {v4 : Int32} (H : (((h.1 87 3) ≤ v4 → out = .inl (none, h)) ∧
 (¬ (h.1 87 3) ≤ v4 → (∃ (x2 : Int32) (h1 : mHp), mRuns d 95 0 [some (.ref 87), some (.int v4), some (.int v4), none, none, none, none, none] [] h (.inl (some (.int x2), h1)) ∧
 ((x2 = 0 → mRuns (d + 1) 92 125 [some (.ref 87), none, none, none, some (.int v4)] [.int (nI 0), .int v4, .ref 89] h1 out) ∧
 (¬ x2 = 0 → mRuns (d + 1) 92 125 [some (.ref 87), none, none, none, some (.int v4)] [.int (nI 1), .int v4, .ref 89] h1 out)))))) :
  mRuns (d + 1) 92 94 [some (.ref 87), none, none, none, some (.int v4)] [] h out := mVc_from 15 H
set_option maxRecDepth 20000 in
theorem vc_Jdg_hear_125 {d : Nat} {h : mHp} {out : mOut} {s0 : Int32} {s1 : Int32} {v4 : Int32} (H : (vp_in s1 31 ∧ (vp_in v4 31 ∧ mRuns (d + 1) 92 94 [some (.ref 87), none, none, none, some (.int (v4 + nI 1))] [] (mPI (mPI h 89 s1.toNatClampNeg s0) 87 6 (((mPI h 89 s1.toNatClampNeg s0).1 87 6) + ((mPI h 89 s1.toNatClampNeg s0).1 89 (v4.toNatClampNeg)))) out))) :
  mRuns (d + 1) 92 125 [some (.ref 87), none, none, none, some (.int v4)] [.int s0, .int s1, .ref 89] h out := mVc_from 13 H
-- TasterTable$Judge.hearMeal(I)V
set_option maxRecDepth 20000 in
theorem vc_Jdg_hearMeal {d : Nat} {h : mHp} {out : mOut} {a1 : Int32} (H : mTrue (mOb (mLd (fun x1 => mRuns (d + 1) 93 12 [some (.ref 87), some (.int a1), some (.int x1), some (.int (nI 0)), none, none] [] h out) h a1 ((h.2.2.1 87 1) + 1) (mSh ((h.2.2.1 87 1) + 1))) 3 (mSh (h.2.2.1 87 1))) (Nat.blt (h.2.2.1 87 1) 142)) :
  mRuns (d + 1) 93 0 [some (.ref 87), some (.int a1), none, none, none, none] [] h out := mVc_from 9 H
set_option maxRecDepth 20000 in
theorem vc_Jdg_hearMeal_12 {d : Nat} {h : mHp} {out : mOut} {v1 : Int32} {v2 : Int32} {v3 : Int32} (H : mTrue (mOb ((((h.1 (h.2.2.1 87 0) 4) ≤ v3 → out = .inl (none, h)) ∧
 (¬ (h.1 (h.2.2.1 87 0) 4) ≤ v3 → mTrue (mTrue (mOb (mLd (fun x1 => ((x1 = 0 → mRuns (d + 1) 93 46 [some (.ref 87), some (.int v1), some (.int v2), some (.int v3), none, none] [.int (nI 0), .int v3, .int v2, .ref (h.2.2.1 87 0)] h out) ∧
 (¬ x1 = 0 → mRuns (d + 1) 93 46 [some (.ref 87), some (.int v1), some (.int v2), some (.int v3), none, none] [.int (nI 1), .int v3, .int v2, .ref (h.2.2.1 87 0)] h out))) h v1 ((h.2.2.1 87 1) + 4) (mSh ((h.2.2.1 87 1) + 4))) 3 (mSh (h.2.2.1 87 1))) (Nat.blt (h.2.2.1 87 1) 142)) (Nat.blt (h.2.2.1 87 0) 142)))) 0 (mSh (h.2.2.1 87 0))) (Nat.blt (h.2.2.1 87 0) 142)) :
  mRuns (d + 1) 93 12 [some (.ref 87), some (.int v1), some (.int v2), some (.int v3), none, none] [] h out := mVc_from 18 H
set_option maxRecDepth 20000 in
theorem vc_Jdg_hearMeal_46 {d : Nat} {h : mHp} {out : mOut} {s0 : Int32} {s1 : Int32} {s2 : Int32} {s3 : Nat} {v1 : Int32} {v2 : Int32} {v3 : Int32} (H : mOb (∃ (x2 : Int32) (h1 : mHp), mRuns d 88 0 [some (.ref s3), some (.int s2), some (.int s1), some (.int s0)] [] h (.inl (some (.int x2), h1)) ∧
 ((x2 = (-1) → mRuns (d + 1) 93 12 [some (.ref 87), some (.int v1), some (.int v2), some (.int (v3 + nI 1)), none, none] [] h1 out) ∧
 (¬ x2 = (-1) → mTrue (mOb (mLd (fun x3 => (∃ (x5 : Int32) (h4 : mHp), mRuns d 94 0 [some (.ref 87), some (.int x3), some (.int v3)] [] h1 (.inl (some (.int x5), h4)) ∧
 (vp_in ((v2 * (nI 31)) + x5) 155 ∧ mTrue (mOb (mLd (fun x6 => (vp_in ((v2 * (nI 31)) + x5) 155 ∧ mRuns (d + 1) 93 12 [some (.ref 87), some (.int v1), some (.int v2), some (.int (v3 + nI 1)), none, none] [] (mPI h4 88 ((v2 * (nI 31)) + x5).toNatClampNeg (if (x6 + x2) < (h4.1 88 (((v2 * (nI 31)) + x5).toNatClampNeg)) then (x6 + x2) else (h4.1 88 (((v2 * (nI 31)) + x5).toNatClampNeg)))) out)) h4 v1 ((h4.2.2.1 87 1) + 3) (mSh ((h4.2.2.1 87 1) + 3))) 3 (mSh (h4.2.2.1 87 1))) (Nat.blt (h4.2.2.1 87 1) 142)))) h1 v1 ((h1.2.2.1 87 1) + 2) (mSh ((h1.2.2.1 87 1) + 2))) 3 (mSh (h1.2.2.1 87 1))) (Nat.blt (h1.2.2.1 87 1) 142)))) 0 (mSh s3)) :
  mRuns (d + 1) 93 46 [some (.ref 87), some (.int v1), some (.int v2), some (.int v3), none, none] [.int s0, .int s1, .int s2, .ref s3] h out := mVc_from 37 H
-- TasterTable$Judge.caseOf(II)I
set_option maxRecDepth 20000 in
theorem vc_Jdg_caseOf {d : Nat} {h : mHp} {out : mOut} {a1 : Int32} {a2 : Int32} (H : mTrue (mOb (out = .inl (some (.int (((nI 1) + (a1 * (h.1 (h.2.2.1 87 0) 4))) + a2)), h)) 0 (mSh (h.2.2.1 87 0))) (Nat.blt (h.2.2.1 87 0) 142)) :
  mRuns (d + 1) 94 0 [some (.ref 87), some (.int a1), some (.int a2)] [] h out := mVc_from 10 H
-- TasterTable$Judge.fitTogether(II)Z
set_option maxRecDepth 20000 in
theorem vc_Jdg_fitTogether {d : Nat} {h : mHp} {out : mOut} {a1 : Int32} {a2 : Int32} (H : mRuns (d + 1) 95 2 [some (.ref 87), some (.int a1), some (.int a2), some (.int (nI 0)), none, none, none, none] [] h out) :
  mRuns (d + 1) 95 0 [some (.ref 87), some (.int a1), some (.int a2), none, none, none, none, none] [] h out := mVc_from 3 H
set_option maxRecDepth 20000 in
theorem vc_Jdg_fitTogether_2 {d : Nat} {h : mHp} {out : mOut} {v1 : Int32} {v2 : Int32} {v3 : Int32} (H : mTrue (mOb ((((h.1 (h.2.2.1 87 0) 9) ≤ v3 → (((nI 1) = 0 ∨ (nI 1) = 1) ∧ out = .inl (some (.int (nI 1)), h))) ∧
 (¬ (h.1 (h.2.2.1 87 0) 9) ≤ v3 → (vp_in ((v3 * (nI 31)) + v1) 155 ∧ (vp_in ((v3 * (nI 31)) + v2) 155 ∧ mTrue (mOb (mLd (fun x1 => ((¬ x1 = (-1) → ((¬ (if (h.1 88 (((v3 * (nI 31)) + v2).toNatClampNeg)) < (h.1 88 (((v3 * (nI 31)) + v1).toNatClampNeg)) then (h.1 88 (((v3 * (nI 31)) + v2).toNatClampNeg)) else (h.1 88 (((v3 * (nI 31)) + v1).toNatClampNeg))) = x1 → mRuns (d + 1) 95 88 [some (.ref 87), some (.int v1), some (.int v2), some (.int v3), none, none, none, none] [.int (nI 0)] h out) ∧
 ((if (h.1 88 (((v3 * (nI 31)) + v2).toNatClampNeg)) < (h.1 88 (((v3 * (nI 31)) + v1).toNatClampNeg)) then (h.1 88 (((v3 * (nI 31)) + v2).toNatClampNeg)) else (h.1 88 (((v3 * (nI 31)) + v1).toNatClampNeg))) = x1 → mRuns (d + 1) 95 88 [some (.ref 87), some (.int v1), some (.int v2), some (.int v3), none, none, none, none] [.int (nI 1)] h out))) ∧
 (x1 = (-1) → (((if (h.1 88 (((v3 * (nI 31)) + v2).toNatClampNeg)) < (h.1 88 (((v3 * (nI 31)) + v1).toNatClampNeg)) then (h.1 88 (((v3 * (nI 31)) + v2).toNatClampNeg)) else (h.1 88 (((v3 * (nI 31)) + v1).toNatClampNeg))) ≤ (h.1 87 2) → mRuns (d + 1) 95 88 [some (.ref 87), some (.int v1), some (.int v2), some (.int v3), none, none, none, none] [.int (nI 0)] h out) ∧
 (¬ (if (h.1 88 (((v3 * (nI 31)) + v2).toNatClampNeg)) < (h.1 88 (((v3 * (nI 31)) + v1).toNatClampNeg)) then (h.1 88 (((v3 * (nI 31)) + v2).toNatClampNeg)) else (h.1 88 (((v3 * (nI 31)) + v1).toNatClampNeg))) ≤ (h.1 87 2) → mRuns (d + 1) 95 88 [some (.ref 87), some (.int v1), some (.int v2), some (.int v3), none, none, none, none] [.int (nI 1)] h out))))) h v3 ((h.2.2.1 87 1) + 5) (mSh ((h.2.2.1 87 1) + 5))) 3 (mSh (h.2.2.1 87 1))) (Nat.blt (h.2.2.1 87 1) 142)))))) 0 (mSh (h.2.2.1 87 0))) (Nat.blt (h.2.2.1 87 0) 142)) :
  mRuns (d + 1) 95 2 [some (.ref 87), some (.int v1), some (.int v2), some (.int v3), none, none, none, none] [] h out := mVc_from 39 H
set_option maxRecDepth 20000 in
theorem vc_Jdg_fitTogether_88 {d : Nat} {h : mHp} {out : mOut} {s0 : Int32} {v1 : Int32} {v2 : Int32} {v3 : Int32} (H : mTrue (mOb (mLd (fun x1 => ((x1 = (nI 4) → mRuns (d + 1) 95 2 [some (.ref 87), some (.int v1), some (.int v2), some (.int (v3 + nI 1)), none, none, none, none] [] h out) ∧
 (¬ x1 = (nI 4) → ((¬ s0 = 0 → mRuns (d + 1) 95 2 [some (.ref 87), some (.int v1), some (.int v2), some (.int (v3 + nI 1)), none, none, none, none] [] h out) ∧
 (s0 = 0 → (((nI 0) = 0 ∨ (nI 0) = 1) ∧ out = .inl (some (.int (nI 0)), h))))))) h v3 ((h.2.2.1 87 0) + 8) (mSh ((h.2.2.1 87 0) + 8))) 0 (mSh (h.2.2.1 87 0))) (Nat.blt (h.2.2.1 87 0) 142)) :
  mRuns (d + 1) 95 88 [some (.ref 87), some (.int v1), some (.int v2), some (.int v3), none, none, none, none] [.int s0] h out := mVc_from 13 H
-- TasterTable$Judge.fittingPairs()I
set_option maxRecDepth 20000 in
theorem vc_Jdg_fittingPairs {d : Nat} {h : mHp} {out : mOut}  (H : mRuns (d + 1) 96 4 [some (.ref 87), some (.int (nI 0)), some (.int (nI 1)), none] [] h out) :
  mRuns (d + 1) 96 0 [some (.ref 87), none, none, none] [] h out := mVc_from 5 H
set_option maxRecDepth 20000 in
theorem vc_Jdg_fittingPairs_4 {d : Nat} {h : mHp} {out : mOut} {v1 : Int32} {v2 : Int32} (H : (((h.1 87 3) ≤ v2 → out = .inl (some (.int v1), h)) ∧
 (¬ (h.1 87 3) ≤ v2 → mRuns (d + 1) 96 16 [some (.ref 87), some (.int v1), some (.int v2), some (.int (v2 + (nI 1)))] [] h out))) :
  mRuns (d + 1) 96 4 [some (.ref 87), some (.int v1), some (.int v2), none] [] h out := mVc_from 9 H
set_option maxRecDepth 20000 in
theorem vc_Jdg_fittingPairs_16 {d : Nat} {h : mHp} {out : mOut} {v1 : Int32} {v2 : Int32} {v3 : Int32} (H : (((h.1 87 3) ≤ v3 → mRuns (d + 1) 96 4 [some (.ref 87), some (.int v1), some (.int (v2 + nI 1)), none] [] h out) ∧
 (¬ (h.1 87 3) ≤ v3 → (∃ (x2 : Int32) (h1 : mHp), mRuns d 95 0 [some (.ref 87), some (.int v2), some (.int v3), none, none, none, none, none] [] h (.inl (some (.int x2), h1)) ∧
 ((x2 = 0 → mRuns (d + 1) 96 16 [some (.ref 87), some (.int v1), some (.int v2), some (.int (v3 + nI 1))] [] h1 out) ∧
 (¬ x2 = 0 → mRuns (d + 1) 96 16 [some (.ref 87), some (.int (v1 + nI 1)), some (.int v2), some (.int (v3 + nI 1))] [] h1 out)))))) :
  mRuns (d + 1) 96 16 [some (.ref 87), some (.int v1), some (.int v2), some (.int v3)] [] h out := mVc_from 13 H
-- TasterTable$Judge.caseAt(I)I
set_option maxRecDepth 20000 in
theorem vc_Jdg_caseAt {d : Nat} {h : mHp} {out : mOut} {a1 : Int32} (H : mRuns (d + 1) 97 4 [some (.ref 87), some (.int a1), some (.int (nI 0)), some (.int (nI 0))] [] h out) :
  mRuns (d + 1) 97 0 [some (.ref 87), some (.int a1), none, none] [] h out := mVc_from 5 H
set_option maxRecDepth 20000 in
theorem vc_Jdg_caseAt_4 {d : Nat} {h : mHp} {out : mOut} {v1 : Int32} {v2 : Int32} {v3 : Int32} (H : (((h.1 87 3) ≤ v3 → out = .inl (some (.int (-1)), h)) ∧
 (¬ (h.1 87 3) ≤ v3 → (vp_in v3 31 ∧ (((h.1 89 (v3.toNatClampNeg)) = 0 → mRuns (d + 1) 97 4 [some (.ref 87), some (.int v1), some (.int v2), some (.int (v3 + nI 1))] [] h out) ∧
 (¬ (h.1 89 (v3.toNatClampNeg)) = 0 → ((¬ v2 = v1 → mRuns (d + 1) 97 4 [some (.ref 87), some (.int v1), some (.int (v2 + nI 1)), some (.int (v3 + nI 1))] [] h out) ∧
 (v2 = v1 → out = .inl (some (.int v3), h))))))))) :
  mRuns (d + 1) 97 4 [some (.ref 87), some (.int v1), some (.int v2), some (.int v3)] [] h out := mVc_from 16 H
-- TasterTable$Judge.weightOf(I)I
set_option maxRecDepth 20000 in
theorem vc_Jdg_weightOf {d : Nat} {h : mHp} {out : mOut} {a1 : Int32} (H : ((¬ a1 = (-1) → mRuns (d + 1) 98 24 [some (.ref 87), some (.int a1), some (.int (nI 0)), some (.int (nI 0))] [] h out) ∧
 (a1 = (-1) → (vp_in (nI 0) 31 ∧ mTrue (mOb (out = .inl (some (.int ((h.1 89 ((nI 0).toNatClampNeg)) * (h.1 (h.2.2.1 87 0) 13))), h)) 0 (mSh (h.2.2.1 87 0))) (Nat.blt (h.2.2.1 87 0) 142))))) :
  mRuns (d + 1) 98 0 [some (.ref 87), some (.int a1), none, none] [] h out := mVc_from 12 H
set_option maxRecDepth 20000 in
theorem vc_Jdg_weightOf_24 {d : Nat} {h : mHp} {out : mOut} {v1 : Int32} {v2 : Int32} {v3 : Int32} (H : mTrue (mOb ((((h.1 (h.2.2.1 87 0) 4) ≤ v3 → out = .inl (some (.int v2), h)) ∧
 (¬ (h.1 (h.2.2.1 87 0) 4) ≤ v3 → (∃ (x2 : Int32) (h1 : mHp), mRuns d 94 0 [some (.ref 87), some (.int v1), some (.int v3)] [] h (.inl (some (.int x2), h1)) ∧
 (vp_in x2 31 ∧ mTrue (mOb (mLd (fun x3 => mTrue (mOb (mLd (fun x4 => mRuns (d + 1) 98 24 [some (.ref 87), some (.int v1), some (.int (v2 + (((h1.1 89 (x2.toNatClampNeg)) * x3) * x4))), some (.int (v3 + nI 1))] [] h1 out) h1 v3 ((h1.2.2.1 87 0) + 7) (mSh ((h1.2.2.1 87 0) + 7))) 0 (mSh (h1.2.2.1 87 0))) (Nat.blt (h1.2.2.1 87 0) 142)) h1 v1 ((h1.2.2.1 87 0) + 3) (mSh ((h1.2.2.1 87 0) + 3))) 0 (mSh (h1.2.2.1 87 0))) (Nat.blt (h1.2.2.1 87 0) 142)))))) 0 (mSh (h.2.2.1 87 0))) (Nat.blt (h.2.2.1 87 0) 142)) :
  mRuns (d + 1) 98 24 [some (.ref 87), some (.int v1), some (.int v2), some (.int v3)] [] h out := mVc_from 30 H
-- TasterTable$Judge.weightOfAll()I
set_option maxRecDepth 20000 in
theorem vc_Jdg_weightOfAll {d : Nat} {h : mHp} {out : mOut}  (H : (∃ (x2 : Int32) (h1 : mHp), mRuns d 98 0 [some (.ref 87), some (.int (-1)), none, none] [] h (.inl (some (.int x2), h1)) ∧
 mRuns (d + 1) 99 8 [some (.ref 87), some (.int x2), some (.int (nI 0))] [] h1 out)) :
  mRuns (d + 1) 99 0 [some (.ref 87), none, none] [] h out := mVc_from 7 H
set_option maxRecDepth 20000 in
theorem vc_Jdg_weightOfAll_8 {d : Nat} {h : mHp} {out : mOut} {v1 : Int32} {v2 : Int32} (H : mTrue (mOb ((((h.1 (h.2.2.1 87 0) 0) ≤ v2 → out = .inl (some (.int v1), h)) ∧
 (¬ (h.1 (h.2.2.1 87 0) 0) ≤ v2 → (∃ (x2 : Int32) (h1 : mHp), mRuns d 98 0 [some (.ref 87), some (.int v2), none, none] [] h (.inl (some (.int x2), h1)) ∧
 mRuns (d + 1) 99 8 [some (.ref 87), some (.int (v1 + x2)), some (.int (v2 + nI 1))] [] h1 out)))) 0 (mSh (h.2.2.1 87 0))) (Nat.blt (h.2.2.1 87 0) 142)) :
  mRuns (d + 1) 99 8 [some (.ref 87), some (.int v1), some (.int v2)] [] h out := mVc_from 14 H
-- TasterTable$Judge.chooseTrial()V
set_option maxRecDepth 20000 in
theorem vc_Jdg_chooseTrial {d : Nat} {h : mHp} {out : mOut}  (H : mRuns (d + 1) 100 12 [some (.ref 87), some (.int (nI 0)), none, none] [] (mPI (mPI h 87 7 (-1)) 87 8 (-1)) out) :
  mRuns (d + 1) 100 0 [some (.ref 87), none, none, none] [] h out := mVc_from 9 H
set_option maxRecDepth 20000 in
theorem vc_Jdg_chooseTrial_12 {d : Nat} {h : mHp} {out : mOut} {v1 : Int32} (H : mTrue (mOb ((((h.1 (h.2.2.1 87 0) 9) ≤ v1 → out = .inl (none, h)) ∧
 (¬ (h.1 (h.2.2.1 87 0) 9) ≤ v1 → mTrue (mOb (mLd (fun x1 => ((x1 = (nI 4) → mRuns (d + 1) 100 12 [some (.ref 87), some (.int (v1 + nI 1)), none, none] [] h out) ∧
 (¬ x1 = (nI 4) → mTrue (mOb (mLd (fun x2 => ((x2 = (-1) → mRuns (d + 1) 100 54 [some (.ref 87), some (.int v1), some (.int (nI 0)), none] [] h out) ∧
 (¬ x2 = (-1) → mRuns (d + 1) 100 12 [some (.ref 87), some (.int (v1 + nI 1)), none, none] [] h out))) h v1 ((h.2.2.1 87 1) + 5) (mSh ((h.2.2.1 87 1) + 5))) 3 (mSh (h.2.2.1 87 1))) (Nat.blt (h.2.2.1 87 1) 142)))) h v1 ((h.2.2.1 87 0) + 8) (mSh ((h.2.2.1 87 0) + 8))) 0 (mSh (h.2.2.1 87 0))) (Nat.blt (h.2.2.1 87 0) 142)))) 0 (mSh (h.2.2.1 87 0))) (Nat.blt (h.2.2.1 87 0) 142)) :
  mRuns (d + 1) 100 12 [some (.ref 87), some (.int v1), none, none] [] h out := mVc_from 23 H
set_option maxRecDepth 20000 in
theorem vc_Jdg_chooseTrial_54 {d : Nat} {h : mHp} {out : mOut} {v1 : Int32} {v2 : Int32} (H : mTrue (mOb (((((nI 2) * (h.1 (h.2.2.1 87 0) 0)) ≤ v2 → mRuns (d + 1) 100 12 [some (.ref 87), some (.int (v1 + nI 1)), none, none] [] h out) ∧
 (¬ ((nI 2) * (h.1 (h.2.2.1 87 0) 0)) ≤ v2 → (¬ (nI 2) = 0 ∧ (¬ (nI 2) = 0 ∧ (((v2 - v2 / (nI 2) * (nI 2)) = 0 → mRuns (d + 1) 100 83 [some (.ref 87), some (.int v1), some (.int v2), none] [.int (nI 0), .int (v2 / (nI 2)), .int v1, .ref 87] h out) ∧
 (¬ (v2 - v2 / (nI 2) * (nI 2)) = 0 → mRuns (d + 1) 100 83 [some (.ref 87), some (.int v1), some (.int v2), none] [.int (nI 1), .int (v2 / (nI 2)), .int v1, .ref 87] h out))))))) 0 (mSh (h.2.2.1 87 0))) (Nat.blt (h.2.2.1 87 0) 142)) :
  mRuns (d + 1) 100 54 [some (.ref 87), some (.int v1), some (.int v2), none] [] h out := mVc_from 19 H
set_option maxRecDepth 20000 in
theorem vc_Jdg_chooseTrial_83 {d : Nat} {h : mHp} {out : mOut} {s0 : Int32} {s1 : Int32} {s2 : Int32} {v1 : Int32} {v2 : Int32} (H : (∃ (x2 : Int32) (h1 : mHp), mRuns d 101 0 [some (.ref 87), some (.int s2), some (.int s1), some (.int s0), none, none, none, none, none, none] [] h (.inl (some (.int x2), h1)) ∧
 (((h1.1 87 7) = (-1) → mRuns (d + 1) 100 103 [some (.ref 87), some (.int v1), some (.int v2), some (.int x2)] [] h1 out) ∧
 (¬ (h1.1 87 7) = (-1) → (((h1.1 87 8) ≤ x2 → mRuns (d + 1) 100 54 [some (.ref 87), some (.int v1), some (.int (v2 + nI 1)), none] [] h1 out) ∧
 (¬ (h1.1 87 8) ≤ x2 → mRuns (d + 1) 100 103 [some (.ref 87), some (.int v1), some (.int v2), some (.int x2)] [] h1 out)))))) :
  mRuns (d + 1) 100 83 [some (.ref 87), some (.int v1), some (.int v2), none] [.int s0, .int s1, .int s2, .ref 87] h out := mVc_from 13 H
set_option maxRecDepth 20000 in
theorem vc_Jdg_chooseTrial_103 {d : Nat} {h : mHp} {out : mOut} {v1 : Int32} {v2 : Int32} {v3 : Int32} (H : mRuns (d + 1) 100 54 [some (.ref 87), some (.int v1), some (.int (v2 + nI 1)), none] [] (mPI (mPI h 87 7 (((nI 20) * v1) + v2)) 87 8 v3) out) :
  mRuns (d + 1) 100 103 [some (.ref 87), some (.int v1), some (.int v2), some (.int v3)] [] h out := mVc_from 13 H
-- TasterTable$Judge.greatestGroup(IIZ)I
set_option maxRecDepth 20000 in
theorem vc_Jdg_greatestGroup {d : Nat} {h : mHp} {out : mOut} {a1 : Int32} {a2 : Int32} {a3 : Int32} (H : mRuns (d + 1) 101 9 [some (.ref 87), some (.int a1), some (.int a2), some (.int a3), some (.int (nI 0)), some (.int (nI 0)), some (.int (nI 0)), none, none, none] [] h out) :
  mRuns (d + 1) 101 0 [some (.ref 87), some (.int a1), some (.int a2), some (.int a3), none, none, none, none, none, none] [] h out := mVc_from 7 H
set_option maxRecDepth 20000 in
theorem vc_Jdg_greatestGroup_9 {d : Nat} {h : mHp} {out : mOut} {v1 : Int32} {v2 : Int32} {v3 : Int32} {v4 : Int32} {v5 : Int32} {v6 : Int32} (H : mTrue (mOb ((((h.1 (h.2.2.1 87 0) 4) ≤ v6 → out = .inl (some (.int (if v4 < ((h.1 87 6) - v5) then ((h.1 87 6) - v5) else v4)), h)) ∧
 (¬ (h.1 (h.2.2.1 87 0) 4) ≤ v6 → (∃ (x2 : Int32) (h1 : mHp), mRuns d 102 0 [some (.ref 87), some (.int v1), some (.int v2), some (.int v6), some (.int v3)] [] h (.inl (some (.int x2), h1)) ∧
 ((¬ x2 = (-1) → mRuns (d + 1) 101 50 [some (.ref 87), some (.int v1), some (.int v2), some (.int v3), some (.int v4), some (.int (v5 + nI 1)), some (.int v6), some (.int x2), some (.int (nI 0)), some (.int (nI 0))] [] h1 out) ∧
 (x2 = (-1) → mRuns (d + 1) 101 9 [some (.ref 87), some (.int v1), some (.int v2), some (.int v3), some (.int v4), some (.int v5), some (.int (v6 + nI 1)), none, none, none] [] h1 out)))))) 0 (mSh (h.2.2.1 87 0))) (Nat.blt (h.2.2.1 87 0) 142)) :
  mRuns (d + 1) 101 9 [some (.ref 87), some (.int v1), some (.int v2), some (.int v3), some (.int v4), some (.int v5), some (.int v6), none, none, none] [] h out := mVc_from 21 H
set_option maxRecDepth 20000 in
theorem vc_Jdg_greatestGroup_50 {d : Nat} {h : mHp} {out : mOut} {v1 : Int32} {v2 : Int32} {v3 : Int32} {v4 : Int32} {v5 : Int32} {v6 : Int32} {v7 : Int32} {v8 : Int32} {v9 : Int32} (H : mTrue (mOb ((((h.1 (h.2.2.1 87 0) 4) ≤ v9 → mRuns (d + 1) 101 9 [some (.ref 87), some (.int v1), some (.int v2), some (.int v3), some (.int (if v4 < v8 then v8 else v4)), some (.int v5), some (.int (v6 + nI 1)), none, none, none] [] h out) ∧
 (¬ (h.1 (h.2.2.1 87 0) 4) ≤ v9 → (∃ (x2 : Int32) (h1 : mHp), mRuns d 102 0 [some (.ref 87), some (.int v1), some (.int v2), some (.int v9), some (.int v3)] [] h (.inl (some (.int x2), h1)) ∧
 ((¬ x2 = v7 → mRuns (d + 1) 101 50 [some (.ref 87), some (.int v1), some (.int v2), some (.int v3), some (.int v4), some (.int v5), some (.int v6), some (.int v7), some (.int v8), some (.int (v9 + nI 1))] [] h1 out) ∧
 (x2 = v7 → mRuns (d + 1) 101 50 [some (.ref 87), some (.int v1), some (.int v2), some (.int v3), some (.int v4), some (.int v5), some (.int v6), some (.int v7), some (.int (v8 + nI 1)), some (.int (v9 + nI 1))] [] h1 out)))))) 0 (mSh (h.2.2.1 87 0))) (Nat.blt (h.2.2.1 87 0) 142)) :
  mRuns (d + 1) 101 50 [some (.ref 87), some (.int v1), some (.int v2), some (.int v3), some (.int v4), some (.int v5), some (.int v6), some (.int v7), some (.int v8), some (.int v9)] [] h out := mVc_from 17 H
-- TasterTable$Judge.trialTicks(IIIZ)I
set_option maxRecDepth 20000 in
theorem vc_Jdg_trialTicks {d : Nat} {h : mHp} {out : mOut} {a1 : Int32} {a2 : Int32} {a3 : Int32} {a4 : Int32} (H : (∃ (x2 : Int32) (h1 : mHp), mRuns d 94 0 [some (.ref 87), some (.int a2), some (.int a3)] [] h (.inl (some (.int x2), h1)) ∧
 (vp_in x2 31 ∧ ((¬ (h1.1 89 (x2.toNatClampNeg)) = 0 → mTrue (mOb (∃ (x4 : Int32) (h3 : mHp), mRuns d 88 0 [some (.ref (h1.2.2.1 87 0)), some (.int a1), some (.int a3), some (.int a4)] [] h1 (.inl (some (.int x4), h3)) ∧
 out = .inl (some (.int x4), h3)) 0 (mSh (h1.2.2.1 87 0))) (Nat.blt (h1.2.2.1 87 0) 142)) ∧
 ((h1.1 89 (x2.toNatClampNeg)) = 0 → out = .inl (some (.int (-1)), h1)))))) :
  mRuns (d + 1) 102 0 [some (.ref 87), some (.int a1), some (.int a2), some (.int a3), some (.int a4)] [] h out := mVc_from 15 H
-- TasterTable$Planner.forget()V
set_option maxRecDepth 20000 in
theorem vc_Pln_forget {d : Nat} {h : mHp} {out : mOut}  (H : mRuns (d + 1) 103 2 [some (.ref 26), some (.int (nI 0))] [] h out) :
  mRuns (d + 1) 103 0 [some (.ref 26), none] [] h out := mVc_from 3 H
set_option maxRecDepth 20000 in
theorem vc_Pln_forget_2 {d : Nat} {h : mHp} {out : mOut} {v1 : Int32} (H : (((nI 18) ≤ v1 → out = .inl (none, h)) ∧
 (¬ (nI 18) ≤ v1 → (vp_in v1 18 ∧ mOb ((((nI 0) = 0 ∨ (nI 0) = 1) ∧ mRuns (d + 1) 103 2 [some (.ref 26), some (.int (v1 + nI 1))] [] (mPI h (27 + 6 + 3 * v1.toNatClampNeg) 0 (nI 0)) out)) 4 (mSh (27 + 6 + 3 * v1.toNatClampNeg)))))) :
  mRuns (d + 1) 103 2 [some (.ref 26), some (.int v1)] [] h out := mVc_from 14 H
-- TasterTable$Planner.planFor(LTasterTable$Board;II)LTasterTable$Plan;
set_option maxRecDepth 20000 in
theorem vc_Pln_planFor {d : Nat} {h : mHp} {out : mOut} {a1 : Nat} {a2 : Int32} {a3 : Int32} (H : (vp_in (((a2 * (nI 6)) + a3) + (nI 1)) 18 ∧ mOb ((((h.1 (27 + 6 + 3 * (((a2 * (nI 6)) + a3) + (nI 1)).toNatClampNeg) 0) = 0 → mOb ((((nI 1) = 0 ∨ (nI 1) = 1) ∧ mOb ((((nI 0) = 0 ∨ (nI 0) = 1) ∧ mOb ((∃ (x2 : Int32) (h1 : mHp), mRuns d 105 0 [some (.ref 26), some (.int a3), none, none] [] (mPR (mPI (mPI h (27 + 6 + 3 * (((a2 * (nI 6)) + a3) + (nI 1)).toNatClampNeg) 0 (nI 1)) (27 + 6 + 3 * (((a2 * (nI 6)) + a3) + (nI 1)).toNatClampNeg) 1 (nI 0)) 26 1 a1) (.inl (some (.int x2), h1)) ∧
 (∃ h3 : mHp, mRuns d 106 0 [some (.ref 26), some (.int a2), some (.int x2), none] [] h1 (.inl (none, h3)) ∧
 (∃ h4 : mHp, mRuns d 109 0 [some (.ref 26), none] [] h3 (.inl (none, h4)) ∧
 mRuns (d + 1) 104 64 [some (.ref 26), none, none, none, some (.ref (27 + 6 + 3 * (((a2 * (nI 6)) + a3) + (nI 1)).toNatClampNeg)), some (.int x2), some (.int (nI 0)), none] [] h4 out)))) 0 (mSh a1))) 4 (mSh (27 + 6 + 3 * (((a2 * (nI 6)) + a3) + (nI 1)).toNatClampNeg)))) 4 (mSh (27 + 6 + 3 * (((a2 * (nI 6)) + a3) + (nI 1)).toNatClampNeg))) ∧
 (¬ (h.1 (27 + 6 + 3 * (((a2 * (nI 6)) + a3) + (nI 1)).toNatClampNeg) 0) = 0 → out = .inl (some (.ref (27 + 6 + 3 * (((a2 * (nI 6)) + a3) + (nI 1)).toNatClampNeg)), h)))) 4 (mSh (27 + 6 + 3 * (((a2 * (nI 6)) + a3) + (nI 1)).toNatClampNeg)))) :
  mRuns (d + 1) 104 0 [some (.ref 26), some (.ref a1), some (.int a2), some (.int a3), none, none, none, none] [] h out := mVc_from 36 H
set_option maxRecDepth 20000 in
theorem vc_Pln_planFor_64 {d : Nat} {h : mHp} {out : mOut} {v4 : Nat} {v5 : Int32} {v6 : Int32} (H : (((nI 5) < v6 → mRuns (d + 1) 104 131 [some (.ref 26), none, none, none, some (.ref v4), none, some (.int (nI 0)), none] [] h out) ∧
 (¬ (nI 5) < v6 → mOb (((¬ (h.1 v4 1) = 0 → mRuns (d + 1) 104 131 [some (.ref 26), none, none, none, some (.ref v4), none, some (.int (nI 0)), none] [] h out) ∧
 ((h.1 v4 1) = 0 → mRuns (d + 1) 104 81 [some (.ref 26), none, none, none, some (.ref v4), some (.int v5), some (.int v6), some (.int (nI 0))] [] h out))) 4 (mSh v4)))) :
  mRuns (d + 1) 104 64 [some (.ref 26), none, none, none, some (.ref v4), some (.int v5), some (.int v6), none] [] h out := mVc_from 9 H
set_option maxRecDepth 20000 in
theorem vc_Pln_planFor_81 {d : Nat} {h : mHp} {out : mOut} {v4 : Nat} {v5 : Int32} {v6 : Int32} {v7 : Int32} (H : (((nI 32) ≤ v7 → mRuns (d + 1) 104 64 [some (.ref 26), none, none, none, some (.ref v4), some (.int v5), some (.int (v6 + nI 1)), none] [] h out) ∧
 (¬ (nI 32) ≤ v7 → ((¬ (v7 &&& (v5 ^^^ (-1))) = 0 → mRuns (d + 1) 104 81 [some (.ref 26), none, none, none, some (.ref v4), some (.int v5), some (.int v6), some (.int (v7 + nI 1))] [] h out) ∧
 ((v7 &&& (v5 ^^^ (-1))) = 0 → (∃ (x2 : Int32) (h1 : mHp), mRuns d 3 0 [some (.int v7)] [] h (.inl (some (.int x2), h1)) ∧
 ((¬ x2 = v6 → mRuns (d + 1) 104 81 [some (.ref 26), none, none, none, some (.ref v4), some (.int v5), some (.int v6), some (.int (v7 + nI 1))] [] h1 out) ∧
 (x2 = v6 → (∃ h3 : mHp, mRuns d 111 0 [some (.ref 26), some (.int v7), some (.ref v4), none, none, none] [] h1 (.inl (none, h3)) ∧
 mRuns (d + 1) 104 81 [some (.ref 26), none, none, none, some (.ref v4), some (.int v5), some (.int v6), some (.int (v7 + nI 1))] [] h3 out))))))))) :
  mRuns (d + 1) 104 81 [some (.ref 26), none, none, none, some (.ref v4), some (.int v5), some (.int v6), some (.int v7)] [] h out := mVc_from 20 H
set_option maxRecDepth 20000 in
theorem vc_Pln_planFor_131 {d : Nat} {h : mHp} {out : mOut} {v4 : Nat} {v6 : Int32} (H : mTrue (mOb ((((h.1 (h.2.2.1 26 1) 0) ≤ v6 → out = .inl (some (.ref v4), h)) ∧
 (¬ (h.1 (h.2.2.1 26 1) 0) ≤ v6 → mOb ((((h.1 v4 1) = 0 → out = .inl (some (.ref v4), h)) ∧
 (¬ (h.1 v4 1) = 0 → mOb (mTrue (mOb (mLd (fun x1 => mOb (mLd (fun x2 => (vp_in x2 32 ∧ mAr 1 (fun n3 _ => vp_in v6 n3 ∧ mRuns (d + 1) 104 131 [some (.ref 26), none, none, none, some (.ref v4), none, some (.int (v6 + nI 1)), none] [] (mPI h (v4 + 2) v6.toNatClampNeg (x1 - (h.1 28 (x2.toNatClampNeg)))) out) (mSh (v4 + 2)))) h v6 (v4 + 1) (mSh (v4 + 1))) 4 (mSh v4)) h v6 ((h.2.2.1 26 1) + 2) (mSh ((h.2.2.1 26 1) + 2))) 0 (mSh (h.2.2.1 26 1))) (Nat.blt (h.2.2.1 26 1) 142)) 4 (mSh v4)))) 4 (mSh v4)))) 0 (mSh (h.2.2.1 26 1))) (Nat.blt (h.2.2.1 26 1) 142)) :
  mRuns (d + 1) 104 131 [some (.ref 26), none, none, none, some (.ref v4), none, some (.int v6), none] [] h out := mVc_from 28 H
-- TasterTable$Planner.freeTasters(I)I
set_option maxRecDepth 20000 in
theorem vc_Pln_freeTasters {d : Nat} {h : mHp} {out : mOut} {a1 : Int32} (H : mRuns (d + 1) 105 4 [some (.ref 26), some (.int a1), some (.int (nI 0)), some (.int (nI 0))] [] h out) :
  mRuns (d + 1) 105 0 [some (.ref 26), some (.int a1), none, none] [] h out := mVc_from 5 H
set_option maxRecDepth 20000 in
theorem vc_Pln_freeTasters_4 {d : Nat} {h : mHp} {out : mOut} {v1 : Int32} {v2 : Int32} {v3 : Int32} (H : mTrue (mOb ((((h.1 (h.2.2.1 26 1) 9) ≤ v3 → out = .inl (some (.int v2), h)) ∧
 (¬ (h.1 (h.2.2.1 26 1) 9) ≤ v3 → ((v3 = v1 → mRuns (d + 1) 105 4 [some (.ref 26), some (.int v1), some (.int v2), some (.int (v3 + nI 1))] [] h out) ∧
 (¬ v3 = v1 → mTrue (mOb (mLd (fun x1 => ((x1 = (nI 4) → mRuns (d + 1) 105 4 [some (.ref 26), some (.int v1), some (.int v2), some (.int (v3 + nI 1))] [] h out) ∧
 (¬ x1 = (nI 4) → mRuns (d + 1) 105 4 [some (.ref 26), some (.int v1), some (.int (v2 ||| ((nI 1) <<< (v3 &&& 31)))), some (.int (v3 + nI 1))] [] h out))) h v3 ((h.2.2.1 26 1) + 8) (mSh ((h.2.2.1 26 1) + 8))) 0 (mSh (h.2.2.1 26 1))) (Nat.blt (h.2.2.1 26 1) 142)))))) 0 (mSh (h.2.2.1 26 1))) (Nat.blt (h.2.2.1 26 1) 142)) :
  mRuns (d + 1) 105 4 [some (.ref 26), some (.int v1), some (.int v2), some (.int v3)] [] h out := mVc_from 24 H
-- TasterTable$Planner.weighSets(II)V
set_option maxRecDepth 20000 in
theorem vc_Pln_weighSets {d : Nat} {h : mHp} {out : mOut} {a1 : Int32} {a2 : Int32} (H : mRuns (d + 1) 106 2 [some (.ref 26), some (.int a1), some (.int a2), some (.int (nI 0))] [] h out) :
  mRuns (d + 1) 106 0 [some (.ref 26), some (.int a1), some (.int a2), none] [] h out := mVc_from 3 H
set_option maxRecDepth 20000 in
theorem vc_Pln_weighSets_2 {d : Nat} {h : mHp} {out : mOut} {v1 : Int32} {v2 : Int32} {v3 : Int32} (H : (((nI 32) ≤ v3 → out = .inl (none, h)) ∧
 (¬ (nI 32) ≤ v3 → ((¬ (v3 &&& (v2 ^^^ (-1))) = 0 → (vp_in v3 32 ∧ mRuns (d + 1) 106 2 [some (.ref 26), some (.int v1), some (.int v2), some (.int (v3 + nI 1))] [] (mPI h 28 v3.toNatClampNeg (-1)) out)) ∧
 ((v3 &&& (v2 ^^^ (-1))) = 0 → (∃ (x2 : Int32) (h1 : mHp), mRuns d 107 0 [some (.ref 26), some (.int v3), some (.int v1), none, none, none] [] h (.inl (some (.int x2), h1)) ∧
 (vp_in v3 32 ∧ mRuns (d + 1) 106 2 [some (.ref 26), some (.int v1), some (.int v2), some (.int (v3 + nI 1))] [] (mPI h1 28 v3.toNatClampNeg x2) out))))))) :
  mRuns (d + 1) 106 2 [some (.ref 26), some (.int v1), some (.int v2), some (.int v3)] [] h out := mVc_from 21 H
-- TasterTable$Planner.coldOfSet(II)I
set_option maxRecDepth 20000 in
theorem vc_Pln_coldOfSet {d : Nat} {h : mHp} {out : mOut} {a1 : Int32} {a2 : Int32} (H : mRuns (d + 1) 107 5 [some (.ref 26), some (.int a1), some (.int a2), some (.int (nI 0)), some (.int (nI 0)), none] [] h out) :
  mRuns (d + 1) 107 0 [some (.ref 26), some (.int a1), some (.int a2), none, none, none] [] h out := mVc_from 5 H
set_option maxRecDepth 20000 in
theorem vc_Pln_coldOfSet_5 {d : Nat} {h : mHp} {out : mOut} {v1 : Int32} {v2 : Int32} {v3 : Int32} {v4 : Int32} (H : mTrue (mOb ((((h.1 (h.2.2.1 26 1) 4) ≤ v4 → out = .inl (some (.int v3), h)) ∧
 (¬ (h.1 (h.2.2.1 26 1) 4) ≤ v4 → (∃ (x2 : Int32) (h1 : mHp), mRuns d 108 0 [some (.ref 26), some (.int v1), some (.int v4), some (.int v2), none, none, none, none, none] [] h (.inl (some (.int x2), h1)) ∧
 ((¬ x2 = (-1) → mRuns (d + 1) 107 5 [some (.ref 26), some (.int v1), some (.int v2), some (.int (if v3 < x2 then x2 else v3)), some (.int (v4 + nI 1)), none] [] h1 out) ∧
 (x2 = (-1) → out = .inl (some (.int (-1)), h1))))))) 0 (mSh (h.2.2.1 26 1))) (Nat.blt (h.2.2.1 26 1) 142)) :
  mRuns (d + 1) 107 5 [some (.ref 26), some (.int v1), some (.int v2), some (.int v3), some (.int v4), none] [] h out := mVc_from 21 H
-- TasterTable$Planner.ticksToTell(III)I
set_option maxRecDepth 20000 in
theorem vc_Pln_ticksToTell {d : Nat} {h : mHp} {out : mOut} {a1 : Int32} {a2 : Int32} {a3 : Int32} (H : mRuns (d + 1) 108 18 [some (.ref 26), some (.int a1), some (.int a2), some (.int a3), some (.int (nI 1023)), some (.int (nI 1023)), some (.int (nI 1023)), some (.int (nI 0)), none] [] h out) :
  mRuns (d + 1) 108 0 [some (.ref 26), some (.int a1), some (.int a2), some (.int a3), none, none, none, none, none] [] h out := mVc_from 9 H
set_option maxRecDepth 20000 in
theorem vc_Pln_ticksToTell_18 {d : Nat} {h : mHp} {out : mOut} {v1 : Int32} {v2 : Int32} {v3 : Int32} {v4 : Int32} {v5 : Int32} {v6 : Int32} {v7 : Int32} (H : mTrue (mOb ((((h.1 (h.2.2.1 26 1) 9) ≤ v7 → ((¬ v3 = 0 → ((¬ v3 = (nI 1) → ((¬ v6 = (nI 1023) → out = .inl (some (.int v6), h)) ∧
 (v6 = (nI 1023) → out = .inl (some (.int (-1)), h)))) ∧
 (v3 = (nI 1) → ((¬ v5 = (nI 1023) → out = .inl (some (.int v5), h)) ∧
 (v5 = (nI 1023) → out = .inl (some (.int (-1)), h)))))) ∧
 (v3 = 0 → ((¬ v4 = (nI 1023) → out = .inl (some (.int v4), h)) ∧
 (v4 = (nI 1023) → out = .inl (some (.int (-1)), h)))))) ∧
 (¬ (h.1 (h.2.2.1 26 1) 9) ≤ v7 → ((((v1 >>> (v7 &&& 31)) &&& (nI 1)) = 0 → mRuns (d + 1) 108 54 [some (.ref 26), some (.int v1), some (.int v2), some (.int v3), some (.int v4), some (.int v5), some (.int v6), some (.int v7), none] [.int (-1)] h out) ∧
 (¬ ((v1 >>> (v7 &&& 31)) &&& (nI 1)) = 0 → mTrue (mOb (∃ (x2 : Int32) (h1 : mHp), mRuns d 88 0 [some (.ref (h.2.2.1 26 1)), some (.int v7), some (.int v2), some (.int (nI 1))] [] h (.inl (some (.int x2), h1)) ∧
 mRuns (d + 1) 108 54 [some (.ref 26), some (.int v1), some (.int v2), some (.int v3), some (.int v4), some (.int v5), some (.int v6), some (.int v7), none] [.int x2] h1 out) 0 (mSh (h.2.2.1 26 1))) (Nat.blt (h.2.2.1 26 1) 142)))))) 0 (mSh (h.2.2.1 26 1))) (Nat.blt (h.2.2.1 26 1) 142)) :
  mRuns (d + 1) 108 18 [some (.ref 26), some (.int v1), some (.int v2), some (.int v3), some (.int v4), some (.int v5), some (.int v6), some (.int v7), none] [] h out := mVc_from 19 H
set_option maxRecDepth 20000 in
theorem vc_Pln_ticksToTell_54 {d : Nat} {h : mHp} {out : mOut} {s0 : Int32} {v1 : Int32} {v2 : Int32} {v3 : Int32} {v4 : Int32} {v5 : Int32} {v6 : Int32} {v7 : Int32} (H : ((s0 = (-1) → mRuns (d + 1) 108 18 [some (.ref 26), some (.int v1), some (.int v2), some (.int v3), some (.int v4), some (.int v5), some (.int v6), some (.int (v7 + nI 1)), none] [] h out) ∧
 (¬ s0 = (-1) → mRuns (d + 1) 108 18 [some (.ref 26), some (.int v1), some (.int v2), some (.int v3), some (.int (if s0 < v4 then s0 else v4)), some (.int (if (if v4 < s0 then s0 else v4) < v5 then (if v4 < s0 then s0 else v4) else v5)), some (.int (if (if v5 < s0 then s0 else v5) < v6 then (if v5 < s0 then s0 else v5) else v6)), some (.int (v7 + nI 1)), none] [] h out))) :
  mRuns (d + 1) 108 54 [some (.ref 26), some (.int v1), some (.int v2), some (.int v3), some (.int v4), some (.int v5), some (.int v6), some (.int v7), none] [.int s0] h out := mVc_from 23 H
-- TasterTable$Planner.gatherLeanSets()V
set_option maxRecDepth 20000 in
theorem vc_Pln_gatherLeanSets {d : Nat} {h : mHp} {out : mOut}  (H : mRuns (d + 1) 109 7 [some (.ref 26), some (.int (nI 0))] [] (mPI h 26 4 (nI 0)) out) :
  mRuns (d + 1) 109 0 [some (.ref 26), none] [] h out := mVc_from 6 H
set_option maxRecDepth 20000 in
theorem vc_Pln_gatherLeanSets_7 {d : Nat} {h : mHp} {out : mOut} {v1 : Int32} (H : (((nI 32) ≤ v1 → out = .inl (none, h)) ∧
 (¬ (nI 32) ≤ v1 → (vp_in v1 32 ∧ (((h.1 28 (v1.toNatClampNeg)) = (-1) → mRuns (d + 1) 109 7 [some (.ref 26), some (.int (v1 + nI 1))] [] h out) ∧
 (¬ (h.1 28 (v1.toNatClampNeg)) = (-1) → (∃ (x2 : Int32) (h1 : mHp), mRuns d 110 0 [some (.ref 26), some (.int v1), none, none] [] h (.inl (some (.int x2), h1)) ∧
 ((x2 = 0 → mRuns (d + 1) 109 7 [some (.ref 26), some (.int (v1 + nI 1))] [] h1 out) ∧
 (¬ x2 = 0 → (vp_in (h1.1 26 4) 32 ∧ mRuns (d + 1) 109 7 [some (.ref 26), some (.int (v1 + nI 1))] [] (mPI (mPI h1 29 (h1.1 26 4).toNatClampNeg v1) 26 4 (((mPI h1 29 (h1.1 26 4).toNatClampNeg v1).1 26 4) + (nI 1))) out)))))))))) :
  mRuns (d + 1) 109 7 [some (.ref 26), some (.int v1)] [] h out := mVc_from 28 H
-- TasterTable$Planner.isLean(I)Z
set_option maxRecDepth 20000 in
theorem vc_Pln_isLean {d : Nat} {h : mHp} {out : mOut} {a1 : Int32} (H : mRuns (d + 1) 110 2 [some (.ref 26), some (.int a1), some (.int (nI 0)), none] [] h out) :
  mRuns (d + 1) 110 0 [some (.ref 26), some (.int a1), none, none] [] h out := mVc_from 3 H
set_option maxRecDepth 20000 in
theorem vc_Pln_isLean_2 {d : Nat} {h : mHp} {out : mOut} {v1 : Int32} {v2 : Int32} (H : (((nI 5) ≤ v2 → (((nI 1) = 0 ∨ (nI 1) = 1) ∧ out = .inl (some (.int (nI 1)), h))) ∧
 (¬ (nI 5) ≤ v2 → (((v1 &&& ((nI 1) <<< (v2 &&& 31))) = 0 → mRuns (d + 1) 110 2 [some (.ref 26), some (.int v1), some (.int (v2 + nI 1)), none] [] h out) ∧
 (¬ (v1 &&& ((nI 1) <<< (v2 &&& 31))) = 0 → (vp_in (v1 ^^^ ((nI 1) <<< (v2 &&& 31))) 32 ∧ (vp_in v1 32 ∧ ((¬ (h.1 28 ((v1 ^^^ ((nI 1) <<< (v2 &&& 31))).toNatClampNeg)) = (h.1 28 (v1.toNatClampNeg)) → mRuns (d + 1) 110 2 [some (.ref 26), some (.int v1), some (.int (v2 + nI 1)), none] [] h out) ∧
 ((h.1 28 ((v1 ^^^ ((nI 1) <<< (v2 &&& 31))).toNatClampNeg)) = (h.1 28 (v1.toNatClampNeg)) → (((nI 0) = 0 ∨ (nI 0) = 1) ∧ out = .inl (some (.int (nI 0)), h))))))))))) :
  mRuns (d + 1) 110 2 [some (.ref 26), some (.int v1), some (.int v2), none] [] h out := mVc_from 25 H
-- TasterTable$Planner.tryCompany(ILTasterTable$Plan;)V
set_option maxRecDepth 20000 in
theorem vc_Pln_tryCompany {d : Nat} {h : mHp} {out : mOut} {a1 : Int32} {a2 : Nat} (H : mTrue (mOb (((¬ (h.1 (h.2.2.1 26 1) 0) = 0 → (vp_in a1 32 ∧ mRuns (d + 1) 111 22 [some (.ref 26), some (.int a1), some (.ref a2), some (.int (h.1 (h.2.2.1 26 1) 0)), none, none] [.int (h.1 28 (a1.toNatClampNeg))] h out)) ∧
 ((h.1 (h.2.2.1 26 1) 0) = 0 → mRuns (d + 1) 111 22 [some (.ref 26), some (.int a1), some (.ref a2), some (.int (h.1 (h.2.2.1 26 1) 0)), none, none] [.int (nI 0)] h out))) 0 (mSh (h.2.2.1 26 1))) (Nat.blt (h.2.2.1 26 1) 142)) :
  mRuns (d + 1) 111 0 [some (.ref 26), some (.int a1), some (.ref a2), none, none, none] [] h out := mVc_from 11 H
set_option maxRecDepth 20000 in
theorem vc_Pln_tryCompany_22 {d : Nat} {h : mHp} {out : mOut} {s0 : Int32} {v1 : Int32} {v2 : Nat} {v3 : Int32} (H : ((s0 = (-1) → out = .inl (none, h)) ∧
 (¬ s0 = (-1) → (∃ (x2 : Int32) (h1 : mHp), mRuns d 112 0 [some (.ref 26), none, none] [] h (.inl (some (.int x2), h1)) ∧
 ((s0 ≤ x2 → mOb ((((h1.1 v2 1) = 0 → mRuns (d + 1) 111 59 [some (.ref 26), some (.int v1), some (.ref v2), some (.int v3), some (.int s0), none] [] h1 out) ∧
 (¬ (h1.1 v2 1) = 0 → mOb ((((s0 * v3) ≤ (h1.1 v2 3) → mRuns (d + 1) 111 59 [some (.ref 26), some (.int v1), some (.ref v2), some (.int v3), some (.int s0), none] [] h1 out) ∧
 (¬ (s0 * v3) ≤ (h1.1 v2 3) → out = .inl (none, h1)))) 4 (mSh v2)))) 4 (mSh v2)) ∧
 (¬ s0 ≤ x2 → out = .inl (none, h1))))))) :
  mRuns (d + 1) 111 22 [some (.ref 26), some (.int v1), some (.ref v2), some (.int v3), none, none] [.int s0] h out := mVc_from 18 H
set_option maxRecDepth 20000 in
theorem vc_Pln_tryCompany_59 {d : Nat} {h : mHp} {out : mOut} {v1 : Int32} {v2 : Nat} {v3 : Int32} {v4 : Int32} (H : (∃ (x2 : Int32) (h1 : mHp), mRuns d 114 0 [some (.ref 26), some (.int v1), some (.int v4), none] [] h (.inl (some (.int x2), h1)) ∧
 ((¬ x2 = 0 → mRuns (d + 1) 111 100 [some (.ref 26), some (.int v1), some (.ref v2), some (.int v3), none, some (.int (v4 * v3))] [] h1 out) ∧
 (x2 = 0 → (∃ h3 : mHp, mRuns d 116 0 [some (.ref 26), some (.int v1), none] [] h1 (.inl (none, h3)) ∧
 (∃ (x5 : Int32) (h4 : mHp), mRuns d 117 0 [some (.ref 26), some (.int (nI 0)), none, none, none, none, none] [] h3 (.inl (some (.int x5), h4)) ∧
 ((x5 < (nI 1023) → (∃ h6 : mHp, mRuns d 122 0 [some (.ref 26), none, none, none, none] [] h4 (.inl (none, h6)) ∧
 mRuns (d + 1) 111 100 [some (.ref 26), some (.int v1), some (.ref v2), some (.int v3), none, some (.int x5)] [] h6 out)) ∧
 (¬ x5 < (nI 1023) → out = .inl (none, h4))))))))) :
  mRuns (d + 1) 111 59 [some (.ref 26), some (.int v1), some (.ref v2), some (.int v3), some (.int v4), none] [] h out := mVc_from 22 H
set_option maxRecDepth 20000 in
theorem vc_Pln_tryCompany_100 {d : Nat} {h : mHp} {out : mOut} {v1 : Int32} {v2 : Nat} {v3 : Int32} {v5 : Int32} (H : mOb ((((h.1 v2 1) = 0 → mRuns (d + 1) 111 136 [some (.ref 26), some (.int v1), some (.ref v2), some (.int v3), none, some (.int v5)] [] h out) ∧
 (¬ (h.1 v2 1) = 0 → mOb (((v5 < (h.1 v2 3) → mRuns (d + 1) 111 136 [some (.ref 26), some (.int v1), some (.ref v2), some (.int v3), none, some (.int v5)] [] h out) ∧
 (¬ v5 < (h.1 v2 3) → mOb (((¬ v5 = (h.1 v2 3) → out = .inl (none, h)) ∧
 (v5 = (h.1 v2 3) → mOb ((∃ (x2 : Int32) (h1 : mHp), mRuns d 123 0 [some (.ref 26), some (.ref (v2 + 1)), none] [] h (.inl (some (.int x2), h1)) ∧
 ((x2 = 0 → out = .inl (none, h1)) ∧
 (¬ x2 = 0 → mRuns (d + 1) 111 136 [some (.ref 26), some (.int v1), some (.ref v2), some (.int v3), none, some (.int v5)] [] h1 out)))) 4 (mSh v2)))) 4 (mSh v2)))) 4 (mSh v2)))) 4 (mSh v2)) :
  mRuns (d + 1) 111 100 [some (.ref 26), some (.int v1), some (.ref v2), some (.int v3), none, some (.int v5)] [] h out := mVc_from 17 H
set_option maxRecDepth 20000 in
theorem vc_Pln_tryCompany_136 {d : Nat} {h : mHp} {out : mOut} {v1 : Int32} {v2 : Nat} {v3 : Int32} {v5 : Int32} (H : mOb ((((nI 1) = 0 ∨ (nI 1) = 1) ∧ (∃ (x2 : Int32) (h1 : mHp), mRuns d 3 0 [some (.int v1)] [] (mPI h v2 1 (nI 1)) (.inl (some (.int x2), h1)) ∧
 mOb (mOb (mOb (mAr 1 (fun n3 _ => (¬ (nI 0) < 0 ∧ ¬ (nI 0) < 0 ∧ ¬ v3 < 0 ∧ (nI 0).toNatClampNeg + v3.toNatClampNeg ≤ 6 ∧ (nI 0).toNatClampNeg + v3.toNatClampNeg ≤ n3 ∧ out = .inl (none, mCp (mPI (mPI h1 v2 2 x2) v2 3 v5) 31 (nI 0).toNatClampNeg (v2 + 1) (nI 0).toNatClampNeg v3.toNatClampNeg))) (mSh (v2 + 1))) 4 (mSh v2)) 4 (mSh v2)) 4 (mSh v2)))) 4 (mSh v2)) :
  mRuns (d + 1) 111 136 [some (.ref 26), some (.int v1), some (.ref v2), some (.int v3), none, some (.int v5)] [] h out := mVc_from 19 H
-- TasterTable$Planner.shortestTime()I
set_option maxRecDepth 20000 in
theorem vc_Pln_shortestTime {d : Nat} {h : mHp} {out : mOut}  (H : mRuns (d + 1) 112 6 [some (.ref 26), some (.int (nI 1023)), some (.int (nI 0))] [] h out) :
  mRuns (d + 1) 112 0 [some (.ref 26), none, none] [] h out := mVc_from 5 H
set_option maxRecDepth 20000 in
theorem vc_Pln_shortestTime_6 {d : Nat} {h : mHp} {out : mOut} {v1 : Int32} {v2 : Int32} (H : mTrue (mOb ((((h.1 (h.2.2.1 26 1) 0) ≤ v2 → out = .inl (some (.int v1), h)) ∧
 (¬ (h.1 (h.2.2.1 26 1) 0) ≤ v2 → (∃ (x2 : Int32) (h1 : mHp), mRuns d 113 0 [some (.ref 26), some (.int v2)] [] h (.inl (some (.int x2), h1)) ∧
 mRuns (d + 1) 112 6 [some (.ref 26), some (.int (if x2 < v1 then x2 else v1)), some (.int (v2 + nI 1))] [] h1 out)))) 0 (mSh (h.2.2.1 26 1))) (Nat.blt (h.2.2.1 26 1) 142)) :
  mRuns (d + 1) 112 6 [some (.ref 26), some (.int v1), some (.int v2)] [] h out := mVc_from 14 H
-- TasterTable$Planner.timeOf(I)I
set_option maxRecDepth 20000 in
theorem vc_Pln_timeOf {d : Nat} {h : mHp} {out : mOut} {a1 : Int32} (H : mTrue (mOb (mLd (fun x1 => mTrue (mOb (mLd (fun x2 => out = .inl (some (.int (x1 - x2)), h)) h a1 ((h.2.2.1 26 1) + 1) (mSh ((h.2.2.1 26 1) + 1))) 0 (mSh (h.2.2.1 26 1))) (Nat.blt (h.2.2.1 26 1) 142)) h a1 ((h.2.2.1 26 1) + 2) (mSh ((h.2.2.1 26 1) + 2))) 0 (mSh (h.2.2.1 26 1))) (Nat.blt (h.2.2.1 26 1) 142)) :
  mRuns (d + 1) 113 0 [some (.ref 26), some (.int a1)] [] h out := mVc_from 12 H
-- TasterTable$Planner.chooseSameSet(II)Z
set_option maxRecDepth 20000 in
theorem vc_Pln_chooseSameSet {d : Nat} {h : mHp} {out : mOut} {a1 : Int32} {a2 : Int32} (H : mRuns (d + 1) 114 2 [some (.ref 26), some (.int a1), some (.int a2), some (.int (nI 0))] [] h out) :
  mRuns (d + 1) 114 0 [some (.ref 26), some (.int a1), some (.int a2), none] [] h out := mVc_from 3 H
set_option maxRecDepth 20000 in
theorem vc_Pln_chooseSameSet_2 {d : Nat} {h : mHp} {out : mOut} {v1 : Int32} {v2 : Int32} {v3 : Int32} (H : (((nI 32) ≤ v3 → mTrue (mOb (((¬ (h.1 (h.2.2.1 26 1) 0) = 0 → (((nI 0) = 0 ∨ (nI 0) = 1) ∧ out = .inl (some (.int (nI 0)), h))) ∧
 ((h.1 (h.2.2.1 26 1) 0) = 0 → (((nI 1) = 0 ∨ (nI 1) = 1) ∧ out = .inl (some (.int (nI 1)), h))))) 0 (mSh (h.2.2.1 26 1))) (Nat.blt (h.2.2.1 26 1) 142)) ∧
 (¬ (nI 32) ≤ v3 → mTrue (mOb ((((h.1 (h.2.2.1 26 1) 0) ≤ 0 → mTrue (mOb (((¬ (h.1 (h.2.2.1 26 1) 0) = 0 → (((nI 0) = 0 ∨ (nI 0) = 1) ∧ out = .inl (some (.int (nI 0)), h))) ∧
 ((h.1 (h.2.2.1 26 1) 0) = 0 → (((nI 1) = 0 ∨ (nI 1) = 1) ∧ out = .inl (some (.int (nI 1)), h))))) 0 (mSh (h.2.2.1 26 1))) (Nat.blt (h.2.2.1 26 1) 142)) ∧
 (¬ (h.1 (h.2.2.1 26 1) 0) ≤ 0 → ((¬ (v3 &&& (v1 ^^^ (-1))) = 0 → mRuns (d + 1) 114 2 [some (.ref 26), some (.int v1), some (.int v2), some (.int (v3 + nI 1))] [] h out) ∧
 ((v3 &&& (v1 ^^^ (-1))) = 0 → (vp_in v3 32 ∧ ((¬ (h.1 28 (v3.toNatClampNeg)) = v2 → mRuns (d + 1) 114 2 [some (.ref 26), some (.int v1), some (.int v2), some (.int (v3 + nI 1))] [] h out) ∧
 ((h.1 28 (v3.toNatClampNeg)) = v2 → (∃ h1 : mHp, mRuns d 0 0 [some (.ref 31), some (.int v3), none, none] [] h (.inl (none, h1)) ∧
 (∃ (x3 : Int32) (h2 : mHp), mRuns d 115 0 [some (.ref 26), some (.int v3), none] [] h1 (.inl (some (.int x3), h2)) ∧
 ((x3 = 0 ∨ x3 = 1) ∧ out = .inl (some (.int x3), h2)))))))))))) 0 (mSh (h.2.2.1 26 1))) (Nat.blt (h.2.2.1 26 1) 142)))) :
  mRuns (d + 1) 114 2 [some (.ref 26), some (.int v1), some (.int v2), some (.int v3)] [] h out := mVc_from 27 H
-- TasterTable$Planner.capsAllow(I)Z
set_option maxRecDepth 20000 in
theorem vc_Pln_capsAllow {d : Nat} {h : mHp} {out : mOut} {a1 : Int32} (H : mRuns (d + 1) 115 2 [some (.ref 26), some (.int a1), some (.int (nI 0))] [] h out) :
  mRuns (d + 1) 115 0 [some (.ref 26), some (.int a1), none] [] h out := mVc_from 3 H
set_option maxRecDepth 20000 in
theorem vc_Pln_capsAllow_2 {d : Nat} {h : mHp} {out : mOut} {v1 : Int32} {v2 : Int32} (H : mTrue (mOb ((((h.1 (h.2.2.1 26 1) 9) ≤ v2 → (((nI 1) = 0 ∨ (nI 1) = 1) ∧ out = .inl (some (.int (nI 1)), h))) ∧
 (¬ (h.1 (h.2.2.1 26 1) 9) ≤ v2 → ((((v1 >>> (v2 &&& 31)) &&& (nI 1)) = 0 → mRuns (d + 1) 115 2 [some (.ref 26), some (.int v1), some (.int (v2 + nI 1))] [] h out) ∧
 (¬ ((v1 >>> (v2 &&& 31)) &&& (nI 1)) = 0 → mTrue (mOb (mLd (fun x1 => mTrue (mOb ((((h.1 (h.2.2.1 26 1) 0) ≤ x1 → mRuns (d + 1) 115 2 [some (.ref 26), some (.int v1), some (.int (v2 + nI 1))] [] h out) ∧
 (¬ (h.1 (h.2.2.1 26 1) 0) ≤ x1 → (((nI 0) = 0 ∨ (nI 0) = 1) ∧ out = .inl (some (.int (nI 0)), h))))) 0 (mSh (h.2.2.1 26 1))) (Nat.blt (h.2.2.1 26 1) 142)) h v2 ((h.2.2.1 26 1) + 9) (mSh ((h.2.2.1 26 1) + 9))) 0 (mSh (h.2.2.1 26 1))) (Nat.blt (h.2.2.1 26 1) 142)))))) 0 (mSh (h.2.2.1 26 1))) (Nat.blt (h.2.2.1 26 1) 142)) :
  mRuns (d + 1) 115 2 [some (.ref 26), some (.int v1), some (.int v2)] [] h out := mVc_from 23 H
-- TasterTable$Planner.startSearch(I)V
set_option maxRecDepth 20000 in
theorem vc_Pln_startSearch {d : Nat} {h : mHp} {out : mOut} {a1 : Int32} (H : mRuns (d + 1) 116 12 [some (.ref 26), some (.int a1), some (.int (nI 0))] [] (mPI h 26 8 ((h.1 26 8) + (nI 1))) out) :
  mRuns (d + 1) 116 0 [some (.ref 26), some (.int a1), none] [] h out := mVc_from 9 H
set_option maxRecDepth 20000 in
theorem vc_Pln_startSearch_12 {d : Nat} {h : mHp} {out : mOut} {v1 : Int32} {v2 : Int32} (H : (((nI 5) ≤ v2 → out = .inl (none, h)) ∧
 (¬ (nI 5) ≤ v2 → ((((v1 >>> (v2 &&& 31)) &&& (nI 1)) = 0 → (vp_in v2 5 ∧ mRuns (d + 1) 116 12 [some (.ref 26), some (.int v1), some (.int (v2 + nI 1))] [] (mPI h 30 v2.toNatClampNeg (nI 0)) out)) ∧
 (¬ ((v1 >>> (v2 &&& 31)) &&& (nI 1)) = 0 → mTrue (mOb (mLd (fun x1 => (vp_in v2 5 ∧ mRuns (d + 1) 116 12 [some (.ref 26), some (.int v1), some (.int (v2 + nI 1))] [] (mPI h 30 v2.toNatClampNeg x1) out)) h v2 ((h.2.2.1 26 1) + 9) (mSh ((h.2.2.1 26 1) + 9))) 0 (mSh (h.2.2.1 26 1))) (Nat.blt (h.2.2.1 26 1) 142)))))) :
  mRuns (d + 1) 116 12 [some (.ref 26), some (.int v1), some (.int v2)] [] h out := mVc_from 22 H
-- TasterTable$Planner.leastCold(I)I
set_option maxRecDepth 20000 in
theorem vc_Pln_leastCold {d : Nat} {h : mHp} {out : mOut} {a1 : Int32} (H : mTrue (mOb (((0 < ((h.1 (h.2.2.1 26 1) 0) - a1) → (∃ (x2 : Int32) (h1 : mHp), mRuns d 118 0 [some (.ref 26), some (.int ((h.1 (h.2.2.1 26 1) 0) - a1)), none, none] [] h (.inl (some (.int x2), h1)) ∧
 ((x2 = (-1) → (∃ (x4 : Int32) (h3 : mHp), mRuns d 119 0 [some (.ref 26), none, none] [] h1 (.inl (some (.int x4), h3)) ∧
 mRuns (d + 1) 117 68 [some (.ref 26), some (.int a1), none, some (.int x2), some (.int x4), some (.int (nI 1023)), some (.int (nI 0))] [] h3 out)) ∧
 (¬ x2 = (-1) → (vp_in x2 4424 ∧ ((¬ ((h1.1 32 (x2.toNatClampNeg)) >>> ((nI 10) &&& 31)) = (h1.1 26 8) → (∃ (x6 : Int32) (h5 : mHp), mRuns d 119 0 [some (.ref 26), none, none] [] h1 (.inl (some (.int x6), h5)) ∧
 mRuns (d + 1) 117 68 [some (.ref 26), some (.int a1), none, some (.int x2), some (.int x6), some (.int (nI 1023)), some (.int (nI 0))] [] h5 out)) ∧
 (((h1.1 32 (x2.toNatClampNeg)) >>> ((nI 10) &&& 31)) = (h1.1 26 8) → (vp_in x2 4424 ∧ out = .inl (some (.int ((h1.1 32 (x2.toNatClampNeg)) &&& (nI 1023))), h1))))))))) ∧
 (¬ 0 < ((h.1 (h.2.2.1 26 1) 0) - a1) → out = .inl (some (.int (nI 0)), h)))) 0 (mSh (h.2.2.1 26 1))) (Nat.blt (h.2.2.1 26 1) 142)) :
  mRuns (d + 1) 117 0 [some (.ref 26), some (.int a1), none, none, none, none, none] [] h out := mVc_from 32 H
set_option maxRecDepth 20000 in
theorem vc_Pln_leastCold_68 {d : Nat} {h : mHp} {out : mOut} {v1 : Int32} {v3 : Int32} {v4 : Int32} {v5 : Int32} {v6 : Int32} (H : (((h.1 26 4) ≤ v6 → ((v3 = (-1) → out = .inl (some (.int v5), h)) ∧
 (¬ v3 = (-1) → (vp_in v3 4424 ∧ out = .inl (some (.int v5), mPI h 32 v3.toNatClampNeg (((h.1 26 8) <<< ((nI 10) &&& 31)) ||| v5)))))) ∧
 (¬ (h.1 26 4) ≤ v6 → (vp_in v6 32 ∧ (∃ (x2 : Int32) (h1 : mHp), mRuns d 120 0 [some (.ref 26), some (.int v1), some (.int (h.1 29 (v6.toNatClampNeg))), some (.int v4), none] [] h (.inl (some (.int x2), h1)) ∧
 mRuns (d + 1) 117 68 [some (.ref 26), some (.int v1), none, some (.int v3), some (.int v4), some (.int (if x2 < v5 then x2 else v5)), some (.int (v6 + nI 1))] [] h1 out))))) :
  mRuns (d + 1) 117 68 [some (.ref 26), some (.int v1), none, some (.int v3), some (.int v4), some (.int v5), some (.int v6)] [] h out := mVc_from 19 H
-- TasterTable$Planner.notePlace(I)I
set_option maxRecDepth 20000 in
theorem vc_Pln_notePlace {d : Nat} {h : mHp} {out : mOut} {a1 : Int32} (H : ((a1 ≤ (nI 4) → mRuns (d + 1) 118 11 [some (.ref 26), some (.int a1), some (.int (nI 0)), some (.int (nI 0))] [] h out) ∧
 (¬ a1 ≤ (nI 4) → out = .inl (some (.int (-1)), h)))) :
  mRuns (d + 1) 118 0 [some (.ref 26), some (.int a1), none, none] [] h out := mVc_from 8 H
set_option maxRecDepth 20000 in
theorem vc_Pln_notePlace_11 {d : Nat} {h : mHp} {out : mOut} {v1 : Int32} {v2 : Int32} {v3 : Int32} (H : (((nI 5) ≤ v3 → (vp_in v1 5 ∧ ((((h.1 143 (v1.toNatClampNeg)) + v2) < 0 → out = .inl (some (.int (-1)), h)) ∧
 (¬ ((h.1 143 (v1.toNatClampNeg)) + v2) < 0 → (((nI 4424) ≤ ((h.1 143 (v1.toNatClampNeg)) + v2) → out = .inl (some (.int (-1)), h)) ∧
 (¬ (nI 4424) ≤ ((h.1 143 (v1.toNatClampNeg)) + v2) → out = .inl (some (.int ((h.1 143 (v1.toNatClampNeg)) + v2)), h))))))) ∧
 (¬ (nI 5) ≤ v3 → (vp_in v3 5 ∧ mRuns (d + 1) 118 11 [some (.ref 26), some (.int v1), some (.int ((v2 * (v1 + (nI 1))) + (if v1 < (h.1 30 (v3.toNatClampNeg)) then v1 else (h.1 30 (v3.toNatClampNeg))))), some (.int (v3 + nI 1))] [] h out)))) :
  mRuns (d + 1) 118 11 [some (.ref 26), some (.int v1), some (.int v2), some (.int v3)] [] h out := mVc_from 19 H
-- TasterTable$Planner.openTasters()I
set_option maxRecDepth 20000 in
theorem vc_Pln_openTasters {d : Nat} {h : mHp} {out : mOut}  (H : mRuns (d + 1) 119 4 [some (.ref 26), some (.int (nI 0)), some (.int (nI 0))] [] h out) :
  mRuns (d + 1) 119 0 [some (.ref 26), none, none] [] h out := mVc_from 5 H
set_option maxRecDepth 20000 in
theorem vc_Pln_openTasters_4 {d : Nat} {h : mHp} {out : mOut} {v1 : Int32} {v2 : Int32} (H : (((nI 5) ≤ v2 → out = .inl (some (.int v1), h)) ∧
 (¬ (nI 5) ≤ v2 → (vp_in v2 5 ∧ (((h.1 30 (v2.toNatClampNeg)) ≤ 0 → mRuns (d + 1) 119 4 [some (.ref 26), some (.int v1), some (.int (v2 + nI 1))] [] h out) ∧
 (¬ (h.1 30 (v2.toNatClampNeg)) ≤ 0 → mRuns (d + 1) 119 4 [some (.ref 26), some (.int (v1 ||| ((nI 1) <<< (v2 &&& 31)))), some (.int (v2 + nI 1))] [] h out)))))) :
  mRuns (d + 1) 119 4 [some (.ref 26), some (.int v1), some (.int v2)] [] h out := mVc_from 17 H
-- TasterTable$Planner.coldWith(III)I
set_option maxRecDepth 20000 in
theorem vc_Pln_coldWith {d : Nat} {h : mHp} {out : mOut} {a1 : Int32} {a2 : Int32} {a3 : Int32} (H : ((¬ (a2 &&& (a3 ^^^ (-1))) = 0 → out = .inl (some (.int (nI 1023)), h)) ∧
 ((a2 &&& (a3 ^^^ (-1))) = 0 → (vp_in a2 32 ∧ (∃ (x2 : Int32) (h1 : mHp), mRuns d 113 0 [some (.ref 26), some (.int a1)] [] h (.inl (some (.int x2), h1)) ∧
 (((h.1 28 (a2.toNatClampNeg)) ≤ x2 → (∃ h3 : mHp, mRuns d 121 0 [some (.ref 26), some (.int a2), some (.int (-1)), none] [] h1 (.inl (none, h3)) ∧
 (vp_in a2 32 ∧ (∃ (x5 : Int32) (h4 : mHp), mRuns d 117 0 [some (.ref 26), some (.int (a1 + (nI 1))), none, none, none, none, none] [] h3 (.inl (some (.int x5), h4)) ∧
 (∃ h6 : mHp, mRuns d 121 0 [some (.ref 26), some (.int a2), some (.int (nI 1)), none] [] h4 (.inl (none, h6)) ∧
 out = .inl (some (.int ((h3.1 28 (a2.toNatClampNeg)) + x5)), h6)))))) ∧
 (¬ (h.1 28 (a2.toNatClampNeg)) ≤ x2 → out = .inl (some (.int (nI 1023)), h1)))))))) :
  mRuns (d + 1) 120 0 [some (.ref 26), some (.int a1), some (.int a2), some (.int a3), none] [] h out := mVc_from 35 H
-- TasterTable$Planner.changeCaps(II)V
set_option maxRecDepth 20000 in
theorem vc_Pln_changeCaps {d : Nat} {h : mHp} {out : mOut} {a1 : Int32} {a2 : Int32} (H : mRuns (d + 1) 121 2 [some (.ref 26), some (.int a1), some (.int a2), some (.int (nI 0))] [] h out) :
  mRuns (d + 1) 121 0 [some (.ref 26), some (.int a1), some (.int a2), none] [] h out := mVc_from 3 H
set_option maxRecDepth 20000 in
theorem vc_Pln_changeCaps_2 {d : Nat} {h : mHp} {out : mOut} {v1 : Int32} {v2 : Int32} {v3 : Int32} (H : (((nI 5) ≤ v3 → out = .inl (none, h)) ∧
 (¬ (nI 5) ≤ v3 → ((((v1 >>> (v3 &&& 31)) &&& (nI 1)) = 0 → mRuns (d + 1) 121 2 [some (.ref 26), some (.int v1), some (.int v2), some (.int (v3 + nI 1))] [] h out) ∧
 (¬ ((v1 >>> (v3 &&& 31)) &&& (nI 1)) = 0 → (vp_in v3 5 ∧ (vp_in v3 5 ∧ mRuns (d + 1) 121 2 [some (.ref 26), some (.int v1), some (.int v2), some (.int (v3 + nI 1))] [] (mPI h 30 v3.toNatClampNeg ((h.1 30 (v3.toNatClampNeg)) + v2)) out))))))) :
  mRuns (d + 1) 121 2 [some (.ref 26), some (.int v1), some (.int v2), some (.int v3)] [] h out := mVc_from 20 H
-- TasterTable$Planner.chooseRow()V
set_option maxRecDepth 20000 in
theorem vc_Pln_chooseRow {d : Nat} {h : mHp} {out : mOut}  (H : mRuns (d + 1) 122 2 [some (.ref 26), some (.int (nI 0)), none, none, none] [] h out) :
  mRuns (d + 1) 122 0 [some (.ref 26), none, none, none, none] [] h out := mVc_from 3 H
set_option maxRecDepth 20000 in
theorem vc_Pln_chooseRow_2 {d : Nat} {h : mHp} {out : mOut} {v1 : Int32} (H : mTrue (mOb ((((h.1 (h.2.2.1 26 1) 0) ≤ v1 → out = .inl (none, h)) ∧
 (¬ (h.1 (h.2.2.1 26 1) 0) ≤ v1 → (∃ (x2 : Int32) (h1 : mHp), mRuns d 117 0 [some (.ref 26), some (.int v1), none, none, none, none, none] [] h (.inl (some (.int x2), h1)) ∧
 (∃ (x4 : Int32) (h3 : mHp), mRuns d 119 0 [some (.ref 26), none, none] [] h1 (.inl (some (.int x4), h3)) ∧
 mRuns (d + 1) 122 27 [some (.ref 26), some (.int v1), some (.int x2), some (.int x4), some (.int (nI 0))] [] h3 out))))) 0 (mSh (h.2.2.1 26 1))) (Nat.blt (h.2.2.1 26 1) 142)) :
  mRuns (d + 1) 122 2 [some (.ref 26), some (.int v1), none, none, none] [] h out := mVc_from 15 H
set_option maxRecDepth 20000 in
theorem vc_Pln_chooseRow_27 {d : Nat} {h : mHp} {out : mOut} {v1 : Int32} {v2 : Int32} {v3 : Int32} {v4 : Int32} (H : (((h.1 26 4) ≤ v4 → (vp_in v1 6 ∧ (∃ h1 : mHp, mRuns d 121 0 [some (.ref 26), some (.int (h.1 31 (v1.toNatClampNeg))), some (.int (-1)), none] [] h (.inl (none, h1)) ∧
 mRuns (d + 1) 122 2 [some (.ref 26), some (.int (v1 + nI 1)), none, none, none] [] h1 out))) ∧
 (¬ (h.1 26 4) ≤ v4 → (vp_in v4 32 ∧ (∃ (x3 : Int32) (h2 : mHp), mRuns d 120 0 [some (.ref 26), some (.int v1), some (.int (h.1 29 (v4.toNatClampNeg))), some (.int v3), none] [] h (.inl (some (.int x3), h2)) ∧
 ((¬ x3 = v2 → mRuns (d + 1) 122 27 [some (.ref 26), some (.int v1), some (.int v2), some (.int v3), some (.int (v4 + nI 1))] [] h2 out) ∧
 (x3 = v2 → (vp_in v4 32 ∧ (vp_in v1 6 ∧ (vp_in v1 6 ∧ (∃ h4 : mHp, mRuns d 121 0 [some (.ref 26), some (.int ((mPI h2 31 v1.toNatClampNeg (h2.1 29 (v4.toNatClampNeg))).1 31 (v1.toNatClampNeg))), some (.int (-1)), none] [] (mPI h2 31 v1.toNatClampNeg (h2.1 29 (v4.toNatClampNeg))) (.inl (none, h4)) ∧
 mRuns (d + 1) 122 2 [some (.ref 26), some (.int (v1 + nI 1)), none, none, none] [] h4 out))))))))))) :
  mRuns (d + 1) 122 27 [some (.ref 26), some (.int v1), some (.int v2), some (.int v3), some (.int v4)] [] h out := mVc_from 33 H
-- TasterTable$Planner.rowIsBefore([I)Z
set_option maxRecDepth 20000 in
theorem vc_Pln_rowIsBefore {d : Nat} {h : mHp} {out : mOut} {a1 : Nat} (H : mRuns (d + 1) 123 2 [some (.ref 26), some (.ref a1), some (.int (nI 0))] [] h out) :
  mRuns (d + 1) 123 0 [some (.ref 26), some (.ref a1), none] [] h out := mVc_from 3 H
set_option maxRecDepth 20000 in
theorem vc_Pln_rowIsBefore_2 {d : Nat} {h : mHp} {out : mOut} {v1 : Nat} {v2 : Int32} (H : mTrue (mOb ((((h.1 (h.2.2.1 26 1) 0) ≤ v2 → (((nI 0) = 0 ∨ (nI 0) = 1) ∧ out = .inl (some (.int (nI 0)), h))) ∧
 (¬ (h.1 (h.2.2.1 26 1) 0) ≤ v2 → (vp_in v2 6 ∧ mLd (fun x1 => (((h.1 31 (v2.toNatClampNeg)) = x1 → mRuns (d + 1) 123 2 [some (.ref 26), some (.ref v1), some (.int (v2 + nI 1))] [] h out) ∧
 (¬ (h.1 31 (v2.toNatClampNeg)) = x1 → (vp_in v2 6 ∧ mLd (fun x2 => ((x2 ≤ (h.1 31 (v2.toNatClampNeg)) → (((nI 0) = 0 ∨ (nI 0) = 1) ∧ out = .inl (some (.int (nI 0)), h))) ∧
 (¬ x2 ≤ (h.1 31 (v2.toNatClampNeg)) → (((nI 1) = 0 ∨ (nI 1) = 1) ∧ out = .inl (some (.int (nI 1)), h))))) h v2 v1 (mSh v1))))) h v2 v1 (mSh v1))))) 0 (mSh (h.2.2.1 26 1))) (Nat.blt (h.2.2.1 26 1) 142)) :
  mRuns (d + 1) 123 2 [some (.ref 26), some (.ref v1), some (.int v2)] [] h out := mVc_from 24 H
-- TasterTable$Court.copyFrom(LTasterTable$Court;)V
set_option maxRecDepth 20000 in
theorem vc_Crt_copyFrom {d : Nat} {h : mHp} {out : mOut} {o : Nat} {a1 : Nat} (H : mOb (mOb ((((h.1 a1 0) = 0 ∨ (h.1 a1 0) = 1) ∧ mOb (mOb (mOb (mOb (mOb (mOb (mOb (mOb (mOb (mOb (mOb (mLen (fun x1 => mAr 1 (fun n2 _ => mAr 1 (fun n3 _ => (¬ (nI 0) < 0 ∧ ¬ (nI 0) < 0 ∧ ¬ x1 < 0 ∧ (nI 0).toNatClampNeg + x1.toNatClampNeg ≤ n2 ∧ (nI 0).toNatClampNeg + x1.toNatClampNeg ≤ n3 ∧ mRuns (d + 1) 124 58 [some (.ref o), some (.ref a1)] [] (mCp (mPI (mPI (mPI (mPI (mPI h o 0 (h.1 a1 0)) o 1 ((mPI h o 0 (h.1 a1 0)).1 a1 1)) o 2 ((mPI (mPI h o 0 (h.1 a1 0)) o 1 ((mPI h o 0 (h.1 a1 0)).1 a1 1)).1 a1 2)) o 3 ((mPI (mPI (mPI h o 0 (h.1 a1 0)) o 1 ((mPI h o 0 (h.1 a1 0)).1 a1 1)) o 2 ((mPI (mPI h o 0 (h.1 a1 0)) o 1 ((mPI h o 0 (h.1 a1 0)).1 a1 1)).1 a1 2)).1 a1 3)) o 4 ((mPI (mPI (mPI (mPI h o 0 (h.1 a1 0)) o 1 ((mPI h o 0 (h.1 a1 0)).1 a1 1)) o 2 ((mPI (mPI h o 0 (h.1 a1 0)) o 1 ((mPI h o 0 (h.1 a1 0)).1 a1 1)).1 a1 2)) o 3 ((mPI (mPI (mPI h o 0 (h.1 a1 0)) o 1 ((mPI h o 0 (h.1 a1 0)).1 a1 1)) o 2 ((mPI (mPI h o 0 (h.1 a1 0)) o 1 ((mPI h o 0 (h.1 a1 0)).1 a1 1)).1 a1 2)).1 a1 3)).1 a1 4)) (a1 + 1) (nI 0).toNatClampNeg (o + 1) (nI 0).toNatClampNeg x1.toNatClampNeg) out)) (mSh (o + 1))) (mSh (a1 + 1))) (mPI (mPI (mPI (mPI (mPI h o 0 (h.1 a1 0)) o 1 ((mPI h o 0 (h.1 a1 0)).1 a1 1)) o 2 ((mPI (mPI h o 0 (h.1 a1 0)) o 1 ((mPI h o 0 (h.1 a1 0)).1 a1 1)).1 a1 2)) o 3 ((mPI (mPI (mPI h o 0 (h.1 a1 0)) o 1 ((mPI h o 0 (h.1 a1 0)).1 a1 1)) o 2 ((mPI (mPI h o 0 (h.1 a1 0)) o 1 ((mPI h o 0 (h.1 a1 0)).1 a1 1)).1 a1 2)).1 a1 3)) o 4 ((mPI (mPI (mPI (mPI h o 0 (h.1 a1 0)) o 1 ((mPI h o 0 (h.1 a1 0)).1 a1 1)) o 2 ((mPI (mPI h o 0 (h.1 a1 0)) o 1 ((mPI h o 0 (h.1 a1 0)).1 a1 1)).1 a1 2)) o 3 ((mPI (mPI (mPI h o 0 (h.1 a1 0)) o 1 ((mPI h o 0 (h.1 a1 0)).1 a1 1)) o 2 ((mPI (mPI h o 0 (h.1 a1 0)) o 1 ((mPI h o 0 (h.1 a1 0)).1 a1 1)).1 a1 2)).1 a1 3)).1 a1 4)) (o + 1) (mSh (o + 1))) 1 (mSh o)) 1 (mSh o)) 1 (mSh a1)) 1 (mSh o)) 1 (mSh a1)) 1 (mSh o)) 1 (mSh a1)) 1 (mSh o)) 1 (mSh a1)) 1 (mSh o)) 1 (mSh a1))) 1 (mSh o)) 1 (mSh a1)) :
  mRuns (d + 1) 124 0 [some (.ref o), some (.ref a1)] [] h out := mVc_from 31 H
set_option maxRecDepth 20000 in
theorem vc_Crt_copyFrom_58 {d : Nat} {h : mHp} {out : mOut} {v0 : Nat} {v1 : Nat} (H : mOb (mOb (mOb (mAr 1 (fun n1 _ => mAr 1 (fun n2 _ => (¬ (nI 0) < 0 ∧ ¬ (nI 0) < 0 ∧ ¬ (h.1 v0 4) < 0 ∧ (nI 0).toNatClampNeg + (h.1 v0 4).toNatClampNeg ≤ n1 ∧ (nI 0).toNatClampNeg + (h.1 v0 4).toNatClampNeg ≤ n2 ∧ mRuns (d + 1) 124 75 [some (.ref v0), some (.ref v1)] [] (mCp h (v1 + 2) (nI 0).toNatClampNeg (v0 + 2) (nI 0).toNatClampNeg (h.1 v0 4).toNatClampNeg) out)) (mSh (v0 + 2))) (mSh (v1 + 2))) 1 (mSh v0)) 1 (mSh v0)) 1 (mSh v1)) :
  mRuns (d + 1) 124 58 [some (.ref v0), some (.ref v1)] [] h out := mVc_from 10 H
set_option maxRecDepth 20000 in
theorem vc_Crt_copyFrom_75 {d : Nat} {h : mHp} {out : mOut} {v0 : Nat} {v1 : Nat} (H : mOb (mOb (mOb (mAr 1 (fun n1 _ => mAr 1 (fun n2 _ => (¬ (nI 0) < 0 ∧ ¬ (nI 0) < 0 ∧ ¬ (h.1 v0 4) < 0 ∧ (nI 0).toNatClampNeg + (h.1 v0 4).toNatClampNeg ≤ n1 ∧ (nI 0).toNatClampNeg + (h.1 v0 4).toNatClampNeg ≤ n2 ∧ mRuns (d + 1) 124 92 [some (.ref v0), some (.ref v1)] [] (mCp h (v1 + 3) (nI 0).toNatClampNeg (v0 + 3) (nI 0).toNatClampNeg (h.1 v0 4).toNatClampNeg) out)) (mSh (v0 + 3))) (mSh (v1 + 3))) 1 (mSh v0)) 1 (mSh v0)) 1 (mSh v1)) :
  mRuns (d + 1) 124 75 [some (.ref v0), some (.ref v1)] [] h out := mVc_from 10 H
set_option maxRecDepth 20000 in
theorem vc_Crt_copyFrom_92 {d : Nat} {h : mHp} {out : mOut} {v0 : Nat} {v1 : Nat} (H : mOb (mOb (mOb (mAr 1 (fun n1 _ => mAr 1 (fun n2 _ => (¬ (nI 0) < 0 ∧ ¬ (nI 0) < 0 ∧ ¬ (h.1 v0 4) < 0 ∧ (nI 0).toNatClampNeg + (h.1 v0 4).toNatClampNeg ≤ n1 ∧ (nI 0).toNatClampNeg + (h.1 v0 4).toNatClampNeg ≤ n2 ∧ mRuns (d + 1) 124 109 [some (.ref v0), some (.ref v1)] [] (mCp h (v1 + 4) (nI 0).toNatClampNeg (v0 + 4) (nI 0).toNatClampNeg (h.1 v0 4).toNatClampNeg) out)) (mSh (v0 + 4))) (mSh (v1 + 4))) 1 (mSh v0)) 1 (mSh v0)) 1 (mSh v1)) :
  mRuns (d + 1) 124 92 [some (.ref v0), some (.ref v1)] [] h out := mVc_from 10 H
set_option maxRecDepth 20000 in
theorem vc_Crt_copyFrom_109 {d : Nat} {h : mHp} {out : mOut} {v0 : Nat} {v1 : Nat} (H : mOb (mOb (mOb (mAr 1 (fun n1 _ => mAr 1 (fun n2 _ => (¬ (nI 0) < 0 ∧ ¬ (nI 0) < 0 ∧ ¬ (h.1 v0 4) < 0 ∧ (nI 0).toNatClampNeg + (h.1 v0 4).toNatClampNeg ≤ n1 ∧ (nI 0).toNatClampNeg + (h.1 v0 4).toNatClampNeg ≤ n2 ∧ mRuns (d + 1) 124 126 [none, none] [] (mCp h (v1 + 5) (nI 0).toNatClampNeg (v0 + 5) (nI 0).toNatClampNeg (h.1 v0 4).toNatClampNeg) out)) (mSh (v0 + 5))) (mSh (v1 + 5))) 1 (mSh v0)) 1 (mSh v0)) 1 (mSh v1)) :
  mRuns (d + 1) 124 109 [some (.ref v0), some (.ref v1)] [] h out := mVc_from 10 H
set_option maxRecDepth 20000 in
theorem vc_Crt_copyFrom_126 {d : Nat} {h : mHp} {out : mOut}  (H : out = .inl (none, h)) :
  mRuns (d + 1) 124 126 [none, none] [] h out := mVc_from 1 H
-- TasterTable$Court.end()V
set_option maxRecDepth 20000 in
theorem vc_Crt_end {d : Nat} {h : mHp} {out : mOut} {o : Nat} (H : mOb ((((nI 0) = 0 ∨ (nI 0) = 1) ∧ mOb (out = .inl (none, mPI (mPI h o 0 (nI 0)) o 4 (nI 0))) 1 (mSh o))) 1 (mSh o)) :
  mRuns (d + 1) 125 0 [some (.ref o)] [] h out := mVc_from 7 H
-- TasterTable$Court.open(IIILTasterTable$Board;)V
set_option maxRecDepth 20000 in
theorem vc_Crt_open {d : Nat} {h : mHp} {out : mOut} {o : Nat} {a1 : Int32} {a2 : Int32} {a3 : Int32} {a4 : Nat} (H : mOb ((((nI 1) = 0 ∨ (nI 1) = 1) ∧ mOb (mOb (mOb (mOb (mOb (mOb (mOb (mLen (fun x1 => mAr 1 (fun n2 _ => mAr 1 (fun n3 _ => (¬ (nI 0) < 0 ∧ ¬ (nI 0) < 0 ∧ ¬ x1 < 0 ∧ (nI 0).toNatClampNeg + x1.toNatClampNeg ≤ n2 ∧ (nI 0).toNatClampNeg + x1.toNatClampNeg ≤ n3 ∧ out = .inl (none, mCp (mPI (mPI (mPI (mPI (mPI h o 0 (nI 1)) o 1 a1) o 2 a2) o 3 a3) o 4 (nI 0)) (a4 + 10) (nI 0).toNatClampNeg (o + 1) (nI 0).toNatClampNeg x1.toNatClampNeg))) (mSh (o + 1))) (mSh (a4 + 10))) (mPI (mPI (mPI (mPI (mPI h o 0 (nI 1)) o 1 a1) o 2 a2) o 3 a3) o 4 (nI 0)) (o + 1) (mSh (o + 1))) 1 (mSh o)) 1 (mSh o)) 0 (mSh a4)) 1 (mSh o)) 1 (mSh o)) 1 (mSh o)) 1 (mSh o))) 1 (mSh o)) :
  mRuns (d + 1) 126 0 [some (.ref o), some (.int a1), some (.int a2), some (.int a3), some (.ref a4)] [] h out := mVc_from 26 H
-- TasterTable$Court.passDay(LTasterTable$Board;LTasterTable$Plan;)V
set_option maxRecDepth 20000 in
theorem vc_Crt_passDay {d : Nat} {h : mHp} {out : mOut} {o : Nat} {a1 : Nat} {a2 : Nat} (H : mOb ((((h.1 o 4) < (nI 300) → mOb (mOb ((∃ (x2 : Int32) (h1 : mHp), mRuns d 128 0 [some (.ref (a1 + 3)), some (.int (h.1 a1 0)), none, none] [] h (.inl (some (.int x2), h1)) ∧
 mOb (mOb ((∃ (x4 : Int32) (h3 : mHp), mRuns d 128 0 [some (.ref (a1 + 7)), some (.int (h1.1 a1 4)), none, none] [] h1 (.inl (some (.int x4), h3)) ∧
 mOb (∃ (x6 : Int32) (h5 : mHp), mRuns d 129 0 [some (.ref o), some (.int (nI 1000))] [] h3 (.inl (some (.int x6), h5)) ∧
 mOb ((((h5.1 o 3) ≤ x6 → mRuns (d + 1) 127 103 [some (.ref o), some (.ref a1), some (.ref a2), some (.int (-1)), some (.int (-1)), none, none, none, none] [] h5 out) ∧
 (¬ (h5.1 o 3) ≤ x6 → ((x2 ≤ 0 → mRuns (d + 1) 127 103 [some (.ref o), some (.ref a1), some (.ref a2), some (.int (-1)), some (.int (-1)), none, none, none, none] [] h5 out) ∧
 (¬ x2 ≤ 0 → ((x4 ≤ 0 → mRuns (d + 1) 127 103 [some (.ref o), some (.ref a1), some (.ref a2), some (.int (-1)), some (.int (-1)), none, none, none, none] [] h5 out) ∧
 (¬ x4 ≤ 0 → mOb (mOb (mOb (∃ (x8 : Int32) (h7 : mHp), mRuns d 129 0 [some (.ref o), some (.int x2)] [] h5 (.inl (some (.int x8), h7)) ∧
 (∃ (x10 : Int32) (h9 : mHp), mRuns d 130 0 [some (.ref (a1 + 3)), some (.int (h5.1 a1 0)), some (.int x8), none, none] [] h7 (.inl (some (.int x10), h9)) ∧
 mOb (mOb (mOb (∃ (x12 : Int32) (h11 : mHp), mRuns d 129 0 [some (.ref o), some (.int x4)] [] h9 (.inl (some (.int x12), h11)) ∧
 (∃ (x14 : Int32) (h13 : mHp), mRuns d 130 0 [some (.ref (a1 + 7)), some (.int (h9.1 a1 4)), some (.int x12), none, none] [] h11 (.inl (some (.int x14), h13)) ∧
 mRuns (d + 1) 127 103 [some (.ref o), some (.ref a1), some (.ref a2), some (.int x10), some (.int x14), none, none, none, none] [] h13 out)) 1 (mSh o)) 0 (mSh a1)) 0 (mSh a1))) 1 (mSh o)) 0 (mSh a1)) 0 (mSh a1)))))))) 1 (mSh o)) 1 (mSh o))) 0 (mSh a1)) 0 (mSh a1))) 0 (mSh a1)) 0 (mSh a1)) ∧
 (¬ (h.1 o 4) < (nI 300) → out = .inl (none, h)))) 1 (mSh o)) :
  mRuns (d + 1) 127 0 [some (.ref o), some (.ref a1), some (.ref a2), none, none, none, none, none, none] [] h out := mVc_from 49 H
set_option maxRecDepth 20000 in
theorem vc_Crt_passDay_103 {d : Nat} {h : mHp} {out : mOut} {v0 : Nat} {v1 : Nat} {v2 : Nat} {v3 : Int32} {v4 : Int32} (H : ((v3 = (-1) → mRuns (d + 1) 127 119 [some (.ref v0), some (.ref v1), some (.ref v2), some (.int v3), some (.int v4), none, none, none, none] [.int (nI 0)] h out) ∧
 (¬ v3 = (-1) → ((v4 = (-1) → mRuns (d + 1) 127 119 [some (.ref v0), some (.ref v1), some (.ref v2), some (.int v3), some (.int v4), none, none, none, none] [.int (nI 0)] h out) ∧
 (¬ v4 = (-1) → mRuns (d + 1) 127 119 [some (.ref v0), some (.ref v1), some (.ref v2), some (.int v3), some (.int v4), none, none, none, none] [.int (nI 1)] h out))))) :
  mRuns (d + 1) 127 103 [some (.ref v0), some (.ref v1), some (.ref v2), some (.int v3), some (.int v4), none, none, none, none] [] h out := mVc_from 9 H
set_option maxRecDepth 20000 in
theorem vc_Crt_passDay_119 {d : Nat} {h : mHp} {out : mOut} {s0 : Int32} {v0 : Nat} {v1 : Nat} {v2 : Nat} {v3 : Int32} {v4 : Int32} (H : ((s0 = 0 → mRuns (d + 1) 127 139 [some (.ref v0), none, some (.ref v2), some (.int v3), some (.int v4), none, none, some (.int s0), none] [.int (nI 0)] h out) ∧
 (¬ s0 = 0 → mOb (∃ (x2 : Int32) (h1 : mHp), mRuns d 131 0 [some (.ref v0), some (.ref v1), some (.ref v2), some (.int v3), some (.int v4), none, none, none, none] [] h (.inl (some (.int x2), h1)) ∧
 mRuns (d + 1) 127 139 [some (.ref v0), none, some (.ref v2), some (.int v3), some (.int v4), none, none, some (.int s0), none] [.int x2] h1 out) 1 (mSh v0)))) :
  mRuns (d + 1) 127 119 [some (.ref v0), some (.ref v1), some (.ref v2), some (.int v3), some (.int v4), none, none, none, none] [.int s0] h out := mVc_from 11 H
set_option maxRecDepth 20000 in
theorem vc_Crt_passDay_139 {d : Nat} {h : mHp} {out : mOut} {s0 : Int32} {v0 : Nat} {v2 : Nat} {v3 : Int32} {v4 : Int32} {v7 : Int32} (H : mOb (mOb (mAr 1 (fun n1 _ => vp_in (h.1 v0 4) n1 ∧ mOb (mOb (mAr 1 (fun n2 _ => vp_in ((mPI h (v0 + 2) (h.1 v0 4).toNatClampNeg v3).1 v0 4) n2 ∧ mOb (mOb (mAr 1 (fun n3 _ => vp_in ((mPI (mPI h (v0 + 2) (h.1 v0 4).toNatClampNeg v3) (v0 + 3) ((mPI h (v0 + 2) (h.1 v0 4).toNatClampNeg v3).1 v0 4).toNatClampNeg v4).1 v0 4) n3 ∧ mOb (mOb (((v7 = 0 → mRuns (d + 1) 127 203 [some (.ref v0), none, some (.ref v2), some (.int v3), some (.int v4), none, none, some (.int v7), none] [.int (nI 0), .int ((mPI (mPI (mPI h (v0 + 2) (h.1 v0 4).toNatClampNeg v3) (v0 + 3) ((mPI h (v0 + 2) (h.1 v0 4).toNatClampNeg v3).1 v0 4).toNatClampNeg v4) (v0 + 4) ((mPI (mPI h (v0 + 2) (h.1 v0 4).toNatClampNeg v3) (v0 + 3) ((mPI h (v0 + 2) (h.1 v0 4).toNatClampNeg v3).1 v0 4).toNatClampNeg v4).1 v0 4).toNatClampNeg s0).1 v0 4), .ref (v0 + 5)] (mPI (mPI (mPI h (v0 + 2) (h.1 v0 4).toNatClampNeg v3) (v0 + 3) ((mPI h (v0 + 2) (h.1 v0 4).toNatClampNeg v3).1 v0 4).toNatClampNeg v4) (v0 + 4) ((mPI (mPI h (v0 + 2) (h.1 v0 4).toNatClampNeg v3) (v0 + 3) ((mPI h (v0 + 2) (h.1 v0 4).toNatClampNeg v3).1 v0 4).toNatClampNeg v4).1 v0 4).toNatClampNeg s0) out) ∧
 (¬ v7 = 0 → (∃ (x5 : Int32) (h4 : mHp), mRuns d 3 0 [some (.int s0)] [] (mPI (mPI (mPI h (v0 + 2) (h.1 v0 4).toNatClampNeg v3) (v0 + 3) ((mPI h (v0 + 2) (h.1 v0 4).toNatClampNeg v3).1 v0 4).toNatClampNeg v4) (v0 + 4) ((mPI (mPI h (v0 + 2) (h.1 v0 4).toNatClampNeg v3) (v0 + 3) ((mPI h (v0 + 2) (h.1 v0 4).toNatClampNeg v3).1 v0 4).toNatClampNeg v4).1 v0 4).toNatClampNeg s0) (.inl (some (.int x5), h4)) ∧
 mOb ((((h4.1 v0 2) < x5 → mRuns (d + 1) 127 203 [some (.ref v0), none, some (.ref v2), some (.int v3), some (.int v4), none, none, some (.int v7), none] [.int (nI 0), .int ((mPI (mPI (mPI h (v0 + 2) (h.1 v0 4).toNatClampNeg v3) (v0 + 3) ((mPI h (v0 + 2) (h.1 v0 4).toNatClampNeg v3).1 v0 4).toNatClampNeg v4) (v0 + 4) ((mPI (mPI h (v0 + 2) (h.1 v0 4).toNatClampNeg v3) (v0 + 3) ((mPI h (v0 + 2) (h.1 v0 4).toNatClampNeg v3).1 v0 4).toNatClampNeg v4).1 v0 4).toNatClampNeg s0).1 v0 4), .ref (v0 + 5)] h4 out) ∧
 (¬ (h4.1 v0 2) < x5 → mRuns (d + 1) 127 203 [some (.ref v0), none, some (.ref v2), some (.int v3), some (.int v4), none, none, some (.int v7), none] [.int (nI 1), .int ((mPI (mPI (mPI h (v0 + 2) (h.1 v0 4).toNatClampNeg v3) (v0 + 3) ((mPI h (v0 + 2) (h.1 v0 4).toNatClampNeg v3).1 v0 4).toNatClampNeg v4) (v0 + 4) ((mPI (mPI h (v0 + 2) (h.1 v0 4).toNatClampNeg v3) (v0 + 3) ((mPI h (v0 + 2) (h.1 v0 4).toNatClampNeg v3).1 v0 4).toNatClampNeg v4).1 v0 4).toNatClampNeg s0).1 v0 4), .ref (v0 + 5)] h4 out))) 1 (mSh v0))))) 1 (mSh v0)) 1 (mSh v0)) (mSh (v0 + 4))) 1 (mSh v0)) 1 (mSh v0)) (mSh (v0 + 3))) 1 (mSh v0)) 1 (mSh v0)) (mSh (v0 + 2))) 1 (mSh v0)) 1 (mSh v0)) :
  mRuns (d + 1) 127 139 [some (.ref v0), none, some (.ref v2), some (.int v3), some (.int v4), none, none, some (.int v7), none] [.int s0] h out := mVc_from 33 H
set_option maxRecDepth 20000 in
theorem vc_Crt_passDay_203 {d : Nat} {h : mHp} {out : mOut} {s0 : Int32} {s1 : Int32} {s2 : Nat} {v0 : Nat} {v2 : Nat} {v3 : Int32} {v4 : Int32} {v7 : Int32} (H : mAr 1 (fun n1 _ => vp_in s1 n1 ∧ ((v7 = 0 → mOb (mOb (out = .inl (none, mPI (mPI h s2 s1.toNatClampNeg s0) v0 4 (((mPI h s2 s1.toNatClampNeg s0).1 v0 4) + (nI 1)))) 1 (mSh v0)) 1 (mSh v0)) ∧
 (¬ v7 = 0 → mOb (mLd (fun x2 => mOb (∃ h3 : mHp, mRuns d 132 0 [some (.ref v0), some (.int x2), some (.int v4), none, none] [] (mPI h s2 s1.toNatClampNeg s0) (.inl (none, h3)) ∧
 mOb (mOb (out = .inl (none, mPI h3 v0 4 ((h3.1 v0 4) + (nI 1)))) 1 (mSh v0)) 1 (mSh v0)) 1 (mSh v0)) (mPI h s2 s1.toNatClampNeg s0) v3 (v2 + 1) (mSh (v2 + 1))) 4 (mSh v2)))) (mSh s2)) :
  mRuns (d + 1) 127 203 [some (.ref v0), none, some (.ref v2), some (.int v3), some (.int v4), none, none, some (.int v7), none] [.int s0, .int s1, .ref s2] h out := mVc_from 17 H
-- TasterTable$Court.sum([II)I
set_option maxRecDepth 20000 in
theorem vc_Crt_sum {d : Nat} {h : mHp} {out : mOut} {a1 : Nat} {a2 : Int32} (H : mRuns (d + 1) 128 4 [some (.ref a1), some (.int a2), some (.int (nI 0)), some (.int (nI 0))] [] h out) :
  mRuns (d + 1) 128 0 [some (.ref a1), some (.int a2), none, none] [] h out := mVc_from 5 H
set_option maxRecDepth 20000 in
theorem vc_Crt_sum_4 {d : Nat} {h : mHp} {out : mOut} {v0 : Nat} {v1 : Int32} {v2 : Int32} {v3 : Int32} (H : ((v1 ≤ v3 → out = .inl (some (.int v2), h)) ∧
 (¬ v1 ≤ v3 → mLd (fun x1 => mRuns (d + 1) 128 4 [some (.ref v0), some (.int v1), some (.int (v2 + x1)), some (.int (v3 + nI 1))] [] h out) h v3 v0 (mSh v0)))) :
  mRuns (d + 1) 128 4 [some (.ref v0), some (.int v1), some (.int v2), some (.int v3)] [] h out := mVc_from 12 H
-- TasterTable$Court.draw(I)I
set_option maxRecDepth 20000 in
theorem vc_Crt_draw {d : Nat} {h : mHp} {out : mOut} {o : Nat} {a1 : Int32} (H : mOb (mOb (((0 < a1 → mOb ((¬ a1 = 0 ∧ out = .inl (some (.int ((((((mPI h o 1 (((h.1 o 1) * (nI 1103515245)) + (nI 12345))).1 o 1).toUInt32 >>> ((nI 16).toUInt32 &&& Int32.toUInt32 31)).toInt32) &&& (nI 32767)) - (((((mPI h o 1 (((h.1 o 1) * (nI 1103515245)) + (nI 12345))).1 o 1).toUInt32 >>> ((nI 16).toUInt32 &&& Int32.toUInt32 31)).toInt32) &&& (nI 32767)) / a1 * a1)), mPI h o 1 (((h.1 o 1) * (nI 1103515245)) + (nI 12345))))) 1 (mSh o)) ∧
 (¬ 0 < a1 → out = .inl (some (.int (nI 0)), mPI h o 1 (((h.1 o 1) * (nI 1103515245)) + (nI 12345)))))) 1 (mSh o)) 1 (mSh o)) :
  mRuns (d + 1) 129 0 [some (.ref o), some (.int a1)] [] h out := mVc_from 19 H
-- TasterTable$Court.pick([III)I
set_option maxRecDepth 20000 in
theorem vc_Crt_pick {d : Nat} {h : mHp} {out : mOut} {a1 : Nat} {a2 : Int32} {a3 : Int32} (H : mRuns (d + 1) 130 5 [some (.ref a1), some (.int a2), some (.int a3), some (.int (nI 0)), some (.int (nI 0))] [] h out) :
  mRuns (d + 1) 130 0 [some (.ref a1), some (.int a2), some (.int a3), none, none] [] h out := mVc_from 5 H
set_option maxRecDepth 20000 in
theorem vc_Crt_pick_5 {d : Nat} {h : mHp} {out : mOut} {v0 : Nat} {v1 : Int32} {v2 : Int32} {v3 : Int32} {v4 : Int32} (H : ((v1 ≤ v4 → out = .inl (some (.int (-1)), h)) ∧
 (¬ v1 ≤ v4 → mLd (fun x1 => (((v3 + x1) ≤ v2 → mRuns (d + 1) 130 5 [some (.ref v0), some (.int v1), some (.int v2), some (.int (v3 + x1)), some (.int (v4 + nI 1))] [] h out) ∧
 (¬ (v3 + x1) ≤ v2 → out = .inl (some (.int v4), h)))) h v4 v0 (mSh v0)))) :
  mRuns (d + 1) 130 5 [some (.ref v0), some (.int v1), some (.int v2), some (.int v3), some (.int v4)] [] h out := mVc_from 15 H
-- TasterTable$Court.whoFall(LTasterTable$Board;LTasterTable$Plan;II)I
set_option maxRecDepth 20000 in
theorem vc_Crt_whoFall {d : Nat} {h : mHp} {out : mOut} {o : Nat} {a1 : Nat} {a2 : Nat} {a3 : Int32} {a4 : Int32} (H : mOb (mLd (fun x1 => mOb (mLd (fun x2 => mRuns (d + 1) 131 21 [some (.ref o), some (.ref a1), some (.ref a2), some (.int a3), some (.int a4), some (.int (nI 0)), some (.int (x1 - x2)), some (.int (nI 0)), none] [] h out) h a3 (a2 + 2) (mSh (a2 + 2))) 4 (mSh a2)) h a3 (a1 + 2) (mSh (a1 + 2))) 0 (mSh a1)) :
  mRuns (d + 1) 131 0 [some (.ref o), some (.ref a1), some (.ref a2), some (.int a3), some (.int a4), none, none, none, none] [] h out := mVc_from 15 H
set_option maxRecDepth 20000 in
theorem vc_Crt_whoFall_21 {d : Nat} {h : mHp} {out : mOut} {v0 : Nat} {v1 : Nat} {v2 : Nat} {v3 : Int32} {v4 : Int32} {v5 : Int32} {v6 : Int32} {v7 : Int32} (H : mOb ((((h.1 v1 9) ≤ v7 → out = .inl (some (.int v5), h)) ∧
 (¬ (h.1 v1 9) ≤ v7 → mOb ((∃ (x2 : Int32) (h1 : mHp), mRuns d 154 0 [some (.int v7), some (.int v4)] [] h (.inl (some (.int x2), h1)) ∧
 mLd (fun x3 => mOb (∃ (x5 : Int32) (h4 : mHp), mRuns d 89 0 [some (.ref v1), some (.int v7), some (.int v4), some (.int (nI 1)), some (.int x3), none] [] h1 (.inl (some (.int x5), h4)) ∧
 mOb (mLd (fun x6 => ((((x6 >>> (v7 &&& 31)) &&& (nI 1)) = 0 → mRuns (d + 1) 131 21 [some (.ref v0), some (.ref v1), some (.ref v2), some (.int v3), some (.int v4), some (.int v5), some (.int v6), some (.int (v7 + nI 1)), none] [] h4 out) ∧
 (¬ ((x6 >>> (v7 &&& 31)) &&& (nI 1)) = 0 → ((x5 = (-1) → mRuns (d + 1) 131 21 [some (.ref v0), some (.ref v1), some (.ref v2), some (.int v3), some (.int v4), some (.int v5), some (.int v6), some (.int (v7 + nI 1)), none] [] h4 out) ∧
 (¬ x5 = (-1) → ((v6 < x5 → mRuns (d + 1) 131 21 [some (.ref v0), some (.ref v1), some (.ref v2), some (.int v3), some (.int v4), some (.int v5), some (.int v6), some (.int (v7 + nI 1)), none] [] h4 out) ∧
 (¬ v6 < x5 → mRuns (d + 1) 131 21 [some (.ref v0), some (.ref v1), some (.ref v2), some (.int v3), some (.int v4), some (.int (v5 ||| ((nI 1) <<< (v7 &&& 31)))), some (.int v6), some (.int (v7 + nI 1)), none] [] h4 out))))))) h4 v3 (v2 + 1) (mSh (v2 + 1))) 4 (mSh v2)) 0 (mSh v1)) h1 x2 (v0 + 1) (mSh (v0 + 1)))) 1 (mSh v0)))) 0 (mSh v1)) :
  mRuns (d + 1) 131 21 [some (.ref v0), some (.ref v1), some (.ref v2), some (.int v3), some (.int v4), some (.int v5), some (.int v6), some (.int v7), none] [] h out := mVc_from 40 H
-- TasterTable$Court.harden(II)V
set_option maxRecDepth 20000 in
theorem vc_Crt_harden {d : Nat} {h : mHp} {out : mOut} {o : Nat} {a1 : Int32} {a2 : Int32} (H : mRuns (d + 1) 132 2 [some (.ref o), some (.int a1), some (.int a2), some (.int (nI 0)), none] [] h out) :
  mRuns (d + 1) 132 0 [some (.ref o), some (.int a1), some (.int a2), none, none] [] h out := mVc_from 3 H
set_option maxRecDepth 20000 in
theorem vc_Crt_harden_2 {d : Nat} {h : mHp} {out : mOut} {v0 : Nat} {v1 : Int32} {v2 : Int32} {v3 : Int32} (H : (((nI 5) ≤ v3 → out = .inl (none, h)) ∧
 (¬ (nI 5) ≤ v3 → (∃ (x2 : Int32) (h1 : mHp), mRuns d 154 0 [some (.int v3), some (.int v2)] [] h (.inl (some (.int x2), h1)) ∧
 ((((v1 >>> (v3 &&& 31)) &&& (nI 1)) = 0 → mRuns (d + 1) 132 2 [some (.ref v0), some (.int v1), some (.int v2), some (.int (v3 + nI 1)), none] [] h1 out) ∧
 (¬ ((v1 >>> (v3 &&& 31)) &&& (nI 1)) = 0 → mOb (mOb (mLd (fun x3 => mAr 1 (fun n4 _ => vp_in x2 n4 ∧ mRuns (d + 1) 132 2 [some (.ref v0), some (.int v1), some (.int v2), some (.int (v3 + nI 1)), none] [] (mPI h1 (v0 + 1) x2.toNatClampNeg (if (x3 + (nI 1)) < (nI 99) then (x3 + (nI 1)) else (nI 99))) out) (mSh (v0 + 1))) h1 x2 (v0 + 1) (mSh (v0 + 1))) 1 (mSh v0)) 1 (mSh v0))))))) :
  mRuns (d + 1) 132 2 [some (.ref v0), some (.int v1), some (.int v2), some (.int v3), none] [] h out := mVc_from 28 H
-- TasterTable$Reader.addBytes(I)V
set_option maxRecDepth 20000 in
theorem vc_Rdr_addBytes {d : Nat} {h : mHp} {out : mOut} {a1 : Int32} (H : mRuns (d + 1) 133 3 [some (.ref 23), some (.int a1), some (.int (nI 24))] [] h out) :
  mRuns (d + 1) 133 0 [some (.ref 23), some (.int a1), none] [] h out := mVc_from 3 H
set_option maxRecDepth 20000 in
theorem vc_Rdr_addBytes_3 {d : Nat} {h : mHp} {out : mOut} {v1 : Int32} {v2 : Int32} (H : ((v2 < 0 → out = .inl (none, h)) ∧
 (¬ v2 < 0 → (((nI 700) ≤ (h.1 23 1) → out = .inl (none, h)) ∧
 (¬ (nI 700) ≤ (h.1 23 1) → (vp_in (h.1 23 1) 700 ∧ mRuns (d + 1) 133 3 [some (.ref 23), some (.int v1), some (.int (v2 + (-8)))] [] (mPI (mPI h 24 (h.1 23 1).toNatClampNeg (vp_nar .byte ((v1 >>> (v2 &&& 31)).toInt8.toInt32))) 23 1 (((mPI h 24 (h.1 23 1).toNatClampNeg (vp_nar .byte ((v1 >>> (v2 &&& 31)).toInt8.toInt32))).1 23 1) + (nI 1))) out)))))) :
  mRuns (d + 1) 133 3 [some (.ref 23), some (.int v1), some (.int v2)] [] h out := mVc_from 24 H
-- TasterTable$Reader.read(ILTasterTable$Board;)I
set_option maxRecDepth 20000 in
theorem vc_Rdr_read {d : Nat} {h : mHp} {out : mOut} {a1 : Int32} {a2 : Nat} (H : (((nI 0) = 0 ∨ (nI 0) = 1) ∧ (∃ h1 : mHp, mRuns d 0 0 [some (.ref 25), some (.int (nI 0)), none, none] [] (mPI (mPI (mPI (mPI (mPI (mPI h 23 2 (if (h.1 23 1) < a1 then (h.1 23 1) else a1)) 23 1 (nI 0)) 23 3 (nI 0)) 23 7 (nI 0)) 23 10 (-1)) 23 8 (nI 0)) (.inl (none, h1)) ∧
 mOb (∃ h2 : mHp, mRuns d 90 0 [some (.ref a2)] [] h1 (.inl (none, h2)) ∧
 (∃ h3 : mHp, mRuns d 135 0 [some (.ref 23)] [] h2 (.inl (none, h3)) ∧
 mRuns (d + 1) 134 55 [some (.ref 23), none, some (.ref a2), some (.int (nI 0))] [] h3 out)) 0 (mSh a2)))) :
  mRuns (d + 1) 134 0 [some (.ref 23), some (.int a1), some (.ref a2), none] [] h out := mVc_from 32 H
set_option maxRecDepth 20000 in
theorem vc_Rdr_read_55 {d : Nat} {h : mHp} {out : mOut} {v2 : Nat} {v3 : Int32} (H : (((h.1 23 2) ≤ v3 → out = .inl (some (.int (h.1 23 7)), h)) ∧
 (¬ (h.1 23 2) ≤ v3 → (((h.1 23 4) = 0 → out = .inl (some (.int (h.1 23 7)), h)) ∧
 (¬ (h.1 23 4) = 0 → ((¬ (h.1 23 7) = 0 → out = .inl (some (.int (h.1 23 7)), h)) ∧
 ((h.1 23 7) = 0 → (∃ (x2 : Int32) (h1 : mHp), mRuns d 138 0 [some (.ref 23), some (.ref 144), none] [] h (.inl (some (.int x2), h1)) ∧
 ((x2 = 0 → (∃ (x4 : Int32) (h3 : mHp), mRuns d 138 0 [some (.ref 23), some (.ref 145), none] [] h1 (.inl (some (.int x4), h3)) ∧
 ((x4 = 0 → (∃ (x6 : Int32) (h5 : mHp), mRuns d 138 0 [some (.ref 23), some (.ref 146), none] [] h3 (.inl (some (.int x6), h5)) ∧
 ((x6 = 0 → (∃ (x8 : Int32) (h7 : mHp), mRuns d 138 0 [some (.ref 23), some (.ref 147), none] [] h5 (.inl (some (.int x8), h7)) ∧
 ((x8 = 0 → (∃ (x10 : Int32) (h9 : mHp), mRuns d 138 0 [some (.ref 23), some (.ref 148), none] [] h7 (.inl (some (.int x10), h9)) ∧
 ((x10 = 0 → (∃ h11 : mHp, mRuns d 140 0 [some (.ref 23), some (.int (nI 1))] [] h9 (.inl (none, h11)) ∧
 mRuns (d + 1) 134 55 [some (.ref 23), none, some (.ref v2), some (.int (v3 + nI 1))] [] h11 out)) ∧
 (¬ x10 = 0 → (∃ h12 : mHp, mRuns d 149 0 [some (.ref 23), some (.ref v2), none] [] h9 (.inl (none, h12)) ∧
 mRuns (d + 1) 134 55 [some (.ref 23), none, some (.ref v2), some (.int (v3 + nI 1))] [] h12 out))))) ∧
 (¬ x8 = 0 → (∃ h13 : mHp, mRuns d 147 0 [some (.ref 23), some (.ref v2), none, none, none] [] h7 (.inl (none, h13)) ∧
 mRuns (d + 1) 134 55 [some (.ref 23), none, some (.ref v2), some (.int (v3 + nI 1))] [] h13 out))))) ∧
 (¬ x6 = 0 → (∃ h14 : mHp, mRuns d 145 0 [some (.ref 23), some (.ref v2), none, none, none] [] h5 (.inl (none, h14)) ∧
 mRuns (d + 1) 134 55 [some (.ref 23), none, some (.ref v2), some (.int (v3 + nI 1))] [] h14 out))))) ∧
 (¬ x4 = 0 → (∃ h15 : mHp, mRuns d 144 0 [some (.ref 23), some (.ref v2), none, none, none, none, none] [] h3 (.inl (none, h15)) ∧
 mRuns (d + 1) 134 55 [some (.ref 23), none, some (.ref v2), some (.int (v3 + nI 1))] [] h15 out))))) ∧
 (¬ x2 = 0 → (∃ h16 : mHp, mRuns d 139 0 [some (.ref 23), some (.ref v2), none, none, none, none] [] h1 (.inl (none, h16)) ∧
 mRuns (d + 1) 134 55 [some (.ref 23), none, some (.ref v2), some (.int (v3 + nI 1))] [] h16 out))))))))))) :
  mRuns (d + 1) 134 55 [some (.ref 23), none, some (.ref v2), some (.int v3)] [] h out := mVc_from 37 H
-- TasterTable$Reader.scan()V
set_option maxRecDepth 20000 in
theorem vc_Rdr_scan {d : Nat} {h : mHp} {out : mOut}  (H : (((h.1 23 2) ≤ (h.1 23 3) → mRuns (d + 1) 135 52 [some (.ref 23)] [] h out) ∧
 (¬ (h.1 23 2) ≤ (h.1 23 3) → (vp_in (h.1 23 3) 700 ∧ (((h.1 24 ((h.1 23 3).toNatClampNeg)) = (nI 32) → mRuns (d + 1) 135 0 [some (.ref 23)] [] (mPI h 23 3 ((h.1 23 3) + (nI 1))) out) ∧
 (¬ (h.1 24 ((h.1 23 3).toNatClampNeg)) = (nI 32) → (vp_in (h.1 23 3) 700 ∧ ((¬ (h.1 24 ((h.1 23 3).toNatClampNeg)) = (nI 10) → mRuns (d + 1) 135 52 [some (.ref 23)] [] h out) ∧
 ((h.1 24 ((h.1 23 3).toNatClampNeg)) = (nI 10) → mRuns (d + 1) 135 0 [some (.ref 23)] [] (mPI h 23 3 ((h.1 23 3) + (nI 1))) out))))))))) :
  mRuns (d + 1) 135 0 [some (.ref 23)] [] h out := mVc_from 27 H
set_option maxRecDepth 20000 in
theorem vc_Rdr_scan_52 {d : Nat} {h : mHp} {out : mOut}  (H : ((((mPI h 23 5 (h.1 23 3)).1 23 3) < ((mPI h 23 5 (h.1 23 3)).1 23 2) → (vp_in ((mPI h 23 5 (h.1 23 3)).1 23 3) 700 ∧ (∃ (x2 : Int32) (h1 : mHp), mRuns d 136 0 [some (.int ((mPI h 23 5 (h.1 23 3)).1 24 (((mPI h 23 5 (h.1 23 3)).1 23 3).toNatClampNeg)))] [] (mPI h 23 5 (h.1 23 3)) (.inl (some (.int x2), h1)) ∧
 ((x2 = 0 → (vp_in (h1.1 23 3) 700 ∧ (∃ (x4 : Int32) (h3 : mHp), mRuns d 137 0 [some (.int (h1.1 24 ((h1.1 23 3).toNatClampNeg)))] [] h1 (.inl (some (.int x4), h3)) ∧
 ((x4 = 0 → (vp_in (h3.1 23 3) 700 ∧ ((¬ (h3.1 24 ((h3.1 23 3).toNatClampNeg)) = (nI 59) → out = .inl (none, mPI (mPI h3 23 4 (nI 4)) 23 3 (((mPI h3 23 4 (nI 4)).1 23 3) + (nI 1)))) ∧
 ((h3.1 24 ((h3.1 23 3).toNatClampNeg)) = (nI 59) → out = .inl (none, mPI (mPI h3 23 4 (nI 3)) 23 3 (((mPI h3 23 4 (nI 3)).1 23 3) + (nI 1))))))) ∧
 (¬ x4 = 0 → mRuns (d + 1) 135 163 [some (.ref 23)] [] (mPI (mPI h3 23 4 (nI 2)) 23 6 (nI 0)) out))))) ∧
 (¬ x2 = 0 → mRuns (d + 1) 135 99 [some (.ref 23)] [] (mPI h1 23 4 (nI 1)) out))))) ∧
 (¬ ((mPI h 23 5 (h.1 23 3)).1 23 3) < ((mPI h 23 5 (h.1 23 3)).1 23 2) → out = .inl (none, mPI (mPI h 23 5 (h.1 23 3)) 23 4 (nI 0))))) :
  mRuns (d + 1) 135 52 [some (.ref 23)] [] h out := mVc_from 41 H
set_option maxRecDepth 20000 in
theorem vc_Rdr_scan_99 {d : Nat} {h : mHp} {out : mOut}  (H : (((h.1 23 2) ≤ (h.1 23 3) → out = .inl (none, h)) ∧
 (¬ (h.1 23 2) ≤ (h.1 23 3) → (vp_in (h.1 23 3) 700 ∧ (∃ (x2 : Int32) (h1 : mHp), mRuns d 136 0 [some (.int (h.1 24 ((h.1 23 3).toNatClampNeg)))] [] h (.inl (some (.int x2), h1)) ∧
 ((x2 = 0 → out = .inl (none, h1)) ∧
 (¬ x2 = 0 → mRuns (d + 1) 135 99 [some (.ref 23)] [] (mPI h1 23 3 ((h1.1 23 3) + (nI 1))) out))))))) :
  mRuns (d + 1) 135 99 [some (.ref 23)] [] h out := mVc_from 20 H
set_option maxRecDepth 20000 in
theorem vc_Rdr_scan_163 {d : Nat} {h : mHp} {out : mOut}  (H : (((h.1 23 2) ≤ (h.1 23 3) → out = .inl (none, h)) ∧
 (¬ (h.1 23 2) ≤ (h.1 23 3) → (vp_in (h.1 23 3) 700 ∧ (∃ (x2 : Int32) (h1 : mHp), mRuns d 137 0 [some (.int (h.1 24 ((h.1 23 3).toNatClampNeg)))] [] h (.inl (some (.int x2), h1)) ∧
 ((x2 = 0 → out = .inl (none, h1)) ∧
 (¬ x2 = 0 → (((nI 4) ≤ ((h1.1 23 3) - (h1.1 23 5)) → mRuns (d + 1) 135 163 [some (.ref 23)] [] (mPI (mPI h1 23 6 (nI 10000)) 23 3 (((mPI h1 23 6 (nI 10000)).1 23 3) + (nI 1))) out) ∧
 (¬ (nI 4) ≤ ((h1.1 23 3) - (h1.1 23 5)) → (vp_in (h1.1 23 3) 700 ∧ mRuns (d + 1) 135 163 [some (.ref 23)] [] (mPI (mPI h1 23 6 ((((h1.1 23 6) * (nI 10)) + (h1.1 24 ((h1.1 23 3).toNatClampNeg))) - (nI 48))) 23 3 (((mPI h1 23 6 ((((h1.1 23 6) * (nI 10)) + (h1.1 24 ((h1.1 23 3).toNatClampNeg))) - (nI 48))).1 23 3) + (nI 1))) out)))))))))) :
  mRuns (d + 1) 135 163 [some (.ref 23)] [] h out := mVc_from 42 H
-- TasterTable$Reader.isLetter(I)Z
set_option maxRecDepth 20000 in
theorem vc_Rdr_isLetter {d : Nat} {h : mHp} {out : mOut} {a1 : Int32} (H : ((a1 < (nI 97) → (((nI 0) = 0 ∨ (nI 0) = 1) ∧ out = .inl (some (.int (nI 0)), h))) ∧
 (¬ a1 < (nI 97) → (((nI 122) < a1 → (((nI 0) = 0 ∨ (nI 0) = 1) ∧ out = .inl (some (.int (nI 0)), h))) ∧
 (¬ (nI 122) < a1 → (((nI 1) = 0 ∨ (nI 1) = 1) ∧ out = .inl (some (.int (nI 1)), h))))))) :
  mRuns (d + 1) 136 0 [some (.int a1)] [] h out := mVc_from 9 H
-- TasterTable$Reader.isDigit(I)Z
set_option maxRecDepth 20000 in
theorem vc_Rdr_isDigit {d : Nat} {h : mHp} {out : mOut} {a1 : Int32} (H : ((a1 < (nI 48) → (((nI 0) = 0 ∨ (nI 0) = 1) ∧ out = .inl (some (.int (nI 0)), h))) ∧
 (¬ a1 < (nI 48) → (((nI 57) < a1 → (((nI 0) = 0 ∨ (nI 0) = 1) ∧ out = .inl (some (.int (nI 0)), h))) ∧
 (¬ (nI 57) < a1 → (((nI 1) = 0 ∨ (nI 1) = 1) ∧ out = .inl (some (.int (nI 1)), h))))))) :
  mRuns (d + 1) 137 0 [some (.int a1)] [] h out := mVc_from 9 H
-- TasterTable$Reader.isWord(Ljava/lang/String;)Z
set_option maxRecDepth 20000 in
theorem vc_Rdr_isWord {d : Nat} {h : mHp} {out : mOut} {a1 : Nat} (H : ((¬ (h.1 23 4) = (nI 1) → (((nI 0) = 0 ∨ (nI 0) = 1) ∧ out = .inl (some (.int (nI 0)), h))) ∧
 ((h.1 23 4) = (nI 1) → mStrC (fun l1 => ((((h.1 23 3) - (h.1 23 5)) = (nI l1.length) → mRuns (d + 1) 138 28 [some (.ref 23), some (.ref a1), some (.int (nI 0))] [] h out) ∧
 (¬ ((h.1 23 3) - (h.1 23 5)) = (nI l1.length) → (((nI 0) = 0 ∨ (nI 0) = 1) ∧ out = .inl (some (.int (nI 0)), h))))) (mSh a1)))) :
  mRuns (d + 1) 138 0 [some (.ref 23), some (.ref a1), none] [] h out := mVc_from 15 H
set_option maxRecDepth 20000 in
theorem vc_Rdr_isWord_28 {d : Nat} {h : mHp} {out : mOut} {v1 : Nat} {v2 : Int32} (H : mStrC (fun l1 => (((nI l1.length) ≤ v2 → (((nI 1) = 0 ∨ (nI 1) = 1) ∧ out = .inl (some (.int (nI 1)), h))) ∧
 (¬ (nI l1.length) ≤ v2 → (vp_in ((h.1 23 5) + v2) 700 ∧ mStrC (fun l2 => vp_in v2 l2.length ∧ (((h.1 24 (((h.1 23 5) + v2).toNatClampNeg)) = (nI (l2.getD v2.toNatClampNeg 0)) → mRuns (d + 1) 138 28 [some (.ref 23), some (.ref v1), some (.int (v2 + nI 1))] [] h out) ∧
 (¬ (h.1 24 (((h.1 23 5) + v2).toNatClampNeg)) = (nI (l2.getD v2.toNatClampNeg 0)) → (((nI 0) = 0 ∨ (nI 0) = 1) ∧ out = .inl (some (.int (nI 0)), h))))) (mSh v1))))) (mSh v1)) :
  mRuns (d + 1) 138 28 [some (.ref 23), some (.ref v1), some (.int v2)] [] h out := mVc_from 18 H
-- TasterTable$Reader.readDish(LTasterTable$Board;)V
set_option maxRecDepth 20000 in
theorem vc_Rdr_readDish {d : Nat} {h : mHp} {out : mOut} {a1 : Nat} (H : mOb ((((h.1 a1 0) < (nI 6) → (∃ h1 : mHp, mRuns d 135 0 [some (.ref 23)] [] h (.inl (none, h1)) ∧
 (∃ (x3 : Int32) (h2 : mHp), mRuns d 141 0 [some (.ref 23), some (.int (nI 0)), some (.int (nI 95)), none] [] h1 (.inl (some (.int x3), h2)) ∧
 (∃ (x5 : Int32) (h4 : mHp), mRuns d 141 0 [some (.ref 23), some (.int (x3 + (nI 1))), some (.int (nI 95)), none] [] h2 (.inl (some (.int x5), h4)) ∧
 (∃ (x7 : Int32) (h6 : mHp), mRuns d 142 0 [some (.ref 23), some (.ref 149), some (.int (nI 99)), some (.int (nI 1))] [] h4 (.inl (some (.int x7), h6)) ∧
 (∃ h8 : mHp, mRuns d 143 0 [some (.ref 23)] [] h6 (.inl (none, h8)) ∧
 ((¬ (h8.1 23 7) = 0 → out = .inl (none, h8)) ∧
 ((h8.1 23 7) = 0 → mOb (mAr 1 (fun n9 _ => vp_in (h.1 a1 0) n9 ∧ mOb (mAr 1 (fun n10 _ => vp_in (h.1 a1 0) n10 ∧ mOb (mAr 1 (fun n11 _ => vp_in (h.1 a1 0) n11 ∧ mOb (mOb (out = .inl (none, mPI (mPI (mPI (mPI h8 (a1 + 1) (h.1 a1 0).toNatClampNeg x3) (a1 + 2) (h.1 a1 0).toNatClampNeg x5) (a1 + 3) (h.1 a1 0).toNatClampNeg x7) a1 0 (((mPI (mPI (mPI h8 (a1 + 1) (h.1 a1 0).toNatClampNeg x3) (a1 + 2) (h.1 a1 0).toNatClampNeg x5) (a1 + 3) (h.1 a1 0).toNatClampNeg x7).1 a1 0) + (nI 1)))) 0 (mSh a1)) 0 (mSh a1)) (mSh (a1 + 3))) 0 (mSh a1)) (mSh (a1 + 2))) 0 (mSh a1)) (mSh (a1 + 1))) 0 (mSh a1))))))))) ∧
 (¬ (h.1 a1 0) < (nI 6) → (∃ h12 : mHp, mRuns d 140 0 [some (.ref 23), some (.int (nI 2))] [] h (.inl (none, h12)) ∧
 out = .inl (none, h12))))) 0 (mSh a1)) :
  mRuns (d + 1) 139 0 [some (.ref 23), some (.ref a1), none, none, none, none] [] h out := mVc_from 53 H
-- TasterTable$Reader.fail(I)V
set_option maxRecDepth 20000 in
theorem vc_Rdr_fail {d : Nat} {h : mHp} {out : mOut} {a1 : Int32} (H : ((¬ (h.1 23 7) = 0 → out = .inl (none, h)) ∧
 ((h.1 23 7) = 0 → out = .inl (none, mPI (mPI h 23 7 a1) 23 10 ((mPI h 23 7 a1).1 23 5))))) :
  mRuns (d + 1) 140 0 [some (.ref 23), some (.int a1)] [] h out := mVc_from 11 H
-- TasterTable$Reader.number(II)I
set_option maxRecDepth 20000 in
theorem vc_Rdr_number {d : Nat} {h : mHp} {out : mOut} {a1 : Int32} {a2 : Int32} (H : (((h.1 23 7) = 0 → (((h.1 23 4) = (nI 2) → (((h.1 23 6) < a1 → (∃ h1 : mHp, mRuns d 140 0 [some (.ref 23), some (.int (nI 2))] [] h (.inl (none, h1)) ∧
 out = .inl (some (.int a1), h1))) ∧
 (¬ (h.1 23 6) < a1 → (((h.1 23 6) ≤ a2 → (∃ h2 : mHp, mRuns d 135 0 [some (.ref 23)] [] h (.inl (none, h2)) ∧
 out = .inl (some (.int (h.1 23 6)), h2))) ∧
 (¬ (h.1 23 6) ≤ a2 → (∃ h3 : mHp, mRuns d 140 0 [some (.ref 23), some (.int (nI 2))] [] h (.inl (none, h3)) ∧
 out = .inl (some (.int a1), h3))))))) ∧
 (¬ (h.1 23 4) = (nI 2) → (∃ h4 : mHp, mRuns d 140 0 [some (.ref 23), some (.int (nI 1))] [] h (.inl (none, h4)) ∧
 out = .inl (some (.int a1), h4))))) ∧
 (¬ (h.1 23 7) = 0 → out = .inl (some (.int a1), h)))) :
  mRuns (d + 1) 141 0 [some (.ref 23), some (.int a1), some (.int a2), none] [] h out := mVc_from 21 H
-- TasterTable$Reader.option(Ljava/lang/String;II)I
set_option maxRecDepth 20000 in
theorem vc_Rdr_option {d : Nat} {h : mHp} {out : mOut} {a1 : Nat} {a2 : Int32} {a3 : Int32} (H : ((¬ (h.1 23 7) = 0 → out = .inl (some (.int a3), h)) ∧
 ((h.1 23 7) = 0 → (∃ (x2 : Int32) (h1 : mHp), mRuns d 138 0 [some (.ref 23), some (.ref a1), none] [] h (.inl (some (.int x2), h1)) ∧
 ((¬ x2 = 0 → (∃ h3 : mHp, mRuns d 135 0 [some (.ref 23)] [] h1 (.inl (none, h3)) ∧
 (∃ (x5 : Int32) (h4 : mHp), mRuns d 141 0 [some (.ref 23), some (.int (nI 0)), some (.int a2), none] [] h3 (.inl (some (.int x5), h4)) ∧
 out = .inl (some (.int x5), h4)))) ∧
 (x2 = 0 → out = .inl (some (.int a3), h1))))))) :
  mRuns (d + 1) 142 0 [some (.ref 23), some (.ref a1), some (.int a2), some (.int a3)] [] h out := mVc_from 14 H
-- TasterTable$Reader.endLine()V
set_option maxRecDepth 20000 in
theorem vc_Rdr_endLine {d : Nat} {h : mHp} {out : mOut}  (H : (((h.1 23 7) = 0 → ((¬ (h.1 23 4) = (nI 3) → (∃ h1 : mHp, mRuns d 140 0 [some (.ref 23), some (.int (nI 1))] [] h (.inl (none, h1)) ∧
 out = .inl (none, h1))) ∧
 ((h.1 23 4) = (nI 3) → (∃ h2 : mHp, mRuns d 135 0 [some (.ref 23)] [] h (.inl (none, h2)) ∧
 out = .inl (none, h2))))) ∧
 (¬ (h.1 23 7) = 0 → out = .inl (none, h)))) :
  mRuns (d + 1) 143 0 [some (.ref 23)] [] h out := mVc_from 11 H
-- TasterTable$Reader.readPoison(LTasterTable$Board;)V
set_option maxRecDepth 20000 in
theorem vc_Rdr_readPoison {d : Nat} {h : mHp} {out : mOut} {a1 : Nat} (H : mOb ((((h.1 a1 4) < (nI 5) → (∃ h1 : mHp, mRuns d 135 0 [some (.ref 23)] [] h (.inl (none, h1)) ∧
 (∃ (x3 : Int32) (h2 : mHp), mRuns d 141 0 [some (.ref 23), some (.int (nI 1)), some (.int (nI 40)), none] [] h1 (.inl (some (.int x3), h2)) ∧
 ((¬ (h2.1 23 7) = 0 → (((nI 0) = 0 → mRuns (d + 1) 144 60 [some (.ref 23), some (.ref a1), some (.int (h.1 a1 4)), some (.int x3), some (.int (nI 0)), none, none] [] h2 out) ∧
 (¬ (nI 0) = 0 → (∃ h4 : mHp, mRuns d 135 0 [some (.ref 23)] [] h2 (.inl (none, h4)) ∧
 mRuns (d + 1) 144 60 [some (.ref 23), some (.ref a1), some (.int (h.1 a1 4)), some (.int x3), some (.int (nI 0)), none, none] [] h4 out)))) ∧
 ((h2.1 23 7) = 0 → (∃ (x6 : Int32) (h5 : mHp), mRuns d 138 0 [some (.ref 23), some (.ref 150), none] [] h2 (.inl (some (.int x6), h5)) ∧
 ((x6 = 0 → (((nI 0) = 0 → mRuns (d + 1) 144 60 [some (.ref 23), some (.ref a1), some (.int (h.1 a1 4)), some (.int x3), some (.int (nI 0)), none, none] [] h5 out) ∧
 (¬ (nI 0) = 0 → (∃ h7 : mHp, mRuns d 135 0 [some (.ref 23)] [] h5 (.inl (none, h7)) ∧
 mRuns (d + 1) 144 60 [some (.ref 23), some (.ref a1), some (.int (h.1 a1 4)), some (.int x3), some (.int (nI 0)), none, none] [] h7 out)))) ∧
 (¬ x6 = 0 → (((nI 1) = 0 → mRuns (d + 1) 144 60 [some (.ref 23), some (.ref a1), some (.int (h.1 a1 4)), some (.int x3), some (.int (nI 1)), none, none] [] h5 out) ∧
 (¬ (nI 1) = 0 → (∃ h8 : mHp, mRuns d 135 0 [some (.ref 23)] [] h5 (.inl (none, h8)) ∧
 mRuns (d + 1) 144 60 [some (.ref 23), some (.ref a1), some (.int (h.1 a1 4)), some (.int x3), some (.int (nI 1)), none, none] [] h8 out))))))))))) ∧
 (¬ (h.1 a1 4) < (nI 5) → (∃ h9 : mHp, mRuns d 140 0 [some (.ref 23), some (.int (nI 2))] [] h (.inl (none, h9)) ∧
 out = .inl (none, h9))))) 0 (mSh a1)) :
  mRuns (d + 1) 144 0 [some (.ref 23), some (.ref a1), none, none, none, none, none] [] h out := mVc_from 28 H
set_option maxRecDepth 20000 in
theorem vc_Rdr_readPoison_60 {d : Nat} {h : mHp} {out : mOut} {v1 : Nat} {v2 : Int32} {v3 : Int32} {v4 : Int32} (H : (∃ (x2 : Int32) (h1 : mHp), mRuns d 142 0 [some (.ref 23), some (.ref 151), some (.int (nI 9)), some (.int (nI 0))] [] h (.inl (some (.int x2), h1)) ∧
 (∃ (x4 : Int32) (h3 : mHp), mRuns d 142 0 [some (.ref 23), some (.ref 149), some (.int (nI 99)), some (.int (nI 1))] [] h1 (.inl (some (.int x4), h3)) ∧
 (∃ h5 : mHp, mRuns d 143 0 [some (.ref 23)] [] h3 (.inl (none, h5)) ∧
 ((¬ (h5.1 23 7) = 0 → out = .inl (none, h5)) ∧
 ((h5.1 23 7) = 0 → mOb (mAr 1 (fun n6 _ => vp_in v2 n6 ∧ mOb (((v4 = 0 → mRuns (d + 1) 144 115 [none, some (.ref v1), some (.int v2), none, none, some (.int x2), some (.int x4)] [.int (nI 0), .int v2, .ref (v1 + 5)] (mPI h5 (v1 + 4) v2.toNatClampNeg v3) out) ∧
 (¬ v4 = 0 → mRuns (d + 1) 144 115 [none, some (.ref v1), some (.int v2), none, none, some (.int x2), some (.int x4)] [.int (nI 1), .int v2, .ref (v1 + 5)] (mPI h5 (v1 + 4) v2.toNatClampNeg v3) out))) 0 (mSh v1)) (mSh (v1 + 4))) 0 (mSh v1))))))) :
  mRuns (d + 1) 144 60 [some (.ref 23), some (.ref v1), some (.int v2), some (.int v3), some (.int v4), none, none] [] h out := mVc_from 30 H
set_option maxRecDepth 20000 in
theorem vc_Rdr_readPoison_115 {d : Nat} {h : mHp} {out : mOut} {s0 : Int32} {s1 : Int32} {s2 : Nat} {v1 : Nat} {v2 : Int32} {v5 : Int32} {v6 : Int32} (H : mAr 1 (fun n1 _ => vp_in s1 n1 ∧ mOb (mAr 1 (fun n2 _ => vp_in v2 n2 ∧ mOb (mAr 1 (fun n3 _ => vp_in v2 n3 ∧ mOb (mOb (out = .inl (none, mPI (mPI (mPI (mPI h s2 s1.toNatClampNeg s0) (v1 + 6) v2.toNatClampNeg v5) (v1 + 7) v2.toNatClampNeg v6) v1 4 (((mPI (mPI (mPI h s2 s1.toNatClampNeg s0) (v1 + 6) v2.toNatClampNeg v5) (v1 + 7) v2.toNatClampNeg v6).1 v1 4) + (nI 1)))) 0 (mSh v1)) 0 (mSh v1)) (mSh (v1 + 7))) 0 (mSh v1)) (mSh (v1 + 6))) 0 (mSh v1)) (mSh s2)) :
  mRuns (d + 1) 144 115 [none, some (.ref v1), some (.int v2), none, none, some (.int v5), some (.int v6)] [.int s0, .int s1, .ref s2] h out := mVc_from 18 H
-- TasterTable$Reader.readTaster(LTasterTable$Board;)V
set_option maxRecDepth 20000 in
theorem vc_Rdr_readTaster {d : Nat} {h : mHp} {out : mOut} {a1 : Nat} (H : mOb ((((h.1 a1 9) < (nI 5) → (∃ h1 : mHp, mRuns d 135 0 [some (.ref 23)] [] h (.inl (none, h1)) ∧
 (∃ (x3 : Int32) (h2 : mHp), mRuns d 146 0 [some (.ref 23), none] [] h1 (.inl (some (.int x3), h2)) ∧
 (∃ (x5 : Int32) (h4 : mHp), mRuns d 142 0 [some (.ref 23), some (.ref 152), some (.int (nI 6)), some (.int (nI 6))] [] h2 (.inl (some (.int x5), h4)) ∧
 (∃ h6 : mHp, mRuns d 143 0 [some (.ref 23)] [] h4 (.inl (none, h6)) ∧
 ((¬ (h6.1 23 7) = 0 → out = .inl (none, h6)) ∧
 ((h6.1 23 7) = 0 → mOb (mAr 1 (fun n7 _ => vp_in (h.1 a1 9) n7 ∧ mOb (mAr 1 (fun n8 _ => vp_in (h.1 a1 9) n8 ∧ mOb (mOb (out = .inl (none, mPI (mPI (mPI h6 (a1 + 8) (h.1 a1 9).toNatClampNeg x3) (a1 + 9) (h.1 a1 9).toNatClampNeg x5) a1 9 (((mPI (mPI h6 (a1 + 8) (h.1 a1 9).toNatClampNeg x3) (a1 + 9) (h.1 a1 9).toNatClampNeg x5).1 a1 9) + (nI 1)))) 0 (mSh a1)) 0 (mSh a1)) (mSh (a1 + 9))) 0 (mSh a1)) (mSh (a1 + 8))) 0 (mSh a1)))))))) ∧
 (¬ (h.1 a1 9) < (nI 5) → (∃ h9 : mHp, mRuns d 140 0 [some (.ref 23), some (.int (nI 2))] [] h (.inl (none, h9)) ∧
 out = .inl (none, h9))))) 0 (mSh a1)) :
  mRuns (d + 1) 145 0 [some (.ref 23), some (.ref a1), none, none, none] [] h out := mVc_from 39 H
-- TasterTable$Reader.kindOfWord()I
set_option maxRecDepth 20000 in
theorem vc_Rdr_kindOfWord {d : Nat} {h : mHp} {out : mOut}  (H : (∃ (x2 : Int32) (h1 : mHp), mRuns d 138 0 [some (.ref 23), some (.ref 153), none] [] h (.inl (some (.int x2), h1)) ∧
 ((x2 = 0 → (∃ (x4 : Int32) (h3 : mHp), mRuns d 138 0 [some (.ref 23), some (.ref 154), none] [] h1 (.inl (some (.int x4), h3)) ∧
 ((x4 = 0 → (∃ (x6 : Int32) (h5 : mHp), mRuns d 138 0 [some (.ref 23), some (.ref 155), none] [] h3 (.inl (some (.int x6), h5)) ∧
 ((x6 = 0 → (∃ (x8 : Int32) (h7 : mHp), mRuns d 138 0 [some (.ref 23), some (.ref 156), none] [] h5 (.inl (some (.int x8), h7)) ∧
 ((x8 = 0 → (∃ (x10 : Int32) (h9 : mHp), mRuns d 138 0 [some (.ref 23), some (.ref 157), none] [] h7 (.inl (some (.int x10), h9)) ∧
 ((x10 = 0 → mRuns (d + 1) 146 69 [some (.ref 23), some (.int (-1))] [] h9 out) ∧
 (¬ x10 = 0 → mRuns (d + 1) 146 69 [some (.ref 23), some (.int (nI 4))] [] h9 out)))) ∧
 (¬ x8 = 0 → mRuns (d + 1) 146 69 [some (.ref 23), some (.int (nI 3))] [] h7 out)))) ∧
 (¬ x6 = 0 → mRuns (d + 1) 146 69 [some (.ref 23), some (.int (nI 2))] [] h5 out)))) ∧
 (¬ x4 = 0 → mRuns (d + 1) 146 69 [some (.ref 23), some (.int (nI 1))] [] h3 out)))) ∧
 (¬ x2 = 0 → mRuns (d + 1) 146 69 [some (.ref 23), some (.int (nI 0))] [] h1 out)))) :
  mRuns (d + 1) 146 0 [some (.ref 23), none] [] h out := mVc_from 25 H
set_option maxRecDepth 20000 in
theorem vc_Rdr_kindOfWord_69 {d : Nat} {h : mHp} {out : mOut} {v1 : Int32} (H : ((¬ v1 = (-1) → (∃ h1 : mHp, mRuns d 135 0 [some (.ref 23)] [] h (.inl (none, h1)) ∧
 out = .inl (some (.int v1), h1))) ∧
 (v1 = (-1) → (∃ h2 : mHp, mRuns d 140 0 [some (.ref 23), some (.int (nI 1))] [] h (.inl (none, h2)) ∧
 out = .inl (some (.int v1), h2))))) :
  mRuns (d + 1) 146 69 [some (.ref 23), some (.int v1)] [] h out := mVc_from 9 H
-- TasterTable$Reader.readHad(LTasterTable$Board;)V
set_option maxRecDepth 20000 in
theorem vc_Rdr_readHad {d : Nat} {h : mHp} {out : mOut} {a1 : Nat} (H : (∃ h1 : mHp, mRuns d 135 0 [some (.ref 23)] [] h (.inl (none, h1)) ∧
 mOb ((∃ (x3 : Int32) (h2 : mHp), mRuns d 148 0 [some (.ref 23), some (.int (h1.1 a1 9)), some (.int (nI 0)), none] [] h1 (.inl (some (.int x3), h2)) ∧
 mOb (((¬ x3 = (-1) → (vp_in x3 5 ∧ mRuns (d + 1) 147 34 [some (.ref 23), some (.ref a1), some (.int x3), none, none] [.int (h2.1 25 (x3.toNatClampNeg)), .int (h2.1 a1 4), .ref 23] h2 out)) ∧
 (x3 = (-1) → mRuns (d + 1) 147 34 [some (.ref 23), some (.ref a1), some (.int x3), none, none] [.int (nI 0), .int (h2.1 a1 4), .ref 23] h2 out))) 0 (mSh a1))) 0 (mSh a1))) :
  mRuns (d + 1) 147 0 [some (.ref 23), some (.ref a1), none, none, none] [] h out := mVc_from 19 H
set_option maxRecDepth 20000 in
theorem vc_Rdr_readHad_34 {d : Nat} {h : mHp} {out : mOut} {s0 : Int32} {s1 : Int32} {v1 : Nat} {v2 : Int32} (H : (∃ (x2 : Int32) (h1 : mHp), mRuns d 148 0 [some (.ref 23), some (.int s1), some (.int s0), none] [] h (.inl (some (.int x2), h1)) ∧
 (∃ (x4 : Int32) (h3 : mHp), mRuns d 141 0 [some (.ref 23), some (.int (nI 0)), some (.int (nI 99)), none] [] h1 (.inl (some (.int x4), h3)) ∧
 (∃ h5 : mHp, mRuns d 143 0 [some (.ref 23)] [] h3 (.inl (none, h5)) ∧
 ((¬ (h5.1 23 7) = 0 → out = .inl (none, h5)) ∧
 ((h5.1 23 7) = 0 → ((v2 = (-1) → out = .inl (none, h5)) ∧
 (¬ v2 = (-1) → ((x2 = (-1) → out = .inl (none, h5)) ∧
 (¬ x2 = (-1) → (vp_in v2 5 ∧ (vp_in v2 5 ∧ mOb ((∃ (x7 : Int32) (h6 : mHp), mRuns d 154 0 [some (.int v2), some (.int x2)] [] (mPI h5 25 v2.toNatClampNeg ((h5.1 25 (v2.toNatClampNeg)) ||| ((nI 1) <<< (x2 &&& 31)))) (.inl (some (.int x7), h6)) ∧
 mAr 1 (fun n8 _ => vp_in x7 n8 ∧ out = .inl (none, mPI h6 (v1 + 10) x7.toNatClampNeg x4)) (mSh (v1 + 10)))) 0 (mSh v1))))))))))))) :
  mRuns (d + 1) 147 34 [some (.ref 23), some (.ref v1), some (.int v2), none, none] [.int s0, .int s1, .ref 23] h out := mVc_from 36 H
-- TasterTable$Reader.toldNumber(II)I
set_option maxRecDepth 20000 in
theorem vc_Rdr_toldNumber {d : Nat} {h : mHp} {out : mOut} {a1 : Int32} {a2 : Int32} (H : (((h.1 23 7) = 0 → (((h.1 23 4) = (nI 2) → ((¬ (h.1 23 6) = (nI 10000) → (((h.1 23 6) < a1 → ((((a2 >>> ((h.1 23 6) &&& 31)) &&& (nI 1)) = 0 → mRuns (d + 1) 148 75 [some (.ref 23), none, none, none] [] h out) ∧
 (¬ ((a2 >>> ((h.1 23 6) &&& 31)) &&& (nI 1)) = 0 → (∃ h1 : mHp, mRuns d 140 0 [some (.ref 23), some (.int (nI 4))] [] h (.inl (none, h1)) ∧
 mRuns (d + 1) 148 75 [some (.ref 23), none, none, none] [] h1 out)))) ∧
 (¬ (h.1 23 6) < a1 → (∃ h2 : mHp, mRuns d 140 0 [some (.ref 23), some (.int (nI 3))] [] h (.inl (none, h2)) ∧
 mRuns (d + 1) 148 75 [some (.ref 23), none, none, none] [] h2 out)))) ∧
 ((h.1 23 6) = (nI 10000) → (∃ h3 : mHp, mRuns d 140 0 [some (.ref 23), some (.int (nI 2))] [] h (.inl (none, h3)) ∧
 mRuns (d + 1) 148 75 [some (.ref 23), none, none, none] [] h3 out)))) ∧
 (¬ (h.1 23 4) = (nI 2) → (∃ h4 : mHp, mRuns d 140 0 [some (.ref 23), some (.int (nI 1))] [] h (.inl (none, h4)) ∧
 mRuns (d + 1) 148 75 [some (.ref 23), none, none, none] [] h4 out)))) ∧
 (¬ (h.1 23 7) = 0 → out = .inl (some (.int (-1)), h)))) :
  mRuns (d + 1) 148 0 [some (.ref 23), some (.int a1), some (.int a2), none] [] h out := mVc_from 26 H
set_option maxRecDepth 20000 in
theorem vc_Rdr_toldNumber_75 {d : Nat} {h : mHp} {out : mOut}  (H : (((h.1 23 7) = 0 → (∃ h1 : mHp, mRuns d 135 0 [some (.ref 23)] [] h (.inl (none, h1)) ∧
 out = .inl (some (.int (h.1 23 6)), h1))) ∧
 (¬ (h.1 23 7) = 0 → out = .inl (some (.int (-1)), h)))) :
  mRuns (d + 1) 148 75 [some (.ref 23), none, none, none] [] h out := mVc_from 10 H
-- TasterTable$Reader.readClean(LTasterTable$Board;)V
set_option maxRecDepth 20000 in
theorem vc_Rdr_readClean {d : Nat} {h : mHp} {out : mOut} {a1 : Nat} (H : (((h.1 23 8) = 0 → (∃ h1 : mHp, mRuns d 135 0 [some (.ref 23)] [] h (.inl (none, h1)) ∧
 (∃ (x3 : Int32) (h2 : mHp), mRuns d 141 0 [some (.ref 23), some (.int (nI 0)), some (.int (nI 9999)), none] [] h1 (.inl (some (.int x3), h2)) ∧
 (∃ h4 : mHp, mRuns d 143 0 [some (.ref 23)] [] h2 (.inl (none, h4)) ∧
 ((¬ (h4.1 23 7) = 0 → out = .inl (none, h4)) ∧
 ((h4.1 23 7) = 0 → (((nI 1) = 0 ∨ (nI 1) = 1) ∧ mOb (out = .inl (none, mPI (mPI h4 23 8 (nI 1)) a1 13 x3)) 0 (mSh a1)))))))) ∧
 (¬ (h.1 23 8) = 0 → (∃ h5 : mHp, mRuns d 140 0 [some (.ref 23), some (.int (nI 5))] [] h (.inl (none, h5)) ∧
 out = .inl (none, h5))))) :
  mRuns (d + 1) 149 0 [some (.ref 23), some (.ref a1), none] [] h out := mVc_from 22 H

/-! The unfolded stretches of methods (by program, wip/gen/vcgen.py): each gives mRuns at its place -/
-- TasterTable.feed(IIIII)I
set_option maxRecDepth 20000 in
theorem vc_T_feed {d : Nat} {h : mHp} {out : mOut} {a1 : Int32} {a2 : Int32} {a3 : Int32} {a4 : Int32} {a5 : Int32} (H : ((((h.1 23 1) + (nI 20)) ≤ (nI 700) → (∃ h1 : mHp, mRuns d 133 0 [some (.ref 23), some (.int a1), none] [] h (.inl (none, h1)) ∧
 (∃ h2 : mHp, mRuns d 133 0 [some (.ref 23), some (.int a2), none] [] h1 (.inl (none, h2)) ∧
 (∃ h3 : mHp, mRuns d 133 0 [some (.ref 23), some (.int a3), none] [] h2 (.inl (none, h3)) ∧
 (∃ h4 : mHp, mRuns d 133 0 [some (.ref 23), some (.int a4), none] [] h3 (.inl (none, h4)) ∧
 (∃ h5 : mHp, mRuns d 133 0 [some (.ref 23), some (.int a5), none] [] h4 (.inl (none, h5)) ∧
 out = .inl (some (.int (h5.1 23 1)), h5))))))) ∧
 (¬ ((h.1 23 1) + (nI 20)) ≤ (nI 700) → out = .inl (some (.int (-1)), h)))) :
  mRuns (d + 1) 150 0 [some (.ref 0), some (.int a1), some (.int a2), some (.int a3), some (.int a4), some (.int a5)] [] h out := mVc_from 31 H
-- TasterTable.fault()I
set_option maxRecDepth 20000 in
theorem vc_T_fault {d : Nat} {h : mHp} {out : mOut}  (H : out = .inl (some (.int (h.1 0 11)), h)) :
  mRuns (d + 1) 151 0 [some (.ref 0)] [] h out := mVc_from 3 H
-- TasterTable.undo()I
set_option maxRecDepth 20000 in
theorem vc_T_undo {d : Nat} {h : mHp} {out : mOut}  (H : (∃ (x2 : Int32) (h1 : mHp), mRuns d 81 0 [some (.ref 90)] [] h (.inl (some (.int x2), h1)) ∧
 ((x2 = 0 → out = .inl (some (.int (-1)), h1)) ∧
 (¬ x2 = 0 → out = .inl (some (.int (h1.1 90 0)), h1))))) :
  mRuns (d + 1) 152 0 [some (.ref 0)] [] h out := mVc_from 9 H
-- TasterTable.pairs()I
set_option maxRecDepth 20000 in
theorem vc_T_pairs {d : Nat} {h : mHp} {out : mOut}  (H : mTrue ((∃ (x2 : Int32) (h1 : mHp), mRuns d 82 0 [some (.ref 90), none, none] [] h (.inl (some (.int x2), h1)) ∧
 (∃ h3 : mHp, mRuns d 92 0 [some (.ref 87), some (.ref (h.2.2.1 0 0)), some (.ref 90), some (.int x2), none] [] h1 (.inl (none, h3)) ∧
 (∃ (x5 : Int32) (h4 : mHp), mRuns d 96 0 [some (.ref 87), none, none, none] [] h3 (.inl (some (.int x5), h4)) ∧
 out = .inl (some (.int x5), h4))))) (Nat.blt (h.2.2.1 0 0) 142)) :
  mRuns (d + 1) 153 0 [some (.ref 0)] [] h out := mVc_from 14 H
-- TasterTable.hadIndex(II)I
set_option maxRecDepth 20000 in
theorem vc_T_hadIndex {d : Nat} {h : mHp} {out : mOut} {a1 : Int32} {a2 : Int32} (H : out = .inl (some (.int ((a1 * (nI 5)) + a2)), h)) :
  mRuns (d + 1) 154 0 [some (.int a1), some (.int a2)] [] h out := mVc_from 6 H
-- TasterTable.image()V
set_option maxRecDepth 20000 in
theorem vc_T_image {d : Nat} {h : mHp} {out : mOut}  (H : (∃ h1 : mHp, mRuns d 83 0 [some (.ref 96), some (.ref 90)] [] h (.inl (none, h1)) ∧
 (∃ h2 : mHp, mRuns d 124 0 [some (.ref 108), some (.ref 102)] [] h1 (.inl (none, h2)) ∧
 (((nI 1) = 0 ∨ (nI 1) = 1) ∧ out = .inl (none, mPI h2 0 9 (nI 1)))))) :
  mRuns (d + 1) 155 0 [some (.ref 0)] [] h out := mVc_from 14 H
-- TasterTable.restore()Z
set_option maxRecDepth 20000 in
theorem vc_T_restore {d : Nat} {h : mHp} {out : mOut}  (H : ((¬ (h.1 0 9) = 0 → (∃ h1 : mHp, mRuns d 83 0 [some (.ref 90), some (.ref 96)] [] h (.inl (none, h1)) ∧
 (∃ h2 : mHp, mRuns d 124 0 [some (.ref 102), some (.ref 108)] [] h1 (.inl (none, h2)) ∧
 (((nI 1) = 0 ∨ (nI 1) = 1) ∧ out = .inl (some (.int (nI 1)), h2))))) ∧
 ((h.1 0 9) = 0 → (((nI 0) = 0 ∨ (nI 0) = 1) ∧ out = .inl (some (.int (nI 0)), h))))) :
  mRuns (d + 1) 156 0 [some (.ref 0)] [] h out := mVc_from 15 H
-- TasterTable.table(I)I
set_option maxRecDepth 20000 in
theorem vc_T_table {d : Nat} {h : mHp} {out : mOut} {a1 : Int32} (H : ((a1 < 0 → out = .inr (0, mXc h)) ∧
 (¬ a1 < 0 → ((a1 ≤ (h.1 23 1) → mTrue ((∃ (x2 : Int32) (h1 : mHp), mRuns d 134 0 [some (.ref 23), some (.int a1), some (.ref (h.2.2.1 0 1)), none] [] h (.inl (some (.int x2), h1)) ∧
 ((x2 = 0 → (∃ h3 : mHp, mRuns d 158 0 [some (.ref 0), none] [] (mPI h1 0 11 (-1)) (.inl (none, h3)) ∧
 out = .inl (some (.int (nI 0)), h3))) ∧
 (¬ x2 = 0 → out = .inl (some (.int x2), mPI (mPI h1 0 11 (h1.1 23 10)) 0 12 (((mPI h1 0 11 (h1.1 23 10)).1 0 12) + (nI 1))))))) (Nat.blt (h.2.2.1 0 1) 142)) ∧
 (¬ a1 ≤ (h.1 23 1) → out = .inr (0, mXc h)))))) :
  mRuns (d + 1) 157 0 [some (.ref 0), some (.int a1), none] [] h out := mVc_from 29 H
-- TasterTable.takeDraft()V
set_option maxRecDepth 20000 in
theorem vc_T_takeDraft {d : Nat} {h : mHp} {out : mOut}  (H : mTrue (mTrue (mOb (mOb ((∃ h1 : mHp, mRuns d 103 0 [some (.ref 26), none] [] (mPR (mPR h 0 0 (h.2.2.1 0 1)) 0 1 (h.2.2.1 0 0)) (.inl (none, h1)) ∧
 (∃ h2 : mHp, mRuns d 84 0 [some (.ref 90)] [] h1 (.inl (none, h2)) ∧
 (∃ h3 : mHp, mRuns d 125 0 [some (.ref 102)] [] h2 (.inl (none, h3)) ∧
 (((nI 0) = 0 ∨ (nI 0) = 1) ∧ out = .inl (none, mPI (mPI h3 0 9 (nI 0)) 0 10 (-1))))))) 0 (mSh (h.2.2.1 0 0))) 0 (mSh (h.2.2.1 0 1))) (Nat.blt (h.2.2.1 0 1) 142)) (Nat.blt (h.2.2.1 0 0) 142)) :
  mRuns (d + 1) 158 0 [some (.ref 0), none] [] h out := mVc_from 26 H
-- TasterTable.count(I)I
set_option maxRecDepth 20000 in
theorem vc_T_count {d : Nat} {h : mHp} {out : mOut} {a1 : Int32} (H : ((a1 < nI 0 ∨ nI 10 < a1 → out = .inr (1, mXc h)) ∧
 (a1 = nI 0 → mTrue (mOb (out = .inl (some (.int (h.1 (h.2.2.1 0 0) 0)), h)) 0 (mSh (h.2.2.1 0 0))) (Nat.blt (h.2.2.1 0 0) 142)) ∧
 (a1 = nI 1 → mTrue (mOb (out = .inl (some (.int (h.1 (h.2.2.1 0 0) 4)), h)) 0 (mSh (h.2.2.1 0 0))) (Nat.blt (h.2.2.1 0 0) 142)) ∧
 (a1 = nI 2 → mTrue (mOb (out = .inl (some (.int (h.1 (h.2.2.1 0 0) 9)), h)) 0 (mSh (h.2.2.1 0 0))) (Nat.blt (h.2.2.1 0 0) 142)) ∧
 (a1 = nI 3 → mTrue (mOb (out = .inl (some (.int (h.1 (h.2.2.1 0 0) 13)), h)) 0 (mSh (h.2.2.1 0 0))) (Nat.blt (h.2.2.1 0 0) 142)) ∧
 (a1 = nI 4 → out = .inl (some (.int (h.1 90 0)), h)) ∧
 (a1 = nI 5 → (∃ (x2 : Int32) (h1 : mHp), mRuns d 82 0 [some (.ref 90), none, none] [] h (.inl (some (.int x2), h1)) ∧
 out = .inl (some (.int x2), h1))) ∧
 (a1 = nI 6 → out = .inl (some (.int (h.1 23 1)), h)) ∧
 (a1 = nI 7 → out = .inl (some (.int (h.1 0 12)), h)) ∧
 (a1 = nI 8 → out = .inl (some (.int (h.1 0 13)), h)) ∧
 (a1 = nI 9 → out = .inl (some (.int (h.1 0 14)), h)) ∧
 (a1 = nI 10 → out = .inl (some (.int (h.1 102 4)), h)) ∧
 True)) :
  mRuns (d + 1) 159 0 [some (.ref 0), some (.int a1)] [] h out := mVc_from 6 H
-- TasterTable.dish(II)I
set_option maxRecDepth 20000 in
theorem vc_T_dish {d : Nat} {h : mHp} {out : mOut} {a1 : Int32} {a2 : Int32} (H : ((∃ h1 : mHp, mRuns d 161 0 [some (.ref 0), some (.int a1)] [] h (.inl (none, h1)) ∧
 ((a2 < nI 0 ∨ nI 2 < a2 → out = .inr (1, mXc h1)) ∧
 (a2 = nI 0 → mTrue (mOb (mLd (fun x2 => out = .inl (some (.int x2), h1)) h1 a1 ((h1.2.2.1 0 0) + 1) (mSh ((h1.2.2.1 0 0) + 1))) 0 (mSh (h1.2.2.1 0 0))) (Nat.blt (h1.2.2.1 0 0) 142)) ∧
 (a2 = nI 1 → mTrue (mOb (mLd (fun x3 => out = .inl (some (.int x3), h1)) h1 a1 ((h1.2.2.1 0 0) + 2) (mSh ((h1.2.2.1 0 0) + 2))) 0 (mSh (h1.2.2.1 0 0))) (Nat.blt (h1.2.2.1 0 0) 142)) ∧
 (a2 = nI 2 → mTrue (mOb (mLd (fun x4 => out = .inl (some (.int x4), h1)) h1 a1 ((h1.2.2.1 0 0) + 3) (mSh ((h1.2.2.1 0 0) + 3))) 0 (mSh (h1.2.2.1 0 0))) (Nat.blt (h1.2.2.1 0 0) 142)) ∧
 True)) ∨
 (∃ (e5 : Nat) (h6 : mHp), mRuns d 161 0 [some (.ref 0), some (.int a1)] [] h (.inr (e5, h6)) ∧ out = .inr (e5, h6)))) :
  mRuns (d + 1) 160 0 [some (.ref 0), some (.int a1), some (.int a2)] [] h out := mVc_from 11 H
-- TasterTable.needDish(I)V
set_option maxRecDepth 20000 in
theorem vc_T_needDish {d : Nat} {h : mHp} {out : mOut} {a1 : Int32} (H : ((a1 < 0 → out = .inr (1, mXc h)) ∧
 (¬ a1 < 0 → mTrue (mOb (((a1 < (h.1 (h.2.2.1 0 0) 0) → out = .inl (none, h)) ∧
 (¬ a1 < (h.1 (h.2.2.1 0 0) 0) → out = .inr (1, mXc h)))) 0 (mSh (h.2.2.1 0 0))) (Nat.blt (h.2.2.1 0 0) 142)))) :
  mRuns (d + 1) 161 0 [some (.ref 0), some (.int a1)] [] h out := mVc_from 8 H
-- TasterTable.poison(II)I
set_option maxRecDepth 20000 in
theorem vc_T_poison {d : Nat} {h : mHp} {out : mOut} {a1 : Int32} {a2 : Int32} (H : ((∃ h1 : mHp, mRuns d 163 0 [some (.ref 0), some (.int a1)] [] h (.inl (none, h1)) ∧
 ((a2 < nI 0 ∨ nI 3 < a2 → out = .inr (1, mXc h1)) ∧
 (a2 = nI 0 → mTrue (mOb (mLd (fun x2 => out = .inl (some (.int x2), h1)) h1 a1 ((h1.2.2.1 0 0) + 4) (mSh ((h1.2.2.1 0 0) + 4))) 0 (mSh (h1.2.2.1 0 0))) (Nat.blt (h1.2.2.1 0 0) 142)) ∧
 (a2 = nI 1 → mTrue (mOb (mLd (fun x3 => out = .inl (some (.int x3), h1)) h1 a1 ((h1.2.2.1 0 0) + 5) (mSh ((h1.2.2.1 0 0) + 5))) 0 (mSh (h1.2.2.1 0 0))) (Nat.blt (h1.2.2.1 0 0) 142)) ∧
 (a2 = nI 2 → mTrue (mOb (mLd (fun x4 => out = .inl (some (.int x4), h1)) h1 a1 ((h1.2.2.1 0 0) + 6) (mSh ((h1.2.2.1 0 0) + 6))) 0 (mSh (h1.2.2.1 0 0))) (Nat.blt (h1.2.2.1 0 0) 142)) ∧
 (a2 = nI 3 → mTrue (mOb (mLd (fun x5 => out = .inl (some (.int x5), h1)) h1 a1 ((h1.2.2.1 0 0) + 7) (mSh ((h1.2.2.1 0 0) + 7))) 0 (mSh (h1.2.2.1 0 0))) (Nat.blt (h1.2.2.1 0 0) 142)) ∧
 True)) ∨
 (∃ (e6 : Nat) (h7 : mHp), mRuns d 163 0 [some (.ref 0), some (.int a1)] [] h (.inr (e6, h7)) ∧ out = .inr (e6, h7)))) :
  mRuns (d + 1) 162 0 [some (.ref 0), some (.int a1), some (.int a2)] [] h out := mVc_from 11 H
-- TasterTable.needPoison(I)V
set_option maxRecDepth 20000 in
theorem vc_T_needPoison {d : Nat} {h : mHp} {out : mOut} {a1 : Int32} (H : ((a1 < 0 → out = .inr (1, mXc h)) ∧
 (¬ a1 < 0 → mTrue (mOb (((a1 < (h.1 (h.2.2.1 0 0) 4) → out = .inl (none, h)) ∧
 (¬ a1 < (h.1 (h.2.2.1 0 0) 4) → out = .inr (1, mXc h)))) 0 (mSh (h.2.2.1 0 0))) (Nat.blt (h.2.2.1 0 0) 142)))) :
  mRuns (d + 1) 163 0 [some (.ref 0), some (.int a1)] [] h out := mVc_from 8 H
-- TasterTable.taster(II)I
set_option maxRecDepth 20000 in
theorem vc_T_taster {d : Nat} {h : mHp} {out : mOut} {a1 : Int32} {a2 : Int32} (H : ((∃ h1 : mHp, mRuns d 165 0 [some (.ref 0), some (.int a1)] [] h (.inl (none, h1)) ∧
 ((a2 < nI 0 ∨ nI 2 < a2 → ((a2 < (nI 10) → out = .inr (1, mXc h1)) ∧
 (¬ a2 < (nI 10) → mTrue (mOb ((((a2 - (nI 10)) < (h1.1 (h1.2.2.1 0 0) 4) → mTrue (mOb ((∃ (x3 : Int32) (h2 : mHp), mRuns d 154 0 [some (.int a1), some (.int (a2 - (nI 10)))] [] h1 (.inl (some (.int x3), h2)) ∧
 mLd (fun x4 => out = .inl (some (.int x4), h2)) h2 x3 ((h1.2.2.1 0 0) + 10) (mSh ((h1.2.2.1 0 0) + 10)))) 0 (mSh (h1.2.2.1 0 0))) (Nat.blt (h1.2.2.1 0 0) 142)) ∧
 (¬ (a2 - (nI 10)) < (h1.1 (h1.2.2.1 0 0) 4) → out = .inr (1, mXc h1)))) 0 (mSh (h1.2.2.1 0 0))) (Nat.blt (h1.2.2.1 0 0) 142)))) ∧
 (a2 = nI 0 → mTrue (mOb (mLd (fun x5 => out = .inl (some (.int x5), h1)) h1 a1 ((h1.2.2.1 0 0) + 8) (mSh ((h1.2.2.1 0 0) + 8))) 0 (mSh (h1.2.2.1 0 0))) (Nat.blt (h1.2.2.1 0 0) 142)) ∧
 (a2 = nI 1 → mTrue (mOb (mLd (fun x6 => out = .inl (some (.int x6), h1)) h1 a1 ((h1.2.2.1 0 0) + 9) (mSh ((h1.2.2.1 0 0) + 9))) 0 (mSh (h1.2.2.1 0 0))) (Nat.blt (h1.2.2.1 0 0) 142)) ∧
 (a2 = nI 2 → (vp_in a1 5 ∧ out = .inl (some (.int (h1.1 95 (a1.toNatClampNeg))), h1))) ∧
 True)) ∨
 (∃ (e7 : Nat) (h8 : mHp), mRuns d 165 0 [some (.ref 0), some (.int a1)] [] h (.inr (e7, h8)) ∧ out = .inr (e7, h8)))) :
  mRuns (d + 1) 164 0 [some (.ref 0), some (.int a1), some (.int a2)] [] h out := mVc_from 25 H
-- TasterTable.needTaster(I)V
set_option maxRecDepth 20000 in
theorem vc_T_needTaster {d : Nat} {h : mHp} {out : mOut} {a1 : Int32} (H : ((a1 < 0 → out = .inr (1, mXc h)) ∧
 (¬ a1 < 0 → mTrue (mOb (((a1 < (h.1 (h.2.2.1 0 0) 9) → out = .inl (none, h)) ∧
 (¬ a1 < (h.1 (h.2.2.1 0 0) 9) → out = .inr (1, mXc h)))) 0 (mSh (h.2.2.1 0 0))) (Nat.blt (h.2.2.1 0 0) 142)))) :
  mRuns (d + 1) 165 0 [some (.ref 0), some (.int a1)] [] h out := mVc_from 8 H
-- TasterTable.shows(IIZ)I
set_option maxRecDepth 20000 in
theorem vc_T_shows {d : Nat} {h : mHp} {out : mOut} {a1 : Int32} {a2 : Int32} {a3 : Int32} (H : ((∃ h1 : mHp, mRuns d 165 0 [some (.ref 0), some (.int a1)] [] h (.inl (none, h1)) ∧
 ((∃ h2 : mHp, mRuns d 163 0 [some (.ref 0), some (.int a2)] [] h1 (.inl (none, h2)) ∧
 mTrue (mOb (∃ (x4 : Int32) (h3 : mHp), mRuns d 88 0 [some (.ref (h2.2.2.1 0 0)), some (.int a1), some (.int a2), some (.int a3)] [] h2 (.inl (some (.int x4), h3)) ∧
 out = .inl (some (.int x4), h3)) 0 (mSh (h2.2.2.1 0 0))) (Nat.blt (h2.2.2.1 0 0) 142)) ∨
 (∃ (e5 : Nat) (h6 : mHp), mRuns d 163 0 [some (.ref 0), some (.int a2)] [] h1 (.inr (e5, h6)) ∧ out = .inr (e5, h6)))) ∨
 (∃ (e7 : Nat) (h8 : mHp), mRuns d 165 0 [some (.ref 0), some (.int a1)] [] h (.inr (e7, h8)) ∧ out = .inr (e7, h8)))) :
  mRuns (d + 1) 166 0 [some (.ref 0), some (.int a1), some (.int a2), some (.int a3)] [] h out := mVc_from 13 H
-- TasterTable.plan(II)I
set_option maxRecDepth 20000 in
theorem vc_T_plan {d : Nat} {h : mHp} {out : mOut} {a1 : Int32} {a2 : Int32} (H : ((∃ h1 : mHp, mRuns d 177 0 [some (.int a2)] [] h (.inl (none, h1)) ∧
 ((∃ h2 : mHp, mRuns d 168 0 [some (.int a1)] [] h1 (.inl (none, h2)) ∧
 mTrue ((∃ (p4 : Nat) (h3 : mHp), mRuns d 104 0 [some (.ref 26), some (.ref (h2.2.2.1 0 0)), some (.int a1), some (.int (-1)), none, none, none, none] [] h2 (.inl (some (.ref p4), h3)) ∧
 mOb (((¬ (h3.1 p4 1) = 0 → ((¬ a2 = 0 → mOb (out = .inl (some (.int ((mPI h3 0 10 a1).1 p4 3)), mPI h3 0 10 a1)) 4 (mSh p4)) ∧
 (a2 = 0 → mOb (out = .inl (some (.int ((mPI h3 0 10 a1).1 p4 2)), mPI h3 0 10 a1)) 4 (mSh p4)))) ∧
 ((h3.1 p4 1) = 0 → out = .inl (some (.int (-1)), h3)))) 4 (mSh p4))) (Nat.blt (h2.2.2.1 0 0) 142)) ∨
 (∃ (e5 : Nat) (h6 : mHp), mRuns d 168 0 [some (.int a1)] [] h1 (.inr (e5, h6)) ∧ out = .inr (e5, h6)))) ∨
 (∃ (e7 : Nat) (h8 : mHp), mRuns d 177 0 [some (.int a2)] [] h (.inr (e7, h8)) ∧ out = .inr (e7, h8)))) :
  mRuns (d + 1) 167 0 [some (.ref 0), some (.int a1), some (.int a2), none] [] h out := mVc_from 24 H
-- TasterTable.needLies(I)V
set_option maxRecDepth 20000 in
theorem vc_T_needLies {d : Nat} {h : mHp} {out : mOut} {a1 : Int32} (H : ((a1 < 0 → out = .inr (0, mXc h)) ∧
 (¬ a1 < 0 → ((a1 ≤ (nI 2) → out = .inl (none, h)) ∧
 (¬ a1 ≤ (nI 2) → out = .inr (0, mXc h)))))) :
  mRuns (d + 1) 168 0 [some (.int a1)] [] h out := mVc_from 6 H
-- TasterTable.planned(II)I
set_option maxRecDepth 20000 in
theorem vc_T_planned {d : Nat} {h : mHp} {out : mOut} {a1 : Int32} {a2 : Int32} (H : ((∃ h1 : mHp, mRuns d 161 0 [some (.ref 0), some (.int a1)] [] h (.inl (none, h1)) ∧
 ((∃ h2 : mHp, mRuns d 177 0 [some (.int a2)] [] h1 (.inl (none, h2)) ∧
 ((¬ (h2.1 0 10) = (-1) → mTrue ((∃ (p4 : Nat) (h3 : mHp), mRuns d 104 0 [some (.ref 26), some (.ref (h2.2.2.1 0 0)), some (.int (h2.1 0 10)), some (.int (-1)), none, none, none, none] [] h2 (.inl (some (.ref p4), h3)) ∧
 ((¬ a2 = 0 → mOb (mLd (fun x5 => out = .inl (some (.int x5), h3)) h3 a1 (p4 + 2) (mSh (p4 + 2))) 4 (mSh p4)) ∧
 (a2 = 0 → mOb (mLd (fun x6 => out = .inl (some (.int x6), h3)) h3 a1 (p4 + 1) (mSh (p4 + 1))) 4 (mSh p4))))) (Nat.blt (h2.2.2.1 0 0) 142)) ∧
 ((h2.1 0 10) = (-1) → out = .inr (1, mXc h2)))) ∨
 (∃ (e7 : Nat) (h8 : mHp), mRuns d 177 0 [some (.int a2)] [] h1 (.inr (e7, h8)) ∧ out = .inr (e7, h8)))) ∨
 (∃ (e9 : Nat) (h10 : mHp), mRuns d 161 0 [some (.ref 0), some (.int a1)] [] h (.inr (e9, h10)) ∧ out = .inr (e9, h10)))) :
  mRuns (d + 1) 169 0 [some (.ref 0), some (.int a1), some (.int a2), none] [] h out := mVc_from 26 H
-- TasterTable.bars(I)I
set_option maxRecDepth 20000 in
theorem vc_T_bars {d : Nat} {h : mHp} {out : mOut} {a1 : Int32} (H : ((∃ h1 : mHp, mRuns d 168 0 [some (.int a1)] [] h (.inl (none, h1)) ∧
 mRuns (d + 1) 170 6 [some (.ref 0), some (.int a1), some (.int (nI 0)), none] [] h1 out) ∨
 (∃ (e2 : Nat) (h3 : mHp), mRuns d 168 0 [some (.int a1)] [] h (.inr (e2, h3)) ∧ out = .inr (e2, h3)))) :
  mRuns (d + 1) 170 0 [some (.ref 0), some (.int a1), none, none] [] h out := mVc_from 5 H
set_option maxRecDepth 20000 in
theorem vc_T_bars_6 {d : Nat} {h : mHp} {out : mOut} {v1 : Int32} {v2 : Int32} (H : mTrue (mOb ((((h.1 (h.2.2.1 0 0) 0) ≤ v2 → mTrue ((∃ (p2 : Nat) (h1 : mHp), mRuns d 104 0 [some (.ref 26), some (.ref (h.2.2.1 0 0)), some (.int v1), some (.int (-1)), none, none, none, none] [] h (.inl (some (.ref p2), h1)) ∧
 mOb ((((h1.1 p2 1) = 0 → out = .inl (some (.int (nI 99)), h1)) ∧
 (¬ (h1.1 p2 1) = 0 → out = .inl (some (.int (-1)), h1)))) 4 (mSh p2))) (Nat.blt (h.2.2.1 0 0) 142)) ∧
 (¬ (h.1 (h.2.2.1 0 0) 0) ≤ v2 → mRuns (d + 1) 170 19 [some (.ref 0), some (.int v1), some (.int v2), some (.int (nI 0))] [] h out))) 0 (mSh (h.2.2.1 0 0))) (Nat.blt (h.2.2.1 0 0) 142)) :
  mRuns (d + 1) 170 6 [some (.ref 0), some (.int v1), some (.int v2), none] [] h out := mVc_from 17 H
set_option maxRecDepth 20000 in
theorem vc_T_bars_19 {d : Nat} {h : mHp} {out : mOut} {v1 : Int32} {v2 : Int32} {v3 : Int32} (H : mTrue (mOb ((((h.1 (h.2.2.1 0 0) 4) ≤ v3 → mRuns (d + 1) 170 6 [some (.ref 0), some (.int v1), some (.int (v2 + nI 1)), none] [] h out) ∧
 (¬ (h.1 (h.2.2.1 0 0) 4) ≤ v3 → mTrue (mOb (∃ (x2 : Int32) (h1 : mHp), mRuns d 91 0 [some (.ref (h.2.2.1 0 0)), some (.int v2), some (.int v3), none, none, none] [] h (.inl (some (.int x2), h1)) ∧
 ((v1 < x2 → mRuns (d + 1) 170 19 [some (.ref 0), some (.int v1), some (.int v2), some (.int (v3 + nI 1))] [] h1 out) ∧
 (¬ v1 < x2 → out = .inl (some (.int (((nI 10) * v2) + v3)), h1)))) 0 (mSh (h.2.2.1 0 0))) (Nat.blt (h.2.2.1 0 0) 142)))) 0 (mSh (h.2.2.1 0 0))) (Nat.blt (h.2.2.1 0 0) 142)) :
  mRuns (d + 1) 170 19 [some (.ref 0), some (.int v1), some (.int v2), some (.int v3)] [] h out := mVc_from 18 H
-- TasterTable.worth(II)I
set_option maxRecDepth 20000 in
theorem vc_T_worth {d : Nat} {h : mHp} {out : mOut} {a1 : Int32} {a2 : Int32} (H : ((∃ h1 : mHp, mRuns d 165 0 [some (.ref 0), some (.int a1)] [] h (.inl (none, h1)) ∧
 ((∃ h2 : mHp, mRuns d 168 0 [some (.int a2)] [] h1 (.inl (none, h2)) ∧
 mTrue ((∃ (p4 : Nat) (h3 : mHp), mRuns d 104 0 [some (.ref 26), some (.ref (h2.2.2.1 0 0)), some (.int a2), some (.int (-1)), none, none, none, none] [] h2 (.inl (some (.ref p4), h3)) ∧
 mOb (((¬ (h3.1 p4 1) = 0 → mTrue ((∃ (p6 : Nat) (h5 : mHp), mRuns d 104 0 [some (.ref 26), some (.ref (h3.2.2.1 0 0)), some (.int a2), some (.int a1), none, none, none, none] [] h3 (.inl (some (.ref p6), h5)) ∧
 mOb (((¬ (h5.1 p6 1) = 0 → mOb (mOb (mOb (mOb (out = .inl (some (.int ((((nI 1000) * ((h5.1 p6 2) - (h5.1 p4 2))) + (h5.1 p6 3)) - (h5.1 p4 3))), h5)) 4 (mSh p4)) 4 (mSh p6)) 4 (mSh p4)) 4 (mSh p6)) ∧
 ((h5.1 p6 1) = 0 → out = .inl (some (.int (-1)), h5)))) 4 (mSh p6))) (Nat.blt (h3.2.2.1 0 0) 142)) ∧
 ((h3.1 p4 1) = 0 → out = .inl (some (.int (nI 0)), h3)))) 4 (mSh p4))) (Nat.blt (h2.2.2.1 0 0) 142)) ∨
 (∃ (e7 : Nat) (h8 : mHp), mRuns d 168 0 [some (.int a2)] [] h1 (.inr (e7, h8)) ∧ out = .inr (e7, h8)))) ∨
 (∃ (e9 : Nat) (h10 : mHp), mRuns d 165 0 [some (.ref 0), some (.int a1)] [] h (.inr (e9, h10)) ∧ out = .inr (e9, h10)))) :
  mRuns (d + 1) 171 0 [some (.ref 0), some (.int a1), some (.int a2), none, none] [] h out := mVc_from 41 H
-- TasterTable.ate(IIIZ)I
set_option maxRecDepth 20000 in
theorem vc_T_ate {d : Nat} {h : mHp} {out : mOut} {a1 : Int32} {a2 : Int32} {a3 : Int32} {a4 : Int32} (H : ((∃ h1 : mHp, mRuns d 165 0 [some (.ref 0), some (.int a1)] [] h (.inl (none, h1)) ∧
 ((∃ h2 : mHp, mRuns d 161 0 [some (.ref 0), some (.int a2)] [] h1 (.inl (none, h2)) ∧
 (∃ (x4 : Int32) (h3 : mHp), mRuns d 85 0 [some (.ref 90), some (.int a1), some (.int a2), some (.int a3), some (.int a4)] [] h2 (.inl (some (.int x4), h3)) ∧
 (∃ (x6 : Int32) (h5 : mHp), mRuns d 173 0 [some (.ref 0), some (.int x4)] [] h3 (.inl (some (.int x6), h5)) ∧
 out = .inl (some (.int x6), h5)))) ∨
 (∃ (e7 : Nat) (h8 : mHp), mRuns d 161 0 [some (.ref 0), some (.int a2)] [] h1 (.inr (e7, h8)) ∧ out = .inr (e7, h8)))) ∨
 (∃ (e9 : Nat) (h10 : mHp), mRuns d 165 0 [some (.ref 0), some (.int a1)] [] h (.inr (e9, h10)) ∧ out = .inr (e9, h10)))) :
  mRuns (d + 1) 172 0 [some (.ref 0), some (.int a1), some (.int a2), some (.int a3), some (.int a4)] [] h out := mVc_from 16 H
-- TasterTable.answerEvent(Z)I
set_option maxRecDepth 20000 in
theorem vc_T_answerEvent {d : Nat} {h : mHp} {out : mOut} {a1 : Int32} (H : ((¬ a1 = 0 → out = .inl (some (.int (h.1 90 0)), h)) ∧
 (a1 = 0 → out = .inl (some (.int (-1)), mPI h 0 13 ((h.1 0 13) + (nI 1)))))) :
  mRuns (d + 1) 173 0 [some (.ref 0), some (.int a1)] [] h out := mVc_from 10 H
-- TasterTable.fell(II)I
set_option maxRecDepth 20000 in
theorem vc_T_fell {d : Nat} {h : mHp} {out : mOut} {a1 : Int32} {a2 : Int32} (H : ((∃ h1 : mHp, mRuns d 165 0 [some (.ref 0), some (.int a1)] [] h (.inl (none, h1)) ∧
 (∃ (x3 : Int32) (h2 : mHp), mRuns d 87 0 [some (.ref 90), some (.int a1), some (.int a2)] [] h1 (.inl (some (.int x3), h2)) ∧
 (∃ (x5 : Int32) (h4 : mHp), mRuns d 173 0 [some (.ref 0), some (.int x3)] [] h2 (.inl (some (.int x5), h4)) ∧
 out = .inl (some (.int x5), h4)))) ∨
 (∃ (e6 : Nat) (h7 : mHp), mRuns d 165 0 [some (.ref 0), some (.int a1)] [] h (.inr (e6, h7)) ∧ out = .inr (e6, h7)))) :
  mRuns (d + 1) 174 0 [some (.ref 0), some (.int a1), some (.int a2)] [] h out := mVc_from 11 H
-- TasterTable.cases(I)I
set_option maxRecDepth 20000 in
theorem vc_T_cases {d : Nat} {h : mHp} {out : mOut} {a1 : Int32} (H : mTrue ((∃ (x2 : Int32) (h1 : mHp), mRuns d 82 0 [some (.ref 90), none, none] [] h (.inl (some (.int x2), h1)) ∧
 (∃ h3 : mHp, mRuns d 92 0 [some (.ref 87), some (.ref (h.2.2.1 0 0)), some (.ref 90), some (.int x2), none] [] h1 (.inl (none, h3)) ∧
 ((¬ a1 = (-1) → (∃ (x5 : Int32) (h4 : mHp), mRuns d 97 0 [some (.ref 87), some (.int a1), none, none] [] h3 (.inl (some (.int x5), h4)) ∧
 ((¬ x5 = (-1) → out = .inl (some (.int x5), h4)) ∧
 (x5 = (-1) → out = .inr (1, mXc h4))))) ∧
 (a1 = (-1) → out = .inl (some (.int (h3.1 87 6)), h3)))))) (Nat.blt (h.2.2.1 0 0) 142)) :
  mRuns (d + 1) 175 0 [some (.ref 0), some (.int a1), none] [] h out := mVc_from 23 H
-- TasterTable.odds(II)I
set_option maxRecDepth 20000 in
theorem vc_T_odds {d : Nat} {h : mHp} {out : mOut} {a1 : Int32} {a2 : Int32} (H : ((a1 = (-1) → mRuns (d + 1) 176 10 [some (.ref 0), some (.int a1), some (.int a2)] [] h out) ∧
 (¬ a1 = (-1) → ((∃ h1 : mHp, mRuns d 161 0 [some (.ref 0), some (.int a1)] [] h (.inl (none, h1)) ∧
 mRuns (d + 1) 176 10 [some (.ref 0), some (.int a1), some (.int a2)] [] h1 out) ∨
 (∃ (e2 : Nat) (h3 : mHp), mRuns d 161 0 [some (.ref 0), some (.int a1)] [] h (.inr (e2, h3)) ∧ out = .inr (e2, h3)))))) :
  mRuns (d + 1) 176 0 [some (.ref 0), some (.int a1), some (.int a2)] [] h out := mVc_from 7 H
set_option maxRecDepth 20000 in
theorem vc_T_odds_10 {d : Nat} {h : mHp} {out : mOut} {v1 : Int32} {v2 : Int32} (H : ((∃ h1 : mHp, mRuns d 177 0 [some (.int v2)] [] h (.inl (none, h1)) ∧
 mTrue ((∃ (x3 : Int32) (h2 : mHp), mRuns d 82 0 [some (.ref 90), none, none] [] h1 (.inl (some (.int x3), h2)) ∧
 (∃ h4 : mHp, mRuns d 92 0 [some (.ref 87), some (.ref (h1.2.2.1 0 0)), some (.ref 90), some (.int x3), none] [] h2 (.inl (none, h4)) ∧
 (∃ (x6 : Int32) (h5 : mHp), mRuns d 98 0 [some (.ref 87), some (.int v1), none, none] [] h4 (.inl (some (.int x6), h5)) ∧
 (∃ (x8 : Int32) (h7 : mHp), mRuns d 99 0 [some (.ref 87), none, none] [] h5 (.inl (some (.int x8), h7)) ∧
 (∃ (x10 : Int32) (h9 : mHp), mRuns d 178 0 [some (.long x6.toInt64), none, some (.long x8.toInt64), none, some (.int v2), none, none] [] h7 (.inl (some (.int x10), h9)) ∧
 out = .inl (some (.int x10), h9))))))) (Nat.blt (h1.2.2.1 0 0) 142)) ∨
 (∃ (e11 : Nat) (h12 : mHp), mRuns d 177 0 [some (.int v2)] [] h (.inr (e11, h12)) ∧ out = .inr (e11, h12)))) :
  mRuns (d + 1) 176 10 [some (.ref 0), some (.int v1), some (.int v2)] [] h out := mVc_from 24 H
-- TasterTable.needZeroOrOne(I)V
set_option maxRecDepth 20000 in
theorem vc_T_needZeroOrOne {d : Nat} {h : mHp} {out : mOut} {a1 : Int32} (H : ((a1 = 0 → out = .inl (none, h)) ∧
 (¬ a1 = 0 → ((a1 = (nI 1) → out = .inl (none, h)) ∧
 (¬ a1 = (nI 1) → out = .inr (1, mXc h)))))) :
  mRuns (d + 1) 177 0 [some (.int a1)] [] h out := mVc_from 6 H
-- TasterTable.partOf(JJI)I
set_option maxRecDepth 20000 in
theorem vc_T_partOf {d : Nat} {h : mHp} {out : mOut} {a1 : Int64} {a2 : Int64} {a3 : Int32} (H : ((0 < (lg_cmp a2 (lN 0)) → (∃ (j2 : Int64) (h1 : mHp), mRuns d 179 0 [some (.long a1), none, some (.long a2), none, none, none, none, none, none, none, none] [] h (.inl (some (.long j2), h1)) ∧
 ((0 < (lg_cmp j2 (lN 0)) → ((¬ a3 = 0 → (¬ j2 = 0 ∧ out = .inl (some (.int ((a2 / j2).toInt32)), h1))) ∧
 (a3 = 0 → (¬ j2 = 0 ∧ out = .inl (some (.int ((a1 / j2).toInt32)), h1))))) ∧
 (¬ 0 < (lg_cmp j2 (lN 0)) → ((¬ a3 = 0 → out = .inl (some (.int (nI 1)), h1)) ∧
 (a3 = 0 → out = .inl (some (.int (nI 0)), h1))))))) ∧
 (¬ 0 < (lg_cmp a2 (lN 0)) → ((¬ a3 = 0 → out = .inl (some (.int (nI 1)), h)) ∧
 (a3 = 0 → out = .inl (some (.int (nI 0)), h)))))) :
  mRuns (d + 1) 178 0 [some (.long a1), none, some (.long a2), none, some (.int a3), none, none] [] h out := mVc_from 20 H
-- TasterTable.commonDivisor(JJ)J
set_option maxRecDepth 20000 in
theorem vc_T_commonDivisor {d : Nat} {h : mHp} {out : mOut} {a1 : Int64} {a2 : Int64} (H : mRuns (d + 1) 179 9 [none, none, none, none, some (.long a1), none, some (.long a2), none, some (.int (nI 0)), none, none] [] h out) :
  mRuns (d + 1) 179 0 [some (.long a1), none, some (.long a2), none, none, none, none, none, none, none, none] [] h out := mVc_from 7 H
set_option maxRecDepth 20000 in
theorem vc_T_commonDivisor_9 {d : Nat} {h : mHp} {out : mOut} {v4 : Int64} {v6 : Int64} {v8 : Int32} (H : (((nI 100) ≤ v8 → out = .inl (some (.long v4), h)) ∧
 (¬ (nI 100) ≤ v8 → (((lg_cmp v6 (lN 0)) = 0 → out = .inl (some (.long v4), h)) ∧
 (¬ (lg_cmp v6 (lN 0)) = 0 → (¬ v6 = 0 ∧ mRuns (d + 1) 179 9 [none, none, none, none, some (.long v6), none, some (.long (v4 - v4 / v6 * v6)), none, some (.int (v8 + nI 1)), none, none] [] h out)))))) :
  mRuns (d + 1) 179 9 [none, none, none, none, some (.long v4), none, some (.long v6), none, some (.int v8), none, none] [] h out := mVc_from 18 H
-- TasterTable.next(I)I
set_option maxRecDepth 20000 in
theorem vc_T_next {d : Nat} {h : mHp} {out : mOut} {a1 : Int32} (H : ((∃ h1 : mHp, mRuns d 177 0 [some (.int a1)] [] h (.inl (none, h1)) ∧
 mTrue ((∃ (x3 : Int32) (h2 : mHp), mRuns d 82 0 [some (.ref 90), none, none] [] h1 (.inl (some (.int x3), h2)) ∧
 (∃ h4 : mHp, mRuns d 92 0 [some (.ref 87), some (.ref (h1.2.2.1 0 0)), some (.ref 90), some (.int x3), none] [] h2 (.inl (none, h4)) ∧
 (∃ h5 : mHp, mRuns d 100 0 [some (.ref 87), none, none, none] [] h4 (.inl (none, h5)) ∧
 ((¬ a1 = 0 → out = .inl (some (.int (h5.1 87 8)), h5)) ∧
 (a1 = 0 → out = .inl (some (.int (h5.1 87 7)), h5))))))) (Nat.blt (h1.2.2.1 0 0) 142)) ∨
 (∃ (e6 : Nat) (h7 : mHp), mRuns d 177 0 [some (.int a1)] [] h (.inr (e6, h7)) ∧ out = .inr (e6, h7)))) :
  mRuns (d + 1) 180 0 [some (.ref 0), some (.int a1)] [] h out := mVc_from 22 H
-- TasterTable.waiting(I)I
set_option maxRecDepth 20000 in
theorem vc_T_waiting {d : Nat} {h : mHp} {out : mOut} {a1 : Int32} (H : (∃ (x2 : Int32) (h1 : mHp), mRuns d 82 0 [some (.ref 90), none, none] [] h (.inl (some (.int x2), h1)) ∧
 ((a1 < x2 → out = .inr (0, mXc h1)) ∧
 (¬ a1 < x2 → ((a1 ≤ (nI 2000) → mTrue ((∃ h3 : mHp, mRuns d 92 0 [some (.ref 87), some (.ref (h1.2.2.1 0 0)), some (.ref 90), some (.int a1), none] [] h1 (.inl (none, h3)) ∧
 out = .inl (some (.int (h3.1 87 6)), h3))) (Nat.blt (h1.2.2.1 0 0) 142)) ∧
 (¬ a1 ≤ (nI 2000) → out = .inr (0, mXc h1))))))) :
  mRuns (d + 1) 181 0 [some (.ref 0), some (.int a1)] [] h out := mVc_from 20 H
-- TasterTable.trial(IIIII)I
set_option maxRecDepth 20000 in
theorem vc_T_trial {d : Nat} {h : mHp} {out : mOut} {a1 : Int32} {a2 : Int32} {a3 : Int32} {a4 : Int32} {a5 : Int32} (H : ((∃ h1 : mHp, mRuns d 177 0 [some (.int a5)] [] h (.inl (none, h1)) ∧
 ((a1 < (nI 1) → out = .inr (0, mXc h1)) ∧
 (¬ a1 < (nI 1) → (((nI 30) < a1 → out = .inr (0, mXc h1)) ∧
 (¬ (nI 30) < a1 → ((a2 < 0 → out = .inr (0, mXc h1)) ∧
 (¬ a2 < 0 → ((a1 < a2 → out = .inr (0, mXc h1)) ∧
 (¬ a1 < a2 → ((a3 < 0 → out = .inr (0, mXc h1)) ∧
 (¬ a3 < 0 → ((a1 < a3 → out = .inr (0, mXc h1)) ∧
 (¬ a1 < a3 → ((a4 < 0 → out = .inr (0, mXc h1)) ∧
 (¬ a4 < 0 → ((a4 ≤ a3 → mRuns (d + 1) 182 63 [none, some (.int a1), some (.int a2), some (.int a3), none, some (.int a5), some (.long (lN 0)), none, some (.int a4)] [] h1 out) ∧
 (¬ a4 ≤ a3 → out = .inr (0, mXc h1)))))))))))))))))) ∨
 (∃ (e2 : Nat) (h3 : mHp), mRuns d 177 0 [some (.int a5)] [] h (.inr (e2, h3)) ∧ out = .inr (e2, h3)))) :
  mRuns (d + 1) 182 0 [some (.ref 0), some (.int a1), some (.int a2), some (.int a3), some (.int a4), some (.int a5), none, none, none] [] h out := mVc_from 28 H
set_option maxRecDepth 20000 in
theorem vc_T_trial_63 {d : Nat} {h : mHp} {out : mOut} {v1 : Int32} {v2 : Int32} {v3 : Int32} {v5 : Int32} {v6 : Int64} {v8 : Int32} (H : ((v3 < v8 → (∃ (j2 : Int64) (h1 : mHp), mRuns d 183 0 [some (.int v1), some (.int v3), none, none, none] [] h (.inl (some (.long j2), h1)) ∧
 (∃ (x4 : Int32) (h3 : mHp), mRuns d 178 0 [some (.long v6), none, some (.long j2), none, some (.int v5), none, none] [] h1 (.inl (some (.int x4), h3)) ∧
 out = .inl (some (.int x4), h3)))) ∧
 (¬ v3 < v8 → (∃ (j6 : Int64) (h5 : mHp), mRuns d 183 0 [some (.int v2), some (.int v8), none, none, none] [] h (.inl (some (.long j6), h5)) ∧
 (∃ (j8 : Int64) (h7 : mHp), mRuns d 183 0 [some (.int (v1 - v2)), some (.int (v3 - v8)), none, none, none] [] h5 (.inl (some (.long j8), h7)) ∧
 mRuns (d + 1) 182 63 [none, some (.int v1), some (.int v2), some (.int v3), none, some (.int v5), some (.long (v6 + (j6 * j8))), none, some (.int (v8 + nI 1))] [] h7 out))))) :
  mRuns (d + 1) 182 63 [none, some (.int v1), some (.int v2), some (.int v3), none, some (.int v5), some (.long v6), none, some (.int v8)] [] h out := mVc_from 20 H
-- TasterTable.choose(II)J
set_option maxRecDepth 20000 in
theorem vc_T_choose {d : Nat} {h : mHp} {out : mOut} {a1 : Int32} {a2 : Int32} (H : ((a2 < 0 → out = .inl (some (.long (lN 0)), h)) ∧
 (¬ a2 < 0 → ((a2 ≤ a1 → mRuns (d + 1) 183 16 [some (.int a1), some (.int a2), some (.long (lN 1)), none, some (.int (nI 1))] [] h out) ∧
 (¬ a2 ≤ a1 → out = .inl (some (.long (lN 0)), h)))))) :
  mRuns (d + 1) 183 0 [some (.int a1), some (.int a2), none, none, none] [] h out := mVc_from 10 H
set_option maxRecDepth 20000 in
theorem vc_T_choose_16 {d : Nat} {h : mHp} {out : mOut} {v0 : Int32} {v1 : Int32} {v2 : Int64} {v4 : Int32} (H : ((v1 < v4 → out = .inl (some (.long v2), h)) ∧
 (¬ v1 < v4 → (¬ v4.toInt64 = 0 ∧ mRuns (d + 1) 183 16 [some (.int v0), some (.int v1), some (.long ((v2 * (((v0 - v1) + v4).toInt64)) / v4.toInt64)), none, some (.int (v4 + nI 1))] [] h out)))) :
  mRuns (d + 1) 183 16 [some (.int v0), some (.int v1), some (.long v2), none, some (.int v4)] [] h out := mVc_from 18 H
-- TasterTable.begin(III)Z
set_option maxRecDepth 20000 in
theorem vc_T_begin {d : Nat} {h : mHp} {out : mOut} {a1 : Int32} {a2 : Int32} {a3 : Int32} (H : ((∃ h1 : mHp, mRuns d 168 0 [some (.int a2)] [] h (.inl (none, h1)) ∧
 ((a3 < 0 → out = .inr (0, mXc h1)) ∧
 (¬ a3 < 0 → ((a3 ≤ (nI 1000) → mTrue ((∃ (p3 : Nat) (h2 : mHp), mRuns d 104 0 [some (.ref 26), some (.ref (h1.2.2.1 0 0)), some (.int a2), some (.int (-1)), none, none, none, none] [] h1 (.inl (some (.ref p3), h2)) ∧
 mOb (((¬ (h2.1 p3 1) = 0 → mTrue ((∃ h4 : mHp, mRuns d 126 0 [some (.ref 102), some (.int a1), some (.int a2), some (.int a3), some (.ref (h2.2.2.1 0 0))] [] h2 (.inl (none, h4)) ∧
 (((nI 1) = 0 ∨ (nI 1) = 1) ∧ out = .inl (some (.int (nI 1)), h4)))) (Nat.blt (h2.2.2.1 0 0) 142)) ∧
 ((h2.1 p3 1) = 0 → (((nI 0) = 0 ∨ (nI 0) = 1) ∧ out = .inl (some (.int (nI 0)), mPI h2 0 14 ((h2.1 0 14) + (nI 1))))))) 4 (mSh p3))) (Nat.blt (h1.2.2.1 0 0) 142)) ∧
 (¬ a3 ≤ (nI 1000) → out = .inr (0, mXc h1)))))) ∨
 (∃ (e5 : Nat) (h6 : mHp), mRuns d 168 0 [some (.int a2)] [] h (.inr (e5, h6)) ∧ out = .inr (e5, h6)))) :
  mRuns (d + 1) 184 0 [some (.ref 0), some (.int a1), some (.int a2), some (.int a3)] [] h out := mVc_from 26 H
-- TasterTable.on(I)I
set_option maxRecDepth 20000 in
theorem vc_T_on {d : Nat} {h : mHp} {out : mOut} {a1 : Int32} (H : ((a1 < 0 → out = .inr (0, mXc h)) ∧
 (¬ a1 < 0 → ((a1 ≤ (nI 100) → (((h.1 102 0) = 0 → out = .inl (some (.int (-1)), mPI h 0 14 ((h.1 0 14) + (nI 1)))) ∧
 (¬ (h.1 102 0) = 0 → ((((h.1 102 4) + a1) ≤ (nI 300) → mTrue ((∃ (p2 : Nat) (h1 : mHp), mRuns d 104 0 [some (.ref 26), some (.ref (h.2.2.1 0 0)), some (.int (h.1 102 2)), some (.int (-1)), none, none, none, none] [] h (.inl (some (.ref p2), h1)) ∧
 mRuns (d + 1) 185 80 [some (.ref 0), some (.int a1), some (.ref p2), some (.int (nI 0))] [] h1 out)) (Nat.blt (h.2.2.1 0 0) 142)) ∧
 (¬ ((h.1 102 4) + a1) ≤ (nI 300) → out = .inl (some (.int (-1)), mPI h 0 14 ((h.1 0 14) + (nI 1)))))))) ∧
 (¬ a1 ≤ (nI 100) → out = .inr (0, mXc h)))))) :
  mRuns (d + 1) 185 0 [some (.ref 0), some (.int a1), none, none] [] h out := mVc_from 29 H
set_option maxRecDepth 20000 in
theorem vc_T_on_80 {d : Nat} {h : mHp} {out : mOut} {v1 : Int32} {v2 : Nat} {v3 : Int32} (H : ((v1 ≤ v3 → out = .inl (some (.int (h.1 102 4)), h)) ∧
 (¬ v1 ≤ v3 → mTrue ((∃ h1 : mHp, mRuns d 127 0 [some (.ref 102), some (.ref (h.2.2.1 0 0)), some (.ref v2), none, none, none, none, none, none] [] h (.inl (none, h1)) ∧
 mRuns (d + 1) 185 80 [some (.ref 0), some (.int v1), some (.ref v2), some (.int (v3 + nI 1))] [] h1 out)) (Nat.blt (h.2.2.1 0 0) 142)))) :
  mRuns (d + 1) 185 80 [some (.ref 0), some (.int v1), some (.ref v2), some (.int v3)] [] h out := mVc_from 12 H
-- TasterTable.day(II)I
set_option maxRecDepth 20000 in
theorem vc_T_day {d : Nat} {h : mHp} {out : mOut} {a1 : Int32} {a2 : Int32} (H : ((a1 < 0 → out = .inr (1, mXc h)) ∧
 (¬ a1 < 0 → ((a1 < (h.1 102 4) → ((a2 < nI 0 ∨ nI 3 < a2 → out = .inr (1, mXc h)) ∧
 (a2 = nI 0 → (vp_in a1 300 ∧ out = .inl (some (.int (h.1 104 (a1.toNatClampNeg))), h))) ∧
 (a2 = nI 1 → (vp_in a1 300 ∧ out = .inl (some (.int (h.1 105 (a1.toNatClampNeg))), h))) ∧
 (a2 = nI 2 → (vp_in a1 300 ∧ out = .inl (some (.int (h.1 106 (a1.toNatClampNeg))), h))) ∧
 (a2 = nI 3 → (vp_in a1 300 ∧ out = .inl (some (.int (h.1 107 (a1.toNatClampNeg))), h))) ∧
 True)) ∧
 (¬ a1 < (h.1 102 4) → out = .inr (1, mXc h)))))) :
  mRuns (d + 1) 186 0 [some (.ref 0), some (.int a1), some (.int a2)] [] h out := mVc_from 15 H
-- TasterTable.had(II)I
set_option maxRecDepth 20000 in
theorem vc_T_had {d : Nat} {h : mHp} {out : mOut} {a1 : Int32} {a2 : Int32} (H : ((∃ h1 : mHp, mRuns d 165 0 [some (.ref 0), some (.int a1)] [] h (.inl (none, h1)) ∧
 ((∃ h2 : mHp, mRuns d 163 0 [some (.ref 0), some (.int a2)] [] h1 (.inl (none, h2)) ∧
 ((¬ (h2.1 102 0) = 0 → (∃ (x4 : Int32) (h3 : mHp), mRuns d 154 0 [some (.int a1), some (.int a2)] [] h2 (.inl (some (.int x4), h3)) ∧
 (vp_in x4 25 ∧ out = .inl (some (.int (h3.1 103 (x4.toNatClampNeg))), h3)))) ∧
 ((h2.1 102 0) = 0 → out = .inr (1, mXc h2)))) ∨
 (∃ (e5 : Nat) (h6 : mHp), mRuns d 163 0 [some (.ref 0), some (.int a2)] [] h1 (.inr (e5, h6)) ∧ out = .inr (e5, h6)))) ∨
 (∃ (e7 : Nat) (h8 : mHp), mRuns d 165 0 [some (.ref 0), some (.int a1)] [] h (.inr (e7, h8)) ∧ out = .inr (e7, h8)))) :
  mRuns (d + 1) 187 0 [some (.ref 0), some (.int a1), some (.int a2)] [] h out := mVc_from 18 H
-- TasterTableLaw.table(LTasterTable;I[J)I
set_option maxRecDepth 20000 in
theorem vc_L_table {d : Nat} {h : mHp} {out : mOut} {a2 : Int32} (H : ((∃ (x2 : Int32) (h1 : mHp), mRuns d 157 0 [some (.ref 0), some (.int a2), none] [] h (.inl (some (.int x2), h1)) ∧
 (vp_in (nI 0) 1 ∧ out = .inl (some (.int (nI 0)), mPL h1 141 (nI 0).toNatClampNeg x2.toInt64))) ∨
 (∃ (e3 : Nat) (h4 : mHp), mRuns d 157 0 [some (.ref 0), some (.int a2), none] [] h (.inr (e3, h4)) ∧ mHnd (mVc 6) (d + 1) 188 4 [some (.ref 0), some (.int a2), some (.ref 141), none] e3 h4 out (mFind mHl 188 4 e3)))) :
  mRuns (d + 1) 188 0 [some (.ref 0), some (.int a2), some (.ref 141), none] [] h out := mVc_from 10 H
-- TasterTableLaw.count(LTasterTable;I[J)I
set_option maxRecDepth 20000 in
theorem vc_L_count {d : Nat} {h : mHp} {out : mOut} {a2 : Int32} (H : ((∃ (x2 : Int32) (h1 : mHp), mRuns d 159 0 [some (.ref 0), some (.int a2)] [] h (.inl (some (.int x2), h1)) ∧
 (vp_in (nI 0) 1 ∧ out = .inl (some (.int (nI 0)), mPL h1 141 (nI 0).toNatClampNeg x2.toInt64))) ∨
 (∃ (e3 : Nat) (h4 : mHp), mRuns d 159 0 [some (.ref 0), some (.int a2)] [] h (.inr (e3, h4)) ∧ mHnd (mVc 6) (d + 1) 189 4 [some (.ref 0), some (.int a2), some (.ref 141), none] e3 h4 out (mFind mHl 189 4 e3)))) :
  mRuns (d + 1) 189 0 [some (.ref 0), some (.int a2), some (.ref 141), none] [] h out := mVc_from 10 H
-- TasterTableLaw.dish(LTasterTable;II[J)I
set_option maxRecDepth 20000 in
theorem vc_L_dish {d : Nat} {h : mHp} {out : mOut} {a2 : Int32} {a3 : Int32} (H : ((∃ (x2 : Int32) (h1 : mHp), mRuns d 160 0 [some (.ref 0), some (.int a2), some (.int a3)] [] h (.inl (some (.int x2), h1)) ∧
 (vp_in (nI 0) 1 ∧ out = .inl (some (.int (nI 0)), mPL h1 141 (nI 0).toNatClampNeg x2.toInt64))) ∨
 (∃ (e3 : Nat) (h4 : mHp), mRuns d 160 0 [some (.ref 0), some (.int a2), some (.int a3)] [] h (.inr (e3, h4)) ∧ mHnd (mVc 6) (d + 1) 190 5 [some (.ref 0), some (.int a2), some (.int a3), some (.ref 141), none] e3 h4 out (mFind mHl 190 5 e3)))) :
  mRuns (d + 1) 190 0 [some (.ref 0), some (.int a2), some (.int a3), some (.ref 141), none] [] h out := mVc_from 11 H
-- TasterTableLaw.poison(LTasterTable;II[J)I
set_option maxRecDepth 20000 in
theorem vc_L_poison {d : Nat} {h : mHp} {out : mOut} {a2 : Int32} {a3 : Int32} (H : ((∃ (x2 : Int32) (h1 : mHp), mRuns d 162 0 [some (.ref 0), some (.int a2), some (.int a3)] [] h (.inl (some (.int x2), h1)) ∧
 (vp_in (nI 0) 1 ∧ out = .inl (some (.int (nI 0)), mPL h1 141 (nI 0).toNatClampNeg x2.toInt64))) ∨
 (∃ (e3 : Nat) (h4 : mHp), mRuns d 162 0 [some (.ref 0), some (.int a2), some (.int a3)] [] h (.inr (e3, h4)) ∧ mHnd (mVc 6) (d + 1) 191 5 [some (.ref 0), some (.int a2), some (.int a3), some (.ref 141), none] e3 h4 out (mFind mHl 191 5 e3)))) :
  mRuns (d + 1) 191 0 [some (.ref 0), some (.int a2), some (.int a3), some (.ref 141), none] [] h out := mVc_from 11 H
-- TasterTableLaw.taster(LTasterTable;II[J)I
set_option maxRecDepth 20000 in
theorem vc_L_taster {d : Nat} {h : mHp} {out : mOut} {a2 : Int32} {a3 : Int32} (H : ((∃ (x2 : Int32) (h1 : mHp), mRuns d 164 0 [some (.ref 0), some (.int a2), some (.int a3)] [] h (.inl (some (.int x2), h1)) ∧
 (vp_in (nI 0) 1 ∧ out = .inl (some (.int (nI 0)), mPL h1 141 (nI 0).toNatClampNeg x2.toInt64))) ∨
 (∃ (e3 : Nat) (h4 : mHp), mRuns d 164 0 [some (.ref 0), some (.int a2), some (.int a3)] [] h (.inr (e3, h4)) ∧ mHnd (mVc 6) (d + 1) 192 5 [some (.ref 0), some (.int a2), some (.int a3), some (.ref 141), none] e3 h4 out (mFind mHl 192 5 e3)))) :
  mRuns (d + 1) 192 0 [some (.ref 0), some (.int a2), some (.int a3), some (.ref 141), none] [] h out := mVc_from 11 H
-- TasterTableLaw.shows(LTasterTable;IIZ[J)I
set_option maxRecDepth 20000 in
theorem vc_L_shows {d : Nat} {h : mHp} {out : mOut} {a2 : Int32} {a3 : Int32} {a4 : Int32} (H : ((∃ (x2 : Int32) (h1 : mHp), mRuns d 166 0 [some (.ref 0), some (.int a2), some (.int a3), some (.int a4)] [] h (.inl (some (.int x2), h1)) ∧
 (vp_in (nI 0) 1 ∧ out = .inl (some (.int (nI 0)), mPL h1 141 (nI 0).toNatClampNeg x2.toInt64))) ∨
 (∃ (e3 : Nat) (h4 : mHp), mRuns d 166 0 [some (.ref 0), some (.int a2), some (.int a3), some (.int a4)] [] h (.inr (e3, h4)) ∧ mHnd (mVc 6) (d + 1) 193 7 [some (.ref 0), some (.int a2), some (.int a3), some (.int a4), some (.ref 141), none] e3 h4 out (mFind mHl 193 7 e3)))) :
  mRuns (d + 1) 193 0 [some (.ref 0), some (.int a2), some (.int a3), some (.int a4), some (.ref 141), none] [] h out := mVc_from 12 H
-- TasterTableLaw.plan(LTasterTable;II[J)I
set_option maxRecDepth 20000 in
theorem vc_L_plan {d : Nat} {h : mHp} {out : mOut} {a2 : Int32} {a3 : Int32} (H : ((∃ (x2 : Int32) (h1 : mHp), mRuns d 167 0 [some (.ref 0), some (.int a2), some (.int a3), none] [] h (.inl (some (.int x2), h1)) ∧
 (vp_in (nI 0) 1 ∧ out = .inl (some (.int (nI 0)), mPL h1 141 (nI 0).toNatClampNeg x2.toInt64))) ∨
 (∃ (e3 : Nat) (h4 : mHp), mRuns d 167 0 [some (.ref 0), some (.int a2), some (.int a3), none] [] h (.inr (e3, h4)) ∧ mHnd (mVc 6) (d + 1) 194 5 [some (.ref 0), some (.int a2), some (.int a3), some (.ref 141), none] e3 h4 out (mFind mHl 194 5 e3)))) :
  mRuns (d + 1) 194 0 [some (.ref 0), some (.int a2), some (.int a3), some (.ref 141), none] [] h out := mVc_from 11 H
-- TasterTableLaw.planned(LTasterTable;II[J)I
set_option maxRecDepth 20000 in
theorem vc_L_planned {d : Nat} {h : mHp} {out : mOut} {a2 : Int32} {a3 : Int32} (H : ((∃ (x2 : Int32) (h1 : mHp), mRuns d 169 0 [some (.ref 0), some (.int a2), some (.int a3), none] [] h (.inl (some (.int x2), h1)) ∧
 (vp_in (nI 0) 1 ∧ out = .inl (some (.int (nI 0)), mPL h1 141 (nI 0).toNatClampNeg x2.toInt64))) ∨
 (∃ (e3 : Nat) (h4 : mHp), mRuns d 169 0 [some (.ref 0), some (.int a2), some (.int a3), none] [] h (.inr (e3, h4)) ∧ mHnd (mVc 6) (d + 1) 195 5 [some (.ref 0), some (.int a2), some (.int a3), some (.ref 141), none] e3 h4 out (mFind mHl 195 5 e3)))) :
  mRuns (d + 1) 195 0 [some (.ref 0), some (.int a2), some (.int a3), some (.ref 141), none] [] h out := mVc_from 11 H
-- TasterTableLaw.bars(LTasterTable;I[J)I
set_option maxRecDepth 20000 in
theorem vc_L_bars {d : Nat} {h : mHp} {out : mOut} {a2 : Int32} (H : ((∃ (x2 : Int32) (h1 : mHp), mRuns d 170 0 [some (.ref 0), some (.int a2), none, none] [] h (.inl (some (.int x2), h1)) ∧
 (vp_in (nI 0) 1 ∧ out = .inl (some (.int (nI 0)), mPL h1 141 (nI 0).toNatClampNeg x2.toInt64))) ∨
 (∃ (e3 : Nat) (h4 : mHp), mRuns d 170 0 [some (.ref 0), some (.int a2), none, none] [] h (.inr (e3, h4)) ∧ mHnd (mVc 6) (d + 1) 196 4 [some (.ref 0), some (.int a2), some (.ref 141), none] e3 h4 out (mFind mHl 196 4 e3)))) :
  mRuns (d + 1) 196 0 [some (.ref 0), some (.int a2), some (.ref 141), none] [] h out := mVc_from 10 H
-- TasterTableLaw.worth(LTasterTable;II[J)I
set_option maxRecDepth 20000 in
theorem vc_L_worth {d : Nat} {h : mHp} {out : mOut} {a2 : Int32} {a3 : Int32} (H : ((∃ (x2 : Int32) (h1 : mHp), mRuns d 171 0 [some (.ref 0), some (.int a2), some (.int a3), none, none] [] h (.inl (some (.int x2), h1)) ∧
 (vp_in (nI 0) 1 ∧ out = .inl (some (.int (nI 0)), mPL h1 141 (nI 0).toNatClampNeg x2.toInt64))) ∨
 (∃ (e3 : Nat) (h4 : mHp), mRuns d 171 0 [some (.ref 0), some (.int a2), some (.int a3), none, none] [] h (.inr (e3, h4)) ∧ mHnd (mVc 6) (d + 1) 197 5 [some (.ref 0), some (.int a2), some (.int a3), some (.ref 141), none] e3 h4 out (mFind mHl 197 5 e3)))) :
  mRuns (d + 1) 197 0 [some (.ref 0), some (.int a2), some (.int a3), some (.ref 141), none] [] h out := mVc_from 11 H
-- TasterTableLaw.ate(LTasterTable;IIIZ[J)I
set_option maxRecDepth 20000 in
theorem vc_L_ate {d : Nat} {h : mHp} {out : mOut} {a2 : Int32} {a3 : Int32} {a4 : Int32} {a5 : Int32} (H : ((∃ (x2 : Int32) (h1 : mHp), mRuns d 172 0 [some (.ref 0), some (.int a2), some (.int a3), some (.int a4), some (.int a5)] [] h (.inl (some (.int x2), h1)) ∧
 (vp_in (nI 0) 1 ∧ out = .inl (some (.int (nI 0)), mPL h1 141 (nI 0).toNatClampNeg x2.toInt64))) ∨
 (∃ (e3 : Nat) (h4 : mHp), mRuns d 172 0 [some (.ref 0), some (.int a2), some (.int a3), some (.int a4), some (.int a5)] [] h (.inr (e3, h4)) ∧ mHnd (mVc 6) (d + 1) 198 9 [some (.ref 0), some (.int a2), some (.int a3), some (.int a4), some (.int a5), some (.ref 141), none] e3 h4 out (mFind mHl 198 9 e3)))) :
  mRuns (d + 1) 198 0 [some (.ref 0), some (.int a2), some (.int a3), some (.int a4), some (.int a5), some (.ref 141), none] [] h out := mVc_from 13 H
-- TasterTableLaw.fell(LTasterTable;II[J)I
set_option maxRecDepth 20000 in
theorem vc_L_fell {d : Nat} {h : mHp} {out : mOut} {a2 : Int32} {a3 : Int32} (H : ((∃ (x2 : Int32) (h1 : mHp), mRuns d 174 0 [some (.ref 0), some (.int a2), some (.int a3)] [] h (.inl (some (.int x2), h1)) ∧
 (vp_in (nI 0) 1 ∧ out = .inl (some (.int (nI 0)), mPL h1 141 (nI 0).toNatClampNeg x2.toInt64))) ∨
 (∃ (e3 : Nat) (h4 : mHp), mRuns d 174 0 [some (.ref 0), some (.int a2), some (.int a3)] [] h (.inr (e3, h4)) ∧ mHnd (mVc 6) (d + 1) 199 5 [some (.ref 0), some (.int a2), some (.int a3), some (.ref 141), none] e3 h4 out (mFind mHl 199 5 e3)))) :
  mRuns (d + 1) 199 0 [some (.ref 0), some (.int a2), some (.int a3), some (.ref 141), none] [] h out := mVc_from 11 H
-- TasterTableLaw.cases(LTasterTable;I[J)I
set_option maxRecDepth 20000 in
theorem vc_L_cases {d : Nat} {h : mHp} {out : mOut} {a2 : Int32} (H : ((∃ (x2 : Int32) (h1 : mHp), mRuns d 175 0 [some (.ref 0), some (.int a2), none] [] h (.inl (some (.int x2), h1)) ∧
 (vp_in (nI 0) 1 ∧ out = .inl (some (.int (nI 0)), mPL h1 141 (nI 0).toNatClampNeg x2.toInt64))) ∨
 (∃ (e3 : Nat) (h4 : mHp), mRuns d 175 0 [some (.ref 0), some (.int a2), none] [] h (.inr (e3, h4)) ∧ mHnd (mVc 6) (d + 1) 200 4 [some (.ref 0), some (.int a2), some (.ref 141), none] e3 h4 out (mFind mHl 200 4 e3)))) :
  mRuns (d + 1) 200 0 [some (.ref 0), some (.int a2), some (.ref 141), none] [] h out := mVc_from 10 H
-- TasterTableLaw.odds(LTasterTable;II[J)I
set_option maxRecDepth 20000 in
theorem vc_L_odds {d : Nat} {h : mHp} {out : mOut} {a2 : Int32} {a3 : Int32} (H : ((∃ (x2 : Int32) (h1 : mHp), mRuns d 176 0 [some (.ref 0), some (.int a2), some (.int a3)] [] h (.inl (some (.int x2), h1)) ∧
 (vp_in (nI 0) 1 ∧ out = .inl (some (.int (nI 0)), mPL h1 141 (nI 0).toNatClampNeg x2.toInt64))) ∨
 (∃ (e3 : Nat) (h4 : mHp), mRuns d 176 0 [some (.ref 0), some (.int a2), some (.int a3)] [] h (.inr (e3, h4)) ∧ mHnd (mVc 6) (d + 1) 201 5 [some (.ref 0), some (.int a2), some (.int a3), some (.ref 141), none] e3 h4 out (mFind mHl 201 5 e3)))) :
  mRuns (d + 1) 201 0 [some (.ref 0), some (.int a2), some (.int a3), some (.ref 141), none] [] h out := mVc_from 11 H
-- TasterTableLaw.next(LTasterTable;I[J)I
set_option maxRecDepth 20000 in
theorem vc_L_next {d : Nat} {h : mHp} {out : mOut} {a2 : Int32} (H : ((∃ (x2 : Int32) (h1 : mHp), mRuns d 180 0 [some (.ref 0), some (.int a2)] [] h (.inl (some (.int x2), h1)) ∧
 (vp_in (nI 0) 1 ∧ out = .inl (some (.int (nI 0)), mPL h1 141 (nI 0).toNatClampNeg x2.toInt64))) ∨
 (∃ (e3 : Nat) (h4 : mHp), mRuns d 180 0 [some (.ref 0), some (.int a2)] [] h (.inr (e3, h4)) ∧ mHnd (mVc 6) (d + 1) 202 4 [some (.ref 0), some (.int a2), some (.ref 141), none] e3 h4 out (mFind mHl 202 4 e3)))) :
  mRuns (d + 1) 202 0 [some (.ref 0), some (.int a2), some (.ref 141), none] [] h out := mVc_from 10 H
-- TasterTableLaw.waiting(LTasterTable;I[J)I
set_option maxRecDepth 20000 in
theorem vc_L_waiting {d : Nat} {h : mHp} {out : mOut} {a2 : Int32} (H : ((∃ (x2 : Int32) (h1 : mHp), mRuns d 181 0 [some (.ref 0), some (.int a2)] [] h (.inl (some (.int x2), h1)) ∧
 (vp_in (nI 0) 1 ∧ out = .inl (some (.int (nI 0)), mPL h1 141 (nI 0).toNatClampNeg x2.toInt64))) ∨
 (∃ (e3 : Nat) (h4 : mHp), mRuns d 181 0 [some (.ref 0), some (.int a2)] [] h (.inr (e3, h4)) ∧ mHnd (mVc 6) (d + 1) 203 4 [some (.ref 0), some (.int a2), some (.ref 141), none] e3 h4 out (mFind mHl 203 4 e3)))) :
  mRuns (d + 1) 203 0 [some (.ref 0), some (.int a2), some (.ref 141), none] [] h out := mVc_from 10 H
-- TasterTableLaw.trial(LTasterTable;IIIII[J)I
set_option maxRecDepth 20000 in
theorem vc_L_trial {d : Nat} {h : mHp} {out : mOut} {a2 : Int32} {a3 : Int32} {a4 : Int32} {a5 : Int32} {a6 : Int32} (H : ((∃ (x2 : Int32) (h1 : mHp), mRuns d 182 0 [some (.ref 0), some (.int a2), some (.int a3), some (.int a4), some (.int a5), some (.int a6), none, none, none] [] h (.inl (some (.int x2), h1)) ∧
 (vp_in (nI 0) 1 ∧ out = .inl (some (.int (nI 0)), mPL h1 141 (nI 0).toNatClampNeg x2.toInt64))) ∨
 (∃ (e3 : Nat) (h4 : mHp), mRuns d 182 0 [some (.ref 0), some (.int a2), some (.int a3), some (.int a4), some (.int a5), some (.int a6), none, none, none] [] h (.inr (e3, h4)) ∧ mHnd (mVc 6) (d + 1) 204 11 [some (.ref 0), some (.int a2), some (.int a3), some (.int a4), some (.int a5), some (.int a6), some (.ref 141), none] e3 h4 out (mFind mHl 204 11 e3)))) :
  mRuns (d + 1) 204 0 [some (.ref 0), some (.int a2), some (.int a3), some (.int a4), some (.int a5), some (.int a6), some (.ref 141), none] [] h out := mVc_from 14 H
-- TasterTableLaw.begin(LTasterTable;III[J)I
set_option maxRecDepth 20000 in
theorem vc_L_begin {d : Nat} {h : mHp} {out : mOut} {a2 : Int32} {a3 : Int32} {a4 : Int32} (H : ((∃ (x2 : Int32) (h1 : mHp), mRuns d 184 0 [some (.ref 0), some (.int a2), some (.int a3), some (.int a4)] [] h (.inl (some (.int x2), h1)) ∧
 ((x2 = 0 → (vp_in (nI 0) 1 ∧ out = .inl (some (.int (nI 0)), mPL h1 141 (nI 0).toNatClampNeg (lN 0)))) ∧
 (¬ x2 = 0 → (vp_in (nI 0) 1 ∧ out = .inl (some (.int (nI 0)), mPL h1 141 (nI 0).toNatClampNeg (lN 1)))))) ∨
 (∃ (e3 : Nat) (h4 : mHp), mRuns d 184 0 [some (.ref 0), some (.int a2), some (.int a3), some (.int a4)] [] h (.inr (e3, h4)) ∧ mHnd (mVc 8) (d + 1) 205 7 [some (.ref 0), some (.int a2), some (.int a3), some (.int a4), some (.ref 141), none] e3 h4 out (mFind mHl 205 7 e3)))) :
  mRuns (d + 1) 205 0 [some (.ref 0), some (.int a2), some (.int a3), some (.int a4), some (.ref 141), none] [] h out := mVc_from 14 H
-- TasterTableLaw.on(LTasterTable;I[J)I
set_option maxRecDepth 20000 in
theorem vc_L_on {d : Nat} {h : mHp} {out : mOut} {a2 : Int32} (H : ((∃ (x2 : Int32) (h1 : mHp), mRuns d 185 0 [some (.ref 0), some (.int a2), none, none] [] h (.inl (some (.int x2), h1)) ∧
 (vp_in (nI 0) 1 ∧ out = .inl (some (.int (nI 0)), mPL h1 141 (nI 0).toNatClampNeg x2.toInt64))) ∨
 (∃ (e3 : Nat) (h4 : mHp), mRuns d 185 0 [some (.ref 0), some (.int a2), none, none] [] h (.inr (e3, h4)) ∧ mHnd (mVc 6) (d + 1) 206 4 [some (.ref 0), some (.int a2), some (.ref 141), none] e3 h4 out (mFind mHl 206 4 e3)))) :
  mRuns (d + 1) 206 0 [some (.ref 0), some (.int a2), some (.ref 141), none] [] h out := mVc_from 10 H
-- TasterTableLaw.day(LTasterTable;II[J)I
set_option maxRecDepth 20000 in
theorem vc_L_day {d : Nat} {h : mHp} {out : mOut} {a2 : Int32} {a3 : Int32} (H : ((∃ (x2 : Int32) (h1 : mHp), mRuns d 186 0 [some (.ref 0), some (.int a2), some (.int a3)] [] h (.inl (some (.int x2), h1)) ∧
 (vp_in (nI 0) 1 ∧ out = .inl (some (.int (nI 0)), mPL h1 141 (nI 0).toNatClampNeg x2.toInt64))) ∨
 (∃ (e3 : Nat) (h4 : mHp), mRuns d 186 0 [some (.ref 0), some (.int a2), some (.int a3)] [] h (.inr (e3, h4)) ∧ mHnd (mVc 6) (d + 1) 207 5 [some (.ref 0), some (.int a2), some (.int a3), some (.ref 141), none] e3 h4 out (mFind mHl 207 5 e3)))) :
  mRuns (d + 1) 207 0 [some (.ref 0), some (.int a2), some (.int a3), some (.ref 141), none] [] h out := mVc_from 11 H
-- TasterTableLaw.had(LTasterTable;II[J)I
set_option maxRecDepth 20000 in
theorem vc_L_had {d : Nat} {h : mHp} {out : mOut} {a2 : Int32} {a3 : Int32} (H : ((∃ (x2 : Int32) (h1 : mHp), mRuns d 187 0 [some (.ref 0), some (.int a2), some (.int a3)] [] h (.inl (some (.int x2), h1)) ∧
 (vp_in (nI 0) 1 ∧ out = .inl (some (.int (nI 0)), mPL h1 141 (nI 0).toNatClampNeg x2.toInt64))) ∨
 (∃ (e3 : Nat) (h4 : mHp), mRuns d 187 0 [some (.ref 0), some (.int a2), some (.int a3)] [] h (.inr (e3, h4)) ∧ mHnd (mVc 6) (d + 1) 208 5 [some (.ref 0), some (.int a2), some (.int a3), some (.ref 141), none] e3 h4 out (mFind mHl 208 5 e3)))) :
  mRuns (d + 1) 208 0 [some (.ref 0), some (.int a2), some (.int a3), some (.ref 141), none] [] h out := mVc_from 11 H
-- TasterTableLaw.law([I)Z
set_option maxRecDepth 20000 in
theorem vc_L_law_23 {d : Nat} {h : mHp} {out : mOut} {v4 : Int32} (H : ((((nI (h.2.2.1 142 0)) - (nI 6)) < v4 → (((nI 1) = 0 ∨ (nI 1) = 1) ∧ out = .inl (some (.int (nI 1)), h))) ∧
 (¬ ((nI (h.2.2.1 142 0)) - (nI 6)) < v4 → (vp_in v4 (h.2.2.1 142 0) ∧ ((((h.1 142 (v4.toNatClampNeg)) &&& (nI 31)) < nI 0 ∨ nI 26 < ((h.1 142 (v4.toNatClampNeg)) &&& (nI 31)) → mRuns (d + 1) 209 23 [some (.ref 142), some (.ref 0), some (.ref 114), some (.ref 141), some (.int (v4 + nI 6)), none, none] [] h out) ∧
 (((h.1 142 (v4.toNatClampNeg)) &&& (nI 31)) = nI 0 → (vp_in (v4 + (nI 1)) (h.2.2.1 142 0) ∧ (vp_in (v4 + (nI 2)) (h.2.2.1 142 0) ∧ (vp_in (v4 + (nI 3)) (h.2.2.1 142 0) ∧ (vp_in (v4 + (nI 4)) (h.2.2.1 142 0) ∧ (vp_in (v4 + (nI 5)) (h.2.2.1 142 0) ∧ (∃ (x2 : Int32) (h1 : mHp), mRuns d 150 0 [some (.ref 0), some (.int (h.1 142 ((v4 + (nI 1)).toNatClampNeg))), some (.int (h.1 142 ((v4 + (nI 2)).toNatClampNeg))), some (.int (h.1 142 ((v4 + (nI 3)).toNatClampNeg))), some (.int (h.1 142 ((v4 + (nI 4)).toNatClampNeg))), some (.int (h.1 142 ((v4 + (nI 5)).toNatClampNeg)))] [] h (.inl (some (.int x2), h1)) ∧
 (vp_in (v4 + (nI 1)) (h1.2.2.1 142 0) ∧ (vp_in (v4 + (nI 2)) (h1.2.2.1 142 0) ∧ (vp_in (v4 + (nI 3)) (h1.2.2.1 142 0) ∧ (vp_in (v4 + (nI 4)) (h1.2.2.1 142 0) ∧ (vp_in (v4 + (nI 5)) (h1.2.2.1 142 0) ∧ (∃ (x4 : Int32) (h3 : mHp), mRuns d 5 0 [some (.ref 114), some (.int (h1.1 142 ((v4 + (nI 1)).toNatClampNeg))), some (.int (h1.1 142 ((v4 + (nI 2)).toNatClampNeg))), some (.int (h1.1 142 ((v4 + (nI 3)).toNatClampNeg))), some (.int (h1.1 142 ((v4 + (nI 4)).toNatClampNeg))), some (.int (h1.1 142 ((v4 + (nI 5)).toNatClampNeg)))] [] h1 (.inl (some (.int x4), h3)) ∧
 ((x2 = x4 → mRuns (d + 1) 209 23 [some (.ref 142), some (.ref 0), some (.ref 114), some (.ref 141), some (.int (v4 + nI 6)), none, none] [] h3 out) ∧
 (¬ x2 = x4 → (((nI 0) = 0 ∨ (nI 0) = 1) ∧ out = .inl (some (.int (nI 0)), h3))))))))))))))))) ∧
 (((h.1 142 (v4.toNatClampNeg)) &&& (nI 31)) = nI 1 → (vp_in (v4 + (nI 1)) (h.2.2.1 142 0) ∧ (∃ (x6 : Int32) (h5 : mHp), mRuns d 188 0 [some (.ref 0), some (.int (h.1 142 ((v4 + (nI 1)).toNatClampNeg))), some (.ref 141), none] [] h (.inl (some (.int x6), h5)) ∧
 (vp_in (v4 + (nI 1)) (h5.2.2.1 142 0) ∧ (∃ (x8 : Int32) (h7 : mHp), mRuns d 7 0 [some (.ref 114), some (.int (h5.1 142 ((v4 + (nI 1)).toNatClampNeg))), none] [] h5 (.inl (some (.int x8), h7)) ∧
 (∃ (x10 : Int32) (h9 : mHp), mRuns d 4 0 [some (.ref 114)] [] h7 (.inl (some (.int x10), h9)) ∧
 ((x10 = x6 → ((¬ x6 = 0 → mRuns (d + 1) 209 23 [some (.ref 142), some (.ref 0), some (.ref 114), some (.ref 141), some (.int (v4 + nI 6)), none, none] [] h9 out) ∧
 (x6 = 0 → (vp_in (nI 0) 1 ∧ (((lg_cmp (h9.2.1 141 (nI 0).toNatClampNeg) x8.toInt64) = 0 → mRuns (d + 1) 209 23 [some (.ref 142), some (.ref 0), some (.ref 114), some (.ref 141), some (.int (v4 + nI 6)), none, none] [] h9 out) ∧
 (¬ (lg_cmp (h9.2.1 141 (nI 0).toNatClampNeg) x8.toInt64) = 0 → (((nI 0) = 0 ∨ (nI 0) = 1) ∧ out = .inl (some (.int (nI 0)), h9)))))))) ∧
 (¬ x10 = x6 → (((nI 0) = 0 ∨ (nI 0) = 1) ∧ out = .inl (some (.int (nI 0)), h9)))))))))) ∧
 (((h.1 142 (v4.toNatClampNeg)) &&& (nI 31)) = nI 2 → (∃ (x12 : Int32) (h11 : mHp), mRuns d 151 0 [some (.ref 0)] [] h (.inl (some (.int x12), h11)) ∧
 (∃ (x14 : Int32) (h13 : mHp), mRuns d 28 0 [some (.ref 114)] [] h11 (.inl (some (.int x14), h13)) ∧
 ((x12 = x14 → mRuns (d + 1) 209 23 [some (.ref 142), some (.ref 0), some (.ref 114), some (.ref 141), some (.int (v4 + nI 6)), none, none] [] h13 out) ∧
 (¬ x12 = x14 → (((nI 0) = 0 ∨ (nI 0) = 1) ∧ out = .inl (some (.int (nI 0)), h13))))))) ∧
 (((h.1 142 (v4.toNatClampNeg)) &&& (nI 31)) = nI 3 → (vp_in (v4 + (nI 1)) (h.2.2.1 142 0) ∧ (∃ (x16 : Int32) (h15 : mHp), mRuns d 189 0 [some (.ref 0), some (.int (h.1 142 ((v4 + (nI 1)).toNatClampNeg))), some (.ref 141), none] [] h (.inl (some (.int x16), h15)) ∧
 (vp_in (v4 + (nI 1)) (h15.2.2.1 142 0) ∧ (∃ (x18 : Int32) (h17 : mHp), mRuns d 29 0 [some (.ref 114), some (.int (h15.1 142 ((v4 + (nI 1)).toNatClampNeg)))] [] h15 (.inl (some (.int x18), h17)) ∧
 (∃ (x20 : Int32) (h19 : mHp), mRuns d 4 0 [some (.ref 114)] [] h17 (.inl (some (.int x20), h19)) ∧
 ((x20 = x16 → ((¬ x16 = 0 → mRuns (d + 1) 209 23 [some (.ref 142), some (.ref 0), some (.ref 114), some (.ref 141), some (.int (v4 + nI 6)), none, none] [] h19 out) ∧
 (x16 = 0 → (vp_in (nI 0) 1 ∧ (((lg_cmp (h19.2.1 141 (nI 0).toNatClampNeg) x18.toInt64) = 0 → mRuns (d + 1) 209 23 [some (.ref 142), some (.ref 0), some (.ref 114), some (.ref 141), some (.int (v4 + nI 6)), none, none] [] h19 out) ∧
 (¬ (lg_cmp (h19.2.1 141 (nI 0).toNatClampNeg) x18.toInt64) = 0 → (((nI 0) = 0 ∨ (nI 0) = 1) ∧ out = .inl (some (.int (nI 0)), h19)))))))) ∧
 (¬ x20 = x16 → (((nI 0) = 0 ∨ (nI 0) = 1) ∧ out = .inl (some (.int (nI 0)), h19)))))))))) ∧
 (((h.1 142 (v4.toNatClampNeg)) &&& (nI 31)) = nI 4 → (vp_in (v4 + (nI 1)) (h.2.2.1 142 0) ∧ (vp_in (v4 + (nI 2)) (h.2.2.1 142 0) ∧ (∃ (x22 : Int32) (h21 : mHp), mRuns d 190 0 [some (.ref 0), some (.int (h.1 142 ((v4 + (nI 1)).toNatClampNeg))), some (.int (h.1 142 ((v4 + (nI 2)).toNatClampNeg))), some (.ref 141), none] [] h (.inl (some (.int x22), h21)) ∧
 (vp_in (v4 + (nI 1)) (h21.2.2.1 142 0) ∧ (vp_in (v4 + (nI 2)) (h21.2.2.1 142 0) ∧ (∃ (x24 : Int32) (h23 : mHp), mRuns d 32 0 [some (.ref 114), some (.int (h21.1 142 ((v4 + (nI 1)).toNatClampNeg))), some (.int (h21.1 142 ((v4 + (nI 2)).toNatClampNeg)))] [] h21 (.inl (some (.int x24), h23)) ∧
 (∃ (x26 : Int32) (h25 : mHp), mRuns d 4 0 [some (.ref 114)] [] h23 (.inl (some (.int x26), h25)) ∧
 ((x26 = x22 → ((¬ x22 = 0 → mRuns (d + 1) 209 23 [some (.ref 142), some (.ref 0), some (.ref 114), some (.ref 141), some (.int (v4 + nI 6)), none, none] [] h25 out) ∧
 (x22 = 0 → (vp_in (nI 0) 1 ∧ (((lg_cmp (h25.2.1 141 (nI 0).toNatClampNeg) x24.toInt64) = 0 → mRuns (d + 1) 209 23 [some (.ref 142), some (.ref 0), some (.ref 114), some (.ref 141), some (.int (v4 + nI 6)), none, none] [] h25 out) ∧
 (¬ (lg_cmp (h25.2.1 141 (nI 0).toNatClampNeg) x24.toInt64) = 0 → (((nI 0) = 0 ∨ (nI 0) = 1) ∧ out = .inl (some (.int (nI 0)), h25)))))))) ∧
 (¬ x26 = x22 → (((nI 0) = 0 ∨ (nI 0) = 1) ∧ out = .inl (some (.int (nI 0)), h25)))))))))))) ∧
 (((h.1 142 (v4.toNatClampNeg)) &&& (nI 31)) = nI 5 → (vp_in (v4 + (nI 1)) (h.2.2.1 142 0) ∧ (vp_in (v4 + (nI 2)) (h.2.2.1 142 0) ∧ (∃ (x28 : Int32) (h27 : mHp), mRuns d 191 0 [some (.ref 0), some (.int (h.1 142 ((v4 + (nI 1)).toNatClampNeg))), some (.int (h.1 142 ((v4 + (nI 2)).toNatClampNeg))), some (.ref 141), none] [] h (.inl (some (.int x28), h27)) ∧
 (vp_in (v4 + (nI 1)) (h27.2.2.1 142 0) ∧ (vp_in (v4 + (nI 2)) (h27.2.2.1 142 0) ∧ (∃ (x30 : Int32) (h29 : mHp), mRuns d 34 0 [some (.ref 114), some (.int (h27.1 142 ((v4 + (nI 1)).toNatClampNeg))), some (.int (h27.1 142 ((v4 + (nI 2)).toNatClampNeg)))] [] h27 (.inl (some (.int x30), h29)) ∧
 (∃ (x32 : Int32) (h31 : mHp), mRuns d 4 0 [some (.ref 114)] [] h29 (.inl (some (.int x32), h31)) ∧
 ((x32 = x28 → ((¬ x28 = 0 → mRuns (d + 1) 209 23 [some (.ref 142), some (.ref 0), some (.ref 114), some (.ref 141), some (.int (v4 + nI 6)), none, none] [] h31 out) ∧
 (x28 = 0 → (vp_in (nI 0) 1 ∧ (((lg_cmp (h31.2.1 141 (nI 0).toNatClampNeg) x30.toInt64) = 0 → mRuns (d + 1) 209 23 [some (.ref 142), some (.ref 0), some (.ref 114), some (.ref 141), some (.int (v4 + nI 6)), none, none] [] h31 out) ∧
 (¬ (lg_cmp (h31.2.1 141 (nI 0).toNatClampNeg) x30.toInt64) = 0 → (((nI 0) = 0 ∨ (nI 0) = 1) ∧ out = .inl (some (.int (nI 0)), h31)))))))) ∧
 (¬ x32 = x28 → (((nI 0) = 0 ∨ (nI 0) = 1) ∧ out = .inl (some (.int (nI 0)), h31)))))))))))) ∧
 (((h.1 142 (v4.toNatClampNeg)) &&& (nI 31)) = nI 6 → (vp_in (v4 + (nI 1)) (h.2.2.1 142 0) ∧ (vp_in (v4 + (nI 2)) (h.2.2.1 142 0) ∧ (∃ (x34 : Int32) (h33 : mHp), mRuns d 192 0 [some (.ref 0), some (.int (h.1 142 ((v4 + (nI 1)).toNatClampNeg))), some (.int (h.1 142 ((v4 + (nI 2)).toNatClampNeg))), some (.ref 141), none] [] h (.inl (some (.int x34), h33)) ∧
 (vp_in (v4 + (nI 1)) (h33.2.2.1 142 0) ∧ (vp_in (v4 + (nI 2)) (h33.2.2.1 142 0) ∧ (∃ (x36 : Int32) (h35 : mHp), mRuns d 36 0 [some (.ref 114), some (.int (h33.1 142 ((v4 + (nI 1)).toNatClampNeg))), some (.int (h33.1 142 ((v4 + (nI 2)).toNatClampNeg)))] [] h33 (.inl (some (.int x36), h35)) ∧
 (∃ (x38 : Int32) (h37 : mHp), mRuns d 4 0 [some (.ref 114)] [] h35 (.inl (some (.int x38), h37)) ∧
 ((x38 = x34 → ((¬ x34 = 0 → mRuns (d + 1) 209 23 [some (.ref 142), some (.ref 0), some (.ref 114), some (.ref 141), some (.int (v4 + nI 6)), none, none] [] h37 out) ∧
 (x34 = 0 → (vp_in (nI 0) 1 ∧ (((lg_cmp (h37.2.1 141 (nI 0).toNatClampNeg) x36.toInt64) = 0 → mRuns (d + 1) 209 23 [some (.ref 142), some (.ref 0), some (.ref 114), some (.ref 141), some (.int (v4 + nI 6)), none, none] [] h37 out) ∧
 (¬ (lg_cmp (h37.2.1 141 (nI 0).toNatClampNeg) x36.toInt64) = 0 → (((nI 0) = 0 ∨ (nI 0) = 1) ∧ out = .inl (some (.int (nI 0)), h37)))))))) ∧
 (¬ x38 = x34 → (((nI 0) = 0 ∨ (nI 0) = 1) ∧ out = .inl (some (.int (nI 0)), h37)))))))))))) ∧
 (((h.1 142 (v4.toNatClampNeg)) &&& (nI 31)) = nI 7 → (vp_in (v4 + (nI 1)) (h.2.2.1 142 0) ∧ (vp_in (v4 + (nI 2)) (h.2.2.1 142 0) ∧ (vp_in (v4 + (nI 3)) (h.2.2.1 142 0) ∧ (((h.1 142 ((v4 + (nI 3)).toNatClampNeg)) = 0 → mRuns (d + 1) 209 593 [some (.ref 142), some (.ref 0), some (.ref 114), some (.ref 141), some (.int v4), none, none] [.int (nI 0), .int (h.1 142 ((v4 + (nI 2)).toNatClampNeg)), .int (h.1 142 ((v4 + (nI 1)).toNatClampNeg)), .ref 0] h out) ∧
 (¬ (h.1 142 ((v4 + (nI 3)).toNatClampNeg)) = 0 → mRuns (d + 1) 209 593 [some (.ref 142), some (.ref 0), some (.ref 114), some (.ref 141), some (.int v4), none, none] [.int (nI 1), .int (h.1 142 ((v4 + (nI 2)).toNatClampNeg)), .int (h.1 142 ((v4 + (nI 1)).toNatClampNeg)), .ref 0] h out)))))) ∧
 (((h.1 142 (v4.toNatClampNeg)) &&& (nI 31)) = nI 8 → (vp_in (v4 + (nI 1)) (h.2.2.1 142 0) ∧ (vp_in (v4 + (nI 2)) (h.2.2.1 142 0) ∧ (∃ (x40 : Int32) (h39 : mHp), mRuns d 194 0 [some (.ref 0), some (.int (h.1 142 ((v4 + (nI 1)).toNatClampNeg))), some (.int (h.1 142 ((v4 + (nI 2)).toNatClampNeg))), some (.ref 141), none] [] h (.inl (some (.int x40), h39)) ∧
 (vp_in (v4 + (nI 1)) (h39.2.2.1 142 0) ∧ (vp_in (v4 + (nI 2)) (h39.2.2.1 142 0) ∧ (∃ (x42 : Int32) (h41 : mHp), mRuns d 42 0 [some (.ref 114), some (.int (h39.1 142 ((v4 + (nI 1)).toNatClampNeg))), some (.int (h39.1 142 ((v4 + (nI 2)).toNatClampNeg))), none] [] h39 (.inl (some (.int x42), h41)) ∧
 (∃ (x44 : Int32) (h43 : mHp), mRuns d 4 0 [some (.ref 114)] [] h41 (.inl (some (.int x44), h43)) ∧
 ((x44 = x40 → ((¬ x40 = 0 → mRuns (d + 1) 209 23 [some (.ref 142), some (.ref 0), some (.ref 114), some (.ref 141), some (.int (v4 + nI 6)), none, none] [] h43 out) ∧
 (x40 = 0 → (vp_in (nI 0) 1 ∧ (((lg_cmp (h43.2.1 141 (nI 0).toNatClampNeg) x42.toInt64) = 0 → mRuns (d + 1) 209 23 [some (.ref 142), some (.ref 0), some (.ref 114), some (.ref 141), some (.int (v4 + nI 6)), none, none] [] h43 out) ∧
 (¬ (lg_cmp (h43.2.1 141 (nI 0).toNatClampNeg) x42.toInt64) = 0 → (((nI 0) = 0 ∨ (nI 0) = 1) ∧ out = .inl (some (.int (nI 0)), h43)))))))) ∧
 (¬ x44 = x40 → (((nI 0) = 0 ∨ (nI 0) = 1) ∧ out = .inl (some (.int (nI 0)), h43)))))))))))) ∧
 (((h.1 142 (v4.toNatClampNeg)) &&& (nI 31)) = nI 9 → (vp_in (v4 + (nI 1)) (h.2.2.1 142 0) ∧ (vp_in (v4 + (nI 2)) (h.2.2.1 142 0) ∧ (∃ (x46 : Int32) (h45 : mHp), mRuns d 195 0 [some (.ref 0), some (.int (h.1 142 ((v4 + (nI 1)).toNatClampNeg))), some (.int (h.1 142 ((v4 + (nI 2)).toNatClampNeg))), some (.ref 141), none] [] h (.inl (some (.int x46), h45)) ∧
 (vp_in (v4 + (nI 1)) (h45.2.2.1 142 0) ∧ (vp_in (v4 + (nI 2)) (h45.2.2.1 142 0) ∧ (∃ (x48 : Int32) (h47 : mHp), mRuns d 53 0 [some (.ref 114), some (.int (h45.1 142 ((v4 + (nI 1)).toNatClampNeg))), some (.int (h45.1 142 ((v4 + (nI 2)).toNatClampNeg)))] [] h45 (.inl (some (.int x48), h47)) ∧
 (∃ (x50 : Int32) (h49 : mHp), mRuns d 4 0 [some (.ref 114)] [] h47 (.inl (some (.int x50), h49)) ∧
 ((x50 = x46 → ((¬ x46 = 0 → mRuns (d + 1) 209 23 [some (.ref 142), some (.ref 0), some (.ref 114), some (.ref 141), some (.int (v4 + nI 6)), none, none] [] h49 out) ∧
 (x46 = 0 → (vp_in (nI 0) 1 ∧ (((lg_cmp (h49.2.1 141 (nI 0).toNatClampNeg) x48.toInt64) = 0 → mRuns (d + 1) 209 23 [some (.ref 142), some (.ref 0), some (.ref 114), some (.ref 141), some (.int (v4 + nI 6)), none, none] [] h49 out) ∧
 (¬ (lg_cmp (h49.2.1 141 (nI 0).toNatClampNeg) x48.toInt64) = 0 → (((nI 0) = 0 ∨ (nI 0) = 1) ∧ out = .inl (some (.int (nI 0)), h49)))))))) ∧
 (¬ x50 = x46 → (((nI 0) = 0 ∨ (nI 0) = 1) ∧ out = .inl (some (.int (nI 0)), h49)))))))))))) ∧
 (((h.1 142 (v4.toNatClampNeg)) &&& (nI 31)) = nI 10 → (vp_in (v4 + (nI 1)) (h.2.2.1 142 0) ∧ (∃ (x52 : Int32) (h51 : mHp), mRuns d 196 0 [some (.ref 0), some (.int (h.1 142 ((v4 + (nI 1)).toNatClampNeg))), some (.ref 141), none] [] h (.inl (some (.int x52), h51)) ∧
 (vp_in (v4 + (nI 1)) (h51.2.2.1 142 0) ∧ (∃ (x54 : Int32) (h53 : mHp), mRuns d 54 0 [some (.ref 114), some (.int (h51.1 142 ((v4 + (nI 1)).toNatClampNeg))), none, none, none, none, none] [] h51 (.inl (some (.int x54), h53)) ∧
 (∃ (x56 : Int32) (h55 : mHp), mRuns d 4 0 [some (.ref 114)] [] h53 (.inl (some (.int x56), h55)) ∧
 ((x56 = x52 → ((¬ x52 = 0 → mRuns (d + 1) 209 23 [some (.ref 142), some (.ref 0), some (.ref 114), some (.ref 141), some (.int (v4 + nI 6)), none, none] [] h55 out) ∧
 (x52 = 0 → (vp_in (nI 0) 1 ∧ (((lg_cmp (h55.2.1 141 (nI 0).toNatClampNeg) x54.toInt64) = 0 → mRuns (d + 1) 209 23 [some (.ref 142), some (.ref 0), some (.ref 114), some (.ref 141), some (.int (v4 + nI 6)), none, none] [] h55 out) ∧
 (¬ (lg_cmp (h55.2.1 141 (nI 0).toNatClampNeg) x54.toInt64) = 0 → (((nI 0) = 0 ∨ (nI 0) = 1) ∧ out = .inl (some (.int (nI 0)), h55)))))))) ∧
 (¬ x56 = x52 → (((nI 0) = 0 ∨ (nI 0) = 1) ∧ out = .inl (some (.int (nI 0)), h55)))))))))) ∧
 (((h.1 142 (v4.toNatClampNeg)) &&& (nI 31)) = nI 11 → (vp_in (v4 + (nI 1)) (h.2.2.1 142 0) ∧ (vp_in (v4 + (nI 2)) (h.2.2.1 142 0) ∧ (∃ (x58 : Int32) (h57 : mHp), mRuns d 197 0 [some (.ref 0), some (.int (h.1 142 ((v4 + (nI 1)).toNatClampNeg))), some (.int (h.1 142 ((v4 + (nI 2)).toNatClampNeg))), some (.ref 141), none] [] h (.inl (some (.int x58), h57)) ∧
 (vp_in (v4 + (nI 1)) (h57.2.2.1 142 0) ∧ (vp_in (v4 + (nI 2)) (h57.2.2.1 142 0) ∧ (∃ (x60 : Int32) (h59 : mHp), mRuns d 55 0 [some (.ref 114), some (.int (h57.1 142 ((v4 + (nI 1)).toNatClampNeg))), some (.int (h57.1 142 ((v4 + (nI 2)).toNatClampNeg))), none, none] [] h57 (.inl (some (.int x60), h59)) ∧
 (∃ (x62 : Int32) (h61 : mHp), mRuns d 4 0 [some (.ref 114)] [] h59 (.inl (some (.int x62), h61)) ∧
 ((x62 = x58 → ((¬ x58 = 0 → mRuns (d + 1) 209 23 [some (.ref 142), some (.ref 0), some (.ref 114), some (.ref 141), some (.int (v4 + nI 6)), none, none] [] h61 out) ∧
 (x58 = 0 → (vp_in (nI 0) 1 ∧ (((lg_cmp (h61.2.1 141 (nI 0).toNatClampNeg) x60.toInt64) = 0 → mRuns (d + 1) 209 23 [some (.ref 142), some (.ref 0), some (.ref 114), some (.ref 141), some (.int (v4 + nI 6)), none, none] [] h61 out) ∧
 (¬ (lg_cmp (h61.2.1 141 (nI 0).toNatClampNeg) x60.toInt64) = 0 → (((nI 0) = 0 ∨ (nI 0) = 1) ∧ out = .inl (some (.int (nI 0)), h61)))))))) ∧
 (¬ x62 = x58 → (((nI 0) = 0 ∨ (nI 0) = 1) ∧ out = .inl (some (.int (nI 0)), h61)))))))))))) ∧
 (((h.1 142 (v4.toNatClampNeg)) &&& (nI 31)) = nI 12 → (vp_in (v4 + (nI 1)) (h.2.2.1 142 0) ∧ (vp_in (v4 + (nI 2)) (h.2.2.1 142 0) ∧ (vp_in (v4 + (nI 3)) (h.2.2.1 142 0) ∧ (vp_in (v4 + (nI 4)) (h.2.2.1 142 0) ∧ (((h.1 142 ((v4 + (nI 4)).toNatClampNeg)) = 0 → mRuns (d + 1) 209 955 [some (.ref 142), some (.ref 0), some (.ref 114), some (.ref 141), some (.int v4), none, none] [.int (nI 0), .int (h.1 142 ((v4 + (nI 3)).toNatClampNeg)), .int (h.1 142 ((v4 + (nI 2)).toNatClampNeg)), .int (h.1 142 ((v4 + (nI 1)).toNatClampNeg)), .ref 0] h out) ∧
 (¬ (h.1 142 ((v4 + (nI 4)).toNatClampNeg)) = 0 → mRuns (d + 1) 209 955 [some (.ref 142), some (.ref 0), some (.ref 114), some (.ref 141), some (.int v4), none, none] [.int (nI 1), .int (h.1 142 ((v4 + (nI 3)).toNatClampNeg)), .int (h.1 142 ((v4 + (nI 2)).toNatClampNeg)), .int (h.1 142 ((v4 + (nI 1)).toNatClampNeg)), .ref 0] h out))))))) ∧
 (((h.1 142 (v4.toNatClampNeg)) &&& (nI 31)) = nI 13 → (vp_in (v4 + (nI 1)) (h.2.2.1 142 0) ∧ (vp_in (v4 + (nI 2)) (h.2.2.1 142 0) ∧ (∃ (x64 : Int32) (h63 : mHp), mRuns d 199 0 [some (.ref 0), some (.int (h.1 142 ((v4 + (nI 1)).toNatClampNeg))), some (.int (h.1 142 ((v4 + (nI 2)).toNatClampNeg))), some (.ref 141), none] [] h (.inl (some (.int x64), h63)) ∧
 (vp_in (v4 + (nI 1)) (h63.2.2.1 142 0) ∧ (vp_in (v4 + (nI 2)) (h63.2.2.1 142 0) ∧ (∃ (x66 : Int32) (h65 : mHp), mRuns d 58 0 [some (.ref 114), some (.int (h63.1 142 ((v4 + (nI 1)).toNatClampNeg))), some (.int (h63.1 142 ((v4 + (nI 2)).toNatClampNeg)))] [] h63 (.inl (some (.int x66), h65)) ∧
 (∃ (x68 : Int32) (h67 : mHp), mRuns d 4 0 [some (.ref 114)] [] h65 (.inl (some (.int x68), h67)) ∧
 ((x68 = x64 → ((¬ x64 = 0 → mRuns (d + 1) 209 23 [some (.ref 142), some (.ref 0), some (.ref 114), some (.ref 141), some (.int (v4 + nI 6)), none, none] [] h67 out) ∧
 (x64 = 0 → (vp_in (nI 0) 1 ∧ (((lg_cmp (h67.2.1 141 (nI 0).toNatClampNeg) x66.toInt64) = 0 → mRuns (d + 1) 209 23 [some (.ref 142), some (.ref 0), some (.ref 114), some (.ref 141), some (.int (v4 + nI 6)), none, none] [] h67 out) ∧
 (¬ (lg_cmp (h67.2.1 141 (nI 0).toNatClampNeg) x66.toInt64) = 0 → (((nI 0) = 0 ∨ (nI 0) = 1) ∧ out = .inl (some (.int (nI 0)), h67)))))))) ∧
 (¬ x68 = x64 → (((nI 0) = 0 ∨ (nI 0) = 1) ∧ out = .inl (some (.int (nI 0)), h67)))))))))))) ∧
 (((h.1 142 (v4.toNatClampNeg)) &&& (nI 31)) = nI 14 → (∃ (x70 : Int32) (h69 : mHp), mRuns d 152 0 [some (.ref 0)] [] h (.inl (some (.int x70), h69)) ∧
 (∃ (x72 : Int32) (h71 : mHp), mRuns d 59 0 [some (.ref 114)] [] h69 (.inl (some (.int x72), h71)) ∧
 ((x70 = x72 → mRuns (d + 1) 209 23 [some (.ref 142), some (.ref 0), some (.ref 114), some (.ref 141), some (.int (v4 + nI 6)), none, none] [] h71 out) ∧
 (¬ x70 = x72 → (((nI 0) = 0 ∨ (nI 0) = 1) ∧ out = .inl (some (.int (nI 0)), h71))))))) ∧
 (((h.1 142 (v4.toNatClampNeg)) &&& (nI 31)) = nI 15 → (vp_in (v4 + (nI 1)) (h.2.2.1 142 0) ∧ (∃ (x74 : Int32) (h73 : mHp), mRuns d 200 0 [some (.ref 0), some (.int (h.1 142 ((v4 + (nI 1)).toNatClampNeg))), some (.ref 141), none] [] h (.inl (some (.int x74), h73)) ∧
 (vp_in (v4 + (nI 1)) (h73.2.2.1 142 0) ∧ (∃ (x76 : Int32) (h75 : mHp), mRuns d 60 0 [some (.ref 114), some (.int (h73.1 142 ((v4 + (nI 1)).toNatClampNeg))), none, none] [] h73 (.inl (some (.int x76), h75)) ∧
 (∃ (x78 : Int32) (h77 : mHp), mRuns d 4 0 [some (.ref 114)] [] h75 (.inl (some (.int x78), h77)) ∧
 ((x78 = x74 → ((¬ x74 = 0 → mRuns (d + 1) 209 23 [some (.ref 142), some (.ref 0), some (.ref 114), some (.ref 141), some (.int (v4 + nI 6)), none, none] [] h77 out) ∧
 (x74 = 0 → (vp_in (nI 0) 1 ∧ (((lg_cmp (h77.2.1 141 (nI 0).toNatClampNeg) x76.toInt64) = 0 → mRuns (d + 1) 209 23 [some (.ref 142), some (.ref 0), some (.ref 114), some (.ref 141), some (.int (v4 + nI 6)), none, none] [] h77 out) ∧
 (¬ (lg_cmp (h77.2.1 141 (nI 0).toNatClampNeg) x76.toInt64) = 0 → (((nI 0) = 0 ∨ (nI 0) = 1) ∧ out = .inl (some (.int (nI 0)), h77)))))))) ∧
 (¬ x78 = x74 → (((nI 0) = 0 ∨ (nI 0) = 1) ∧ out = .inl (some (.int (nI 0)), h77)))))))))) ∧
 (((h.1 142 (v4.toNatClampNeg)) &&& (nI 31)) = nI 16 → (vp_in (v4 + (nI 1)) (h.2.2.1 142 0) ∧ (vp_in (v4 + (nI 2)) (h.2.2.1 142 0) ∧ (∃ (x80 : Int32) (h79 : mHp), mRuns d 201 0 [some (.ref 0), some (.int (h.1 142 ((v4 + (nI 1)).toNatClampNeg))), some (.int (h.1 142 ((v4 + (nI 2)).toNatClampNeg))), some (.ref 141), none] [] h (.inl (some (.int x80), h79)) ∧
 (vp_in (v4 + (nI 1)) (h79.2.2.1 142 0) ∧ (vp_in (v4 + (nI 2)) (h79.2.2.1 142 0) ∧ (∃ (x82 : Int32) (h81 : mHp), mRuns d 64 0 [some (.ref 114), some (.int (h79.1 142 ((v4 + (nI 1)).toNatClampNeg))), some (.int (h79.1 142 ((v4 + (nI 2)).toNatClampNeg))), none, none, none, none, none, none] [] h79 (.inl (some (.int x82), h81)) ∧
 (∃ (x84 : Int32) (h83 : mHp), mRuns d 4 0 [some (.ref 114)] [] h81 (.inl (some (.int x84), h83)) ∧
 ((x84 = x80 → ((¬ x80 = 0 → mRuns (d + 1) 209 23 [some (.ref 142), some (.ref 0), some (.ref 114), some (.ref 141), some (.int (v4 + nI 6)), none, none] [] h83 out) ∧
 (x80 = 0 → (vp_in (nI 0) 1 ∧ (((lg_cmp (h83.2.1 141 (nI 0).toNatClampNeg) x82.toInt64) = 0 → mRuns (d + 1) 209 23 [some (.ref 142), some (.ref 0), some (.ref 114), some (.ref 141), some (.int (v4 + nI 6)), none, none] [] h83 out) ∧
 (¬ (lg_cmp (h83.2.1 141 (nI 0).toNatClampNeg) x82.toInt64) = 0 → (((nI 0) = 0 ∨ (nI 0) = 1) ∧ out = .inl (some (.int (nI 0)), h83)))))))) ∧
 (¬ x84 = x80 → (((nI 0) = 0 ∨ (nI 0) = 1) ∧ out = .inl (some (.int (nI 0)), h83)))))))))))) ∧
 (((h.1 142 (v4.toNatClampNeg)) &&& (nI 31)) = nI 17 → (∃ (x86 : Int32) (h85 : mHp), mRuns d 153 0 [some (.ref 0)] [] h (.inl (some (.int x86), h85)) ∧
 (∃ (x88 : Int32) (h87 : mHp), mRuns d 67 0 [some (.ref 114), none, none, none] [] h85 (.inl (some (.int x88), h87)) ∧
 ((x86 = x88 → mRuns (d + 1) 209 23 [some (.ref 142), some (.ref 0), some (.ref 114), some (.ref 141), some (.int (v4 + nI 6)), none, none] [] h87 out) ∧
 (¬ x86 = x88 → (((nI 0) = 0 ∨ (nI 0) = 1) ∧ out = .inl (some (.int (nI 0)), h87))))))) ∧
 (((h.1 142 (v4.toNatClampNeg)) &&& (nI 31)) = nI 18 → (vp_in (v4 + (nI 1)) (h.2.2.1 142 0) ∧ (∃ (x90 : Int32) (h89 : mHp), mRuns d 202 0 [some (.ref 0), some (.int (h.1 142 ((v4 + (nI 1)).toNatClampNeg))), some (.ref 141), none] [] h (.inl (some (.int x90), h89)) ∧
 (vp_in (v4 + (nI 1)) (h89.2.2.1 142 0) ∧ (∃ (x92 : Int32) (h91 : mHp), mRuns d 68 0 [some (.ref 114), some (.int (h89.1 142 ((v4 + (nI 1)).toNatClampNeg))), none, none, none, none, none, none] [] h89 (.inl (some (.int x92), h91)) ∧
 (∃ (x94 : Int32) (h93 : mHp), mRuns d 4 0 [some (.ref 114)] [] h91 (.inl (some (.int x94), h93)) ∧
 ((x94 = x90 → ((¬ x90 = 0 → mRuns (d + 1) 209 23 [some (.ref 142), some (.ref 0), some (.ref 114), some (.ref 141), some (.int (v4 + nI 6)), none, none] [] h93 out) ∧
 (x90 = 0 → (vp_in (nI 0) 1 ∧ (((lg_cmp (h93.2.1 141 (nI 0).toNatClampNeg) x92.toInt64) = 0 → mRuns (d + 1) 209 23 [some (.ref 142), some (.ref 0), some (.ref 114), some (.ref 141), some (.int (v4 + nI 6)), none, none] [] h93 out) ∧
 (¬ (lg_cmp (h93.2.1 141 (nI 0).toNatClampNeg) x92.toInt64) = 0 → (((nI 0) = 0 ∨ (nI 0) = 1) ∧ out = .inl (some (.int (nI 0)), h93)))))))) ∧
 (¬ x94 = x90 → (((nI 0) = 0 ∨ (nI 0) = 1) ∧ out = .inl (some (.int (nI 0)), h93)))))))))) ∧
 (((h.1 142 (v4.toNatClampNeg)) &&& (nI 31)) = nI 19 → (vp_in (v4 + (nI 1)) (h.2.2.1 142 0) ∧ (∃ (x96 : Int32) (h95 : mHp), mRuns d 203 0 [some (.ref 0), some (.int (h.1 142 ((v4 + (nI 1)).toNatClampNeg))), some (.ref 141), none] [] h (.inl (some (.int x96), h95)) ∧
 (vp_in (v4 + (nI 1)) (h95.2.2.1 142 0) ∧ (∃ (x98 : Int32) (h97 : mHp), mRuns d 70 0 [some (.ref 114), some (.int (h95.1 142 ((v4 + (nI 1)).toNatClampNeg))), none, none] [] h95 (.inl (some (.int x98), h97)) ∧
 (∃ (x100 : Int32) (h99 : mHp), mRuns d 4 0 [some (.ref 114)] [] h97 (.inl (some (.int x100), h99)) ∧
 ((x100 = x96 → ((¬ x96 = 0 → mRuns (d + 1) 209 23 [some (.ref 142), some (.ref 0), some (.ref 114), some (.ref 141), some (.int (v4 + nI 6)), none, none] [] h99 out) ∧
 (x96 = 0 → (vp_in (nI 0) 1 ∧ (((lg_cmp (h99.2.1 141 (nI 0).toNatClampNeg) x98.toInt64) = 0 → mRuns (d + 1) 209 23 [some (.ref 142), some (.ref 0), some (.ref 114), some (.ref 141), some (.int (v4 + nI 6)), none, none] [] h99 out) ∧
 (¬ (lg_cmp (h99.2.1 141 (nI 0).toNatClampNeg) x98.toInt64) = 0 → (((nI 0) = 0 ∨ (nI 0) = 1) ∧ out = .inl (some (.int (nI 0)), h99)))))))) ∧
 (¬ x100 = x96 → (((nI 0) = 0 ∨ (nI 0) = 1) ∧ out = .inl (some (.int (nI 0)), h99)))))))))) ∧
 (((h.1 142 (v4.toNatClampNeg)) &&& (nI 31)) = nI 20 → (vp_in (v4 + (nI 1)) (h.2.2.1 142 0) ∧ (vp_in (v4 + (nI 2)) (h.2.2.1 142 0) ∧ (vp_in (v4 + (nI 3)) (h.2.2.1 142 0) ∧ (vp_in (v4 + (nI 4)) (h.2.2.1 142 0) ∧ (vp_in (v4 + (nI 5)) (h.2.2.1 142 0) ∧ (∃ (x102 : Int32) (h101 : mHp), mRuns d 204 0 [some (.ref 0), some (.int (h.1 142 ((v4 + (nI 1)).toNatClampNeg))), some (.int (h.1 142 ((v4 + (nI 2)).toNatClampNeg))), some (.int (h.1 142 ((v4 + (nI 3)).toNatClampNeg))), some (.int (h.1 142 ((v4 + (nI 4)).toNatClampNeg))), some (.int (h.1 142 ((v4 + (nI 5)).toNatClampNeg))), some (.ref 141), none] [] h (.inl (some (.int x102), h101)) ∧
 (vp_in (v4 + (nI 1)) (h101.2.2.1 142 0) ∧ (vp_in (v4 + (nI 2)) (h101.2.2.1 142 0) ∧ (vp_in (v4 + (nI 3)) (h101.2.2.1 142 0) ∧ (vp_in (v4 + (nI 4)) (h101.2.2.1 142 0) ∧ (vp_in (v4 + (nI 5)) (h101.2.2.1 142 0) ∧ (∃ (x104 : Int32) (h103 : mHp), mRuns d 71 0 [some (.ref 114), some (.int (h101.1 142 ((v4 + (nI 1)).toNatClampNeg))), some (.int (h101.1 142 ((v4 + (nI 2)).toNatClampNeg))), some (.int (h101.1 142 ((v4 + (nI 3)).toNatClampNeg))), some (.int (h101.1 142 ((v4 + (nI 4)).toNatClampNeg))), some (.int (h101.1 142 ((v4 + (nI 5)).toNatClampNeg))), none, none, none] [] h101 (.inl (some (.int x104), h103)) ∧
 (∃ (x106 : Int32) (h105 : mHp), mRuns d 4 0 [some (.ref 114)] [] h103 (.inl (some (.int x106), h105)) ∧
 ((x106 = x102 → ((¬ x102 = 0 → mRuns (d + 1) 209 23 [some (.ref 142), some (.ref 0), some (.ref 114), some (.ref 141), some (.int (v4 + nI 6)), none, none] [] h105 out) ∧
 (x102 = 0 → (vp_in (nI 0) 1 ∧ (((lg_cmp (h105.2.1 141 (nI 0).toNatClampNeg) x104.toInt64) = 0 → mRuns (d + 1) 209 23 [some (.ref 142), some (.ref 0), some (.ref 114), some (.ref 141), some (.int (v4 + nI 6)), none, none] [] h105 out) ∧
 (¬ (lg_cmp (h105.2.1 141 (nI 0).toNatClampNeg) x104.toInt64) = 0 → (((nI 0) = 0 ∨ (nI 0) = 1) ∧ out = .inl (some (.int (nI 0)), h105)))))))) ∧
 (¬ x106 = x102 → (((nI 0) = 0 ∨ (nI 0) = 1) ∧ out = .inl (some (.int (nI 0)), h105)))))))))))))))))) ∧
 (((h.1 142 (v4.toNatClampNeg)) &&& (nI 31)) = nI 21 → (vp_in (v4 + (nI 1)) (h.2.2.1 142 0) ∧ (vp_in (v4 + (nI 2)) (h.2.2.1 142 0) ∧ (vp_in (v4 + (nI 3)) (h.2.2.1 142 0) ∧ (∃ (x108 : Int32) (h107 : mHp), mRuns d 205 0 [some (.ref 0), some (.int (h.1 142 ((v4 + (nI 1)).toNatClampNeg))), some (.int (h.1 142 ((v4 + (nI 2)).toNatClampNeg))), some (.int (h.1 142 ((v4 + (nI 3)).toNatClampNeg))), some (.ref 141), none] [] h (.inl (some (.int x108), h107)) ∧
 (vp_in (v4 + (nI 1)) (h107.2.2.1 142 0) ∧ (vp_in (v4 + (nI 2)) (h107.2.2.1 142 0) ∧ (vp_in (v4 + (nI 3)) (h107.2.2.1 142 0) ∧ (∃ (x110 : Int32) (h109 : mHp), mRuns d 73 0 [some (.ref 114), some (.int (h107.1 142 ((v4 + (nI 1)).toNatClampNeg))), some (.int (h107.1 142 ((v4 + (nI 2)).toNatClampNeg))), some (.int (h107.1 142 ((v4 + (nI 3)).toNatClampNeg))), none] [] h107 (.inl (some (.int x110), h109)) ∧
 (∃ (x112 : Int32) (h111 : mHp), mRuns d 4 0 [some (.ref 114)] [] h109 (.inl (some (.int x112), h111)) ∧
 ((x112 = x108 → ((¬ x108 = 0 → mRuns (d + 1) 209 23 [some (.ref 142), some (.ref 0), some (.ref 114), some (.ref 141), some (.int (v4 + nI 6)), none, none] [] h111 out) ∧
 (x108 = 0 → (vp_in (nI 0) 1 ∧ ((x110 = 0 → (((lg_cmp (h111.2.1 141 (nI 0).toNatClampNeg) (lN 0)) = 0 → mRuns (d + 1) 209 23 [some (.ref 142), some (.ref 0), some (.ref 114), some (.ref 141), some (.int (v4 + nI 6)), none, none] [] h111 out) ∧
 (¬ (lg_cmp (h111.2.1 141 (nI 0).toNatClampNeg) (lN 0)) = 0 → (((nI 0) = 0 ∨ (nI 0) = 1) ∧ out = .inl (some (.int (nI 0)), h111))))) ∧
 (¬ x110 = 0 → (((lg_cmp (h111.2.1 141 (nI 0).toNatClampNeg) (lN 1)) = 0 → mRuns (d + 1) 209 23 [some (.ref 142), some (.ref 0), some (.ref 114), some (.ref 141), some (.int (v4 + nI 6)), none, none] [] h111 out) ∧
 (¬ (lg_cmp (h111.2.1 141 (nI 0).toNatClampNeg) (lN 1)) = 0 → (((nI 0) = 0 ∨ (nI 0) = 1) ∧ out = .inl (some (.int (nI 0)), h111)))))))))) ∧
 (¬ x112 = x108 → (((nI 0) = 0 ∨ (nI 0) = 1) ∧ out = .inl (some (.int (nI 0)), h111)))))))))))))) ∧
 (((h.1 142 (v4.toNatClampNeg)) &&& (nI 31)) = nI 22 → (vp_in (v4 + (nI 1)) (h.2.2.1 142 0) ∧ (∃ (x114 : Int32) (h113 : mHp), mRuns d 206 0 [some (.ref 0), some (.int (h.1 142 ((v4 + (nI 1)).toNatClampNeg))), some (.ref 141), none] [] h (.inl (some (.int x114), h113)) ∧
 (vp_in (v4 + (nI 1)) (h113.2.2.1 142 0) ∧ (∃ (x116 : Int32) (h115 : mHp), mRuns d 74 0 [some (.ref 114), some (.int (h113.1 142 ((v4 + (nI 1)).toNatClampNeg))), none] [] h113 (.inl (some (.int x116), h115)) ∧
 (∃ (x118 : Int32) (h117 : mHp), mRuns d 4 0 [some (.ref 114)] [] h115 (.inl (some (.int x118), h117)) ∧
 ((x118 = x114 → ((¬ x114 = 0 → mRuns (d + 1) 209 23 [some (.ref 142), some (.ref 0), some (.ref 114), some (.ref 141), some (.int (v4 + nI 6)), none, none] [] h117 out) ∧
 (x114 = 0 → (vp_in (nI 0) 1 ∧ (((lg_cmp (h117.2.1 141 (nI 0).toNatClampNeg) x116.toInt64) = 0 → mRuns (d + 1) 209 23 [some (.ref 142), some (.ref 0), some (.ref 114), some (.ref 141), some (.int (v4 + nI 6)), none, none] [] h117 out) ∧
 (¬ (lg_cmp (h117.2.1 141 (nI 0).toNatClampNeg) x116.toInt64) = 0 → (((nI 0) = 0 ∨ (nI 0) = 1) ∧ out = .inl (some (.int (nI 0)), h117)))))))) ∧
 (¬ x118 = x114 → (((nI 0) = 0 ∨ (nI 0) = 1) ∧ out = .inl (some (.int (nI 0)), h117)))))))))) ∧
 (((h.1 142 (v4.toNatClampNeg)) &&& (nI 31)) = nI 23 → (vp_in (v4 + (nI 1)) (h.2.2.1 142 0) ∧ (vp_in (v4 + (nI 2)) (h.2.2.1 142 0) ∧ (∃ (x120 : Int32) (h119 : mHp), mRuns d 207 0 [some (.ref 0), some (.int (h.1 142 ((v4 + (nI 1)).toNatClampNeg))), some (.int (h.1 142 ((v4 + (nI 2)).toNatClampNeg))), some (.ref 141), none] [] h (.inl (some (.int x120), h119)) ∧
 (vp_in (v4 + (nI 1)) (h119.2.2.1 142 0) ∧ (vp_in (v4 + (nI 2)) (h119.2.2.1 142 0) ∧ (∃ (x122 : Int32) (h121 : mHp), mRuns d 77 0 [some (.ref 114), some (.int (h119.1 142 ((v4 + (nI 1)).toNatClampNeg))), some (.int (h119.1 142 ((v4 + (nI 2)).toNatClampNeg)))] [] h119 (.inl (some (.int x122), h121)) ∧
 (∃ (x124 : Int32) (h123 : mHp), mRuns d 4 0 [some (.ref 114)] [] h121 (.inl (some (.int x124), h123)) ∧
 ((x124 = x120 → ((¬ x120 = 0 → mRuns (d + 1) 209 23 [some (.ref 142), some (.ref 0), some (.ref 114), some (.ref 141), some (.int (v4 + nI 6)), none, none] [] h123 out) ∧
 (x120 = 0 → (vp_in (nI 0) 1 ∧ (((lg_cmp (h123.2.1 141 (nI 0).toNatClampNeg) x122.toInt64) = 0 → mRuns (d + 1) 209 23 [some (.ref 142), some (.ref 0), some (.ref 114), some (.ref 141), some (.int (v4 + nI 6)), none, none] [] h123 out) ∧
 (¬ (lg_cmp (h123.2.1 141 (nI 0).toNatClampNeg) x122.toInt64) = 0 → (((nI 0) = 0 ∨ (nI 0) = 1) ∧ out = .inl (some (.int (nI 0)), h123)))))))) ∧
 (¬ x124 = x120 → (((nI 0) = 0 ∨ (nI 0) = 1) ∧ out = .inl (some (.int (nI 0)), h123)))))))))))) ∧
 (((h.1 142 (v4.toNatClampNeg)) &&& (nI 31)) = nI 24 → (vp_in (v4 + (nI 1)) (h.2.2.1 142 0) ∧ (vp_in (v4 + (nI 2)) (h.2.2.1 142 0) ∧ (∃ (x126 : Int32) (h125 : mHp), mRuns d 208 0 [some (.ref 0), some (.int (h.1 142 ((v4 + (nI 1)).toNatClampNeg))), some (.int (h.1 142 ((v4 + (nI 2)).toNatClampNeg))), some (.ref 141), none] [] h (.inl (some (.int x126), h125)) ∧
 (vp_in (v4 + (nI 1)) (h125.2.2.1 142 0) ∧ (vp_in (v4 + (nI 2)) (h125.2.2.1 142 0) ∧ (∃ (x128 : Int32) (h127 : mHp), mRuns d 78 0 [some (.ref 114), some (.int (h125.1 142 ((v4 + (nI 1)).toNatClampNeg))), some (.int (h125.1 142 ((v4 + (nI 2)).toNatClampNeg)))] [] h125 (.inl (some (.int x128), h127)) ∧
 (∃ (x130 : Int32) (h129 : mHp), mRuns d 4 0 [some (.ref 114)] [] h127 (.inl (some (.int x130), h129)) ∧
 ((x130 = x126 → ((¬ x126 = 0 → mRuns (d + 1) 209 23 [some (.ref 142), some (.ref 0), some (.ref 114), some (.ref 141), some (.int (v4 + nI 6)), none, none] [] h129 out) ∧
 (x126 = 0 → (vp_in (nI 0) 1 ∧ (((lg_cmp (h129.2.1 141 (nI 0).toNatClampNeg) x128.toInt64) = 0 → mRuns (d + 1) 209 23 [some (.ref 142), some (.ref 0), some (.ref 114), some (.ref 141), some (.int (v4 + nI 6)), none, none] [] h129 out) ∧
 (¬ (lg_cmp (h129.2.1 141 (nI 0).toNatClampNeg) x128.toInt64) = 0 → (((nI 0) = 0 ∨ (nI 0) = 1) ∧ out = .inl (some (.int (nI 0)), h129)))))))) ∧
 (¬ x130 = x126 → (((nI 0) = 0 ∨ (nI 0) = 1) ∧ out = .inl (some (.int (nI 0)), h129)))))))))))) ∧
 (((h.1 142 (v4.toNatClampNeg)) &&& (nI 31)) = nI 25 → (∃ h131 : mHp, mRuns d 155 0 [some (.ref 0)] [] h (.inl (none, h131)) ∧
 (∃ h132 : mHp, mRuns d 79 0 [some (.ref 114)] [] h131 (.inl (none, h132)) ∧
 mRuns (d + 1) 209 23 [some (.ref 142), some (.ref 0), some (.ref 114), some (.ref 141), some (.int (v4 + nI 6)), none, none] [] h132 out))) ∧
 (((h.1 142 (v4.toNatClampNeg)) &&& (nI 31)) = nI 26 → (∃ (x134 : Int32) (h133 : mHp), mRuns d 156 0 [some (.ref 0)] [] h (.inl (some (.int x134), h133)) ∧
 (∃ (x136 : Int32) (h135 : mHp), mRuns d 80 0 [some (.ref 114)] [] h133 (.inl (some (.int x136), h135)) ∧
 ((x134 = x136 → mRuns (d + 1) 209 23 [some (.ref 142), some (.ref 0), some (.ref 114), some (.ref 141), some (.int (v4 + nI 6)), none, none] [] h135 out) ∧
 (¬ x134 = x136 → (((nI 0) = 0 ∨ (nI 0) = 1) ∧ out = .inl (some (.int (nI 0)), h135))))))) ∧
 True))))) :
  mRuns (d + 1) 209 23 [some (.ref 142), some (.ref 0), some (.ref 114), some (.ref 141), some (.int v4), none, none] [] h out := mVc_from 86 H
set_option maxRecDepth 20000 in
theorem vc_L_law_593 {d : Nat} {h : mHp} {out : mOut} {s0 : Int32} {s1 : Int32} {s2 : Int32} {v4 : Int32} (H : (∃ (x2 : Int32) (h1 : mHp), mRuns d 193 0 [some (.ref 0), some (.int s2), some (.int s1), some (.int s0), some (.ref 141), none] [] h (.inl (some (.int x2), h1)) ∧
 (vp_in (v4 + (nI 1)) (h1.2.2.1 142 0) ∧ (vp_in (v4 + (nI 2)) (h1.2.2.1 142 0) ∧ (vp_in (v4 + (nI 3)) (h1.2.2.1 142 0) ∧ (((h1.1 142 ((v4 + (nI 3)).toNatClampNeg)) = 0 → mRuns (d + 1) 209 626 [some (.ref 142), some (.ref 0), some (.ref 114), some (.ref 141), some (.int v4), some (.int x2), none] [.int (nI 0), .int (h1.1 142 ((v4 + (nI 2)).toNatClampNeg)), .int (h1.1 142 ((v4 + (nI 1)).toNatClampNeg)), .ref 114] h1 out) ∧
 (¬ (h1.1 142 ((v4 + (nI 3)).toNatClampNeg)) = 0 → mRuns (d + 1) 209 626 [some (.ref 142), some (.ref 0), some (.ref 114), some (.ref 141), some (.int v4), some (.int x2), none] [.int (nI 1), .int (h1.1 142 ((v4 + (nI 2)).toNatClampNeg)), .int (h1.1 142 ((v4 + (nI 1)).toNatClampNeg)), .ref 114] h1 out))))))) :
  mRuns (d + 1) 209 593 [some (.ref 142), some (.ref 0), some (.ref 114), some (.ref 141), some (.int v4), none, none] [.int s0, .int s1, .int s2, .ref 0] h out := mVc_from 23 H
set_option maxRecDepth 20000 in
theorem vc_L_law_626 {d : Nat} {h : mHp} {out : mOut} {s0 : Int32} {s1 : Int32} {s2 : Int32} {v4 : Int32} {v5 : Int32} (H : (∃ (x2 : Int32) (h1 : mHp), mRuns d 39 0 [some (.ref 114), some (.int s2), some (.int s1), some (.int s0)] [] h (.inl (some (.int x2), h1)) ∧
 (∃ (x4 : Int32) (h3 : mHp), mRuns d 4 0 [some (.ref 114)] [] h1 (.inl (some (.int x4), h3)) ∧
 ((x4 = v5 → ((¬ v5 = 0 → mRuns (d + 1) 209 23 [some (.ref 142), some (.ref 0), some (.ref 114), some (.ref 141), some (.int (v4 + nI 6)), none, none] [] h3 out) ∧
 (v5 = 0 → (vp_in (nI 0) 1 ∧ (((lg_cmp (h3.2.1 141 (nI 0).toNatClampNeg) x2.toInt64) = 0 → mRuns (d + 1) 209 23 [some (.ref 142), some (.ref 0), some (.ref 114), some (.ref 141), some (.int (v4 + nI 6)), none, none] [] h3 out) ∧
 (¬ (lg_cmp (h3.2.1 141 (nI 0).toNatClampNeg) x2.toInt64) = 0 → (((nI 0) = 0 ∨ (nI 0) = 1) ∧ out = .inl (some (.int (nI 0)), h3)))))))) ∧
 (¬ x4 = v5 → (((nI 0) = 0 ∨ (nI 0) = 1) ∧ out = .inl (some (.int (nI 0)), h3))))))) :
  mRuns (d + 1) 209 626 [some (.ref 142), some (.ref 0), some (.ref 114), some (.ref 141), some (.int v4), some (.int v5), none] [.int s0, .int s1, .int s2, .ref 114] h out := mVc_from 19 H
set_option maxRecDepth 20000 in
theorem vc_L_law_955 {d : Nat} {h : mHp} {out : mOut} {s0 : Int32} {s1 : Int32} {s2 : Int32} {s3 : Int32} {v4 : Int32} (H : (∃ (x2 : Int32) (h1 : mHp), mRuns d 198 0 [some (.ref 0), some (.int s3), some (.int s2), some (.int s1), some (.int s0), some (.ref 141), none] [] h (.inl (some (.int x2), h1)) ∧
 (vp_in (v4 + (nI 1)) (h1.2.2.1 142 0) ∧ (vp_in (v4 + (nI 2)) (h1.2.2.1 142 0) ∧ (vp_in (v4 + (nI 3)) (h1.2.2.1 142 0) ∧ (vp_in (v4 + (nI 4)) (h1.2.2.1 142 0) ∧ (((h1.1 142 ((v4 + (nI 4)).toNatClampNeg)) = 0 → mRuns (d + 1) 209 994 [some (.ref 142), some (.ref 0), some (.ref 114), some (.ref 141), some (.int v4), some (.int x2), none] [.int (nI 0), .int (h1.1 142 ((v4 + (nI 3)).toNatClampNeg)), .int (h1.1 142 ((v4 + (nI 2)).toNatClampNeg)), .int (h1.1 142 ((v4 + (nI 1)).toNatClampNeg)), .ref 114] h1 out) ∧
 (¬ (h1.1 142 ((v4 + (nI 4)).toNatClampNeg)) = 0 → mRuns (d + 1) 209 994 [some (.ref 142), some (.ref 0), some (.ref 114), some (.ref 141), some (.int v4), some (.int x2), none] [.int (nI 1), .int (h1.1 142 ((v4 + (nI 3)).toNatClampNeg)), .int (h1.1 142 ((v4 + (nI 2)).toNatClampNeg)), .int (h1.1 142 ((v4 + (nI 1)).toNatClampNeg)), .ref 114] h1 out)))))))) :
  mRuns (d + 1) 209 955 [some (.ref 142), some (.ref 0), some (.ref 114), some (.ref 141), some (.int v4), none, none] [.int s0, .int s1, .int s2, .int s3, .ref 0] h out := mVc_from 28 H
set_option maxRecDepth 20000 in
theorem vc_L_law_994 {d : Nat} {h : mHp} {out : mOut} {s0 : Int32} {s1 : Int32} {s2 : Int32} {s3 : Int32} {v4 : Int32} {v5 : Int32} (H : (∃ (x2 : Int32) (h1 : mHp), mRuns d 56 0 [some (.ref 114), some (.int s3), some (.int s2), some (.int s1), some (.int s0)] [] h (.inl (some (.int x2), h1)) ∧
 (∃ (x4 : Int32) (h3 : mHp), mRuns d 4 0 [some (.ref 114)] [] h1 (.inl (some (.int x4), h3)) ∧
 ((x4 = v5 → ((¬ v5 = 0 → mRuns (d + 1) 209 23 [some (.ref 142), some (.ref 0), some (.ref 114), some (.ref 141), some (.int (v4 + nI 6)), none, none] [] h3 out) ∧
 (v5 = 0 → (vp_in (nI 0) 1 ∧ (((lg_cmp (h3.2.1 141 (nI 0).toNatClampNeg) x2.toInt64) = 0 → mRuns (d + 1) 209 23 [some (.ref 142), some (.ref 0), some (.ref 114), some (.ref 141), some (.int (v4 + nI 6)), none, none] [] h3 out) ∧
 (¬ (lg_cmp (h3.2.1 141 (nI 0).toNatClampNeg) x2.toInt64) = 0 → (((nI 0) = 0 ∨ (nI 0) = 1) ∧ out = .inl (some (.int (nI 0)), h3)))))))) ∧
 (¬ x4 = v5 → (((nI 0) = 0 ∨ (nI 0) = 1) ∧ out = .inl (some (.int (nI 0)), h3))))))) :
  mRuns (d + 1) 209 994 [some (.ref 142), some (.ref 0), some (.ref 114), some (.ref 141), some (.int v4), some (.int v5), none] [.int s0, .int s1, .int s2, .int s3, .ref 114] h out := mVc_from 19 H

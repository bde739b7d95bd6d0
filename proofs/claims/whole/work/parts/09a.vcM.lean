/-! The unfolded stretches of methods (by program, wip/gen/vcgen.py): each gives mRuns at its place -/
-- java/util/Arrays.fill([II)V
set_option maxRecDepth 20000 in
theorem vc_JA_fill {d : Nat} {h : mHp} {out : mOut} {a1 : Nat} {a2 : Int32} (H : mLen (fun x1 => mRuns (d + 1) 0 5 [some (.ref a1), some (.int a2), some (.int (nI 0)), some (.int x1)] [] h out) h a1 (mSh a1)) :
  mRuns (d + 1) 0 0 [some (.ref a1), some (.int a2), none, none] [] h out := mVc_from 6 H
set_option maxRecDepth 20000 in
theorem vc_JA_fill_5 {d : Nat} {h : mHp} {out : mOut} {v0 : Nat} {v1 : Int32} {v2 : Int32} {v3 : Int32} (H : ((v3 ≤ v2 → out = .inl (none, h)) ∧
 (¬ v3 ≤ v2 → mAr 1 (fun n1 _ => vp_in v2 n1 ∧ mRuns (d + 1) 0 5 [some (.ref v0), some (.int v1), some (.int (v2 + nI 1)), some (.int v3)] [] (mPI h v0 v2.toNatClampNeg v1) out) (mSh v0)))) :
  mRuns (d + 1) 0 5 [some (.ref v0), some (.int v1), some (.int v2), some (.int v3)] [] h out := mVc_from 10 H
-- java/lang/Math.max(II)I
set_option maxRecDepth 20000 in
theorem vc_JM_max {d : Nat} {h : mHp} {out : mOut} {a1 : Int32} {a2 : Int32} (H : ((a1 < a2 → out = .inl (some (.int a2), h)) ∧
 (¬ a1 < a2 → out = .inl (some (.int a1), h)))) :
  mRuns (d + 1) 1 0 [some (.int a1), some (.int a2)] [] h out := mVc_from 6 H
-- java/lang/Math.min(II)I
set_option maxRecDepth 20000 in
theorem vc_JM_min {d : Nat} {h : mHp} {out : mOut} {a1 : Int32} {a2 : Int32} (H : ((a2 < a1 → out = .inl (some (.int a2), h)) ∧
 (¬ a2 < a1 → out = .inl (some (.int a1), h)))) :
  mRuns (d + 1) 2 0 [some (.int a1), some (.int a2)] [] h out := mVc_from 6 H
-- java/lang/Integer.bitCount(I)I
set_option maxRecDepth 20000 in
theorem vc_JI_bitCount {d : Nat} {h : mHp} {out : mOut} {a1 : Int32} (H : out = .inl (some (.int ((((((((a1 - (((a1.toUInt32 >>> ((nI 1).toUInt32 &&& Int32.toUInt32 31)).toInt32) &&& (nI 1431655765))) &&& (nI 858993459)) + ((((a1 - (((a1.toUInt32 >>> ((nI 1).toUInt32 &&& Int32.toUInt32 31)).toInt32) &&& (nI 1431655765))).toUInt32 >>> ((nI 2).toUInt32 &&& Int32.toUInt32 31)).toInt32) &&& (nI 858993459))) + (((((a1 - (((a1.toUInt32 >>> ((nI 1).toUInt32 &&& Int32.toUInt32 31)).toInt32) &&& (nI 1431655765))) &&& (nI 858993459)) + ((((a1 - (((a1.toUInt32 >>> ((nI 1).toUInt32 &&& Int32.toUInt32 31)).toInt32) &&& (nI 1431655765))).toUInt32 >>> ((nI 2).toUInt32 &&& Int32.toUInt32 31)).toInt32) &&& (nI 858993459))).toUInt32 >>> ((nI 4).toUInt32 &&& Int32.toUInt32 31)).toInt32)) &&& (nI 252645135)) + (((((((a1 - (((a1.toUInt32 >>> ((nI 1).toUInt32 &&& Int32.toUInt32 31)).toInt32) &&& (nI 1431655765))) &&& (nI 858993459)) + ((((a1 - (((a1.toUInt32 >>> ((nI 1).toUInt32 &&& Int32.toUInt32 31)).toInt32) &&& (nI 1431655765))).toUInt32 >>> ((nI 2).toUInt32 &&& Int32.toUInt32 31)).toInt32) &&& (nI 858993459))) + (((((a1 - (((a1.toUInt32 >>> ((nI 1).toUInt32 &&& Int32.toUInt32 31)).toInt32) &&& (nI 1431655765))) &&& (nI 858993459)) + ((((a1 - (((a1.toUInt32 >>> ((nI 1).toUInt32 &&& Int32.toUInt32 31)).toInt32) &&& (nI 1431655765))).toUInt32 >>> ((nI 2).toUInt32 &&& Int32.toUInt32 31)).toInt32) &&& (nI 858993459))).toUInt32 >>> ((nI 4).toUInt32 &&& Int32.toUInt32 31)).toInt32)) &&& (nI 252645135)).toUInt32 >>> ((nI 8).toUInt32 &&& Int32.toUInt32 31)).toInt32)) + ((((((((a1 - (((a1.toUInt32 >>> ((nI 1).toUInt32 &&& Int32.toUInt32 31)).toInt32) &&& (nI 1431655765))) &&& (nI 858993459)) + ((((a1 - (((a1.toUInt32 >>> ((nI 1).toUInt32 &&& Int32.toUInt32 31)).toInt32) &&& (nI 1431655765))).toUInt32 >>> ((nI 2).toUInt32 &&& Int32.toUInt32 31)).toInt32) &&& (nI 858993459))) + (((((a1 - (((a1.toUInt32 >>> ((nI 1).toUInt32 &&& Int32.toUInt32 31)).toInt32) &&& (nI 1431655765))) &&& (nI 858993459)) + ((((a1 - (((a1.toUInt32 >>> ((nI 1).toUInt32 &&& Int32.toUInt32 31)).toInt32) &&& (nI 1431655765))).toUInt32 >>> ((nI 2).toUInt32 &&& Int32.toUInt32 31)).toInt32) &&& (nI 858993459))).toUInt32 >>> ((nI 4).toUInt32 &&& Int32.toUInt32 31)).toInt32)) &&& (nI 252645135)) + (((((((a1 - (((a1.toUInt32 >>> ((nI 1).toUInt32 &&& Int32.toUInt32 31)).toInt32) &&& (nI 1431655765))) &&& (nI 858993459)) + ((((a1 - (((a1.toUInt32 >>> ((nI 1).toUInt32 &&& Int32.toUInt32 31)).toInt32) &&& (nI 1431655765))).toUInt32 >>> ((nI 2).toUInt32 &&& Int32.toUInt32 31)).toInt32) &&& (nI 858993459))) + (((((a1 - (((a1.toUInt32 >>> ((nI 1).toUInt32 &&& Int32.toUInt32 31)).toInt32) &&& (nI 1431655765))) &&& (nI 858993459)) + ((((a1 - (((a1.toUInt32 >>> ((nI 1).toUInt32 &&& Int32.toUInt32 31)).toInt32) &&& (nI 1431655765))).toUInt32 >>> ((nI 2).toUInt32 &&& Int32.toUInt32 31)).toInt32) &&& (nI 858993459))).toUInt32 >>> ((nI 4).toUInt32 &&& Int32.toUInt32 31)).toInt32)) &&& (nI 252645135)).toUInt32 >>> ((nI 8).toUInt32 &&& Int32.toUInt32 31)).toInt32)).toUInt32 >>> ((nI 16).toUInt32 &&& Int32.toUInt32 31)).toInt32)) &&& (nI 63))), h)) :
  mRuns (d + 1) 3 0 [some (.int a1)] [] h out := mVc_from 42 H
-- TasterTableModel.thrown()I
set_option maxRecDepth 20000 in
theorem vc_M_thrown {d : Nat} {h : mHp} {out : mOut}  (H : out = .inl (some (.int (h.1 114 0)), h)) :
  mRuns (d + 1) 4 0 [some (.ref 114)] [] h out := mVc_from 3 H
-- TasterTableModel.feed(IIIII)I
set_option maxRecDepth 20000 in
theorem vc_M_feed {d : Nat} {h : mHp} {out : mOut} {a1 : Int32} {a2 : Int32} {a3 : Int32} {a4 : Int32} {a5 : Int32} (H : (((((mPI h 114 0 (nI 0)).1 114 10) + (nI 20)) ≤ (nI 700) → (∃ h1 : mHp, mRuns d 6 0 [some (.ref 114), some (.int a1), none] [] (mPI h 114 0 (nI 0)) (.inl (none, h1)) ∧
 (∃ h2 : mHp, mRuns d 6 0 [some (.ref 114), some (.int a2), none] [] h1 (.inl (none, h2)) ∧
 (∃ h3 : mHp, mRuns d 6 0 [some (.ref 114), some (.int a3), none] [] h2 (.inl (none, h3)) ∧
 (∃ h4 : mHp, mRuns d 6 0 [some (.ref 114), some (.int a4), none] [] h3 (.inl (none, h4)) ∧
 (∃ h5 : mHp, mRuns d 6 0 [some (.ref 114), some (.int a5), none] [] h4 (.inl (none, h5)) ∧
 out = .inl (some (.int (h5.1 114 10)), h5))))))) ∧
 (¬ (((mPI h 114 0 (nI 0)).1 114 10) + (nI 20)) ≤ (nI 700) → out = .inl (some (.int (-1)), mPI h 114 0 (nI 0))))) :
  mRuns (d + 1) 5 0 [some (.ref 114), some (.int a1), some (.int a2), some (.int a3), some (.int a4), some (.int a5)] [] h out := mVc_from 27 H
-- TasterTableModel.lays(I)V
set_option maxRecDepth 20000 in
theorem vc_M_lays {d : Nat} {h : mHp} {out : mOut} {a1 : Int32} (H : mRuns (d + 1) 6 3 [some (.ref 114), some (.int a1), some (.int (nI 24))] [] h out) :
  mRuns (d + 1) 6 0 [some (.ref 114), some (.int a1), none] [] h out := mVc_from 3 H
set_option maxRecDepth 20000 in
theorem vc_M_lays_3 {d : Nat} {h : mHp} {out : mOut} {v1 : Int32} {v2 : Int32} (H : ((v2 < 0 → out = .inl (none, h)) ∧
 (¬ v2 < 0 → (vp_in (h.1 114 10) 700 ∧ mRuns (d + 1) 6 3 [some (.ref 114), some (.int v1), some (.int (v2 + (-8)))] [] (mPI (mPI h 119 (h.1 114 10).toNatClampNeg ((v1 >>> (v2 &&& 31)) &&& (nI 255))) 114 10 (((mPI h 119 (h.1 114 10).toNatClampNeg ((v1 >>> (v2 &&& 31)) &&& (nI 255))).1 114 10) + (nI 1))) out)))) :
  mRuns (d + 1) 6 3 [some (.ref 114), some (.int v1), some (.int v2)] [] h out := mVc_from 21 H
-- TasterTableModel.table(I)I
set_option maxRecDepth 20000 in
theorem vc_M_table {d : Nat} {h : mHp} {out : mOut} {a1 : Int32} (H : ((a1 < 0 → mRuns (d + 1) 7 23 [some (.ref 114), some (.int a1), none] [.int (nI 0), .ref 114] (mPI h 114 0 (nI 0)) out) ∧
 (¬ a1 < 0 → ((((mPI h 114 0 (nI 0)).1 114 10) < a1 → mRuns (d + 1) 7 23 [some (.ref 114), some (.int a1), none] [.int (nI 0), .ref 114] (mPI h 114 0 (nI 0)) out) ∧
 (¬ ((mPI h 114 0 (nI 0)).1 114 10) < a1 → mRuns (d + 1) 7 23 [some (.ref 114), some (.int a1), none] [.int (nI 1), .ref 114] (mPI h 114 0 (nI 0)) out))))) :
  mRuns (d + 1) 7 0 [some (.ref 114), some (.int a1), none] [] h out := mVc_from 13 H
set_option maxRecDepth 20000 in
theorem vc_M_table_23 {d : Nat} {h : mHp} {out : mOut} {s0 : Int32} {v1 : Int32} (H : (∃ (x2 : Int32) (h1 : mHp), mRuns d 8 0 [some (.ref 114), some (.int s0), some (.int (nI 1))] [] h (.inl (some (.int x2), h1)) ∧
 ((¬ x2 = 0 → (((nI 0) = 0 ∨ (nI 0) = 1) ∧ mRuns (d + 1) 7 89 [some (.ref 114), none, some (.int (nI 0))] [] (mPI (mPI (mPI (mPI (mPI (mPI (mPI (mPI (mPI (mPI (mPI h1 114 10 (nI 0)) 114 12 (-1)) 114 11 (nI 0)) 114 14 v1) 114 15 (nI 0)) 114 21 (nI 0)) 114 22 (nI 0)) 114 23 (nI 0)) 114 24 (nI 1)) 114 25 (nI 0)) 114 26 (nI 0)) out)) ∧
 (x2 = 0 → out = .inl (some (.int (nI 0)), h1))))) :
  mRuns (d + 1) 7 23 [some (.ref 114), some (.int v1), none] [.int s0, .ref 114] h out := mVc_from 39 H
set_option maxRecDepth 20000 in
theorem vc_M_table_89 {d : Nat} {h : mHp} {out : mOut} {v2 : Int32} (H : (((nI 25) ≤ v2 → (∃ h1 : mHp, mRuns d 9 0 [some (.ref 114), none] [] h (.inl (none, h1)) ∧
 mRuns (d + 1) 7 112 [some (.ref 114), none, none] [] h1 out)) ∧
 (¬ (nI 25) ≤ v2 → (vp_in v2 25 ∧ mRuns (d + 1) 7 89 [some (.ref 114), none, some (.int (v2 + nI 1))] [] (mPI h 124 v2.toNatClampNeg (nI 0)) out)))) :
  mRuns (d + 1) 7 89 [some (.ref 114), none, some (.int v2)] [] h out := mVc_from 11 H
set_option maxRecDepth 20000 in
theorem vc_M_table_112 {d : Nat} {h : mHp} {out : mOut}  (H : (∃ (x2 : Int32) (h1 : mHp), mRuns d 13 0 [some (.ref 114)] [] h (.inl (some (.int x2), h1)) ∧
 ((x2 = 0 → mRuns (d + 1) 7 133 [some (.ref 114), none, none] [] h1 out) ∧
 (¬ x2 = 0 → (((h1.1 114 16) = 0 → mRuns (d + 1) 7 133 [some (.ref 114), none, none] [] h1 out) ∧
 (¬ (h1.1 114 16) = 0 → (∃ h3 : mHp, mRuns d 14 0 [some (.ref 114)] [] h1 (.inl (none, h3)) ∧
 mRuns (d + 1) 7 112 [some (.ref 114), none, none] [] h3 out))))))) :
  mRuns (d + 1) 7 112 [some (.ref 114), none, none] [] h out := mVc_from 10 H
set_option maxRecDepth 20000 in
theorem vc_M_table_133 {d : Nat} {h : mHp} {out : mOut}  (H : (∃ (x2 : Int32) (h1 : mHp), mRuns d 13 0 [some (.ref 114)] [] h (.inl (some (.int x2), h1)) ∧
 ((¬ x2 = 0 → (∃ h3 : mHp, mRuns d 27 0 [some (.ref 114), some (.ref 121), some (.ref 115), none] [] (mPI (mPI (mPI (mPI h1 114 1 (h1.1 114 21)) 114 2 ((mPI h1 114 1 (h1.1 114 21)).1 114 22)) 114 3 ((mPI (mPI h1 114 1 (h1.1 114 21)) 114 2 ((mPI h1 114 1 (h1.1 114 21)).1 114 22)).1 114 23)) 114 4 ((mPI (mPI (mPI h1 114 1 (h1.1 114 21)) 114 2 ((mPI h1 114 1 (h1.1 114 21)).1 114 22)) 114 3 ((mPI (mPI h1 114 1 (h1.1 114 21)) 114 2 ((mPI h1 114 1 (h1.1 114 21)).1 114 22)).1 114 23)).1 114 24)) (.inl (none, h3)) ∧
 (∃ h4 : mHp, mRuns d 27 0 [some (.ref 114), some (.ref 122), some (.ref 116), none] [] h3 (.inl (none, h4)) ∧
 (∃ h5 : mHp, mRuns d 27 0 [some (.ref 114), some (.ref 123), some (.ref 117), none] [] h4 (.inl (none, h5)) ∧
 (∃ h6 : mHp, mRuns d 27 0 [some (.ref 114), some (.ref 124), some (.ref 118), none] [] h5 (.inl (none, h6)) ∧
 (((nI 0) = 0 ∨ (nI 0) = 1) ∧ (((nI 0) = 0 ∨ (nI 0) = 1) ∧ out = .inl (some (.int (nI 0)), mPI (mPI (mPI (mPI h6 114 42 (nI 0)) 114 38 (nI 0)) 114 46 (-1)) 114 53 (nI 0))))))))) ∧
 (x2 = 0 → (vp_in (nI 0) 3 ∧ (vp_in (nI 0) 3 ∧ out = .inl (some (.int ((mPI h1 120 (nI 0).toNatClampNeg ((h1.1 120 ((nI 0).toNatClampNeg)) + (nI 1))).1 114 11)), mPI h1 120 (nI 0).toNatClampNeg ((h1.1 120 ((nI 0).toNatClampNeg)) + (nI 1))))))))) :
  mRuns (d + 1) 7 133 [some (.ref 114), none, none] [] h out := mVc_from 57 H
-- TasterTableModel.right(ZI)Z
set_option maxRecDepth 20000 in
theorem vc_M_right {d : Nat} {h : mHp} {out : mOut} {a1 : Int32} {a2 : Int32} (H : ((¬ (h.1 114 0) = 0 → ((¬ (h.1 114 0) = 0 → (((nI 0) = 0 ∨ (nI 0) = 1) ∧ out = .inl (some (.int (nI 0)), h))) ∧
 ((h.1 114 0) = 0 → (((nI 1) = 0 ∨ (nI 1) = 1) ∧ out = .inl (some (.int (nI 1)), h))))) ∧
 ((h.1 114 0) = 0 → ((¬ a1 = 0 → ((¬ (h.1 114 0) = 0 → (((nI 0) = 0 ∨ (nI 0) = 1) ∧ out = .inl (some (.int (nI 0)), h))) ∧
 ((h.1 114 0) = 0 → (((nI 1) = 0 ∨ (nI 1) = 1) ∧ out = .inl (some (.int (nI 1)), h))))) ∧
 (a1 = 0 → ((¬ ((mPI h 114 0 a2).1 114 0) = 0 → (((nI 0) = 0 ∨ (nI 0) = 1) ∧ out = .inl (some (.int (nI 0)), mPI h 114 0 a2))) ∧
 (((mPI h 114 0 a2).1 114 0) = 0 → (((nI 1) = 0 ∨ (nI 1) = 1) ∧ out = .inl (some (.int (nI 1)), mPI h 114 0 a2))))))))) :
  mRuns (d + 1) 8 0 [some (.ref 114), some (.int a1), some (.int a2)] [] h out := mVc_from 14 H
-- TasterTableModel.steps()V
set_option maxRecDepth 20000 in
theorem vc_M_steps {d : Nat} {h : mHp} {out : mOut}  (H : (((h.1 114 14) ≤ (h.1 114 15) → mRuns (d + 1) 9 50 [some (.ref 114), none] [] h out) ∧
 (¬ (h.1 114 14) ≤ (h.1 114 15) → (∃ (x2 : Int32) (h1 : mHp), mRuns d 10 0 [some (.ref 114), some (.int (h.1 114 15))] [] h (.inl (some (.int x2), h1)) ∧
 ((x2 = (nI 32) → mRuns (d + 1) 9 0 [some (.ref 114), none] [] (mPI h1 114 15 ((h1.1 114 15) + (nI 1))) out) ∧
 (¬ x2 = (nI 32) → (∃ (x4 : Int32) (h3 : mHp), mRuns d 10 0 [some (.ref 114), some (.int (h1.1 114 15))] [] h1 (.inl (some (.int x4), h3)) ∧
 ((¬ x4 = (nI 10) → mRuns (d + 1) 9 50 [some (.ref 114), none] [] h3 out) ∧
 (x4 = (nI 10) → mRuns (d + 1) 9 0 [some (.ref 114), none] [] (mPI h3 114 15 ((h3.1 114 15) + (nI 1))) out))))))))) :
  mRuns (d + 1) 9 0 [some (.ref 114), none] [] h out := mVc_from 25 H
set_option maxRecDepth 20000 in
theorem vc_M_steps_50 {d : Nat} {h : mHp} {out : mOut}  (H : (∃ (x2 : Int32) (h1 : mHp), mRuns d 10 0 [some (.ref 114), some (.int ((mPI (mPL (mPI h 114 17 (h.1 114 15)) 114 20 (lN 0)) 114 19 (nI 0)).1 114 15))] [] (mPI (mPL (mPI h 114 17 (h.1 114 15)) 114 20 (lN 0)) 114 19 (nI 0)) (.inl (some (.int x2), h1)) ∧
 (((h1.1 114 15) < (h1.1 114 14) → (∃ (x4 : Int32) (h3 : mHp), mRuns d 11 0 [some (.int x2)] [] h1 (.inl (some (.int x4), h3)) ∧
 ((x4 = 0 → (∃ (x6 : Int32) (h5 : mHp), mRuns d 12 0 [some (.int x2)] [] h3 (.inl (some (.int x6), h5)) ∧
 ((x6 = 0 → ((¬ x2 = (nI 59) → out = .inl (none, mPI (mPI (mPI h5 114 15 ((h5.1 114 15) + (nI 1))) 114 16 (nI 4)) 114 18 (((mPI (mPI h5 114 15 ((h5.1 114 15) + (nI 1))) 114 16 (nI 4)).1 114 15) - ((mPI (mPI h5 114 15 ((h5.1 114 15) + (nI 1))) 114 16 (nI 4)).1 114 17)))) ∧
 (x2 = (nI 59) → out = .inl (none, mPI (mPI (mPI h5 114 15 ((h5.1 114 15) + (nI 1))) 114 16 (nI 3)) 114 18 (((mPI (mPI h5 114 15 ((h5.1 114 15) + (nI 1))) 114 16 (nI 3)).1 114 15) - ((mPI (mPI h5 114 15 ((h5.1 114 15) + (nI 1))) 114 16 (nI 3)).1 114 17)))))) ∧
 (¬ x6 = 0 → mRuns (d + 1) 9 182 [some (.ref 114), none] [] h5 out)))) ∧
 (¬ x4 = 0 → mRuns (d + 1) 9 103 [some (.ref 114), none] [] h3 out)))) ∧
 (¬ (h1.1 114 15) < (h1.1 114 14) → out = .inl (none, mPI (mPI h1 114 16 (nI 0)) 114 18 (((mPI h1 114 16 (nI 0)).1 114 15) - ((mPI h1 114 16 (nI 0)).1 114 17))))))) :
  mRuns (d + 1) 9 50 [some (.ref 114), none] [] h out := mVc_from 47 H
set_option maxRecDepth 20000 in
theorem vc_M_steps_103 {d : Nat} {h : mHp} {out : mOut}  (H : (∃ (x2 : Int32) (h1 : mHp), mRuns d 10 0 [some (.ref 114), some (.int (h.1 114 15))] [] h (.inl (some (.int x2), h1)) ∧
 (∃ (x4 : Int32) (h3 : mHp), mRuns d 11 0 [some (.int x2)] [] h1 (.inl (some (.int x4), h3)) ∧
 ((x4 = 0 → out = .inl (none, mPI (mPI h3 114 16 (nI 1)) 114 18 (((mPI h3 114 16 (nI 1)).1 114 15) - ((mPI h3 114 16 (nI 1)).1 114 17)))) ∧
 (¬ x4 = 0 → (((nI 7) ≤ ((h3.1 114 15) - (h3.1 114 17)) → mRuns (d + 1) 9 103 [some (.ref 114), none] [] (mPI h3 114 15 ((h3.1 114 15) + (nI 1))) out) ∧
 (¬ (nI 7) ≤ ((h3.1 114 15) - (h3.1 114 17)) → (∃ (x6 : Int32) (h5 : mHp), mRuns d 10 0 [some (.ref 114), some (.int (h3.1 114 15))] [] h3 (.inl (some (.int x6), h5)) ∧
 mRuns (d + 1) 9 103 [some (.ref 114), none] [] (mPI (mPL h5 114 20 (((h3.2.1 114 20) <<< ((nI 5).toInt64 &&& 63)) ||| ((x6 - (nI 96)).toInt64))) 114 15 (((mPL h5 114 20 (((h3.2.1 114 20) <<< ((nI 5).toInt64 &&& 63)) ||| ((x6 - (nI 96)).toInt64))).1 114 15) + (nI 1))) out)))))))) :
  mRuns (d + 1) 9 103 [some (.ref 114), none] [] h out := mVc_from 35 H
set_option maxRecDepth 20000 in
theorem vc_M_steps_182 {d : Nat} {h : mHp} {out : mOut}  (H : (∃ (x2 : Int32) (h1 : mHp), mRuns d 10 0 [some (.ref 114), some (.int (h.1 114 15))] [] h (.inl (some (.int x2), h1)) ∧
 (∃ (x4 : Int32) (h3 : mHp), mRuns d 12 0 [some (.int x2)] [] h1 (.inl (some (.int x4), h3)) ∧
 ((x4 = 0 → out = .inl (none, mPI (mPI h3 114 16 (nI 2)) 114 18 (((mPI h3 114 16 (nI 2)).1 114 15) - ((mPI h3 114 16 (nI 2)).1 114 17)))) ∧
 (¬ x4 = 0 → (((nI 4) ≤ ((h3.1 114 15) - (h3.1 114 17)) → mRuns (d + 1) 9 182 [some (.ref 114), none] [] (mPI h3 114 15 ((h3.1 114 15) + (nI 1))) out) ∧
 (¬ (nI 4) ≤ ((h3.1 114 15) - (h3.1 114 17)) → (∃ (x6 : Int32) (h5 : mHp), mRuns d 10 0 [some (.ref 114), some (.int (h3.1 114 15))] [] h3 (.inl (some (.int x6), h5)) ∧
 mRuns (d + 1) 9 182 [some (.ref 114), none] [] (mPI (mPI h5 114 19 ((((nI 10) * (h3.1 114 19)) + x6) - (nI 48))) 114 15 (((mPI h5 114 19 ((((nI 10) * (h3.1 114 19)) + x6) - (nI 48))).1 114 15) + (nI 1))) out)))))))) :
  mRuns (d + 1) 9 182 [some (.ref 114), none] [] h out := mVc_from 34 H
-- TasterTableModel.byteAt(I)I
set_option maxRecDepth 20000 in
theorem vc_M_byteAt {d : Nat} {h : mHp} {out : mOut} {a1 : Int32} (H : (((h.1 114 14) ≤ a1 → out = .inl (some (.int (nI 0)), h)) ∧
 (¬ (h.1 114 14) ≤ a1 → (vp_in a1 700 ∧ out = .inl (some (.int (h.1 119 (a1.toNatClampNeg))), h))))) :
  mRuns (d + 1) 10 0 [some (.ref 114), some (.int a1)] [] h out := mVc_from 10 H
-- TasterTableModel.isLetter(I)Z
set_option maxRecDepth 20000 in
theorem vc_M_isLetter {d : Nat} {h : mHp} {out : mOut} {a1 : Int32} (H : ((a1 < (nI 97) → (((nI 0) = 0 ∨ (nI 0) = 1) ∧ out = .inl (some (.int (nI 0)), h))) ∧
 (¬ a1 < (nI 97) → (((nI 122) < a1 → (((nI 0) = 0 ∨ (nI 0) = 1) ∧ out = .inl (some (.int (nI 0)), h))) ∧
 (¬ (nI 122) < a1 → (((nI 1) = 0 ∨ (nI 1) = 1) ∧ out = .inl (some (.int (nI 1)), h))))))) :
  mRuns (d + 1) 11 0 [some (.int a1)] [] h out := mVc_from 9 H
-- TasterTableModel.isDigit(I)Z
set_option maxRecDepth 20000 in
theorem vc_M_isDigit {d : Nat} {h : mHp} {out : mOut} {a1 : Int32} (H : ((a1 < (nI 48) → (((nI 0) = 0 ∨ (nI 0) = 1) ∧ out = .inl (some (.int (nI 0)), h))) ∧
 (¬ a1 < (nI 48) → (((nI 57) < a1 → (((nI 0) = 0 ∨ (nI 0) = 1) ∧ out = .inl (some (.int (nI 0)), h))) ∧
 (¬ (nI 57) < a1 → (((nI 1) = 0 ∨ (nI 1) = 1) ∧ out = .inl (some (.int (nI 1)), h))))))) :
  mRuns (d + 1) 12 0 [some (.int a1)] [] h out := mVc_from 9 H
-- TasterTableModel.isGood()Z
set_option maxRecDepth 20000 in
theorem vc_M_isGood {d : Nat} {h : mHp} {out : mOut}  (H : ((¬ (h.1 114 11) = 0 → (((nI 0) = 0 ∨ (nI 0) = 1) ∧ out = .inl (some (.int (nI 0)), h))) ∧
 ((h.1 114 11) = 0 → (((nI 1) = 0 ∨ (nI 1) = 1) ∧ out = .inl (some (.int (nI 1)), h))))) :
  mRuns (d + 1) 13 0 [some (.ref 114)] [] h out := mVc_from 6 H
-- TasterTableModel.line()V
set_option maxRecDepth 20000 in
theorem vc_M_line {d : Nat} {h : mHp} {out : mOut}  (H : (∃ (x2 : Int32) (h1 : mHp), mRuns d 15 0 [some (.ref 114), some (.int (nI 0))] [] h (.inl (some (.int x2), h1)) ∧
 ((x2 = 0 → (∃ (x4 : Int32) (h3 : mHp), mRuns d 15 0 [some (.ref 114), some (.int (nI 1))] [] h1 (.inl (some (.int x4), h3)) ∧
 ((x4 = 0 → (∃ (x6 : Int32) (h5 : mHp), mRuns d 15 0 [some (.ref 114), some (.int (nI 2))] [] h3 (.inl (some (.int x6), h5)) ∧
 ((x6 = 0 → (∃ (x8 : Int32) (h7 : mHp), mRuns d 15 0 [some (.ref 114), some (.int (nI 3))] [] h5 (.inl (some (.int x8), h7)) ∧
 ((x8 = 0 → (∃ (x10 : Int32) (h9 : mHp), mRuns d 15 0 [some (.ref 114), some (.int (nI 4))] [] h7 (.inl (some (.int x10), h9)) ∧
 ((x10 = 0 → (∃ h11 : mHp, mRuns d 19 0 [some (.ref 114), some (.int (nI 1))] [] h9 (.inl (none, h11)) ∧
 mRuns (d + 1) 14 117 [some (.ref 114)] [] h11 out)) ∧
 (¬ x10 = 0 → (((h9.1 114 26) = 0 → mRuns (d + 1) 14 80 [some (.ref 114)] [] h9 out) ∧
 (¬ (h9.1 114 26) = 0 → (∃ h12 : mHp, mRuns d 19 0 [some (.ref 114), some (.int (nI 5))] [] h9 (.inl (none, h12)) ∧
 mRuns (d + 1) 14 80 [some (.ref 114)] [] h12 out))))))) ∧
 (¬ x8 = 0 → (∃ h13 : mHp, mRuns d 24 0 [some (.ref 114), none, none, none] [] h7 (.inl (none, h13)) ∧
 mRuns (d + 1) 14 117 [some (.ref 114)] [] h13 out))))) ∧
 (¬ x6 = 0 → (∃ h14 : mHp, mRuns d 23 0 [some (.ref 114), none, none] [] h5 (.inl (none, h14)) ∧
 mRuns (d + 1) 14 117 [some (.ref 114)] [] h14 out))))) ∧
 (¬ x4 = 0 → (∃ h15 : mHp, mRuns d 22 0 [some (.ref 114), none] [] h3 (.inl (none, h15)) ∧
 mRuns (d + 1) 14 117 [some (.ref 114)] [] h15 out))))) ∧
 (¬ x2 = 0 → (∃ h16 : mHp, mRuns d 18 0 [some (.ref 114), none] [] h1 (.inl (none, h16)) ∧
 mRuns (d + 1) 14 117 [some (.ref 114)] [] h16 out))))) :
  mRuns (d + 1) 14 0 [some (.ref 114)] [] h out := mVc_from 27 H
set_option maxRecDepth 20000 in
theorem vc_M_line_80 {d : Nat} {h : mHp} {out : mOut}  (H : (∃ (x2 : Int32) (h1 : mHp), mRuns d 13 0 [some (.ref 114)] [] h (.inl (some (.int x2), h1)) ∧
 ((¬ x2 = 0 → (((nI 1) = 0 ∨ (nI 1) = 1) ∧ (∃ h3 : mHp, mRuns d 9 0 [some (.ref 114), none] [] (mPI h1 114 26 (nI 1)) (.inl (none, h3)) ∧
 (∃ (x5 : Int32) (h4 : mHp), mRuns d 20 0 [some (.ref 114), some (.int (nI 0)), some (.int (nI 9999)), none] [] h3 (.inl (some (.int x5), h4)) ∧
 mRuns (d + 1) 14 117 [some (.ref 114)] [] (mPI h4 114 24 x5) out)))) ∧
 (x2 = 0 → out = .inl (none, h1))))) :
  mRuns (d + 1) 14 80 [some (.ref 114)] [] h out := mVc_from 16 H
set_option maxRecDepth 20000 in
theorem vc_M_line_117 {d : Nat} {h : mHp} {out : mOut}  (H : ((¬ (h.1 114 16) = (nI 3) → (∃ h1 : mHp, mRuns d 26 0 [some (.ref 114), some (.int (nI 0))] [] h (.inl (none, h1)) ∧
 out = .inl (none, h1))) ∧
 ((h.1 114 16) = (nI 3) → (∃ h2 : mHp, mRuns d 26 0 [some (.ref 114), some (.int (nI 1))] [] h (.inl (none, h2)) ∧
 out = .inl (none, h2))))) :
  mRuns (d + 1) 14 117 [some (.ref 114)] [] h out := mVc_from 9 H
-- TasterTableModel.is(I)Z
set_option maxRecDepth 20000 in
theorem vc_M_is {d : Nat} {h : mHp} {out : mOut} {a1 : Int32} (H : ((¬ (h.1 114 16) = (nI 1) → (((nI 0) = 0 ∨ (nI 0) = 1) ∧ out = .inl (some (.int (nI 0)), h))) ∧
 ((h.1 114 16) = (nI 1) → (((nI 8) ≤ (h.1 114 18) → (((nI 0) = 0 ∨ (nI 0) = 1) ∧ out = .inl (some (.int (nI 0)), h))) ∧
 (¬ (nI 8) ≤ (h.1 114 18) → (∃ (j2 : Int64) (h1 : mHp), mRuns d 16 0 [some (.int a1)] [] h (.inl (some (.long j2), h1)) ∧
 ((¬ (lg_cmp (h.2.1 114 20) j2) = 0 → (((nI 0) = 0 ∨ (nI 0) = 1) ∧ out = .inl (some (.int (nI 0)), h1))) ∧
 ((lg_cmp (h.2.1 114 20) j2) = 0 → (((nI 1) = 0 ∨ (nI 1) = 1) ∧ out = .inl (some (.int (nI 1)), h1)))))))))) :
  mRuns (d + 1) 15 0 [some (.ref 114), some (.int a1)] [] h out := mVc_from 17 H
-- TasterTableModel.letters(I)J
set_option maxRecDepth 20000 in
theorem vc_M_letters {d : Nat} {h : mHp} {out : mOut} {a1 : Int32} (H : ((a1 < nI 0 ∨ nI 12 < a1 → (∃ (j2 : Int64) (h1 : mHp), mRuns d 17 0 [some (.int (nI 108)), some (.int (nI 105)), some (.int (nI 97)), some (.int (nI 114)), some (.int (nI 0)), some (.int (nI 0)), some (.int (nI 0)), none, none] [] h (.inl (some (.long j2), h1)) ∧
 out = .inl (some (.long j2), h1))) ∧
 (a1 = nI 0 → (∃ (j4 : Int64) (h3 : mHp), mRuns d 17 0 [some (.int (nI 100)), some (.int (nI 105)), some (.int (nI 115)), some (.int (nI 104)), some (.int (nI 0)), some (.int (nI 0)), some (.int (nI 0)), none, none] [] h (.inl (some (.long j4), h3)) ∧
 out = .inl (some (.long j4), h3))) ∧
 (a1 = nI 1 → (∃ (j6 : Int64) (h5 : mHp), mRuns d 17 0 [some (.int (nI 112)), some (.int (nI 111)), some (.int (nI 105)), some (.int (nI 115)), some (.int (nI 111)), some (.int (nI 110)), some (.int (nI 0)), none, none] [] h (.inl (some (.long j6), h5)) ∧
 out = .inl (some (.long j6), h5))) ∧
 (a1 = nI 2 → (∃ (j8 : Int64) (h7 : mHp), mRuns d 17 0 [some (.int (nI 116)), some (.int (nI 97)), some (.int (nI 115)), some (.int (nI 116)), some (.int (nI 101)), some (.int (nI 114)), some (.int (nI 0)), none, none] [] h (.inl (some (.long j8), h7)) ∧
 out = .inl (some (.long j8), h7))) ∧
 (a1 = nI 3 → (∃ (j10 : Int64) (h9 : mHp), mRuns d 17 0 [some (.int (nI 104)), some (.int (nI 97)), some (.int (nI 100)), some (.int (nI 0)), some (.int (nI 0)), some (.int (nI 0)), some (.int (nI 0)), none, none] [] h (.inl (some (.long j10), h9)) ∧
 out = .inl (some (.long j10), h9))) ∧
 (a1 = nI 4 → (∃ (j12 : Int64) (h11 : mHp), mRuns d 17 0 [some (.int (nI 99)), some (.int (nI 108)), some (.int (nI 101)), some (.int (nI 97)), some (.int (nI 110)), some (.int (nI 0)), some (.int (nI 0)), none, none] [] h (.inl (some (.long j12), h11)) ∧
 out = .inl (some (.long j12), h11))) ∧
 (a1 = nI 5 → (∃ (j14 : Int64) (h13 : mHp), mRuns d 17 0 [some (.int (nI 119)), some (.int (nI 101)), some (.int (nI 105)), some (.int (nI 103)), some (.int (nI 104)), some (.int (nI 116)), some (.int (nI 0)), none, none] [] h (.inl (some (.long j14), h13)) ∧
 out = .inl (some (.long j14), h13))) ∧
 (a1 = nI 6 → (∃ (j16 : Int64) (h15 : mHp), mRuns d 17 0 [some (.int (nI 119)), some (.int (nI 105)), some (.int (nI 110)), some (.int (nI 101)), some (.int (nI 0)), some (.int (nI 0)), some (.int (nI 0)), none, none] [] h (.inl (some (.long j16), h15)) ∧
 out = .inl (some (.long j16), h15))) ∧
 (a1 = nI 7 → (∃ (j18 : Int64) (h17 : mHp), mRuns d 17 0 [some (.int (nI 104)), some (.int (nI 97)), some (.int (nI 114)), some (.int (nI 100)), some (.int (nI 101)), some (.int (nI 110)), some (.int (nI 115)), none, none] [] h (.inl (some (.long j18), h17)) ∧
 out = .inl (some (.long j18), h17))) ∧
 (a1 = nI 8 → (∃ (j20 : Int64) (h19 : mHp), mRuns d 17 0 [some (.int (nI 99)), some (.int (nI 97)), some (.int (nI 112)), some (.int (nI 0)), some (.int (nI 0)), some (.int (nI 0)), some (.int (nI 0)), none, none] [] h (.inl (some (.long j20), h19)) ∧
 out = .inl (some (.long j20), h19))) ∧
 (a1 = nI 9 → (∃ (j22 : Int64) (h21 : mHp), mRuns d 17 0 [some (.int (nI 112)), some (.int (nI 108)), some (.int (nI 97)), some (.int (nI 105)), some (.int (nI 110)), some (.int (nI 0)), some (.int (nI 0)), none, none] [] h (.inl (some (.long j22), h21)) ∧
 out = .inl (some (.long j22), h21))) ∧
 (a1 = nI 10 → (∃ (j24 : Int64) (h23 : mHp), mRuns d 17 0 [some (.int (nI 115)), some (.int (nI 108)), some (.int (nI 111)), some (.int (nI 119)), some (.int (nI 0)), some (.int (nI 0)), some (.int (nI 0)), none, none] [] h (.inl (some (.long j24), h23)) ∧
 out = .inl (some (.long j24), h23))) ∧
 (a1 = nI 11 → (∃ (j26 : Int64) (h25 : mHp), mRuns d 17 0 [some (.int (nI 100)), some (.int (nI 114)), some (.int (nI 117)), some (.int (nI 110)), some (.int (nI 107)), some (.int (nI 0)), some (.int (nI 0)), none, none] [] h (.inl (some (.long j26), h25)) ∧
 out = .inl (some (.long j26), h25))) ∧
 (a1 = nI 12 → (∃ (j28 : Int64) (h27 : mHp), mRuns d 17 0 [some (.int (nI 100)), some (.int (nI 111)), some (.int (nI 103)), some (.int (nI 0)), some (.int (nI 0)), some (.int (nI 0)), some (.int (nI 0)), none, none] [] h (.inl (some (.long j28), h27)) ∧
 out = .inl (some (.long j28), h27))) ∧
 True)) :
  mRuns (d + 1) 16 0 [some (.int a1)] [] h out := mVc_from 11 H
-- TasterTableModel.spelled(IIIIIII)J
set_option maxRecDepth 20000 in
theorem vc_M_spelled {d : Nat} {h : mHp} {out : mOut} {a1 : Int32} {a2 : Int32} {a3 : Int32} {a4 : Int32} {a5 : Int32} {a6 : Int32} {a7 : Int32} (H : ((a4 = 0 → mRuns (d + 1) 17 42 [none, none, none, none, some (.int a5), some (.int a6), some (.int a7), some (.long ((((a1.toInt64 - (lN 96)) <<< ((nI 10).toInt64 &&& 63)) ||| ((a2.toInt64 - (lN 96)) <<< ((nI 5).toInt64 &&& 63))) ||| ((a3 - (nI 96)).toInt64))), none] [] h out) ∧
 (¬ a4 = 0 → mRuns (d + 1) 17 42 [none, none, none, none, some (.int a5), some (.int a6), some (.int a7), some (.long ((((((a1.toInt64 - (lN 96)) <<< ((nI 10).toInt64 &&& 63)) ||| ((a2.toInt64 - (lN 96)) <<< ((nI 5).toInt64 &&& 63))) ||| ((a3 - (nI 96)).toInt64)) <<< ((nI 5).toInt64 &&& 63)) ||| ((a4 - (nI 96)).toInt64))), none] [] h out))) :
  mRuns (d + 1) 17 0 [some (.int a1), some (.int a2), some (.int a3), some (.int a4), some (.int a5), some (.int a6), some (.int a7), none, none] [] h out := mVc_from 31 H
set_option maxRecDepth 20000 in
theorem vc_M_spelled_42 {d : Nat} {h : mHp} {out : mOut} {v4 : Int32} {v5 : Int32} {v6 : Int32} {v7 : Int64} (H : ((v4 = 0 → mRuns (d + 1) 17 60 [none, none, none, none, none, some (.int v5), some (.int v6), some (.long v7), none] [] h out) ∧
 (¬ v4 = 0 → mRuns (d + 1) 17 60 [none, none, none, none, none, some (.int v5), some (.int v6), some (.long ((v7 <<< ((nI 5).toInt64 &&& 63)) ||| ((v4 - (nI 96)).toInt64))), none] [] h out))) :
  mRuns (d + 1) 17 42 [none, none, none, none, some (.int v4), some (.int v5), some (.int v6), some (.long v7), none] [] h out := mVc_from 12 H
set_option maxRecDepth 20000 in
theorem vc_M_spelled_60 {d : Nat} {h : mHp} {out : mOut} {v5 : Int32} {v6 : Int32} {v7 : Int64} (H : ((v5 = 0 → mRuns (d + 1) 17 78 [none, none, none, none, none, none, some (.int v6), some (.long v7), none] [] h out) ∧
 (¬ v5 = 0 → mRuns (d + 1) 17 78 [none, none, none, none, none, none, some (.int v6), some (.long ((v7 <<< ((nI 5).toInt64 &&& 63)) ||| ((v5 - (nI 96)).toInt64))), none] [] h out))) :
  mRuns (d + 1) 17 60 [none, none, none, none, none, some (.int v5), some (.int v6), some (.long v7), none] [] h out := mVc_from 12 H
set_option maxRecDepth 20000 in
theorem vc_M_spelled_78 {d : Nat} {h : mHp} {out : mOut} {v6 : Int32} {v7 : Int64} (H : ((v6 = 0 → out = .inl (some (.long v7), h)) ∧
 (¬ v6 = 0 → out = .inl (some (.long ((v7 <<< ((nI 5).toInt64 &&& 63)) ||| ((v6 - (nI 96)).toInt64))), h)))) :
  mRuns (d + 1) 17 78 [none, none, none, none, none, none, some (.int v6), some (.long v7), none] [] h out := mVc_from 13 H
-- TasterTableModel.readsDish()V
set_option maxRecDepth 20000 in
theorem vc_M_readsDish {d : Nat} {h : mHp} {out : mOut}  (H : ((¬ (h.1 114 21) = (nI 6) → mRuns (d + 1) 18 14 [some (.ref 114), none] [] h out) ∧
 ((h.1 114 21) = (nI 6) → (∃ h1 : mHp, mRuns d 19 0 [some (.ref 114), some (.int (nI 2))] [] h (.inl (none, h1)) ∧
 mRuns (d + 1) 18 14 [some (.ref 114), none] [] h1 out)))) :
  mRuns (d + 1) 18 0 [some (.ref 114), none] [] h out := mVc_from 8 H
set_option maxRecDepth 20000 in
theorem vc_M_readsDish_14 {d : Nat} {h : mHp} {out : mOut}  (H : (∃ (x2 : Int32) (h1 : mHp), mRuns d 13 0 [some (.ref 114)] [] h (.inl (some (.int x2), h1)) ∧
 ((¬ x2 = 0 → (∃ h3 : mHp, mRuns d 9 0 [some (.ref 114), none] [] h1 (.inl (none, h3)) ∧
 (∃ (x5 : Int32) (h4 : mHp), mRuns d 20 0 [some (.ref 114), some (.int (nI 0)), some (.int (nI 95)), none] [] h3 (.inl (some (.int x5), h4)) ∧
 (vp_in ((nI 3) * (h3.1 114 21)) 18 ∧ (vp_in ((nI 3) * (h3.1 114 21)) 18 ∧ (∃ (x7 : Int32) (h6 : mHp), mRuns d 20 0 [some (.ref 114), some (.int (((mPI h4 121 ((nI 3) * (h3.1 114 21)).toNatClampNeg x5).1 121 (((nI 3) * (h3.1 114 21)).toNatClampNeg)) + (nI 1))), some (.int (nI 95)), none] [] (mPI h4 121 ((nI 3) * (h3.1 114 21)).toNatClampNeg x5) (.inl (some (.int x7), h6)) ∧
 (vp_in (((nI 3) * (h3.1 114 21)) + (nI 1)) 18 ∧ (∃ (x9 : Int32) (h8 : mHp), mRuns d 21 0 [some (.ref 114), some (.int (nI 5)), some (.int (nI 99)), some (.int (nI 1))] [] (mPI h6 121 (((nI 3) * (h3.1 114 21)) + (nI 1)).toNatClampNeg x7) (.inl (some (.int x9), h8)) ∧
 (vp_in (((nI 3) * (h3.1 114 21)) + (nI 2)) 18 ∧ (∃ (x11 : Int32) (h10 : mHp), mRuns d 13 0 [some (.ref 114)] [] (mPI h8 121 (((nI 3) * (h3.1 114 21)) + (nI 2)).toNatClampNeg x9) (.inl (some (.int x11), h10)) ∧
 ((x11 = 0 → out = .inl (none, h10)) ∧
 (¬ x11 = 0 → out = .inl (none, mPI h10 114 21 ((h10.1 114 21) + (nI 1))))))))))))))) ∧
 (x2 = 0 → out = .inl (none, h1))))) :
  mRuns (d + 1) 18 14 [some (.ref 114), none] [] h out := mVc_from 54 H
-- TasterTableModel.wrong(I)V
set_option maxRecDepth 20000 in
theorem vc_M_wrong {d : Nat} {h : mHp} {out : mOut} {a1 : Int32} (H : (((h.1 114 11) = 0 → out = .inl (none, mPI (mPI h 114 11 a1) 114 12 ((mPI h 114 11 a1).1 114 17))) ∧
 (¬ (h.1 114 11) = 0 → out = .inl (none, h)))) :
  mRuns (d + 1) 19 0 [some (.ref 114), some (.int a1)] [] h out := mVc_from 11 H
-- TasterTableModel.number(II)I
set_option maxRecDepth 20000 in
theorem vc_M_number {d : Nat} {h : mHp} {out : mOut} {a1 : Int32} {a2 : Int32} (H : (∃ (x2 : Int32) (h1 : mHp), mRuns d 13 0 [some (.ref 114)] [] h (.inl (some (.int x2), h1)) ∧
 ((¬ x2 = 0 → (((h1.1 114 16) = (nI 2) → (((nI 4) < (h1.1 114 18) → (∃ h3 : mHp, mRuns d 19 0 [some (.ref 114), some (.int (nI 2))] [] h1 (.inl (none, h3)) ∧
 mRuns (d + 1) 20 54 [some (.ref 114), none, none, none] [] h3 out)) ∧
 (¬ (nI 4) < (h1.1 114 18) → (((h1.1 114 19) < a1 → (∃ h4 : mHp, mRuns d 19 0 [some (.ref 114), some (.int (nI 2))] [] h1 (.inl (none, h4)) ∧
 mRuns (d + 1) 20 54 [some (.ref 114), none, none, none] [] h4 out)) ∧
 (¬ (h1.1 114 19) < a1 → (((h1.1 114 19) ≤ a2 → mRuns (d + 1) 20 54 [some (.ref 114), none, none, none] [] h1 out) ∧
 (¬ (h1.1 114 19) ≤ a2 → (∃ h5 : mHp, mRuns d 19 0 [some (.ref 114), some (.int (nI 2))] [] h1 (.inl (none, h5)) ∧
 mRuns (d + 1) 20 54 [some (.ref 114), none, none, none] [] h5 out)))))))) ∧
 (¬ (h1.1 114 16) = (nI 2) → (∃ h6 : mHp, mRuns d 19 0 [some (.ref 114), some (.int (nI 1))] [] h1 (.inl (none, h6)) ∧
 mRuns (d + 1) 20 54 [some (.ref 114), none, none, none] [] h6 out)))) ∧
 (x2 = 0 → out = .inl (some (.int (nI 0)), h1))))) :
  mRuns (d + 1) 20 0 [some (.ref 114), some (.int a1), some (.int a2), none] [] h out := mVc_from 23 H
set_option maxRecDepth 20000 in
theorem vc_M_number_54 {d : Nat} {h : mHp} {out : mOut}  (H : (∃ (x2 : Int32) (h1 : mHp), mRuns d 13 0 [some (.ref 114)] [] h (.inl (some (.int x2), h1)) ∧
 ((x2 = 0 → out = .inl (some (.int (h.1 114 19)), h1)) ∧
 (¬ x2 = 0 → (∃ h3 : mHp, mRuns d 9 0 [some (.ref 114), none] [] h1 (.inl (none, h3)) ∧
 out = .inl (some (.int (h.1 114 19)), h3)))))) :
  mRuns (d + 1) 20 54 [some (.ref 114), none, none, none] [] h out := mVc_from 10 H
-- TasterTableModel.perhaps(III)I
set_option maxRecDepth 20000 in
theorem vc_M_perhaps {d : Nat} {h : mHp} {out : mOut} {a1 : Int32} {a2 : Int32} {a3 : Int32} (H : (∃ (x2 : Int32) (h1 : mHp), mRuns d 13 0 [some (.ref 114)] [] h (.inl (some (.int x2), h1)) ∧
 ((x2 = 0 → out = .inl (some (.int a3), h1)) ∧
 (¬ x2 = 0 → (∃ (x4 : Int32) (h3 : mHp), mRuns d 15 0 [some (.ref 114), some (.int a1)] [] h1 (.inl (some (.int x4), h3)) ∧
 ((¬ x4 = 0 → (∃ h5 : mHp, mRuns d 9 0 [some (.ref 114), none] [] h3 (.inl (none, h5)) ∧
 (∃ (x7 : Int32) (h6 : mHp), mRuns d 20 0 [some (.ref 114), some (.int (nI 0)), some (.int a2), none] [] h5 (.inl (some (.int x7), h6)) ∧
 out = .inl (some (.int x7), h6)))) ∧
 (x4 = 0 → out = .inl (some (.int a3), h3)))))))) :
  mRuns (d + 1) 21 0 [some (.ref 114), some (.int a1), some (.int a2), some (.int a3)] [] h out := mVc_from 14 H
-- TasterTableModel.readsPoison()V
set_option maxRecDepth 20000 in
theorem vc_M_readsPoison {d : Nat} {h : mHp} {out : mOut}  (H : ((¬ (h.1 114 22) = (nI 5) → mRuns (d + 1) 22 13 [some (.ref 114), none] [] h out) ∧
 ((h.1 114 22) = (nI 5) → (∃ h1 : mHp, mRuns d 19 0 [some (.ref 114), some (.int (nI 2))] [] h (.inl (none, h1)) ∧
 mRuns (d + 1) 22 13 [some (.ref 114), none] [] h1 out)))) :
  mRuns (d + 1) 22 0 [some (.ref 114), none] [] h out := mVc_from 8 H
set_option maxRecDepth 20000 in
theorem vc_M_readsPoison_13 {d : Nat} {h : mHp} {out : mOut}  (H : (∃ (x2 : Int32) (h1 : mHp), mRuns d 13 0 [some (.ref 114)] [] h (.inl (some (.int x2), h1)) ∧
 ((¬ x2 = 0 → (∃ h3 : mHp, mRuns d 9 0 [some (.ref 114), none] [] h1 (.inl (none, h3)) ∧
 (∃ (x5 : Int32) (h4 : mHp), mRuns d 20 0 [some (.ref 114), some (.int (nI 1)), some (.int (nI 40)), none] [] h3 (.inl (some (.int x5), h4)) ∧
 (vp_in ((nI 4) * (h3.1 114 22)) 20 ∧ (∃ (x7 : Int32) (h6 : mHp), mRuns d 13 0 [some (.ref 114)] [] (mPI h4 122 ((nI 4) * (h3.1 114 22)).toNatClampNeg x5) (.inl (some (.int x7), h6)) ∧
 ((x7 = 0 → mRuns (d + 1) 22 73 [some (.ref 114), some (.int ((nI 4) * (h3.1 114 22)))] [.int (nI 0), .int (((nI 4) * (h3.1 114 22)) + (nI 1)), .ref 122] h6 out) ∧
 (¬ x7 = 0 → (∃ (x9 : Int32) (h8 : mHp), mRuns d 15 0 [some (.ref 114), some (.int (nI 6))] [] h6 (.inl (some (.int x9), h8)) ∧
 ((x9 = 0 → mRuns (d + 1) 22 73 [some (.ref 114), some (.int ((nI 4) * (h3.1 114 22)))] [.int (nI 0), .int (((nI 4) * (h3.1 114 22)) + (nI 1)), .ref 122] h8 out) ∧
 (¬ x9 = 0 → mRuns (d + 1) 22 73 [some (.ref 114), some (.int ((nI 4) * (h3.1 114 22)))] [.int (nI 1), .int (((nI 4) * (h3.1 114 22)) + (nI 1)), .ref 122] h8 out)))))))))) ∧
 (x2 = 0 → out = .inl (none, h1))))) :
  mRuns (d + 1) 22 13 [some (.ref 114), none] [] h out := mVc_from 33 H
set_option maxRecDepth 20000 in
theorem vc_M_readsPoison_73 {d : Nat} {h : mHp} {out : mOut} {s0 : Int32} {s1 : Int32} {v1 : Int32} (H : (vp_in s1 20 ∧ (vp_in (v1 + (nI 1)) 20 ∧ ((¬ ((mPI h 122 s1.toNatClampNeg s0).1 122 ((v1 + (nI 1)).toNatClampNeg)) = (nI 1) → mRuns (d + 1) 22 90 [some (.ref 114), some (.int v1)] [] (mPI h 122 s1.toNatClampNeg s0) out) ∧
 (((mPI h 122 s1.toNatClampNeg s0).1 122 ((v1 + (nI 1)).toNatClampNeg)) = (nI 1) → (∃ h1 : mHp, mRuns d 9 0 [some (.ref 114), none] [] (mPI h 122 s1.toNatClampNeg s0) (.inl (none, h1)) ∧
 mRuns (d + 1) 22 90 [some (.ref 114), some (.int v1)] [] h1 out)))))) :
  mRuns (d + 1) 22 73 [some (.ref 114), some (.int v1)] [.int s0, .int s1, .ref 122] h out := mVc_from 12 H
set_option maxRecDepth 20000 in
theorem vc_M_readsPoison_90 {d : Nat} {h : mHp} {out : mOut} {v1 : Int32} (H : (∃ (x2 : Int32) (h1 : mHp), mRuns d 21 0 [some (.ref 114), some (.int (nI 7)), some (.int (nI 9)), some (.int (nI 0))] [] h (.inl (some (.int x2), h1)) ∧
 (vp_in (v1 + (nI 2)) 20 ∧ (∃ (x4 : Int32) (h3 : mHp), mRuns d 21 0 [some (.ref 114), some (.int (nI 5)), some (.int (nI 99)), some (.int (nI 1))] [] (mPI h1 122 (v1 + (nI 2)).toNatClampNeg x2) (.inl (some (.int x4), h3)) ∧
 (vp_in (v1 + (nI 3)) 20 ∧ (∃ (x6 : Int32) (h5 : mHp), mRuns d 13 0 [some (.ref 114)] [] (mPI h3 122 (v1 + (nI 3)).toNatClampNeg x4) (.inl (some (.int x6), h5)) ∧
 ((x6 = 0 → out = .inl (none, h5)) ∧
 (¬ x6 = 0 → out = .inl (none, mPI h5 114 22 ((h5.1 114 22) + (nI 1))))))))))) :
  mRuns (d + 1) 22 90 [some (.ref 114), some (.int v1)] [] h out := mVc_from 32 H
-- TasterTableModel.readsTaster()V
set_option maxRecDepth 20000 in
theorem vc_M_readsTaster {d : Nat} {h : mHp} {out : mOut}  (H : ((¬ (h.1 114 23) = (nI 5) → mRuns (d + 1) 23 13 [some (.ref 114), none, none] [] h out) ∧
 ((h.1 114 23) = (nI 5) → (∃ h1 : mHp, mRuns d 19 0 [some (.ref 114), some (.int (nI 2))] [] h (.inl (none, h1)) ∧
 mRuns (d + 1) 23 13 [some (.ref 114), none, none] [] h1 out)))) :
  mRuns (d + 1) 23 0 [some (.ref 114), none, none] [] h out := mVc_from 8 H
set_option maxRecDepth 20000 in
theorem vc_M_readsTaster_13 {d : Nat} {h : mHp} {out : mOut}  (H : (∃ (x2 : Int32) (h1 : mHp), mRuns d 13 0 [some (.ref 114)] [] h (.inl (some (.int x2), h1)) ∧
 ((¬ x2 = 0 → (∃ h3 : mHp, mRuns d 9 0 [some (.ref 114), none] [] h1 (.inl (none, h3)) ∧
 mRuns (d + 1) 23 29 [some (.ref 114), some (.int (-1)), some (.int (nI 0))] [] h3 out)) ∧
 (x2 = 0 → out = .inl (none, h1))))) :
  mRuns (d + 1) 23 13 [some (.ref 114), none, none] [] h out := mVc_from 10 H
set_option maxRecDepth 20000 in
theorem vc_M_readsTaster_29 {d : Nat} {h : mHp} {out : mOut} {v1 : Int32} {v2 : Int32} (H : (((nI 4) < v2 → ((¬ v1 = (-1) → mRuns (d + 1) 23 63 [some (.ref 114), some (.int v1), none] [] h out) ∧
 (v1 = (-1) → (∃ h1 : mHp, mRuns d 19 0 [some (.ref 114), some (.int (nI 1))] [] h (.inl (none, h1)) ∧
 mRuns (d + 1) 23 63 [some (.ref 114), some (.int v1), none] [] h1 out)))) ∧
 (¬ (nI 4) < v2 → (∃ (x3 : Int32) (h2 : mHp), mRuns d 15 0 [some (.ref 114), some (.int ((nI 9) + v2))] [] h (.inl (some (.int x3), h2)) ∧
 ((x3 = 0 → mRuns (d + 1) 23 29 [some (.ref 114), some (.int v1), some (.int (v2 + nI 1))] [] h2 out) ∧
 (¬ x3 = 0 → mRuns (d + 1) 23 29 [some (.ref 114), some (.int v2), some (.int (v2 + nI 1))] [] h2 out)))))) :
  mRuns (d + 1) 23 29 [some (.ref 114), some (.int v1), some (.int v2)] [] h out := mVc_from 14 H
set_option maxRecDepth 20000 in
theorem vc_M_readsTaster_63 {d : Nat} {h : mHp} {out : mOut} {v1 : Int32} (H : (∃ (x2 : Int32) (h1 : mHp), mRuns d 13 0 [some (.ref 114)] [] h (.inl (some (.int x2), h1)) ∧
 ((¬ x2 = 0 → (∃ h3 : mHp, mRuns d 9 0 [some (.ref 114), none] [] h1 (.inl (none, h3)) ∧
 (vp_in ((nI 2) * (h3.1 114 23)) 10 ∧ (∃ (x5 : Int32) (h4 : mHp), mRuns d 21 0 [some (.ref 114), some (.int (nI 8)), some (.int (nI 6)), some (.int (nI 6))] [] (mPI h3 123 ((nI 2) * (h3.1 114 23)).toNatClampNeg v1) (.inl (some (.int x5), h4)) ∧
 (vp_in (((nI 2) * ((mPI h3 123 ((nI 2) * (h3.1 114 23)).toNatClampNeg v1).1 114 23)) + (nI 1)) 10 ∧ (∃ (x7 : Int32) (h6 : mHp), mRuns d 13 0 [some (.ref 114)] [] (mPI h4 123 (((nI 2) * ((mPI h3 123 ((nI 2) * (h3.1 114 23)).toNatClampNeg v1).1 114 23)) + (nI 1)).toNatClampNeg x5) (.inl (some (.int x7), h6)) ∧
 ((x7 = 0 → out = .inl (none, h6)) ∧
 (¬ x7 = 0 → out = .inl (none, mPI h6 114 23 ((h6.1 114 23) + (nI 1))))))))))) ∧
 (x2 = 0 → out = .inl (none, h1))))) :
  mRuns (d + 1) 23 63 [some (.ref 114), some (.int v1), none] [] h out := mVc_from 37 H
-- TasterTableModel.readsHad()V
set_option maxRecDepth 20000 in
theorem vc_M_readsHad {d : Nat} {h : mHp} {out : mOut}  (H : (∃ h1 : mHp, mRuns d 9 0 [some (.ref 114), none] [] h (.inl (none, h1)) ∧
 (∃ (x3 : Int32) (h2 : mHp), mRuns d 25 0 [some (.ref 114), some (.int (h1.1 114 23))] [] h1 (.inl (some (.int x3), h2)) ∧
 ((x3 = 0 → (∃ (x5 : Int32) (h4 : mHp), mRuns d 13 0 [some (.ref 114)] [] h2 (.inl (some (.int x5), h4)) ∧
 ((x5 = 0 → mRuns (d + 1) 24 35 [some (.ref 114), some (.int (nI 0)), none, none] [] h4 out) ∧
 (¬ x5 = 0 → (∃ h6 : mHp, mRuns d 9 0 [some (.ref 114), none] [] h4 (.inl (none, h6)) ∧
 mRuns (d + 1) 24 35 [some (.ref 114), some (.int (nI 0)), none, none] [] h6 out))))) ∧
 (¬ x3 = 0 → (∃ (x8 : Int32) (h7 : mHp), mRuns d 13 0 [some (.ref 114)] [] h2 (.inl (some (.int x8), h7)) ∧
 ((x8 = 0 → mRuns (d + 1) 24 35 [some (.ref 114), some (.int (h2.1 114 19)), none, none] [] h7 out) ∧
 (¬ x8 = 0 → (∃ h9 : mHp, mRuns d 9 0 [some (.ref 114), none] [] h7 (.inl (none, h9)) ∧
 mRuns (d + 1) 24 35 [some (.ref 114), some (.int (h2.1 114 19)), none, none] [] h9 out))))))))) :
  mRuns (d + 1) 24 0 [some (.ref 114), none, none, none] [] h out := mVc_from 17 H
set_option maxRecDepth 20000 in
theorem vc_M_readsHad_35 {d : Nat} {h : mHp} {out : mOut} {v1 : Int32} (H : (∃ (x2 : Int32) (h1 : mHp), mRuns d 25 0 [some (.ref 114), some (.int (h.1 114 22))] [] h (.inl (some (.int x2), h1)) ∧
 ((x2 = 0 → mRuns (d + 1) 24 70 [some (.ref 114), some (.int v1), none, none] [] h1 out) ∧
 (¬ x2 = 0 → ((¬ (((h1.1 114 25) >>> ((((nI 5) * v1) + (h1.1 114 19)) &&& 31)) &&& (nI 1)) = (nI 1) → mRuns (d + 1) 24 70 [some (.ref 114), some (.int v1), none, none] [] h1 out) ∧
 ((((h1.1 114 25) >>> ((((nI 5) * v1) + (h1.1 114 19)) &&& 31)) &&& (nI 1)) = (nI 1) → (∃ h3 : mHp, mRuns d 19 0 [some (.ref 114), some (.int (nI 4))] [] h1 (.inl (none, h3)) ∧
 mRuns (d + 1) 24 70 [some (.ref 114), some (.int v1), none, none] [] h3 out))))))) :
  mRuns (d + 1) 24 35 [some (.ref 114), some (.int v1), none, none] [] h out := mVc_from 22 H
set_option maxRecDepth 20000 in
theorem vc_M_readsHad_70 {d : Nat} {h : mHp} {out : mOut} {v1 : Int32} (H : (∃ (x2 : Int32) (h1 : mHp), mRuns d 13 0 [some (.ref 114)] [] h (.inl (some (.int x2), h1)) ∧
 ((x2 = 0 → mRuns (d + 1) 24 90 [some (.ref 114), none, some (.int (((nI 5) * v1) + (h.1 114 19))), none] [] h1 out) ∧
 (¬ x2 = 0 → (∃ h3 : mHp, mRuns d 9 0 [some (.ref 114), none] [] h1 (.inl (none, h3)) ∧
 mRuns (d + 1) 24 90 [some (.ref 114), none, some (.int (((nI 5) * v1) + (h.1 114 19))), none] [] h3 out))))) :
  mRuns (d + 1) 24 70 [some (.ref 114), some (.int v1), none, none] [] h out := mVc_from 13 H
set_option maxRecDepth 20000 in
theorem vc_M_readsHad_90 {d : Nat} {h : mHp} {out : mOut} {v2 : Int32} (H : (∃ (x2 : Int32) (h1 : mHp), mRuns d 20 0 [some (.ref 114), some (.int (nI 0)), some (.int (nI 99)), none] [] h (.inl (some (.int x2), h1)) ∧
 (∃ (x4 : Int32) (h3 : mHp), mRuns d 13 0 [some (.ref 114)] [] h1 (.inl (some (.int x4), h3)) ∧
 ((¬ x4 = 0 → (vp_in v2 25 ∧ out = .inl (none, mPI (mPI h3 114 25 ((h3.1 114 25) ||| ((nI 1) <<< (v2 &&& 31)))) 124 v2.toNatClampNeg x2))) ∧
 (x4 = 0 → out = .inl (none, h3)))))) :
  mRuns (d + 1) 24 90 [some (.ref 114), none, some (.int v2), none] [] h out := mVc_from 22 H
-- TasterTableModel.amongHere(I)Z
set_option maxRecDepth 20000 in
theorem vc_M_amongHere {d : Nat} {h : mHp} {out : mOut} {a1 : Int32} (H : (∃ (x2 : Int32) (h1 : mHp), mRuns d 13 0 [some (.ref 114)] [] h (.inl (some (.int x2), h1)) ∧
 ((¬ x2 = 0 → (((h1.1 114 16) = (nI 2) → (((h1.1 114 18) ≤ (nI 4) → (((h1.1 114 19) < a1 → (∃ (x4 : Int32) (h3 : mHp), mRuns d 13 0 [some (.ref 114)] [] h1 (.inl (some (.int x4), h3)) ∧
 ((x4 = 0 ∨ x4 = 1) ∧ out = .inl (some (.int x4), h3)))) ∧
 (¬ (h1.1 114 19) < a1 → (∃ h5 : mHp, mRuns d 19 0 [some (.ref 114), some (.int (nI 3))] [] h1 (.inl (none, h5)) ∧
 (∃ (x7 : Int32) (h6 : mHp), mRuns d 13 0 [some (.ref 114)] [] h5 (.inl (some (.int x7), h6)) ∧
 ((x7 = 0 ∨ x7 = 1) ∧ out = .inl (some (.int x7), h6))))))) ∧
 (¬ (h1.1 114 18) ≤ (nI 4) → (∃ h8 : mHp, mRuns d 19 0 [some (.ref 114), some (.int (nI 2))] [] h1 (.inl (none, h8)) ∧
 (∃ (x10 : Int32) (h9 : mHp), mRuns d 13 0 [some (.ref 114)] [] h8 (.inl (some (.int x10), h9)) ∧
 ((x10 = 0 ∨ x10 = 1) ∧ out = .inl (some (.int x10), h9))))))) ∧
 (¬ (h1.1 114 16) = (nI 2) → (∃ h11 : mHp, mRuns d 19 0 [some (.ref 114), some (.int (nI 1))] [] h1 (.inl (none, h11)) ∧
 (∃ (x13 : Int32) (h12 : mHp), mRuns d 13 0 [some (.ref 114)] [] h11 (.inl (some (.int x13), h12)) ∧
 ((x13 = 0 ∨ x13 = 1) ∧ out = .inl (some (.int x13), h12))))))) ∧
 (x2 = 0 → (((nI 0) = 0 ∨ (nI 0) = 1) ∧ out = .inl (some (.int (nI 0)), h1)))))) :
  mRuns (d + 1) 25 0 [some (.ref 114), some (.int a1)] [] h out := mVc_from 21 H
-- TasterTableModel.need(Z)V
set_option maxRecDepth 20000 in
theorem vc_M_need {d : Nat} {h : mHp} {out : mOut} {a1 : Int32} (H : (∃ (x2 : Int32) (h1 : mHp), mRuns d 13 0 [some (.ref 114)] [] h (.inl (some (.int x2), h1)) ∧
 ((¬ x2 = 0 → ((a1 = 0 → (∃ h3 : mHp, mRuns d 19 0 [some (.ref 114), some (.int (nI 1))] [] h1 (.inl (none, h3)) ∧
 out = .inl (none, h3))) ∧
 (¬ a1 = 0 → (∃ h4 : mHp, mRuns d 9 0 [some (.ref 114), none] [] h1 (.inl (none, h4)) ∧
 out = .inl (none, h4))))) ∧
 (x2 = 0 → out = .inl (none, h1))))) :
  mRuns (d + 1) 26 0 [some (.ref 114), some (.int a1)] [] h out := mVc_from 9 H
-- TasterTableModel.copies([I[I)V
set_option maxRecDepth 20000 in
theorem vc_M_copies {d : Nat} {h : mHp} {out : mOut} {a1 : Nat} {a2 : Nat} (H : mRuns (d + 1) 27 2 [none, some (.ref a1), some (.ref a2), some (.int (nI 0))] [] h out) :
  mRuns (d + 1) 27 0 [some (.ref 114), some (.ref a1), some (.ref a2), none] [] h out := mVc_from 3 H
set_option maxRecDepth 20000 in
theorem vc_M_copies_2 {d : Nat} {h : mHp} {out : mOut} {v1 : Nat} {v2 : Nat} {v3 : Int32} (H : mLen (fun x1 => ((x1 ≤ v3 → out = .inl (none, h)) ∧
 (¬ x1 ≤ v3 → mLd (fun x2 => mAr 1 (fun n3 _ => vp_in v3 n3 ∧ mRuns (d + 1) 27 2 [none, some (.ref v1), some (.ref v2), some (.int (v3 + nI 1))] [] (mPI h v2 v3.toNatClampNeg x2) out) (mSh v2)) h v3 v1 (mSh v1)))) h v1 (mSh v1)) :
  mRuns (d + 1) 27 2 [none, some (.ref v1), some (.ref v2), some (.int v3)] [] h out := mVc_from 13 H
-- TasterTableModel.fault()I
set_option maxRecDepth 20000 in
theorem vc_M_fault {d : Nat} {h : mHp} {out : mOut}  (H : out = .inl (some (.int ((mPI h 114 0 (nI 0)).1 114 12)), mPI h 114 0 (nI 0))) :
  mRuns (d + 1) 28 0 [some (.ref 114)] [] h out := mVc_from 6 H
-- TasterTableModel.count(I)I
set_option maxRecDepth 20000 in
theorem vc_M_count {d : Nat} {h : mHp} {out : mOut} {a1 : Int32} (H : (∃ (x2 : Int32) (h1 : mHp), mRuns d 30 0 [some (.int a1), some (.int (nI 0)), some (.int (nI 10))] [] (mPI h 114 0 (nI 0)) (.inl (some (.int x2), h1)) ∧
 (∃ (x4 : Int32) (h3 : mHp), mRuns d 8 0 [some (.ref 114), some (.int x2), some (.int (nI 1))] [] h1 (.inl (some (.int x4), h3)) ∧
 ((¬ x4 = 0 → ((a1 < nI 0 ∨ nI 10 < a1 → (vp_in (a1 - (nI 7)) 3 ∧ out = .inl (some (.int (h3.1 120 ((a1 - (nI 7)).toNatClampNeg))), h3))) ∧
 (a1 = nI 0 → out = .inl (some (.int (h3.1 114 1)), h3)) ∧
 (a1 = nI 1 → out = .inl (some (.int (h3.1 114 2)), h3)) ∧
 (a1 = nI 2 → out = .inl (some (.int (h3.1 114 3)), h3)) ∧
 (a1 = nI 3 → out = .inl (some (.int (h3.1 114 4)), h3)) ∧
 (a1 = nI 4 → out = .inl (some (.int (h3.1 114 42)), h3)) ∧
 (a1 = nI 5 → (∃ (x6 : Int32) (h5 : mHp), mRuns d 31 0 [some (.ref 114), none, none] [] h3 (.inl (some (.int x6), h5)) ∧
 out = .inl (some (.int x6), h5))) ∧
 (a1 = nI 6 → out = .inl (some (.int (h3.1 114 10)), h3)) ∧
 (a1 = nI 7 → (vp_in (a1 - (nI 7)) 3 ∧ out = .inl (some (.int (h3.1 120 ((a1 - (nI 7)).toNatClampNeg))), h3))) ∧
 (a1 = nI 8 → (vp_in (a1 - (nI 7)) 3 ∧ out = .inl (some (.int (h3.1 120 ((a1 - (nI 7)).toNatClampNeg))), h3))) ∧
 (a1 = nI 9 → (vp_in (a1 - (nI 7)) 3 ∧ out = .inl (some (.int (h3.1 120 ((a1 - (nI 7)).toNatClampNeg))), h3))) ∧
 (a1 = nI 10 → ((¬ (h3.1 114 46) = (-1) → out = .inl (some (.int (h3.1 114 46)), h3)) ∧
 ((h3.1 114 46) = (-1) → out = .inl (some (.int (nI 0)), h3)))) ∧
 True)) ∧
 (x4 = 0 → out = .inl (some (.int (nI 0)), h3)))))) :
  mRuns (d + 1) 29 0 [some (.ref 114), some (.int a1)] [] h out := mVc_from 20 H
-- TasterTableModel.within(III)Z
set_option maxRecDepth 20000 in
theorem vc_M_within {d : Nat} {h : mHp} {out : mOut} {a1 : Int32} {a2 : Int32} {a3 : Int32} (H : ((a1 < a2 → (((nI 0) = 0 ∨ (nI 0) = 1) ∧ out = .inl (some (.int (nI 0)), h))) ∧
 (¬ a1 < a2 → ((a3 < a1 → (((nI 0) = 0 ∨ (nI 0) = 1) ∧ out = .inl (some (.int (nI 0)), h))) ∧
 (¬ a3 < a1 → (((nI 1) = 0 ∨ (nI 1) = 1) ∧ out = .inl (some (.int (nI 1)), h))))))) :
  mRuns (d + 1) 30 0 [some (.int a1), some (.int a2), some (.int a3)] [] h out := mVc_from 9 H
-- TasterTableModel.now()I
set_option maxRecDepth 20000 in
theorem vc_M_now {d : Nat} {h : mHp} {out : mOut}  (H : mRuns (d + 1) 31 4 [some (.ref 114), some (.int (nI 0)), some (.int (nI 0))] [] h out) :
  mRuns (d + 1) 31 0 [some (.ref 114), none, none] [] h out := mVc_from 5 H
set_option maxRecDepth 20000 in
theorem vc_M_now_4 {d : Nat} {h : mHp} {out : mOut} {v1 : Int32} {v2 : Int32} (H : (((h.1 114 42) ≤ v2 → out = .inl (some (.int v1), h)) ∧
 (¬ (h.1 114 42) ≤ v2 → (vp_in (((nI 4) * v2) + (nI 2)) 240 ∧ (((h.1 131 ((((nI 4) * v2) + (nI 2)).toNatClampNeg)) ≤ v1 → mRuns (d + 1) 31 4 [some (.ref 114), some (.int v1), some (.int (v2 + nI 1))] [] h out) ∧
 (¬ (h.1 131 ((((nI 4) * v2) + (nI 2)).toNatClampNeg)) ≤ v1 → (vp_in (((nI 4) * v2) + (nI 2)) 240 ∧ mRuns (d + 1) 31 4 [some (.ref 114), some (.int (h.1 131 ((((nI 4) * v2) + (nI 2)).toNatClampNeg))), some (.int (v2 + nI 1))] [] h out))))))) :
  mRuns (d + 1) 31 4 [some (.ref 114), some (.int v1), some (.int v2)] [] h out := mVc_from 27 H
-- TasterTableModel.dish(II)I
set_option maxRecDepth 20000 in
theorem vc_M_dish {d : Nat} {h : mHp} {out : mOut} {a1 : Int32} {a2 : Int32} (H : (∃ (x2 : Int32) (h1 : mHp), mRuns d 33 0 [some (.ref 114), some (.int a1)] [] (mPI h 114 0 (nI 0)) (.inl (some (.int x2), h1)) ∧
 ((x2 = 0 → out = .inl (some (.int (nI 0)), h1)) ∧
 (¬ x2 = 0 → (∃ (x4 : Int32) (h3 : mHp), mRuns d 30 0 [some (.int a2), some (.int (nI 0)), some (.int (nI 2))] [] h1 (.inl (some (.int x4), h3)) ∧
 (∃ (x6 : Int32) (h5 : mHp), mRuns d 8 0 [some (.ref 114), some (.int x4), some (.int (nI 1))] [] h3 (.inl (some (.int x6), h5)) ∧
 ((x6 = 0 → out = .inl (some (.int (nI 0)), h5)) ∧
 (¬ x6 = 0 → (vp_in (((nI 3) * a1) + a2) 18 ∧ out = .inl (some (.int (h5.1 115 ((((nI 3) * a1) + a2).toNatClampNeg))), h5)))))))))) :
  mRuns (d + 1) 32 0 [some (.ref 114), some (.int a1), some (.int a2)] [] h out := mVc_from 25 H
-- TasterTableModel.isDish(I)Z
set_option maxRecDepth 20000 in
theorem vc_M_isDish {d : Nat} {h : mHp} {out : mOut} {a1 : Int32} (H : ((a1 < 0 → (∃ (x2 : Int32) (h1 : mHp), mRuns d 8 0 [some (.ref 114), some (.int (nI 0)), some (.int (nI 1))] [] h (.inl (some (.int x2), h1)) ∧
 ((x2 = 0 ∨ x2 = 1) ∧ out = .inl (some (.int x2), h1)))) ∧
 (¬ a1 < 0 → (((h.1 114 1) ≤ a1 → (∃ (x4 : Int32) (h3 : mHp), mRuns d 8 0 [some (.ref 114), some (.int (nI 0)), some (.int (nI 1))] [] h (.inl (some (.int x4), h3)) ∧
 ((x4 = 0 ∨ x4 = 1) ∧ out = .inl (some (.int x4), h3)))) ∧
 (¬ (h.1 114 1) ≤ a1 → (∃ (x6 : Int32) (h5 : mHp), mRuns d 8 0 [some (.ref 114), some (.int (nI 1)), some (.int (nI 1))] [] h (.inl (some (.int x6), h5)) ∧
 ((x6 = 0 ∨ x6 = 1) ∧ out = .inl (some (.int x6), h5)))))))) :
  mRuns (d + 1) 33 0 [some (.ref 114), some (.int a1)] [] h out := mVc_from 12 H
-- TasterTableModel.poison(II)I
set_option maxRecDepth 20000 in
theorem vc_M_poison {d : Nat} {h : mHp} {out : mOut} {a1 : Int32} {a2 : Int32} (H : (∃ (x2 : Int32) (h1 : mHp), mRuns d 35 0 [some (.ref 114), some (.int a1)] [] (mPI h 114 0 (nI 0)) (.inl (some (.int x2), h1)) ∧
 ((x2 = 0 → out = .inl (some (.int (nI 0)), h1)) ∧
 (¬ x2 = 0 → (∃ (x4 : Int32) (h3 : mHp), mRuns d 30 0 [some (.int a2), some (.int (nI 0)), some (.int (nI 3))] [] h1 (.inl (some (.int x4), h3)) ∧
 (∃ (x6 : Int32) (h5 : mHp), mRuns d 8 0 [some (.ref 114), some (.int x4), some (.int (nI 1))] [] h3 (.inl (some (.int x6), h5)) ∧
 ((x6 = 0 → out = .inl (some (.int (nI 0)), h5)) ∧
 (¬ x6 = 0 → (vp_in (((nI 4) * a1) + a2) 20 ∧ out = .inl (some (.int (h5.1 116 ((((nI 4) * a1) + a2).toNatClampNeg))), h5)))))))))) :
  mRuns (d + 1) 34 0 [some (.ref 114), some (.int a1), some (.int a2)] [] h out := mVc_from 25 H
-- TasterTableModel.isPoison(I)Z
set_option maxRecDepth 20000 in
theorem vc_M_isPoison {d : Nat} {h : mHp} {out : mOut} {a1 : Int32} (H : ((a1 < 0 → (∃ (x2 : Int32) (h1 : mHp), mRuns d 8 0 [some (.ref 114), some (.int (nI 0)), some (.int (nI 1))] [] h (.inl (some (.int x2), h1)) ∧
 ((x2 = 0 ∨ x2 = 1) ∧ out = .inl (some (.int x2), h1)))) ∧
 (¬ a1 < 0 → (((h.1 114 2) ≤ a1 → (∃ (x4 : Int32) (h3 : mHp), mRuns d 8 0 [some (.ref 114), some (.int (nI 0)), some (.int (nI 1))] [] h (.inl (some (.int x4), h3)) ∧
 ((x4 = 0 ∨ x4 = 1) ∧ out = .inl (some (.int x4), h3)))) ∧
 (¬ (h.1 114 2) ≤ a1 → (∃ (x6 : Int32) (h5 : mHp), mRuns d 8 0 [some (.ref 114), some (.int (nI 1)), some (.int (nI 1))] [] h (.inl (some (.int x6), h5)) ∧
 ((x6 = 0 ∨ x6 = 1) ∧ out = .inl (some (.int x6), h5)))))))) :
  mRuns (d + 1) 35 0 [some (.ref 114), some (.int a1)] [] h out := mVc_from 12 H
-- TasterTableModel.taster(II)I
set_option maxRecDepth 20000 in
theorem vc_M_taster {d : Nat} {h : mHp} {out : mOut} {a1 : Int32} {a2 : Int32} (H : (∃ (x2 : Int32) (h1 : mHp), mRuns d 37 0 [some (.ref 114), some (.int a1)] [] (mPI h 114 0 (nI 0)) (.inl (some (.int x2), h1)) ∧
 ((x2 = 0 → out = .inl (some (.int (nI 0)), h1)) ∧
 (¬ x2 = 0 → (∃ (x4 : Int32) (h3 : mHp), mRuns d 30 0 [some (.int a2), some (.int (nI 0)), some (.int (nI 2))] [] h1 (.inl (some (.int x4), h3)) ∧
 ((¬ x4 = 0 → mRuns (d + 1) 36 45 [some (.ref 114), some (.int a1), some (.int a2)] [.int (nI 1), .ref 114] h3 out) ∧
 (x4 = 0 → ((a2 < (nI 10) → mRuns (d + 1) 36 45 [some (.ref 114), some (.int a1), some (.int a2)] [.int (nI 0), .ref 114] h3 out) ∧
 (¬ a2 < (nI 10) → (((h3.1 114 2) ≤ (a2 - (nI 10)) → mRuns (d + 1) 36 45 [some (.ref 114), some (.int a1), some (.int a2)] [.int (nI 0), .ref 114] h3 out) ∧
 (¬ (h3.1 114 2) ≤ (a2 - (nI 10)) → mRuns (d + 1) 36 45 [some (.ref 114), some (.int a1), some (.int a2)] [.int (nI 1), .ref 114] h3 out))))))))))) :
  mRuns (d + 1) 36 0 [some (.ref 114), some (.int a1), some (.int a2)] [] h out := mVc_from 25 H
set_option maxRecDepth 20000 in
theorem vc_M_taster_45 {d : Nat} {h : mHp} {out : mOut} {s0 : Int32} {v1 : Int32} {v2 : Int32} (H : (∃ (x2 : Int32) (h1 : mHp), mRuns d 8 0 [some (.ref 114), some (.int s0), some (.int (nI 1))] [] h (.inl (some (.int x2), h1)) ∧
 ((¬ x2 = 0 → (((nI 2) ≤ v2 → ((¬ v2 = (nI 2) → (vp_in ((((nI 5) * v1) + v2) - (nI 10)) 25 ∧ out = .inl (some (.int (h1.1 118 (((((nI 5) * v1) + v2) - (nI 10)).toNatClampNeg))), h1))) ∧
 (v2 = (nI 2) → (∃ (x4 : Int32) (h3 : mHp), mRuns d 38 0 [some (.ref 114), some (.int v1), none] [] h1 (.inl (some (.int x4), h3)) ∧
 out = .inl (some (.int x4), h3))))) ∧
 (¬ (nI 2) ≤ v2 → (vp_in (((nI 2) * v1) + v2) 10 ∧ out = .inl (some (.int (h1.1 117 ((((nI 2) * v1) + v2).toNatClampNeg))), h1))))) ∧
 (x2 = 0 → out = .inl (some (.int (nI 0)), h1))))) :
  mRuns (d + 1) 36 45 [some (.ref 114), some (.int v1), some (.int v2)] [.int s0, .ref 114] h out := mVc_from 20 H
-- TasterTableModel.isTaster(I)Z
set_option maxRecDepth 20000 in
theorem vc_M_isTaster {d : Nat} {h : mHp} {out : mOut} {a1 : Int32} (H : ((a1 < 0 → (∃ (x2 : Int32) (h1 : mHp), mRuns d 8 0 [some (.ref 114), some (.int (nI 0)), some (.int (nI 1))] [] h (.inl (some (.int x2), h1)) ∧
 ((x2 = 0 ∨ x2 = 1) ∧ out = .inl (some (.int x2), h1)))) ∧
 (¬ a1 < 0 → (((h.1 114 3) ≤ a1 → (∃ (x4 : Int32) (h3 : mHp), mRuns d 8 0 [some (.ref 114), some (.int (nI 0)), some (.int (nI 1))] [] h (.inl (some (.int x4), h3)) ∧
 ((x4 = 0 ∨ x4 = 1) ∧ out = .inl (some (.int x4), h3)))) ∧
 (¬ (h.1 114 3) ≤ a1 → (∃ (x6 : Int32) (h5 : mHp), mRuns d 8 0 [some (.ref 114), some (.int (nI 1)), some (.int (nI 1))] [] h (.inl (some (.int x6), h5)) ∧
 ((x6 = 0 ∨ x6 = 1) ∧ out = .inl (some (.int x6), h5)))))))) :
  mRuns (d + 1) 37 0 [some (.ref 114), some (.int a1)] [] h out := mVc_from 12 H
-- TasterTableModel.fellAt(I)I
set_option maxRecDepth 20000 in
theorem vc_M_fellAt {d : Nat} {h : mHp} {out : mOut} {a1 : Int32} (H : mRuns (d + 1) 38 2 [some (.ref 114), some (.int a1), some (.int (nI 0))] [] h out) :
  mRuns (d + 1) 38 0 [some (.ref 114), some (.int a1), none] [] h out := mVc_from 3 H
set_option maxRecDepth 20000 in
theorem vc_M_fellAt_2 {d : Nat} {h : mHp} {out : mOut} {v1 : Int32} {v2 : Int32} (H : (((h.1 114 42) ≤ v2 → out = .inl (some (.int (-1)), h)) ∧
 (¬ (h.1 114 42) ≤ v2 → (vp_in ((nI 4) * v2) 240 ∧ ((¬ (h.1 131 (((nI 4) * v2).toNatClampNeg)) = v1 → mRuns (d + 1) 38 2 [some (.ref 114), some (.int v1), some (.int (v2 + nI 1))] [] h out) ∧
 ((h.1 131 (((nI 4) * v2).toNatClampNeg)) = v1 → (vp_in (((nI 4) * v2) + (nI 1)) 240 ∧ ((¬ (h.1 131 ((((nI 4) * v2) + (nI 1)).toNatClampNeg)) = (-1) → mRuns (d + 1) 38 2 [some (.ref 114), some (.int v1), some (.int (v2 + nI 1))] [] h out) ∧
 ((h.1 131 ((((nI 4) * v2) + (nI 1)).toNatClampNeg)) = (-1) → (vp_in (((nI 4) * v2) + (nI 2)) 240 ∧ out = .inl (some (.int (h.1 131 ((((nI 4) * v2) + (nI 2)).toNatClampNeg))), h))))))))))) :
  mRuns (d + 1) 38 2 [some (.ref 114), some (.int v1), some (.int v2)] [] h out := mVc_from 31 H
-- TasterTableModel.shows(IIZ)I
set_option maxRecDepth 20000 in
theorem vc_M_shows {d : Nat} {h : mHp} {out : mOut} {a1 : Int32} {a2 : Int32} {a3 : Int32} (H : (∃ (x2 : Int32) (h1 : mHp), mRuns d 37 0 [some (.ref 114), some (.int a1)] [] (mPI h 114 0 (nI 0)) (.inl (some (.int x2), h1)) ∧
 ((x2 = 0 → out = .inl (some (.int (nI 0)), h1)) ∧
 (¬ x2 = 0 → (∃ (x4 : Int32) (h3 : mHp), mRuns d 35 0 [some (.ref 114), some (.int a2)] [] h1 (.inl (some (.int x4), h3)) ∧
 ((x4 = 0 → out = .inl (some (.int (nI 0)), h3)) ∧
 (¬ x4 = 0 → (∃ (x6 : Int32) (h5 : mHp), mRuns d 40 0 [some (.ref 114), some (.int a1), some (.int a2), some (.int a3)] [] h3 (.inl (some (.int x6), h5)) ∧
 out = .inl (some (.int x6), h5))))))))) :
  mRuns (d + 1) 39 0 [some (.ref 114), some (.int a1), some (.int a2), some (.int a3)] [] h out := mVc_from 18 H
-- TasterTableModel.showsNow(IIZ)I
set_option maxRecDepth 20000 in
theorem vc_M_showsNow {d : Nat} {h : mHp} {out : mOut} {a1 : Int32} {a2 : Int32} {a3 : Int32} (H : (vp_in (((nI 5) * a1) + a2) 25 ∧ (∃ (x2 : Int32) (h1 : mHp), mRuns d 41 0 [some (.ref 114), some (.int a1), some (.int a2), some (.int a3), some (.int (h.1 118 ((((nI 5) * a1) + a2).toNatClampNeg))), none, none, none] [] h (.inl (some (.int x2), h1)) ∧
 out = .inl (some (.int x2), h1)))) :
  mRuns (d + 1) 40 0 [some (.ref 114), some (.int a1), some (.int a2), some (.int a3)] [] h out := mVc_from 14 H
-- TasterTableModel.showsBy(IIZI)I
set_option maxRecDepth 20000 in
theorem vc_M_showsBy {d : Nat} {h : mHp} {out : mOut} {a1 : Int32} {a2 : Int32} {a3 : Int32} {a4 : Int32} (H : (vp_in ((nI 2) * a1) 10 ∧ (((h.1 117 (((nI 2) * a1).toNatClampNeg)) = (nI 2) → mRuns (d + 1) 41 31 [some (.ref 114), none, some (.int a2), none, some (.int a4), some (.int (h.1 117 (((nI 2) * a1).toNatClampNeg))), none, none] [.int (nI 1)] h out) ∧
 (¬ (h.1 117 (((nI 2) * a1).toNatClampNeg)) = (nI 2) → (((h.1 117 (((nI 2) * a1).toNatClampNeg)) = (nI 3) → mRuns (d + 1) 41 31 [some (.ref 114), none, some (.int a2), none, some (.int a4), some (.int (h.1 117 (((nI 2) * a1).toNatClampNeg))), none, none] [.int (nI 0)] h out) ∧
 (¬ (h.1 117 (((nI 2) * a1).toNatClampNeg)) = (nI 3) → ((a3 = 0 → mRuns (d + 1) 41 31 [some (.ref 114), none, some (.int a2), none, some (.int a4), some (.int (h.1 117 (((nI 2) * a1).toNatClampNeg))), none, none] [.int (nI 0)] h out) ∧
 (¬ a3 = 0 → mRuns (d + 1) 41 31 [some (.ref 114), none, some (.int a2), none, some (.int a4), some (.int (h.1 117 (((nI 2) * a1).toNatClampNeg))), none, none] [.int (nI 1)] h out)))))))) :
  mRuns (d + 1) 41 0 [some (.ref 114), some (.int a1), some (.int a2), some (.int a3), some (.int a4), none, none, none] [] h out := mVc_from 18 H
set_option maxRecDepth 20000 in
theorem vc_M_showsBy_31 {d : Nat} {h : mHp} {out : mOut} {s0 : Int32} {v2 : Int32} {v4 : Int32} {v5 : Int32} (H : (vp_in (((nI 4) * v2) + (nI 1)) 20 ∧ ((¬ (h.1 116 ((((nI 4) * v2) + (nI 1)).toNatClampNeg)) = (nI 1) → mRuns (d + 1) 41 54 [some (.ref 114), none, some (.int v2), none, some (.int v4), some (.int v5), none, none] [] h out) ∧
 ((h.1 116 ((((nI 4) * v2) + (nI 1)).toNatClampNeg)) = (nI 1) → ((¬ s0 = 0 → mRuns (d + 1) 41 54 [some (.ref 114), none, some (.int v2), none, some (.int v4), some (.int v5), none, none] [] h out) ∧
 (s0 = 0 → out = .inl (some (.int (-1)), h))))))) :
  mRuns (d + 1) 41 31 [some (.ref 114), none, some (.int v2), none, some (.int v4), some (.int v5), none, none] [.int s0] h out := mVc_from 15 H
set_option maxRecDepth 20000 in
theorem vc_M_showsBy_54 {d : Nat} {h : mHp} {out : mOut} {v2 : Int32} {v4 : Int32} {v5 : Int32} (H : (vp_in (((nI 4) * v2) + (nI 2)) 20 ∧ (((h.1 116 ((((nI 4) * v2) + (nI 2)).toNatClampNeg)) ≤ 0 → mRuns (d + 1) 41 84 [some (.ref 114), none, some (.int v2), none, none, some (.int v5), none, none] [] h out) ∧
 (¬ (h.1 116 ((((nI 4) * v2) + (nI 2)).toNatClampNeg)) ≤ 0 → (vp_in (((nI 4) * v2) + (nI 2)) 20 ∧ ((v4 < (h.1 116 ((((nI 4) * v2) + (nI 2)).toNatClampNeg)) → mRuns (d + 1) 41 84 [some (.ref 114), none, some (.int v2), none, none, some (.int v5), none, none] [] h out) ∧
 (¬ v4 < (h.1 116 ((((nI 4) * v2) + (nI 2)).toNatClampNeg)) → out = .inl (some (.int (-1)), h)))))))) :
  mRuns (d + 1) 41 54 [some (.ref 114), none, some (.int v2), none, some (.int v4), some (.int v5), none, none] [] h out := mVc_from 21 H
set_option maxRecDepth 20000 in
theorem vc_M_showsBy_84 {d : Nat} {h : mHp} {out : mOut} {v2 : Int32} {v5 : Int32} (H : (vp_in ((nI 4) * v2) 20 ∧ ((¬ v5 = (nI 1) → ((¬ v5 = (nI 2) → ((¬ v5 = (nI 3) → out = .inl (some (.int (h.1 116 (((nI 4) * v2).toNatClampNeg))), h)) ∧
 (v5 = (nI 3) → (¬ (nI 2) = 0 ∧ out = .inl (some (.int (((h.1 116 (((nI 4) * v2).toNatClampNeg)) + (nI 1)) / (nI 2))), h))))) ∧
 (v5 = (nI 2) → out = .inl (some (.int ((h.1 116 (((nI 4) * v2).toNatClampNeg)) + (nI 4))), h)))) ∧
 (v5 = (nI 1) → out = .inl (some (.int ((nI 2) * (h.1 116 (((nI 4) * v2).toNatClampNeg)))), h))))) :
  mRuns (d + 1) 41 84 [some (.ref 114), none, some (.int v2), none, none, some (.int v5), none, none] [] h out := mVc_from 23 H
-- TasterTableModel.plan(II)I
set_option maxRecDepth 20000 in
theorem vc_M_plan {d : Nat} {h : mHp} {out : mOut} {a1 : Int32} {a2 : Int32} (H : ((a2 = 0 → mRuns (d + 1) 42 20 [some (.ref 114), some (.int a1), some (.int a2), none] [.int (nI 1), .ref 114] (mPI h 114 0 (nI 0)) out) ∧
 (¬ a2 = 0 → ((¬ a2 = (nI 1) → mRuns (d + 1) 42 20 [some (.ref 114), some (.int a1), some (.int a2), none] [.int (nI 0), .ref 114] (mPI h 114 0 (nI 0)) out) ∧
 (a2 = (nI 1) → mRuns (d + 1) 42 20 [some (.ref 114), some (.int a1), some (.int a2), none] [.int (nI 1), .ref 114] (mPI h 114 0 (nI 0)) out))))) :
  mRuns (d + 1) 42 0 [some (.ref 114), some (.int a1), some (.int a2), none] [] h out := mVc_from 12 H
set_option maxRecDepth 20000 in
theorem vc_M_plan_20 {d : Nat} {h : mHp} {out : mOut} {s0 : Int32} {v1 : Int32} {v2 : Int32} (H : (∃ (x2 : Int32) (h1 : mHp), mRuns d 8 0 [some (.ref 114), some (.int s0), some (.int (nI 1))] [] h (.inl (some (.int x2), h1)) ∧
 ((x2 = 0 → out = .inl (some (.int (nI 0)), h1)) ∧
 (¬ x2 = 0 → (∃ (x4 : Int32) (h3 : mHp), mRuns d 43 0 [some (.ref 114), some (.int v1), some (.int (nI 2))] [] h1 (.inl (some (.int x4), h3)) ∧
 ((¬ x4 = 0 → (∃ (x6 : Int32) (h5 : mHp), mRuns d 44 0 [some (.ref 114), some (.int v1), some (.int (nI 0)), none, none, none] [] h3 (.inl (some (.int x6), h5)) ∧
 ((¬ x6 = 0 → (((nI 1) = 0 ∨ (nI 1) = 1) ∧ mRuns (d + 1) 42 56 [some (.ref 114), none, some (.int v2), some (.int (nI 0))] [] (mPI h5 114 38 (nI 1)) out)) ∧
 (x6 = 0 → out = .inl (some (.int (-1)), h5))))) ∧
 (x4 = 0 → out = .inl (some (.int (nI 0)), h3)))))))) :
  mRuns (d + 1) 42 20 [some (.ref 114), some (.int v1), some (.int v2), none] [.int s0, .ref 114] h out := mVc_from 19 H
set_option maxRecDepth 20000 in
theorem vc_M_plan_56 {d : Nat} {h : mHp} {out : mOut} {v2 : Int32} {v3 : Int32} (H : (((h.1 114 1) ≤ v3 → ((¬ v2 = 0 → out = .inl (some (.int (h.1 114 39)), h)) ∧
 (v2 = 0 → out = .inl (some (.int (h.1 114 40)), h)))) ∧
 (¬ (h.1 114 1) ≤ v3 → (vp_in v3 6 ∧ (vp_in ((nI 2) * v3) 12 ∧ (vp_in (((nI 3) * v3) + (nI 1)) 18 ∧ (vp_in v3 6 ∧ (vp_in (((nI 32) * v3) + ((mPI h 130 ((nI 2) * v3).toNatClampNeg (h.1 127 (v3.toNatClampNeg))).1 127 (v3.toNatClampNeg))) 192 ∧ (vp_in (((nI 2) * v3) + (nI 1)) 12 ∧ mRuns (d + 1) 42 56 [some (.ref 114), none, some (.int v2), some (.int (v3 + nI 1))] [] (mPI (mPI h 130 ((nI 2) * v3).toNatClampNeg (h.1 127 (v3.toNatClampNeg))) 130 (((nI 2) * v3) + (nI 1)).toNatClampNeg (((mPI h 130 ((nI 2) * v3).toNatClampNeg (h.1 127 (v3.toNatClampNeg))).1 115 ((((nI 3) * v3) + (nI 1)).toNatClampNeg)) - ((mPI h 130 ((nI 2) * v3).toNatClampNeg (h.1 127 (v3.toNatClampNeg))).1 125 ((((nI 32) * v3) + ((mPI h 130 ((nI 2) * v3).toNatClampNeg (h.1 127 (v3.toNatClampNeg))).1 127 (v3.toNatClampNeg))).toNatClampNeg)))) out))))))))) :
  mRuns (d + 1) 42 56 [some (.ref 114), none, some (.int v2), some (.int v3)] [] h out := mVc_from 45 H
-- TasterTableModel.isLies(II)Z
set_option maxRecDepth 20000 in
theorem vc_M_isLies {d : Nat} {h : mHp} {out : mOut} {a1 : Int32} {a2 : Int32} (H : (∃ (x2 : Int32) (h1 : mHp), mRuns d 30 0 [some (.int a1), some (.int (nI 0)), some (.int (nI 2))] [] h (.inl (some (.int x2), h1)) ∧
 (∃ (x4 : Int32) (h3 : mHp), mRuns d 8 0 [some (.ref 114), some (.int x2), some (.int a2)] [] h1 (.inl (some (.int x4), h3)) ∧
 ((x4 = 0 ∨ x4 = 1) ∧ out = .inl (some (.int x4), h3))))) :
  mRuns (d + 1) 43 0 [some (.ref 114), some (.int a1), some (.int a2)] [] h out := mVc_from 8 H
-- TasterTableModel.plans(II)Z
set_option maxRecDepth 20000 in
theorem vc_M_plans {d : Nat} {h : mHp} {out : mOut} {a1 : Int32} {a2 : Int32} (H : (∃ h1 : mHp, mRuns d 45 0 [some (.ref 114), none, none, none, none] [] (mPI (mPI h 114 32 a1) 114 33 a2) (.inl (none, h1)) ∧
 mRuns (d + 1) 44 16 [some (.ref 114), none, none, some (.int (nI 0)), none, none] [] h1 out)) :
  mRuns (d + 1) 44 0 [some (.ref 114), some (.int a1), some (.int a2), none, none, none] [] h out := mVc_from 11 H
set_option maxRecDepth 20000 in
theorem vc_M_plans_16 {d : Nat} {h : mHp} {out : mOut} {v3 : Int32} (H : (((h.1 114 3) < v3 → (((nI 0) = 0 ∨ (nI 0) = 1) ∧ out = .inl (some (.int (nI 0)), h))) ∧
 (¬ (h.1 114 3) < v3 → mRuns (d + 1) 44 30 [some (.ref 114), none, none, some (.int v3), some (.int (nI 0)), some (.int (nI 0))] [] h out))) :
  mRuns (d + 1) 44 16 [some (.ref 114), none, none, some (.int v3), none, none] [] h out := mVc_from 9 H
set_option maxRecDepth 20000 in
theorem vc_M_plans_30 {d : Nat} {h : mHp} {out : mOut} {v3 : Int32} {v4 : Int32} {v5 : Int32} (H : ((((nI 1) <<< ((h.1 114 3) &&& 31)) ≤ v5 → ((v4 = 0 → mRuns (d + 1) 44 16 [some (.ref 114), none, none, some (.int (v3 + nI 1)), none, none] [] (mPI h 114 40 v3) out) ∧
 (¬ v4 = 0 → (((nI 1) = 0 ∨ (nI 1) = 1) ∧ out = .inl (some (.int (nI 1)), mPI h 114 40 v3))))) ∧
 (¬ ((nI 1) <<< ((h.1 114 3) &&& 31)) ≤ v5 → (∃ (x2 : Int32) (h1 : mHp), mRuns d 47 0 [some (.int v5), none, none] [] h (.inl (some (.int x2), h1)) ∧
 ((x2 = v3 → (∃ h3 : mHp, mRuns d 48 0 [some (.ref 114), some (.int v5), none, none, none, none, none, none] [] h1 (.inl (none, h3)) ∧
 (vp_in (nI 0) 117649 ∧ (((nI 100000) ≤ (h3.1 126 ((nI 0).toNatClampNeg)) → mRuns (d + 1) 44 30 [some (.ref 114), none, none, some (.int v3), some (.int v4), some (.int (v5 + nI 1))] [] h3 out) ∧
 (¬ (nI 100000) ≤ (h3.1 126 ((nI 0).toNatClampNeg)) → ((v4 = 0 → mRuns (d + 1) 44 92 [some (.ref 114), none, none, some (.int v3), some (.int v4), some (.int v5)] [] h3 out) ∧
 (¬ v4 = 0 → (vp_in (nI 0) 117649 ∧ (((h3.1 126 ((nI 0).toNatClampNeg)) ≤ (h3.1 114 39) → mRuns (d + 1) 44 92 [some (.ref 114), none, none, some (.int v3), some (.int v4), some (.int v5)] [] h3 out) ∧
 (¬ (h3.1 126 ((nI 0).toNatClampNeg)) ≤ (h3.1 114 39) → mRuns (d + 1) 44 30 [some (.ref 114), none, none, some (.int v3), some (.int v4), some (.int (v5 + nI 1))] [] h3 out)))))))))) ∧
 (¬ x2 = v3 → mRuns (d + 1) 44 30 [some (.ref 114), none, none, some (.int v3), some (.int v4), some (.int (v5 + nI 1))] [] h1 out)))))) :
  mRuns (d + 1) 44 30 [some (.ref 114), none, none, some (.int v3), some (.int v4), some (.int v5)] [] h out := mVc_from 32 H
set_option maxRecDepth 20000 in
theorem vc_M_plans_92 {d : Nat} {h : mHp} {out : mOut} {v3 : Int32} {v4 : Int32} {v5 : Int32} (H : (∃ h1 : mHp, mRuns d 51 0 [some (.ref 114), some (.int v5), none, none, none, none, none] [] h (.inl (none, h1)) ∧
 ((v4 = 0 → mRuns (d + 1) 44 126 [some (.ref 114), none, none, some (.int v3), none, some (.int v5)] [] h1 out) ∧
 (¬ v4 = 0 → (vp_in (nI 0) 117649 ∧ ((¬ (h1.1 126 ((nI 0).toNatClampNeg)) = (h1.1 114 39) → mRuns (d + 1) 44 126 [some (.ref 114), none, none, some (.int v3), none, some (.int v5)] [] h1 out) ∧
 ((h1.1 126 ((nI 0).toNatClampNeg)) = (h1.1 114 39) → (∃ (x3 : Int32) (h2 : mHp), mRuns d 52 0 [some (.ref 114), none] [] h1 (.inl (some (.int x3), h2)) ∧
 ((¬ x3 = 0 → mRuns (d + 1) 44 126 [some (.ref 114), none, none, some (.int v3), none, some (.int v5)] [] h2 out) ∧
 (x3 = 0 → mRuns (d + 1) 44 30 [some (.ref 114), none, none, some (.int v3), some (.int v4), some (.int (v5 + nI 1))] [] h2 out)))))))))) :
  mRuns (d + 1) 44 92 [some (.ref 114), none, none, some (.int v3), some (.int v4), some (.int v5)] [] h out := mVc_from 19 H
set_option maxRecDepth 20000 in
theorem vc_M_plans_126 {d : Nat} {h : mHp} {out : mOut} {v3 : Int32} {v5 : Int32} (H : (vp_in (nI 0) 117649 ∧ (∃ h1 : mHp, mRuns d 27 0 [some (.ref 114), some (.ref 128), some (.ref 127), none] [] (mPI h 114 39 (h.1 126 ((nI 0).toNatClampNeg))) (.inl (none, h1)) ∧
 mRuns (d + 1) 44 30 [some (.ref 114), none, none, some (.int v3), some (.int (nI 1)), some (.int (v5 + nI 1))] [] h1 out))) :
  mRuns (d + 1) 44 126 [some (.ref 114), none, none, some (.int v3), none, some (.int v5)] [] h out := mVc_from 17 H
-- TasterTableModel.colds()V
set_option maxRecDepth 20000 in
theorem vc_M_colds {d : Nat} {h : mHp} {out : mOut}  (H : mRuns (d + 1) 45 2 [some (.ref 114), some (.int (nI 0)), none, none, none] [] h out) :
  mRuns (d + 1) 45 0 [some (.ref 114), none, none, none, none] [] h out := mVc_from 3 H
set_option maxRecDepth 20000 in
theorem vc_M_colds_2 {d : Nat} {h : mHp} {out : mOut} {v1 : Int32} (H : (((h.1 114 1) ≤ v1 → out = .inl (none, h)) ∧
 (¬ (h.1 114 1) ≤ v1 → mRuns (d + 1) 45 12 [some (.ref 114), some (.int v1), some (.int (nI 0)), none, none] [] h out))) :
  mRuns (d + 1) 45 2 [some (.ref 114), some (.int v1), none, none, none] [] h out := mVc_from 7 H
set_option maxRecDepth 20000 in
theorem vc_M_colds_12 {d : Nat} {h : mHp} {out : mOut} {v1 : Int32} {v2 : Int32} (H : ((((nI 1) <<< ((h.1 114 3) &&& 31)) ≤ v2 → mRuns (d + 1) 45 2 [some (.ref 114), some (.int (v1 + nI 1)), none, none, none] [] h out) ∧
 (¬ ((nI 1) <<< ((h.1 114 3) &&& 31)) ≤ v2 → ((¬ (v2 &&& (h.1 114 33)) = 0 → mRuns (d + 1) 45 40 [some (.ref 114), some (.int v1), some (.int v2), some (.int (nI 0)), some (.int (nI 0))] [] h out) ∧
 ((v2 &&& (h.1 114 33)) = 0 → mRuns (d + 1) 45 40 [some (.ref 114), some (.int v1), some (.int v2), some (.int (nI 1)), some (.int (nI 0))] [] h out))))) :
  mRuns (d + 1) 45 12 [some (.ref 114), some (.int v1), some (.int v2), none, none] [] h out := mVc_from 17 H
set_option maxRecDepth 20000 in
theorem vc_M_colds_40 {d : Nat} {h : mHp} {out : mOut} {v1 : Int32} {v2 : Int32} {v3 : Int32} {v4 : Int32} (H : (((h.1 114 3) ≤ v4 → ((v3 = 0 → mRuns (d + 1) 45 101 [some (.ref 114), some (.int v1), some (.int v2), none, none] [.int (-1)] h out) ∧
 (¬ v3 = 0 → (∃ (x2 : Int32) (h1 : mHp), mRuns d 46 0 [some (.ref 114), some (.int v1), some (.int v2), none, none, none, none, none, none, none] [] h (.inl (some (.int x2), h1)) ∧
 mRuns (d + 1) 45 101 [some (.ref 114), some (.int v1), some (.int v2), none, none] [.int x2] h1 out)))) ∧
 (¬ (h.1 114 3) ≤ v4 → ((v3 = 0 → mRuns (d + 1) 45 40 [some (.ref 114), some (.int v1), some (.int v2), some (.int (nI 0)), some (.int (v4 + nI 1))] [] h out) ∧
 (¬ v3 = 0 → ((((v2 >>> (v4 &&& 31)) &&& (nI 1)) = 0 → mRuns (d + 1) 45 40 [some (.ref 114), some (.int v1), some (.int v2), some (.int (nI 1)), some (.int (v4 + nI 1))] [] h out) ∧
 (¬ ((v2 >>> (v4 &&& 31)) &&& (nI 1)) = 0 → (vp_in ((nI 2) * v4) 10 ∧ (((h.1 117 (((nI 2) * v4).toNatClampNeg)) = (nI 4) → mRuns (d + 1) 45 40 [some (.ref 114), some (.int v1), some (.int v2), some (.int (nI 0)), some (.int (v4 + nI 1))] [] h out) ∧
 (¬ (h.1 117 (((nI 2) * v4).toNatClampNeg)) = (nI 4) → mRuns (d + 1) 45 40 [some (.ref 114), some (.int v1), some (.int v2), some (.int (nI 1)), some (.int (v4 + nI 1))] [] h out)))))))))) :
  mRuns (d + 1) 45 40 [some (.ref 114), some (.int v1), some (.int v2), some (.int v3), some (.int v4)] [] h out := mVc_from 26 H
set_option maxRecDepth 20000 in
theorem vc_M_colds_101 {d : Nat} {h : mHp} {out : mOut} {s0 : Int32} {v1 : Int32} {v2 : Int32} (H : (vp_in ((nI 3) * v1) 18 ∧ (((h.1 115 (((nI 3) * v1).toNatClampNeg)) ≤ s0 → (vp_in (((nI 3) * v1) + (nI 1)) 18 ∧ (vp_in (((nI 32) * v1) + v2) 192 ∧ mRuns (d + 1) 45 12 [some (.ref 114), some (.int v1), some (.int (v2 + nI 1)), none, none] [] (mPI h 125 (((nI 32) * v1) + v2).toNatClampNeg ((h.1 115 ((((nI 3) * v1) + (nI 1)).toNatClampNeg)) - s0)) out))) ∧
 (¬ (h.1 115 (((nI 3) * v1).toNatClampNeg)) ≤ s0 → (vp_in (((nI 32) * v1) + v2) 192 ∧ mRuns (d + 1) 45 12 [some (.ref 114), some (.int v1), some (.int (v2 + nI 1)), none, none] [] (mPI h 125 (((nI 32) * v1) + v2).toNatClampNeg (nI 100000)) out))))) :
  mRuns (d + 1) 45 101 [some (.ref 114), some (.int v1), some (.int v2), none, none] [.int s0] h out := mVc_from 30 H
-- TasterTableModel.latest(II)I
set_option maxRecDepth 20000 in
theorem vc_M_latest {d : Nat} {h : mHp} {out : mOut} {a1 : Int32} {a2 : Int32} (H : (vp_in (((nI 3) * a1) + (nI 1)) 18 ∧ mRuns (d + 1) 46 14 [some (.ref 114), some (.int a1), some (.int a2), some (.int (h.1 115 ((((nI 3) * a1) + (nI 1)).toNatClampNeg))), some (.int (nI 0)), none, none, none, none, none] [] h out)) :
  mRuns (d + 1) 46 0 [some (.ref 114), some (.int a1), some (.int a2), none, none, none, none, none, none, none] [] h out := mVc_from 12 H
set_option maxRecDepth 20000 in
theorem vc_M_latest_14 {d : Nat} {h : mHp} {out : mOut} {v1 : Int32} {v2 : Int32} {v3 : Int32} {v4 : Int32} (H : (((h.1 114 2) ≤ v4 → out = .inl (some (.int v3), h)) ∧
 (¬ (h.1 114 2) ≤ v4 → mRuns (d + 1) 46 32 [some (.ref 114), some (.int v1), some (.int v2), some (.int v3), some (.int v4), some (.int (nI 0)), some (.int (nI 0)), some (.int (nI 0)), none, none] [] h out))) :
  mRuns (d + 1) 46 14 [some (.ref 114), some (.int v1), some (.int v2), some (.int v3), some (.int v4), none, none, none, none, none] [] h out := mVc_from 11 H
set_option maxRecDepth 20000 in
theorem vc_M_latest_32 {d : Nat} {h : mHp} {out : mOut} {v1 : Int32} {v2 : Int32} {v3 : Int32} {v4 : Int32} {v5 : Int32} {v6 : Int32} {v7 : Int32} (H : (((h.1 114 32) < v7 → (vp_in (((nI 3) * v1) + (nI 1)) 18 ∧ ((v3 ≤ ((h.1 115 ((((nI 3) * v1) + (nI 1)).toNatClampNeg)) - v6) → mRuns (d + 1) 46 14 [some (.ref 114), some (.int v1), some (.int v2), some (.int v3), some (.int (v4 + nI 1)), none, none, none, none, none] [] h out) ∧
 (¬ v3 ≤ ((h.1 115 ((((nI 3) * v1) + (nI 1)).toNatClampNeg)) - v6) → mRuns (d + 1) 46 14 [some (.ref 114), some (.int v1), some (.int v2), some (.int ((h.1 115 ((((nI 3) * v1) + (nI 1)).toNatClampNeg)) - v6)), some (.int (v4 + nI 1)), none, none, none, none, none] [] h out)))) ∧
 (¬ (h.1 114 32) < v7 → mRuns (d + 1) 46 47 [some (.ref 114), some (.int v1), some (.int v2), some (.int v3), some (.int v4), some (.int v5), none, some (.int v7), some (.int (-1)), some (.int (nI 0))] [] h out))) :
  mRuns (d + 1) 46 32 [some (.ref 114), some (.int v1), some (.int v2), some (.int v3), some (.int v4), some (.int v5), some (.int v6), some (.int v7), none, none] [] h out := mVc_from 24 H
set_option maxRecDepth 20000 in
theorem vc_M_latest_47 {d : Nat} {h : mHp} {out : mOut} {v1 : Int32} {v2 : Int32} {v3 : Int32} {v4 : Int32} {v5 : Int32} {v7 : Int32} {v8 : Int32} {v9 : Int32} (H : (((h.1 114 3) ≤ v9 → ((¬ v8 = (-1) → (∃ (x2 : Int32) (h1 : mHp), mRuns d 40 0 [some (.ref 114), some (.int v8), some (.int v4), some (.int (nI 1))] [] h (.inl (some (.int x2), h1)) ∧
 mRuns (d + 1) 46 32 [some (.ref 114), some (.int v1), some (.int v2), some (.int v3), some (.int v4), some (.int (v5 ||| ((nI 1) <<< (v8 &&& 31)))), some (.int x2), some (.int (v7 + nI 1)), none, none] [] h1 out)) ∧
 (v8 = (-1) → out = .inl (some (.int (-1)), h)))) ∧
 (¬ (h.1 114 3) ≤ v9 → ((((v2 >>> (v9 &&& 31)) &&& (nI 1)) = 0 → mRuns (d + 1) 46 47 [some (.ref 114), some (.int v1), some (.int v2), some (.int v3), some (.int v4), some (.int v5), none, some (.int v7), some (.int v8), some (.int (v9 + nI 1))] [] h out) ∧
 (¬ ((v2 >>> (v9 &&& 31)) &&& (nI 1)) = 0 → ((((v5 >>> (v9 &&& 31)) &&& (nI 1)) = (nI 1) → mRuns (d + 1) 46 47 [some (.ref 114), some (.int v1), some (.int v2), some (.int v3), some (.int v4), some (.int v5), none, some (.int v7), some (.int v8), some (.int (v9 + nI 1))] [] h out) ∧
 (¬ ((v5 >>> (v9 &&& 31)) &&& (nI 1)) = (nI 1) → (∃ (x4 : Int32) (h3 : mHp), mRuns d 40 0 [some (.ref 114), some (.int v9), some (.int v4), some (.int (nI 1))] [] h (.inl (some (.int x4), h3)) ∧
 ((¬ x4 = (-1) → ((v8 = (-1) → mRuns (d + 1) 46 47 [some (.ref 114), some (.int v1), some (.int v2), some (.int v3), some (.int v4), some (.int v5), none, some (.int v7), some (.int v9), some (.int (v9 + nI 1))] [] h3 out) ∧
 (¬ v8 = (-1) → (∃ (x6 : Int32) (h5 : mHp), mRuns d 40 0 [some (.ref 114), some (.int v9), some (.int v4), some (.int (nI 1))] [] h3 (.inl (some (.int x6), h5)) ∧
 (∃ (x8 : Int32) (h7 : mHp), mRuns d 40 0 [some (.ref 114), some (.int v8), some (.int v4), some (.int (nI 1))] [] h5 (.inl (some (.int x8), h7)) ∧
 ((x8 ≤ x6 → mRuns (d + 1) 46 47 [some (.ref 114), some (.int v1), some (.int v2), some (.int v3), some (.int v4), some (.int v5), none, some (.int v7), some (.int v8), some (.int (v9 + nI 1))] [] h7 out) ∧
 (¬ x8 ≤ x6 → mRuns (d + 1) 46 47 [some (.ref 114), some (.int v1), some (.int v2), some (.int v3), some (.int v4), some (.int v5), none, some (.int v7), some (.int v9), some (.int (v9 + nI 1))] [] h7 out))))))) ∧
 (x4 = (-1) → mRuns (d + 1) 46 47 [some (.ref 114), some (.int v1), some (.int v2), some (.int v3), some (.int v4), some (.int v5), none, some (.int v7), some (.int v8), some (.int (v9 + nI 1))] [] h3 out)))))))))) :
  mRuns (d + 1) 46 47 [some (.ref 114), some (.int v1), some (.int v2), some (.int v3), some (.int v4), some (.int v5), none, some (.int v7), some (.int v8), some (.int v9)] [] h out := mVc_from 43 H
-- TasterTableModel.bits(I)I
set_option maxRecDepth 20000 in
theorem vc_M_bits {d : Nat} {h : mHp} {out : mOut} {a1 : Int32} (H : mRuns (d + 1) 47 4 [some (.int a1), some (.int (nI 0)), some (.int (nI 0))] [] h out) :
  mRuns (d + 1) 47 0 [some (.int a1), none, none] [] h out := mVc_from 5 H
set_option maxRecDepth 20000 in
theorem vc_M_bits_4 {d : Nat} {h : mHp} {out : mOut} {v0 : Int32} {v1 : Int32} {v2 : Int32} (H : (((nI 5) ≤ v2 → out = .inl (some (.int v1), h)) ∧
 (¬ (nI 5) ≤ v2 → mRuns (d + 1) 47 4 [some (.int v0), some (.int (v1 + ((v0 >>> (v2 &&& 31)) &&& (nI 1)))), some (.int (v2 + nI 1))] [] h out))) :
  mRuns (d + 1) 47 4 [some (.int v0), some (.int v1), some (.int v2)] [] h out := mVc_from 14 H
-- TasterTableModel.fills(I)V
set_option maxRecDepth 20000 in
theorem vc_M_fills {d : Nat} {h : mHp} {out : mOut} {a1 : Int32} (H : mRuns (d + 1) 48 5 [some (.ref 114), some (.int a1), some (.int (h.1 114 1)), none, none, none, none, none] [] h out) :
  mRuns (d + 1) 48 0 [some (.ref 114), some (.int a1), none, none, none, none, none, none] [] h out := mVc_from 4 H
set_option maxRecDepth 20000 in
theorem vc_M_fills_5 {d : Nat} {h : mHp} {out : mOut} {v1 : Int32} {v2 : Int32} (H : ((v2 < 0 → out = .inl (none, h)) ∧
 (¬ v2 < 0 → mRuns (d + 1) 48 11 [some (.ref 114), some (.int v1), some (.int v2), some (.int (nI 0)), none, none, none, none] [] h out))) :
  mRuns (d + 1) 48 5 [some (.ref 114), some (.int v1), some (.int v2), none, none, none, none, none] [] h out := mVc_from 5 H
set_option maxRecDepth 20000 in
theorem vc_M_fills_11 {d : Nat} {h : mHp} {out : mOut} {v1 : Int32} {v2 : Int32} {v3 : Int32} (H : (vp_in (h.1 114 3) 6 ∧ (((h.1 129 ((h.1 114 3).toNatClampNeg)) ≤ v3 → mRuns (d + 1) 48 5 [some (.ref 114), some (.int v1), some (.int (v2 + (-1))), none, none, none, none, none] [] h out) ∧
 (¬ (h.1 129 ((h.1 114 3).toNatClampNeg)) ≤ v3 → (vp_in (((nI 16807) * v2) + v3) 117649 ∧ (∃ (x2 : Int32) (h1 : mHp), mRuns d 49 0 [some (.ref 114), some (.int v3), some (.int v1), some (.int v2), none] [] (mPI h 126 (((nI 16807) * v2) + v3).toNatClampNeg (nI 100000)) (.inl (some (.int x2), h1)) ∧
 ((¬ x2 = 0 → ((¬ v2 = (h1.1 114 1) → mRuns (d + 1) 48 72 [some (.ref 114), some (.int v1), some (.int v2), some (.int v3), some (.int (nI 100000)), some (.int (nI 0)), none, none] [] h1 out) ∧
 (v2 = (h1.1 114 1) → mRuns (d + 1) 48 72 [some (.ref 114), some (.int v1), some (.int v2), some (.int v3), some (.int (nI 0)), some (.int (nI 0)), none, none] [] h1 out))) ∧
 (x2 = 0 → mRuns (d + 1) 48 11 [some (.ref 114), some (.int v1), some (.int v2), some (.int (v3 + nI 1)), none, none, none, none] [] h1 out)))))))) :
  mRuns (d + 1) 48 11 [some (.ref 114), some (.int v1), some (.int v2), some (.int v3), none, none, none, none] [] h out := mVc_from 32 H
set_option maxRecDepth 20000 in
theorem vc_M_fills_72 {d : Nat} {h : mHp} {out : mOut} {v1 : Int32} {v2 : Int32} {v3 : Int32} {v4 : Int32} {v5 : Int32} (H : ((((nI 1) <<< ((h.1 114 3) &&& 31)) ≤ v5 → mRuns (d + 1) 48 191 [some (.ref 114), some (.int v1), some (.int v2), some (.int v3), some (.int v4), none, none, none] [] h out) ∧
 (¬ ((nI 1) <<< ((h.1 114 3) &&& 31)) ≤ v5 → (((h.1 114 1) ≤ v2 → mRuns (d + 1) 48 191 [some (.ref 114), some (.int v1), some (.int v2), some (.int v3), some (.int v4), none, none, none] [] h out) ∧
 (¬ (h.1 114 1) ≤ v2 → ((¬ (v5 &&& (v1 ^^^ (-1))) = 0 → mRuns (d + 1) 48 72 [some (.ref 114), some (.int v1), some (.int v2), some (.int v3), some (.int v4), some (.int (v5 + nI 1)), none, none] [] h out) ∧
 ((v5 &&& (v1 ^^^ (-1))) = 0 → (vp_in (((nI 32) * v2) + v5) 192 ∧ ((¬ (h.1 125 ((((nI 32) * v2) + v5).toNatClampNeg)) = (nI 100000) → (∃ (x2 : Int32) (h1 : mHp), mRuns d 50 0 [some (.ref 114), some (.int v3), some (.int v5), none, none] [] h (.inl (some (.int x2), h1)) ∧
 ((¬ x2 = (-1) → (vp_in (((nI 32) * v2) + v5) 192 ∧ (vp_in (((nI 16807) * (v2 + (nI 1))) + x2) 117649 ∧ ((v4 ≤ ((h1.1 125 ((((nI 32) * v2) + v5).toNatClampNeg)) + (h1.1 126 ((((nI 16807) * (v2 + (nI 1))) + x2).toNatClampNeg))) → mRuns (d + 1) 48 72 [some (.ref 114), some (.int v1), some (.int v2), some (.int v3), some (.int v4), some (.int (v5 + nI 1)), none, none] [] h1 out) ∧
 (¬ v4 ≤ ((h1.1 125 ((((nI 32) * v2) + v5).toNatClampNeg)) + (h1.1 126 ((((nI 16807) * (v2 + (nI 1))) + x2).toNatClampNeg))) → mRuns (d + 1) 48 72 [some (.ref 114), some (.int v1), some (.int v2), some (.int v3), some (.int ((h1.1 125 ((((nI 32) * v2) + v5).toNatClampNeg)) + (h1.1 126 ((((nI 16807) * (v2 + (nI 1))) + x2).toNatClampNeg)))), some (.int (v5 + nI 1)), none, none] [] h1 out))))) ∧
 (x2 = (-1) → mRuns (d + 1) 48 72 [some (.ref 114), some (.int v1), some (.int v2), some (.int v3), some (.int v4), some (.int (v5 + nI 1)), none, none] [] h1 out)))) ∧
 ((h.1 125 ((((nI 32) * v2) + v5).toNatClampNeg)) = (nI 100000) → mRuns (d + 1) 48 72 [some (.ref 114), some (.int v1), some (.int v2), some (.int v3), some (.int v4), some (.int (v5 + nI 1)), none, none] [] h out)))))))))) :
  mRuns (d + 1) 48 72 [some (.ref 114), some (.int v1), some (.int v2), some (.int v3), some (.int v4), some (.int v5), none, none] [] h out := mVc_from 63 H
set_option maxRecDepth 20000 in
theorem vc_M_fills_191 {d : Nat} {h : mHp} {out : mOut} {v1 : Int32} {v2 : Int32} {v3 : Int32} {v4 : Int32} (H : (vp_in (((nI 16807) * v2) + v3) 117649 ∧ mRuns (d + 1) 48 11 [some (.ref 114), some (.int v1), some (.int v2), some (.int (v3 + nI 1)), none, none, none, none] [] (mPI h 126 (((nI 16807) * v2) + v3).toNatClampNeg v4) out)) :
  mRuns (d + 1) 48 191 [some (.ref 114), some (.int v1), some (.int v2), some (.int v3), some (.int v4), none, none, none] [] h out := mVc_from 12 H
-- TasterTableModel.isUsed(III)Z
set_option maxRecDepth 20000 in
theorem vc_M_isUsed {d : Nat} {h : mHp} {out : mOut} {a1 : Int32} {a2 : Int32} {a3 : Int32} (H : mRuns (d + 1) 49 3 [some (.ref 114), some (.int a1), some (.int a2), some (.int a3), some (.int (nI 0))] [] h out) :
  mRuns (d + 1) 49 0 [some (.ref 114), some (.int a1), some (.int a2), some (.int a3), none] [] h out := mVc_from 3 H
set_option maxRecDepth 20000 in
theorem vc_M_isUsed_3 {d : Nat} {h : mHp} {out : mOut} {v1 : Int32} {v2 : Int32} {v3 : Int32} {v4 : Int32} (H : (((h.1 114 3) ≤ v4 → (((nI 1) = 0 ∨ (nI 1) = 1) ∧ out = .inl (some (.int (nI 1)), h))) ∧
 (¬ (h.1 114 3) ≤ v4 → (vp_in v4 6 ∧ (¬ (h.1 129 (v4.toNatClampNeg)) = 0 ∧ (¬ (nI 7) = 0 ∧ ((¬ ((v2 >>> (v4 &&& 31)) &&& (nI 1)) = (nI 1) → ((((v1 / (h.1 129 (v4.toNatClampNeg))) - (v1 / (h.1 129 (v4.toNatClampNeg))) / (nI 7) * (nI 7)) ≤ (nI 0) → mRuns (d + 1) 49 3 [some (.ref 114), some (.int v1), some (.int v2), some (.int v3), some (.int (v4 + nI 1))] [] h out) ∧
 (¬ ((v1 / (h.1 129 (v4.toNatClampNeg))) - (v1 / (h.1 129 (v4.toNatClampNeg))) / (nI 7) * (nI 7)) ≤ (nI 0) → (((nI 0) = 0 ∨ (nI 0) = 1) ∧ out = .inl (some (.int (nI 0)), h))))) ∧
 (((v2 >>> (v4 &&& 31)) &&& (nI 1)) = (nI 1) → ((((v1 / (h.1 129 (v4.toNatClampNeg))) - (v1 / (h.1 129 (v4.toNatClampNeg))) / (nI 7) * (nI 7)) ≤ v3 → mRuns (d + 1) 49 3 [some (.ref 114), some (.int v1), some (.int v2), some (.int v3), some (.int (v4 + nI 1))] [] h out) ∧
 (¬ ((v1 / (h.1 129 (v4.toNatClampNeg))) - (v1 / (h.1 129 (v4.toNatClampNeg))) / (nI 7) * (nI 7)) ≤ v3 → (((nI 0) = 0 ∨ (nI 0) = 1) ∧ out = .inl (some (.int (nI 0)), h)))))))))))) :
  mRuns (d + 1) 49 3 [some (.ref 114), some (.int v1), some (.int v2), some (.int v3), some (.int v4)] [] h out := mVc_from 25 H
-- TasterTableModel.more(II)I
set_option maxRecDepth 20000 in
theorem vc_M_more {d : Nat} {h : mHp} {out : mOut} {a1 : Int32} {a2 : Int32} (H : mRuns (d + 1) 50 5 [some (.ref 114), some (.int a1), some (.int a2), some (.int a1), some (.int (nI 0))] [] h out) :
  mRuns (d + 1) 50 0 [some (.ref 114), some (.int a1), some (.int a2), none, none] [] h out := mVc_from 5 H
set_option maxRecDepth 20000 in
theorem vc_M_more_5 {d : Nat} {h : mHp} {out : mOut} {v1 : Int32} {v2 : Int32} {v3 : Int32} {v4 : Int32} (H : (((h.1 114 3) ≤ v4 → out = .inl (some (.int v3), h)) ∧
 (¬ (h.1 114 3) ≤ v4 → ((¬ ((v2 >>> (v4 &&& 31)) &&& (nI 1)) = 0 → (vp_in v4 6 ∧ (¬ (h.1 129 (v4.toNatClampNeg)) = 0 ∧ (¬ (nI 7) = 0 ∧ (vp_in (((nI 2) * v4) + (nI 1)) 10 ∧ ((((v1 / (h.1 129 (v4.toNatClampNeg))) - (v1 / (h.1 129 (v4.toNatClampNeg))) / (nI 7) * (nI 7)) < (h.1 117 ((((nI 2) * v4) + (nI 1)).toNatClampNeg)) → (vp_in v4 6 ∧ mRuns (d + 1) 50 5 [some (.ref 114), some (.int v1), some (.int v2), some (.int (v3 + (h.1 129 (v4.toNatClampNeg)))), some (.int (v4 + nI 1))] [] h out)) ∧
 (¬ ((v1 / (h.1 129 (v4.toNatClampNeg))) - (v1 / (h.1 129 (v4.toNatClampNeg))) / (nI 7) * (nI 7)) < (h.1 117 ((((nI 2) * v4) + (nI 1)).toNatClampNeg)) → out = .inl (some (.int (-1)), h)))))))) ∧
 (((v2 >>> (v4 &&& 31)) &&& (nI 1)) = 0 → mRuns (d + 1) 50 5 [some (.ref 114), some (.int v1), some (.int v2), some (.int v3), some (.int (v4 + nI 1))] [] h out))))) :
  mRuns (d + 1) 50 5 [some (.ref 114), some (.int v1), some (.int v2), some (.int v3), some (.int v4)] [] h out := mVc_from 37 H
-- TasterTableModel.rows(I)V
set_option maxRecDepth 20000 in
theorem vc_M_rows {d : Nat} {h : mHp} {out : mOut} {a1 : Int32} (H : mRuns (d + 1) 51 4 [some (.ref 114), some (.int a1), some (.int (nI 0)), some (.int (nI 0)), none, none, none] [] h out) :
  mRuns (d + 1) 51 0 [some (.ref 114), some (.int a1), none, none, none, none, none] [] h out := mVc_from 5 H
set_option maxRecDepth 20000 in
theorem vc_M_rows_4 {d : Nat} {h : mHp} {out : mOut} {v1 : Int32} {v2 : Int32} {v3 : Int32} (H : (((h.1 114 1) ≤ v3 → out = .inl (none, h)) ∧
 (¬ (h.1 114 1) ≤ v3 → mRuns (d + 1) 51 18 [some (.ref 114), some (.int v1), some (.int v2), some (.int v3), some (.int (nI 0)), some (.int (nI 0)), none] [] h out))) :
  mRuns (d + 1) 51 4 [some (.ref 114), some (.int v1), some (.int v2), some (.int v3), none, none, none] [] h out := mVc_from 9 H
set_option maxRecDepth 20000 in
theorem vc_M_rows_18 {d : Nat} {h : mHp} {out : mOut} {v1 : Int32} {v2 : Int32} {v3 : Int32} {v4 : Int32} {v5 : Int32} (H : ((¬ v5 = 0 → (vp_in v3 6 ∧ (∃ (x2 : Int32) (h1 : mHp), mRuns d 50 0 [some (.ref 114), some (.int v2), some (.int v4), none, none] [] (mPI h 128 v3.toNatClampNeg v4) (.inl (some (.int x2), h1)) ∧
 mRuns (d + 1) 51 4 [some (.ref 114), some (.int v1), some (.int x2), some (.int (v3 + nI 1)), none, none, none] [] h1 out))) ∧
 (v5 = 0 → ((¬ (v4 &&& (v1 ^^^ (-1))) = 0 → mRuns (d + 1) 51 61 [some (.ref 114), some (.int v1), some (.int v2), some (.int v3), some (.int v4), none, none] [.int (-1)] h out) ∧
 ((v4 &&& (v1 ^^^ (-1))) = 0 → (vp_in (((nI 32) * v3) + v4) 192 ∧ ((¬ (h.1 125 ((((nI 32) * v3) + v4).toNatClampNeg)) = (nI 100000) → (∃ (x4 : Int32) (h3 : mHp), mRuns d 50 0 [some (.ref 114), some (.int v2), some (.int v4), none, none] [] h (.inl (some (.int x4), h3)) ∧
 mRuns (d + 1) 51 61 [some (.ref 114), some (.int v1), some (.int v2), some (.int v3), some (.int v4), none, none] [.int x4] h3 out)) ∧
 ((h.1 125 ((((nI 32) * v3) + v4).toNatClampNeg)) = (nI 100000) → mRuns (d + 1) 51 61 [some (.ref 114), some (.int v1), some (.int v2), some (.int v3), some (.int v4), none, none] [.int (-1)] h out)))))))) :
  mRuns (d + 1) 51 18 [some (.ref 114), some (.int v1), some (.int v2), some (.int v3), some (.int v4), some (.int v5), none] [] h out := mVc_from 23 H
set_option maxRecDepth 20000 in
theorem vc_M_rows_61 {d : Nat} {h : mHp} {out : mOut} {s0 : Int32} {v1 : Int32} {v2 : Int32} {v3 : Int32} {v4 : Int32} (H : ((s0 = (-1) → ((¬ (nI 0) = 0 → mRuns (d + 1) 51 18 [some (.ref 114), some (.int v1), some (.int v2), some (.int v3), some (.int v4), some (.int (nI 0)), none] [] h out) ∧
 ((nI 0) = 0 → mRuns (d + 1) 51 18 [some (.ref 114), some (.int v1), some (.int v2), some (.int v3), some (.int (v4 + nI 1)), some (.int (nI 0)), none] [] h out))) ∧
 (¬ s0 = (-1) → (vp_in (((nI 32) * v3) + v4) 192 ∧ (vp_in (((nI 16807) * (v3 + (nI 1))) + s0) 117649 ∧ (vp_in (((nI 16807) * v3) + v2) 117649 ∧ ((¬ ((h.1 125 ((((nI 32) * v3) + v4).toNatClampNeg)) + (h.1 126 ((((nI 16807) * (v3 + (nI 1))) + s0).toNatClampNeg))) = (h.1 126 ((((nI 16807) * v3) + v2).toNatClampNeg)) → ((¬ (nI 0) = 0 → mRuns (d + 1) 51 18 [some (.ref 114), some (.int v1), some (.int v2), some (.int v3), some (.int v4), some (.int (nI 0)), none] [] h out) ∧
 ((nI 0) = 0 → mRuns (d + 1) 51 18 [some (.ref 114), some (.int v1), some (.int v2), some (.int v3), some (.int (v4 + nI 1)), some (.int (nI 0)), none] [] h out))) ∧
 (((h.1 125 ((((nI 32) * v3) + v4).toNatClampNeg)) + (h.1 126 ((((nI 16807) * (v3 + (nI 1))) + s0).toNatClampNeg))) = (h.1 126 ((((nI 16807) * v3) + v2).toNatClampNeg)) → ((¬ (nI 1) = 0 → mRuns (d + 1) 51 18 [some (.ref 114), some (.int v1), some (.int v2), some (.int v3), some (.int v4), some (.int (nI 1)), none] [] h out) ∧
 ((nI 1) = 0 → mRuns (d + 1) 51 18 [some (.ref 114), some (.int v1), some (.int v2), some (.int v3), some (.int (v4 + nI 1)), some (.int (nI 1)), none] [] h out)))))))))) :
  mRuns (d + 1) 51 61 [some (.ref 114), some (.int v1), some (.int v2), some (.int v3), some (.int v4), none, none] [.int s0] h out := mVc_from 40 H
-- TasterTableModel.isLess()Z
set_option maxRecDepth 20000 in
theorem vc_M_isLess {d : Nat} {h : mHp} {out : mOut}  (H : mRuns (d + 1) 52 2 [some (.ref 114), some (.int (nI 0))] [] h out) :
  mRuns (d + 1) 52 0 [some (.ref 114), none] [] h out := mVc_from 3 H
set_option maxRecDepth 20000 in
theorem vc_M_isLess_2 {d : Nat} {h : mHp} {out : mOut} {v1 : Int32} (H : (((h.1 114 1) ≤ v1 → (((nI 0) = 0 ∨ (nI 0) = 1) ∧ out = .inl (some (.int (nI 0)), h))) ∧
 (¬ (h.1 114 1) ≤ v1 → (vp_in v1 6 ∧ (vp_in v1 6 ∧ (((h.1 128 (v1.toNatClampNeg)) = (h.1 127 (v1.toNatClampNeg)) → mRuns (d + 1) 52 2 [some (.ref 114), some (.int (v1 + nI 1))] [] h out) ∧
 (¬ (h.1 128 (v1.toNatClampNeg)) = (h.1 127 (v1.toNatClampNeg)) → (vp_in v1 6 ∧ (vp_in v1 6 ∧ (((h.1 127 (v1.toNatClampNeg)) ≤ (h.1 128 (v1.toNatClampNeg)) → (((nI 0) = 0 ∨ (nI 0) = 1) ∧ out = .inl (some (.int (nI 0)), h))) ∧
 (¬ (h.1 127 (v1.toNatClampNeg)) ≤ (h.1 128 (v1.toNatClampNeg)) → (((nI 1) = 0 ∨ (nI 1) = 1) ∧ out = .inl (some (.int (nI 1)), h))))))))))))) :
  mRuns (d + 1) 52 2 [some (.ref 114), some (.int v1)] [] h out := mVc_from 25 H
-- TasterTableModel.planned(II)I
set_option maxRecDepth 20000 in
theorem vc_M_planned {d : Nat} {h : mHp} {out : mOut} {a1 : Int32} {a2 : Int32} (H : (∃ (x2 : Int32) (h1 : mHp), mRuns d 33 0 [some (.ref 114), some (.int a1)] [] (mPI h 114 0 (nI 0)) (.inl (some (.int x2), h1)) ∧
 ((x2 = 0 → out = .inl (some (.int (nI 0)), h1)) ∧
 (¬ x2 = 0 → (((h1.1 114 38) = 0 → mRuns (d + 1) 53 35 [some (.ref 114), some (.int a1), some (.int a2)] [.int (nI 0), .ref 114] h1 out) ∧
 (¬ (h1.1 114 38) = 0 → ((a2 = 0 → mRuns (d + 1) 53 35 [some (.ref 114), some (.int a1), some (.int a2)] [.int (nI 1), .ref 114] h1 out) ∧
 (¬ a2 = 0 → ((¬ a2 = (nI 1) → mRuns (d + 1) 53 35 [some (.ref 114), some (.int a1), some (.int a2)] [.int (nI 0), .ref 114] h1 out) ∧
 (a2 = (nI 1) → mRuns (d + 1) 53 35 [some (.ref 114), some (.int a1), some (.int a2)] [.int (nI 1), .ref 114] h1 out)))))))))) :
  mRuns (d + 1) 53 0 [some (.ref 114), some (.int a1), some (.int a2)] [] h out := mVc_from 19 H
set_option maxRecDepth 20000 in
theorem vc_M_planned_35 {d : Nat} {h : mHp} {out : mOut} {s0 : Int32} {v1 : Int32} {v2 : Int32} (H : (∃ (x2 : Int32) (h1 : mHp), mRuns d 8 0 [some (.ref 114), some (.int s0), some (.int (nI 1))] [] h (.inl (some (.int x2), h1)) ∧
 ((x2 = 0 → out = .inl (some (.int (nI 0)), h1)) ∧
 (¬ x2 = 0 → (vp_in (((nI 2) * v1) + v2) 12 ∧ out = .inl (some (.int (h1.1 130 ((((nI 2) * v1) + v2).toNatClampNeg))), h1)))))) :
  mRuns (d + 1) 53 35 [some (.ref 114), some (.int v1), some (.int v2)] [.int s0, .ref 114] h out := mVc_from 13 H
-- TasterTableModel.bars(I)I
set_option maxRecDepth 20000 in
theorem vc_M_bars {d : Nat} {h : mHp} {out : mOut} {a1 : Int32} (H : (∃ (x2 : Int32) (h1 : mHp), mRuns d 43 0 [some (.ref 114), some (.int a1), some (.int (nI 1))] [] (mPI h 114 0 (nI 0)) (.inl (some (.int x2), h1)) ∧
 ((¬ x2 = 0 → (∃ (x4 : Int32) (h3 : mHp), mRuns d 44 0 [some (.ref 114), some (.int a1), some (.int (nI 0)), none, none, none] [] h1 (.inl (some (.int x4), h3)) ∧
 ((x4 = 0 → mRuns (d + 1) 54 29 [some (.ref 114), some (.int a1), some (.int (nI 0)), none, none, none, none] [] h3 out) ∧
 (¬ x4 = 0 → out = .inl (some (.int (-1)), h3))))) ∧
 (x2 = 0 → out = .inl (some (.int (nI 0)), h1))))) :
  mRuns (d + 1) 54 0 [some (.ref 114), some (.int a1), none, none, none, none, none] [] h out := mVc_from 16 H
set_option maxRecDepth 20000 in
theorem vc_M_bars_29 {d : Nat} {h : mHp} {out : mOut} {v1 : Int32} {v2 : Int32} (H : (((h.1 114 1) ≤ v2 → out = .inl (some (.int (nI 99)), h)) ∧
 (¬ (h.1 114 1) ≤ v2 → mRuns (d + 1) 54 39 [some (.ref 114), some (.int v1), some (.int v2), some (.int (nI 0)), none, none, none] [] h out))) :
  mRuns (d + 1) 54 29 [some (.ref 114), some (.int v1), some (.int v2), none, none, none, none] [] h out := mVc_from 7 H
set_option maxRecDepth 20000 in
theorem vc_M_bars_39 {d : Nat} {h : mHp} {out : mOut} {v1 : Int32} {v2 : Int32} {v3 : Int32} (H : (((h.1 114 2) ≤ v3 → mRuns (d + 1) 54 29 [some (.ref 114), some (.int v1), some (.int (v2 + nI 1)), none, none, none, none] [] h out) ∧
 (¬ (h.1 114 2) ≤ v3 → mRuns (d + 1) 54 53 [some (.ref 114), some (.int v1), some (.int v2), some (.int v3), some (.int (nI 0)), some (.int (nI 0)), none] [] h out))) :
  mRuns (d + 1) 54 39 [some (.ref 114), some (.int v1), some (.int v2), some (.int v3), none, none, none] [] h out := mVc_from 9 H
set_option maxRecDepth 20000 in
theorem vc_M_bars_53 {d : Nat} {h : mHp} {out : mOut} {v1 : Int32} {v2 : Int32} {v3 : Int32} {v4 : Int32} {v5 : Int32} (H : (((h.1 114 3) ≤ v5 → ((v1 < v4 → mRuns (d + 1) 54 39 [some (.ref 114), some (.int v1), some (.int v2), some (.int (v3 + nI 1)), none, none, none] [] h out) ∧
 (¬ v1 < v4 → out = .inl (some (.int (((nI 10) * v2) + v3)), h)))) ∧
 (¬ (h.1 114 3) ≤ v5 → (vp_in ((nI 2) * v5) 10 ∧ ((¬ (h.1 117 (((nI 2) * v5).toNatClampNeg)) = (nI 4) → (∃ (x2 : Int32) (h1 : mHp), mRuns d 40 0 [some (.ref 114), some (.int v5), some (.int v3), some (.int (nI 1))] [] h (.inl (some (.int x2), h1)) ∧
 mRuns (d + 1) 54 87 [some (.ref 114), some (.int v1), some (.int v2), some (.int v3), some (.int v4), some (.int v5), none] [.int x2] h1 out)) ∧
 ((h.1 117 (((nI 2) * v5).toNatClampNeg)) = (nI 4) → mRuns (d + 1) 54 87 [some (.ref 114), some (.int v1), some (.int v2), some (.int v3), some (.int v4), some (.int v5), none] [.int (-1)] h out)))))) :
  mRuns (d + 1) 54 53 [some (.ref 114), some (.int v1), some (.int v2), some (.int v3), some (.int v4), some (.int v5), none] [] h out := mVc_from 18 H
set_option maxRecDepth 20000 in
theorem vc_M_bars_87 {d : Nat} {h : mHp} {out : mOut} {s0 : Int32} {v1 : Int32} {v2 : Int32} {v3 : Int32} {v4 : Int32} {v5 : Int32} (H : ((s0 = (-1) → mRuns (d + 1) 54 53 [some (.ref 114), some (.int v1), some (.int v2), some (.int v3), some (.int (v4 + (nI 0))), some (.int (v5 + nI 1)), none] [] h out) ∧
 (¬ s0 = (-1) → (vp_in ((nI 3) * v2) 18 ∧ (vp_in (((nI 3) * v2) + (nI 1)) 18 ∧ (((h.1 115 ((((nI 3) * v2) + (nI 1)).toNatClampNeg)) < ((h.1 115 (((nI 3) * v2).toNatClampNeg)) + s0) → mRuns (d + 1) 54 53 [some (.ref 114), some (.int v1), some (.int v2), some (.int v3), some (.int (v4 + (nI 0))), some (.int (v5 + nI 1)), none] [] h out) ∧
 (¬ (h.1 115 ((((nI 3) * v2) + (nI 1)).toNatClampNeg)) < ((h.1 115 (((nI 3) * v2).toNatClampNeg)) + s0) → mRuns (d + 1) 54 53 [some (.ref 114), some (.int v1), some (.int v2), some (.int v3), some (.int (v4 + (nI 1))), some (.int (v5 + nI 1)), none] [] h out))))))) :
  mRuns (d + 1) 54 87 [some (.ref 114), some (.int v1), some (.int v2), some (.int v3), some (.int v4), some (.int v5), none] [.int s0] h out := mVc_from 29 H
-- TasterTableModel.worth(II)I
set_option maxRecDepth 20000 in
theorem vc_M_worth {d : Nat} {h : mHp} {out : mOut} {a1 : Int32} {a2 : Int32} (H : (∃ (x2 : Int32) (h1 : mHp), mRuns d 37 0 [some (.ref 114), some (.int a1)] [] (mPI h 114 0 (nI 0)) (.inl (some (.int x2), h1)) ∧
 ((x2 = 0 → out = .inl (some (.int (nI 0)), h1)) ∧
 (¬ x2 = 0 → (∃ (x4 : Int32) (h3 : mHp), mRuns d 43 0 [some (.ref 114), some (.int a2), some (.int (nI 2))] [] h1 (.inl (some (.int x4), h3)) ∧
 ((¬ x4 = 0 → (∃ (x6 : Int32) (h5 : mHp), mRuns d 44 0 [some (.ref 114), some (.int a2), some (.int (nI 0)), none, none, none] [] h3 (.inl (some (.int x6), h5)) ∧
 ((¬ x6 = 0 → (∃ (x8 : Int32) (h7 : mHp), mRuns d 44 0 [some (.ref 114), some (.int a2), some (.int ((nI 1) <<< (a1 &&& 31))), none, none, none] [] h5 (.inl (some (.int x8), h7)) ∧
 ((x8 = 0 → out = .inl (some (.int (-1)), h7)) ∧
 (¬ x8 = 0 → out = .inl (some (.int ((((nI 1000) * ((h7.1 114 40) - (h5.1 114 40))) + (h7.1 114 39)) - (h5.1 114 39))), h7))))) ∧
 (x6 = 0 → out = .inl (some (.int (nI 0)), h5))))) ∧
 (x4 = 0 → out = .inl (some (.int (nI 0)), h3)))))))) :
  mRuns (d + 1) 55 0 [some (.ref 114), some (.int a1), some (.int a2), none, none] [] h out := mVc_from 43 H
-- TasterTableModel.ate(IIIZ)I
set_option maxRecDepth 20000 in
theorem vc_M_ate {d : Nat} {h : mHp} {out : mOut} {a1 : Int32} {a2 : Int32} {a3 : Int32} {a4 : Int32} (H : (∃ (x2 : Int32) (h1 : mHp), mRuns d 37 0 [some (.ref 114), some (.int a1)] [] (mPI h 114 0 (nI 0)) (.inl (some (.int x2), h1)) ∧
 ((x2 = 0 → out = .inl (some (.int (nI 0)), h1)) ∧
 (¬ x2 = 0 → (∃ (x4 : Int32) (h3 : mHp), mRuns d 33 0 [some (.ref 114), some (.int a2)] [] h1 (.inl (some (.int x4), h3)) ∧
 ((x4 = 0 → out = .inl (some (.int (nI 0)), h3)) ∧
 (¬ x4 = 0 → ((a4 = 0 → (∃ (x6 : Int32) (h5 : mHp), mRuns d 57 0 [some (.ref 114), some (.int a1), some (.int a2), some (.int a3), some (.int (nI 0))] [] h3 (.inl (some (.int x6), h5)) ∧
 out = .inl (some (.int x6), h5))) ∧
 (¬ a4 = 0 → (∃ (x8 : Int32) (h7 : mHp), mRuns d 57 0 [some (.ref 114), some (.int a1), some (.int a2), some (.int a3), some (.int (nI 1))] [] h3 (.inl (some (.int x8), h7)) ∧
 out = .inl (some (.int x8), h7))))))))))) :
  mRuns (d + 1) 56 0 [some (.ref 114), some (.int a1), some (.int a2), some (.int a3), some (.int a4)] [] h out := mVc_from 22 H
-- TasterTableModel.tells(IIII)I
set_option maxRecDepth 20000 in
theorem vc_M_tells {d : Nat} {h : mHp} {out : mOut} {a1 : Int32} {a2 : Int32} {a3 : Int32} {a4 : Int32} (H : (((h.1 114 42) = (nI 60) → (vp_in (nI 1) 3 ∧ (vp_in (nI 1) 3 ∧ out = .inl (some (.int (-1)), mPI h 120 (nI 1).toNatClampNeg ((h.1 120 ((nI 1).toNatClampNeg)) + (nI 1)))))) ∧
 (¬ (h.1 114 42) = (nI 60) → (∃ (x2 : Int32) (h1 : mHp), mRuns d 30 0 [some (.int a3), some (.int (nI 0)), some (.int (nI 999))] [] h (.inl (some (.int x2), h1)) ∧
 ((¬ x2 = 0 → (vp_in ((nI 4) * (h1.1 114 42)) 240 ∧ (vp_in (((nI 4) * ((mPI h1 131 ((nI 4) * (h1.1 114 42)).toNatClampNeg a1).1 114 42)) + (nI 1)) 240 ∧ (vp_in (((nI 4) * ((mPI (mPI h1 131 ((nI 4) * (h1.1 114 42)).toNatClampNeg a1) 131 (((nI 4) * ((mPI h1 131 ((nI 4) * (h1.1 114 42)).toNatClampNeg a1).1 114 42)) + (nI 1)).toNatClampNeg a2).1 114 42)) + (nI 2)) 240 ∧ (vp_in (((nI 4) * ((mPI (mPI (mPI h1 131 ((nI 4) * (h1.1 114 42)).toNatClampNeg a1) 131 (((nI 4) * ((mPI h1 131 ((nI 4) * (h1.1 114 42)).toNatClampNeg a1).1 114 42)) + (nI 1)).toNatClampNeg a2) 131 (((nI 4) * ((mPI (mPI h1 131 ((nI 4) * (h1.1 114 42)).toNatClampNeg a1) 131 (((nI 4) * ((mPI h1 131 ((nI 4) * (h1.1 114 42)).toNatClampNeg a1).1 114 42)) + (nI 1)).toNatClampNeg a2).1 114 42)) + (nI 2)).toNatClampNeg a3).1 114 42)) + (nI 3)) 240 ∧ out = .inl (some (.int ((mPI (mPI (mPI (mPI (mPI h1 131 ((nI 4) * (h1.1 114 42)).toNatClampNeg a1) 131 (((nI 4) * ((mPI h1 131 ((nI 4) * (h1.1 114 42)).toNatClampNeg a1).1 114 42)) + (nI 1)).toNatClampNeg a2) 131 (((nI 4) * ((mPI (mPI h1 131 ((nI 4) * (h1.1 114 42)).toNatClampNeg a1) 131 (((nI 4) * ((mPI h1 131 ((nI 4) * (h1.1 114 42)).toNatClampNeg a1).1 114 42)) + (nI 1)).toNatClampNeg a2).1 114 42)) + (nI 2)).toNatClampNeg a3) 131 (((nI 4) * ((mPI (mPI (mPI h1 131 ((nI 4) * (h1.1 114 42)).toNatClampNeg a1) 131 (((nI 4) * ((mPI h1 131 ((nI 4) * (h1.1 114 42)).toNatClampNeg a1).1 114 42)) + (nI 1)).toNatClampNeg a2) 131 (((nI 4) * ((mPI (mPI h1 131 ((nI 4) * (h1.1 114 42)).toNatClampNeg a1) 131 (((nI 4) * ((mPI h1 131 ((nI 4) * (h1.1 114 42)).toNatClampNeg a1).1 114 42)) + (nI 1)).toNatClampNeg a2).1 114 42)) + (nI 2)).toNatClampNeg a3).1 114 42)) + (nI 3)).toNatClampNeg a4) 114 42 (((mPI (mPI (mPI (mPI h1 131 ((nI 4) * (h1.1 114 42)).toNatClampNeg a1) 131 (((nI 4) * ((mPI h1 131 ((nI 4) * (h1.1 114 42)).toNatClampNeg a1).1 114 42)) + (nI 1)).toNatClampNeg a2) 131 (((nI 4) * ((mPI (mPI h1 131 ((nI 4) * (h1.1 114 42)).toNatClampNeg a1) 131 (((nI 4) * ((mPI h1 131 ((nI 4) * (h1.1 114 42)).toNatClampNeg a1).1 114 42)) + (nI 1)).toNatClampNeg a2).1 114 42)) + (nI 2)).toNatClampNeg a3) 131 (((nI 4) * ((mPI (mPI (mPI h1 131 ((nI 4) * (h1.1 114 42)).toNatClampNeg a1) 131 (((nI 4) * ((mPI h1 131 ((nI 4) * (h1.1 114 42)).toNatClampNeg a1).1 114 42)) + (nI 1)).toNatClampNeg a2) 131 (((nI 4) * ((mPI (mPI h1 131 ((nI 4) * (h1.1 114 42)).toNatClampNeg a1) 131 (((nI 4) * ((mPI h1 131 ((nI 4) * (h1.1 114 42)).toNatClampNeg a1).1 114 42)) + (nI 1)).toNatClampNeg a2).1 114 42)) + (nI 2)).toNatClampNeg a3).1 114 42)) + (nI 3)).toNatClampNeg a4).1 114 42) + (nI 1))).1 114 42)), mPI (mPI (mPI (mPI (mPI h1 131 ((nI 4) * (h1.1 114 42)).toNatClampNeg a1) 131 (((nI 4) * ((mPI h1 131 ((nI 4) * (h1.1 114 42)).toNatClampNeg a1).1 114 42)) + (nI 1)).toNatClampNeg a2) 131 (((nI 4) * ((mPI (mPI h1 131 ((nI 4) * (h1.1 114 42)).toNatClampNeg a1) 131 (((nI 4) * ((mPI h1 131 ((nI 4) * (h1.1 114 42)).toNatClampNeg a1).1 114 42)) + (nI 1)).toNatClampNeg a2).1 114 42)) + (nI 2)).toNatClampNeg a3) 131 (((nI 4) * ((mPI (mPI (mPI h1 131 ((nI 4) * (h1.1 114 42)).toNatClampNeg a1) 131 (((nI 4) * ((mPI h1 131 ((nI 4) * (h1.1 114 42)).toNatClampNeg a1).1 114 42)) + (nI 1)).toNatClampNeg a2) 131 (((nI 4) * ((mPI (mPI h1 131 ((nI 4) * (h1.1 114 42)).toNatClampNeg a1) 131 (((nI 4) * ((mPI h1 131 ((nI 4) * (h1.1 114 42)).toNatClampNeg a1).1 114 42)) + (nI 1)).toNatClampNeg a2).1 114 42)) + (nI 2)).toNatClampNeg a3).1 114 42)) + (nI 3)).toNatClampNeg a4) 114 42 (((mPI (mPI (mPI (mPI h1 131 ((nI 4) * (h1.1 114 42)).toNatClampNeg a1) 131 (((nI 4) * ((mPI h1 131 ((nI 4) * (h1.1 114 42)).toNatClampNeg a1).1 114 42)) + (nI 1)).toNatClampNeg a2) 131 (((nI 4) * ((mPI (mPI h1 131 ((nI 4) * (h1.1 114 42)).toNatClampNeg a1) 131 (((nI 4) * ((mPI h1 131 ((nI 4) * (h1.1 114 42)).toNatClampNeg a1).1 114 42)) + (nI 1)).toNatClampNeg a2).1 114 42)) + (nI 2)).toNatClampNeg a3) 131 (((nI 4) * ((mPI (mPI (mPI h1 131 ((nI 4) * (h1.1 114 42)).toNatClampNeg a1) 131 (((nI 4) * ((mPI h1 131 ((nI 4) * (h1.1 114 42)).toNatClampNeg a1).1 114 42)) + (nI 1)).toNatClampNeg a2) 131 (((nI 4) * ((mPI (mPI h1 131 ((nI 4) * (h1.1 114 42)).toNatClampNeg a1) 131 (((nI 4) * ((mPI h1 131 ((nI 4) * (h1.1 114 42)).toNatClampNeg a1).1 114 42)) + (nI 1)).toNatClampNeg a2).1 114 42)) + (nI 2)).toNatClampNeg a3).1 114 42)) + (nI 3)).toNatClampNeg a4).1 114 42) + (nI 1)))))))) ∧
 (x2 = 0 → (vp_in (nI 1) 3 ∧ (vp_in (nI 1) 3 ∧ out = .inl (some (.int (-1)), mPI h1 120 (nI 1).toNatClampNeg ((h1.1 120 ((nI 1).toNatClampNeg)) + (nI 1))))))))))) :
  mRuns (d + 1) 57 0 [some (.ref 114), some (.int a1), some (.int a2), some (.int a3), some (.int a4)] [] h out := mVc_from 56 H
-- TasterTableModel.fell(II)I
set_option maxRecDepth 20000 in
theorem vc_M_fell {d : Nat} {h : mHp} {out : mOut} {a1 : Int32} {a2 : Int32} (H : (∃ (x2 : Int32) (h1 : mHp), mRuns d 37 0 [some (.ref 114), some (.int a1)] [] (mPI h 114 0 (nI 0)) (.inl (some (.int x2), h1)) ∧
 ((¬ x2 = 0 → (∃ (x4 : Int32) (h3 : mHp), mRuns d 38 0 [some (.ref 114), some (.int a1), none] [] h1 (.inl (some (.int x4), h3)) ∧
 ((¬ x4 = (-1) → (∃ (x6 : Int32) (h5 : mHp), mRuns d 57 0 [some (.ref 114), some (.int a1), some (.int (-1)), some (.int (-1)), some (.int (nI 0))] [] h3 (.inl (some (.int x6), h5)) ∧
 out = .inl (some (.int x6), h5))) ∧
 (x4 = (-1) → (∃ (x8 : Int32) (h7 : mHp), mRuns d 57 0 [some (.ref 114), some (.int a1), some (.int (-1)), some (.int a2), some (.int (nI 0))] [] h3 (.inl (some (.int x8), h7)) ∧
 out = .inl (some (.int x8), h7)))))) ∧
 (x2 = 0 → out = .inl (some (.int (nI 0)), h1))))) :
  mRuns (d + 1) 58 0 [some (.ref 114), some (.int a1), some (.int a2)] [] h out := mVc_from 20 H
-- TasterTableModel.undo()I
set_option maxRecDepth 20000 in
theorem vc_M_undo {d : Nat} {h : mHp} {out : mOut}  (H : ((¬ ((mPI h 114 0 (nI 0)).1 114 42) = 0 → out = .inl (some (.int ((mPI (mPI h 114 0 (nI 0)) 114 42 (((mPI h 114 0 (nI 0)).1 114 42) - (nI 1))).1 114 42)), mPI (mPI h 114 0 (nI 0)) 114 42 (((mPI h 114 0 (nI 0)).1 114 42) - (nI 1)))) ∧
 (((mPI h 114 0 (nI 0)).1 114 42) = 0 → out = .inl (some (.int (-1)), mPI h 114 0 (nI 0))))) :
  mRuns (d + 1) 59 0 [some (.ref 114)] [] h out := mVc_from 15 H
-- TasterTableModel.cases(I)I
set_option maxRecDepth 20000 in
theorem vc_M_cases {d : Nat} {h : mHp} {out : mOut} {a1 : Int32} (H : ((a1 < (-1) → (∃ (x2 : Int32) (h1 : mHp), mRuns d 8 0 [some (.ref 114), some (.int (nI 0)), some (.int (nI 1))] [] (mPI h 114 0 (nI 0)) (.inl (some (.int x2), h1)) ∧
 ((¬ x2 = 0 → mRuns (d + 1) 60 29 [some (.ref 114), some (.int a1), some (.int (nI 0)), some (.int (nI 0))] [] h1 out) ∧
 (x2 = 0 → out = .inl (some (.int (nI 0)), h1))))) ∧
 (¬ a1 < (-1) → (∃ (x4 : Int32) (h3 : mHp), mRuns d 8 0 [some (.ref 114), some (.int (nI 1)), some (.int (nI 1))] [] (mPI h 114 0 (nI 0)) (.inl (some (.int x4), h3)) ∧
 ((¬ x4 = 0 → mRuns (d + 1) 60 29 [some (.ref 114), some (.int a1), some (.int (nI 0)), some (.int (nI 0))] [] h3 out) ∧
 (x4 = 0 → out = .inl (some (.int (nI 0)), h3))))))) :
  mRuns (d + 1) 60 0 [some (.ref 114), some (.int a1), none, none] [] h out := mVc_from 17 H
set_option maxRecDepth 20000 in
theorem vc_M_cases_29 {d : Nat} {h : mHp} {out : mOut} {v1 : Int32} {v2 : Int32} {v3 : Int32} (H : (∃ (x2 : Int32) (h1 : mHp), mRuns d 61 0 [some (.ref 114)] [] h (.inl (some (.int x2), h1)) ∧
 ((x2 ≤ v3 → ((¬ v1 = (-1) → (∃ (x4 : Int32) (h3 : mHp), mRuns d 8 0 [some (.ref 114), some (.int (nI 0)), some (.int (nI 1))] [] h1 (.inl (some (.int x4), h3)) ∧
 ((x4 = 0 → out = .inl (some (.int (nI 0)), h3)) ∧
 (¬ x4 = 0 → out = .inl (some (.int v2), h3))))) ∧
 (v1 = (-1) → (∃ (x6 : Int32) (h5 : mHp), mRuns d 8 0 [some (.ref 114), some (.int (nI 1)), some (.int (nI 1))] [] h1 (.inl (some (.int x6), h5)) ∧
 ((x6 = 0 → out = .inl (some (.int (nI 0)), h5)) ∧
 (¬ x6 = 0 → out = .inl (some (.int v2), h5))))))) ∧
 (¬ x2 ≤ v3 → (∃ (x8 : Int32) (h7 : mHp), mRuns d 31 0 [some (.ref 114), none, none] [] h1 (.inl (some (.int x8), h7)) ∧
 (∃ (x10 : Int32) (h9 : mHp), mRuns d 62 0 [some (.ref 114), some (.int v3), some (.int v3), some (.int x8), none, none, none, none, none] [] h7 (.inl (some (.int x10), h9)) ∧
 ((¬ x10 = 0 → ((¬ v2 = v1 → mRuns (d + 1) 60 29 [some (.ref 114), some (.int v1), some (.int (v2 + nI 1)), some (.int (v3 + nI 1))] [] h9 out) ∧
 (v2 = v1 → out = .inl (some (.int v3), h9)))) ∧
 (x10 = 0 → mRuns (d + 1) 60 29 [some (.ref 114), some (.int v1), some (.int v2), some (.int (v3 + nI 1))] [] h9 out)))))))) :
  mRuns (d + 1) 60 29 [some (.ref 114), some (.int v1), some (.int v2), some (.int v3)] [] h out := mVc_from 18 H
-- TasterTableModel.allCases()I
set_option maxRecDepth 20000 in
theorem vc_M_allCases {d : Nat} {h : mHp} {out : mOut}  (H : out = .inl (some (.int ((nI 1) + ((h.1 114 1) * (h.1 114 2)))), h)) :
  mRuns (d + 1) 61 0 [some (.ref 114)] [] h out := mVc_from 8 H
-- TasterTableModel.fits(III)Z
set_option maxRecDepth 20000 in
theorem vc_M_fits {d : Nat} {h : mHp} {out : mOut} {a1 : Int32} {a2 : Int32} {a3 : Int32} (H : mRuns (d + 1) 62 3 [some (.ref 114), some (.int a1), some (.int a2), some (.int a3), some (.int (nI 0)), none, none, none, none] [] h out) :
  mRuns (d + 1) 62 0 [some (.ref 114), some (.int a1), some (.int a2), some (.int a3), none, none, none, none, none] [] h out := mVc_from 3 H
set_option maxRecDepth 20000 in
theorem vc_M_fits_3 {d : Nat} {h : mHp} {out : mOut} {v1 : Int32} {v2 : Int32} {v3 : Int32} {v4 : Int32} (H : (((h.1 114 3) ≤ v4 → (((nI 1) = 0 ∨ (nI 1) = 1) ∧ out = .inl (some (.int (nI 1)), h))) ∧
 (¬ (h.1 114 3) ≤ v4 → (vp_in ((nI 2) * v4) 10 ∧ ((¬ (h.1 117 (((nI 2) * v4).toNatClampNeg)) = (nI 4) → (∃ (x2 : Int32) (h1 : mHp), mRuns d 63 0 [some (.ref 114), some (.int v1), some (.int v4), none, none, none, none, none] [] h (.inl (some (.int x2), h1)) ∧
 (∃ (x4 : Int32) (h3 : mHp), mRuns d 63 0 [some (.ref 114), some (.int v2), some (.int v4), none, none, none, none, none] [] h1 (.inl (some (.int x4), h3)) ∧
 ((x4 ≤ x2 → mRuns (d + 1) 62 60 [some (.ref 114), some (.int v1), some (.int v2), some (.int v3), some (.int v4), none, none, none, none] [.int x4] h3 out) ∧
 (¬ x4 ≤ x2 → mRuns (d + 1) 62 60 [some (.ref 114), some (.int v1), some (.int v2), some (.int v3), some (.int v4), none, none, none, none] [.int x2] h3 out))))) ∧
 ((h.1 117 (((nI 2) * v4).toNatClampNeg)) = (nI 4) → mRuns (d + 1) 62 3 [some (.ref 114), some (.int v1), some (.int v2), some (.int v3), some (.int (v4 + nI 1)), none, none, none, none] [] h out)))))) :
  mRuns (d + 1) 62 3 [some (.ref 114), some (.int v1), some (.int v2), some (.int v3), some (.int v4), none, none, none, none] [] h out := mVc_from 28 H
set_option maxRecDepth 20000 in
theorem vc_M_fits_60 {d : Nat} {h : mHp} {out : mOut} {s0 : Int32} {v1 : Int32} {v2 : Int32} {v3 : Int32} {v4 : Int32} (H : (∃ (x2 : Int32) (h1 : mHp), mRuns d 38 0 [some (.ref 114), some (.int v4), none] [] h (.inl (some (.int x2), h1)) ∧
 ((¬ x2 = (-1) → ((s0 = x2 → mRuns (d + 1) 62 3 [some (.ref 114), some (.int v1), some (.int v2), some (.int v3), some (.int (v4 + nI 1)), none, none, none, none] [] h1 out) ∧
 (¬ s0 = x2 → (((nI 0) = 0 ∨ (nI 0) = 1) ∧ out = .inl (some (.int (nI 0)), h1))))) ∧
 (x2 = (-1) → ((v3 < s0 → mRuns (d + 1) 62 3 [some (.ref 114), some (.int v1), some (.int v2), some (.int v3), some (.int (v4 + nI 1)), none, none, none, none] [] h1 out) ∧
 (¬ v3 < s0 → (((nI 0) = 0 ∨ (nI 0) = 1) ∧ out = .inl (some (.int (nI 0)), h1)))))))) :
  mRuns (d + 1) 62 60 [some (.ref 114), some (.int v1), some (.int v2), some (.int v3), some (.int v4), none, none, none, none] [.int s0] h out := mVc_from 14 H
-- TasterTableModel.falls(II)I
set_option maxRecDepth 20000 in
theorem vc_M_falls {d : Nat} {h : mHp} {out : mOut} {a1 : Int32} {a2 : Int32} (H : ((¬ a1 = 0 → (¬ (h.1 114 2) = 0 ∧ (¬ (h.1 114 2) = 0 ∧ mRuns (d + 1) 63 35 [some (.ref 114), none, some (.int a2), some (.int ((a1 - (nI 1)) / (h.1 114 2))), some (.int ((a1 - (nI 1)) - (a1 - (nI 1)) / (h.1 114 2) * (h.1 114 2))), some (.int (nI 100000)), some (.int (nI 0)), none] [] h out))) ∧
 (a1 = 0 → out = .inl (some (.int (nI 100000)), h)))) :
  mRuns (d + 1) 63 0 [some (.ref 114), some (.int a1), some (.int a2), none, none, none, none, none] [] h out := mVc_from 21 H
set_option maxRecDepth 20000 in
theorem vc_M_falls_35 {d : Nat} {h : mHp} {out : mOut} {v2 : Int32} {v3 : Int32} {v4 : Int32} {v5 : Int32} {v6 : Int32} (H : (((h.1 114 42) ≤ v6 → out = .inl (some (.int v5), h)) ∧
 (¬ (h.1 114 42) ≤ v6 → (vp_in ((nI 4) * v6) 240 ∧ ((¬ (h.1 131 (((nI 4) * v6).toNatClampNeg)) = v2 → mRuns (d + 1) 63 35 [some (.ref 114), none, some (.int v2), some (.int v3), some (.int v4), some (.int v5), some (.int (v6 + nI 1)), none] [] h out) ∧
 ((h.1 131 (((nI 4) * v6).toNatClampNeg)) = v2 → (vp_in (((nI 4) * v6) + (nI 1)) 240 ∧ (((h.1 131 ((((nI 4) * v6) + (nI 1)).toNatClampNeg)) = v3 → (vp_in (((nI 4) * v6) + (nI 3)) 240 ∧ ((¬ (h.1 131 ((((nI 4) * v6) + (nI 3)).toNatClampNeg)) = (nI 1) → mRuns (d + 1) 63 99 [some (.ref 114), none, some (.int v2), some (.int v3), some (.int v4), some (.int v5), some (.int v6), none] [.int (nI 0), .int v4, .int v2, .ref 114] h out) ∧
 ((h.1 131 ((((nI 4) * v6) + (nI 3)).toNatClampNeg)) = (nI 1) → mRuns (d + 1) 63 99 [some (.ref 114), none, some (.int v2), some (.int v3), some (.int v4), some (.int v5), some (.int v6), none] [.int (nI 1), .int v4, .int v2, .ref 114] h out)))) ∧
 (¬ (h.1 131 ((((nI 4) * v6) + (nI 1)).toNatClampNeg)) = v3 → mRuns (d + 1) 63 35 [some (.ref 114), none, some (.int v2), some (.int v3), some (.int v4), some (.int v5), some (.int (v6 + nI 1)), none] [] h out))))))))) :
  mRuns (d + 1) 63 35 [some (.ref 114), none, some (.int v2), some (.int v3), some (.int v4), some (.int v5), some (.int v6), none] [] h out := mVc_from 38 H
set_option maxRecDepth 20000 in
theorem vc_M_falls_99 {d : Nat} {h : mHp} {out : mOut} {s0 : Int32} {s1 : Int32} {s2 : Int32} {v2 : Int32} {v3 : Int32} {v4 : Int32} {v5 : Int32} {v6 : Int32} (H : (∃ (x2 : Int32) (h1 : mHp), mRuns d 40 0 [some (.ref 114), some (.int s2), some (.int s1), some (.int s0)] [] h (.inl (some (.int x2), h1)) ∧
 ((x2 = (-1) → mRuns (d + 1) 63 35 [some (.ref 114), none, some (.int v2), some (.int v3), some (.int v4), some (.int v5), some (.int (v6 + nI 1)), none] [] h1 out) ∧
 (¬ x2 = (-1) → (vp_in (((nI 4) * v6) + (nI 2)) 240 ∧ ((v5 ≤ ((h1.1 131 ((((nI 4) * v6) + (nI 2)).toNatClampNeg)) + x2) → mRuns (d + 1) 63 35 [some (.ref 114), none, some (.int v2), some (.int v3), some (.int v4), some (.int v5), some (.int (v6 + nI 1)), none] [] h1 out) ∧
 (¬ v5 ≤ ((h1.1 131 ((((nI 4) * v6) + (nI 2)).toNatClampNeg)) + x2) → (vp_in (((nI 4) * v6) + (nI 2)) 240 ∧ mRuns (d + 1) 63 35 [some (.ref 114), none, some (.int v2), some (.int v3), some (.int v4), some (.int ((h1.1 131 ((((nI 4) * v6) + (nI 2)).toNatClampNeg)) + x2)), some (.int (v6 + nI 1)), none] [] h1 out)))))))) :
  mRuns (d + 1) 63 99 [some (.ref 114), none, some (.int v2), some (.int v3), some (.int v4), some (.int v5), some (.int v6), none] [.int s0, .int s1, .int s2, .ref 114] h out := mVc_from 31 H
-- TasterTableModel.odds(II)I
set_option maxRecDepth 20000 in
theorem vc_M_odds {d : Nat} {h : mHp} {out : mOut} {a1 : Int32} {a2 : Int32} (H : ((a1 = (-1) → mRuns (d + 1) 64 18 [some (.ref 114), some (.int a1), some (.int a2), none, none, none, none, none, none] [] (mPI h 114 0 (nI 0)) out) ∧
 (¬ a1 = (-1) → (∃ (x2 : Int32) (h1 : mHp), mRuns d 33 0 [some (.ref 114), some (.int a1)] [] (mPI h 114 0 (nI 0)) (.inl (some (.int x2), h1)) ∧
 ((x2 = 0 → out = .inl (some (.int (nI 0)), h1)) ∧
 (¬ x2 = 0 → mRuns (d + 1) 64 18 [some (.ref 114), some (.int a1), some (.int a2), none, none, none, none, none, none] [] h1 out)))))) :
  mRuns (d + 1) 64 0 [some (.ref 114), some (.int a1), some (.int a2), none, none, none, none, none, none] [] h out := mVc_from 12 H
set_option maxRecDepth 20000 in
theorem vc_M_odds_18 {d : Nat} {h : mHp} {out : mOut} {v1 : Int32} {v2 : Int32} (H : ((v2 = 0 → mRuns (d + 1) 64 33 [some (.ref 114), some (.int v1), some (.int v2), none, none, none, none, none, none] [.int (nI 1), .ref 114] h out) ∧
 (¬ v2 = 0 → ((¬ v2 = (nI 1) → mRuns (d + 1) 64 33 [some (.ref 114), some (.int v1), some (.int v2), none, none, none, none, none, none] [.int (nI 0), .ref 114] h out) ∧
 (v2 = (nI 1) → mRuns (d + 1) 64 33 [some (.ref 114), some (.int v1), some (.int v2), none, none, none, none, none, none] [.int (nI 1), .ref 114] h out))))) :
  mRuns (d + 1) 64 18 [some (.ref 114), some (.int v1), some (.int v2), none, none, none, none, none, none] [] h out := mVc_from 9 H
set_option maxRecDepth 20000 in
theorem vc_M_odds_33 {d : Nat} {h : mHp} {out : mOut} {s0 : Int32} {v1 : Int32} {v2 : Int32} (H : (∃ (x2 : Int32) (h1 : mHp), mRuns d 8 0 [some (.ref 114), some (.int s0), some (.int (nI 1))] [] h (.inl (some (.int x2), h1)) ∧
 ((¬ x2 = 0 → mRuns (d + 1) 64 50 [some (.ref 114), some (.int v1), some (.int v2), some (.long (lN 0)), none, some (.long (lN 0)), none, some (.int (nI 0)), none] [] h1 out) ∧
 (x2 = 0 → out = .inl (some (.int (nI 0)), h1))))) :
  mRuns (d + 1) 64 33 [some (.ref 114), some (.int v1), some (.int v2), none, none, none, none, none, none] [.int s0, .ref 114] h out := mVc_from 10 H
set_option maxRecDepth 20000 in
theorem vc_M_odds_50 {d : Nat} {h : mHp} {out : mOut} {v1 : Int32} {v2 : Int32} {v3 : Int64} {v5 : Int64} {v7 : Int32} (H : (∃ (x2 : Int32) (h1 : mHp), mRuns d 61 0 [some (.ref 114)] [] h (.inl (some (.int x2), h1)) ∧
 ((x2 ≤ v7 → (∃ (j4 : Int64) (h3 : mHp), mRuns d 66 0 [some (.long v3), none, some (.long v5), none, some (.int v2), none, none, none, none, none, none] [] h1 (.inl (some (.long j4), h3)) ∧
 out = .inl (some (.int j4.toInt32), h3))) ∧
 (¬ x2 ≤ v7 → (∃ (x6 : Int32) (h5 : mHp), mRuns d 31 0 [some (.ref 114), none, none] [] h1 (.inl (some (.int x6), h5)) ∧
 (∃ (x8 : Int32) (h7 : mHp), mRuns d 62 0 [some (.ref 114), some (.int v7), some (.int v7), some (.int x6), none, none, none, none, none] [] h5 (.inl (some (.int x8), h7)) ∧
 ((¬ x8 = 0 → (∃ (x10 : Int32) (h9 : mHp), mRuns d 65 0 [some (.ref 114), some (.int v7)] [] h7 (.inl (some (.int x10), h9)) ∧
 ((¬ v7 = 0 → (¬ (h9.1 114 2) = 0 ∧ mRuns (d + 1) 64 107 [some (.ref 114), some (.int v1), some (.int v2), some (.long v3), none, some (.long (v5 + x10.toInt64)), none, some (.int v7), none] [.int ((v7 - (nI 1)) / (h9.1 114 2))] h9 out)) ∧
 (v7 = 0 → mRuns (d + 1) 64 107 [some (.ref 114), some (.int v1), some (.int v2), some (.long v3), none, some (.long (v5 + x10.toInt64)), none, some (.int v7), none] [.int (-1)] h9 out)))) ∧
 (x8 = 0 → mRuns (d + 1) 64 50 [some (.ref 114), some (.int v1), some (.int v2), some (.long v3), none, some (.long v5), none, some (.int (v7 + nI 1)), none] [] h7 out)))))))) :
  mRuns (d + 1) 64 50 [some (.ref 114), some (.int v1), some (.int v2), some (.long v3), none, some (.long v5), none, some (.int v7), none] [] h out := mVc_from 27 H
set_option maxRecDepth 20000 in
theorem vc_M_odds_107 {d : Nat} {h : mHp} {out : mOut} {s0 : Int32} {v1 : Int32} {v2 : Int32} {v3 : Int64} {v5 : Int64} {v7 : Int32} (H : ((¬ s0 = v1 → mRuns (d + 1) 64 50 [some (.ref 114), some (.int v1), some (.int v2), some (.long (v3 + (lN 0))), none, some (.long v5), none, some (.int (v7 + nI 1)), none] [] h out) ∧
 (s0 = v1 → (∃ (x2 : Int32) (h1 : mHp), mRuns d 65 0 [some (.ref 114), some (.int v7)] [] h (.inl (some (.int x2), h1)) ∧
 mRuns (d + 1) 64 50 [some (.ref 114), some (.int v1), some (.int v2), some (.long (v3 + x2.toInt64)), none, some (.long v5), none, some (.int (v7 + nI 1)), none] [] h1 out)))) :
  mRuns (d + 1) 64 107 [some (.ref 114), some (.int v1), some (.int v2), some (.long v3), none, some (.long v5), none, some (.int v7), none] [.int s0] h out := mVc_from 15 H
-- TasterTableModel.weight(I)I
set_option maxRecDepth 20000 in
theorem vc_M_weight {d : Nat} {h : mHp} {out : mOut} {a1 : Int32} (H : ((¬ a1 = 0 → (¬ (h.1 114 2) = 0 ∧ (vp_in (((nI 3) * ((a1 - (nI 1)) / (h.1 114 2))) + (nI 2)) 18 ∧ (¬ (h.1 114 2) = 0 ∧ (vp_in (((nI 4) * ((a1 - (nI 1)) - (a1 - (nI 1)) / (h.1 114 2) * (h.1 114 2))) + (nI 3)) 20 ∧ out = .inl (some (.int ((h.1 115 ((((nI 3) * ((a1 - (nI 1)) / (h.1 114 2))) + (nI 2)).toNatClampNeg)) * (h.1 116 ((((nI 4) * ((a1 - (nI 1)) - (a1 - (nI 1)) / (h.1 114 2) * (h.1 114 2))) + (nI 3)).toNatClampNeg)))), h)))))) ∧
 (a1 = 0 → out = .inl (some (.int (h.1 114 4)), h)))) :
  mRuns (d + 1) 65 0 [some (.ref 114), some (.int a1)] [] h out := mVc_from 30 H
-- TasterTableModel.part(JJI)J
set_option maxRecDepth 20000 in
theorem vc_M_part {d : Nat} {h : mHp} {out : mOut} {a1 : Int64} {a2 : Int64} {a3 : Int32} (H : ((¬ (lg_cmp a2 (lN 0)) = 0 → mRuns (d + 1) 66 16 [some (.long a1), none, some (.long a2), none, some (.int a3), some (.long a2), none, some (.long a1), none, none, none] [] h out) ∧
 ((lg_cmp a2 (lN 0)) = 0 → out = .inl (some (.long a3.toInt64), h)))) :
  mRuns (d + 1) 66 0 [some (.long a1), none, some (.long a2), none, some (.int a3), none, none, none, none, none, none] [] h out := mVc_from 9 H
set_option maxRecDepth 20000 in
theorem vc_M_part_16 {d : Nat} {h : mHp} {out : mOut} {v0 : Int64} {v2 : Int64} {v4 : Int32} {v5 : Int64} {v7 : Int64} (H : (((lg_cmp v7 (lN 0)) = 0 → ((¬ v4 = 0 → (¬ v5 = 0 ∧ out = .inl (some (.long (v2 / v5)), h))) ∧
 (v4 = 0 → (¬ v5 = 0 ∧ out = .inl (some (.long (v0 / v5)), h))))) ∧
 (¬ (lg_cmp v7 (lN 0)) = 0 → (¬ v7 = 0 ∧ mRuns (d + 1) 66 16 [some (.long v0), none, some (.long v2), none, some (.int v4), some (.long v7), none, some (.long (v5 - v5 / v7 * v7)), none, none, none] [] h out)))) :
  mRuns (d + 1) 66 16 [some (.long v0), none, some (.long v2), none, some (.int v4), some (.long v5), none, some (.long v7), none, none, none] [] h out := mVc_from 14 H
-- TasterTableModel.pairs()I
set_option maxRecDepth 20000 in
theorem vc_M_pairs {d : Nat} {h : mHp} {out : mOut}  (H : mRuns (d + 1) 67 9 [some (.ref 114), some (.int (nI 0)), some (.int (nI 1)), none] [] (mPI h 114 0 (nI 0)) out) :
  mRuns (d + 1) 67 0 [some (.ref 114), none, none, none] [] h out := mVc_from 8 H
set_option maxRecDepth 20000 in
theorem vc_M_pairs_9 {d : Nat} {h : mHp} {out : mOut} {v1 : Int32} {v2 : Int32} (H : (∃ (x2 : Int32) (h1 : mHp), mRuns d 61 0 [some (.ref 114)] [] h (.inl (some (.int x2), h1)) ∧
 ((x2 ≤ v2 → out = .inl (some (.int v1), h1)) ∧
 (¬ x2 ≤ v2 → mRuns (d + 1) 67 19 [some (.ref 114), some (.int v1), some (.int v2), some (.int (nI 1))] [] h1 out)))) :
  mRuns (d + 1) 67 9 [some (.ref 114), some (.int v1), some (.int v2), none] [] h out := mVc_from 7 H
set_option maxRecDepth 20000 in
theorem vc_M_pairs_19 {d : Nat} {h : mHp} {out : mOut} {v1 : Int32} {v2 : Int32} {v3 : Int32} (H : ((v2 ≤ v3 → mRuns (d + 1) 67 9 [some (.ref 114), some (.int v1), some (.int (v2 + nI 1)), none] [] h out) ∧
 (¬ v2 ≤ v3 → (∃ (x2 : Int32) (h1 : mHp), mRuns d 31 0 [some (.ref 114), none, none] [] h (.inl (some (.int x2), h1)) ∧
 (∃ (x4 : Int32) (h3 : mHp), mRuns d 62 0 [some (.ref 114), some (.int v2), some (.int v3), some (.int x2), none, none, none, none, none] [] h1 (.inl (some (.int x4), h3)) ∧
 ((x4 = 0 → mRuns (d + 1) 67 19 [some (.ref 114), some (.int (v1 + (nI 0))), some (.int v2), some (.int (v3 + nI 1))] [] h3 out) ∧
 (¬ x4 = 0 → mRuns (d + 1) 67 19 [some (.ref 114), some (.int (v1 + (nI 1))), some (.int v2), some (.int (v3 + nI 1))] [] h3 out))))))) :
  mRuns (d + 1) 67 19 [some (.ref 114), some (.int v1), some (.int v2), some (.int v3)] [] h out := mVc_from 18 H
-- TasterTableModel.next(I)I
set_option maxRecDepth 20000 in
theorem vc_M_next {d : Nat} {h : mHp} {out : mOut} {a1 : Int32} (H : ((a1 = 0 → mRuns (d + 1) 68 20 [some (.ref 114), some (.int a1), none, none, none, none, none, none] [.int (nI 1), .ref 114] (mPI h 114 0 (nI 0)) out) ∧
 (¬ a1 = 0 → ((¬ a1 = (nI 1) → mRuns (d + 1) 68 20 [some (.ref 114), some (.int a1), none, none, none, none, none, none] [.int (nI 0), .ref 114] (mPI h 114 0 (nI 0)) out) ∧
 (a1 = (nI 1) → mRuns (d + 1) 68 20 [some (.ref 114), some (.int a1), none, none, none, none, none, none] [.int (nI 1), .ref 114] (mPI h 114 0 (nI 0)) out))))) :
  mRuns (d + 1) 68 0 [some (.ref 114), some (.int a1), none, none, none, none, none, none] [] h out := mVc_from 12 H
set_option maxRecDepth 20000 in
theorem vc_M_next_20 {d : Nat} {h : mHp} {out : mOut} {s0 : Int32} {v1 : Int32} (H : (∃ (x2 : Int32) (h1 : mHp), mRuns d 8 0 [some (.ref 114), some (.int s0), some (.int (nI 1))] [] h (.inl (some (.int x2), h1)) ∧
 ((¬ x2 = 0 → mRuns (d + 1) 68 36 [some (.ref 114), some (.int v1), some (.int (-1)), some (.int (nI 0)), some (.int (nI 0)), none, none, none] [] h1 out) ∧
 (x2 = 0 → out = .inl (some (.int (nI 0)), h1))))) :
  mRuns (d + 1) 68 20 [some (.ref 114), some (.int v1), none, none, none, none, none, none] [.int s0, .ref 114] h out := mVc_from 10 H
set_option maxRecDepth 20000 in
theorem vc_M_next_36 {d : Nat} {h : mHp} {out : mOut} {v1 : Int32} {v2 : Int32} {v3 : Int32} {v4 : Int32} (H : ((((nI 20) * (h.1 114 3)) ≤ v4 → ((v2 = (-1) → out = .inl (some (.int v2), h)) ∧
 (¬ v2 = (-1) → ((¬ v1 = 0 → out = .inl (some (.int v3), h)) ∧
 (v1 = 0 → out = .inl (some (.int v2), h)))))) ∧
 (¬ ((nI 20) * (h.1 114 3)) ≤ v4 → (¬ (nI 20) = 0 ∧ (¬ (nI 20) = 0 ∧ (¬ (nI 2) = 0 ∧ (((h.1 114 1) ≤ ((v4 - v4 / (nI 20) * (nI 20)) / (nI 2)) → mRuns (d + 1) 68 36 [some (.ref 114), some (.int v1), some (.int v2), some (.int v3), some (.int (v4 + nI 1)), none, none, none] [] h out) ∧
 (¬ (h.1 114 1) ≤ ((v4 - v4 / (nI 20) * (nI 20)) / (nI 2)) → (vp_in ((nI 2) * (v4 / (nI 20))) 10 ∧ (((h.1 117 (((nI 2) * (v4 / (nI 20))).toNatClampNeg)) = (nI 4) → mRuns (d + 1) 68 36 [some (.ref 114), some (.int v1), some (.int v2), some (.int v3), some (.int (v4 + nI 1)), none, none, none] [] h out) ∧
 (¬ (h.1 117 (((nI 2) * (v4 / (nI 20))).toNatClampNeg)) = (nI 4) → (∃ (x2 : Int32) (h1 : mHp), mRuns d 38 0 [some (.ref 114), some (.int (v4 / (nI 20))), none] [] h (.inl (some (.int x2), h1)) ∧
 ((x2 = (-1) → (¬ (nI 2) = 0 ∧ ((¬ (v4 - v4 / (nI 2) * (nI 2)) = (nI 1) → mRuns (d + 1) 68 117 [some (.ref 114), some (.int v1), some (.int v2), some (.int v3), some (.int v4), none, none, none] [.int (nI 0), .int ((v4 - v4 / (nI 20) * (nI 20)) / (nI 2)), .int (v4 / (nI 20)), .ref 114] h1 out) ∧
 ((v4 - v4 / (nI 2) * (nI 2)) = (nI 1) → mRuns (d + 1) 68 117 [some (.ref 114), some (.int v1), some (.int v2), some (.int v3), some (.int v4), none, none, none] [.int (nI 1), .int ((v4 - v4 / (nI 20) * (nI 20)) / (nI 2)), .int (v4 / (nI 20)), .ref 114] h1 out)))) ∧
 (¬ x2 = (-1) → mRuns (d + 1) 68 36 [some (.ref 114), some (.int v1), some (.int v2), some (.int v3), some (.int (v4 + nI 1)), none, none, none] [] h1 out)))))))))))))) :
  mRuns (d + 1) 68 36 [some (.ref 114), some (.int v1), some (.int v2), some (.int v3), some (.int v4), none, none, none] [] h out := mVc_from 44 H
set_option maxRecDepth 20000 in
theorem vc_M_next_117 {d : Nat} {h : mHp} {out : mOut} {s0 : Int32} {s1 : Int32} {s2 : Int32} {v1 : Int32} {v2 : Int32} {v3 : Int32} {v4 : Int32} (H : (∃ (x2 : Int32) (h1 : mHp), mRuns d 69 0 [some (.ref 114), some (.int s2), some (.int s1), some (.int s0), none, none, none] [] h (.inl (some (.int x2), h1)) ∧
 ((v2 = (-1) → mRuns (d + 1) 68 36 [some (.ref 114), some (.int v1), some (.int v4), some (.int x2), some (.int (v4 + nI 1)), none, none, none] [] h1 out) ∧
 (¬ v2 = (-1) → ((x2 < v3 → mRuns (d + 1) 68 36 [some (.ref 114), some (.int v1), some (.int v4), some (.int x2), some (.int (v4 + nI 1)), none, none, none] [] h1 out) ∧
 (¬ x2 < v3 → mRuns (d + 1) 68 36 [some (.ref 114), some (.int v1), some (.int v2), some (.int v3), some (.int (v4 + nI 1)), none, none, none] [] h1 out)))))) :
  mRuns (d + 1) 68 117 [some (.ref 114), some (.int v1), some (.int v2), some (.int v3), some (.int v4), none, none, none] [.int s0, .int s1, .int s2, .ref 114] h out := mVc_from 15 H
-- TasterTableModel.greatest(IIZ)I
set_option maxRecDepth 20000 in
theorem vc_M_greatest {d : Nat} {h : mHp} {out : mOut} {a1 : Int32} {a2 : Int32} {a3 : Int32} (H : mRuns (d + 1) 69 3 [some (.ref 114), some (.int a1), some (.int a2), some (.int a3), some (.int (nI 0)), none, none] [] h out) :
  mRuns (d + 1) 69 0 [some (.ref 114), some (.int a1), some (.int a2), some (.int a3), none, none, none] [] h out := mVc_from 3 H
set_option maxRecDepth 20000 in
theorem vc_M_greatest_3 {d : Nat} {h : mHp} {out : mOut} {v1 : Int32} {v2 : Int32} {v3 : Int32} {v4 : Int32} (H : (((nI 100) ≤ v4 → mRuns (d + 1) 69 30 [some (.ref 114), some (.int v1), some (.int v2), some (.int v3), some (.int (nI 0)), some (.int (nI 0)), none] [] h out) ∧
 (¬ (nI 100) ≤ v4 → (vp_in v4 100 ∧ mRuns (d + 1) 69 3 [some (.ref 114), some (.int v1), some (.int v2), some (.int v3), some (.int (v4 + nI 1)), none, none] [] (mPI h 132 v4.toNatClampNeg (nI 0)) out)))) :
  mRuns (d + 1) 69 3 [some (.ref 114), some (.int v1), some (.int v2), some (.int v3), some (.int v4), none, none] [] h out := mVc_from 11 H
set_option maxRecDepth 20000 in
theorem vc_M_greatest_30 {d : Nat} {h : mHp} {out : mOut} {v1 : Int32} {v2 : Int32} {v3 : Int32} {v4 : Int32} {v5 : Int32} (H : (∃ (x2 : Int32) (h1 : mHp), mRuns d 61 0 [some (.ref 114)] [] h (.inl (some (.int x2), h1)) ∧
 ((x2 ≤ v5 → out = .inl (some (.int v4), h1)) ∧
 (¬ x2 ≤ v5 → (∃ (x4 : Int32) (h3 : mHp), mRuns d 31 0 [some (.ref 114), none, none] [] h1 (.inl (some (.int x4), h3)) ∧
 (∃ (x6 : Int32) (h5 : mHp), mRuns d 62 0 [some (.ref 114), some (.int v5), some (.int v5), some (.int x4), none, none, none, none, none] [] h3 (.inl (some (.int x6), h5)) ∧
 ((¬ x6 = 0 → ((v5 = 0 → mRuns (d + 1) 69 75 [some (.ref 114), some (.int v1), some (.int v2), some (.int v3), some (.int v4), some (.int v5), none] [] h5 out) ∧
 (¬ v5 = 0 → (¬ (h5.1 114 2) = 0 ∧ ((((v5 - (nI 1)) / (h5.1 114 2)) = v2 → (¬ (h5.1 114 2) = 0 ∧ (∃ (x8 : Int32) (h7 : mHp), mRuns d 40 0 [some (.ref 114), some (.int v1), some (.int ((v5 - (nI 1)) - (v5 - (nI 1)) / (h5.1 114 2) * (h5.1 114 2))), some (.int v3)] [] h5 (.inl (some (.int x8), h7)) ∧
 ((¬ x8 = (-1) → mRuns (d + 1) 69 108 [some (.ref 114), some (.int v1), some (.int v2), some (.int v3), some (.int v4), some (.int v5), none] [.int x8] h7 out) ∧
 (x8 = (-1) → mRuns (d + 1) 69 108 [some (.ref 114), some (.int v1), some (.int v2), some (.int v3), some (.int v4), some (.int v5), none] [.int (nI 0)] h7 out))))) ∧
 (¬ ((v5 - (nI 1)) / (h5.1 114 2)) = v2 → mRuns (d + 1) 69 75 [some (.ref 114), some (.int v1), some (.int v2), some (.int v3), some (.int v4), some (.int v5), none] [] h5 out)))))) ∧
 (x6 = 0 → mRuns (d + 1) 69 30 [some (.ref 114), some (.int v1), some (.int v2), some (.int v3), some (.int v4), some (.int (v5 + nI 1)), none] [] h5 out)))))))) :
  mRuns (d + 1) 69 30 [some (.ref 114), some (.int v1), some (.int v2), some (.int v3), some (.int v4), some (.int v5), none] [] h out := mVc_from 38 H
set_option maxRecDepth 20000 in
theorem vc_M_greatest_75 {d : Nat} {h : mHp} {out : mOut} {v1 : Int32} {v2 : Int32} {v3 : Int32} {v4 : Int32} {v5 : Int32} (H : ((¬ (nI 0) = (-1) → mRuns (d + 1) 69 108 [some (.ref 114), some (.int v1), some (.int v2), some (.int v3), some (.int v4), some (.int v5), none] [.int (nI 0)] h out) ∧
 ((nI 0) = (-1) → mRuns (d + 1) 69 108 [some (.ref 114), some (.int v1), some (.int v2), some (.int v3), some (.int v4), some (.int v5), none] [.int (nI 0)] h out))) :
  mRuns (d + 1) 69 75 [some (.ref 114), some (.int v1), some (.int v2), some (.int v3), some (.int v4), some (.int v5), none] [] h out := mVc_from 9 H
set_option maxRecDepth 20000 in
theorem vc_M_greatest_108 {d : Nat} {h : mHp} {out : mOut} {s0 : Int32} {v1 : Int32} {v2 : Int32} {v3 : Int32} {v4 : Int32} {v5 : Int32} (H : (vp_in s0 100 ∧ (vp_in s0 100 ∧ (vp_in s0 100 ∧ ((((mPI h 132 s0.toNatClampNeg ((h.1 132 (s0.toNatClampNeg)) + (nI 1))).1 132 (s0.toNatClampNeg)) ≤ v4 → mRuns (d + 1) 69 30 [some (.ref 114), some (.int v1), some (.int v2), some (.int v3), some (.int v4), some (.int (v5 + nI 1)), none] [] (mPI h 132 s0.toNatClampNeg ((h.1 132 (s0.toNatClampNeg)) + (nI 1))) out) ∧
 (¬ ((mPI h 132 s0.toNatClampNeg ((h.1 132 (s0.toNatClampNeg)) + (nI 1))).1 132 (s0.toNatClampNeg)) ≤ v4 → (vp_in s0 100 ∧ mRuns (d + 1) 69 30 [some (.ref 114), some (.int v1), some (.int v2), some (.int v3), some (.int ((mPI h 132 s0.toNatClampNeg ((h.1 132 (s0.toNatClampNeg)) + (nI 1))).1 132 (s0.toNatClampNeg))), some (.int (v5 + nI 1)), none] [] (mPI h 132 s0.toNatClampNeg ((h.1 132 (s0.toNatClampNeg)) + (nI 1))) out))))))) :
  mRuns (d + 1) 69 108 [some (.ref 114), some (.int v1), some (.int v2), some (.int v3), some (.int v4), some (.int v5), none] [.int s0] h out := mVc_from 24 H
-- TasterTableModel.waiting(I)I
set_option maxRecDepth 20000 in
theorem vc_M_waiting {d : Nat} {h : mHp} {out : mOut} {a1 : Int32} (H : (∃ (x2 : Int32) (h1 : mHp), mRuns d 31 0 [some (.ref 114), none, none] [] (mPI h 114 0 (nI 0)) (.inl (some (.int x2), h1)) ∧
 (∃ (x4 : Int32) (h3 : mHp), mRuns d 30 0 [some (.int a1), some (.int x2), some (.int (nI 2000))] [] h1 (.inl (some (.int x4), h3)) ∧
 (∃ (x6 : Int32) (h5 : mHp), mRuns d 8 0 [some (.ref 114), some (.int x4), some (.int (nI 1))] [] h3 (.inl (some (.int x6), h5)) ∧
 ((¬ x6 = 0 → mRuns (d + 1) 70 30 [some (.ref 114), some (.int a1), some (.int (nI 0)), some (.int (nI 0))] [] h5 out) ∧
 (x6 = 0 → out = .inl (some (.int (nI 0)), h5))))))) :
  mRuns (d + 1) 70 0 [some (.ref 114), some (.int a1), none, none] [] h out := mVc_from 17 H
set_option maxRecDepth 20000 in
theorem vc_M_waiting_30 {d : Nat} {h : mHp} {out : mOut} {v1 : Int32} {v2 : Int32} {v3 : Int32} (H : (∃ (x2 : Int32) (h1 : mHp), mRuns d 61 0 [some (.ref 114)] [] h (.inl (some (.int x2), h1)) ∧
 ((x2 ≤ v3 → out = .inl (some (.int v2), h1)) ∧
 (¬ x2 ≤ v3 → (∃ (x4 : Int32) (h3 : mHp), mRuns d 62 0 [some (.ref 114), some (.int v3), some (.int v3), some (.int v1), none, none, none, none, none] [] h1 (.inl (some (.int x4), h3)) ∧
 ((x4 = 0 → mRuns (d + 1) 70 30 [some (.ref 114), some (.int v1), some (.int (v2 + (nI 0))), some (.int (v3 + nI 1))] [] h3 out) ∧
 (¬ x4 = 0 → mRuns (d + 1) 70 30 [some (.ref 114), some (.int v1), some (.int (v2 + (nI 1))), some (.int (v3 + nI 1))] [] h3 out))))))) :
  mRuns (d + 1) 70 30 [some (.ref 114), some (.int v1), some (.int v2), some (.int v3)] [] h out := mVc_from 18 H
-- TasterTableModel.trial(IIIII)I
set_option maxRecDepth 20000 in
theorem vc_M_trial {d : Nat} {h : mHp} {out : mOut} {a1 : Int32} {a2 : Int32} {a3 : Int32} {a4 : Int32} {a5 : Int32} (H : ((a5 = 0 → mRuns (d + 1) 71 22 [some (.ref 114), some (.int a1), some (.int a2), some (.int a3), some (.int a4), some (.int a5), none, none, none] [.int (nI 1), .ref 114] (mPI h 114 0 (nI 0)) out) ∧
 (¬ a5 = 0 → ((¬ a5 = (nI 1) → mRuns (d + 1) 71 22 [some (.ref 114), some (.int a1), some (.int a2), some (.int a3), some (.int a4), some (.int a5), none, none, none] [.int (nI 0), .ref 114] (mPI h 114 0 (nI 0)) out) ∧
 (a5 = (nI 1) → mRuns (d + 1) 71 22 [some (.ref 114), some (.int a1), some (.int a2), some (.int a3), some (.int a4), some (.int a5), none, none, none] [.int (nI 1), .ref 114] (mPI h 114 0 (nI 0)) out))))) :
  mRuns (d + 1) 71 0 [some (.ref 114), some (.int a1), some (.int a2), some (.int a3), some (.int a4), some (.int a5), none, none, none] [] h out := mVc_from 12 H
set_option maxRecDepth 20000 in
theorem vc_M_trial_22 {d : Nat} {h : mHp} {out : mOut} {s0 : Int32} {v1 : Int32} {v2 : Int32} {v3 : Int32} {v4 : Int32} {v5 : Int32} (H : (∃ (x2 : Int32) (h1 : mHp), mRuns d 8 0 [some (.ref 114), some (.int s0), some (.int (nI 1))] [] h (.inl (some (.int x2), h1)) ∧
 ((¬ x2 = 0 → (∃ (x4 : Int32) (h3 : mHp), mRuns d 30 0 [some (.int v1), some (.int (nI 1)), some (.int (nI 30))] [] h1 (.inl (some (.int x4), h3)) ∧
 ((x4 = 0 → mRuns (d + 1) 71 74 [some (.ref 114), some (.int v1), some (.int v2), some (.int v3), some (.int v4), some (.int v5), none, none, none] [.ref 114] h3 out) ∧
 (¬ x4 = 0 → (∃ (x6 : Int32) (h5 : mHp), mRuns d 30 0 [some (.int v2), some (.int (nI 0)), some (.int v1)] [] h3 (.inl (some (.int x6), h5)) ∧
 ((x6 = 0 → mRuns (d + 1) 71 74 [some (.ref 114), some (.int v1), some (.int v2), some (.int v3), some (.int v4), some (.int v5), none, none, none] [.ref 114] h5 out) ∧
 (¬ x6 = 0 → (∃ (x8 : Int32) (h7 : mHp), mRuns d 30 0 [some (.int v3), some (.int (nI 0)), some (.int v1)] [] h5 (.inl (some (.int x8), h7)) ∧
 ((x8 = 0 → mRuns (d + 1) 71 74 [some (.ref 114), some (.int v1), some (.int v2), some (.int v3), some (.int v4), some (.int v5), none, none, none] [.ref 114] h7 out) ∧
 (¬ x8 = 0 → (∃ (x10 : Int32) (h9 : mHp), mRuns d 30 0 [some (.int v4), some (.int (nI 0)), some (.int v3)] [] h7 (.inl (some (.int x10), h9)) ∧
 ((x10 = 0 → mRuns (d + 1) 71 74 [some (.ref 114), some (.int v1), some (.int v2), some (.int v3), some (.int v4), some (.int v5), none, none, none] [.ref 114] h9 out) ∧
 (¬ x10 = 0 → (∃ (x12 : Int32) (h11 : mHp), mRuns d 8 0 [some (.ref 114), some (.int (nI 1)), some (.int (nI 2))] [] h9 (.inl (some (.int x12), h11)) ∧
 ((¬ x12 = 0 → mRuns (d + 1) 71 91 [some (.ref 114), some (.int v1), some (.int v2), some (.int v3), none, some (.int v5), some (.long (lN 0)), none, some (.int v4)] [] h11 out) ∧
 (x12 = 0 → out = .inl (some (.int (nI 0)), h11))))))))))))))))) ∧
 (x2 = 0 → out = .inl (some (.int (nI 0)), h1))))) :
  mRuns (d + 1) 71 22 [some (.ref 114), some (.int v1), some (.int v2), some (.int v3), some (.int v4), some (.int v5), none, none, none] [.int s0, .ref 114] h out := mVc_from 34 H
set_option maxRecDepth 20000 in
theorem vc_M_trial_74 {d : Nat} {h : mHp} {out : mOut} {v1 : Int32} {v2 : Int32} {v3 : Int32} {v4 : Int32} {v5 : Int32} (H : (∃ (x2 : Int32) (h1 : mHp), mRuns d 8 0 [some (.ref 114), some (.int (nI 0)), some (.int (nI 2))] [] h (.inl (some (.int x2), h1)) ∧
 ((¬ x2 = 0 → mRuns (d + 1) 71 91 [some (.ref 114), some (.int v1), some (.int v2), some (.int v3), none, some (.int v5), some (.long (lN 0)), none, some (.int v4)] [] h1 out) ∧
 (x2 = 0 → out = .inl (some (.int (nI 0)), h1))))) :
  mRuns (d + 1) 71 74 [some (.ref 114), some (.int v1), some (.int v2), some (.int v3), some (.int v4), some (.int v5), none, none, none] [.ref 114] h out := mVc_from 9 H
set_option maxRecDepth 20000 in
theorem vc_M_trial_91 {d : Nat} {h : mHp} {out : mOut} {v1 : Int32} {v2 : Int32} {v3 : Int32} {v5 : Int32} {v6 : Int64} {v8 : Int32} (H : ((v3 < v8 → (∃ (j2 : Int64) (h1 : mHp), mRuns d 72 0 [some (.ref 114), some (.int v1), some (.int v3), none, none] [] h (.inl (some (.long j2), h1)) ∧
 (∃ (j4 : Int64) (h3 : mHp), mRuns d 66 0 [some (.long v6), none, some (.long j2), none, some (.int v5), none, none, none, none, none, none] [] h1 (.inl (some (.long j4), h3)) ∧
 out = .inl (some (.int j4.toInt32), h3)))) ∧
 (¬ v3 < v8 → (∃ (j6 : Int64) (h5 : mHp), mRuns d 72 0 [some (.ref 114), some (.int v2), some (.int v8), none, none] [] h (.inl (some (.long j6), h5)) ∧
 (∃ (j8 : Int64) (h7 : mHp), mRuns d 72 0 [some (.ref 114), some (.int (v1 - v2)), some (.int (v3 - v8)), none, none] [] h5 (.inl (some (.long j8), h7)) ∧
 mRuns (d + 1) 71 91 [some (.ref 114), some (.int v1), some (.int v2), some (.int v3), none, some (.int v5), some (.long (v6 + (j6 * j8))), none, some (.int (v8 + nI 1))] [] h7 out))))) :
  mRuns (d + 1) 71 91 [some (.ref 114), some (.int v1), some (.int v2), some (.int v3), none, some (.int v5), some (.long v6), none, some (.int v8)] [] h out := mVc_from 22 H
-- TasterTableModel.choose(II)J
set_option maxRecDepth 20000 in
theorem vc_M_choose {d : Nat} {h : mHp} {out : mOut} {a1 : Int32} {a2 : Int32} (H : ((a2 < 0 → out = .inl (some (.long (lN 0)), h)) ∧
 (¬ a2 < 0 → ((a2 ≤ a1 → mRuns (d + 1) 72 13 [some (.ref 114), some (.int a1), some (.int a2), some (.int (nI 0)), none] [] h out) ∧
 (¬ a2 ≤ a1 → out = .inl (some (.long (lN 0)), h)))))) :
  mRuns (d + 1) 72 0 [some (.ref 114), some (.int a1), some (.int a2), none, none] [] h out := mVc_from 8 H
set_option maxRecDepth 20000 in
theorem vc_M_choose_13 {d : Nat} {h : mHp} {out : mOut} {v1 : Int32} {v2 : Int32} {v3 : Int32} (H : (((nI 30) < v3 → mRuns (d + 1) 72 42 [some (.ref 114), some (.int v1), some (.int v2), some (.int (nI 0)), none] [] h out) ∧
 (¬ (nI 30) < v3 → ((¬ v3 = 0 → (vp_in v3 31 ∧ mRuns (d + 1) 72 13 [some (.ref 114), some (.int v1), some (.int v2), some (.int (v3 + nI 1)), none] [] (mPL h 133 v3.toNatClampNeg (lN 0)) out)) ∧
 (v3 = 0 → (vp_in v3 31 ∧ mRuns (d + 1) 72 13 [some (.ref 114), some (.int v1), some (.int v2), some (.int (v3 + nI 1)), none] [] (mPL h 133 v3.toNatClampNeg (lN 1)) out)))))) :
  mRuns (d + 1) 72 13 [some (.ref 114), some (.int v1), some (.int v2), some (.int v3), none] [] h out := mVc_from 14 H
set_option maxRecDepth 20000 in
theorem vc_M_choose_42 {d : Nat} {h : mHp} {out : mOut} {v1 : Int32} {v2 : Int32} {v3 : Int32} (H : ((v1 ≤ v3 → (vp_in v2 31 ∧ out = .inl (some (.long (h.2.1 133 v2.toNatClampNeg)), h))) ∧
 (¬ v1 ≤ v3 → mRuns (d + 1) 72 51 [some (.ref 114), some (.int v1), some (.int v2), some (.int v3), some (.int (nI 30))] [] h out))) :
  mRuns (d + 1) 72 42 [some (.ref 114), some (.int v1), some (.int v2), some (.int v3), none] [] h out := mVc_from 8 H
set_option maxRecDepth 20000 in
theorem vc_M_choose_51 {d : Nat} {h : mHp} {out : mOut} {v1 : Int32} {v2 : Int32} {v3 : Int32} {v4 : Int32} (H : ((v4 ≤ 0 → mRuns (d + 1) 72 42 [some (.ref 114), some (.int v1), some (.int v2), some (.int (v3 + nI 1)), none] [] h out) ∧
 (¬ v4 ≤ 0 → (vp_in v4 31 ∧ (vp_in (v4 - (nI 1)) 31 ∧ (vp_in v4 31 ∧ mRuns (d + 1) 72 51 [some (.ref 114), some (.int v1), some (.int v2), some (.int v3), some (.int (v4 + (-1)))] [] (mPL h 133 v4.toNatClampNeg ((h.2.1 133 v4.toNatClampNeg) + (h.2.1 133 (v4 - (nI 1)).toNatClampNeg))) out)))))) :
  mRuns (d + 1) 72 51 [some (.ref 114), some (.int v1), some (.int v2), some (.int v3), some (.int v4)] [] h out := mVc_from 18 H
-- TasterTableModel.begin(III)Z
set_option maxRecDepth 20000 in
theorem vc_M_begin {d : Nat} {h : mHp} {out : mOut} {a1 : Int32} {a2 : Int32} {a3 : Int32} (H : (∃ (x2 : Int32) (h1 : mHp), mRuns d 43 0 [some (.ref 114), some (.int a2), some (.int (nI 1))] [] (mPI h 114 0 (nI 0)) (.inl (some (.int x2), h1)) ∧
 ((x2 = 0 → (((nI 0) = 0 ∨ (nI 0) = 1) ∧ out = .inl (some (.int (nI 0)), h1))) ∧
 (¬ x2 = 0 → (∃ (x4 : Int32) (h3 : mHp), mRuns d 30 0 [some (.int a3), some (.int (nI 0)), some (.int (nI 1000))] [] h1 (.inl (some (.int x4), h3)) ∧
 (∃ (x6 : Int32) (h5 : mHp), mRuns d 8 0 [some (.ref 114), some (.int x4), some (.int (nI 1))] [] h3 (.inl (some (.int x6), h5)) ∧
 ((¬ x6 = 0 → (∃ (x8 : Int32) (h7 : mHp), mRuns d 44 0 [some (.ref 114), some (.int a2), some (.int (nI 0)), none, none, none] [] h5 (.inl (some (.int x8), h7)) ∧
 ((¬ x8 = 0 → mRuns (d + 1) 73 76 [some (.ref 114), none, none, none, some (.int (nI 0))] [] (mPI (mPI (mPI (mPI h7 114 46 (nI 0)) 114 47 a1) 114 48 a2) 114 49 a3) out) ∧
 (x8 = 0 → (vp_in (nI 2) 3 ∧ (vp_in (nI 2) 3 ∧ (((nI 0) = 0 ∨ (nI 0) = 1) ∧ out = .inl (some (.int (nI 0)), mPI h7 120 (nI 2).toNatClampNeg ((h7.1 120 ((nI 2).toNatClampNeg)) + (nI 1)))))))))) ∧
 (x6 = 0 → (((nI 0) = 0 ∨ (nI 0) = 1) ∧ out = .inl (some (.int (nI 0)), h5)))))))))) :
  mRuns (d + 1) 73 0 [some (.ref 114), some (.int a1), some (.int a2), some (.int a3), none] [] h out := mVc_from 36 H
set_option maxRecDepth 20000 in
theorem vc_M_begin_76 {d : Nat} {h : mHp} {out : mOut} {v4 : Int32} (H : (((h.1 114 1) ≤ v4 → (∃ h1 : mHp, mRuns d 27 0 [some (.ref 114), some (.ref 118), some (.ref 135), none] [] h (.inl (none, h1)) ∧
 (((nI 1) = 0 ∨ (nI 1) = 1) ∧ out = .inl (some (.int (nI 1)), h1)))) ∧
 (¬ (h.1 114 1) ≤ v4 → (vp_in v4 6 ∧ (vp_in ((nI 2) * v4) 12 ∧ (vp_in (((nI 3) * v4) + (nI 1)) 18 ∧ (vp_in v4 6 ∧ (vp_in (((nI 32) * v4) + ((mPI h 134 ((nI 2) * v4).toNatClampNeg (h.1 127 (v4.toNatClampNeg))).1 127 (v4.toNatClampNeg))) 192 ∧ (vp_in (((nI 2) * v4) + (nI 1)) 12 ∧ mRuns (d + 1) 73 76 [some (.ref 114), none, none, none, some (.int (v4 + nI 1))] [] (mPI (mPI h 134 ((nI 2) * v4).toNatClampNeg (h.1 127 (v4.toNatClampNeg))) 134 (((nI 2) * v4) + (nI 1)).toNatClampNeg (((mPI h 134 ((nI 2) * v4).toNatClampNeg (h.1 127 (v4.toNatClampNeg))).1 115 ((((nI 3) * v4) + (nI 1)).toNatClampNeg)) - ((mPI h 134 ((nI 2) * v4).toNatClampNeg (h.1 127 (v4.toNatClampNeg))).1 125 ((((nI 32) * v4) + ((mPI h 134 ((nI 2) * v4).toNatClampNeg (h.1 127 (v4.toNatClampNeg))).1 127 (v4.toNatClampNeg))).toNatClampNeg)))) out))))))))) :
  mRuns (d + 1) 73 76 [some (.ref 114), none, none, none, some (.int v4)] [] h out := mVc_from 45 H
-- TasterTableModel.on(I)I
set_option maxRecDepth 20000 in
theorem vc_M_on {d : Nat} {h : mHp} {out : mOut} {a1 : Int32} (H : (∃ (x2 : Int32) (h1 : mHp), mRuns d 30 0 [some (.int a1), some (.int (nI 0)), some (.int (nI 100))] [] (mPI h 114 0 (nI 0)) (.inl (some (.int x2), h1)) ∧
 (∃ (x4 : Int32) (h3 : mHp), mRuns d 8 0 [some (.ref 114), some (.int x2), some (.int (nI 1))] [] h1 (.inl (some (.int x4), h3)) ∧
 ((¬ x4 = 0 → (((h3.1 114 46) = (-1) → (vp_in (nI 2) 3 ∧ (vp_in (nI 2) 3 ∧ out = .inl (some (.int (-1)), mPI h3 120 (nI 2).toNatClampNeg ((h3.1 120 ((nI 2).toNatClampNeg)) + (nI 1)))))) ∧
 (¬ (h3.1 114 46) = (-1) → ((((h3.1 114 46) + a1) ≤ (nI 300) → mRuns (d + 1) 74 56 [some (.ref 114), some (.int a1), some (.int (nI 0))] [] h3 out) ∧
 (¬ ((h3.1 114 46) + a1) ≤ (nI 300) → (vp_in (nI 2) 3 ∧ (vp_in (nI 2) 3 ∧ out = .inl (some (.int (-1)), mPI h3 120 (nI 2).toNatClampNeg ((h3.1 120 ((nI 2).toNatClampNeg)) + (nI 1)))))))))) ∧
 (x4 = 0 → out = .inl (some (.int (nI 0)), h3)))))) :
  mRuns (d + 1) 74 0 [some (.ref 114), some (.int a1), none] [] h out := mVc_from 31 H
set_option maxRecDepth 20000 in
theorem vc_M_on_56 {d : Nat} {h : mHp} {out : mOut} {v1 : Int32} {v2 : Int32} (H : ((v1 ≤ v2 → out = .inl (some (.int (h.1 114 46)), h)) ∧
 (¬ v1 ≤ v2 → (∃ h1 : mHp, mRuns d 75 0 [some (.ref 114), none, none, none, none, none, none, none, none] [] h (.inl (none, h1)) ∧
 mRuns (d + 1) 74 56 [some (.ref 114), some (.int v1), some (.int (v2 + nI 1))] [] h1 out)))) :
  mRuns (d + 1) 74 56 [some (.ref 114), some (.int v1), some (.int v2)] [] h out := mVc_from 8 H
-- TasterTableModel.dayGoes()V
set_option maxRecDepth 20000 in
theorem vc_M_dayGoes {d : Nat} {h : mHp} {out : mOut}  (H : (vp_in ((nI 4) * (h.1 114 46)) 1200 ∧ (vp_in (((nI 4) * (h.1 114 46)) + (nI 1)) 1200 ∧ (vp_in (((nI 4) * (h.1 114 46)) + (nI 2)) 1200 ∧ (vp_in (((nI 4) * (h.1 114 46)) + (nI 3)) 1200 ∧ (∃ (x2 : Int32) (h1 : mHp), mRuns d 76 0 [some (.ref 114), some (.int (nI 1000))] [] (mPI (mPI (mPI (mPI (mPI h 136 ((nI 4) * (h.1 114 46)).toNatClampNeg (-1)) 136 (((nI 4) * (h.1 114 46)) + (nI 1)).toNatClampNeg (-1)) 136 (((nI 4) * (h.1 114 46)) + (nI 2)).toNatClampNeg (nI 0)) 136 (((nI 4) * (h.1 114 46)) + (nI 3)).toNatClampNeg (nI 0)) 114 46 (((mPI (mPI (mPI (mPI h 136 ((nI 4) * (h.1 114 46)).toNatClampNeg (-1)) 136 (((nI 4) * (h.1 114 46)) + (nI 1)).toNatClampNeg (-1)) 136 (((nI 4) * (h.1 114 46)) + (nI 2)).toNatClampNeg (nI 0)) 136 (((nI 4) * (h.1 114 46)) + (nI 3)).toNatClampNeg (nI 0)).1 114 46) + (nI 1))) (.inl (some (.int x2), h1)) ∧
 ((x2 < (h1.1 114 49) → mRuns (d + 1) 75 73 [some (.ref 114), some (.int ((nI 4) * (h.1 114 46))), some (.int (nI 0)), some (.int (nI 0)), some (.int (nI 0)), none, none, none, none] [] h1 out) ∧
 (¬ x2 < (h1.1 114 49) → out = .inl (none, h1))))))))) :
  mRuns (d + 1) 75 0 [some (.ref 114), none, none, none, none, none, none, none, none] [] h out := mVc_from 50 H
set_option maxRecDepth 20000 in
theorem vc_M_dayGoes_73 {d : Nat} {h : mHp} {out : mOut} {v1 : Int32} {v2 : Int32} {v3 : Int32} {v4 : Int32} (H : (((h.1 114 1) ≤ v4 → mRuns (d + 1) 75 105 [some (.ref 114), some (.int v1), some (.int v2), some (.int v3), some (.int (nI 0)), none, none, none, none] [] h out) ∧
 (¬ (h.1 114 1) ≤ v4 → (vp_in (((nI 3) * v4) + (nI 2)) 18 ∧ mRuns (d + 1) 75 73 [some (.ref 114), some (.int v1), some (.int (v2 + (h.1 115 ((((nI 3) * v4) + (nI 2)).toNatClampNeg)))), some (.int v3), some (.int (v4 + nI 1)), none, none, none, none] [] h out)))) :
  mRuns (d + 1) 75 73 [some (.ref 114), some (.int v1), some (.int v2), some (.int v3), some (.int v4), none, none, none, none] [] h out := mVc_from 18 H
set_option maxRecDepth 20000 in
theorem vc_M_dayGoes_105 {d : Nat} {h : mHp} {out : mOut} {v1 : Int32} {v2 : Int32} {v3 : Int32} {v4 : Int32} (H : (((h.1 114 2) ≤ v4 → ((v2 = 0 → out = .inl (none, h)) ∧
 (¬ v2 = 0 → ((¬ v3 = 0 → (∃ (x2 : Int32) (h1 : mHp), mRuns d 76 0 [some (.ref 114), some (.int v2)] [] h (.inl (some (.int x2), h1)) ∧
 mRuns (d + 1) 75 153 [some (.ref 114), some (.int v1), none, some (.int v3), some (.int x2), some (.int (nI 0)), none, none, none] [] h1 out)) ∧
 (v3 = 0 → out = .inl (none, h)))))) ∧
 (¬ (h.1 114 2) ≤ v4 → (vp_in (((nI 4) * v4) + (nI 3)) 20 ∧ mRuns (d + 1) 75 105 [some (.ref 114), some (.int v1), some (.int v2), some (.int (v3 + (h.1 116 ((((nI 4) * v4) + (nI 3)).toNatClampNeg)))), some (.int (v4 + nI 1)), none, none, none, none] [] h out)))) :
  mRuns (d + 1) 75 105 [some (.ref 114), some (.int v1), some (.int v2), some (.int v3), some (.int v4), none, none, none, none] [] h out := mVc_from 18 H
set_option maxRecDepth 20000 in
theorem vc_M_dayGoes_153 {d : Nat} {h : mHp} {out : mOut} {v1 : Int32} {v3 : Int32} {v4 : Int32} {v5 : Int32} (H : (vp_in (((nI 3) * v5) + (nI 2)) 18 ∧ ((v4 < (h.1 115 ((((nI 3) * v5) + (nI 2)).toNatClampNeg)) → (∃ (x2 : Int32) (h1 : mHp), mRuns d 76 0 [some (.ref 114), some (.int v3)] [] h (.inl (some (.int x2), h1)) ∧
 mRuns (d + 1) 75 201 [some (.ref 114), some (.int v1), none, none, some (.int x2), some (.int v5), some (.int (nI 0)), none, none] [] h1 out)) ∧
 (¬ v4 < (h.1 115 ((((nI 3) * v5) + (nI 2)).toNatClampNeg)) → (vp_in (((nI 3) * v5) + (nI 2)) 18 ∧ mRuns (d + 1) 75 153 [some (.ref 114), some (.int v1), none, some (.int v3), some (.int (v4 - (h.1 115 ((((nI 3) * v5) + (nI 2)).toNatClampNeg)))), some (.int (v5 + nI 1)), none, none, none] [] h out))))) :
  mRuns (d + 1) 75 153 [some (.ref 114), some (.int v1), none, some (.int v3), some (.int v4), some (.int v5), none, none, none] [] h out := mVc_from 24 H
set_option maxRecDepth 20000 in
theorem vc_M_dayGoes_201 {d : Nat} {h : mHp} {out : mOut} {v1 : Int32} {v4 : Int32} {v5 : Int32} {v6 : Int32} (H : (vp_in (((nI 4) * v6) + (nI 3)) 20 ∧ ((v4 < (h.1 116 ((((nI 4) * v6) + (nI 3)).toNatClampNeg)) → (vp_in v1 1200 ∧ (vp_in (v1 + (nI 1)) 1200 ∧ mRuns (d + 1) 75 260 [some (.ref 114), some (.int v1), none, none, none, some (.int v5), some (.int v6), some (.int (nI 0)), none] [] (mPI (mPI h 136 v1.toNatClampNeg v5) 136 (v1 + (nI 1)).toNatClampNeg v6) out))) ∧
 (¬ v4 < (h.1 116 ((((nI 4) * v6) + (nI 3)).toNatClampNeg)) → (vp_in (((nI 4) * v6) + (nI 3)) 20 ∧ mRuns (d + 1) 75 201 [some (.ref 114), some (.int v1), none, none, some (.int (v4 - (h.1 116 ((((nI 4) * v6) + (nI 3)).toNatClampNeg)))), some (.int v5), some (.int (v6 + nI 1)), none, none] [] h out))))) :
  mRuns (d + 1) 75 201 [some (.ref 114), some (.int v1), none, none, some (.int v4), some (.int v5), some (.int v6), none, none] [] h out := mVc_from 25 H
set_option maxRecDepth 20000 in
theorem vc_M_dayGoes_260 {d : Nat} {h : mHp} {out : mOut} {v1 : Int32} {v5 : Int32} {v6 : Int32} {v7 : Int32} (H : (((h.1 114 3) ≤ v7 → (vp_in (v1 + (nI 2)) 1200 ∧ (∃ (x2 : Int32) (h1 : mHp), mRuns d 47 0 [some (.int (h.1 136 ((v1 + (nI 2)).toNatClampNeg))), none, none] [] h (.inl (some (.int x2), h1)) ∧
 (((h1.1 114 48) < x2 → (vp_in (v1 + (nI 3)) 1200 ∧ out = .inl (none, mPI h1 136 (v1 + (nI 3)).toNatClampNeg (nI 0)))) ∧
 (¬ (h1.1 114 48) < x2 → (vp_in (v1 + (nI 3)) 1200 ∧ out = .inl (none, mPI h1 136 (v1 + (nI 3)).toNatClampNeg (nI 1)))))))) ∧
 (¬ (h.1 114 3) ≤ v7 → (vp_in ((nI 2) * v5) 12 ∧ ((¬ (((h.1 134 (((nI 2) * v5).toNatClampNeg)) >>> (v7 &&& 31)) &&& (nI 1)) = 0 → (vp_in (((nI 5) * v7) + v6) 25 ∧ (∃ (x4 : Int32) (h3 : mHp), mRuns d 41 0 [some (.ref 114), some (.int v7), some (.int v6), some (.int (nI 1)), some (.int (h.1 135 ((((nI 5) * v7) + v6).toNatClampNeg))), none, none, none] [] h (.inl (some (.int x4), h3)) ∧
 ((x4 = (-1) → mRuns (d + 1) 75 361 [some (.ref 114), some (.int v1), none, none, none, some (.int v5), some (.int v6), some (.int v7), none] [] h3 out) ∧
 (¬ x4 = (-1) → (vp_in (((nI 2) * v5) + (nI 1)) 12 ∧ (vp_in (((nI 3) * v5) + (nI 1)) 18 ∧ (((h3.1 115 ((((nI 3) * v5) + (nI 1)).toNatClampNeg)) < ((h3.1 134 ((((nI 2) * v5) + (nI 1)).toNatClampNeg)) + x4) → mRuns (d + 1) 75 361 [some (.ref 114), some (.int v1), none, none, none, some (.int v5), some (.int v6), some (.int v7), none] [] h3 out) ∧
 (¬ (h3.1 115 ((((nI 3) * v5) + (nI 1)).toNatClampNeg)) < ((h3.1 134 ((((nI 2) * v5) + (nI 1)).toNatClampNeg)) + x4) → (vp_in (v1 + (nI 2)) 1200 ∧ (vp_in (v1 + (nI 2)) 1200 ∧ mRuns (d + 1) 75 361 [some (.ref 114), some (.int v1), none, none, none, some (.int v5), some (.int v6), some (.int v7), none] [] (mPI h3 136 (v1 + (nI 2)).toNatClampNeg ((h3.1 136 ((v1 + (nI 2)).toNatClampNeg)) ||| ((nI 1) <<< (v7 &&& 31)))) out))))))))))) ∧
 ((((h.1 134 (((nI 2) * v5).toNatClampNeg)) >>> (v7 &&& 31)) &&& (nI 1)) = 0 → mRuns (d + 1) 75 260 [some (.ref 114), some (.int v1), none, none, none, some (.int v5), some (.int v6), some (.int (v7 + nI 1)), none] [] h out)))))) :
  mRuns (d + 1) 75 260 [some (.ref 114), some (.int v1), none, none, none, some (.int v5), some (.int v6), some (.int v7), none] [] h out := mVc_from 64 H
set_option maxRecDepth 20000 in
theorem vc_M_dayGoes_361 {d : Nat} {h : mHp} {out : mOut} {v1 : Int32} {v5 : Int32} {v6 : Int32} {v7 : Int32} (H : (vp_in (((nI 5) * v7) + v6) 25 ∧ (((nI 99) ≤ (h.1 135 ((((nI 5) * v7) + v6).toNatClampNeg)) → mRuns (d + 1) 75 260 [some (.ref 114), some (.int v1), none, none, none, some (.int v5), some (.int v6), some (.int (v7 + nI 1)), none] [] h out) ∧
 (¬ (nI 99) ≤ (h.1 135 ((((nI 5) * v7) + v6).toNatClampNeg)) → (vp_in (((nI 5) * v7) + v6) 25 ∧ (vp_in (((nI 5) * v7) + v6) 25 ∧ mRuns (d + 1) 75 260 [some (.ref 114), some (.int v1), none, none, none, some (.int v5), some (.int v6), some (.int (v7 + nI 1)), none] [] (mPI h 135 (((nI 5) * v7) + v6).toNatClampNeg ((h.1 135 ((((nI 5) * v7) + v6).toNatClampNeg)) + (nI 1))) out)))))) :
  mRuns (d + 1) 75 361 [some (.ref 114), some (.int v1), none, none, none, some (.int v5), some (.int v6), some (.int v7), none] [] h out := mVc_from 25 H
-- TasterTableModel.draw(I)I
set_option maxRecDepth 20000 in
theorem vc_M_draw {d : Nat} {h : mHp} {out : mOut} {a1 : Int32} (H : (¬ a1 = 0 ∧ out = .inl (some (.int (((((mPI h 114 47 (((h.1 114 47) * (nI 1103515245)) + (nI 12345))).1 114 47) >>> ((nI 16) &&& 31)) &&& (nI 32767)) - ((((mPI h 114 47 (((h.1 114 47) * (nI 1103515245)) + (nI 12345))).1 114 47) >>> ((nI 16) &&& 31)) &&& (nI 32767)) / a1 * a1)), mPI h 114 47 (((h.1 114 47) * (nI 1103515245)) + (nI 12345))))) :
  mRuns (d + 1) 76 0 [some (.ref 114), some (.int a1)] [] h out := mVc_from 17 H
-- TasterTableModel.day(II)I
set_option maxRecDepth 20000 in
theorem vc_M_day {d : Nat} {h : mHp} {out : mOut} {a1 : Int32} {a2 : Int32} (H : ((((mPI h 114 0 (nI 0)).1 114 46) = (-1) → mRuns (d + 1) 77 40 [some (.ref 114), some (.int a1), some (.int a2)] [.int (nI 0), .ref 114] (mPI h 114 0 (nI 0)) out) ∧
 (¬ ((mPI h 114 0 (nI 0)).1 114 46) = (-1) → ((a1 < 0 → mRuns (d + 1) 77 40 [some (.ref 114), some (.int a1), some (.int a2)] [.int (nI 0), .ref 114] (mPI h 114 0 (nI 0)) out) ∧
 (¬ a1 < 0 → ((((mPI h 114 0 (nI 0)).1 114 46) ≤ a1 → mRuns (d + 1) 77 40 [some (.ref 114), some (.int a1), some (.int a2)] [.int (nI 0), .ref 114] (mPI h 114 0 (nI 0)) out) ∧
 (¬ ((mPI h 114 0 (nI 0)).1 114 46) ≤ a1 → (∃ (x2 : Int32) (h1 : mHp), mRuns d 30 0 [some (.int a2), some (.int (nI 0)), some (.int (nI 3))] [] (mPI h 114 0 (nI 0)) (.inl (some (.int x2), h1)) ∧
 ((x2 = 0 → mRuns (d + 1) 77 40 [some (.ref 114), some (.int a1), some (.int a2)] [.int (nI 0), .ref 114] h1 out) ∧
 (¬ x2 = 0 → mRuns (d + 1) 77 40 [some (.ref 114), some (.int a1), some (.int a2)] [.int (nI 1), .ref 114] h1 out)))))))))) :
  mRuns (d + 1) 77 0 [some (.ref 114), some (.int a1), some (.int a2)] [] h out := mVc_from 22 H
set_option maxRecDepth 20000 in
theorem vc_M_day_40 {d : Nat} {h : mHp} {out : mOut} {s0 : Int32} {v1 : Int32} {v2 : Int32} (H : (∃ (x2 : Int32) (h1 : mHp), mRuns d 8 0 [some (.ref 114), some (.int s0), some (.int (nI 1))] [] h (.inl (some (.int x2), h1)) ∧
 ((x2 = 0 → out = .inl (some (.int (nI 0)), h1)) ∧
 (¬ x2 = 0 → (vp_in (((nI 4) * v1) + v2) 1200 ∧ out = .inl (some (.int (h1.1 136 ((((nI 4) * v1) + v2).toNatClampNeg))), h1)))))) :
  mRuns (d + 1) 77 40 [some (.ref 114), some (.int v1), some (.int v2)] [.int s0, .ref 114] h out := mVc_from 13 H
-- TasterTableModel.had(II)I
set_option maxRecDepth 20000 in
theorem vc_M_had {d : Nat} {h : mHp} {out : mOut} {a1 : Int32} {a2 : Int32} (H : (∃ (x2 : Int32) (h1 : mHp), mRuns d 37 0 [some (.ref 114), some (.int a1)] [] (mPI h 114 0 (nI 0)) (.inl (some (.int x2), h1)) ∧
 ((x2 = 0 → out = .inl (some (.int (nI 0)), h1)) ∧
 (¬ x2 = 0 → (∃ (x4 : Int32) (h3 : mHp), mRuns d 35 0 [some (.ref 114), some (.int a2)] [] h1 (.inl (some (.int x4), h3)) ∧
 ((x4 = 0 → out = .inl (some (.int (nI 0)), h3)) ∧
 (¬ x4 = 0 → (((h3.1 114 46) = (-1) → mRuns (d + 1) 78 35 [some (.ref 114), some (.int a1), some (.int a2)] [.int (nI 0), .ref 114] h3 out) ∧
 (¬ (h3.1 114 46) = (-1) → mRuns (d + 1) 78 35 [some (.ref 114), some (.int a1), some (.int a2)] [.int (nI 1), .ref 114] h3 out))))))))) :
  mRuns (d + 1) 78 0 [some (.ref 114), some (.int a1), some (.int a2)] [] h out := mVc_from 19 H
set_option maxRecDepth 20000 in
theorem vc_M_had_35 {d : Nat} {h : mHp} {out : mOut} {s0 : Int32} {v1 : Int32} {v2 : Int32} (H : (∃ (x2 : Int32) (h1 : mHp), mRuns d 8 0 [some (.ref 114), some (.int s0), some (.int (nI 1))] [] h (.inl (some (.int x2), h1)) ∧
 ((x2 = 0 → out = .inl (some (.int (nI 0)), h1)) ∧
 (¬ x2 = 0 → (vp_in (((nI 5) * v1) + v2) 25 ∧ out = .inl (some (.int (h1.1 135 ((((nI 5) * v1) + v2).toNatClampNeg))), h1)))))) :
  mRuns (d + 1) 78 35 [some (.ref 114), some (.int v1), some (.int v2)] [.int s0, .ref 114] h out := mVc_from 13 H
-- TasterTableModel.image()V
set_option maxRecDepth 20000 in
theorem vc_M_image {d : Nat} {h : mHp} {out : mOut}  (H : (((nI 1) = 0 ∨ (nI 1) = 1) ∧ (∃ h1 : mHp, mRuns d 27 0 [some (.ref 114), some (.ref 131), some (.ref 137), none] [] (mPI (mPI (mPI (mPI (mPI (mPI (mPI h 114 0 (nI 0)) 114 53 (nI 1)) 114 54 ((mPI (mPI h 114 0 (nI 0)) 114 53 (nI 1)).1 114 42)) 114 55 ((mPI (mPI (mPI h 114 0 (nI 0)) 114 53 (nI 1)) 114 54 ((mPI (mPI h 114 0 (nI 0)) 114 53 (nI 1)).1 114 42)).1 114 46)) 114 56 ((mPI (mPI (mPI (mPI h 114 0 (nI 0)) 114 53 (nI 1)) 114 54 ((mPI (mPI h 114 0 (nI 0)) 114 53 (nI 1)).1 114 42)) 114 55 ((mPI (mPI (mPI h 114 0 (nI 0)) 114 53 (nI 1)) 114 54 ((mPI (mPI h 114 0 (nI 0)) 114 53 (nI 1)).1 114 42)).1 114 46)).1 114 47)) 114 57 ((mPI (mPI (mPI (mPI (mPI h 114 0 (nI 0)) 114 53 (nI 1)) 114 54 ((mPI (mPI h 114 0 (nI 0)) 114 53 (nI 1)).1 114 42)) 114 55 ((mPI (mPI (mPI h 114 0 (nI 0)) 114 53 (nI 1)) 114 54 ((mPI (mPI h 114 0 (nI 0)) 114 53 (nI 1)).1 114 42)).1 114 46)) 114 56 ((mPI (mPI (mPI (mPI h 114 0 (nI 0)) 114 53 (nI 1)) 114 54 ((mPI (mPI h 114 0 (nI 0)) 114 53 (nI 1)).1 114 42)) 114 55 ((mPI (mPI (mPI h 114 0 (nI 0)) 114 53 (nI 1)) 114 54 ((mPI (mPI h 114 0 (nI 0)) 114 53 (nI 1)).1 114 42)).1 114 46)).1 114 47)).1 114 48)) 114 58 ((mPI (mPI (mPI (mPI (mPI (mPI h 114 0 (nI 0)) 114 53 (nI 1)) 114 54 ((mPI (mPI h 114 0 (nI 0)) 114 53 (nI 1)).1 114 42)) 114 55 ((mPI (mPI (mPI h 114 0 (nI 0)) 114 53 (nI 1)) 114 54 ((mPI (mPI h 114 0 (nI 0)) 114 53 (nI 1)).1 114 42)).1 114 46)) 114 56 ((mPI (mPI (mPI (mPI h 114 0 (nI 0)) 114 53 (nI 1)) 114 54 ((mPI (mPI h 114 0 (nI 0)) 114 53 (nI 1)).1 114 42)) 114 55 ((mPI (mPI (mPI h 114 0 (nI 0)) 114 53 (nI 1)) 114 54 ((mPI (mPI h 114 0 (nI 0)) 114 53 (nI 1)).1 114 42)).1 114 46)).1 114 47)) 114 57 ((mPI (mPI (mPI (mPI (mPI h 114 0 (nI 0)) 114 53 (nI 1)) 114 54 ((mPI (mPI h 114 0 (nI 0)) 114 53 (nI 1)).1 114 42)) 114 55 ((mPI (mPI (mPI h 114 0 (nI 0)) 114 53 (nI 1)) 114 54 ((mPI (mPI h 114 0 (nI 0)) 114 53 (nI 1)).1 114 42)).1 114 46)) 114 56 ((mPI (mPI (mPI (mPI h 114 0 (nI 0)) 114 53 (nI 1)) 114 54 ((mPI (mPI h 114 0 (nI 0)) 114 53 (nI 1)).1 114 42)) 114 55 ((mPI (mPI (mPI h 114 0 (nI 0)) 114 53 (nI 1)) 114 54 ((mPI (mPI h 114 0 (nI 0)) 114 53 (nI 1)).1 114 42)).1 114 46)).1 114 47)).1 114 48)).1 114 49)) (.inl (none, h1)) ∧
 (∃ h2 : mHp, mRuns d 27 0 [some (.ref 114), some (.ref 134), some (.ref 138), none] [] h1 (.inl (none, h2)) ∧
 (∃ h3 : mHp, mRuns d 27 0 [some (.ref 114), some (.ref 135), some (.ref 139), none] [] h2 (.inl (none, h3)) ∧
 (∃ h4 : mHp, mRuns d 27 0 [some (.ref 114), some (.ref 136), some (.ref 140), none] [] h3 (.inl (none, h4)) ∧
 out = .inl (none, h4))))))) :
  mRuns (d + 1) 79 0 [some (.ref 114)] [] h out := mVc_from 51 H
-- TasterTableModel.restore()Z
set_option maxRecDepth 20000 in
theorem vc_M_restore {d : Nat} {h : mHp} {out : mOut}  (H : ((¬ ((mPI h 114 0 (nI 0)).1 114 53) = 0 → (∃ h1 : mHp, mRuns d 27 0 [some (.ref 114), some (.ref 137), some (.ref 131), none] [] (mPI (mPI (mPI (mPI (mPI (mPI h 114 0 (nI 0)) 114 42 ((mPI h 114 0 (nI 0)).1 114 54)) 114 46 ((mPI (mPI h 114 0 (nI 0)) 114 42 ((mPI h 114 0 (nI 0)).1 114 54)).1 114 55)) 114 47 ((mPI (mPI (mPI h 114 0 (nI 0)) 114 42 ((mPI h 114 0 (nI 0)).1 114 54)) 114 46 ((mPI (mPI h 114 0 (nI 0)) 114 42 ((mPI h 114 0 (nI 0)).1 114 54)).1 114 55)).1 114 56)) 114 48 ((mPI (mPI (mPI (mPI h 114 0 (nI 0)) 114 42 ((mPI h 114 0 (nI 0)).1 114 54)) 114 46 ((mPI (mPI h 114 0 (nI 0)) 114 42 ((mPI h 114 0 (nI 0)).1 114 54)).1 114 55)) 114 47 ((mPI (mPI (mPI h 114 0 (nI 0)) 114 42 ((mPI h 114 0 (nI 0)).1 114 54)) 114 46 ((mPI (mPI h 114 0 (nI 0)) 114 42 ((mPI h 114 0 (nI 0)).1 114 54)).1 114 55)).1 114 56)).1 114 57)) 114 49 ((mPI (mPI (mPI (mPI (mPI h 114 0 (nI 0)) 114 42 ((mPI h 114 0 (nI 0)).1 114 54)) 114 46 ((mPI (mPI h 114 0 (nI 0)) 114 42 ((mPI h 114 0 (nI 0)).1 114 54)).1 114 55)) 114 47 ((mPI (mPI (mPI h 114 0 (nI 0)) 114 42 ((mPI h 114 0 (nI 0)).1 114 54)) 114 46 ((mPI (mPI h 114 0 (nI 0)) 114 42 ((mPI h 114 0 (nI 0)).1 114 54)).1 114 55)).1 114 56)) 114 48 ((mPI (mPI (mPI (mPI h 114 0 (nI 0)) 114 42 ((mPI h 114 0 (nI 0)).1 114 54)) 114 46 ((mPI (mPI h 114 0 (nI 0)) 114 42 ((mPI h 114 0 (nI 0)).1 114 54)).1 114 55)) 114 47 ((mPI (mPI (mPI h 114 0 (nI 0)) 114 42 ((mPI h 114 0 (nI 0)).1 114 54)) 114 46 ((mPI (mPI h 114 0 (nI 0)) 114 42 ((mPI h 114 0 (nI 0)).1 114 54)).1 114 55)).1 114 56)).1 114 57)).1 114 58)) (.inl (none, h1)) ∧
 (∃ h2 : mHp, mRuns d 27 0 [some (.ref 114), some (.ref 138), some (.ref 134), none] [] h1 (.inl (none, h2)) ∧
 (∃ h3 : mHp, mRuns d 27 0 [some (.ref 114), some (.ref 139), some (.ref 135), none] [] h2 (.inl (none, h3)) ∧
 (∃ h4 : mHp, mRuns d 27 0 [some (.ref 114), some (.ref 140), some (.ref 136), none] [] h3 (.inl (none, h4)) ∧
 (((nI 1) = 0 ∨ (nI 1) = 1) ∧ out = .inl (some (.int (nI 1)), h4))))))) ∧
 (((mPI h 114 0 (nI 0)).1 114 53) = 0 → (((nI 0) = 0 ∨ (nI 0) = 1) ∧ out = .inl (some (.int (nI 0)), mPI h 114 0 (nI 0)))))) :
  mRuns (d + 1) 80 0 [some (.ref 114)] [] h out := mVc_from 52 H

/-! THE SMALL MACHINE: one step as a proposition (mF), the least relation closed under it (mRuns), and its unfolding (mVc) -/
abbrev mLv : Type := List (Option Value)
abbrev mHp : Type := (Nat → Nat → Int32) × (Nat → Nat → Int64) × (Nat → Nat → Nat) × Nat
abbrev mOut : Type := (Option Value × mHp) ⊕ (Nat × mHp)
abbrev mP : Type := Nat → Nat → Nat → mLv → List Value → mHp → mOut → Prop
def mGet : mLv → Nat → Option Value
  | [], _ => none
  | o :: _, 0 => o
  | _ :: r, k + 1 => mGet r k
def mKill : Option Value → Option Value
  | some (.long _) => none
  | some (.double _) => none
  | o => o
def mSet : mLv → Nat → Value → mLv
  | [], _, _ => []
  | _ :: r, 0, v => some v :: r
  | o :: r, 1, v => mKill o :: mSet r 0 v
  | o :: r, k + 2, v => o :: mSet r (k + 1) v
def mClr : mLv → Nat → mLv
  | [], _ => []
  | _ :: r, 0 => none :: r
  | o :: r, k + 1 => o :: mClr r k
def mMsk : List Bool → mLv → mLv
  | _, [] => []
  | [], _ :: r => none :: mMsk [] r
  | true :: bs, o :: r => o :: mMsk bs r
  | false :: bs, _ :: r => none :: mMsk bs r
def mSl : List Value → mLv
  | [] => []
  | .long x :: r => some (.long x) :: none :: mSl r
  | .double x :: r => some (.double x) :: none :: mSl r
  | v :: r => some v :: mSl r
def mPad : Nat → mLv → mLv
  | 0, _ => []
  | n + 1, [] => none :: mPad n []
  | n + 1, o :: r => o :: mPad n r
def mEnt (n : Nat) (args : List Value) : mLv := mPad n (mSl args)
def mTk : Nat → List Value → List Value → (List Value → List Value → Prop) → Prop
  | 0, acc, st, K => K acc st
  | n + 1, acc, v :: st, K => mTk n (v :: acc) st K
  | _ + 1, _, [], _ => False
def mW1 : Value → Nat
  | .long _ => 2
  | .double _ => 2
  | _ => 1
def mWd : List Value → Nat
  | [] => 0
  | v :: r => mW1 v + mWd r
def mPI (h : mHp) (a k : Nat) (v : Int32) : mHp := (fun x y => if x = a ∧ y = k then v else h.1 x y, h.2.1, h.2.2.1, h.2.2.2)
def mPL (h : mHp) (a k : Nat) (v : Int64) : mHp := (h.1, fun x y => if x = a ∧ y = k then v else h.2.1 x y, h.2.2.1, h.2.2.2)
def mPR (h : mHp) (a k v : Nat) : mHp := (h.1, h.2.1, fun x y => if x = a ∧ y = k then v else h.2.2.1 x y, h.2.2.2)
def mCp (h : mHp) (sa sp da dp n : Nat) : mHp := (fun x y => if x = da ∧ dp ≤ y ∧ y < dp + n then h.1 sa (sp + (y - dp)) else h.1 x y, h.2.1, h.2.2.1, h.2.2.2)
def mXc (h : mHp) : mHp := (h.1, h.2.1, h.2.2.1, h.2.2.2 + 1)
def mI1 (K : Int32 → List Value → Prop) : List Value → Prop
  | .int x :: r => K x r
  | _ => False
def mI2 (K : Int32 → Int32 → List Value → Prop) : List Value → Prop
  | .int y :: .int x :: r => K x y r
  | _ => False
def mL1 (K : Int64 → List Value → Prop) : List Value → Prop
  | .long x :: r => K x r
  | _ => False
def mL2 (K : Int64 → Int64 → List Value → Prop) : List Value → Prop
  | .long y :: .long x :: r => K x y r
  | _ => False
def mIL (K : Int64 → Int32 → List Value → Prop) : List Value → Prop
  | .int y :: .long x :: r => K x y r
  | _ => False
def mR1 (K : Nat → List Value → Prop) : List Value → Prop
  | .ref a :: r => K a r
  | _ => False
def mIR (K : Int32 → Nat → List Value → Prop) : List Value → Prop
  | .int i :: .ref a :: r => K i a r
  | _ => False
def mIIR (K : Int32 → Int32 → Nat → List Value → Prop) : List Value → Prop
  | .int x :: .int i :: .ref a :: r => K x i a r
  | _ => False
def mLIR (K : Int64 → Int32 → Nat → List Value → Prop) : List Value → Prop
  | .long x :: .int i :: .ref a :: r => K x i a r
  | _ => False
def mLR (K : Int64 → Nat → List Value → Prop) : List Value → Prop
  | .long x :: .ref a :: r => K x a r
  | _ => False
def mRR (K : Nat → Nat → List Value → Prop) : List Value → Prop
  | .ref x :: .ref a :: r => K x a r
  | _ => False
def mDup (K : Value → List Value → Prop) : List Value → Prop
  | .int x :: r => K (.int x) r
  | .ref x :: r => K (.ref x) r
  | _ => False
def mCpy (K : Int32 → Int32 → Nat → Int32 → Nat → List Value → Prop) : List Value → Prop
  | .int n :: .int dp :: .ref da :: .int sp :: .ref sa :: r => K n dp da sp sa r
  | _ => False
def mGi (K : Int32 → Prop) : Option Value → Prop
  | some (.int x) => K x
  | _ => False
def mGl (K : Int64 → Prop) : Option Value → Prop
  | some (.long x) => K x
  | _ => False
def mGr (K : Nat → Prop) : Option Value → Prop
  | some (.ref x) => K x
  | _ => False
def mBr (cn : ClassFile.Cond) (x y : Int32) (A B : Prop) : Prop := match cn with
  | .eq => (x = y → A) ∧ (¬ x = y → B)
  | .ne => (¬ x = y → A) ∧ (x = y → B)
  | .lt => (x < y → A) ∧ (¬ x < y → B)
  | .ge => (y ≤ x → A) ∧ (¬ y ≤ x → B)
  | .gt => (y < x → A) ∧ (¬ y < x → B)
  | .le => (x ≤ y → A) ∧ (¬ x ≤ y → B)
def mSw (K : Nat → Prop) (x : Int32) : List Nat → Nat → Prop
  | [], _ => True
  | t :: ts, j => (x = nI j → K t) ∧ mSw K x ts (j + 1)
def mFind : List (Nat × Nat × Nat × Nat × Nat × Nat) → Nat → Nat → Nat → Option (Nat × Nat)
  | [], _, _, _ => none
  | (m', s0, e0, x, q, k) :: r, m, pc, E => bif (Nat.beq m' m && Nat.ble s0 pc && Nat.blt pc e0 && Nat.beq x E) then some (q, k) else mFind r m pc E
def mTrue (K : Prop) : Bool → Prop
  | true => K
  | false => False
def mHnd (PN : mP) (d m pc : Nat) (lv : mLv) (E : Nat) (h : mHp) (out : mOut) : Option (Nat × Nat) → Prop
  | none => mTrue (out = .inr (E, h)) (mHh m).isEmpty
  | some (q, k) => PN d m q (mClr (mSet lv k .null) k) [] h out
def mRet (PC PN : mP) (d d' m pc : Nat) (lv : mLv) (y : Nat) (args rest : List Value) (h : mHp) (out : mOut) : Nat → Prop
  | 0 => ∃ h', PC d' y 0 (mEnt (mMt y).1 args) [] h (.inl (none, h')) ∧ PN d m (pc + 3) lv rest h' out
  | 1 => ∃ (x : Int32) (h' : mHp), PC d' y 0 (mEnt (mMt y).1 args) [] h (.inl (some (.int x), h')) ∧ PN d m (pc + 3) lv (.int x :: rest) h' out
  | 2 => ∃ (x : Int32) (h' : mHp), PC d' y 0 (mEnt (mMt y).1 args) [] h (.inl (some (.int x), h')) ∧ PN d m (pc + 3) lv (.int x :: rest) h' out
  | 3 => ∃ (x : Int64) (h' : mHp), PC d' y 0 (mEnt (mMt y).1 args) [] h (.inl (some (.long x), h')) ∧ PN d m (pc + 3) lv (.long x :: rest) h' out
  | 4 => ∃ (x : Nat) (h' : mHp), PC d' y 0 (mEnt (mMt y).1 args) [] h (.inl (some (.ref x), h')) ∧ PN d m (pc + 3) lv (.ref x :: rest) h' out
  | _ => False
def mThr (PC PN : mP) (d d' m pc : Nat) (lv : mLv) (y : Nat) (args rest : List Value) (h : mHp) (out : mOut) : Bool → Prop
  | false => mRet PC PN d d' m pc lv y args rest h out (mMt y).2
  | true => mRet PC PN d d' m pc lv y args rest h out (mMt y).2 ∨ ∃ (E : Nat) (h' : mHp), PC d' y 0 (mEnt (mMt y).1 args) [] h (.inr (E, h')) ∧ mHnd PN d m pc lv E h' out (mFind mHl m pc E)
def mCall (PC PN : mP) (m pc : Nat) (lv : mLv) (y : Nat) (args rest : List Value) (h : mHp) (out : mOut) : Nat → Prop
  | 0 => False
  | d' + 1 => mTrue (mThr PC PN (d' + 1) d' m pc lv y args rest h out (mTh y)) (Nat.ble (mWd rest) 8 && Nat.ble (mWd args) (mMt y).1 && !(Nat.beq y 1) && !(Nat.beq y 2) && Nat.blt y 209)
/-- a cell's kind and number: K gets the rest -/
def mOb (K : Prop) (c : Nat) : Nat × Nat × Nat → Prop
  | (0, c', _) => mTrue K (Nat.beq c' c)
  | _ => False
def mAr (t : Nat) (K : Nat → Nat → Prop) : Nat × Nat × Nat → Prop
  | (t', n, y) => mTrue (K n y) (Nat.beq t' t)
def mLd (K : Int32 → Prop) (h : mHp) (i : Int32) (a : Nat) : Nat × Nat × Nat → Prop
  | (1, n, _) => vp_in i n ∧ K (h.1 a i.toNatClampNeg)
  | (6, n, _) => vp_in i n ∧ K (h.1 a i.toNatClampNeg)
  | (5, _, _) => vp_in i (h.2.2.1 a 0) ∧ K (h.1 a i.toNatClampNeg)
  | _ => False
def mLen (K : Int32 → Prop) (h : mHp) (a : Nat) : Nat × Nat × Nat → Prop
  | (1, n, _) => K (nI n)
  | (2, n, _) => K (nI n)
  | (3, n, _) => K (nI n)
  | (4, n, _) => K (nI n)
  | (5, _, _) => K (nI (h.2.2.1 a 0))
  | _ => False
def mGf (K : Value → Prop) (h : mHp) (r k : Nat) : Nat × Nat → Prop
  | (0, _) => K (.int (h.1 r k))
  | (1, _) => K (.int (h.1 r k))
  | (2, o) => K (.ref (r + o))
  | (3, _) => mTrue (K (.ref (h.2.2.1 r k))) (Nat.blt (h.2.2.1 r k) 142)
  | (4, _) => K (.long (h.2.1 r k))
  | _ => False
def mPf (K : mHp → List Value → Prop) (c : Nat) (h : mHp) (k : Nat) (st : List Value) : Nat × Nat → Prop
  | (0, _) => mIR (fun x r s => mOb (K (mPI h r k x) s) c (mSh r)) st
  | (1, _) => mIR (fun x r s => mOb ((x = 0 ∨ x = 1) ∧ K (mPI h r k x) s) c (mSh r)) st
  | (3, c') => mRR (fun x r s => mOb (mOb (K (mPR h r k x) s) c' (mSh x)) c (mSh r)) st
  | (4, _) => mLR (fun x r s => mOb (K (mPL h r k x) s) c (mSh r)) st
  | _ => False
def mStrC (K : List Nat → Prop) : Nat × Nat × Nat → Prop
  | (7, k, _) => K (mStr k)
  | _ => False
def mIRet (K : Int32 → Prop) : List Value → Prop
  | [.int x] => K x
  | _ => False
def mLRet (K : Int64 → Prop) : List Value → Prop
  | [.long x] => K x
  | _ => False
def mARet (K : Nat → Prop) : List Value → Prop
  | [.ref x] => K x
  | _ => False
def mVRet (K : Prop) : List Value → Prop
  | [] => K
  | _ => False
def mBool (x : Int32) (K : Prop) : Nat → Prop
  | 2 => (x = 0 ∨ x = 1) ∧ K
  | _ => K
def mLdc (K : Value → Prop) (v : Int32) (b : Nat) : Nat → Prop
  | 0 => K (.int v)
  | 1 => K (.ref b)
  | _ => False
def mInvV0 (PC PN : mP) (d m pc : Nat) (lv : mLv) (st : List Value) (h : mHp) (out : mOut) (b c : Nat) (y : Nat) : Prop :=
  bif Nat.beq y 900 then mR1 (fun s r => mStrC (fun l => PN d m (pc + 3) lv (.int (nI l.length) :: r) h out) (mSh s)) st
  else bif Nat.beq y 901 then mIR (fun i s r => mStrC (fun l => vp_in i l.length ∧ PN d m (pc + 3) lv (.int (nI (l.getD i.toNatClampNeg 0)) :: r) h out) (mSh s)) st
  else mTk b [] st (fun args st' => mR1 (fun o r => mOb (mCall PC PN m pc lv y (.ref o :: args) r h out d) c (mSh o)) st')
def mInvS0 (PC PN : mP) (d m pc : Nat) (lv : mLv) (st : List Value) (h : mHp) (out : mOut) (b : Nat) (y : Nat) : Prop :=
  bif Nat.beq y 902 then mCpy (fun n dp da sp sa r => mAr 1 (fun n0 _ => mAr 1 (fun n1 _ => ¬ sp < 0 ∧ ¬ dp < 0 ∧ ¬ n < 0 ∧ sp.toNatClampNeg + n.toNatClampNeg ≤ n0 ∧ dp.toNatClampNeg + n.toNatClampNeg ≤ n1 ∧ PN d m (pc + 3) lv r (mCp h sa sp.toNatClampNeg da dp.toNatClampNeg n.toNatClampNeg) out) (mSh da)) (mSh sa)) st
  else bif Nat.beq y 1 then mI2 (fun x z r => PN d m (pc + 3) lv (.int (if x < z then z else x) :: r) h out) st
  else bif Nat.beq y 2 then mI2 (fun x z r => PN d m (pc + 3) lv (.int (if z < x then z else x) :: r) h out) st
  else mTk b [] st (fun args r => mCall PC PN m pc lv y args r h out d)
def mInvV (PC PN : mP) (d m pc : Nat) (lv : mLv) (st : List Value) (h : mHp) (out : mOut) (b c y : Nat) : Prop := mTrue (mInvV0 PC PN d m pc lv st h out b c y) (Nat.ble (mWd st) (bif Nat.ble 900 y then 8 else 40))
def mInvS (PC PN : mP) (d m pc : Nat) (lv : mLv) (st : List Value) (h : mHp) (out : mOut) (b y : Nat) : Prop := mTrue (mInvS0 PC PN d m pc lv st h out b y) (Nat.ble (mWd st) 40)
def mEx (PC PN : mP) (d m pc : Nat) (lv : mLv) (st : List Value) (h : mHp) (out : mOut) (i : Instr) (a b c : Nat) (v : Int32) (ts : List Nat) : Prop :=
  match i with
  | .iconst _ => PN d m (pc + 1) lv (.int v :: st) h out
  | .bipush _ => PN d m (pc + 2) lv (.int v :: st) h out
  | .sipush _ => PN d m (pc + 3) lv (.int v :: st) h out
  | .ldc _ => mLdc (fun w => PN d m (pc + 2) lv (w :: st) h out) v b a
  | .ldc_w _ => mLdc (fun w => PN d m (pc + 3) lv (w :: st) h out) v b a
  | .ldc2_w _ => PN d m (pc + 3) lv (.long (lN a) :: st) h out
  | .lconst _ => PN d m (pc + 1) lv (.long (lN a) :: st) h out
  | .iload k => mGi (fun x => PN d m (pc + 2) lv (.int x :: st) h out) (mGet lv k)
  | .iload_n _ => mGi (fun x => PN d m (pc + 1) lv (.int x :: st) h out) (mGet lv a)
  | .lload k => mGl (fun x => PN d m (pc + 2) lv (.long x :: st) h out) (mGet lv k)
  | .lload_n _ => mGl (fun x => PN d m (pc + 1) lv (.long x :: st) h out) (mGet lv a)
  | .aload k => mGr (fun x => PN d m (pc + 2) lv (.ref x :: st) h out) (mGet lv k)
  | .aload_n _ => mGr (fun x => PN d m (pc + 1) lv (.ref x :: st) h out) (mGet lv a)
  | .istore k => mI1 (fun x r => PN d m (pc + 2) (mSet lv k (.int x)) r h out) st
  | .istore_n _ => mI1 (fun x r => PN d m (pc + 1) (mSet lv a (.int x)) r h out) st
  | .lstore k => mL1 (fun x r => PN d m (pc + 2) (mClr (mSet lv k (.long x)) (k + 1)) r h out) st
  | .lstore_n _ => mL1 (fun x r => PN d m (pc + 1) (mClr (mSet lv a (.long x)) (a + 1)) r h out) st
  | .astore k => mR1 (fun x r => PN d m (pc + 2) (mSet lv k (.ref x)) r h out) st
  | .astore_n _ => mR1 (fun x r => PN d m (pc + 1) (mSet lv a (.ref x)) r h out) st
  | .iinc k _ => mGi (fun x => PN d m (pc + 3) (mSet lv k (.int (x + v))) st h out) (mGet lv k)
  | .iadd => mI2 (fun x y r => PN d m (pc + 1) lv (.int (x + y) :: r) h out) st
  | .isub => mI2 (fun x y r => PN d m (pc + 1) lv (.int (x - y) :: r) h out) st
  | .imul => mI2 (fun x y r => PN d m (pc + 1) lv (.int (x * y) :: r) h out) st
  | .idiv => mI2 (fun x y r => ¬ y = 0 ∧ PN d m (pc + 1) lv (.int (x / y) :: r) h out) st
  | .irem => mI2 (fun x y r => ¬ y = 0 ∧ PN d m (pc + 1) lv (.int (x - x / y * y) :: r) h out) st
  | .iand => mI2 (fun x y r => PN d m (pc + 1) lv (.int (x &&& y) :: r) h out) st
  | .ior => mI2 (fun x y r => PN d m (pc + 1) lv (.int (x ||| y) :: r) h out) st
  | .ixor => mI2 (fun x y r => PN d m (pc + 1) lv (.int (x ^^^ y) :: r) h out) st
  | .ishl => mI2 (fun x y r => PN d m (pc + 1) lv (.int (x <<< (y &&& 31)) :: r) h out) st
  | .ishr => mI2 (fun x y r => PN d m (pc + 1) lv (.int (x >>> (y &&& 31)) :: r) h out) st
  | .iushr => mI2 (fun x y r => PN d m (pc + 1) lv (.int (x.toUInt32 >>> (y.toUInt32 &&& Int32.toUInt32 31)).toInt32 :: r) h out) st
  | .ladd => mL2 (fun x y r => PN d m (pc + 1) lv (.long (x + y) :: r) h out) st
  | .lsub => mL2 (fun x y r => PN d m (pc + 1) lv (.long (x - y) :: r) h out) st
  | .lmul => mL2 (fun x y r => PN d m (pc + 1) lv (.long (x * y) :: r) h out) st
  | .ldiv => mL2 (fun x y r => ¬ y = 0 ∧ PN d m (pc + 1) lv (.long (x / y) :: r) h out) st
  | .lrem => mL2 (fun x y r => ¬ y = 0 ∧ PN d m (pc + 1) lv (.long (x - x / y * y) :: r) h out) st
  | .lor => mL2 (fun x y r => PN d m (pc + 1) lv (.long (x ||| y) :: r) h out) st
  | .lshl => mIL (fun x y r => PN d m (pc + 1) lv (.long (x <<< (y.toInt64 &&& 63)) :: r) h out) st
  | .lcmp => mL2 (fun x y r => PN d m (pc + 1) lv (.int (lg_cmp x y) :: r) h out) st
  | .i2l => mI1 (fun x r => PN d m (pc + 1) lv (.long x.toInt64 :: r) h out) st
  | .l2i => mL1 (fun x r => PN d m (pc + 1) lv (.int x.toInt32 :: r) h out) st
  | .i2b => mI1 (fun x r => PN d m (pc + 1) lv (.int x.toInt8.toInt32 :: r) h out) st
  | .dup => mDup (fun x r => PN d m (pc + 1) lv (x :: x :: r) h out) st
  | .dup2 => mIR (fun i o r => PN d m (pc + 1) lv (.int i :: .ref o :: .int i :: .ref o :: r) h out) st
  | .goto _ => PN d m a lv st h out
  | .ifCond cn _ => mI1 (fun x r => mBr cn x 0 (PN d m a lv r h out) (PN d m (pc + 3) lv r h out)) st
  | .if_icmp cn _ => mI2 (fun x y r => mBr cn x y (PN d m a lv r h out) (PN d m (pc + 3) lv r h out)) st
  | .tableswitch _ _ _ _ => mI1 (fun x r => (x < nI b ∨ nI c < x → PN d m a lv r h out) ∧ mSw (fun t => PN d m t lv r h out) x ts b) st
  | .getfield _ => mR1 (fun o r => mOb (mGf (fun w => PN d m (pc + 3) lv (w :: r) h out) h o b (mFt a b)) a (mSh o)) st
  | .putfield _ => mPf (fun h' r => PN d m (pc + 3) lv r h' out) a h b st (mFt a b)
  | .getstatic _ => PN d m (pc + 3) lv (.ref a :: st) h out
  | .iaload => mIR (fun i o r => mLd (fun x => PN d m (pc + 1) lv (.int x :: r) h out) h i o (mSh o)) st
  | .iastore => mIIR (fun x i o r => mAr 1 (fun n _ => vp_in i n ∧ PN d m (pc + 1) lv r (mPI h o i.toNatClampNeg x) out) (mSh o)) st
  | .baload => mIR (fun i o r => mAr 2 (fun n _ => vp_in i n ∧ PN d m (pc + 1) lv (.int (h.1 o i.toNatClampNeg) :: r) h out) (mSh o)) st
  | .bastore => mIIR (fun x i o r => mAr 2 (fun n _ => vp_in i n ∧ PN d m (pc + 1) lv r (mPI h o i.toNatClampNeg (vp_nar .byte x)) out) (mSh o)) st
  | .laload => mIR (fun i o r => mAr 3 (fun n _ => vp_in i n ∧ PN d m (pc + 1) lv (.long (h.2.1 o i.toNatClampNeg) :: r) h out) (mSh o)) st
  | .lastore => mLIR (fun x i o r => mAr 3 (fun n _ => vp_in i n ∧ PN d m (pc + 1) lv r (mPL h o i.toNatClampNeg x) out) (mSh o)) st
  | .aaload => mIR (fun i o r => mAr 4 (fun n y => vp_in i n ∧ PN d m (pc + 1) lv (.ref (o + y + 3 * i.toNatClampNeg) :: r) h out) (mSh o)) st
  | .arraylength => mR1 (fun o r => mLen (fun x => PN d m (pc + 1) lv (.int x :: r) h out) h o (mSh o)) st
  | .invokevirtual _ => mInvV PC PN d m pc lv st h out b c a
  | .invokestatic _ => mInvS PC PN d m pc lv st h out b a
  | .new _ => mTrue (out = .inr (a, mXc h)) (Nat.blt a 2 && Nat.ble (mWd st) 8)
  | .ireturn => mIRet (fun x => mBool x (out = .inl (some (.int x), h)) (mMt m).2) st
  | .lreturn => mLRet (fun x => out = .inl (some (.long x), h)) st
  | .areturn => mARet (fun x => out = .inl (some (.ref x), h)) st
  | .return_ => mVRet (out = .inl (none, h)) st
  | _ => False
def mItem (PC PN : mP) (d m pc : Nat) (lv : mLv) (st : List Value) (h : mHp) (out : mOut) : Option mIt → Prop
  | none => False
  | some (i, _, a, b, c, _, v, ts) => mEx PC PN d m pc lv st h out i a b c v ts
def mF (PC PN : mP) : mP := fun d m pc lv st h out => mItem PC PN d m pc lv st h out (mAt m pc)
def mClosed (P : mP) : Prop :=
  (∀ d m pc lv st h out, mF P P d m pc lv st h out → P d m pc lv st h out) ∧
  (∀ d m pc bs lv st h out, P d m pc (mMsk bs lv) st h out → P d m pc lv st h out)
def mRuns : mP := fun d m pc lv st h out => ∀ P : mP, mClosed P → P d m pc lv st h out
def mCutK (d m pc : Nat) (lv : mLv) (st : List Value) (h : mHp) (out : mOut) (B : Prop) : Option (List Bool) → Prop
  | some bs => mRuns d m pc (mMsk bs lv) st h out
  | none => B
def mVc : Nat → mP
  | 0 => mRuns
  | n + 1 => fun d m pc lv st h out => mCutK d m pc lv st h out (mF mRuns (mVc n) d m pc lv st h out) (mCut m pc)

/-! L3, bits: the family bt began as kit/laws/BITS.to-paste; the rest is ours -/
def bt (x : Int32) (i : Nat) : Bool := x.toBitVec.getLsbD i
theorem b_ext {x y : Int32} (h : ∀ i, i < 32 → bt x i = bt y i) : x = y := Int32.toBitVec_inj.mp (BitVec.eq_of_getLsbD_eq (fun i hi => h i hi))
theorem b_or (x y : Int32) (i : Nat) : bt (x ||| y) i = (bt x i || bt y i) := by unfold bt; rw [Int32.toBitVec_or, BitVec.getLsbD_or]
theorem b_and (x y : Int32) (i : Nat) : bt (x &&& y) i = (bt x i && bt y i) := by unfold bt; rw [Int32.toBitVec_and, BitVec.getLsbD_and]
theorem b_xor (x y : Int32) (i : Nat) : bt (x ^^^ y) i = (bt x i ^^ bt y i) := by unfold bt; rw [Int32.toBitVec_xor, BitVec.getLsbD_xor]
theorem b_big {x : Int32} {i : Nat} (h : 32 ≤ i) : bt x i = false := BitVec.getLsbD_of_ge _ _ h
theorem b_m1 : ∀ i, i < 32 → bt (-1) i = true := by decide +kernel
theorem b_0 (i : Nat) : bt 0 i = false := BitVec.getLsbD_zero
theorem s_l : ∀ n, n < 32 → ((nI n &&& 31).toBitVec.smod 32).toNat = n := by decide +kernel
theorem s_u : ∀ n, n < 32 → (((nI n).toUInt32 &&& Int32.toUInt32 31).toBitVec % 32).toNat = n := by decide +kernel
theorem b_shl (n : Nat) (hn : n < 32) (x : Int32) {i : Nat} (hi : i < 32) : bt (x <<< (nI n &&& 31)) i = (decide (n ≤ i) && bt x (i - n)) := by
  unfold bt
  rw [Int32.toBitVec_shiftLeft]
  show (x.toBitVec <<< ((nI n &&& 31).toBitVec.smod 32).toNat).getLsbD i = _
  rw [s_l n hn, BitVec.getLsbD_shiftLeft]
  rcases Nat.lt_or_ge i n with h | h
  · simp [h, Nat.not_le.mpr h]
  · simp [hi, h, Nat.not_lt.mpr h]
theorem b_ushr (n : Nat) (hn : n < 32) (x : Int32) (i : Nat) : bt ((x.toUInt32 >>> ((nI n).toUInt32 &&& Int32.toUInt32 31)).toInt32) i = bt x (n + i) := by
  show (x.toUInt32 >>> ((nI n).toUInt32 &&& Int32.toUInt32 31)).toBitVec.getLsbD i = x.toUInt32.toBitVec.getLsbD (n + i)
  rw [UInt32.toBitVec_shiftRight]
  show (x.toUInt32.toBitVec >>> (((nI n).toUInt32 &&& Int32.toUInt32 31).toBitVec % 32).toNat).getLsbD i = _
  rw [s_u n hn, BitVec.getLsbD_ushiftRight]
theorem b_sshr (n : Nat) (hn : n < 32) (x : Int32) {i : Nat} (hi : i < 32) : bt (x >>> (nI n &&& 31)) i = if n + i < 32 then bt x (n + i) else bt x 31 := by
  unfold bt
  rw [Int32.toBitVec_shiftRight]
  show (x.toBitVec.sshiftRight ((nI n &&& 31).toBitVec.smod 32).toNat).getLsbD i = _
  rw [s_l n hn, BitVec.getLsbD_sshiftRight, BitVec.msb_eq_getLsbD_last]
  simp [hi]
theorem nx_and (a b : Nat) : nI a &&& nI b = nI (a &&& b) := by
  apply Int32.toBitVec_inj.1
  show BitVec.ofNat 32 a &&& BitVec.ofNat 32 b = BitVec.ofNat 32 (a &&& b)
  apply BitVec.eq_of_getLsbD_eq
  intro i hi
  simp [hi]
theorem bp_b (x : Int32) : x.toInt8.toInt32 &&& 255 = x &&& 255 := by
  apply Int32.toBitVec_inj.mp
  rw [Int32.toBitVec_and, Int32.toBitVec_and, Int8.toBitVec_toInt32, Int32.toBitVec_toInt8]
  apply BitVec.eq_of_getLsbD_eq
  intro i hi
  rw [BitVec.getLsbD_and, BitVec.getLsbD_and]
  have hm : ∀ i < 32, 8 ≤ i → (255 : Int32).toBitVec.getLsbD i = false := by decide
  rcases Nat.lt_or_ge i 8 with z | z
  · rw [BitVec.getLsbD_signExtend, BitVec.getLsbD_signExtend, if_pos z, if_pos hi]
    simp only [z, hi, decide_true, Bool.true_and]
  · rw [hm i hi z]; simp
def aPow (t : Int) : Int := 2 ^ t.toNat
def aBit (s t : Int) : Int := s / aPow t % 2
theorem aBit_01 (s t : Int) : aBit s t = 0 ∨ aBit s t = 1 := by unfold aBit; omega
/-- the bit t put into s -/
def aOr (s t : Int) : Int := if aBit s t = 1 then s else s + aPow t
def aXor (s t : Int) : Int := if aBit s t = 1 then s - aPow t else s + aPow t
/-- bits of s that f hasn't -/
def aDif (s f : Int) : Int := (if aBit s 0 = 1 ∧ aBit f 0 = 0 then 1 else 0) + (if aBit s 1 = 1 ∧ aBit f 1 = 0 then 2 else 0) + (if aBit s 2 = 1 ∧ aBit f 2 = 0 then 4 else 0) + (if aBit s 3 = 1 ∧ aBit f 3 = 0 then 8 else 0) + (if aBit s 4 = 1 ∧ aBit f 4 = 0 then 16 else 0)
def aCnt (s : Int) : Int := aBit s 0 + aBit s 1 + aBit s 2 + aBit s 3 + aBit s 4
theorem fin1 {P : Int → Prop} (H : ∀ m : Fin 32, P (m.val : Int)) {s : Int} (h1 : 0 ≤ s) (h2 : s < 32) : P s := by
  have := H ⟨s.toNat, by omega⟩
  have e : ((s.toNat : Nat) : Int) = s := by omega
  simp only [e] at this; exact this
theorem fin5 {P : Int → Prop} (H : ∀ m : Fin 5, P (m.val : Int)) {s : Int} (h1 : 0 ≤ s) (h2 : s < 5) : P s := by
  have := H ⟨s.toNat, by omega⟩
  have e : ((s.toNat : Nat) : Int) = s := by omega
  simp only [e] at this; exact this
theorem zI_bit {s t : Int} (h1 : 0 ≤ s) (h2 : s < 32) (h3 : 0 ≤ t) (h4 : t < 5) : (zI s >>> (zI t &&& 31)) &&& zI 1 = zI (aBit s t) :=
  fin1 (P := fun s => (zI s >>> (zI t &&& 31)) &&& zI 1 = zI (aBit s t)) (fun m => fin5 (P := fun t => (zI (m.val : Int) >>> (zI t &&& 31)) &&& zI 1 = zI (aBit (m.val : Int) t)) ((by decide +kernel : ∀ m : Fin 32, ∀ n : Fin 5, (zI (m.val : Int) >>> (zI (n.val : Int) &&& 31)) &&& zI 1 = zI (aBit (m.val : Int) (n.val : Int))) m) h3 h4) h1 h2
theorem zI_bitm {s t : Int} (h1 : 0 ≤ s) (h2 : s < 32) (h3 : 0 ≤ t) (h4 : t < 5) : zI s &&& zI (aPow t) = zI (aBit s t * aPow t) :=
  fin1 (P := fun s => zI s &&& zI (aPow t) = zI (aBit s t * aPow t)) (fun m => fin5 (P := fun t => zI (m.val : Int) &&& zI (aPow t) = zI (aBit (m.val : Int) t * aPow t)) ((by decide +kernel : ∀ m : Fin 32, ∀ n : Fin 5, zI (m.val : Int) &&& zI (aPow (n.val : Int)) = zI (aBit (m.val : Int) (n.val : Int) * aPow (n.val : Int))) m) h3 h4) h1 h2
theorem zI_shl {t : Int} (h3 : 0 ≤ t) (h4 : t < 5) : zI 1 <<< (zI t &&& 31) = zI (aPow t) :=
  fin5 (P := fun t => zI 1 <<< (zI t &&& 31) = zI (aPow t)) (by decide +kernel) h3 h4
theorem zI_shl6 {t : Int} (h3 : 0 ≤ t) (h4 : t ≤ 5) : zI 1 <<< (zI t &&& 31) = zI (aPow t) := by
  by_cases h : t = 5
  · rw [h]; decide
  · exact zI_shl h3 (by omega)
theorem zI_or {s t : Int} (h1 : 0 ≤ s) (h2 : s < 32) (h3 : 0 ≤ t) (h4 : t < 5) : zI s ||| zI (aPow t) = zI (aOr s t) :=
  fin1 (P := fun s => zI s ||| zI (aPow t) = zI (aOr s t)) (fun m => fin5 (P := fun t => zI (m.val : Int) ||| zI (aPow t) = zI (aOr (m.val : Int) t)) ((by decide +kernel : ∀ m : Fin 32, ∀ n : Fin 5, zI (m.val : Int) ||| zI (aPow (n.val : Int)) = zI (aOr (m.val : Int) (n.val : Int))) m) h3 h4) h1 h2
theorem zI_xor {s t : Int} (h1 : 0 ≤ s) (h2 : s < 32) (h3 : 0 ≤ t) (h4 : t < 5) : zI s ^^^ zI (aPow t) = zI (aXor s t) :=
  fin1 (P := fun s => zI s ^^^ zI (aPow t) = zI (aXor s t)) (fun m => fin5 (P := fun t => zI (m.val : Int) ^^^ zI (aPow t) = zI (aXor (m.val : Int) t)) ((by decide +kernel : ∀ m : Fin 32, ∀ n : Fin 5, zI (m.val : Int) ^^^ zI (aPow (n.val : Int)) = zI (aXor (m.val : Int) (n.val : Int))) m) h3 h4) h1 h2
theorem zI_dif {s f : Int} (h1 : 0 ≤ s) (h2 : s < 32) (h3 : 0 ≤ f) (h4 : f < 32) : zI s &&& (zI f ^^^ zI (-1)) = zI (aDif s f) :=
  fin1 (P := fun s => zI s &&& (zI f ^^^ zI (-1)) = zI (aDif s f)) (fun m => fin1 (P := fun f => zI (m.val : Int) &&& (zI f ^^^ zI (-1)) = zI (aDif (m.val : Int) f)) ((by decide +kernel : ∀ m : Fin 32, ∀ n : Fin 32, zI (m.val : Int) &&& (zI (n.val : Int) ^^^ zI (-1)) = zI (aDif (m.val : Int) (n.val : Int))) m) h3 h4) h1 h2
theorem aPow_vals : aPow 0 = 1 ∧ aPow 1 = 2 ∧ aPow 2 = 4 ∧ aPow 3 = 8 ∧ aPow 4 = 16 ∧ aPow 5 = 32 := by decide
theorem aPow_rng {t : Int} (h3 : 0 ≤ t) (h4 : t < 5) : 1 ≤ aPow t ∧ aPow t ≤ 16 := fin5 (P := fun t => 1 ≤ aPow t ∧ aPow t ≤ 16) (by decide) h3 h4
theorem aOr_rng {s t : Int} (h1 : 0 ≤ s) (h2 : s < 32) (h3 : 0 ≤ t) (h4 : t < 5) : 0 ≤ aOr s t ∧ aOr s t < 32 :=
  fin1 (P := fun s => 0 ≤ aOr s t ∧ aOr s t < 32) (fun m => fin5 (P := fun t => 0 ≤ aOr (m.val : Int) t ∧ aOr (m.val : Int) t < 32) ((by decide +kernel : ∀ m : Fin 32, ∀ n : Fin 5, 0 ≤ aOr (m.val : Int) (n.val : Int) ∧ aOr (m.val : Int) (n.val : Int) < 32) m) h3 h4) h1 h2
theorem aXor_rng {s t : Int} (h1 : 0 ≤ s) (h2 : s < 32) (h3 : 0 ≤ t) (h4 : t < 5) : 0 ≤ aXor s t ∧ aXor s t < 32 :=
  fin1 (P := fun s => 0 ≤ aXor s t ∧ aXor s t < 32) (fun m => fin5 (P := fun t => 0 ≤ aXor (m.val : Int) t ∧ aXor (m.val : Int) t < 32) ((by decide +kernel : ∀ m : Fin 32, ∀ n : Fin 5, 0 ≤ aXor (m.val : Int) (n.val : Int) ∧ aXor (m.val : Int) (n.val : Int) < 32) m) h3 h4) h1 h2
theorem aDif_rng (s f : Int) : 0 ≤ aDif s f ∧ aDif s f < 32 := by unfold aDif; repeat' split <;> omega
theorem aCnt_rng (s : Int) : 0 ≤ aCnt s ∧ aCnt s ≤ 5 := by
  unfold aCnt
  have := aBit_01 s 0; have := aBit_01 s 1; have := aBit_01 s 2; have := aBit_01 s 3; have := aBit_01 s 4
  omega
theorem s_bitCount {d : Nat} {h : mHp} {s : Int} (h1 : 0 ≤ s) (h2 : s < 32) : mRuns (d + 1) 3 0 [some (.int (zI s))] [] h (.inl (some (.int (zI (aCnt s))), h)) := by
  refine vc_JI_bitCount ?_
  have H : ∀ (m : Fin 32), zI (aCnt (m.val : Int)) = _ := fun m => (by decide +kernel : ∀ m : Fin 32, zI (aCnt (m.val : Int)) = (((((((((zI (m.val : Int)) - ((((zI (m.val : Int)).toUInt32 >>> ((nI 1).toUInt32 &&& Int32.toUInt32 31)).toInt32) &&& (nI 1431655765))) &&& (nI 858993459)) + (((((zI (m.val : Int)) - ((((zI (m.val : Int)).toUInt32 >>> ((nI 1).toUInt32 &&& Int32.toUInt32 31)).toInt32) &&& (nI 1431655765))).toUInt32 >>> ((nI 2).toUInt32 &&& Int32.toUInt32 31)).toInt32) &&& (nI 858993459))) + ((((((zI (m.val : Int)) - ((((zI (m.val : Int)).toUInt32 >>> ((nI 1).toUInt32 &&& Int32.toUInt32 31)).toInt32) &&& (nI 1431655765))) &&& (nI 858993459)) + (((((zI (m.val : Int)) - ((((zI (m.val : Int)).toUInt32 >>> ((nI 1).toUInt32 &&& Int32.toUInt32 31)).toInt32) &&& (nI 1431655765))).toUInt32 >>> ((nI 2).toUInt32 &&& Int32.toUInt32 31)).toInt32) &&& (nI 858993459))).toUInt32 >>> ((nI 4).toUInt32 &&& Int32.toUInt32 31)).toInt32)) &&& (nI 252645135)) + ((((((((zI (m.val : Int)) - ((((zI (m.val : Int)).toUInt32 >>> ((nI 1).toUInt32 &&& Int32.toUInt32 31)).toInt32) &&& (nI 1431655765))) &&& (nI 858993459)) + (((((zI (m.val : Int)) - ((((zI (m.val : Int)).toUInt32 >>> ((nI 1).toUInt32 &&& Int32.toUInt32 31)).toInt32) &&& (nI 1431655765))).toUInt32 >>> ((nI 2).toUInt32 &&& Int32.toUInt32 31)).toInt32) &&& (nI 858993459))) + ((((((zI (m.val : Int)) - ((((zI (m.val : Int)).toUInt32 >>> ((nI 1).toUInt32 &&& Int32.toUInt32 31)).toInt32) &&& (nI 1431655765))) &&& (nI 858993459)) + (((((zI (m.val : Int)) - ((((zI (m.val : Int)).toUInt32 >>> ((nI 1).toUInt32 &&& Int32.toUInt32 31)).toInt32) &&& (nI 1431655765))).toUInt32 >>> ((nI 2).toUInt32 &&& Int32.toUInt32 31)).toInt32) &&& (nI 858993459))).toUInt32 >>> ((nI 4).toUInt32 &&& Int32.toUInt32 31)).toInt32)) &&& (nI 252645135)).toUInt32 >>> ((nI 8).toUInt32 &&& Int32.toUInt32 31)).toInt32)) + (((((((((zI (m.val : Int)) - ((((zI (m.val : Int)).toUInt32 >>> ((nI 1).toUInt32 &&& Int32.toUInt32 31)).toInt32) &&& (nI 1431655765))) &&& (nI 858993459)) + (((((zI (m.val : Int)) - ((((zI (m.val : Int)).toUInt32 >>> ((nI 1).toUInt32 &&& Int32.toUInt32 31)).toInt32) &&& (nI 1431655765))).toUInt32 >>> ((nI 2).toUInt32 &&& Int32.toUInt32 31)).toInt32) &&& (nI 858993459))) + ((((((zI (m.val : Int)) - ((((zI (m.val : Int)).toUInt32 >>> ((nI 1).toUInt32 &&& Int32.toUInt32 31)).toInt32) &&& (nI 1431655765))) &&& (nI 858993459)) + (((((zI (m.val : Int)) - ((((zI (m.val : Int)).toUInt32 >>> ((nI 1).toUInt32 &&& Int32.toUInt32 31)).toInt32) &&& (nI 1431655765))).toUInt32 >>> ((nI 2).toUInt32 &&& Int32.toUInt32 31)).toInt32) &&& (nI 858993459))).toUInt32 >>> ((nI 4).toUInt32 &&& Int32.toUInt32 31)).toInt32)) &&& (nI 252645135)) + ((((((((zI (m.val : Int)) - ((((zI (m.val : Int)).toUInt32 >>> ((nI 1).toUInt32 &&& Int32.toUInt32 31)).toInt32) &&& (nI 1431655765))) &&& (nI 858993459)) + (((((zI (m.val : Int)) - ((((zI (m.val : Int)).toUInt32 >>> ((nI 1).toUInt32 &&& Int32.toUInt32 31)).toInt32) &&& (nI 1431655765))).toUInt32 >>> ((nI 2).toUInt32 &&& Int32.toUInt32 31)).toInt32) &&& (nI 858993459))) + ((((((zI (m.val : Int)) - ((((zI (m.val : Int)).toUInt32 >>> ((nI 1).toUInt32 &&& Int32.toUInt32 31)).toInt32) &&& (nI 1431655765))) &&& (nI 858993459)) + (((((zI (m.val : Int)) - ((((zI (m.val : Int)).toUInt32 >>> ((nI 1).toUInt32 &&& Int32.toUInt32 31)).toInt32) &&& (nI 1431655765))).toUInt32 >>> ((nI 2).toUInt32 &&& Int32.toUInt32 31)).toInt32) &&& (nI 858993459))).toUInt32 >>> ((nI 4).toUInt32 &&& Int32.toUInt32 31)).toInt32)) &&& (nI 252645135)).toUInt32 >>> ((nI 8).toUInt32 &&& Int32.toUInt32 31)).toInt32)).toUInt32 >>> ((nI 16).toUInt32 &&& Int32.toUInt32 31)).toInt32)) &&& (nI 63))) m
  exact congrArg (fun z => (Sum.inl (some (.int z), h) : mOut)) (fin1 (P := fun s => zI (aCnt s) = (((((((((zI s) - ((((zI s).toUInt32 >>> ((nI 1).toUInt32 &&& Int32.toUInt32 31)).toInt32) &&& (nI 1431655765))) &&& (nI 858993459)) + (((((zI s) - ((((zI s).toUInt32 >>> ((nI 1).toUInt32 &&& Int32.toUInt32 31)).toInt32) &&& (nI 1431655765))).toUInt32 >>> ((nI 2).toUInt32 &&& Int32.toUInt32 31)).toInt32) &&& (nI 858993459))) + ((((((zI s) - ((((zI s).toUInt32 >>> ((nI 1).toUInt32 &&& Int32.toUInt32 31)).toInt32) &&& (nI 1431655765))) &&& (nI 858993459)) + (((((zI s) - ((((zI s).toUInt32 >>> ((nI 1).toUInt32 &&& Int32.toUInt32 31)).toInt32) &&& (nI 1431655765))).toUInt32 >>> ((nI 2).toUInt32 &&& Int32.toUInt32 31)).toInt32) &&& (nI 858993459))).toUInt32 >>> ((nI 4).toUInt32 &&& Int32.toUInt32 31)).toInt32)) &&& (nI 252645135)) + ((((((((zI s) - ((((zI s).toUInt32 >>> ((nI 1).toUInt32 &&& Int32.toUInt32 31)).toInt32) &&& (nI 1431655765))) &&& (nI 858993459)) + (((((zI s) - ((((zI s).toUInt32 >>> ((nI 1).toUInt32 &&& Int32.toUInt32 31)).toInt32) &&& (nI 1431655765))).toUInt32 >>> ((nI 2).toUInt32 &&& Int32.toUInt32 31)).toInt32) &&& (nI 858993459))) + ((((((zI s) - ((((zI s).toUInt32 >>> ((nI 1).toUInt32 &&& Int32.toUInt32 31)).toInt32) &&& (nI 1431655765))) &&& (nI 858993459)) + (((((zI s) - ((((zI s).toUInt32 >>> ((nI 1).toUInt32 &&& Int32.toUInt32 31)).toInt32) &&& (nI 1431655765))).toUInt32 >>> ((nI 2).toUInt32 &&& Int32.toUInt32 31)).toInt32) &&& (nI 858993459))).toUInt32 >>> ((nI 4).toUInt32 &&& Int32.toUInt32 31)).toInt32)) &&& (nI 252645135)).toUInt32 >>> ((nI 8).toUInt32 &&& Int32.toUInt32 31)).toInt32)) + (((((((((zI s) - ((((zI s).toUInt32 >>> ((nI 1).toUInt32 &&& Int32.toUInt32 31)).toInt32) &&& (nI 1431655765))) &&& (nI 858993459)) + (((((zI s) - ((((zI s).toUInt32 >>> ((nI 1).toUInt32 &&& Int32.toUInt32 31)).toInt32) &&& (nI 1431655765))).toUInt32 >>> ((nI 2).toUInt32 &&& Int32.toUInt32 31)).toInt32) &&& (nI 858993459))) + ((((((zI s) - ((((zI s).toUInt32 >>> ((nI 1).toUInt32 &&& Int32.toUInt32 31)).toInt32) &&& (nI 1431655765))) &&& (nI 858993459)) + (((((zI s) - ((((zI s).toUInt32 >>> ((nI 1).toUInt32 &&& Int32.toUInt32 31)).toInt32) &&& (nI 1431655765))).toUInt32 >>> ((nI 2).toUInt32 &&& Int32.toUInt32 31)).toInt32) &&& (nI 858993459))).toUInt32 >>> ((nI 4).toUInt32 &&& Int32.toUInt32 31)).toInt32)) &&& (nI 252645135)) + ((((((((zI s) - ((((zI s).toUInt32 >>> ((nI 1).toUInt32 &&& Int32.toUInt32 31)).toInt32) &&& (nI 1431655765))) &&& (nI 858993459)) + (((((zI s) - ((((zI s).toUInt32 >>> ((nI 1).toUInt32 &&& Int32.toUInt32 31)).toInt32) &&& (nI 1431655765))).toUInt32 >>> ((nI 2).toUInt32 &&& Int32.toUInt32 31)).toInt32) &&& (nI 858993459))) + ((((((zI s) - ((((zI s).toUInt32 >>> ((nI 1).toUInt32 &&& Int32.toUInt32 31)).toInt32) &&& (nI 1431655765))) &&& (nI 858993459)) + (((((zI s) - ((((zI s).toUInt32 >>> ((nI 1).toUInt32 &&& Int32.toUInt32 31)).toInt32) &&& (nI 1431655765))).toUInt32 >>> ((nI 2).toUInt32 &&& Int32.toUInt32 31)).toInt32) &&& (nI 858993459))).toUInt32 >>> ((nI 4).toUInt32 &&& Int32.toUInt32 31)).toInt32)) &&& (nI 252645135)).toUInt32 >>> ((nI 8).toUInt32 &&& Int32.toUInt32 31)).toInt32)).toUInt32 >>> ((nI 16).toUInt32 &&& Int32.toUInt32 31)).toInt32)) &&& (nI 63))) H h1 h2)
theorem and_mask (x : Int32) : ∃ m : Int, 0 ≤ m ∧ m ≤ 32767 ∧ x &&& zI 32767 = zI m := by
  have e : x = nI x.toBitVec.toNat := by
    apply Int32.toBitVec_inj.1
    show x.toBitVec = BitVec.ofNat 32 x.toBitVec.toNat
    simp
  have hm := Nat.mod_lt x.toBitVec.toNat (show 32768 > 0 by omega)
  refine ⟨(x.toBitVec.toNat % 32768 : Nat), by omega, by omega, ?_⟩
  rw [← zI_n]
  show x &&& nI 32767 = _
  rw [e, nx_and, show (32767 : Nat) = 2 ^ 15 - 1 from rfl, Nat.and_two_pow_sub_one_eq_mod, ← e]
theorem and_255 (x : Int32) : ∃ m : Int, 0 ≤ m ∧ m ≤ 255 ∧ x &&& zI 255 = zI m := by
  have e : x = nI x.toBitVec.toNat := by
    apply Int32.toBitVec_inj.1
    show x.toBitVec = BitVec.ofNat 32 x.toBitVec.toNat
    simp
  have hm := Nat.mod_lt x.toBitVec.toNat (show 256 > 0 by omega)
  refine ⟨(x.toBitVec.toNat % 256 : Nat), by omega, by omega, ?_⟩
  rw [← zI_n]
  show x &&& nI 255 = _
  rw [e, nx_and, show (255 : Nat) = 2 ^ 8 - 1 from rfl, Nat.and_two_pow_sub_one_eq_mod, ← e]
theorem sshr_ushr_mask (x : Int32) : ((x.toUInt32 >>> ((nI 16).toUInt32 &&& Int32.toUInt32 31)).toInt32) &&& nI 32767 = (x >>> (nI 16 &&& 31)) &&& nI 32767 := by
  apply b_ext
  intro i hi
  rw [b_and, b_and, b_ushr 16 (by omega), b_sshr 16 (by omega) _ hi]
  by_cases h : 16 + i < 32
  · rw [if_pos h]
  · have : bt (nI 32767) i = false := (by decide +kernel : ∀ i, i < 32 → ¬ 16 + i < 32 → bt (nI 32767) i = false) i hi h
    rw [this, Bool.and_false, Bool.and_false]

/-! L3, the class's search: bits of a note -/
/-! a note: the search's number and ten bits -/
theorem zI_nat {a : Int} (h : 0 ≤ a) : zI a = nI a.toNat := by rw [zI_n, show ((a.toNat : Nat) : Int) = a by omega]
theorem nI_shl10 (a : Nat) : nI a <<< (nI 10 &&& 31) = nI (a * 1024) := by
  apply Int32.toBitVec_inj.mp
  rw [Int32.toBitVec_shiftLeft]
  show (BitVec.ofNat 32 a) <<< ((nI 10 &&& 31).toBitVec.smod 32).toNat = BitVec.ofNat 32 (a * 1024)
  rw [s_l 10 (by omega)]
  apply BitVec.eq_of_toNat_eq
  rw [BitVec.toNat_shiftLeft, BitVec.toNat_ofNat, BitVec.toNat_ofNat, Nat.shiftLeft_eq]
  omega
theorem nx_or (a b : Nat) : nI a ||| nI b = nI (a ||| b) := by
  apply Int32.toBitVec_inj.1
  show BitVec.ofNat 32 a ||| BitVec.ofNat 32 b = BitVec.ofNat 32 (a ||| b)
  apply BitVec.eq_of_getLsbD_eq
  intro i hi
  simp [hi]
theorem zI_note {q v : Int} (q0 : 0 ≤ q) (v0 : 0 ≤ v) (v1 : v < 1024) : (zI q <<< (zI 10 &&& 31)) ||| zI v = zI (q * 1024 + v) := by
  have h10 : zI 10 = nI 10 := rfl
  rw [zI_nat q0, zI_nat v0, h10, nI_shl10, nx_or]
  have : q.toNat * 1024 ||| v.toNat = q.toNat * 1024 + v.toNat := by
    have := Nat.shiftLeft_add_eq_or_of_lt (b := v.toNat) (i := 10) (by omega) q.toNat
    rw [Nat.shiftLeft_eq] at this
    exact this.symm
  rw [this, zI_n]
  congr 1; omega
theorem zI_and1023 {e : Int} (e0 : 0 ≤ e) : zI e &&& zI 1023 = zI (e % 1024) := by
  have h10 : zI 1023 = nI 1023 := rfl
  rw [zI_nat e0, h10, nx_and, show (1023 : Nat) = 2 ^ 10 - 1 from rfl, Nat.and_two_pow_sub_one_eq_mod, zI_n]
  congr 1; omega
theorem zI_shr10 {e : Int} (e0 : 0 ≤ e) (e1 : e < 2147483648) : zI e >>> (zI 10 &&& 31) = zI (e / 1024) := by
  apply Int32.toInt_inj.mp
  rw [zI_toInt (a := e / 1024) (by omega) (by omega)]
  show ((zI e >>> (nI 10 &&& 31)).toBitVec).toInt = _
  rw [Int32.toBitVec_shiftRight]
  show ((zI e).toBitVec.sshiftRight ((nI 10 &&& 31).toBitVec.smod 32).toNat).toInt = _
  rw [s_l 10 (by omega), BitVec.toInt_sshiftRight]
  have : (zI e).toBitVec.toInt = e := zI_toInt (by omega) e1
  rw [this, Int.shiftRight_eq_div_pow]
  rfl

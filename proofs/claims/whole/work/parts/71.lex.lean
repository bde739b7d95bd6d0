/-! L3, the tape's signs; a token -/
def sB (c : Int) : Int := if c < 128 then c else c - 256
def gU (g : Int → Int32) (i : Int) : Int := ((g i).toInt) % 256
theorem gU_rng (g : Int → Int32) (i : Int) : 0 ≤ gU g i ∧ gU g i ≤ 255 := by unfold gU; omega
theorem and_255z (x : Int32) : x &&& zI 255 = zI (x.toInt % 256) := by
  have e : x = nI x.toBitVec.toNat := by
    apply Int32.toBitVec_inj.1
    show x.toBitVec = BitVec.ofNat 32 x.toBitVec.toNat
    simp
  have e2 : x.toInt % 256 = ((x.toBitVec.toNat % 256 : Nat) : Int) := by
    have h1 : x.toInt = x.toBitVec.toInt := rfl
    rw [h1, BitVec.toInt_eq_toNat_cond]
    split <;> omega
  rw [e2, ← zI_n]
  show x &&& nI 255 = _
  conv => lhs; rw [e]
  rw [nx_and, show (255 : Nat) = 2 ^ 8 - 1 from rfl, Nat.and_two_pow_sub_one_eq_mod]
theorem nar_b (x : Int32) : vp_nar .byte (x.toInt8.toInt32) = zI (sB (x.toInt % 256)) := by
  show (x.toInt8.toInt32).toInt8.toInt32 = _
  have h0 : x.toInt8.toInt32.toInt = x.toInt.bmod 256 := by
    rw [Int8.toInt_toInt32, Int32.toInt_toInt8]
  have h1 : (x.toInt8.toInt32.toInt8.toInt32).toInt = (x.toInt.bmod 256).bmod 256 := by
    rw [Int8.toInt_toInt32, Int32.toInt_toInt8, h0]
  have h2 : x.toInt.bmod 256 = sB (x.toInt % 256) := by
    unfold sB
    show (if x.toInt % 256 < (256 + 1) / 2 then x.toInt % 256 else x.toInt % 256 - 256) = _
    split <;> split <;> omega
  have h3 : (x.toInt.bmod 256).bmod 256 = x.toInt.bmod 256 := Int.bmod_bmod
  apply Int32.toInt_inj.mp
  rw [h1, h3, h2, zI_toInt] <;> (unfold sB; split <;> omega)
def XC (h : mHp) (n : Int) (u : Int → Int) : Prop := ∀ i, 0 ≤ i → i < n → h.1 24 i.toNat = zI (sB (u i))
def XM (h : mHp) (n : Int) (u : Int → Int) : Prop := ∀ i, 0 ≤ i → i < n → h.1 119 i.toNat = zI (u i)
def uR (u : Int → Int) : Prop := ∀ i, 0 ≤ u i ∧ u i ≤ 255
theorem XC_of {h : mHp} {n m : Int} {g : Int → Int32} (hT : TC h n g) (hm : m ≤ n) : XC h m (gU g) := fun i i0 i1 => by
  rw [hT.2 i i0 (by omega), nar_b]; rfl
theorem XM_of {h : mHp} {n m : Int} {g : Int → Int32} (hT : TM h n g) (hm : m ≤ n) : XM h m (gU g) := fun i i0 i1 => by
  rw [hT.2 i i0 (by omega), and_255z]; rfl
/-! ends of runs of signs -/
def lSkip (u : Int → Int) (n : Int) : Nat → Int → Int
  | 0, p => p
  | j + 1, p => if p < n ∧ (u p = 32 ∨ u p = 10) then lSkip u n j (p + 1) else p
def lWrd (u : Int → Int) (n : Int) : Nat → Int → Int
  | 0, p => p
  | j + 1, p => if p < n ∧ 97 ≤ u p ∧ u p ≤ 122 then lWrd u n j (p + 1) else p
def lDig (u : Int → Int) (n : Int) : Nat → Int → Int
  | 0, p => p
  | j + 1, p => if p < n ∧ 48 ≤ u p ∧ u p ≤ 57 then lDig u n j (p + 1) else p
def lVal (u : Int → Int) (n st : Int) : Nat → Int → Int → Int
  | 0, _, v => v
  | j + 1, p, v => if p < n ∧ 48 ≤ u p ∧ u p ≤ 57 then lVal u n st j (p + 1) (if p - st < 4 then v * 10 + u p - 48 else 10000) else v
theorem lSkip_rng (u : Int → Int) (n : Int) : ∀ (j : Nat) (p : Int), p + j = n → p ≤ lSkip u n j p ∧ lSkip u n j p ≤ n := by
  intro j
  induction j with
  | zero => intro p hp; unfold lSkip; omega
  | succ j ih =>
    intro p hp
    unfold lSkip
    have := ih (p + 1) (by omega)
    split <;> omega
theorem lWrd_rng (u : Int → Int) (n : Int) : ∀ (j : Nat) (p : Int), p + j = n → p ≤ lWrd u n j p ∧ lWrd u n j p ≤ n ∧ (∀ i, p ≤ i → i < lWrd u n j p → 97 ≤ u i ∧ u i ≤ 122) := by
  intro j
  induction j with
  | zero => intro p hp; unfold lWrd; exact ⟨by omega, by omega, fun i a b => absurd a (by omega)⟩
  | succ j ih =>
    intro p hp
    unfold lWrd
    obtain ⟨a, b, c⟩ := ih (p + 1) (by omega)
    split
    · rename_i z
      refine ⟨by omega, by omega, fun i i0 i1 => ?_⟩
      by_cases e : i = p
      · rw [e]; exact z.2
      · exact c i (by omega) i1
    · exact ⟨by omega, by omega, fun i a b => absurd a (by omega)⟩
theorem lDig_rng (u : Int → Int) (n : Int) : ∀ (j : Nat) (p : Int), p + j = n → p ≤ lDig u n j p ∧ lDig u n j p ≤ n := by
  intro j
  induction j with
  | zero => intro p hp; unfold lDig; omega
  | succ j ih =>
    intro p hp
    unfold lDig
    have := ih (p + 1) (by omega)
    split <;> omega
/-- a number of k digits is below ten to the k; of more than four it is 10000 -/
def vB (k v : Int) : Prop := 0 ≤ v ∧ (k ≤ 0 → v ≤ 0) ∧ (k ≤ 1 → v ≤ 9) ∧ (k ≤ 2 → v ≤ 99) ∧ (k ≤ 3 → v ≤ 999) ∧ (k ≤ 4 → v ≤ 9999) ∧ (4 < k → v = 10000)
theorem lVal_rng (u : Int → Int) (n st : Int) : ∀ (j : Nat) (p v : Int), p + j = n → st ≤ p → vB (p - st) v → vB (lDig u n j p - st) (lVal u n st j p v) := by
  intro j
  induction j with
  | zero => intro p v hp hs hv; exact hv
  | succ j ih =>
    intro p v hp hs hv
    unfold lDig lVal
    split
    · rename_i z
      refine ih (p + 1) _ (by omega) (by omega) ?_
      unfold vB at hv ⊢
      split <;> omega
    · exact hv
def lex (u : Int → Int) (n p : Int) : Int × Int × Int × Int :=
  if n ≤ lSkip u n (n - p).toNat p then (0, lSkip u n (n - p).toNat p, lSkip u n (n - p).toNat p, 0)
  else if 97 ≤ u (lSkip u n (n - p).toNat p) ∧ u (lSkip u n (n - p).toNat p) ≤ 122 then (1, lSkip u n (n - p).toNat p, lWrd u n (n - lSkip u n (n - p).toNat p).toNat (lSkip u n (n - p).toNat p), 0)
  else if 48 ≤ u (lSkip u n (n - p).toNat p) ∧ u (lSkip u n (n - p).toNat p) ≤ 57 then (2, lSkip u n (n - p).toNat p, lDig u n (n - lSkip u n (n - p).toNat p).toNat (lSkip u n (n - p).toNat p), lVal u n (lSkip u n (n - p).toNat p) (n - lSkip u n (n - p).toNat p).toNat (lSkip u n (n - p).toNat p) 0)
  else if u (lSkip u n (n - p).toNat p) = 59 then (3, lSkip u n (n - p).toNat p, lSkip u n (n - p).toNat p + 1, 0)
  else (4, lSkip u n (n - p).toNat p, lSkip u n (n - p).toNat p + 1, 0)
/-! the reader's state: sort, start, end, value, fault, place -/
abbrev tR : Type := Int × Int × Int × Int × Int × Int
def rSo (R : tR) : Int := R.1
def rSt (R : tR) : Int := R.2.1
def rAt (R : tR) : Int := R.2.2.1
def rVa (R : tR) : Int := R.2.2.2.1
def rF (R : tR) : Int := R.2.2.2.2.1
def rPl (R : tR) : Int := R.2.2.2.2.2
def LOk (u : Int → Int) (n so st at' va : Int) : Prop :=
  0 ≤ so ∧ so ≤ 4 ∧ 0 ≤ st ∧ st ≤ at' ∧ at' ≤ n ∧ (so ≠ 0 → st < at') ∧ (so = 0 → st = n) ∧ 0 ≤ va ∧ va ≤ 10000 ∧ (so = 2 → vB (at' - st) va) ∧ (so = 1 → ∀ i, st ≤ i → i < at' → 97 ≤ u i ∧ u i ≤ 122)
theorem lex_ok (u : Int → Int) {n p : Int} (h0 : 0 ≤ p) (h1 : p ≤ n) : LOk u n (lex u n p).1 (lex u n p).2.1 (lex u n p).2.2.1 (lex u n p).2.2.2 ∧ p ≤ (lex u n p).2.1 := by
  have hs := lSkip_rng u n (n - p).toNat p (by omega)
  unfold lex
  generalize lSkip u n (n - p).toNat p = s at hs ⊢
  by_cases c0 : n ≤ s
  · rw [if_pos c0]
    refine ⟨⟨by show (0:Int) ≤ 0; omega, by show (0:Int) ≤ 4; omega, by show 0 ≤ s; omega, by show s ≤ s; omega, by show s ≤ n; omega, fun z => absurd rfl z, fun _ => by show s = n; omega, by show (0:Int) ≤ 0; omega, by show (0:Int) ≤ 10000; omega, fun z => absurd z (by show ¬ (0:Int) = 2; omega), fun z => absurd z (by show ¬ (0:Int) = 1; omega)⟩, by show p ≤ s; omega⟩
  · rw [if_neg c0]
    by_cases c1 : 97 ≤ u s ∧ u s ≤ 122
    · rw [if_pos c1]
      obtain ⟨a, b, c⟩ := lWrd_rng u n (n - s).toNat s (by omega)
      have e : s < lWrd u n (n - s).toNat s := by
        obtain ⟨j, hj⟩ : ∃ j, (n - s).toNat = j + 1 := ⟨(n - s).toNat - 1, by omega⟩
        rw [hj]
        unfold lWrd
        rw [if_pos ⟨by omega, c1⟩]
        have := (lWrd_rng u n j (s + 1) (by omega)).1
        omega
      refine ⟨⟨by show (0:Int) ≤ 1; omega, by show (1:Int) ≤ 4; omega, by show 0 ≤ s; omega, a, b, fun _ => e, fun z => absurd z (by show ¬ (1:Int) = 0; omega), by show (0:Int) ≤ 0; omega, by show (0:Int) ≤ 10000; omega, fun z => absurd z (by show ¬ (1:Int) = 2; omega), fun _ => c⟩, by show p ≤ s; omega⟩
    · rw [if_neg c1]
      by_cases c2 : 48 ≤ u s ∧ u s ≤ 57
      · rw [if_pos c2]
        obtain ⟨a, b⟩ := lDig_rng u n (n - s).toNat s (by omega)
        have e : s < lDig u n (n - s).toNat s := by
          obtain ⟨j, hj⟩ : ∃ j, (n - s).toNat = j + 1 := ⟨(n - s).toNat - 1, by omega⟩
          rw [hj]
          unfold lDig
          rw [if_pos ⟨by omega, c2⟩]
          have := (lDig_rng u n j (s + 1) (by omega)).1
          omega
        have v := lVal_rng u n s (n - s).toNat s 0 (by omega) (by omega) (by unfold vB; omega)
        have v1 : 0 ≤ lVal u n s (n - s).toNat s 0 ∧ lVal u n s (n - s).toNat s 0 ≤ 10000 := by unfold vB at v; omega
        refine ⟨⟨by show (0:Int) ≤ 2; omega, by show (2:Int) ≤ 4; omega, by show 0 ≤ s; omega, a, b, fun _ => e, fun z => absurd z (by show ¬ (2:Int) = 0; omega), v1.1, v1.2, fun _ => v, fun z => absurd z (by show ¬ (2:Int) = 1; omega)⟩, by show p ≤ s; omega⟩
      · rw [if_neg c2]
        by_cases c3 : u s = 59
        · rw [if_pos c3]
          refine ⟨⟨by show (0:Int) ≤ 3; omega, by show (3:Int) ≤ 4; omega, by show 0 ≤ s; omega, by show s ≤ s + 1; omega, by show s + 1 ≤ n; omega, fun _ => by show s < s + 1; omega, fun z => absurd z (by show ¬ (3:Int) = 0; omega), by show (0:Int) ≤ 0; omega, by show (0:Int) ≤ 10000; omega, fun z => absurd z (by show ¬ (3:Int) = 2; omega), fun z => absurd z (by show ¬ (3:Int) = 1; omega)⟩, by show p ≤ s; omega⟩
        · rw [if_neg c3]
          refine ⟨⟨by show (0:Int) ≤ 4; omega, by show (4:Int) ≤ 4; omega, by show 0 ≤ s; omega, by show s ≤ s + 1; omega, by show s + 1 ≤ n; omega, fun _ => by show s < s + 1; omega, fun z => absurd z (by show ¬ (4:Int) = 0; omega), by show (0:Int) ≤ 0; omega, by show (0:Int) ≤ 10000; omega, fun z => absurd z (by show ¬ (4:Int) = 2; omega), fun z => absurd z (by show ¬ (4:Int) = 1; omega)⟩, by show p ≤ s; omega⟩

/-! SOUNDNESS, part 11: the calls, joined -/
theorem mH154 : mY 154 = mHad ∧ mHh 154 = [] ∧ mNp 154 = 2 := ⟨rfl, rfl, rfl⟩
theorem mSnd_V {G : mG} {l : Launch} {d m pc : Nat} {lv : mLv} {st : List Value} {h : mHp} {out : mOut} {k len a b c w : Nat} {v : Int32} {ts : List Nat} (hm : m < 210) (hck1 : decode (mBy m) pc = .ok (.invokevirtual k, len)) (hck2 : mChX m pc len a b c w v ts (.invokevirtual k) = true) (hF : mInvV (mP1 G l) (mP1 G l) d m pc lv st h out b c a) : mP0 G l d m pc lv st h out := by
  have hck2 : (Nat.beq len 3 && (bif Nat.beq a 900 then decide ((mY m).cls = RX6 ∧ k = 179) else bif Nat.beq a 901 then decide ((mY m).cls = RX6 ∧ k = 183) else mChC (mY m).cls k a b w && Nat.blt c 9 && decide ((mY a).cls = mCn c) && !mStat a)) = true := hck2
  obtain ⟨q1, q2⟩ := mAnd hck2
  have hl3 := Nat.eq_of_beq_eq_true q1
  subst hl3
  obtain ⟨hw, hF⟩ := mTrue_e hF
  have hw := Nat.le_of_ble_eq_true hw
  unfold mInvV0 at hF
  revert q2 hF
  cases e1 : Nat.beq a 900 with
  | true =>
    have ea := Nat.eq_of_beq_eq_true e1
    subst ea
    exact fun q2 hF => mSnd_len hck1 (of_decide_eq_true q2).1 (of_decide_eq_true q2).2 hw hF
  | false =>
    cases e2 : Nat.beq a 901 with
    | true =>
      have ea := Nat.eq_of_beq_eq_true e2
      subst ea
      exact fun q2 hF => mSnd_chr hck1 (of_decide_eq_true q2).1 (of_decide_eq_true q2).2 hw hF
    | false => exact fun q2 hF => mSnd_V0 hck1 q2 hF
theorem mSnd_S {G : mG} {l : Launch} {d m pc : Nat} {lv : mLv} {st : List Value} {h : mHp} {out : mOut} {k len a b c w : Nat} {v : Int32} {ts : List Nat} (hm : m < 210) (hck1 : decode (mBy m) pc = .ok (.invokestatic k, len)) (hck2 : mChX m pc len a b c w v ts (.invokestatic k) = true) (hF : mInvS (mP1 G l) (mP1 G l) d m pc lv st h out b a) : mP0 G l d m pc lv st h out := by
  have hck2 : (Nat.beq len 3 && (bif Nat.beq a 902 then decide (mWrd w = some (.methodLink (mY m).cls k arraycopyName)) else (bif Nat.beq c 100 then Nat.beq a 154 && Nat.beq b 2 && mNest.contains ((mY m).cls, k) else mChC (mY m).cls k a b w) && mStat a)) = true := hck2
  obtain ⟨q1, q2⟩ := mAnd hck2
  have hl3 := Nat.eq_of_beq_eq_true q1
  subst hl3
  obtain ⟨hw, hF⟩ := mTrue_e hF
  have hw := Nat.le_of_ble_eq_true hw
  unfold mInvS0 at hF
  cases e9 : Nat.beq a 902 with
  | true =>
    rw [e9] at q2 hF
    exact mSnd_cpy hck1 (of_decide_eq_true q2) hw hF
  | false =>
    rw [e9] at q2 hF
    have q2 : ((bif Nat.beq c 100 then Nat.beq a 154 && Nat.beq b 2 && mNest.contains ((mY m).cls, k) else mChC (mY m).cls k a b w) && mStat a) = true := q2
    have q3 := (mAnd q2).1
    have key : ∀ x : Nat, x = 1 ∨ x = 2 → a = x → mChC (mY m).cls k a b w = true := by
      intro x hx e
      cases e8 : Nat.beq c 100 with
      | true =>
        rw [e8] at q3
        have := Nat.eq_of_beq_eq_true (mAnd (mAnd q3).1).1
        omega
      | false => rw [e8] at q3; exact q3
    cases e7 : Nat.beq a 1 with
    | true =>
      rw [e7] at hF
      have ea := Nat.eq_of_beq_eq_true e7
      have hc := key 1 (Or.inl rfl) ea
      subst ea
      have hb := Nat.eq_of_beq_eq_true (mAnd hc).2
      have hb : b = 2 := hb.symm
      subst hb
      exact mSnd_max hck1 hc hF hw
    | false =>
      cases e6 : Nat.beq a 2 with
      | true =>
        rw [e7, e6] at hF
        have ea := Nat.eq_of_beq_eq_true e6
        have hc := key 2 (Or.inr rfl) ea
        subst ea
        have hb := Nat.eq_of_beq_eq_true (mAnd hc).2
        have hb : b = 2 := hb.symm
        subst hb
        exact mSnd_min hck1 hc hF hw
      | false =>
        rw [e7, e6] at hF
        exact mSnd_S0 hck1 q2 mH154 hF

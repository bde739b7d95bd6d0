/-! SOUNDNESS, part 12: what the small machine runs, the machine runs -/
theorem mP1_closed (G : mG) (l : Launch) : mClosed (mP1 G l) := by
  refine ⟨fun d m pc lv st h out q => ?_, fun d m pc bs lv st h out q => ⟨q.1, ?_⟩⟩
  · unfold mF at q
    cases hat : mAt m pc with
    | none => rw [hat] at q; exact False.elim q
    | some it =>
      rw [hat] at q
      obtain ⟨hm, hck⟩ := mck_all hat
      obtain ⟨i, len, a, b, c, w, v, ts⟩ := it
      obtain ⟨hck1, hck2⟩ := mAnd hck
      have hck1 := of_decide_eq_true hck1
      have q : mEx (mP1 G l) (mP1 G l) d m pc lv st h out i a b c v ts := q
      refine ⟨mEx_m (fun x => ?_) (mEx_mono (fun _ _ _ _ _ _ _ z => z.1) (fun _ _ _ _ _ _ _ z => z.1) q), mSnd_ex hm hck1 hck2 q⟩
      by_cases hts : ∃ df lo hi o, i = .tableswitch df lo hi o
      · obtain ⟨df, lo, hi, o, rfl⟩ := hts
        obtain ⟨h1, h6⟩ := mAnd hck2
        obtain ⟨h1, h5⟩ := mAnd h1
        obtain ⟨h1, h4⟩ := mAnd h1
        have h4 : c + 1 = b + ts.length := Nat.eq_of_beq_eq_true h4
        have h5 : c < 1000 := mBlt h5
        have eb : (nI b).toInt = (b : Int) := nI_toInt (by omega)
        have ec : (nI c).toInt = (c : Int) := nI_toInt (by omega)
        by_cases hx : x < nI b ∨ nI c < x
        · exact Or.inl hx
        · refine Or.inr ?_
          have h7 : ¬ x.toInt < (b : Int) := fun z => hx (Or.inl (by rw [Int32.lt_iff_toInt_lt, eb]; exact z))
          have h8 : ¬ (c : Int) < x.toInt := fun z => hx (Or.inr (by rw [Int32.lt_iff_toInt_lt, ec]; exact z))
          refine ⟨(x.toInt - b).toNat, Or.inl ⟨by omega, ?_⟩⟩
          apply Int32.toInt_inj.mp
          rw [nI_toInt (by omega)]; omega
      · exact Or.inr ⟨0, Or.inr (fun df lo hi o e => hts ⟨df, lo, hi, o, e⟩)⟩
  · intro p e R s mid args below meth cd H locs cells slots mc ms ls C Lc Wl hS Rm
    refine q.2 p e R s mid args below meth cd H locs cells slots mc ms ls C ⟨by rw [mMsk_len]; exact Lc.1, Lc.2.less (fun x hx => ?_)⟩ Wl hS Rm
    obtain ⟨k, w, h1, h2⟩ := (mPr_mem _ _ _).mp hx
    exact (mPr_mem _ _ _).mpr ⟨k, w, mMsk_get bs lv k w h1, h2⟩
theorem mRuns_sound {G : mG} {l : Launch} {d m pc : Nat} {lv : mLv} {st : List Value} {h : mHp} {out : mOut} (q : mRuns d m pc lv st h out) : mP1 G l d m pc lv st h out := q (mP1 G l) (mP1_closed G l)

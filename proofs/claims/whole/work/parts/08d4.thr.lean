/-! SOUNDNESS, part 8: a call that throws, and what the caller does then -/
def mOkR (m hp ct x q k : Nat) : Bool := Nat.blt 0 ct && ((Nat.beq ct 13 && Nat.beq x 0) || (Nat.beq ct 18 && Nat.beq x 1)) && ((decide (decode (mBy m) hp = .ok (.astore k, 2)) && Nat.beq q (hp + 2)) || (Nat.blt k 4 && decide (decode (mBy m) hp = .ok (.astore_n (Fin.ofNat 4 k), 1)) && Nat.beq q (hp + 1)))
def mChH : Nat × Nat × Nat × Nat × Nat × Nat → Bool
  | (m, s0, e0, x, q, k) => Nat.blt k (mMt m).1 && decide ((mY m).cls = "TasterTableLaw") && (match mHh m with
    | [(a, b, hp, ct)] => Nat.beq a s0 && Nat.beq b e0 && mOkR m hp ct x q k
    | [(a, b, hp, ct), (a2, b2, hp2, ct2)] => Nat.beq a s0 && Nat.beq b e0 && Nat.beq a2 s0 && Nat.beq b2 e0 && Nat.beq ct 18 && ((Nat.beq x 1 && mOkR m hp ct x q k) || (Nat.beq x 0 && mOkR m hp2 ct2 x q k))
    | _ => false)
theorem mHl_ok : mHl.all mChH = true := by decide +kernel
theorem mCl13 : Cond.classLink "TasterTableLaw" 13 (mEn 0) ∈ mBIG := mWrd_big (w := 496) (by decide +kernel) rfl
theorem mCl18 : Cond.classLink "TasterTableLaw" 18 (mEn 1) ∈ mBIG := mWrd_big (w := 718) (by decide +kernel) rfl
theorem mFind_e : ∀ (L : List (Nat × Nat × Nat × Nat × Nat × Nat)) {m pc E : Nat} {z : Nat × Nat}, mFind L m pc E = some z → ∃ s0 e0, (m, s0, e0, E, z.1, z.2) ∈ L ∧ s0 ≤ pc ∧ pc < e0 := by
  intro L
  induction L with
  | nil => intro m pc E z h; cases h
  | cons r L ih =>
    intro m pc E z h
    obtain ⟨m', s0, e0, x, q, k⟩ := r
    unfold mFind at h
    cases hc : (Nat.beq m' m && Nat.ble s0 pc && Nat.blt pc e0 && Nat.beq x E) with
    | true =>
      rw [hc] at h
      cases h
      obtain ⟨h1, h4⟩ := mAnd hc
      obtain ⟨h1, h3⟩ := mAnd h1
      obtain ⟨h1, h2⟩ := mAnd h1
      rw [Nat.eq_of_beq_eq_true h1, Nat.eq_of_beq_eq_true h4]
      exact ⟨s0, e0, List.mem_cons_self, Nat.le_of_ble_eq_true h2, mBlt h3⟩
    | false =>
      rw [hc] at h
      obtain ⟨a, b, h1, h2⟩ := ih h
      exact ⟨a, b, List.mem_cons_of_mem _ h1, h2⟩
theorem mLv_clr {ad : Nat → Nat} {ls : Array Slot} {n : Nat} {lv : mLv} {k : Nat} {v : Value} (h : lv_has ls n ((k, v) :: (mPr ad 0 lv).filter (fun q => !(q.1 == k) && !(q.1 + 1 == k && q.2.category == 2)))) : lv_has ls n (mPr ad 0 (mClr (mSet lv k .null) k)) := by
  refine h.less (fun q hq => ?_)
  obtain ⟨j, w, h1, h2⟩ := (mPr_mem _ _ _).mp hq
  subst h2
  obtain ⟨c1, c2⟩ := mClr_get _ _ _ _ h1
  rcases mSet_get lv k .null j w c2 with ⟨e1, e2⟩ | ⟨e1, e2, e3⟩
  · exact absurd e1 c1
  · refine List.mem_cons_of_mem _ (List.mem_filter.mpr ⟨(mPr_mem _ _ _).mpr ⟨j, w, e2, rfl⟩, ?_⟩)
    have hj : (0 + j == k) = false := by simp; exact e1
    by_cases hk : j + 1 = k
    · have hc : ((mRv ad w).category == 2) = false := by rw [mRv_cat]; exact e3 hk
      simp only [hj, hc, Bool.and_false]
      rfl
    · have hk' : (0 + j + 1 == k) = false := by simp; exact hk
      simp only [hj, hk']
      rfl
section THR
variable {G : mG} {l : Launch} {d m pc : Nat} {lv : mLv} {h : mHp} {out : mOut} {p : Program} {e : Env} {R : Room} {s : State} {mid : MethodId} {args : Array Value} {below : List Frame} {meth : Method} {cd : Code} {H : Heap} {locs : List Loc} {cells slots mc ms : Nat} {ls : Array Slot}
/-- at the handler: the exception is stored, then the walk goes on behind that -/
theorem mHandle {hp ct x k q0 : Nat} {qa : Addr} (C : mCx G l p s mid args meth cd m) (Lc : mLc G m lv ls) (Wl : mWl G h H) (hS : va_S (mA G) s.heap H locs) (Rm : mRm R (d + 1) cells slots mc ms h out) (hk : k < (mMt m).1) (ok : mOkR m hp ct x q0 k = true)
    (hn : mP1 G l (d + 1) m q0 (mClr (mSet lv k .null) k) [] h out) : W p l e R s mid args below meth cd H locs cells slots (mQ G below args s mc ms out) (F0 mid hp ls [.ref qa]) := by
  obtain ⟨hx, hb, -⟩ := id C
  obtain ⟨-, h2⟩ := mAnd ok
  have go : ∀ ls', lv_has ls' (mMt m).1 ((k, Value.ref qa) :: (mPr (gA G) 0 lv).filter (fun q => !(q.1 == k) && !(q.1 + 1 == k && q.2.category == 2))) → W p l e R s mid args below meth cd H locs cells slots (mQ G below args s mc ms out) (F0 mid q0 ls' []) :=
    fun ls' h' => hn.2 p e R s mid args below meth cd H locs cells slots mc ms ls' C ⟨by rw [mClr_len, mSet_len]; exact Lc.1, mLv_clr h'⟩ Wl hS Rm
  rw [Bool.or_eq_true] at h2
  rcases h2 with h2 | h2
  · obtain ⟨h3, h4⟩ := mAnd h2
    have h4 := Nat.eq_of_beq_eq_true h4
    subst h4
    exact lv_astore (lv' := _) hx hb (of_decide_eq_true h3) Lc.2 hk rfl go
  · obtain ⟨h2, h4⟩ := mAnd h2
    obtain ⟨h5, h3⟩ := mAnd h2
    have h4 := Nat.eq_of_beq_eq_true h4
    subst h4
    exact lv_astore_n (lv' := _) hx hb (of_decide_eq_true h3) (by show k % 4 = k; exact Nat.mod_eq_of_lt (mBlt h5)) Lc.2 hk rfl go
theorem mOkR_c {hp ct x q k : Nat} (h : mOkR m hp ct x q k = true) : ct ≠ 0 ∧ ((ct = 13 ∧ x = 0) ∨ (ct = 18 ∧ x = 1)) := by
  obtain ⟨h, -⟩ := mAnd h
  obtain ⟨h1, h2⟩ := mAnd h
  refine ⟨Nat.pos_iff_ne_zero.mp (mBlt h1), ?_⟩
  rw [Bool.or_eq_true] at h2
  rcases h2 with h2 | h2
  · obtain ⟨a, b⟩ := mAnd h2; exact Or.inl ⟨Nat.eq_of_beq_eq_true a, Nat.eq_of_beq_eq_true b⟩
  · obtain ⟨a, b⟩ := mAnd h2; exact Or.inr ⟨Nat.eq_of_beq_eq_true a, Nat.eq_of_beq_eq_true b⟩
/-- behind a call that threw -/
theorem mAfterX {a' : Array Value} {E : Nat} {h' : mHp} {r : List Value} {g : List Value} {mc1 ms1 : Nat} (C : mCx G l p s mid args meth cd m) (Lc : mLc G m lv ls) (hS : va_S (mA G) s.heap H locs) (Rm : mRm R (d + 1) (cells + mc1) (slots + ms1) mc ms h' out)
    (hn : mHnd (mP1 G l) (d + 1) m pc lv E h' out (mFind mHl m pc E))
    (run : vx_Run p l e R s mid args below meth cd H locs cells slots mc1 ms1 (F0 mid pc ls g) (r.map (mRv (gA G))) (mQc G (.inr (E, h')) a') (mXq G (.inr (E, h'))) (mA G)) :
    W p l e R s mid args below meth cd H locs cells slots (mQ G below args s mc ms out) (F0 mid pc ls g) := by
  intro T hT X
  rcases run T hT X with ⟨v, st₀, t, T', L, h0, X', hL, e1, e2, ⟨v2, h2, q1, -⟩, st⟩ | ⟨q, st₀, t, T', L, nm, ce, h0, X', hL, e1, e2, ⟨k, h2, q1, q2, q3, q4, q5⟩, hce, hcv, hcl, st⟩
  · cases q1
  · cases q1
    subst q3
    obtain ⟨hx, hb, hml, hr, hown, hts, hlocks, htab, hl, hSt, hz⟩ := id C
    have hS' := mS_keep hS h0 e1 q5 hL
    have Wl' : mWl G h' T'.heap := by rw [mPo] at q4; rw [e1]; exact q4
    have hce' : T'.heap[q]? = some ce := by rw [e1]; exact hce
    have fin : vx_W p l e R s mid args below meth cd T'.heap (locs ++ L) (cells + mc1) (slots + ms1) (mQ G below args s mc ms out) (F0 mid pc ls (r.map (mRv (gA G)))) q := by
      cases hf : mFind mHl m pc E with
      | none =>
        rw [hf] at hn
        obtain ⟨hemp, hn⟩ := mTrue_e hn
        subst hn
        refine vx_out (E := mEn E) (fun x hx9 => ?_) hlocks hce' hcv hcl (fun t9 ht9 _ => ⟨E, h', rfl, q2, rfl, by rw [mPo, ht9]; exact Wl', hS'.F ht9⟩) hS'.2.2 ?_ ?_
        · rw [htab, List.isEmpty_iff.mp hemp] at hx9
          cases hx9
        · have := Rm.2.2.2.2.1; simp only [mOh] at this; omega
        · have := Rm.2.2.2.2.2; simp only [mOh] at this; omega
      | some z =>
        obtain ⟨z1, z2⟩ := z
        rw [hf] at hn
        obtain ⟨s0, e0, hm9, hs9, he9⟩ := mFind_e mHl hf
        have hck := List.all_eq_true.mp mHl_ok _ hm9
        obtain ⟨hck, hc3⟩ := mAnd (show (Nat.blt z2 (mMt m).1 && decide ((mY m).cls = "TasterTableLaw") && _) = true from hck)
        obtain ⟨hc1, hc2⟩ := mAnd hck
        have hk9 := mBlt hc1
        have hcls : (mY m).cls = "TasterTableLaw" := of_decide_eq_true hc2
        rw [hcls] at hown
        split at hc3
        · next a b hp ct hh =>
          obtain ⟨hc3, ok⟩ := mAnd hc3
          obtain ⟨ha, hb9⟩ := mAnd hc3
          have ha := Nat.eq_of_beq_eq_true ha
          have hb9 := Nat.eq_of_beq_eq_true hb9
          subst ha; subst hb9
          obtain ⟨hct, hcx⟩ := mOkR_c ok
          have htab2 : cd.exceptionTable.toList = (⟨a, b, hp, ct⟩ : ExceptionTableEntry) :: [] := by rw [htab, hh]; rfl
          have kk : W p l e R s mid args below meth cd T'.heap (locs ++ L) (cells + mc1) (slots + ms1) (mQ G below args s mc ms out) (F0 mid hp ls [.ref q]) := mHandle C Lc Wl' hS' Rm hk9 ok hn
          have hcov : covers (⟨a, b, hp, ct⟩ : ExceptionTableEntry) pc = true := by simp [covers]; exact ⟨hs9, he9⟩
          rcases hcx with ⟨e3, e4⟩ | ⟨e3, e4⟩
          · subst e3; subst e4
            exact mCatch1 hown _ _ htab2 hcov hct (hts _ mCl13) (va_Nw.use rfl hSt.2.2.2.2.2.2.1.1) hce' hcv hcl kk
          · subst e3; subst e4
            exact mCatch1 hown _ _ htab2 hcov hct (hts _ mCl18) (va_Nw.use rfl hSt.2.2.2.2.2.2.1.2.1) hce' hcv hcl kk
        · next a b hp ct a2 b2 hp2 ct2 hh =>
          obtain ⟨hc3, ok⟩ := mAnd hc3
          obtain ⟨hc3, hct9⟩ := mAnd hc3
          obtain ⟨hc3, hb2⟩ := mAnd hc3
          obtain ⟨hc3, ha2⟩ := mAnd hc3
          obtain ⟨ha, hb9⟩ := mAnd hc3
          have ha := Nat.eq_of_beq_eq_true ha
          have hb9 := Nat.eq_of_beq_eq_true hb9
          have ha2 := Nat.eq_of_beq_eq_true ha2
          have hb2 := Nat.eq_of_beq_eq_true hb2
          have hct9 := Nat.eq_of_beq_eq_true hct9
          subst ha; subst hb9; subst hct9; subst ha2; subst hb2
          have htab2 : cd.exceptionTable.toList = (⟨a2, b2, hp, 18⟩ : ExceptionTableEntry) :: ⟨a2, b2, hp2, ct2⟩ :: [] := by rw [htab, hh]; rfl
          have hcov : covers (⟨a2, b2, hp, 18⟩ : ExceptionTableEntry) pc = true := by simp [covers]; exact ⟨hs9, he9⟩
          have hcov2 : covers (⟨a2, b2, hp2, ct2⟩ : ExceptionTableEntry) pc = true := by simp [covers]; exact ⟨hs9, he9⟩
          rw [Bool.or_eq_true] at ok
          rcases ok with ok | ok
          · obtain ⟨ox, ok⟩ := mAnd ok
            have ox := Nat.eq_of_beq_eq_true ox
            subst ox
            have kk : W p l e R s mid args below meth cd T'.heap (locs ++ L) (cells + mc1) (slots + ms1) (mQ G below args s mc ms out) (F0 mid hp ls [.ref q]) := mHandle C Lc Wl' hS' Rm hk9 ok hn
            exact mCatch1 hown _ _ htab2 hcov (show (18 : Nat) ≠ 0 by decide) (hts _ mCl18) (va_Nw.use rfl hSt.2.2.2.2.2.2.1.2.1) hce' hcv hcl kk
          · obtain ⟨ox, ok⟩ := mAnd ok
            have ox := Nat.eq_of_beq_eq_true ox
            subst ox
            obtain ⟨hct, hcx⟩ := mOkR_c ok
            rcases hcx with ⟨e3, -⟩ | ⟨-, e4⟩
            · subst e3
              have kk : W p l e R s mid args below meth cd T'.heap (locs ++ L) (cells + mc1) (slots + ms1) (mQ G below args s mc ms out) (F0 mid hp2 ls [.ref q]) := mHandle C Lc Wl' hS' Rm hk9 ok hn
              exact mCatch2 hown _ _ _ htab2 hcov (show (18 : Nat) ≠ 0 by decide) hcov2 hct (hts _ mCl18) hSt.2.2.2.2.2.2.1.2.2 (hts _ mCl13) (va_Nw.use rfl hSt.2.2.2.2.2.2.1.1) hce' hcv hcl kk
            · exact absurd e4 (by decide)
        · cases hc3
    obtain ⟨t2, a1, b1⟩ := fin T' rfl X'
    exact ⟨t2, st.trans a1, b1⟩
end THR

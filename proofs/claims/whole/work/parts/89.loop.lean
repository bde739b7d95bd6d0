/-! L3, the law's loop -/
theorem and31 (x : Int32) : ∃ t : Nat, t ≤ 31 ∧ x &&& nI 31 = nI t := by
  refine ⟨(x &&& nI 31).toBitVec.toNat, ?_, ?_⟩
  · have e : (x &&& nI 31).toBitVec = x.toBitVec &&& (31#32) := rfl
    rw [e, BitVec.toNat_and]
    exact Nat.and_le_right
  · apply Int32.toBitVec_inj.mp
    show (x &&& nI 31).toBitVec = BitVec.ofNat 32 _
    rw [BitVec.ofNat_toNat, BitVec.setWidth_eq]
theorem lw_default {d : Nat} {h : mHp} {c : Nat} {v4 : Int32} {t : Nat} (hv : Iv h c) (V : VV h v4) (t0 : 27 ≤ t) (t1 : t ≤ 31) (hs : h.1 142 v4.toNatClampNeg &&& nI 31 = nI t) : ∃ h1, Iv h1 (c + 1) ∧ fS h h1 ∧ ∀ out, mRuns (d + 22) 209 23 [some (.ref 142), some (.ref 0), some (.ref 114), some (.ref 141), some (.int (v4 + nI 6)), none, none] [] h1 out → mRuns (d + 22) 209 23 [some (.ref 142), some (.ref 0), some (.ref 114), some (.ref 141), some (.int v4), none, none] [] h out := by
  obtain ⟨b, n, g, B, E, k, C, i, E', C', r0, r1, r2, p, q, hI, hM, hO, hq, hx⟩ := hv
  obtain ⟨V9, V0, -⟩ := V
  have ne : ∀ j : Nat, j < 27 → ¬ nI t = nI j := fun j hj z => by
    rw [zI_n, zI_n, zI_eq (by omega) (by omega) (by omega) (by omega)] at z
    omega
  refine ⟨h, ⟨b, n, g, B, E, k, C, i, E', C', r0, r1, r2, p, q, hI, hM, hO, by omega, by omega⟩, ⟨rfl, rfl⟩, fun out K => vc_L_law_23 ⟨fun z => absurd z V9, fun _ => ⟨V0, fun _ => K, fun z => absurd z (by rw [hs]; exact ne 0 (by omega)), fun z => absurd z (by rw [hs]; exact ne 1 (by omega)), fun z => absurd z (by rw [hs]; exact ne 2 (by omega)), fun z => absurd z (by rw [hs]; exact ne 3 (by omega)), fun z => absurd z (by rw [hs]; exact ne 4 (by omega)), fun z => absurd z (by rw [hs]; exact ne 5 (by omega)), fun z => absurd z (by rw [hs]; exact ne 6 (by omega)), fun z => absurd z (by rw [hs]; exact ne 7 (by omega)), fun z => absurd z (by rw [hs]; exact ne 8 (by omega)), fun z => absurd z (by rw [hs]; exact ne 9 (by omega)), fun z => absurd z (by rw [hs]; exact ne 10 (by omega)), fun z => absurd z (by rw [hs]; exact ne 11 (by omega)), fun z => absurd z (by rw [hs]; exact ne 12 (by omega)), fun z => absurd z (by rw [hs]; exact ne 13 (by omega)), fun z => absurd z (by rw [hs]; exact ne 14 (by omega)), fun z => absurd z (by rw [hs]; exact ne 15 (by omega)), fun z => absurd z (by rw [hs]; exact ne 16 (by omega)), fun z => absurd z (by rw [hs]; exact ne 17 (by omega)), fun z => absurd z (by rw [hs]; exact ne 18 (by omega)), fun z => absurd z (by rw [hs]; exact ne 19 (by omega)), fun z => absurd z (by rw [hs]; exact ne 20 (by omega)), fun z => absurd z (by rw [hs]; exact ne 21 (by omega)), fun z => absurd z (by rw [hs]; exact ne 22 (by omega)), fun z => absurd z (by rw [hs]; exact ne 23 (by omega)), fun z => absurd z (by rw [hs]; exact ne 24 (by omega)), fun z => absurd z (by rw [hs]; exact ne 25 (by omega)), fun z => absurd z (by rw [hs]; exact ne 26 (by omega)), trivial⟩⟩⟩
theorem law_step {d : Nat} {h : mHp} {c : Nat} {v4 : Int32} (hv : Iv h c) (hc : c ≤ 600) (V : VV h v4) : ∃ h1, Iv h1 (c + 1) ∧ fS h h1 ∧ ∀ out, mRuns (d + 22) 209 23 [some (.ref 142), some (.ref 0), some (.ref 114), some (.ref 141), some (.int (v4 + nI 6)), none, none] [] h1 out → mRuns (d + 22) 209 23 [some (.ref 142), some (.ref 0), some (.ref 114), some (.ref 141), some (.int v4), none, none] [] h out := by
  obtain ⟨t, t1, hs⟩ := and31 (h.1 142 v4.toNatClampNeg)
  rcases (show t = 0 ∨ t = 1 ∨ t = 2 ∨ t = 3 ∨ t = 4 ∨ t = 5 ∨ t = 6 ∨ t = 7 ∨ t = 8 ∨ t = 9 ∨ t = 10 ∨ t = 11 ∨ t = 12 ∨ t = 13 ∨ t = 14 ∨ t = 15 ∨ t = 16 ∨ t = 17 ∨ t = 18 ∨ t = 19 ∨ t = 20 ∨ t = 21 ∨ t = 22 ∨ t = 23 ∨ t = 24 ∨ t = 25 ∨ t = 26 ∨ 27 ≤ t by omega) with e | e | e | e | e | e | e | e | e | e | e | e | e | e | e | e | e | e | e | e | e | e | e | e | e | e | e | e
  · exact lw_0 hv hc V (by rw [hs, e])
  · exact lw_1 hv hc V (by rw [hs, e])
  · exact lw_2 hv hc V (by rw [hs, e])
  · exact lw_3 hv hc V (by rw [hs, e])
  · exact lw_4 hv hc V (by rw [hs, e])
  · exact lw_5 hv hc V (by rw [hs, e])
  · exact lw_6 hv hc V (by rw [hs, e])
  · exact lw_7 hv hc V (by rw [hs, e])
  · exact lw_8 hv hc V (by rw [hs, e])
  · exact lw_9 hv hc V (by rw [hs, e])
  · exact lw_10 hv hc V (by rw [hs, e])
  · exact lw_11 hv hc V (by rw [hs, e])
  · exact lw_12 hv hc V (by rw [hs, e])
  · exact lw_13 hv hc V (by rw [hs, e])
  · exact lw_14 hv hc V (by rw [hs, e])
  · exact lw_15 hv hc V (by rw [hs, e])
  · exact lw_16 hv hc V (by rw [hs, e])
  · exact lw_17 hv hc V (by rw [hs, e])
  · exact lw_18 hv hc V (by rw [hs, e])
  · exact lw_19 hv hc V (by rw [hs, e])
  · exact lw_20 hv hc V (by rw [hs, e])
  · exact lw_21 hv hc V (by rw [hs, e])
  · exact lw_22 hv hc V (by rw [hs, e])
  · exact lw_23 hv hc V (by rw [hs, e])
  · exact lw_24 hv hc V (by rw [hs, e])
  · exact lw_25 hv hc V (by rw [hs, e])
  · exact lw_26 hv hc V (by rw [hs, e])
  · exact lw_default hv V e t1 hs
theorem law_loop {d N : Nat} (hN : N ≤ 3072) : ∀ (j c : Nat) (h : mHp), Iv h c → h.2.2.1 142 0 = N → N < 6 * c + 6 * j + 6 → 6 * c ≤ 3072 →
    ∃ h', mRuns (d + 22) 209 23 [some (.ref 142), some (.ref 0), some (.ref 114), some (.ref 141), some (.int (zI (6 * (c : Int)))), none, none] [] h (.inl (some (.int (zI 1)), h')) ∧ h'.2.2.2 ≤ 600 := by
  intro j
  induction j with
  | zero =>
    intro c h hv hn hj hc
    have hx : h.2.2.2 ≤ c := by obtain ⟨b, n, g, B, E, k, C, i, E', C', r0, r1, r2, p, q, hI, hM, hO, hq, hx⟩ := hv; exact hx
    refine ⟨h, vc_L_law_23 ⟨fun _ => ⟨Or.inr rfl, rfl⟩, fun z => absurd ?_ z⟩, by omega⟩
    rw [hn, zI_n, zI_lit, zI_sub, zI_lt (by omega) (by omega) (by omega) (by omega)]
    omega
  | succ j ih =>
    intro c h hv hn hj hc
    by_cases q : N < 6 * c + 6
    · have hx : h.2.2.2 ≤ c := by obtain ⟨b, n, g, B, E, k, C, i, E', C', r0, r1, r2, p, q, hI, hM, hO, hq, hx⟩ := hv; exact hx
      refine ⟨h, vc_L_law_23 ⟨fun _ => ⟨Or.inr rfl, rfl⟩, fun z => absurd ?_ z⟩, by omega⟩
      rw [hn, zI_n, zI_lit, zI_sub, zI_lt (by omega) (by omega) (by omega) (by omega)]
      omega
    · have V : VV h (zI (6 * (c : Int))) := by
        unfold VV
        rw [hn]
        refine ⟨?_, zI_inOk (by omega) (by omega) (by omega), ?_, ?_, ?_, ?_, ?_⟩
        · rw [zI_n, zI_lit, zI_sub, zI_lt (by omega) (by omega) (by omega) (by omega)]
          omega
        all_goals
          rw [zI_lit, zI_add]
          exact zI_inOk (by omega) (by omega) (by omega)
      obtain ⟨h1, hv1, f1, K⟩ := law_step (d := d) hv (by omega) V
      obtain ⟨h', r, x⟩ := ih (c + 1) h1 hv1 (by rw [f1.2]; exact hn) (by omega) (by omega)
      refine ⟨h', K _ ?_, x⟩
      rw [zI_lit, zI_add]
      have e : (6 * (c : Int) + OfNat.ofNat 6) = 6 * ((c + 1 : Nat) : Int) := by
        show 6 * (c : Int) + 6 = _
        omega
      rw [e]
      exact r

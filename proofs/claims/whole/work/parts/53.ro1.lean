/-! CALLS THAT ASK ONLY: length, signAt, endAt, rankOf, common, shared -/
theorem T_length {kc ks : Nat} {h : Hh} {t : Int} (hS : SIM h) (hkc : 1 ≤ kc) (hks : 6 ≤ ks) : am_V M_X10_length kc ks 0 [aR 0, aI t] [] am_R0 h (PQok M_X11_length [aR 72, aI t] aI) (PXok M_X11_length [aR 72, aI t] aI [xIO]) := by
  by_cases z : isTx h t
  · obtain ⟨n, s, pl, ra, hC, hM⟩ := hS.txt z
    refine S_X10_length_0 ⟨by omega, C_known hS z (by omega) (by omega) (S_X10_length_5 hC.1 (PQ.good hS (NK.rf h) fun kc ks Q X g hN hS' k => S_X11_length_0 (M_isNone1 hS' (hN.tx.mpr z) fun h2 m y => S_X11_length_5 ⟨fun _ => ⟨hM.1, ?_⟩, fun w => absurd rfl w⟩)))⟩
    rw [(m.mt (hN.mt hM)).2.2.1, ← hC.2.2.1]
    exact k h2 m y
  · exact S_X10_length_0 ⟨by omega, C_known0 hS z (by omega) (by omega) (PX.bad 0 hS (NK.rf h) rfl fun kc ks Q X hS' k => S_X11_length_0 (M_isNone0 hS z fun h2 m y => S_X11_length_5 ⟨fun w => absurd w (by decide), fun _ => k 0 h2 m y⟩))⟩
theorem isPx.get {h : Hh} {t p : Int} (hS : SIM h) (z : isPx h t p) : ∃ (n : Nat) (s pl ra : Int → Int), CT h (ta t) n s pl ra ∧ MT h t n s ∧ p < n := by
  obtain ⟨n, s, pl, ra, hC, hM⟩ := hS.txt z.1
  exact ⟨n, s, pl, ra, hC, hM, z.lt hM⟩
theorem NK.px {h h' : Hh} {t p : Int} (k : NK h h') : isPx h' t p ↔ isPx h t p := by unfold isPx; rw [k.tx, k.c74]
theorem MK.px {h h' : Hh} {t p : Int} (k : MK h h') : isPx h' t p ↔ isPx h t p := by unfold isPx; rw [k.tx, k.c74]
theorem T_signAt {kc ks : Nat} {h : Hh} {t p : Int} (hS : SIM h) (hkc : 2 ≤ kc) (hks : 12 ≤ ks) : am_V M_X10_signAt kc ks 0 [aR 0, aI t, aI p] [] am_R0 h (PQok M_X11_signAt [aR 72, aI t, aI p] aI) (PXok M_X11_signAt [aR 72, aI t, aI p] aI [xIO]) := by
  by_cases z : isPx h t p
  · obtain ⟨n, s, pl, ra, hC, hM, hpn⟩ := z.get hS
    have p0 := z.2.1
    obtain ⟨ct0, n64, cn, e1, e2, e3, hs, hSA, hcm⟩ := id hC
    have hl := hs p p0 hpn
    refine S_X10_signAt_0 ⟨by omega, C_knownWith hS z.1 hC p0 hpn (by omega) (by omega) (S_X10_signAt_6 hC.1 ⟨by rw [e1]; omega, PQ.good hS (NK.rf h) fun kc ks Q X g hN hS' k => S_X11_signAt_0 (M_isNoPlace1 hS' (hN.px.mpr z) fun h2 m y => S_X11_signAt_6 ⟨fun _ => ?_, fun w => absurd rfl w⟩)⟩)⟩
    obtain ⟨⟨t0, t9⟩, -, -, -, hms⟩ := m.mt (hN.mt hM)
    have e := hms p p0 hpn
    unfold ms at e
    rw [e]
    rw [e1] at k
    exact ⟨by omega, k h2 m y⟩
  · exact S_X10_signAt_0 ⟨by omega, C_knownWith0 hS z (by omega) (by omega) (PX.bad 0 hS (NK.rf h) rfl fun kc ks Q X hS' k => S_X11_signAt_0 (M_isNoPlace0 hS z fun h2 m y => S_X11_signAt_6 ⟨fun w => absurd w (by decide), fun _ => k 0 h2 m y⟩))⟩
theorem T_endAt {kc ks : Nat} {h : Hh} {t p : Int} (hS : SIM h) (hkc : 2 ≤ kc) (hks : 12 ≤ ks) : am_V M_X10_endAt kc ks 0 [aR 0, aI t, aI p] [] am_R0 h (PQok M_X11_endAt [aR 72, aI t, aI p] aI) (PXok M_X11_endAt [aR 72, aI t, aI p] aI [xIO]) := by
  by_cases z : isPx h t p
  · obtain ⟨n, s, pl, ra, hC, hM, hpn⟩ := z.get hS
    have p0 := z.2.1
    obtain ⟨ct0, n64, cn, e1, e2, e3, hs, hSA, hcm⟩ := id hC
    refine S_X10_endAt_0 ⟨by omega, C_knownWith hS z.1 hC p0 hpn (by omega) (by omega) (S_X10_endAt_6 hC.1 ⟨by omega, PQ.good hS (NK.rf h) fun kc ks Q X g hN hS' k => S_X11_endAt_0 (M_isNoRank1 hS' (hN.px.mpr z) fun h2 m y => S_X11_endAt_6 ⟨fun _ => M_sorts (m.mt (hN.mt hM)) hSA (fun h3 hf he => S_X11_endAt_16 ⟨by omega, ?_⟩), fun w => absurd rfl w⟩)⟩)⟩
    rw [e2] at k
    rw [he p p0 hpn]
    exact k h3 (m.tr (MK.so hf)) (by rw [hf 72 (by decide)]; exact y)
  · exact S_X10_endAt_0 ⟨by omega, C_knownWith0 hS z (by omega) (by omega) (PX.bad 0 hS (NK.rf h) rfl fun kc ks Q X hS' k => S_X11_endAt_0 (M_isNoRank0 hS z fun h2 m y => S_X11_endAt_6 ⟨fun w => absurd w (by decide), fun _ => k 0 h2 m y⟩))⟩
theorem T_rankOf {kc ks : Nat} {h : Hh} {t p : Int} (hS : SIM h) (hkc : 2 ≤ kc) (hks : 12 ≤ ks) : am_V M_X10_rankOf kc ks 0 [aR 0, aI t, aI p] [] am_R0 h (PQok M_X11_rankOf [aR 72, aI t, aI p] aI) (PXok M_X11_rankOf [aR 72, aI t, aI p] aI [xIO]) := by
  by_cases z : isPx h t p
  · obtain ⟨n, s, pl, ra, hC, hM, hpn⟩ := z.get hS
    have p0 := z.2.1
    obtain ⟨ct0, n64, cn, e1, e2, e3, hs, hSA, hcm⟩ := id hC
    refine S_X10_rankOf_0 ⟨by omega, C_knownWith hS z.1 hC p0 hpn (by omega) (by omega) (S_X10_rankOf_6 hC.1 ⟨by omega, PQ.good hS (NK.rf h) fun kc ks Q X g hN hS' k => S_X11_rankOf_0 (M_isNoPlace1 hS' (hN.px.mpr z) fun h2 m y => S_X11_rankOf_6 ⟨fun _ => M_rank (m.mt (hN.mt hM)) p0 hpn (S_X11_rankOf_19 ?_), fun w => absurd rfl w⟩)⟩)⟩
    rw [e3, (hSA p p0 hpn).1] at k
    exact k h2 m y
  · exact S_X10_rankOf_0 ⟨by omega, C_knownWith0 hS z (by omega) (by omega) (PX.bad 0 hS (NK.rf h) rfl fun kc ks Q X hS' k => S_X11_rankOf_0 (M_isNoPlace0 hS z fun h2 m y => S_X11_rankOf_6 ⟨fun w => absurd w (by decide), fun _ => k 0 h2 m y⟩))⟩
theorem T_common {kc ks : Nat} {h : Hh} {t p : Int} (hS : SIM h) (hkc : 2 ≤ kc) (hks : 12 ≤ ks) : am_V M_X10_common kc ks 0 [aR 0, aI t, aI p] [] am_R0 h (PQok M_X11_common [aR 72, aI t, aI p] aI) (PXok M_X11_common [aR 72, aI t, aI p] aI [xIO]) := by
  by_cases z : isPx h t p
  · obtain ⟨n, s, pl, ra, hC, hM, hpn⟩ := z.get hS
    have p0 := z.2.1
    obtain ⟨ct0, n64, cn, e1, e2, e3, hs, hSA, hcm⟩ := id hC
    refine S_X10_common_0 ⟨by omega, C_knownWith hS z.1 hC p0 hpn (by omega) (by omega) (S_X10_common_6 hC.1 ⟨by omega, PQ.good hS (NK.rf h) fun kc ks Q X g hN hS' k => S_X11_common_0 (M_isNoRank1 hS' (hN.px.mpr z) fun h2 m y => S_X11_common_6 ⟨fun _ => M_sorts (m.mt (hN.mt hM)) hSA (fun h3 hf he => S_X11_common_16 (M_commonAt ((MK.so hf).mt (m.mt (hN.mt hM))) hSA p0 hpn he (S_X11_common_22 ?_))), fun w => absurd rfl w⟩)⟩)⟩
    rw [hcm p p0 hpn] at k
    exact k h3 (m.tr (MK.so hf)) (by rw [hf 72 (by decide)]; exact y)
  · exact S_X10_common_0 ⟨by omega, C_knownWith0 hS z (by omega) (by omega) (PX.bad 0 hS (NK.rf h) rfl fun kc ks Q X hS' k => S_X11_common_0 (M_isNoRank0 hS z fun h2 m y => S_X11_common_6 ⟨fun w => absurd w (by decide), fun _ => k 0 h2 m y⟩))⟩
theorem C_likeSigns {kc ks : Nat} {h : Hh} {Q : PQ} {X : PX} {a b n m : Nat} {s pl ra s' pl' ra' : Int → Int} {p q : Int} (hC : CT h a n s pl ra) (hC' : CT h b m s' pl' ra') (hp : 0 ≤ p) (hpn : p ≤ n) (hq : 0 ≤ q) (hqm : q ≤ m) (hQ : Q [aI (Lc s n s' m p q)] am_R0 h) : am_V M_X6_likeSigns kc ks 0 [aR a, aI p, aR b, aI q, aU, aU] [] am_R0 h Q X := by
  obtain ⟨ct0, n64, cn, e1, -⟩ := hC
  obtain ⟨ct0', n64', cn', e1', -⟩ := hC'
  refine L_likeSigns ct0 ct0' hp hq (by omega) (by omega) (by omega) (by omega) ?_
  rw [e1, e1', cn, cn']
  exact hQ
theorem T_shared {kc ks : Nat} {h : Hh} {t p u q : Int} (hS : SIM h) (hkc : 4 ≤ kc) (hks : 24 ≤ ks) : am_V M_X10_shared kc ks 0 [aR 0, aI t, aI p, aI u, aI q, aU, aU] [] am_R0 h (PQok M_X11_shared [aR 72, aI t, aI p, aI u, aI q] aI) (PXok M_X11_shared [aR 72, aI t, aI p, aI u, aI q] aI [xIO]) := by
  by_cases z : isPx h t p
  · obtain ⟨n, s, pl, ra, hC, hM, hpn⟩ := z.get hS
    have p0 := z.2.1
    refine S_X10_shared_0 ⟨by omega, C_knownWith hS z.1 hC p0 hpn (by omega) (by omega) (S_X10_shared_6 hC.1 ⟨by omega, ?_⟩)⟩
    by_cases w : isPx h u q
    · obtain ⟨n', s', pl', ra', hC', hM', hqn⟩ := w.get hS
      have q0 := w.2.1
      refine C_knownWith hS w.1 hC' q0 hqn (by omega) (by omega) (S_X10_shared_15 hC.1 hC'.1 (C_likeSigns hC hC' p0 (by omega) q0 (by omega) (S_X10_shared_27 (PQ.good hS (NK.rf h) fun kc ks Q X g hN hS' k => S_X11_shared_0 (M_isPlace1 hS' (hN.px.mpr z) (S_X11_shared_7 ⟨fun y => absurd y (by decide), fun _ => M_isPlace1 hS' (hN.px.mpr w) (S_X11_shared_17 ⟨fun y => absurd y (by decide), fun _ => M_isWrong fun h2 m y => S_X11_shared_28 ⟨fun _ => M_together (m.mt (hN.mt hM)) (m.mt (hN.mt hM')) p0 (by omega) q0 (by omega) (S_X11_shared_44 (k h2 m y)), fun y => absurd rfl y⟩⟩)⟩))))))
    · exact C_knownWith0 hS w (by omega) (by omega) (PX.bad 0 hS (NK.rf h) rfl fun kc ks Q X hS' k => S_X11_shared_0 (M_isPlace1 hS' z (S_X11_shared_7 ⟨fun y => absurd y (by decide), fun _ => M_isPlace0 hS' w (S_X11_shared_17 ⟨fun _ => M_isWrong fun h2 m y => S_X11_shared_28 ⟨fun y => absurd y (by decide), fun _ => k 0 h2 m y⟩, fun y => absurd rfl y⟩)⟩)))
  · exact S_X10_shared_0 ⟨by omega, C_knownWith0 hS z (by omega) (by omega) (PX.bad 0 hS (NK.rf h) rfl fun kc ks Q X hS' k => S_X11_shared_0 (M_isPlace0 hS' z (S_X11_shared_7 ⟨fun _ => M_isWrong fun h2 m y => S_X11_shared_28 ⟨fun y => absurd y (by decide), fun _ => k 0 h2 m y⟩, fun y => absurd rfl y⟩)))⟩

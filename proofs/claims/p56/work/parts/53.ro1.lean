variable {WM : List (Nat × Nat)} {wd : Bool}
/-! THE CALLS AS THE LAW MAKES THEM: those that ask of one place -/
theorem C_likeSigns {kc ks : Nat} {h : Hh} {Q : PQ} {X : PX} {a b n m : Nat} {s pl ra s' pl' ra' : Int → Int} {p q : Int} (hC : CT h a n s pl ra) (hC' : CT h b m s' pl' ra') (hp : 0 ≤ p) (hpn : p ≤ n) (hq : 0 ≤ q) (hqm : q ≤ m) (hQ : Q [aI (Lc s n s' m p q)] (RM WM wd) h) : am_V M_X6_likeSigns kc ks 0 [aR a, aI p, aR b, aI q, aU, aU] [] (RM WM wd) h Q X := by
  obtain ⟨ct0, n64, cn, e1, -⟩ := hC
  obtain ⟨ct0', n64', cn', e1', -⟩ := hC'
  refine L_likeSigns ct0 ct0' hp hq (by omega) (by omega) (by omega) (by omega) ?_
  rw [e1, e1', cn, cn']
  exact hQ
theorem v_wd {m : MInfo} {kc ks pc : Nat} {E st : List AV} {h : Hh} {Q : PQ} {X : PX} (k : am_V m kc ks pc E st (RM WM false) h Q X) : am_V m kc ks pc E st (RM WM wd) h Q X :=
  v_rho (RM WM false) rfl (fun z => by cases z) (fun a i x hx => am_r0_lt a i x hx) (fun a kd _ _ i _ => rfl) k
theorem W_length {kc ks : Nat} {h : Hh} {Q : PQ} {X : PX} {t : Int} {n : Nat} {s pl ra : Int → Int} (hS : SIM h) (z : isTx h t) (hC : CT h (ta t) n s pl ra) (hkc : 1 ≤ kc) (hks : 6 ≤ ks) (hQ : Q [aL n] (RM WM wd) h) : am_V M_L_length kc ks 0 [aR 0, aI t, aU] [] (RM WM wd) h Q X :=
  S_L_length_0 ⟨⟨hkc, hks⟩, S_X10_length_0 ⟨by omega, C_known hS z (by omega) (by omega) (S_X10_length_5 hC.1 (S_L_length_5 (by rw [hC.2.2.1]; exact hQ)))⟩⟩
theorem W_signAt {kc ks : Nat} {h : Hh} {Q : PQ} {X : PX} {t : Int} {n : Nat} {s pl ra : Int → Int} {p : Int} (hS : SIM h) (z : isTx h t) (hC : CT h (ta t) n s pl ra) (hp : 0 ≤ p) (hpn : p < n) (hkc : 2 ≤ kc) (hks : 12 ≤ ks) (hQ : Q [aL (s p)] (RM WM wd) h) : am_V M_L_signAt kc ks 0 [aR 0, aI t, aI p, aU] [] (RM WM wd) h Q X := by
  obtain ⟨ct0, n64, cn, e1, e2, e3, hs, hSA, hcm⟩ := id hC
  have hl := hs p hp hpn
  refine S_L_signAt_0 ⟨⟨hkc, hks⟩, S_X10_signAt_0 ⟨by omega, C_knownWith hS z hC hp hpn (by omega) (by omega) (S_X10_signAt_6 hC.1 ⟨by rw [e1]; omega, S_L_signAt_6 ?_⟩)⟩⟩
  rw [e1]
  exact hQ
theorem W_endAt {kc ks : Nat} {h : Hh} {Q : PQ} {X : PX} {t : Int} {n : Nat} {s pl ra : Int → Int} {r : Int} (hS : SIM h) (z : isTx h t) (hC : CT h (ta t) n s pl ra) (hp : 0 ≤ r) (hpn : r < n) (hkc : 2 ≤ kc) (hks : 12 ≤ ks) (hQ : Q [aL (pl r)] (RM WM wd) h) : am_V M_L_endAt kc ks 0 [aR 0, aI t, aI r, aU] [] (RM WM wd) h Q X := by
  obtain ⟨ct0, n64, cn, e1, e2, e3, hs, hSA, hcm⟩ := id hC
  refine S_L_endAt_0 ⟨⟨hkc, hks⟩, S_X10_endAt_0 ⟨by omega, C_knownWith hS z hC hp hpn (by omega) (by omega) (S_X10_endAt_6 hC.1 ⟨by omega, S_L_endAt_6 ?_⟩)⟩⟩
  rw [e2]
  exact hQ
theorem W_rankOf {kc ks : Nat} {h : Hh} {Q : PQ} {X : PX} {t : Int} {n : Nat} {s pl ra : Int → Int} {r : Int} (hS : SIM h) (z : isTx h t) (hC : CT h (ta t) n s pl ra) (hp : 0 ≤ r) (hpn : r < n) (hkc : 2 ≤ kc) (hks : 12 ≤ ks) (hQ : Q [aL (rk s n r)] (RM WM wd) h) : am_V M_L_rankOf kc ks 0 [aR 0, aI t, aI r, aU] [] (RM WM wd) h Q X := by
  obtain ⟨ct0, n64, cn, e1, e2, e3, hs, hSA, hcm⟩ := id hC
  refine S_L_rankOf_0 ⟨⟨hkc, hks⟩, S_X10_rankOf_0 ⟨by omega, C_knownWith hS z hC hp hpn (by omega) (by omega) (S_X10_rankOf_6 hC.1 ⟨by omega, S_L_rankOf_6 ?_⟩)⟩⟩
  rw [e3, (hSA r hp hpn).1]
  exact hQ
theorem W_common {kc ks : Nat} {h : Hh} {Q : PQ} {X : PX} {t : Int} {n : Nat} {s pl ra : Int → Int} {r : Int} (hS : SIM h) (z : isTx h t) (hC : CT h (ta t) n s pl ra) (hp : 0 ≤ r) (hpn : r < n) (hkc : 2 ≤ kc) (hks : 12 ≤ ks) (hQ : Q [aL (cmv s n pl r)] (RM WM wd) h) : am_V M_L_common kc ks 0 [aR 0, aI t, aI r, aU] [] (RM WM wd) h Q X := by
  obtain ⟨ct0, n64, cn, e1, e2, e3, hs, hSA, hcm⟩ := id hC
  refine S_L_common_0 ⟨⟨hkc, hks⟩, S_X10_common_0 ⟨by omega, C_knownWith hS z hC hp hpn (by omega) (by omega) (S_X10_common_6 hC.1 ⟨by omega, S_L_common_6 ?_⟩)⟩⟩
  rw [hcm r hp hpn]
  exact hQ
theorem W_shared {kc ks : Nat} {h : Hh} {Q : PQ} {X : PX} {t : Int} {n : Nat} {s pl ra : Int → Int} {n' : Nat} {s' pl' ra' : Int → Int} {p u q : Int} (hS : SIM h) (z : isTx h t) (hC : CT h (ta t) n s pl ra) (zu : isTx h u) (hC' : CT h (ta u) n' s' pl' ra') (hp : 0 ≤ p) (hpn : p < n) (hq : 0 ≤ q) (hqn : q < n') (hkc : 4 ≤ kc) (hks : 24 ≤ ks) (hQ : Q [aL (Lc s n s' n' p q)] (RM WM wd) h) : am_V M_L_shared kc ks 0 [aR 0, aI t, aI p, aI u, aI q, aU] [] (RM WM wd) h Q X :=
  S_L_shared_0 ⟨⟨hkc, hks⟩, S_X10_shared_0 ⟨by omega, C_knownWith hS z hC hp hpn (by omega) (by omega) (S_X10_shared_6 hC.1 ⟨by omega, C_knownWith hS zu hC' hq hqn (by omega) (by omega) (S_X10_shared_15 hC.1 hC'.1 (C_likeSigns hC hC' hp (by omega) hq (by omega) (S_X10_shared_27 (S_L_shared_9 hQ))))⟩)⟩⟩

variable {WM : List (Nat × Nat)} {wd : Bool}
/-! count, tail: the ends that begin with the word are a run of ranks -/
theorem run_in {s w pl : Int → Int} {n W : Nat} {f : Int} {lo hi : Nat} (h1 : ∀ r, 0 ≤ r → r < (lo : Int) → E2 (en s n) w W (pl r) f) (h2 : ∀ r, (lo : Int) ≤ r → r < (n : Int) → ¬ E2 (en s n) w W (pl r) f) (h3 : ∀ r, 0 ≤ r → r < (hi : Int) → ¬ E2 w (en s n) W f (pl r)) (h4 : ∀ r, (hi : Int) ≤ r → r < (n : Int) → E2 w (en s n) W f (pl r)) {r : Int} (hr : 0 ≤ r) (hrn : r < n) : AG (en s n) w (pl r) f W ↔ (lo : Int) ≤ r ∧ r < hi := by
  constructor
  · intro z
    constructor
    · apply Int.not_lt.mp
      intro y
      exact (h1 r hr y).nag z
    · apply Int.not_le.mp
      intro y
      exact (h4 r y hrn).nag z.sym
  · intro ⟨z1, z2⟩
    apply Classical.byContradiction
    intro z
    rcases E2.tri z with y | y
    · exact h2 r z1 hrn y
    · exact h3 r hr z2 y
theorem run_le {s w pl : Int → Int} {n W : Nat} {f : Int} {lo hi : Nat} (hln : lo ≤ n) (h1 : ∀ r, 0 ≤ r → r < (lo : Int) → E2 (en s n) w W (pl r) f) (h4 : ∀ r, (hi : Int) ≤ r → r < (n : Int) → E2 w (en s n) W f (pl r)) : lo ≤ hi := by
  apply Nat.le_of_not_lt
  intro z
  exact (h1 hi (by omega) (by omega)).asymm (h4 hi (by omega) (by omega))
theorem run_cnt {s w pl : Int → Int} {n W : Nat} {f : Int} {lo hi : Nat} (hpl : Prm n pl) (hln : lo ≤ n) (hhn : hi ≤ n) (h1 : ∀ r, 0 ≤ r → r < (lo : Int) → E2 (en s n) w W (pl r) f) (h2 : ∀ r, (lo : Int) ≤ r → r < (n : Int) → ¬ E2 (en s n) w W (pl r) f) (h3 : ∀ r, 0 ≤ r → r < (hi : Int) → ¬ E2 w (en s n) W f (pl r)) (h4 : ∀ r, (hi : Int) ≤ r → r < (n : Int) → E2 w (en s n) W f (pl r)) : cnt (fun p => AG (en s n) w p f W) n + lo = hi := by
  have hle := run_le hln h1 h4
  rw [← cnt_perm (P := fun p => AG (en s n) w p f W) hpl.1 hpl.2]
  have e1 := cnt_below hln
  have e2 := cnt_below hhn
  have e3 := cnt_or (P := fun r => AG (en s n) w (pl r) f W) (Q := fun r => r < (lo : Int)) n (fun r r0 r1 z y => by
    have := (run_in h1 h2 h3 h4 r0 r1).mp z
    omega)
  rw [cnt_congr n (P := fun r => AG (en s n) w (pl r) f W ∨ r < (lo : Int)) (Q := fun r => r < (hi : Int)) (fun r r0 r1 => by
    rw [run_in h1 h2 h3 h4 r0 r1]
    omega)] at e3
  omega
/-- a typed word's signs are letters -/
theorem SIM.letters {h : Hh} (hS : SIM h) (hE : ¬ endIn (h 3) (h 2 1)) {k : Int} (h0 : 0 ≤ k) (h1 : k < h 2 1) : 97 ≤ h 3 k ∧ h 3 k ≤ 122 := by
  rcases (hS.2.2.1 k h0 h1).2 with z | z
  · exact absurd ⟨k, h0, h1, z⟩ hE
  · exact z
theorem L_X10_count {kc ks : Nat} {h : Hh} {Q : PQ} {X : PX} {t : Int} (hS : SIM h) (hkc : 2 ≤ kc) (hks : 12 ≤ ks) (hX1 : ¬ isTx h t → X "java/lang/IndexOutOfBoundsException" (RM WM false) h) (hX2 : isTx h t → ¬ (h 2 1 ≠ 0 ∧ ¬ endIn (h 3) (h 2 1)) → X "java/lang/UnsupportedOperationException" (RM WM false) h) (hQ : isTx h t → h 2 1 ≠ 0 → ¬ endIn (h 3) (h 2 1) → Q [aI (cnt (fun p => AG (en (h (ta t + 1)) (h (ta t) 4)) (h 3) p 0 (h 2 1).toNat) (h (ta t) 4).toNat)] (RM WM wd) h) : am_V M_X10_count kc ks 0 [aR 0, aI t, aU] [] (RM WM wd) h Q X := by
  refine S_X10_count_0 ⟨by omega, L_known hS.1.2.1 (by omega) (by omega) (fun z => ?_) hX1⟩
  have hT : isT (ta t) := ta_isT z.1 (by have := z.2; have := hS.1.2.1; omega)
  obtain ⟨⟨n0, n64, -⟩, hs, -, hSA, -⟩ := hS.2.2.2.1 t z.1 z.2
  obtain ⟨n, hn⟩ : ∃ n : Nat, h (ta t) 4 = n := ⟨(h (ta t) 4).toNat, by omega⟩
  have hW0 := hS.2.1
  obtain ⟨W, hW⟩ : ∃ W : Nat, h 2 1 = W := ⟨(h 2 1).toNat, by omega⟩
  show am_V M_X10_count (kc - 1) (ks - 6) 5 _ [aR (ta t)] (RM WM wd) h Q X
  refine S_X10_count_5 hT ⟨by omega, L_refuseNoWord hW0.2.1 (by omega) (by omega) (fun y0 y1 => ?_) (fun y => hX2 z y)⟩
  show am_V M_X10_count (kc - 1 - 1) (ks - 6 - 6) 10 _ [] (RM WM wd) h Q X
  have hQ := hQ z y0 y1
  rw [hn] at hs hSA hQ
  rw [hW, Int.toNat_natCast, Int.toNat_natCast] at hQ
  have hw : ∀ k : Int, 0 ≤ k → k < 0 + (W : Int) → 97 ≤ h 3 k ∧ h 3 k ≤ 122 := fun k k0 k1 => hS.letters y1 k0 (by omega)
  refine S_X10_count_10 hT (L_endsUpTo hT hn (by omega) hs hSA (by omega) hW0.2.1 (by omega) hw (fun hi hi1 u1 u2 => ?_))
  show am_V M_X10_count (kc - 1 - 1) (ks - 6 - 6) 19 _ [aI hi] (RM WM wd) h Q X
  refine S_X10_count_19 hT (L_endsBelow hT hn (by omega) hs hSA (by omega) hW0.2.1 (by omega) hw (fun lo lo1 v1 v2 => ?_))
  show am_V M_X10_count (kc - 1 - 1) (ks - 6 - 6) 28 _ [aI lo, aI hi] (RM WM wd) h Q X
  have hc := run_cnt (hSA.perm hs) lo1 hi1 v1 v2 u1 u2
  refine S_X10_count_28 ⟨by omega, ?_⟩
  rw [show (hi : Int) - lo = (cnt (fun p => AG (en (h (ta t + 1)) n) (h 3) p 0 W) n : Int) by omega]
  exact hQ


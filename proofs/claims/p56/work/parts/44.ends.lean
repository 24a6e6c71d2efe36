variable {WM : List (Nat × Nat)} {wd : Bool}
/-! HOW MANY ENDS COME AHEAD OF THE WORD, OR BEGIN WITH IT -/
theorem cnt_split {B : Int → Prop} {n lo : Nat} (h : lo ≤ n) (h1 : ∀ r, 0 ≤ r → r < (lo : Int) → B r) (h2 : ∀ r, (lo : Int) ≤ r → r < n → ¬ B r) : cnt B n = lo := by
  rw [cnt_congr n (Q := fun i => i < (lo : Int)) (fun i i0 i1 => ⟨fun z => by
    apply Int.not_le.mp
    intro y
    exact h2 i y i1 z, fun z => h1 i i0 z⟩)]
  exact cnt_below h
theorem SA.perm {s : Int → Int} {n : Nat} {pl ra : Int → Int} (hs : WS s n) (h : SA s n pl ra) : Prm n pl := ⟨fun i i0 i1 => ⟨(h.at hs i0 i1).1, (h.at hs i0 i1).2.1⟩, fun i j i0 i1 j0 j1 e => by
  have a1 := (h.at hs i0 i1).2.2.1
  have a2 := (h.at hs j0 j1).2.2.1
  rw [e] at a1
  omega⟩
theorem L_endsBelow {kc ks : Nat} {h : Hh} {Q : PQ} {X : PX} {a : Nat} (t0 : isT a) {n : Nat} {f : Int} {W : Nat} (hn : h a 4 = n) (hn64 : n ≤ 64) (hs : WS (h (a + 1)) n) (hSA : SA (h (a + 1)) n (h (a + 2)) (h (a + 3))) (hf : 0 ≤ f) (h65 : h 2 1 ≤ 65) (hW : h 2 1 - f = W) (hw : ∀ k : Int, f ≤ k → k < f + W → 97 ≤ h 3 k ∧ h 3 k ≤ 122) (hQ : ∀ lo : Nat, lo ≤ n → (∀ r, 0 ≤ r → r < (lo : Int) → E2 (en (h (a + 1)) n) (h 3) W (h (a + 2) r) f) → (∀ r, (lo : Int) ≤ r → r < n → ¬ E2 (en (h (a + 1)) n) (h 3) W (h (a + 2) r) f) → Q [aI lo] (RM WM wd) h) : am_V M_X6_endsBelow kc ks 0 [aR a, aR 2, aI f] [] (RM WM wd) h Q X := by
  refine S_X6_endsBelow_0 t0 (S_X6_endsUnder_0 t0 ?_)
  rw [hn]
  refine L_eu_1 t0 (n := n) (B := fun r => E2 (en (h (a + 1)) n) (h 3) W (h (a + 2) r) f) hn (by omega) hs (fun r r0 r1 => ⟨(hSA.at hs r0 r1).1, (hSA.at hs r0 r1).2.1⟩) hf h65 hW hw (fun r v r0 r1 v1 v2 => v1) (fun r r' r0 r1 r2 z => ?_) (fun lo l0 l1 l2 l3 => ?_) n 0 n (by omega) (by omega) (by omega) (by omega) (fun r r0 r1 => by omega) (fun r r0 r1 => by omega)
  · by_cases e : r = r'
    · rw [e]
      exact z
    · exact E2.left (hSA.lt hs r0 (by omega) r2) z
  · show am_V M_X6_endsBelow kc ks 7 _ [aI lo] (RM WM wd) h Q X
    refine S_X6_endsBelow_7 ?_
    have := hQ lo.toNat (by omega) (fun r r0 r1 => l2 r r0 (by omega)) (fun r r0 r1 => l3 r (by omega) r1)
    rw [Int.toNat_of_nonneg l0] at this
    exact this
theorem L_endsUpTo {kc ks : Nat} {h : Hh} {Q : PQ} {X : PX} {a : Nat} (t0 : isT a) {n : Nat} {f : Int} {W : Nat} (hn : h a 4 = n) (hn64 : n ≤ 64) (hs : WS (h (a + 1)) n) (hSA : SA (h (a + 1)) n (h (a + 2)) (h (a + 3))) (hf : 0 ≤ f) (h65 : h 2 1 ≤ 65) (hW : h 2 1 - f = W) (hw : ∀ k : Int, f ≤ k → k < f + W → 97 ≤ h 3 k ∧ h 3 k ≤ 122) (hQ : ∀ lo : Nat, lo ≤ n → (∀ r, 0 ≤ r → r < (lo : Int) → ¬ E2 (h 3) (en (h (a + 1)) n) W f (h (a + 2) r)) → (∀ r, (lo : Int) ≤ r → r < n → E2 (h 3) (en (h (a + 1)) n) W f (h (a + 2) r)) → Q [aI lo] (RM WM wd) h) : am_V M_X6_endsUpTo kc ks 0 [aR a, aR 2, aI f] [] (RM WM wd) h Q X := by
  refine S_X6_endsUpTo_0 t0 (S_X6_endsUnder_0 t0 ?_)
  rw [hn]
  refine L_eu_1 t0 (n := n) (B := fun r => ¬ E2 (h 3) (en (h (a + 1)) n) W f (h (a + 2) r)) hn (by omega) hs (fun r r0 r1 => ⟨(hSA.at hs r0 r1).1, (hSA.at hs r0 r1).2.1⟩) hf h65 hW hw (fun r v r0 r1 v1 v2 => ?_) (fun r r' r0 r1 r2 z y => ?_) (fun lo l0 l1 l2 l3 => ?_) n 0 n (by omega) (by omega) (by omega) (by omega) (fun r r0 r1 => by omega) (fun r r0 r1 => by omega)
  · constructor
    · intro z y
      by_cases e : v < 0
      · exact (v1.mp e).asymm y
      · exact y.nag (v2.mp (by omega)).sym
    · intro z
      by_cases e : v = 0
      · omega
      · rcases E2.tri (fun w => e (v2.mpr w)) with w | w
        · have := v1.mpr w
          omega
        · exact absurd w z
  · by_cases e : r = r'
    · rw [e] at y
      exact z y
    · exact z (E2.right y (hSA.lt hs r0 (by omega) r2))
  · show am_V M_X6_endsUpTo kc ks 7 _ [aI lo] (RM WM wd) h Q X
    refine S_X6_endsUpTo_7 ?_
    have := hQ lo.toNat (by omega) (fun r r0 r1 => l2 r r0 (by omega)) (fun r r0 r1 => Classical.not_not.mp (l3 r (by omega) r1))
    rw [Int.toNat_of_nonneg l0] at this
    exact this


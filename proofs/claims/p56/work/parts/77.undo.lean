variable {WM : List (Nat × Nat)} {wd : Bool}
/-! undo: the text comes back from its last column -/
theorem W_undo {kc ks : Nat} {h : Hh} {Q : PQ} {X : PX} {n : Nat} {s pl ra : Int → Int} (hS : SIM h) (n64 : n ≤ 64) (hs : WS s n) (hSA : SA s n pl ra) (h2 : h 2 1 = (n : Int) + 1) (h3 : ∀ k, 0 ≤ k → k < (n : Int) + 1 → h 3 k = LSg s n pl k) (hM : h 0 9 < 8) (hkc : 2 ≤ kc) (hks : 12 ≤ ks) (hQ : ∀ h', SIM h' → h' 0 9 = h 0 9 + 1 → (∀ d, 72 ≤ d → h' d = h d) → (∀ d, 32 ≤ d → d ≤ 71 → (d < ta (h 0 9) ∨ ta (h 0 9) + 4 < d) → h' d = h d) → NT h' (ta (h 0 9)) n s → Q [aL (h 0 9)] (RM WM wd) h') : am_V M_L_undo kc ks 0 [aR 0, aU] [] (RM WM wd) h Q X := by
  obtain ⟨b0, b1, b2⟩ := hS.2.1
  obtain ⟨c0, c1, c2⟩ := hS.1
  have hrow := hS.2.2.1
  refine S_L_undo_0 ⟨⟨hkc, hks⟩, S_X10_undo_0 ?_⟩
  rw [show h 2 1 = ((n + 1 : Nat) : Int) by omega]
  refine C_turnBack (w := LSg s n pl) (m := n + 1) (a1 := 3) rfl (by omega) (by omega) (by decide) (fun i i0 i1 => LS_ty hs hSA i0 (by omega)) h (fun i i0 i1 => h3 i i0 (by omega)) (fun h1 n' f1 hn' y1 y2 y3 _ => S_X10_undo_21 ⟨fun _ => ⟨by omega, ?_⟩, fun z => absurd z (by decide)⟩) (fun h1 f1 hno => absurd (col_WOK hs hSA) (hno n rfl (LSg_one hs hSA)))
  have en : n' = n := by omega
  subst en
  have f1' : ∀ d, d = 0 ∨ d = 2 ∨ d = 3 ∨ (32 ≤ d ∧ d ≤ 71) → h1 d = h d := fun d hd => f1 d (by omega) (by omega) (by omega)
  have hS1 := hS.keep f1'
  have e0 : h1 0 = h 0 := f1' 0 (Or.inl rfl)
  have e2 : h1 2 = h 2 := f1' 2 (Or.inr (Or.inl rfl))
  have e3 : h1 3 = h 3 := f1' 3 (Or.inr (Or.inr (Or.inl rfl)))
  have hM1 : h1 0 9 < 8 := by rw [e0]; exact hM
  refine C_freshText hS1 (by omega) (by omega) (fun _ => ?_) (fun hM' => absurd hM' (by omega))
  have t0 : isT (ta (h1 0 9)) := ta_isT hS1.1.1 hM1
  have h40 := hS1.2.2.2.2 (h1 0 9) (Int.le_refl _) hM1
  have hM0 := hS1.1.1
  have haa : 32 ≤ ta (h1 0 9) ∧ ta (h1 0 9) ≤ 67 := by unfold ta; omega
  have y4 : ∀ k, 0 ≤ k → k < (n' : Int) → h1 10 k = s k := fun k k0 k1 => by
    rw [y3 k k0 k1]
    unfold wt
    rw [col_walk hs hSA (j := ((n' : Int) - 1 - k).toNat) (by omega), show (n' : Int) - 1 - ((((n' : Int) - 1 - k).toNat : Nat) : Int) = k by omega]
  refine S_X10_undo_39 t0 ?_
  rw [e2, show h 2 1 - 1 = (n' : Int) by omega]
  refine ⟨by omega, C_add (b := 0) (m := n') (w := s) t0 (q1 := rfl) (by omega) (by omega) (by omega) h40 (fun k k0 k1 => by omega) (fun i i0 i1 => by have := hs i i0 i1; rw [show ((0 : Nat) : Int) + i = i by omega, y4 i i0 i1]; omega) (fun h2 f2 z1 z2 => S_X10_undo_60 t0 ?_)⟩
  have q0 : h2 0 9 = h1 0 9 := by rw [f2 0 (by omega) (by omega)]
  refine C_keep (n := n') (w := s) t0 (by rw [z1]; omega) (by omega) hs (fun k k0 k1 => z2 k k0 (by omega)) (by omega) (fun hc f3 g09 hNT => S_X10_undo_65 (S_L_undo_4 ?_))
  rw [q0, e0]
  rw [q0, e0] at g09
  rw [e0] at hNT f2 f3 haa
  have fc : ∀ d, d ≠ 0 → d ≠ 6 → d ≠ 7 → d ≠ 8 → d ≠ 10 → d ≠ 12 → d ≠ 13 → (d < ta (h 0 9) ∨ ta (h 0 9) + 4 < d) → hc d = h d := fun d d0 d6 d7 d8 d10 d12 d13 dr => by rw [f3 d d0 d6 d7 d8 (by omega) (by omega) (by omega), f2 d (by omega) (by omega), f1 d d10 d12 d13]
  have q2 := fc 2 (by decide) (by decide) (by decide) (by decide) (by decide) (by decide) (by decide) (by omega)
  have q3 := fc 3 (by decide) (by decide) (by decide) (by decide) (by decide) (by decide) (by decide) (by omega)
  refine hQ hc (hS.add rfl hM (fun d d0 d1 d2 => fc d (by omega) (by omega) (by omega) (by omega) (by omega) (by omega) (by omega) d2) g09 (by rw [q2]; omega) (by rw [q2]; omega) (fun k k0 k1 => ?_) hNT) g09 (fun d hd => fc d (by omega) (by omega) (by omega) (by omega) (by omega) (by omega) (by omega) (by omega)) (fun d d0 d1 d2 => fc d (by omega) (by omega) (by omega) (by omega) (by omega) (by omega) (by omega) d2) hNT
  rw [q2] at k1
  rw [q3]
  exact (hrow k k0 k1).2

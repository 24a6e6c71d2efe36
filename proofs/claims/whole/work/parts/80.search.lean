/-! longestIn: the class's search -/
theorem CT.of {h h' : Hh} {a n : Nat} {s pl ra : Int → Int} (hC : CT h a n s pl ra) (hc : ∀ j, j < 5 → h' (a + j) = h (a + j)) : CT h' a n s pl ra := by
  obtain ⟨q1, q2, q3, q4, q5, q6, q7, q8, q9⟩ := hC
  have e0 := hc 0 (by omega)
  rw [Nat.add_zero] at e0
  exact ⟨q1, q2, by rw [e0]; exact q3, by rw [hc 1 (by omega)]; exact q4, by rw [hc 2 (by omega)]; exact q5, by rw [hc 3 (by omega)]; exact q6, q7, q8, fun r r0 r1 => by rw [hc 4 (by omega)]; exact q9 r r0 r1⟩
theorem CT.low {h h' : Hh} {a n : Nat} {s pl ra : Int → Int} (hC : CT h a n s pl ra) (hf : ∀ d, 32 ≤ d → d ≤ 71 → h' d = h d) : CT h' a n s pl ra := hC.of (fun j hj => by
  obtain ⟨i, i8, ia⟩ := hC.1
  exact hf _ (by omega) (by omega))
theorem C_isEndLess {kc ks : Nat} {h : Hh} {Q : PQ} {X : PX} {a b n m l : Nat} {s pl ra s' pl' ra' : Int → Int} {x y : Int} (hC : CT h a n s pl ra) (hC' : CT h b m s' pl' ra') (hx : 0 ≤ x) (hxn : x ≤ n) (hy : 0 ≤ y) (hym : y ≤ m) (hl : l ≤ Lc s' m s n y x) (h1 : EL (en s' m) (en s n) y x → Q [aI 1] am_R0 h) (h0 : ¬ EL (en s' m) (en s n) y x → Q [aI 0] am_R0 h) : am_V M_X6_isEndLess kc ks 0 [aR b, aI (y + l), aR a, aI (x + l), aU] [] am_R0 h Q X := by
  obtain ⟨t0, n64, hn, e1, -, -, hs, -, -⟩ := id hC
  obtain ⟨t0', m64, hm, e1', -, -, hs', -, -⟩ := id hC'
  have hb := (le_Lc hym hxn).mp hl
  have ha := Lc_add hym hxn hl
  have c1 := Lc_1 (s := s') (t := s) hym hxn
  have c2 := Lc_2 (s := s') (t := s) hym hxn
  rw [EL_iff hs' hs hy hym hx hxn, ha] at h1 h0
  refine S_X6_isEndLess_0 t0' t0 (C_likeSigns hC' hC (by omega) (by omega) (by omega) (by omega) (S_X6_isEndLess_7 t0' t0 ?_))
  rw [hn, hm, e1, e1']
  rw [ha] at c1 c2
  have f1 : x + (l : Int) + (Lc s' m s n (y + l) (x + l) : Nat) = x + ((l + Lc s' m s n (y + l) (x + l) : Nat) : Int) := by omega
  have f2 : y + (l : Int) + (Lc s' m s n (y + l) (x + l) : Nat) = y + ((l + Lc s' m s n (y + l) (x + l) : Nat) : Int) := by omega
  rw [f1, f2]
  refine ⟨by omega, fun z => ⟨by omega, fun w => h1 ⟨z, Or.inl w⟩, fun w => ⟨by omega, fun v => h0 fun u => ?_, fun v => h1 ⟨z, Or.inr v⟩⟩⟩, fun z => h0 fun u => ?_⟩
  · rcases u.2 with u | u <;> omega
  · exact absurd u.1 (by omega)
theorem C_moreLike {kc ks : Nat} {h : Hh} {Q : PQ} {X : PX} {a b n m u l : Nat} {s pl ra s' pl' ra' : Int → Int} {p : Int} (hC : CT h a n s pl ra) (hC' : CT h b m s' pl' ra') (hp : 0 ≤ p) (hpn : p ≤ n) (hl : u < m → l ≤ Lc s n s' m p (pl' u)) (hQ0 : m ≤ u → Q [aI 0] am_R0 h) (hQ1 : u < m → Q [aI (Lc s n s' m (p + l) (pl' u + l))] am_R0 h) : am_V M_X5_moreLike kc ks 0 [aR 15, aR a, aI p, aR b, aI u, aI l] [] am_R0 h Q X := by
  obtain ⟨t0, n64, hn, e1, -, -, hs, -, -⟩ := id hC
  obtain ⟨t0', m64, hm, e1', e2', -, hs', hSA', -⟩ := id hC'
  refine S_X5_moreLike_0 t0 t0' ?_
  rw [hm, e2']
  refine ⟨fun z => hQ0 (by omega), fun z => ?_⟩
  have y := hSA'.at hs' (r := u) (by omega) z
  have b1 := (le_Lc hpn (by omega)).mp (hl (by omega))
  exact ⟨by omega, C_likeSigns hC hC' (by omega) (by omega) (by omega) (by omega) (S_X5_moreLike_28 (hQ1 (by omega)))⟩
/-- the state of the walk upwards -/
def WLK (s : Int → Int) (n : Nat) (s' : Int → Int) (m : Nat) (pl' : Int → Int) (p : Int) (u l : Nat) : Prop := u ≤ m ∧ (∀ k : Int, 0 ≤ k → k < u → EL (en s' m) (en s n) (pl' k) p) ∧ l = if u < m then Lc s n s' m p (pl' u) else 0
theorem C_tr_58 {kc ks : Nat} {h : Hh} {Q : PQ} {X : PX} {a b a3 n3 n m : Nat} {s pl ra s' pl' ra' : Int → Int} {p x6 : Int} (q3 : am_R0.1[a3]? = some (0, n3)) (hn3 : n3 = 64) (hC : CT h a n s pl ra) (hC' : CT h b m s' pl' ra') (hp : 0 ≤ p) (hpn : p < n) (hx6 : 0 ≤ x6 ∧ x6 < 64) (hQ : ∀ u l : Nat, WLK s n s' m pl' p u l → RV s n s' m pl' p l → am_V M_X5_tellReach kc ks 9 [aR 15, aR a, aR b, aR a3, aI u, aI l, aI (x6 + 1), aU] [] am_R0 (am_st h a3 p l) Q X) : ∀ (d u l : Nat), u + d = m → WLK s n s' m pl' p u l → am_V M_X5_tellReach kc ks 58 [aR 15, aR a, aR b, aR a3, aI u, aI l, aI x6, aI p] [] am_R0 h Q X := by
  obtain ⟨t0, n64, hn, e1, -, -, hs, -, -⟩ := id hC
  obtain ⟨t0', m64, hm, e1', e2', -, hs', hSA', hcm'⟩ := id hC'
  intro d
  induction d with
  | zero =>
    intro u l hu hW
    have : u = m := by omega
    subst this
    refine S_X5_tellReach_58 t0 t0' q3 ⟨fun _ => ⟨by omega, hQ u l hW ⟨u, hW.1, hW.2.1, fun z => absurd z (by omega), hW.2.2⟩⟩, fun z => absurd z (by omega)⟩
  | succ d ih =>
    intro u l hu hW
    have hum : u < m := by omega
    have y := hSA'.at hs' (r := u) (by omega) (by omega)
    have hl := hW.2.2
    rw [if_pos hum] at hl
    have hb := (le_Lc (s := s) (t := s') (k := l) (show p ≤ n by omega) (show pl' u ≤ m by omega)).mp (by omega)
    refine S_X5_tellReach_58 t0 t0' q3 ⟨fun z => absurd z (by omega), fun _ => ?_⟩
    rw [e2']
    refine ⟨by omega, C_isEndLess hC hC' (l := l) hp (by omega) y.1 (by omega) (by rw [Lc_sym]; omega) (fun z => S_X5_tellReach_87 t0 t0' q3 ⟨fun w => absurd w (by decide), fun _ => ⟨by omega, fun w => ?_, fun w => ?_⟩⟩) (fun z => S_X5_tellReach_87 t0 t0' q3 ⟨fun _ => ⟨by omega, hQ u l hW ⟨u, hW.1, hW.2.1, fun _ => z, hW.2.2⟩⟩, fun w => absurd rfl w⟩)⟩
    · have hW2 : WLK s n s' m pl' p (u + 1) 0 := ⟨by omega, fun k k0 k1 => by
        by_cases e : k = u
        · rw [e]; exact z
        · exact hW.2.1 k k0 (by omega), by rw [if_neg (by omega)]⟩
      have := C_moreLike (kc := 0) (ks := 0) (X := X) (Q := fun v ρ' h' => am_V M_X5_tellReach kc ks 134 [aR 15, aR a, aR b, aR a3, aI ((u : Int) + 1), aU, aI x6, aI p] (v ++ [aI 0]) ρ' h' Q X) hC hC' (u := u + 1) (l := 0) hp (by omega) (fun e => absurd e (by omega)) (fun _ => S_X5_tellReach_134 t0 t0' q3 ⟨by omega, by
        have := ih (u + 1) 0 (by omega) hW2
        exact this⟩) (fun e => absurd e (by omega))
      exact this
    · have c1 := cmv_le hs' hSA' (r := (u : Int) + 1) (by omega) (by omega)
      have y2 := hSA'.at hs' (r := (u : Int) + 1) (by omega) (by omega)
      rw [hcm' ((u : Int) + 1) (by omega) (by omega)]
      obtain ⟨c, hc⟩ : ∃ c : Nat, min l (cmv s' m pl' ((u : Int) + 1)) = c := ⟨_, rfl⟩
      have hci : min (l : Int) (cmv s' m pl' ((u : Int) + 1) : Nat) = c := by omega
      rw [hci]
      have hcl : c ≤ Lc s n s' m p (pl' ((u : Int) + 1)) := by
        refine Lc_le_trans (q := pl' u) (s' := s') (m := m) (by omega) (by omega) (by omega) (by omega) ?_
        have e : cmv s' m pl' ((u : Int) + 1) = Lc s' m s' m (pl' u) (pl' ((u : Int) + 1)) := by
          unfold cmv
          rw [if_neg (by omega), show (u : Int) + 1 - 1 = u by omega]
        omega
      have hb2 := (le_Lc (k := c) (show p ≤ n by omega) (show pl' ((u : Int) + 1) ≤ m by omega)).mp hcl
      have ha := Lc_add (show p ≤ n by omega) (show pl' ((u : Int) + 1) ≤ m by omega) hcl
      have hW2 : WLK s n s' m pl' p (u + 1) (c + Lc s n s' m (p + c) (pl' ((u : Int) + 1) + c)) := ⟨by omega, fun k k0 k1 => by
        by_cases e : k = u
        · rw [e]; exact z
        · exact hW.2.1 k k0 (by omega), by
        rw [if_pos (by omega), ← ha]
        rfl⟩
      refine ⟨by omega, ?_⟩
      have c2 := Lc_1 (s := s) (t := s') (n := n) (m := m) (p := p + c) (q := pl' ((u : Int) + 1) + c) (by omega) (by omega)
      have := C_moreLike (kc := 0) (ks := 0) (X := X) (Q := fun v ρ' h' => am_V M_X5_tellReach kc ks 134 [aR 15, aR a, aR b, aR a3, aI ((u : Int) + 1), aU, aI x6, aI p] (v ++ [aI c]) ρ' h' Q X) hC hC' (u := u + 1) (l := c) hp (by omega) (fun _ => hcl) (fun e => absurd e (by omega)) (fun _ => by
        rw [show ((u + 1 : Nat) : Int) = (u : Int) + 1 by omega]
        exact S_X5_tellReach_134 t0 t0' q3 ⟨by omega, ih (u + 1) _ (by omega) hW2⟩)
      exact this
theorem C_tr_9 {kc ks : Nat} {Q : PQ} {X : PX} {a b a3 n3 n m : Nat} {s pl ra s' pl' ra' : Int → Int} (q3 : am_R0.1[a3]? = some (0, n3)) (hn3 : n3 = 64) (ha3 : a3 < 32) (h0 : Hh) (hC : CT h0 a n s pl ra) (hC' : CT h0 b m s' pl' ra') (hQ : ∀ h : Hh, (∀ d, d ≠ a3 → h d = h0 d) → (∀ p, 0 ≤ p → p < (n : Int) → ∃ v : Nat, h a3 p = v ∧ RV s n s' m pl' p v) → Q [] am_R0 h) : ∀ (d i u l : Nat) (h : Hh), i + d = n → (∀ d, d ≠ a3 → h d = h0 d) → (∀ r, 0 ≤ r → r < (i : Int) → ∃ v : Nat, h a3 (pl r) = v ∧ RV s n s' m pl' (pl r) v) → (i = 0 → u = 0 ∧ l = 0) → (0 < i → WLK s n s' m pl' (pl ((i : Int) - 1)) u l) → am_V M_X5_tellReach kc ks 9 [aR 15, aR a, aR b, aR a3, aI u, aI l, aI i, aU] [] am_R0 h Q X := by
  obtain ⟨t0, n64, hn, e1, e2, -, hs, hSA, hcm⟩ := id hC
  obtain ⟨t0', m64, hm, e1', e2', -, hs', hSA', hcm'⟩ := id hC'
  have hta : ∃ i : Nat, i < 8 ∧ a = 32 + 5 * i := t0
  obtain ⟨ia, ia8, iae⟩ := hta
  have htb : ∃ i : Nat, i < 8 ∧ b = 32 + 5 * i := t0'
  obtain ⟨ib, ib8, ibe⟩ := htb
  intro d
  induction d with
  | zero =>
    intro i u l h hi hf hz _ _
    have : i = n := by omega
    subst this
    have e4 : h a 4 = i := by rw [hf a (by omega)]; exact hn
    refine S_X5_tellReach_9 t0 t0' q3 ⟨fun _ => hQ h hf (fun p p0 p1 => ?_), fun z => absurd z (by omega)⟩
    have := hSA p p0 p1
    have hb := rk_bd (s := s) p0 p1
    have := hz (rk s i p) (by omega) (by omega)
    rw [(hSA p p0 p1).2] at this
    exact this
  | succ d ih =>
    intro i u l h hi hf hz h00 hW
    have e4 : h a 4 = n := by rw [hf a (by omega)]; exact hn
    have hCh : CT h a n s pl ra := hC.of (fun j hj => hf _ (by omega))
    have hCh' : CT h b m s' pl' ra' := hC'.of (fun j hj => hf _ (by omega))
    have y := hSA.at hs (r := i) (by omega) (by omega)
    have ep : h (a + 2) i = pl i := by rw [hf _ (by omega), e2]
    have ec : h (a + 4) i = cmv s n pl i := by rw [hf _ (by omega)]; exact hcm i (by omega) (by omega)
    have hum : u ≤ m := by
      by_cases e : i = 0
      · have := (h00 e).1; omega
      · exact (hW (by omega)).1
    obtain ⟨c, hc⟩ : ∃ c : Nat, min l (cmv s n pl i) = c := ⟨_, rfl⟩
    have hcl : u < m → c ≤ Lc s n s' m (pl i) (pl' u) := by
      intro hu
      by_cases e : i = 0
      · have := (h00 e).2; omega
      · have y0 := hSA.at hs (r := (i : Int) - 1) (by omega) (by omega)
        have y1 := hSA'.at hs' (r := u) (by omega) (by omega)
        have w := (hW (by omega)).2.2
        rw [if_pos hu] at w
        have ecm : cmv s n pl i = Lc s n s n (pl ((i : Int) - 1)) (pl i) := by
          unfold cmv
          rw [if_neg (by omega)]
        rw [Lc_sym] at ecm
        exact Lc_le_trans (q := pl ((i : Int) - 1)) (s' := s) (m := n) (by omega) (by omega) (by omega) (by omega) (by omega)
    have hEL : ∀ k : Int, 0 ≤ k → k < u → EL (en s' m) (en s n) (pl' k) (pl i) := fun k k0 k1 => by
      by_cases e : i = 0
      · have := (h00 e).1; omega
      · exact ((hW (by omega)).2.1 k k0 k1).trans (hSA.lt hs (by omega) (by omega) (by omega))
    have fin : ∀ v : Nat, WLK s n s' m pl' (pl i) u v → am_V M_X5_tellReach kc ks 58 [aR 15, aR a, aR b, aR a3, aI u, aI v, aI i, aI (pl i)] [] am_R0 h Q X := fun v hv =>
      C_tr_58 q3 hn3 hCh hCh' y.1 y.2.1 ⟨by omega, by omega⟩ (fun u' l' hW' hR => ih (i + 1) u' l' _ (by omega) (fun d hd => by rw [am_st_o hd]; exact hf d hd) (fun r r0 r1 => by
        rw [am_st_i]
        by_cases e : r = i
        · rw [e, if_pos rfl]
          exact ⟨l', rfl, hR⟩
        · rw [if_neg (hSA.ne hs r0 (by omega) (by omega) (by omega) e)]
          exact hz r r0 (by omega)) (fun e => absurd e (by omega)) (fun _ => by
        rw [show ((i + 1 : Nat) : Int) - 1 = i by omega]
        exact hW')) (m - u) u v (by omega) hv
    refine S_X5_tellReach_9 t0 t0' q3 ⟨fun z => absurd z (by omega), fun _ => ?_⟩
    rw [ep, ec]
    have hci : min (l : Int) (cmv s n pl i : Nat) = c := by omega
    rw [hci]
    refine ⟨by omega, C_moreLike hCh hCh' y.1 (by omega) hcl (fun hu => S_X5_tellReach_55 t0 t0' q3 ?_) (fun hu => S_X5_tellReach_55 t0 t0' q3 ?_)⟩
    · have hc0 : c = 0 := by
        by_cases e : i = 0
        · have := (h00 e).2; omega
        · have w := (hW (by omega)).2.2
          rw [if_neg (by omega)] at w
          omega
      subst hc0
      exact ⟨by omega, fin 0 ⟨hum, hEL, by rw [if_neg (by omega)]⟩⟩
    · have y1 := hSA'.at hs' (r := u) (by omega) (by omega)
      have hb2 := (le_Lc (k := c) (show pl i ≤ n by omega) (show pl' u ≤ m by omega)).mp (hcl hu)
      have ha := Lc_add (show pl i ≤ n by omega) (show pl' u ≤ m by omega) (hcl hu)
      have c2 := Lc_1 (s := s) (t := s') (n := n) (m := m) (p := pl i + c) (q := pl' u + c) (by omega) (by omega)
      exact ⟨by omega, fin (c + Lc s n s' m (pl i + c) (pl' u + c)) ⟨hum, hEL, by rw [if_pos hu]; exact ha.symm⟩⟩
theorem C_tellReach {kc ks : Nat} {Q : PQ} {X : PX} {a b a3 n3 n m : Nat} {s pl ra s' pl' ra' : Int → Int} (q3 : am_R0.1[a3]? = some (0, n3)) (hn3 : n3 = 64) (ha3 : a3 < 32) (h0 : Hh) (hC : CT h0 a n s pl ra) (hC' : CT h0 b m s' pl' ra') (hQ : ∀ h : Hh, (∀ d, d ≠ a3 → h d = h0 d) → (∀ p, 0 ≤ p → p < (n : Int) → ∃ v : Nat, h a3 p = v ∧ RV s n s' m pl' p v) → Q [] am_R0 h) : am_V M_X5_tellReach kc ks 0 [aR 15, aR a, aR b, aR a3, aU, aU, aU, aU] [] am_R0 h0 Q X :=
  S_X5_tellReach_0 hC.1 hC'.1 q3 (C_tr_9 q3 hn3 ha3 h0 hC hC' hQ n 0 0 0 h0 (by omega) (fun _ _ => rfl) (fun r r0 r1 => by omega) (fun _ => ⟨rfl, rfl⟩) (fun z => absurd z (by omega)))

variable {WM : List (Nat × Nat)} {wd : Bool}
/-! COMMON BEGINNINGS, told along the places -/
theorem Lc_add {s t : Int → Int} {n m p q : Int} {l : Nat} (hp : p ≤ n) (hq : q ≤ m) (h : l ≤ Lc s n t m p q) : Lc s n t m p q = l + Lc s n t m (p + l) (q + l) := by
  have h1 := (le_Lc hp hq).mp h
  have h2 := (le_Lc (s := s) (t := t) hp hq).mp (Nat.le_refl _)
  have l1 := Lc_1 (s := s) (t := t) (n := n) (m := m) (p := p + l) (q := q + l) h1.1 h1.2.1
  have l2 := Lc_2 (s := s) (t := t) (n := n) (m := m) (p := p + l) (q := q + l) h1.1 h1.2.1
  have l3 := Lc_ag (s := s) (t := t) (n := n) (m := m) (p := p + l) (q := q + l)
  apply Nat.le_antisymm
  · have h3 : Lc s n t m p q - l ≤ Lc s n t m (p + l) (q + l) := by
      refine (le_Lc h1.1 h1.2.1).mpr ⟨by omega, by omega, ?_⟩
      exact AG.shift l (by rw [show l + (Lc s n t m p q - l) = Lc s n t m p q by omega]; exact h2.2.2)
    omega
  · exact (le_Lc hp hq).mpr ⟨by omega, by omega, h1.2.2.append l3⟩
def cmv (s : Int → Int) (n : Int) (pl : Int → Int) (r : Int) : Nat := if r = 0 then 0 else Lc s n s n (pl (r - 1)) (pl r)
/-- an end one place further has at most one sign less in common with the end ranked ahead of it -/
theorem kasai {s : Int → Int} {n : Int} {pl ra : Int → Int} (hs : WS s n) (h : SA s n pl ra) {p : Int} (hp : 0 ≤ p) (hpn : p + 1 < n) (hr : rk s n (p + 1) ≠ 0) : cmv s n pl (rk s n p) ≤ cmv s n pl (rk s n (p + 1)) + 1 := by
  by_cases h0 : cmv s n pl (rk s n p) ≤ 1
  · omega
  · have hr0 : rk s n p ≠ 0 := by
      intro z
      rw [z] at h0
      exact h0 (by unfold cmv; rw [if_pos (show ((0 : Nat) : Int) = 0 from rfl)]; omega)
    have e1 := (h p hp (by omega)).2
    have e2 := (h (p + 1) (by omega) hpn).2
    have b1 := rk_bd (s := s) (n := n) hp (by omega)
    have b2 := rk_bd (s := s) (n := n) (show 0 ≤ p + 1 by omega) hpn
    unfold cmv at h0 ⊢
    rw [if_neg (by omega), e1] at h0
    rw [if_neg (by omega), if_neg (by omega), e1, e2]
    obtain ⟨q1, q2, q3, -⟩ := h.at hs (r := (rk s n p : Int) - 1) (by omega) (by omega)
    obtain ⟨t1, t2, t3, -⟩ := h.at hs (r := (rk s n (p + 1) : Int) - 1) (by omega) (by omega)
    generalize pl ((rk s n p : Int) - 1) = q at *
    generalize pl ((rk s n (p + 1) : Int) - 1) = t at *
    have hqp : EL (en s n) (en s n) q p := (rk_iff hs q1 q2 hp (by omega)).mpr (by omega)
    have l1 := Lc_1 (s := s) (t := s) (n := n) (m := n) (p := q) (q := p) (by omega) (by omega)
    have l2 := Lc_2 (s := s) (t := s) (n := n) (m := n) (p := q) (q := p) (by omega) (by omega)
    have ha := Lc_add (s := s) (t := s) (n := n) (m := n) (p := q) (q := p) (l := 1) (by omega) (by omega) (by omega)
    rw [show q + ((1 : Nat) : Int) = q + 1 by omega, show p + ((1 : Nat) : Int) = p + 1 by omega] at ha
    have hel := (EL_iff hs hs q1 (by omega) hp (by omega)).mp hqp
    have hq1 : q + 1 < n := by omega
    have hel2 : EL (en s n) (en s n) (q + 1) (p + 1) := by
      refine (EL_iff hs hs (by omega) (by omega) (by omega) (by omega)).mpr ?_
      rw [show q + 1 + (Lc s n s n (q + 1) (p + 1) : Int) = q + Lc s n s n q p by omega, show p + 1 + (Lc s n s n (q + 1) (p + 1) : Int) = p + Lc s n s n q p by omega]
      exact hel
    have hrk := (rk_iff hs (by omega) hq1 (by omega) hpn).mp hel2
    have htp : EL (en s n) (en s n) t (p + 1) := (rk_iff hs t1 t2 (by omega) hpn).mpr (by omega)
    by_cases e : q + 1 = t
    · rw [← e]
      omega
    · have hqt : EL (en s n) (en s n) (q + 1) t := (rk_iff hs (by omega) hq1 t1 t2).mpr (by
        have : rk s n (q + 1) ≠ rk s n t := fun z => e (rk_inj hs (by omega) hq1 t1 t2 z)
        omega)
      have hm := Lc_min hs (by omega) hq1 t1 t2 (by omega) hpn hqt htp
      have := Nat.min_le_right (Lc s n s n (q + 1) t) (Lc s n s n t (p + 1))
      omega
theorem L_tc_1 {kc ks : Nat} {Q : PQ} {X : PX} {a : Nat} (ta : isT a) (h0 : Hh) {n : Nat} {s pl ra : Int → Int} (hn : h0 a 4 = n) (hn64 : n ≤ 64) (hs : WS s n) (e1 : h0 (a + 1) = s) (e2 : h0 (a + 2) = pl) (e3 : h0 (a + 3) = ra) (hSA : SA s n pl ra) (hQ : ∀ h : Hh, (∀ d, d ≠ a + 4 → h d = h0 d) → (∀ r, 0 ≤ r → r < (n : Int) → h (a + 4) r = cmv s n pl r) → Q [] (RM WM wd) h) :
    ∀ (m i l : Nat) (h : Hh), i + m = n → (∀ d, d ≠ a + 4 → h d = h0 d) → (∀ p, 0 ≤ p → p < (i : Int) → h (a + 4) (rk s n p) = cmv s n pl (rk s n p)) → (i = 0 → l = 0) → (i ≠ 0 → l = cmv s n pl (rk s n ((i : Int) - 1))) → am_V M_X1_tellCommons kc ks 4 [aU, aR a, aI l, aI i, aU, aU] [] (RM WM wd) h Q X := by
  have ha : a ≠ a + 4 ∧ a + 1 ≠ a + 4 ∧ a + 2 ≠ a + 4 ∧ a + 3 ≠ a + 4 := by omega
  intro m
  induction m with
  | zero =>
    intro i l h hm hfr hz hl0 hl
    have hin : i = n := by omega
    subst hin
    refine S_X1_tellCommons_4 ta ⟨fun _ => hQ h hfr (fun r r0 r1 => ?_), fun z => ?_⟩
    · obtain ⟨p0, p1, p2, -⟩ := hSA.at hs r0 r1
      have := hz (pl r) p0 p1
      rw [p2] at this
      exact this
    · rw [hfr a ha.1, hn] at z
      omega
  | succ m ih =>
    intro i l h hm hfr hz hl0 hl
    have hr := hSA i (by omega) (by omega)
    have f2 : h (a + 2) = pl := by rw [hfr _ ha.2.2.1]; exact e2
    have f3 : h (a + 3) = ra := by rw [hfr _ ha.2.2.2]; exact e3
    have f1 : h (a + 1) = s := by rw [hfr _ ha.2.1]; exact e1
    have f0 : h a 4 = n := by rw [hfr _ ha.1]; exact hn
    have hbd := rk_bd (s := s) (n := n) (p := i) (by omega) (by omega)
    refine S_X1_tellCommons_4 ta ⟨fun z => ?_, fun _ => ⟨by omega, fun z => ?_, fun z => ?_⟩⟩
    · rw [f0] at z
      omega
    · rw [f3, hr.1] at z ⊢
      rw [f2]
      obtain ⟨q0, q1, q2, -⟩ := hSA.at hs (r := (rk s n i : Int) - 1) (by omega) (by omega)
      -- what was found for the place ahead, less one
      have hlow : l - 1 ≤ Lc s n s n (pl ((rk s n i : Int) - 1)) i := by
        by_cases hi : i = 0
        · rw [hl0 hi]
          omega
        · have h9 := hl hi
          have hk := kasai hs hSA (p := (i : Int) - 1) (by omega) (by omega) (by rw [show (i : Int) - 1 + 1 = i by omega]; omega)
          rw [show (i : Int) - 1 + 1 = i by omega] at hk
          have h8 : cmv s n pl (rk s n i) = Lc s n s n (pl ((rk s n i : Int) - 1)) i := by
            unfold cmv
            rw [if_neg (by omega), hr.2]
          omega
      have hmax : (max ((l : Int) - 1) 0) = ((l - 1 : Nat) : Int) := by omega
      rw [hmax]
      have hlow2 : l - 1 ≤ Lc s n s n i (pl ((rk s n i : Int) - 1)) := by rw [Lc_sym]; exact hlow
      have hb := (le_Lc (s := s) (t := s) (n := n) (m := n) (p := i) (q := pl ((rk s n i : Int) - 1)) (by omega) (by omega)).mp hlow2
      have hadd := Lc_add (s := s) (t := s) (n := n) (m := n) (p := i) (q := pl ((rk s n i : Int) - 1)) (by omega) (by omega) hlow2
      have hl1 := Lc_1 (s := s) (t := s) (n := n) (m := n) (p := i) (q := pl ((rk s n i : Int) - 1)) (by omega) (by omega)
      generalize hq : pl ((rk s n i : Int) - 1) = q at *
      refine ⟨by omega, ?_⟩
      refine L_likeSigns ta ta (by omega) (by omega) (by rw [f0]; exact hb.1) (by rw [f0]; exact hb.2.1) (by omega) (by omega) ?_
      rw [f1, f0]
      show am_V M_X1_tellCommons kc ks 62 _ [aI (Lc s n s n (i + (l - 1 : Nat)) (q + (l - 1 : Nat)) : Int), aI _] (RM WM wd) h Q X
      have hval : (((l - 1 : Nat) : Int) + (Lc s n s n (i + (l - 1 : Nat)) (q + (l - 1 : Nat)) : Int)) = (cmv s n pl (rk s n i) : Int) := by
        unfold cmv
        rw [if_neg (by omega), hr.2, hq, Lc_sym s s n n q i]
        omega
      have hcb : cmv s n pl (rk s n i) = Lc s n s n i q := by
        unfold cmv
        rw [if_neg (by omega), hr.2, hq, Lc_sym s s n n q i]
      refine S_X1_tellCommons_62 ta ⟨by omega, ?_⟩
      rw [hval]
      have := ih (i + 1) (cmv s n pl (rk s n i)) (am_st h (a + 4) (rk s n i) (cmv s n pl (rk s n i))) (by omega) (fun d hd => by rw [am_st_o hd]; exact hfr d hd) (fun p p0 p1 => ?_) (fun y => by omega) (fun _ => by rw [show ((i + 1 : Nat) : Int) - 1 = i by omega])
      · exact this
      · by_cases e : p = i
        · rw [e, am_st_s]
        · rw [am_st_n (Or.inr fun y => e (rk_inj hs p0 (by omega) (by omega) (by omega) (by omega)))]
          exact hz p p0 (by omega)
    · rw [f3, hr.1] at z ⊢
      refine ⟨by omega, ?_⟩
      have hc0 : cmv s n pl (rk s n i) = 0 := by
        unfold cmv
        rw [if_pos z]
      have := ih (i + 1) 0 (am_st h (a + 4) (rk s n i) 0) (by omega) (fun d hd => by rw [am_st_o hd]; exact hfr d hd) (fun p p0 p1 => ?_) (fun _ => rfl) (fun _ => by rw [show ((i + 1 : Nat) : Int) - 1 = i by omega, hc0])
      · exact this
      · by_cases e : p = i
        · rw [e, am_st_s, hc0]
          rfl
        · rw [am_st_n (Or.inr fun y => e (rk_inj hs p0 (by omega) (by omega) (by omega) (by omega)))]
          exact hz p p0 (by omega)
theorem L_tellCommons {kc ks : Nat} {Q : PQ} {X : PX} {a : Nat} (ta : isT a) (h0 : Hh) {n : Nat} (hn : h0 a 4 = n) (hn64 : n ≤ 64) (hs : WS (h0 (a + 1)) n) (hSA : SA (h0 (a + 1)) n (h0 (a + 2)) (h0 (a + 3))) (hQ : ∀ h : Hh, (∀ d, d ≠ a + 4 → h d = h0 d) → (∀ r, 0 ≤ r → r < (n : Int) → h (a + 4) r = cmv (h0 (a + 1)) n (h0 (a + 2)) r) → Q [] (RM WM wd) h) : am_V M_X1_tellCommons kc ks 0 [aR 5, aR a, aU, aU, aU, aU] [] (RM WM wd) h0 Q X := by
  refine S_X1_tellCommons_0 ta ?_
  exact L_tc_1 ta h0 hn hn64 hs rfl rfl rfl hSA hQ n 0 0 h0 (by omega) (fun _ _ => rfl) (fun p _ _ => by omega) (fun _ => rfl) (fun z => absurd rfl z)


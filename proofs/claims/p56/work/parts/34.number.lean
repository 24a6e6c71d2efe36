variable {WM : List (Nat × Nat)} {wd : Bool}
/-! NUMBERING THE CLASSES -/
def un (c : Int → Int) (n hf p q : Int) : Prop := ¬ (c p = c q ∧ en c n (p + hf) = en c n (q + hf))
theorem L_classBehind {kc ks : Nat} {h : Hh} {Q : PQ} {X : PX} {a : Nat} (ta : isT a) {c : Int → Int} {n p : Int} (hn : h a 4 = n) (hn64 : n ≤ 64) (hc : ∀ p, 0 ≤ p → p < n → h (a + 3) p = c p) (hp : 0 ≤ p) (hQ : Q [aI (en c n p)] (RM WM wd) h) : am_V M_X1_classBehind kc ks 0 [aR 5, aR a, aI p] [] (RM WM wd) h Q X := by
  subst hn
  refine S_X1_classBehind_0 ta ⟨fun z => ?_, fun z => ⟨by omega, ?_⟩⟩
  · rw [en_ge z] at hQ
    exact hQ
  · rw [en_lt z] at hQ
    rw [hc p hp z]
    exact hQ
theorem L_areAlike {kc ks : Nat} {h : Hh} {Q : PQ} {X : PX} {a : Nat} (ta : isT a) {c : Int → Int} {n p q hf : Int} (hn : h a 4 = n) (hn64 : n ≤ 64) (hc : ∀ p, 0 ≤ p → p < n → h (a + 3) p = c p) (hp : 0 ≤ p) (hpn : p < n) (hq : 0 ≤ q) (hqn : q < n) (hf0 : 0 ≤ hf) (hf64 : hf ≤ 64) (hQ : ∀ v, (v ≠ 0 ↔ ¬ un c n hf p q) → Q [aI v] (RM WM wd) h) : am_V M_X1_areAlike kc ks 0 [aR 5, aR a, aI p, aI q, aI hf] [] (RM WM wd) h Q X := by
  refine S_X1_areAlike_0 ta ⟨by omega, fun z => ?_, fun z => ⟨by omega, ?_⟩⟩
  · rw [hc p hp hpn, hc q hq hqn] at z
    refine hQ 0 ⟨fun y => absurd rfl y, fun y => absurd (fun w => z w.1) y⟩
  · rw [hc p hp hpn, hc q hq hqn] at z
    refine L_classBehind ta hn hn64 hc (by omega) ?_
    show am_V M_X1_areAlike kc ks 24 _ [aI _] (RM WM wd) h Q X
    refine S_X1_areAlike_24 ta ⟨by omega, ?_⟩
    refine L_classBehind ta hn hn64 hc (by omega) ?_
    show am_V M_X1_areAlike kc ks 33 _ [aI _, aI _] (RM WM wd) h Q X
    refine S_X1_areAlike_33 ⟨fun y => ?_, fun y => ?_⟩
    · exact hQ 0 ⟨fun w => absurd rfl w, fun w => absurd (fun v => y v.2) w⟩
    · exact hQ 1 ⟨fun _ w => w ⟨z, y⟩, fun _ => by decide⟩
theorem L_nc_1 {kc ks : Nat} {Q : PQ} {X : PX} {a : Nat} (ta : isT a) (h0 : Hh) (c pl : Int → Int) {n : Nat} {hf : Int} (hn : h0 a 4 = n) (hn64 : n ≤ 64) (hc : ∀ p, 0 ≤ p → p < (n : Int) → h0 (a + 3) p = c p) (hp : ∀ i, 0 ≤ i → i < (n : Int) → h0 (a + 2) i = pl i ∧ 0 ≤ pl i ∧ pl i < n) (hi : ∀ i j, 0 ≤ i → i < (n : Int) → 0 ≤ j → j < (n : Int) → pl i = pl j → i = j) (hf0 : 0 ≤ hf) (hf64 : hf ≤ 64)
    (k : ∀ (h : Hh) (u : Nat), (∀ d, d ≠ 8 → h d = h0 d) → (∀ j : Nat, j < n → h 8 (pl j) = chg (un c n hf) pl j) → u = (if n = 0 then 0 else chg (un c n hf) pl (n - 1) + 1) → am_V M_X1_numberClasses kc ks 70 [aR 5, aR a, aU, aI u, aI 0, aU] [] (RM WM wd) h Q X) :
    ∀ (m i u : Nat) (h : Hh), i + m = n → (∀ d, d ≠ 8 → h d = h0 d) → (∀ j : Nat, j < i → h 8 (pl j) = chg (un c n hf) pl j) → u = (if i = 0 then 0 else chg (un c n hf) pl (i - 1) + 1) → am_V M_X1_numberClasses kc ks 5 [aR 5, aR a, aI hf, aI u, aI i, aU] [] (RM WM wd) h Q X := by
  have ha : a ≠ 8 ∧ a + 2 ≠ 8 ∧ a + 3 ≠ 8 := by obtain ⟨_, _, z9⟩ := id ta; omega
  intro m
  induction m with
  | zero =>
    intro i u h hm hfr hz hu
    have hin : i = n := by omega
    subst hin
    refine S_X1_numberClasses_5 ta ⟨fun _ => k h u hfr hz hu, fun z => ?_⟩
    rw [hfr a ha.1, hn] at z
    omega
  | succ m ih =>
    intro i u h hm hfr hz hu
    have hpi := hp i (by omega) (by omega)
    have e2 : h (a + 2) i = pl i := by rw [hfr _ ha.2.1]; exact hpi.1
    refine S_X1_numberClasses_5 ta ⟨fun z => ?_, fun _ => ⟨by omega, fun z => ?_, fun z => ⟨by omega, ?_⟩⟩⟩
    · rw [hfr a ha.1, hn] at z
      omega
    · have hi0 : i = 0 := by omega
      subst hi0
      have hu0 : u = 0 := hu
      subst hu0
      rw [e2]
      refine ⟨by omega, ih 1 1 _ (by omega) (fun d hd => by rw [am_st_o hd]; exact hfr d hd) (fun j hj => ?_) rfl⟩
      rw [show j = 0 by omega, am_st_s]
      rfl
    · have hpj := hp (i - 1) (by omega) (by omega)
      have e3 : h (a + 2) ((i : Int) - 1) = pl (i - 1) := by rw [hfr _ ha.2.1]; exact hpj.1
      rw [e2, e3]
      have hule := cnt_le (fun t => un c n hf (pl t) (pl (t + 1))) (i - 1)
      rw [if_neg (by omega)] at hu
      have hu9 : u ≤ i := by unfold chg at hu; omega
      refine L_areAlike ta (c := c) (n := n) (by rw [hfr _ ha.1]; exact hn) (by omega) (fun p p1 p2 => by rw [hfr _ ha.2.2]; exact hc p p1 p2) hpj.2.1 hpj.2.2 hpi.2.1 hpi.2.2 hf0 hf64 (fun v hv => ?_)
      show am_V M_X1_numberClasses kc ks 45 _ [aI v] (RM WM wd) h Q X
      have hst : chg (un c n hf) pl i = chg (un c n hf) pl (i - 1) + (if v = 0 then 1 else 0) := by
        obtain ⟨i', rfl⟩ : ∃ i', i = i' + 1 := ⟨i - 1, by omega⟩
        have e9 : (((i' + 1 : Nat) : Int) - 1) = (i' : Int) := by omega
        rw [e9] at hv
        rw [Nat.add_sub_cancel]
        by_cases h9 : un c n hf (pl i') (pl ((i' : Int) + 1))
        · have : v = 0 := Classical.byContradiction fun w => hv.mp w h9
          rw [if_pos this]
          exact cnt_t (P := fun t => un c n hf (pl t) (pl (t + 1))) h9
        · have : v ≠ 0 := hv.mpr h9
          rw [if_neg this]
          exact cnt_f (P := fun t => un c n hf (pl t) (pl (t + 1))) h9
      have hnext : ∀ (w : Int), w = chg (un c n hf) pl i → ∀ j : Nat, j < i + 1 → am_st h 8 (pl i) w 8 (pl j) = chg (un c n hf) pl j := by
        intro w hw j hj
        by_cases e : j = i
        · rw [e, am_st_s]
          exact hw
        · rw [am_st_n (Or.inr fun y => e (by have := hi j i (by omega) (by omega) (by omega) (by omega) y; omega))]
          exact hz j (by omega)
      refine S_X1_numberClasses_45 ta ⟨fun y => ?_, fun y => ?_⟩
      · rw [if_neg y] at hst
        refine ⟨by omega, ih (i + 1) u _ (by omega) (fun d hd => by rw [am_st_o hd]; exact hfr d hd) (hnext _ (by omega)) ?_⟩
        rw [if_neg (by omega), Nat.add_sub_cancel]
        omega
      · rw [if_pos y] at hst
        refine ⟨by omega, ih (i + 1) (u + 1) _ (by omega) (fun d hd => by rw [am_st_o hd]; exact hfr d hd) (hnext _ (by omega)) ?_⟩
        rw [if_neg (by omega), Nat.add_sub_cancel]
        omega
theorem L_nc_2 {kc ks : Nat} {Q : PQ} {X : PX} {a : Nat} (ta : isT a) (h0 : Hh) {n u : Nat} (hn : h0 a 4 = n) (hn64 : n ≤ 64)
    (hQ : ∀ h : Hh, (∀ d, d ≠ a + 3 → h d = h0 d) → (∀ p, 0 ≤ p → p < (n : Int) → h (a + 3) p = h0 8 p) → Q [aI u] (RM WM wd) h) :
    ∀ (m i : Nat) (h : Hh), i + m = n → (∀ d, d ≠ a + 3 → h d = h0 d) → (∀ p, 0 ≤ p → p < (i : Int) → h (a + 3) p = h0 8 p) → am_V M_X1_numberClasses kc ks 70 [aR 5, aR a, aU, aI u, aI i, aU] [] (RM WM wd) h Q X := by
  have ha : a ≠ a + 3 ∧ 8 ≠ a + 3 := by obtain ⟨_, _, z9⟩ := id ta; omega
  intro m
  induction m with
  | zero =>
    intro i h hm hfr hz
    have hin : i = n := by omega
    subst hin
    refine S_X1_numberClasses_70 ta ⟨fun _ => hQ h hfr hz, fun z => ?_⟩
    rw [hfr a ha.1, hn] at z
    omega
  | succ m ih =>
    intro i h hm hfr hz
    refine S_X1_numberClasses_70 ta ⟨fun z => ?_, fun _ => ⟨by omega, ih (i + 1) _ (by omega) (fun d hd => by rw [am_st_o hd]; exact hfr d hd) (fun p p1 p2 => ?_)⟩⟩
    · rw [hfr a ha.1, hn] at z
      omega
    · by_cases e : p = i
      · rw [e, am_st_s, hfr 8 ha.2]
      · rw [am_st_n (Or.inr e)]
        exact hz p p1 (by omega)
theorem L_numberClasses {kc ks : Nat} {Q : PQ} {X : PX} {a : Nat} (ta : isT a) (h0 : Hh) (c pl : Int → Int) {n : Nat} {hf : Int} (hn : h0 a 4 = n) (hn64 : n ≤ 64) (hc : ∀ p, 0 ≤ p → p < (n : Int) → h0 (a + 3) p = c p) (hp : ∀ i, 0 ≤ i → i < (n : Int) → h0 (a + 2) i = pl i ∧ 0 ≤ pl i ∧ pl i < n) (hi : ∀ i j, 0 ≤ i → i < (n : Int) → 0 ≤ j → j < (n : Int) → pl i = pl j → i = j) (hf0 : 0 ≤ hf) (hf64 : hf ≤ 64)
    (hQ : ∀ h : Hh, (∀ d, d ≠ 8 → d ≠ a + 3 → h d = h0 d) → (∀ j : Nat, j < n → h (a + 3) (pl j) = chg (un c n hf) pl j) → Q [aI ((if n = 0 then 0 else chg (un c n hf) pl (n - 1) + 1 : Nat) : Int)] (RM WM wd) h) :
    am_V M_X1_numberClasses kc ks 0 [aR 5, aR a, aI hf, aU, aU, aU] [] (RM WM wd) h0 Q X := by
  have ha : a ≠ 8 := by obtain ⟨_, _, z9⟩ := id ta; omega
  refine S_X1_numberClasses_0 ta ?_
  refine L_nc_1 ta h0 c pl hn hn64 hc hp hi hf0 hf64 (fun h u f1 z1 hu => ?_) n 0 0 h0 (by omega) (fun _ _ => rfl) (fun j hj => by omega) rfl
  refine L_nc_2 ta h (u := u) (n := n) (by rw [f1 a ha]; exact hn) hn64 (fun h' f2 z2 => ?_) n 0 h (by omega) (fun _ _ => rfl) (fun p _ _ => by omega)
  rw [hu]
  refine hQ h' (fun d d1 d2 => by rw [f2 d d2, f1 d d1]) (fun j hj => ?_)
  have hpj := hp j (by omega) (by omega)
  rw [z2 (pl j) hpj.2.1 hpj.2.2]
  exact z1 j hj


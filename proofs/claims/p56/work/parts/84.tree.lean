variable {WM : List (Nat × Nat)} {wd : Bool}
/-! isSound: the tree of words -/
def CHD (s P : Int → Int) (D : Int → Nat) (sz u v : Int) : Prop := 0 < u ∧ u < sz ∧ D u = D v + 1 ∧ AG s s (P u) (P v) (D v)
def TRI (s : Int → Int) (n : Nat) (g b c : Int → Int) (sz : Int) (P : Int → Int) (D : Int → Nat) : Prop := D 0 = 0 ∧ (∀ u, 0 < u → u < sz → 1 ≤ D u ∧ 0 ≤ P u ∧ P u + D u ≤ n ∧ g u = s (P u + D u - 1)) ∧ (∀ u v, 0 ≤ u → u < sz → 0 ≤ v → v < sz → D u = D v → AG s s (P u) (P v) (D u) → u = v) ∧ (∀ v, 0 ≤ v → v < sz → (b v = 0 ∧ ∀ u, ¬ CHD s P D sz u v) ∨ (CHD s P D sz (b v) v ∧ ∀ u, CHD s P D sz u v → u ≤ b v)) ∧ ∀ v u, 0 ≤ v → v < sz → CHD s P D sz u v → (c u = 0 ∧ ∀ x, CHD s P D sz x v → ¬ x < u) ∨ (CHD s P D sz (c u) v ∧ c u < u ∧ ∀ x, CHD s P D sz x v → x < u → x ≤ c u)
/-- a child and its sign: a word one sign longer -/
theorem TRI.sign {s : Int → Int} {n : Nat} {g b c : Int → Int} {sz : Int} {P : Int → Int} {D : Int → Nat} (h : TRI s n g b c sz P D) {v x f : Int} {l : Nat} (hl : D v = l) (hv : AG s s (P v) f l) : (CHD s P D sz x v ∧ g x = s (f + l)) ↔ (0 < x ∧ x < sz ∧ D x = l + 1 ∧ AG s s (P x) f (l + 1)) := by
  constructor
  · intro ⟨⟨x0, x1, x2, x3⟩, x4⟩
    rw [hl] at x2 x3
    refine ⟨x0, x1, x2, fun i hi => ?_⟩
    by_cases e : i = l
    · have := (h.2.1 x x0 x1).2.2.2
      rw [this, x2, show P x + ((l + 1 : Nat) : Int) - 1 = P x + l by omega] at x4
      rw [e]
      exact x4
    · exact (x3 i (by omega)).trans (hv i (by omega))
  · intro ⟨x0, x1, x2, x3⟩
    refine ⟨⟨x0, x1, by omega, fun i hi => ?_⟩, ?_⟩
    · rw [hl] at hi
      exact (x3 i (by omega)).trans (hv i hi).symm
    · have := (h.2.1 x x0 x1).2.2.2
      rw [this, x2, show P x + ((l + 1 : Nat) : Int) - 1 = P x + l by omega]
      exact x3 l (by omega)
theorem TRI.uniq {s : Int → Int} {n : Nat} {g b c : Int → Int} {sz : Int} {P : Int → Int} {D : Int → Nat} (h : TRI s n g b c sz P D) {v x y : Int} (hx : CHD s P D sz x v) (hy : CHD s P D sz y v) (e : g x = g y) : x = y := by
  have gy := (h.2.1 y hy.1 hy.2.1).2.2.2
  have a := (h.sign (v := v) (x := x) (f := P y) (l := D v) rfl hy.2.2.2.sym).mp ⟨hx, by rw [e, gy, hy.2.2.1]; congr 1; omega⟩
  exact h.2.2.1 x y (by omega) a.2.1 (by have := hy.1; omega) hy.2.1 (by rw [a.2.2.1, hy.2.2.1]) (by rw [a.2.2.1]; exact a.2.2.2)
theorem TRI.add {s : Int → Int} {n : Nat} {g b c g' b' c' : Int → Int} {sz : Int} {P : Int → Int} {D : Int → Nat} (h : TRI s n g b c sz P D) {v f : Int} {l : Nat} (hv0 : 0 ≤ v) (hv1 : v < sz) (hl : D v = l) (hv : AG s s (P v) f l) (hf : 0 ≤ f) (hfl : f + l < n) (hno : ∀ x, CHD s P D sz x v → g x ≠ s (f + l)) (hdeep : ∀ u, 0 < u → u < sz → D u = l + 2 → ¬ AG s s (P u) f (l + 1)) (g1 : ∀ u, u ≠ sz → g' u = g u) (g2 : g' sz = s (f + l)) (b1 : ∀ u, u ≠ sz → u ≠ v → b' u = b u) (b2 : b' sz = 0) (b3 : b' v = sz) (c1 : ∀ u, u ≠ sz → c' u = c u) (c2 : c' sz = b v) : TRI s n g' b' c' (sz + 1) (fun u => if u = sz then f else P u) (fun u => if u = sz then l + 1 else D u) := by
  obtain ⟨t1, t2, t3, t4, t5⟩ := id h
  have hP : ∀ u, u ≠ sz → (if u = sz then f else P u) = P u := fun u e => if_neg e
  have hD : ∀ u, u ≠ sz → (if u = sz then l + 1 else D u) = D u := fun u e => if_neg e
  have hPs : (if sz = sz then f else P sz) = f := if_pos rfl
  have hDs : (if sz = sz then l + 1 else D sz) = l + 1 := if_pos rfl
  -- children, new and old
  have ch1 : ∀ u w, 0 ≤ w → w < sz → u ≠ sz → (CHD s (fun u => if u = sz then f else P u) (fun u => if u = sz then l + 1 else D u) (sz + 1) u w ↔ CHD s P D sz u w) := fun u w w0 w1 hu => by
    unfold CHD
    dsimp only
    rw [hP u hu, hD u hu, hP w (by omega), hD w (by omega)]
    exact ⟨fun ⟨y0, y1, y2⟩ => ⟨y0, by omega, y2⟩, fun ⟨y0, y1, y2⟩ => ⟨y0, by omega, y2⟩⟩
  have ch2 : ∀ w, 0 ≤ w → w < sz → (CHD s (fun u => if u = sz then f else P u) (fun u => if u = sz then l + 1 else D u) (sz + 1) sz w ↔ w = v) := fun w w0 w1 => by
    unfold CHD
    dsimp only
    rw [hPs, hDs, hP w (by omega), hD w (by omega)]
    constructor
    · intro ⟨y0, y1, y2, y3⟩
      have e : D w = l := by omega
      rw [e] at y3
      exact t3 w v w0 w1 hv0 hv1 (by omega) (by rw [e]; exact y3.sym.trans hv.sym)
    · intro e
      rw [e]
      exact ⟨by omega, by omega, by omega, by rw [hl]; exact hv.sym⟩
  have ch3 : ∀ u, ¬ CHD s (fun u => if u = sz then f else P u) (fun u => if u = sz then l + 1 else D u) (sz + 1) u sz := fun u ⟨y0, y1, y2, y3⟩ => by
    dsimp only at y2 y3
    rw [hDs] at y2 y3
    rw [hPs] at y3
    by_cases e : u = sz
    · rw [e, hDs] at y2; omega
    · rw [hD u e] at y2
      rw [hP u e] at y3
      exact hdeep u y0 (by omega) y2 y3
  refine ⟨?_, fun u u0 u1 => ?_, fun u w u0 u1 w0 w1 e ha => ?_, fun w w0 w1 => ?_, fun w u w0 w1 hu => ?_⟩
  · show (if (0 : Int) = sz then l + 1 else D 0) = 0
    rw [hD 0 (by omega)]
    exact t1
  · dsimp only
    by_cases e : u = sz
    · rw [e, hDs, hPs, g2, show f + ((l + 1 : Nat) : Int) - 1 = f + l by omega]
      exact ⟨by omega, hf, by omega, rfl⟩
    · rw [hD u e, hP u e, g1 u e]
      exact t2 u u0 (by omega)
  · dsimp only at e ha
    have new : ∀ w, 0 ≤ w → w < sz → D w = l + 1 → ¬ AG s s (P w) f (l + 1) := fun w w0 w1 e ha => by
      have w2 : 0 < w := by
        apply Classical.byContradiction
        intro y
        have : w = 0 := by omega
        rw [this, t1] at e
        omega
      have := (h.sign (x := w) hl hv).mpr ⟨w2, w1, e, ha⟩
      exact hno w this.1 this.2
    by_cases eu : u = sz
    · by_cases ew : w = sz
      · omega
      · rw [eu, hDs, hD w ew] at e
        rw [eu, hDs, hPs, hP w ew] at ha
        exact absurd ha.sym (new w w0 (by omega) e.symm)
    · by_cases ew : w = sz
      · rw [ew, hDs, hD u eu] at e
        rw [ew, hD u eu, hPs, hP u eu, e] at ha
        exact absurd ha (new u u0 (by omega) e)
      · rw [hD u eu, hD w ew] at e
        rw [hD u eu, hP u eu, hP w ew] at ha
        exact t3 u w u0 (by omega) w0 (by omega) e ha
  · by_cases ew : w = sz
    · rw [ew, b2]
      exact Or.inl ⟨rfl, ch3⟩
    · by_cases ev : w = v
      · rw [ev, b3]
        refine Or.inr ⟨(ch2 v hv0 hv1).mpr rfl, fun u hu => ?_⟩
        have := hu.2.1
        omega
      · rw [b1 w ew ev]
        have no : ∀ u, CHD s (fun u => if u = sz then f else P u) (fun u => if u = sz then l + 1 else D u) (sz + 1) u w → u ≠ sz := fun u hu e => by
          rw [e] at hu
          exact ev ((ch2 w w0 (by omega)).mp hu)
        rcases t4 w w0 (by omega) with ⟨y1, y2⟩ | ⟨y1, y2⟩
        · exact Or.inl ⟨y1, fun u hu => y2 u ((ch1 u w w0 (by omega) (no u hu)).mp hu)⟩
        · exact Or.inr ⟨(ch1 _ w w0 (by omega) (by have := y1.2.1; omega)).mpr y1, fun u hu => y2 u ((ch1 u w w0 (by omega) (no u hu)).mp hu)⟩
  · by_cases ew : w = sz
    · rw [ew] at hu
      exact absurd hu (ch3 u)
    · by_cases eu : u = sz
      · rw [eu] at hu
        have ev := (ch2 w w0 (by omega)).mp hu
        rw [eu, ev, c2]
        rcases t4 v hv0 hv1 with ⟨y1, y2⟩ | ⟨y1, y2⟩
        · refine Or.inl ⟨y1, fun x hx hxs => y2 x ((ch1 x v hv0 hv1 (by omega)).mp hx)⟩
        · refine Or.inr ⟨(ch1 _ v hv0 hv1 (by have := y1.2.1; omega)).mpr y1, y1.2.1, fun x hx hxs => y2 x ((ch1 x v hv0 hv1 (by omega)).mp hx)⟩
      · have hu' := (ch1 u w w0 (by omega) eu).mp hu
        have us := hu'.2.1
        rw [c1 u eu]
        rcases t5 w u w0 (by omega) hu' with ⟨y1, y2⟩ | ⟨y1, y2, y3⟩
        · exact Or.inl ⟨y1, fun x hx hxu => y2 x ((ch1 x w w0 (by omega) (by omega)).mp hx) hxu⟩
        · exact Or.inr ⟨(ch1 _ w w0 (by omega) (by omega)).mpr y1, y2, fun x hx hxu => y3 x ((ch1 x w w0 (by omega) (by omega)).mp hx) hxu⟩
/-- the letters of the children that were passed -/
def SEEN (s : Int → Int) (g : Int → Int) (sz : Int) (P : Int → Int) (D : Int → Nat) (v x : Int) (z : Int) : Prop := ∃ y, CHD s P D sz y v ∧ x < y ∧ g y = z
theorem SEEN_26 {s : Int → Int} {n : Nat} {g b c : Int → Int} {sz : Int} {P : Int → Int} {D : Int → Nat} (hs : WS s n) (h : TRI s n g b c sz P D) {v x : Int} : cnt (SEEN s g sz P D v x) 123 ≤ 26 := by
  have a := cnt_or (P := SEEN s g sz P D v x) (Q := fun z => z < ((97 : Nat) : Int)) 123 (fun z z0 z1 ⟨y, y0, y1, y2⟩ z2 => by
    obtain ⟨k1, k2, k3, k4⟩ := h.2.1 y y0.1 y0.2.1
    have := hs (P y + D y - 1) (by omega) (by omega)
    omega)
  have b := cnt_le (fun z => SEEN s g sz P D v x z ∨ z < ((97 : Nat) : Int)) 123
  have c := cnt_below (m := 123) (k := 97) (by omega)
  omega
theorem C_nb_10 {kc ks : Nat} {h : Hh} {Q : PQ} {X : PX} {s : Int → Int} {n : Nat} {sz : Int} {P : Int → Int} {D : Int → Nat} (hs : WS s n) (hT : TRI s n (h 26) (h 27) (h 28) sz P D) (hsz : sz ≤ 2081) {v a : Int} (hv0 : 0 ≤ v) (hv1 : v < sz) (h1 : ∀ x, CHD s P D sz x v → h 26 x = a → Q [aI x] (RM WM wd) h) (h0 : (∀ x, CHD s P D sz x v → h 26 x ≠ a) → Q [aI 0] (RM WM wd) h) : ∀ (d : Nat) (x : Int) (i : Nat), x ≤ d → (x ≠ 0 → CHD s P D sz x v ∧ (∀ y, CHD s P D sz y v → x < y → h 26 y ≠ a) ∧ i = cnt (SEEN s (h 26) sz P D v x) 123) → (x = 0 → ∀ y, CHD s P D sz y v → h 26 y ≠ a) → am_V M_X9_nodeBelow kc ks 10 [aR 25, aU, aI a, aI x, aI i] [] (RM WM wd) h Q X := by
  intro d
  induction d with
  | zero =>
    intro x i hx hy hz
    by_cases e : x = 0
    · exact S_X9_nodeBelow_10 ⟨fun _ => h0 (hz e), fun _ => ⟨fun _ => h0 (hz e), fun w => absurd e w⟩⟩
    · have := (hy e).1.1
      omega
  | succ d ih =>
    intro x i hx hy hz
    by_cases e : x = 0
    · exact S_X9_nodeBelow_10 ⟨fun _ => h0 (hz e), fun _ => ⟨fun _ => h0 (hz e), fun w => absurd e w⟩⟩
    · obtain ⟨y1, y2, y3⟩ := hy e
      obtain ⟨k0, k1, -, -⟩ := id y1
      have hb := SEEN_26 hs hT (v := v) (x := x)
      refine S_X9_nodeBelow_10 ⟨fun w => absurd w (by omega), fun _ => ⟨fun w => absurd w e, fun _ => ⟨by omega, fun w => ⟨by omega, ?_⟩, fun w => h1 x y1 w⟩⟩⟩
      rcases hT.2.2.2.2 v x hv0 hv1 y1 with ⟨c0, c1⟩ | ⟨c0, c1, c2⟩
      · rw [c0]
        have := ih 0 (i + 1) (by omega) (fun z => absurd rfl z) (fun _ y yc => by
          rcases Int.lt_trichotomy x y with z | z | z
          · exact y2 y yc z
          · rw [← z]; exact w
          · exact absurd z (c1 y yc))
        exact this
      · have ec : cnt (SEEN s (h 26) sz P D v (h 28 x)) 123 = cnt (SEEN s (h 26) sz P D v x) 123 + 1 := by
          obtain ⟨q1, q2, q3, q4⟩ := hT.2.1 x k0 k1
          have sg := hs (P x + D x - 1) (by omega) (by omega)
          rw [← one_cnt (P := fun z => z = h 26 x) (m := 123) (z := h 26 x) (by omega) (by omega) rfl (fun i _ _ e => e), ← cnt_or 123 (fun z z0 z1 ⟨y, ya, yb, yc⟩ z2 => by
            have := hT.uniq ya y1 (by rw [yc, z2])
            omega)]
          refine cnt_congr 123 (fun z z0 z1 => ⟨fun ⟨y, ya, yb, yc⟩ => ?_, fun z2 => ?_⟩)
          · rcases Int.lt_trichotomy x y with u | u | u
            · exact Or.inl ⟨y, ya, u, yc⟩
            · exact Or.inr (by rw [u, yc])
            · have := c2 y ya u
              omega
          · rcases z2 with ⟨y, ya, yb, yc⟩ | z2
            · exact ⟨y, ya, by omega, yc⟩
            · exact ⟨x, y1, c1, z2.symm⟩
        have := ih (h 28 x) (i + 1) (by omega) (fun _ => ⟨c0, fun y yc z => by
          rcases Int.lt_trichotomy x y with u | u | u
          · exact y2 y yc u
          · rw [← u]; exact w
          · have := c2 y yc u
            omega, by omega⟩) (fun z => by have := c0.1; omega)
        exact this
theorem C_nodeBelow {kc ks : Nat} {h : Hh} {Q : PQ} {X : PX} {s : Int → Int} {n : Nat} {sz : Int} {P : Int → Int} {D : Int → Nat} (hs : WS s n) (hT : TRI s n (h 26) (h 27) (h 28) sz P D) (hsz : sz ≤ 2081) {v a : Int} (hv0 : 0 ≤ v) (hv1 : v < sz) (h1 : ∀ x, CHD s P D sz x v → h 26 x = a → Q [aI x] (RM WM wd) h) (h0 : (∀ x, CHD s P D sz x v → h 26 x ≠ a) → Q [aI 0] (RM WM wd) h) : am_V M_X9_nodeBelow kc ks 0 [aR 25, aI v, aI a, aU, aU] [] (RM WM wd) h Q X := by
  refine S_X9_nodeBelow_0 ⟨by omega, ?_⟩
  rcases hT.2.2.2.1 v hv0 hv1 with ⟨y1, y2⟩ | ⟨y1, y2⟩
  · exact C_nb_10 hs hT hsz hv0 hv1 h1 h0 (h 27 v).toNat (h 27 v) 0 (by omega) (fun z => absurd y1 z) (fun _ y yc => absurd yc (y2 y))
  · refine C_nb_10 hs hT hsz hv0 hv1 h1 h0 (h 27 v).toNat (h 27 v) 0 (by omega) (fun _ => ⟨y1, fun y yc z => by have := y2 y yc; omega, ?_⟩) (fun z => by have := y1.1; omega)
    exact (cnt_zero (fun z _ _ ⟨y, ya, yb, _⟩ => by have := y2 y ya; omega)).symm


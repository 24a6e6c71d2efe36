variable {WM : List (Nat × Nat)} {wd : Bool}
/-! isSound: all words are listed -/
noncomputable def knn (s : Int → Int) (n : Nat) (p : Int) : Int := kn s n p p.toNat
theorem knn_ex {s : Int → Int} {n : Nat} {f : Nat} {k : Nat} (hk : 0 < k) : (k : Int) ≤ knn s n f ↔ ∃ q : Int, 0 ≤ q ∧ q < f ∧ k ≤ Lc s n s n q f := by
  have h := kn_lt (s := s) (n := n) (p := f) hk (f : Int).toNat
  unfold knn
  constructor
  · intro y
    apply Classical.byContradiction
    intro z
    have := h.mpr (fun q q0 q1 => by
      apply Classical.byContradiction
      intro w
      exact z ⟨q, q0, by omega, by omega⟩)
    omega
  · intro ⟨q, q0, q1, q2⟩
    apply Classical.byContradiction
    intro z
    have := h.mp (by omega) q q0 (by omega)
    omega
theorem knn_bd {s : Int → Int} {n : Nat} {f : Nat} (hf : f ≤ n) : 0 ≤ knn s n f ∧ knn s n f ≤ n - f := by
  have := kn_le (s := s) (n := n) (p := f) (m := (f : Int).toNat) (by omega) (by omega) (by omega)
  unfold knn
  omega
/-- the tree, when of the words from f those up to l were put in; the last one is v -/
def TWS (s : Int → Int) (n f l : Nat) (h : Hh) (v : Int) (P : Int → Int) (D : Int → Nat) : Prop := TRI s n (h 26) (h 27) (h 28) (h 25 3) P D ∧ (0 ≤ v ∧ v < h 25 3) ∧ (D v = l ∧ AG s s (P v) f l) ∧ (∀ u, 0 < u → u < h 25 3 → P u < f ∨ P u = f ∧ D u ≤ l) ∧ (∀ (q : Int) (k : Nat), 0 ≤ q → 1 ≤ k → q + k ≤ n → (q < f ∨ q = f ∧ k ≤ l) → ∃ u, 0 < u ∧ u < h 25 3 ∧ D u = k ∧ AG s s (P u) q k) ∧ h 25 3 = 1 + sm (nw s n) f + max 0 (l - knn s n f) ∧ h 25 4 = max (mx (knn s n) f) (min l (knn s n f))
theorem nw_knn (s : Int → Int) (n : Nat) (f : Nat) : nw s n f = n - f - knn s n f := rfl
theorem TWS.size {s : Int → Int} {n f l : Nat} {h : Hh} {v : Int} {P : Int → Int} {D : Int → Nat} (hT : TWS s n f l h v P D) (h64 : n ≤ 64) (hfl : f + l ≤ n) (hf : f < n) : h 25 3 ≤ 2081 ∧ (f + l < n → h 25 3 < 2081) := by
  obtain ⟨-, -, -, -, -, h5, -⟩ := hT
  have kb := knn_bd (s := s) (n := n) (f := f) (by omega)
  have a1 : sm (nw s n) f ≤ sm (fun i => (n : Int) - i) f := sm_le f (fun i i0 i1 => by
    have := knn_bd (s := s) (n := n) (f := i.toNat) (by omega)
    have e := nw_knn s n i.toNat
    rw [show ((i.toNat : Nat) : Int) = i by omega] at e this
    omega)
  have a2 : sm (fun i => (n : Int) - i) (f + 1) = sm (fun i => (n : Int) - i) f + (n - f) := rfl
  have a3 : sm (fun i => (n : Int) - i) (f + 1) ≤ sm (fun i => (n : Int) - i) n := sm_mono (by omega) (fun r r0 r1 => by omega)
  have a4 := sm_sub (fun _ => (n : Int)) (fun i => i) n
  have a5 := sm_const (n : Int) n
  have a6 := sm_id n
  have a7 : (n : Int) * n ≤ 64 * 64 := Int.mul_le_mul (by omega) (by omega) (by omega) (by omega)
  have a8 : sm (fun i => (n : Int) - i) n = sm (fun _ => (n : Int)) n - sm (fun i => i) n := a4
  omega
theorem C_addBelow {kc ks : Nat} {h : Hh} {Q : PQ} {X : PX} {v a : Int} (hsz : 1 ≤ h 25 3 ∧ h 25 3 < 2081) (hv0 : 0 ≤ v) (hv1 : v < h 25 3) (ha : 97 ≤ a ∧ a ≤ 122) (hQ : ∀ h' : Hh, (∀ d, d ≠ 25 → d ≠ 26 → d ≠ 27 → d ≠ 28 → h' d = h d) → h' 25 3 = h 25 3 + 1 → h' 25 4 = h 25 4 → (∀ u, u ≠ h 25 3 → h' 26 u = h 26 u) → h' 26 (h 25 3) = a → (∀ u, u ≠ h 25 3 → u ≠ v → h' 27 u = h 27 u) → h' 27 (h 25 3) = 0 → h' 27 v = h 25 3 → (∀ u, u ≠ h 25 3 → h' 28 u = h 28 u) → h' 28 (h 25 3) = h 27 v → Q [aI (h 25 3)] (RM WM wd) h') : am_V M_X9_addBelow kc ks 0 [aR 25, aI v, aI a, aU] [] (RM WM wd) h Q X := by
  refine S_X9_addBelow_0 ⟨fun _ => ?_, fun z => absurd z (by omega)⟩
  obtain ⟨sz, hz⟩ : ∃ sz, sz = h 25 3 := ⟨_, rfl⟩
  rw [← hz] at hsz hv1 hQ ⊢
  have e1 : am_st (am_st h 26 sz (a % 65536)) 27 sz 0 27 v = h 27 v := by rw [am_st_n (Or.inr (by omega)), am_st_o (by decide)]
  have e2 : am_st (am_st (am_st (am_st h 26 sz (a % 65536)) 27 sz 0) 28 sz (am_st (am_st h 26 sz (a % 65536)) 27 sz 0 27 v)) 27 v sz 25 3 = sz := by
    rw [am_st_o (by decide), am_st_o (by decide), am_st_o (by decide), am_st_o (by decide)]
    exact hz.symm
  rw [e2, e1, Int.emod_eq_of_lt (by omega) (by omega)]
  refine ⟨by omega, hQ _ (fun d d1 d2 d3 d4 => by rw [am_st_o d1, am_st_o d3, am_st_o d4, am_st_o d3, am_st_o d2]) am_st_s ?_ (fun u hu => ?_) ?_ (fun u hu hv => ?_) ?_ ?_ (fun u hu => ?_) ?_⟩
  · rw [am_st_n (Or.inr (by decide)), am_st_o (by decide), am_st_o (by decide), am_st_o (by decide), am_st_o (by decide)]
  · rw [am_st_o (by decide), am_st_o (by decide), am_st_o (by decide), am_st_o (by decide), am_st_n (Or.inr hu)]
  · rw [am_st_o (by decide), am_st_o (by decide), am_st_o (by decide), am_st_o (by decide), am_st_s]
  · rw [am_st_o (by decide), am_st_n (Or.inr hv), am_st_o (by decide), am_st_n (Or.inr hu), am_st_o (by decide)]
  · rw [am_st_o (by decide), am_st_n (Or.inr (by omega)), am_st_o (by decide), am_st_s]
  · rw [am_st_o (by decide), am_st_s]
  · rw [am_st_o (by decide), am_st_o (by decide), am_st_n (Or.inr hu), am_st_o (by decide), am_st_o (by decide)]
  · rw [am_st_o (by decide), am_st_o (by decide), am_st_s]
/-- cells that the tree keeps -/
def TF (h0 h : Hh) : Prop := ∀ d, d ≠ 25 → d ≠ 26 → d ≠ 27 → d ≠ 28 → h d = h0 d
theorem C_lw_32 {kc ks : Nat} {Q : PQ} {X : PX} {a n f : Nat} {s pl ra : Int → Int} (h0 : Hh) (hC : CT h0 a n s pl ra) (hf : f < n) (hQ : ∀ (h : Hh) (P : Int → Int) (D : Int → Nat), TF h0 h → TWS s n (f + 1) 0 h 0 P D → am_V M_X9_listWords kc ks 19 [aR 25, aR a, aI ((f : Int) + 1), aU, aU, aU] [] (RM WM wd) h Q X) : ∀ (d l : Nat) (h : Hh) (v : Int) (P : Int → Int) (D : Int → Nat), f + l + d = n → TF h0 h → TWS s n f l h v P D → am_V M_X9_listWords kc ks 32 [aR 25, aR a, aI f, aI v, aI ((f : Int) + l), aU] [] (RM WM wd) h Q X := by
  obtain ⟨t0, h64, hn, e1, -, -, hs, hSA, -⟩ := id hC
  have hat : ∃ i : Nat, i < 8 ∧ a = 32 + 5 * i := t0
  obtain ⟨ia, ia8, iae⟩ := hat
  have kb := knn_bd (s := s) (n := n) (f := f) (by omega)
  intro d
  induction d with
  | zero =>
    intro l h v P D hl hF hT
    have e4 : h a 4 = n := by rw [hF a (by omega) (by omega) (by omega) (by omega)]; exact hn
    obtain ⟨w1, w2, w3, w4, w5, w6, w7⟩ := id hT
    have en := nw_knn s n f
    refine S_X9_listWords_32 t0 ⟨fun _ => ⟨by omega, hQ h P D hF ⟨w1, ⟨by omega, by omega⟩, ⟨w1.1, fun i hi => absurd hi (Nat.not_lt_zero i)⟩, fun u u0 u1 => ?_, fun q k q0 k1 qk hq => ?_, ?_, ?_⟩⟩, fun z => absurd z (by omega)⟩
    · rcases w4 u u0 u1 with y | y
      · exact Or.inl (by omega)
      · exact Or.inl (by omega)
    · refine w5 q k q0 k1 qk ?_
      by_cases e : q = f
      · exact Or.inr ⟨e, by omega⟩
      · exact Or.inl (by omega)
    · have kb2 := knn_bd (s := s) (n := n) (f := f + 1) (by omega)
      have es : sm (nw s n) (f + 1) = sm (nw s n) f + nw s n f := rfl
      rw [w6, es, en]
      omega
    · have em : mx (knn s n) (f + 1) = max (mx (knn s n) f) (knn s n f) := rfl
      have m0 := mx_0 (f := knn s n) f
      have kb2 := knn_bd (s := s) (n := n) (f := f + 1) (by omega)
      rw [w7, em]
      omega
  | succ d ih =>
    intro l h v P D hl hF hT
    have e4 : h a 4 = n := by rw [hF a (by omega) (by omega) (by omega) (by omega)]; exact hn
    have ea1 : h (a + 1) = s := by rw [hF _ (by omega) (by omega) (by omega) (by omega)]; exact e1
    have hsz := hT.size h64 (by omega) hf
    obtain ⟨w1, ⟨w2, w2'⟩, ⟨w3, w3'⟩, w4, w5, w6, w7⟩ := id hT
    have sg := hs ((f : Int) + l) (by omega) (by omega)
    have hcast : ((f : Int) + l + 1) = f + ((l + 1 : Nat) : Int) := by omega
    refine S_X9_listWords_32 t0 ⟨fun z => absurd z (by omega), fun _ => ⟨by omega, ?_⟩⟩
    rw [ea1]
    refine C_nodeBelow hs w1 hsz.1 w2 w2' (fun x hx hgx => S_X9_listWords_53 t0 ⟨fun _ => ⟨by omega, ?_⟩, fun z => absurd z (by have := hx.1; omega)⟩) (fun hno => S_X9_listWords_53 t0 ⟨fun z => absurd rfl z, fun _ => ⟨by omega, ?_⟩⟩)
    · obtain ⟨x0, x1, x2, x3⟩ := (w1.sign w3 w3').mp ⟨hx, hgx⟩
      have hPx : P x < f := by
        rcases w4 x x0 x1 with y | y
        · exact y
        · omega
      have xr := w1.2.1 x x0 x1
      have hk : ((l + 1 : Nat) : Int) ≤ knn s n f := (knn_ex (by omega)).mpr ⟨P x, xr.2.1, hPx, (le_Lc (by omega) (by omega)).mpr ⟨by omega, by omega, x3⟩⟩
      rw [hcast]
      refine ih (l + 1) _ x P D (by omega) (fun d d1 d2 d3 d4 => by rw [am_st_o d1]; exact hF d d1 d2 d3 d4) ?_
      have q3 : am_st h 25 4 (max (h 25 4) ((f : Int) + l - f + 1)) 25 3 = h 25 3 := am_st_n (Or.inr (by decide))
      unfold TWS
      rw [q3, am_st_s, am_st_o (by decide), am_st_o (by decide), am_st_o (by decide)]
      refine ⟨w1, ⟨by omega, x1⟩, ⟨x2, x3⟩, fun u u0 u1 => ?_, fun q k q0 k1 qk hq => ?_, by omega, by omega⟩
      · have := w4 u u0 u1; omega
      · by_cases e : q = f ∧ k = l + 1
        · rw [e.1, e.2]
          exact ⟨x, x0, x1, x2, x3⟩
        · exact w5 q k q0 k1 qk (by omega)
    · -- no such child: no such word ahead
      have hk : knn s n f < ((l + 1 : Nat) : Int) := by
        apply Classical.byContradiction
        intro y
        obtain ⟨q, q0, q1, q2⟩ := (knn_ex (s := s) (n := n) (f := f) (k := l + 1) (by omega)).mp (by omega)
        have q3 := (le_Lc (by omega) (by omega)).mp q2
        obtain ⟨u, u0, u1, u2, u3⟩ := w5 q (l + 1) q0 (by omega) q3.1 (Or.inl q1)
        have := (w1.sign w3 w3').mpr ⟨u0, u1, u2, u3.trans q3.2.2⟩
        exact hno u this.1 this.2
      have hdeep : ∀ u, 0 < u → u < h 25 3 → D u = l + 2 → ¬ AG s s (P u) f (l + 1) := fun u u0 u1 u2 u3 => by
        have ur := w1.2.1 u u0 u1
        have hPu : P u < f := by
          rcases w4 u u0 u1 with y | y
          · exact y
          · omega
        have := (knn_ex (s := s) (n := n) (f := f) (k := l + 1) (by omega)).mpr ⟨P u, ur.2.1, hPu, (le_Lc (by omega) (by omega)).mpr ⟨by omega, by omega, u3⟩⟩
        omega
      rw [ea1]
      refine C_addBelow ⟨by omega, hsz.2 (by omega)⟩ w2 w2' sg (fun h' k1 k2 k3 k4 k5 k6 k7 k8 k9 k10 => S_X9_listWords_72 t0 ⟨by omega, ?_⟩)
      rw [hcast]
      have hA := w1.add w2 w2' w3 w3' (f := f) (by omega) (by omega) hno hdeep k4 k5 k6 k7 k8 k9 k10
      refine ih (l + 1) h' (h 25 3) (fun u => if u = h 25 3 then (f : Int) else P u) (fun u => if u = h 25 3 then l + 1 else D u) (by omega) (fun d d1 d2 d3 d4 => by rw [k1 d d1 d2 d3 d4]; exact hF d d1 d2 d3 d4) ?_
      unfold TWS
      rw [k2, k3]
      refine ⟨hA, ⟨by omega, by omega⟩, ⟨if_pos rfl, ?_⟩, fun u u0 u1 => ?_, fun q k q0 q1 qk hq => ?_, by omega, by omega⟩
      · dsimp only
        rw [if_pos rfl]
        exact AG.refl _ _ _
      · dsimp only
        by_cases e : u = h 25 3
        · rw [if_pos e, if_pos e]
          exact Or.inr ⟨rfl, Nat.le_refl _⟩
        · rw [if_neg e, if_neg e]
          have := w4 u u0 (by omega)
          omega
      · by_cases e : q = f ∧ k = l + 1
        · refine ⟨h 25 3, by omega, by omega, ?_, ?_⟩
          · dsimp only
            rw [if_pos rfl, e.2]
          · dsimp only
            rw [if_pos rfl, e.1]
            exact AG.refl _ _ _
        · obtain ⟨u, u0, u1, u2, u3⟩ := w5 q k q0 q1 qk (by omega)
          refine ⟨u, u0, by omega, ?_, ?_⟩
          · dsimp only
            rw [if_neg (by omega)]
            exact u2
          · dsimp only
            rw [if_neg (by omega)]
            exact u3
theorem C_lw_19 {kc ks : Nat} {Q : PQ} {X : PX} {a n : Nat} {s pl ra : Int → Int} (h0 : Hh) (hC : CT h0 a n s pl ra) (hQ : ∀ h : Hh, TF h0 h → h 25 3 = 1 + sm (nw s n) n → h 25 4 = mx (knn s n) n → Q [] (RM WM wd) h) : ∀ (d f : Nat) (h : Hh) (P : Int → Int) (D : Int → Nat), f + d = n → TF h0 h → TWS s n f 0 h 0 P D → am_V M_X9_listWords kc ks 19 [aR 25, aR a, aI f, aU, aU, aU] [] (RM WM wd) h Q X := by
  obtain ⟨t0, h64, hn, e1, -, -, hs, hSA, -⟩ := id hC
  have hat : ∃ i : Nat, i < 8 ∧ a = 32 + 5 * i := t0
  obtain ⟨ia, ia8, iae⟩ := hat
  intro d
  induction d with
  | zero =>
    intro f h P D hf hF hT
    have : f = n := by omega
    subst this
    have e4 : h a 4 = f := by rw [hF a (by omega) (by omega) (by omega) (by omega)]; exact hn
    have kb := knn_bd (s := s) (n := f) (f := f) (by omega)
    have m0 := mx_0 (f := knn s f) f
    obtain ⟨w1, w2, w3, w4, w5, w6, w7⟩ := id hT
    exact S_X9_listWords_19 t0 ⟨fun _ => hQ h hF (by omega) (by omega), fun z => absurd z (by omega)⟩
  | succ d ih =>
    intro f h P D hf hF hT
    have e4 : h a 4 = n := by rw [hF a (by omega) (by omega) (by omega) (by omega)]; exact hn
    refine S_X9_listWords_19 t0 ⟨fun z => absurd z (by omega), fun _ => ?_⟩
    have := C_lw_32 (WM := WM) (wd := wd) (kc := kc) (ks := ks) (Q := Q) (X := X) h0 hC (f := f) (by omega) (fun h' P' D' hF' hT' => ih (f + 1) h' P' D' (by omega) hF' hT') (n - f) 0 h 0 P D (by omega) hF hT
    rw [show (f : Int) + ((0 : Nat) : Int) = f by omega] at this
    exact this
theorem C_listWords {kc ks : Nat} {Q : PQ} {X : PX} {a n : Nat} {s pl ra : Int → Int} (h0 : Hh) (hC : CT h0 a n s pl ra) (hQ : ∀ h : Hh, TF h0 h → h 25 3 = 1 + sm (nw s n) n → h 25 4 = mx (knn s n) n → Q [] (RM WM wd) h) : am_V M_X9_listWords kc ks 0 [aR 25, aR a, aU, aU, aU, aU] [] (RM WM wd) h0 Q X := by
  have q3 : am_st (am_st (am_st h0 25 3 1) 27 0 0) 25 4 0 25 3 = 1 := by rw [am_st_n (Or.inr (by decide)), am_st_o (by decide), am_st_s]
  have kb := knn_bd (s := s) (n := n) (f := 0) (by omega)
  have noch : ∀ (P : Int → Int) (D : Int → Nat) u v, ¬ CHD s P D 1 u v := fun P D u v y => by
    have := y.1
    have := y.2.1
    omega
  refine S_X9_listWords_0 hC.1 ⟨by omega, C_lw_19 h0 hC hQ n 0 _ (fun _ => 0) (fun _ => 0) (by omega) (fun d d1 d2 d3 d4 => by rw [am_st_o d1, am_st_o d3, am_st_o d1]) ?_⟩
  unfold TWS
  rw [q3, am_st_s]
  refine ⟨⟨rfl, fun u u0 u1 => by omega, fun u v u0 u1 v0 v1 _ _ => by omega, fun v v0 v1 => Or.inl ⟨?_, fun u => noch _ _ u v⟩, fun v u _ _ y => absurd y (noch _ _ u v)⟩, ⟨by omega, by omega⟩, ⟨rfl, fun i hi => absurd hi (Nat.not_lt_zero i)⟩, fun u u0 u1 => by omega, fun q k q0 k1 qk hq => by omega, ?_, ?_⟩
  · have : v = 0 := by omega
    rw [this, am_st_o (by decide), am_st_s]
  · show (1 : Int) = 1 + 0 + max 0 (((0 : Nat) : Int) - knn s n ((0 : Nat) : Int))
    omega
  · show (0 : Int) = max 0 (min ((0 : Nat) : Int) (knn s n ((0 : Nat) : Int)))
    omega
theorem mx_knn {s pl ra : Int → Int} {n : Nat} (hs : WS s n) (h : SA s n pl ra) : mx (knn s n) n = mx (fun r => cmv s n pl r) n := by
  apply Int.le_antisymm
  · refine (mx_le (mx_0 n) n).mpr fun r r0 r1 => ?_
    by_cases z : knn s n r ≤ 0
    · have := mx_0 (f := fun r => (cmv s n pl r : Int)) n
      omega
    · obtain ⟨k, hk⟩ : ∃ k : Nat, knn s n r = k := ⟨(knn s n r).toNat, by omega⟩
      have e := knn_ex (s := s) (n := n) (f := r.toNat) (k := k) (by omega)
      rw [show ((r.toNat : Nat) : Int) = r by omega] at e
      obtain ⟨q, q0, q1, q2⟩ := e.mp (by omega)
      have := LT_le hs h (L := mx (fun r => cmv s n pl r) n) (p := q) (q := r) q0 (by omega) (by omega) r1 (by omega) ((mx_le (mx_0 n) n).mp (Int.le_refl _))
      omega
  · refine (mx_le (mx_0 n) n).mpr fun r r0 r1 => ?_
    by_cases z : cmv s n pl r = 0
    · have := mx_0 (f := knn s n) n
      omega
    · obtain ⟨a, b, a0, ab, bn, e⟩ := LT_at hs h r0 r1 (by omega)
      have e2 := knn_ex (s := s) (n := n) (f := b.toNat) (k := cmv s n pl r) (by omega)
      rw [show ((b.toNat : Nat) : Int) = b by omega] at e2
      have e3 := e2.mpr ⟨a, a0, ab, by omega⟩
      have := (mx_le (f := knn s n) (c := mx (knn s n) n) (mx_0 n) n).mp (Int.le_refl _) b (by omega) bn
      omega
theorem C_agrees9 {kc ks : Nat} {h : Hh} {Q : PQ} {X : PX} {a n : Nat} {s pl ra : Int → Int} (hC : CT h a n s pl ra) (hQ : ∀ h' : Hh, TF h h' → Q [aI 1] (RM WM wd) h') : am_V M_X9_agreesWith kc ks 0 [aR 25, aR a] [] (RM WM wd) h Q X := by
  obtain ⟨t0, h64, hn, e1, -, -, hs, hSA, -⟩ := id hC
  have hat : ∃ i : Nat, i < 8 ∧ a = 32 + 5 * i := t0
  obtain ⟨ia, ia8, iae⟩ := hat
  refine S_X9_agreesWith_0 t0 (C_listWords h hC (fun h' hF k3 k4 => S_X9_agreesWith_5 t0 ?_))
  have hC' : CT h' a n s pl ra := hC.of (fun j hj => hF _ (by omega) (by omega) (by omega) (by omega))
  have nb := sm_nw (s := s) (n := n) (m := n) (Nat.le_refl n) h64
  have we : sm (fr s n pl) n = sm (nw s n) n := words_eq hs hSA
  rw [hC'.2.2.1, k3]
  refine ⟨by omega, C_newWordsBelow hC' (Nat.le_refl n) (S_X9_agreesWith_19 t0 ⟨fun z => absurd (by omega) z, fun _ => C_greatest hC' (S_X9_agreesWith_30 ⟨fun z => absurd (by rw [k4]; exact mx_knn hs hSA) z, fun _ => hQ h' hF⟩)⟩)⟩


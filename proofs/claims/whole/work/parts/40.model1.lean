/-! THE MODEL'S OWN: beginnings compared, ranks, ends sorted -/
/-- the signs of the model's text t -/
def ms (h : Hh) (t : Int) : Int → Int := fun k => h 73 (64 * t + k)
theorem ms_at {h : Hh} {t p k : Int} : h 73 (64 * t + p + k) = ms h t (p + k) := by
  unfold ms
  rw [Int.add_assoc]
theorem L_tog_1 {kc ks : Nat} {h : Hh} {Q : PQ} {X : PX} {t u p q n m : Int} (ht : 0 ≤ t) (ht9 : t < 9) (hu : 0 ≤ u) (hu9 : u < 9) (hn : h 74 t = n) (hm : h 74 u = m) (hn64 : n ≤ 64) (hm64 : m ≤ 64) (hp : 0 ≤ p) (hpn : p ≤ n) (hq : 0 ≤ q) (hqm : q ≤ m) (hQ : Q [aI (Lc (ms h t) n (ms h u) m p q)] am_R0 h) :
    ∀ (d k : Nat), p + k + d = n → q + k ≤ m → AG (ms h t) (ms h u) p q k → am_V M_X11_together kc ks 3 [aR 72, aI t, aI p, aI u, aI q, aI k] [] am_R0 h Q X := by
  subst hn
  subst hm
  intro d
  induction d with
  | zero =>
    intro k hd hk hag
    rw [Lc_uniq (by omega) hk hag (Or.inl (by omega))] at hQ
    exact S_X11_together_3 ⟨by omega, fun _ => hQ, fun z => absurd z (by omega)⟩
  | succ d ih =>
    intro k hd hk hag
    refine S_X11_together_3 ⟨by omega, fun z => absurd z (by omega), fun _ => ⟨by omega, fun z => ?_, fun z => ⟨by omega, fun y => ?_, fun y => ⟨by omega, ?_⟩⟩⟩⟩
    · rw [Lc_uniq (by omega) hk hag (Or.inr (Or.inl (by omega)))] at hQ
      exact hQ
    · rw [ms_at (h := h), ms_at (h := h)] at y
      rw [Lc_uniq (by omega) hk hag (Or.inr (Or.inr y))] at hQ
      exact hQ
    · rw [ms_at (h := h), ms_at (h := h)] at y
      exact ih (k + 1) (by omega) (by omega) (fun i hi => by
        by_cases e : i = k
        · rw [e]
          exact y
        · exact hag i (by omega))
theorem L_together {kc ks : Nat} {h : Hh} {Q : PQ} {X : PX} {t u p q n m : Int} (ht : 0 ≤ t) (ht9 : t < 9) (hu : 0 ≤ u) (hu9 : u < 9) (hn : h 74 t = n) (hm : h 74 u = m) (hn64 : n ≤ 64) (hm64 : m ≤ 64) (hp : 0 ≤ p) (hpn : p ≤ n) (hq : 0 ≤ q) (hqm : q ≤ m) (hQ : Q [aI (Lc (ms h t) n (ms h u) m p q)] am_R0 h) : am_V M_X11_together kc ks 0 [aR 72, aI t, aI p, aI u, aI q, aU] [] am_R0 h Q X :=
  S_X11_together_0 (L_tog_1 ht ht9 hu hu9 hn hm hn64 hm64 hp hpn hq hqm hQ (n - p).toNat 0 (by omega) (by omega) (fun i hi => absurd hi (Nat.not_lt_zero i)))
theorem L_cmp_1 {kc ks : Nat} {h : Hh} {Q : PQ} {X : PX} {t p q n : Int} {M : Nat} (ht : 0 ≤ t) (ht9 : t < 9) (hM : M ≤ 64) (hn64 : n ≤ 64) (hs : WS (ms h t) n) (hp : 0 ≤ p) (hp64 : p ≤ 64) (hq : 0 ≤ q) (hq64 : q ≤ 64) (hQ : ∀ v, (v < 0 ↔ ELk (en (ms h t) n) M p q) → (v = 0 ↔ AG (en (ms h t) n) (en (ms h t) n) p q M) → Q [aI v] am_R0 h) :
    ∀ (d k : Nat), k + d = M → AG (en (ms h t) n) (en (ms h t) n) p q k → am_V M_X11_compared kc ks 11 [aR 72, aI t, aI p, aI q, aI M, aI n, aI k] [] am_R0 h Q X := by
  have less : ∀ k : Nat, k < M → AG (en (ms h t) n) (en (ms h t) n) p q k → en (ms h t) n (p + k) < en (ms h t) n (q + k) → ∀ v : Int, v < 0 → Q [aI v] am_R0 h := by
    intro k hk hag hl v hv
    have h1 : ELk (en (ms h t) n) M p q := ⟨k, hk, hag, hl⟩
    exact hQ v ⟨fun _ => h1, fun _ => hv⟩ ⟨fun z => by omega, fun z => absurd z h1.nag⟩
  have more : ∀ k : Nat, k < M → AG (en (ms h t) n) (en (ms h t) n) p q k → en (ms h t) n (q + k) < en (ms h t) n (p + k) → ∀ v : Int, 0 < v → Q [aI v] am_R0 h := by
    intro k hk hag hl v hv
    have h1 : ELk (en (ms h t) n) M q p := ⟨k, hk, hag.sym, hl⟩
    exact hQ v ⟨fun z => by omega, fun z => absurd h1.el (EL.asymm z.el)⟩ ⟨fun z => by omega, fun z => absurd z.sym h1.nag⟩
  intro d
  induction d with
  | zero =>
    intro k hd hag
    have hk : k = M := by omega
    subst hk
    refine S_X11_compared_11 ⟨fun _ => hQ 0 ⟨fun z => by omega, fun z => absurd hag z.nag⟩ ⟨fun _ => hag, fun _ => rfl⟩, fun z => absurd z (by omega)⟩
  | succ d ih =>
    intro k hd hag
    have both : n ≤ p + k → n ≤ q + k → Q [aI 0] am_R0 h := by
      intro z1 z2
      have h1 : AG (en (ms h t) n) (en (ms h t) n) p q M := fun i hi => by
        by_cases e : i < k
        · exact hag i e
        · rw [en_ge (by omega), en_ge (by omega)]
      exact hQ 0 ⟨fun z => by omega, fun z => absurd h1 z.nag⟩ ⟨fun _ => h1, fun _ => rfl⟩
    have pend : n ≤ p + k → q + k < n → Q [aI (-1)] am_R0 h := by
      intro z1 z2
      have := hs (q + k) (by omega) z2
      exact less k (by omega) hag (by rw [en_ge z1, en_lt z2]; omega) (-1) (by omega)
    have qend : p + k < n → n ≤ q + k → Q [aI 1] am_R0 h := by
      intro z1 z2
      have := hs (p + k) (by omega) z1
      exact more k (by omega) hag (by rw [en_ge z2, en_lt z1]; omega) 1 (by omega)
    refine S_X11_compared_11 ⟨fun z => absurd z (by omega), fun _ => ⟨by omega, fun z => ⟨by omega, fun y => absurd y (by omega), fun _ => ⟨by omega, fun y => ⟨by omega, fun w => absurd w (by omega), fun _ => pend z y⟩, fun y => both z y⟩⟩, fun z => ⟨by omega, fun y => ⟨by omega, fun e => ⟨by omega, ?_⟩, fun e => ⟨by omega, fun l => ?_, fun l => ?_⟩⟩, fun y => ⟨by omega, fun _ => ⟨by omega, fun _ => qend z y, fun w => absurd w (by omega)⟩, fun w => absurd w (by omega)⟩⟩⟩⟩
    · rw [ms_at (h := h), ms_at (h := h)] at e
      exact ih (k + 1) (by omega) (fun i hi => by
        by_cases e9 : i = k
        · rw [e9, en_lt z, en_lt y]
          exact e
        · exact hag i (by omega))
    · rw [ms_at (h := h), ms_at (h := h)] at l e
      exact more k (by omega) hag (by rw [en_lt z, en_lt y]; omega) 1 (by omega)
    · rw [ms_at (h := h), ms_at (h := h)] at l
      exact less k (by omega) hag (by rw [en_lt z, en_lt y]; exact l) (-1) (by omega)
theorem L_compared {kc ks : Nat} {h : Hh} {Q : PQ} {X : PX} {t p q n : Int} {M : Nat} (ht : 0 ≤ t) (ht9 : t < 9) (hM : M ≤ 64) (hn : h 74 t = n) (hn64 : n ≤ 64) (hs : WS (ms h t) n) (hp : 0 ≤ p) (hp64 : p ≤ 64) (hq : 0 ≤ q) (hq64 : q ≤ 64) (hQ : ∀ v, (v < 0 ↔ ELk (en (ms h t) n) M p q) → (v = 0 ↔ AG (en (ms h t) n) (en (ms h t) n) p q M) → Q [aI v] am_R0 h) : am_V M_X11_compared kc ks 0 [aR 72, aI t, aI p, aI q, aI M, aU, aU] [] am_R0 h Q X := by
  refine S_X11_compared_0 ⟨by omega, ?_⟩
  rw [hn]
  exact L_cmp_1 ht ht9 hM hn64 hs hp hp64 hq hq64 hQ M 0 (by omega) (fun i hi => absurd hi (Nat.not_lt_zero i))
theorem ELk_64 {s : Int → Int} {n p q : Int} (hs : WS s n) (hn64 : n ≤ 64) (hp : 0 ≤ p) (hpn : p < n) (hq : 0 ≤ q) (hqn : q < n) : ELk (en s n) 64 p q ↔ EL (en s n) (en s n) p q := by
  refine ⟨ELk.el, fun h => ELk.of h fun z => ?_⟩
  by_cases e : p = q
  · subst e
    exact EL.irrefl h
  · have h1 := (le_LcE hs hp hpn hq hqn e).mpr z
    have h2 := Lc_1 (s := s) (t := s) (n := n) (m := n) (p := p) (q := q) (by omega) (by omega)
    have h3 := Lc_2 (s := s) (t := s) (n := n) (m := n) (p := p) (q := q) (by omega) (by omega)
    omega
theorem L_rank_1 {kc ks : Nat} {h : Hh} {Q : PQ} {X : PX} {t p : Int} {n : Nat} (ht : 0 ≤ t) (ht9 : t < 9) (hn : h 74 t = n) (hn64 : n ≤ 64) (hs : WS (ms h t) n) (hp : 0 ≤ p) (hpn : p < n) (hQ : Q [aI (rk (ms h t) n p)] am_R0 h) :
    ∀ (d i : Nat), i + d = n → am_V M_X11_rank kc ks 5 [aR 72, aI t, aI p, aI (cnt (fun o => EL (en (ms h t) n) (en (ms h t) n) o p) i), aI i] [] am_R0 h Q X := by
  intro d
  induction d with
  | zero =>
    intro i hd
    have hi : i = n := by omega
    subst hi
    refine S_X11_rank_5 ⟨by omega, fun _ => ?_, fun z => absurd z (by omega)⟩
    exact hQ
  | succ d ih =>
    intro i hd
    have hle := cnt_le (fun o => EL (en (ms h t) n) (en (ms h t) n) o p) i
    refine S_X11_rank_5 ⟨by omega, fun z => absurd z (by omega), fun _ => ?_⟩
    refine L_compared (M := 64) ht ht9 (by omega) hn (by omega) hs (by omega) (by omega) hp (by omega) (fun v hv _ => ?_)
    rw [ELk_64 hs (by omega) (by omega) (by omega) hp hpn] at hv
    show am_V M_X11_rank kc ks 27 _ [aI v, aI _] am_R0 h Q X
    refine S_X11_rank_27 ⟨fun z => ⟨by omega, ?_⟩, fun z => ⟨by omega, ?_⟩⟩
    · have := ih (i + 1) (by omega)
      rw [cnt_f (P := fun o => EL (en (ms h t) n) (en (ms h t) n) o p) (fun w => by have := hv.mpr w; omega)] at this
      rw [Int.add_zero]
      exact this
    · have := ih (i + 1) (by omega)
      rw [cnt_t (P := fun o => EL (en (ms h t) n) (en (ms h t) n) o p) (hv.mp z)] at this
      exact this
theorem L_rank {kc ks : Nat} {h : Hh} {Q : PQ} {X : PX} {t p : Int} {n : Nat} (ht : 0 ≤ t) (ht9 : t < 9) (hn : h 74 t = n) (hn64 : n ≤ 64) (hs : WS (ms h t) n) (hp : 0 ≤ p) (hpn : p < n) (hQ : Q [aI (rk (ms h t) n p)] am_R0 h) : am_V M_X11_rank kc ks 0 [aR 72, aI t, aI p, aU, aU] [] am_R0 h Q X :=
  S_X11_rank_0 (L_rank_1 ht ht9 hn hn64 hs hp hpn hQ n 0 (by omega))
theorem L_sorts_1 {kc ks : Nat} {Q : PQ} {X : PX} {t : Int} {n : Nat} (h0 : Hh) (ht : 0 ≤ t) (ht9 : t < 9) (hn : h0 74 t = n) (hn64 : n ≤ 64) (hs : WS (ms h0 t) n) (hQ : ∀ h : Hh, (∀ d, d ≠ 76 → h d = h0 d) → (∀ p, 0 ≤ p → p < (n : Int) → h 76 (rk (ms h0 t) n p) = p) → Q [] am_R0 h) :
    ∀ (d i : Nat) (h : Hh), i + d = n → (∀ d, d ≠ 76 → h d = h0 d) → (∀ p, 0 ≤ p → p < (i : Int) → h 76 (rk (ms h0 t) n p) = p) → am_V M_X11_sorts kc ks 2 [aR 72, aI t, aI i] [] am_R0 h Q X := by
  intro d
  induction d with
  | zero =>
    intro i h hd hf hz
    have hi : i = n := by omega
    subst hi
    have e74 : h 74 t = i := by rw [hf 74 (by omega)]; exact hn
    exact S_X11_sorts_2 ⟨by omega, fun _ => hQ h hf hz, fun z => absurd z (by omega)⟩
  | succ d ih =>
    intro i h hd hf hz
    have e74 : h 74 t = n := by rw [hf 74 (by omega)]; exact hn
    have ems : ms h t = ms h0 t := by unfold ms; rw [hf 73 (by omega)]
    have hbd := rk_bd (s := ms h0 t) (n := n) (p := i) (by omega) (by omega)
    refine S_X11_sorts_2 ⟨by omega, fun z => absurd z (by omega), fun _ => ?_⟩
    refine L_rank ht ht9 e74 hn64 (by rw [ems]; exact hs) (by omega) (by omega) ?_
    rw [ems]
    show am_V M_X11_sorts kc ks 22 _ [aI _, aR 76] am_R0 h Q X
    refine S_X11_sorts_22 ⟨by omega, ih (i + 1) _ (by omega) (fun d hd => by rw [am_st_o hd]; exact hf d hd) (fun p p0 p1 => ?_)⟩
    by_cases e : p = i
    · rw [e, am_st_s]
    · rw [am_st_n (Or.inr fun y => e (rk_inj hs p0 (by omega) (by omega) (by omega) (by omega)))]
      exact hz p p0 (by omega)
theorem L_sorts {kc ks : Nat} {Q : PQ} {X : PX} {t : Int} {n : Nat} (h0 : Hh) (ht : 0 ≤ t) (ht9 : t < 9) (hn : h0 74 t = n) (hn64 : n ≤ 64) (hs : WS (ms h0 t) n) (hQ : ∀ h : Hh, (∀ d, d ≠ 76 → h d = h0 d) → (∀ p, 0 ≤ p → p < (n : Int) → h 76 (rk (ms h0 t) n p) = p) → Q [] am_R0 h) : am_V M_X11_sorts kc ks 0 [aR 72, aI t, aU] [] am_R0 h0 Q X :=
  S_X11_sorts_0 (L_sorts_1 h0 ht ht9 hn hn64 hs hQ n 0 h0 (by omega) (fun _ _ => rfl) (fun p _ _ => by omega))
/-- the model's ends and the class's places are the same -/
theorem SA.same {s : Int → Int} {n : Int} {pl ra e : Int → Int} (hs : WS s n) (h : SA s n pl ra) (he : ∀ p, 0 ≤ p → p < n → e (rk s n p) = p) {r : Int} (hr : 0 ≤ r) (hrn : r < n) : e r = pl r := by
  obtain ⟨p, p0, p1, p2⟩ := rk_sur hs hr hrn
  have h1 := he p p0 p1
  have h2 := (h p p0 p1).2
  rw [p2] at h1 h2
  rw [h1, h2]
theorem L_commonAt {kc ks : Nat} {h : Hh} {Q : PQ} {X : PX} {t r : Int} {n : Nat} (ht : 0 ≤ t) (ht9 : t < 9) (hn : h 74 t = n) (hn64 : n ≤ 64) (hr : 0 ≤ r) (hrn : r < n) (he : ∀ r, 0 ≤ r → r < (n : Int) → 0 ≤ h 76 r ∧ h 76 r < n) (hQ : Q [aI (cmv (ms h t) n (h 76) r)] am_R0 h) : am_V M_X11_commonAt kc ks 0 [aR 72, aI t, aI r] [] am_R0 h Q X := by
  refine S_X11_commonAt_0 ⟨fun z => ⟨by omega, ?_⟩, fun z => ?_⟩
  · have e1 := he (r - 1) (by omega) (by omega)
    have e2 := he r hr hrn
    unfold cmv at hQ
    rw [if_neg z] at hQ
    refine L_together ht ht9 ht ht9 hn hn (by omega) (by omega) e1.1 (by omega) e2.1 (by omega) ?_
    show am_V M_X11_commonAt kc ks 28 _ [aI _] am_R0 h Q X
    exact S_X11_commonAt_28 hQ
  · unfold cmv at hQ
    rw [if_pos z] at hQ
    exact hQ

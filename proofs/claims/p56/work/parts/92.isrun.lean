/-! THE LAW'S isRun -/
theorem cmp_neg {x y : Int} : (if x < y then (1 : Int) else if y = x then 0 else -1) < 0 ↔ y < x := by
  by_cases z : x < y
  · rw [if_pos z]; omega
  · rw [if_neg z]
    by_cases e : y = x
    · rw [if_pos e]; omega
    · rw [if_neg e]; omega
theorem cmp_nneg {x y : Int} : 0 ≤ (if x < y then (1 : Int) else if y = x then 0 else -1) ↔ x ≤ y := by
  have := cmp_neg (x := x) (y := y)
  omega
section
variable {n : Nat} {s pl ra : Int → Int}
/-- what a call behind the typed word knows -/
theorem IR_w {w : Int → Int} {f m : Nat} (hfm : f + m ≤ n) (hw : ∀ k, 0 ≤ k → k < (m : Int) → w k = s (f + k)) : AG (en s n) w f ((0 : Nat) : Int) m := fun i hi => by
  rw [en_lt (by omega), hw _ (by omega) (by omega), show ((0 : Nat) : Int) + i = i by omega]
theorem IR_p {w : Int → Int} {f m e : Nat} (hw : ∀ k, 0 ≤ k → k < (m : Int) → w k = s (f + k)) (hem : e + m ≤ n) : AG (en s n) w e ((0 : Nat) : Int) m ↔ ∀ j : Nat, j < m → s ((e : Int) + j) = s (f + j) := by
  constructor
  · intro z j hj
    have := z j hj
    rw [en_lt (by omega), hw _ (by omega) (by omega), show ((0 : Nat) : Int) + j = j by omega] at this
    exact this
  · intro z i hi
    rw [en_lt (by omega), hw _ (by omega) (by omega), show ((0 : Nat) : Int) + i = i by omega]
    exact z i hi
/-- the typed word again, and its number -/
theorem IR295 {Q : PQ} {X : PX} {f m lo : Nat} {x9 : Int} {h : Hh} (hL : LAW h 2 n s pl ra) (m0 : 0 < m) (hfm : f + m ≤ n) (hlo : ∀ lo' hi' : Nat, RUN s (h 3) pl n 0 m lo' hi' → lo' < hi' → lo' = lo) (hlo9 : x9 = sm (fr s n pl) lo + m - cmv s n pl lo - 1) (h9 : 0 ≤ x9 ∧ x9 < sm (fr s n pl) n) (h21 : h 2 1 = m) (h3 : ∀ k, 0 ≤ k → k < (m : Int) → h 3 k = s (f + k)) (hQ : Q [aI 1] (RM [(1, n), (0, 128), (0, n + 1)] false) h) : ∀ (d k kc ks : Nat), k + d = m → d + 4 ≤ kc → 6 * d + 24 ≤ ks → am_V M_L_isRun kc ks 295 [aR 0, aI 0, aR 72, aI f, aI m, aU, aU, aU, aU, aL x9, aU, aU, aU, aI k, aU, aU, aU] [] (RM [(1, n), (0, 128), (0, n + 1)] false) h Q X := by
  have hS := hL.1
  have hC := hL.ct
  have n63 := hL.2.2.2.1
  have z0 := hL.tx
  have hs := hC.2.2.2.2.2.2.1
  intro d
  induction d with
  | zero =>
    intro k kc ks hk hkc hks
    have hW : CW h (h 3) m := ⟨h21, by omega, rfl, fun i i0 i1 => by rw [h3 i i0 i1]; exact hs _ (by omega) (by omega)⟩
    refine S_L_isRun_295 rfl ⟨fun _ => ⟨⟨by omega, by omega⟩, W_numberOf hS z0 hC hW m0 (cnt_pos (a := f) (by omega) (by omega) (IR_w hfm h3)) (Nat.le_refl _) (Nat.le_refl _) (fun lo' hi' hR hlt => ?_)⟩, fun w => absurd w (by omega)⟩
    rw [hlo lo' hi' hR hlt, ← hlo9]
    refine S_L_isRun_332 ⟨fun w => absurd (cmp0 _) w, fun _ => ⟨fun w => absurd (cmp_neg.mp w) (by omega), fun _ => ⟨⟨by omega, by omega⟩, W_words hS z0 hC (Nat.le_refl _) (Nat.le_refl _) ?_⟩⟩⟩
    exact S_L_isRun_352 ⟨fun w => absurd (cmp_nneg.mp w) (by omega), fun _ => hQ⟩
  | succ d ih =>
    intro k kc ks hk hkc hks
    have e72 := hL.2.2.2.2.2 ((f : Int) + k) (by omega) (by omega)
    refine S_L_isRun_295 rfl ⟨fun w => absurd w (by omega), fun _ => ⟨⟨by omega, by omega⟩, W_typed hS (by omega) (by omega) (Nat.le_refl _) (Nat.le_refl _) ?_⟩⟩
    rw [h3 k (by omega) (by omega)]
    exact S_L_isRun_308 rfl ⟨⟨by omega, by omega, by omega⟩, fun _ => ⟨by omega, ih (k + 1) _ _ (by omega) (by omega) (by omega)⟩, fun w => absurd (cmp_eq e72) w⟩
/-- all ends, whether they begin with the word -/
theorem IR62 {Q : PQ} {X : PX} {f m lo hi : Nat} {w : Int → Int} {h : Hh} (hL : LAW h 2 n s pl ra) (hW : CW h w m) (m0 : 0 < m) (hfm : f + m ≤ n) (hw : ∀ k, 0 ≤ k → k < (m : Int) → w k = s (f + k)) (hR : RUN s w pl n 0 m lo hi) (hlt : lo < hi) (hQ : ∀ h', LAW h' 2 n s pl ra → Q [aI 1] (RM [(1, n), (0, 128), (0, n + 1)] false) h') : ∀ (d e kc ks : Nat) (x12 : Int), e + d = n → 5 * d + 100 ≤ kc → 30 * d + 600 ≤ ks → x12 < (e : Int) → (∀ q, 0 ≤ q → q < (e : Int) → AG (en s n) w q ((0 : Nat) : Int) m → 0 ≤ x12 ∧ x12 ≤ q) → am_V M_L_isRun kc ks 62 [aR 0, aI 0, aR 72, aI f, aI m, aL (cnt (fun p => AG (en s n) w p ((0 : Nat) : Int) m) n), aU, aL lo, aU, aL (sm (fr s n pl) lo + m - cmv s n pl lo - 1), aU, aI (cnt (fun p => AG (en s n) w p ((0 : Nat) : Int) m) e), aI x12, aI e, aU, aU, aU] [] (RM [(1, n), (0, 128), (0, n + 1)] false) h Q X := by
  have hS := hL.1
  have hC := hL.ct
  have n63 := hL.2.2.2.1
  have z0 := hL.tx
  have hs := hC.2.2.2.2.2.2.1
  have hSA := hC.2.2.2.2.2.2.2.1
  have hcn := hR.2.2.1
  have hhi := hR.2.1
  intro d
  induction d with
  | zero =>
    intro e kc ks x12 he hkc hks hxe hx
    have : e = n := by omega
    subst this
    obtain ⟨c1, c2, c3⟩ := hR.num hs hSA hW.2.2.2 m0 hlt
    have hf := hx f (by omega) (by omega) (IR_w hfm hw)
    have b1 := sm_fr hs hSA (m := lo) (by omega) (by omega)
    have e5 : sm (fr s e pl) (lo + 1) = sm (fr s e pl) lo + fr s e pl lo := rfl
    have e6 : fr s e pl lo = (e : Int) - pl lo - cmv s e pl lo := rfl
    have mn := sm_mono (f := fr s e pl) (i := lo + 1) (j := e) (by omega) (fun i i0 i1 => (fr_bd hs hSA (by omega) (by omega)).1)
    have bn := sm_fr hs hSA (m := e) (Nat.le_refl e) (by omega)
    have pb := hSA.at hs (r := lo) (by omega) (by omega)
    refine S_L_isRun_62 rfl ⟨by omega, fun _ => ⟨fun w => absurd (cmp0 _) w, fun _ => ⟨⟨by omega, by omega⟩, W_standsAt0 hS z0 hC hW m0 rfl (Nat.le_refl _) (Nat.le_refl _) ?_⟩⟩, fun w => absurd w (by omega)⟩
    refine S_L_isRun_247 rfl ⟨fun w => absurd (cmp0 _) w, fun _ => ⟨⟨by omega, by omega⟩, W_tail hS z0 hC hW m0 (Nat.le_refl _) (Nat.le_refl _) ?_⟩⟩
    refine S_L_isRun_261 rfl ⟨fun w => absurd (cmp0 _) w, fun _ => ⟨fun _ => ⟨⟨by omega, by omega, by omega⟩, W_word hS z0 hC (r := lo) (by omega) (by omega) (by omega) (Nat.le_refl _) (Nat.le_refl _) (fun h2 hS2 f2 g21 g3 => ?_)⟩, fun w => absurd w (by omega)⟩⟩
    have em : (cmv s e pl lo : Int) + 1 + (sm (fr s e pl) lo + m - cmv s e pl lo - 1) - sm (fr s e pl) lo = m := by omega
    rw [em] at g21 g3 ⊢
    have hL2 : LAW h2 2 e s pl ra := hL.keep hS2 (by rw [f2 0 (by decide) (by decide)]) (fun d d0 d1 => f2 d (by omega) (by omega)) (f2 72 (by decide) (by decide))
    have g3w : ∀ k, 0 ≤ k → k < (m : Int) → h2 3 k = w k := fun k k0 k1 => by rw [g3 k k0 k1]; exact c3 k k0 k1
    refine S_L_isRun_283 rfl ⟨fun _ => ?_, fun w => absurd (cmp0 _) w⟩
    exact IR295 hL2 m0 hfm (fun lo' hi' hR' hlt' => hR'.lo_uniq hR g3w hlt' hlt) rfl ⟨by omega, by omega⟩ g21 (fun k k0 k1 => by rw [g3w k k0 k1]; exact hw k k0 k1) (hQ h2 hL2) m 0 _ _ (by omega) (by omega) (by omega)
  | succ d ih =>
    intro e kc ks x12 he hkc hks hxe hx
    have hrk := hR.pl hSA (p := e) (by omega) (by omega)
    have br := rk_bd (s := s) (n := n) (p := e) (by omega) (by omega)
    have bm : ∀ _ : Unit, ((lo : Int) + (cnt (fun p => AG (en s n) w p ((0 : Nat) : Int) m) n : Int)).bmod (2 ^ 64) = (hi : Int) := fun _ => by
      rw [show ((lo : Int) + (cnt (fun p => AG (en s n) w p ((0 : Nat) : Int) m) n : Int)) = (hi : Int) by omega]
      exact bmod_id (by omega) (by omega)
    have hce := cnt_le (fun p => AG (en s n) w p ((0 : Nat) : Int) m) e
    -- behind the rank
    have fin : ∀ b : Int, ((b = 1 ∧ AG (en s n) w e ((0 : Nat) : Int) m) ∨ (b = 0 ∧ ¬ AG (en s n) w e ((0 : Nat) : Int) m)) → am_V M_L_isRun (kc - 2) (ks - 12) 137 [aR 0, aI 0, aR 72, aI f, aI m, aL (cnt (fun p => AG (en s n) w p ((0 : Nat) : Int) m) n), aU, aL lo, aU, aL (sm (fr s n pl) lo + m - cmv s n pl lo - 1), aU, aI (cnt (fun p => AG (en s n) w p ((0 : Nat) : Int) m) e), aI x12, aI e, aI b, aU, aU] [aL (rk s n e)] (RM [(1, n), (0, 128), (0, n + 1)] false) h Q X := by
      intro b hb
      -- from the place where both agree
      have go : am_V M_L_isRun (kc - 2) (ks - 12) 165 [aR 0, aI 0, aR 72, aI f, aI m, aL (cnt (fun p => AG (en s n) w p ((0 : Nat) : Int) m) n), aU, aL lo, aU, aL (sm (fr s n pl) lo + m - cmv s n pl lo - 1), aU, aI (cnt (fun p => AG (en s n) w p ((0 : Nat) : Int) m) e), aI x12, aI e, aI b, aU, aU] [aI b, aI b] (RM [(1, n), (0, 128), (0, n + 1)] false) h Q X := by
        refine S_L_isRun_165 rfl ⟨fun _ => ?_, fun w => absurd rfl w⟩
        rcases hb with ⟨rfl, hp⟩ | ⟨rfl, hp⟩
        · refine S_L_isRun_170 rfl ⟨fun w => absurd w (by decide), fun _ => ⟨⟨by omega, by omega⟩, W_standsAt hS z0 hC hW m0 (p := e) (by omega) hp rfl (Nat.le_refl _) (Nat.le_refl _) ?_⟩⟩
          refine S_L_isRun_182 rfl ⟨fun _ => ?_, fun w => absurd (cmp0 _) w⟩
          refine S_L_isRun_191 rfl ⟨fun w => absurd w (by decide), fun _ => S_L_isRun_203 rfl ⟨by omega, ?_⟩⟩
          have ec := cnt_t (P := fun p => AG (en s n) w p ((0 : Nat) : Int) m) (m := e) hp
          rw [show ((cnt (fun p => AG (en s n) w p ((0 : Nat) : Int) m) e : Int) + 1) = (cnt (fun p => AG (en s n) w p ((0 : Nat) : Int) m) (e + 1) : Int) by omega]
          refine S_L_isRun_206 rfl ⟨fun w => absurd w (by decide), fun _ => ⟨fun y => S_L_isRun_225 rfl ⟨by omega, ?_⟩, fun y => S_L_isRun_225 rfl ⟨by omega, ?_⟩⟩⟩
          · refine ih (e + 1) _ _ x12 (by omega) (by omega) (by omega) (by omega) (fun q q0 q1 q2 => ?_)
            by_cases eq : q = e
            · exact ⟨y, by omega⟩
            · exact hx q q0 (by omega) q2
          · refine ih (e + 1) _ _ e (by omega) (by omega) (by omega) (by omega) (fun q q0 q1 q2 => ?_)
            by_cases eq : q = e
            · omega
            · have := hx q q0 (by omega) q2
              omega
        · refine S_L_isRun_170 rfl ⟨fun _ => S_L_isRun_191 rfl ⟨fun _ => S_L_isRun_203 rfl ⟨by omega, ?_⟩, fun w => absurd rfl w⟩, fun w => absurd rfl w⟩
          have ec := cnt_f (P := fun p => AG (en s n) w p ((0 : Nat) : Int) m) (m := e) hp
          rw [show ((cnt (fun p => AG (en s n) w p ((0 : Nat) : Int) m) e : Int) + 0) = (cnt (fun p => AG (en s n) w p ((0 : Nat) : Int) m) (e + 1) : Int) by omega]
          refine S_L_isRun_206 rfl ⟨fun _ => S_L_isRun_225 rfl ⟨by omega, ?_⟩, fun w => absurd rfl w⟩
          refine ih (e + 1) _ _ x12 (by omega) (by omega) (by omega) (by omega) (fun q q0 q1 q2 => ?_)
          by_cases eq : q = e
          · exact absurd (eq ▸ q2) hp
          · exact hx q q0 (by omega) q2
      refine S_L_isRun_137 rfl ⟨fun y => ?_, fun y => ⟨fun v => ?_, fun v => ?_⟩⟩
      · have y := cmp_neg.mp y
        rcases hb with ⟨rfl, hp⟩ | ⟨rfl, hp⟩
        · exact absurd (hrk.mp hp).1 (by omega)
        · exact go
      · rw [bm ()] at v
        have v := cmp_nneg.mp v
        rcases hb with ⟨rfl, hp⟩ | ⟨rfl, hp⟩
        · exact absurd (hrk.mp hp).2 (by omega)
        · exact go
      · rw [bm ()] at v
        have v := cmp_neg.mp v
        have y := cmp_nneg.mp y
        rcases hb with ⟨rfl, hp⟩ | ⟨rfl, hp⟩
        · exact go
        · exact absurd (hrk.mpr ⟨by omega, by omega⟩) hp
    have rank : ∀ b : Int, ((b = 1 ∧ AG (en s n) w e ((0 : Nat) : Int) m) ∨ (b = 0 ∧ ¬ AG (en s n) w e ((0 : Nat) : Int) m)) → am_V M_L_rankOf 2 12 0 [aR 0, aI 0, aI e, aU] [] (RM [(1, n), (0, 128), (0, n + 1)] false) h (fun v ρ' h' => am_V M_L_isRun (kc - 2) (ks - 12) 137 [aR 0, aI 0, aR 72, aI f, aI m, aL (cnt (fun p => AG (en s n) w p ((0 : Nat) : Int) m) n), aU, aL lo, aU, aL (sm (fr s n pl) lo + m - cmv s n pl lo - 1), aU, aI (cnt (fun p => AG (en s n) w p ((0 : Nat) : Int) m) e), aI x12, aI e, aI b, aU, aU] (v ++ []) ρ' h' Q X) X := fun b hb => W_rankOf hS z0 hC (by omega) (by omega) (Nat.le_refl _) (Nat.le_refl _) (fin b hb)
    have no : ∀ j : Int, ¬ AG (en s n) w e ((0 : Nat) : Int) m → am_V M_L_isRun kc ks 89 [aR 0, aI 0, aR 72, aI f, aI m, aL (cnt (fun p => AG (en s n) w p ((0 : Nat) : Int) m) n), aU, aL lo, aU, aL (sm (fr s n pl) lo + m - cmv s n pl lo - 1), aU, aI (cnt (fun p => AG (en s n) w p ((0 : Nat) : Int) m) e), aI x12, aI e, aI 0, aI j, aU] [] (RM [(1, n), (0, 128), (0, n + 1)] false) h Q X := fun j hp => S_L_isRun_89 rfl ⟨fun _ => ⟨⟨by omega, by omega⟩, rank 0 (Or.inr ⟨rfl, hp⟩)⟩, fun w => absurd rfl w⟩
    have yes : e + m ≤ n → ∀ (d j : Nat), j + d = m → (∀ i : Nat, i < j → s ((e : Int) + i) = s (f + i)) → am_V M_L_isRun kc ks 89 [aR 0, aI 0, aR 72, aI f, aI m, aL (cnt (fun p => AG (en s n) w p ((0 : Nat) : Int) m) n), aU, aL lo, aU, aL (sm (fr s n pl) lo + m - cmv s n pl lo - 1), aU, aI (cnt (fun p => AG (en s n) w p ((0 : Nat) : Int) m) e), aI x12, aI e, aI 1, aI j, aU] [] (RM [(1, n), (0, 128), (0, n + 1)] false) h Q X := by
      intro hem d
      induction d with
      | zero =>
        intro j hj hag
        exact S_L_isRun_89 rfl ⟨fun w => absurd w (by decide), fun _ => ⟨fun _ => ⟨⟨by omega, by omega⟩, rank 1 (Or.inl ⟨rfl, (IR_p hw hem).mpr fun i hi => hag i (by omega)⟩)⟩, fun w => absurd w (by omega)⟩⟩
      | succ d ih2 =>
        intro j hj hag
        have e1 := hL.2.2.2.2.2 ((e : Int) + j) (by omega) (by omega)
        have e2 := hL.2.2.2.2.2 ((f : Int) + j) (by omega) (by omega)
        refine S_L_isRun_89 rfl ⟨fun w => absurd w (by decide), fun _ => ⟨fun w => absurd w (by omega), fun _ => ⟨⟨by omega, by omega, by omega, by omega, by omega, by omega⟩, fun y => ⟨by omega, no _ fun hp => ?_⟩, fun y => ⟨by omega, ih2 (j + 1) (by omega) (fun i hi => ?_)⟩⟩⟩⟩
        · exact y (by rw [e1, e2]; exact (IR_p hw hem).mp hp j (by omega))
        · by_cases ei : i = j
          · rw [ei, ← e1, ← e2]; exact y
          · exact hag i (by omega)
    refine S_L_isRun_62 rfl ⟨by omega, fun w => absurd w (by omega), fun _ => ⟨⟨by omega, by omega⟩, fun y => no 0 fun hp => ?_, fun y => yes (by omega) m 0 (by omega) (fun i hi => absurd hi (Nat.not_lt_zero i))⟩⟩
    have := AG_end hW.2.2.2 m0 hp
    omega
theorem IR8 {Q : PQ} {X : PX} {f m : Nat} (h0 : Hh) (hL0 : LAW h0 2 n s pl ra) (m0 : 0 < m) (hfm : f + m ≤ n) (hQ : ∀ h', LAW h' 2 n s pl ra → Q [aI 1] (RM [(1, n), (0, 128), (0, n + 1)] false) h') : ∀ (d i kc ks : Nat) (h : Hh), i + d = m → d + 500 ≤ kc → 6 * d + 3000 ≤ ks → LAW h 2 n s pl ra → h 2 1 = i → (∀ k, 0 ≤ k → k < (i : Int) → h 3 k = s (f + k)) → am_V M_L_isRun kc ks 8 [aR 0, aI 0, aR 72, aI f, aI m, aI i, aU, aU, aU, aU, aU, aU, aU, aU, aU, aU, aU] [] (RM [(1, n), (0, 128), (0, n + 1)] false) h Q X := by
  intro d
  induction d with
  | zero =>
    intro i kc ks h hi hkc hks hL h21 h3
    have : i = m := by omega
    subst this
    have hS := hL.1
    have hC := hL.ct
    have n63 := hL.2.2.2.1
    have z0 := hL.tx
    have hs := hC.2.2.2.2.2.2.1
    have hW : CW h (h 3) i := ⟨h21, by omega, rfl, fun k k0 k1 => by rw [h3 k k0 k1]; exact hs _ (by omega) (by omega)⟩
    have hc : 0 < cnt (fun p => AG (en s n) (h 3) p ((0 : Nat) : Int) i) n := cnt_pos (a := f) (by omega) (by omega) (IR_w hfm h3)
    refine S_L_isRun_8 rfl ⟨fun _ => ⟨⟨by omega, by omega⟩, W_count hS z0 hC hW m0 (Nat.le_refl _) (Nat.le_refl _) ?_⟩, fun w => absurd w (by omega)⟩
    refine S_L_isRun_37 rfl ⟨⟨by omega, by omega⟩, W_runFrom hS z0 hC hW m0 hc (Nat.le_refl _) (Nat.le_refl _) (fun lo hi hR hlt => ?_)⟩
    refine S_L_isRun_44 rfl ⟨⟨by omega, by omega⟩, W_numberOf hS z0 hC hW m0 hc (Nat.le_refl _) (Nat.le_refl _) (fun lo' hi' hR' hlt' => ?_)⟩
    rw [hR'.lo_uniq hR (fun _ _ _ => rfl) hlt' hlt]
    refine S_L_isRun_51 rfl ?_
    exact IR62 hL hW m0 hfm h3 hR hlt hQ n 0 _ _ (-1) (by omega) (by omega) (by omega) (by omega) (fun q q0 q1 => by omega)
  | succ d ih =>
    intro i kc ks h hi hkc hks hL h21 h3
    have hs := hL.ct.2.2.2.2.2.2.1
    have n63 := hL.2.2.2.1
    have e72 := hL.2.2.2.2.2 ((f : Int) + i) (by omega) (by omega)
    have li := hs ((f : Int) + i) (by omega) (by omega)
    refine S_L_isRun_8 rfl ⟨fun w => absurd w (by omega), fun _ => ⟨⟨by omega, by omega, by omega, by omega, by omega⟩, ?_⟩⟩
    rw [e72]
    refine W_type hL.1 (Or.inr li) (by omega) (Nat.le_refl _) (Nat.le_refl _) (fun h' hS' g g21 g3 => S_L_isRun_25 rfl ⟨by omega, ?_⟩)
    refine ih (i + 1) _ _ h' (by omega) (by omega) (by omega) (hL.keep hS' (by rw [g 0 (by decide) (by decide)]) (fun d d0 d1 => g d (by omega) (by omega)) (g 72 (by decide) (by decide))) (by rw [g21, h21]; omega) (fun k k0 k1 => ?_)
    rw [g3, h21]
    by_cases e : k = i
    · rw [if_pos e, e]
    · rw [if_neg e]; exact h3 k k0 (by omega)
theorem L_isRun {kc ks : Nat} {h : Hh} {Q : PQ} {X : PX} {f m : Nat} (hL : LAW h 2 n s pl ra) (m0 : 0 < m) (hfm : f + m ≤ n) (hkc : 2000 ≤ kc) (hks : 12000 ≤ ks) (hQ : ∀ h', LAW h' 2 n s pl ra → Q [aI 1] (RM [(1, n), (0, 128), (0, n + 1)] false) h') : am_V M_L_isRun kc ks 0 [aR 0, aI 0, aR 72, aI f, aI m, aU, aU, aU, aU, aU, aU, aU, aU, aU, aU, aU, aU] [] (RM [(1, n), (0, 128), (0, n + 1)] false) h Q X := by
  have n63 := hL.2.2.2.1
  refine S_L_isRun_0 rfl (W_wipe hL.1 fun h1 hS1 f1 z1 => S_L_isRun_4 rfl ?_)
  exact IR8 h1 (hL.keep hS1 (by rw [f1 0 (by decide)]) (fun d d0 d1 => f1 d (by omega)) (f1 72 (by decide))) m0 hfm hQ m 0 kc ks h1 (by omega) (by omega) (by omega) (hL.keep hS1 (by rw [f1 0 (by decide)]) (fun d d0 d1 => f1 d (by omega)) (f1 72 (by decide))) z1 (fun k k0 k1 => by omega)
end

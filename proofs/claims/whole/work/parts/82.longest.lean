/-! longestIn: the model's search, and both together -/
def MTS (h : Hh) (M : Nat) (N : Int → Nat) (S : Int → Int → Int) : Prop := M ≤ 8 ∧ h 72 8 = M ∧ ∀ t, 0 ≤ t → t < (M : Int) → MT h t (N t) (S t)
theorem ST_cnt {N : Int → Nat} {S : Int → Int → Int} {i p o : Int} {l : Nat} : ST N S i p l o ↔ 0 < cnt (fun q => l ≤ Lc (S i) (N i) (S o) (N o) p q) (N o) := by
  constructor
  · intro ⟨q, q0, q1, q2⟩
    exact cnt_pos q0 q1 q2
  · intro h
    exact cnt_ex h
theorem M_si_6 {kc ks : Nat} {h : Hh} {Q : PQ} {X : PX} {M : Nat} {many : Int} {N : Int → Nat} {S : Int → Int → Int} {t p : Int} {L : Nat} (hT : MTS h M N S) (ht : 0 ≤ t ∧ t < M) (hp : 0 ≤ p) (hpn : p ≤ N t) (hL : 0 < L) (hL64 : L ≤ 64) (h1 : many ≤ cnt (fun o => ST N S t p L o) M → Q [aI 1] am_R0 h) (h0 : cnt (fun o => ST N S t p L o) M < many → Q [aI 0] am_R0 h) : ∀ (d o : Nat), o + d = M → am_V M_X11_standsIn kc ks 6 [aR 72, aI t, aI p, aI L, aI many, aI (cnt (fun o => ST N S t p L o) o), aI o] [] am_R0 h Q X := by
  obtain ⟨hM8, e8, hMT⟩ := hT
  intro d
  induction d with
  | zero =>
    intro o ho
    have : o = M := by omega
    subst this
    exact S_X11_standsIn_6 ⟨fun _ => ⟨h0, h1⟩, fun z => absurd z (by omega)⟩
  | succ d ih =>
    intro o ho
    have hle := cnt_le (fun o => ST N S t p L o) o
    have hnext := ih (o + 1) (by omega)
    refine S_X11_standsIn_6 ⟨fun z => absurd z (by omega), fun _ => M_places (hMT t ht.1 ht.2) (hMT o (by omega) (by omega)) hp hpn hL hL64 (S_X11_standsIn_26 ⟨fun z => ⟨by omega, ?_⟩, fun z => ⟨by omega, ?_⟩⟩)⟩
    · rw [cnt_f (P := fun o => ST N S t p L o) (fun y => by have := ST_cnt.mp y; omega)] at hnext
      rw [Int.add_zero]
      exact hnext
    · rw [cnt_t (P := fun o => ST N S t p L o) (ST_cnt.mpr (by omega))] at hnext
      exact hnext
theorem M_isLess {kc ks : Nat} {h : Hh} {Q : PQ} {X : PX} {M : Nat} {N : Int → Nat} {S : Int → Int → Int} {t p b q : Int} {L : Nat} (hT : MTS h M N S) (ht : 0 ≤ t ∧ t < M) (hb : 0 ≤ b ∧ b < M) (hp : 0 ≤ p) (hpn : p + L ≤ N t) (hq : 0 ≤ q) (hqn : q + L ≤ N b) (h1 : WL (S t) (S b) p q L → Q [aI 1] am_R0 h) (h0 : ¬ WL (S t) (S b) p q L → Q [aI 0] am_R0 h) : am_V M_X11_isLess kc ks 0 [aR 72, aI t, aI p, aI b, aI q, aI L, aU] [] am_R0 h Q X := by
  obtain ⟨hM8, e8, hMT⟩ := hT
  have m1 := hMT t ht.1 ht.2
  have m2 := hMT b hb.1 hb.2
  have n1 := m1.2.1
  have n2 := m2.2.1
  rw [WL_Lc (n := N t) (m := N b) hpn hqn] at h1 h0
  have c1 := Lc_1 (s := S t) (t := S b) (n := N t) (m := N b) (p := p) (q := q) (by omega) (by omega)
  have c2 := Lc_2 (s := S t) (t := S b) (n := N t) (m := N b) (p := p) (q := q) (by omega) (by omega)
  refine S_X11_isLess_0 (M_together m1 m2 hp (by omega) hq (by omega) (S_X11_isLess_9 ⟨fun z => h0 fun w => ?_, fun z => ?_⟩))
  · have := w.1; omega
  · have a1 := m1.2.2.2.2 (p + Lc (S t) (N t) (S b) (N b) p q) (by omega) (by omega)
    have a2 := m2.2.2.2.2 (q + Lc (S t) (N t) (S b) (N b) p q) (by omega) (by omega)
    unfold ms at a1 a2
    rw [Int.add_assoc (64 * t), Int.add_assoc (64 * b), a1, a2]
    exact ⟨by omega, fun y => h0 fun w => by have := w.2; omega, fun y => h1 ⟨by omega, y⟩⟩
/-- the model's best one of a length, so far -/
def LBM (M many : Nat) (N : Int → Nat) (S : Int → Int → Int) (L : Nat) (i c b p : Int) : Prop := (b < 0 ∧ ∀ a q, (a < i ∨ a = i ∧ q < c) → ¬ PW M many N S a q L) ∨ (0 ≤ b ∧ PW M many N S b p L ∧ ∀ a q, (a < i ∨ a = i ∧ q < c) → PW M many N S a q L → ¬ WL (S a) (S b) q p L)
theorem M_li_51 {kc ks : Nat} {h : Hh} {Q : PQ} {X : PX} {M many : Nat} {N : Int → Nat} {S : Int → Int → Int} {L : Nat} {i : Int} (hT : MTS h M N S) (hi : 0 ≤ i ∧ i < M) (hL : 0 < L) (hL64 : L ≤ 64) (hQ : ∀ b p, LBM M many N S L (i + 1) 0 b p → am_V M_X11_longestIn kc ks 39 [aR 72, aI many, aI L, aI b, aI p, aI (i + 1), aU] [] am_R0 h Q X) : ∀ (d c : Nat) (b p : Int), c + d = 65 → LBM M many N S L i c b p → am_V M_X11_longestIn kc ks 51 [aR 72, aI many, aI L, aI b, aI p, aI i, aI c] [] am_R0 h Q X := by
  have hM8 := hT.1
  have mi := hT.2.2 i hi.1 hi.2
  have n64 := mi.2.1
  have e74 := mi.2.2.1
  intro d
  have out : ∀ (c : Nat) (b p : Int), LBM M many N S L i c b p → (N i : Int) < c + L → am_V M_X11_longestIn kc ks 39 [aR 72, aI many, aI L, aI b, aI p, aI (i + 1), aU] [] am_R0 h Q X := fun c b p hB z => hQ b p (by
    have no : ∀ a q, (a < i + 1 ∨ a = i + 1 ∧ q < 0) → PW M many N S a q L → (a < i ∨ a = i ∧ q < (c : Int)) := fun a q w hp => by
      have y := hp.2.2.1
      by_cases e : a = i
      · rw [e] at y
        exact Or.inr ⟨e, by omega⟩
      · exact Or.inl (by omega)
    rcases hB with ⟨b0, b1⟩ | ⟨b0, b1, b2⟩
    · exact Or.inl ⟨b0, fun a q w hp => b1 a q (no a q w hp) hp⟩
    · exact Or.inr ⟨b0, b1, fun a q w hp => b2 a q (no a q w hp) hp⟩)
  induction d with
  | zero =>
    intro c b p hc hB
    exact S_X11_longestIn_51 ⟨by omega, fun z => ⟨by omega, out c b p hB (by omega)⟩, fun z => absurd z (by omega)⟩
  | succ d ih =>
    intro c b p hc hB
    have hcast : ((c + 1 : Nat) : Int) = (c : Int) + 1 := by omega
    have spl : ∀ a q, (a < i ∨ a = i ∧ q < ((c + 1 : Nat) : Int)) → (a < i ∨ a = i ∧ q < (c : Int)) ∨ a = i ∧ q = c := fun a q w => by omega
    refine S_X11_longestIn_51 ⟨by omega, fun z => ⟨by omega, out c b p hB (by omega)⟩, fun z => ?_⟩
    have stay : (¬ PW M many N S i c L ∨ 0 ≤ b ∧ ¬ WL (S i) (S b) c p L) → am_V M_X11_longestIn kc ks 51 [aR 72, aI many, aI L, aI b, aI p, aI i, aI ((c : Int) + 1)] [] am_R0 h Q X := fun y => by
      have := ih (c + 1) b p (by omega) (by
        rcases hB with ⟨b0, b1⟩ | ⟨b0, b1, b2⟩
        · refine Or.inl ⟨b0, fun a q w hp => ?_⟩
          rcases spl a q w with w | ⟨rfl, rfl⟩
          · exact b1 a q w hp
          · rcases y with y | y
            · exact y hp
            · omega
        · refine Or.inr ⟨b0, b1, fun a q w hp => ?_⟩
          rcases spl a q w with w | ⟨rfl, rfl⟩
          · exact b2 a q w hp
          · rcases y with y | y
            · exact absurd hp y
            · exact y.2)
      rw [hcast] at this
      exact this
    have new : PW M many N S i c L → (b < 0 ∨ WL (S i) (S b) c p L) → am_V M_X11_longestIn kc ks 51 [aR 72, aI many, aI L, aI i, aI c, aI i, aI ((c : Int) + 1)] [] am_R0 h Q X := fun y x => by
      have := ih (c + 1) i c (by omega) (Or.inr ⟨hi.1, y, fun a q w hp => by
        rcases spl a q w with w | ⟨rfl, rfl⟩
        · rcases hB with ⟨b0, b1⟩ | ⟨b0, b1, b2⟩
          · exact absurd hp (b1 a q w)
          · rcases x with x | x
            · omega
            · exact fun v => b2 a q w hp (v.trans x)
        · exact fun ⟨k, _, _, k2⟩ => Int.lt_irrefl _ k2⟩)
      rw [hcast] at this
      exact this
    have si : ∀ (k : ∀ v : Int, (v = 1 → PW M many N S i c L) → (v = 0 → ¬ PW M many N S i c L) → (v = 0 ∨ v = 1) → am_V M_X11_longestIn kc ks 94 [aR 72, aI many, aI L, aI b, aI p, aI i, aI c] [aI v] am_R0 h Q X), am_V M_X11_standsIn 0 0 0 [aR 72, aI i, aI c, aI L, aI many, aU, aU] [] am_R0 h (fun v ρ' h' => am_V M_X11_longestIn kc ks 94 [aR 72, aI many, aI L, aI b, aI p, aI i, aI c] (v ++ []) ρ' h' Q X) X := fun k =>
      S_X11_standsIn_0 (M_si_6 hT hi (by omega) (by omega) hL hL64 (fun y => k 1 (fun _ => ⟨hi, by omega, ⟨by omega, by omega⟩, by omega⟩) (fun e => absurd e (by decide)) (Or.inr rfl)) (fun y => k 0 (fun e => absurd e (by decide)) (fun _ w => by have := w.2.2.2; omega) (Or.inl rfl)) M 0 (by omega))
    have s94 : (b < 0 ∨ WL (S i) (S b) c p L) → ∀ v : Int, (v = 1 → PW M many N S i c L) → (v = 0 → ¬ PW M many N S i c L) → (v = 0 ∨ v = 1) → am_V M_X11_longestIn kc ks 94 [aR 72, aI many, aI L, aI b, aI p, aI i, aI c] [aI v] am_R0 h Q X := fun x v v1 v0 vv => S_X11_longestIn_94 ⟨fun e => ⟨by omega, stay (Or.inl (v0 e))⟩, fun e => ⟨by omega, new (v1 (by omega)) x⟩⟩
    refine ⟨fun x => si (s94 (Or.inl x)), fun x => ?_⟩
    rcases hB with ⟨b0, b1⟩ | ⟨b0, b1, b2⟩
    · omega
    exact M_isLess hT hi b1.1 (by omega) (by omega) b1.2.2.1.1 b1.2.2.1.2 (fun y => S_X11_longestIn_81 ⟨fun w => absurd w (by decide), fun _ => si (s94 (Or.inr y))⟩) (fun y => S_X11_longestIn_81 ⟨fun _ => ⟨by omega, stay (Or.inr ⟨b0, y⟩)⟩, fun w => absurd rfl w⟩)
theorem M_li_39 {kc ks : Nat} {h : Hh} {Q : PQ} {X : PX} {M many : Nat} {N : Int → Nat} {S : Int → Int → Int} {L : Nat} (hT : MTS h M N S) (hL : 0 < L) (hL64 : L ≤ 64) (hQ0 : (∀ a q, ¬ PW M many N S a q L) → am_V M_X11_longestIn kc ks 27 [aR 72, aI many, aI ((L : Int) + -1), aU, aU, aU, aU] [] am_R0 h Q X) (hQ1 : ∀ b p, 0 ≤ b → PW M many N S b p L → (∀ a q, PW M many N S a q L → ¬ WL (S a) (S b) q p L) → am_V M_X11_longestIn kc ks 123 [aR 72, aU, aI L, aI b, aI p, aI 0, aU] [] am_R0 h Q X) : ∀ (d i : Nat) (b p : Int), i + d = M → LBM M many N S L i 0 b p → am_V M_X11_longestIn kc ks 39 [aR 72, aI many, aI L, aI b, aI p, aI i, aU] [] am_R0 h Q X := by
  have hM8 := hT.1
  have e8 := hT.2.1
  intro d
  induction d with
  | zero =>
    intro i b p hi hB
    have : i = M := by omega
    subst this
    refine S_X11_longestIn_39 ⟨fun _ => ⟨fun z => ⟨by omega, hQ0 fun a q hp => ?_⟩, fun z => ?_⟩, fun z => absurd z (by omega)⟩
    · rcases hB with ⟨b0, b1⟩ | ⟨b0, b1, b2⟩
      · exact b1 a q (Or.inl hp.1.2) hp
      · omega
    · rcases hB with ⟨b0, b1⟩ | ⟨b0, b1, b2⟩
      · omega
      · exact hQ1 b p b0 b1 (fun a q hp => b2 a q (Or.inl hp.1.2) hp)
  | succ d ih =>
    intro i b p hi hB
    refine S_X11_longestIn_39 ⟨fun z => absurd z (by omega), fun _ => ?_⟩
    exact M_li_51 hT ⟨by omega, by omega⟩ hL hL64 (fun b p hB => ih (i + 1) b p (by omega) hB) 65 0 b p (by omega) hB
theorem M_li_123 {kc ks : Nat} {Q : PQ} {X : PX} {L n : Nat} {s : Int → Int} {b p : Int} (g : Hh) (hT : MT g b n s) (hp : 0 ≤ p) (hpL : p + L ≤ n) (hQ : ∀ h, RW g h (fun k => s (p + k)) L → Q [aI L] am_R0 h) (h10 : g 72 10 = 0) : ∀ (d i : Nat) (h : Hh), i + d = L → (∀ d, d ≠ 75 → h d = g d) → (∀ k, 0 ≤ k → k < (i : Int) → h 75 k = s (p + k)) → am_V M_X11_longestIn kc ks 123 [aR 72, aU, aI L, aI b, aI p, aI i, aU] [] am_R0 h Q X := by
  have ht := hT.1
  have n64 := hT.2.1
  have hs := hT.2.2.2.1
  intro d
  induction d with
  | zero =>
    intro i h hi hf hz
    have : i = L := by omega
    subst this
    refine S_X11_longestIn_123 ⟨fun _ => hQ _ ⟨fun d d1 d2 _ _ => by rw [am_st_o d1, hf d d2], by rw [am_st_n (Or.inr (by decide)), hf 72 (by decide)], by rw [am_st_n (Or.inr (by decide)), hf 72 (by decide)]; exact h10, am_st_s, fun k k0 k1 => by rw [am_st_o (by decide)]; exact hz k k0 k1⟩, fun z => absurd z (by omega)⟩
  | succ d ih =>
    intro i h hi hf hz
    have e := hT.2.2.2.2 (p + i) (by omega) (by omega)
    have sg := hs (p + i) (by omega) (by omega)
    unfold ms at e
    refine S_X11_longestIn_123 ⟨fun z => absurd z (by omega), fun _ => ?_⟩
    rw [Int.add_assoc (64 * b), hf 73 (by decide), e, Int.emod_eq_of_lt (by omega) (by omega)]
    refine ⟨by omega, ih (i + 1) _ (by omega) (fun d hd => by rw [am_st_o hd]; exact hf d hd) (fun k k0 k1 => ?_)⟩
    rw [am_st_i]
    by_cases y : k = i
    · rw [if_pos y, y]
    · rw [if_neg y]
      exact hz k k0 (by omega)
theorem M_li_27 {kc ks : Nat} {Q : PQ} {X : PX} {M many : Nat} {N : Int → Nat} {S : Int → Int → Int} (g : Hh) (hT : MTS g M N S) (h10 : g 72 10 = 0) (hQ1 : ∀ h b p L, BW M many N S b p L → RW g h (fun k => S b (p + k)) L → Q [aI L] am_R0 h) (hQ0 : (∀ a q k, ¬ PW M many N S a q k) → Q [aI 0] am_R0 (am_st g 72 10 2)) : ∀ L : Nat, L ≤ 64 → (∀ a q k, PW M many N S a q k → k ≤ L) → am_V M_X11_longestIn kc ks 27 [aR 72, aI many, aI L, aU, aU, aU, aU] [] am_R0 g Q X := by
  intro L
  induction L with
  | zero =>
    intro _ hz
    exact S_X11_longestIn_27 ⟨fun _ => hQ0 (fun a q k hp => by have := hz a q k hp; have := hp.2.1; omega), fun z => absurd z (by omega)⟩
  | succ L ih =>
    intro hL hz
    refine S_X11_longestIn_27 ⟨fun z => absurd z (by omega), fun _ => M_li_39 hT (by omega) hL (fun hno => ?_) (fun b p b0 hp hw => ?_) M 0 (-1) 0 (by omega) (Or.inl ⟨by omega, fun a q w hp => by have := hp.1; have := hp.2.2.1; omega⟩)⟩
    · have := ih (by omega) (fun a q k hp => by
        have := hz a q k hp
        by_cases e : k = L + 1
        · rw [e] at hp; exact absurd hp (hno a q)
        · omega)
      rw [show ((L + 1 : Nat) : Int) + -1 = L by omega]
      exact this
    · exact M_li_123 g (hT.2.2 b hp.1.1 hp.1.2) hp.2.2.1.1 hp.2.2.1.2 (fun h hR => hQ1 h b p (L + 1) ⟨hp, fun i q k hk => by
        have := hz i q k hk
        by_cases e : k = L + 1
        · rw [e] at hk
          exact Or.inr ⟨e, hw i q hk⟩
        · exact Or.inl (by omega)⟩ hR) h10 (L + 1) 0 g (by omega) (fun _ _ => rfl) (fun k k0 k1 => by omega)
theorem MTS.of {h h' : Hh} {M : Nat} {N : Int → Nat} {S : Int → Int → Int} (hT : MTS h M N S) (e73 : h' 73 = h 73) (e74 : h' 74 = h 74) (e8 : h' 72 8 = h 72 8) : MTS h' M N S := ⟨hT.1, by rw [e8]; exact hT.2.1, fun t t0 t1 => (hT.2.2 t t0 t1).of e73 e74⟩
theorem M_longestIn {kc ks : Nat} {Q : PQ} {X : PX} {M many : Nat} {N : Int → Nat} {S : Int → Int → Int} (g : Hh) (hT : MTS g M N S) (h1 : 1 ≤ many ∧ many ≤ 8) (hQ1 : ∀ h b p L, BW M many N S b p L → RW g h (fun k => S b (p + k)) L → Q [aI L] am_R0 h) (hQ0 : (∀ a q k, ¬ PW M many N S a q k) → ∀ h, MK g h → h 72 10 = 2 → Q [aI 0] am_R0 h) : am_V M_X11_longestIn kc ks 0 [aR 72, aI many, aU, aU, aU, aU, aU] [] am_R0 g Q X := by
  have hk : MK g (am_st g 72 10 0) := (MK.rf g).th
  refine S_X11_longestIn_0 (L_isBetween (fun _ => S_X11_longestIn_8 ⟨fun z => absurd z (by decide), fun _ => L_isWrong (S_X11_longestIn_19 ⟨fun _ => ?_, fun z => absurd rfl z⟩)⟩) (fun z => absurd (by omega) z))
  refine M_li_27 (am_st g 72 10 0) (hT.of (am_st_o (by decide)) (am_st_o (by decide)) (am_st_n (Or.inr (by decide)))) am_st_s (fun h b p L hB hR => hQ1 h b p L hB ⟨fun d d1 d2 d3 d4 => by rw [hR.1 d d1 d2 d3 d4, am_st_o d1], by rw [hR.2.1, am_st_n (Or.inr (by decide))], hR.2.2.1, hR.2.2.2.1, hR.2.2.2.2⟩) (fun hno => hQ0 hno _ hk.th am_st_s) 64 (Nat.le_refl _) (fun a q k hp => ?_)
  have := (hT.2.2 a hp.1.1 hp.1.2).2.1
  have := hp.2.2.1
  omega
theorem T_longestIn {kc ks : Nat} {h : Hh} {t : Int} (hS : SIM h) (hkc : 1 ≤ kc) (hks : 6 ≤ ks) : am_V M_X10_longestIn kc ks 0 [aR 0, aI t, aU] [] am_R0 h (PQok M_X11_longestIn [aR 72, aI t, aU, aU, aU, aU, aU] aI) (PXok M_X11_longestIn [aR 72, aI t, aU, aU, aU, aU, aU] aI [xIA, xNS]) := by
  have bad : ¬ (1 ≤ t ∧ t ≤ 8) → PXok M_X11_longestIn [aR 72, aI t, aU, aU, aU, aU, aU] aI [xIA, xNS] xIA am_R0 h := fun v => PX.bad 0 hS (NK.rf h) rfl fun kc ks Q X hS' k => S_X11_longestIn_0 (L_isBetween (fun z => absurd z v) (fun _ => S_X11_longestIn_8 ⟨fun _ => M_isWrong fun h2 m y => S_X11_longestIn_19 ⟨fun w => absurd w (by decide), fun _ => k 0 h2 m y⟩, fun w => absurd rfl w⟩))
  refine S_X10_longestIn_0 ⟨fun z => ⟨by omega, bad (by omega)⟩, fun z => ⟨fun y => ?_, fun y => ⟨by omega, bad (by omega)⟩⟩⟩
  obtain ⟨M, N, S, PL, RA, hM, hC, hMT⟩ := hS.cts
  obtain ⟨many, rfl⟩ : ∃ many : Nat, t = many := ⟨t.toNat, by omega⟩
  have hT : MTS h M N S := ⟨hC.1, by rw [hS.1.2.2]; exact hM, hMT⟩
  have hM8 := hC.1
  rw [hM]
  refine C_search (many := many) (by omega) h hC (fun h1 b f1 hb => ?_)
  have hN : NK h h1 := fun d hd => f1 d (by unfold SIMcell at hd; omega) (by unfold SIMcell at hd; omega)
  have hS1 := hN.sim hS
  have e0 : h1 0 9 = M := by rw [hN.c0]; exact hM
  have hT1 : MTS h1 M N S := hT.of (f1 73 (by decide) (by decide)) (f1 74 (by decide) (by decide)) (by rw [f1 72 (by decide) (by decide)])
  refine S_X10_longestIn_37 ?_
  rw [e0]
  rcases hb with ⟨hb, hno⟩ | ⟨hl, hb⟩
  · refine ⟨fun _ => ⟨by omega, PX.bad 1 hS hN rfl fun kc ks Q X hS' k => M_longestIn h1 hT1 ⟨by omega, by omega⟩ (fun h2 b2 p2 L2 hB _ => absurd hB.1 (hno _ _ _)) (fun _ h2 m y => k 0 h2 m y)⟩, fun w => absurd w (by omega)⟩
  · obtain ⟨⟨hb0, hb1⟩, hb2, ⟨hb3, hb4⟩, -⟩ := id hb.1
    have hCb := (hC.low (h' := h1) (fun d d0 d1 => f1 d (by omega) (by omega))).2 b hb0 hb1
    obtain ⟨t0, n64, hn, e1, e2, e3, hs, hSA, hcm⟩ := id hCb
    have ha : ta b + 1 ≠ 2 ∧ ta b + 1 ≠ 3 := by unfold ta; omega
    refine ⟨fun w => absurd w (by omega), fun _ => ⟨fun _ => ⟨by omega, ?_⟩, fun w => absurd w (by omega)⟩⟩
    refine C_hold (a1 := ta b + 1) (tr_sg t0) hb3 (by omega) (by omega) (by omega) (by omega) ha (fun k k0 k1 => by rw [e1]; have := hs (h1 15 1 + k) (by omega) (by omega); omega) (fun h' hf h21 h3 => S_X10_longestIn_90 ?_)
    rw [h21]
    rw [e1] at h3
    refine GM.raw fun kc ks Q X k => ?_
    obtain ⟨g, hg⟩ : ∃ g : Hh, g = am_st h' 81 0 (h1 15 2) := ⟨_, rfl⟩
    rw [← hg]
    have g81 : g 81 = am_st h' 81 0 (h1 15 2) 81 := by rw [hg]
    rw [← g81] at k
    have gf : ∀ d, d ≠ 2 → d ≠ 3 → d ≠ 81 → g d = h1 d := fun d d1 d2 d3 => by rw [hg, am_st_o d3]; exact hf d d1 d2
    have hTg : MTS g M N S := hT1.of (gf 73 (by decide) (by decide) (by decide)) (gf 74 (by decide) (by decide) (by decide)) (by rw [gf 72 (by decide) (by decide) (by decide)])
    refine M_longestIn g hTg ⟨by omega, by omega⟩ (fun h2 b2 p2 L2 hB hR => ?_) (fun hno => absurd hb.1 (hno _ _ _))
    have e := BW_one hb hB
    have eL : (L2 : Int) = h1 15 2 := by omega
    rw [eL] at hR ⊢
    refine k h2 hR.2.2.1 (hR.1 81 (by decide) (by decide) (by decide) (by decide)) (RW.sim hS1 gf ?_ ?_ (by omega) (by omega) (fun i i0 i1 => ?_) hR)
    · rw [hg, am_st_o (by decide)]; exact h21
    · intro i i0 i1
      have := e.2 i.toNat (by omega)
      rw [show ((i.toNat : Nat) : Int) = i by omega] at this
      rw [hg, am_st_o (by decide), h3 i i0 i1, this]
    · have b2 := hTg.2.2 b2 hB.1.1.1 hB.1.1.2
      have := hB.1.2.2.1
      exact Or.inr (b2.2.2.2.1 (p2 + i) (by omega) (by omega))

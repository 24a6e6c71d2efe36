/-! THE SAME WORLD, TOLD BY OTHER REFERENCES -/
theorem am_ofn {c : ClassId} {N : Nat} {f g : Nat → Value} (h : ∀ j, j < N → f j = g j) : arrV c N f = arrV c N g := by
  unfold arrV
  have e : (fun j : Fin N => f j.val) = (fun j : Fin N => g j.val) := funext fun j => h j.val j.isLt
  rw [e]
theorem am_at_congr {D : va_G} {B q : Nat} {cA : Nat → ClassId} {kd : Nat × Nat} {r r' : Int → Option Nat} {h : Int → Int} {H : Heap} (hr : ∀ i : Nat, i < kd.2 → r i = r' i) (hp : va_at D am_cl (q, am_cell B cA kd r h) H) : va_at D am_cl (q, am_cell B cA kd r' h) H := by
  obtain ⟨t, N⟩ := kd
  unfold am_cell at hp ⊢
  dsimp only at hp ⊢ hr
  by_cases h0 : t = 0
  · rw [if_pos h0] at hp ⊢
    exact hp
  rw [if_neg h0] at hp ⊢
  by_cases h1 : t = 1
  · rw [if_pos h1] at hp ⊢
    exact hp
  rw [if_neg h1] at hp ⊢
  by_cases h2 : t = 2
  · rw [if_pos h2] at hp ⊢
    exact hp
  rw [if_neg h2] at hp ⊢
  by_cases h3 : t = 3
  · rw [if_pos h3] at hp ⊢
    exact hp
  rw [if_neg h3] at hp ⊢
  by_cases h4 : t = 4
  · rw [if_pos h4] at hp ⊢
    change H[q]? = some (vp_cell (cA 4) (N, .inr (.inr (.inr (.inr (fun i => (r i).map (B + ·))))))) at hp
    show H[q]? = some (vp_cell (cA 4) (N, .inr (.inr (.inr (.inr (fun i => (r' i).map (B + ·)))))))
    rw [vp_cell_q] at hp ⊢
    rw [hp]
    exact congrArg some (am_ofn fun j hj => by rw [hr j hj])
  rw [if_neg h4] at hp ⊢
  by_cases h5 : t = 5
  · rw [if_pos h5] at hp ⊢
    change H[q]? = some (vp_cell (cA 5) (N, .inr (.inr (.inr (.inr (fun i => (r i).map (B + ·))))))) at hp
    show H[q]? = some (vp_cell (cA 5) (N, .inr (.inr (.inr (.inr (fun i => (r' i).map (B + ·)))))))
    rw [vp_cell_q] at hp ⊢
    rw [hp]
    exact congrArg some (am_ofn fun j hj => by rw [hr j hj])
  rw [if_neg h5] at hp ⊢
  have e : (List.range N).map (fun (k : Nat) => am_fv B (t - 10) k (r k) (h k)) = (List.range N).map (fun (k : Nat) => am_fv B (t - 10) k (r' k) (h k)) := by
    apply List.map_congr_left
    intro k hk
    rw [hr k (List.mem_range.mp hk)]
  rw [← e]
  exact hp
theorem am_HR.rho {D : va_G} {cA : Nat → ClassId} {B : Nat} {g0 g1 : Int → Int} {ρ ρ' : Rho} {h : Hh} {H : Heap} (hR : am_HR D cA B g0 g1 ρ h H) (h1 : ρ'.1 = ρ.1) (h2 : ρ'.2.2 = true → ρ.2.2 = true) (hb : ∀ (a : Nat) (i : Int) (x : Nat), ρ'.2.1 a i = some x → x < 1000) (hr : ∀ (a : Nat) (kd : Nat × Nat), ρ.1[a]? = some kd → 4 ≤ kd.1 → ∀ i : Nat, i < kd.2 → ρ.2.1 a i = ρ'.2.1 a i) : am_HR D cA B g0 g1 ρ' h H := by
  obtain ⟨q1, q2, q3, q4, q5, q6, q7⟩ := hR
  refine ⟨fun k q hq => ?_, fun z => by rw [h1]; exact q2 (h2 z), by rw [h1]; exact q3, hb, by rw [h1]; exact q5, q6, q7⟩
  unfold am_w at hq
  rw [List.getElem?_mapIdx, h1] at hq
  cases hz : ρ.1[k]? with
  | none => rw [hz] at hq; cases hq
  | some kd =>
    rw [hz] at hq
    cases hq
    have h9 := q1 k _ (am_w_get (B := B) (cA := cA) (h := h) hz)
    by_cases ht : 4 ≤ kd.1
    · exact am_at_congr (hr k kd hz ht) h9
    · obtain ⟨t, N⟩ := kd
      have ht : ¬ 4 ≤ t := ht
      have e : ∀ r : Int → Option Nat, am_cell B cA (t, N) r (h k) = am_cell B cA (t, N) (ρ.2.1 k) (h k) := by
        intro r
        unfold am_cell
        dsimp only
        rcases (show t = 0 ∨ t = 1 ∨ t = 2 ∨ t = 3 by omega) with rfl | rfl | rfl | rfl <;> rfl
      show va_at D am_cl (B + k, am_cell B cA (t, N) (ρ'.2.1 k) (h k)) H
      rw [e]
      exact h9
theorem v_rho {m : MInfo} {kc ks pc : Nat} {E st : List AV} {ρ : Rho} (ρ' : Rho) {h : Hh} {Q : PQ} {X : PX} (h1 : ρ'.1 = ρ.1) (h2 : ρ'.2.2 = true → ρ.2.2 = true) (hb : ∀ (a : Nat) (i : Int) (x : Nat), ρ'.2.1 a i = some x → x < 1000) (hr : ∀ (a : Nat) (kd : Nat × Nat), ρ.1[a]? = some kd → 4 ≤ kd.1 → ∀ i : Nat, i < kd.2 → ρ.2.1 a i = ρ'.2.1 a i) (k : am_V m kc ks pc E st ρ' h Q X) : am_V m kc ks pc E st ρ h Q X := by
  intro l p e R s q args below meth c D cA B b g0 g1 Z H locs cells slots ls hC hZ hR
  exact k l p e R s q args below meth c D cA B b g0 g1 Z H locs cells slots ls hC hZ (hR.rho h1 h2 hb hr)
def am_eqr (L : List (Nat × Nat)) (r r' : Nat → Int → Option Nat) : Bool := (List.range L.length).all fun a => match L[a]? with
  | some kd => Nat.blt kd.1 4 || (List.range kd.2).all fun i => r a i == r' a i
  | none => true
theorem am_eqr_use {L : List (Nat × Nat)} {r r' : Nat → Int → Option Nat} (h : am_eqr L r r' = true) (a : Nat) (kd : Nat × Nat) (ha : L[a]? = some kd) (ht : 4 ≤ kd.1) (i : Nat) (hi : i < kd.2) : r a i = r' a i := by
  have h1 := List.all_eq_true.mp h a (List.mem_range.mpr (List.getElem?_eq_some_iff.mp ha).1)
  rw [ha] at h1
  simp only [Bool.or_eq_true] at h1
  rcases h1 with h1 | h1
  · have := Nat.blt_eq.mp h1
    omega
  · exact eq_of_beq (List.all_eq_true.mp h1 i (List.mem_range.mpr hi))
theorem am_r0_lt (a : Nat) (j : Int) (x : Nat) (h : am_r0 a j = some x) : x < 1000 := by
  unfold am_r0 at h
  cases h1 : Nat.ble 32 a && Nat.ble a 71 with
  | true =>
    rw [h1] at h
    cases h2 : Nat.ble j.toNat 3 with
    | true =>
      rw [h2] at h
      simp only [Bool.and_eq_true] at h1
      have e1 := Nat.le_of_ble_eq_true h1.2
      have e2 := Nat.le_of_ble_eq_true h2
      simp only [cond_true, Option.some.injEq] at h
      omega
    | false => rw [h2] at h; simp at h
  | false =>
    rw [h1] at h
    simp only [cond_false] at h
    have hm : ∀ b : Nat, ∀ y ∈ am_rt9 b, y < 1000 := by
      intro b
      unfold am_rt9
      split <;> decide +kernel
    exact hm a x (List.mem_of_getElem? h)
/-! NEW CELLS BEHIND THE STEADY WORLD -/
theorem am_lenL0 : am_L0.length = 72 := rfl
theorem v_newIW {m : MInfo} {kc ks pc : Nat} {E st : List AV} {WM : List (Nat × Nat)} {h : Hh} {Q : PQ} {X : PX} {x : Int} (hd : decode (am_cc m) pc = .ok (.newarray .int, 2)) (harr : Cond.arrayClass .int ∈ am_W0) (h0 : (0 : Int) ≤ x) (h1 : x ≤ 3000) (hl : WM.length < 900) (hz : ∀ i, h (72 + WM.length) i = 0) (hkc : 1 ≤ kc) (hks : x.toNat ≤ ks) (k : am_V m (kc - 1) (ks - x.toNat) (pc + 2) E (aR (72 + WM.length) :: st) (RM (WM ++ [(0, x.toNat)]) true) h Q X) : am_V m kc ks pc E (aI x :: st) (RM WM true) h Q X := by
  have hl9 : (RM WM true).1.length = 72 + WM.length := by
    show (am_L0 ++ WM).length = _
    rw [List.length_append, am_lenL0]
  refine v_newI x.toNat hd harr (by omega) (by omega) rfl (by rw [hl9]; omega) (by rw [hl9]; exact hz) hkc hks ?_
  rw [hl9]
  have e : (((RM WM true).1 ++ [(0, x.toNat)], (RM WM true).2.1, true) : Rho) = RM (WM ++ [(0, x.toNat)]) true := by
    show ((am_L0 ++ WM) ++ [(0, x.toNat)], am_r0, true) = (am_L0 ++ (WM ++ [(0, x.toNat)]), am_r0, true)
    rw [List.append_assoc]
  rw [e]
  exact k
theorem v_newCW {m : MInfo} {kc ks pc : Nat} {E st : List AV} {WM : List (Nat × Nat)} {h : Hh} {Q : PQ} {X : PX} {x : Int} (hd : decode (am_cc m) pc = .ok (.newarray .char, 2)) (harr : Cond.arrayClass .char ∈ am_W0) (h0 : (0 : Int) ≤ x) (h1 : x ≤ 3000) (hl : WM.length < 900) (hz : ∀ i, h (72 + WM.length) i = 0) (hkc : 1 ≤ kc) (hks : x.toNat ≤ ks) (k : am_V m (kc - 1) (ks - x.toNat) (pc + 2) E (aR (72 + WM.length) :: st) (RM (WM ++ [(1, x.toNat)]) true) h Q X) : am_V m kc ks pc E (aI x :: st) (RM WM true) h Q X := by
  have hl9 : (RM WM true).1.length = 72 + WM.length := by
    show (am_L0 ++ WM).length = _
    rw [List.length_append, am_lenL0]
  refine v_newC x.toNat hd harr (by omega) (by omega) rfl (by rw [hl9]; omega) (by rw [hl9]; exact hz) hkc hks ?_
  rw [hl9]
  have e : (((RM WM true).1 ++ [(1, x.toNat)], (RM WM true).2.1, true) : Rho) = RM (WM ++ [(1, x.toNat)]) true := by
    show ((am_L0 ++ WM) ++ [(1, x.toNat)], am_r0, true) = (am_L0 ++ (WM ++ [(1, x.toNat)]), am_r0, true)
    rw [List.append_assoc]
  rw [e]
  exact k

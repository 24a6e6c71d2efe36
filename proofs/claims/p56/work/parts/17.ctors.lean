/-! THE CONSTRUCTORS -/
theorem am_len1 {L : List (Nat × Nat)} {k : Nat × Nat} {n : Nat} (hn : L.length = n) : (L ++ [k]).length = n + 1 := by rw [List.length_append, hn]; rfl
theorem am_old {L M : List (Nat × Nat)} {a : Nat} {k : Nat × Nat} (h : L[a]? = some k) : (L ++ M)[a]? = some k := by
  rw [List.getElem?_append_left (List.getElem?_eq_some_iff.mp h).1]
  exact h
theorem am_last {L : List (Nat × Nat)} {k : Nat × Nat} {n : Nat} (hn : L.length = n) : (L ++ [k])[n]? = some k := by
  rw [List.getElem?_append_right (by omega), hn, Nat.sub_self]
  rfl
theorem w_newI {m : MInfo} {kc ks pc n : Nat} {E st : List AV} {L : List (Nat × Nat)} {r : Nat → Int → Option Nat} {h : Hh} {Q : PQ} {X : PX} (N : Nat) {x : Int} (hn : L.length = n) (hd : decode (am_cc m) pc = .ok (.newarray .int, 2)) (harr : Cond.arrayClass .int ∈ am_W0) (hx : x = (N : Int)) (hN : N ≤ 3000) (hl : n < 1000) (hz : ∀ i, h n i = 0) (hkc : 1 ≤ kc) (hks : N ≤ ks)
    (k : am_V m (kc - 1) (ks - N) (pc + 2) E (aR n :: st) (L ++ [(0, N)], r, true) h Q X) : am_V m kc ks pc E (aI x :: st) (L, r, true) h Q X := by
  subst hn
  exact v_newI N hd harr hx hN rfl hl hz hkc hks k
theorem w_newC {m : MInfo} {kc ks pc n : Nat} {E st : List AV} {L : List (Nat × Nat)} {r : Nat → Int → Option Nat} {h : Hh} {Q : PQ} {X : PX} (N : Nat) {x : Int} (hn : L.length = n) (hd : decode (am_cc m) pc = .ok (.newarray .char, 2)) (harr : Cond.arrayClass .char ∈ am_W0) (hx : x = (N : Int)) (hN : N ≤ 3000) (hl : n < 1000) (hz : ∀ i, h n i = 0) (hkc : 1 ≤ kc) (hks : N ≤ ks)
    (k : am_V m (kc - 1) (ks - N) (pc + 2) E (aR n :: st) (L ++ [(1, N)], r, true) h Q X) : am_V m kc ks pc E (aI x :: st) (L, r, true) h Q X := by
  subst hn
  exact v_newC N hd harr hx hN rfl hl hz hkc hks k
theorem w_new {m : MInfo} {kc ks pc n : Nat} {E st : List AV} {L : List (Nat × Nat)} {r : Nat → Int → Option Nat} {h : Hh} {Q : PQ} {X : PX} {idx ci N : Nat} (hn : L.length = n) (hd : decode (am_cc m) pc = .ok (.new idx, 3)) (hnw : am_NW (am_own m) idx ci N) (hl : n < 1000) (hz : ∀ i, h n i = 0) (hr : ∀ i, r n i = none) (hkc : 1 ≤ kc) (hks : N ≤ ks)
    (k : am_V m (kc - 1) (ks - N) (pc + 3) E (aR n :: st) (L ++ [(10 + ci, N)], r, true) h Q X) : am_V m kc ks pc E st (L, r, true) h Q X := by
  subst hn
  exact v_new hd am_clsA hnw rfl hl hz hr hkc hks k
theorem w_newT {m : MInfo} {kc ks pc n : Nat} {E st : List AV} {L : List (Nat × Nat)} {r : Nat → Int → Option Nat} {h : Hh} {Q : PQ} {X : PX} {idx : Nat} (N : Nat) {x : Int} (hn : L.length = n) (hd : decode (am_cc m) pc = .ok (.anewarray idx, 3)) (hlk : Cond.classLink (am_own m) idx RX6 ∈ am_W0) (hx : x = (N : Int)) (hN : N ≤ 3000) (hl : n < 1000) (hz : ∀ i, h n i = 0) (hr : ∀ i, r n i = none) (hkc : 1 ≤ kc) (hks : N ≤ ks)
    (k : am_V m (kc - 1) (ks - N) (pc + 3) E (aR n :: st) (L ++ [(4, N)], r, true) h Q X) : am_V m kc ks pc E (aI x :: st) (L, r, true) h Q X := by
  subst hn
  exact v_newT N hd hlk hx hN rfl hl hz hr hkc hks k
theorem w_multi {m : MInfo} {kc ks pc n : Nat} {E st : List AV} {L : List (Nat × Nat)} {r : Nat → Int → Option Nat} {h : Hh} {Q : PQ} {X : PX} {idx : Nat} (hn : L.length = n) (hd : decode (am_cc m) pc = .ok (.multianewarray idx 2, 4)) (hlk : Cond.classLink (am_own m) idx "[[I" ∈ am_W0) (harr : Cond.arrayClass .int ∈ am_W0) (hl : n + 9 ≤ 999) (hz : ∀ (k : Nat) (i : Int), k < 9 → h (n + k) i = 0) (hr : ∀ i, r n i = none) (hkc : 9 ≤ kc) (hks : 520 ≤ ks)
    (k : am_V m (kc - 9) (ks - 520) (pc + 4) E (aR n :: st) (L ++ [(5, 8), (0, 64), (0, 64), (0, 64), (0, 64), (0, 64), (0, 64), (0, 64), (0, 64)], am_mr r n, true) h Q X) : am_V m kc ks pc E (aI 64 :: aI 8 :: st) (L, r, true) h Q X := by
  subst hn
  exact v_multi hd hlk harr rfl hl hz hr hkc hks k
theorem ac_int : Cond.arrayClass .int ∈ am_W0 := am_mem_1 67 (by decide +kernel) rfl
theorem ac_char : Cond.arrayClass .char ∈ am_W0 := am_mem_1 50 (by decide +kernel) rfl
theorem am_srN {r : Nat → Int → Option Nat} {a b x : Nat} {i j : Int} (hn : b ≠ a) (h : r b i = none) : am_sr r a j x b i = none := (if_neg fun z => hn z.1).trans h
theorem am_nine {L : List (Nat × Nat)} {n : Nat} {k : Nat × Nat} {M : List (Nat × Nat)} (hn : L.length = n) : (L ++ k :: M)[n]? = some k := by
  rw [List.getElem?_append_right (by omega), hn, Nat.sub_self]
  rfl
theorem oi_X0_1 : am_OI RX0 1 := ⟨am_mem_1 137 (by decide +kernel) rfl, am_mem_1 29 (by decide +kernel) rfl, am_mem_1 30 (by decide +kernel) rfl⟩
theorem L_X0_init {a : Nat} {ρ : Rho} {h : Hh} {Q : PQ} {X : PX} (hQ : Q [] ρ h) : am_V M_X0_init (am_kc M_X0_init) (am_ks M_X0_init) 0 [aR a] [] ρ h Q X := by
  refine v_aload_n dX0_init_0 rfl rfl ?_
  refine v_objI dX0_init_1 oi_X0_1 (Nat.le_of_ble_eq_true rfl) (Nat.le_of_ble_eq_true rfl) ?_
  exact v_vret dX0_init_4 rfl rfl hQ
theorem oi_X1_3 : am_OI RX1 3 := ⟨am_mem_1 56 (by decide +kernel) rfl, am_mem_1 29 (by decide +kernel) rfl, am_mem_1 30 (by decide +kernel) rfl⟩
theorem pr_X1_9 : am_PR RX1 9 0 0 3 := ⟨RX1, TX1, .array .int, rfl, by decide, am_mem_1 57 (by decide +kernel) rfl, rfl, rfl, by decide +kernel, fun _ => ⟨rfl, rfl⟩, by decide +kernel⟩
theorem pr_X1_15 : am_PR RX1 15 0 1 3 := ⟨RX1, TX1, .array .int, rfl, by decide, am_mem_1 58 (by decide +kernel) rfl, rfl, rfl, by decide +kernel, fun _ => ⟨rfl, rfl⟩, by decide +kernel⟩
theorem pr_X1_18 : am_PR RX1 18 0 2 3 := ⟨RX1, TX1, .array .int, rfl, by decide, am_mem_1 59 (by decide +kernel) rfl, rfl, rfl, by decide +kernel, fun _ => ⟨rfl, rfl⟩, by decide +kernel⟩
theorem L_X1_init {a n : Nat} {L : List (Nat × Nat)} {r : Nat → Int → Option Nat} {h : Hh} {Q : PQ} {X : PX} (hn : L.length = n) (hl : n + 3 ≤ 990) (hk : L[a]? = some (10, 3)) (hz : ∀ (b : Nat) (i : Int), n ≤ b → b < 1000 → h b i = 0) (hQ : Q [] (L ++ [(0, 65)] ++ [(0, 64)] ++ [(0, 64)], (am_sr (am_sr (am_sr r a 0 n) a 1 (n + 1)) a 2 (n + 2)), true) h) : am_V M_X1_init (am_kc M_X1_init) (am_ks M_X1_init) 0 [aR a] [] (L, r, true) h Q X := by
  refine v_aload_n dX1_init_0 rfl rfl ?_
  refine v_objI dX1_init_1 oi_X1_3 (Nat.le_of_ble_eq_true rfl) (Nat.le_of_ble_eq_true rfl) ?_
  refine v_aload_n dX1_init_4 rfl rfl ?_
  refine v_bipush dX1_init_5 (by decide) (by decide) ?_
  refine w_newI (n := n) 65 hn dX1_init_7 ac_int rfl (by decide) (by omega) (fun i => hz n i (by omega) (by omega)) (Nat.le_of_ble_eq_true rfl) (Nat.le_of_ble_eq_true rfl) ?_
  refine v_putR (j := 0) (kx := (0, 65)) dX1_init_9 pr_X1_9 am_clsA rfl rfl rfl rfl (am_old hk) (am_last hn) ?_
  refine v_aload_n dX1_init_12 rfl rfl ?_
  refine v_bipush dX1_init_13 (by decide) (by decide) ?_
  refine w_newI (n := (n + 1)) 64 (am_len1 hn) dX1_init_15 ac_int rfl (by decide) (by omega) (fun i => hz (n + 1) i (by omega) (by omega)) (Nat.le_of_ble_eq_true rfl) (Nat.le_of_ble_eq_true rfl) ?_
  refine v_putR (j := 1) (kx := (0, 64)) dX1_init_17 pr_X1_15 am_clsA rfl rfl rfl rfl (am_old (am_old hk)) (am_last (am_len1 hn)) ?_
  refine v_aload_n dX1_init_20 rfl rfl ?_
  refine v_bipush dX1_init_21 (by decide) (by decide) ?_
  refine w_newI (n := (n + 2)) 64 (am_len1 (am_len1 hn)) dX1_init_23 ac_int rfl (by decide) (by omega) (fun i => hz (n + 2) i (by omega) (by omega)) (Nat.le_of_ble_eq_true rfl) (Nat.le_of_ble_eq_true rfl) ?_
  refine v_putR (j := 2) (kx := (0, 64)) dX1_init_25 pr_X1_18 am_clsA rfl rfl rfl rfl (am_old (am_old (am_old hk))) (am_last (am_len1 (am_len1 hn))) ?_
  exact v_vret dX1_init_28 rfl rfl hQ
theorem il_X2_3 : Cond.methodLinkNest RX2 3 yX0_init "Suffixshelf" ∈ am_W1 ∧ Cond.instanceMethod yX0_init ∈ am_W0 := ⟨am_mem1_1 144 (by decide +kernel) rfl, am_mem_1 135 (by decide +kernel) rfl⟩
theorem pr_X2_9 : am_PR RX2 9 1 0 1 := ⟨RX2, TX2, .array .int, rfl, by decide, am_mem_1 145 (by decide +kernel) rfl, rfl, rfl, by decide +kernel, fun _ => ⟨rfl, rfl⟩, by decide +kernel⟩
theorem L_X2_init {a n : Nat} {L : List (Nat × Nat)} {r : Nat → Int → Option Nat} {h : Hh} {Q : PQ} {X : PX} (hn : L.length = n) (hl : n + 1 ≤ 990) (hk : L[a]? = some (11, 1)) (hz : ∀ (b : Nat) (i : Int), n ≤ b → b < 1000 → h b i = 0) (hQ : Q [] (L ++ [(0, 65)], (am_sr r a 0 n), true) h) : am_V M_X2_init (am_kc M_X2_init) (am_ks M_X2_init) 0 [aR a] [] (L, r, true) h Q X := by
  refine v_aload_n dX2_init_0 rfl rfl ?_
  refine v_callIN (j := M_X0_init) (E0 := [aR a]) dX2_init_1 il_X2_3 rfl J_X0_init rfl (Nat.le_of_ble_eq_true rfl) (Nat.le_of_ble_eq_true rfl) (Nat.le_of_ble_eq_true rfl) rfl (Nat.le_of_ble_eq_true rfl) (Nat.le_of_ble_eq_true rfl) rfl (List.getElem?_eq_some_iff.mp hk).1 (by decide +kernel) ?_
  refine L_X0_init ?_
  show am_V M_X2_init _ _ 4 [aR a] [] _ h Q X
  refine v_aload_n dX2_init_4 rfl rfl ?_
  refine v_bipush dX2_init_5 (by decide) (by decide) ?_
  refine w_newI (n := n) 65 hn dX2_init_7 ac_int rfl (by decide) (by omega) (fun i => hz n i (by omega) (by omega)) (Nat.le_of_ble_eq_true rfl) (Nat.le_of_ble_eq_true rfl) ?_
  refine v_putR (j := 0) (kx := (0, 65)) dX2_init_9 pr_X2_9 am_clsA rfl rfl rfl rfl (am_old hk) (am_last hn) ?_
  exact v_vret dX2_init_12 rfl rfl hQ
theorem il_X3_1 : Cond.methodLinkNest RX3 1 yX0_init "Suffixshelf" ∈ am_W1 ∧ Cond.instanceMethod yX0_init ∈ am_W0 := ⟨am_mem1_1 134 (by decide +kernel) rfl, am_mem_1 135 (by decide +kernel) rfl⟩
theorem L_X3_init {a : Nat} {L : List (Nat × Nat)} {r : Nat → Int → Option Nat} {h : Hh} {Q : PQ} {X : PX} (hk : L[a]? = some (12, 0)) (hQ : Q [] (L, r, true) h) : am_V M_X3_init (am_kc M_X3_init) (am_ks M_X3_init) 0 [aR a] [] (L, r, true) h Q X := by
  refine v_aload_n dX3_init_0 rfl rfl ?_
  refine v_callIN (j := M_X0_init) (E0 := [aR a]) dX3_init_1 il_X3_1 rfl J_X0_init rfl (Nat.le_of_ble_eq_true rfl) (Nat.le_of_ble_eq_true rfl) (Nat.le_of_ble_eq_true rfl) rfl (Nat.le_of_ble_eq_true rfl) (Nat.le_of_ble_eq_true rfl) rfl (List.getElem?_eq_some_iff.mp hk).1 (by decide +kernel) ?_
  refine L_X0_init ?_
  show am_V M_X3_init _ _ 4 [aR a] [] _ h Q X
  exact v_vret dX3_init_4 rfl rfl hQ
theorem oi_X5_3 : am_OI RX5 3 := ⟨am_mem_1 96 (by decide +kernel) rfl, am_mem_1 29 (by decide +kernel) rfl, am_mem_1 30 (by decide +kernel) rfl⟩
theorem pr_X5_11 : am_PR RX5 11 3 0 3 := ⟨RX5, TX5, .array (.array .int), rfl, by decide, am_mem_1 99 (by decide +kernel) rfl, rfl, rfl, by decide +kernel, fun _ => ⟨rfl, rfl⟩, by decide +kernel⟩
theorem L_X5_init {a n : Nat} {L : List (Nat × Nat)} {r : Nat → Int → Option Nat} {h : Hh} {Q : PQ} {X : PX} (hn : L.length = n) (hl : n + 9 ≤ 990) (hk : L[a]? = some (13, 3)) (hz : ∀ (b : Nat) (i : Int), n ≤ b → b < 1000 → h b i = 0) (hr : ∀ (b : Nat) (i : Int), n ≤ b → r b i = none) (hQ : Q [] (L ++ [(5, 8), (0, 64), (0, 64), (0, 64), (0, 64), (0, 64), (0, 64), (0, 64), (0, 64)], (am_sr (am_mr r n) a 0 n), true) h) : am_V M_X5_init (am_kc M_X5_init) (am_ks M_X5_init) 0 [aR a] [] (L, r, true) h Q X := by
  refine v_aload_n dX5_init_0 rfl rfl ?_
  refine v_objI dX5_init_1 oi_X5_3 (Nat.le_of_ble_eq_true rfl) (Nat.le_of_ble_eq_true rfl) ?_
  refine v_aload_n dX5_init_4 rfl rfl ?_
  refine v_bipush dX5_init_5 (by decide) (by decide) ?_
  refine v_bipush dX5_init_7 (by decide) (by decide) ?_
  refine w_multi (n := n) hn dX5_init_9 (am_mem_1 97 (by decide +kernel) rfl) ac_int (by omega) (fun k i hk => hz (n + k) i (by omega) (by omega)) (fun i => hr n i (by omega)) (Nat.le_of_ble_eq_true rfl) (Nat.le_of_ble_eq_true rfl) ?_
  refine v_putR (j := 0) (kx := (5, 8)) dX5_init_13 pr_X5_11 am_clsA rfl rfl rfl rfl (am_old hk) (am_nine hn) ?_
  exact v_vret dX5_init_16 rfl rfl hQ
theorem oi_X6_3 : am_OI RX6 3 := ⟨am_mem_1 153 (by decide +kernel) rfl, am_mem_1 29 (by decide +kernel) rfl, am_mem_1 30 (by decide +kernel) rfl⟩
theorem pr_X6_9 : am_PR RX6 9 4 0 5 := ⟨RX6, TX6, .array .char, rfl, by decide, am_mem_1 154 (by decide +kernel) rfl, rfl, rfl, by decide +kernel, fun _ => ⟨rfl, rfl⟩, by decide +kernel⟩
theorem pr_X6_15 : am_PR RX6 15 4 1 5 := ⟨RX6, TX6, .array .int, rfl, by decide, am_mem_1 161 (by decide +kernel) rfl, rfl, rfl, by decide +kernel, fun _ => ⟨rfl, rfl⟩, by decide +kernel⟩
theorem pr_X6_19 : am_PR RX6 19 4 2 5 := ⟨RX6, TX6, .array .int, rfl, by decide, am_mem_1 165 (by decide +kernel) rfl, rfl, rfl, by decide +kernel, fun _ => ⟨rfl, rfl⟩, by decide +kernel⟩
theorem pr_X6_22 : am_PR RX6 22 4 3 5 := ⟨RX6, TX6, .array .int, rfl, by decide, am_mem_1 170 (by decide +kernel) rfl, rfl, rfl, by decide +kernel, fun _ => ⟨rfl, rfl⟩, by decide +kernel⟩
theorem L_X6_init {a n : Nat} {L : List (Nat × Nat)} {r : Nat → Int → Option Nat} {h : Hh} {Q : PQ} {X : PX} (hn : L.length = n) (hl : n + 4 ≤ 990) (hk : L[a]? = some (14, 5)) (hz : ∀ (b : Nat) (i : Int), n ≤ b → b < 1000 → h b i = 0) (hQ : Q [] (L ++ [(1, 64)] ++ [(0, 64)] ++ [(0, 64)] ++ [(0, 64)], (am_sr (am_sr (am_sr (am_sr r a 0 n) a 1 (n + 1)) a 2 (n + 2)) a 3 (n + 3)), true) h) : am_V M_X6_init (am_kc M_X6_init) (am_ks M_X6_init) 0 [aR a] [] (L, r, true) h Q X := by
  refine v_aload_n dX6_init_0 rfl rfl ?_
  refine v_objI dX6_init_1 oi_X6_3 (Nat.le_of_ble_eq_true rfl) (Nat.le_of_ble_eq_true rfl) ?_
  refine v_aload_n dX6_init_4 rfl rfl ?_
  refine v_bipush dX6_init_5 (by decide) (by decide) ?_
  refine w_newC (n := n) 64 hn dX6_init_7 ac_char rfl (by decide) (by omega) (fun i => hz n i (by omega) (by omega)) (Nat.le_of_ble_eq_true rfl) (Nat.le_of_ble_eq_true rfl) ?_
  refine v_putR (j := 0) (kx := (1, 64)) dX6_init_9 pr_X6_9 am_clsA rfl rfl rfl rfl (am_old hk) (am_last hn) ?_
  refine v_aload_n dX6_init_12 rfl rfl ?_
  refine v_bipush dX6_init_13 (by decide) (by decide) ?_
  refine w_newI (n := (n + 1)) 64 (am_len1 hn) dX6_init_15 ac_int rfl (by decide) (by omega) (fun i => hz (n + 1) i (by omega) (by omega)) (Nat.le_of_ble_eq_true rfl) (Nat.le_of_ble_eq_true rfl) ?_
  refine v_putR (j := 1) (kx := (0, 64)) dX6_init_17 pr_X6_15 am_clsA rfl rfl rfl rfl (am_old (am_old hk)) (am_last (am_len1 hn)) ?_
  refine v_aload_n dX6_init_20 rfl rfl ?_
  refine v_bipush dX6_init_21 (by decide) (by decide) ?_
  refine w_newI (n := (n + 2)) 64 (am_len1 (am_len1 hn)) dX6_init_23 ac_int rfl (by decide) (by omega) (fun i => hz (n + 2) i (by omega) (by omega)) (Nat.le_of_ble_eq_true rfl) (Nat.le_of_ble_eq_true rfl) ?_
  refine v_putR (j := 2) (kx := (0, 64)) dX6_init_25 pr_X6_19 am_clsA rfl rfl rfl rfl (am_old (am_old (am_old hk))) (am_last (am_len1 (am_len1 hn))) ?_
  refine v_aload_n dX6_init_28 rfl rfl ?_
  refine v_bipush dX6_init_29 (by decide) (by decide) ?_
  refine w_newI (n := (n + 3)) 64 (am_len1 (am_len1 (am_len1 hn))) dX6_init_31 ac_int rfl (by decide) (by omega) (fun i => hz (n + 3) i (by omega) (by omega)) (Nat.le_of_ble_eq_true rfl) (Nat.le_of_ble_eq_true rfl) ?_
  refine v_putR (j := 3) (kx := (0, 64)) dX6_init_33 pr_X6_22 am_clsA rfl rfl rfl rfl (am_old (am_old (am_old (am_old hk)))) (am_last (am_len1 (am_len1 (am_len1 hn)))) ?_
  exact v_vret dX6_init_36 rfl rfl hQ
theorem oi_X7_3 : am_OI RX7 3 := ⟨am_mem_1 73 (by decide +kernel) rfl, am_mem_1 29 (by decide +kernel) rfl, am_mem_1 30 (by decide +kernel) rfl⟩
theorem pr_X7_9 : am_PR RX7 9 5 0 5 := ⟨RX7, TX7, .array .char, rfl, by decide, am_mem_1 74 (by decide +kernel) rfl, rfl, rfl, by decide +kernel, fun _ => ⟨rfl, rfl⟩, by decide +kernel⟩
theorem pr_X7_15 : am_PR RX7 15 5 1 5 := ⟨RX7, TX7, .array .char, rfl, by decide, am_mem_1 76 (by decide +kernel) rfl, rfl, rfl, by decide +kernel, fun _ => ⟨rfl, rfl⟩, by decide +kernel⟩
theorem pr_X7_18 : am_PR RX7 18 5 2 5 := ⟨RX7, TX7, .array .int, rfl, by decide, am_mem_1 77 (by decide +kernel) rfl, rfl, rfl, by decide +kernel, fun _ => ⟨rfl, rfl⟩, by decide +kernel⟩
theorem pr_X7_22 : am_PR RX7 22 5 3 5 := ⟨RX7, TX7, .array .int, rfl, by decide, am_mem_1 78 (by decide +kernel) rfl, rfl, rfl, by decide +kernel, fun _ => ⟨rfl, rfl⟩, by decide +kernel⟩
theorem pr_X7_25 : am_PR RX7 25 5 4 5 := ⟨RX7, TX7, .array .char, rfl, by decide, am_mem_1 79 (by decide +kernel) rfl, rfl, rfl, by decide +kernel, fun _ => ⟨rfl, rfl⟩, by decide +kernel⟩
theorem L_X7_init {a n : Nat} {L : List (Nat × Nat)} {r : Nat → Int → Option Nat} {h : Hh} {Q : PQ} {X : PX} (hn : L.length = n) (hl : n + 5 ≤ 990) (hk : L[a]? = some (15, 5)) (hz : ∀ (b : Nat) (i : Int), n ≤ b → b < 1000 → h b i = 0) (hQ : Q [] (L ++ [(1, 64)] ++ [(1, 65)] ++ [(0, 65)] ++ [(0, 28)] ++ [(1, 27)], (am_sr (am_sr (am_sr (am_sr (am_sr r a 0 n) a 1 (n + 1)) a 2 (n + 2)) a 3 (n + 3)) a 4 (n + 4)), true) h) : am_V M_X7_init (am_kc M_X7_init) (am_ks M_X7_init) 0 [aR a] [] (L, r, true) h Q X := by
  refine v_aload_n dX7_init_0 rfl rfl ?_
  refine v_objI dX7_init_1 oi_X7_3 (Nat.le_of_ble_eq_true rfl) (Nat.le_of_ble_eq_true rfl) ?_
  refine v_aload_n dX7_init_4 rfl rfl ?_
  refine v_bipush dX7_init_5 (by decide) (by decide) ?_
  refine w_newC (n := n) 64 hn dX7_init_7 ac_char rfl (by decide) (by omega) (fun i => hz n i (by omega) (by omega)) (Nat.le_of_ble_eq_true rfl) (Nat.le_of_ble_eq_true rfl) ?_
  refine v_putR (j := 0) (kx := (1, 64)) dX7_init_9 pr_X7_9 am_clsA rfl rfl rfl rfl (am_old hk) (am_last hn) ?_
  refine v_aload_n dX7_init_12 rfl rfl ?_
  refine v_bipush dX7_init_13 (by decide) (by decide) ?_
  refine w_newC (n := (n + 1)) 65 (am_len1 hn) dX7_init_15 ac_char rfl (by decide) (by omega) (fun i => hz (n + 1) i (by omega) (by omega)) (Nat.le_of_ble_eq_true rfl) (Nat.le_of_ble_eq_true rfl) ?_
  refine v_putR (j := 1) (kx := (1, 65)) dX7_init_17 pr_X7_15 am_clsA rfl rfl rfl rfl (am_old (am_old hk)) (am_last (am_len1 hn)) ?_
  refine v_aload_n dX7_init_20 rfl rfl ?_
  refine v_bipush dX7_init_21 (by decide) (by decide) ?_
  refine w_newI (n := (n + 2)) 65 (am_len1 (am_len1 hn)) dX7_init_23 ac_int rfl (by decide) (by omega) (fun i => hz (n + 2) i (by omega) (by omega)) (Nat.le_of_ble_eq_true rfl) (Nat.le_of_ble_eq_true rfl) ?_
  refine v_putR (j := 2) (kx := (0, 65)) dX7_init_25 pr_X7_18 am_clsA rfl rfl rfl rfl (am_old (am_old (am_old hk))) (am_last (am_len1 (am_len1 hn))) ?_
  refine v_aload_n dX7_init_28 rfl rfl ?_
  refine v_bipush dX7_init_29 (by decide) (by decide) ?_
  refine w_newI (n := (n + 3)) 28 (am_len1 (am_len1 (am_len1 hn))) dX7_init_31 ac_int rfl (by decide) (by omega) (fun i => hz (n + 3) i (by omega) (by omega)) (Nat.le_of_ble_eq_true rfl) (Nat.le_of_ble_eq_true rfl) ?_
  refine v_putR (j := 3) (kx := (0, 28)) dX7_init_33 pr_X7_22 am_clsA rfl rfl rfl rfl (am_old (am_old (am_old (am_old hk)))) (am_last (am_len1 (am_len1 (am_len1 hn)))) ?_
  refine v_aload_n dX7_init_36 rfl rfl ?_
  refine v_bipush dX7_init_37 (by decide) (by decide) ?_
  refine w_newC (n := (n + 4)) 27 (am_len1 (am_len1 (am_len1 (am_len1 hn)))) dX7_init_39 ac_char rfl (by decide) (by omega) (fun i => hz (n + 4) i (by omega) (by omega)) (Nat.le_of_ble_eq_true rfl) (Nat.le_of_ble_eq_true rfl) ?_
  refine v_putR (j := 4) (kx := (1, 27)) dX7_init_41 pr_X7_25 am_clsA rfl rfl rfl rfl (am_old (am_old (am_old (am_old (am_old hk))))) (am_last (am_len1 (am_len1 (am_len1 (am_len1 hn))))) ?_
  exact v_vret dX7_init_44 rfl rfl hQ
theorem oi_X8_3 : am_OI RX8 3 := ⟨am_mem_1 38 (by decide +kernel) rfl, am_mem_1 29 (by decide +kernel) rfl, am_mem_1 30 (by decide +kernel) rfl⟩
theorem pr_X8_9 : am_PR RX8 9 6 0 2 := ⟨RX8, TX8, .array .char, rfl, by decide, am_mem_1 39 (by decide +kernel) rfl, rfl, rfl, by decide +kernel, fun _ => ⟨rfl, rfl⟩, by decide +kernel⟩
theorem L_X8_init {a n : Nat} {L : List (Nat × Nat)} {r : Nat → Int → Option Nat} {h : Hh} {Q : PQ} {X : PX} (hn : L.length = n) (hl : n + 1 ≤ 990) (hk : L[a]? = some (16, 2)) (hz : ∀ (b : Nat) (i : Int), n ≤ b → b < 1000 → h b i = 0) (hQ : Q [] (L ++ [(1, 65)], (am_sr r a 0 n), true) h) : am_V M_X8_init (am_kc M_X8_init) (am_ks M_X8_init) 0 [aR a] [] (L, r, true) h Q X := by
  refine v_aload_n dX8_init_0 rfl rfl ?_
  refine v_objI dX8_init_1 oi_X8_3 (Nat.le_of_ble_eq_true rfl) (Nat.le_of_ble_eq_true rfl) ?_
  refine v_aload_n dX8_init_4 rfl rfl ?_
  refine v_bipush dX8_init_5 (by decide) (by decide) ?_
  refine w_newC (n := n) 65 hn dX8_init_7 ac_char rfl (by decide) (by omega) (fun i => hz n i (by omega) (by omega)) (Nat.le_of_ble_eq_true rfl) (Nat.le_of_ble_eq_true rfl) ?_
  refine v_putR (j := 0) (kx := (1, 65)) dX8_init_9 pr_X8_9 am_clsA rfl rfl rfl rfl (am_old hk) (am_last hn) ?_
  exact v_vret dX8_init_12 rfl rfl hQ
theorem oi_X9_3 : am_OI RX9 3 := ⟨am_mem_1 112 (by decide +kernel) rfl, am_mem_1 29 (by decide +kernel) rfl, am_mem_1 30 (by decide +kernel) rfl⟩
theorem pr_X9_11 : am_PR RX9 11 7 0 5 := ⟨RX9, TX9, .array .char, rfl, by decide, am_mem_1 113 (by decide +kernel) rfl, rfl, rfl, by decide +kernel, fun _ => ⟨rfl, rfl⟩, by decide +kernel⟩
theorem pr_X9_15 : am_PR RX9 15 7 1 5 := ⟨RX9, TX9, .array .int, rfl, by decide, am_mem_1 114 (by decide +kernel) rfl, rfl, rfl, by decide +kernel, fun _ => ⟨rfl, rfl⟩, by decide +kernel⟩
theorem pr_X9_19 : am_PR RX9 19 7 2 5 := ⟨RX9, TX9, .array .int, rfl, by decide, am_mem_1 115 (by decide +kernel) rfl, rfl, rfl, by decide +kernel, fun _ => ⟨rfl, rfl⟩, by decide +kernel⟩
theorem L_X9_init {a n : Nat} {L : List (Nat × Nat)} {r : Nat → Int → Option Nat} {h : Hh} {Q : PQ} {X : PX} (hn : L.length = n) (hl : n + 3 ≤ 990) (hk : L[a]? = some (17, 5)) (hz : ∀ (b : Nat) (i : Int), n ≤ b → b < 1000 → h b i = 0) (hQ : Q [] (L ++ [(1, 2081)] ++ [(0, 2081)] ++ [(0, 2081)], (am_sr (am_sr (am_sr r a 0 n) a 1 (n + 1)) a 2 (n + 2)), true) h) : am_V M_X9_init (am_kc M_X9_init) (am_ks M_X9_init) 0 [aR a] [] (L, r, true) h Q X := by
  refine v_aload_n dX9_init_0 rfl rfl ?_
  refine v_objI dX9_init_1 oi_X9_3 (Nat.le_of_ble_eq_true rfl) (Nat.le_of_ble_eq_true rfl) ?_
  refine v_aload_n dX9_init_4 rfl rfl ?_
  refine v_sipush dX9_init_5 (by decide) (by decide) ?_
  refine w_newC (n := n) 2081 hn dX9_init_8 ac_char rfl (by decide) (by omega) (fun i => hz n i (by omega) (by omega)) (Nat.le_of_ble_eq_true rfl) (Nat.le_of_ble_eq_true rfl) ?_
  refine v_putR (j := 0) (kx := (1, 2081)) dX9_init_10 pr_X9_11 am_clsA rfl rfl rfl rfl (am_old hk) (am_last hn) ?_
  refine v_aload_n dX9_init_13 rfl rfl ?_
  refine v_sipush dX9_init_14 (by decide) (by decide) ?_
  refine w_newI (n := (n + 1)) 2081 (am_len1 hn) dX9_init_17 ac_int rfl (by decide) (by omega) (fun i => hz (n + 1) i (by omega) (by omega)) (Nat.le_of_ble_eq_true rfl) (Nat.le_of_ble_eq_true rfl) ?_
  refine v_putR (j := 1) (kx := (0, 2081)) dX9_init_19 pr_X9_15 am_clsA rfl rfl rfl rfl (am_old (am_old hk)) (am_last (am_len1 hn)) ?_
  refine v_aload_n dX9_init_22 rfl rfl ?_
  refine v_sipush dX9_init_23 (by decide) (by decide) ?_
  refine w_newI (n := (n + 2)) 2081 (am_len1 (am_len1 hn)) dX9_init_26 ac_int rfl (by decide) (by omega) (fun i => hz (n + 2) i (by omega) (by omega)) (Nat.le_of_ble_eq_true rfl) (Nat.le_of_ble_eq_true rfl) ?_
  refine v_putR (j := 2) (kx := (0, 2081)) dX9_init_28 pr_X9_19 am_clsA rfl rfl rfl rfl (am_old (am_old (am_old hk))) (am_last (am_len1 (am_len1 hn))) ?_
  exact v_vret dX9_init_31 rfl rfl hQ
theorem oi_X10_1 : am_OI RX10 1 := ⟨am_mem_1 28 (by decide +kernel) rfl, am_mem_1 29 (by decide +kernel) rfl, am_mem_1 30 (by decide +kernel) rfl⟩
theorem pr_X10_11 : am_PR RX10 11 8 0 10 := ⟨RX10, TX10, .array (.object "Suffixshelf$Text"), rfl, by decide, am_mem_1 194 (by decide +kernel) rfl, rfl, rfl, by decide +kernel, fun _ => ⟨rfl, rfl⟩, by decide +kernel⟩
theorem nw_X10_15 : am_NW RX10 15 6 2 := by
  refine ⟨RX8, TX8, rfl, am_mem_1 33 (by decide +kernel) rfl, am_mem_1 34 (by decide +kernel) rfl, ini_X8, ?_⟩
  exact by
    intro j hj
    match j, hj with
    | 0, _ => exact ⟨.array .char, by decide +kernel, rfl⟩
    | 1, _ => exact ⟨.int, by decide +kernel, rfl⟩
theorem il_X10_17 : Cond.methodLinkNest RX10 17 yX8_init "Suffixshelf" ∈ am_W1 ∧ Cond.instanceMethod yX8_init ∈ am_W0 := ⟨am_mem1_1 35 (by decide +kernel) rfl, am_mem_1 36 (by decide +kernel) rfl⟩
theorem pr_X10_18 : am_PR RX10 18 8 1 10 := ⟨RX10, TX10, .object "Suffixshelf$TypedRow", rfl, by decide, am_mem_1 195 (by decide +kernel) rfl, rfl, rfl, by decide +kernel, fun _ => ⟨rfl, rfl⟩, by decide +kernel⟩
theorem pr_X10_22 : am_PR RX10 22 8 2 10 := ⟨RX10, TX10, .array .char, rfl, by decide, am_mem_1 196 (by decide +kernel) rfl, rfl, rfl, by decide +kernel, fun _ => ⟨rfl, rfl⟩, by decide +kernel⟩
theorem nw_X10_26 : am_NW RX10 26 0 3 := by
  refine ⟨RX1, TX1, rfl, am_mem_1 51 (by decide +kernel) rfl, am_mem_1 52 (by decide +kernel) rfl, ini_X1, ?_⟩
  exact by
    intro j hj
    match j, hj with
    | 0, _ => exact ⟨.array .int, by decide +kernel, rfl⟩
    | 1, _ => exact ⟨.array .int, by decide +kernel, rfl⟩
    | 2, _ => exact ⟨.array .int, by decide +kernel, rfl⟩
theorem il_X10_28 : Cond.methodLinkNest RX10 28 yX1_init "Suffixshelf" ∈ am_W1 ∧ Cond.instanceMethod yX1_init ∈ am_W0 := ⟨am_mem1_1 53 (by decide +kernel) rfl, am_mem_1 54 (by decide +kernel) rfl⟩
theorem pr_X10_29 : am_PR RX10 29 8 3 10 := ⟨RX10, TX10, .object "Suffixshelf$EndSorter", rfl, by decide, am_mem_1 197 (by decide +kernel) rfl, rfl, rfl, by decide +kernel, fun _ => ⟨rfl, rfl⟩, by decide +kernel⟩
theorem nw_X10_33 : am_NW RX10 33 5 5 := by
  refine ⟨RX7, TX7, rfl, am_mem_1 68 (by decide +kernel) rfl, am_mem_1 69 (by decide +kernel) rfl, ini_X7, ?_⟩
  exact by
    intro j hj
    match j, hj with
    | 0, _ => exact ⟨.array .char, by decide +kernel, rfl⟩
    | 1, _ => exact ⟨.array .char, by decide +kernel, rfl⟩
    | 2, _ => exact ⟨.array .int, by decide +kernel, rfl⟩
    | 3, _ => exact ⟨.array .int, by decide +kernel, rfl⟩
    | 4, _ => exact ⟨.array .char, by decide +kernel, rfl⟩
theorem il_X10_35 : Cond.methodLinkNest RX10 35 yX7_init "Suffixshelf" ∈ am_W1 ∧ Cond.instanceMethod yX7_init ∈ am_W0 := ⟨am_mem1_1 70 (by decide +kernel) rfl, am_mem_1 71 (by decide +kernel) rfl⟩
theorem pr_X10_36 : am_PR RX10 36 8 4 10 := ⟨RX10, TX10, .object "Suffixshelf$Turner", rfl, by decide, am_mem_1 198 (by decide +kernel) rfl, rfl, rfl, by decide +kernel, fun _ => ⟨rfl, rfl⟩, by decide +kernel⟩
theorem nw_X10_40 : am_NW RX10 40 3 3 := by
  refine ⟨RX5, TX5, rfl, am_mem_1 91 (by decide +kernel) rfl, am_mem_1 92 (by decide +kernel) rfl, ini_X5, ?_⟩
  exact by
    intro j hj
    match j, hj with
    | 0, _ => exact ⟨.array (.array .int), by decide +kernel, rfl⟩
    | 1, _ => exact ⟨.int, by decide +kernel, rfl⟩
    | 2, _ => exact ⟨.int, by decide +kernel, rfl⟩
theorem il_X10_42 : Cond.methodLinkNest RX10 42 yX5_init "Suffixshelf" ∈ am_W1 ∧ Cond.instanceMethod yX5_init ∈ am_W0 := ⟨am_mem1_1 93 (by decide +kernel) rfl, am_mem_1 94 (by decide +kernel) rfl⟩
theorem pr_X10_43 : am_PR RX10 43 8 5 10 := ⟨RX10, TX10, .object "Suffixshelf$SharedWord", rfl, by decide, am_mem_1 199 (by decide +kernel) rfl, rfl, rfl, by decide +kernel, fun _ => ⟨rfl, rfl⟩, by decide +kernel⟩
theorem nw_X10_47 : am_NW RX10 47 7 5 := by
  refine ⟨RX9, TX9, rfl, am_mem_1 107 (by decide +kernel) rfl, am_mem_1 108 (by decide +kernel) rfl, ini_X9, ?_⟩
  exact by
    intro j hj
    match j, hj with
    | 0, _ => exact ⟨.array .char, by decide +kernel, rfl⟩
    | 1, _ => exact ⟨.array .int, by decide +kernel, rfl⟩
    | 2, _ => exact ⟨.array .int, by decide +kernel, rfl⟩
    | 3, _ => exact ⟨.int, by decide +kernel, rfl⟩
    | 4, _ => exact ⟨.int, by decide +kernel, rfl⟩
theorem il_X10_49 : Cond.methodLinkNest RX10 49 yX9_init "Suffixshelf" ∈ am_W1 ∧ Cond.instanceMethod yX9_init ∈ am_W0 := ⟨am_mem1_1 109 (by decide +kernel) rfl, am_mem_1 110 (by decide +kernel) rfl⟩
theorem pr_X10_50 : am_PR RX10 50 8 6 10 := ⟨RX10, TX10, .object "Suffixshelf$WordTree", rfl, by decide, am_mem_1 200 (by decide +kernel) rfl, rfl, rfl, by decide +kernel, fun _ => ⟨rfl, rfl⟩, by decide +kernel⟩
theorem nw_X10_54 : am_NW RX10 54 2 0 := by
  refine ⟨RX3, TX3, rfl, am_mem_1 129 (by decide +kernel) rfl, am_mem_1 130 (by decide +kernel) rfl, ini_X3, ?_⟩
  exact fun j hj => absurd hj (Nat.not_lt_zero _)
theorem il_X10_56 : Cond.methodLinkNest RX10 56 yX3_init "Suffixshelf" ∈ am_W1 ∧ Cond.instanceMethod yX3_init ∈ am_W0 := ⟨am_mem1_1 131 (by decide +kernel) rfl, am_mem_1 132 (by decide +kernel) rfl⟩
theorem pr_X10_57 : am_PR RX10 57 8 7 10 := ⟨RX10, TX10, .object "Suffixshelf$PartCutter", rfl, by decide, am_mem_1 201 (by decide +kernel) rfl, rfl, rfl, by decide +kernel, fun _ => ⟨rfl, rfl⟩, by decide +kernel⟩
theorem nw_X10_61 : am_NW RX10 61 1 1 := by
  refine ⟨RX2, TX2, rfl, am_mem_1 139 (by decide +kernel) rfl, am_mem_1 140 (by decide +kernel) rfl, ini_X2, ?_⟩
  exact by
    intro j hj
    match j, hj with
    | 0, _ => exact ⟨.array .int, by decide +kernel, rfl⟩
theorem il_X10_63 : Cond.methodLinkNest RX10 63 yX2_init "Suffixshelf" ∈ am_W1 ∧ Cond.instanceMethod yX2_init ∈ am_W0 := ⟨am_mem1_1 141 (by decide +kernel) rfl, am_mem_1 142 (by decide +kernel) rfl⟩
theorem pr_X10_64 : am_PR RX10 64 8 8 10 := ⟨RX10, TX10, .object "Suffixshelf$Packer", rfl, by decide, am_mem_1 202 (by decide +kernel) rfl, rfl, rfl, by decide +kernel, fun _ => ⟨rfl, rfl⟩, by decide +kernel⟩
theorem nw_X10_9 : am_NW RX10 9 4 5 := by
  refine ⟨RX6, TX6, rfl, am_mem_1 31 (by decide +kernel) rfl, am_mem_1 149 (by decide +kernel) rfl, ini_X6, ?_⟩
  exact by
    intro j hj
    match j, hj with
    | 0, _ => exact ⟨.array .char, by decide +kernel, rfl⟩
    | 1, _ => exact ⟨.array .int, by decide +kernel, rfl⟩
    | 2, _ => exact ⟨.array .int, by decide +kernel, rfl⟩
    | 3, _ => exact ⟨.array .int, by decide +kernel, rfl⟩
    | 4, _ => exact ⟨.int, by decide +kernel, rfl⟩
theorem il_X10_68 : Cond.methodLinkNest RX10 68 yX6_init "Suffixshelf" ∈ am_W1 ∧ Cond.instanceMethod yX6_init ∈ am_W0 := ⟨am_mem1_1 150 (by decide +kernel) rfl, am_mem_1 151 (by decide +kernel) rfl⟩
theorem L_X10_init {h : Hh} {Q : PQ} {X : PX} (hz : ∀ (b : Nat) (i : Int), 1 ≤ b → b < 1000 → h b i = 0) (hQ : Q [] ([(18, 10)] ++ [(4, 8)] ++ [(16, 2)] ++ [(1, 65)] ++ [(1, 8)] ++ [(10, 3)] ++ [(0, 65)] ++ [(0, 64)] ++ [(0, 64)] ++ [(15, 5)] ++ [(1, 64)] ++ [(1, 65)] ++ [(0, 65)] ++ [(0, 28)] ++ [(1, 27)] ++ [(13, 3)] ++ [(5, 8), (0, 64), (0, 64), (0, 64), (0, 64), (0, 64), (0, 64), (0, 64), (0, 64)] ++ [(17, 5)] ++ [(1, 2081)] ++ [(0, 2081)] ++ [(0, 2081)] ++ [(12, 0)] ++ [(11, 1)] ++ [(0, 65)] ++ [(14, 5)] ++ [(1, 64)] ++ [(0, 64)] ++ [(0, 64)] ++ [(0, 64)] ++ [(14, 5)] ++ [(1, 64)] ++ [(0, 64)] ++ [(0, 64)] ++ [(0, 64)] ++ [(14, 5)] ++ [(1, 64)] ++ [(0, 64)] ++ [(0, 64)] ++ [(0, 64)] ++ [(14, 5)] ++ [(1, 64)] ++ [(0, 64)] ++ [(0, 64)] ++ [(0, 64)] ++ [(14, 5)] ++ [(1, 64)] ++ [(0, 64)] ++ [(0, 64)] ++ [(0, 64)] ++ [(14, 5)] ++ [(1, 64)] ++ [(0, 64)] ++ [(0, 64)] ++ [(0, 64)] ++ [(14, 5)] ++ [(1, 64)] ++ [(0, 64)] ++ [(0, 64)] ++ [(0, 64)] ++ [(14, 5)] ++ [(1, 64)] ++ [(0, 64)] ++ [(0, 64)] ++ [(0, 64)], (am_sr (am_sr (am_sr (am_sr (am_sr (am_sr (am_sr (am_sr (am_sr (am_sr (am_sr (am_sr (am_sr (am_sr (am_sr (am_sr (am_sr (am_sr (am_sr (am_sr (am_sr (am_sr (am_sr (am_sr (am_sr (am_sr (am_sr (am_sr (am_sr (am_sr (am_sr (am_sr (am_sr (am_sr (am_sr (am_sr (am_sr (am_sr (am_sr (am_sr (am_sr (am_sr (am_sr (am_sr (am_sr (am_sr (am_sr (am_sr (am_sr (am_mr (am_sr (am_sr (am_sr (am_sr (am_sr (am_sr (am_sr (am_sr (am_sr (am_sr (am_sr (am_sr (am_sr (am_sr (fun _ _ => none) 0 0 1) 2 0 3) 0 1 2) 0 2 4) 5 0 6) 5 1 7) 5 2 8) 0 3 5) 9 0 10) 9 1 11) 9 2 12) 9 3 13) 9 4 14) 0 4 9) 16) 15 0 16) 0 5 15) 25 0 26) 25 1 27) 25 2 28) 0 6 25) 0 7 29) 30 0 31) 0 8 30) 32 0 33) 32 1 34) 32 2 35) 32 3 36) 1 0 32) 37 0 38) 37 1 39) 37 2 40) 37 3 41) 1 1 37) 42 0 43) 42 1 44) 42 2 45) 42 3 46) 1 2 42) 47 0 48) 47 1 49) 47 2 50) 47 3 51) 1 3 47) 52 0 53) 52 1 54) 52 2 55) 52 3 56) 1 4 52) 57 0 58) 57 1 59) 57 2 60) 57 3 61) 1 5 57) 62 0 63) 62 1 64) 62 2 65) 62 3 66) 1 6 62) 67 0 68) 67 1 69) 67 2 70) 67 3 71) 1 7 67), true) h) : am_V M_X10_init (am_kc M_X10_init) (am_ks M_X10_init) 0 [aR 0, aU] [] ([(18, 10)], fun _ _ => none, true) h Q X := by
  refine v_aload_n dX10_init_0 rfl rfl ?_
  refine v_objI dX10_init_1 oi_X10_1 (Nat.le_of_ble_eq_true rfl) (Nat.le_of_ble_eq_true rfl) ?_
  refine v_aload_n dX10_init_4 rfl rfl ?_
  refine v_bipush dX10_init_5 (by decide) (by decide) ?_
  refine w_newT (n := 1) 8 rfl dX10_init_7 (am_mem_1 31 (by decide +kernel) rfl) rfl (by decide) (by decide) (fun i => hz 1 i (by decide) (by decide)) (fun i => rfl) (Nat.le_of_ble_eq_true rfl) (Nat.le_of_ble_eq_true rfl) ?_
  refine v_putR (j := 0) (kx := (4, 8)) dX10_init_10 pr_X10_11 am_clsA rfl rfl rfl rfl rfl rfl ?_
  refine v_aload_n dX10_init_13 rfl rfl ?_
  refine w_new (n := 2) (ci := 6) (N := 2) rfl dX10_init_14 nw_X10_15 (by decide) (fun i => hz 2 i (by decide) (by decide)) (fun i => rfl) (Nat.le_of_ble_eq_true rfl) (Nat.le_of_ble_eq_true rfl) ?_
  refine v_dupR dX10_init_17 ?_
  refine v_callIN (j := M_X8_init) (E0 := [aR 2]) dX10_init_18 il_X10_17 rfl J_X8_init rfl (Nat.le_of_ble_eq_true rfl) (Nat.le_of_ble_eq_true rfl) (Nat.le_of_ble_eq_true rfl) rfl (Nat.le_of_ble_eq_true rfl) (Nat.le_of_ble_eq_true rfl) rfl (by decide) (by decide +kernel) ?_
  refine L_X8_init (a := 2) (n := 3) rfl (by decide) rfl (fun b i h1 h2 => hz b i (Nat.le_trans (by decide) h1) h2) ?_
  show am_V M_X10_init _ _ 21 [aR 0, aU] [aR 2, aR 0] _ h Q X
  refine v_putR (j := 1) (kx := (16, 2)) dX10_init_21 pr_X10_18 am_clsA rfl rfl rfl rfl rfl rfl ?_
  refine v_aload_n dX10_init_24 rfl rfl ?_
  refine v_bipush dX10_init_25 (by decide) (by decide) ?_
  refine w_newC (n := 4) 8 rfl dX10_init_27 ac_char rfl (by decide) (by decide) (fun i => hz 4 i (by decide) (by decide)) (Nat.le_of_ble_eq_true rfl) (Nat.le_of_ble_eq_true rfl) ?_
  refine v_putR (j := 2) (kx := (1, 8)) dX10_init_29 pr_X10_22 am_clsA rfl rfl rfl rfl rfl rfl ?_
  refine v_aload_n dX10_init_32 rfl rfl ?_
  refine w_new (n := 5) (ci := 0) (N := 3) rfl dX10_init_33 nw_X10_26 (by decide) (fun i => hz 5 i (by decide) (by decide)) (fun i => rfl) (Nat.le_of_ble_eq_true rfl) (Nat.le_of_ble_eq_true rfl) ?_
  refine v_dupR dX10_init_36 ?_
  refine v_callIN (j := M_X1_init) (E0 := [aR 5]) dX10_init_37 il_X10_28 rfl J_X1_init rfl (Nat.le_of_ble_eq_true rfl) (Nat.le_of_ble_eq_true rfl) (Nat.le_of_ble_eq_true rfl) rfl (Nat.le_of_ble_eq_true rfl) (Nat.le_of_ble_eq_true rfl) rfl (by decide) (by decide +kernel) ?_
  refine L_X1_init (a := 5) (n := 6) rfl (by decide) rfl (fun b i h1 h2 => hz b i (Nat.le_trans (by decide) h1) h2) ?_
  show am_V M_X10_init _ _ 40 [aR 0, aU] [aR 5, aR 0] _ h Q X
  refine v_putR (j := 3) (kx := (10, 3)) dX10_init_40 pr_X10_29 am_clsA rfl rfl rfl rfl rfl rfl ?_
  refine v_aload_n dX10_init_43 rfl rfl ?_
  refine w_new (n := 9) (ci := 5) (N := 5) rfl dX10_init_44 nw_X10_33 (by decide) (fun i => hz 9 i (by decide) (by decide)) (fun i => rfl) (Nat.le_of_ble_eq_true rfl) (Nat.le_of_ble_eq_true rfl) ?_
  refine v_dupR dX10_init_47 ?_
  refine v_callIN (j := M_X7_init) (E0 := [aR 9]) dX10_init_48 il_X10_35 rfl J_X7_init rfl (Nat.le_of_ble_eq_true rfl) (Nat.le_of_ble_eq_true rfl) (Nat.le_of_ble_eq_true rfl) rfl (Nat.le_of_ble_eq_true rfl) (Nat.le_of_ble_eq_true rfl) rfl (by decide) (by decide +kernel) ?_
  refine L_X7_init (a := 9) (n := 10) rfl (by decide) rfl (fun b i h1 h2 => hz b i (Nat.le_trans (by decide) h1) h2) ?_
  show am_V M_X10_init _ _ 51 [aR 0, aU] [aR 9, aR 0] _ h Q X
  refine v_putR (j := 4) (kx := (15, 5)) dX10_init_51 pr_X10_36 am_clsA rfl rfl rfl rfl rfl rfl ?_
  refine v_aload_n dX10_init_54 rfl rfl ?_
  refine w_new (n := 15) (ci := 3) (N := 3) rfl dX10_init_55 nw_X10_40 (by decide) (fun i => hz 15 i (by decide) (by decide)) (fun i => rfl) (Nat.le_of_ble_eq_true rfl) (Nat.le_of_ble_eq_true rfl) ?_
  refine v_dupR dX10_init_58 ?_
  refine v_callIN (j := M_X5_init) (E0 := [aR 15]) dX10_init_59 il_X10_42 rfl J_X5_init rfl (Nat.le_of_ble_eq_true rfl) (Nat.le_of_ble_eq_true rfl) (Nat.le_of_ble_eq_true rfl) rfl (Nat.le_of_ble_eq_true rfl) (Nat.le_of_ble_eq_true rfl) rfl (by decide) (by decide +kernel) ?_
  refine L_X5_init (a := 15) (n := 16) rfl (by decide) rfl (fun b i h1 h2 => hz b i (Nat.le_trans (by decide) h1) h2) (fun b i h1 => by repeat (first | rfl | refine am_srN (by omega) ?_)) ?_
  show am_V M_X10_init _ _ 62 [aR 0, aU] [aR 15, aR 0] _ h Q X
  refine v_putR (j := 5) (kx := (13, 3)) dX10_init_62 pr_X10_43 am_clsA rfl rfl rfl rfl rfl rfl ?_
  refine v_aload_n dX10_init_65 rfl rfl ?_
  refine w_new (n := 25) (ci := 7) (N := 5) rfl dX10_init_66 nw_X10_47 (by decide) (fun i => hz 25 i (by decide) (by decide)) (fun i => rfl) (Nat.le_of_ble_eq_true rfl) (Nat.le_of_ble_eq_true rfl) ?_
  refine v_dupR dX10_init_69 ?_
  refine v_callIN (j := M_X9_init) (E0 := [aR 25]) dX10_init_70 il_X10_49 rfl J_X9_init rfl (Nat.le_of_ble_eq_true rfl) (Nat.le_of_ble_eq_true rfl) (Nat.le_of_ble_eq_true rfl) rfl (Nat.le_of_ble_eq_true rfl) (Nat.le_of_ble_eq_true rfl) rfl (by decide) (by decide +kernel) ?_
  refine L_X9_init (a := 25) (n := 26) rfl (by decide) rfl (fun b i h1 h2 => hz b i (Nat.le_trans (by decide) h1) h2) ?_
  show am_V M_X10_init _ _ 73 [aR 0, aU] [aR 25, aR 0] _ h Q X
  refine v_putR (j := 6) (kx := (17, 5)) dX10_init_73 pr_X10_50 am_clsA rfl rfl rfl rfl rfl rfl ?_
  refine v_aload_n dX10_init_76 rfl rfl ?_
  refine w_new (n := 29) (ci := 2) (N := 0) rfl dX10_init_77 nw_X10_54 (by decide) (fun i => hz 29 i (by decide) (by decide)) (fun i => rfl) (Nat.le_of_ble_eq_true rfl) (Nat.le_of_ble_eq_true rfl) ?_
  refine v_dupR dX10_init_80 ?_
  refine v_callIN (j := M_X3_init) (E0 := [aR 29]) dX10_init_81 il_X10_56 rfl J_X3_init rfl (Nat.le_of_ble_eq_true rfl) (Nat.le_of_ble_eq_true rfl) (Nat.le_of_ble_eq_true rfl) rfl (Nat.le_of_ble_eq_true rfl) (Nat.le_of_ble_eq_true rfl) rfl (by decide) (by decide +kernel) ?_
  refine L_X3_init (a := 29) rfl ?_
  show am_V M_X10_init _ _ 84 [aR 0, aU] [aR 29, aR 0] _ h Q X
  refine v_putR (j := 7) (kx := (12, 0)) dX10_init_84 pr_X10_57 am_clsA rfl rfl rfl rfl rfl rfl ?_
  refine v_aload_n dX10_init_87 rfl rfl ?_
  refine w_new (n := 30) (ci := 1) (N := 1) rfl dX10_init_88 nw_X10_61 (by decide) (fun i => hz 30 i (by decide) (by decide)) (fun i => rfl) (Nat.le_of_ble_eq_true rfl) (Nat.le_of_ble_eq_true rfl) ?_
  refine v_dupR dX10_init_91 ?_
  refine v_callIN (j := M_X2_init) (E0 := [aR 30]) dX10_init_92 il_X10_63 rfl J_X2_init rfl (Nat.le_of_ble_eq_true rfl) (Nat.le_of_ble_eq_true rfl) (Nat.le_of_ble_eq_true rfl) rfl (Nat.le_of_ble_eq_true rfl) (Nat.le_of_ble_eq_true rfl) rfl (by decide) (by decide +kernel) ?_
  refine L_X2_init (a := 30) (n := 31) rfl (by decide) rfl (fun b i h1 h2 => hz b i (Nat.le_trans (by decide) h1) h2) ?_
  show am_V M_X10_init _ _ 95 [aR 0, aU] [aR 30, aR 0] _ h Q X
  refine v_putR (j := 8) (kx := (11, 1)) dX10_init_95 pr_X10_64 am_clsA rfl rfl rfl rfl rfl rfl ?_
  refine v_iconst dX10_init_98 ⟨by decide, by decide⟩ ?_
  refine v_istore_n (E2 := [aR 0, aI 0]) dX10_init_99 rfl (Nat.le_of_ble_eq_true rfl) rfl ?_
  refine v_iload_n dX10_init_100 rfl rfl ?_
  refine v_aload_n dX10_init_101 rfl rfl ?_
  refine v_getR (x := 1) dX10_init_102 fl_X10_11 am_clsA rfl rfl rfl ?_
  refine v_alen (N := 8) dX10_init_105 rfl (by decide) rfl ⟨by decide, by decide⟩ ?_
  refine v_icmp_ge (tgt := 128) dX10_init_106 (by decide) (fun z => absurd z (by decide)) (fun _ => ?_)
  refine v_aload_n dX10_init_109 rfl rfl ?_
  refine v_getR (x := 1) dX10_init_110 fl_X10_11 am_clsA rfl rfl rfl ?_
  refine v_iload_n dX10_init_113 rfl rfl ?_
  refine w_new (n := 32) (ci := 4) (N := 5) rfl dX10_init_114 nw_X10_9 (by decide) (fun i => hz 32 i (by decide) (by decide)) (fun i => rfl) (Nat.le_of_ble_eq_true rfl) (Nat.le_of_ble_eq_true rfl) ?_
  refine v_dupR dX10_init_117 ?_
  refine v_callIN (j := M_X6_init) (E0 := [aR 32]) dX10_init_118 il_X10_68 rfl J_X6_init rfl (Nat.le_of_ble_eq_true rfl) (Nat.le_of_ble_eq_true rfl) (Nat.le_of_ble_eq_true rfl) rfl (Nat.le_of_ble_eq_true rfl) (Nat.le_of_ble_eq_true rfl) rfl (by decide) (by decide +kernel) ?_
  refine L_X6_init (a := 32) (n := 33) rfl (by decide) rfl (fun b i h1 h2 => hz b i (Nat.le_trans (by decide) h1) h2) ?_
  show am_V M_X10_init _ _ 121 [aR 0, aI 0] [aR 32, aI 0, aR 1] _ h Q X
  refine v_astT (N := 8) (n9 := 5) dX10_init_121 rfl rfl ⟨by decide, by decide⟩ ?_
  refine v_iinc (E2 := [aR 0, aI 1]) dX10_init_122 rfl ⟨by decide, by decide⟩ rfl ?_
  refine v_goto (tgt := 100) dX10_init_125 (by decide) ?_
  refine v_iload_n dX10_init_100 rfl rfl ?_
  refine v_aload_n dX10_init_101 rfl rfl ?_
  refine v_getR (x := 1) dX10_init_102 fl_X10_11 am_clsA rfl rfl rfl ?_
  refine v_alen (N := 8) dX10_init_105 rfl (by decide) rfl ⟨by decide, by decide⟩ ?_
  refine v_icmp_ge (tgt := 128) dX10_init_106 (by decide) (fun z => absurd z (by decide)) (fun _ => ?_)
  refine v_aload_n dX10_init_109 rfl rfl ?_
  refine v_getR (x := 1) dX10_init_110 fl_X10_11 am_clsA rfl rfl rfl ?_
  refine v_iload_n dX10_init_113 rfl rfl ?_
  refine w_new (n := 37) (ci := 4) (N := 5) rfl dX10_init_114 nw_X10_9 (by decide) (fun i => hz 37 i (by decide) (by decide)) (fun i => rfl) (Nat.le_of_ble_eq_true rfl) (Nat.le_of_ble_eq_true rfl) ?_
  refine v_dupR dX10_init_117 ?_
  refine v_callIN (j := M_X6_init) (E0 := [aR 37]) dX10_init_118 il_X10_68 rfl J_X6_init rfl (Nat.le_of_ble_eq_true rfl) (Nat.le_of_ble_eq_true rfl) (Nat.le_of_ble_eq_true rfl) rfl (Nat.le_of_ble_eq_true rfl) (Nat.le_of_ble_eq_true rfl) rfl (by decide) (by decide +kernel) ?_
  refine L_X6_init (a := 37) (n := 38) rfl (by decide) rfl (fun b i h1 h2 => hz b i (Nat.le_trans (by decide) h1) h2) ?_
  show am_V M_X10_init _ _ 121 [aR 0, aI 1] [aR 37, aI 1, aR 1] _ h Q X
  refine v_astT (N := 8) (n9 := 5) dX10_init_121 rfl rfl ⟨by decide, by decide⟩ ?_
  refine v_iinc (E2 := [aR 0, aI 2]) dX10_init_122 rfl ⟨by decide, by decide⟩ rfl ?_
  refine v_goto (tgt := 100) dX10_init_125 (by decide) ?_
  refine v_iload_n dX10_init_100 rfl rfl ?_
  refine v_aload_n dX10_init_101 rfl rfl ?_
  refine v_getR (x := 1) dX10_init_102 fl_X10_11 am_clsA rfl rfl rfl ?_
  refine v_alen (N := 8) dX10_init_105 rfl (by decide) rfl ⟨by decide, by decide⟩ ?_
  refine v_icmp_ge (tgt := 128) dX10_init_106 (by decide) (fun z => absurd z (by decide)) (fun _ => ?_)
  refine v_aload_n dX10_init_109 rfl rfl ?_
  refine v_getR (x := 1) dX10_init_110 fl_X10_11 am_clsA rfl rfl rfl ?_
  refine v_iload_n dX10_init_113 rfl rfl ?_
  refine w_new (n := 42) (ci := 4) (N := 5) rfl dX10_init_114 nw_X10_9 (by decide) (fun i => hz 42 i (by decide) (by decide)) (fun i => rfl) (Nat.le_of_ble_eq_true rfl) (Nat.le_of_ble_eq_true rfl) ?_
  refine v_dupR dX10_init_117 ?_
  refine v_callIN (j := M_X6_init) (E0 := [aR 42]) dX10_init_118 il_X10_68 rfl J_X6_init rfl (Nat.le_of_ble_eq_true rfl) (Nat.le_of_ble_eq_true rfl) (Nat.le_of_ble_eq_true rfl) rfl (Nat.le_of_ble_eq_true rfl) (Nat.le_of_ble_eq_true rfl) rfl (by decide) (by decide +kernel) ?_
  refine L_X6_init (a := 42) (n := 43) rfl (by decide) rfl (fun b i h1 h2 => hz b i (Nat.le_trans (by decide) h1) h2) ?_
  show am_V M_X10_init _ _ 121 [aR 0, aI 2] [aR 42, aI 2, aR 1] _ h Q X
  refine v_astT (N := 8) (n9 := 5) dX10_init_121 rfl rfl ⟨by decide, by decide⟩ ?_
  refine v_iinc (E2 := [aR 0, aI 3]) dX10_init_122 rfl ⟨by decide, by decide⟩ rfl ?_
  refine v_goto (tgt := 100) dX10_init_125 (by decide) ?_
  refine v_iload_n dX10_init_100 rfl rfl ?_
  refine v_aload_n dX10_init_101 rfl rfl ?_
  refine v_getR (x := 1) dX10_init_102 fl_X10_11 am_clsA rfl rfl rfl ?_
  refine v_alen (N := 8) dX10_init_105 rfl (by decide) rfl ⟨by decide, by decide⟩ ?_
  refine v_icmp_ge (tgt := 128) dX10_init_106 (by decide) (fun z => absurd z (by decide)) (fun _ => ?_)
  refine v_aload_n dX10_init_109 rfl rfl ?_
  refine v_getR (x := 1) dX10_init_110 fl_X10_11 am_clsA rfl rfl rfl ?_
  refine v_iload_n dX10_init_113 rfl rfl ?_
  refine w_new (n := 47) (ci := 4) (N := 5) rfl dX10_init_114 nw_X10_9 (by decide) (fun i => hz 47 i (by decide) (by decide)) (fun i => rfl) (Nat.le_of_ble_eq_true rfl) (Nat.le_of_ble_eq_true rfl) ?_
  refine v_dupR dX10_init_117 ?_
  refine v_callIN (j := M_X6_init) (E0 := [aR 47]) dX10_init_118 il_X10_68 rfl J_X6_init rfl (Nat.le_of_ble_eq_true rfl) (Nat.le_of_ble_eq_true rfl) (Nat.le_of_ble_eq_true rfl) rfl (Nat.le_of_ble_eq_true rfl) (Nat.le_of_ble_eq_true rfl) rfl (by decide) (by decide +kernel) ?_
  refine L_X6_init (a := 47) (n := 48) rfl (by decide) rfl (fun b i h1 h2 => hz b i (Nat.le_trans (by decide) h1) h2) ?_
  show am_V M_X10_init _ _ 121 [aR 0, aI 3] [aR 47, aI 3, aR 1] _ h Q X
  refine v_astT (N := 8) (n9 := 5) dX10_init_121 rfl rfl ⟨by decide, by decide⟩ ?_
  refine v_iinc (E2 := [aR 0, aI 4]) dX10_init_122 rfl ⟨by decide, by decide⟩ rfl ?_
  refine v_goto (tgt := 100) dX10_init_125 (by decide) ?_
  refine v_iload_n dX10_init_100 rfl rfl ?_
  refine v_aload_n dX10_init_101 rfl rfl ?_
  refine v_getR (x := 1) dX10_init_102 fl_X10_11 am_clsA rfl rfl rfl ?_
  refine v_alen (N := 8) dX10_init_105 rfl (by decide) rfl ⟨by decide, by decide⟩ ?_
  refine v_icmp_ge (tgt := 128) dX10_init_106 (by decide) (fun z => absurd z (by decide)) (fun _ => ?_)
  refine v_aload_n dX10_init_109 rfl rfl ?_
  refine v_getR (x := 1) dX10_init_110 fl_X10_11 am_clsA rfl rfl rfl ?_
  refine v_iload_n dX10_init_113 rfl rfl ?_
  refine w_new (n := 52) (ci := 4) (N := 5) rfl dX10_init_114 nw_X10_9 (by decide) (fun i => hz 52 i (by decide) (by decide)) (fun i => rfl) (Nat.le_of_ble_eq_true rfl) (Nat.le_of_ble_eq_true rfl) ?_
  refine v_dupR dX10_init_117 ?_
  refine v_callIN (j := M_X6_init) (E0 := [aR 52]) dX10_init_118 il_X10_68 rfl J_X6_init rfl (Nat.le_of_ble_eq_true rfl) (Nat.le_of_ble_eq_true rfl) (Nat.le_of_ble_eq_true rfl) rfl (Nat.le_of_ble_eq_true rfl) (Nat.le_of_ble_eq_true rfl) rfl (by decide) (by decide +kernel) ?_
  refine L_X6_init (a := 52) (n := 53) rfl (by decide) rfl (fun b i h1 h2 => hz b i (Nat.le_trans (by decide) h1) h2) ?_
  show am_V M_X10_init _ _ 121 [aR 0, aI 4] [aR 52, aI 4, aR 1] _ h Q X
  refine v_astT (N := 8) (n9 := 5) dX10_init_121 rfl rfl ⟨by decide, by decide⟩ ?_
  refine v_iinc (E2 := [aR 0, aI 5]) dX10_init_122 rfl ⟨by decide, by decide⟩ rfl ?_
  refine v_goto (tgt := 100) dX10_init_125 (by decide) ?_
  refine v_iload_n dX10_init_100 rfl rfl ?_
  refine v_aload_n dX10_init_101 rfl rfl ?_
  refine v_getR (x := 1) dX10_init_102 fl_X10_11 am_clsA rfl rfl rfl ?_
  refine v_alen (N := 8) dX10_init_105 rfl (by decide) rfl ⟨by decide, by decide⟩ ?_
  refine v_icmp_ge (tgt := 128) dX10_init_106 (by decide) (fun z => absurd z (by decide)) (fun _ => ?_)
  refine v_aload_n dX10_init_109 rfl rfl ?_
  refine v_getR (x := 1) dX10_init_110 fl_X10_11 am_clsA rfl rfl rfl ?_
  refine v_iload_n dX10_init_113 rfl rfl ?_
  refine w_new (n := 57) (ci := 4) (N := 5) rfl dX10_init_114 nw_X10_9 (by decide) (fun i => hz 57 i (by decide) (by decide)) (fun i => rfl) (Nat.le_of_ble_eq_true rfl) (Nat.le_of_ble_eq_true rfl) ?_
  refine v_dupR dX10_init_117 ?_
  refine v_callIN (j := M_X6_init) (E0 := [aR 57]) dX10_init_118 il_X10_68 rfl J_X6_init rfl (Nat.le_of_ble_eq_true rfl) (Nat.le_of_ble_eq_true rfl) (Nat.le_of_ble_eq_true rfl) rfl (Nat.le_of_ble_eq_true rfl) (Nat.le_of_ble_eq_true rfl) rfl (by decide) (by decide +kernel) ?_
  refine L_X6_init (a := 57) (n := 58) rfl (by decide) rfl (fun b i h1 h2 => hz b i (Nat.le_trans (by decide) h1) h2) ?_
  show am_V M_X10_init _ _ 121 [aR 0, aI 5] [aR 57, aI 5, aR 1] _ h Q X
  refine v_astT (N := 8) (n9 := 5) dX10_init_121 rfl rfl ⟨by decide, by decide⟩ ?_
  refine v_iinc (E2 := [aR 0, aI 6]) dX10_init_122 rfl ⟨by decide, by decide⟩ rfl ?_
  refine v_goto (tgt := 100) dX10_init_125 (by decide) ?_
  refine v_iload_n dX10_init_100 rfl rfl ?_
  refine v_aload_n dX10_init_101 rfl rfl ?_
  refine v_getR (x := 1) dX10_init_102 fl_X10_11 am_clsA rfl rfl rfl ?_
  refine v_alen (N := 8) dX10_init_105 rfl (by decide) rfl ⟨by decide, by decide⟩ ?_
  refine v_icmp_ge (tgt := 128) dX10_init_106 (by decide) (fun z => absurd z (by decide)) (fun _ => ?_)
  refine v_aload_n dX10_init_109 rfl rfl ?_
  refine v_getR (x := 1) dX10_init_110 fl_X10_11 am_clsA rfl rfl rfl ?_
  refine v_iload_n dX10_init_113 rfl rfl ?_
  refine w_new (n := 62) (ci := 4) (N := 5) rfl dX10_init_114 nw_X10_9 (by decide) (fun i => hz 62 i (by decide) (by decide)) (fun i => rfl) (Nat.le_of_ble_eq_true rfl) (Nat.le_of_ble_eq_true rfl) ?_
  refine v_dupR dX10_init_117 ?_
  refine v_callIN (j := M_X6_init) (E0 := [aR 62]) dX10_init_118 il_X10_68 rfl J_X6_init rfl (Nat.le_of_ble_eq_true rfl) (Nat.le_of_ble_eq_true rfl) (Nat.le_of_ble_eq_true rfl) rfl (Nat.le_of_ble_eq_true rfl) (Nat.le_of_ble_eq_true rfl) rfl (by decide) (by decide +kernel) ?_
  refine L_X6_init (a := 62) (n := 63) rfl (by decide) rfl (fun b i h1 h2 => hz b i (Nat.le_trans (by decide) h1) h2) ?_
  show am_V M_X10_init _ _ 121 [aR 0, aI 6] [aR 62, aI 6, aR 1] _ h Q X
  refine v_astT (N := 8) (n9 := 5) dX10_init_121 rfl rfl ⟨by decide, by decide⟩ ?_
  refine v_iinc (E2 := [aR 0, aI 7]) dX10_init_122 rfl ⟨by decide, by decide⟩ rfl ?_
  refine v_goto (tgt := 100) dX10_init_125 (by decide) ?_
  refine v_iload_n dX10_init_100 rfl rfl ?_
  refine v_aload_n dX10_init_101 rfl rfl ?_
  refine v_getR (x := 1) dX10_init_102 fl_X10_11 am_clsA rfl rfl rfl ?_
  refine v_alen (N := 8) dX10_init_105 rfl (by decide) rfl ⟨by decide, by decide⟩ ?_
  refine v_icmp_ge (tgt := 128) dX10_init_106 (by decide) (fun z => absurd z (by decide)) (fun _ => ?_)
  refine v_aload_n dX10_init_109 rfl rfl ?_
  refine v_getR (x := 1) dX10_init_110 fl_X10_11 am_clsA rfl rfl rfl ?_
  refine v_iload_n dX10_init_113 rfl rfl ?_
  refine w_new (n := 67) (ci := 4) (N := 5) rfl dX10_init_114 nw_X10_9 (by decide) (fun i => hz 67 i (by decide) (by decide)) (fun i => rfl) (Nat.le_of_ble_eq_true rfl) (Nat.le_of_ble_eq_true rfl) ?_
  refine v_dupR dX10_init_117 ?_
  refine v_callIN (j := M_X6_init) (E0 := [aR 67]) dX10_init_118 il_X10_68 rfl J_X6_init rfl (Nat.le_of_ble_eq_true rfl) (Nat.le_of_ble_eq_true rfl) (Nat.le_of_ble_eq_true rfl) rfl (Nat.le_of_ble_eq_true rfl) (Nat.le_of_ble_eq_true rfl) rfl (by decide) (by decide +kernel) ?_
  refine L_X6_init (a := 67) (n := 68) rfl (by decide) rfl (fun b i h1 h2 => hz b i (Nat.le_trans (by decide) h1) h2) ?_
  show am_V M_X10_init _ _ 121 [aR 0, aI 7] [aR 67, aI 7, aR 1] _ h Q X
  refine v_astT (N := 8) (n9 := 5) dX10_init_121 rfl rfl ⟨by decide, by decide⟩ ?_
  refine v_iinc (E2 := [aR 0, aI 8]) dX10_init_122 rfl ⟨by decide, by decide⟩ rfl ?_
  refine v_goto (tgt := 100) dX10_init_125 (by decide) ?_
  refine v_iload_n dX10_init_100 rfl rfl ?_
  refine v_aload_n dX10_init_101 rfl rfl ?_
  refine v_getR (x := 1) dX10_init_102 fl_X10_11 am_clsA rfl rfl rfl ?_
  refine v_alen (N := 8) dX10_init_105 rfl (by decide) rfl ⟨by decide, by decide⟩ ?_
  refine v_icmp_ge (tgt := 128) dX10_init_106 (by decide) (fun _ => ?_) (fun z => absurd z (by decide))
  exact v_vret dX10_init_128 rfl rfl hQ

/-! THE CLAIM OUT OF ONE WALK OF THE LAW'S BODY. Your part is whole_start (and what it stands on); all else here is the same for every law, but numbers. -/
def R_law : String := "SuffixshelfLaw"
def lw_P (b : Addr) (xs : List Int32) (args : Array Value) (s : State) : Prop := args = #[.ref b] ∧ s.IntsAt b xs ∧ xs.length ≤ 260 ∧ (Jvm.Cond.and given_1 narrow_1).before args s = true
def lw_Q (_ : Array Value) (s : State) (o : Outcome) (t : State) : Prop := o = .returned (some (.int 1)) ∧ Framed s o t [] 600156 7296998
def lw_Z (below : List Frame) (a : Array Value) (s : State) : State → Prop := fun t => ∃ o, t.status = .running ∧ Ended t below o ∧ lw_Q a s o t
/-- the law's own end, with 1 on the stack, nothing written that was there before, its room as the claim has it -/
theorem lw_ret {p : Program} {l : Launch} {e : Env} {s : State} {m : MethodId} {below : List Frame} {meth : Method} {c : Code} {b : Nat} (hx : p.tables.exec = Jvm.exec) (hb : c.code = code) (hr : meth.sig.returnType = ret) (hlocks : meth.locks = false) {pc : Nat} {H : Heap} {ls : Array Slot} (hdg : decode code pc = .ok (.ireturn, 1)) : W p l e room_1 s m #[Value.ref b] below meth c H [] 600156 7296998 (lw_Z below #[Value.ref b] s) (F0 m pc ls [.int 1]) := by
  intro T hT X
  obtain ⟨fs, hret, hrun, hended, hW, hframe⟩ := X.leave (v := some (.int 1)) (hlocks := hlocks) (fun h => by rw [hr] at h; cases h)
  have hmeth' : T.vm.method? m = some meth := X.method'
  refine ⟨T.setFrames fs, ?_, .returned (some (.int 1)), hrun, hended, rfl, ⟨_, rfl⟩, hW, hframe⟩
  jvm_step X.here [X.here.top, hx, hb, hdg, hmeth', hr, ret, narrow_b1]
  (try refine ⟨rfl, ?_⟩); (try refine ⟨rfl, ?_⟩)
  first | (intro acts; rw [hret _ acts rfl rfl rfl]) | rw [hret _ _ rfl rfl rfl]
  exact Steps.refl _
/-- what holds at the law's entry: the machine, the code, the tables' words (any of lw_tbl by 'hts w (by decide +kernel)'), the script of L ints xs at the cell b, what the Statement gives of the start (any of its parts by flat_of_before) -/
def lw_At (p : Program) (s : State) (m : MethodId) (meth : Method) (c : Code) (b L : Nat) (xs : Nat → Int32) : Prop :=
  p.tables.exec = Jvm.exec ∧ c.code = code ∧ meth.sig.returnType = ret ∧ c.maxLocals = 16 ∧ s.vm.findClass R_law = some m.cls ∧ (∀ w ∈ lw_tbl, w.before #[Value.ref b] s = true) ∧ va_X b L xs s s.heap ∧ b < s.heap.size ∧ meth.locks = false ∧ (Jvm.Cond.and given_1 narrow_1).before #[Value.ref b] s = true
/-- what must be shown of the law, over the abstract machine -/
def am_Whole : Prop := ∀ (g0 g1 : Int → Int), (∀ j, am_i (g0 j)) → 0 ≤ g1 0 → g1 0 ≤ 260 → am_V M_L_law 600156 7296998 0 [aR 1000, aU, aU, aU, aU, aU, aU, aU, aU, aU, aU, aU, aU, aU, aU, aU] [] am_rho0 (am_h0 g0 g1) (fun v _ _ => v = [aI 1]) (fun _ _ _ => False)
theorem am_exactly {t : Term} {cls : String} {args : Array Value} {s : State} (h : (Cond.exactly t cls).before args s = true) : ∃ a, t.eval args s none [] s = some (.ref a) := by
  simp only [Cond.before, Cond.holds, Cond.value] at h
  cases h1 : t.eval args s none [] s with
  | none => simp [h1] at h
  | some v =>
    cases v with
    | ref a => exact ⟨a, rfl⟩
    | null => cases h2 : s.vm.findClass cls <;> simp [h1, h2] at h
    | _ => simp [h1] at h
def am_strIn (w : Cond) : Bool := match w with
  | .stringRef own k _ => decide (Cond.exactly (.string own k) "java/lang/String" ∈ flatC (Jvm.Cond.and given_1 narrow_1))
  | _ => true
theorem am_strAll : ∀ w ∈ lw_tbl, am_strIn w = true := by decide +kernel
def am_excIn : Bool := am_X6.all fun E1 => am_X6.all fun E2 => E1 == E2 || decide (Cond.not (.castable E1 E2) ∈ flatC (Jvm.Cond.and given_1 narrow_1))
theorem am_excAll : am_excIn = true := by decide +kernel
theorem am_exc {E1 E2 : String} (h1 : E1 ∈ am_X6) (h2 : E2 ∈ am_X6) (hn : E1 ≠ E2) : Cond.not (.castable E1 E2) ∈ flatC (Jvm.Cond.and given_1 narrow_1) := by
  have h3 := List.all_eq_true.mp (List.all_eq_true.mp am_excAll E1 h1) E2 h2
  simpa [hn] using h3
theorem am_arrP {ty : FieldType} {args : Array Value} {s : State} (h : (Cond.arrayClass ty).before args s = true) (hty : ∀ C, ty ≠ .object C) : ∃ cA, ArrOfT s cA ty ∧ va_RA s cA ty := by
  obtain ⟨c, k, comp, h1, h2, h3⟩ := Cond.arrayClass_spec h
  refine ⟨c, fun n z => ⟨fun k h => (by cases h), k, h2, comp, h3⟩, ?_⟩
  cases ty <;> first | exact h1 | exact absurd rfl (hty _)
theorem am_arrO {C : String} {args : Array Value} {s : State} (h : (Cond.arrayOver (.object C)).before args s = true) : ∃ cA, ArrOfT s cA (.object C) ∧ va_RA s cA (.object C) := by
  obtain ⟨comp, c, k, h1, h2, h3, h4, h5⟩ := Cond.arrayOver_spec h
  exact ⟨c, fun n z => ⟨fun k h => (by cases h), k, h3, comp, h4⟩, k, comp, h3, h4, h1, h5⟩
theorem am_arrA {t : FieldType} {args : Array Value} {s : State} (h : (Cond.arrayOver (.array t)).before args s = true) : ∃ cA, ArrOfT s cA (.array t) ∧ va_RA s cA (.array t) := by
  simp only [Cond.before, Cond.holds, Cond.value, beq_iff_eq] at h
  cases hc : s.vm.findClass (FieldType.array t).toString with
  | none => simp [hc] at h
  | some comp =>
    simp only [hc, Option.bind_some, Option.bind_eq_some_iff, Option.map_eq_some_iff] at h
    obtain ⟨c, hi, k, hk, hb⟩ := h
    cases hkind : k.kind with
    | array component ty =>
      rw [hkind] at hb
      simp at hb
      refine ⟨c, fun n z => ⟨fun k h => (by cases h), k, hk, component, by rw [hkind, hb.1]⟩, ?_⟩
      exact hb.2
    | _ => rw [hkind] at hb; simp at hb
theorem am_kn {s : State} {args : Array Value} (hts : ∀ w ∈ lw_tbl, w.before args s = true) {q : vw_C} (hq : q ∈ am_cl) (hi : ∃ n, Cond.instantiable q.1 n ∈ lw_tbl) : ∃ (cC : ClassId) (iS : Nat → Nat), u_Kn s q.1 q.2.1 q.2.2 cC iS := by
  obtain ⟨n, hn⟩ := hi
  exact u_known hts (fun w hw => (List.mem_filter.mp ((am_clsA q hq).1 w hw)).1) (hts _ hn)
theorem am_insts : ∀ q ∈ am_cl, ∃ n, Cond.instantiable q.1 n ∈ lw_tbl := by
  have key : ∀ x ∈ am_cl.map (fun q => (q.1, q.2.2)), Cond.instantiable x.1 x.2 ∈ lw_tbl := by decide +kernel
  intro q hq
  exact ⟨_, key (q.1, q.2.2) (List.mem_map.mpr ⟨q, hq, rfl⟩)⟩
theorem whole_of (HV : am_Whole) {p : Program} {e : Env} {s : State} {m : MethodId} {below : List Frame} {meth : Method} {c : Code} (l : Launch) (hflags : l.flags = flags0) {b L : Nat} {xs : Nat → Int32} (hL : L ≤ 260) (C0 : lw_At p s m meth c b L xs) : W p l e room_1 s m #[Value.ref b] below meth c s.heap [] 0 0 (lw_Z below #[Value.ref b] s) (entryFrame m ([Value.ref b] : List Value).toArray 16) := by
  obtain ⟨hx, hb, hr, hml, hown, hts, hX, hbl, hlocks, hgv⟩ := id C0
  have hfl := flat_of_before _ hgv
  have hst : l.stackTraces = false := by
    unfold Launch.stackTraces
    rw [hflags]
    decide
  have hk : ∀ c : Nat, ∃ (cC : ClassId) (iS : Nat → Nat), ∀ q : vw_C, am_cl[c]? = some q → u_Kn s q.1 q.2.1 q.2.2 cC iS := by
    intro c
    cases hq : am_cl[c]? with
    | none => exact ⟨0, fun _ => 0, fun q h => by cases h⟩
    | some q =>
      have hm := List.mem_of_getElem? hq
      obtain ⟨cC, iS, h1⟩ := am_kn hts hm (am_insts q hm)
      exact ⟨cC, iS, fun q' h => by cases h; exact h1⟩
  obtain ⟨c0, hc0⟩ := am_arrP (hts (.arrayClass .int) (by decide +kernel)) (fun C h => by cases h)
  obtain ⟨c1, hc1⟩ := am_arrP (hts (.arrayClass .char) (by decide +kernel)) (fun C h => by cases h)
  obtain ⟨c4, hc4⟩ := am_arrO (hts (.arrayOver (.object RX6)) (by decide +kernel))
  obtain ⟨c5, hc5⟩ := am_arrA (hts (.arrayOver (.array .int)) (by decide +kernel))
  have hK : va_K (fun c => Classical.choose (hk c), fun c => Classical.choose (Classical.choose_spec (hk c))) am_cl (am_tys (fun k => if k = 0 then c0 else if k = 1 then c1 else if k = 2 then c0 else if k = 3 then c0 else if k = 4 then c4 else c5)) s := by
    refine ⟨fun c q hq => Classical.choose_spec (Classical.choose_spec (hk c)) q hq, fun k q hq => ?_⟩
    match k, hq with
    | 0, hq => cases hq; exact hc0
    | 1, hq => cases hq; exact hc1
    | 2, hq => cases hq; exact hc0
    | 3, hq => cases hq; exact hc0
    | 4, hq => cases hq; exact hc4
    | 5, hq => cases hq; exact hc5
    | k + 6, hq => simp [am_tys] at hq
  generalize (fun c => Classical.choose (hk c), fun c => Classical.choose (Classical.choose_spec (hk c))) = D at hK
  generalize (fun k : Nat => if k = 0 then c0 else if k = 1 then c1 else if k = 2 then c0 else if k = 3 then c0 else if k = 4 then c4 else c5) = cA at hK
  have hlow : ∀ a : Nat, a < s.heap.size → ¬ am_A s.heap.size a := fun a h => Nat.not_le.mpr h
  have hg : (fun j : Nat => Int32.ofInt ((fun j : Int => (xs j.toNat).toInt) (j : Int))) = xs := by
    funext j
    show Int32.ofInt (xs ((j : Int).toNat)).toInt = xs j
    rw [Int32.ofInt_toInt, Int.toNat_natCast]
  have hC : am_C M_L_law l p s room_1 m #[Value.ref b] meth c D cA s.heap.size b (fun j => (xs j.toNat).toInt) (fun _ => (L : Int)) := by
    refine ⟨hst, hx, hb, hr, hml, hown, fun w hw => hts w (List.mem_filter.mp hw).1, fun w hw => ?_, ⟨fun own k tx hk => ?_, hts (.arrayOver (.object RX6)) (by decide +kernel), hts (.arrayOver (.array .int)) (by decide +kernel)⟩, hlocks, hK, ?_, ?_, Nat.le_refl _, Or.inl ⟨rfl, rfl⟩, Or.inl rfl, Nat.le_of_ble_eq_true rfl, Nat.le_of_ble_eq_true rfl, fun E1 h1 E2 h2 hn => va_Nc.of (hfl _ (am_exc h1 h2 hn)), ⟨?_, hbl, fun j => am_rI _, by show (0 : Int) ≤ (L : Int); omega, by show (L : Int) ≤ 260; omega⟩⟩
    · have h1 := List.mem_filter.mp hw
      refine va_Nw.of ?_ (hts w h1.1)
      have h2 := h1.2
      cases w <;> first | rfl | (simp [am_w1] at h2)
    · obtain ⟨a, ha⟩ := am_exactly (hfl _ (of_decide_eq_true (am_strAll _ hk)))
      exact ⟨a, vk_R.of (hts _ hk) ha⟩
    · exact vx_Zqof (hts (.laysStatic Bundle.tN "UNASSIGNED_STACK" Bundle.steD) (by decide +kernel)) (hts (.initialized Bundle.tN) (by decide +kernel)) (hfl _ (by decide +kernel)) hlow
    · exact vx_Zqof (hts (.laysStatic Bundle.tN "SUPPRESSED_SENTINEL" Bundle.listD) (by decide +kernel)) (hts (.initialized Bundle.tN) (by decide +kernel)) (hfl _ (by decide +kernel)) hlow
    · rw [show ((fun _ : Int => (L : Int)) 0).toNat = L from Int.toNat_natCast L, hg]
      exact hX
  have hV := HV (fun j => (xs j.toNat).toInt) (fun _ => (L : Int)) (fun j => am_rI _) (by show (0 : Int) ≤ (L : Int); omega) (by show (L : Int) ≤ 260; omega)
  rw [lg_entry_eq]
  refine hV l p e room_1 s m #[Value.ref b] below meth c D cA s.heap.size b (fun j => (xs j.toNat).toInt) (fun _ => (L : Int)) (lw_Z below #[Value.ref b] s) s.heap [] 0 0 _ hC (Or.inr ⟨rfl, fun _ _ _ h => h, ?_⟩) ?_ ?_ (fun v hv => by cases hv) va_S.rf (Nat.le_of_ble_eq_true rfl) (Nat.le_of_ble_eq_true rfl)
  · intro v ρ h pc H locs cells slots ls hQ hv hdg hS hc hs
    cases hQ
    refine va_forget hS.2.2 ?_
    refine W.widen (k := 600156) (n := 7296998) hc hs ?_
    exact lw_ret hx hb hr hlocks hdg
  · have e1 : ∀ (a : Nat) (i : Int) (x : Nat), am_rho0.2.1 a i = some x → x < 1000 := fun a i x h => nomatch h
    have e2 : ∀ (a : Nat) (kd : Nat × Nat), am_rho0.1[a]? = some kd → am_rg kd (am_h0 (fun j => (xs j.toNat).toInt) (fun _ => (L : Int)) a) := fun a kd h => nomatch h
    exact ⟨fun k q h => by simp [am_w, am_rho0] at h, fun _ => rfl, Nat.zero_le _, e1, e2, rfl, rfl⟩
  · exact am_entry (j := M_L_law) (As := [aR 1000]) (by decide) (by decide) (fun v hv => by cases hv with | head => trivial | tail _ h => cases h)
theorem whole_V : am_Whole := fun g0 g1 _ _ _ => law_start g0 g1 (law7 fun _ _ => rfl)
theorem whole_start {p : Program} {e : Env} {s : State} {m : MethodId} {below : List Frame} {meth : Method} {c : Code} (l : Launch) (hflags : l.flags = flags0) {b L : Nat} {xs : Nat → Int32} (hL : L ≤ 260) (C0 : lw_At p s m meth c b L xs) : W p l e room_1 s m #[Value.ref b] below meth c s.heap [] 0 0 (lw_Z below #[Value.ref b] s) (entryFrame m ([Value.ref b] : List Value).toArray 16) := whole_of whole_V l hflags hL C0
set_option maxHeartbeats 4000000 in
theorem lw_walk (l : Launch) (hflags : l.flags = flags0) (b : Addr) (xs : List Int32) : MetFree l x (headSpec (Jvm.Cond.code x code maxLocals ret :: tables_1) room_1) (lw_P b xs) (fun _ _ _ _ _ => True) lw_Q := by
  refine MetFree.of_bodyS (code := code) (maxLocals := maxLocals) (ret := ret) (by decide) ?_ ?_
  · intro args s m h hn
    obtain ⟨meth, c, h1, h2, h3, h4, h5, h6, -, -⟩ := Cond.code_spec hn (atoms_spec (ws := Jvm.Cond.code x code maxLocals ret :: tables_1) h _ List.mem_cons_self)
    exact ⟨meth, c, h1, h2, h3, h4, h5, h6⟩
  · intro p e s m args below meth c s₁ B hml0 hP _
    obtain ⟨rfl, hx, hbd, hgv⟩ := hP
    obtain ⟨scr, harrAt, hlist, hof, hsmall⟩ := hx
    obtain ⟨hcb, hkn, -, -⟩ := State.arrayAt?_spec harrAt
    have hown : s.vm.findClass R_law = some m.cls := findClass_of_methodNamed B.named
    have hts0 : ∀ c ∈ (Jvm.Cond.code x code maxLocals ret :: tables_1), c.before #[Value.ref b] s = true := atoms_spec (ws := Jvm.Cond.code x code maxLocals ret :: tables_1) B.pre
    have hts : ∀ w ∈ lw_tbl, w.before #[Value.ref b] s = true := k2_hts_sels lw_privs (fun w hw => hts0 w (List.mem_cons_of_mem _ hw)) lw_privs_ok
    have hml : c.maxLocals = 16 := B.maxLocals_eq (hts0 _ List.mem_cons_self)
    have X₀ : Stand p l e room_1 s m #[Value.ref b] below meth c s₁ [] 0 0 := Stand.of_body B
    have hh0 : s₁.heap = s.heap := by rw [B.state]; rfl
    have hsz : scr.slots.size = xs.length := by rw [← Array.length_toList, hlist, List.length_map]
    have hval : ∀ j : Nat, j < xs.length → scr.slots[j]? = some (.int (xs.getD j 0)) := fun j hj => by
      rw [← Array.getElem?_toList, hlist]
      simp [hj]
    have hbl : b < s.heap.size := (Array.getElem?_eq_some_iff.mp hcb).1
    have hX : va_X b xs.length (fun j => xs.getD j 0) s s.heap := ⟨scr, hcb, hof, hkn, hsz, hval⟩
    have K : W p l e room_1 s m #[Value.ref b] below meth c s₁.heap [] 0 0 (lw_Z below #[Value.ref b] s) (entryFrame m ([Value.ref b] : List Value).toArray 16) := by
      rw [hh0]
      exact whole_start l hflags hbd ⟨B.exec, B.bytes, B.returns, hml, hown, hts, hX, hbl, B.notSynchronized, hgv⟩
    obtain ⟨t, a1, o, b1, b2, b3⟩ := K s₁ rfl X₀
    exact ⟨t, o, a1, b1, b2, b3⟩
theorem lw_pre_spec {args : Array Value} {s : State} (h : (Jvm.Cond.and given_1 narrow_1).before args s = true) (hr : rest_1_c.before args s = true) : ∃ (b : Addr) (xs : List Int32), lw_P b xs args s := by
  have hs := flat_of_before _ h
  have hq := flat_of_before _ hr
  have hc : (Cond.count 1).before args s = true := hs _ (by decide +kernel)
  have harr : (Cond.arrayOf (.arg 0) .int).before args s = true := hs _ (by decide +kernel)
  have hle : (Cond.le (.length (.arg 0)) (.int 260)).before args s = true := hs _ (by decide +kernel)
  have hlen : (Cond.isInt (.length (.arg 0))).before args s = true := hq _ (by decide +kernel)
  have hall : (Cond.all (.arg 0) (.isInt (.elem (.arg 0) (.index 0)))).before args s = true := hq _ (by decide +kernel)
  obtain ⟨b, xs, hb, hx⟩ := State.ints_of_pre rfl harr hlen hall
  have hsm : xs.length < 2 ^ 31 := hx.choose_spec.2.2.2
  have hev : (Term.length (.arg 0)).eval args s none [] s = some (.int xs.length.toInt32) := hx.length_eval hb
  have hv := Cond.le_ints hev (show (Term.int 260).eval args s none [] s = some (.int 260) from rfl)
  have hd : xs.length.toInt32 ≤ 260 := by
    simpa [Cond.before, Cond.holds, hv] using hle
  have hN : xs.length ≤ 260 := (Int32.ofNat_le_ofNat hsm (by decide)).mp (show Int32.ofNat xs.length ≤ Int32.ofNat 260 from hd)
  exact ⟨b, xs, Cond.one_arg hc (show args[0]? = some (.ref b) from hb), hx, hN, h⟩
theorem lw_comes (l : Launch) (hflags : l.flags = flags0) : Comes l x (Jvm.Cond.code x code maxLocals ret :: tables_1) room_1 (fun tb e args s => Calls_1 tb e args s ∧ rest_1 tb e args s ∧ Pre_1 tb e args s)
    (fun _ _ args s o t => lw_Q args s o t) := by
  intro p e ha hc hk s m args below hf hfit hheap happ hpre
  obtain ⟨b, xs, hP⟩ := lw_pre_spec hpre.2.2 hpre.2.1
  obtain ⟨k, o, h1, h2, h3, hQ⟩ := lw_walk l hflags b xs p e ha hc hk s m args below hf ((Spec.applies_iff_loose hf).mp happ).1 hP trivial
  exact ⟨k, o, h1, h2, h3, hQ⟩
theorem lw_frame {s t : State} {o : Outcome} {args : Array Value} (h : Framed s o t [] 600156 7296998) :
    Framed s o t (fieldLocs frame_1_writes args s ++ arrayLocs frame_1_arrays args s ++ staticLocs frame_1_statics s) 600156 7296998 := h
theorem lw_limb (L : Cond) (hL : ∀ (args : Array Value) (s t : State), L.after args s (.returned (some (.int 1))) t = true) :
    ArmFor flags0 classFile x code maxLocals ret World_1 tables_1 room_1 Calls_1 rest_1 Pre_1
      (fun tb e a s o t => postC L tb e a s o t ∧ Framed s o t (fieldLocs frame_1_writes a s ++ arrayLocs frame_1_arrays a s ++ staticLocs frame_1_statics s) 600156 7296998) := by
  intro l hflags _ _ p e ha hc hk s m args below hf hfit hheap happ hpre
  obtain ⟨k, o, h1, h2, h3, rfl, hF⟩ := lw_comes l hflags p e ha hc hk s m args below hf hfit hheap happ hpre
  exact ⟨k, _, h1, h2, h3, hL args s _, lw_frame hF⟩
theorem i_vc : Claimed_1_1 ∧ Claimed_1_2 := ⟨lw_limb limb_1_1 (fun args s t => by simp [limb_1_1, Cond.after, Cond.holds, Cond.value]), lw_limb limb_1_2 (fun args s t => Cond.after_iff.mpr (by
  first | (rw [show limb_1_2 = Cond.eq .result (.int 1) from rfl, Cond.eq_ints (x := 1) (y := 1) rfl rfl]; simp; done) | (simp [limb_1_2, Cond.value, Term.eval]; done)))⟩

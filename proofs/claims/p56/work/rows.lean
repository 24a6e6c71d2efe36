section
/-- the library's multianewarray laws are wanted in part 16 -/
theorem zz_wide (T : State) (a b : ClassId) (n k : Nat) (v : Value) (i : Nat) : True := by
  have := Jvm.Free.Multi.fill_facts T a b n k v i
  trivial
end
section
-- ===== PART A: goes FIRST, ahead of the names: the tables' words, and 'selects' of the private methods out of them =====
/-- a private method of a class that the tables say can be made, by its rows of tables_1 -/
def lw_okq (q : MethodName × Nat) : Prop := (q.1.cls ≠ "java/lang/invoke/MethodHandle" ∧ q.1.cls ≠ "java/lang/invoke/VarHandle") ∧ Cond.instantiable q.1.cls q.2 ∈ tables_1 ∧ Cond.privateMethod q.1 ∈ tables_1 ∧ Cond.instanceMethod q.1 ∈ tables_1
theorem lw_p0 : lw_okq (⟨"java/lang/Throwable", "fillInStackTrace", "(I)Ljava/lang/Throwable;"⟩, 6) := ⟨⟨by decide +kernel, by decide +kernel⟩, List.mem_of_getElem? (i := 272) (by decide +kernel), List.mem_of_getElem? (i := 270) (by decide +kernel), List.mem_of_getElem? (i := 271) (by decide +kernel)⟩
theorem lw_p1 : lw_okq (⟨"Suffixshelf", "known", "(I)LSuffixshelf$Text;"⟩, 10) := ⟨⟨by decide +kernel, by decide +kernel⟩, List.mem_of_getElem? (i := 24) (by decide +kernel), List.mem_of_getElem? (i := 323) (by decide +kernel), List.mem_of_getElem? (i := 324) (by decide +kernel)⟩
theorem lw_p2 : lw_okq (⟨"Suffixshelf", "freshText", "()LSuffixshelf$Text;"⟩, 10) := ⟨⟨by decide +kernel, by decide +kernel⟩, List.mem_of_getElem? (i := 24) (by decide +kernel), List.mem_of_getElem? (i := 340) (by decide +kernel), List.mem_of_getElem? (i := 341) (by decide +kernel)⟩
theorem lw_p3 : lw_okq (⟨"Suffixshelf", "keep", "(LSuffixshelf$Text;)I"⟩, 10) := ⟨⟨by decide +kernel, by decide +kernel⟩, List.mem_of_getElem? (i := 24) (by decide +kernel), List.mem_of_getElem? (i := 364) (by decide +kernel), List.mem_of_getElem? (i := 365) (by decide +kernel)⟩
theorem lw_p4 : lw_okq (⟨"Suffixshelf$EndSorter", "orderByClass", "(LSuffixshelf$Text;)V"⟩, 3) := ⟨⟨by decide +kernel, by decide +kernel⟩, List.mem_of_getElem? (i := 52) (by decide +kernel), List.mem_of_getElem? (i := 372) (by decide +kernel), List.mem_of_getElem? (i := 373) (by decide +kernel)⟩
theorem lw_p5 : lw_okq (⟨"Suffixshelf$EndSorter", "numberClasses", "(LSuffixshelf$Text;I)I"⟩, 3) := ⟨⟨by decide +kernel, by decide +kernel⟩, List.mem_of_getElem? (i := 52) (by decide +kernel), List.mem_of_getElem? (i := 376) (by decide +kernel), List.mem_of_getElem? (i := 377) (by decide +kernel)⟩
theorem lw_p6 : lw_okq (⟨"Suffixshelf$EndSorter", "areAlike", "(LSuffixshelf$Text;III)Z"⟩, 3) := ⟨⟨by decide +kernel, by decide +kernel⟩, List.mem_of_getElem? (i := 52) (by decide +kernel), List.mem_of_getElem? (i := 380) (by decide +kernel), List.mem_of_getElem? (i := 381) (by decide +kernel)⟩
theorem lw_p7 : lw_okq (⟨"Suffixshelf$EndSorter", "classBehind", "(LSuffixshelf$Text;I)I"⟩, 3) := ⟨⟨by decide +kernel, by decide +kernel⟩, List.mem_of_getElem? (i := 52) (by decide +kernel), List.mem_of_getElem? (i := 384) (by decide +kernel), List.mem_of_getElem? (i := 385) (by decide +kernel)⟩
theorem lw_p8 : lw_okq (⟨"Suffixshelf$EndSorter", "listBySecondHalf", "(LSuffixshelf$Text;I)V"⟩, 3) := ⟨⟨by decide +kernel, by decide +kernel⟩, List.mem_of_getElem? (i := 52) (by decide +kernel), List.mem_of_getElem? (i := 388) (by decide +kernel), List.mem_of_getElem? (i := 389) (by decide +kernel)⟩
theorem lw_p9 : lw_okq (⟨"Suffixshelf$EndSorter", "tellCommons", "(LSuffixshelf$Text;)V"⟩, 3) := ⟨⟨by decide +kernel, by decide +kernel⟩, List.mem_of_getElem? (i := 52) (by decide +kernel), List.mem_of_getElem? (i := 392) (by decide +kernel), List.mem_of_getElem? (i := 393) (by decide +kernel)⟩
theorem lw_p10 : lw_okq (⟨"Suffixshelf", "knownNotEmpty", "(I)LSuffixshelf$Text;"⟩, 10) := ⟨⟨by decide +kernel, by decide +kernel⟩, List.mem_of_getElem? (i := 24) (by decide +kernel), List.mem_of_getElem? (i := 453) (by decide +kernel), List.mem_of_getElem? (i := 454) (by decide +kernel)⟩
theorem lw_p11 : lw_okq (⟨"Suffixshelf", "knownWith", "(II)LSuffixshelf$Text;"⟩, 10) := ⟨⟨by decide +kernel, by decide +kernel⟩, List.mem_of_getElem? (i := 24) (by decide +kernel), List.mem_of_getElem? (i := 484) (by decide +kernel), List.mem_of_getElem? (i := 485) (by decide +kernel)⟩
theorem lw_p12 : lw_okq (⟨"Suffixshelf", "refuseClassSize", "(I)V"⟩, 10) := ⟨⟨by decide +kernel, by decide +kernel⟩, List.mem_of_getElem? (i := 24) (by decide +kernel), List.mem_of_getElem? (i := 503) (by decide +kernel), List.mem_of_getElem? (i := 504) (by decide +kernel)⟩
theorem lw_p13 : lw_okq (⟨"Suffixshelf$Packer", "commonWithLowerAhead", "(LSuffixshelf$Text;I)I"⟩, 1) := ⟨⟨by decide +kernel, by decide +kernel⟩, List.mem_of_getElem? (i := 140) (by decide +kernel), List.mem_of_getElem? (i := 610) (by decide +kernel), List.mem_of_getElem? (i := 611) (by decide +kernel)⟩
theorem lw_p14 : lw_okq (⟨"Suffixshelf$Packer", "commonWithUpperAhead", "(LSuffixshelf$Text;I)I"⟩, 1) := ⟨⟨by decide +kernel, by decide +kernel⟩, List.mem_of_getElem? (i := 140) (by decide +kernel), List.mem_of_getElem? (i := 616) (by decide +kernel), List.mem_of_getElem? (i := 617) (by decide +kernel)⟩
theorem lw_p15 : lw_okq (⟨"Suffixshelf$Turner", "endSigns", "([CI)I"⟩, 5) := ⟨⟨by decide +kernel, by decide +kernel⟩, List.mem_of_getElem? (i := 69) (by decide +kernel), List.mem_of_getElem? (i := 691) (by decide +kernel), List.mem_of_getElem? (i := 692) (by decide +kernel)⟩
def lw_privs_1 : List (MethodName × Nat) := [(⟨"java/lang/Throwable", "fillInStackTrace", "(I)Ljava/lang/Throwable;"⟩, 6), (⟨"Suffixshelf", "known", "(I)LSuffixshelf$Text;"⟩, 10), (⟨"Suffixshelf", "freshText", "()LSuffixshelf$Text;"⟩, 10), (⟨"Suffixshelf", "keep", "(LSuffixshelf$Text;)I"⟩, 10), (⟨"Suffixshelf$EndSorter", "orderByClass", "(LSuffixshelf$Text;)V"⟩, 3), (⟨"Suffixshelf$EndSorter", "numberClasses", "(LSuffixshelf$Text;I)I"⟩, 3), (⟨"Suffixshelf$EndSorter", "areAlike", "(LSuffixshelf$Text;III)Z"⟩, 3), (⟨"Suffixshelf$EndSorter", "classBehind", "(LSuffixshelf$Text;I)I"⟩, 3), (⟨"Suffixshelf$EndSorter", "listBySecondHalf", "(LSuffixshelf$Text;I)V"⟩, 3), (⟨"Suffixshelf$EndSorter", "tellCommons", "(LSuffixshelf$Text;)V"⟩, 3), (⟨"Suffixshelf", "knownNotEmpty", "(I)LSuffixshelf$Text;"⟩, 10), (⟨"Suffixshelf", "knownWith", "(II)LSuffixshelf$Text;"⟩, 10), (⟨"Suffixshelf", "refuseClassSize", "(I)V"⟩, 10), (⟨"Suffixshelf$Packer", "commonWithLowerAhead", "(LSuffixshelf$Text;I)I"⟩, 1), (⟨"Suffixshelf$Packer", "commonWithUpperAhead", "(LSuffixshelf$Text;I)I"⟩, 1), (⟨"Suffixshelf$Turner", "endSigns", "([CI)I"⟩, 5)]
theorem lw_r1 : ∀ q ∈ lw_privs_1, lw_okq q := List.forall_mem_cons.mpr ⟨lw_p0, List.forall_mem_cons.mpr ⟨lw_p1, List.forall_mem_cons.mpr ⟨lw_p2, List.forall_mem_cons.mpr ⟨lw_p3, List.forall_mem_cons.mpr ⟨lw_p4, List.forall_mem_cons.mpr ⟨lw_p5, List.forall_mem_cons.mpr ⟨lw_p6, List.forall_mem_cons.mpr ⟨lw_p7, List.forall_mem_cons.mpr ⟨lw_p8, List.forall_mem_cons.mpr ⟨lw_p9, List.forall_mem_cons.mpr ⟨lw_p10, List.forall_mem_cons.mpr ⟨lw_p11, List.forall_mem_cons.mpr ⟨lw_p12, List.forall_mem_cons.mpr ⟨lw_p13, List.forall_mem_cons.mpr ⟨lw_p14, List.forall_mem_cons.mpr ⟨lw_p15, fun _ h => absurd h List.not_mem_nil⟩⟩⟩⟩⟩⟩⟩⟩⟩⟩⟩⟩⟩⟩⟩⟩
theorem lw_p16 : lw_okq (⟨"Suffixshelf$Turner", "tellRowsAhead", "([CI)V"⟩, 5) := ⟨⟨by decide +kernel, by decide +kernel⟩, List.mem_of_getElem? (i := 69) (by decide +kernel), List.mem_of_getElem? (i := 695) (by decide +kernel), List.mem_of_getElem? (i := 696) (by decide +kernel)⟩
theorem lw_p17 : lw_okq (⟨"Suffixshelf$WordTree", "listWords", "(LSuffixshelf$Text;)V"⟩, 5) := ⟨⟨by decide +kernel, by decide +kernel⟩, List.mem_of_getElem? (i := 108) (by decide +kernel), List.mem_of_getElem? (i := 711) (by decide +kernel), List.mem_of_getElem? (i := 712) (by decide +kernel)⟩
theorem lw_p18 : lw_okq (⟨"Suffixshelf$WordTree", "nodeBelow", "(IC)I"⟩, 5) := ⟨⟨by decide +kernel, by decide +kernel⟩, List.mem_of_getElem? (i := 108) (by decide +kernel), List.mem_of_getElem? (i := 715) (by decide +kernel), List.mem_of_getElem? (i := 716) (by decide +kernel)⟩
theorem lw_p19 : lw_okq (⟨"Suffixshelf$WordTree", "addBelow", "(IC)I"⟩, 5) := ⟨⟨by decide +kernel, by decide +kernel⟩, List.mem_of_getElem? (i := 108) (by decide +kernel), List.mem_of_getElem? (i := 719) (by decide +kernel), List.mem_of_getElem? (i := 720) (by decide +kernel)⟩
theorem lw_p20 : lw_okq (⟨"Suffixshelf", "knownWithRow", "(II)LSuffixshelf$Text;"⟩, 10) := ⟨⟨by decide +kernel, by decide +kernel⟩, List.mem_of_getElem? (i := 24) (by decide +kernel), List.mem_of_getElem? (i := 820) (by decide +kernel), List.mem_of_getElem? (i := 821) (by decide +kernel)⟩
theorem lw_p21 : lw_okq (⟨"Suffixshelf", "refuseNoWord", "()V"⟩, 10) := ⟨⟨by decide +kernel, by decide +kernel⟩, List.mem_of_getElem? (i := 24) (by decide +kernel), List.mem_of_getElem? (i := 878) (by decide +kernel), List.mem_of_getElem? (i := 879) (by decide +kernel)⟩
theorem lw_p22 : lw_okq (⟨"Suffixshelf$Text", "endsUnder", "(LSuffixshelf$TypedRow;II)I"⟩, 5) := ⟨⟨by decide +kernel, by decide +kernel⟩, List.mem_of_getElem? (i := 149) (by decide +kernel), List.mem_of_getElem? (i := 887) (by decide +kernel), List.mem_of_getElem? (i := 888) (by decide +kernel)⟩
theorem lw_p23 : lw_okq (⟨"Suffixshelf", "leastRank", "(LSuffixshelf$Text;)I"⟩, 10) := ⟨⟨by decide +kernel, by decide +kernel⟩, List.mem_of_getElem? (i := 24) (by decide +kernel), List.mem_of_getElem? (i := 906) (by decide +kernel), List.mem_of_getElem? (i := 907) (by decide +kernel)⟩
def lw_privs_2 : List (MethodName × Nat) := [(⟨"Suffixshelf$Turner", "tellRowsAhead", "([CI)V"⟩, 5), (⟨"Suffixshelf$WordTree", "listWords", "(LSuffixshelf$Text;)V"⟩, 5), (⟨"Suffixshelf$WordTree", "nodeBelow", "(IC)I"⟩, 5), (⟨"Suffixshelf$WordTree", "addBelow", "(IC)I"⟩, 5), (⟨"Suffixshelf", "knownWithRow", "(II)LSuffixshelf$Text;"⟩, 10), (⟨"Suffixshelf", "refuseNoWord", "()V"⟩, 10), (⟨"Suffixshelf$Text", "endsUnder", "(LSuffixshelf$TypedRow;II)I"⟩, 5), (⟨"Suffixshelf", "leastRank", "(LSuffixshelf$Text;)I"⟩, 10)]
theorem lw_r2 : ∀ q ∈ lw_privs_2, lw_okq q := List.forall_mem_cons.mpr ⟨lw_p16, List.forall_mem_cons.mpr ⟨lw_p17, List.forall_mem_cons.mpr ⟨lw_p18, List.forall_mem_cons.mpr ⟨lw_p19, List.forall_mem_cons.mpr ⟨lw_p20, List.forall_mem_cons.mpr ⟨lw_p21, List.forall_mem_cons.mpr ⟨lw_p22, List.forall_mem_cons.mpr ⟨lw_p23, fun _ h => absurd h List.not_mem_nil⟩⟩⟩⟩⟩⟩⟩⟩
def lw_privs : List (MethodName × Nat) := lw_privs_1 ++ (lw_privs_2)
def lw_tbl : List Cond := k2_sels lw_privs ++ tables_1
theorem lw_privs_ok : ∀ q ∈ lw_privs, lw_okq q := by
  show ∀ q ∈ lw_privs_1 ++ (lw_privs_2), lw_okq q
  exact List.forall_mem_append.mpr ⟨lw_r1, lw_r2⟩
end
section
/-! ===== BEGIN words of one list among another's, by their places ===== -/
theorem goodIn_r {big : List Cond} (ws : List Cond) (ps : List Nat) (hp : ws = ps.filterMap (fun i => big[i]?)) (h : ws.all goodWord = true) : GoodIn big ws := by
  intro w hw
  have h1 := List.all_eq_true.mp h w hw
  rw [hp] at hw
  obtain ⟨i, -, hi⟩ := List.mem_filterMap.mp hw
  have hm : w ∈ big := by first | exact List.mem_of_getElem? hi | exact List.getElem?_mem hi
  exact ⟨hm, good_of_word h1⟩
theorem goodIn_app {big a b : List Cond} (ha : GoodIn big a) (hb : GoodIn big b) : GoodIn big (a ++ b) := fun w h => (List.mem_append.mp h).elim (ha w) (hb w)
theorem goodIn_ca {big a b : List Cond} {c : Cond} (ha : GoodIn big (c :: a)) (hb : GoodIn big b) : GoodIn big (c :: (a ++ b)) := fun w h => (List.mem_cons.mp h).elim (fun e => ha w (List.mem_cons.mpr (Or.inl e))) (fun h => (List.mem_append.mp h).elim (fun h => ha w (List.mem_cons.mpr (Or.inr h))) (hb w))
theorem goodIn_sub {big ws : List Cond} (hm : ∀ w ∈ ws, w ∈ big) (h : ws.all goodWord = true) : GoodIn big ws := fun w hw => ⟨hm w hw, good_of_word (List.all_eq_true.mp h w hw)⟩
/-! ===== END ===== -/

/-! ===== BEGIN exceptions that leave a method, and their catching by the caller (launches without stack traces) ===== -/
section VXA
/-! The laws vx_back, vx_callV, vx_callS, vx_callSW, vx_throw0, vx_throwS follow proofs of the library, with one case more: JvmDerived/Free/Laws.lean (Back.of_free), Shelf42/LK1.lean (callV, callS), Shelf/KitTraced.lean (throwNew0V, throwNewS). -/
/-- where a method has thrown q: the class by its name, the cell, what was written, the world -/
def vx_T (XC : String → State → State → Prop) (st : State) (q : Addr) (t : State) (mc ms : Nat) (free : Addr → Prop) : Prop :=
  ∃ (E : String) (ce : Cell) (L : List Loc), XC E st t ∧ t.heap[q]? = some ce ∧ ce.vm = .none ∧ st.vm.findClass E = some ce.cls ∧ st.WarmedH t.vm ∧ st.sameButNew ({ t with vm := st.vm } : State) L mc ms ∧ ∀ z ∈ L, free z.base
def vx_Q (Qc : Array Value → State → Outcome → State → Prop) (XC : String → State → State → Prop) (mc ms : Nat) (free : Addr → Prop) : Array Value → State → Outcome → State → Prop := fun a st o t =>
  (Qc a st o t ∧ ∃ L, FrameEnd st o t L mc ms ∧ ∀ q ∈ L, free q.base) ∨ ∃ q, o = .threw q ∧ vx_T XC st q t mc ms free
/-- a callee that returns or throws -/
def vx_Met (l : Launch) (y : MethodName) (ws : List Cond) (rm : Room) (Pc : Array Value → State → Prop) (Qc : Array Value → State → Outcome → State → Prop) (XC : String → State → State → Prop) (mc ms : Nat) (free : Addr → Prop) : Prop :=
  MetFree l y (headSpec ws rm) Pc (fun _ _ _ _ _ => True) (vx_Q Qc XC mc ms free)
def vx_Post (XC : String → State → State → Prop) (mc ms : Nat) (free : Addr → Prop) : Pt → Array Value → Addr → Pt → Prop := fun A a q B =>
  ∃ (g : JFrame) (mk : MethodId) (t : State) (L : List Loc) (E : String) (ce : Cell), B.U.heap = t.heap ∧ B.U.vm = t.vm ∧ XC E (A.U.calling g mk a) t ∧ t.heap[q]? = some ce ∧ ce.vm = .none ∧ A.U.vm.findClass E = some ce.cls ∧ B.locs = A.locs ++ L ∧ (∀ z ∈ L, free z.base) ∧ B.cells = A.cells + mc ∧ B.slots = A.slots + ms
def vx_Back (l : Launch) (R : Room) (p : Program) (e : Env) (below : List Frame) (s : State) (sargs : Array Value) (y : MethodName) (len W9 : Nat)
    (Pre : Pt → Array Value → Prop) (Post : Pt → Array Value → Option Value → Pt → Prop) (PostX : Pt → Array Value → Addr → Pt → Prop) : Prop :=
  ∀ (m : MethodId) (meth : Method) (c : Code) (A : Pt) (g : JFrame) (ig : Instr) (mk : MethodId) (a : Array Value),
    Stand p l e R s m sargs below meth c A.U A.locs A.cells A.slots → g.method = m → g.locals.size = c.maxLocals → decode c.code g.pc = .ok (ig, len) →
    2 * g.monitorRoom + (g.stack.map fun v => v.category).sum ≤ W9 → A.U.methodNamed? y = some mk → Pre A a →
    (∃ (v : Option Value) (B : Pt), Stand p l e R s m sargs below meth c B.U B.locs B.cells B.slots ∧ Post A a v B ∧
      Steps p.tables e below (doInvoke e (A.U.setTop g) [] mk a).1 (B.U.setTop { g with pc := g.pc + len, stack := v.toList ++ g.stack })) ∨
    (∃ (q : Addr) (B : Pt), Stand p l e R s m sargs below meth c B.U B.locs B.cells B.slots ∧ PostX A a q B ∧
      Steps p.tables e below (doInvoke e (A.U.setTop g) [] mk a).1 ((B.U.setTop g).pushFrame (.throwing q)))
section Payer
variable {l : Launch} {R : Room} {p : Program} {e : Env} {below : List Frame} {s : State} {sargs : Array Value} {y : MethodName} {len W9 : Nat}
theorem vx_back {ws : List Cond} {rm : Room} {Pc : Array Value → State → Prop} {Qc : Array Value → State → Outcome → State → Prop} {XC : String → State → State → Prop} {mc ms : Nat} {free : Addr → Prop} {bytes : ByteArray} {maxL : Nat} {ret : Option FieldType}
    (hM : vx_Met l y ws rm Pc Qc XC mc ms free) (hblind : FrameBlind Pc) (hrc : rm.cells = mc) (hrs : rm.slots = ms)
    (hframes : rm.frames + 1 ≤ R.frames) (hlocals : W9 + (maxL + 11) + rm.locals ≤ R.locals)
    (hws : ∀ w ∈ ws, ∀ a' U, s.WarmedH U.vm → w.before a' U = true) (hcode : Cond.code y bytes maxL ret ∈ ws) (hinit : ∀ a' U, s.WarmedH U.vm → (Cond.initialized y.cls).before a' U = true) :
    vx_Back l R p e below s sargs y len W9 (PreOf R mc ms Pc) (PostOf Qc mc ms free) (vx_Post XC mc ms free) := by
  intro m meth c A g ig mk a X hg hsize hdg hW hn hp
  have h1 : (headSpec ws rm).pre.before a A.U = true := atoms_intro fun w hw => hws w hw _ _ X.warmed
  have h2 : (Cond.code y bytes maxL ret).before a A.U = true := hws _ hcode _ _ X.warmed
  have h3 : (Cond.initialized y.cls).before a A.U = true := hinit _ _ X.warmed
  have h4 : A.cells + (headSpec ws rm).room.cells ≤ R.cells := by rw [show (headSpec ws rm).room.cells = mc from hrc]; exact hp.1
  have h5 : A.slots + (headSpec ws rm).room.slots ≤ R.slots := by rw [show (headSpec ws rm).room.slots = ms from hrs]; exact hp.2.1
  have hPc : Pc a (A.U.calling g mk a) := hblind _ _ _ _ hp.2.2
  obtain ⟨U, Ls, c0, s0⟩ := A
  dsimp only [Pt.U, Pt.locs, Pt.cells, Pt.slots] at h1 h2 h3 h4 h5 X hn hPc ⊢
  obtain ⟨methY, cY, hmY, hcY, -, hlY, -, -, -, -⟩ := Cond.code_spec hn h2
  obtain ⟨kY, hkY, -⟩ := className_of_methodNamed hn
  have hinitY : kY.init = .initialized := Cond.initialized_spec (findClass_of_methodNamed hn) hkY h3
  have h : At U g.method c below := by rw [hg]; exact X.here
  have hlocals9 : W9 + (maxL + 11) + (headSpec ws rm).room.locals ≤ R.locals := hlocals
  have happ : (headSpec ws rm).appliesLoose y e.platform (U.calling g mk a) = true :=
    Spec.appliesLoose_calling (g := g) h hdg hn hkY hinitY
      (X.room_calling (g := g) (R' := (headSpec ws rm).room) hsize hmY hcY hframes (by rw [hlY]; omega) h4 h5) h1
  obtain ⟨mid, hmid⟩ := h.above
  have hfr : (U.setTop g).frames = (.java g :: mid) ++ below := by rw [State.frames_setTop' g h.top, hmid]; rfl
  obtain ⟨o, s₂, hsteps, -, hend, hq⟩ := Steps.callFree hM p X.admits X.cas X.clock (acts := []) hfr happ hPc trivial
  have hq' : vx_Q Qc XC mc ms free a (U.calling g mk a) o s₂ := hq
  rw [State.frames_setTop' g h.top] at hend
  obtain ⟨g₀, hg0⟩ := Option.isSome_iff_exists.mp h.top
  obtain ⟨r, hr⟩ := State.topJava?_eq_some.mp hg0
  have hr' : (({ U with heap := s₂.heap, slotsUsed := s₂.slotsUsed } : State).setVm s₂.vm).frames = .java g₀ :: r := hr
  rcases hq' with ⟨hqc, L, hfe, hL⟩ | ⟨q, rfl, E, ce, L, hx, hce, hcv, hcl, hW₂, hsm, hL⟩
  · obtain ⟨⟨v, rfl⟩, hW₂, e2, q2, q3, q4, q5, q6⟩ := id hfe
    have e3 : s₂ = ({ (U.calling g mk a).setFrames s₂.frames with heap := s₂.heap, slotsUsed := s₂.slotsUsed } : State).setVm s₂.vm := by
      have : s₂ = ({ s₂ with vm := (U.calling g mk a).vm } : State).setVm s₂.vm := rfl
      rw [e2] at this
      exact this
    obtain ⟨c₂, i₂, len₂, hc₂, hd₂, hf₂⟩ := hend
    have hW' : U.WarmedH s₂.vm := hW₂
    have hcc : c₂ = c := by
      have h1 : s₂.code? g.method = U.code? g.method := by
        rw [State.code?_eq, State.code?_eq, hW'.alike.method?]
      exact Option.some.inj (hc₂.symm.trans (h1.trans h.code))
    subst hcc
    have hlen : len₂ = len := by rw [hdg] at hd₂; cases hd₂; rfl
    subst hlen
    have hs₂ : s₂ = (({ U with heap := s₂.heap, slotsUsed := s₂.slotsUsed } : State).setVm s₂.vm).setTop { g with pc := g.pc + len₂, stack := v.toList ++ g.stack } := by
      refine e3.trans ?_
      rw [hf₂, State.calling_eq h.top, State.setFrames_setFrames, State.setTop_of_frames _ hr', hr]
      rfl
    have hsame : U.sameButNew ({ U with heap := s₂.heap, slotsUsed := s₂.slotsUsed } : State) L mc ms := by
      refine ⟨?_, q2, q3, q4, q5, q6⟩
      obtain ⟨t, ht, -⟩ := State.frames_cons hr
      show ({ U with heap := s₂.heap, slotsUsed := s₂.slotsUsed } : State) = { U.setFrames U.frames with heap := s₂.heap, slotsUsed := s₂.slotsUsed }
      rw [State.setFrames_self ht]
    subst hg
    refine Or.inl ⟨v, ⟨(({ U with heap := s₂.heap, slotsUsed := s₂.slotsUsed } : State).setVm s₂.vm), Ls ++ L, c0 + mc, s0 + ms⟩,
      ⟨X.admits, X.cas, X.clock, X.frames, X.room, X.hears, X.method, X.code, (X.here.setHeapUsed s₂.heap s₂.slotsUsed).setVm hW'.alike, X.tail, State.WarmedH.trans X.warmed hW', X.limits, X.bytes, X.same.trans (hsame.setVm s.vm)⟩,
      ⟨g, mk, s₂, L, rfl, rfl, hqc, rfl, hL, rfl, rfl⟩, ?_⟩
    show Steps p.tables e below _ ((({ U with heap := s₂.heap, slotsUsed := s₂.slotsUsed } : State).setVm s₂.vm).setTop { g with pc := g.pc + len₂, stack := v.toList ++ g.stack })
    rw [← hs₂]
    exact hsteps
  · obtain ⟨e2, q2, q3, q4, q5, q6⟩ := id hsm
    have e3 : s₂ = ({ (U.calling g mk a).setFrames s₂.frames with heap := s₂.heap, slotsUsed := s₂.slotsUsed } : State).setVm s₂.vm := by
      have : s₂ = ({ s₂ with vm := (U.calling g mk a).vm } : State).setVm s₂.vm := rfl
      rw [e2] at this
      exact this
    have hf₂ : s₂.frames = .throwing q :: .java g :: U.frames.tail := hend
    have hW' : U.WarmedH s₂.vm := hW₂
    have hs₂ : s₂ = ((({ U with heap := s₂.heap, slotsUsed := s₂.slotsUsed } : State).setVm s₂.vm).setTop g).pushFrame (.throwing q) := by
      refine e3.trans ?_
      rw [hf₂, State.calling_eq h.top, State.setFrames_setFrames, State.pushFrame, State.frames_setTop _ hr', State.setTop_of_frames _ hr', State.setFrames_setFrames, hr]
      rfl
    have hsame : U.sameButNew ({ U with heap := s₂.heap, slotsUsed := s₂.slotsUsed } : State) L mc ms := by
      refine ⟨?_, q2, q3, q4, q5, q6⟩
      obtain ⟨t, ht, -⟩ := State.frames_cons hr
      show ({ U with heap := s₂.heap, slotsUsed := s₂.slotsUsed } : State) = { U.setFrames U.frames with heap := s₂.heap, slotsUsed := s₂.slotsUsed }
      rw [State.setFrames_self ht]
    subst hg
    refine Or.inr ⟨q, ⟨(({ U with heap := s₂.heap, slotsUsed := s₂.slotsUsed } : State).setVm s₂.vm), Ls ++ L, c0 + mc, s0 + ms⟩,
      ⟨X.admits, X.cas, X.clock, X.frames, X.room, X.hears, X.method, X.code, (X.here.setHeapUsed s₂.heap s₂.slotsUsed).setVm hW'.alike, X.tail, State.WarmedH.trans X.warmed hW', X.limits, X.bytes, X.same.trans (hsame.setVm s.vm)⟩,
      ⟨g, mk, s₂, L, E, ce, rfl, rfl, hx, hce, hcv, hcl, rfl, hL, rfl, rfl⟩, ?_⟩
    show Steps p.tables e below _ (((({ U with heap := s₂.heap, slotsUsed := s₂.slotsUsed } : State).setVm s₂.vm).setTop g).pushFrame (.throwing q))
    rw [← hs₂]
    exact hsteps
end Payer
section Calls
variable {p : Program} {l : Launch} {e : Env} {R : Room} {s : State} {m : MethodId} {args : Array Value} {below : List Frame} {meth : Method} {c : Code} {T : State} {locs : List Loc} {cells slots : Nat}
theorem vx_callV (X : Stand p l e R s m args below meth c T locs cells slots) (hexec : p.tables.exec = Jvm.exec) {own C : String} {index : Nat} {y : MethodName} {bytes : ByteArray} {maxL : Nat} {ret : Option FieldType}
    (hown : s.vm.findClass own = some m.cls) (hlink : (Cond.methodLink own index y).before args s = true) (hinst : (Cond.instanceMethod y).before args s = true) (hsel : (Cond.selects C y y).before args s = true)
    (hcode : (Cond.code y bytes maxL ret).before args s = true) (hy : y.cls ≠ "java/lang/invoke/MethodHandle" ∧ y.cls ≠ "java/lang/invoke/VarHandle")
    {W9 : Nat} {Pre : Pt → Array Value → Prop} {Post : Pt → Array Value → Option Value → Pt → Prop} {PostX : Pt → Array Value → Addr → Pt → Prop} (hK : vx_Back l R p e below s args y 3 W9 Pre Post PostX)
    {b : Addr} {cellB : Cell} (hcell : T.heap[b]? = some cellB) (hobj : cellB.vm.isStatics = false) (hcls : s.vm.findClass C = some cellB.cls)
    {g : JFrame} (hg : g.method = m) (hsize : g.locals.size = c.maxLocals) {argsL rest : List Value} (hlen : ∀ sig, parseMethodDescriptor y.desc = some sig → argsL.length = sig.parameters.length)
    (hstack : g.stack = argsL.reverse ++ .ref b :: rest) (hW : 2 * g.monitorRoom + (rest.map fun v => v.category).sum ≤ W9) (hdg : decode c.code g.pc = .ok (.invokevirtual index, 3))
    (hpre : ∀ vm₁, s.WarmedH vm₁ → Pre ⟨T.setVm vm₁, locs, cells, slots⟩ (Value.ref b :: argsL).toArray) :
    (∃ (v : Option Value) (vm₁ : Vm) (B : Pt), s.WarmedH vm₁ ∧ Stand p l e R s m args below meth c B.U B.locs B.cells B.slots ∧ Post ⟨T.setVm vm₁, locs, cells, slots⟩ (Value.ref b :: argsL).toArray v B ∧
      ∀ target, Steps p.tables e below (B.U.setTop { g with pc := g.pc + 3, stack := v.toList ++ rest }) target → Steps p.tables e below (T.setTop g) target) ∨
    (∃ (q : Addr) (vm₁ : Vm) (B : Pt), s.WarmedH vm₁ ∧ Stand p l e R s m args below meth c B.U B.locs B.cells B.slots ∧ PostX ⟨T.setVm vm₁, locs, cells, slots⟩ (Value.ref b :: argsL).toArray q B ∧
      Steps p.tables e below (T.setTop g) ((B.U.setTop { g with stack := rest }).pushFrame (.throwing q))) := by
  obtain ⟨mk, methM, hnamed, hmethM, hstM, habM⟩ := Cond.instanceMethod_spec hinst
  obtain ⟨methM', cM, hmethM', -, -, -, -, -, -, hsigM⟩ := Cond.code_spec hnamed hcode
  cases hmethM.symm.trans hmethM'
  obtain ⟨c2, r2, m2, q1, q2, q3, q4, kP, hkP, hkPi⟩ := Cond.selects_spec hsel
  cases hcls.symm.trans q1
  cases (State.methodFound?_of_named hnamed hy).symm.trans q2
  cases hnamed.symm.trans q3
  have hselP : selectMethod e.platform s.vm cellB.cls mk = .method mk := by rw [Launch.admits_selectMethod X.admits]; exact q4
  obtain ⟨vm₁, X₁, hstep₁⟩ := X.invokevirtual hexec hown hlink hnamed hmethM hstM hkP hkPi hy (a := b) (cell := cellB) hcell
    (fun z h => by rw [h] at hobj; cases hobj) hselP hmethM habM hkP hkPi (g := g) hg (argsL := argsL) (rest := rest) (hlen _ hsigM) hstack hdg
  rcases hK m meth c ⟨T.setVm vm₁, locs, cells, slots⟩ { g with stack := rest } (.invokevirtual index) mk (Value.ref b :: argsL).toArray X₁ hg hsize hdg hW (X₁.named hnamed) (hpre vm₁ X₁.warmed) with ⟨v, B, X', hpost, hsteps⟩ | ⟨q, B, X', hpost, hsteps⟩
  · exact Or.inl ⟨v, vm₁, B, X₁.warmed, X', hpost, fun target h => hstep₁ _ fun acts => by rw [doInvoke_state]; exact hsteps.trans h⟩
  · exact Or.inr ⟨q, vm₁, B, X₁.warmed, X', hpost, hstep₁ _ fun acts => by rw [doInvoke_state]; exact hsteps⟩
theorem vx_callS (X : Stand p l e R s m args below meth c T locs cells slots) (hexec : p.tables.exec = Jvm.exec) {own : String} {index : Nat} {y : MethodName} {bytes : ByteArray} {maxL : Nat} {ret : Option FieldType}
    (hown : s.vm.findClass own = some m.cls) (hlink : (Cond.methodLink own index y).before args s = true) (hstat : (Cond.static y).before args s = true) (hinit : (Cond.initialized y.cls).before args s = true)
    (hcode : (Cond.code y bytes maxL ret).before args s = true) (hy : y.cls ≠ "java/lang/invoke/MethodHandle" ∧ y.cls ≠ "java/lang/invoke/VarHandle")
    {W9 : Nat} {Pre : Pt → Array Value → Prop} {Post : Pt → Array Value → Option Value → Pt → Prop} {PostX : Pt → Array Value → Addr → Pt → Prop} (hK : vx_Back l R p e below s args y 3 W9 Pre Post PostX)
    {g : JFrame} (hg : g.method = m) (hsize : g.locals.size = c.maxLocals) {argsL rest : List Value} (hlen : ∀ sig, parseMethodDescriptor y.desc = some sig → argsL.length = sig.parameters.length)
    (hstack : g.stack = argsL.reverse ++ rest) (hW : 2 * g.monitorRoom + (rest.map fun v => v.category).sum ≤ W9) (hdg : decode c.code g.pc = .ok (.invokestatic index, 3))
    (hpre : ∀ vm₁, s.WarmedH vm₁ → Pre ⟨T.setVm vm₁, locs, cells, slots⟩ argsL.toArray) :
    (∃ (v : Option Value) (vm₁ : Vm) (B : Pt), s.WarmedH vm₁ ∧ Stand p l e R s m args below meth c B.U B.locs B.cells B.slots ∧ Post ⟨T.setVm vm₁, locs, cells, slots⟩ argsL.toArray v B ∧
      ∀ target, Steps p.tables e below (B.U.setTop { g with pc := g.pc + 3, stack := v.toList ++ rest }) target → Steps p.tables e below (T.setTop g) target) ∨
    (∃ (q : Addr) (vm₁ : Vm) (B : Pt), s.WarmedH vm₁ ∧ Stand p l e R s m args below meth c B.U B.locs B.cells B.slots ∧ PostX ⟨T.setVm vm₁, locs, cells, slots⟩ argsL.toArray q B ∧
      Steps p.tables e below (T.setTop g) ((B.U.setTop { g with stack := rest }).pushFrame (.throwing q))) := by
  obtain ⟨mk, hnamed⟩ := Cond.code_named hcode
  obtain ⟨methM, cM, hmethM, -, -, -, -, -, -, hsigM⟩ := Cond.code_spec hnamed hcode
  have hstatic : methM.isStatic = true := Cond.static_spec hnamed hmethM hstat
  obtain ⟨kP, hkP, -⟩ := className_of_methodNamed hnamed
  have hinitP : kP.init = .initialized := Cond.initialized_spec (findClass_of_methodNamed hnamed) hkP hinit
  obtain ⟨vm₁, X₁, hstep₁⟩ := X.invokestatic hexec hown hlink hnamed hmethM hstatic hkP hinitP hy (g := g) hg (argsL := argsL) (rest := rest) (hlen _ hsigM) hstack hdg
  rcases hK m meth c ⟨T.setVm vm₁, locs, cells, slots⟩ { g with stack := rest } (.invokestatic index) mk argsL.toArray X₁ hg hsize hdg hW (X₁.named hnamed) (hpre vm₁ X₁.warmed) with ⟨v, B, X', hpost, hsteps⟩ | ⟨q, B, X', hpost, hsteps⟩
  · exact Or.inl ⟨v, vm₁, B, X₁.warmed, X', hpost, fun target h => hstep₁ _ fun acts => by rw [doInvoke_state]; exact hsteps.trans h⟩
  · exact Or.inr ⟨q, vm₁, B, X₁.warmed, X', hpost, hstep₁ _ fun acts => by rw [doInvoke_state]; exact hsteps⟩
end Calls
theorem vx_cls {s : State} {T : State} {vm₁ : Vm} {E : String} {k : ClassId} (hW : s.WarmedH vm₁) (h : (T.setVm vm₁).vm.findClass E = some k) : s.vm.findClass E = some k := by
  have h1 : vm₁.findClass E = some k := h
  rw [hW.alike.findClass] at h1
  exact h1
/-- the method's frame g, with q thrown over it -/
def vx_W (p : Program) (l : Launch) (e : Env) (R : Room) (s : State) (m : MethodId) (args : Array Value) (below : List Frame) (meth : Method) (c : Code) (H : Heap) (locs : List Loc) (cells slots : Nat) (Q : State → Prop) (g : JFrame) (q : Addr) : Prop :=
  ∀ T : State, T.heap = H → Stand p l e R s m args below meth c T locs cells slots → ∃ t, Steps p.tables e below ((T.setTop g).pushFrame (.throwing q)) t ∧ Q t
def vx_Run (p : Program) (l : Launch) (e : Env) (R : Room) (s : State) (m : MethodId) (args : Array Value) (below : List Frame) (meth : Method) (c : Code) (H : Heap) (locs : List Loc) (cells slots mc ms : Nat) (g : JFrame) (rest : List Value) (Qa : State → Outcome → State → Prop) (XC : String → State → State → Prop) (free : Addr → Prop) : Prop :=
  ∀ T : State, T.heap = H → Stand p l e R s m args below meth c T locs cells slots →
    (∃ (v : Option Value) (st₀ t T' : State) (L : List Loc), st₀.heap = H ∧ Stand p l e R s m args below meth c T' (locs ++ L) (cells + mc) (slots + ms) ∧ (∀ q ∈ L, free q.base) ∧ T'.heap = t.heap ∧ T'.vm = t.vm ∧ Qa st₀ (.returned v) t ∧
      Goes p e below T g T' { g with pc := g.pc + 3, stack := v.toList ++ rest }) ∨
    (∃ (q : Addr) (st₀ t T' : State) (L : List Loc) (E : String) (ce : Cell), st₀.heap = H ∧ Stand p l e R s m args below meth c T' (locs ++ L) (cells + mc) (slots + ms) ∧ (∀ z ∈ L, free z.base) ∧ T'.heap = t.heap ∧ T'.vm = t.vm ∧ XC E st₀ t ∧ t.heap[q]? = some ce ∧ ce.vm = .none ∧ s.vm.findClass E = some ce.cls ∧
      Steps p.tables e below (T.setTop g) ((T'.setTop { g with stack := rest }).pushFrame (.throwing q)))
def vx_X {S : Type} (px : S → Prop) (B : String → S → State → Prop) (A : Nat → Prop) : String → State → State → Prop := fun E st t => ∃ u : S, px u ∧ B E u t ∧ va_F A st t
section Runs
variable {p : Program} {l : Launch} {e : Env} {R : Room} {s : State} {m : MethodId} {args : Array Value} {below : List Frame} {meth : Method} {c : Code} {H : Heap} {locs : List Loc} {cells slots : Nat}
variable {y : MethodName} {bytes cc : ByteArray} {maxL nL mc ms n index : Nat} {ret : Option FieldType} {ws : List Cond} {rm : Room} {Pc : Array Value → State → Prop} {Qc : Array Value → State → Outcome → State → Prop} {XC : String → State → State → Prop} {free : Addr → Prop} {Ts : List Cond} {own C : String} {b : Addr} {As rest : List Value} {g : JFrame}
theorem vx_callBack (cb : CallB R s args own index y bytes maxL ret ws rm mc ms n) (hM : vx_Met l y ws rm Pc Qc XC mc ms free) (hbl : FrameBlind Pc) : vx_Back l R p e below s args y 3 8 (PreOf R mc ms Pc) (PostOf Qc mc ms free) (vx_Post XC mc ms free) := by
  obtain ⟨hrc, hrs, hfr, hlo, hws, hcw, -, hini, -⟩ := cb
  exact vx_back (bytes := bytes) (maxL := maxL) (ret := ret) hM hbl hrc hrs hfr hlo hws hcw (fun a' U hW => word_at hW (Or.inl (by first | rfl | simp [Cond.onTables, Cond.keeps, Cond.steady])) hini)
theorem vx_runV (S : CallFix p m c cc nL s args Ts own) (hM : vx_Met l y ws rm Pc Qc XC mc ms free) (cw : CallW R s args own C index y bytes maxL ret ws rm mc ms n) (hp : PreV s H C b Pc As)
    (hg : g.method = m) (hn : As.length = n) (hsize : g.locals.size = nL) (hstack : g.stack = As.reverse ++ .ref b :: rest) (hW : 2 * g.monitorRoom + (rest.map fun v => v.category).sum ≤ 8) (hdg : decode cc g.pc = .ok (.invokevirtual index, 3)) (hf : cells + mc ≤ R.cells ∧ slots + ms ≤ R.slots) :
    vx_Run p l e R s m args below meth c H locs cells slots mc ms g rest (Qc (Value.ref b :: As).toArray) XC free := by
  have hK : vx_Back l R p e below s args y 3 8 (PreOf R mc ms Pc) (PostOf Qc mc ms free) (vx_Post XC mc ms free) := vx_callBack cw.1 hM hp.1
  obtain ⟨⟨-, -, -, -, -, -, hcode, -, hy, hlen, hl⟩, hin, hse⟩ := cw
  obtain ⟨hx, hb, hml, ho, -⟩ := S
  obtain ⟨-, ⟨cellB, hcB, hoB, hclB⟩, hPc⟩ := hp
  intro T hT X
  rcases vx_callV X hx (C := C) (bytes := bytes) (maxL := maxL) (ret := ret) ho hl hin hse hcode hy hK (by rw [hT]; exact hcB) hoB hclB hg (hsize.trans hml.symm) (argsL := As) (rest := rest) (fun sig h => hn.trans (hlen sig h)) hstack hW (by rw [hb]; exact hdg)
    (fun vm₁ hW₁ => ⟨hf.1, hf.2, hPc (T.setVm vm₁) hT hW₁⟩) with ⟨v, vm₁, ⟨U', l2, c2, s2⟩, hW₁, X', ⟨g', mk, t, L, e1, e2, hq, h1, hL, h2, h3⟩, st⟩ | ⟨q, vm₁, ⟨U', l2, c2, s2⟩, hW₁, X', ⟨g', mk, t, L, E, ce, e1, e2, hq, hce, hcv, hcl, h1, hL, h2, h3⟩, st⟩
  · dsimp only [Pt.U, Pt.locs, Pt.cells, Pt.slots] at X' e1 e2 h1 h2 h3 st
    subst h1; subst h2; subst h3
    exact Or.inl ⟨v, (T.setVm vm₁).calling g' mk (Value.ref b :: As).toArray, t, U', L, hT, X', hL, e1, e2, hq, st⟩
  · dsimp only [Pt.U, Pt.locs, Pt.cells, Pt.slots] at X' e1 e2 h1 h2 h3 st hcl
    subst h1; subst h2; subst h3
    exact Or.inr ⟨q, (T.setVm vm₁).calling g' mk (Value.ref b :: As).toArray, t, U', L, E, ce, hT, X', hL, e1, e2, hq, hce, hcv, vx_cls hW₁ hcl, st⟩
theorem vx_runS (S : CallFix p m c cc nL s args Ts own) (hM : vx_Met l y ws rm Pc Qc XC mc ms free) (cw : CallB R s args own index y bytes maxL ret ws rm mc ms n ∧ (Cond.static y).before args s = true) (hp : PreS s H Pc As)
    (hg : g.method = m) (hn : As.length = n) (hsize : g.locals.size = nL) (hstack : g.stack = As.reverse ++ rest) (hW : 2 * g.monitorRoom + (rest.map fun v => v.category).sum ≤ 8) (hdg : decode cc g.pc = .ok (.invokestatic index, 3)) (hf : cells + mc ≤ R.cells ∧ slots + ms ≤ R.slots) :
    vx_Run p l e R s m args below meth c H locs cells slots mc ms g rest (Qc As.toArray) XC free := by
  have hK : vx_Back l R p e below s args y 3 8 (PreOf R mc ms Pc) (PostOf Qc mc ms free) (vx_Post XC mc ms free) := vx_callBack cw.1 hM hp.1
  obtain ⟨⟨-, -, -, -, -, -, hcode, hini, hy, hlen, hl⟩, hstt⟩ := cw
  obtain ⟨hx, hb, hml, ho, -⟩ := S
  intro T hT X
  rcases vx_callS X hx (bytes := bytes) (maxL := maxL) (ret := ret) ho hl hstt hini hcode hy hK hg (hsize.trans hml.symm) (argsL := As) (rest := rest) (fun sig h => hn.trans (hlen sig h)) hstack hW (by rw [hb]; exact hdg)
    (fun vm₁ hW₁ => ⟨hf.1, hf.2, hp.2 (T.setVm vm₁) hT hW₁⟩) with ⟨v, vm₁, ⟨U', l2, c2, s2⟩, hW₁, X', ⟨g', mk, t, L, e1, e2, hq, h1, hL, h2, h3⟩, st⟩ | ⟨q, vm₁, ⟨U', l2, c2, s2⟩, hW₁, X', ⟨g', mk, t, L, E, ce, e1, e2, hq, hce, hcv, hcl, h1, hL, h2, h3⟩, st⟩
  · dsimp only [Pt.U, Pt.locs, Pt.cells, Pt.slots] at X' e1 e2 h1 h2 h3 st
    subst h1; subst h2; subst h3
    exact Or.inl ⟨v, (T.setVm vm₁).calling g' mk As.toArray, t, U', L, hT, X', hL, e1, e2, hq, st⟩
  · dsimp only [Pt.U, Pt.locs, Pt.cells, Pt.slots] at X' e1 e2 h1 h2 h3 st hcl
    subst h1; subst h2; subst h3
    exact Or.inr ⟨q, (T.setVm vm₁).calling g' mk As.toArray, t, U', L, E, ce, hT, X', hL, e1, e2, hq, hce, hcv, vx_cls hW₁ hcl, st⟩
end Runs
section Rows
variable {p : Program} {l : Launch} {e : Env} {R : Room} {s : State} {m : MethodId} {args : Array Value} {below : List Frame} {meth : Method} {c : Code} {H : Heap} {locs : List Loc} {cells slots : Nat} {Q : State → Prop}
variable {mc ms : Nat} {free : Addr → Prop} {A0 A1 : Nat → Prop} {H0 : Heap} {a : Array Value} {pc : Nat} {ls : Array Slot} {st0 rest : List Value}
theorem vx_keep {st₀ t T' : State} {L : List Loc} (h0 : st₀.heap = H) (e1 : T'.heap = t.heap) (hS : va_S A0 H0 H locs) (hA : ∀ q, q < H.size → A1 q → A0 q) (hf : ∀ q, free q → A0 q) (hL : ∀ q ∈ L, free q.base) (hF : va_F A1 st₀ t) :
    H.size ≤ T'.heap.size ∧ (∀ q : Nat, q < H.size → ¬ A1 q → T'.heap[q]? = H[q]?) ∧ va_S A0 H0 T'.heap (locs ++ L) := by
  obtain ⟨hz, hk⟩ := hF
  rw [h0] at hz hk
  exact ⟨by rw [e1]; exact hz, fun q h1 h2 => by rw [e1]; exact hk q h1 h2,
    ⟨Nat.le_trans hS.1 (by rw [e1]; exact hz), fun q h1 h2 => by rw [e1, hk q (Nat.lt_of_lt_of_le h1 hS.1) (fun z => h2 (hA q (Nat.lt_of_lt_of_le h1 hS.1) z))]; exact hS.2.1 q h1 h2, fun q hq => by
      rcases List.mem_append.mp hq with h | h
      · exact hS.2.2 q h
      · exact hf _ (hL q h)⟩⟩
theorem vx_calli {S SX : Type} {post : Int32 → S → Prop} {px : SX → Prop} {B : S → State → Prop} {BX : String → SX → State → Prop} {AX : Nat → Prop} (hr : vx_Run p l e R s m args below meth c H locs cells slots mc ms (F0 m pc ls st0) rest (va_Qi post B A1 a) (vx_X px BX AX) free) (hS : va_S A0 H0 H locs) (hA : ∀ q, q < H.size → A1 q → A0 q) (hf : ∀ q, free q → A0 q) (hAX : ∀ q, q < H.size → AX q → A0 q)
    (kx : ∀ (E : String) (ce : Cell) (q9 : Addr) (u : SX) (t : State) (H1 : Heap) (locs1 : List Loc), t.heap = H1 → s.vm.Alike t.vm → px u → BX E u t → H.size ≤ H1.size → (∀ q : Nat, q < H.size → ¬ AX q → H1[q]? = H[q]?) → va_S A0 H0 H1 locs1 → H1[q9]? = some ce → ce.vm = .none → s.vm.findClass E = some ce.cls → vx_W p l e R s m args below meth c H1 locs1 (cells + mc) (slots + ms) Q (F0 m pc ls rest) q9)
    (kk : ∀ (r : Int32) (u : S) (t : State) (H1 : Heap) (locs1 : List Loc), t.heap = H1 → s.vm.Alike t.vm → post r u → B u t → H.size ≤ H1.size → (∀ q : Nat, q < H.size → ¬ A1 q → H1[q]? = H[q]?) → va_S A0 H0 H1 locs1 → W p l e R s m args below meth c H1 locs1 (cells + mc) (slots + ms) Q (F0 m (pc + 3) ls (.int r :: rest))) : W p l e R s m args below meth c H locs cells slots Q (F0 m pc ls st0) := by
  intro T hT X
  rcases hr T hT X with ⟨v, st₀, t, T', L, h0, X', hL, e1, e2, ⟨⟨r, u, hv, hp, hb⟩, hF⟩, st⟩ | ⟨q, st₀, t, T', L, E, ce, h0, X', hL, e1, e2, ⟨u, hp, hb, hF⟩, hce, hcv, hcl, st⟩
  · cases hv
    obtain ⟨k1, k2, k3⟩ := vx_keep h0 e1 hS hA hf hL hF
    obtain ⟨t2, a1, b1⟩ := kk r u t T'.heap (locs ++ L) e1.symm (by rw [← e2]; exact X'.warmed.alike) hp hb k1 k2 k3 T' rfl X'
    exact ⟨t2, st t2 a1, b1⟩
  · obtain ⟨k1, k2, k3⟩ := vx_keep h0 e1 hS hAX hf hL hF
    obtain ⟨t2, a1, b1⟩ := kx E ce q u t T'.heap (locs ++ L) e1.symm (by rw [← e2]; exact X'.warmed.alike) hp hb k1 k2 k3 (by rw [e1]; exact hce) hcv hcl T' rfl X'
    exact ⟨t2, st.trans a1, b1⟩
theorem vx_calll {S SX : Type} {post : Int64 → S → Prop} {px : SX → Prop} {B : S → State → Prop} {BX : String → SX → State → Prop} {AX : Nat → Prop} (hr : vx_Run p l e R s m args below meth c H locs cells slots mc ms (F0 m pc ls st0) rest (va_Ql post B A1 a) (vx_X px BX AX) free) (hS : va_S A0 H0 H locs) (hA : ∀ q, q < H.size → A1 q → A0 q) (hf : ∀ q, free q → A0 q) (hAX : ∀ q, q < H.size → AX q → A0 q)
    (kx : ∀ (E : String) (ce : Cell) (q9 : Addr) (u : SX) (t : State) (H1 : Heap) (locs1 : List Loc), t.heap = H1 → s.vm.Alike t.vm → px u → BX E u t → H.size ≤ H1.size → (∀ q : Nat, q < H.size → ¬ AX q → H1[q]? = H[q]?) → va_S A0 H0 H1 locs1 → H1[q9]? = some ce → ce.vm = .none → s.vm.findClass E = some ce.cls → vx_W p l e R s m args below meth c H1 locs1 (cells + mc) (slots + ms) Q (F0 m pc ls rest) q9)
    (kk : ∀ (r : Int64) (u : S) (t : State) (H1 : Heap) (locs1 : List Loc), t.heap = H1 → s.vm.Alike t.vm → post r u → B u t → H.size ≤ H1.size → (∀ q : Nat, q < H.size → ¬ A1 q → H1[q]? = H[q]?) → va_S A0 H0 H1 locs1 → W p l e R s m args below meth c H1 locs1 (cells + mc) (slots + ms) Q (F0 m (pc + 3) ls (.long r :: rest))) : W p l e R s m args below meth c H locs cells slots Q (F0 m pc ls st0) := by
  intro T hT X
  rcases hr T hT X with ⟨v, st₀, t, T', L, h0, X', hL, e1, e2, ⟨⟨r, u, hv, hp, hb⟩, hF⟩, st⟩ | ⟨q, st₀, t, T', L, E, ce, h0, X', hL, e1, e2, ⟨u, hp, hb, hF⟩, hce, hcv, hcl, st⟩
  · cases hv
    obtain ⟨k1, k2, k3⟩ := vx_keep h0 e1 hS hA hf hL hF
    obtain ⟨t2, a1, b1⟩ := kk r u t T'.heap (locs ++ L) e1.symm (by rw [← e2]; exact X'.warmed.alike) hp hb k1 k2 k3 T' rfl X'
    exact ⟨t2, st t2 a1, b1⟩
  · obtain ⟨k1, k2, k3⟩ := vx_keep h0 e1 hS hAX hf hL hF
    obtain ⟨t2, a1, b1⟩ := kx E ce q u t T'.heap (locs ++ L) e1.symm (by rw [← e2]; exact X'.warmed.alike) hp hb k1 k2 k3 (by rw [e1]; exact hce) hcv hcl T' rfl X'
    exact ⟨t2, st.trans a1, b1⟩
theorem vx_callf {S SX : Type} {post : UInt32 → S → Prop} {px : SX → Prop} {B : S → State → Prop} {BX : String → SX → State → Prop} {AX : Nat → Prop} (hr : vx_Run p l e R s m args below meth c H locs cells slots mc ms (F0 m pc ls st0) rest (va_Qf post B A1 a) (vx_X px BX AX) free) (hS : va_S A0 H0 H locs) (hA : ∀ q, q < H.size → A1 q → A0 q) (hf : ∀ q, free q → A0 q) (hAX : ∀ q, q < H.size → AX q → A0 q)
    (kx : ∀ (E : String) (ce : Cell) (q9 : Addr) (u : SX) (t : State) (H1 : Heap) (locs1 : List Loc), t.heap = H1 → s.vm.Alike t.vm → px u → BX E u t → H.size ≤ H1.size → (∀ q : Nat, q < H.size → ¬ AX q → H1[q]? = H[q]?) → va_S A0 H0 H1 locs1 → H1[q9]? = some ce → ce.vm = .none → s.vm.findClass E = some ce.cls → vx_W p l e R s m args below meth c H1 locs1 (cells + mc) (slots + ms) Q (F0 m pc ls rest) q9)
    (kk : ∀ (r : UInt32) (u : S) (t : State) (H1 : Heap) (locs1 : List Loc), t.heap = H1 → s.vm.Alike t.vm → post r u → B u t → H.size ≤ H1.size → (∀ q : Nat, q < H.size → ¬ A1 q → H1[q]? = H[q]?) → va_S A0 H0 H1 locs1 → W p l e R s m args below meth c H1 locs1 (cells + mc) (slots + ms) Q (F0 m (pc + 3) ls (.float r :: rest))) : W p l e R s m args below meth c H locs cells slots Q (F0 m pc ls st0) := by
  intro T hT X
  rcases hr T hT X with ⟨v, st₀, t, T', L, h0, X', hL, e1, e2, ⟨⟨r, u, hv, hp, hb⟩, hF⟩, st⟩ | ⟨q, st₀, t, T', L, E, ce, h0, X', hL, e1, e2, ⟨u, hp, hb, hF⟩, hce, hcv, hcl, st⟩
  · cases hv
    obtain ⟨k1, k2, k3⟩ := vx_keep h0 e1 hS hA hf hL hF
    obtain ⟨t2, a1, b1⟩ := kk r u t T'.heap (locs ++ L) e1.symm (by rw [← e2]; exact X'.warmed.alike) hp hb k1 k2 k3 T' rfl X'
    exact ⟨t2, st t2 a1, b1⟩
  · obtain ⟨k1, k2, k3⟩ := vx_keep h0 e1 hS hAX hf hL hF
    obtain ⟨t2, a1, b1⟩ := kx E ce q u t T'.heap (locs ++ L) e1.symm (by rw [← e2]; exact X'.warmed.alike) hp hb k1 k2 k3 (by rw [e1]; exact hce) hcv hcl T' rfl X'
    exact ⟨t2, st.trans a1, b1⟩
theorem vx_calld {S SX : Type} {post : UInt64 → S → Prop} {px : SX → Prop} {B : S → State → Prop} {BX : String → SX → State → Prop} {AX : Nat → Prop} (hr : vx_Run p l e R s m args below meth c H locs cells slots mc ms (F0 m pc ls st0) rest (va_Qd post B A1 a) (vx_X px BX AX) free) (hS : va_S A0 H0 H locs) (hA : ∀ q, q < H.size → A1 q → A0 q) (hf : ∀ q, free q → A0 q) (hAX : ∀ q, q < H.size → AX q → A0 q)
    (kx : ∀ (E : String) (ce : Cell) (q9 : Addr) (u : SX) (t : State) (H1 : Heap) (locs1 : List Loc), t.heap = H1 → s.vm.Alike t.vm → px u → BX E u t → H.size ≤ H1.size → (∀ q : Nat, q < H.size → ¬ AX q → H1[q]? = H[q]?) → va_S A0 H0 H1 locs1 → H1[q9]? = some ce → ce.vm = .none → s.vm.findClass E = some ce.cls → vx_W p l e R s m args below meth c H1 locs1 (cells + mc) (slots + ms) Q (F0 m pc ls rest) q9)
    (kk : ∀ (r : UInt64) (u : S) (t : State) (H1 : Heap) (locs1 : List Loc), t.heap = H1 → s.vm.Alike t.vm → post r u → B u t → H.size ≤ H1.size → (∀ q : Nat, q < H.size → ¬ A1 q → H1[q]? = H[q]?) → va_S A0 H0 H1 locs1 → W p l e R s m args below meth c H1 locs1 (cells + mc) (slots + ms) Q (F0 m (pc + 3) ls (.double r :: rest))) : W p l e R s m args below meth c H locs cells slots Q (F0 m pc ls st0) := by
  intro T hT X
  rcases hr T hT X with ⟨v, st₀, t, T', L, h0, X', hL, e1, e2, ⟨⟨r, u, hv, hp, hb⟩, hF⟩, st⟩ | ⟨q, st₀, t, T', L, E, ce, h0, X', hL, e1, e2, ⟨u, hp, hb, hF⟩, hce, hcv, hcl, st⟩
  · cases hv
    obtain ⟨k1, k2, k3⟩ := vx_keep h0 e1 hS hA hf hL hF
    obtain ⟨t2, a1, b1⟩ := kk r u t T'.heap (locs ++ L) e1.symm (by rw [← e2]; exact X'.warmed.alike) hp hb k1 k2 k3 T' rfl X'
    exact ⟨t2, st t2 a1, b1⟩
  · obtain ⟨k1, k2, k3⟩ := vx_keep h0 e1 hS hAX hf hL hF
    obtain ⟨t2, a1, b1⟩ := kx E ce q u t T'.heap (locs ++ L) e1.symm (by rw [← e2]; exact X'.warmed.alike) hp hb k1 k2 k3 (by rw [e1]; exact hce) hcv hcl T' rfl X'
    exact ⟨t2, st.trans a1, b1⟩
theorem vx_callv {S SX : Type} {post : S → Prop} {px : SX → Prop} {B : S → State → Prop} {BX : String → SX → State → Prop} {AX : Nat → Prop} (hr : vx_Run p l e R s m args below meth c H locs cells slots mc ms (F0 m pc ls st0) rest (va_Qv post B A1 a) (vx_X px BX AX) free) (hS : va_S A0 H0 H locs) (hA : ∀ q, q < H.size → A1 q → A0 q) (hf : ∀ q, free q → A0 q) (hAX : ∀ q, q < H.size → AX q → A0 q)
    (kx : ∀ (E : String) (ce : Cell) (q9 : Addr) (u : SX) (t : State) (H1 : Heap) (locs1 : List Loc), t.heap = H1 → s.vm.Alike t.vm → px u → BX E u t → H.size ≤ H1.size → (∀ q : Nat, q < H.size → ¬ AX q → H1[q]? = H[q]?) → va_S A0 H0 H1 locs1 → H1[q9]? = some ce → ce.vm = .none → s.vm.findClass E = some ce.cls → vx_W p l e R s m args below meth c H1 locs1 (cells + mc) (slots + ms) Q (F0 m pc ls rest) q9)
    (kk : ∀ (u : S) (t : State) (H1 : Heap) (locs1 : List Loc), t.heap = H1 → s.vm.Alike t.vm → post u → B u t → H.size ≤ H1.size → (∀ q : Nat, q < H.size → ¬ A1 q → H1[q]? = H[q]?) → va_S A0 H0 H1 locs1 → W p l e R s m args below meth c H1 locs1 (cells + mc) (slots + ms) Q (F0 m (pc + 3) ls (rest))) : W p l e R s m args below meth c H locs cells slots Q (F0 m pc ls st0) := by
  intro T hT X
  rcases hr T hT X with ⟨v, st₀, t, T', L, h0, X', hL, e1, e2, ⟨⟨u, hv, hp, hb⟩, hF⟩, st⟩ | ⟨q, st₀, t, T', L, E, ce, h0, X', hL, e1, e2, ⟨u, hp, hb, hF⟩, hce, hcv, hcl, st⟩
  · cases hv
    obtain ⟨k1, k2, k3⟩ := vx_keep h0 e1 hS hA hf hL hF
    obtain ⟨t2, a1, b1⟩ := kk u t T'.heap (locs ++ L) e1.symm (by rw [← e2]; exact X'.warmed.alike) hp hb k1 k2 k3 T' rfl X'
    exact ⟨t2, st t2 a1, b1⟩
  · obtain ⟨k1, k2, k3⟩ := vx_keep h0 e1 hS hAX hf hL hF
    obtain ⟨t2, a1, b1⟩ := kx E ce q u t T'.heap (locs ++ L) e1.symm (by rw [← e2]; exact X'.warmed.alike) hp hb k1 k2 k3 (by rw [e1]; exact hce) hcv hcl T' rfl X'
    exact ⟨t2, st.trans a1, b1⟩
/-- caught by the row x of this method's table; the rows ahead don't take it -/
theorem vx_catch {own name : String} {E : String} {ce : Cell} {q : Addr} (hown : s.vm.findClass own = some m.cls) (pre : List ExceptionTableEntry) (x : ExceptionTableEntry) (suf : List ExceptionTableEntry) (hsplit : c.exceptionTable.toList = pre ++ x :: suf)
    (hpass : ∀ z ∈ pre, covers z pc = false ∨ (z.catchType ≠ 0 ∧ ∃ nm : String, (Cond.classLink own z.catchType nm).before args s = true ∧ va_Nc E nm s)) (hx : covers x pc = true) (h0 : x.catchType ≠ 0)
    (hlink : (Cond.classLink own x.catchType name).before args s = true) (hcast : (Cond.castable E name).before args s = true) (hcell : H[q]? = some ce) (hv : ce.vm = .none) (hcl : s.vm.findClass E = some ce.cls)
    (kk : W p l e R s m args below meth c H locs cells slots Q (F0 m x.handlerPc ls [.ref q])) : vx_W p l e R s m args below meth c H locs cells slots Q (F0 m pc ls rest) q := by
  intro T hT X
  have hpl : e.platform.magicAccessors = ({} : Platform).magicAccessors := by rw [X.admits.platform]
  obtain ⟨c3, c4, hc3, hc4, hasg⟩ := Cond.castable_spec hcast
  cases Option.some.inj (hc3.symm.trans hcl)
  obtain ⟨c5, hc5, hcl5⟩ := Cond.classLink_spec hown hlink e.platform hpl
  cases Option.some.inj (hc4.symm.trans hc5)
  obtain ⟨vm', X', st⟩ := X.thenCaughtThrough q (g := F0 m pc ls rest) rfl (Steps.refl _) (by rw [hT]; exact hcell) (by rw [hv]; rfl) (by obtain ⟨k9, h9, -⟩ := Vm.findClass_spec hcl; exact ⟨k9, h9⟩) pre x suf hsplit
    (fun z hz => by
      rcases hpass z hz with h | ⟨hz0, nm, hl1, hn1⟩
      · exact Or.inl h
      · obtain ⟨c6, hc6, hcl6⟩ := Cond.classLink_spec hown hl1 e.platform hpl
        obtain ⟨a8, b8, h1, h2, h3⟩ := hn1
        cases Option.some.inj (h1.symm.trans hcl)
        cases Option.some.inj (h2.symm.trans hc6)
        exact Or.inr ⟨hz0, _, hcl6, h3⟩) hx (Or.inr ⟨h0, c4, hcl5, hasg⟩)
  obtain ⟨t, a1, b1⟩ := kk (T.setVm vm') hT X'
  exact ⟨t, st.trans a1, b1⟩
end Rows
section Ends
variable {p : Program} {l : Launch} {e : Env} {R : Room} {s : State} {m : MethodId} {args : Array Value} {below : List Frame} {meth : Method} {c : Code} {H : Heap} {locs : List Loc} {cells slots : Nat} {Q : State → Prop}
variable {mc ms : Nat} {free : Addr → Prop} {A0 A1 : Nat → Prop} {H0 : Heap} {a : Array Value} {ls : Array Slot} {st0 rest : List Value}
variable {Qc : Array Value → State → Outcome → State → Prop} {XC : String → State → State → Prop}
/-- what a body that may throw owes at its end -/
def vx_MQ (below : List Frame) (Qc : Array Value → State → Outcome → State → Prop) (XC : String → State → State → Prop) (a : Array Value) (s : State) (mc ms : Nat) (free : Addr → Prop) : State → Prop := fun t =>
  ∃ o, t.status = .running ∧ Ended t below o ∧ vx_Q Qc XC mc ms free a s o t
theorem vx_ret {g : JFrame} {mc ms : Nat} (k : W p l e R s m args below meth c H locs cells slots (MQ below Qc args s mc ms free) g) : W p l e R s m args below meth c H locs cells slots (vx_MQ below Qc XC args s mc ms free) g := by
  intro T hT X
  obtain ⟨t, a1, o, b1, b2, b3, b4⟩ := k T hT X
  exact ⟨t, a1, o, b1, b2, Or.inl ⟨b3, b4⟩⟩
/-- not caught here: it goes on to the caller -/
theorem vx_widen {g : JFrame} {q : Addr} {k n : Nat} (h1 : cells ≤ k) (h2 : slots ≤ n) (kk : vx_W p l e R s m args below meth c H locs k n Q g q) : vx_W p l e R s m args below meth c H locs cells slots Q g q := fun T hT X => kk T hT (stand_widen X h1 h2)
theorem vx_out {pc : Nat} {E : String} {ce : Cell} {q : Addr} {mc ms : Nat} (hout : ∀ x ∈ c.exceptionTable.toList, covers x pc = false) (hlocks : meth.locks = false) (hcell : H[q]? = some ce) (hv : ce.vm = .none) (hcl : s.vm.findClass E = some ce.cls)
    (hx : ∀ t : State, t.heap = H → s.vm.Alike t.vm → XC E s t) (hf : ∀ z ∈ locs, free z.base) (hc : cells ≤ mc) (hs : slots ≤ ms) :
    vx_W p l e R s m args below meth c H locs cells slots (vx_MQ below Qc XC args s mc ms free) (F0 m pc ls rest) q := by
  intro T hT X
  obtain ⟨st1, hrun, hend, hW, hsm⟩ := X.leaveThrown q (g := F0 m pc ls rest) rfl rfl rfl hout hlocks
  have hcell9 : (T.setFrames (.throwing q :: below)).heap[q]? = some ce := by
    show T.heap[q]? = some ce
    rw [hT]; exact hcell
  exact ⟨_, st1, .threw q, hrun, hend, Or.inr ⟨q, rfl, E, ce, locs, hx _ hT hW.alike, hcell9, hv, hcl, hW, hsm.mono hc hs, hf⟩⟩
theorem vx_frame {U : State} {k n : Nat} (h : s.sameButNew ({ U with vm := s.vm } : State) locs k n) : s.heap.size ≤ U.heap.size ∧ ∀ q : Nat, q < s.heap.size → (∀ z ∈ locs, z.base ≠ q) → U.heap[q]? = s.heap[q]? := by
  obtain ⟨-, h2, -, -, -, h6⟩ := h
  refine ⟨h2, fun q hq hz => ?_⟩
  obtain ⟨c9, e1, e2, e3, e4⟩ := h6 q _ (Array.getElem?_eq_getElem hq)
  have hs : c9.slots = (s.heap[q]).slots := Array.ext_getElem? fun i => e4 i fun hm => hz _ hm rfl
  have h9 : c9 = s.heap[q] := by
    rw [hs] at e2
    exact e2
  have e5 : U.heap[q]? = some c9 := e1
  rw [e5, h9, Array.getElem?_eq_getElem hq]
/-- the words of a throw but the four that speak of the heap -/
def vx_no (w : Cond) : Bool := decide (w ≠ .isRef (.static Bundle.tN "UNASSIGNED_STACK" Bundle.steD)) && decide (w ≠ .isRef (.static Bundle.tN "SUPPRESSED_SENTINEL" Bundle.listD)) && decide (w ≠ .laysStatic Bundle.tN "UNASSIGNED_STACK" Bundle.steD) && decide (w ≠ .laysStatic Bundle.tN "SUPPRESSED_SENTINEL" Bundle.listD)
def vx_at0 (own : String) (ic : Nat) (X : String) (names : List String) : List Cond := (Bundle.ownAtoms0 own ic X names).filter vx_no
def vx_atS (own : String) (ic : Nat) (X : String) (names : List String) : List Cond := (Bundle.ownAtoms own ic X names).filter vx_no
/-- a word that the tables alone decide, or a good one -/
def vx_ot (w : Cond) : Bool := w.onTables || goodWord w
theorem vx_ot_at {args a' : Array Value} {s U : State} {w : Cond} (hW : s.WarmedH U.vm) (hvm : s.vm = U.vm) (hg : vx_ot w = true) (h : w.before args s = true) : w.before a' U = true := by
  simp only [vx_ot, Bool.or_eq_true] at hg
  rcases hg with hg | hg
  · exact va_tabs hg hvm h
  · exact word_at hW (good_of_word hg) h
/-- a list's words: the good ones out of the method's own list, the others by premises of their own -/
theorem vx_hat {args : Array Value} {s : State} {L B : List Cond} (h1 : ∀ w ∈ L.filter goodWord, w.before args s = true) (h2 : ∀ w ∈ L.filter (fun w => !goodWord w), w ∈ B) (h3 : ∀ w ∈ B, w.before args s = true) : ∀ w ∈ L, w.before args s = true := by
  intro w hw
  by_cases g : goodWord w = true
  · exact h1 w (List.mem_filter.mpr ⟨hw, g⟩)
  · refine h3 w (h2 w (List.mem_filter.mpr ⟨hw, ?_⟩))
    show (!goodWord w) = true
    cases hgw : goodWord w
    · rfl
    · exact absurd hgw g
theorem vx_c {args : Array Value} {s : State} {w : Cond} {B : List Cond} (h : w.before args s = true) (t : ∀ w ∈ B, w.before args s = true) : ∀ w' ∈ w :: B, w'.before args s = true := fun w' h' => (List.mem_cons.mp h').elim (fun e => by rw [e]; exact h) (t w')
theorem vx_n {args : Array Value} {s : State} : ∀ w ∈ ([] : List Cond), w.before args s = true := fun _ h => nomatch h
theorem vx_own {args : Array Value} {s : State} {L : List Cond} (h1 : ∀ w ∈ L.filter vx_no, w.before args s = true)
    (hU : (Cond.isRef (.static Bundle.tN "UNASSIGNED_STACK" Bundle.steD)).before args s = true) (hN : (Cond.isRef (.static Bundle.tN "SUPPRESSED_SENTINEL" Bundle.listD)).before args s = true)
    (lU : (Cond.laysStatic Bundle.tN "UNASSIGNED_STACK" Bundle.steD).before args s = true) (lN : (Cond.laysStatic Bundle.tN "SUPPRESSED_SENTINEL" Bundle.listD).before args s = true) : ∀ w ∈ L, w.before args s = true := by
  intro w hw
  by_cases e1 : w = .isRef (.static Bundle.tN "UNASSIGNED_STACK" Bundle.steD)
  · rw [e1]; exact hU
  · by_cases e2 : w = .isRef (.static Bundle.tN "SUPPRESSED_SENTINEL" Bundle.listD)
    · rw [e2]; exact hN
    · by_cases e3 : w = .laysStatic Bundle.tN "UNASSIGNED_STACK" Bundle.steD
      · rw [e3]; exact lU
      · by_cases e4 : w = .laysStatic Bundle.tN "SUPPRESSED_SENTINEL" Bundle.listD
        · rw [e4]; exact lN
        · exact h1 w (List.mem_filter.mpr ⟨hw, by unfold vx_no; rw [decide_eq_true e1, decide_eq_true e2, decide_eq_true e3, decide_eq_true e4]; rfl⟩)
/-- where a static field lies, its class's statics cell in H -/
def vx_L (C n d : String) (A : Nat → Prop) (U : State) (H : Heap) : Prop := ∃ (c : ClassId) (k : Class) (i : Nat) (f : Field) (a : Nat) (cell : Cell), U.vm.findClass C = some c ∧ U.fieldFound? C n d = some (c, k, i, f) ∧ f.isStatic = true ∧ k.statics = some a ∧ H[a]? = some cell ∧ cell.vm.isStatics = true ∧ cell.cls = c ∧ f.slot < cell.slots.size ∧ k.staticTypes[f.slot]? = some f.type ∧ ¬ A a
theorem vx_L.moved {C n d : String} {A : Nat → Prop} {u U : State} {H : Heap} (hvm : u.vm.Alike U.vm) (h : vx_L C n d A u H) : vx_L C n d A U H := by
  obtain ⟨c, k, i, f, a, cell, h1, h2, h3, h4, h5, h6, h7, h8, h9, h10⟩ := h
  obtain ⟨k', hi', he⟩ := State.fieldFound?_setVm hvm h2
  exact ⟨c, k', i, f, a, cell, by rw [hvm.findClass]; exact h1, hi', h3, by rw [he]; exact h4, h5, h6, h7, h8, by rw [he]; exact h9, h10⟩
theorem vx_L.kept {C n d : String} {A : Nat → Prop} {U : State} {H H1 : Heap} (h : vx_L C n d A U H) (hq : ∀ a : Nat, a < H.size → ¬ A a → H1[a]? = H[a]?) : vx_L C n d A U H1 := by
  obtain ⟨c, k, i, f, a, cell, h1, h2, h3, h4, h5, h6, h7, h8, h9, h10⟩ := h
  exact ⟨c, k, i, f, a, cell, h1, h2, h3, h4, by rw [hq a (Array.getElem?_eq_some_iff.mp h5).1 h10]; exact h5, h6, h7, h8, h9, h10⟩
theorem vx_L.narrow {C n d : String} {A B : Nat → Prop} {U : State} {H : Heap} (h : vx_L C n d A U H) (hAB : ∀ q, B q → A q) : vx_L C n d B U H := by
  obtain ⟨c, k, i, f, a, cell, h1, h2, h3, h4, h5, h6, h7, h8, h9, h10⟩ := h
  exact ⟨c, k, i, f, a, cell, h1, h2, h3, h4, h5, h6, h7, h8, h9, fun z => h10 (hAB _ z)⟩
theorem vx_L.word {C n d : String} {A : Nat → Prop} {s : State} {args : Array Value} (h : vx_L C n d A s s.heap) : (Cond.laysStatic C n d).before args s = true := by
  obtain ⟨c, k, i, f, a, cell, h1, h2, h3, h4, h5, h6, h7, h8, h9, -⟩ := h
  show (Cond.laysStatic C n d).holds args s none s [] = true
  exact Cond.laysStatic_of h1 h2 h3 h4 h5 h6 h7 h8 h9
/-- .. and what it holds: null or some reference -/
def vx_Zq (C n d : String) (A : Nat → Prop) (U : State) (H : Heap) : Prop := va_Zq C n d A U H ∧ vx_L C n d A U H
theorem vx_Zq.moved {C n d : String} {A : Nat → Prop} {u U : State} {H : Heap} (hvm : u.vm.Alike U.vm) (h : vx_Zq C n d A u H) : vx_Zq C n d A U H := ⟨va_Zq.moved hvm h.1, vx_L.moved hvm h.2⟩
theorem vx_Zq.kept {C n d : String} {A : Nat → Prop} {U : State} {H H1 : Heap} (h : vx_Zq C n d A U H) (hq : ∀ a : Nat, a < H.size → ¬ A a → H1[a]? = H[a]?) : vx_Zq C n d A U H1 := ⟨va_Zq.kept h.1 hq, vx_L.kept h.2 hq⟩
theorem vx_Zq.narrow {C n d : String} {A B : Nat → Prop} {U : State} {H : Heap} (h : vx_Zq C n d A U H) (hAB : ∀ q, B q → A q) : vx_Zq C n d B U H := ⟨va_Zq.narrow h.1 hAB, vx_L.narrow h.2 hAB⟩
theorem vx_Zqof {args : Array Value} {s : State} {C n d : String} {A : Nat → Prop} (hl : (Cond.laysStatic C n d).before args s = true) (hini : (Cond.initialized C).before args s = true) (h : (Cond.isRef (.static C n d)).before args s = true) (hA : ∀ a : Nat, a < s.heap.size → ¬ A a) : vx_Zq C n d A s s.heap := by
  refine ⟨va_Zqof hl hini h hA, ?_⟩
  obtain ⟨c, k, i, f, a, cell, h1, h2, h3, h4, h5, h6, h7, h8, h9⟩ := Cond.laysStatic_spec hl
  exact ⟨c, k, i, f, a, cell, h1, h2, h3, h4, h5, h6, h7, h8, h9, hA a (Array.getElem?_eq_some_iff.mp h5).1⟩
theorem vx_isRef {C n d : String} {v : Value} {A : Nat → Prop} {s : State} {args : Array Value} (h : va_Z C n d v A s s.heap) (hv : v.isRef = true) : (Cond.isRef (.static C n d)).before args s = true := by
  obtain ⟨cf, kf, fi, f, a, cell, h1, h2, h3, h4, h5, h6, h7, -⟩ := h
  have he : (Term.static C n d).eval args s none [] s = some v := by
    simp [Term.eval, State.fieldNamed?, h1, h2, h4, h5, h6, h7]
  simp only [Cond.before, Cond.holds, Cond.value, he]
  cases v <;> simp_all [Value.isRef]
theorem vx_isRefq {C n d : String} {A : Nat → Prop} {s : State} {args : Array Value} (h : va_Zq C n d A s s.heap) : (Cond.isRef (.static C n d)).before args s = true := by
  rcases h with h | ⟨t, h⟩
  · exact vx_isRef h rfl
  · exact vx_isRef h rfl
/-- the same frame, seen from here: as if the method were called anew in this heap -/
theorem vx_rebase {T : State} (X : Stand p l e R s m args below meth c T locs cells slots) {R' : Room} (hf : R'.frames ≤ R.frames) (hl : R'.locals ≤ R.locals) (hc : cells + R'.cells ≤ R.cells) (hs : slots + R'.slots ≤ R.slots) :
    Stand p l e R' ((T.setVm s.vm).setFrames (.invoking m args :: below)) m args below meth c T [] 0 0 := by
  have htop : (T.setVm s.vm).topJava?.isSome := X.here.top
  have hF : ((T.setVm s.vm).setFrames (.invoking m args :: below)).frames = .invoking m args :: below := State.frames_setFrames _ (State.cur_lt_of_top htop)
  obtain ⟨g₀, hg0⟩ := Option.isSome_iff_exists.mp htop
  obtain ⟨r, hr⟩ := State.topJava?_eq_some.mp hg0
  have hl9 : e.platform.stackLimits (T.setVm s.vm).me = e.platform.stackLimits s.me := X.limits
  have hb9 : (T.setVm s.vm).me.stackBytes = s.me.stackBytes := X.bytes
  refine ⟨X.admits, X.cas, X.clock, hF, ?_, X.hears, X.method, X.code, X.here, X.tail, X.warmed, ?_, ?_, ?_⟩
  · have h := X.room
    have hU : ((T.setVm s.vm).setFrames (.invoking m args :: below)).localsInUse = s.localsInUse := by
      rw [State.localsInUse_invoking hF (meth := meth) (c := c) X.method X.code, State.localsInUse_invoking X.frames X.method X.code]
    simp only [State.hasRoom, Bool.and_eq_true, decide_eq_true_eq] at h ⊢
    obtain ⟨⟨⟨⟨h1, h2, h3, h4, h5, h6⟩, h7⟩, h8⟩, h9⟩ := h
    rw [X.frames, List.length_cons] at h2 h3
    have q1 := X.heapSize
    have q2 := X.used
    simp only [hF, hU, List.length_cons, State.stackLimits_setFrames, State.stackBytes_setFrames, hl9, hb9]
    refine ⟨⟨⟨⟨by omega, by omega, by omega, by omega, by omega, h6⟩, ?_⟩, ?_⟩, X.book⟩
    · show T.heap.size + R'.cells ≤ e.platform.maxCells
      omega
    · show T.slotsUsed + R'.slots ≤ e.platform.maxSlots
      omega
  · rw [State.stackLimits_setFrames]; rfl
  · rw [State.stackBytes_setFrames]; rfl
  · refine ⟨?_, Nat.le_refl _, Nat.le_refl _, ?_, ?_, fun a c9 h9 => ⟨c9, h9, rfl, rfl, fun _ _ => rfl⟩⟩
    · obtain ⟨t, ht, -⟩ := State.frames_cons hr
      show T.setVm s.vm = { ((T.setVm s.vm).setFrames (.invoking m args :: below)).setFrames (T.setVm s.vm).frames with heap := T.heap, slotsUsed := T.slotsUsed }
      rw [State.setFrames_setFrames, State.setFrames_self ht]
      rfl
    · show T.slotsUsed = T.slotsUsed + ((T.heap.toList.drop T.heap.size).map (·.slots.size)).sum
      rw [List.drop_eq_nil_of_le (Nat.le_of_eq Array.length_toList)]
      rfl
    · show ((T.heap.toList.drop T.heap.size).map (·.slots.size)).sum ≤ 0
      rw [List.drop_eq_nil_of_le (Nat.le_of_eq Array.length_toList)]
      exact Nat.le_refl _
/-- 'throw new E()': new; dup; invokespecial; athrow -/
theorem vx_throw0 {cc : ByteArray} {pc : Nat} (hexec : p.tables.exec = Jvm.exec) (hb : c.code = cc) (hl : l.stackTraces = false) {own cls : String} {names : List String} {ik ic mc ms : Nat} {A : Nat → Prop}
    (hown : s.vm.findClass own = some m.cls) (hcls : Bundle.fit cls = true) (hnames : ∀ n ∈ names, Bundle.fit n = true)
    (hk : (Cond.classLink own ik cls).before args s = true) (hini : (Cond.initialized cls).before args s = true) (hat : ∀ w ∈ vx_at0 own ic cls names, w.before args s = true)
    (hgood : ∀ w ∈ Cond.classLink own ik cls :: Cond.initialized cls :: vx_at0 own ic cls names, vx_ot w = true)
    (hU : vx_Zq Bundle.tN "UNASSIGNED_STACK" Bundle.steD A s s.heap) (hN : vx_Zq Bundle.tN "SUPPRESSED_SENTINEL" Bundle.listD A s s.heap) (hS : va_S A s.heap H locs) (hsize : ls.size = c.maxLocals)
    (d0 : decode cc pc = .ok (.new ik, 3)) (d3 : decode cc (pc + 3) = .ok (.dup, 1)) (d4 : decode cc (pc + 4) = .ok (.invokespecial ic, 3)) (d7 : decode cc (pc + 7) = .ok (.athrow, 1))
    (hout : ∀ x ∈ c.exceptionTable.toList, covers x (pc + 7) = false)
    (hRframes : names.length + 3 < R.frames) (hRlocals : (rest.map fun v => v.category).sum + (13 * (names.length + 1) + 42) ≤ R.locals) (hRcells : cells + 1 ≤ R.cells) (hRslots : slots + 6 ≤ R.slots) (hlocks : meth.locks = false)
    (hx : ∀ t : State, s.vm.Alike t.vm → H.size ≤ t.heap.size → (∀ q : Nat, q < H.size → t.heap[q]? = H[q]?) → XC cls s t)
    (hf : ∀ z ∈ locs, free z.base) (hc : cells + 1 ≤ mc) (hs : slots + 6 ≤ ms) :
    W p l e R s m args below meth c H locs cells slots (vx_MQ below Qc XC args s mc ms free) (F0 m pc ls rest) := by
  intro T hT X
  have htr : e.platform.stackTraces = false := (show e.platform.stackTraces = l.stackTraces by rw [X.admits.platform]).trans hl
  have Y := vx_rebase X (R' := { frames := R.frames, locals := R.locals, cells := 1, slots := 6 }) (Nat.le_refl _) (Nat.le_refl _) hRcells hRslots
  obtain ⟨s', hA⟩ : ∃ z, z = (T.setVm s.vm).setFrames (.invoking m args :: below) := ⟨_, rfl⟩
  rw [← hA] at Y
  have hvm : s'.vm = s.vm := by rw [hA]; rfl
  have hhp : s'.heap = H := by rw [hA]; exact hT
  have hW0 : s.WarmedH s'.vm := by rw [hvm]; exact State.WarmedH.refl s
  have hat' : ∀ w ∈ vx_at0 own ic cls names, w.before args s' = true := fun w hw => vx_ot_at hW0 hvm.symm (hgood w (List.mem_cons_of_mem _ (List.mem_cons_of_mem _ hw))) (hat w hw)
  have hk' : (Cond.classLink own ik cls).before args s' = true := vx_ot_at hW0 hvm.symm (hgood _ List.mem_cons_self) hk
  have hini' : (Cond.initialized cls).before args s' = true := vx_ot_at hW0 hvm.symm (hgood _ (List.mem_cons_of_mem _ List.mem_cons_self)) hini
  have hU' : vx_Zq Bundle.tN "UNASSIGNED_STACK" Bundle.steD A s' s'.heap := by rw [hhp]; exact vx_Zq.moved hW0.alike (hU.kept hS.2.1)
  have hN' : vx_Zq Bundle.tN "SUPPRESSED_SENTINEL" Bundle.listD A s' s'.heap := by rw [hhp]; exact vx_Zq.moved hW0.alike (hN.kept hS.2.1)
  have h : ∀ w ∈ Bundle.ownAtoms0 own ic cls names, w.before args s' = true := vx_own hat' (vx_isRefq hU'.1) (vx_isRefq hN'.1) hU'.2.word hN'.2.word
  have hown' : s'.vm.findClass own = some m.cls := by rw [hvm]; exact hown
  have hins : (Cond.instantiable cls 6).before args s' = true := h _ (by simp [Bundle.ownAtoms0])
  obtain ⟨vm₁, cX, kX, hfX, hkX, -, -, X₁, st1⟩ := Y.newCold hexec (own := own) (C := cls) (index := ik) (n := 6) hown' hk' hins hini'
    (g := F0 m pc ls rest) rfl (by rw [hb]; exact d0) (Nat.le_refl _) (Nat.le_refl _)
  generalize hT1 : (T.setVm vm₁).pushCell { cls := cX, slots := kX.instanceTypes.map defaultValue, vm := .none } = T1 at X₁ st1
  have hcat : (Value.ref T.heap.size).category = 1 := rfl
  have hcellA : T1.heap[T.heap.size]? = some (freshCell cX kX) := by rw [← hT1]; exact State.heap_pushCell_size _ _
  have d3' : decode c.code (pc + 3) = .ok (.dup, 1) := by rw [hb]; exact d3
  obtain ⟨U, hsteps, hrun, hend, hW, hsame, ce, hce, hO⟩ := X₁.ctorThrow0 hexec htr (own := own) (cls := cls) (names := names) (ic := ic) hown' hcls hnames h (fun x hx => nomatch hx) hfX hkX hcellA (by rw [hhp, hT]; exact Nat.le_refl _)
    (g := { method := m, pc := pc + 4, locals := ls, stack := .ref T.heap.size :: .ref T.heap.size :: rest, locked := none }) rfl hsize rfl rfl (rest := rest) rfl
    (by rw [hb]; exact d4) (by rw [hb]; exact d7) hout hRframes (by simp only [List.map_cons, List.sum_cons, hcat]; omega) hlocks
  obtain ⟨f1, f2⟩ := vx_frame hsame
  rw [hhp] at f1 f2
  have hWs : s.WarmedH U.vm := State.WarmedH.trans hW0 hW
  have hcl : s.vm.findClass cls = some ce.cls := by
    have h9 := hO.cls
    rw [hvm] at h9
    exact h9
  have hall : s.sameButNew ({ U with vm := s.vm } : State) locs mc ms := by
    subst hA
    obtain ⟨e1, e2⟩ := hsame
    rw [State.setFrames_setFrames] at e1
    have h2 : (T.setVm s.vm).sameButNew ({ U with vm := s.vm } : State) [] (0 + 1) (0 + 6) := ⟨e1, e2⟩
    have h3 := X.same.trans h2
    rw [List.append_nil] at h3
    exact h3.mono hc hs
  refine ⟨U, ?_, .threw T.heap.size, hrun, hend, Or.inr ⟨T.heap.size, rfl, cls, ce, locs, hx U hWs.alike f1 (fun q hq => f2 q hq (fun z hz => nomatch hz)), hce, hO.vm, hcl, hWs, hall, hf⟩⟩
  refine st1 _ ?_
  show Steps p.tables e below (T1.setTop { method := m, pc := pc + 3, locals := ls, stack := .ref T.heap.size :: rest, locked := none }) _
  jvm_step X₁.here [X₁.here.top, hexec, d3', Value.category]
  exact hsteps
/-- 'throw new E("text")': new; dup; ldc; invokespecial; athrow -/
theorem vx_throwS {cc : ByteArray} {pc : Nat} (hexec : p.tables.exec = Jvm.exec) (hb : c.code = cc) (hl : l.stackTraces = false) {own cls text : String} {names : List String} {ik is ic mc ms sa : Nat} {A : Nat → Prop}
    (hown : s.vm.findClass own = some m.cls) (hcls : Bundle.fit cls = true) (hnames : ∀ n ∈ names, Bundle.fit n = true)
    (hk : (Cond.classLink own ik cls).before args s = true) (hini : (Cond.initialized cls).before args s = true) (hstr : vk_R own is text sa s) (hat : ∀ w ∈ vx_atS own ic cls names, w.before args s = true)
    (hgood : ∀ w ∈ Cond.classLink own ik cls :: Cond.initialized cls :: vx_atS own ic cls names, vx_ot w = true)
    (hU : vx_Zq Bundle.tN "UNASSIGNED_STACK" Bundle.steD A s s.heap) (hN : vx_Zq Bundle.tN "SUPPRESSED_SENTINEL" Bundle.listD A s s.heap) (hS : va_S A s.heap H locs) (hsize : ls.size = c.maxLocals)
    (d0 : decode cc pc = .ok (.new ik, 3)) (d3 : decode cc (pc + 3) = .ok (.dup, 1)) (d4 : decode cc (pc + 4) = .ok (.ldc is, 2)) (d6 : decode cc (pc + 6) = .ok (.invokespecial ic, 3)) (d9 : decode cc (pc + 9) = .ok (.athrow, 1))
    (hout : ∀ x ∈ c.exceptionTable.toList, covers x (pc + 9) = false)
    (hRframes : names.length + 3 < R.frames) (hRlocals : (rest.map fun v => v.category).sum + (13 * (names.length + 1) + 43) ≤ R.locals) (hRcells : cells + 1 ≤ R.cells) (hRslots : slots + 6 ≤ R.slots) (hlocks : meth.locks = false)
    (hx : ∀ t : State, s.vm.Alike t.vm → H.size ≤ t.heap.size → (∀ q : Nat, q < H.size → t.heap[q]? = H[q]?) → XC cls s t)
    (hf : ∀ z ∈ locs, free z.base) (hc : cells + 1 ≤ mc) (hs : slots + 6 ≤ ms) :
    W p l e R s m args below meth c H locs cells slots (vx_MQ below Qc XC args s mc ms free) (F0 m pc ls rest) := by
  intro T hT X
  have htr : e.platform.stackTraces = false := (show e.platform.stackTraces = l.stackTraces by rw [X.admits.platform]).trans hl
  have Y := vx_rebase X (R' := { frames := R.frames, locals := R.locals, cells := 1, slots := 6 }) (Nat.le_refl _) (Nat.le_refl _) hRcells hRslots
  obtain ⟨s', hA⟩ : ∃ z, z = (T.setVm s.vm).setFrames (.invoking m args :: below) := ⟨_, rfl⟩
  rw [← hA] at Y
  have hvm : s'.vm = s.vm := by rw [hA]; rfl
  have hhp : s'.heap = H := by rw [hA]; exact hT
  have hW0 : s.WarmedH s'.vm := by rw [hvm]; exact State.WarmedH.refl s
  have hat' : ∀ w ∈ vx_atS own ic cls names, w.before args s' = true := fun w hw => vx_ot_at hW0 hvm.symm (hgood w (List.mem_cons_of_mem _ (List.mem_cons_of_mem _ hw))) (hat w hw)
  have hk' : (Cond.classLink own ik cls).before args s' = true := vx_ot_at hW0 hvm.symm (hgood _ List.mem_cons_self) hk
  have hini' : (Cond.initialized cls).before args s' = true := vx_ot_at hW0 hvm.symm (hgood _ (List.mem_cons_of_mem _ List.mem_cons_self)) hini
  have hU' : vx_Zq Bundle.tN "UNASSIGNED_STACK" Bundle.steD A s' s'.heap := by rw [hhp]; exact vx_Zq.moved hW0.alike (hU.kept hS.2.1)
  have hN' : vx_Zq Bundle.tN "SUPPRESSED_SENTINEL" Bundle.listD A s' s'.heap := by rw [hhp]; exact vx_Zq.moved hW0.alike (hN.kept hS.2.1)
  have h : ∀ w ∈ Bundle.ownAtoms own ic cls names, w.before args s' = true := vx_own hat' (vx_isRefq hU'.1) (vx_isRefq hN'.1) hU'.2.word hN'.2.word
  have hown' : s'.vm.findClass own = some m.cls := by rw [hvm]; exact hown
  have hins : (Cond.instantiable cls 6).before args s' = true := h _ (by simp [Bundle.ownAtoms])
  obtain ⟨vm₁, cX, kX, hfX, hkX, -, -, X₁, st1⟩ := Y.newCold hexec (own := own) (C := cls) (index := ik) (n := 6) hown' hk' hins hini'
    (g := F0 m pc ls rest) rfl (by rw [hb]; exact d0) (Nat.le_refl _) (Nat.le_refl _)
  generalize hT1 : (T.setVm vm₁).pushCell { cls := cX, slots := kX.instanceTypes.map defaultValue, vm := .none } = T1 at X₁ st1
  have hcat : (Value.ref T.heap.size).category = 1 := rfl
  have hcellA : T1.heap[T.heap.size]? = some (freshCell cX kX) := by rw [← hT1]; exact State.heap_pushCell_size _ _
  have d3' : decode c.code (pc + 3) = .ok (.dup, 1) := by rw [hb]; exact d3
  have d4' : decode c.code (pc + 4) = .ok (.ldc is, 2) := by rw [hb]; exact d4
  have hstr' : vk_R own is text sa s' := vk_R.warm hW0 hstr
  obtain ⟨U, hsteps, hrun, hend, hW, hsame, ce, hce, hO⟩ := X₁.ctorThrowS hexec htr (own := own) (cls := cls) (names := names) (ic := ic) hown' hcls hnames h (fun x hx => nomatch hx) hfX hkX hcellA (by rw [hhp, hT]; exact Nat.le_refl _) (msg := .ref sa) rfl
    (g := { method := m, pc := pc + 6, locals := ls, stack := .ref sa :: .ref T.heap.size :: .ref T.heap.size :: rest, locked := none }) rfl hsize rfl rfl (rest := rest) rfl
    (by rw [hb]; exact d6) (by rw [hb]; exact d9) hout hRframes (by simp only [List.map_cons, List.sum_cons, hcat]; omega) hlocks
  obtain ⟨f1, f2⟩ := vx_frame hsame
  rw [hhp] at f1 f2
  have hWs : s.WarmedH U.vm := State.WarmedH.trans hW0 hW
  have hcl : s.vm.findClass cls = some ce.cls := by
    have h9 := hO.cls
    rw [hvm] at h9
    exact h9
  have hall : s.sameButNew ({ U with vm := s.vm } : State) locs mc ms := by
    subst hA
    obtain ⟨e1, e2⟩ := hsame
    rw [State.setFrames_setFrames] at e1
    have h2 : (T.setVm s.vm).sameButNew ({ U with vm := s.vm } : State) [] (0 + 1) (0 + 6) := ⟨e1, e2⟩
    have h3 := X.same.trans h2
    rw [List.append_nil] at h3
    exact h3.mono hc hs
  refine ⟨U, ?_, .threw T.heap.size, hrun, hend, Or.inr ⟨T.heap.size, rfl, cls, ce, locs, hx U hWs.alike f1 (fun q hq => f2 q hq (fun z hz => nomatch hz)), hce, hO.vm, hcl, hWs, hall, hf⟩⟩
  refine st1 _ ?_
  show Steps p.tables e below (T1.setTop { method := m, pc := pc + 3, locals := ls, stack := .ref T.heap.size :: rest, locked := none }) _
  jvm_step X₁.here [X₁.here.top, hexec, d3', Value.category]
  exact X₁.ldcString hexec (own := own) (text := text) (index := is) (a := sa) hown' hstr'.1 hstr'.2
    (g := { method := m, pc := pc + 4, locals := ls, stack := .ref T.heap.size :: .ref T.heap.size :: rest, locked := none }) rfl d4' _ hsteps
/-- 'throw new E("text")', the text by a wide index -/
theorem vx_throwSW {cc : ByteArray} {pc : Nat} (hexec : p.tables.exec = Jvm.exec) (hb : c.code = cc) (hl : l.stackTraces = false) {own cls text : String} {names : List String} {ik is ic mc ms sa : Nat} {A : Nat → Prop}
    (hown : s.vm.findClass own = some m.cls) (hcls : Bundle.fit cls = true) (hnames : ∀ n ∈ names, Bundle.fit n = true)
    (hk : (Cond.classLink own ik cls).before args s = true) (hini : (Cond.initialized cls).before args s = true) (hstr : vk_R own is text sa s) (hat : ∀ w ∈ vx_atS own ic cls names, w.before args s = true)
    (hgood : ∀ w ∈ Cond.classLink own ik cls :: Cond.initialized cls :: vx_atS own ic cls names, vx_ot w = true)
    (hU : vx_Zq Bundle.tN "UNASSIGNED_STACK" Bundle.steD A s s.heap) (hN : vx_Zq Bundle.tN "SUPPRESSED_SENTINEL" Bundle.listD A s s.heap) (hS : va_S A s.heap H locs) (hsize : ls.size = c.maxLocals)
    (d0 : decode cc pc = .ok (.new ik, 3)) (d3 : decode cc (pc + 3) = .ok (.dup, 1)) (d4 : decode cc (pc + 4) = .ok (.ldc_w is, 3)) (d7 : decode cc (pc + 7) = .ok (.invokespecial ic, 3)) (d10 : decode cc (pc + 10) = .ok (.athrow, 1))
    (hout : ∀ x ∈ c.exceptionTable.toList, covers x (pc + 10) = false)
    (hRframes : names.length + 3 < R.frames) (hRlocals : (rest.map fun v => v.category).sum + (13 * (names.length + 1) + 43) ≤ R.locals) (hRcells : cells + 1 ≤ R.cells) (hRslots : slots + 6 ≤ R.slots) (hlocks : meth.locks = false)
    (hx : ∀ t : State, s.vm.Alike t.vm → H.size ≤ t.heap.size → (∀ q : Nat, q < H.size → t.heap[q]? = H[q]?) → XC cls s t)
    (hf : ∀ z ∈ locs, free z.base) (hc : cells + 1 ≤ mc) (hs : slots + 6 ≤ ms) :
    W p l e R s m args below meth c H locs cells slots (vx_MQ below Qc XC args s mc ms free) (F0 m pc ls rest) := by
  intro T hT X
  have htr : e.platform.stackTraces = false := (show e.platform.stackTraces = l.stackTraces by rw [X.admits.platform]).trans hl
  have Y := vx_rebase X (R' := { frames := R.frames, locals := R.locals, cells := 1, slots := 6 }) (Nat.le_refl _) (Nat.le_refl _) hRcells hRslots
  obtain ⟨s', hA⟩ : ∃ z, z = (T.setVm s.vm).setFrames (.invoking m args :: below) := ⟨_, rfl⟩
  rw [← hA] at Y
  have hvm : s'.vm = s.vm := by rw [hA]; rfl
  have hhp : s'.heap = H := by rw [hA]; exact hT
  have hW0 : s.WarmedH s'.vm := by rw [hvm]; exact State.WarmedH.refl s
  have hat' : ∀ w ∈ vx_atS own ic cls names, w.before args s' = true := fun w hw => vx_ot_at hW0 hvm.symm (hgood w (List.mem_cons_of_mem _ (List.mem_cons_of_mem _ hw))) (hat w hw)
  have hk' : (Cond.classLink own ik cls).before args s' = true := vx_ot_at hW0 hvm.symm (hgood _ List.mem_cons_self) hk
  have hini' : (Cond.initialized cls).before args s' = true := vx_ot_at hW0 hvm.symm (hgood _ (List.mem_cons_of_mem _ List.mem_cons_self)) hini
  have hU' : vx_Zq Bundle.tN "UNASSIGNED_STACK" Bundle.steD A s' s'.heap := by rw [hhp]; exact vx_Zq.moved hW0.alike (hU.kept hS.2.1)
  have hN' : vx_Zq Bundle.tN "SUPPRESSED_SENTINEL" Bundle.listD A s' s'.heap := by rw [hhp]; exact vx_Zq.moved hW0.alike (hN.kept hS.2.1)
  have h : ∀ w ∈ Bundle.ownAtoms own ic cls names, w.before args s' = true := vx_own hat' (vx_isRefq hU'.1) (vx_isRefq hN'.1) hU'.2.word hN'.2.word
  have hown' : s'.vm.findClass own = some m.cls := by rw [hvm]; exact hown
  have hins : (Cond.instantiable cls 6).before args s' = true := h _ (by simp [Bundle.ownAtoms])
  obtain ⟨vm₁, cX, kX, hfX, hkX, -, -, X₁, st1⟩ := Y.newCold hexec (own := own) (C := cls) (index := ik) (n := 6) hown' hk' hins hini'
    (g := F0 m pc ls rest) rfl (by rw [hb]; exact d0) (Nat.le_refl _) (Nat.le_refl _)
  generalize hT1 : (T.setVm vm₁).pushCell { cls := cX, slots := kX.instanceTypes.map defaultValue, vm := .none } = T1 at X₁ st1
  have hcat : (Value.ref T.heap.size).category = 1 := rfl
  have hcellA : T1.heap[T.heap.size]? = some (freshCell cX kX) := by rw [← hT1]; exact State.heap_pushCell_size _ _
  have d3' : decode c.code (pc + 3) = .ok (.dup, 1) := by rw [hb]; exact d3
  have d4' : decode c.code (pc + 4) = .ok (.ldc_w is, 3) := by rw [hb]; exact d4
  have hstr' : vk_R own is text sa s' := vk_R.warm hW0 hstr
  obtain ⟨U, hsteps, hrun, hend, hW, hsame, ce, hce, hO⟩ := X₁.ctorThrowS hexec htr (own := own) (cls := cls) (names := names) (ic := ic) hown' hcls hnames h (fun x hx => nomatch hx) hfX hkX hcellA (by rw [hhp, hT]; exact Nat.le_refl _) (msg := .ref sa) rfl
    (g := { method := m, pc := pc + 7, locals := ls, stack := .ref sa :: .ref T.heap.size :: .ref T.heap.size :: rest, locked := none }) rfl hsize rfl rfl (rest := rest) rfl
    (by rw [hb]; exact d7) (by rw [hb]; exact d10) hout hRframes (by simp only [List.map_cons, List.sum_cons, hcat]; omega) hlocks
  obtain ⟨f1, f2⟩ := vx_frame hsame
  rw [hhp] at f1 f2
  have hWs : s.WarmedH U.vm := State.WarmedH.trans hW0 hW
  have hcl : s.vm.findClass cls = some ce.cls := by
    have h9 := hO.cls
    rw [hvm] at h9
    exact h9
  have hall : s.sameButNew ({ U with vm := s.vm } : State) locs mc ms := by
    subst hA
    obtain ⟨e1, e2⟩ := hsame
    rw [State.setFrames_setFrames] at e1
    have h2 : (T.setVm s.vm).sameButNew ({ U with vm := s.vm } : State) [] (0 + 1) (0 + 6) := ⟨e1, e2⟩
    have h3 := X.same.trans h2
    rw [List.append_nil] at h3
    exact h3.mono hc hs
  refine ⟨U, ?_, .threw T.heap.size, hrun, hend, Or.inr ⟨T.heap.size, rfl, cls, ce, locs, hx U hWs.alike f1 (fun q hq => f2 q hq (fun z hz => nomatch hz)), hce, hO.vm, hcl, hWs, hall, hf⟩⟩
  refine st1 _ ?_
  show Steps p.tables e below (T1.setTop { method := m, pc := pc + 3, locals := ls, stack := .ref T.heap.size :: rest, locked := none }) _
  jvm_step X₁.here [X₁.here.top, hexec, d3', Value.category]
  exact X₁.ldcStringW hexec (own := own) (text := text) (index := is) (a := sa) hown' hstr'.1 hstr'.2
    (g := { method := m, pc := pc + 4, locals := ls, stack := .ref T.heap.size :: .ref T.heap.size :: rest, locked := none }) rfl d4' _ hsteps
end Ends
section Bodies
variable {l : Launch}
theorem vx_ofW {y : MethodName} {ws ws' : List Cond} {rm : Room} {Pc : Array Value → State → Prop} {Qc : Array Value → State → Outcome → State → Prop} {XC : String → State → State → Prop} {mc ms : Nat} {free : Addr → Prop} {cc : ByteArray} {maxL : Nat} {ret : Option FieldType}
    (hy : plainName y.cls = true) (hw : ws = Cond.code y cc maxL ret :: ws')
    (body : ∀ p e s m args below meth c s₁, BodyLoose p l y (headSpec ws rm) cc maxL ret e s m args below meth c s₁ → c.maxLocals = maxL → (∀ x ∈ c.exceptionTable.toList, False) → Pc args s →
      W p l e (headSpec ws rm).room s m args below meth c s.heap [] 0 0 (vx_MQ below Qc XC args s mc ms free) (entryFrame m args maxL)) : vx_Met l y ws rm Pc Qc XC mc ms free := by
  refine MetFree.of_bodyS (code := cc) (maxLocals := maxL) (ret := ret) hy ?_ ?_
  · intro args s m h hn
    obtain ⟨meth, c, h1, h2, h3, h4, h5, h6, -, -⟩ := Cond.code_spec hn (atoms_spec (ws := ws) h _ (by rw [hw]; exact List.mem_cons_self))
    exact ⟨meth, c, h1, h2, h3, h4, h5, h6⟩
  · intro p e s m args below meth c s₁ B hml hP _
    have hh0 : s₁.heap = s.heap := by rw [B.state]; rfl
    have ht : ∀ x ∈ c.exceptionTable.toList, False := by
      obtain ⟨meth9, c9, h1, h2, -, -, -, -, h7, -⟩ := Cond.code_spec B.named (atoms_spec (ws := ws) B.pre _ (by rw [hw]; exact List.mem_cons_self))
      cases Option.some.inj (h1.symm.trans B.method)
      cases Option.some.inj (h2.symm.trans (Stand.of_body B).code)
      intro x hx
      rw [Array.isEmpty_iff.mp h7] at hx
      cases hx
    obtain ⟨t, a1, o, b1, b2, b3⟩ := body p e s m args below meth c s₁ B hml ht hP s₁ hh0 (Stand.of_body B)
    exact ⟨t, o, a1, b1, b2, b3⟩
/-- the table of a body with handlers -/
theorem vx_table {p : Program} {x y : MethodName} {S : Spec} {cc bytes : ByteArray} {maxL maxL' : Nat} {ret ret' : Option FieldType} {e : Env} {s s₁ : State} {m : MethodId} {args : Array Value} {below : List Frame} {meth : Method} {c : Code} {hh : List (Nat × Nat × Nat × Nat)}
    (B : BodyLoose p l y S cc maxL ret e s m args below meth c s₁) (h : (Cond.codeWith y bytes maxL' ret' hh).before args s = true) : c.exceptionTable.toList = tableOf hh := by
  obtain ⟨m9, meth9, c9, hn9, h1, h2, -, -, h6, -⟩ := Cond.codeWith_spec h
  cases Option.some.inj (hn9.symm.trans B.named)
  cases Option.some.inj (h1.symm.trans B.method)
  cases Option.some.inj (h2.symm.trans (Stand.of_body B).code)
  rw [← h6, table_eq]
end Bodies
end VXA
/-! ===== END ===== -/
/-! ===== BEGIN a static call of a method with an exception table ===== -/
section VXS
variable {p : Program} {l : Launch} {e : Env} {R : Room} {s : State} {m : MethodId} {args : Array Value} {below : List Frame} {meth : Method} {c : Code} {T : State} {H : Heap} {locs : List Loc} {cells slots : Nat}
abbrev vx_CSW (R : Room) (s : State) (args : Array Value) (own : String) (index : Nat) (y : MethodName) (bytes : ByteArray) (maxL : Nat) (ret : Option FieldType) (hh : List (Nat × Nat × Nat × Nat)) (ws : List Cond) (rm : Room) (mc ms n : Nat) : Prop :=
  (rm.cells = mc ∧ rm.slots = ms ∧ rm.frames + 1 ≤ R.frames ∧ 8 + (maxL + 11) + rm.locals ≤ R.locals ∧ (∀ w ∈ ws, ∀ (a' : Array Value) (U : State), s.WarmedH U.vm → w.before a' U = true) ∧ Cond.codeWith y bytes maxL ret hh ∈ ws) ∧
  (Cond.codeWith y bytes maxL ret hh).before args s = true ∧ (Cond.initialized y.cls).before args s = true ∧ (y.cls ≠ "java/lang/invoke/MethodHandle" ∧ y.cls ≠ "java/lang/invoke/VarHandle") ∧
  (∀ sig, parseMethodDescriptor y.desc = some sig → n = sig.parameters.length) ∧ (Cond.methodLink own index y).before args s = true ∧ (Cond.static y).before args s = true
theorem vx_cwSW {own : String} {index maxL mc ms : Nat} {y : MethodName} {bytes : ByteArray} {ret : Option FieldType} {hh : List (Nat × Nat × Nat × Nat)} {Ts ws ws' : List Cond} {rm : Room} (n : Nat) (ht : ∀ w ∈ Ts, w.before args s = true) (hT : GoodIn Ts (va_wsS own index y ws)) (hw : ws = Cond.codeWith y bytes maxL ret hh :: ws') (hrc : rm.cells = mc) (hrs : rm.slots = ms)
    (hd : y.cls ≠ "java/lang/invoke/MethodHandle" ∧ y.cls ≠ "java/lang/invoke/VarHandle" ∧ (parseMethodDescriptor y.desc).map (fun d => d.parameters.length) = some n) (hR : rm.frames + 1 ≤ R.frames ∧ 8 + (maxL + 11) + rm.locals ≤ R.locals) :
    vx_CSW R s args own index y bytes maxL ret hh ws rm mc ms n := by
  have ok : ∀ w ∈ va_wsS own index y ws, w.before args s = true := fun w h => ht w (hT w h).1
  have hG : GoodIn Ts ws := fun w h => hT w (by unfold va_wsS; exact List.mem_append_right _ h)
  have hc : Cond.codeWith y bytes maxL ret hh ∈ ws := by rw [hw]; exact List.mem_cons_self
  refine ⟨⟨hrc, hrs, hR.1, hR.2, pay_in ht hG, hc⟩, ht _ (hG _ hc).1, ok _ (by simp [va_wsS]), ⟨hd.1, hd.2.1⟩, fun sig h => ?_, ok _ (by simp [va_wsS]), ok _ (by simp [va_wsS])⟩
  have h2 := hd.2.2
  rw [h] at h2
  exact (Option.some.inj h2).symm
theorem vx_callSW (X : Stand p l e R s m args below meth c T locs cells slots) (hexec : p.tables.exec = Jvm.exec) {own : String} {index : Nat} {y : MethodName} {bytes : ByteArray} {maxL : Nat} {ret : Option FieldType} {hh : List (Nat × Nat × Nat × Nat)}
    (hown : s.vm.findClass own = some m.cls) (hlink : (Cond.methodLink own index y).before args s = true) (hstat : (Cond.static y).before args s = true) (hinit : (Cond.initialized y.cls).before args s = true)
    (hcode : (Cond.codeWith y bytes maxL ret hh).before args s = true) (hy : y.cls ≠ "java/lang/invoke/MethodHandle" ∧ y.cls ≠ "java/lang/invoke/VarHandle")
    {W9 : Nat} {Pre : Pt → Array Value → Prop} {Post : Pt → Array Value → Option Value → Pt → Prop} (hK : Back l R p e below s args y 3 W9 Pre Post)
    {g : JFrame} (hg : g.method = m) (hsize : g.locals.size = c.maxLocals) {argsL rest : List Value} (hlen : ∀ sig, parseMethodDescriptor y.desc = some sig → argsL.length = sig.parameters.length)
    (hstack : g.stack = argsL.reverse ++ rest) (hW : 2 * g.monitorRoom + (rest.map fun v => v.category).sum ≤ W9) (hdg : decode c.code g.pc = .ok (.invokestatic index, 3))
    (hpre : ∀ vm₁, s.WarmedH vm₁ → Pre ⟨T.setVm vm₁, locs, cells, slots⟩ argsL.toArray) :
    ∃ (v : Option Value) (vm₁ : Vm) (B : Pt), s.WarmedH vm₁ ∧ Stand p l e R s m args below meth c B.U B.locs B.cells B.slots ∧ Post ⟨T.setVm vm₁, locs, cells, slots⟩ argsL.toArray v B ∧
      ∀ target, Steps p.tables e below (B.U.setTop { g with pc := g.pc + 3, stack := v.toList ++ rest }) target → Steps p.tables e below (T.setTop g) target := by
  obtain ⟨mk, methM, cM, hnamed, hmethM, -, -, -, -, -, -, hsigM⟩ := Cond.codeWith_spec hcode
  have hstatic : methM.isStatic = true := Cond.static_spec hnamed hmethM hstat
  obtain ⟨kP, hkP, -⟩ := className_of_methodNamed hnamed
  have hinitP : kP.init = .initialized := Cond.initialized_spec (findClass_of_methodNamed hnamed) hkP hinit
  obtain ⟨vm₁, X₁, hstep₁⟩ := X.invokestatic hexec hown hlink hnamed hmethM hstatic hkP hinitP hy (g := g) hg (argsL := argsL) (rest := rest) (hlen _ hsigM) hstack hdg
  obtain ⟨v, B, X', hpost, hsteps⟩ := hK m meth c ⟨T.setVm vm₁, locs, cells, slots⟩ { g with stack := rest } (.invokestatic index) mk argsL.toArray X₁ hg hsize hdg hW (X₁.named hnamed) (hpre vm₁ X₁.warmed)
  exact ⟨v, vm₁, B, X₁.warmed, X', hpost, fun target h => hstep₁ _ fun acts => by rw [doInvoke_state]; exact hsteps.trans h⟩
theorem vx_runSW {y : MethodName} {bytes cc : ByteArray} {maxL nL mc ms n index : Nat} {ret : Option FieldType} {hh : List (Nat × Nat × Nat × Nat)} {ws : List Cond} {rm : Room} {Pc : Array Value → State → Prop} {Qc : Array Value → State → Outcome → State → Prop} {free : Addr → Prop} {Ts : List Cond} {own : String} {As rest : List Value} {g : JFrame}
    (S : CallFix p m c cc nL s args Ts own) (hM : Met l y ws rm Pc Qc mc ms free) (cw : vx_CSW R s args own index y bytes maxL ret hh ws rm mc ms n) (hp : PreS s H Pc As)
    (hg : g.method = m) (hn : As.length = n) (hsize : g.locals.size = nL) (hstack : g.stack = As.reverse ++ rest) (hW : 2 * g.monitorRoom + (rest.map fun v => v.category).sum ≤ 8) (hdg : decode cc g.pc = .ok (.invokestatic index, 3)) (hf : cells + mc ≤ R.cells ∧ slots + ms ≤ R.slots) :
    va_Run p l e R s m args below meth c H locs cells slots mc ms g rest (Qc As.toArray) (free) := by
  obtain ⟨⟨hrc, hrs, hfr, hlo, hws, hcw⟩, hcode, hini, hy, hlen, hl, hstt⟩ := cw
  have hK : Back l R p e below s args y 3 8 (PreOf R mc ms Pc) (PostOf Qc mc ms free) := va_backW (hh := hh) (bytes := bytes) (maxL := maxL) (ret := ret) hM hp.1 hrc hrs hfr hlo hws hcw (fun a' U hW => word_at hW (Or.inl (by first | rfl | simp [Cond.onTables, Cond.keeps, Cond.steady])) hini)
  obtain ⟨hx, hb, hml, ho, -⟩ := S
  intro T hT X
  obtain ⟨v, vm₁, ⟨U', l2, c2, s2⟩, hW₁, X', ⟨g', mk, t, L, e1, e2, hq, h1, hL, h2, h3⟩, st⟩ := vx_callSW X hx (hh := hh) (bytes := bytes) (maxL := maxL) (ret := ret) ho hl hstt hini hcode hy hK hg (hsize.trans hml.symm) (argsL := As) (rest := rest) (fun sig h => hn.trans (hlen sig h)) hstack hW (by rw [hb]; exact hdg)
    (fun vm₁ hW₁ => ⟨hf.1, hf.2, hp.2 (T.setVm vm₁) hT hW₁⟩)
  dsimp only [Pt.U, Pt.locs, Pt.cells, Pt.slots] at X' e1 e2 h1 h2 h3 st
  subst h1; subst h2; subst h3
  exact ⟨v, (T.setVm vm₁).calling g' mk As.toArray, t, U', L, hT, X', hL, e1, e2, hq, st⟩
/-- not caught here, past rows that name other classes: it goes on to the caller -/
theorem vx_outP {p : Program} {l : Launch} {e : Env} {R : Room} {s : State} {m : MethodId} {args : Array Value} {below : List Frame} {meth : Method} {c : Code} {H : Heap} {locs : List Loc} {cells slots : Nat} {free : Addr → Prop} {ls : Array Slot} {rest : List Value} {Qc : Array Value → State → Outcome → State → Prop} {XC : String → State → State → Prop}
    {pc : Nat} {own E : String} {ce : Cell} {q : Addr} {mc ms : Nat} (hown : s.vm.findClass own = some m.cls) (hlocks : meth.locks = false)
    (hpass : ∀ z ∈ c.exceptionTable.toList, covers z pc = false ∨ (z.catchType ≠ 0 ∧ ∃ nm : String, (Cond.classLink own z.catchType nm).before args s = true ∧ va_Nc E nm s)) (hcell : H[q]? = some ce) (hv : ce.vm = .none) (hcl : s.vm.findClass E = some ce.cls)
    (hx : ∀ t : State, t.heap = H → s.vm.Alike t.vm → XC E s t) (hf : ∀ z ∈ locs, free z.base) (hc : cells ≤ mc) (hs : slots ≤ ms) :
    vx_W p l e R s m args below meth c H locs cells slots (vx_MQ below Qc XC args s mc ms free) (F0 m pc ls rest) q := by
  intro T hT X
  have hpl : e.platform.magicAccessors = ({} : Platform).magicAccessors := by rw [X.admits.platform]
  obtain ⟨vm', hW', X', st⟩ := X.outThrough hlocks q (g := F0 m pc ls rest) rfl rfl rfl (cell := ce) (by rw [hT]; exact hcell) (by rw [hv]; rfl)
    (by obtain ⟨k9, h9, -⟩ := Vm.findClass_spec hcl; exact ⟨k9, h9⟩) (fun z hz => by
      rcases hpass z hz with h | ⟨hz0, nm, hl1, hn1⟩
      · exact Or.inl h
      · obtain ⟨c6, hc6, hcl6⟩ := Cond.classLink_spec hown hl1 e.platform hpl
        obtain ⟨a8, b8, h1, h2, h3⟩ := hn1
        cases Option.some.inj (h1.symm.trans hcl)
        cases Option.some.inj (h2.symm.trans hc6)
        exact Or.inr ⟨hz0, _, hcl6, h3⟩)
  obtain ⟨g₀, hfr⟩ := X'.frames_eq
  have hcell9 : ((T.setVm vm').setFrames (.throwing q :: below)).heap[q]? = some ce := by
    show T.heap[q]? = some ce
    rw [hT]; exact hcell
  have hend : Ended ((T.setVm vm').setFrames (.throwing q :: below)) below (.threw q) := State.frames_setFrames _ (State.cur_lt_of_frames hfr)
  refine ⟨(T.setVm vm').setFrames (.throwing q :: below), ?_, .threw q, X'.here.running, hend, Or.inr ⟨q, rfl, E, ce, locs, hx _ hT (X'.ends _).1.alike, hcell9, hv, hcl, (X'.ends _).1, (X'.ends _).2.mono hc hs, hf⟩⟩
  rw [X.pushThrowing_eq]
  exact st
/-- a thing of a world lies in the heap -/
theorem vx_lt {D : va_G} {cl : List vw_C} {ws : va_W} {H1 : Heap} (h : va_P D cl ws H1) {k : Nat} {q : Nat × va_E} (hk : ws[k]? = some q) : q.1 < H1.size := (h k q hk).lt
end VXS
/-! ===== END ===== -/
/-! ===== BEGIN methods with a table of their own: called by a name, returning or throwing ===== -/
section VXH
/-! vx_backW, vx_callVX, vx_callSX, vx_callVW, vx_runVW, vx_runVX, vx_runSX, vx_ofWH follow the same proofs as their sisters above (Free/Laws.lean, Shelf42/LK1.lean); vx_outP calls Shelf42/NT130.lean (outThrough). -/
section
variable {l : Launch} {R : Room} {p : Program} {e : Env} {below : List Frame} {s : State} {sargs : Array Value} {y : MethodName} {len W9 : Nat}
theorem vx_backW {ws : List Cond} {rm : Room} {Pc : Array Value → State → Prop} {Qc : Array Value → State → Outcome → State → Prop} {XC : String → State → State → Prop} {mc ms : Nat} {free : Addr → Prop} {bytes : ByteArray} {maxL : Nat} {ret : Option FieldType} {hh : List (Nat × Nat × Nat × Nat)}
    (hM : vx_Met l y ws rm Pc Qc XC mc ms free) (hblind : FrameBlind Pc) (hrc : rm.cells = mc) (hrs : rm.slots = ms)
    (hframes : rm.frames + 1 ≤ R.frames) (hlocals : W9 + (maxL + 11) + rm.locals ≤ R.locals)
    (hws : ∀ w ∈ ws, ∀ a' U, s.WarmedH U.vm → w.before a' U = true) (hcode : Cond.codeWith y bytes maxL ret hh ∈ ws) (hinit : ∀ a' U, s.WarmedH U.vm → (Cond.initialized y.cls).before a' U = true) :
    vx_Back l R p e below s sargs y len W9 (PreOf R mc ms Pc) (PostOf Qc mc ms free) (vx_Post XC mc ms free) := by
  intro m meth c A g ig mk a X hg hsize hdg hW hn hp
  have h1 : (headSpec ws rm).pre.before a A.U = true := atoms_intro fun w hw => hws w hw _ _ X.warmed
  have h2 : (Cond.codeWith y bytes maxL ret hh).before a A.U = true := hws _ hcode _ _ X.warmed
  have h3 : (Cond.initialized y.cls).before a A.U = true := hinit _ _ X.warmed
  have h4 : A.cells + (headSpec ws rm).room.cells ≤ R.cells := by rw [show (headSpec ws rm).room.cells = mc from hrc]; exact hp.1
  have h5 : A.slots + (headSpec ws rm).room.slots ≤ R.slots := by rw [show (headSpec ws rm).room.slots = ms from hrs]; exact hp.2.1
  have hPc : Pc a (A.U.calling g mk a) := hblind _ _ _ _ hp.2.2
  obtain ⟨U, Ls, c0, s0⟩ := A
  dsimp only [Pt.U, Pt.locs, Pt.cells, Pt.slots] at h1 h2 h3 h4 h5 X hn hPc ⊢
  obtain ⟨m9, methY, cY, hn9, hmY, hcY, -, hlY, -⟩ := Cond.codeWith_spec h2
  cases Option.some.inj (hn9.symm.trans hn)
  obtain ⟨kY, hkY, -⟩ := className_of_methodNamed hn
  have hinitY : kY.init = .initialized := Cond.initialized_spec (findClass_of_methodNamed hn) hkY h3
  have h : At U g.method c below := by rw [hg]; exact X.here
  have hlocals9 : W9 + (maxL + 11) + (headSpec ws rm).room.locals ≤ R.locals := hlocals
  have happ : (headSpec ws rm).appliesLoose y e.platform (U.calling g mk a) = true :=
    Spec.appliesLoose_calling (g := g) h hdg hn hkY hinitY
      (X.room_calling (g := g) (R' := (headSpec ws rm).room) hsize hmY hcY hframes (by rw [hlY]; omega) h4 h5) h1
  obtain ⟨mid, hmid⟩ := h.above
  have hfr : (U.setTop g).frames = (.java g :: mid) ++ below := by rw [State.frames_setTop' g h.top, hmid]; rfl
  obtain ⟨o, s₂, hsteps, -, hend, hq⟩ := Steps.callFree hM p X.admits X.cas X.clock (acts := []) hfr happ hPc trivial
  have hq' : vx_Q Qc XC mc ms free a (U.calling g mk a) o s₂ := hq
  rw [State.frames_setTop' g h.top] at hend
  obtain ⟨g₀, hg0⟩ := Option.isSome_iff_exists.mp h.top
  obtain ⟨r, hr⟩ := State.topJava?_eq_some.mp hg0
  have hr' : (({ U with heap := s₂.heap, slotsUsed := s₂.slotsUsed } : State).setVm s₂.vm).frames = .java g₀ :: r := hr
  rcases hq' with ⟨hqc, L, hfe, hL⟩ | ⟨q, rfl, E, ce, L, hx, hce, hcv, hcl, hW₂, hsm, hL⟩
  · obtain ⟨⟨v, rfl⟩, hW₂, e2, q2, q3, q4, q5, q6⟩ := id hfe
    have e3 : s₂ = ({ (U.calling g mk a).setFrames s₂.frames with heap := s₂.heap, slotsUsed := s₂.slotsUsed } : State).setVm s₂.vm := by
      have : s₂ = ({ s₂ with vm := (U.calling g mk a).vm } : State).setVm s₂.vm := rfl
      rw [e2] at this
      exact this
    obtain ⟨c₂, i₂, len₂, hc₂, hd₂, hf₂⟩ := hend
    have hW' : U.WarmedH s₂.vm := hW₂
    have hcc : c₂ = c := by
      have h1 : s₂.code? g.method = U.code? g.method := by
        rw [State.code?_eq, State.code?_eq, hW'.alike.method?]
      exact Option.some.inj (hc₂.symm.trans (h1.trans h.code))
    subst hcc
    have hlen : len₂ = len := by rw [hdg] at hd₂; cases hd₂; rfl
    subst hlen
    have hs₂ : s₂ = (({ U with heap := s₂.heap, slotsUsed := s₂.slotsUsed } : State).setVm s₂.vm).setTop { g with pc := g.pc + len₂, stack := v.toList ++ g.stack } := by
      refine e3.trans ?_
      rw [hf₂, State.calling_eq h.top, State.setFrames_setFrames, State.setTop_of_frames _ hr', hr]
      rfl
    have hsame : U.sameButNew ({ U with heap := s₂.heap, slotsUsed := s₂.slotsUsed } : State) L mc ms := by
      refine ⟨?_, q2, q3, q4, q5, q6⟩
      obtain ⟨t, ht, -⟩ := State.frames_cons hr
      show ({ U with heap := s₂.heap, slotsUsed := s₂.slotsUsed } : State) = { U.setFrames U.frames with heap := s₂.heap, slotsUsed := s₂.slotsUsed }
      rw [State.setFrames_self ht]
    subst hg
    refine Or.inl ⟨v, ⟨(({ U with heap := s₂.heap, slotsUsed := s₂.slotsUsed } : State).setVm s₂.vm), Ls ++ L, c0 + mc, s0 + ms⟩,
      ⟨X.admits, X.cas, X.clock, X.frames, X.room, X.hears, X.method, X.code, (X.here.setHeapUsed s₂.heap s₂.slotsUsed).setVm hW'.alike, X.tail, State.WarmedH.trans X.warmed hW', X.limits, X.bytes, X.same.trans (hsame.setVm s.vm)⟩,
      ⟨g, mk, s₂, L, rfl, rfl, hqc, rfl, hL, rfl, rfl⟩, ?_⟩
    show Steps p.tables e below _ ((({ U with heap := s₂.heap, slotsUsed := s₂.slotsUsed } : State).setVm s₂.vm).setTop { g with pc := g.pc + len₂, stack := v.toList ++ g.stack })
    rw [← hs₂]
    exact hsteps
  · obtain ⟨e2, q2, q3, q4, q5, q6⟩ := id hsm
    have e3 : s₂ = ({ (U.calling g mk a).setFrames s₂.frames with heap := s₂.heap, slotsUsed := s₂.slotsUsed } : State).setVm s₂.vm := by
      have : s₂ = ({ s₂ with vm := (U.calling g mk a).vm } : State).setVm s₂.vm := rfl
      rw [e2] at this
      exact this
    have hf₂ : s₂.frames = .throwing q :: .java g :: U.frames.tail := hend
    have hW' : U.WarmedH s₂.vm := hW₂
    have hs₂ : s₂ = ((({ U with heap := s₂.heap, slotsUsed := s₂.slotsUsed } : State).setVm s₂.vm).setTop g).pushFrame (.throwing q) := by
      refine e3.trans ?_
      rw [hf₂, State.calling_eq h.top, State.setFrames_setFrames, State.pushFrame, State.frames_setTop _ hr', State.setTop_of_frames _ hr', State.setFrames_setFrames, hr]
      rfl
    have hsame : U.sameButNew ({ U with heap := s₂.heap, slotsUsed := s₂.slotsUsed } : State) L mc ms := by
      refine ⟨?_, q2, q3, q4, q5, q6⟩
      obtain ⟨t, ht, -⟩ := State.frames_cons hr
      show ({ U with heap := s₂.heap, slotsUsed := s₂.slotsUsed } : State) = { U.setFrames U.frames with heap := s₂.heap, slotsUsed := s₂.slotsUsed }
      rw [State.setFrames_self ht]
    subst hg
    refine Or.inr ⟨q, ⟨(({ U with heap := s₂.heap, slotsUsed := s₂.slotsUsed } : State).setVm s₂.vm), Ls ++ L, c0 + mc, s0 + ms⟩,
      ⟨X.admits, X.cas, X.clock, X.frames, X.room, X.hears, X.method, X.code, (X.here.setHeapUsed s₂.heap s₂.slotsUsed).setVm hW'.alike, X.tail, State.WarmedH.trans X.warmed hW', X.limits, X.bytes, X.same.trans (hsame.setVm s.vm)⟩,
      ⟨g, mk, s₂, L, E, ce, rfl, rfl, hx, hce, hcv, hcl, rfl, hL, rfl, rfl⟩, ?_⟩
    show Steps p.tables e below _ (((({ U with heap := s₂.heap, slotsUsed := s₂.slotsUsed } : State).setVm s₂.vm).setTop g).pushFrame (.throwing q))
    rw [← hs₂]
    exact hsteps
end
variable {p : Program} {l : Launch} {e : Env} {R : Room} {s : State} {m : MethodId} {args : Array Value} {below : List Frame} {meth : Method} {c : Code} {T : State} {H : Heap} {locs : List Loc} {cells slots : Nat}
theorem vx_callVX (X : Stand p l e R s m args below meth c T locs cells slots) (hexec : p.tables.exec = Jvm.exec) {own C : String} {index : Nat} {y : MethodName} {bytes : ByteArray} {maxL : Nat} {ret : Option FieldType} {hh : List (Nat × Nat × Nat × Nat)}
    (hown : s.vm.findClass own = some m.cls) (hlink : (Cond.methodLink own index y).before args s = true) (hinst : (Cond.instanceMethod y).before args s = true) (hsel : (Cond.selects C y y).before args s = true)
    (hcode : (Cond.codeWith y bytes maxL ret hh).before args s = true) (hy : y.cls ≠ "java/lang/invoke/MethodHandle" ∧ y.cls ≠ "java/lang/invoke/VarHandle")
    {W9 : Nat} {Pre : Pt → Array Value → Prop} {Post : Pt → Array Value → Option Value → Pt → Prop} {PostX : Pt → Array Value → Addr → Pt → Prop} (hK : vx_Back l R p e below s args y 3 W9 Pre Post PostX)
    {b : Addr} {cellB : Cell} (hcell : T.heap[b]? = some cellB) (hobj : cellB.vm.isStatics = false) (hcls : s.vm.findClass C = some cellB.cls)
    {g : JFrame} (hg : g.method = m) (hsize : g.locals.size = c.maxLocals) {argsL rest : List Value} (hlen : ∀ sig, parseMethodDescriptor y.desc = some sig → argsL.length = sig.parameters.length)
    (hstack : g.stack = argsL.reverse ++ .ref b :: rest) (hW : 2 * g.monitorRoom + (rest.map fun v => v.category).sum ≤ W9) (hdg : decode c.code g.pc = .ok (.invokevirtual index, 3))
    (hpre : ∀ vm₁, s.WarmedH vm₁ → Pre ⟨T.setVm vm₁, locs, cells, slots⟩ (Value.ref b :: argsL).toArray) :
    (∃ (v : Option Value) (vm₁ : Vm) (B : Pt), s.WarmedH vm₁ ∧ Stand p l e R s m args below meth c B.U B.locs B.cells B.slots ∧ Post ⟨T.setVm vm₁, locs, cells, slots⟩ (Value.ref b :: argsL).toArray v B ∧
      ∀ target, Steps p.tables e below (B.U.setTop { g with pc := g.pc + 3, stack := v.toList ++ rest }) target → Steps p.tables e below (T.setTop g) target) ∨
    (∃ (q : Addr) (vm₁ : Vm) (B : Pt), s.WarmedH vm₁ ∧ Stand p l e R s m args below meth c B.U B.locs B.cells B.slots ∧ PostX ⟨T.setVm vm₁, locs, cells, slots⟩ (Value.ref b :: argsL).toArray q B ∧
      Steps p.tables e below (T.setTop g) ((B.U.setTop { g with stack := rest }).pushFrame (.throwing q))) := by
  obtain ⟨mk, methM, hnamed, hmethM, hstM, habM⟩ := Cond.instanceMethod_spec hinst
  obtain ⟨m8, methM', cM, hn8, hmethM', -, -, -, -, -, -, hsigM⟩ := Cond.codeWith_spec hcode
  cases Option.some.inj (hn8.symm.trans hnamed)
  cases hmethM.symm.trans hmethM'
  obtain ⟨c2, r2, m2, q1, q2, q3, q4, kP, hkP, hkPi⟩ := Cond.selects_spec hsel
  cases hcls.symm.trans q1
  cases (State.methodFound?_of_named hnamed hy).symm.trans q2
  cases hnamed.symm.trans q3
  have hselP : selectMethod e.platform s.vm cellB.cls mk = .method mk := by rw [Launch.admits_selectMethod X.admits]; exact q4
  obtain ⟨vm₁, X₁, hstep₁⟩ := X.invokevirtual hexec hown hlink hnamed hmethM hstM hkP hkPi hy (a := b) (cell := cellB) hcell
    (fun z h => by rw [h] at hobj; cases hobj) hselP hmethM habM hkP hkPi (g := g) hg (argsL := argsL) (rest := rest) (hlen _ hsigM) hstack hdg
  rcases hK m meth c ⟨T.setVm vm₁, locs, cells, slots⟩ { g with stack := rest } (.invokevirtual index) mk (Value.ref b :: argsL).toArray X₁ hg hsize hdg hW (X₁.named hnamed) (hpre vm₁ X₁.warmed) with ⟨v, B, X', hpost, hsteps⟩ | ⟨q, B, X', hpost, hsteps⟩
  · exact Or.inl ⟨v, vm₁, B, X₁.warmed, X', hpost, fun target h => hstep₁ _ fun acts => by rw [doInvoke_state]; exact hsteps.trans h⟩
  · exact Or.inr ⟨q, vm₁, B, X₁.warmed, X', hpost, hstep₁ _ fun acts => by rw [doInvoke_state]; exact hsteps⟩
theorem vx_callSX (X : Stand p l e R s m args below meth c T locs cells slots) (hexec : p.tables.exec = Jvm.exec) {own : String} {index : Nat} {y : MethodName} {bytes : ByteArray} {maxL : Nat} {ret : Option FieldType} {hh : List (Nat × Nat × Nat × Nat)}
    (hown : s.vm.findClass own = some m.cls) (hlink : (Cond.methodLink own index y).before args s = true) (hstat : (Cond.static y).before args s = true) (hinit : (Cond.initialized y.cls).before args s = true)
    (hcode : (Cond.codeWith y bytes maxL ret hh).before args s = true) (hy : y.cls ≠ "java/lang/invoke/MethodHandle" ∧ y.cls ≠ "java/lang/invoke/VarHandle")
    {W9 : Nat} {Pre : Pt → Array Value → Prop} {Post : Pt → Array Value → Option Value → Pt → Prop} {PostX : Pt → Array Value → Addr → Pt → Prop} (hK : vx_Back l R p e below s args y 3 W9 Pre Post PostX)
    {g : JFrame} (hg : g.method = m) (hsize : g.locals.size = c.maxLocals) {argsL rest : List Value} (hlen : ∀ sig, parseMethodDescriptor y.desc = some sig → argsL.length = sig.parameters.length)
    (hstack : g.stack = argsL.reverse ++ rest) (hW : 2 * g.monitorRoom + (rest.map fun v => v.category).sum ≤ W9) (hdg : decode c.code g.pc = .ok (.invokestatic index, 3))
    (hpre : ∀ vm₁, s.WarmedH vm₁ → Pre ⟨T.setVm vm₁, locs, cells, slots⟩ argsL.toArray) :
    (∃ (v : Option Value) (vm₁ : Vm) (B : Pt), s.WarmedH vm₁ ∧ Stand p l e R s m args below meth c B.U B.locs B.cells B.slots ∧ Post ⟨T.setVm vm₁, locs, cells, slots⟩ argsL.toArray v B ∧
      ∀ target, Steps p.tables e below (B.U.setTop { g with pc := g.pc + 3, stack := v.toList ++ rest }) target → Steps p.tables e below (T.setTop g) target) ∨
    (∃ (q : Addr) (vm₁ : Vm) (B : Pt), s.WarmedH vm₁ ∧ Stand p l e R s m args below meth c B.U B.locs B.cells B.slots ∧ PostX ⟨T.setVm vm₁, locs, cells, slots⟩ argsL.toArray q B ∧
      Steps p.tables e below (T.setTop g) ((B.U.setTop { g with stack := rest }).pushFrame (.throwing q))) := by
  obtain ⟨mk, methM, cM, hnamed, hmethM, -, -, -, -, -, -, hsigM⟩ := Cond.codeWith_spec hcode
  have hstatic : methM.isStatic = true := Cond.static_spec hnamed hmethM hstat
  obtain ⟨kP, hkP, -⟩ := className_of_methodNamed hnamed
  have hinitP : kP.init = .initialized := Cond.initialized_spec (findClass_of_methodNamed hnamed) hkP hinit
  obtain ⟨vm₁, X₁, hstep₁⟩ := X.invokestatic hexec hown hlink hnamed hmethM hstatic hkP hinitP hy (g := g) hg (argsL := argsL) (rest := rest) (hlen _ hsigM) hstack hdg
  rcases hK m meth c ⟨T.setVm vm₁, locs, cells, slots⟩ { g with stack := rest } (.invokestatic index) mk argsL.toArray X₁ hg hsize hdg hW (X₁.named hnamed) (hpre vm₁ X₁.warmed) with ⟨v, B, X', hpost, hsteps⟩ | ⟨q, B, X', hpost, hsteps⟩
  · exact Or.inl ⟨v, vm₁, B, X₁.warmed, X', hpost, fun target h => hstep₁ _ fun acts => by rw [doInvoke_state]; exact hsteps.trans h⟩
  · exact Or.inr ⟨q, vm₁, B, X₁.warmed, X', hpost, hstep₁ _ fun acts => by rw [doInvoke_state]; exact hsteps⟩
theorem vx_callVW (X : Stand p l e R s m args below meth c T locs cells slots) (hexec : p.tables.exec = Jvm.exec) {own C : String} {index : Nat} {y : MethodName} {bytes : ByteArray} {maxL : Nat} {ret : Option FieldType} {hh : List (Nat × Nat × Nat × Nat)}
    (hown : s.vm.findClass own = some m.cls) (hlink : (Cond.methodLink own index y).before args s = true) (hinst : (Cond.instanceMethod y).before args s = true) (hsel : (Cond.selects C y y).before args s = true)
    (hcode : (Cond.codeWith y bytes maxL ret hh).before args s = true) (hy : y.cls ≠ "java/lang/invoke/MethodHandle" ∧ y.cls ≠ "java/lang/invoke/VarHandle")
    {W9 : Nat} {Pre : Pt → Array Value → Prop} {Post : Pt → Array Value → Option Value → Pt → Prop} (hK : Back l R p e below s args y 3 W9 Pre Post)
    {b : Addr} {cellB : Cell} (hcell : T.heap[b]? = some cellB) (hobj : cellB.vm.isStatics = false) (hcls : s.vm.findClass C = some cellB.cls)
    {g : JFrame} (hg : g.method = m) (hsize : g.locals.size = c.maxLocals) {argsL rest : List Value} (hlen : ∀ sig, parseMethodDescriptor y.desc = some sig → argsL.length = sig.parameters.length)
    (hstack : g.stack = argsL.reverse ++ .ref b :: rest) (hW : 2 * g.monitorRoom + (rest.map fun v => v.category).sum ≤ W9) (hdg : decode c.code g.pc = .ok (.invokevirtual index, 3))
    (hpre : ∀ vm₁, s.WarmedH vm₁ → Pre ⟨T.setVm vm₁, locs, cells, slots⟩ (Value.ref b :: argsL).toArray) :
    ∃ (v : Option Value) (vm₁ : Vm) (B : Pt), s.WarmedH vm₁ ∧ Stand p l e R s m args below meth c B.U B.locs B.cells B.slots ∧ Post ⟨T.setVm vm₁, locs, cells, slots⟩ (Value.ref b :: argsL).toArray v B ∧
      ∀ target, Steps p.tables e below (B.U.setTop { g with pc := g.pc + 3, stack := v.toList ++ rest }) target → Steps p.tables e below (T.setTop g) target := by
  obtain ⟨mk, methM, hnamed, hmethM, hstM, habM⟩ := Cond.instanceMethod_spec hinst
  obtain ⟨m8, methM', cM, hn8, hmethM', -, -, -, -, -, -, hsigM⟩ := Cond.codeWith_spec hcode
  cases Option.some.inj (hn8.symm.trans hnamed)
  cases hmethM.symm.trans hmethM'
  obtain ⟨c2, r2, m2, q1, q2, q3, q4, kP, hkP, hkPi⟩ := Cond.selects_spec hsel
  cases hcls.symm.trans q1
  cases (State.methodFound?_of_named hnamed hy).symm.trans q2
  cases hnamed.symm.trans q3
  have hselP : selectMethod e.platform s.vm cellB.cls mk = .method mk := by rw [Launch.admits_selectMethod X.admits]; exact q4
  obtain ⟨vm₁, X₁, hstep₁⟩ := X.invokevirtual hexec hown hlink hnamed hmethM hstM hkP hkPi hy (a := b) (cell := cellB) hcell
    (fun z h => by rw [h] at hobj; cases hobj) hselP hmethM habM hkP hkPi (g := g) hg (argsL := argsL) (rest := rest) (hlen _ hsigM) hstack hdg
  obtain ⟨v, B, X', hpost, hsteps⟩ := hK m meth c ⟨T.setVm vm₁, locs, cells, slots⟩ { g with stack := rest } (.invokevirtual index) mk (Value.ref b :: argsL).toArray X₁ hg hsize hdg hW (X₁.named hnamed) (hpre vm₁ X₁.warmed)
  exact ⟨v, vm₁, B, X₁.warmed, X', hpost, fun target h => hstep₁ _ fun acts => by rw [doInvoke_state]; exact hsteps.trans h⟩
abbrev vx_CVW (R : Room) (s : State) (args : Array Value) (own C : String) (index : Nat) (y : MethodName) (bytes : ByteArray) (maxL : Nat) (ret : Option FieldType) (hh : List (Nat × Nat × Nat × Nat)) (ws : List Cond) (rm : Room) (mc ms n : Nat) : Prop :=
  (rm.cells = mc ∧ rm.slots = ms ∧ rm.frames + 1 ≤ R.frames ∧ 8 + (maxL + 11) + rm.locals ≤ R.locals ∧ (∀ w ∈ ws, ∀ (a' : Array Value) (U : State), s.WarmedH U.vm → w.before a' U = true) ∧ Cond.codeWith y bytes maxL ret hh ∈ ws) ∧
  (Cond.codeWith y bytes maxL ret hh).before args s = true ∧ (Cond.initialized y.cls).before args s = true ∧ (y.cls ≠ "java/lang/invoke/MethodHandle" ∧ y.cls ≠ "java/lang/invoke/VarHandle") ∧
  (∀ sig, parseMethodDescriptor y.desc = some sig → n = sig.parameters.length) ∧ (Cond.methodLink own index y).before args s = true ∧ (Cond.instanceMethod y).before args s = true ∧ (Cond.selects C y y).before args s = true
theorem vx_cwVW {own C : String} {index maxL mc ms : Nat} {y : MethodName} {bytes : ByteArray} {ret : Option FieldType} {hh : List (Nat × Nat × Nat × Nat)} {Ts ws ws' : List Cond} {rm : Room} (n : Nat) (ht : ∀ w ∈ Ts, w.before args s = true) (hT : GoodIn Ts (wsV own index C y ws)) (hw : ws = Cond.codeWith y bytes maxL ret hh :: ws') (hrc : rm.cells = mc) (hrs : rm.slots = ms)
    (hd : y.cls = C ∧ y.cls ≠ "java/lang/invoke/MethodHandle" ∧ y.cls ≠ "java/lang/invoke/VarHandle" ∧ (parseMethodDescriptor y.desc).map (fun d => d.parameters.length) = some n) (hR : rm.frames + 1 ≤ R.frames ∧ 8 + (maxL + 11) + rm.locals ≤ R.locals) :
    vx_CVW R s args own C index y bytes maxL ret hh ws rm mc ms n := by
  obtain ⟨hC, hd⟩ := hd
  subst hC
  have ok : ∀ w ∈ wsV own index y.cls y ws, w.before args s = true := fun w h => ht w (hT w h).1
  have hG : GoodIn Ts ws := fun w h => hT w (by unfold wsV; exact List.mem_append_right _ h)
  have hc : Cond.codeWith y bytes maxL ret hh ∈ ws := by rw [hw]; exact List.mem_cons_self
  refine ⟨⟨hrc, hrs, hR.1, hR.2, pay_in ht hG, hc⟩, ht _ (hG _ hc).1, ok _ (by simp [wsV]), ⟨hd.1, hd.2.1⟩, fun sig h => ?_, ok _ (by simp [wsV]), ok _ (by simp [wsV]), ok _ (by simp [wsV])⟩
  have h2 := hd.2.2
  rw [h] at h2
  exact (Option.some.inj h2).symm
theorem vx_runVW {y : MethodName} {bytes cc : ByteArray} {maxL nL mc ms n index : Nat} {ret : Option FieldType} {hh : List (Nat × Nat × Nat × Nat)} {ws : List Cond} {rm : Room} {Pc : Array Value → State → Prop} {Qc : Array Value → State → Outcome → State → Prop} {free : Addr → Prop} {Ts : List Cond} {own C : String} {b : Addr} {As rest : List Value} {g : JFrame}
    (S : CallFix p m c cc nL s args Ts own) (hM : Met l y ws rm Pc Qc mc ms free) (cw : vx_CVW R s args own C index y bytes maxL ret hh ws rm mc ms n) (hp : PreV s H C b Pc As)
    (hg : g.method = m) (hn : As.length = n) (hsize : g.locals.size = nL) (hstack : g.stack = As.reverse ++ .ref b :: rest) (hW : 2 * g.monitorRoom + (rest.map fun v => v.category).sum ≤ 8) (hdg : decode cc g.pc = .ok (.invokevirtual index, 3)) (hf : cells + mc ≤ R.cells ∧ slots + ms ≤ R.slots) :
    va_Run p l e R s m args below meth c H locs cells slots mc ms g rest (Qc (Value.ref b :: As).toArray) free := by
  obtain ⟨⟨hrc, hrs, hfr, hlo, hws, hcw⟩, hcode, hini, hy, hlen, hl, hin, hse⟩ := cw
  have hK : Back l R p e below s args y 3 8 (PreOf R mc ms Pc) (PostOf Qc mc ms free) := va_backW (hh := hh) (bytes := bytes) (maxL := maxL) (ret := ret) hM hp.1 hrc hrs hfr hlo hws hcw (fun a' U hW => word_at hW (Or.inl (by first | rfl | simp [Cond.onTables, Cond.keeps, Cond.steady])) hini)
  obtain ⟨hx, hb, hml, ho, -⟩ := S
  obtain ⟨-, ⟨cellB, hcB, hoB, hclB⟩, hPc⟩ := hp
  intro T hT X
  obtain ⟨v, vm₁, ⟨U', l2, c2, s2⟩, hW₁, X', ⟨g', mk, t, L, e1, e2, hq, h1, hL, h2, h3⟩, st⟩ := vx_callVW X hx (C := C) (hh := hh) (bytes := bytes) (maxL := maxL) (ret := ret) ho hl hin hse hcode hy hK (by rw [hT]; exact hcB) hoB hclB hg (hsize.trans hml.symm) (argsL := As) (rest := rest) (fun sig h => hn.trans (hlen sig h)) hstack hW (by rw [hb]; exact hdg)
    (fun vm₁ hW₁ => ⟨hf.1, hf.2, hPc (T.setVm vm₁) hT hW₁⟩)
  dsimp only [Pt.U, Pt.locs, Pt.cells, Pt.slots] at X' e1 e2 h1 h2 h3 st
  subst h1; subst h2; subst h3
  exact ⟨v, (T.setVm vm₁).calling g' mk (Value.ref b :: As).toArray, t, U', L, hT, X', hL, e1, e2, hq, st⟩
section
variable {y : MethodName} {bytes cc : ByteArray} {maxL nL mc ms n index : Nat} {ret : Option FieldType} {ws : List Cond} {rm : Room} {Pc : Array Value → State → Prop} {Qc : Array Value → State → Outcome → State → Prop} {XC : String → State → State → Prop} {free : Addr → Prop} {Ts : List Cond} {own C : String} {b : Addr} {As rest : List Value} {g : JFrame}
theorem vx_runVX {hh : List (Nat × Nat × Nat × Nat)} (S : CallFix p m c cc nL s args Ts own) (hM : vx_Met l y ws rm Pc Qc XC mc ms free) (cw : vx_CVW R s args own C index y bytes maxL ret hh ws rm mc ms n) (hp : PreV s H C b Pc As)
    (hg : g.method = m) (hn : As.length = n) (hsize : g.locals.size = nL) (hstack : g.stack = As.reverse ++ .ref b :: rest) (hW : 2 * g.monitorRoom + (rest.map fun v => v.category).sum ≤ 8) (hdg : decode cc g.pc = .ok (.invokevirtual index, 3)) (hf : cells + mc ≤ R.cells ∧ slots + ms ≤ R.slots) :
    vx_Run p l e R s m args below meth c H locs cells slots mc ms g rest (Qc (Value.ref b :: As).toArray) XC free := by
  obtain ⟨⟨hrc, hrs, hfr, hlo, hws, hcw⟩, hcode, hini, hy, hlen, hl, hin, hse⟩ := cw
  have hK : vx_Back l R p e below s args y 3 8 (PreOf R mc ms Pc) (PostOf Qc mc ms free) (vx_Post XC mc ms free) := vx_backW (hh := hh) (bytes := bytes) (maxL := maxL) (ret := ret) hM hp.1 hrc hrs hfr hlo hws hcw (fun a' U hW => word_at hW (Or.inl (by first | rfl | simp [Cond.onTables, Cond.keeps, Cond.steady])) hini)
  obtain ⟨hx, hb, hml, ho, -⟩ := S
  obtain ⟨-, ⟨cellB, hcB, hoB, hclB⟩, hPc⟩ := hp
  intro T hT X
  rcases vx_callVX X hx (C := C) (hh := hh) (bytes := bytes) (maxL := maxL) (ret := ret) ho hl hin hse hcode hy hK (by rw [hT]; exact hcB) hoB hclB hg (hsize.trans hml.symm) (argsL := As) (rest := rest) (fun sig h => hn.trans (hlen sig h)) hstack hW (by rw [hb]; exact hdg)
    (fun vm₁ hW₁ => ⟨hf.1, hf.2, hPc (T.setVm vm₁) hT hW₁⟩) with ⟨v, vm₁, ⟨U', l2, c2, s2⟩, hW₁, X', ⟨g', mk, t, L, e1, e2, hq, h1, hL, h2, h3⟩, st⟩ | ⟨q, vm₁, ⟨U', l2, c2, s2⟩, hW₁, X', ⟨g', mk, t, L, E, ce, e1, e2, hq, hce, hcv, hcl, h1, hL, h2, h3⟩, st⟩
  · dsimp only [Pt.U, Pt.locs, Pt.cells, Pt.slots] at X' e1 e2 h1 h2 h3 st
    subst h1; subst h2; subst h3
    exact Or.inl ⟨v, (T.setVm vm₁).calling g' mk (Value.ref b :: As).toArray, t, U', L, hT, X', hL, e1, e2, hq, st⟩
  · dsimp only [Pt.U, Pt.locs, Pt.cells, Pt.slots] at X' e1 e2 h1 h2 h3 st hcl
    subst h1; subst h2; subst h3
    exact Or.inr ⟨q, (T.setVm vm₁).calling g' mk (Value.ref b :: As).toArray, t, U', L, E, ce, hT, X', hL, e1, e2, hq, hce, hcv, vx_cls hW₁ hcl, st⟩
theorem vx_runSX {hh : List (Nat × Nat × Nat × Nat)} (S : CallFix p m c cc nL s args Ts own) (hM : vx_Met l y ws rm Pc Qc XC mc ms free) (cw : vx_CSW R s args own index y bytes maxL ret hh ws rm mc ms n) (hp : PreS s H Pc As)
    (hg : g.method = m) (hn : As.length = n) (hsize : g.locals.size = nL) (hstack : g.stack = As.reverse ++ rest) (hW : 2 * g.monitorRoom + (rest.map fun v => v.category).sum ≤ 8) (hdg : decode cc g.pc = .ok (.invokestatic index, 3)) (hf : cells + mc ≤ R.cells ∧ slots + ms ≤ R.slots) :
    vx_Run p l e R s m args below meth c H locs cells slots mc ms g rest (Qc As.toArray) XC free := by
  obtain ⟨⟨hrc, hrs, hfr, hlo, hws, hcw⟩, hcode, hini, hy, hlen, hl, hstt⟩ := cw
  have hK : vx_Back l R p e below s args y 3 8 (PreOf R mc ms Pc) (PostOf Qc mc ms free) (vx_Post XC mc ms free) := vx_backW (hh := hh) (bytes := bytes) (maxL := maxL) (ret := ret) hM hp.1 hrc hrs hfr hlo hws hcw (fun a' U hW => word_at hW (Or.inl (by first | rfl | simp [Cond.onTables, Cond.keeps, Cond.steady])) hini)
  obtain ⟨hx, hb, hml, ho, -⟩ := S
  intro T hT X
  rcases vx_callSX X hx (hh := hh) (bytes := bytes) (maxL := maxL) (ret := ret) ho hl hstt hini hcode hy hK hg (hsize.trans hml.symm) (argsL := As) (rest := rest) (fun sig h => hn.trans (hlen sig h)) hstack hW (by rw [hb]; exact hdg)
    (fun vm₁ hW₁ => ⟨hf.1, hf.2, hp.2 (T.setVm vm₁) hT hW₁⟩) with ⟨v, vm₁, ⟨U', l2, c2, s2⟩, hW₁, X', ⟨g', mk, t, L, e1, e2, hq, h1, hL, h2, h3⟩, st⟩ | ⟨q, vm₁, ⟨U', l2, c2, s2⟩, hW₁, X', ⟨g', mk, t, L, E, ce, e1, e2, hq, hce, hcv, hcl, h1, hL, h2, h3⟩, st⟩
  · dsimp only [Pt.U, Pt.locs, Pt.cells, Pt.slots] at X' e1 e2 h1 h2 h3 st
    subst h1; subst h2; subst h3
    exact Or.inl ⟨v, (T.setVm vm₁).calling g' mk As.toArray, t, U', L, hT, X', hL, e1, e2, hq, st⟩
  · dsimp only [Pt.U, Pt.locs, Pt.cells, Pt.slots] at X' e1 e2 h1 h2 h3 st hcl
    subst h1; subst h2; subst h3
    exact Or.inr ⟨q, (T.setVm vm₁).calling g' mk As.toArray, t, U', L, E, ce, hT, X', hL, e1, e2, hq, hce, hcv, vx_cls hW₁ hcl, st⟩
end
end VXH
theorem vx_ofWH {l : Launch} {y : MethodName} {ws ws' : List Cond} {rm : Room} {Pc : Array Value → State → Prop} {Qc : Array Value → State → Outcome → State → Prop} {XC : String → State → State → Prop} {mc ms : Nat} {free : Addr → Prop} {cc : ByteArray} {maxL : Nat} {ret : Option FieldType} {hh : List (Nat × Nat × Nat × Nat)}
    (hy : plainName y.cls = true) (hw : ws = Cond.codeWith y cc maxL ret hh :: ws')
    (body : ∀ p e s m args below meth c s₁, BodyLoose p l y (headSpec ws rm) cc maxL ret e s m args below meth c s₁ → c.maxLocals = maxL → Pc args s →
      W p l e (headSpec ws rm).room s m args below meth c s.heap [] 0 0 (vx_MQ below Qc XC args s mc ms free) (entryFrame m args maxL)) : vx_Met l y ws rm Pc Qc XC mc ms free := by
  refine MetFree.of_bodyS (code := cc) (maxLocals := maxL) (ret := ret) hy ?_ ?_
  · intro args s m h hn
    obtain ⟨m9, meth, c, hn9, h1, h2, h3, h4, -, h5, h6, -⟩ := Cond.codeWith_spec (atoms_spec (ws := ws) h _ (by rw [hw]; exact List.mem_cons_self))
    cases hn.symm.trans hn9
    exact ⟨meth, c, h1, h2, h3, h4, h5, h6⟩
  · intro p e s m args below meth c s₁ B hml hP _
    have hh0 : s₁.heap = s.heap := by rw [B.state]; rfl
    obtain ⟨t, a1, o, b1, b2, b3⟩ := body p e s m args below meth c s₁ B hml hP s₁ hh0 (Stand.of_body B)
    exact ⟨t, o, a1, b1, b2, b3⟩
/-! ===== END ===== -/
/-! ===== BEGIN a constructor that throws (launches without stack traces) ===== -/
section VXIA
variable {p : Program} {l : Launch} {e : Env} {R : Room} {s : State} {m : MethodId} {args : Array Value} {below : List Frame} {meth : Method} {c : Code} {T : State} {locs : List Loc} {cells slots : Nat}
theorem vx_callI (X : Stand p l e R s m args below meth c T locs cells slots) (hexec : p.tables.exec = Jvm.exec) {own : String} {index : Nat} {y : MethodName} {bytes : ByteArray} {maxL : Nat}
    (hown : s.vm.findClass own = some m.cls) (hy1 : y.name = "<init>") (hlink : (Cond.methodLink own index y).before args s = true) (hinst : (Cond.instanceMethod y).before args s = true)
    (hcode : (Cond.code y bytes maxL none).before args s = true) (hy : y.cls ≠ "java/lang/invoke/MethodHandle" ∧ y.cls ≠ "java/lang/invoke/VarHandle")
    {W9 : Nat} {Pre : Pt → Array Value → Prop} {Post : Pt → Array Value → Option Value → Pt → Prop} {PostX : Pt → Array Value → Addr → Pt → Prop} (hK : vx_Back l R p e below s args y 3 W9 Pre Post PostX)
    {g : JFrame} (hg : g.method = m) (hsize : g.locals.size = c.maxLocals) {a : Addr} {argsL rest : List Value} (hlen : ∀ sig, parseMethodDescriptor y.desc = some sig → argsL.length = sig.parameters.length)
    (hstack : g.stack = argsL.reverse ++ .ref a :: rest) (hW : 2 * g.monitorRoom + (rest.map fun v => v.category).sum ≤ W9) (hdg : decode c.code g.pc = .ok (.invokespecial index, 3))
    (hpre : ∀ vm₁, s.WarmedH vm₁ → Pre ⟨T.setVm vm₁, locs, cells, slots⟩ (Value.ref a :: argsL).toArray) :
    (∃ (v : Option Value) (vm₁ : Vm) (B : Pt), s.WarmedH vm₁ ∧ Stand p l e R s m args below meth c B.U B.locs B.cells B.slots ∧ Post ⟨T.setVm vm₁, locs, cells, slots⟩ (Value.ref a :: argsL).toArray v B ∧
      ∀ target, Steps p.tables e below (B.U.setTop { g with pc := g.pc + 3, stack := v.toList ++ rest }) target → Steps p.tables e below (T.setTop g) target) ∨
    (∃ (q : Addr) (vm₁ : Vm) (B : Pt), s.WarmedH vm₁ ∧ Stand p l e R s m args below meth c B.U B.locs B.cells B.slots ∧ PostX ⟨T.setVm vm₁, locs, cells, slots⟩ (Value.ref a :: argsL).toArray q B ∧
      Steps p.tables e below (T.setTop g) ((B.U.setTop { g with stack := rest }).pushFrame (.throwing q))) := by
  subst hg
  have hpl : e.platform.magicAccessors = ({} : Platform).magicAccessors := by rw [X.admits.platform]
  obtain ⟨mk, methM, cM, kP, vm₁, hnamed, hmethM, hcodeM, -, hlocalsM, -, hkP, -, hW₁, hstep₁⟩ := Steps.initColdArgs (e := e) X.here hexec X.warmed hpl hown hy1 hy hlink hinst hcode (f := g) rfl hlen hstack hdg
  have X₁ := X.noted hW₁
  rcases hK g.method meth c ⟨T.setVm vm₁, locs, cells, slots⟩ { g with stack := rest } (.invokespecial index) mk (Value.ref a :: argsL).toArray X₁ rfl hsize hdg hW (X₁.named hnamed) (hpre vm₁ X₁.warmed) with ⟨v, B, X', hpost, hsteps⟩ | ⟨q, B, X', hpost, hsteps⟩
  · exact Or.inl ⟨v, vm₁, B, X₁.warmed, X', hpost, fun target h => hstep₁ _ fun acts => by rw [doInvoke_state]; exact hsteps.trans h⟩
  · exact Or.inr ⟨q, vm₁, B, X₁.warmed, X', hpost, hstep₁ _ fun acts => by rw [doInvoke_state]; exact hsteps⟩
end VXIA
section VXIB
variable {p : Program} {l : Launch} {e : Env} {R : Room} {s : State} {m : MethodId} {args : Array Value} {below : List Frame} {meth : Method} {c : Code} {H : Heap} {locs : List Loc} {cells slots : Nat}
variable {y : MethodName} {bytes cc : ByteArray} {maxL nL mc ms n index : Nat} {ret : Option FieldType} {ws : List Cond} {rm : Room} {Pc : Array Value → State → Prop} {Qc : Array Value → State → Outcome → State → Prop} {XC : String → State → State → Prop} {free : Addr → Prop} {Ts : List Cond} {own C : String} {b : Addr} {As rest : List Value} {g : JFrame}
theorem vx_runI (S : CallFix p m c cc nL s args Ts own) (hM : vx_Met l y ws rm Pc Qc XC mc ms free) (cw : CallB R s args own index y bytes maxL none ws rm mc ms n ∧ y.name = "<init>" ∧ (Cond.instanceMethod y).before args s = true) (hp : PreS s H Pc (.ref b :: As))
    (hg : g.method = m) (hn : As.length = n) (hsize : g.locals.size = nL) (hstack : g.stack = As.reverse ++ .ref b :: rest) (hW : 2 * g.monitorRoom + (rest.map fun v => v.category).sum ≤ 8) (hdg : decode cc g.pc = .ok (.invokespecial index, 3)) (hf : cells + mc ≤ R.cells ∧ slots + ms ≤ R.slots) :
    vx_Run p l e R s m args below meth c H locs cells slots mc ms g rest (Qc (Value.ref b :: As).toArray) XC free := by
  have hK : vx_Back l R p e below s args y 3 8 (PreOf R mc ms Pc) (PostOf Qc mc ms free) (vx_Post XC mc ms free) := vx_callBack cw.1 hM hp.1
  obtain ⟨⟨-, -, -, -, -, -, hcode, -, hy, hlen, hl⟩, hy1, hin⟩ := cw
  obtain ⟨hx, hb, hml, ho, -⟩ := S
  have hPc := hp.2
  intro T hT X
  rcases vx_callI X hx (bytes := bytes) (maxL := maxL) ho hy1 hl hin hcode hy hK hg (hsize.trans hml.symm) (a := b) (argsL := As) (rest := rest) (fun sig h => hn.trans (hlen sig h)) hstack hW (by rw [hb]; exact hdg)
    (fun vm₁ hW₁ => ⟨hf.1, hf.2, hPc (T.setVm vm₁) hT hW₁⟩) with ⟨v, vm₁, ⟨U', l2, c2, s2⟩, hW₁, X', ⟨g', mk, t, L, e1, e2, hq, h1, hL, h2, h3⟩, st⟩ | ⟨q, vm₁, ⟨U', l2, c2, s2⟩, hW₁, X', ⟨g', mk, t, L, E, ce, e1, e2, hq, hce, hcv, hcl, h1, hL, h2, h3⟩, st⟩
  · dsimp only [Pt.U, Pt.locs, Pt.cells, Pt.slots] at X' e1 e2 h1 h2 h3 st
    subst h1; subst h2; subst h3
    exact Or.inl ⟨v, (T.setVm vm₁).calling g' mk (Value.ref b :: As).toArray, t, U', L, hT, X', hL, e1, e2, hq, st⟩
  · dsimp only [Pt.U, Pt.locs, Pt.cells, Pt.slots] at X' e1 e2 h1 h2 h3 st hcl
    subst h1; subst h2; subst h3
    exact Or.inr ⟨q, (T.setVm vm₁).calling g' mk (Value.ref b :: As).toArray, t, U', L, E, ce, hT, X', hL, e1, e2, hq, hce, hcv, vx_cls hW₁ hcl, st⟩
end VXIB
/-! ===== END ===== -/
/-! ===== BEGIN a private constructor of a nest mate that throws ===== -/
section VXIC
variable {p : Program} {l : Launch} {e : Env} {R : Room} {s : State} {m : MethodId} {args : Array Value} {below : List Frame} {meth : Method} {c : Code} {T : State} {locs : List Loc} {cells slots : Nat}
theorem vx_callIN (X : Stand p l e R s m args below meth c T locs cells slots) (hexec : p.tables.exec = Jvm.exec) {own : String} {index : Nat} {host : String} {y : MethodName} {bytes : ByteArray} {maxL : Nat}
    (hown : s.vm.findClass own = some m.cls) (hy1 : y.name = "<init>") (hlink : (Cond.methodLinkNest own index y host).before args s = true) (hinst : (Cond.instanceMethod y).before args s = true)
    (hcode : (Cond.code y bytes maxL none).before args s = true) (hy : y.cls ≠ "java/lang/invoke/MethodHandle" ∧ y.cls ≠ "java/lang/invoke/VarHandle")
    {W9 : Nat} {Pre : Pt → Array Value → Prop} {Post : Pt → Array Value → Option Value → Pt → Prop} {PostX : Pt → Array Value → Addr → Pt → Prop} (hK : vx_Back l R p e below s args y 3 W9 Pre Post PostX)
    {g : JFrame} (hg : g.method = m) (hsize : g.locals.size = c.maxLocals) {a : Addr} {argsL rest : List Value} (hlen : ∀ sig, parseMethodDescriptor y.desc = some sig → argsL.length = sig.parameters.length)
    (hstack : g.stack = argsL.reverse ++ .ref a :: rest) (hW : 2 * g.monitorRoom + (rest.map fun v => v.category).sum ≤ W9) (hdg : decode c.code g.pc = .ok (.invokespecial index, 3))
    (hpre : ∀ vm₁, s.WarmedH vm₁ → Pre ⟨T.setVm vm₁, locs, cells, slots⟩ (Value.ref a :: argsL).toArray) :
    (∃ (v : Option Value) (vm₁ : Vm) (B : Pt), s.WarmedH vm₁ ∧ Stand p l e R s m args below meth c B.U B.locs B.cells B.slots ∧ Post ⟨T.setVm vm₁, locs, cells, slots⟩ (Value.ref a :: argsL).toArray v B ∧
      ∀ target, Steps p.tables e below (B.U.setTop { g with pc := g.pc + 3, stack := v.toList ++ rest }) target → Steps p.tables e below (T.setTop g) target) ∨
    (∃ (q : Addr) (vm₁ : Vm) (B : Pt), s.WarmedH vm₁ ∧ Stand p l e R s m args below meth c B.U B.locs B.cells B.slots ∧ PostX ⟨T.setVm vm₁, locs, cells, slots⟩ (Value.ref a :: argsL).toArray q B ∧
      Steps p.tables e below (T.setTop g) ((B.U.setTop { g with stack := rest }).pushFrame (.throwing q))) := by
  subst hg
  have hpl : e.platform.magicAccessors = ({} : Platform).magicAccessors := by rw [X.admits.platform]
  obtain ⟨mk, methM, cM, kP, vm₁, hnamed, hmethM, hcodeM, -, hlocalsM, -, hkP, -, hW₁, hstep₁⟩ := Steps.initColdArgsNest (e := e) X.here hexec X.warmed hpl hown hy1 hy hlink hinst hcode (f := g) rfl hlen hstack hdg
  have X₁ := X.noted hW₁
  rcases hK g.method meth c ⟨T.setVm vm₁, locs, cells, slots⟩ { g with stack := rest } (.invokespecial index) mk (Value.ref a :: argsL).toArray X₁ rfl hsize hdg hW (X₁.named hnamed) (hpre vm₁ X₁.warmed) with ⟨v, B, X', hpost, hsteps⟩ | ⟨q, B, X', hpost, hsteps⟩
  · exact Or.inl ⟨v, vm₁, B, X₁.warmed, X', hpost, fun target h => hstep₁ _ fun acts => by rw [doInvoke_state]; exact hsteps.trans h⟩
  · exact Or.inr ⟨q, vm₁, B, X₁.warmed, X', hpost, hstep₁ _ fun acts => by rw [doInvoke_state]; exact hsteps⟩
end VXIC
section VXID
variable {p : Program} {l : Launch} {e : Env} {R : Room} {s : State} {m : MethodId} {args : Array Value} {below : List Frame} {meth : Method} {c : Code} {H : Heap} {locs : List Loc} {cells slots : Nat}
theorem vx_runIN {y : MethodName} {bytes cc : ByteArray} {maxL nL mc ms n index : Nat} {ws : List Cond} {rm : Room} {Pc : Array Value → State → Prop} {Qc : Array Value → State → Outcome → State → Prop} {XC : String → State → State → Prop} {free : Addr → Prop} {Ts : List Cond} {own host : String} {b : Addr} {As rest : List Value} {g : JFrame}
    (S : CallFix p m c cc nL s args Ts own) (hM : vx_Met l y ws rm Pc Qc XC mc ms free) (cw : va_CN R s args own index y host bytes maxL none ws rm mc ms n ∧ y.name = "<init>" ∧ (Cond.instanceMethod y).before args s = true) (hp : PreS s H Pc (.ref b :: As))
    (hg : g.method = m) (hn : As.length = n) (hsize : g.locals.size = nL) (hstack : g.stack = As.reverse ++ .ref b :: rest) (hW : 2 * g.monitorRoom + (rest.map fun v => v.category).sum ≤ 8) (hdg : decode cc g.pc = .ok (.invokespecial index, 3)) (hf : cells + mc ≤ R.cells ∧ slots + ms ≤ R.slots) :
    vx_Run p l e R s m args below meth c H locs cells slots mc ms g rest (Qc (Value.ref b :: As).toArray) XC free := by
  obtain ⟨⟨⟨hrc, hrs, hfr, hlo, hws, hcw⟩, hcode, hini, hy, hlen, hl⟩, hx1, hx2⟩ := cw
  have hK : vx_Back l R p e below s args y 3 8 (PreOf R mc ms Pc) (PostOf Qc mc ms free) (vx_Post XC mc ms free) := vx_back (bytes := bytes) (maxL := maxL) (ret := none) hM hp.1 hrc hrs hfr hlo hws hcw (fun a' U hW => word_at hW (Or.inl (by first | rfl | simp [Cond.onTables, Cond.keeps, Cond.steady])) hini)
  obtain ⟨hx, hb, hml, ho, -⟩ := S
  have hPc := hp.2
  intro T hT X
  rcases vx_callIN X hx (bytes := bytes) (maxL := maxL) ho hx1 hl hx2 hcode hy hK hg (hsize.trans hml.symm) (a := b) (argsL := As) (rest := rest) (fun sig h => hn.trans (hlen sig h)) hstack hW (by rw [hb]; exact hdg)
    (fun vm₁ hW₁ => ⟨hf.1, hf.2, hPc (T.setVm vm₁) hT hW₁⟩) with ⟨v, vm₁, ⟨U', l2, c2, s2⟩, hW₁, X', ⟨g', mk, t, L, e1, e2, hq, h1, hL, h2, h3⟩, st⟩ | ⟨q, vm₁, ⟨U', l2, c2, s2⟩, hW₁, X', ⟨g', mk, t, L, E, ce, e1, e2, hq, hce, hcv, hcl, h1, hL, h2, h3⟩, st⟩
  · dsimp only [Pt.U, Pt.locs, Pt.cells, Pt.slots] at X' e1 e2 h1 h2 h3 st
    subst h1; subst h2; subst h3
    exact Or.inl ⟨v, (T.setVm vm₁).calling g' mk (Value.ref b :: As).toArray, t, U', L, hT, X', hL, e1, e2, hq, st⟩
  · dsimp only [Pt.U, Pt.locs, Pt.cells, Pt.slots] at X' e1 e2 h1 h2 h3 st hcl
    subst h1; subst h2; subst h3
    exact Or.inr ⟨q, (T.setVm vm₁).calling g' mk (Value.ref b :: As).toArray, t, U', L, E, ce, hT, X', hL, e1, e2, hq, hce, hcv, vx_cls hW₁ hcl, st⟩
end VXID
/-! ===== END ===== -/
/-! ===== BEGIN a method of a class above, found by the receiver, that may throw (follows va_callVU, va_runU of this kit) ===== -/
section
variable {p : Program} {l : Launch} {e : Env} {R : Room} {s : State} {m : MethodId} {args : Array Value} {below : List Frame} {meth : Method} {c : Code} {H : Heap} {locs : List Loc} {cells slots : Nat}
theorem vx_callVU {T : State} {locs : List Loc} {cells slots : Nat} (X : Stand p l e R s m args below meth c T locs cells slots) (hexec : p.tables.exec = Jvm.exec) {own C owner : String} {index : Nat} {x y : MethodName} {bytes : ByteArray} {maxL : Nat} {ret : Option FieldType}
    (hown : s.vm.findClass own = some m.cls) (hlink : (Cond.methodLink own index x).before args s = true) (hsame : (Cond.sameMethod x.cls owner x.name x.desc).before args s = true)
    (hd0 : va_Decl s ⟨owner, x.name, x.desc⟩) (howner : owner ≠ "java/lang/invoke/MethodHandle" ∧ owner ≠ "java/lang/invoke/VarHandle")
    (hsel : (Cond.selects C x y).before args s = true) (hinst : (Cond.instanceMethod y).before args s = true) (hcode : (Cond.code y bytes maxL ret).before args s = true)
    {W : Nat} {Pre : Pt → Array Value → Prop} {Post : Pt → Array Value → Option Value → Pt → Prop} {PostX : Pt → Array Value → Addr → Pt → Prop} (hK : vx_Back l R p e below s args y 3 W Pre Post PostX)
    {b : Addr} {cellB : Cell} (hcell : T.heap[b]? = some cellB) (hobj : cellB.vm.isStatics = false) (hcls : s.vm.findClass C = some cellB.cls)
    {g : JFrame} (hg : g.method = m) (hsize : g.locals.size = c.maxLocals) {argsL rest : List Value} (hlen : ∀ sig, parseMethodDescriptor x.desc = some sig → argsL.length = sig.parameters.length)
    (hstack : g.stack = argsL.reverse ++ .ref b :: rest) (hW : 2 * g.monitorRoom + (rest.map fun v => v.category).sum ≤ W) (hdg : decode c.code g.pc = .ok (.invokevirtual index, 3))
    (hpre : ∀ vm₁, s.WarmedH vm₁ → Pre ⟨T.setVm vm₁, locs, cells, slots⟩ (Value.ref b :: argsL).toArray) :
    (∃ (v : Option Value) (vm₁ : Vm) (B : Pt), s.WarmedH vm₁ ∧ Stand p l e R s m args below meth c B.U B.locs B.cells B.slots ∧ Post ⟨T.setVm vm₁, locs, cells, slots⟩ (Value.ref b :: argsL).toArray v B ∧
      ∀ target, Steps p.tables e below (B.U.setTop { g with pc := g.pc + 3, stack := v.toList ++ rest }) target → Steps p.tables e below (T.setTop g) target) ∨
    (∃ (q : Addr) (vm₁ : Vm) (B : Pt), s.WarmedH vm₁ ∧ Stand p l e R s m args below meth c B.U B.locs B.cells B.slots ∧ PostX ⟨T.setVm vm₁, locs, cells, slots⟩ (Value.ref b :: argsL).toArray q B ∧
      Steps p.tables e below (T.setTop g) ((B.U.setTop { g with stack := rest }).pushFrame (.throwing q))) := by
  obtain ⟨r0, r, hn, hrm, hstR, hsigR⟩ := hd0
  obtain ⟨cn, ck, r1, hcn, hck, hni, hf, hn1⟩ := Cond.sameMethod_found hsame
  cases hn.symm.trans hn1
  obtain ⟨mk, methM, hnamed, hmethM, -, habM⟩ := Cond.instanceMethod_spec hinst
  obtain ⟨c2, r2, m2, q1, q2, q3, q4, kP, hkP, hkPi⟩ := Cond.selects_spec hsel
  cases hcls.symm.trans q1
  cases hf.symm.trans q2
  cases hnamed.symm.trans q3
  have hselP : selectMethod e.platform s.vm cellB.cls r0 = .method mk := by rw [Launch.admits_selectMethod X.admits]; exact q4
  obtain ⟨vm₁, X₁, hstep₁⟩ := X.invokevirtualUp hexec hown hlink hsame howner hn hrm hstR (a := b) (cell := cellB) hcell
    (fun z h => by rw [h] at hobj; cases hobj) hselP hmethM habM hkP hkPi (g := g) hg (argsL := argsL) (rest := rest) (hlen _ hsigR) hstack hdg
  rcases hK m meth c ⟨T.setVm vm₁, locs, cells, slots⟩ { g with stack := rest } (.invokevirtual index) mk (Value.ref b :: argsL).toArray X₁ hg hsize hdg hW (X₁.named hnamed) (hpre vm₁ X₁.warmed) with ⟨v, B, X', hpost, hsteps⟩ | ⟨q, B, X', hpost, hsteps⟩
  · exact Or.inl ⟨v, vm₁, B, X₁.warmed, X', hpost, fun target h => hstep₁ _ fun acts => by rw [doInvoke_state]; exact hsteps.trans h⟩
  · exact Or.inr ⟨q, vm₁, B, X₁.warmed, X', hpost, hstep₁ _ fun acts => by rw [doInvoke_state]; exact hsteps⟩
theorem vx_runU {x y : MethodName} {bytes cc : ByteArray} {maxL nL mc ms n index : Nat} {ret : Option FieldType} {ws : List Cond} {rm : Room} {Pc : Array Value → State → Prop} {Qc : Array Value → State → Outcome → State → Prop} {XC : String → State → State → Prop} {free : Addr → Prop} {Ts : List Cond} {own C owner : String} {b : Addr} {As rest : List Value} {g : JFrame}
    (S : CallFix p m c cc nL s args Ts own) (hM : vx_Met l y ws rm Pc Qc XC mc ms free) (cw : va_CU R s args own C owner index x y bytes maxL ret ws rm mc ms n) (hp : PreV s H C b Pc As)
    (hg : g.method = m) (hn : As.length = n) (hsize : g.locals.size = nL) (hstack : g.stack = As.reverse ++ .ref b :: rest) (hW : 2 * g.monitorRoom + (rest.map fun v => v.category).sum ≤ 8) (hdg : decode cc g.pc = .ok (.invokevirtual index, 3)) (hf : cells + mc ≤ R.cells ∧ slots + ms ≤ R.slots) :
    vx_Run p l e R s m args below meth c H locs cells slots mc ms g rest (Qc (Value.ref b :: As).toArray) XC free := by
  obtain ⟨hrc, hrs, hfr, hlo, hws, hcw⟩ := cw.back
  have hini := cw.init
  have hK : vx_Back l R p e below s args y 3 8 (PreOf R mc ms Pc) (PostOf Qc mc ms free) (vx_Post XC mc ms free) := vx_back (bytes := bytes) (maxL := maxL) (ret := ret) hM hp.1 hrc hrs hfr hlo hws hcw (fun a' U hW => word_at hW (Or.inl (by first | rfl | simp [Cond.onTables, Cond.keeps, Cond.steady])) hini)
  obtain ⟨hx, hb, hml, ho, -⟩ := S
  obtain ⟨-, ⟨cellB, hcB, hoB, hclB⟩, hPc⟩ := hp
  intro T hT X
  rcases vx_callVU X hx (C := C) (owner := owner) (bytes := bytes) (maxL := maxL) (ret := ret) ho cw.link cw.same cw.decl cw.notMH cw.sel cw.inst cw.code hK (by rw [hT]; exact hcB) hoB hclB hg (hsize.trans hml.symm) (argsL := As) (rest := rest) (fun sig h => hn.trans (cw.len sig h)) hstack hW (by rw [hb]; exact hdg)
    (fun vm₁ hW₁ => ⟨hf.1, hf.2, hPc (T.setVm vm₁) hT hW₁⟩) with ⟨v, vm₁, ⟨U', l2, c2, s2⟩, hW₁, X', ⟨g', mk, t, L, e1, e2, hq, h1, hL, h2, h3⟩, st⟩ | ⟨q, vm₁, ⟨U', l2, c2, s2⟩, hW₁, X', ⟨g', mk, t, L, E, ce, e1, e2, hq, hce, hcv, hcl, h1, hL, h2, h3⟩, st⟩
  · dsimp only [Pt.U, Pt.locs, Pt.cells, Pt.slots] at X' e1 e2 h1 h2 h3 st
    subst h1; subst h2; subst h3
    exact Or.inl ⟨v, (T.setVm vm₁).calling g' mk (Value.ref b :: As).toArray, t, U', L, hT, X', hL, e1, e2, hq, st⟩
  · dsimp only [Pt.U, Pt.locs, Pt.cells, Pt.slots] at X' e1 e2 h1 h2 h3 st hcl
    subst h1; subst h2; subst h3
    exact Or.inr ⟨q, (T.setVm vm₁).calling g' mk (Value.ref b :: As).toArray, t, U', L, E, ce, hT, X', hL, e1, e2, hq, hce, hcv, vx_cls hW₁ hcl, st⟩
end
/-! ===== END ===== -/
/-! ===== BEGIN super.m(..) that may throw (follows va_callSU, va_runSU) ===== -/
section
variable {p : Program} {l : Launch} {e : Env} {R : Room} {s : State} {m : MethodId} {args : Array Value} {below : List Frame} {meth : Method} {c : Code} {H : Heap} {locs : List Loc} {cells slots : Nat}
theorem vx_callSU {T : State} {locs : List Loc} {cells slots : Nat} (X : Stand p l e R s m args below meth c T locs cells slots) (hexec : p.tables.exec = Jvm.exec) {own : String} {index : Nat} {y : MethodName} {bytes : ByteArray} {maxL : Nat} {ret : Option FieldType}
    (hown : s.vm.findClass own = some m.cls) (hlink : (Cond.methodLink own index y).before args s = true) (hsame : (Cond.sameMethod y.cls y.cls y.name y.desc).before args s = true) (hsup : (Cond.superclass own y.cls).before args s = true)
    (hinst : (Cond.instanceMethod y).before args s = true) (hcode : (Cond.code y bytes maxL ret).before args s = true) (hno : y.name ≠ "<init>")
    {W : Nat} {Pre : Pt → Array Value → Prop} {Post : Pt → Array Value → Option Value → Pt → Prop} {PostX : Pt → Array Value → Addr → Pt → Prop} (hK : vx_Back l R p e below s args y 3 W Pre Post PostX)
    {b : Addr} {cellB : Cell} {kB : Class} (hcell : T.heap[b]? = some cellB) (hobj : cellB.vm.isStatics = false) (hkB : s.vm.classes[cellB.cls]? = some kB)
    {g : JFrame} (hg : g.method = m) (hsize : g.locals.size = c.maxLocals) {argsL rest : List Value} (hlen : ∀ sig, parseMethodDescriptor y.desc = some sig → argsL.length = sig.parameters.length)
    (hstack : g.stack = argsL.reverse ++ .ref b :: rest) (hW : 2 * g.monitorRoom + (rest.map fun v => v.category).sum ≤ W) (hdg : decode c.code g.pc = .ok (.invokespecial index, 3))
    (hpre : ∀ vm₁, s.WarmedH vm₁ → Pre ⟨T.setVm vm₁, locs, cells, slots⟩ (Value.ref b :: argsL).toArray) :
    (∃ (v : Option Value) (vm₁ : Vm) (B : Pt), s.WarmedH vm₁ ∧ Stand p l e R s m args below meth c B.U B.locs B.cells B.slots ∧ Post ⟨T.setVm vm₁, locs, cells, slots⟩ (Value.ref b :: argsL).toArray v B ∧
      ∀ target, Steps p.tables e below (B.U.setTop { g with pc := g.pc + 3, stack := v.toList ++ rest }) target → Steps p.tables e below (T.setTop g) target) ∨
    (∃ (q : Addr) (vm₁ : Vm) (B : Pt), s.WarmedH vm₁ ∧ Stand p l e R s m args below meth c B.U B.locs B.cells B.slots ∧ PostX ⟨T.setVm vm₁, locs, cells, slots⟩ (Value.ref b :: argsL).toArray q B ∧
      Steps p.tables e below (T.setTop g) ((B.U.setTop { g with stack := rest }).pushFrame (.throwing q))) := by
  obtain ⟨mk, methM, hnamed, hmethM, hstM, habM⟩ := Cond.instanceMethod_spec hinst
  obtain ⟨methM', cM, hmethM', -, -, -, -, -, -, hsigM⟩ := Cond.code_spec hnamed hcode
  cases hmethM.symm.trans hmethM'
  obtain ⟨ps, dk, kp, hps, hdk, hkp, hsuper, -, -, hnid⟩ := Cond.superclass_spec hown hsup
  have hn : s.methodNamed? ⟨y.cls, y.name, y.desc⟩ = some mk := hnamed
  have hpm : ps = mk.cls := Option.some.inj (hps.symm.trans (findClass_of_methodNamed hnamed))
  have hsub : s.vm.isSubclass ps mk.cls = true := by rw [hpm]; simp [Vm.isSubclass, Vm.isSubclassAux]
  obtain ⟨vm₁, X₁, hstep₁⟩ := X.invokespecialUp hexec hown hlink hsame hn hmethM hstM habM hno hdk hnid hps hsuper hsub (a := b) (cell := cellB) hcell
    (fun z h => by rw [h] at hobj; cases hobj) hkB (g := g) hg (argsL := argsL) (rest := rest) (hlen _ hsigM) hstack hdg
  rcases hK m meth c ⟨T.setVm vm₁, locs, cells, slots⟩ { g with stack := rest } (.invokespecial index) mk (Value.ref b :: argsL).toArray X₁ hg hsize hdg hW (X₁.named hnamed) (hpre vm₁ X₁.warmed) with ⟨v, B, X', hpost, hsteps⟩ | ⟨q, B, X', hpost, hsteps⟩
  · exact Or.inl ⟨v, vm₁, B, X₁.warmed, X', hpost, fun target h => hstep₁ _ (by rw [doInvoke_state]; exact hsteps.trans h)⟩
  · exact Or.inr ⟨q, vm₁, B, X₁.warmed, X', hpost, hstep₁ _ (by rw [doInvoke_state]; exact hsteps)⟩
theorem vx_runSU {y : MethodName} {bytes cc : ByteArray} {maxL nL mc ms n index : Nat} {ret : Option FieldType} {ws : List Cond} {rm : Room} {Pc : Array Value → State → Prop} {Qc : Array Value → State → Outcome → State → Prop} {XC : String → State → State → Prop} {free : Addr → Prop} {Ts : List Cond} {own C : String} {cC : ClassId} {b : Addr} {As rest : List Value} {g : JFrame}
    (hat : ClassAt s C cC) (S : CallFix p m c cc nL s args Ts own) (hM : vx_Met l y ws rm Pc Qc XC mc ms free) (cw : va_CS R s args own index y bytes maxL ret ws rm mc ms n) (hp : PreV s H C b Pc As)
    (hg : g.method = m) (hn : As.length = n) (hsize : g.locals.size = nL) (hstack : g.stack = As.reverse ++ .ref b :: rest) (hW : 2 * g.monitorRoom + (rest.map fun v => v.category).sum ≤ 8) (hdg : decode cc g.pc = .ok (.invokespecial index, 3)) (hf : cells + mc ≤ R.cells ∧ slots + ms ≤ R.slots) :
    vx_Run p l e R s m args below meth c H locs cells slots mc ms g rest (Qc (Value.ref b :: As).toArray) XC free := by
  obtain ⟨⟨hrc, hrs, hfr, hlo, hws, hcw⟩, hl1, hl2, hl3, hl4, hini, hcode, hno, hlen⟩ := cw
  have hK : vx_Back l R p e below s args y 3 8 (PreOf R mc ms Pc) (PostOf Qc mc ms free) (vx_Post XC mc ms free) := vx_back (bytes := bytes) (maxL := maxL) (ret := ret) hM hp.1 hrc hrs hfr hlo hws hcw (fun a' U hW => word_at hW (Or.inl (by first | rfl | simp [Cond.onTables, Cond.keeps, Cond.steady])) hini)
  obtain ⟨hx, hb, hml, ho, -⟩ := S
  obtain ⟨-, ⟨cellB, hcB, hoB, hclB⟩, hPc⟩ := hp
  obtain ⟨hfc, kB, hkB, -⟩ := hat
  cases hfc.symm.trans hclB
  intro T hT X
  rcases vx_callSU X hx (bytes := bytes) (maxL := maxL) (ret := ret) ho hl1 hl2 hl3 hl4 hcode hno hK (by rw [hT]; exact hcB) hoB hkB hg (hsize.trans hml.symm) (argsL := As) (rest := rest) (fun sig h => hn.trans (hlen sig h)) hstack hW (by rw [hb]; exact hdg)
    (fun vm₁ hW₁ => ⟨hf.1, hf.2, hPc (T.setVm vm₁) hT hW₁⟩) with ⟨v, vm₁, ⟨U', l2, c2, s2⟩, hW₁, X', ⟨g', mk, t, L, e1, e2, hq, h1, hL, h2, h3⟩, st⟩ | ⟨q, vm₁, ⟨U', l2, c2, s2⟩, hW₁, X', ⟨g', mk, t, L, E, ce, e1, e2, hq, hce, hcv, hcl, h1, hL, h2, h3⟩, st⟩
  · dsimp only [Pt.U, Pt.locs, Pt.cells, Pt.slots] at X' e1 e2 h1 h2 h3 st
    subst h1; subst h2; subst h3
    exact Or.inl ⟨v, (T.setVm vm₁).calling g' mk (Value.ref b :: As).toArray, t, U', L, hT, X', hL, e1, e2, hq, st⟩
  · dsimp only [Pt.U, Pt.locs, Pt.cells, Pt.slots] at X' e1 e2 h1 h2 h3 st hcl
    subst h1; subst h2; subst h3
    exact Or.inr ⟨q, (T.setVm vm₁).calling g' mk (Value.ref b :: As).toArray, t, U', L, E, ce, hT, X', hL, e1, e2, hq, hce, hcv, vx_cls hW₁ hcl, st⟩
end
/-! ===== END ===== -/
/-! ===== BEGIN a private method of a nest mate that may throw (follows va_callVN, va_callSN, va_runVN, va_runSN) ===== -/
section
variable {p : Program} {l : Launch} {e : Env} {R : Room} {s : State} {m : MethodId} {args : Array Value} {below : List Frame} {meth : Method} {c : Code} {H : Heap} {locs : List Loc} {cells slots : Nat}
variable {T : State}
theorem vx_callVN (X : Stand p l e R s m args below meth c T locs cells slots) (hexec : p.tables.exec = Jvm.exec) {own C : String} {index : Nat} {host : String} {y : MethodName} {bytes : ByteArray} {maxL : Nat} {ret : Option FieldType}
    (hown : s.vm.findClass own = some m.cls) (hlink : (Cond.methodLinkNest own index y host).before args s = true) (hinst : (Cond.instanceMethod y).before args s = true) (hsel : (Cond.selects C y y).before args s = true)
    (hcode : (Cond.code y bytes maxL ret).before args s = true) (hy : y.cls ≠ "java/lang/invoke/MethodHandle" ∧ y.cls ≠ "java/lang/invoke/VarHandle")
    {W : Nat} {Pre : Pt → Array Value → Prop} {Post : Pt → Array Value → Option Value → Pt → Prop} {PostX : Pt → Array Value → Addr → Pt → Prop} (hK : vx_Back l R p e below s args y 3 W Pre Post PostX)
    {b : Addr} {cellB : Cell} (hcell : T.heap[b]? = some cellB) (hobj : cellB.vm.isStatics = false) (hcls : s.vm.findClass C = some cellB.cls)
    {g : JFrame} (hg : g.method = m) (hsize : g.locals.size = c.maxLocals) {argsL rest : List Value} (hlen : ∀ sig, parseMethodDescriptor y.desc = some sig → argsL.length = sig.parameters.length)
    (hstack : g.stack = argsL.reverse ++ .ref b :: rest) (hW : 2 * g.monitorRoom + (rest.map fun v => v.category).sum ≤ W) (hdg : decode c.code g.pc = .ok (.invokevirtual index, 3))
    (hpre : ∀ vm₁, s.WarmedH vm₁ → Pre ⟨T.setVm vm₁, locs, cells, slots⟩ (Value.ref b :: argsL).toArray) :
    (∃ (v : Option Value) (vm₁ : Vm) (B : Pt), s.WarmedH vm₁ ∧ Stand p l e R s m args below meth c B.U B.locs B.cells B.slots ∧ Post ⟨T.setVm vm₁, locs, cells, slots⟩ (Value.ref b :: argsL).toArray v B ∧
      ∀ target, Steps p.tables e below (B.U.setTop { g with pc := g.pc + 3, stack := v.toList ++ rest }) target → Steps p.tables e below (T.setTop g) target) ∨
    (∃ (q : Addr) (vm₁ : Vm) (B : Pt), s.WarmedH vm₁ ∧ Stand p l e R s m args below meth c B.U B.locs B.cells B.slots ∧ PostX ⟨T.setVm vm₁, locs, cells, slots⟩ (Value.ref b :: argsL).toArray q B ∧
      Steps p.tables e below (T.setTop g) ((B.U.setTop { g with stack := rest }).pushFrame (.throwing q))) := by
  obtain ⟨mk, methM, hnamed, hmethM, hstM, habM⟩ := Cond.instanceMethod_spec hinst
  obtain ⟨methM', cM, hmethM', -, -, -, -, -, -, hsigM⟩ := Cond.code_spec hnamed hcode
  cases hmethM.symm.trans hmethM'
  obtain ⟨c2, r2, m2, q1, q2, q3, q4, kP, hkP, hkPi⟩ := Cond.selects_spec hsel
  cases hcls.symm.trans q1
  cases (State.methodFound?_of_named hnamed hy).symm.trans q2
  cases hnamed.symm.trans q3
  have hselP : selectMethod e.platform s.vm cellB.cls mk = .method mk := by rw [Launch.admits_selectMethod X.admits]; exact q4
  obtain ⟨vm₁, X₁, hstep₁⟩ := X.invokevirtualNest hexec hown hlink hnamed hmethM hstM hkP hkPi hy (a := b) (cell := cellB) hcell
    (fun z h => by rw [h] at hobj; cases hobj) hselP hmethM habM hkP hkPi (g := g) hg (argsL := argsL) (rest := rest) (hlen _ hsigM) hstack hdg
  rcases hK m meth c ⟨T.setVm vm₁, locs, cells, slots⟩ { g with stack := rest } (.invokevirtual index) mk (Value.ref b :: argsL).toArray X₁ hg hsize hdg hW (X₁.named hnamed) (hpre vm₁ X₁.warmed) with ⟨v, B, X', hpost, hsteps⟩ | ⟨q, B, X', hpost, hsteps⟩
  · exact Or.inl ⟨v, vm₁, B, X₁.warmed, X', hpost, fun target h => hstep₁ _ fun acts => by rw [doInvoke_state]; exact hsteps.trans h⟩
  · exact Or.inr ⟨q, vm₁, B, X₁.warmed, X', hpost, hstep₁ _ fun acts => by rw [doInvoke_state]; exact hsteps⟩
theorem vx_callSN (X : Stand p l e R s m args below meth c T locs cells slots) (hexec : p.tables.exec = Jvm.exec) {own : String} {index : Nat} {host : String} {y : MethodName} {bytes : ByteArray} {maxL : Nat} {ret : Option FieldType}
    (hown : s.vm.findClass own = some m.cls) (hlink : (Cond.methodLinkNest own index y host).before args s = true) (hstat : (Cond.static y).before args s = true) (hinit : (Cond.initialized y.cls).before args s = true)
    (hcode : (Cond.code y bytes maxL ret).before args s = true) (hy : y.cls ≠ "java/lang/invoke/MethodHandle" ∧ y.cls ≠ "java/lang/invoke/VarHandle")
    {W : Nat} {Pre : Pt → Array Value → Prop} {Post : Pt → Array Value → Option Value → Pt → Prop} {PostX : Pt → Array Value → Addr → Pt → Prop} (hK : vx_Back l R p e below s args y 3 W Pre Post PostX)
    {g : JFrame} (hg : g.method = m) (hsize : g.locals.size = c.maxLocals) {argsL rest : List Value} (hlen : ∀ sig, parseMethodDescriptor y.desc = some sig → argsL.length = sig.parameters.length)
    (hstack : g.stack = argsL.reverse ++ rest) (hW : 2 * g.monitorRoom + (rest.map fun v => v.category).sum ≤ W) (hdg : decode c.code g.pc = .ok (.invokestatic index, 3))
    (hpre : ∀ vm₁, s.WarmedH vm₁ → Pre ⟨T.setVm vm₁, locs, cells, slots⟩ argsL.toArray) :
    (∃ (v : Option Value) (vm₁ : Vm) (B : Pt), s.WarmedH vm₁ ∧ Stand p l e R s m args below meth c B.U B.locs B.cells B.slots ∧ Post ⟨T.setVm vm₁, locs, cells, slots⟩ argsL.toArray v B ∧
      ∀ target, Steps p.tables e below (B.U.setTop { g with pc := g.pc + 3, stack := v.toList ++ rest }) target → Steps p.tables e below (T.setTop g) target) ∨
    (∃ (q : Addr) (vm₁ : Vm) (B : Pt), s.WarmedH vm₁ ∧ Stand p l e R s m args below meth c B.U B.locs B.cells B.slots ∧ PostX ⟨T.setVm vm₁, locs, cells, slots⟩ argsL.toArray q B ∧
      Steps p.tables e below (T.setTop g) ((B.U.setTop { g with stack := rest }).pushFrame (.throwing q))) := by
  obtain ⟨mk, hnamed⟩ := Cond.code_named hcode
  obtain ⟨methM, cM, hmethM, -, -, -, -, -, -, hsigM⟩ := Cond.code_spec hnamed hcode
  have hstatic : methM.isStatic = true := Cond.static_spec hnamed hmethM hstat
  obtain ⟨kP, hkP, -⟩ := className_of_methodNamed hnamed
  have hinitP : kP.init = .initialized := Cond.initialized_spec (findClass_of_methodNamed hnamed) hkP hinit
  obtain ⟨vm₁, X₁, hstep₁⟩ := X.invokestaticNest hexec hown hlink hnamed hmethM hstatic hkP hinitP hy (g := g) hg (argsL := argsL) (rest := rest) (hlen _ hsigM) hstack hdg
  rcases hK m meth c ⟨T.setVm vm₁, locs, cells, slots⟩ { g with stack := rest } (.invokestatic index) mk argsL.toArray X₁ hg hsize hdg hW (X₁.named hnamed) (hpre vm₁ X₁.warmed) with ⟨v, B, X', hpost, hsteps⟩ | ⟨q, B, X', hpost, hsteps⟩
  · exact Or.inl ⟨v, vm₁, B, X₁.warmed, X', hpost, fun target h => hstep₁ _ fun acts => by rw [doInvoke_state]; exact hsteps.trans h⟩
  · exact Or.inr ⟨q, vm₁, B, X₁.warmed, X', hpost, hstep₁ _ fun acts => by rw [doInvoke_state]; exact hsteps⟩
theorem vx_runVN {y : MethodName} {bytes cc : ByteArray} {maxL nL mc ms n index : Nat} {ret : Option FieldType} {ws : List Cond} {rm : Room} {Pc : Array Value → State → Prop} {Qc : Array Value → State → Outcome → State → Prop} {XC : String → State → State → Prop} {free : Addr → Prop} {Ts : List Cond} {own C host : String} {b : Addr} {As rest : List Value} {g : JFrame}
    (S : CallFix p m c cc nL s args Ts own) (hM : vx_Met l y ws rm Pc Qc XC mc ms free) (cw : va_CN R s args own index y host bytes maxL ret ws rm mc ms n ∧ (Cond.instanceMethod y).before args s = true ∧ (Cond.selects C y y).before args s = true) (hp : PreV s H C b Pc As)
    (hg : g.method = m) (hn : As.length = n) (hsize : g.locals.size = nL) (hstack : g.stack = As.reverse ++ .ref b :: rest) (hW : 2 * g.monitorRoom + (rest.map fun v => v.category).sum ≤ 8) (hdg : decode cc g.pc = .ok (.invokevirtual index, 3)) (hf : cells + mc ≤ R.cells ∧ slots + ms ≤ R.slots) :
    vx_Run p l e R s m args below meth c H locs cells slots mc ms g rest (Qc (Value.ref b :: As).toArray) XC free := by
  obtain ⟨⟨⟨hrc, hrs, hfr, hlo, hws, hcw⟩, hcode, hini, hy, hlen, hl⟩, hx1, hx2⟩ := cw
  have hK : vx_Back l R p e below s args y 3 8 (PreOf R mc ms Pc) (PostOf Qc mc ms free) (vx_Post XC mc ms free) := vx_back (bytes := bytes) (maxL := maxL) (ret := ret) hM hp.1 hrc hrs hfr hlo hws hcw (fun a' U hW => word_at hW (Or.inl (by first | rfl | simp [Cond.onTables, Cond.keeps, Cond.steady])) hini)
  obtain ⟨hx, hb, hml, ho, -⟩ := S
  obtain ⟨-, ⟨cellB, hcB, hoB, hclB⟩, hPc⟩ := hp
  intro T hT X
  rcases vx_callVN X hx (C := C) (bytes := bytes) (maxL := maxL) (ret := ret) ho hl hx1 hx2 hcode hy hK (by rw [hT]; exact hcB) hoB hclB hg (hsize.trans hml.symm) (argsL := As) (rest := rest) (fun sig h => hn.trans (hlen sig h)) hstack hW (by rw [hb]; exact hdg)
    (fun vm₁ hW₁ => ⟨hf.1, hf.2, hPc (T.setVm vm₁) hT hW₁⟩) with ⟨v, vm₁, ⟨U', l2, c2, s2⟩, hW₁, X', ⟨g', mk, t, L, e1, e2, hq, h1, hL, h2, h3⟩, st⟩ | ⟨q, vm₁, ⟨U', l2, c2, s2⟩, hW₁, X', ⟨g', mk, t, L, E, ce, e1, e2, hq, hce, hcv, hcl, h1, hL, h2, h3⟩, st⟩
  · dsimp only [Pt.U, Pt.locs, Pt.cells, Pt.slots] at X' e1 e2 h1 h2 h3 st
    subst h1; subst h2; subst h3
    exact Or.inl ⟨v, (T.setVm vm₁).calling g' mk (Value.ref b :: As).toArray, t, U', L, hT, X', hL, e1, e2, hq, st⟩
  · dsimp only [Pt.U, Pt.locs, Pt.cells, Pt.slots] at X' e1 e2 h1 h2 h3 st hcl
    subst h1; subst h2; subst h3
    exact Or.inr ⟨q, (T.setVm vm₁).calling g' mk (Value.ref b :: As).toArray, t, U', L, E, ce, hT, X', hL, e1, e2, hq, hce, hcv, vx_cls hW₁ hcl, st⟩
theorem vx_runSN {y : MethodName} {bytes cc : ByteArray} {maxL nL mc ms n index : Nat} {ret : Option FieldType} {ws : List Cond} {rm : Room} {Pc : Array Value → State → Prop} {Qc : Array Value → State → Outcome → State → Prop} {XC : String → State → State → Prop} {free : Addr → Prop} {Ts : List Cond} {own host : String} {As rest : List Value} {g : JFrame}
    (S : CallFix p m c cc nL s args Ts own) (hM : vx_Met l y ws rm Pc Qc XC mc ms free) (cw : va_CN R s args own index y host bytes maxL ret ws rm mc ms n ∧ (Cond.static y).before args s = true ∧ True) (hp : PreS s H Pc As)
    (hg : g.method = m) (hn : As.length = n) (hsize : g.locals.size = nL) (hstack : g.stack = As.reverse ++ rest) (hW : 2 * g.monitorRoom + (rest.map fun v => v.category).sum ≤ 8) (hdg : decode cc g.pc = .ok (.invokestatic index, 3)) (hf : cells + mc ≤ R.cells ∧ slots + ms ≤ R.slots) :
    vx_Run p l e R s m args below meth c H locs cells slots mc ms g rest (Qc As.toArray) XC free := by
  obtain ⟨⟨⟨hrc, hrs, hfr, hlo, hws, hcw⟩, hcode, hini, hy, hlen, hl⟩, hx1, hx2⟩ := cw
  have hK : vx_Back l R p e below s args y 3 8 (PreOf R mc ms Pc) (PostOf Qc mc ms free) (vx_Post XC mc ms free) := vx_back (bytes := bytes) (maxL := maxL) (ret := ret) hM hp.1 hrc hrs hfr hlo hws hcw (fun a' U hW => word_at hW (Or.inl (by first | rfl | simp [Cond.onTables, Cond.keeps, Cond.steady])) hini)
  obtain ⟨hx, hb, hml, ho, -⟩ := S
  have hPc := hp.2
  intro T hT X
  rcases vx_callSN X hx (bytes := bytes) (maxL := maxL) (ret := ret) ho hl hx1 hini hcode hy hK hg (hsize.trans hml.symm) (argsL := As) (rest := rest) (fun sig h => hn.trans (hlen sig h)) hstack hW (by rw [hb]; exact hdg)
    (fun vm₁ hW₁ => ⟨hf.1, hf.2, hPc (T.setVm vm₁) hT hW₁⟩) with ⟨v, vm₁, ⟨U', l2, c2, s2⟩, hW₁, X', ⟨g', mk, t, L, e1, e2, hq, h1, hL, h2, h3⟩, st⟩ | ⟨q, vm₁, ⟨U', l2, c2, s2⟩, hW₁, X', ⟨g', mk, t, L, E, ce, e1, e2, hq, hce, hcv, hcl, h1, hL, h2, h3⟩, st⟩
  · dsimp only [Pt.U, Pt.locs, Pt.cells, Pt.slots] at X' e1 e2 h1 h2 h3 st
    subst h1; subst h2; subst h3
    exact Or.inl ⟨v, (T.setVm vm₁).calling g' mk As.toArray, t, U', L, hT, X', hL, e1, e2, hq, st⟩
  · dsimp only [Pt.U, Pt.locs, Pt.cells, Pt.slots] at X' e1 e2 h1 h2 h3 st hcl
    subst h1; subst h2; subst h3
    exact Or.inr ⟨q, (T.setVm vm₁).calling g' mk As.toArray, t, U', L, E, ce, hT, X', hL, e1, e2, hq, hce, hcv, vx_cls hW₁ hcl, st⟩
end
/-! ===== END ===== -/
end
section
def RX0 : String := "Suffixshelf$Cutter"
def TX0 : u_T := fun k => match k with
  | _ => ("", "", "", false)
def tyX0 : Nat → FieldType := fun k => match k with
  | _ => .int
abbrev wsX00 : List Cond := u_ws RX0 TX0 0
theorem nmX0 : ∀ a, a < 0 → ∀ b, b < 0 → a ≠ b → (TX0 a).2.1 ≠ (TX0 b).2.1 := by decide +kernel
theorem tyX0_ok : ∀ k, k < 0 → parseFieldDescriptor (TX0 k).2.2.1 = some (tyX0 k) := by decide +kernel
abbrev cX0_init : ByteArray := prog_2_method_1_code
def yX0_init : MethodName := ⟨RX0, "<init>", "()V"⟩
abbrev cX0_allCuts : ByteArray := prog_2_method_3_code
def yX0_allCuts : MethodName := ⟨RX0, "allCuts", "(LSuffixshelf$Text;)I"⟩
abbrev cX0_startOf : ByteArray := prog_2_method_4_code
def yX0_startOf : MethodName := ⟨RX0, "startOf", "(LSuffixshelf$Text;I)I"⟩
def RX1 : String := "Suffixshelf$EndSorter"
def TX1 : u_T := fun k => match k with
  | 0 => ("Suffixshelf$EndSorter", "starts", "[I", true)
  | 1 => ("Suffixshelf$EndSorter", "bySecondHalf", "[I", true)
  | _ => ("Suffixshelf$EndSorter", "renumbered", "[I", true)
def tyX1 : Nat → FieldType := fun k => match k with
  | 0 => .array .int
  | 1 => .array .int
  | _ => .array .int
abbrev wsX10 : List Cond := u_ws RX1 TX1 3
theorem nmX1 : ∀ a, a < 3 → ∀ b, b < 3 → a ≠ b → (TX1 a).2.1 ≠ (TX1 b).2.1 := by decide +kernel
theorem tyX1_ok : ∀ k, k < 3 → parseFieldDescriptor (TX1 k).2.2.1 = some (tyX1 k) := by decide +kernel
abbrev cX1_init : ByteArray := prog_3_method_1_code
def yX1_init : MethodName := ⟨RX1, "<init>", "()V"⟩
abbrev cX1_sortEnds : ByteArray := prog_3_method_2_code
def yX1_sortEnds : MethodName := ⟨RX1, "sortEnds", "(LSuffixshelf$Text;)V"⟩
abbrev cX1_listBySecondHalf : ByteArray := prog_3_method_3_code
def yX1_listBySecondHalf : MethodName := ⟨RX1, "listBySecondHalf", "(LSuffixshelf$Text;I)V"⟩
abbrev cX1_orderByClass : ByteArray := prog_3_method_4_code
def yX1_orderByClass : MethodName := ⟨RX1, "orderByClass", "(LSuffixshelf$Text;)V"⟩
abbrev cX1_numberClasses : ByteArray := prog_3_method_5_code
def yX1_numberClasses : MethodName := ⟨RX1, "numberClasses", "(LSuffixshelf$Text;I)I"⟩
abbrev cX1_areAlike : ByteArray := prog_3_method_6_code
def yX1_areAlike : MethodName := ⟨RX1, "areAlike", "(LSuffixshelf$Text;III)Z"⟩
abbrev cX1_classBehind : ByteArray := prog_3_method_7_code
def yX1_classBehind : MethodName := ⟨RX1, "classBehind", "(LSuffixshelf$Text;I)I"⟩
abbrev cX1_tellCommons : ByteArray := prog_3_method_8_code
def yX1_tellCommons : MethodName := ⟨RX1, "tellCommons", "(LSuffixshelf$Text;)V"⟩
def RX2 : String := "Suffixshelf$Packer"
def TX2 : u_T := fun k => match k with
  | _ => ("Suffixshelf$Packer", "fewestFrom", "[I", true)
def tyX2 : Nat → FieldType := fun k => match k with
  | _ => .array .int
abbrev wsX20 : List Cond := u_ws RX2 TX2 1
theorem nmX2 : ∀ a, a < 1 → ∀ b, b < 1 → a ≠ b → (TX2 a).2.1 ≠ (TX2 b).2.1 := by decide +kernel
theorem tyX2_ok : ∀ k, k < 1 → parseFieldDescriptor (TX2 k).2.2.1 = some (tyX2 k) := by decide +kernel
abbrev cX2_init : ByteArray := prog_4_method_1_code
def yX2_init : MethodName := ⟨RX2, "<init>", "()V"⟩
abbrev cX2_sizeFrom : ByteArray := prog_4_method_2_code
def yX2_sizeFrom : MethodName := ⟨RX2, "sizeFrom", "(LSuffixshelf$Text;I)I"⟩
abbrev cX2_commonWithLowerAhead : ByteArray := prog_4_method_3_code
def yX2_commonWithLowerAhead : MethodName := ⟨RX2, "commonWithLowerAhead", "(LSuffixshelf$Text;I)I"⟩
abbrev cX2_commonWithUpperAhead : ByteArray := prog_4_method_4_code
def yX2_commonWithUpperAhead : MethodName := ⟨RX2, "commonWithUpperAhead", "(LSuffixshelf$Text;I)I"⟩
abbrev cX2_fewestWords : ByteArray := prog_4_method_5_code
def yX2_fewestWords : MethodName := ⟨RX2, "fewestWords", "(LSuffixshelf$Text;)I"⟩
def RX3 : String := "Suffixshelf$PartCutter"
def TX3 : u_T := fun k => match k with
  | _ => ("", "", "", false)
def tyX3 : Nat → FieldType := fun k => match k with
  | _ => .int
abbrev wsX30 : List Cond := u_ws RX3 TX3 0
theorem nmX3 : ∀ a, a < 0 → ∀ b, b < 0 → a ≠ b → (TX3 a).2.1 ≠ (TX3 b).2.1 := by decide +kernel
theorem tyX3_ok : ∀ k, k < 0 → parseFieldDescriptor (TX3 k).2.2.1 = some (tyX3 k) := by decide +kernel
abbrev cX3_init : ByteArray := prog_5_method_1_code
def yX3_init : MethodName := ⟨RX3, "<init>", "()V"⟩
abbrev cX3_sizeFrom : ByteArray := prog_5_method_2_code
def yX3_sizeFrom : MethodName := ⟨RX3, "sizeFrom", "(LSuffixshelf$Text;I)I"⟩
abbrev cX3_agreesWith : ByteArray := prog_5_method_3_code
def yX3_agreesWith : MethodName := ⟨RX3, "agreesWith", "(LSuffixshelf$Text;)Z"⟩
def RX4 : String := "Suffixshelf$Shapes"
def TX4 : u_T := fun k => match k with
  | _ => ("", "", "", false)
def tyX4 : Nat → FieldType := fun k => match k with
  | _ => .int
abbrev wsX40 : List Cond := u_ws RX4 TX4 0
theorem nmX4 : ∀ a, a < 0 → ∀ b, b < 0 → a ≠ b → (TX4 a).2.1 ≠ (TX4 b).2.1 := by decide +kernel
theorem tyX4_ok : ∀ k, k < 0 → parseFieldDescriptor (TX4 k).2.2.1 = some (tyX4 k) := by decide +kernel
abbrev cX4_allSquares : ByteArray := prog_6_method_2_code
def yX4_allSquares : MethodName := ⟨RX4, "allSquares", "(LSuffixshelf$Text;)I"⟩
abbrev cX4_leastPeriod : ByteArray := prog_6_method_4_code
def yX4_leastPeriod : MethodName := ⟨RX4, "leastPeriod", "(LSuffixshelf$Text;)I"⟩
def RX5 : String := "Suffixshelf$SharedWord"
def TX5 : u_T := fun k => match k with
  | 0 => ("Suffixshelf$SharedWord", "reach", "[[I", true)
  | 1 => ("Suffixshelf$SharedWord", "bestPlace", "I", false)
  | _ => ("Suffixshelf$SharedWord", "bestLength", "I", false)
def tyX5 : Nat → FieldType := fun k => match k with
  | 0 => .array (.array .int)
  | 1 => .int
  | _ => .int
abbrev wsX50 : List Cond := u_ws RX5 TX5 3
theorem nmX5 : ∀ a, a < 3 → ∀ b, b < 3 → a ≠ b → (TX5 a).2.1 ≠ (TX5 b).2.1 := by decide +kernel
theorem tyX5_ok : ∀ k, k < 3 → parseFieldDescriptor (TX5 k).2.2.1 = some (tyX5 k) := by decide +kernel
abbrev cX5_init : ByteArray := prog_7_method_1_code
def yX5_init : MethodName := ⟨RX5, "<init>", "()V"⟩
def RX6 : String := "Suffixshelf$Text"
def TX6 : u_T := fun k => match k with
  | 0 => ("Suffixshelf$Text", "signs", "[C", true)
  | 1 => ("Suffixshelf$Text", "places", "[I", true)
  | 2 => ("Suffixshelf$Text", "ranks", "[I", true)
  | 3 => ("Suffixshelf$Text", "commons", "[I", true)
  | _ => ("Suffixshelf$Text", "size", "I", false)
def tyX6 : Nat → FieldType := fun k => match k with
  | 0 => .array .char
  | 1 => .array .int
  | 2 => .array .int
  | 3 => .array .int
  | _ => .int
abbrev wsX60 : List Cond := u_ws RX6 TX6 5
theorem nmX6 : ∀ a, a < 5 → ∀ b, b < 5 → a ≠ b → (TX6 a).2.1 ≠ (TX6 b).2.1 := by decide +kernel
theorem tyX6_ok : ∀ k, k < 5 → parseFieldDescriptor (TX6 k).2.2.1 = some (tyX6 k) := by decide +kernel
abbrev cX6_init : ByteArray := prog_8_method_1_code
def yX6_init : MethodName := ⟨RX6, "<init>", "()V"⟩
abbrev cX6_add : ByteArray := prog_8_method_2_code
def yX6_add : MethodName := ⟨RX6, "add", "([CI)V"⟩
abbrev cX6_addTurnedRound : ByteArray := prog_8_method_3_code
def yX6_addTurnedRound : MethodName := ⟨RX6, "addTurnedRound", "(LSuffixshelf$Text;)V"⟩
abbrev cX6_putAhead : ByteArray := prog_8_method_4_code
def yX6_putAhead : MethodName := ⟨RX6, "putAhead", "(C)V"⟩
abbrev cX6_dropFirst : ByteArray := prog_8_method_5_code
def yX6_dropFirst : MethodName := ⟨RX6, "dropFirst", "()V"⟩
abbrev cX6_endsAboveWhole : ByteArray := prog_8_method_6_code
def yX6_endsAboveWhole : MethodName := ⟨RX6, "endsAboveWhole", "()I"⟩
abbrev cX6_likeSigns : ByteArray := prog_8_method_7_code
def yX6_likeSigns : MethodName := ⟨RX6, "likeSigns", "(ILSuffixshelf$Text;I)I"⟩
abbrev cX6_unlikeBeginnings : ByteArray := prog_8_method_9_code
def yX6_unlikeBeginnings : MethodName := ⟨RX6, "unlikeBeginnings", "(II)I"⟩
abbrev cX6_greatestCommon : ByteArray := prog_8_method_10_code
def yX6_greatestCommon : MethodName := ⟨RX6, "greatestCommon", "()I"⟩
abbrev cX6_againstWord : ByteArray := prog_8_method_11_code
def yX6_againstWord : MethodName := ⟨RX6, "againstWord", "(ILSuffixshelf$TypedRow;I)I"⟩
abbrev cX6_endsBelow : ByteArray := prog_8_method_12_code
def yX6_endsBelow : MethodName := ⟨RX6, "endsBelow", "(LSuffixshelf$TypedRow;I)I"⟩
abbrev cX6_endsUpTo : ByteArray := prog_8_method_13_code
def yX6_endsUpTo : MethodName := ⟨RX6, "endsUpTo", "(LSuffixshelf$TypedRow;I)I"⟩
abbrev cX6_endsUnder : ByteArray := prog_8_method_14_code
def yX6_endsUnder : MethodName := ⟨RX6, "endsUnder", "(LSuffixshelf$TypedRow;II)I"⟩
abbrev cX6_risingPlace : ByteArray := prog_8_method_15_code
def yX6_risingPlace : MethodName := ⟨RX6, "risingPlace", "(III)I"⟩
abbrev cX6_newWordsBelow : ByteArray := prog_8_method_16_code
def yX6_newWordsBelow : MethodName := ⟨RX6, "newWordsBelow", "(I)I"⟩
abbrev cX6_rankBringing : ByteArray := prog_8_method_17_code
def yX6_rankBringing : MethodName := ⟨RX6, "rankBringing", "(I)I"⟩
abbrev cX6_firstPlaceOfLongestTwice : ByteArray := prog_8_method_18_code
def yX6_firstPlaceOfLongestTwice : MethodName := ⟨RX6, "firstPlaceOfLongestTwice", "()I"⟩
abbrev cX6_placeOfRow : ByteArray := prog_8_method_22_code
def yX6_placeOfRow : MethodName := ⟨RX6, "placeOfRow", "(I)I"⟩
abbrev cX6_firstSign : ByteArray := prog_8_method_23_code
def yX6_firstSign : MethodName := ⟨RX6, "firstSign", "(I)C"⟩
abbrev cX6_lastSign : ByteArray := prog_8_method_24_code
def yX6_lastSign : MethodName := ⟨RX6, "lastSign", "(I)C"⟩
abbrev cX6_rowAhead : ByteArray := prog_8_method_25_code
def yX6_rowAhead : MethodName := ⟨RX6, "rowAhead", "(I)I"⟩
def RX7 : String := "Suffixshelf$Turner"
def TX7 : u_T := fun k => match k with
  | 0 => ("Suffixshelf$Turner", "found", "[C", true)
  | 1 => ("Suffixshelf$Turner", "column", "[C", true)
  | 2 => ("Suffixshelf$Turner", "rowsAhead", "[I", true)
  | 3 => ("Suffixshelf$Turner", "starts", "[I", true)
  | _ => ("Suffixshelf$Turner", "row", "[C", true)
def tyX7 : Nat → FieldType := fun k => match k with
  | 0 => .array .char
  | 1 => .array .char
  | 2 => .array .int
  | 3 => .array .int
  | _ => .array .char
abbrev wsX70 : List Cond := u_ws RX7 TX7 5
theorem nmX7 : ∀ a, a < 5 → ∀ b, b < 5 → a ≠ b → (TX7 a).2.1 ≠ (TX7 b).2.1 := by decide +kernel
theorem tyX7_ok : ∀ k, k < 5 → parseFieldDescriptor (TX7 k).2.2.1 = some (tyX7 k) := by decide +kernel
abbrev cX7_init : ByteArray := prog_9_method_1_code
def yX7_init : MethodName := ⟨RX7, "<init>", "()V"⟩
abbrev cX7_indexOfSign : ByteArray := prog_9_method_2_code
def yX7_indexOfSign : MethodName := ⟨RX7, "indexOfSign", "(C)I"⟩
abbrev cX7_turnBack : ByteArray := prog_9_method_5_code
def yX7_turnBack : MethodName := ⟨RX7, "turnBack", "([CI)Z"⟩
abbrev cX7_endSigns : ByteArray := prog_9_method_6_code
def yX7_endSigns : MethodName := ⟨RX7, "endSigns", "([CI)I"⟩
abbrev cX7_tellRowsAhead : ByteArray := prog_9_method_7_code
def yX7_tellRowsAhead : MethodName := ⟨RX7, "tellRowsAhead", "([CI)V"⟩
abbrev cX7_comesBack : ByteArray := prog_9_method_8_code
def yX7_comesBack : MethodName := ⟨RX7, "comesBack", "(LSuffixshelf$Text;)Z"⟩
def RX8 : String := "Suffixshelf$TypedRow"
def TX8 : u_T := fun k => match k with
  | 0 => ("Suffixshelf$TypedRow", "signs", "[C", true)
  | _ => ("Suffixshelf$TypedRow", "size", "I", false)
def tyX8 : Nat → FieldType := fun k => match k with
  | 0 => .array .char
  | _ => .int
abbrev wsX80 : List Cond := u_ws RX8 TX8 2
theorem nmX8 : ∀ a, a < 2 → ∀ b, b < 2 → a ≠ b → (TX8 a).2.1 ≠ (TX8 b).2.1 := by decide +kernel
theorem tyX8_ok : ∀ k, k < 2 → parseFieldDescriptor (TX8 k).2.2.1 = some (tyX8 k) := by decide +kernel
abbrev cX8_init : ByteArray := prog_10_method_1_code
def yX8_init : MethodName := ⟨RX8, "<init>", "()V"⟩
abbrev cX8_put : ByteArray := prog_10_method_2_code
def yX8_put : MethodName := ⟨RX8, "put", "(C)V"⟩
abbrev cX8_hold : ByteArray := prog_10_method_3_code
def yX8_hold : MethodName := ⟨RX8, "hold", "([CII)V"⟩
abbrev cX8_hasEndSign : ByteArray := prog_10_method_4_code
def yX8_hasEndSign : MethodName := ⟨RX8, "hasEndSign", "()Z"⟩
def RX9 : String := "Suffixshelf$WordTree"
def TX9 : u_T := fun k => match k with
  | 0 => ("Suffixshelf$WordTree", "signs", "[C", true)
  | 1 => ("Suffixshelf$WordTree", "below", "[I", true)
  | 2 => ("Suffixshelf$WordTree", "beside", "[I", true)
  | 3 => ("Suffixshelf$WordTree", "size", "I", false)
  | _ => ("Suffixshelf$WordTree", "longestAgain", "I", false)
def tyX9 : Nat → FieldType := fun k => match k with
  | 0 => .array .char
  | 1 => .array .int
  | 2 => .array .int
  | 3 => .int
  | _ => .int
abbrev wsX90 : List Cond := u_ws RX9 TX9 5
theorem nmX9 : ∀ a, a < 5 → ∀ b, b < 5 → a ≠ b → (TX9 a).2.1 ≠ (TX9 b).2.1 := by decide +kernel
theorem tyX9_ok : ∀ k, k < 5 → parseFieldDescriptor (TX9 k).2.2.1 = some (tyX9 k) := by decide +kernel
abbrev cX9_init : ByteArray := prog_11_method_1_code
def yX9_init : MethodName := ⟨RX9, "<init>", "()V"⟩
abbrev cX9_agreesWith : ByteArray := prog_11_method_2_code
def yX9_agreesWith : MethodName := ⟨RX9, "agreesWith", "(LSuffixshelf$Text;)Z"⟩
abbrev cX9_listWords : ByteArray := prog_11_method_3_code
def yX9_listWords : MethodName := ⟨RX9, "listWords", "(LSuffixshelf$Text;)V"⟩
abbrev cX9_nodeBelow : ByteArray := prog_11_method_4_code
def yX9_nodeBelow : MethodName := ⟨RX9, "nodeBelow", "(IC)I"⟩
abbrev cX9_addBelow : ByteArray := prog_11_method_5_code
def yX9_addBelow : MethodName := ⟨RX9, "addBelow", "(IC)I"⟩
def RX10 : String := "Suffixshelf"
def TX10 : u_T := fun k => match k with
  | 0 => ("Suffixshelf", "shelf", "[LSuffixshelf$Text;", true)
  | 1 => ("Suffixshelf", "entry", "LSuffixshelf$TypedRow;", true)
  | 2 => ("Suffixshelf", "offered", "[C", true)
  | 3 => ("Suffixshelf", "sorter", "LSuffixshelf$EndSorter;", true)
  | 4 => ("Suffixshelf", "turner", "LSuffixshelf$Turner;", true)
  | 5 => ("Suffixshelf", "sharedWord", "LSuffixshelf$SharedWord;", true)
  | 6 => ("Suffixshelf", "tree", "LSuffixshelf$WordTree;", true)
  | 7 => ("Suffixshelf", "partCutter", "LSuffixshelf$PartCutter;", true)
  | 8 => ("Suffixshelf", "packer", "LSuffixshelf$Packer;", true)
  | _ => ("Suffixshelf", "made", "I", false)
def tyX10 : Nat → FieldType := fun k => match k with
  | 0 => .array (.object "Suffixshelf$Text")
  | 1 => .object "Suffixshelf$TypedRow"
  | 2 => .array .char
  | 3 => .object "Suffixshelf$EndSorter"
  | 4 => .object "Suffixshelf$Turner"
  | 5 => .object "Suffixshelf$SharedWord"
  | 6 => .object "Suffixshelf$WordTree"
  | 7 => .object "Suffixshelf$PartCutter"
  | 8 => .object "Suffixshelf$Packer"
  | _ => .int
abbrev wsX100 : List Cond := u_ws RX10 TX10 10
theorem nmX10 : ∀ a, a < 10 → ∀ b, b < 10 → a ≠ b → (TX10 a).2.1 ≠ (TX10 b).2.1 := by decide +kernel
theorem tyX10_ok : ∀ k, k < 10 → parseFieldDescriptor (TX10 k).2.2.1 = some (tyX10 k) := by decide +kernel
abbrev cX10_init : ByteArray := prog_1_method_1_code
def yX10_init : MethodName := ⟨RX10, "<init>", "()V"⟩
abbrev cX10_type : ByteArray := prog_1_method_2_code
def yX10_type : MethodName := ⟨RX10, "type", "(C)I"⟩
abbrev cX10_wipe : ByteArray := prog_1_method_4_code
def yX10_wipe : MethodName := ⟨RX10, "wipe", "()I"⟩
abbrev cX10_typed : ByteArray := prog_1_method_5_code
def yX10_typed : MethodName := ⟨RX10, "typed", "(I)C"⟩
abbrev cX10_text : ByteArray := prog_1_method_6_code
def yX10_text : MethodName := ⟨RX10, "text", "()I"⟩
abbrev cX10_length : ByteArray := prog_1_method_8_code
def yX10_length : MethodName := ⟨RX10, "length", "(I)I"⟩
abbrev cX10_signAt : ByteArray := prog_1_method_9_code
def yX10_signAt : MethodName := ⟨RX10, "signAt", "(II)C"⟩
abbrev cX10_mirror : ByteArray := prog_1_method_11_code
def yX10_mirror : MethodName := ⟨RX10, "mirror", "(I)I"⟩
abbrev cX10_ahead : ByteArray := prog_1_method_13_code
def yX10_ahead : MethodName := ⟨RX10, "ahead", "(IC)I"⟩
abbrev cX10_chop : ByteArray := prog_1_method_14_code
def yX10_chop : MethodName := ⟨RX10, "chop", "(I)I"⟩
abbrev cX10_endAt : ByteArray := prog_1_method_15_code
def yX10_endAt : MethodName := ⟨RX10, "endAt", "(II)I"⟩
abbrev cX10_rankOf : ByteArray := prog_1_method_16_code
def yX10_rankOf : MethodName := ⟨RX10, "rankOf", "(II)I"⟩
abbrev cX10_classes : ByteArray := prog_1_method_18_code
def yX10_classes : MethodName := ⟨RX10, "classes", "(II)I"⟩
abbrev cX10_rounds : ByteArray := prog_1_method_19_code
def yX10_rounds : MethodName := ⟨RX10, "rounds", "(I)I"⟩
abbrev cX10_common : ByteArray := prog_1_method_20_code
def yX10_common : MethodName := ⟨RX10, "common", "(II)I"⟩
abbrev cX10_shared : ByteArray := prog_1_method_21_code
def yX10_shared : MethodName := ⟨RX10, "shared", "(IIII)I"⟩
abbrev cX10_count : ByteArray := prog_1_method_22_code
def yX10_count : MethodName := ⟨RX10, "count", "(I)I"⟩
abbrev cX10_runFrom : ByteArray := prog_1_method_23_code
def yX10_runFrom : MethodName := ⟨RX10, "runFrom", "(I)I"⟩
abbrev cX10_standsAt : ByteArray := prog_1_method_24_code
def yX10_standsAt : MethodName := ⟨RX10, "standsAt", "(II)I"⟩
abbrev cX10_tail : ByteArray := prog_1_method_25_code
def yX10_tail : MethodName := ⟨RX10, "tail", "(II)I"⟩
abbrev cX10_words : ByteArray := prog_1_method_26_code
def yX10_words : MethodName := ⟨RX10, "words", "(I)J"⟩
abbrev cX10_word : ByteArray := prog_1_method_27_code
def yX10_word : MethodName := ⟨RX10, "word", "(II)I"⟩
abbrev cX10_numberOf : ByteArray := prog_1_method_28_code
def yX10_numberOf : MethodName := ⟨RX10, "numberOf", "(I)I"⟩
abbrev cX10_twice : ByteArray := prog_1_method_29_code
def yX10_twice : MethodName := ⟨RX10, "twice", "(I)I"⟩
abbrev cX10_twiceAt : ByteArray := prog_1_method_30_code
def yX10_twiceAt : MethodName := ⟨RX10, "twiceAt", "(I)I"⟩
abbrev cX10_first : ByteArray := prog_1_method_34_code
def yX10_first : MethodName := ⟨RX10, "first", "(II)C"⟩
abbrev cX10_last : ByteArray := prog_1_method_35_code
def yX10_last : MethodName := ⟨RX10, "last", "(II)C"⟩
abbrev cX10_back : ByteArray := prog_1_method_36_code
def yX10_back : MethodName := ⟨RX10, "back", "(II)I"⟩
abbrev cX10_column : ByteArray := prog_1_method_39_code
def yX10_column : MethodName := ⟨RX10, "column", "(I)I"⟩
abbrev cX10_undo : ByteArray := prog_1_method_40_code
def yX10_undo : MethodName := ⟨RX10, "undo", "()I"⟩
abbrev cX10_squares : ByteArray := prog_1_method_41_code
def yX10_squares : MethodName := ⟨RX10, "squares", "(I)I"⟩
abbrev cX10_period : ByteArray := prog_1_method_43_code
def yX10_period : MethodName := ⟨RX10, "period", "(I)I"⟩
abbrev cX10_parts : ByteArray := prog_1_method_45_code
def yX10_parts : MethodName := ⟨RX10, "parts", "(I)I"⟩
abbrev cX10_partAt : ByteArray := prog_1_method_46_code
def yX10_partAt : MethodName := ⟨RX10, "partAt", "(II)I"⟩
abbrev cX10_pieces : ByteArray := prog_1_method_47_code
def yX10_pieces : MethodName := ⟨RX10, "pieces", "(I)I"⟩
abbrev cX10_fewest : ByteArray := prog_1_method_50_code
def yX10_fewest : MethodName := ⟨RX10, "fewest", "(I)I"⟩
abbrev cX10_checksum : ByteArray := prog_1_method_53_code
def yX10_checksum : MethodName := ⟨RX10, "checksum", "()J"⟩
abbrev cX10_isSound : ByteArray := prog_1_method_54_code
def yX10_isSound : MethodName := ⟨RX10, "isSound", "()Z"⟩
abbrev cX10_isLetter : ByteArray := prog_1_method_55_code
def yX10_isLetter : MethodName := ⟨RX10, "isLetter", "(C)Z"⟩
abbrev cX10_isTypable : ByteArray := prog_1_method_56_code
def yX10_isTypable : MethodName := ⟨RX10, "isTypable", "(C)Z"⟩
abbrev cX10_known : ByteArray := prog_1_method_57_code
def yX10_known : MethodName := ⟨RX10, "known", "(I)LSuffixshelf$Text;"⟩
abbrev cX10_knownWith : ByteArray := prog_1_method_58_code
def yX10_knownWith : MethodName := ⟨RX10, "knownWith", "(II)LSuffixshelf$Text;"⟩
abbrev cX10_knownWithRow : ByteArray := prog_1_method_59_code
def yX10_knownWithRow : MethodName := ⟨RX10, "knownWithRow", "(II)LSuffixshelf$Text;"⟩
abbrev cX10_knownNotEmpty : ByteArray := prog_1_method_61_code
def yX10_knownNotEmpty : MethodName := ⟨RX10, "knownNotEmpty", "(I)LSuffixshelf$Text;"⟩
abbrev cX10_refuseClassSize : ByteArray := prog_1_method_62_code
def yX10_refuseClassSize : MethodName := ⟨RX10, "refuseClassSize", "(I)V"⟩
abbrev cX10_refuseNoWord : ByteArray := prog_1_method_63_code
def yX10_refuseNoWord : MethodName := ⟨RX10, "refuseNoWord", "()V"⟩
abbrev cX10_leastRank : ByteArray := prog_1_method_64_code
def yX10_leastRank : MethodName := ⟨RX10, "leastRank", "(LSuffixshelf$Text;)I"⟩
abbrev cX10_freshText : ByteArray := prog_1_method_65_code
def yX10_freshText : MethodName := ⟨RX10, "freshText", "()LSuffixshelf$Text;"⟩
abbrev cX10_keep : ByteArray := prog_1_method_66_code
def yX10_keep : MethodName := ⟨RX10, "keep", "(LSuffixshelf$Text;)I"⟩
def RX11 : String := "SuffixshelfModel"
def TX11 : u_T := fun k => match k with
  | _ => ("", "", "", false)
def tyX11 : Nat → FieldType := fun k => match k with
  | _ => .int
abbrev wsX110 : List Cond := u_ws RX11 TX11 0
theorem nmX11 : ∀ a, a < 0 → ∀ b, b < 0 → a ≠ b → (TX11 a).2.1 ≠ (TX11 b).2.1 := by decide +kernel
theorem tyX11_ok : ∀ k, k < 0 → parseFieldDescriptor (TX11 k).2.2.1 = some (tyX11 k) := by decide +kernel
def RJx145de : String := "java/io/Serializable"
def TJx145de : u_T := fun k => match k with
  | _ => ("", "", "", false)
def tyJx145de : Nat → FieldType := fun k => match k with
  | _ => .int
abbrev wsJx145de0 : List Cond := u_ws RJx145de TJx145de 0
theorem nmJx145de : ∀ a, a < 0 → ∀ b, b < 0 → a ≠ b → (TJx145de a).2.1 ≠ (TJx145de b).2.1 := by decide +kernel
theorem tyJx145de_ok : ∀ k, k < 0 → parseFieldDescriptor (TJx145de k).2.2.1 = some (tyJx145de k) := by decide +kernel
def RJx00060 : String := "java/lang/ArrayIndexOutOfBoundsException"
def TJx00060 : u_T := fun k => match k with
  | 0 => ("java/lang/Throwable", "backtrace", "Ljava/lang/Object;", false)
  | 1 => ("java/lang/Throwable", "detailMessage", "Ljava/lang/String;", false)
  | 2 => ("java/lang/Throwable", "cause", "Ljava/lang/Throwable;", false)
  | 3 => ("java/lang/Throwable", "stackTrace", "[Ljava/lang/StackTraceElement;", false)
  | 4 => ("java/lang/Throwable", "depth", "I", false)
  | _ => ("java/lang/Throwable", "suppressedExceptions", "Ljava/util/List;", false)
def tyJx00060 : Nat → FieldType := fun k => match k with
  | 0 => .object "java/lang/Object"
  | 1 => .object "java/lang/String"
  | 2 => .object "java/lang/Throwable"
  | 3 => .array (.object "java/lang/StackTraceElement")
  | 4 => .int
  | _ => .object "java/util/List"
abbrev wsJx000600 : List Cond := u_ws RJx00060 TJx00060 6
theorem nmJx00060 : ∀ a, a < 6 → ∀ b, b < 6 → a ≠ b → (TJx00060 a).2.1 ≠ (TJx00060 b).2.1 := by decide +kernel
theorem tyJx00060_ok : ∀ k, k < 6 → parseFieldDescriptor (TJx00060 k).2.2.1 = some (tyJx00060 k) := by decide +kernel
abbrev cJx00060_init_a7421 : ByteArray := prog_15_method_2_code
def yJx00060_init_a7421 : MethodName := ⟨RJx00060, "<init>", "(Ljava/lang/String;)V"⟩
def RJ9 : String := "java/lang/Math"
def TJ9 : u_T := fun k => match k with
  | _ => ("", "", "", false)
def tyJ9 : Nat → FieldType := fun k => match k with
  | _ => .int
abbrev wsJ90 : List Cond := u_ws RJ9 TJ9 0
theorem nmJ9 : ∀ a, a < 0 → ∀ b, b < 0 → a ≠ b → (TJ9 a).2.1 ≠ (TJ9 b).2.1 := by decide +kernel
theorem tyJ9_ok : ∀ k, k < 0 → parseFieldDescriptor (TJ9 k).2.2.1 = some (tyJ9 k) := by decide +kernel
abbrev cJ9_max_7cf53 : ByteArray := prog_20_method_65_code
def yJ9_max_7cf53 : MethodName := ⟨RJ9, "max", "(II)I"⟩
abbrev cJ9_max_f86c9 : ByteArray := prog_20_method_66_code
def yJ9_max_f86c9 : MethodName := ⟨RJ9, "max", "(JJ)J"⟩
abbrev cJ9_min_7cf53 : ByteArray := prog_20_method_69_code
def yJ9_min_7cf53 : MethodName := ⟨RJ9, "min", "(II)I"⟩
def RJ0 : String := "java/lang/String"
def TJ0 : u_T := fun k => match k with
  | 0 => ("java/lang/String", "value", "[B", true)
  | _ => ("java/lang/String", "coder", "B", true)
def tyJ0 : Nat → FieldType := fun k => match k with
  | 0 => .array .byte
  | _ => .byte
abbrev wsJ00 : List Cond := u_ws RJ0 TJ0 2
theorem nmJ0 : ∀ a, a < 2 → ∀ b, b < 2 → a ≠ b → (TJ0 a).2.1 ≠ (TJ0 b).2.1 := by decide +kernel
theorem tyJ0_ok : ∀ k, k < 2 → parseFieldDescriptor (TJ0 k).2.2.1 = some (tyJ0 k) := by decide +kernel
def RL : String := "SuffixshelfLaw"
abbrev cL_cell : ByteArray := method_2_code
def yL_cell : MethodName := ⟨RL, "cell", "([II)I"⟩
abbrev cL_chosen : ByteArray := method_3_code
def yL_chosen : MethodName := ⟨RL, "chosen", "(II)I"⟩
abbrev cL_type : ByteArray := method_4_code
def yL_type : MethodName := ⟨RL, "type", "(LSuffixshelf;C)J"⟩
abbrev cL_wipe : ByteArray := method_5_code
def yL_wipe : MethodName := ⟨RL, "wipe", "(LSuffixshelf;)J"⟩
abbrev cL_typed : ByteArray := method_6_code
def yL_typed : MethodName := ⟨RL, "typed", "(LSuffixshelf;I)J"⟩
abbrev cL_text : ByteArray := method_7_code
def yL_text : MethodName := ⟨RL, "text", "(LSuffixshelf;)J"⟩
abbrev cL_length : ByteArray := method_8_code
def yL_length : MethodName := ⟨RL, "length", "(LSuffixshelf;I)J"⟩
abbrev cL_signAt : ByteArray := method_9_code
def yL_signAt : MethodName := ⟨RL, "signAt", "(LSuffixshelf;II)J"⟩
abbrev cL_mirror : ByteArray := method_10_code
def yL_mirror : MethodName := ⟨RL, "mirror", "(LSuffixshelf;I)J"⟩
abbrev cL_ahead : ByteArray := method_11_code
def yL_ahead : MethodName := ⟨RL, "ahead", "(LSuffixshelf;IC)J"⟩
abbrev cL_chop : ByteArray := method_12_code
def yL_chop : MethodName := ⟨RL, "chop", "(LSuffixshelf;I)J"⟩
abbrev cL_endAt : ByteArray := method_13_code
def yL_endAt : MethodName := ⟨RL, "endAt", "(LSuffixshelf;II)J"⟩
abbrev cL_rankOf : ByteArray := method_14_code
def yL_rankOf : MethodName := ⟨RL, "rankOf", "(LSuffixshelf;II)J"⟩
abbrev cL_classes : ByteArray := method_15_code
def yL_classes : MethodName := ⟨RL, "classes", "(LSuffixshelf;II)J"⟩
abbrev cL_rounds : ByteArray := method_16_code
def yL_rounds : MethodName := ⟨RL, "rounds", "(LSuffixshelf;I)J"⟩
abbrev cL_common : ByteArray := method_17_code
def yL_common : MethodName := ⟨RL, "common", "(LSuffixshelf;II)J"⟩
abbrev cL_shared : ByteArray := method_18_code
def yL_shared : MethodName := ⟨RL, "shared", "(LSuffixshelf;IIII)J"⟩
abbrev cL_count : ByteArray := method_19_code
def yL_count : MethodName := ⟨RL, "count", "(LSuffixshelf;I)J"⟩
abbrev cL_runFrom : ByteArray := method_20_code
def yL_runFrom : MethodName := ⟨RL, "runFrom", "(LSuffixshelf;I)J"⟩
abbrev cL_standsAt : ByteArray := method_21_code
def yL_standsAt : MethodName := ⟨RL, "standsAt", "(LSuffixshelf;II)J"⟩
abbrev cL_tail : ByteArray := method_22_code
def yL_tail : MethodName := ⟨RL, "tail", "(LSuffixshelf;II)J"⟩
abbrev cL_words : ByteArray := method_23_code
def yL_words : MethodName := ⟨RL, "words", "(LSuffixshelf;I)J"⟩
abbrev cL_word : ByteArray := method_24_code
def yL_word : MethodName := ⟨RL, "word", "(LSuffixshelf;II)J"⟩
abbrev cL_numberOf : ByteArray := method_25_code
def yL_numberOf : MethodName := ⟨RL, "numberOf", "(LSuffixshelf;I)J"⟩
abbrev cL_twice : ByteArray := method_26_code
def yL_twice : MethodName := ⟨RL, "twice", "(LSuffixshelf;I)J"⟩
abbrev cL_twiceAt : ByteArray := method_27_code
def yL_twiceAt : MethodName := ⟨RL, "twiceAt", "(LSuffixshelf;I)J"⟩
abbrev cL_first : ByteArray := method_28_code
def yL_first : MethodName := ⟨RL, "first", "(LSuffixshelf;II)J"⟩
abbrev cL_last : ByteArray := method_29_code
def yL_last : MethodName := ⟨RL, "last", "(LSuffixshelf;II)J"⟩
abbrev cL_back : ByteArray := method_30_code
def yL_back : MethodName := ⟨RL, "back", "(LSuffixshelf;II)J"⟩
abbrev cL_column : ByteArray := method_31_code
def yL_column : MethodName := ⟨RL, "column", "(LSuffixshelf;I)J"⟩
abbrev cL_undo : ByteArray := method_32_code
def yL_undo : MethodName := ⟨RL, "undo", "(LSuffixshelf;)J"⟩
abbrev cL_squares : ByteArray := method_33_code
def yL_squares : MethodName := ⟨RL, "squares", "(LSuffixshelf;I)J"⟩
abbrev cL_period : ByteArray := method_34_code
def yL_period : MethodName := ⟨RL, "period", "(LSuffixshelf;I)J"⟩
abbrev cL_parts : ByteArray := method_35_code
def yL_parts : MethodName := ⟨RL, "parts", "(LSuffixshelf;I)J"⟩
abbrev cL_partAt : ByteArray := method_36_code
def yL_partAt : MethodName := ⟨RL, "partAt", "(LSuffixshelf;II)J"⟩
abbrev cL_pieces : ByteArray := method_37_code
def yL_pieces : MethodName := ⟨RL, "pieces", "(LSuffixshelf;I)J"⟩
abbrev cL_fewest : ByteArray := method_38_code
def yL_fewest : MethodName := ⟨RL, "fewest", "(LSuffixshelf;I)J"⟩
abbrev cL_checksum : ByteArray := method_39_code
def yL_checksum : MethodName := ⟨RL, "checksum", "(LSuffixshelf;)J"⟩
abbrev cL_isSound : ByteArray := method_40_code
def yL_isSound : MethodName := ⟨RL, "isSound", "(LSuffixshelf;)J"⟩
abbrev cL_size : ByteArray := method_41_code
def yL_size : MethodName := ⟨RL, "size", "([I)I"⟩
abbrev cL_signs : ByteArray := method_42_code
def yL_signs : MethodName := ⟨RL, "signs", "([I)[C"⟩
abbrev cL_tells : ByteArray := method_43_code
def yL_tells : MethodName := ⟨RL, "tells", "(LSuffixshelf;[C)I"⟩
abbrev cL_comesBack : ByteArray := method_44_code
def yL_comesBack : MethodName := ⟨RL, "comesBack", "(LSuffixshelf;I[C)Z"⟩
abbrev cL_isRun : ByteArray := method_45_code
def yL_isRun : MethodName := ⟨RL, "isRun", "(LSuffixshelf;I[CII)Z"⟩
abbrev cL_law : ByteArray := code
def yL_law : MethodName := ⟨RL, "law", "([I)Z"⟩
end
section
theorem dX0_init_0 : decode cX0_init 0 = .ok (.aload_n 0, 1) := by decide +kernel
theorem dX0_init_1 : decode cX0_init 1 = .ok (.invokespecial 1, 3) := by decide +kernel
theorem dX0_init_4 : decode cX0_init 4 = .ok (.return_, 1) := by decide +kernel
theorem dX0_allCuts_0 : decode cX0_allCuts 0 = .ok (.iconst 0, 1) := by decide +kernel
theorem dX0_allCuts_1 : decode cX0_allCuts 1 = .ok (.istore_n 2, 1) := by decide +kernel
theorem dX0_allCuts_2 : decode cX0_allCuts 2 = .ok (.iconst 0, 1) := by decide +kernel
theorem dX0_allCuts_3 : decode cX0_allCuts 3 = .ok (.istore_n 3, 1) := by decide +kernel
theorem dX0_allCuts_4 : decode cX0_allCuts 4 = .ok (.iconst 0, 1) := by decide +kernel
theorem dX0_allCuts_5 : decode cX0_allCuts 5 = .ok (.istore 4, 2) := by decide +kernel
theorem dX0_allCuts_7 : decode cX0_allCuts 7 = .ok (.iload 4, 2) := by decide +kernel
theorem dX0_allCuts_9 : decode cX0_allCuts 9 = .ok (.aload_n 1, 1) := by decide +kernel
theorem dX0_allCuts_10 : decode cX0_allCuts 10 = .ok (.getfield 7, 3) := by decide +kernel
theorem dX0_allCuts_13 : decode cX0_allCuts 13 = .ok (.if_icmp .ge 28, 3) := by decide +kernel
theorem dX0_allCuts_16 : decode cX0_allCuts 16 = .ok (.iload 4, 2) := by decide +kernel
theorem dX0_allCuts_18 : decode cX0_allCuts 18 = .ok (.iload_n 3, 1) := by decide +kernel
theorem dX0_allCuts_19 : decode cX0_allCuts 19 = .ok (.if_icmp .ne 16, 3) := by decide +kernel
theorem dX0_allCuts_22 : decode cX0_allCuts 22 = .ok (.iinc 2 1, 3) := by decide +kernel
theorem dX0_allCuts_25 : decode cX0_allCuts 25 = .ok (.iload_n 3, 1) := by decide +kernel
theorem dX0_allCuts_26 : decode cX0_allCuts 26 = .ok (.aload_n 0, 1) := by decide +kernel
theorem dX0_allCuts_27 : decode cX0_allCuts 27 = .ok (.aload_n 1, 1) := by decide +kernel
theorem dX0_allCuts_28 : decode cX0_allCuts 28 = .ok (.iload 4, 2) := by decide +kernel
theorem dX0_allCuts_30 : decode cX0_allCuts 30 = .ok (.invokevirtual 13, 3) := by decide +kernel
theorem dX0_allCuts_33 : decode cX0_allCuts 33 = .ok (.iadd, 1) := by decide +kernel
theorem dX0_allCuts_34 : decode cX0_allCuts 34 = .ok (.istore_n 3, 1) := by decide +kernel
theorem dX0_allCuts_35 : decode cX0_allCuts 35 = .ok (.iinc 4 1, 3) := by decide +kernel
theorem dX0_allCuts_38 : decode cX0_allCuts 38 = .ok (.goto (-31), 3) := by decide +kernel
theorem dX0_allCuts_41 : decode cX0_allCuts 41 = .ok (.iload_n 2, 1) := by decide +kernel
theorem dX0_allCuts_42 : decode cX0_allCuts 42 = .ok (.ireturn, 1) := by decide +kernel
theorem dX0_startOf_0 : decode cX0_startOf 0 = .ok (.iconst 0, 1) := by decide +kernel
theorem dX0_startOf_1 : decode cX0_startOf 1 = .ok (.istore_n 3, 1) := by decide +kernel
theorem dX0_startOf_2 : decode cX0_startOf 2 = .ok (.iconst 0, 1) := by decide +kernel
theorem dX0_startOf_3 : decode cX0_startOf 3 = .ok (.istore 4, 2) := by decide +kernel
theorem dX0_startOf_5 : decode cX0_startOf 5 = .ok (.iconst 0, 1) := by decide +kernel
theorem dX0_startOf_6 : decode cX0_startOf 6 = .ok (.istore 5, 2) := by decide +kernel
theorem dX0_startOf_8 : decode cX0_startOf 8 = .ok (.iload 5, 2) := by decide +kernel
theorem dX0_startOf_10 : decode cX0_startOf 10 = .ok (.aload_n 1, 1) := by decide +kernel
theorem dX0_startOf_11 : decode cX0_startOf 11 = .ok (.getfield 7, 3) := by decide +kernel
theorem dX0_startOf_14 : decode cX0_startOf 14 = .ok (.if_icmp .ge 39, 3) := by decide +kernel
theorem dX0_startOf_17 : decode cX0_startOf 17 = .ok (.iload 5, 2) := by decide +kernel
theorem dX0_startOf_19 : decode cX0_startOf 19 = .ok (.iload 4, 2) := by decide +kernel
theorem dX0_startOf_21 : decode cX0_startOf 21 = .ok (.if_icmp .ne 26, 3) := by decide +kernel
theorem dX0_startOf_24 : decode cX0_startOf 24 = .ok (.iload_n 3, 1) := by decide +kernel
theorem dX0_startOf_25 : decode cX0_startOf 25 = .ok (.iload_n 2, 1) := by decide +kernel
theorem dX0_startOf_26 : decode cX0_startOf 26 = .ok (.if_icmp .ne 6, 3) := by decide +kernel
theorem dX0_startOf_29 : decode cX0_startOf 29 = .ok (.iload 5, 2) := by decide +kernel
theorem dX0_startOf_31 : decode cX0_startOf 31 = .ok (.ireturn, 1) := by decide +kernel
theorem dX0_startOf_32 : decode cX0_startOf 32 = .ok (.iinc 3 1, 3) := by decide +kernel
theorem dX0_startOf_35 : decode cX0_startOf 35 = .ok (.iload 4, 2) := by decide +kernel
theorem dX0_startOf_37 : decode cX0_startOf 37 = .ok (.aload_n 0, 1) := by decide +kernel
theorem dX0_startOf_38 : decode cX0_startOf 38 = .ok (.aload_n 1, 1) := by decide +kernel
theorem dX0_startOf_39 : decode cX0_startOf 39 = .ok (.iload 5, 2) := by decide +kernel
theorem dX0_startOf_41 : decode cX0_startOf 41 = .ok (.invokevirtual 13, 3) := by decide +kernel
theorem dX0_startOf_44 : decode cX0_startOf 44 = .ok (.iadd, 1) := by decide +kernel
theorem dX0_startOf_45 : decode cX0_startOf 45 = .ok (.istore 4, 2) := by decide +kernel
theorem dX0_startOf_47 : decode cX0_startOf 47 = .ok (.iinc 5 1, 3) := by decide +kernel
theorem dX0_startOf_50 : decode cX0_startOf 50 = .ok (.goto (-42), 3) := by decide +kernel
theorem dX0_startOf_53 : decode cX0_startOf 53 = .ok (.aload_n 1, 1) := by decide +kernel
theorem dX0_startOf_54 : decode cX0_startOf 54 = .ok (.getfield 7, 3) := by decide +kernel
theorem dX0_startOf_57 : decode cX0_startOf 57 = .ok (.ireturn, 1) := by decide +kernel
theorem dX1_init_0 : decode cX1_init 0 = .ok (.aload_n 0, 1) := by decide +kernel
theorem dX1_init_1 : decode cX1_init 1 = .ok (.invokespecial 3, 3) := by decide +kernel
theorem dX1_init_4 : decode cX1_init 4 = .ok (.aload_n 0, 1) := by decide +kernel
theorem dX1_init_5 : decode cX1_init 5 = .ok (.bipush 65, 2) := by decide +kernel
theorem dX1_init_7 : decode cX1_init 7 = .ok (.newarray .int, 2) := by decide +kernel
theorem dX1_init_9 : decode cX1_init 9 = .ok (.putfield 9, 3) := by decide +kernel
theorem dX1_init_12 : decode cX1_init 12 = .ok (.aload_n 0, 1) := by decide +kernel
theorem dX1_init_13 : decode cX1_init 13 = .ok (.bipush 64, 2) := by decide +kernel
theorem dX1_init_15 : decode cX1_init 15 = .ok (.newarray .int, 2) := by decide +kernel
theorem dX1_init_17 : decode cX1_init 17 = .ok (.putfield 15, 3) := by decide +kernel
theorem dX1_init_20 : decode cX1_init 20 = .ok (.aload_n 0, 1) := by decide +kernel
theorem dX1_init_21 : decode cX1_init 21 = .ok (.bipush 64, 2) := by decide +kernel
theorem dX1_init_23 : decode cX1_init 23 = .ok (.newarray .int, 2) := by decide +kernel
theorem dX1_init_25 : decode cX1_init 25 = .ok (.putfield 18, 3) := by decide +kernel
theorem dX1_init_28 : decode cX1_init 28 = .ok (.return_, 1) := by decide +kernel
theorem dX1_sortEnds_0 : decode cX1_sortEnds 0 = .ok (.iconst 0, 1) := by decide +kernel
theorem dX1_sortEnds_1 : decode cX1_sortEnds 1 = .ok (.istore_n 2, 1) := by decide +kernel
theorem dX1_sortEnds_2 : decode cX1_sortEnds 2 = .ok (.iload_n 2, 1) := by decide +kernel
theorem dX1_sortEnds_3 : decode cX1_sortEnds 3 = .ok (.aload_n 1, 1) := by decide +kernel
theorem dX1_sortEnds_4 : decode cX1_sortEnds 4 = .ok (.getfield 21, 3) := by decide +kernel
theorem dX1_sortEnds_7 : decode cX1_sortEnds 7 = .ok (.if_icmp .ge 31, 3) := by decide +kernel
theorem dX1_sortEnds_10 : decode cX1_sortEnds 10 = .ok (.aload_n 1, 1) := by decide +kernel
theorem dX1_sortEnds_11 : decode cX1_sortEnds 11 = .ok (.getfield 27, 3) := by decide +kernel
theorem dX1_sortEnds_14 : decode cX1_sortEnds 14 = .ok (.iload_n 2, 1) := by decide +kernel
theorem dX1_sortEnds_15 : decode cX1_sortEnds 15 = .ok (.aload_n 1, 1) := by decide +kernel
theorem dX1_sortEnds_16 : decode cX1_sortEnds 16 = .ok (.getfield 30, 3) := by decide +kernel
theorem dX1_sortEnds_19 : decode cX1_sortEnds 19 = .ok (.iload_n 2, 1) := by decide +kernel
theorem dX1_sortEnds_20 : decode cX1_sortEnds 20 = .ok (.caload, 1) := by decide +kernel
theorem dX1_sortEnds_21 : decode cX1_sortEnds 21 = .ok (.bipush 97, 2) := by decide +kernel
theorem dX1_sortEnds_23 : decode cX1_sortEnds 23 = .ok (.isub, 1) := by decide +kernel
theorem dX1_sortEnds_24 : decode cX1_sortEnds 24 = .ok (.iastore, 1) := by decide +kernel
theorem dX1_sortEnds_25 : decode cX1_sortEnds 25 = .ok (.aload_n 0, 1) := by decide +kernel
theorem dX1_sortEnds_26 : decode cX1_sortEnds 26 = .ok (.getfield 15, 3) := by decide +kernel
theorem dX1_sortEnds_29 : decode cX1_sortEnds 29 = .ok (.iload_n 2, 1) := by decide +kernel
theorem dX1_sortEnds_30 : decode cX1_sortEnds 30 = .ok (.iload_n 2, 1) := by decide +kernel
theorem dX1_sortEnds_31 : decode cX1_sortEnds 31 = .ok (.iastore, 1) := by decide +kernel
theorem dX1_sortEnds_32 : decode cX1_sortEnds 32 = .ok (.iinc 2 1, 3) := by decide +kernel
theorem dX1_sortEnds_35 : decode cX1_sortEnds 35 = .ok (.goto (-33), 3) := by decide +kernel
theorem dX1_sortEnds_38 : decode cX1_sortEnds 38 = .ok (.aload_n 0, 1) := by decide +kernel
theorem dX1_sortEnds_39 : decode cX1_sortEnds 39 = .ok (.aload_n 1, 1) := by decide +kernel
theorem dX1_sortEnds_40 : decode cX1_sortEnds 40 = .ok (.invokevirtual 34, 3) := by decide +kernel
theorem dX1_sortEnds_43 : decode cX1_sortEnds 43 = .ok (.aload_n 0, 1) := by decide +kernel
theorem dX1_sortEnds_44 : decode cX1_sortEnds 44 = .ok (.aload_n 1, 1) := by decide +kernel
theorem dX1_sortEnds_45 : decode cX1_sortEnds 45 = .ok (.aload_n 1, 1) := by decide +kernel
theorem dX1_sortEnds_46 : decode cX1_sortEnds 46 = .ok (.getfield 21, 3) := by decide +kernel
theorem dX1_sortEnds_49 : decode cX1_sortEnds 49 = .ok (.invokevirtual 38, 3) := by decide +kernel
theorem dX1_sortEnds_52 : decode cX1_sortEnds 52 = .ok (.istore_n 2, 1) := by decide +kernel
theorem dX1_sortEnds_53 : decode cX1_sortEnds 53 = .ok (.iconst 1, 1) := by decide +kernel
theorem dX1_sortEnds_54 : decode cX1_sortEnds 54 = .ok (.istore_n 3, 1) := by decide +kernel
theorem dX1_sortEnds_55 : decode cX1_sortEnds 55 = .ok (.iload_n 3, 1) := by decide +kernel
theorem dX1_sortEnds_56 : decode cX1_sortEnds 56 = .ok (.aload_n 1, 1) := by decide +kernel
theorem dX1_sortEnds_57 : decode cX1_sortEnds 57 = .ok (.getfield 21, 3) := by decide +kernel
theorem dX1_sortEnds_60 : decode cX1_sortEnds 60 = .ok (.if_icmp .ge 36, 3) := by decide +kernel
theorem dX1_sortEnds_63 : decode cX1_sortEnds 63 = .ok (.iload_n 2, 1) := by decide +kernel
theorem dX1_sortEnds_64 : decode cX1_sortEnds 64 = .ok (.aload_n 1, 1) := by decide +kernel
theorem dX1_sortEnds_65 : decode cX1_sortEnds 65 = .ok (.getfield 21, 3) := by decide +kernel
theorem dX1_sortEnds_68 : decode cX1_sortEnds 68 = .ok (.if_icmp .ge 28, 3) := by decide +kernel
theorem dX1_sortEnds_71 : decode cX1_sortEnds 71 = .ok (.aload_n 0, 1) := by decide +kernel
theorem dX1_sortEnds_72 : decode cX1_sortEnds 72 = .ok (.aload_n 1, 1) := by decide +kernel
theorem dX1_sortEnds_73 : decode cX1_sortEnds 73 = .ok (.iload_n 3, 1) := by decide +kernel
theorem dX1_sortEnds_74 : decode cX1_sortEnds 74 = .ok (.invokevirtual 42, 3) := by decide +kernel
theorem dX1_sortEnds_77 : decode cX1_sortEnds 77 = .ok (.aload_n 0, 1) := by decide +kernel
theorem dX1_sortEnds_78 : decode cX1_sortEnds 78 = .ok (.aload_n 1, 1) := by decide +kernel
theorem dX1_sortEnds_79 : decode cX1_sortEnds 79 = .ok (.invokevirtual 34, 3) := by decide +kernel
theorem dX1_sortEnds_82 : decode cX1_sortEnds 82 = .ok (.aload_n 0, 1) := by decide +kernel
theorem dX1_sortEnds_83 : decode cX1_sortEnds 83 = .ok (.aload_n 1, 1) := by decide +kernel
theorem dX1_sortEnds_84 : decode cX1_sortEnds 84 = .ok (.iload_n 3, 1) := by decide +kernel
theorem dX1_sortEnds_85 : decode cX1_sortEnds 85 = .ok (.invokevirtual 38, 3) := by decide +kernel
theorem dX1_sortEnds_88 : decode cX1_sortEnds 88 = .ok (.istore_n 2, 1) := by decide +kernel
theorem dX1_sortEnds_89 : decode cX1_sortEnds 89 = .ok (.iload_n 3, 1) := by decide +kernel
theorem dX1_sortEnds_90 : decode cX1_sortEnds 90 = .ok (.iconst 2, 1) := by decide +kernel
theorem dX1_sortEnds_91 : decode cX1_sortEnds 91 = .ok (.imul, 1) := by decide +kernel
theorem dX1_sortEnds_92 : decode cX1_sortEnds 92 = .ok (.istore_n 3, 1) := by decide +kernel
theorem dX1_sortEnds_93 : decode cX1_sortEnds 93 = .ok (.goto (-38), 3) := by decide +kernel
theorem dX1_sortEnds_96 : decode cX1_sortEnds 96 = .ok (.aload_n 0, 1) := by decide +kernel
theorem dX1_sortEnds_97 : decode cX1_sortEnds 97 = .ok (.aload_n 1, 1) := by decide +kernel
theorem dX1_sortEnds_98 : decode cX1_sortEnds 98 = .ok (.invokevirtual 46, 3) := by decide +kernel
theorem dX1_sortEnds_101 : decode cX1_sortEnds 101 = .ok (.return_, 1) := by decide +kernel
theorem dX1_listBySecondHalf_0 : decode cX1_listBySecondHalf 0 = .ok (.iconst 0, 1) := by decide +kernel
theorem dX1_listBySecondHalf_1 : decode cX1_listBySecondHalf 1 = .ok (.istore_n 3, 1) := by decide +kernel
theorem dX1_listBySecondHalf_2 : decode cX1_listBySecondHalf 2 = .ok (.aload_n 1, 1) := by decide +kernel
theorem dX1_listBySecondHalf_3 : decode cX1_listBySecondHalf 3 = .ok (.getfield 21, 3) := by decide +kernel
theorem dX1_listBySecondHalf_6 : decode cX1_listBySecondHalf 6 = .ok (.iload_n 2, 1) := by decide +kernel
theorem dX1_listBySecondHalf_7 : decode cX1_listBySecondHalf 7 = .ok (.isub, 1) := by decide +kernel
theorem dX1_listBySecondHalf_8 : decode cX1_listBySecondHalf 8 = .ok (.istore 4, 2) := by decide +kernel
theorem dX1_listBySecondHalf_10 : decode cX1_listBySecondHalf 10 = .ok (.iload 4, 2) := by decide +kernel
theorem dX1_listBySecondHalf_12 : decode cX1_listBySecondHalf 12 = .ok (.aload_n 1, 1) := by decide +kernel
theorem dX1_listBySecondHalf_13 : decode cX1_listBySecondHalf 13 = .ok (.getfield 21, 3) := by decide +kernel
theorem dX1_listBySecondHalf_16 : decode cX1_listBySecondHalf 16 = .ok (.if_icmp .ge 20, 3) := by decide +kernel
theorem dX1_listBySecondHalf_19 : decode cX1_listBySecondHalf 19 = .ok (.aload_n 0, 1) := by decide +kernel
theorem dX1_listBySecondHalf_20 : decode cX1_listBySecondHalf 20 = .ok (.getfield 15, 3) := by decide +kernel
theorem dX1_listBySecondHalf_23 : decode cX1_listBySecondHalf 23 = .ok (.iload_n 3, 1) := by decide +kernel
theorem dX1_listBySecondHalf_24 : decode cX1_listBySecondHalf 24 = .ok (.iload 4, 2) := by decide +kernel
theorem dX1_listBySecondHalf_26 : decode cX1_listBySecondHalf 26 = .ok (.iastore, 1) := by decide +kernel
theorem dX1_listBySecondHalf_27 : decode cX1_listBySecondHalf 27 = .ok (.iinc 3 1, 3) := by decide +kernel
theorem dX1_listBySecondHalf_30 : decode cX1_listBySecondHalf 30 = .ok (.iinc 4 1, 3) := by decide +kernel
theorem dX1_listBySecondHalf_33 : decode cX1_listBySecondHalf 33 = .ok (.goto (-23), 3) := by decide +kernel
theorem dX1_listBySecondHalf_36 : decode cX1_listBySecondHalf 36 = .ok (.iconst 0, 1) := by decide +kernel
theorem dX1_listBySecondHalf_37 : decode cX1_listBySecondHalf 37 = .ok (.istore 4, 2) := by decide +kernel
theorem dX1_listBySecondHalf_39 : decode cX1_listBySecondHalf 39 = .ok (.iload 4, 2) := by decide +kernel
theorem dX1_listBySecondHalf_41 : decode cX1_listBySecondHalf 41 = .ok (.aload_n 1, 1) := by decide +kernel
theorem dX1_listBySecondHalf_42 : decode cX1_listBySecondHalf 42 = .ok (.getfield 21, 3) := by decide +kernel
theorem dX1_listBySecondHalf_45 : decode cX1_listBySecondHalf 45 = .ok (.if_icmp .ge 38, 3) := by decide +kernel
theorem dX1_listBySecondHalf_48 : decode cX1_listBySecondHalf 48 = .ok (.aload_n 1, 1) := by decide +kernel
theorem dX1_listBySecondHalf_49 : decode cX1_listBySecondHalf 49 = .ok (.getfield 49, 3) := by decide +kernel
theorem dX1_listBySecondHalf_52 : decode cX1_listBySecondHalf 52 = .ok (.iload 4, 2) := by decide +kernel
theorem dX1_listBySecondHalf_54 : decode cX1_listBySecondHalf 54 = .ok (.iaload, 1) := by decide +kernel
theorem dX1_listBySecondHalf_55 : decode cX1_listBySecondHalf 55 = .ok (.iload_n 2, 1) := by decide +kernel
theorem dX1_listBySecondHalf_56 : decode cX1_listBySecondHalf 56 = .ok (.if_icmp .lt 21, 3) := by decide +kernel
theorem dX1_listBySecondHalf_59 : decode cX1_listBySecondHalf 59 = .ok (.aload_n 0, 1) := by decide +kernel
theorem dX1_listBySecondHalf_60 : decode cX1_listBySecondHalf 60 = .ok (.getfield 15, 3) := by decide +kernel
theorem dX1_listBySecondHalf_63 : decode cX1_listBySecondHalf 63 = .ok (.iload_n 3, 1) := by decide +kernel
theorem dX1_listBySecondHalf_64 : decode cX1_listBySecondHalf 64 = .ok (.aload_n 1, 1) := by decide +kernel
theorem dX1_listBySecondHalf_65 : decode cX1_listBySecondHalf 65 = .ok (.getfield 49, 3) := by decide +kernel
theorem dX1_listBySecondHalf_68 : decode cX1_listBySecondHalf 68 = .ok (.iload 4, 2) := by decide +kernel
theorem dX1_listBySecondHalf_70 : decode cX1_listBySecondHalf 70 = .ok (.iaload, 1) := by decide +kernel
theorem dX1_listBySecondHalf_71 : decode cX1_listBySecondHalf 71 = .ok (.iload_n 2, 1) := by decide +kernel
theorem dX1_listBySecondHalf_72 : decode cX1_listBySecondHalf 72 = .ok (.isub, 1) := by decide +kernel
theorem dX1_listBySecondHalf_73 : decode cX1_listBySecondHalf 73 = .ok (.iastore, 1) := by decide +kernel
theorem dX1_listBySecondHalf_74 : decode cX1_listBySecondHalf 74 = .ok (.iinc 3 1, 3) := by decide +kernel
theorem dX1_listBySecondHalf_77 : decode cX1_listBySecondHalf 77 = .ok (.iinc 4 1, 3) := by decide +kernel
theorem dX1_listBySecondHalf_80 : decode cX1_listBySecondHalf 80 = .ok (.goto (-41), 3) := by decide +kernel
theorem dX1_listBySecondHalf_83 : decode cX1_listBySecondHalf 83 = .ok (.return_, 1) := by decide +kernel
theorem dX1_orderByClass_0 : decode cX1_orderByClass 0 = .ok (.iconst 0, 1) := by decide +kernel
theorem dX1_orderByClass_1 : decode cX1_orderByClass 1 = .ok (.istore_n 2, 1) := by decide +kernel
theorem dX1_orderByClass_2 : decode cX1_orderByClass 2 = .ok (.iload_n 2, 1) := by decide +kernel
theorem dX1_orderByClass_3 : decode cX1_orderByClass 3 = .ok (.aload_n 0, 1) := by decide +kernel
theorem dX1_orderByClass_4 : decode cX1_orderByClass 4 = .ok (.getfield 9, 3) := by decide +kernel
theorem dX1_orderByClass_7 : decode cX1_orderByClass 7 = .ok (.arraylength, 1) := by decide +kernel
theorem dX1_orderByClass_8 : decode cX1_orderByClass 8 = .ok (.if_icmp .ge 16, 3) := by decide +kernel
theorem dX1_orderByClass_11 : decode cX1_orderByClass 11 = .ok (.aload_n 0, 1) := by decide +kernel
theorem dX1_orderByClass_12 : decode cX1_orderByClass 12 = .ok (.getfield 9, 3) := by decide +kernel
theorem dX1_orderByClass_15 : decode cX1_orderByClass 15 = .ok (.iload_n 2, 1) := by decide +kernel
theorem dX1_orderByClass_16 : decode cX1_orderByClass 16 = .ok (.iconst 0, 1) := by decide +kernel
theorem dX1_orderByClass_17 : decode cX1_orderByClass 17 = .ok (.iastore, 1) := by decide +kernel
theorem dX1_orderByClass_18 : decode cX1_orderByClass 18 = .ok (.iinc 2 1, 3) := by decide +kernel
theorem dX1_orderByClass_21 : decode cX1_orderByClass 21 = .ok (.goto (-19), 3) := by decide +kernel
theorem dX1_orderByClass_24 : decode cX1_orderByClass 24 = .ok (.iconst 0, 1) := by decide +kernel
theorem dX1_orderByClass_25 : decode cX1_orderByClass 25 = .ok (.istore_n 2, 1) := by decide +kernel
theorem dX1_orderByClass_26 : decode cX1_orderByClass 26 = .ok (.iload_n 2, 1) := by decide +kernel
theorem dX1_orderByClass_27 : decode cX1_orderByClass 27 = .ok (.aload_n 1, 1) := by decide +kernel
theorem dX1_orderByClass_28 : decode cX1_orderByClass 28 = .ok (.getfield 21, 3) := by decide +kernel
theorem dX1_orderByClass_31 : decode cX1_orderByClass 31 = .ok (.if_icmp .ge 26, 3) := by decide +kernel
theorem dX1_orderByClass_34 : decode cX1_orderByClass 34 = .ok (.aload_n 0, 1) := by decide +kernel
theorem dX1_orderByClass_35 : decode cX1_orderByClass 35 = .ok (.getfield 9, 3) := by decide +kernel
theorem dX1_orderByClass_38 : decode cX1_orderByClass 38 = .ok (.aload_n 1, 1) := by decide +kernel
theorem dX1_orderByClass_39 : decode cX1_orderByClass 39 = .ok (.getfield 27, 3) := by decide +kernel
theorem dX1_orderByClass_42 : decode cX1_orderByClass 42 = .ok (.iload_n 2, 1) := by decide +kernel
theorem dX1_orderByClass_43 : decode cX1_orderByClass 43 = .ok (.iaload, 1) := by decide +kernel
theorem dX1_orderByClass_44 : decode cX1_orderByClass 44 = .ok (.iconst 1, 1) := by decide +kernel
theorem dX1_orderByClass_45 : decode cX1_orderByClass 45 = .ok (.iadd, 1) := by decide +kernel
theorem dX1_orderByClass_46 : decode cX1_orderByClass 46 = .ok (.dup2, 1) := by decide +kernel
theorem dX1_orderByClass_47 : decode cX1_orderByClass 47 = .ok (.iaload, 1) := by decide +kernel
theorem dX1_orderByClass_48 : decode cX1_orderByClass 48 = .ok (.iconst 1, 1) := by decide +kernel
theorem dX1_orderByClass_49 : decode cX1_orderByClass 49 = .ok (.iadd, 1) := by decide +kernel
theorem dX1_orderByClass_50 : decode cX1_orderByClass 50 = .ok (.iastore, 1) := by decide +kernel
theorem dX1_orderByClass_51 : decode cX1_orderByClass 51 = .ok (.iinc 2 1, 3) := by decide +kernel
theorem dX1_orderByClass_54 : decode cX1_orderByClass 54 = .ok (.goto (-28), 3) := by decide +kernel
theorem dX1_orderByClass_57 : decode cX1_orderByClass 57 = .ok (.iconst 1, 1) := by decide +kernel
theorem dX1_orderByClass_58 : decode cX1_orderByClass 58 = .ok (.istore_n 2, 1) := by decide +kernel
theorem dX1_orderByClass_59 : decode cX1_orderByClass 59 = .ok (.iload_n 2, 1) := by decide +kernel
theorem dX1_orderByClass_60 : decode cX1_orderByClass 60 = .ok (.aload_n 0, 1) := by decide +kernel
theorem dX1_orderByClass_61 : decode cX1_orderByClass 61 = .ok (.getfield 9, 3) := by decide +kernel
theorem dX1_orderByClass_64 : decode cX1_orderByClass 64 = .ok (.arraylength, 1) := by decide +kernel
theorem dX1_orderByClass_65 : decode cX1_orderByClass 65 = .ok (.if_icmp .ge 26, 3) := by decide +kernel
theorem dX1_orderByClass_68 : decode cX1_orderByClass 68 = .ok (.aload_n 0, 1) := by decide +kernel
theorem dX1_orderByClass_69 : decode cX1_orderByClass 69 = .ok (.getfield 9, 3) := by decide +kernel
theorem dX1_orderByClass_72 : decode cX1_orderByClass 72 = .ok (.iload_n 2, 1) := by decide +kernel
theorem dX1_orderByClass_73 : decode cX1_orderByClass 73 = .ok (.dup2, 1) := by decide +kernel
theorem dX1_orderByClass_74 : decode cX1_orderByClass 74 = .ok (.iaload, 1) := by decide +kernel
theorem dX1_orderByClass_75 : decode cX1_orderByClass 75 = .ok (.aload_n 0, 1) := by decide +kernel
theorem dX1_orderByClass_76 : decode cX1_orderByClass 76 = .ok (.getfield 9, 3) := by decide +kernel
theorem dX1_orderByClass_79 : decode cX1_orderByClass 79 = .ok (.iload_n 2, 1) := by decide +kernel
theorem dX1_orderByClass_80 : decode cX1_orderByClass 80 = .ok (.iconst 1, 1) := by decide +kernel
theorem dX1_orderByClass_81 : decode cX1_orderByClass 81 = .ok (.isub, 1) := by decide +kernel
theorem dX1_orderByClass_82 : decode cX1_orderByClass 82 = .ok (.iaload, 1) := by decide +kernel
theorem dX1_orderByClass_83 : decode cX1_orderByClass 83 = .ok (.iadd, 1) := by decide +kernel
theorem dX1_orderByClass_84 : decode cX1_orderByClass 84 = .ok (.iastore, 1) := by decide +kernel
theorem dX1_orderByClass_85 : decode cX1_orderByClass 85 = .ok (.iinc 2 1, 3) := by decide +kernel
theorem dX1_orderByClass_88 : decode cX1_orderByClass 88 = .ok (.goto (-29), 3) := by decide +kernel
theorem dX1_orderByClass_91 : decode cX1_orderByClass 91 = .ok (.iconst 0, 1) := by decide +kernel
theorem dX1_orderByClass_92 : decode cX1_orderByClass 92 = .ok (.istore_n 2, 1) := by decide +kernel
theorem dX1_orderByClass_93 : decode cX1_orderByClass 93 = .ok (.iload_n 2, 1) := by decide +kernel
theorem dX1_orderByClass_94 : decode cX1_orderByClass 94 = .ok (.aload_n 1, 1) := by decide +kernel
theorem dX1_orderByClass_95 : decode cX1_orderByClass 95 = .ok (.getfield 21, 3) := by decide +kernel
theorem dX1_orderByClass_98 : decode cX1_orderByClass 98 = .ok (.if_icmp .ge 48, 3) := by decide +kernel
theorem dX1_orderByClass_101 : decode cX1_orderByClass 101 = .ok (.aload_n 0, 1) := by decide +kernel
theorem dX1_orderByClass_102 : decode cX1_orderByClass 102 = .ok (.getfield 15, 3) := by decide +kernel
theorem dX1_orderByClass_105 : decode cX1_orderByClass 105 = .ok (.iload_n 2, 1) := by decide +kernel
theorem dX1_orderByClass_106 : decode cX1_orderByClass 106 = .ok (.iaload, 1) := by decide +kernel
theorem dX1_orderByClass_107 : decode cX1_orderByClass 107 = .ok (.istore_n 3, 1) := by decide +kernel
theorem dX1_orderByClass_108 : decode cX1_orderByClass 108 = .ok (.aload_n 1, 1) := by decide +kernel
theorem dX1_orderByClass_109 : decode cX1_orderByClass 109 = .ok (.getfield 27, 3) := by decide +kernel
theorem dX1_orderByClass_112 : decode cX1_orderByClass 112 = .ok (.iload_n 3, 1) := by decide +kernel
theorem dX1_orderByClass_113 : decode cX1_orderByClass 113 = .ok (.iaload, 1) := by decide +kernel
theorem dX1_orderByClass_114 : decode cX1_orderByClass 114 = .ok (.istore 4, 2) := by decide +kernel
theorem dX1_orderByClass_116 : decode cX1_orderByClass 116 = .ok (.aload_n 1, 1) := by decide +kernel
theorem dX1_orderByClass_117 : decode cX1_orderByClass 117 = .ok (.getfield 49, 3) := by decide +kernel
theorem dX1_orderByClass_120 : decode cX1_orderByClass 120 = .ok (.aload_n 0, 1) := by decide +kernel
theorem dX1_orderByClass_121 : decode cX1_orderByClass 121 = .ok (.getfield 9, 3) := by decide +kernel
theorem dX1_orderByClass_124 : decode cX1_orderByClass 124 = .ok (.iload 4, 2) := by decide +kernel
theorem dX1_orderByClass_126 : decode cX1_orderByClass 126 = .ok (.iaload, 1) := by decide +kernel
theorem dX1_orderByClass_127 : decode cX1_orderByClass 127 = .ok (.iload_n 3, 1) := by decide +kernel
theorem dX1_orderByClass_128 : decode cX1_orderByClass 128 = .ok (.iastore, 1) := by decide +kernel
theorem dX1_orderByClass_129 : decode cX1_orderByClass 129 = .ok (.aload_n 0, 1) := by decide +kernel
theorem dX1_orderByClass_130 : decode cX1_orderByClass 130 = .ok (.getfield 9, 3) := by decide +kernel
theorem dX1_orderByClass_133 : decode cX1_orderByClass 133 = .ok (.iload 4, 2) := by decide +kernel
theorem dX1_orderByClass_135 : decode cX1_orderByClass 135 = .ok (.dup2, 1) := by decide +kernel
theorem dX1_orderByClass_136 : decode cX1_orderByClass 136 = .ok (.iaload, 1) := by decide +kernel
theorem dX1_orderByClass_137 : decode cX1_orderByClass 137 = .ok (.iconst 1, 1) := by decide +kernel
theorem dX1_orderByClass_138 : decode cX1_orderByClass 138 = .ok (.iadd, 1) := by decide +kernel
theorem dX1_orderByClass_139 : decode cX1_orderByClass 139 = .ok (.iastore, 1) := by decide +kernel
theorem dX1_orderByClass_140 : decode cX1_orderByClass 140 = .ok (.iinc 2 1, 3) := by decide +kernel
theorem dX1_orderByClass_143 : decode cX1_orderByClass 143 = .ok (.goto (-50), 3) := by decide +kernel
theorem dX1_orderByClass_146 : decode cX1_orderByClass 146 = .ok (.return_, 1) := by decide +kernel
theorem dX1_numberClasses_0 : decode cX1_numberClasses 0 = .ok (.iconst 0, 1) := by decide +kernel
theorem dX1_numberClasses_1 : decode cX1_numberClasses 1 = .ok (.istore_n 3, 1) := by decide +kernel
theorem dX1_numberClasses_2 : decode cX1_numberClasses 2 = .ok (.iconst 0, 1) := by decide +kernel
theorem dX1_numberClasses_3 : decode cX1_numberClasses 3 = .ok (.istore 4, 2) := by decide +kernel
theorem dX1_numberClasses_5 : decode cX1_numberClasses 5 = .ok (.iload 4, 2) := by decide +kernel
theorem dX1_numberClasses_7 : decode cX1_numberClasses 7 = .ok (.aload_n 1, 1) := by decide +kernel
theorem dX1_numberClasses_8 : decode cX1_numberClasses 8 = .ok (.getfield 21, 3) := by decide +kernel
theorem dX1_numberClasses_11 : decode cX1_numberClasses 11 = .ok (.if_icmp .ge 56, 3) := by decide +kernel
theorem dX1_numberClasses_14 : decode cX1_numberClasses 14 = .ok (.aload_n 1, 1) := by decide +kernel
theorem dX1_numberClasses_15 : decode cX1_numberClasses 15 = .ok (.getfield 49, 3) := by decide +kernel
theorem dX1_numberClasses_18 : decode cX1_numberClasses 18 = .ok (.iload 4, 2) := by decide +kernel
theorem dX1_numberClasses_20 : decode cX1_numberClasses 20 = .ok (.iaload, 1) := by decide +kernel
theorem dX1_numberClasses_21 : decode cX1_numberClasses 21 = .ok (.istore 5, 2) := by decide +kernel
theorem dX1_numberClasses_23 : decode cX1_numberClasses 23 = .ok (.iload 4, 2) := by decide +kernel
theorem dX1_numberClasses_25 : decode cX1_numberClasses 25 = .ok (.ifCond .eq 23, 3) := by decide +kernel
theorem dX1_numberClasses_28 : decode cX1_numberClasses 28 = .ok (.aload_n 0, 1) := by decide +kernel
theorem dX1_numberClasses_29 : decode cX1_numberClasses 29 = .ok (.aload_n 1, 1) := by decide +kernel
theorem dX1_numberClasses_30 : decode cX1_numberClasses 30 = .ok (.aload_n 1, 1) := by decide +kernel
theorem dX1_numberClasses_31 : decode cX1_numberClasses 31 = .ok (.getfield 49, 3) := by decide +kernel
theorem dX1_numberClasses_34 : decode cX1_numberClasses 34 = .ok (.iload 4, 2) := by decide +kernel
theorem dX1_numberClasses_36 : decode cX1_numberClasses 36 = .ok (.iconst 1, 1) := by decide +kernel
theorem dX1_numberClasses_37 : decode cX1_numberClasses 37 = .ok (.isub, 1) := by decide +kernel
theorem dX1_numberClasses_38 : decode cX1_numberClasses 38 = .ok (.iaload, 1) := by decide +kernel
theorem dX1_numberClasses_39 : decode cX1_numberClasses 39 = .ok (.iload 5, 2) := by decide +kernel
theorem dX1_numberClasses_41 : decode cX1_numberClasses 41 = .ok (.iload_n 2, 1) := by decide +kernel
theorem dX1_numberClasses_42 : decode cX1_numberClasses 42 = .ok (.invokevirtual 52, 3) := by decide +kernel
theorem dX1_numberClasses_45 : decode cX1_numberClasses 45 = .ok (.ifCond .ne 6, 3) := by decide +kernel
theorem dX1_numberClasses_48 : decode cX1_numberClasses 48 = .ok (.iinc 3 1, 3) := by decide +kernel
theorem dX1_numberClasses_51 : decode cX1_numberClasses 51 = .ok (.aload_n 0, 1) := by decide +kernel
theorem dX1_numberClasses_52 : decode cX1_numberClasses 52 = .ok (.getfield 18, 3) := by decide +kernel
theorem dX1_numberClasses_55 : decode cX1_numberClasses 55 = .ok (.iload 5, 2) := by decide +kernel
theorem dX1_numberClasses_57 : decode cX1_numberClasses 57 = .ok (.iload_n 3, 1) := by decide +kernel
theorem dX1_numberClasses_58 : decode cX1_numberClasses 58 = .ok (.iconst 1, 1) := by decide +kernel
theorem dX1_numberClasses_59 : decode cX1_numberClasses 59 = .ok (.isub, 1) := by decide +kernel
theorem dX1_numberClasses_60 : decode cX1_numberClasses 60 = .ok (.iastore, 1) := by decide +kernel
theorem dX1_numberClasses_61 : decode cX1_numberClasses 61 = .ok (.iinc 4 1, 3) := by decide +kernel
theorem dX1_numberClasses_64 : decode cX1_numberClasses 64 = .ok (.goto (-59), 3) := by decide +kernel
theorem dX1_numberClasses_67 : decode cX1_numberClasses 67 = .ok (.iconst 0, 1) := by decide +kernel
theorem dX1_numberClasses_68 : decode cX1_numberClasses 68 = .ok (.istore 4, 2) := by decide +kernel
theorem dX1_numberClasses_70 : decode cX1_numberClasses 70 = .ok (.iload 4, 2) := by decide +kernel
theorem dX1_numberClasses_72 : decode cX1_numberClasses 72 = .ok (.aload_n 1, 1) := by decide +kernel
theorem dX1_numberClasses_73 : decode cX1_numberClasses 73 = .ok (.getfield 21, 3) := by decide +kernel
theorem dX1_numberClasses_76 : decode cX1_numberClasses 76 = .ok (.if_icmp .ge 23, 3) := by decide +kernel
theorem dX1_numberClasses_79 : decode cX1_numberClasses 79 = .ok (.aload_n 1, 1) := by decide +kernel
theorem dX1_numberClasses_80 : decode cX1_numberClasses 80 = .ok (.getfield 27, 3) := by decide +kernel
theorem dX1_numberClasses_83 : decode cX1_numberClasses 83 = .ok (.iload 4, 2) := by decide +kernel
theorem dX1_numberClasses_85 : decode cX1_numberClasses 85 = .ok (.aload_n 0, 1) := by decide +kernel
theorem dX1_numberClasses_86 : decode cX1_numberClasses 86 = .ok (.getfield 18, 3) := by decide +kernel
theorem dX1_numberClasses_89 : decode cX1_numberClasses 89 = .ok (.iload 4, 2) := by decide +kernel
theorem dX1_numberClasses_91 : decode cX1_numberClasses 91 = .ok (.iaload, 1) := by decide +kernel
theorem dX1_numberClasses_92 : decode cX1_numberClasses 92 = .ok (.iastore, 1) := by decide +kernel
theorem dX1_numberClasses_93 : decode cX1_numberClasses 93 = .ok (.iinc 4 1, 3) := by decide +kernel
theorem dX1_numberClasses_96 : decode cX1_numberClasses 96 = .ok (.goto (-26), 3) := by decide +kernel
theorem dX1_numberClasses_99 : decode cX1_numberClasses 99 = .ok (.iload_n 3, 1) := by decide +kernel
theorem dX1_numberClasses_100 : decode cX1_numberClasses 100 = .ok (.ireturn, 1) := by decide +kernel
theorem dX1_areAlike_0 : decode cX1_areAlike 0 = .ok (.aload_n 1, 1) := by decide +kernel
theorem dX1_areAlike_1 : decode cX1_areAlike 1 = .ok (.getfield 27, 3) := by decide +kernel
theorem dX1_areAlike_4 : decode cX1_areAlike 4 = .ok (.iload_n 2, 1) := by decide +kernel
theorem dX1_areAlike_5 : decode cX1_areAlike 5 = .ok (.iaload, 1) := by decide +kernel
theorem dX1_areAlike_6 : decode cX1_areAlike 6 = .ok (.aload_n 1, 1) := by decide +kernel
theorem dX1_areAlike_7 : decode cX1_areAlike 7 = .ok (.getfield 27, 3) := by decide +kernel
theorem dX1_areAlike_10 : decode cX1_areAlike 10 = .ok (.iload_n 3, 1) := by decide +kernel
theorem dX1_areAlike_11 : decode cX1_areAlike 11 = .ok (.iaload, 1) := by decide +kernel
theorem dX1_areAlike_12 : decode cX1_areAlike 12 = .ok (.if_icmp .ne 28, 3) := by decide +kernel
theorem dX1_areAlike_15 : decode cX1_areAlike 15 = .ok (.aload_n 0, 1) := by decide +kernel
theorem dX1_areAlike_16 : decode cX1_areAlike 16 = .ok (.aload_n 1, 1) := by decide +kernel
theorem dX1_areAlike_17 : decode cX1_areAlike 17 = .ok (.iload_n 2, 1) := by decide +kernel
theorem dX1_areAlike_18 : decode cX1_areAlike 18 = .ok (.iload 4, 2) := by decide +kernel
theorem dX1_areAlike_20 : decode cX1_areAlike 20 = .ok (.iadd, 1) := by decide +kernel
theorem dX1_areAlike_21 : decode cX1_areAlike 21 = .ok (.invokevirtual 56, 3) := by decide +kernel
theorem dX1_areAlike_24 : decode cX1_areAlike 24 = .ok (.aload_n 0, 1) := by decide +kernel
theorem dX1_areAlike_25 : decode cX1_areAlike 25 = .ok (.aload_n 1, 1) := by decide +kernel
theorem dX1_areAlike_26 : decode cX1_areAlike 26 = .ok (.iload_n 3, 1) := by decide +kernel
theorem dX1_areAlike_27 : decode cX1_areAlike 27 = .ok (.iload 4, 2) := by decide +kernel
theorem dX1_areAlike_29 : decode cX1_areAlike 29 = .ok (.iadd, 1) := by decide +kernel
theorem dX1_areAlike_30 : decode cX1_areAlike 30 = .ok (.invokevirtual 56, 3) := by decide +kernel
theorem dX1_areAlike_33 : decode cX1_areAlike 33 = .ok (.if_icmp .ne 7, 3) := by decide +kernel
theorem dX1_areAlike_36 : decode cX1_areAlike 36 = .ok (.iconst 1, 1) := by decide +kernel
theorem dX1_areAlike_37 : decode cX1_areAlike 37 = .ok (.goto 4, 3) := by decide +kernel
theorem dX1_areAlike_40 : decode cX1_areAlike 40 = .ok (.iconst 0, 1) := by decide +kernel
theorem dX1_areAlike_41 : decode cX1_areAlike 41 = .ok (.ireturn, 1) := by decide +kernel
theorem dX1_classBehind_0 : decode cX1_classBehind 0 = .ok (.iload_n 2, 1) := by decide +kernel
theorem dX1_classBehind_1 : decode cX1_classBehind 1 = .ok (.aload_n 1, 1) := by decide +kernel
theorem dX1_classBehind_2 : decode cX1_classBehind 2 = .ok (.getfield 21, 3) := by decide +kernel
theorem dX1_classBehind_5 : decode cX1_classBehind 5 = .ok (.if_icmp .ge 12, 3) := by decide +kernel
theorem dX1_classBehind_8 : decode cX1_classBehind 8 = .ok (.aload_n 1, 1) := by decide +kernel
theorem dX1_classBehind_9 : decode cX1_classBehind 9 = .ok (.getfield 27, 3) := by decide +kernel
theorem dX1_classBehind_12 : decode cX1_classBehind 12 = .ok (.iload_n 2, 1) := by decide +kernel
theorem dX1_classBehind_13 : decode cX1_classBehind 13 = .ok (.iaload, 1) := by decide +kernel
theorem dX1_classBehind_14 : decode cX1_classBehind 14 = .ok (.goto 4, 3) := by decide +kernel
theorem dX1_classBehind_17 : decode cX1_classBehind 17 = .ok (.iconst (-1), 1) := by decide +kernel
theorem dX1_classBehind_18 : decode cX1_classBehind 18 = .ok (.ireturn, 1) := by decide +kernel
theorem dX1_tellCommons_0 : decode cX1_tellCommons 0 = .ok (.iconst 0, 1) := by decide +kernel
theorem dX1_tellCommons_1 : decode cX1_tellCommons 1 = .ok (.istore_n 2, 1) := by decide +kernel
theorem dX1_tellCommons_2 : decode cX1_tellCommons 2 = .ok (.iconst 0, 1) := by decide +kernel
theorem dX1_tellCommons_3 : decode cX1_tellCommons 3 = .ok (.istore_n 3, 1) := by decide +kernel
theorem dX1_tellCommons_4 : decode cX1_tellCommons 4 = .ok (.iload_n 3, 1) := by decide +kernel
theorem dX1_tellCommons_5 : decode cX1_tellCommons 5 = .ok (.aload_n 1, 1) := by decide +kernel
theorem dX1_tellCommons_6 : decode cX1_tellCommons 6 = .ok (.getfield 21, 3) := by decide +kernel
theorem dX1_tellCommons_9 : decode cX1_tellCommons 9 = .ok (.if_icmp .ge 69, 3) := by decide +kernel
theorem dX1_tellCommons_12 : decode cX1_tellCommons 12 = .ok (.aload_n 1, 1) := by decide +kernel
theorem dX1_tellCommons_13 : decode cX1_tellCommons 13 = .ok (.getfield 27, 3) := by decide +kernel
theorem dX1_tellCommons_16 : decode cX1_tellCommons 16 = .ok (.iload_n 3, 1) := by decide +kernel
theorem dX1_tellCommons_17 : decode cX1_tellCommons 17 = .ok (.iaload, 1) := by decide +kernel
theorem dX1_tellCommons_18 : decode cX1_tellCommons 18 = .ok (.istore 4, 2) := by decide +kernel
theorem dX1_tellCommons_20 : decode cX1_tellCommons 20 = .ok (.iload 4, 2) := by decide +kernel
theorem dX1_tellCommons_22 : decode cX1_tellCommons 22 = .ok (.ifCond .ne 8, 3) := by decide +kernel
theorem dX1_tellCommons_25 : decode cX1_tellCommons 25 = .ok (.iconst 0, 1) := by decide +kernel
theorem dX1_tellCommons_26 : decode cX1_tellCommons 26 = .ok (.istore_n 2, 1) := by decide +kernel
theorem dX1_tellCommons_27 : decode cX1_tellCommons 27 = .ok (.goto 37, 3) := by decide +kernel
theorem dX1_tellCommons_30 : decode cX1_tellCommons 30 = .ok (.aload_n 1, 1) := by decide +kernel
theorem dX1_tellCommons_31 : decode cX1_tellCommons 31 = .ok (.getfield 49, 3) := by decide +kernel
theorem dX1_tellCommons_34 : decode cX1_tellCommons 34 = .ok (.iload 4, 2) := by decide +kernel
theorem dX1_tellCommons_36 : decode cX1_tellCommons 36 = .ok (.iconst 1, 1) := by decide +kernel
theorem dX1_tellCommons_37 : decode cX1_tellCommons 37 = .ok (.isub, 1) := by decide +kernel
theorem dX1_tellCommons_38 : decode cX1_tellCommons 38 = .ok (.iaload, 1) := by decide +kernel
theorem dX1_tellCommons_39 : decode cX1_tellCommons 39 = .ok (.istore 5, 2) := by decide +kernel
theorem dX1_tellCommons_41 : decode cX1_tellCommons 41 = .ok (.iload_n 2, 1) := by decide +kernel
theorem dX1_tellCommons_42 : decode cX1_tellCommons 42 = .ok (.iconst 1, 1) := by decide +kernel
theorem dX1_tellCommons_43 : decode cX1_tellCommons 43 = .ok (.isub, 1) := by decide +kernel
theorem dX1_tellCommons_44 : decode cX1_tellCommons 44 = .ok (.iconst 0, 1) := by decide +kernel
theorem dX1_tellCommons_45 : decode cX1_tellCommons 45 = .ok (.invokestatic 59, 3) := by decide +kernel
theorem dX1_tellCommons_48 : decode cX1_tellCommons 48 = .ok (.istore_n 2, 1) := by decide +kernel
theorem dX1_tellCommons_49 : decode cX1_tellCommons 49 = .ok (.iload_n 2, 1) := by decide +kernel
theorem dX1_tellCommons_50 : decode cX1_tellCommons 50 = .ok (.aload_n 1, 1) := by decide +kernel
theorem dX1_tellCommons_51 : decode cX1_tellCommons 51 = .ok (.iload_n 3, 1) := by decide +kernel
theorem dX1_tellCommons_52 : decode cX1_tellCommons 52 = .ok (.iload_n 2, 1) := by decide +kernel
theorem dX1_tellCommons_53 : decode cX1_tellCommons 53 = .ok (.iadd, 1) := by decide +kernel
theorem dX1_tellCommons_54 : decode cX1_tellCommons 54 = .ok (.aload_n 1, 1) := by decide +kernel
theorem dX1_tellCommons_55 : decode cX1_tellCommons 55 = .ok (.iload 5, 2) := by decide +kernel
theorem dX1_tellCommons_57 : decode cX1_tellCommons 57 = .ok (.iload_n 2, 1) := by decide +kernel
theorem dX1_tellCommons_58 : decode cX1_tellCommons 58 = .ok (.iadd, 1) := by decide +kernel
theorem dX1_tellCommons_59 : decode cX1_tellCommons 59 = .ok (.invokevirtual 65, 3) := by decide +kernel
theorem dX1_tellCommons_62 : decode cX1_tellCommons 62 = .ok (.iadd, 1) := by decide +kernel
theorem dX1_tellCommons_63 : decode cX1_tellCommons 63 = .ok (.istore_n 2, 1) := by decide +kernel
theorem dX1_tellCommons_64 : decode cX1_tellCommons 64 = .ok (.aload_n 1, 1) := by decide +kernel
theorem dX1_tellCommons_65 : decode cX1_tellCommons 65 = .ok (.getfield 69, 3) := by decide +kernel
theorem dX1_tellCommons_68 : decode cX1_tellCommons 68 = .ok (.iload 4, 2) := by decide +kernel
theorem dX1_tellCommons_70 : decode cX1_tellCommons 70 = .ok (.iload_n 2, 1) := by decide +kernel
theorem dX1_tellCommons_71 : decode cX1_tellCommons 71 = .ok (.iastore, 1) := by decide +kernel
theorem dX1_tellCommons_72 : decode cX1_tellCommons 72 = .ok (.iinc 3 1, 3) := by decide +kernel
theorem dX1_tellCommons_75 : decode cX1_tellCommons 75 = .ok (.goto (-71), 3) := by decide +kernel
theorem dX1_tellCommons_78 : decode cX1_tellCommons 78 = .ok (.return_, 1) := by decide +kernel
theorem dX2_init_0 : decode cX2_init 0 = .ok (.aload_n 0, 1) := by decide +kernel
theorem dX2_init_1 : decode cX2_init 1 = .ok (.invokespecial 3, 3) := by decide +kernel
theorem dX2_init_4 : decode cX2_init 4 = .ok (.aload_n 0, 1) := by decide +kernel
theorem dX2_init_5 : decode cX2_init 5 = .ok (.bipush 65, 2) := by decide +kernel
theorem dX2_init_7 : decode cX2_init 7 = .ok (.newarray .int, 2) := by decide +kernel
theorem dX2_init_9 : decode cX2_init 9 = .ok (.putfield 9, 3) := by decide +kernel
theorem dX2_init_12 : decode cX2_init 12 = .ok (.return_, 1) := by decide +kernel
theorem dX2_sizeFrom_0 : decode cX2_sizeFrom 0 = .ok (.iconst 1, 1) := by decide +kernel
theorem dX2_sizeFrom_1 : decode cX2_sizeFrom 1 = .ok (.istore_n 3, 1) := by decide +kernel
theorem dX2_sizeFrom_2 : decode cX2_sizeFrom 2 = .ok (.iload_n 2, 1) := by decide +kernel
theorem dX2_sizeFrom_3 : decode cX2_sizeFrom 3 = .ok (.aload_n 1, 1) := by decide +kernel
theorem dX2_sizeFrom_4 : decode cX2_sizeFrom 4 = .ok (.getfield 15, 3) := by decide +kernel
theorem dX2_sizeFrom_7 : decode cX2_sizeFrom 7 = .ok (.if_icmp .ge 25, 3) := by decide +kernel
theorem dX2_sizeFrom_10 : decode cX2_sizeFrom 10 = .ok (.iload_n 3, 1) := by decide +kernel
theorem dX2_sizeFrom_11 : decode cX2_sizeFrom 11 = .ok (.aload_n 0, 1) := by decide +kernel
theorem dX2_sizeFrom_12 : decode cX2_sizeFrom 12 = .ok (.aload_n 1, 1) := by decide +kernel
theorem dX2_sizeFrom_13 : decode cX2_sizeFrom 13 = .ok (.iload_n 2, 1) := by decide +kernel
theorem dX2_sizeFrom_14 : decode cX2_sizeFrom 14 = .ok (.invokevirtual 21, 3) := by decide +kernel
theorem dX2_sizeFrom_17 : decode cX2_sizeFrom 17 = .ok (.invokestatic 25, 3) := by decide +kernel
theorem dX2_sizeFrom_20 : decode cX2_sizeFrom 20 = .ok (.istore_n 3, 1) := by decide +kernel
theorem dX2_sizeFrom_21 : decode cX2_sizeFrom 21 = .ok (.iload_n 3, 1) := by decide +kernel
theorem dX2_sizeFrom_22 : decode cX2_sizeFrom 22 = .ok (.aload_n 0, 1) := by decide +kernel
theorem dX2_sizeFrom_23 : decode cX2_sizeFrom 23 = .ok (.aload_n 1, 1) := by decide +kernel
theorem dX2_sizeFrom_24 : decode cX2_sizeFrom 24 = .ok (.iload_n 2, 1) := by decide +kernel
theorem dX2_sizeFrom_25 : decode cX2_sizeFrom 25 = .ok (.invokevirtual 31, 3) := by decide +kernel
theorem dX2_sizeFrom_28 : decode cX2_sizeFrom 28 = .ok (.invokestatic 25, 3) := by decide +kernel
theorem dX2_sizeFrom_31 : decode cX2_sizeFrom 31 = .ok (.istore_n 3, 1) := by decide +kernel
theorem dX2_sizeFrom_32 : decode cX2_sizeFrom 32 = .ok (.iload_n 3, 1) := by decide +kernel
theorem dX2_sizeFrom_33 : decode cX2_sizeFrom 33 = .ok (.ireturn, 1) := by decide +kernel
theorem dX2_commonWithLowerAhead_0 : decode cX2_commonWithLowerAhead 0 = .ok (.aload_n 1, 1) := by decide +kernel
theorem dX2_commonWithLowerAhead_1 : decode cX2_commonWithLowerAhead 1 = .ok (.getfield 15, 3) := by decide +kernel
theorem dX2_commonWithLowerAhead_4 : decode cX2_commonWithLowerAhead 4 = .ok (.iload_n 2, 1) := by decide +kernel
theorem dX2_commonWithLowerAhead_5 : decode cX2_commonWithLowerAhead 5 = .ok (.isub, 1) := by decide +kernel
theorem dX2_commonWithLowerAhead_6 : decode cX2_commonWithLowerAhead 6 = .ok (.istore_n 3, 1) := by decide +kernel
theorem dX2_commonWithLowerAhead_7 : decode cX2_commonWithLowerAhead 7 = .ok (.aload_n 1, 1) := by decide +kernel
theorem dX2_commonWithLowerAhead_8 : decode cX2_commonWithLowerAhead 8 = .ok (.getfield 34, 3) := by decide +kernel
theorem dX2_commonWithLowerAhead_11 : decode cX2_commonWithLowerAhead 11 = .ok (.iload_n 2, 1) := by decide +kernel
theorem dX2_commonWithLowerAhead_12 : decode cX2_commonWithLowerAhead 12 = .ok (.iaload, 1) := by decide +kernel
theorem dX2_commonWithLowerAhead_13 : decode cX2_commonWithLowerAhead 13 = .ok (.istore 4, 2) := by decide +kernel
theorem dX2_commonWithLowerAhead_15 : decode cX2_commonWithLowerAhead 15 = .ok (.iload 4, 2) := by decide +kernel
theorem dX2_commonWithLowerAhead_17 : decode cX2_commonWithLowerAhead 17 = .ok (.ifCond .le 36, 3) := by decide +kernel
theorem dX2_commonWithLowerAhead_20 : decode cX2_commonWithLowerAhead 20 = .ok (.iload_n 3, 1) := by decide +kernel
theorem dX2_commonWithLowerAhead_21 : decode cX2_commonWithLowerAhead 21 = .ok (.aload_n 1, 1) := by decide +kernel
theorem dX2_commonWithLowerAhead_22 : decode cX2_commonWithLowerAhead 22 = .ok (.getfield 37, 3) := by decide +kernel
theorem dX2_commonWithLowerAhead_25 : decode cX2_commonWithLowerAhead 25 = .ok (.iload 4, 2) := by decide +kernel
theorem dX2_commonWithLowerAhead_27 : decode cX2_commonWithLowerAhead 27 = .ok (.iaload, 1) := by decide +kernel
theorem dX2_commonWithLowerAhead_28 : decode cX2_commonWithLowerAhead 28 = .ok (.invokestatic 40, 3) := by decide +kernel
theorem dX2_commonWithLowerAhead_31 : decode cX2_commonWithLowerAhead 31 = .ok (.istore_n 3, 1) := by decide +kernel
theorem dX2_commonWithLowerAhead_32 : decode cX2_commonWithLowerAhead 32 = .ok (.aload_n 1, 1) := by decide +kernel
theorem dX2_commonWithLowerAhead_33 : decode cX2_commonWithLowerAhead 33 = .ok (.getfield 43, 3) := by decide +kernel
theorem dX2_commonWithLowerAhead_36 : decode cX2_commonWithLowerAhead 36 = .ok (.iload 4, 2) := by decide +kernel
theorem dX2_commonWithLowerAhead_38 : decode cX2_commonWithLowerAhead 38 = .ok (.iconst 1, 1) := by decide +kernel
theorem dX2_commonWithLowerAhead_39 : decode cX2_commonWithLowerAhead 39 = .ok (.isub, 1) := by decide +kernel
theorem dX2_commonWithLowerAhead_40 : decode cX2_commonWithLowerAhead 40 = .ok (.iaload, 1) := by decide +kernel
theorem dX2_commonWithLowerAhead_41 : decode cX2_commonWithLowerAhead 41 = .ok (.iload_n 2, 1) := by decide +kernel
theorem dX2_commonWithLowerAhead_42 : decode cX2_commonWithLowerAhead 42 = .ok (.if_icmp .ge 5, 3) := by decide +kernel
theorem dX2_commonWithLowerAhead_45 : decode cX2_commonWithLowerAhead 45 = .ok (.iload_n 3, 1) := by decide +kernel
theorem dX2_commonWithLowerAhead_46 : decode cX2_commonWithLowerAhead 46 = .ok (.ireturn, 1) := by decide +kernel
theorem dX2_commonWithLowerAhead_47 : decode cX2_commonWithLowerAhead 47 = .ok (.iinc 4 (-1), 3) := by decide +kernel
theorem dX2_commonWithLowerAhead_50 : decode cX2_commonWithLowerAhead 50 = .ok (.goto (-35), 3) := by decide +kernel
theorem dX2_commonWithLowerAhead_53 : decode cX2_commonWithLowerAhead 53 = .ok (.iconst 0, 1) := by decide +kernel
theorem dX2_commonWithLowerAhead_54 : decode cX2_commonWithLowerAhead 54 = .ok (.ireturn, 1) := by decide +kernel
theorem dX2_commonWithUpperAhead_0 : decode cX2_commonWithUpperAhead 0 = .ok (.aload_n 1, 1) := by decide +kernel
theorem dX2_commonWithUpperAhead_1 : decode cX2_commonWithUpperAhead 1 = .ok (.getfield 15, 3) := by decide +kernel
theorem dX2_commonWithUpperAhead_4 : decode cX2_commonWithUpperAhead 4 = .ok (.iload_n 2, 1) := by decide +kernel
theorem dX2_commonWithUpperAhead_5 : decode cX2_commonWithUpperAhead 5 = .ok (.isub, 1) := by decide +kernel
theorem dX2_commonWithUpperAhead_6 : decode cX2_commonWithUpperAhead 6 = .ok (.istore_n 3, 1) := by decide +kernel
theorem dX2_commonWithUpperAhead_7 : decode cX2_commonWithUpperAhead 7 = .ok (.aload_n 1, 1) := by decide +kernel
theorem dX2_commonWithUpperAhead_8 : decode cX2_commonWithUpperAhead 8 = .ok (.getfield 34, 3) := by decide +kernel
theorem dX2_commonWithUpperAhead_11 : decode cX2_commonWithUpperAhead 11 = .ok (.iload_n 2, 1) := by decide +kernel
theorem dX2_commonWithUpperAhead_12 : decode cX2_commonWithUpperAhead 12 = .ok (.iaload, 1) := by decide +kernel
theorem dX2_commonWithUpperAhead_13 : decode cX2_commonWithUpperAhead 13 = .ok (.iconst 1, 1) := by decide +kernel
theorem dX2_commonWithUpperAhead_14 : decode cX2_commonWithUpperAhead 14 = .ok (.iadd, 1) := by decide +kernel
theorem dX2_commonWithUpperAhead_15 : decode cX2_commonWithUpperAhead 15 = .ok (.istore 4, 2) := by decide +kernel
theorem dX2_commonWithUpperAhead_17 : decode cX2_commonWithUpperAhead 17 = .ok (.iload 4, 2) := by decide +kernel
theorem dX2_commonWithUpperAhead_19 : decode cX2_commonWithUpperAhead 19 = .ok (.aload_n 1, 1) := by decide +kernel
theorem dX2_commonWithUpperAhead_20 : decode cX2_commonWithUpperAhead 20 = .ok (.getfield 15, 3) := by decide +kernel
theorem dX2_commonWithUpperAhead_23 : decode cX2_commonWithUpperAhead 23 = .ok (.if_icmp .ge 34, 3) := by decide +kernel
theorem dX2_commonWithUpperAhead_26 : decode cX2_commonWithUpperAhead 26 = .ok (.iload_n 3, 1) := by decide +kernel
theorem dX2_commonWithUpperAhead_27 : decode cX2_commonWithUpperAhead 27 = .ok (.aload_n 1, 1) := by decide +kernel
theorem dX2_commonWithUpperAhead_28 : decode cX2_commonWithUpperAhead 28 = .ok (.getfield 37, 3) := by decide +kernel
theorem dX2_commonWithUpperAhead_31 : decode cX2_commonWithUpperAhead 31 = .ok (.iload 4, 2) := by decide +kernel
theorem dX2_commonWithUpperAhead_33 : decode cX2_commonWithUpperAhead 33 = .ok (.iaload, 1) := by decide +kernel
theorem dX2_commonWithUpperAhead_34 : decode cX2_commonWithUpperAhead 34 = .ok (.invokestatic 40, 3) := by decide +kernel
theorem dX2_commonWithUpperAhead_37 : decode cX2_commonWithUpperAhead 37 = .ok (.istore_n 3, 1) := by decide +kernel
theorem dX2_commonWithUpperAhead_38 : decode cX2_commonWithUpperAhead 38 = .ok (.aload_n 1, 1) := by decide +kernel
theorem dX2_commonWithUpperAhead_39 : decode cX2_commonWithUpperAhead 39 = .ok (.getfield 43, 3) := by decide +kernel
theorem dX2_commonWithUpperAhead_42 : decode cX2_commonWithUpperAhead 42 = .ok (.iload 4, 2) := by decide +kernel
theorem dX2_commonWithUpperAhead_44 : decode cX2_commonWithUpperAhead 44 = .ok (.iaload, 1) := by decide +kernel
theorem dX2_commonWithUpperAhead_45 : decode cX2_commonWithUpperAhead 45 = .ok (.iload_n 2, 1) := by decide +kernel
theorem dX2_commonWithUpperAhead_46 : decode cX2_commonWithUpperAhead 46 = .ok (.if_icmp .ge 5, 3) := by decide +kernel
theorem dX2_commonWithUpperAhead_49 : decode cX2_commonWithUpperAhead 49 = .ok (.iload_n 3, 1) := by decide +kernel
theorem dX2_commonWithUpperAhead_50 : decode cX2_commonWithUpperAhead 50 = .ok (.ireturn, 1) := by decide +kernel
theorem dX2_commonWithUpperAhead_51 : decode cX2_commonWithUpperAhead 51 = .ok (.iinc 4 1, 3) := by decide +kernel
theorem dX2_commonWithUpperAhead_54 : decode cX2_commonWithUpperAhead 54 = .ok (.goto (-37), 3) := by decide +kernel
theorem dX2_commonWithUpperAhead_57 : decode cX2_commonWithUpperAhead 57 = .ok (.iconst 0, 1) := by decide +kernel
theorem dX2_commonWithUpperAhead_58 : decode cX2_commonWithUpperAhead 58 = .ok (.ireturn, 1) := by decide +kernel
theorem dX2_fewestWords_0 : decode cX2_fewestWords 0 = .ok (.aload_n 0, 1) := by decide +kernel
theorem dX2_fewestWords_1 : decode cX2_fewestWords 1 = .ok (.getfield 9, 3) := by decide +kernel
theorem dX2_fewestWords_4 : decode cX2_fewestWords 4 = .ok (.aload_n 1, 1) := by decide +kernel
theorem dX2_fewestWords_5 : decode cX2_fewestWords 5 = .ok (.getfield 15, 3) := by decide +kernel
theorem dX2_fewestWords_8 : decode cX2_fewestWords 8 = .ok (.iconst 0, 1) := by decide +kernel
theorem dX2_fewestWords_9 : decode cX2_fewestWords 9 = .ok (.iastore, 1) := by decide +kernel
theorem dX2_fewestWords_10 : decode cX2_fewestWords 10 = .ok (.aload_n 1, 1) := by decide +kernel
theorem dX2_fewestWords_11 : decode cX2_fewestWords 11 = .ok (.getfield 15, 3) := by decide +kernel
theorem dX2_fewestWords_14 : decode cX2_fewestWords 14 = .ok (.iconst 1, 1) := by decide +kernel
theorem dX2_fewestWords_15 : decode cX2_fewestWords 15 = .ok (.isub, 1) := by decide +kernel
theorem dX2_fewestWords_16 : decode cX2_fewestWords 16 = .ok (.istore_n 2, 1) := by decide +kernel
theorem dX2_fewestWords_17 : decode cX2_fewestWords 17 = .ok (.iload_n 2, 1) := by decide +kernel
theorem dX2_fewestWords_18 : decode cX2_fewestWords 18 = .ok (.ifCond .lt 67, 3) := by decide +kernel
theorem dX2_fewestWords_21 : decode cX2_fewestWords 21 = .ok (.aload_n 0, 1) := by decide +kernel
theorem dX2_fewestWords_22 : decode cX2_fewestWords 22 = .ok (.aload_n 1, 1) := by decide +kernel
theorem dX2_fewestWords_23 : decode cX2_fewestWords 23 = .ok (.iload_n 2, 1) := by decide +kernel
theorem dX2_fewestWords_24 : decode cX2_fewestWords 24 = .ok (.invokevirtual 46, 3) := by decide +kernel
theorem dX2_fewestWords_27 : decode cX2_fewestWords 27 = .ok (.istore_n 3, 1) := by decide +kernel
theorem dX2_fewestWords_28 : decode cX2_fewestWords 28 = .ok (.aload_n 0, 1) := by decide +kernel
theorem dX2_fewestWords_29 : decode cX2_fewestWords 29 = .ok (.getfield 9, 3) := by decide +kernel
theorem dX2_fewestWords_32 : decode cX2_fewestWords 32 = .ok (.iload_n 2, 1) := by decide +kernel
theorem dX2_fewestWords_33 : decode cX2_fewestWords 33 = .ok (.iconst 1, 1) := by decide +kernel
theorem dX2_fewestWords_34 : decode cX2_fewestWords 34 = .ok (.iadd, 1) := by decide +kernel
theorem dX2_fewestWords_35 : decode cX2_fewestWords 35 = .ok (.iaload, 1) := by decide +kernel
theorem dX2_fewestWords_36 : decode cX2_fewestWords 36 = .ok (.istore 4, 2) := by decide +kernel
theorem dX2_fewestWords_38 : decode cX2_fewestWords 38 = .ok (.iconst 2, 1) := by decide +kernel
theorem dX2_fewestWords_39 : decode cX2_fewestWords 39 = .ok (.istore 5, 2) := by decide +kernel
theorem dX2_fewestWords_41 : decode cX2_fewestWords 41 = .ok (.iload 5, 2) := by decide +kernel
theorem dX2_fewestWords_43 : decode cX2_fewestWords 43 = .ok (.iload_n 3, 1) := by decide +kernel
theorem dX2_fewestWords_44 : decode cX2_fewestWords 44 = .ok (.if_icmp .gt 25, 3) := by decide +kernel
theorem dX2_fewestWords_47 : decode cX2_fewestWords 47 = .ok (.iload 4, 2) := by decide +kernel
theorem dX2_fewestWords_49 : decode cX2_fewestWords 49 = .ok (.aload_n 0, 1) := by decide +kernel
theorem dX2_fewestWords_50 : decode cX2_fewestWords 50 = .ok (.getfield 9, 3) := by decide +kernel
theorem dX2_fewestWords_53 : decode cX2_fewestWords 53 = .ok (.iload_n 2, 1) := by decide +kernel
theorem dX2_fewestWords_54 : decode cX2_fewestWords 54 = .ok (.iload 5, 2) := by decide +kernel
theorem dX2_fewestWords_56 : decode cX2_fewestWords 56 = .ok (.iadd, 1) := by decide +kernel
theorem dX2_fewestWords_57 : decode cX2_fewestWords 57 = .ok (.iaload, 1) := by decide +kernel
theorem dX2_fewestWords_58 : decode cX2_fewestWords 58 = .ok (.invokestatic 40, 3) := by decide +kernel
theorem dX2_fewestWords_61 : decode cX2_fewestWords 61 = .ok (.istore 4, 2) := by decide +kernel
theorem dX2_fewestWords_63 : decode cX2_fewestWords 63 = .ok (.iinc 5 1, 3) := by decide +kernel
theorem dX2_fewestWords_66 : decode cX2_fewestWords 66 = .ok (.goto (-25), 3) := by decide +kernel
theorem dX2_fewestWords_69 : decode cX2_fewestWords 69 = .ok (.aload_n 0, 1) := by decide +kernel
theorem dX2_fewestWords_70 : decode cX2_fewestWords 70 = .ok (.getfield 9, 3) := by decide +kernel
theorem dX2_fewestWords_73 : decode cX2_fewestWords 73 = .ok (.iload_n 2, 1) := by decide +kernel
theorem dX2_fewestWords_74 : decode cX2_fewestWords 74 = .ok (.iload 4, 2) := by decide +kernel
theorem dX2_fewestWords_76 : decode cX2_fewestWords 76 = .ok (.iconst 1, 1) := by decide +kernel
theorem dX2_fewestWords_77 : decode cX2_fewestWords 77 = .ok (.iadd, 1) := by decide +kernel
theorem dX2_fewestWords_78 : decode cX2_fewestWords 78 = .ok (.iastore, 1) := by decide +kernel
theorem dX2_fewestWords_79 : decode cX2_fewestWords 79 = .ok (.iinc 2 (-1), 3) := by decide +kernel
theorem dX2_fewestWords_82 : decode cX2_fewestWords 82 = .ok (.goto (-65), 3) := by decide +kernel
theorem dX2_fewestWords_85 : decode cX2_fewestWords 85 = .ok (.aload_n 0, 1) := by decide +kernel
theorem dX2_fewestWords_86 : decode cX2_fewestWords 86 = .ok (.getfield 9, 3) := by decide +kernel
theorem dX2_fewestWords_89 : decode cX2_fewestWords 89 = .ok (.iconst 0, 1) := by decide +kernel
theorem dX2_fewestWords_90 : decode cX2_fewestWords 90 = .ok (.iaload, 1) := by decide +kernel
theorem dX2_fewestWords_91 : decode cX2_fewestWords 91 = .ok (.ireturn, 1) := by decide +kernel
theorem dX3_init_0 : decode cX3_init 0 = .ok (.aload_n 0, 1) := by decide +kernel
theorem dX3_init_1 : decode cX3_init 1 = .ok (.invokespecial 1, 3) := by decide +kernel
theorem dX3_init_4 : decode cX3_init 4 = .ok (.return_, 1) := by decide +kernel
theorem dX3_sizeFrom_0 : decode cX3_sizeFrom 0 = .ok (.iload_n 2, 1) := by decide +kernel
theorem dX3_sizeFrom_1 : decode cX3_sizeFrom 1 = .ok (.istore_n 3, 1) := by decide +kernel
theorem dX3_sizeFrom_2 : decode cX3_sizeFrom 2 = .ok (.iload_n 2, 1) := by decide +kernel
theorem dX3_sizeFrom_3 : decode cX3_sizeFrom 3 = .ok (.iconst 1, 1) := by decide +kernel
theorem dX3_sizeFrom_4 : decode cX3_sizeFrom 4 = .ok (.iadd, 1) := by decide +kernel
theorem dX3_sizeFrom_5 : decode cX3_sizeFrom 5 = .ok (.istore 4, 2) := by decide +kernel
theorem dX3_sizeFrom_7 : decode cX3_sizeFrom 7 = .ok (.iload 4, 2) := by decide +kernel
theorem dX3_sizeFrom_9 : decode cX3_sizeFrom 9 = .ok (.aload_n 1, 1) := by decide +kernel
theorem dX3_sizeFrom_10 : decode cX3_sizeFrom 10 = .ok (.getfield 7, 3) := by decide +kernel
theorem dX3_sizeFrom_13 : decode cX3_sizeFrom 13 = .ok (.if_icmp .ge 49, 3) := by decide +kernel
theorem dX3_sizeFrom_16 : decode cX3_sizeFrom 16 = .ok (.aload_n 1, 1) := by decide +kernel
theorem dX3_sizeFrom_17 : decode cX3_sizeFrom 17 = .ok (.getfield 13, 3) := by decide +kernel
theorem dX3_sizeFrom_20 : decode cX3_sizeFrom 20 = .ok (.iload_n 3, 1) := by decide +kernel
theorem dX3_sizeFrom_21 : decode cX3_sizeFrom 21 = .ok (.caload, 1) := by decide +kernel
theorem dX3_sizeFrom_22 : decode cX3_sizeFrom 22 = .ok (.aload_n 1, 1) := by decide +kernel
theorem dX3_sizeFrom_23 : decode cX3_sizeFrom 23 = .ok (.getfield 13, 3) := by decide +kernel
theorem dX3_sizeFrom_26 : decode cX3_sizeFrom 26 = .ok (.iload 4, 2) := by decide +kernel
theorem dX3_sizeFrom_28 : decode cX3_sizeFrom 28 = .ok (.caload, 1) := by decide +kernel
theorem dX3_sizeFrom_29 : decode cX3_sizeFrom 29 = .ok (.if_icmp .gt 33, 3) := by decide +kernel
theorem dX3_sizeFrom_32 : decode cX3_sizeFrom 32 = .ok (.aload_n 1, 1) := by decide +kernel
theorem dX3_sizeFrom_33 : decode cX3_sizeFrom 33 = .ok (.getfield 13, 3) := by decide +kernel
theorem dX3_sizeFrom_36 : decode cX3_sizeFrom 36 = .ok (.iload_n 3, 1) := by decide +kernel
theorem dX3_sizeFrom_37 : decode cX3_sizeFrom 37 = .ok (.caload, 1) := by decide +kernel
theorem dX3_sizeFrom_38 : decode cX3_sizeFrom 38 = .ok (.aload_n 1, 1) := by decide +kernel
theorem dX3_sizeFrom_39 : decode cX3_sizeFrom 39 = .ok (.getfield 13, 3) := by decide +kernel
theorem dX3_sizeFrom_42 : decode cX3_sizeFrom 42 = .ok (.iload 4, 2) := by decide +kernel
theorem dX3_sizeFrom_44 : decode cX3_sizeFrom 44 = .ok (.caload, 1) := by decide +kernel
theorem dX3_sizeFrom_45 : decode cX3_sizeFrom 45 = .ok (.if_icmp .ge 7, 3) := by decide +kernel
theorem dX3_sizeFrom_48 : decode cX3_sizeFrom 48 = .ok (.iload_n 2, 1) := by decide +kernel
theorem dX3_sizeFrom_49 : decode cX3_sizeFrom 49 = .ok (.goto 6, 3) := by decide +kernel
theorem dX3_sizeFrom_52 : decode cX3_sizeFrom 52 = .ok (.iload_n 3, 1) := by decide +kernel
theorem dX3_sizeFrom_53 : decode cX3_sizeFrom 53 = .ok (.iconst 1, 1) := by decide +kernel
theorem dX3_sizeFrom_54 : decode cX3_sizeFrom 54 = .ok (.iadd, 1) := by decide +kernel
theorem dX3_sizeFrom_55 : decode cX3_sizeFrom 55 = .ok (.istore_n 3, 1) := by decide +kernel
theorem dX3_sizeFrom_56 : decode cX3_sizeFrom 56 = .ok (.iinc 4 1, 3) := by decide +kernel
theorem dX3_sizeFrom_59 : decode cX3_sizeFrom 59 = .ok (.goto (-52), 3) := by decide +kernel
theorem dX3_sizeFrom_62 : decode cX3_sizeFrom 62 = .ok (.iload 4, 2) := by decide +kernel
theorem dX3_sizeFrom_64 : decode cX3_sizeFrom 64 = .ok (.iload_n 3, 1) := by decide +kernel
theorem dX3_sizeFrom_65 : decode cX3_sizeFrom 65 = .ok (.isub, 1) := by decide +kernel
theorem dX3_sizeFrom_66 : decode cX3_sizeFrom 66 = .ok (.ireturn, 1) := by decide +kernel
theorem dX3_agreesWith_0 : decode cX3_agreesWith 0 = .ok (.iconst 0, 1) := by decide +kernel
theorem dX3_agreesWith_1 : decode cX3_agreesWith 1 = .ok (.istore_n 2, 1) := by decide +kernel
theorem dX3_agreesWith_2 : decode cX3_agreesWith 2 = .ok (.aload_n 1, 1) := by decide +kernel
theorem dX3_agreesWith_3 : decode cX3_agreesWith 3 = .ok (.getfield 7, 3) := by decide +kernel
theorem dX3_agreesWith_6 : decode cX3_agreesWith 6 = .ok (.istore_n 3, 1) := by decide +kernel
theorem dX3_agreesWith_7 : decode cX3_agreesWith 7 = .ok (.iconst 0, 1) := by decide +kernel
theorem dX3_agreesWith_8 : decode cX3_agreesWith 8 = .ok (.istore 4, 2) := by decide +kernel
theorem dX3_agreesWith_10 : decode cX3_agreesWith 10 = .ok (.iload 4, 2) := by decide +kernel
theorem dX3_agreesWith_12 : decode cX3_agreesWith 12 = .ok (.aload_n 1, 1) := by decide +kernel
theorem dX3_agreesWith_13 : decode cX3_agreesWith 13 = .ok (.getfield 7, 3) := by decide +kernel
theorem dX3_agreesWith_16 : decode cX3_agreesWith 16 = .ok (.if_icmp .ge 68, 3) := by decide +kernel
theorem dX3_agreesWith_19 : decode cX3_agreesWith 19 = .ok (.aload_n 1, 1) := by decide +kernel
theorem dX3_agreesWith_20 : decode cX3_agreesWith 20 = .ok (.getfield 17, 3) := by decide +kernel
theorem dX3_agreesWith_23 : decode cX3_agreesWith 23 = .ok (.iload 4, 2) := by decide +kernel
theorem dX3_agreesWith_25 : decode cX3_agreesWith 25 = .ok (.iaload, 1) := by decide +kernel
theorem dX3_agreesWith_26 : decode cX3_agreesWith 26 = .ok (.iload_n 3, 1) := by decide +kernel
theorem dX3_agreesWith_27 : decode cX3_agreesWith 27 = .ok (.if_icmp .ge 7, 3) := by decide +kernel
theorem dX3_agreesWith_30 : decode cX3_agreesWith 30 = .ok (.iconst 1, 1) := by decide +kernel
theorem dX3_agreesWith_31 : decode cX3_agreesWith 31 = .ok (.goto 4, 3) := by decide +kernel
theorem dX3_agreesWith_34 : decode cX3_agreesWith 34 = .ok (.iconst 0, 1) := by decide +kernel
theorem dX3_agreesWith_35 : decode cX3_agreesWith 35 = .ok (.istore 5, 2) := by decide +kernel
theorem dX3_agreesWith_37 : decode cX3_agreesWith 37 = .ok (.iload 5, 2) := by decide +kernel
theorem dX3_agreesWith_39 : decode cX3_agreesWith 39 = .ok (.iload 4, 2) := by decide +kernel
theorem dX3_agreesWith_41 : decode cX3_agreesWith 41 = .ok (.iload_n 2, 1) := by decide +kernel
theorem dX3_agreesWith_42 : decode cX3_agreesWith 42 = .ok (.if_icmp .ne 7, 3) := by decide +kernel
theorem dX3_agreesWith_45 : decode cX3_agreesWith 45 = .ok (.iconst 1, 1) := by decide +kernel
theorem dX3_agreesWith_46 : decode cX3_agreesWith 46 = .ok (.goto 4, 3) := by decide +kernel
theorem dX3_agreesWith_49 : decode cX3_agreesWith 49 = .ok (.iconst 0, 1) := by decide +kernel
theorem dX3_agreesWith_50 : decode cX3_agreesWith 50 = .ok (.if_icmp .eq 5, 3) := by decide +kernel
theorem dX3_agreesWith_53 : decode cX3_agreesWith 53 = .ok (.iconst 0, 1) := by decide +kernel
theorem dX3_agreesWith_54 : decode cX3_agreesWith 54 = .ok (.ireturn, 1) := by decide +kernel
theorem dX3_agreesWith_55 : decode cX3_agreesWith 55 = .ok (.iload 5, 2) := by decide +kernel
theorem dX3_agreesWith_57 : decode cX3_agreesWith 57 = .ok (.ifCond .eq 21, 3) := by decide +kernel
theorem dX3_agreesWith_60 : decode cX3_agreesWith 60 = .ok (.aload_n 1, 1) := by decide +kernel
theorem dX3_agreesWith_61 : decode cX3_agreesWith 61 = .ok (.getfield 17, 3) := by decide +kernel
theorem dX3_agreesWith_64 : decode cX3_agreesWith 64 = .ok (.iload 4, 2) := by decide +kernel
theorem dX3_agreesWith_66 : decode cX3_agreesWith 66 = .ok (.iaload, 1) := by decide +kernel
theorem dX3_agreesWith_67 : decode cX3_agreesWith 67 = .ok (.istore_n 3, 1) := by decide +kernel
theorem dX3_agreesWith_68 : decode cX3_agreesWith 68 = .ok (.iload_n 2, 1) := by decide +kernel
theorem dX3_agreesWith_69 : decode cX3_agreesWith 69 = .ok (.aload_n 0, 1) := by decide +kernel
theorem dX3_agreesWith_70 : decode cX3_agreesWith 70 = .ok (.aload_n 1, 1) := by decide +kernel
theorem dX3_agreesWith_71 : decode cX3_agreesWith 71 = .ok (.iload 4, 2) := by decide +kernel
theorem dX3_agreesWith_73 : decode cX3_agreesWith 73 = .ok (.invokevirtual 21, 3) := by decide +kernel
theorem dX3_agreesWith_76 : decode cX3_agreesWith 76 = .ok (.iadd, 1) := by decide +kernel
theorem dX3_agreesWith_77 : decode cX3_agreesWith 77 = .ok (.istore_n 2, 1) := by decide +kernel
theorem dX3_agreesWith_78 : decode cX3_agreesWith 78 = .ok (.iinc 4 1, 3) := by decide +kernel
theorem dX3_agreesWith_81 : decode cX3_agreesWith 81 = .ok (.goto (-71), 3) := by decide +kernel
theorem dX3_agreesWith_84 : decode cX3_agreesWith 84 = .ok (.iconst 1, 1) := by decide +kernel
theorem dX3_agreesWith_85 : decode cX3_agreesWith 85 = .ok (.ireturn, 1) := by decide +kernel
theorem dX4_allSquares_0 : decode cX4_allSquares 0 = .ok (.iconst 0, 1) := by decide +kernel
theorem dX4_allSquares_1 : decode cX4_allSquares 1 = .ok (.istore_n 1, 1) := by decide +kernel
theorem dX4_allSquares_2 : decode cX4_allSquares 2 = .ok (.iconst 1, 1) := by decide +kernel
theorem dX4_allSquares_3 : decode cX4_allSquares 3 = .ok (.istore_n 2, 1) := by decide +kernel
theorem dX4_allSquares_4 : decode cX4_allSquares 4 = .ok (.iconst 2, 1) := by decide +kernel
theorem dX4_allSquares_5 : decode cX4_allSquares 5 = .ok (.iload_n 2, 1) := by decide +kernel
theorem dX4_allSquares_6 : decode cX4_allSquares 6 = .ok (.imul, 1) := by decide +kernel
theorem dX4_allSquares_7 : decode cX4_allSquares 7 = .ok (.aload_n 0, 1) := by decide +kernel
theorem dX4_allSquares_8 : decode cX4_allSquares 8 = .ok (.getfield 7, 3) := by decide +kernel
theorem dX4_allSquares_11 : decode cX4_allSquares 11 = .ok (.if_icmp .gt 67, 3) := by decide +kernel
theorem dX4_allSquares_14 : decode cX4_allSquares 14 = .ok (.iconst 0, 1) := by decide +kernel
theorem dX4_allSquares_15 : decode cX4_allSquares 15 = .ok (.istore_n 3, 1) := by decide +kernel
theorem dX4_allSquares_16 : decode cX4_allSquares 16 = .ok (.aload_n 0, 1) := by decide +kernel
theorem dX4_allSquares_17 : decode cX4_allSquares 17 = .ok (.getfield 7, 3) := by decide +kernel
theorem dX4_allSquares_20 : decode cX4_allSquares 20 = .ok (.iload_n 2, 1) := by decide +kernel
theorem dX4_allSquares_21 : decode cX4_allSquares 21 = .ok (.isub, 1) := by decide +kernel
theorem dX4_allSquares_22 : decode cX4_allSquares 22 = .ok (.iconst 1, 1) := by decide +kernel
theorem dX4_allSquares_23 : decode cX4_allSquares 23 = .ok (.isub, 1) := by decide +kernel
theorem dX4_allSquares_24 : decode cX4_allSquares 24 = .ok (.istore 4, 2) := by decide +kernel
theorem dX4_allSquares_26 : decode cX4_allSquares 26 = .ok (.iload 4, 2) := by decide +kernel
theorem dX4_allSquares_28 : decode cX4_allSquares 28 = .ok (.ifCond .lt 44, 3) := by decide +kernel
theorem dX4_allSquares_31 : decode cX4_allSquares 31 = .ok (.aload_n 0, 1) := by decide +kernel
theorem dX4_allSquares_32 : decode cX4_allSquares 32 = .ok (.getfield 13, 3) := by decide +kernel
theorem dX4_allSquares_35 : decode cX4_allSquares 35 = .ok (.iload 4, 2) := by decide +kernel
theorem dX4_allSquares_37 : decode cX4_allSquares 37 = .ok (.caload, 1) := by decide +kernel
theorem dX4_allSquares_38 : decode cX4_allSquares 38 = .ok (.aload_n 0, 1) := by decide +kernel
theorem dX4_allSquares_39 : decode cX4_allSquares 39 = .ok (.getfield 13, 3) := by decide +kernel
theorem dX4_allSquares_42 : decode cX4_allSquares 42 = .ok (.iload 4, 2) := by decide +kernel
theorem dX4_allSquares_44 : decode cX4_allSquares 44 = .ok (.iload_n 2, 1) := by decide +kernel
theorem dX4_allSquares_45 : decode cX4_allSquares 45 = .ok (.iadd, 1) := by decide +kernel
theorem dX4_allSquares_46 : decode cX4_allSquares 46 = .ok (.caload, 1) := by decide +kernel
theorem dX4_allSquares_47 : decode cX4_allSquares 47 = .ok (.if_icmp .ne 9, 3) := by decide +kernel
theorem dX4_allSquares_50 : decode cX4_allSquares 50 = .ok (.iload_n 3, 1) := by decide +kernel
theorem dX4_allSquares_51 : decode cX4_allSquares 51 = .ok (.iconst 1, 1) := by decide +kernel
theorem dX4_allSquares_52 : decode cX4_allSquares 52 = .ok (.iadd, 1) := by decide +kernel
theorem dX4_allSquares_53 : decode cX4_allSquares 53 = .ok (.goto 4, 3) := by decide +kernel
theorem dX4_allSquares_56 : decode cX4_allSquares 56 = .ok (.iconst 0, 1) := by decide +kernel
theorem dX4_allSquares_57 : decode cX4_allSquares 57 = .ok (.istore_n 3, 1) := by decide +kernel
theorem dX4_allSquares_58 : decode cX4_allSquares 58 = .ok (.iload_n 3, 1) := by decide +kernel
theorem dX4_allSquares_59 : decode cX4_allSquares 59 = .ok (.iload_n 2, 1) := by decide +kernel
theorem dX4_allSquares_60 : decode cX4_allSquares 60 = .ok (.if_icmp .lt 6, 3) := by decide +kernel
theorem dX4_allSquares_63 : decode cX4_allSquares 63 = .ok (.iinc 1 1, 3) := by decide +kernel
theorem dX4_allSquares_66 : decode cX4_allSquares 66 = .ok (.iinc 4 (-1), 3) := by decide +kernel
theorem dX4_allSquares_69 : decode cX4_allSquares 69 = .ok (.goto (-43), 3) := by decide +kernel
theorem dX4_allSquares_72 : decode cX4_allSquares 72 = .ok (.iinc 2 1, 3) := by decide +kernel
theorem dX4_allSquares_75 : decode cX4_allSquares 75 = .ok (.goto (-71), 3) := by decide +kernel
theorem dX4_allSquares_78 : decode cX4_allSquares 78 = .ok (.iload_n 1, 1) := by decide +kernel
theorem dX4_allSquares_79 : decode cX4_allSquares 79 = .ok (.ireturn, 1) := by decide +kernel
theorem dX4_leastPeriod_0 : decode cX4_leastPeriod 0 = .ok (.iconst 1, 1) := by decide +kernel
theorem dX4_leastPeriod_1 : decode cX4_leastPeriod 1 = .ok (.istore_n 1, 1) := by decide +kernel
theorem dX4_leastPeriod_2 : decode cX4_leastPeriod 2 = .ok (.iload_n 1, 1) := by decide +kernel
theorem dX4_leastPeriod_3 : decode cX4_leastPeriod 3 = .ok (.aload_n 0, 1) := by decide +kernel
theorem dX4_leastPeriod_4 : decode cX4_leastPeriod 4 = .ok (.getfield 7, 3) := by decide +kernel
theorem dX4_leastPeriod_7 : decode cX4_leastPeriod 7 = .ok (.if_icmp .ge 27, 3) := by decide +kernel
theorem dX4_leastPeriod_10 : decode cX4_leastPeriod 10 = .ok (.aload_n 0, 1) := by decide +kernel
theorem dX4_leastPeriod_11 : decode cX4_leastPeriod 11 = .ok (.iload_n 1, 1) := by decide +kernel
theorem dX4_leastPeriod_12 : decode cX4_leastPeriod 12 = .ok (.aload_n 0, 1) := by decide +kernel
theorem dX4_leastPeriod_13 : decode cX4_leastPeriod 13 = .ok (.iconst 0, 1) := by decide +kernel
theorem dX4_leastPeriod_14 : decode cX4_leastPeriod 14 = .ok (.invokevirtual 17, 3) := by decide +kernel
theorem dX4_leastPeriod_17 : decode cX4_leastPeriod 17 = .ok (.aload_n 0, 1) := by decide +kernel
theorem dX4_leastPeriod_18 : decode cX4_leastPeriod 18 = .ok (.getfield 7, 3) := by decide +kernel
theorem dX4_leastPeriod_21 : decode cX4_leastPeriod 21 = .ok (.iload_n 1, 1) := by decide +kernel
theorem dX4_leastPeriod_22 : decode cX4_leastPeriod 22 = .ok (.isub, 1) := by decide +kernel
theorem dX4_leastPeriod_23 : decode cX4_leastPeriod 23 = .ok (.if_icmp .ne 5, 3) := by decide +kernel
theorem dX4_leastPeriod_26 : decode cX4_leastPeriod 26 = .ok (.iload_n 1, 1) := by decide +kernel
theorem dX4_leastPeriod_27 : decode cX4_leastPeriod 27 = .ok (.ireturn, 1) := by decide +kernel
theorem dX4_leastPeriod_28 : decode cX4_leastPeriod 28 = .ok (.iinc 1 1, 3) := by decide +kernel
theorem dX4_leastPeriod_31 : decode cX4_leastPeriod 31 = .ok (.goto (-29), 3) := by decide +kernel
theorem dX4_leastPeriod_34 : decode cX4_leastPeriod 34 = .ok (.aload_n 0, 1) := by decide +kernel
theorem dX4_leastPeriod_35 : decode cX4_leastPeriod 35 = .ok (.getfield 7, 3) := by decide +kernel
theorem dX4_leastPeriod_38 : decode cX4_leastPeriod 38 = .ok (.ireturn, 1) := by decide +kernel
theorem dX5_init_0 : decode cX5_init 0 = .ok (.aload_n 0, 1) := by decide +kernel
theorem dX5_init_1 : decode cX5_init 1 = .ok (.invokespecial 3, 3) := by decide +kernel
theorem dX5_init_4 : decode cX5_init 4 = .ok (.aload_n 0, 1) := by decide +kernel
theorem dX5_init_5 : decode cX5_init 5 = .ok (.bipush 8, 2) := by decide +kernel
theorem dX5_init_7 : decode cX5_init 7 = .ok (.bipush 64, 2) := by decide +kernel
theorem dX5_init_9 : decode cX5_init 9 = .ok (.multianewarray 9 2, 4) := by decide +kernel
theorem dX5_init_13 : decode cX5_init 13 = .ok (.putfield 11, 3) := by decide +kernel
theorem dX5_init_16 : decode cX5_init 16 = .ok (.return_, 1) := by decide +kernel
theorem dX6_init_0 : decode cX6_init 0 = .ok (.aload_n 0, 1) := by decide +kernel
theorem dX6_init_1 : decode cX6_init 1 = .ok (.invokespecial 3, 3) := by decide +kernel
theorem dX6_init_4 : decode cX6_init 4 = .ok (.aload_n 0, 1) := by decide +kernel
theorem dX6_init_5 : decode cX6_init 5 = .ok (.bipush 64, 2) := by decide +kernel
theorem dX6_init_7 : decode cX6_init 7 = .ok (.newarray .char, 2) := by decide +kernel
theorem dX6_init_9 : decode cX6_init 9 = .ok (.putfield 9, 3) := by decide +kernel
theorem dX6_init_12 : decode cX6_init 12 = .ok (.aload_n 0, 1) := by decide +kernel
theorem dX6_init_13 : decode cX6_init 13 = .ok (.bipush 64, 2) := by decide +kernel
theorem dX6_init_15 : decode cX6_init 15 = .ok (.newarray .int, 2) := by decide +kernel
theorem dX6_init_17 : decode cX6_init 17 = .ok (.putfield 15, 3) := by decide +kernel
theorem dX6_init_20 : decode cX6_init 20 = .ok (.aload_n 0, 1) := by decide +kernel
theorem dX6_init_21 : decode cX6_init 21 = .ok (.bipush 64, 2) := by decide +kernel
theorem dX6_init_23 : decode cX6_init 23 = .ok (.newarray .int, 2) := by decide +kernel
theorem dX6_init_25 : decode cX6_init 25 = .ok (.putfield 19, 3) := by decide +kernel
theorem dX6_init_28 : decode cX6_init 28 = .ok (.aload_n 0, 1) := by decide +kernel
theorem dX6_init_29 : decode cX6_init 29 = .ok (.bipush 64, 2) := by decide +kernel
theorem dX6_init_31 : decode cX6_init 31 = .ok (.newarray .int, 2) := by decide +kernel
theorem dX6_init_33 : decode cX6_init 33 = .ok (.putfield 22, 3) := by decide +kernel
theorem dX6_init_36 : decode cX6_init 36 = .ok (.return_, 1) := by decide +kernel
theorem dX6_add_0 : decode cX6_add 0 = .ok (.iconst 0, 1) := by decide +kernel
theorem dX6_add_1 : decode cX6_add 1 = .ok (.istore_n 3, 1) := by decide +kernel
theorem dX6_add_2 : decode cX6_add 2 = .ok (.iload_n 3, 1) := by decide +kernel
theorem dX6_add_3 : decode cX6_add 3 = .ok (.iload_n 2, 1) := by decide +kernel
theorem dX6_add_4 : decode cX6_add 4 = .ok (.if_icmp .ge 43, 3) := by decide +kernel
theorem dX6_add_7 : decode cX6_add 7 = .ok (.aload_n 0, 1) := by decide +kernel
theorem dX6_add_8 : decode cX6_add 8 = .ok (.getfield 25, 3) := by decide +kernel
theorem dX6_add_11 : decode cX6_add 11 = .ok (.aload_n 0, 1) := by decide +kernel
theorem dX6_add_12 : decode cX6_add 12 = .ok (.getfield 9, 3) := by decide +kernel
theorem dX6_add_15 : decode cX6_add 15 = .ok (.arraylength, 1) := by decide +kernel
theorem dX6_add_16 : decode cX6_add 16 = .ok (.if_icmp .ge 31, 3) := by decide +kernel
theorem dX6_add_19 : decode cX6_add 19 = .ok (.aload_n 0, 1) := by decide +kernel
theorem dX6_add_20 : decode cX6_add 20 = .ok (.getfield 9, 3) := by decide +kernel
theorem dX6_add_23 : decode cX6_add 23 = .ok (.aload_n 0, 1) := by decide +kernel
theorem dX6_add_24 : decode cX6_add 24 = .ok (.getfield 25, 3) := by decide +kernel
theorem dX6_add_27 : decode cX6_add 27 = .ok (.aload_n 1, 1) := by decide +kernel
theorem dX6_add_28 : decode cX6_add 28 = .ok (.iload_n 3, 1) := by decide +kernel
theorem dX6_add_29 : decode cX6_add 29 = .ok (.caload, 1) := by decide +kernel
theorem dX6_add_30 : decode cX6_add 30 = .ok (.castore, 1) := by decide +kernel
theorem dX6_add_31 : decode cX6_add 31 = .ok (.aload_n 0, 1) := by decide +kernel
theorem dX6_add_32 : decode cX6_add 32 = .ok (.dup, 1) := by decide +kernel
theorem dX6_add_33 : decode cX6_add 33 = .ok (.getfield 25, 3) := by decide +kernel
theorem dX6_add_36 : decode cX6_add 36 = .ok (.iconst 1, 1) := by decide +kernel
theorem dX6_add_37 : decode cX6_add 37 = .ok (.iadd, 1) := by decide +kernel
theorem dX6_add_38 : decode cX6_add 38 = .ok (.putfield 25, 3) := by decide +kernel
theorem dX6_add_41 : decode cX6_add 41 = .ok (.iinc 3 1, 3) := by decide +kernel
theorem dX6_add_44 : decode cX6_add 44 = .ok (.goto (-42), 3) := by decide +kernel
theorem dX6_add_47 : decode cX6_add 47 = .ok (.return_, 1) := by decide +kernel
theorem dX6_addTurnedRound_0 : decode cX6_addTurnedRound 0 = .ok (.aload_n 1, 1) := by decide +kernel
theorem dX6_addTurnedRound_1 : decode cX6_addTurnedRound 1 = .ok (.getfield 25, 3) := by decide +kernel
theorem dX6_addTurnedRound_4 : decode cX6_addTurnedRound 4 = .ok (.iconst 1, 1) := by decide +kernel
theorem dX6_addTurnedRound_5 : decode cX6_addTurnedRound 5 = .ok (.isub, 1) := by decide +kernel
theorem dX6_addTurnedRound_6 : decode cX6_addTurnedRound 6 = .ok (.istore_n 2, 1) := by decide +kernel
theorem dX6_addTurnedRound_7 : decode cX6_addTurnedRound 7 = .ok (.iload_n 2, 1) := by decide +kernel
theorem dX6_addTurnedRound_8 : decode cX6_addTurnedRound 8 = .ok (.ifCond .lt 46, 3) := by decide +kernel
theorem dX6_addTurnedRound_11 : decode cX6_addTurnedRound 11 = .ok (.aload_n 0, 1) := by decide +kernel
theorem dX6_addTurnedRound_12 : decode cX6_addTurnedRound 12 = .ok (.getfield 25, 3) := by decide +kernel
theorem dX6_addTurnedRound_15 : decode cX6_addTurnedRound 15 = .ok (.aload_n 0, 1) := by decide +kernel
theorem dX6_addTurnedRound_16 : decode cX6_addTurnedRound 16 = .ok (.getfield 9, 3) := by decide +kernel
theorem dX6_addTurnedRound_19 : decode cX6_addTurnedRound 19 = .ok (.arraylength, 1) := by decide +kernel
theorem dX6_addTurnedRound_20 : decode cX6_addTurnedRound 20 = .ok (.if_icmp .ge 34, 3) := by decide +kernel
theorem dX6_addTurnedRound_23 : decode cX6_addTurnedRound 23 = .ok (.aload_n 0, 1) := by decide +kernel
theorem dX6_addTurnedRound_24 : decode cX6_addTurnedRound 24 = .ok (.getfield 9, 3) := by decide +kernel
theorem dX6_addTurnedRound_27 : decode cX6_addTurnedRound 27 = .ok (.aload_n 0, 1) := by decide +kernel
theorem dX6_addTurnedRound_28 : decode cX6_addTurnedRound 28 = .ok (.getfield 25, 3) := by decide +kernel
theorem dX6_addTurnedRound_31 : decode cX6_addTurnedRound 31 = .ok (.aload_n 1, 1) := by decide +kernel
theorem dX6_addTurnedRound_32 : decode cX6_addTurnedRound 32 = .ok (.getfield 9, 3) := by decide +kernel
theorem dX6_addTurnedRound_35 : decode cX6_addTurnedRound 35 = .ok (.iload_n 2, 1) := by decide +kernel
theorem dX6_addTurnedRound_36 : decode cX6_addTurnedRound 36 = .ok (.caload, 1) := by decide +kernel
theorem dX6_addTurnedRound_37 : decode cX6_addTurnedRound 37 = .ok (.castore, 1) := by decide +kernel
theorem dX6_addTurnedRound_38 : decode cX6_addTurnedRound 38 = .ok (.aload_n 0, 1) := by decide +kernel
theorem dX6_addTurnedRound_39 : decode cX6_addTurnedRound 39 = .ok (.dup, 1) := by decide +kernel
theorem dX6_addTurnedRound_40 : decode cX6_addTurnedRound 40 = .ok (.getfield 25, 3) := by decide +kernel
theorem dX6_addTurnedRound_43 : decode cX6_addTurnedRound 43 = .ok (.iconst 1, 1) := by decide +kernel
theorem dX6_addTurnedRound_44 : decode cX6_addTurnedRound 44 = .ok (.iadd, 1) := by decide +kernel
theorem dX6_addTurnedRound_45 : decode cX6_addTurnedRound 45 = .ok (.putfield 25, 3) := by decide +kernel
theorem dX6_addTurnedRound_48 : decode cX6_addTurnedRound 48 = .ok (.iinc 2 (-1), 3) := by decide +kernel
theorem dX6_addTurnedRound_51 : decode cX6_addTurnedRound 51 = .ok (.goto (-44), 3) := by decide +kernel
theorem dX6_addTurnedRound_54 : decode cX6_addTurnedRound 54 = .ok (.return_, 1) := by decide +kernel
theorem dX6_putAhead_0 : decode cX6_putAhead 0 = .ok (.aload_n 0, 1) := by decide +kernel
theorem dX6_putAhead_1 : decode cX6_putAhead 1 = .ok (.getfield 25, 3) := by decide +kernel
theorem dX6_putAhead_4 : decode cX6_putAhead 4 = .ok (.aload_n 0, 1) := by decide +kernel
theorem dX6_putAhead_5 : decode cX6_putAhead 5 = .ok (.getfield 9, 3) := by decide +kernel
theorem dX6_putAhead_8 : decode cX6_putAhead 8 = .ok (.arraylength, 1) := by decide +kernel
theorem dX6_putAhead_9 : decode cX6_putAhead 9 = .ok (.if_icmp .ge 49, 3) := by decide +kernel
theorem dX6_putAhead_12 : decode cX6_putAhead 12 = .ok (.aload_n 0, 1) := by decide +kernel
theorem dX6_putAhead_13 : decode cX6_putAhead 13 = .ok (.getfield 25, 3) := by decide +kernel
theorem dX6_putAhead_16 : decode cX6_putAhead 16 = .ok (.istore_n 2, 1) := by decide +kernel
theorem dX6_putAhead_17 : decode cX6_putAhead 17 = .ok (.iload_n 2, 1) := by decide +kernel
theorem dX6_putAhead_18 : decode cX6_putAhead 18 = .ok (.ifCond .le 23, 3) := by decide +kernel
theorem dX6_putAhead_21 : decode cX6_putAhead 21 = .ok (.aload_n 0, 1) := by decide +kernel
theorem dX6_putAhead_22 : decode cX6_putAhead 22 = .ok (.getfield 9, 3) := by decide +kernel
theorem dX6_putAhead_25 : decode cX6_putAhead 25 = .ok (.iload_n 2, 1) := by decide +kernel
theorem dX6_putAhead_26 : decode cX6_putAhead 26 = .ok (.aload_n 0, 1) := by decide +kernel
theorem dX6_putAhead_27 : decode cX6_putAhead 27 = .ok (.getfield 9, 3) := by decide +kernel
theorem dX6_putAhead_30 : decode cX6_putAhead 30 = .ok (.iload_n 2, 1) := by decide +kernel
theorem dX6_putAhead_31 : decode cX6_putAhead 31 = .ok (.iconst 1, 1) := by decide +kernel
theorem dX6_putAhead_32 : decode cX6_putAhead 32 = .ok (.isub, 1) := by decide +kernel
theorem dX6_putAhead_33 : decode cX6_putAhead 33 = .ok (.caload, 1) := by decide +kernel
theorem dX6_putAhead_34 : decode cX6_putAhead 34 = .ok (.castore, 1) := by decide +kernel
theorem dX6_putAhead_35 : decode cX6_putAhead 35 = .ok (.iinc 2 (-1), 3) := by decide +kernel
theorem dX6_putAhead_38 : decode cX6_putAhead 38 = .ok (.goto (-21), 3) := by decide +kernel
theorem dX6_putAhead_41 : decode cX6_putAhead 41 = .ok (.aload_n 0, 1) := by decide +kernel
theorem dX6_putAhead_42 : decode cX6_putAhead 42 = .ok (.getfield 9, 3) := by decide +kernel
theorem dX6_putAhead_45 : decode cX6_putAhead 45 = .ok (.iconst 0, 1) := by decide +kernel
theorem dX6_putAhead_46 : decode cX6_putAhead 46 = .ok (.iload_n 1, 1) := by decide +kernel
theorem dX6_putAhead_47 : decode cX6_putAhead 47 = .ok (.castore, 1) := by decide +kernel
theorem dX6_putAhead_48 : decode cX6_putAhead 48 = .ok (.aload_n 0, 1) := by decide +kernel
theorem dX6_putAhead_49 : decode cX6_putAhead 49 = .ok (.dup, 1) := by decide +kernel
theorem dX6_putAhead_50 : decode cX6_putAhead 50 = .ok (.getfield 25, 3) := by decide +kernel
theorem dX6_putAhead_53 : decode cX6_putAhead 53 = .ok (.iconst 1, 1) := by decide +kernel
theorem dX6_putAhead_54 : decode cX6_putAhead 54 = .ok (.iadd, 1) := by decide +kernel
theorem dX6_putAhead_55 : decode cX6_putAhead 55 = .ok (.putfield 25, 3) := by decide +kernel
theorem dX6_putAhead_58 : decode cX6_putAhead 58 = .ok (.return_, 1) := by decide +kernel
theorem dX6_dropFirst_0 : decode cX6_dropFirst 0 = .ok (.iconst 1, 1) := by decide +kernel
theorem dX6_dropFirst_1 : decode cX6_dropFirst 1 = .ok (.istore_n 1, 1) := by decide +kernel
theorem dX6_dropFirst_2 : decode cX6_dropFirst 2 = .ok (.iload_n 1, 1) := by decide +kernel
theorem dX6_dropFirst_3 : decode cX6_dropFirst 3 = .ok (.aload_n 0, 1) := by decide +kernel
theorem dX6_dropFirst_4 : decode cX6_dropFirst 4 = .ok (.getfield 25, 3) := by decide +kernel
theorem dX6_dropFirst_7 : decode cX6_dropFirst 7 = .ok (.if_icmp .ge 23, 3) := by decide +kernel
theorem dX6_dropFirst_10 : decode cX6_dropFirst 10 = .ok (.aload_n 0, 1) := by decide +kernel
theorem dX6_dropFirst_11 : decode cX6_dropFirst 11 = .ok (.getfield 9, 3) := by decide +kernel
theorem dX6_dropFirst_14 : decode cX6_dropFirst 14 = .ok (.iload_n 1, 1) := by decide +kernel
theorem dX6_dropFirst_15 : decode cX6_dropFirst 15 = .ok (.iconst 1, 1) := by decide +kernel
theorem dX6_dropFirst_16 : decode cX6_dropFirst 16 = .ok (.isub, 1) := by decide +kernel
theorem dX6_dropFirst_17 : decode cX6_dropFirst 17 = .ok (.aload_n 0, 1) := by decide +kernel
theorem dX6_dropFirst_18 : decode cX6_dropFirst 18 = .ok (.getfield 9, 3) := by decide +kernel
theorem dX6_dropFirst_21 : decode cX6_dropFirst 21 = .ok (.iload_n 1, 1) := by decide +kernel
theorem dX6_dropFirst_22 : decode cX6_dropFirst 22 = .ok (.caload, 1) := by decide +kernel
theorem dX6_dropFirst_23 : decode cX6_dropFirst 23 = .ok (.castore, 1) := by decide +kernel
theorem dX6_dropFirst_24 : decode cX6_dropFirst 24 = .ok (.iinc 1 1, 3) := by decide +kernel
theorem dX6_dropFirst_27 : decode cX6_dropFirst 27 = .ok (.goto (-25), 3) := by decide +kernel
theorem dX6_dropFirst_30 : decode cX6_dropFirst 30 = .ok (.aload_n 0, 1) := by decide +kernel
theorem dX6_dropFirst_31 : decode cX6_dropFirst 31 = .ok (.getfield 25, 3) := by decide +kernel
theorem dX6_dropFirst_34 : decode cX6_dropFirst 34 = .ok (.ifCond .le 13, 3) := by decide +kernel
theorem dX6_dropFirst_37 : decode cX6_dropFirst 37 = .ok (.aload_n 0, 1) := by decide +kernel
theorem dX6_dropFirst_38 : decode cX6_dropFirst 38 = .ok (.dup, 1) := by decide +kernel
theorem dX6_dropFirst_39 : decode cX6_dropFirst 39 = .ok (.getfield 25, 3) := by decide +kernel
theorem dX6_dropFirst_42 : decode cX6_dropFirst 42 = .ok (.iconst 1, 1) := by decide +kernel
theorem dX6_dropFirst_43 : decode cX6_dropFirst 43 = .ok (.isub, 1) := by decide +kernel
theorem dX6_dropFirst_44 : decode cX6_dropFirst 44 = .ok (.putfield 25, 3) := by decide +kernel
theorem dX6_dropFirst_47 : decode cX6_dropFirst 47 = .ok (.return_, 1) := by decide +kernel
theorem dX6_endsAboveWhole_0 : decode cX6_endsAboveWhole 0 = .ok (.aload_n 0, 1) := by decide +kernel
theorem dX6_endsAboveWhole_1 : decode cX6_endsAboveWhole 1 = .ok (.getfield 25, 3) := by decide +kernel
theorem dX6_endsAboveWhole_4 : decode cX6_endsAboveWhole 4 = .ok (.iconst 1, 1) := by decide +kernel
theorem dX6_endsAboveWhole_5 : decode cX6_endsAboveWhole 5 = .ok (.isub, 1) := by decide +kernel
theorem dX6_endsAboveWhole_6 : decode cX6_endsAboveWhole 6 = .ok (.aload_n 0, 1) := by decide +kernel
theorem dX6_endsAboveWhole_7 : decode cX6_endsAboveWhole 7 = .ok (.getfield 19, 3) := by decide +kernel
end
section
theorem dX6_endsAboveWhole_10 : decode cX6_endsAboveWhole 10 = .ok (.iconst 0, 1) := by decide +kernel
theorem dX6_endsAboveWhole_11 : decode cX6_endsAboveWhole 11 = .ok (.iaload, 1) := by decide +kernel
theorem dX6_endsAboveWhole_12 : decode cX6_endsAboveWhole 12 = .ok (.isub, 1) := by decide +kernel
theorem dX6_endsAboveWhole_13 : decode cX6_endsAboveWhole 13 = .ok (.ireturn, 1) := by decide +kernel
theorem dX6_likeSigns_0 : decode cX6_likeSigns 0 = .ok (.aload_n 0, 1) := by decide +kernel
theorem dX6_likeSigns_1 : decode cX6_likeSigns 1 = .ok (.getfield 25, 3) := by decide +kernel
theorem dX6_likeSigns_4 : decode cX6_likeSigns 4 = .ok (.iload_n 1, 1) := by decide +kernel
theorem dX6_likeSigns_5 : decode cX6_likeSigns 5 = .ok (.isub, 1) := by decide +kernel
theorem dX6_likeSigns_6 : decode cX6_likeSigns 6 = .ok (.aload_n 2, 1) := by decide +kernel
theorem dX6_likeSigns_7 : decode cX6_likeSigns 7 = .ok (.getfield 25, 3) := by decide +kernel
theorem dX6_likeSigns_10 : decode cX6_likeSigns 10 = .ok (.iload_n 3, 1) := by decide +kernel
theorem dX6_likeSigns_11 : decode cX6_likeSigns 11 = .ok (.isub, 1) := by decide +kernel
theorem dX6_likeSigns_12 : decode cX6_likeSigns 12 = .ok (.invokestatic 29, 3) := by decide +kernel
theorem dX6_likeSigns_15 : decode cX6_likeSigns 15 = .ok (.istore 4, 2) := by decide +kernel
theorem dX6_likeSigns_17 : decode cX6_likeSigns 17 = .ok (.iconst 0, 1) := by decide +kernel
theorem dX6_likeSigns_18 : decode cX6_likeSigns 18 = .ok (.istore 5, 2) := by decide +kernel
theorem dX6_likeSigns_20 : decode cX6_likeSigns 20 = .ok (.iload 5, 2) := by decide +kernel
theorem dX6_likeSigns_22 : decode cX6_likeSigns 22 = .ok (.iload 4, 2) := by decide +kernel
theorem dX6_likeSigns_24 : decode cX6_likeSigns 24 = .ok (.if_icmp .ge 30, 3) := by decide +kernel
theorem dX6_likeSigns_27 : decode cX6_likeSigns 27 = .ok (.aload_n 0, 1) := by decide +kernel
theorem dX6_likeSigns_28 : decode cX6_likeSigns 28 = .ok (.getfield 9, 3) := by decide +kernel
theorem dX6_likeSigns_31 : decode cX6_likeSigns 31 = .ok (.iload_n 1, 1) := by decide +kernel
theorem dX6_likeSigns_32 : decode cX6_likeSigns 32 = .ok (.iload 5, 2) := by decide +kernel
theorem dX6_likeSigns_34 : decode cX6_likeSigns 34 = .ok (.iadd, 1) := by decide +kernel
theorem dX6_likeSigns_35 : decode cX6_likeSigns 35 = .ok (.caload, 1) := by decide +kernel
theorem dX6_likeSigns_36 : decode cX6_likeSigns 36 = .ok (.aload_n 2, 1) := by decide +kernel
theorem dX6_likeSigns_37 : decode cX6_likeSigns 37 = .ok (.getfield 9, 3) := by decide +kernel
theorem dX6_likeSigns_40 : decode cX6_likeSigns 40 = .ok (.iload_n 3, 1) := by decide +kernel
theorem dX6_likeSigns_41 : decode cX6_likeSigns 41 = .ok (.iload 5, 2) := by decide +kernel
theorem dX6_likeSigns_43 : decode cX6_likeSigns 43 = .ok (.iadd, 1) := by decide +kernel
theorem dX6_likeSigns_44 : decode cX6_likeSigns 44 = .ok (.caload, 1) := by decide +kernel
theorem dX6_likeSigns_45 : decode cX6_likeSigns 45 = .ok (.if_icmp .ne 9, 3) := by decide +kernel
theorem dX6_likeSigns_48 : decode cX6_likeSigns 48 = .ok (.iinc 5 1, 3) := by decide +kernel
theorem dX6_likeSigns_51 : decode cX6_likeSigns 51 = .ok (.goto (-31), 3) := by decide +kernel
theorem dX6_likeSigns_54 : decode cX6_likeSigns 54 = .ok (.iload 5, 2) := by decide +kernel
theorem dX6_likeSigns_56 : decode cX6_likeSigns 56 = .ok (.ireturn, 1) := by decide +kernel
theorem dX6_unlikeBeginnings_0 : decode cX6_unlikeBeginnings 0 = .ok (.iconst 0, 1) := by decide +kernel
theorem dX6_unlikeBeginnings_1 : decode cX6_unlikeBeginnings 1 = .ok (.istore_n 3, 1) := by decide +kernel
theorem dX6_unlikeBeginnings_2 : decode cX6_unlikeBeginnings 2 = .ok (.iconst 0, 1) := by decide +kernel
theorem dX6_unlikeBeginnings_3 : decode cX6_unlikeBeginnings 3 = .ok (.istore 4, 2) := by decide +kernel
theorem dX6_unlikeBeginnings_5 : decode cX6_unlikeBeginnings 5 = .ok (.iload 4, 2) := by decide +kernel
theorem dX6_unlikeBeginnings_7 : decode cX6_unlikeBeginnings 7 = .ok (.iload_n 2, 1) := by decide +kernel
theorem dX6_unlikeBeginnings_8 : decode cX6_unlikeBeginnings 8 = .ok (.if_icmp .gt 23, 3) := by decide +kernel
theorem dX6_unlikeBeginnings_11 : decode cX6_unlikeBeginnings 11 = .ok (.aload_n 0, 1) := by decide +kernel
theorem dX6_unlikeBeginnings_12 : decode cX6_unlikeBeginnings 12 = .ok (.getfield 22, 3) := by decide +kernel
theorem dX6_unlikeBeginnings_15 : decode cX6_unlikeBeginnings 15 = .ok (.iload 4, 2) := by decide +kernel
theorem dX6_unlikeBeginnings_17 : decode cX6_unlikeBeginnings 17 = .ok (.iaload, 1) := by decide +kernel
theorem dX6_unlikeBeginnings_18 : decode cX6_unlikeBeginnings 18 = .ok (.iload_n 1, 1) := by decide +kernel
theorem dX6_unlikeBeginnings_19 : decode cX6_unlikeBeginnings 19 = .ok (.if_icmp .ge 6, 3) := by decide +kernel
theorem dX6_unlikeBeginnings_22 : decode cX6_unlikeBeginnings 22 = .ok (.iinc 3 1, 3) := by decide +kernel
theorem dX6_unlikeBeginnings_25 : decode cX6_unlikeBeginnings 25 = .ok (.iinc 4 1, 3) := by decide +kernel
theorem dX6_unlikeBeginnings_28 : decode cX6_unlikeBeginnings 28 = .ok (.goto (-23), 3) := by decide +kernel
theorem dX6_unlikeBeginnings_31 : decode cX6_unlikeBeginnings 31 = .ok (.iload_n 3, 1) := by decide +kernel
theorem dX6_unlikeBeginnings_32 : decode cX6_unlikeBeginnings 32 = .ok (.ireturn, 1) := by decide +kernel
theorem dX6_greatestCommon_0 : decode cX6_greatestCommon 0 = .ok (.iconst 0, 1) := by decide +kernel
theorem dX6_greatestCommon_1 : decode cX6_greatestCommon 1 = .ok (.istore_n 1, 1) := by decide +kernel
theorem dX6_greatestCommon_2 : decode cX6_greatestCommon 2 = .ok (.iconst 0, 1) := by decide +kernel
theorem dX6_greatestCommon_3 : decode cX6_greatestCommon 3 = .ok (.istore_n 2, 1) := by decide +kernel
theorem dX6_greatestCommon_4 : decode cX6_greatestCommon 4 = .ok (.iload_n 2, 1) := by decide +kernel
theorem dX6_greatestCommon_5 : decode cX6_greatestCommon 5 = .ok (.aload_n 0, 1) := by decide +kernel
theorem dX6_greatestCommon_6 : decode cX6_greatestCommon 6 = .ok (.getfield 25, 3) := by decide +kernel
theorem dX6_greatestCommon_9 : decode cX6_greatestCommon 9 = .ok (.if_icmp .ge 20, 3) := by decide +kernel
theorem dX6_greatestCommon_12 : decode cX6_greatestCommon 12 = .ok (.iload_n 1, 1) := by decide +kernel
theorem dX6_greatestCommon_13 : decode cX6_greatestCommon 13 = .ok (.aload_n 0, 1) := by decide +kernel
theorem dX6_greatestCommon_14 : decode cX6_greatestCommon 14 = .ok (.getfield 22, 3) := by decide +kernel
theorem dX6_greatestCommon_17 : decode cX6_greatestCommon 17 = .ok (.iload_n 2, 1) := by decide +kernel
theorem dX6_greatestCommon_18 : decode cX6_greatestCommon 18 = .ok (.iaload, 1) := by decide +kernel
theorem dX6_greatestCommon_19 : decode cX6_greatestCommon 19 = .ok (.invokestatic 39, 3) := by decide +kernel
theorem dX6_greatestCommon_22 : decode cX6_greatestCommon 22 = .ok (.istore_n 1, 1) := by decide +kernel
theorem dX6_greatestCommon_23 : decode cX6_greatestCommon 23 = .ok (.iinc 2 1, 3) := by decide +kernel
theorem dX6_greatestCommon_26 : decode cX6_greatestCommon 26 = .ok (.goto (-22), 3) := by decide +kernel
theorem dX6_greatestCommon_29 : decode cX6_greatestCommon 29 = .ok (.iload_n 1, 1) := by decide +kernel
theorem dX6_greatestCommon_30 : decode cX6_greatestCommon 30 = .ok (.ireturn, 1) := by decide +kernel
theorem dX6_againstWord_0 : decode cX6_againstWord 0 = .ok (.aload_n 2, 1) := by decide +kernel
theorem dX6_againstWord_1 : decode cX6_againstWord 1 = .ok (.getfield 42, 3) := by decide +kernel
theorem dX6_againstWord_4 : decode cX6_againstWord 4 = .ok (.iload_n 3, 1) := by decide +kernel
theorem dX6_againstWord_5 : decode cX6_againstWord 5 = .ok (.isub, 1) := by decide +kernel
theorem dX6_againstWord_6 : decode cX6_againstWord 6 = .ok (.istore 4, 2) := by decide +kernel
theorem dX6_againstWord_8 : decode cX6_againstWord 8 = .ok (.aload_n 0, 1) := by decide +kernel
theorem dX6_againstWord_9 : decode cX6_againstWord 9 = .ok (.getfield 25, 3) := by decide +kernel
theorem dX6_againstWord_12 : decode cX6_againstWord 12 = .ok (.iload_n 1, 1) := by decide +kernel
theorem dX6_againstWord_13 : decode cX6_againstWord 13 = .ok (.isub, 1) := by decide +kernel
theorem dX6_againstWord_14 : decode cX6_againstWord 14 = .ok (.iload 4, 2) := by decide +kernel
theorem dX6_againstWord_16 : decode cX6_againstWord 16 = .ok (.invokestatic 29, 3) := by decide +kernel
theorem dX6_againstWord_19 : decode cX6_againstWord 19 = .ok (.istore 5, 2) := by decide +kernel
theorem dX6_againstWord_21 : decode cX6_againstWord 21 = .ok (.iconst 0, 1) := by decide +kernel
theorem dX6_againstWord_22 : decode cX6_againstWord 22 = .ok (.istore 6, 2) := by decide +kernel
theorem dX6_againstWord_24 : decode cX6_againstWord 24 = .ok (.iload 6, 2) := by decide +kernel
theorem dX6_againstWord_26 : decode cX6_againstWord 26 = .ok (.iload 5, 2) := by decide +kernel
theorem dX6_againstWord_28 : decode cX6_againstWord 28 = .ok (.if_icmp .ge 38, 3) := by decide +kernel
theorem dX6_againstWord_31 : decode cX6_againstWord 31 = .ok (.aload_n 0, 1) := by decide +kernel
theorem dX6_againstWord_32 : decode cX6_againstWord 32 = .ok (.getfield 9, 3) := by decide +kernel
theorem dX6_againstWord_35 : decode cX6_againstWord 35 = .ok (.iload_n 1, 1) := by decide +kernel
theorem dX6_againstWord_36 : decode cX6_againstWord 36 = .ok (.iload 6, 2) := by decide +kernel
theorem dX6_againstWord_38 : decode cX6_againstWord 38 = .ok (.iadd, 1) := by decide +kernel
theorem dX6_againstWord_39 : decode cX6_againstWord 39 = .ok (.caload, 1) := by decide +kernel
theorem dX6_againstWord_40 : decode cX6_againstWord 40 = .ok (.aload_n 2, 1) := by decide +kernel
theorem dX6_againstWord_41 : decode cX6_againstWord 41 = .ok (.getfield 45, 3) := by decide +kernel
theorem dX6_againstWord_44 : decode cX6_againstWord 44 = .ok (.iload_n 3, 1) := by decide +kernel
theorem dX6_againstWord_45 : decode cX6_againstWord 45 = .ok (.iload 6, 2) := by decide +kernel
theorem dX6_againstWord_47 : decode cX6_againstWord 47 = .ok (.iadd, 1) := by decide +kernel
theorem dX6_againstWord_48 : decode cX6_againstWord 48 = .ok (.caload, 1) := by decide +kernel
theorem dX6_againstWord_49 : decode cX6_againstWord 49 = .ok (.isub, 1) := by decide +kernel
theorem dX6_againstWord_50 : decode cX6_againstWord 50 = .ok (.istore 7, 2) := by decide +kernel
theorem dX6_againstWord_52 : decode cX6_againstWord 52 = .ok (.iload 7, 2) := by decide +kernel
theorem dX6_againstWord_54 : decode cX6_againstWord 54 = .ok (.ifCond .eq 6, 3) := by decide +kernel
theorem dX6_againstWord_57 : decode cX6_againstWord 57 = .ok (.iload 7, 2) := by decide +kernel
theorem dX6_againstWord_59 : decode cX6_againstWord 59 = .ok (.ireturn, 1) := by decide +kernel
theorem dX6_againstWord_60 : decode cX6_againstWord 60 = .ok (.iinc 6 1, 3) := by decide +kernel
theorem dX6_againstWord_63 : decode cX6_againstWord 63 = .ok (.goto (-39), 3) := by decide +kernel
theorem dX6_againstWord_66 : decode cX6_againstWord 66 = .ok (.iload 5, 2) := by decide +kernel
theorem dX6_againstWord_68 : decode cX6_againstWord 68 = .ok (.iload 4, 2) := by decide +kernel
theorem dX6_againstWord_70 : decode cX6_againstWord 70 = .ok (.isub, 1) := by decide +kernel
theorem dX6_againstWord_71 : decode cX6_againstWord 71 = .ok (.ireturn, 1) := by decide +kernel
theorem dX6_endsBelow_0 : decode cX6_endsBelow 0 = .ok (.aload_n 0, 1) := by decide +kernel
theorem dX6_endsBelow_1 : decode cX6_endsBelow 1 = .ok (.aload_n 1, 1) := by decide +kernel
theorem dX6_endsBelow_2 : decode cX6_endsBelow 2 = .ok (.iload_n 2, 1) := by decide +kernel
theorem dX6_endsBelow_3 : decode cX6_endsBelow 3 = .ok (.iconst 0, 1) := by decide +kernel
theorem dX6_endsBelow_4 : decode cX6_endsBelow 4 = .ok (.invokevirtual 46, 3) := by decide +kernel
theorem dX6_endsBelow_7 : decode cX6_endsBelow 7 = .ok (.ireturn, 1) := by decide +kernel
theorem dX6_endsUpTo_0 : decode cX6_endsUpTo 0 = .ok (.aload_n 0, 1) := by decide +kernel
theorem dX6_endsUpTo_1 : decode cX6_endsUpTo 1 = .ok (.aload_n 1, 1) := by decide +kernel
theorem dX6_endsUpTo_2 : decode cX6_endsUpTo 2 = .ok (.iload_n 2, 1) := by decide +kernel
theorem dX6_endsUpTo_3 : decode cX6_endsUpTo 3 = .ok (.iconst 1, 1) := by decide +kernel
theorem dX6_endsUpTo_4 : decode cX6_endsUpTo 4 = .ok (.invokevirtual 46, 3) := by decide +kernel
theorem dX6_endsUpTo_7 : decode cX6_endsUpTo 7 = .ok (.ireturn, 1) := by decide +kernel
theorem dX6_endsUnder_0 : decode cX6_endsUnder 0 = .ok (.iconst 0, 1) := by decide +kernel
theorem dX6_endsUnder_1 : decode cX6_endsUnder 1 = .ok (.istore 4, 2) := by decide +kernel
theorem dX6_endsUnder_3 : decode cX6_endsUnder 3 = .ok (.aload_n 0, 1) := by decide +kernel
theorem dX6_endsUnder_4 : decode cX6_endsUnder 4 = .ok (.getfield 25, 3) := by decide +kernel
theorem dX6_endsUnder_7 : decode cX6_endsUnder 7 = .ok (.istore 5, 2) := by decide +kernel
theorem dX6_endsUnder_9 : decode cX6_endsUnder 9 = .ok (.iload 4, 2) := by decide +kernel
theorem dX6_endsUnder_11 : decode cX6_endsUnder 11 = .ok (.iload 5, 2) := by decide +kernel
theorem dX6_endsUnder_13 : decode cX6_endsUnder 13 = .ok (.if_icmp .ge 45, 3) := by decide +kernel
theorem dX6_endsUnder_16 : decode cX6_endsUnder 16 = .ok (.iload 4, 2) := by decide +kernel
theorem dX6_endsUnder_18 : decode cX6_endsUnder 18 = .ok (.iload 5, 2) := by decide +kernel
theorem dX6_endsUnder_20 : decode cX6_endsUnder 20 = .ok (.iadd, 1) := by decide +kernel
theorem dX6_endsUnder_21 : decode cX6_endsUnder 21 = .ok (.iconst 2, 1) := by decide +kernel
theorem dX6_endsUnder_22 : decode cX6_endsUnder 22 = .ok (.idiv, 1) := by decide +kernel
theorem dX6_endsUnder_23 : decode cX6_endsUnder 23 = .ok (.istore 6, 2) := by decide +kernel
theorem dX6_endsUnder_25 : decode cX6_endsUnder 25 = .ok (.aload_n 0, 1) := by decide +kernel
theorem dX6_endsUnder_26 : decode cX6_endsUnder 26 = .ok (.aload_n 0, 1) := by decide +kernel
theorem dX6_endsUnder_27 : decode cX6_endsUnder 27 = .ok (.getfield 15, 3) := by decide +kernel
theorem dX6_endsUnder_30 : decode cX6_endsUnder 30 = .ok (.iload 6, 2) := by decide +kernel
theorem dX6_endsUnder_32 : decode cX6_endsUnder 32 = .ok (.iaload, 1) := by decide +kernel
theorem dX6_endsUnder_33 : decode cX6_endsUnder 33 = .ok (.aload_n 1, 1) := by decide +kernel
theorem dX6_endsUnder_34 : decode cX6_endsUnder 34 = .ok (.iload_n 2, 1) := by decide +kernel
theorem dX6_endsUnder_35 : decode cX6_endsUnder 35 = .ok (.invokevirtual 50, 3) := by decide +kernel
theorem dX6_endsUnder_38 : decode cX6_endsUnder 38 = .ok (.iload_n 3, 1) := by decide +kernel
theorem dX6_endsUnder_39 : decode cX6_endsUnder 39 = .ok (.if_icmp .ge 12, 3) := by decide +kernel
theorem dX6_endsUnder_42 : decode cX6_endsUnder 42 = .ok (.iload 6, 2) := by decide +kernel
theorem dX6_endsUnder_44 : decode cX6_endsUnder 44 = .ok (.iconst 1, 1) := by decide +kernel
theorem dX6_endsUnder_45 : decode cX6_endsUnder 45 = .ok (.iadd, 1) := by decide +kernel
theorem dX6_endsUnder_46 : decode cX6_endsUnder 46 = .ok (.istore 4, 2) := by decide +kernel
theorem dX6_endsUnder_48 : decode cX6_endsUnder 48 = .ok (.goto 7, 3) := by decide +kernel
theorem dX6_endsUnder_51 : decode cX6_endsUnder 51 = .ok (.iload 6, 2) := by decide +kernel
theorem dX6_endsUnder_53 : decode cX6_endsUnder 53 = .ok (.istore 5, 2) := by decide +kernel
theorem dX6_endsUnder_55 : decode cX6_endsUnder 55 = .ok (.goto (-46), 3) := by decide +kernel
theorem dX6_endsUnder_58 : decode cX6_endsUnder 58 = .ok (.iload 4, 2) := by decide +kernel
theorem dX6_endsUnder_60 : decode cX6_endsUnder 60 = .ok (.ireturn, 1) := by decide +kernel
theorem dX6_risingPlace_0 : decode cX6_risingPlace 0 = .ok (.iconst 0, 1) := by decide +kernel
theorem dX6_risingPlace_1 : decode cX6_risingPlace 1 = .ok (.istore 4, 2) := by decide +kernel
theorem dX6_risingPlace_3 : decode cX6_risingPlace 3 = .ok (.iconst 0, 1) := by decide +kernel
theorem dX6_risingPlace_4 : decode cX6_risingPlace 4 = .ok (.istore 5, 2) := by decide +kernel
theorem dX6_risingPlace_6 : decode cX6_risingPlace 6 = .ok (.iload 5, 2) := by decide +kernel
theorem dX6_risingPlace_8 : decode cX6_risingPlace 8 = .ok (.aload_n 0, 1) := by decide +kernel
theorem dX6_risingPlace_9 : decode cX6_risingPlace 9 = .ok (.getfield 25, 3) := by decide +kernel
theorem dX6_risingPlace_12 : decode cX6_risingPlace 12 = .ok (.if_icmp .ge 43, 3) := by decide +kernel
theorem dX6_risingPlace_15 : decode cX6_risingPlace 15 = .ok (.aload_n 0, 1) := by decide +kernel
theorem dX6_risingPlace_16 : decode cX6_risingPlace 16 = .ok (.getfield 19, 3) := by decide +kernel
theorem dX6_risingPlace_19 : decode cX6_risingPlace 19 = .ok (.iload 5, 2) := by decide +kernel
theorem dX6_risingPlace_21 : decode cX6_risingPlace 21 = .ok (.iaload, 1) := by decide +kernel
theorem dX6_risingPlace_22 : decode cX6_risingPlace 22 = .ok (.iload_n 1, 1) := by decide +kernel
theorem dX6_risingPlace_23 : decode cX6_risingPlace 23 = .ok (.if_icmp .lt 26, 3) := by decide +kernel
theorem dX6_risingPlace_26 : decode cX6_risingPlace 26 = .ok (.aload_n 0, 1) := by decide +kernel
theorem dX6_risingPlace_27 : decode cX6_risingPlace 27 = .ok (.getfield 19, 3) := by decide +kernel
theorem dX6_risingPlace_30 : decode cX6_risingPlace 30 = .ok (.iload 5, 2) := by decide +kernel
theorem dX6_risingPlace_32 : decode cX6_risingPlace 32 = .ok (.iaload, 1) := by decide +kernel
theorem dX6_risingPlace_33 : decode cX6_risingPlace 33 = .ok (.iload_n 2, 1) := by decide +kernel
theorem dX6_risingPlace_34 : decode cX6_risingPlace 34 = .ok (.if_icmp .ge 15, 3) := by decide +kernel
theorem dX6_risingPlace_37 : decode cX6_risingPlace 37 = .ok (.iload 4, 2) := by decide +kernel
theorem dX6_risingPlace_39 : decode cX6_risingPlace 39 = .ok (.iload_n 3, 1) := by decide +kernel
theorem dX6_risingPlace_40 : decode cX6_risingPlace 40 = .ok (.if_icmp .ne 6, 3) := by decide +kernel
theorem dX6_risingPlace_43 : decode cX6_risingPlace 43 = .ok (.iload 5, 2) := by decide +kernel
theorem dX6_risingPlace_45 : decode cX6_risingPlace 45 = .ok (.ireturn, 1) := by decide +kernel
theorem dX6_risingPlace_46 : decode cX6_risingPlace 46 = .ok (.iinc 4 1, 3) := by decide +kernel
theorem dX6_risingPlace_49 : decode cX6_risingPlace 49 = .ok (.iinc 5 1, 3) := by decide +kernel
theorem dX6_risingPlace_52 : decode cX6_risingPlace 52 = .ok (.goto (-46), 3) := by decide +kernel
theorem dX6_risingPlace_55 : decode cX6_risingPlace 55 = .ok (.aload_n 0, 1) := by decide +kernel
theorem dX6_risingPlace_56 : decode cX6_risingPlace 56 = .ok (.getfield 25, 3) := by decide +kernel
theorem dX6_risingPlace_59 : decode cX6_risingPlace 59 = .ok (.ireturn, 1) := by decide +kernel
theorem dX6_newWordsBelow_0 : decode cX6_newWordsBelow 0 = .ok (.iconst 0, 1) := by decide +kernel
theorem dX6_newWordsBelow_1 : decode cX6_newWordsBelow 1 = .ok (.istore_n 2, 1) := by decide +kernel
theorem dX6_newWordsBelow_2 : decode cX6_newWordsBelow 2 = .ok (.iconst 0, 1) := by decide +kernel
theorem dX6_newWordsBelow_3 : decode cX6_newWordsBelow 3 = .ok (.istore_n 3, 1) := by decide +kernel
theorem dX6_newWordsBelow_4 : decode cX6_newWordsBelow 4 = .ok (.iload_n 3, 1) := by decide +kernel
theorem dX6_newWordsBelow_5 : decode cX6_newWordsBelow 5 = .ok (.iload_n 1, 1) := by decide +kernel
theorem dX6_newWordsBelow_6 : decode cX6_newWordsBelow 6 = .ok (.if_icmp .ge 30, 3) := by decide +kernel
theorem dX6_newWordsBelow_9 : decode cX6_newWordsBelow 9 = .ok (.iload_n 2, 1) := by decide +kernel
theorem dX6_newWordsBelow_10 : decode cX6_newWordsBelow 10 = .ok (.aload_n 0, 1) := by decide +kernel
theorem dX6_newWordsBelow_11 : decode cX6_newWordsBelow 11 = .ok (.getfield 25, 3) := by decide +kernel
theorem dX6_newWordsBelow_14 : decode cX6_newWordsBelow 14 = .ok (.aload_n 0, 1) := by decide +kernel
theorem dX6_newWordsBelow_15 : decode cX6_newWordsBelow 15 = .ok (.getfield 15, 3) := by decide +kernel
theorem dX6_newWordsBelow_18 : decode cX6_newWordsBelow 18 = .ok (.iload_n 3, 1) := by decide +kernel
theorem dX6_newWordsBelow_19 : decode cX6_newWordsBelow 19 = .ok (.iaload, 1) := by decide +kernel
theorem dX6_newWordsBelow_20 : decode cX6_newWordsBelow 20 = .ok (.isub, 1) := by decide +kernel
theorem dX6_newWordsBelow_21 : decode cX6_newWordsBelow 21 = .ok (.aload_n 0, 1) := by decide +kernel
theorem dX6_newWordsBelow_22 : decode cX6_newWordsBelow 22 = .ok (.getfield 22, 3) := by decide +kernel
theorem dX6_newWordsBelow_25 : decode cX6_newWordsBelow 25 = .ok (.iload_n 3, 1) := by decide +kernel
theorem dX6_newWordsBelow_26 : decode cX6_newWordsBelow 26 = .ok (.iaload, 1) := by decide +kernel
theorem dX6_newWordsBelow_27 : decode cX6_newWordsBelow 27 = .ok (.isub, 1) := by decide +kernel
theorem dX6_newWordsBelow_28 : decode cX6_newWordsBelow 28 = .ok (.iadd, 1) := by decide +kernel
theorem dX6_newWordsBelow_29 : decode cX6_newWordsBelow 29 = .ok (.istore_n 2, 1) := by decide +kernel
theorem dX6_newWordsBelow_30 : decode cX6_newWordsBelow 30 = .ok (.iinc 3 1, 3) := by decide +kernel
theorem dX6_newWordsBelow_33 : decode cX6_newWordsBelow 33 = .ok (.goto (-29), 3) := by decide +kernel
theorem dX6_newWordsBelow_36 : decode cX6_newWordsBelow 36 = .ok (.iload_n 2, 1) := by decide +kernel
theorem dX6_newWordsBelow_37 : decode cX6_newWordsBelow 37 = .ok (.ireturn, 1) := by decide +kernel
theorem dX6_rankBringing_0 : decode cX6_rankBringing 0 = .ok (.iconst 0, 1) := by decide +kernel
theorem dX6_rankBringing_1 : decode cX6_rankBringing 1 = .ok (.istore_n 2, 1) := by decide +kernel
theorem dX6_rankBringing_2 : decode cX6_rankBringing 2 = .ok (.iconst 0, 1) := by decide +kernel
theorem dX6_rankBringing_3 : decode cX6_rankBringing 3 = .ok (.istore_n 3, 1) := by decide +kernel
theorem dX6_rankBringing_4 : decode cX6_rankBringing 4 = .ok (.iload_n 2, 1) := by decide +kernel
theorem dX6_rankBringing_5 : decode cX6_rankBringing 5 = .ok (.aload_n 0, 1) := by decide +kernel
theorem dX6_rankBringing_6 : decode cX6_rankBringing 6 = .ok (.getfield 25, 3) := by decide +kernel
theorem dX6_rankBringing_9 : decode cX6_rankBringing 9 = .ok (.iconst 1, 1) := by decide +kernel
theorem dX6_rankBringing_10 : decode cX6_rankBringing 10 = .ok (.isub, 1) := by decide +kernel
theorem dX6_rankBringing_11 : decode cX6_rankBringing 11 = .ok (.if_icmp .ge 54, 3) := by decide +kernel
theorem dX6_rankBringing_14 : decode cX6_rankBringing 14 = .ok (.iload_n 1, 1) := by decide +kernel
theorem dX6_rankBringing_15 : decode cX6_rankBringing 15 = .ok (.iload_n 3, 1) := by decide +kernel
theorem dX6_rankBringing_16 : decode cX6_rankBringing 16 = .ok (.aload_n 0, 1) := by decide +kernel
theorem dX6_rankBringing_17 : decode cX6_rankBringing 17 = .ok (.getfield 25, 3) := by decide +kernel
theorem dX6_rankBringing_20 : decode cX6_rankBringing 20 = .ok (.iadd, 1) := by decide +kernel
theorem dX6_rankBringing_21 : decode cX6_rankBringing 21 = .ok (.aload_n 0, 1) := by decide +kernel
theorem dX6_rankBringing_22 : decode cX6_rankBringing 22 = .ok (.getfield 15, 3) := by decide +kernel
theorem dX6_rankBringing_25 : decode cX6_rankBringing 25 = .ok (.iload_n 2, 1) := by decide +kernel
theorem dX6_rankBringing_26 : decode cX6_rankBringing 26 = .ok (.iaload, 1) := by decide +kernel
theorem dX6_rankBringing_27 : decode cX6_rankBringing 27 = .ok (.isub, 1) := by decide +kernel
theorem dX6_rankBringing_28 : decode cX6_rankBringing 28 = .ok (.aload_n 0, 1) := by decide +kernel
theorem dX6_rankBringing_29 : decode cX6_rankBringing 29 = .ok (.getfield 22, 3) := by decide +kernel
theorem dX6_rankBringing_32 : decode cX6_rankBringing 32 = .ok (.iload_n 2, 1) := by decide +kernel
theorem dX6_rankBringing_33 : decode cX6_rankBringing 33 = .ok (.iaload, 1) := by decide +kernel
theorem dX6_rankBringing_34 : decode cX6_rankBringing 34 = .ok (.isub, 1) := by decide +kernel
theorem dX6_rankBringing_35 : decode cX6_rankBringing 35 = .ok (.if_icmp .lt 30, 3) := by decide +kernel
theorem dX6_rankBringing_38 : decode cX6_rankBringing 38 = .ok (.iload_n 3, 1) := by decide +kernel
theorem dX6_rankBringing_39 : decode cX6_rankBringing 39 = .ok (.aload_n 0, 1) := by decide +kernel
theorem dX6_rankBringing_40 : decode cX6_rankBringing 40 = .ok (.getfield 25, 3) := by decide +kernel
theorem dX6_rankBringing_43 : decode cX6_rankBringing 43 = .ok (.aload_n 0, 1) := by decide +kernel
theorem dX6_rankBringing_44 : decode cX6_rankBringing 44 = .ok (.getfield 15, 3) := by decide +kernel
theorem dX6_rankBringing_47 : decode cX6_rankBringing 47 = .ok (.iload_n 2, 1) := by decide +kernel
theorem dX6_rankBringing_48 : decode cX6_rankBringing 48 = .ok (.iaload, 1) := by decide +kernel
theorem dX6_rankBringing_49 : decode cX6_rankBringing 49 = .ok (.isub, 1) := by decide +kernel
theorem dX6_rankBringing_50 : decode cX6_rankBringing 50 = .ok (.aload_n 0, 1) := by decide +kernel
theorem dX6_rankBringing_51 : decode cX6_rankBringing 51 = .ok (.getfield 22, 3) := by decide +kernel
theorem dX6_rankBringing_54 : decode cX6_rankBringing 54 = .ok (.iload_n 2, 1) := by decide +kernel
theorem dX6_rankBringing_55 : decode cX6_rankBringing 55 = .ok (.iaload, 1) := by decide +kernel
theorem dX6_rankBringing_56 : decode cX6_rankBringing 56 = .ok (.isub, 1) := by decide +kernel
theorem dX6_rankBringing_57 : decode cX6_rankBringing 57 = .ok (.iadd, 1) := by decide +kernel
theorem dX6_rankBringing_58 : decode cX6_rankBringing 58 = .ok (.istore_n 3, 1) := by decide +kernel
theorem dX6_rankBringing_59 : decode cX6_rankBringing 59 = .ok (.iinc 2 1, 3) := by decide +kernel
theorem dX6_rankBringing_62 : decode cX6_rankBringing 62 = .ok (.goto (-58), 3) := by decide +kernel
theorem dX6_rankBringing_65 : decode cX6_rankBringing 65 = .ok (.iload_n 2, 1) := by decide +kernel
theorem dX6_rankBringing_66 : decode cX6_rankBringing 66 = .ok (.ireturn, 1) := by decide +kernel
theorem dX6_firstPlaceOfLongestTwice_0 : decode cX6_firstPlaceOfLongestTwice 0 = .ok (.aload_n 0, 1) := by decide +kernel
theorem dX6_firstPlaceOfLongestTwice_1 : decode cX6_firstPlaceOfLongestTwice 1 = .ok (.invokevirtual 54, 3) := by decide +kernel
theorem dX6_firstPlaceOfLongestTwice_4 : decode cX6_firstPlaceOfLongestTwice 4 = .ok (.istore_n 1, 1) := by decide +kernel
theorem dX6_firstPlaceOfLongestTwice_5 : decode cX6_firstPlaceOfLongestTwice 5 = .ok (.iconst 1, 1) := by decide +kernel
theorem dX6_firstPlaceOfLongestTwice_6 : decode cX6_firstPlaceOfLongestTwice 6 = .ok (.istore_n 2, 1) := by decide +kernel
theorem dX6_firstPlaceOfLongestTwice_7 : decode cX6_firstPlaceOfLongestTwice 7 = .ok (.iload_n 2, 1) := by decide +kernel
theorem dX6_firstPlaceOfLongestTwice_8 : decode cX6_firstPlaceOfLongestTwice 8 = .ok (.aload_n 0, 1) := by decide +kernel
theorem dX6_firstPlaceOfLongestTwice_9 : decode cX6_firstPlaceOfLongestTwice 9 = .ok (.getfield 25, 3) := by decide +kernel
theorem dX6_firstPlaceOfLongestTwice_12 : decode cX6_firstPlaceOfLongestTwice 12 = .ok (.if_icmp .ge 19, 3) := by decide +kernel
theorem dX6_firstPlaceOfLongestTwice_15 : decode cX6_firstPlaceOfLongestTwice 15 = .ok (.aload_n 0, 1) := by decide +kernel
theorem dX6_firstPlaceOfLongestTwice_16 : decode cX6_firstPlaceOfLongestTwice 16 = .ok (.getfield 22, 3) := by decide +kernel
theorem dX6_firstPlaceOfLongestTwice_19 : decode cX6_firstPlaceOfLongestTwice 19 = .ok (.iload_n 2, 1) := by decide +kernel
theorem dX6_firstPlaceOfLongestTwice_20 : decode cX6_firstPlaceOfLongestTwice 20 = .ok (.iaload, 1) := by decide +kernel
theorem dX6_firstPlaceOfLongestTwice_21 : decode cX6_firstPlaceOfLongestTwice 21 = .ok (.iload_n 1, 1) := by decide +kernel
theorem dX6_firstPlaceOfLongestTwice_22 : decode cX6_firstPlaceOfLongestTwice 22 = .ok (.if_icmp .ge 9, 3) := by decide +kernel
theorem dX6_firstPlaceOfLongestTwice_25 : decode cX6_firstPlaceOfLongestTwice 25 = .ok (.iinc 2 1, 3) := by decide +kernel
theorem dX6_firstPlaceOfLongestTwice_28 : decode cX6_firstPlaceOfLongestTwice 28 = .ok (.goto (-21), 3) := by decide +kernel
theorem dX6_firstPlaceOfLongestTwice_31 : decode cX6_firstPlaceOfLongestTwice 31 = .ok (.aload_n 0, 1) := by decide +kernel
theorem dX6_firstPlaceOfLongestTwice_32 : decode cX6_firstPlaceOfLongestTwice 32 = .ok (.getfield 15, 3) := by decide +kernel
theorem dX6_firstPlaceOfLongestTwice_35 : decode cX6_firstPlaceOfLongestTwice 35 = .ok (.iload_n 2, 1) := by decide +kernel
theorem dX6_firstPlaceOfLongestTwice_36 : decode cX6_firstPlaceOfLongestTwice 36 = .ok (.iconst 1, 1) := by decide +kernel
theorem dX6_firstPlaceOfLongestTwice_37 : decode cX6_firstPlaceOfLongestTwice 37 = .ok (.isub, 1) := by decide +kernel
theorem dX6_firstPlaceOfLongestTwice_38 : decode cX6_firstPlaceOfLongestTwice 38 = .ok (.iaload, 1) := by decide +kernel
theorem dX6_firstPlaceOfLongestTwice_39 : decode cX6_firstPlaceOfLongestTwice 39 = .ok (.istore_n 3, 1) := by decide +kernel
theorem dX6_firstPlaceOfLongestTwice_40 : decode cX6_firstPlaceOfLongestTwice 40 = .ok (.iload_n 2, 1) := by decide +kernel
theorem dX6_firstPlaceOfLongestTwice_41 : decode cX6_firstPlaceOfLongestTwice 41 = .ok (.aload_n 0, 1) := by decide +kernel
theorem dX6_firstPlaceOfLongestTwice_42 : decode cX6_firstPlaceOfLongestTwice 42 = .ok (.getfield 25, 3) := by decide +kernel
theorem dX6_firstPlaceOfLongestTwice_45 : decode cX6_firstPlaceOfLongestTwice 45 = .ok (.if_icmp .ge 30, 3) := by decide +kernel
theorem dX6_firstPlaceOfLongestTwice_48 : decode cX6_firstPlaceOfLongestTwice 48 = .ok (.aload_n 0, 1) := by decide +kernel
theorem dX6_firstPlaceOfLongestTwice_49 : decode cX6_firstPlaceOfLongestTwice 49 = .ok (.getfield 22, 3) := by decide +kernel
theorem dX6_firstPlaceOfLongestTwice_52 : decode cX6_firstPlaceOfLongestTwice 52 = .ok (.iload_n 2, 1) := by decide +kernel
theorem dX6_firstPlaceOfLongestTwice_53 : decode cX6_firstPlaceOfLongestTwice 53 = .ok (.iaload, 1) := by decide +kernel
theorem dX6_firstPlaceOfLongestTwice_54 : decode cX6_firstPlaceOfLongestTwice 54 = .ok (.iload_n 1, 1) := by decide +kernel
theorem dX6_firstPlaceOfLongestTwice_55 : decode cX6_firstPlaceOfLongestTwice 55 = .ok (.if_icmp .ne 20, 3) := by decide +kernel
theorem dX6_firstPlaceOfLongestTwice_58 : decode cX6_firstPlaceOfLongestTwice 58 = .ok (.iload_n 3, 1) := by decide +kernel
theorem dX6_firstPlaceOfLongestTwice_59 : decode cX6_firstPlaceOfLongestTwice 59 = .ok (.aload_n 0, 1) := by decide +kernel
theorem dX6_firstPlaceOfLongestTwice_60 : decode cX6_firstPlaceOfLongestTwice 60 = .ok (.getfield 15, 3) := by decide +kernel
theorem dX6_firstPlaceOfLongestTwice_63 : decode cX6_firstPlaceOfLongestTwice 63 = .ok (.iload_n 2, 1) := by decide +kernel
theorem dX6_firstPlaceOfLongestTwice_64 : decode cX6_firstPlaceOfLongestTwice 64 = .ok (.iaload, 1) := by decide +kernel
theorem dX6_firstPlaceOfLongestTwice_65 : decode cX6_firstPlaceOfLongestTwice 65 = .ok (.invokestatic 29, 3) := by decide +kernel
theorem dX6_firstPlaceOfLongestTwice_68 : decode cX6_firstPlaceOfLongestTwice 68 = .ok (.istore_n 3, 1) := by decide +kernel
theorem dX6_firstPlaceOfLongestTwice_69 : decode cX6_firstPlaceOfLongestTwice 69 = .ok (.iinc 2 1, 3) := by decide +kernel
theorem dX6_firstPlaceOfLongestTwice_72 : decode cX6_firstPlaceOfLongestTwice 72 = .ok (.goto (-32), 3) := by decide +kernel
theorem dX6_firstPlaceOfLongestTwice_75 : decode cX6_firstPlaceOfLongestTwice 75 = .ok (.iload_n 3, 1) := by decide +kernel
theorem dX6_firstPlaceOfLongestTwice_76 : decode cX6_firstPlaceOfLongestTwice 76 = .ok (.ireturn, 1) := by decide +kernel
theorem dX6_placeOfRow_0 : decode cX6_placeOfRow 0 = .ok (.iload_n 1, 1) := by decide +kernel
theorem dX6_placeOfRow_1 : decode cX6_placeOfRow 1 = .ok (.ifCond .ne 10, 3) := by decide +kernel
theorem dX6_placeOfRow_4 : decode cX6_placeOfRow 4 = .ok (.aload_n 0, 1) := by decide +kernel
theorem dX6_placeOfRow_5 : decode cX6_placeOfRow 5 = .ok (.getfield 25, 3) := by decide +kernel
theorem dX6_placeOfRow_8 : decode cX6_placeOfRow 8 = .ok (.goto 11, 3) := by decide +kernel
theorem dX6_placeOfRow_11 : decode cX6_placeOfRow 11 = .ok (.aload_n 0, 1) := by decide +kernel
theorem dX6_placeOfRow_12 : decode cX6_placeOfRow 12 = .ok (.getfield 15, 3) := by decide +kernel
theorem dX6_placeOfRow_15 : decode cX6_placeOfRow 15 = .ok (.iload_n 1, 1) := by decide +kernel
theorem dX6_placeOfRow_16 : decode cX6_placeOfRow 16 = .ok (.iconst 1, 1) := by decide +kernel
theorem dX6_placeOfRow_17 : decode cX6_placeOfRow 17 = .ok (.isub, 1) := by decide +kernel
theorem dX6_placeOfRow_18 : decode cX6_placeOfRow 18 = .ok (.iaload, 1) := by decide +kernel
theorem dX6_placeOfRow_19 : decode cX6_placeOfRow 19 = .ok (.ireturn, 1) := by decide +kernel
theorem dX6_firstSign_0 : decode cX6_firstSign 0 = .ok (.iload_n 1, 1) := by decide +kernel
theorem dX6_firstSign_1 : decode cX6_firstSign 1 = .ok (.ifCond .ne 8, 3) := by decide +kernel
theorem dX6_firstSign_4 : decode cX6_firstSign 4 = .ok (.bipush 36, 2) := by decide +kernel
theorem dX6_firstSign_6 : decode cX6_firstSign 6 = .ok (.goto 16, 3) := by decide +kernel
theorem dX6_firstSign_9 : decode cX6_firstSign 9 = .ok (.aload_n 0, 1) := by decide +kernel
theorem dX6_firstSign_10 : decode cX6_firstSign 10 = .ok (.getfield 9, 3) := by decide +kernel
theorem dX6_firstSign_13 : decode cX6_firstSign 13 = .ok (.aload_n 0, 1) := by decide +kernel
theorem dX6_firstSign_14 : decode cX6_firstSign 14 = .ok (.getfield 15, 3) := by decide +kernel
theorem dX6_firstSign_17 : decode cX6_firstSign 17 = .ok (.iload_n 1, 1) := by decide +kernel
theorem dX6_firstSign_18 : decode cX6_firstSign 18 = .ok (.iconst 1, 1) := by decide +kernel
theorem dX6_firstSign_19 : decode cX6_firstSign 19 = .ok (.isub, 1) := by decide +kernel
theorem dX6_firstSign_20 : decode cX6_firstSign 20 = .ok (.iaload, 1) := by decide +kernel
theorem dX6_firstSign_21 : decode cX6_firstSign 21 = .ok (.caload, 1) := by decide +kernel
theorem dX6_firstSign_22 : decode cX6_firstSign 22 = .ok (.ireturn, 1) := by decide +kernel
theorem dX6_lastSign_0 : decode cX6_lastSign 0 = .ok (.aload_n 0, 1) := by decide +kernel
theorem dX6_lastSign_1 : decode cX6_lastSign 1 = .ok (.iload_n 1, 1) := by decide +kernel
theorem dX6_lastSign_2 : decode cX6_lastSign 2 = .ok (.invokevirtual 65, 3) := by decide +kernel
theorem dX6_lastSign_5 : decode cX6_lastSign 5 = .ok (.istore_n 2, 1) := by decide +kernel
theorem dX6_lastSign_6 : decode cX6_lastSign 6 = .ok (.iload_n 2, 1) := by decide +kernel
theorem dX6_lastSign_7 : decode cX6_lastSign 7 = .ok (.ifCond .ne 8, 3) := by decide +kernel
theorem dX6_lastSign_10 : decode cX6_lastSign 10 = .ok (.bipush 36, 2) := by decide +kernel
theorem dX6_lastSign_12 : decode cX6_lastSign 12 = .ok (.goto 11, 3) := by decide +kernel
theorem dX6_lastSign_15 : decode cX6_lastSign 15 = .ok (.aload_n 0, 1) := by decide +kernel
theorem dX6_lastSign_16 : decode cX6_lastSign 16 = .ok (.getfield 9, 3) := by decide +kernel
theorem dX6_lastSign_19 : decode cX6_lastSign 19 = .ok (.iload_n 2, 1) := by decide +kernel
theorem dX6_lastSign_20 : decode cX6_lastSign 20 = .ok (.iconst 1, 1) := by decide +kernel
theorem dX6_lastSign_21 : decode cX6_lastSign 21 = .ok (.isub, 1) := by decide +kernel
theorem dX6_lastSign_22 : decode cX6_lastSign 22 = .ok (.caload, 1) := by decide +kernel
theorem dX6_lastSign_23 : decode cX6_lastSign 23 = .ok (.ireturn, 1) := by decide +kernel
theorem dX6_rowAhead_0 : decode cX6_rowAhead 0 = .ok (.aload_n 0, 1) := by decide +kernel
theorem dX6_rowAhead_1 : decode cX6_rowAhead 1 = .ok (.iload_n 1, 1) := by decide +kernel
theorem dX6_rowAhead_2 : decode cX6_rowAhead 2 = .ok (.invokevirtual 65, 3) := by decide +kernel
theorem dX6_rowAhead_5 : decode cX6_rowAhead 5 = .ok (.istore_n 2, 1) := by decide +kernel
theorem dX6_rowAhead_6 : decode cX6_rowAhead 6 = .ok (.iload_n 2, 1) := by decide +kernel
theorem dX6_rowAhead_7 : decode cX6_rowAhead 7 = .ok (.ifCond .ne 7, 3) := by decide +kernel
theorem dX6_rowAhead_10 : decode cX6_rowAhead 10 = .ok (.iconst 0, 1) := by decide +kernel
theorem dX6_rowAhead_11 : decode cX6_rowAhead 11 = .ok (.goto 13, 3) := by decide +kernel
theorem dX6_rowAhead_14 : decode cX6_rowAhead 14 = .ok (.aload_n 0, 1) := by decide +kernel
theorem dX6_rowAhead_15 : decode cX6_rowAhead 15 = .ok (.getfield 19, 3) := by decide +kernel
theorem dX6_rowAhead_18 : decode cX6_rowAhead 18 = .ok (.iload_n 2, 1) := by decide +kernel
theorem dX6_rowAhead_19 : decode cX6_rowAhead 19 = .ok (.iconst 1, 1) := by decide +kernel
theorem dX6_rowAhead_20 : decode cX6_rowAhead 20 = .ok (.isub, 1) := by decide +kernel
theorem dX6_rowAhead_21 : decode cX6_rowAhead 21 = .ok (.iaload, 1) := by decide +kernel
theorem dX6_rowAhead_22 : decode cX6_rowAhead 22 = .ok (.iconst 1, 1) := by decide +kernel
theorem dX6_rowAhead_23 : decode cX6_rowAhead 23 = .ok (.iadd, 1) := by decide +kernel
theorem dX6_rowAhead_24 : decode cX6_rowAhead 24 = .ok (.ireturn, 1) := by decide +kernel
theorem dX7_init_0 : decode cX7_init 0 = .ok (.aload_n 0, 1) := by decide +kernel
theorem dX7_init_1 : decode cX7_init 1 = .ok (.invokespecial 3, 3) := by decide +kernel
theorem dX7_init_4 : decode cX7_init 4 = .ok (.aload_n 0, 1) := by decide +kernel
theorem dX7_init_5 : decode cX7_init 5 = .ok (.bipush 64, 2) := by decide +kernel
theorem dX7_init_7 : decode cX7_init 7 = .ok (.newarray .char, 2) := by decide +kernel
theorem dX7_init_9 : decode cX7_init 9 = .ok (.putfield 9, 3) := by decide +kernel
theorem dX7_init_12 : decode cX7_init 12 = .ok (.aload_n 0, 1) := by decide +kernel
theorem dX7_init_13 : decode cX7_init 13 = .ok (.bipush 65, 2) := by decide +kernel
theorem dX7_init_15 : decode cX7_init 15 = .ok (.newarray .char, 2) := by decide +kernel
theorem dX7_init_17 : decode cX7_init 17 = .ok (.putfield 15, 3) := by decide +kernel
theorem dX7_init_20 : decode cX7_init 20 = .ok (.aload_n 0, 1) := by decide +kernel
theorem dX7_init_21 : decode cX7_init 21 = .ok (.bipush 65, 2) := by decide +kernel
theorem dX7_init_23 : decode cX7_init 23 = .ok (.newarray .int, 2) := by decide +kernel
theorem dX7_init_25 : decode cX7_init 25 = .ok (.putfield 18, 3) := by decide +kernel
theorem dX7_init_28 : decode cX7_init 28 = .ok (.aload_n 0, 1) := by decide +kernel
theorem dX7_init_29 : decode cX7_init 29 = .ok (.bipush 28, 2) := by decide +kernel
theorem dX7_init_31 : decode cX7_init 31 = .ok (.newarray .int, 2) := by decide +kernel
theorem dX7_init_33 : decode cX7_init 33 = .ok (.putfield 22, 3) := by decide +kernel
theorem dX7_init_36 : decode cX7_init 36 = .ok (.aload_n 0, 1) := by decide +kernel
theorem dX7_init_37 : decode cX7_init 37 = .ok (.bipush 27, 2) := by decide +kernel
theorem dX7_init_39 : decode cX7_init 39 = .ok (.newarray .char, 2) := by decide +kernel
theorem dX7_init_41 : decode cX7_init 41 = .ok (.putfield 25, 3) := by decide +kernel
theorem dX7_init_44 : decode cX7_init 44 = .ok (.return_, 1) := by decide +kernel
theorem dX7_indexOfSign_0 : decode cX7_indexOfSign 0 = .ok (.iload_n 0, 1) := by decide +kernel
theorem dX7_indexOfSign_1 : decode cX7_indexOfSign 1 = .ok (.invokestatic 28, 3) := by decide +kernel
theorem dX7_indexOfSign_4 : decode cX7_indexOfSign 4 = .ok (.ifCond .eq 12, 3) := by decide +kernel
theorem dX7_indexOfSign_7 : decode cX7_indexOfSign 7 = .ok (.iload_n 0, 1) := by decide +kernel
theorem dX7_indexOfSign_8 : decode cX7_indexOfSign 8 = .ok (.bipush 97, 2) := by decide +kernel
theorem dX7_indexOfSign_10 : decode cX7_indexOfSign 10 = .ok (.isub, 1) := by decide +kernel
theorem dX7_indexOfSign_11 : decode cX7_indexOfSign 11 = .ok (.iconst 1, 1) := by decide +kernel
theorem dX7_indexOfSign_12 : decode cX7_indexOfSign 12 = .ok (.iadd, 1) := by decide +kernel
theorem dX7_indexOfSign_13 : decode cX7_indexOfSign 13 = .ok (.goto 4, 3) := by decide +kernel
theorem dX7_indexOfSign_16 : decode cX7_indexOfSign 16 = .ok (.iconst 0, 1) := by decide +kernel
theorem dX7_indexOfSign_17 : decode cX7_indexOfSign 17 = .ok (.ireturn, 1) := by decide +kernel
theorem dX7_turnBack_0 : decode cX7_turnBack 0 = .ok (.aload_n 0, 1) := by decide +kernel
theorem dX7_turnBack_1 : decode cX7_turnBack 1 = .ok (.aload_n 1, 1) := by decide +kernel
theorem dX7_turnBack_2 : decode cX7_turnBack 2 = .ok (.iload_n 2, 1) := by decide +kernel
theorem dX7_turnBack_3 : decode cX7_turnBack 3 = .ok (.invokevirtual 42, 3) := by decide +kernel
theorem dX7_turnBack_6 : decode cX7_turnBack 6 = .ok (.iconst 1, 1) := by decide +kernel
theorem dX7_turnBack_7 : decode cX7_turnBack 7 = .ok (.if_icmp .eq 5, 3) := by decide +kernel
theorem dX7_turnBack_10 : decode cX7_turnBack 10 = .ok (.iconst 0, 1) := by decide +kernel
theorem dX7_turnBack_11 : decode cX7_turnBack 11 = .ok (.ireturn, 1) := by decide +kernel
theorem dX7_turnBack_12 : decode cX7_turnBack 12 = .ok (.aload_n 0, 1) := by decide +kernel
theorem dX7_turnBack_13 : decode cX7_turnBack 13 = .ok (.aload_n 1, 1) := by decide +kernel
theorem dX7_turnBack_14 : decode cX7_turnBack 14 = .ok (.iload_n 2, 1) := by decide +kernel
theorem dX7_turnBack_15 : decode cX7_turnBack 15 = .ok (.invokevirtual 46, 3) := by decide +kernel
theorem dX7_turnBack_18 : decode cX7_turnBack 18 = .ok (.iconst 0, 1) := by decide +kernel
theorem dX7_turnBack_19 : decode cX7_turnBack 19 = .ok (.istore_n 3, 1) := by decide +kernel
theorem dX7_turnBack_20 : decode cX7_turnBack 20 = .ok (.iload_n 2, 1) := by decide +kernel
theorem dX7_turnBack_21 : decode cX7_turnBack 21 = .ok (.iconst 2, 1) := by decide +kernel
theorem dX7_turnBack_22 : decode cX7_turnBack 22 = .ok (.isub, 1) := by decide +kernel
theorem dX7_turnBack_23 : decode cX7_turnBack 23 = .ok (.istore 4, 2) := by decide +kernel
theorem dX7_turnBack_25 : decode cX7_turnBack 25 = .ok (.iload 4, 2) := by decide +kernel
theorem dX7_turnBack_27 : decode cX7_turnBack 27 = .ok (.ifCond .lt 36, 3) := by decide +kernel
theorem dX7_turnBack_30 : decode cX7_turnBack 30 = .ok (.aload_n 1, 1) := by decide +kernel
theorem dX7_turnBack_31 : decode cX7_turnBack 31 = .ok (.iload_n 3, 1) := by decide +kernel
theorem dX7_turnBack_32 : decode cX7_turnBack 32 = .ok (.caload, 1) := by decide +kernel
theorem dX7_turnBack_33 : decode cX7_turnBack 33 = .ok (.bipush 36, 2) := by decide +kernel
theorem dX7_turnBack_35 : decode cX7_turnBack 35 = .ok (.if_icmp .ne 5, 3) := by decide +kernel
theorem dX7_turnBack_38 : decode cX7_turnBack 38 = .ok (.iconst 0, 1) := by decide +kernel
theorem dX7_turnBack_39 : decode cX7_turnBack 39 = .ok (.ireturn, 1) := by decide +kernel
theorem dX7_turnBack_40 : decode cX7_turnBack 40 = .ok (.aload_n 0, 1) := by decide +kernel
theorem dX7_turnBack_41 : decode cX7_turnBack 41 = .ok (.getfield 9, 3) := by decide +kernel
theorem dX7_turnBack_44 : decode cX7_turnBack 44 = .ok (.iload 4, 2) := by decide +kernel
theorem dX7_turnBack_46 : decode cX7_turnBack 46 = .ok (.aload_n 1, 1) := by decide +kernel
theorem dX7_turnBack_47 : decode cX7_turnBack 47 = .ok (.iload_n 3, 1) := by decide +kernel
theorem dX7_turnBack_48 : decode cX7_turnBack 48 = .ok (.caload, 1) := by decide +kernel
theorem dX7_turnBack_49 : decode cX7_turnBack 49 = .ok (.castore, 1) := by decide +kernel
theorem dX7_turnBack_50 : decode cX7_turnBack 50 = .ok (.aload_n 0, 1) := by decide +kernel
theorem dX7_turnBack_51 : decode cX7_turnBack 51 = .ok (.getfield 18, 3) := by decide +kernel
theorem dX7_turnBack_54 : decode cX7_turnBack 54 = .ok (.iload_n 3, 1) := by decide +kernel
theorem dX7_turnBack_55 : decode cX7_turnBack 55 = .ok (.iaload, 1) := by decide +kernel
theorem dX7_turnBack_56 : decode cX7_turnBack 56 = .ok (.istore_n 3, 1) := by decide +kernel
theorem dX7_turnBack_57 : decode cX7_turnBack 57 = .ok (.iinc 4 (-1), 3) := by decide +kernel
theorem dX7_turnBack_60 : decode cX7_turnBack 60 = .ok (.goto (-35), 3) := by decide +kernel
theorem dX7_turnBack_63 : decode cX7_turnBack 63 = .ok (.iconst 1, 1) := by decide +kernel
theorem dX7_turnBack_64 : decode cX7_turnBack 64 = .ok (.ireturn, 1) := by decide +kernel
theorem dX7_endSigns_0 : decode cX7_endSigns 0 = .ok (.iconst 0, 1) := by decide +kernel
theorem dX7_endSigns_1 : decode cX7_endSigns 1 = .ok (.istore_n 3, 1) := by decide +kernel
theorem dX7_endSigns_2 : decode cX7_endSigns 2 = .ok (.iconst 0, 1) := by decide +kernel
theorem dX7_endSigns_3 : decode cX7_endSigns 3 = .ok (.istore 4, 2) := by decide +kernel
theorem dX7_endSigns_5 : decode cX7_endSigns 5 = .ok (.iload 4, 2) := by decide +kernel
theorem dX7_endSigns_7 : decode cX7_endSigns 7 = .ok (.iload_n 2, 1) := by decide +kernel
theorem dX7_endSigns_8 : decode cX7_endSigns 8 = .ok (.if_icmp .ge 21, 3) := by decide +kernel
theorem dX7_endSigns_11 : decode cX7_endSigns 11 = .ok (.aload_n 1, 1) := by decide +kernel
theorem dX7_endSigns_12 : decode cX7_endSigns 12 = .ok (.iload 4, 2) := by decide +kernel
theorem dX7_endSigns_14 : decode cX7_endSigns 14 = .ok (.caload, 1) := by decide +kernel
theorem dX7_endSigns_15 : decode cX7_endSigns 15 = .ok (.bipush 36, 2) := by decide +kernel
theorem dX7_endSigns_17 : decode cX7_endSigns 17 = .ok (.if_icmp .ne 6, 3) := by decide +kernel
theorem dX7_endSigns_20 : decode cX7_endSigns 20 = .ok (.iinc 3 1, 3) := by decide +kernel
theorem dX7_endSigns_23 : decode cX7_endSigns 23 = .ok (.iinc 4 1, 3) := by decide +kernel
theorem dX7_endSigns_26 : decode cX7_endSigns 26 = .ok (.goto (-21), 3) := by decide +kernel
theorem dX7_endSigns_29 : decode cX7_endSigns 29 = .ok (.iload_n 3, 1) := by decide +kernel
theorem dX7_endSigns_30 : decode cX7_endSigns 30 = .ok (.ireturn, 1) := by decide +kernel
theorem dX7_tellRowsAhead_0 : decode cX7_tellRowsAhead 0 = .ok (.iconst 0, 1) := by decide +kernel
theorem dX7_tellRowsAhead_1 : decode cX7_tellRowsAhead 1 = .ok (.istore_n 3, 1) := by decide +kernel
theorem dX7_tellRowsAhead_2 : decode cX7_tellRowsAhead 2 = .ok (.iload_n 3, 1) := by decide +kernel
theorem dX7_tellRowsAhead_3 : decode cX7_tellRowsAhead 3 = .ok (.aload_n 0, 1) := by decide +kernel
theorem dX7_tellRowsAhead_4 : decode cX7_tellRowsAhead 4 = .ok (.getfield 22, 3) := by decide +kernel
theorem dX7_tellRowsAhead_7 : decode cX7_tellRowsAhead 7 = .ok (.arraylength, 1) := by decide +kernel
theorem dX7_tellRowsAhead_8 : decode cX7_tellRowsAhead 8 = .ok (.if_icmp .ge 16, 3) := by decide +kernel
theorem dX7_tellRowsAhead_11 : decode cX7_tellRowsAhead 11 = .ok (.aload_n 0, 1) := by decide +kernel
theorem dX7_tellRowsAhead_12 : decode cX7_tellRowsAhead 12 = .ok (.getfield 22, 3) := by decide +kernel
theorem dX7_tellRowsAhead_15 : decode cX7_tellRowsAhead 15 = .ok (.iload_n 3, 1) := by decide +kernel
theorem dX7_tellRowsAhead_16 : decode cX7_tellRowsAhead 16 = .ok (.iconst 0, 1) := by decide +kernel
theorem dX7_tellRowsAhead_17 : decode cX7_tellRowsAhead 17 = .ok (.iastore, 1) := by decide +kernel
theorem dX7_tellRowsAhead_18 : decode cX7_tellRowsAhead 18 = .ok (.iinc 3 1, 3) := by decide +kernel
theorem dX7_tellRowsAhead_21 : decode cX7_tellRowsAhead 21 = .ok (.goto (-19), 3) := by decide +kernel
theorem dX7_tellRowsAhead_24 : decode cX7_tellRowsAhead 24 = .ok (.iconst 0, 1) := by decide +kernel
theorem dX7_tellRowsAhead_25 : decode cX7_tellRowsAhead 25 = .ok (.istore_n 3, 1) := by decide +kernel
theorem dX7_tellRowsAhead_26 : decode cX7_tellRowsAhead 26 = .ok (.iload_n 3, 1) := by decide +kernel
theorem dX7_tellRowsAhead_27 : decode cX7_tellRowsAhead 27 = .ok (.iload_n 2, 1) := by decide +kernel
theorem dX7_tellRowsAhead_28 : decode cX7_tellRowsAhead 28 = .ok (.if_icmp .ge 26, 3) := by decide +kernel
theorem dX7_tellRowsAhead_31 : decode cX7_tellRowsAhead 31 = .ok (.aload_n 0, 1) := by decide +kernel
theorem dX7_tellRowsAhead_32 : decode cX7_tellRowsAhead 32 = .ok (.getfield 22, 3) := by decide +kernel
theorem dX7_tellRowsAhead_35 : decode cX7_tellRowsAhead 35 = .ok (.aload_n 1, 1) := by decide +kernel
theorem dX7_tellRowsAhead_36 : decode cX7_tellRowsAhead 36 = .ok (.iload_n 3, 1) := by decide +kernel
theorem dX7_tellRowsAhead_37 : decode cX7_tellRowsAhead 37 = .ok (.caload, 1) := by decide +kernel
theorem dX7_tellRowsAhead_38 : decode cX7_tellRowsAhead 38 = .ok (.invokestatic 50, 3) := by decide +kernel
theorem dX7_tellRowsAhead_41 : decode cX7_tellRowsAhead 41 = .ok (.iconst 1, 1) := by decide +kernel
theorem dX7_tellRowsAhead_42 : decode cX7_tellRowsAhead 42 = .ok (.iadd, 1) := by decide +kernel
theorem dX7_tellRowsAhead_43 : decode cX7_tellRowsAhead 43 = .ok (.dup2, 1) := by decide +kernel
theorem dX7_tellRowsAhead_44 : decode cX7_tellRowsAhead 44 = .ok (.iaload, 1) := by decide +kernel
theorem dX7_tellRowsAhead_45 : decode cX7_tellRowsAhead 45 = .ok (.iconst 1, 1) := by decide +kernel
theorem dX7_tellRowsAhead_46 : decode cX7_tellRowsAhead 46 = .ok (.iadd, 1) := by decide +kernel
theorem dX7_tellRowsAhead_47 : decode cX7_tellRowsAhead 47 = .ok (.iastore, 1) := by decide +kernel
theorem dX7_tellRowsAhead_48 : decode cX7_tellRowsAhead 48 = .ok (.iinc 3 1, 3) := by decide +kernel
theorem dX7_tellRowsAhead_51 : decode cX7_tellRowsAhead 51 = .ok (.goto (-25), 3) := by decide +kernel
theorem dX7_tellRowsAhead_54 : decode cX7_tellRowsAhead 54 = .ok (.iconst 1, 1) := by decide +kernel
theorem dX7_tellRowsAhead_55 : decode cX7_tellRowsAhead 55 = .ok (.istore_n 3, 1) := by decide +kernel
theorem dX7_tellRowsAhead_56 : decode cX7_tellRowsAhead 56 = .ok (.iload_n 3, 1) := by decide +kernel
theorem dX7_tellRowsAhead_57 : decode cX7_tellRowsAhead 57 = .ok (.aload_n 0, 1) := by decide +kernel
theorem dX7_tellRowsAhead_58 : decode cX7_tellRowsAhead 58 = .ok (.getfield 22, 3) := by decide +kernel
theorem dX7_tellRowsAhead_61 : decode cX7_tellRowsAhead 61 = .ok (.arraylength, 1) := by decide +kernel
theorem dX7_tellRowsAhead_62 : decode cX7_tellRowsAhead 62 = .ok (.if_icmp .ge 26, 3) := by decide +kernel
theorem dX7_tellRowsAhead_65 : decode cX7_tellRowsAhead 65 = .ok (.aload_n 0, 1) := by decide +kernel
theorem dX7_tellRowsAhead_66 : decode cX7_tellRowsAhead 66 = .ok (.getfield 22, 3) := by decide +kernel
theorem dX7_tellRowsAhead_69 : decode cX7_tellRowsAhead 69 = .ok (.iload_n 3, 1) := by decide +kernel
theorem dX7_tellRowsAhead_70 : decode cX7_tellRowsAhead 70 = .ok (.dup2, 1) := by decide +kernel
theorem dX7_tellRowsAhead_71 : decode cX7_tellRowsAhead 71 = .ok (.iaload, 1) := by decide +kernel
theorem dX7_tellRowsAhead_72 : decode cX7_tellRowsAhead 72 = .ok (.aload_n 0, 1) := by decide +kernel
theorem dX7_tellRowsAhead_73 : decode cX7_tellRowsAhead 73 = .ok (.getfield 22, 3) := by decide +kernel
theorem dX7_tellRowsAhead_76 : decode cX7_tellRowsAhead 76 = .ok (.iload_n 3, 1) := by decide +kernel
theorem dX7_tellRowsAhead_77 : decode cX7_tellRowsAhead 77 = .ok (.iconst 1, 1) := by decide +kernel
theorem dX7_tellRowsAhead_78 : decode cX7_tellRowsAhead 78 = .ok (.isub, 1) := by decide +kernel
theorem dX7_tellRowsAhead_79 : decode cX7_tellRowsAhead 79 = .ok (.iaload, 1) := by decide +kernel
theorem dX7_tellRowsAhead_80 : decode cX7_tellRowsAhead 80 = .ok (.iadd, 1) := by decide +kernel
theorem dX7_tellRowsAhead_81 : decode cX7_tellRowsAhead 81 = .ok (.iastore, 1) := by decide +kernel
theorem dX7_tellRowsAhead_82 : decode cX7_tellRowsAhead 82 = .ok (.iinc 3 1, 3) := by decide +kernel
theorem dX7_tellRowsAhead_85 : decode cX7_tellRowsAhead 85 = .ok (.goto (-29), 3) := by decide +kernel
theorem dX7_tellRowsAhead_88 : decode cX7_tellRowsAhead 88 = .ok (.iconst 0, 1) := by decide +kernel
theorem dX7_tellRowsAhead_89 : decode cX7_tellRowsAhead 89 = .ok (.istore_n 3, 1) := by decide +kernel
theorem dX7_tellRowsAhead_90 : decode cX7_tellRowsAhead 90 = .ok (.iload_n 3, 1) := by decide +kernel
theorem dX7_tellRowsAhead_91 : decode cX7_tellRowsAhead 91 = .ok (.iload_n 2, 1) := by decide +kernel
theorem dX7_tellRowsAhead_92 : decode cX7_tellRowsAhead 92 = .ok (.if_icmp .ge 41, 3) := by decide +kernel
theorem dX7_tellRowsAhead_95 : decode cX7_tellRowsAhead 95 = .ok (.aload_n 1, 1) := by decide +kernel
theorem dX7_tellRowsAhead_96 : decode cX7_tellRowsAhead 96 = .ok (.iload_n 3, 1) := by decide +kernel
theorem dX7_tellRowsAhead_97 : decode cX7_tellRowsAhead 97 = .ok (.caload, 1) := by decide +kernel
theorem dX7_tellRowsAhead_98 : decode cX7_tellRowsAhead 98 = .ok (.invokestatic 50, 3) := by decide +kernel
theorem dX7_tellRowsAhead_101 : decode cX7_tellRowsAhead 101 = .ok (.istore 4, 2) := by decide +kernel
theorem dX7_tellRowsAhead_103 : decode cX7_tellRowsAhead 103 = .ok (.aload_n 0, 1) := by decide +kernel
theorem dX7_tellRowsAhead_104 : decode cX7_tellRowsAhead 104 = .ok (.getfield 18, 3) := by decide +kernel
theorem dX7_tellRowsAhead_107 : decode cX7_tellRowsAhead 107 = .ok (.iload_n 3, 1) := by decide +kernel
theorem dX7_tellRowsAhead_108 : decode cX7_tellRowsAhead 108 = .ok (.aload_n 0, 1) := by decide +kernel
theorem dX7_tellRowsAhead_109 : decode cX7_tellRowsAhead 109 = .ok (.getfield 22, 3) := by decide +kernel
theorem dX7_tellRowsAhead_112 : decode cX7_tellRowsAhead 112 = .ok (.iload 4, 2) := by decide +kernel
theorem dX7_tellRowsAhead_114 : decode cX7_tellRowsAhead 114 = .ok (.iaload, 1) := by decide +kernel
theorem dX7_tellRowsAhead_115 : decode cX7_tellRowsAhead 115 = .ok (.iastore, 1) := by decide +kernel
theorem dX7_tellRowsAhead_116 : decode cX7_tellRowsAhead 116 = .ok (.aload_n 0, 1) := by decide +kernel
theorem dX7_tellRowsAhead_117 : decode cX7_tellRowsAhead 117 = .ok (.getfield 22, 3) := by decide +kernel
theorem dX7_tellRowsAhead_120 : decode cX7_tellRowsAhead 120 = .ok (.iload 4, 2) := by decide +kernel
theorem dX7_tellRowsAhead_122 : decode cX7_tellRowsAhead 122 = .ok (.dup2, 1) := by decide +kernel
theorem dX7_tellRowsAhead_123 : decode cX7_tellRowsAhead 123 = .ok (.iaload, 1) := by decide +kernel
theorem dX7_tellRowsAhead_124 : decode cX7_tellRowsAhead 124 = .ok (.iconst 1, 1) := by decide +kernel
theorem dX7_tellRowsAhead_125 : decode cX7_tellRowsAhead 125 = .ok (.iadd, 1) := by decide +kernel
theorem dX7_tellRowsAhead_126 : decode cX7_tellRowsAhead 126 = .ok (.iastore, 1) := by decide +kernel
theorem dX7_tellRowsAhead_127 : decode cX7_tellRowsAhead 127 = .ok (.iinc 3 1, 3) := by decide +kernel
theorem dX7_tellRowsAhead_130 : decode cX7_tellRowsAhead 130 = .ok (.goto (-40), 3) := by decide +kernel
theorem dX7_tellRowsAhead_133 : decode cX7_tellRowsAhead 133 = .ok (.return_, 1) := by decide +kernel
theorem dX7_comesBack_0 : decode cX7_comesBack 0 = .ok (.aload_n 1, 1) := by decide +kernel
theorem dX7_comesBack_1 : decode cX7_comesBack 1 = .ok (.getfield 53, 3) := by decide +kernel
theorem dX7_comesBack_4 : decode cX7_comesBack 4 = .ok (.iconst 1, 1) := by decide +kernel
theorem dX7_comesBack_5 : decode cX7_comesBack 5 = .ok (.iadd, 1) := by decide +kernel
theorem dX7_comesBack_6 : decode cX7_comesBack 6 = .ok (.istore_n 2, 1) := by decide +kernel
theorem dX7_comesBack_7 : decode cX7_comesBack 7 = .ok (.iconst 0, 1) := by decide +kernel
theorem dX7_comesBack_8 : decode cX7_comesBack 8 = .ok (.istore_n 3, 1) := by decide +kernel
theorem dX7_comesBack_9 : decode cX7_comesBack 9 = .ok (.iload_n 3, 1) := by decide +kernel
theorem dX7_comesBack_10 : decode cX7_comesBack 10 = .ok (.iload_n 2, 1) := by decide +kernel
theorem dX7_comesBack_11 : decode cX7_comesBack 11 = .ok (.if_icmp .ge 20, 3) := by decide +kernel
theorem dX7_comesBack_14 : decode cX7_comesBack 14 = .ok (.aload_n 0, 1) := by decide +kernel
theorem dX7_comesBack_15 : decode cX7_comesBack 15 = .ok (.getfield 15, 3) := by decide +kernel
theorem dX7_comesBack_18 : decode cX7_comesBack 18 = .ok (.iload_n 3, 1) := by decide +kernel
theorem dX7_comesBack_19 : decode cX7_comesBack 19 = .ok (.aload_n 1, 1) := by decide +kernel
theorem dX7_comesBack_20 : decode cX7_comesBack 20 = .ok (.iload_n 3, 1) := by decide +kernel
theorem dX7_comesBack_21 : decode cX7_comesBack 21 = .ok (.invokevirtual 32, 3) := by decide +kernel
theorem dX7_comesBack_24 : decode cX7_comesBack 24 = .ok (.castore, 1) := by decide +kernel
theorem dX7_comesBack_25 : decode cX7_comesBack 25 = .ok (.iinc 3 1, 3) := by decide +kernel
theorem dX7_comesBack_28 : decode cX7_comesBack 28 = .ok (.goto (-19), 3) := by decide +kernel
theorem dX7_comesBack_31 : decode cX7_comesBack 31 = .ok (.aload_n 0, 1) := by decide +kernel
theorem dX7_comesBack_32 : decode cX7_comesBack 32 = .ok (.aload_n 0, 1) := by decide +kernel
theorem dX7_comesBack_33 : decode cX7_comesBack 33 = .ok (.getfield 15, 3) := by decide +kernel
theorem dX7_comesBack_36 : decode cX7_comesBack 36 = .ok (.iload_n 2, 1) := by decide +kernel
theorem dX7_comesBack_37 : decode cX7_comesBack 37 = .ok (.invokevirtual 57, 3) := by decide +kernel
theorem dX7_comesBack_40 : decode cX7_comesBack 40 = .ok (.ifCond .ne 5, 3) := by decide +kernel
theorem dX7_comesBack_43 : decode cX7_comesBack 43 = .ok (.iconst 0, 1) := by decide +kernel
theorem dX7_comesBack_44 : decode cX7_comesBack 44 = .ok (.ireturn, 1) := by decide +kernel
theorem dX7_comesBack_45 : decode cX7_comesBack 45 = .ok (.iconst 0, 1) := by decide +kernel
theorem dX7_comesBack_46 : decode cX7_comesBack 46 = .ok (.istore_n 3, 1) := by decide +kernel
theorem dX7_comesBack_47 : decode cX7_comesBack 47 = .ok (.iload_n 3, 1) := by decide +kernel
theorem dX7_comesBack_48 : decode cX7_comesBack 48 = .ok (.iload_n 2, 1) := by decide +kernel
theorem dX7_comesBack_49 : decode cX7_comesBack 49 = .ok (.if_icmp .ge 25, 3) := by decide +kernel
theorem dX7_comesBack_52 : decode cX7_comesBack 52 = .ok (.aload_n 0, 1) := by decide +kernel
theorem dX7_comesBack_53 : decode cX7_comesBack 53 = .ok (.getfield 18, 3) := by decide +kernel
theorem dX7_comesBack_56 : decode cX7_comesBack 56 = .ok (.iload_n 3, 1) := by decide +kernel
theorem dX7_comesBack_57 : decode cX7_comesBack 57 = .ok (.iaload, 1) := by decide +kernel
theorem dX7_comesBack_58 : decode cX7_comesBack 58 = .ok (.aload_n 1, 1) := by decide +kernel
theorem dX7_comesBack_59 : decode cX7_comesBack 59 = .ok (.iload_n 3, 1) := by decide +kernel
theorem dX7_comesBack_60 : decode cX7_comesBack 60 = .ok (.invokevirtual 61, 3) := by decide +kernel
theorem dX7_comesBack_63 : decode cX7_comesBack 63 = .ok (.if_icmp .eq 5, 3) := by decide +kernel
theorem dX7_comesBack_66 : decode cX7_comesBack 66 = .ok (.iconst 0, 1) := by decide +kernel
theorem dX7_comesBack_67 : decode cX7_comesBack 67 = .ok (.ireturn, 1) := by decide +kernel
theorem dX7_comesBack_68 : decode cX7_comesBack 68 = .ok (.iinc 3 1, 3) := by decide +kernel
theorem dX7_comesBack_71 : decode cX7_comesBack 71 = .ok (.goto (-24), 3) := by decide +kernel
theorem dX7_comesBack_74 : decode cX7_comesBack 74 = .ok (.iconst 0, 1) := by decide +kernel
theorem dX7_comesBack_75 : decode cX7_comesBack 75 = .ok (.istore_n 3, 1) := by decide +kernel
theorem dX7_comesBack_76 : decode cX7_comesBack 76 = .ok (.iload_n 3, 1) := by decide +kernel
theorem dX7_comesBack_77 : decode cX7_comesBack 77 = .ok (.aload_n 1, 1) := by decide +kernel
theorem dX7_comesBack_78 : decode cX7_comesBack 78 = .ok (.getfield 53, 3) := by decide +kernel
theorem dX7_comesBack_81 : decode cX7_comesBack 81 = .ok (.if_icmp .ge 26, 3) := by decide +kernel
theorem dX7_comesBack_84 : decode cX7_comesBack 84 = .ok (.aload_n 0, 1) := by decide +kernel
theorem dX7_comesBack_85 : decode cX7_comesBack 85 = .ok (.getfield 9, 3) := by decide +kernel
theorem dX7_comesBack_88 : decode cX7_comesBack 88 = .ok (.iload_n 3, 1) := by decide +kernel
theorem dX7_comesBack_89 : decode cX7_comesBack 89 = .ok (.caload, 1) := by decide +kernel
theorem dX7_comesBack_90 : decode cX7_comesBack 90 = .ok (.aload_n 1, 1) := by decide +kernel
theorem dX7_comesBack_91 : decode cX7_comesBack 91 = .ok (.getfield 65, 3) := by decide +kernel
theorem dX7_comesBack_94 : decode cX7_comesBack 94 = .ok (.iload_n 3, 1) := by decide +kernel
theorem dX7_comesBack_95 : decode cX7_comesBack 95 = .ok (.caload, 1) := by decide +kernel
theorem dX7_comesBack_96 : decode cX7_comesBack 96 = .ok (.if_icmp .eq 5, 3) := by decide +kernel
theorem dX7_comesBack_99 : decode cX7_comesBack 99 = .ok (.iconst 0, 1) := by decide +kernel
theorem dX7_comesBack_100 : decode cX7_comesBack 100 = .ok (.ireturn, 1) := by decide +kernel
theorem dX7_comesBack_101 : decode cX7_comesBack 101 = .ok (.iinc 3 1, 3) := by decide +kernel
theorem dX7_comesBack_104 : decode cX7_comesBack 104 = .ok (.goto (-28), 3) := by decide +kernel
theorem dX7_comesBack_107 : decode cX7_comesBack 107 = .ok (.iconst 1, 1) := by decide +kernel
theorem dX7_comesBack_108 : decode cX7_comesBack 108 = .ok (.ireturn, 1) := by decide +kernel
theorem dX8_init_0 : decode cX8_init 0 = .ok (.aload_n 0, 1) := by decide +kernel
theorem dX8_init_1 : decode cX8_init 1 = .ok (.invokespecial 3, 3) := by decide +kernel
theorem dX8_init_4 : decode cX8_init 4 = .ok (.aload_n 0, 1) := by decide +kernel
theorem dX8_init_5 : decode cX8_init 5 = .ok (.bipush 65, 2) := by decide +kernel
theorem dX8_init_7 : decode cX8_init 7 = .ok (.newarray .char, 2) := by decide +kernel
theorem dX8_init_9 : decode cX8_init 9 = .ok (.putfield 9, 3) := by decide +kernel
theorem dX8_init_12 : decode cX8_init 12 = .ok (.return_, 1) := by decide +kernel
theorem dX8_put_0 : decode cX8_put 0 = .ok (.aload_n 0, 1) := by decide +kernel
theorem dX8_put_1 : decode cX8_put 1 = .ok (.getfield 15, 3) := by decide +kernel
theorem dX8_put_4 : decode cX8_put 4 = .ok (.aload_n 0, 1) := by decide +kernel
theorem dX8_put_5 : decode cX8_put 5 = .ok (.getfield 9, 3) := by decide +kernel
theorem dX8_put_8 : decode cX8_put 8 = .ok (.arraylength, 1) := by decide +kernel
theorem dX8_put_9 : decode cX8_put 9 = .ok (.if_icmp .ge 23, 3) := by decide +kernel
theorem dX8_put_12 : decode cX8_put 12 = .ok (.aload_n 0, 1) := by decide +kernel
theorem dX8_put_13 : decode cX8_put 13 = .ok (.getfield 9, 3) := by decide +kernel
theorem dX8_put_16 : decode cX8_put 16 = .ok (.aload_n 0, 1) := by decide +kernel
theorem dX8_put_17 : decode cX8_put 17 = .ok (.getfield 15, 3) := by decide +kernel
theorem dX8_put_20 : decode cX8_put 20 = .ok (.iload_n 1, 1) := by decide +kernel
theorem dX8_put_21 : decode cX8_put 21 = .ok (.castore, 1) := by decide +kernel
theorem dX8_put_22 : decode cX8_put 22 = .ok (.aload_n 0, 1) := by decide +kernel
theorem dX8_put_23 : decode cX8_put 23 = .ok (.dup, 1) := by decide +kernel
theorem dX8_put_24 : decode cX8_put 24 = .ok (.getfield 15, 3) := by decide +kernel
theorem dX8_put_27 : decode cX8_put 27 = .ok (.iconst 1, 1) := by decide +kernel
theorem dX8_put_28 : decode cX8_put 28 = .ok (.iadd, 1) := by decide +kernel
theorem dX8_put_29 : decode cX8_put 29 = .ok (.putfield 15, 3) := by decide +kernel
theorem dX8_put_32 : decode cX8_put 32 = .ok (.return_, 1) := by decide +kernel
theorem dX8_hold_0 : decode cX8_hold 0 = .ok (.aload_n 0, 1) := by decide +kernel
theorem dX8_hold_1 : decode cX8_hold 1 = .ok (.iconst 0, 1) := by decide +kernel
theorem dX8_hold_2 : decode cX8_hold 2 = .ok (.putfield 15, 3) := by decide +kernel
theorem dX8_hold_5 : decode cX8_hold 5 = .ok (.iconst 0, 1) := by decide +kernel
theorem dX8_hold_6 : decode cX8_hold 6 = .ok (.istore 4, 2) := by decide +kernel
theorem dX8_hold_8 : decode cX8_hold 8 = .ok (.iload 4, 2) := by decide +kernel
theorem dX8_hold_10 : decode cX8_hold 10 = .ok (.iload_n 3, 1) := by decide +kernel
theorem dX8_hold_11 : decode cX8_hold 11 = .ok (.if_icmp .ge 19, 3) := by decide +kernel
theorem dX8_hold_14 : decode cX8_hold 14 = .ok (.aload_n 0, 1) := by decide +kernel
theorem dX8_hold_15 : decode cX8_hold 15 = .ok (.aload_n 1, 1) := by decide +kernel
theorem dX8_hold_16 : decode cX8_hold 16 = .ok (.iload_n 2, 1) := by decide +kernel
theorem dX8_hold_17 : decode cX8_hold 17 = .ok (.iload 4, 2) := by decide +kernel
theorem dX8_hold_19 : decode cX8_hold 19 = .ok (.iadd, 1) := by decide +kernel
theorem dX8_hold_20 : decode cX8_hold 20 = .ok (.caload, 1) := by decide +kernel
theorem dX8_hold_21 : decode cX8_hold 21 = .ok (.invokevirtual 19, 3) := by decide +kernel
theorem dX8_hold_24 : decode cX8_hold 24 = .ok (.iinc 4 1, 3) := by decide +kernel
theorem dX8_hold_27 : decode cX8_hold 27 = .ok (.goto (-19), 3) := by decide +kernel
theorem dX8_hold_30 : decode cX8_hold 30 = .ok (.return_, 1) := by decide +kernel
theorem dX8_hasEndSign_0 : decode cX8_hasEndSign 0 = .ok (.iconst 0, 1) := by decide +kernel
theorem dX8_hasEndSign_1 : decode cX8_hasEndSign 1 = .ok (.istore_n 1, 1) := by decide +kernel
theorem dX8_hasEndSign_2 : decode cX8_hasEndSign 2 = .ok (.iload_n 1, 1) := by decide +kernel
theorem dX8_hasEndSign_3 : decode cX8_hasEndSign 3 = .ok (.aload_n 0, 1) := by decide +kernel
theorem dX8_hasEndSign_4 : decode cX8_hasEndSign 4 = .ok (.getfield 15, 3) := by decide +kernel
theorem dX8_hasEndSign_7 : decode cX8_hasEndSign 7 = .ok (.if_icmp .ge 22, 3) := by decide +kernel
theorem dX8_hasEndSign_10 : decode cX8_hasEndSign 10 = .ok (.aload_n 0, 1) := by decide +kernel
theorem dX8_hasEndSign_11 : decode cX8_hasEndSign 11 = .ok (.getfield 9, 3) := by decide +kernel
theorem dX8_hasEndSign_14 : decode cX8_hasEndSign 14 = .ok (.iload_n 1, 1) := by decide +kernel
theorem dX8_hasEndSign_15 : decode cX8_hasEndSign 15 = .ok (.caload, 1) := by decide +kernel
theorem dX8_hasEndSign_16 : decode cX8_hasEndSign 16 = .ok (.bipush 36, 2) := by decide +kernel
theorem dX8_hasEndSign_18 : decode cX8_hasEndSign 18 = .ok (.if_icmp .ne 5, 3) := by decide +kernel
theorem dX8_hasEndSign_21 : decode cX8_hasEndSign 21 = .ok (.iconst 1, 1) := by decide +kernel
theorem dX8_hasEndSign_22 : decode cX8_hasEndSign 22 = .ok (.ireturn, 1) := by decide +kernel
theorem dX8_hasEndSign_23 : decode cX8_hasEndSign 23 = .ok (.iinc 1 1, 3) := by decide +kernel
theorem dX8_hasEndSign_26 : decode cX8_hasEndSign 26 = .ok (.goto (-24), 3) := by decide +kernel
theorem dX8_hasEndSign_29 : decode cX8_hasEndSign 29 = .ok (.iconst 0, 1) := by decide +kernel
theorem dX8_hasEndSign_30 : decode cX8_hasEndSign 30 = .ok (.ireturn, 1) := by decide +kernel
theorem dX9_init_0 : decode cX9_init 0 = .ok (.aload_n 0, 1) := by decide +kernel
theorem dX9_init_1 : decode cX9_init 1 = .ok (.invokespecial 3, 3) := by decide +kernel
theorem dX9_init_4 : decode cX9_init 4 = .ok (.aload_n 0, 1) := by decide +kernel
theorem dX9_init_5 : decode cX9_init 5 = .ok (.sipush 2081, 3) := by decide +kernel
theorem dX9_init_8 : decode cX9_init 8 = .ok (.newarray .char, 2) := by decide +kernel
theorem dX9_init_10 : decode cX9_init 10 = .ok (.putfield 11, 3) := by decide +kernel
theorem dX9_init_13 : decode cX9_init 13 = .ok (.aload_n 0, 1) := by decide +kernel
theorem dX9_init_14 : decode cX9_init 14 = .ok (.sipush 2081, 3) := by decide +kernel
theorem dX9_init_17 : decode cX9_init 17 = .ok (.newarray .int, 2) := by decide +kernel
theorem dX9_init_19 : decode cX9_init 19 = .ok (.putfield 15, 3) := by decide +kernel
theorem dX9_init_22 : decode cX9_init 22 = .ok (.aload_n 0, 1) := by decide +kernel
theorem dX9_init_23 : decode cX9_init 23 = .ok (.sipush 2081, 3) := by decide +kernel
theorem dX9_init_26 : decode cX9_init 26 = .ok (.newarray .int, 2) := by decide +kernel
theorem dX9_init_28 : decode cX9_init 28 = .ok (.putfield 19, 3) := by decide +kernel
theorem dX9_init_31 : decode cX9_init 31 = .ok (.return_, 1) := by decide +kernel
theorem dX9_agreesWith_0 : decode cX9_agreesWith 0 = .ok (.aload_n 0, 1) := by decide +kernel
theorem dX9_agreesWith_1 : decode cX9_agreesWith 1 = .ok (.aload_n 1, 1) := by decide +kernel
theorem dX9_agreesWith_2 : decode cX9_agreesWith 2 = .ok (.invokevirtual 22, 3) := by decide +kernel
theorem dX9_agreesWith_5 : decode cX9_agreesWith 5 = .ok (.aload_n 0, 1) := by decide +kernel
theorem dX9_agreesWith_6 : decode cX9_agreesWith 6 = .ok (.getfield 26, 3) := by decide +kernel
theorem dX9_agreesWith_9 : decode cX9_agreesWith 9 = .ok (.iconst 1, 1) := by decide +kernel
theorem dX9_agreesWith_10 : decode cX9_agreesWith 10 = .ok (.isub, 1) := by decide +kernel
theorem dX9_agreesWith_11 : decode cX9_agreesWith 11 = .ok (.aload_n 1, 1) := by decide +kernel
theorem dX9_agreesWith_12 : decode cX9_agreesWith 12 = .ok (.aload_n 1, 1) := by decide +kernel
theorem dX9_agreesWith_13 : decode cX9_agreesWith 13 = .ok (.getfield 30, 3) := by decide +kernel
theorem dX9_agreesWith_16 : decode cX9_agreesWith 16 = .ok (.invokevirtual 33, 3) := by decide +kernel
theorem dX9_agreesWith_19 : decode cX9_agreesWith 19 = .ok (.if_icmp .ne 18, 3) := by decide +kernel
theorem dX9_agreesWith_22 : decode cX9_agreesWith 22 = .ok (.aload_n 0, 1) := by decide +kernel
theorem dX9_agreesWith_23 : decode cX9_agreesWith 23 = .ok (.getfield 37, 3) := by decide +kernel
theorem dX9_agreesWith_26 : decode cX9_agreesWith 26 = .ok (.aload_n 1, 1) := by decide +kernel
theorem dX9_agreesWith_27 : decode cX9_agreesWith 27 = .ok (.invokevirtual 40, 3) := by decide +kernel
theorem dX9_agreesWith_30 : decode cX9_agreesWith 30 = .ok (.if_icmp .ne 7, 3) := by decide +kernel
theorem dX9_agreesWith_33 : decode cX9_agreesWith 33 = .ok (.iconst 1, 1) := by decide +kernel
theorem dX9_agreesWith_34 : decode cX9_agreesWith 34 = .ok (.goto 4, 3) := by decide +kernel
theorem dX9_agreesWith_37 : decode cX9_agreesWith 37 = .ok (.iconst 0, 1) := by decide +kernel
theorem dX9_agreesWith_38 : decode cX9_agreesWith 38 = .ok (.ireturn, 1) := by decide +kernel
theorem dX9_listWords_0 : decode cX9_listWords 0 = .ok (.aload_n 0, 1) := by decide +kernel
theorem dX9_listWords_1 : decode cX9_listWords 1 = .ok (.iconst 1, 1) := by decide +kernel
theorem dX9_listWords_2 : decode cX9_listWords 2 = .ok (.putfield 26, 3) := by decide +kernel
theorem dX9_listWords_5 : decode cX9_listWords 5 = .ok (.aload_n 0, 1) := by decide +kernel
theorem dX9_listWords_6 : decode cX9_listWords 6 = .ok (.getfield 15, 3) := by decide +kernel
theorem dX9_listWords_9 : decode cX9_listWords 9 = .ok (.iconst 0, 1) := by decide +kernel
theorem dX9_listWords_10 : decode cX9_listWords 10 = .ok (.iconst 0, 1) := by decide +kernel
theorem dX9_listWords_11 : decode cX9_listWords 11 = .ok (.iastore, 1) := by decide +kernel
theorem dX9_listWords_12 : decode cX9_listWords 12 = .ok (.aload_n 0, 1) := by decide +kernel
theorem dX9_listWords_13 : decode cX9_listWords 13 = .ok (.iconst 0, 1) := by decide +kernel
theorem dX9_listWords_14 : decode cX9_listWords 14 = .ok (.putfield 37, 3) := by decide +kernel
theorem dX9_listWords_17 : decode cX9_listWords 17 = .ok (.iconst 0, 1) := by decide +kernel
theorem dX9_listWords_18 : decode cX9_listWords 18 = .ok (.istore_n 2, 1) := by decide +kernel
theorem dX9_listWords_19 : decode cX9_listWords 19 = .ok (.iload_n 2, 1) := by decide +kernel
theorem dX9_listWords_20 : decode cX9_listWords 20 = .ok (.aload_n 1, 1) := by decide +kernel
theorem dX9_listWords_21 : decode cX9_listWords 21 = .ok (.getfield 30, 3) := by decide +kernel
theorem dX9_listWords_24 : decode cX9_listWords 24 = .ok (.if_icmp .ge 85, 3) := by decide +kernel
theorem dX9_listWords_27 : decode cX9_listWords 27 = .ok (.iconst 0, 1) := by decide +kernel
theorem dX9_listWords_28 : decode cX9_listWords 28 = .ok (.istore_n 3, 1) := by decide +kernel
theorem dX9_listWords_29 : decode cX9_listWords 29 = .ok (.iload_n 2, 1) := by decide +kernel
theorem dX9_listWords_30 : decode cX9_listWords 30 = .ok (.istore 4, 2) := by decide +kernel
theorem dX9_listWords_32 : decode cX9_listWords 32 = .ok (.iload 4, 2) := by decide +kernel
theorem dX9_listWords_34 : decode cX9_listWords 34 = .ok (.aload_n 1, 1) := by decide +kernel
theorem dX9_listWords_35 : decode cX9_listWords 35 = .ok (.getfield 30, 3) := by decide +kernel
theorem dX9_listWords_38 : decode cX9_listWords 38 = .ok (.if_icmp .ge 65, 3) := by decide +kernel
theorem dX9_listWords_41 : decode cX9_listWords 41 = .ok (.aload_n 0, 1) := by decide +kernel
theorem dX9_listWords_42 : decode cX9_listWords 42 = .ok (.iload_n 3, 1) := by decide +kernel
theorem dX9_listWords_43 : decode cX9_listWords 43 = .ok (.aload_n 1, 1) := by decide +kernel
theorem dX9_listWords_44 : decode cX9_listWords 44 = .ok (.getfield 44, 3) := by decide +kernel
theorem dX9_listWords_47 : decode cX9_listWords 47 = .ok (.iload 4, 2) := by decide +kernel
theorem dX9_listWords_49 : decode cX9_listWords 49 = .ok (.caload, 1) := by decide +kernel
theorem dX9_listWords_50 : decode cX9_listWords 50 = .ok (.invokevirtual 45, 3) := by decide +kernel
theorem dX9_listWords_53 : decode cX9_listWords 53 = .ok (.istore 5, 2) := by decide +kernel
theorem dX9_listWords_55 : decode cX9_listWords 55 = .ok (.iload 5, 2) := by decide +kernel
theorem dX9_listWords_57 : decode cX9_listWords 57 = .ok (.ifCond .ne 20, 3) := by decide +kernel
theorem dX9_listWords_60 : decode cX9_listWords 60 = .ok (.aload_n 0, 1) := by decide +kernel
theorem dX9_listWords_61 : decode cX9_listWords 61 = .ok (.iload_n 3, 1) := by decide +kernel
theorem dX9_listWords_62 : decode cX9_listWords 62 = .ok (.aload_n 1, 1) := by decide +kernel
theorem dX9_listWords_63 : decode cX9_listWords 63 = .ok (.getfield 44, 3) := by decide +kernel
theorem dX9_listWords_66 : decode cX9_listWords 66 = .ok (.iload 4, 2) := by decide +kernel
theorem dX9_listWords_68 : decode cX9_listWords 68 = .ok (.caload, 1) := by decide +kernel
theorem dX9_listWords_69 : decode cX9_listWords 69 = .ok (.invokevirtual 49, 3) := by decide +kernel
theorem dX9_listWords_72 : decode cX9_listWords 72 = .ok (.istore 5, 2) := by decide +kernel
theorem dX9_listWords_74 : decode cX9_listWords 74 = .ok (.goto 20, 3) := by decide +kernel
theorem dX9_listWords_77 : decode cX9_listWords 77 = .ok (.aload_n 0, 1) := by decide +kernel
theorem dX9_listWords_78 : decode cX9_listWords 78 = .ok (.aload_n 0, 1) := by decide +kernel
theorem dX9_listWords_79 : decode cX9_listWords 79 = .ok (.getfield 37, 3) := by decide +kernel
theorem dX9_listWords_82 : decode cX9_listWords 82 = .ok (.iload 4, 2) := by decide +kernel
theorem dX9_listWords_84 : decode cX9_listWords 84 = .ok (.iload_n 2, 1) := by decide +kernel
theorem dX9_listWords_85 : decode cX9_listWords 85 = .ok (.isub, 1) := by decide +kernel
theorem dX9_listWords_86 : decode cX9_listWords 86 = .ok (.iconst 1, 1) := by decide +kernel
theorem dX9_listWords_87 : decode cX9_listWords 87 = .ok (.iadd, 1) := by decide +kernel
theorem dX9_listWords_88 : decode cX9_listWords 88 = .ok (.invokestatic 52, 3) := by decide +kernel
theorem dX9_listWords_91 : decode cX9_listWords 91 = .ok (.putfield 37, 3) := by decide +kernel
theorem dX9_listWords_94 : decode cX9_listWords 94 = .ok (.iload 5, 2) := by decide +kernel
theorem dX9_listWords_96 : decode cX9_listWords 96 = .ok (.istore_n 3, 1) := by decide +kernel
theorem dX9_listWords_97 : decode cX9_listWords 97 = .ok (.iinc 4 1, 3) := by decide +kernel
theorem dX9_listWords_100 : decode cX9_listWords 100 = .ok (.goto (-68), 3) := by decide +kernel
theorem dX9_listWords_103 : decode cX9_listWords 103 = .ok (.iinc 2 1, 3) := by decide +kernel
theorem dX9_listWords_106 : decode cX9_listWords 106 = .ok (.goto (-87), 3) := by decide +kernel
theorem dX9_listWords_109 : decode cX9_listWords 109 = .ok (.return_, 1) := by decide +kernel
theorem dX9_nodeBelow_0 : decode cX9_nodeBelow 0 = .ok (.aload_n 0, 1) := by decide +kernel
theorem dX9_nodeBelow_1 : decode cX9_nodeBelow 1 = .ok (.getfield 15, 3) := by decide +kernel
theorem dX9_nodeBelow_4 : decode cX9_nodeBelow 4 = .ok (.iload_n 1, 1) := by decide +kernel
theorem dX9_nodeBelow_5 : decode cX9_nodeBelow 5 = .ok (.iaload, 1) := by decide +kernel
theorem dX9_nodeBelow_6 : decode cX9_nodeBelow 6 = .ok (.istore_n 3, 1) := by decide +kernel
theorem dX9_nodeBelow_7 : decode cX9_nodeBelow 7 = .ok (.iconst 0, 1) := by decide +kernel
theorem dX9_nodeBelow_8 : decode cX9_nodeBelow 8 = .ok (.istore 4, 2) := by decide +kernel
theorem dX9_nodeBelow_10 : decode cX9_nodeBelow 10 = .ok (.iload 4, 2) := by decide +kernel
theorem dX9_nodeBelow_12 : decode cX9_nodeBelow 12 = .ok (.bipush 27, 2) := by decide +kernel
theorem dX9_nodeBelow_14 : decode cX9_nodeBelow 14 = .ok (.if_icmp .ge 32, 3) := by decide +kernel
theorem dX9_nodeBelow_17 : decode cX9_nodeBelow 17 = .ok (.iload_n 3, 1) := by decide +kernel
theorem dX9_nodeBelow_18 : decode cX9_nodeBelow 18 = .ok (.ifCond .eq 28, 3) := by decide +kernel
theorem dX9_nodeBelow_21 : decode cX9_nodeBelow 21 = .ok (.aload_n 0, 1) := by decide +kernel
theorem dX9_nodeBelow_22 : decode cX9_nodeBelow 22 = .ok (.getfield 11, 3) := by decide +kernel
theorem dX9_nodeBelow_25 : decode cX9_nodeBelow 25 = .ok (.iload_n 3, 1) := by decide +kernel
theorem dX9_nodeBelow_26 : decode cX9_nodeBelow 26 = .ok (.caload, 1) := by decide +kernel
theorem dX9_nodeBelow_27 : decode cX9_nodeBelow 27 = .ok (.iload_n 2, 1) := by decide +kernel
theorem dX9_nodeBelow_28 : decode cX9_nodeBelow 28 = .ok (.if_icmp .ne 5, 3) := by decide +kernel
theorem dX9_nodeBelow_31 : decode cX9_nodeBelow 31 = .ok (.iload_n 3, 1) := by decide +kernel
theorem dX9_nodeBelow_32 : decode cX9_nodeBelow 32 = .ok (.ireturn, 1) := by decide +kernel
theorem dX9_nodeBelow_33 : decode cX9_nodeBelow 33 = .ok (.aload_n 0, 1) := by decide +kernel
theorem dX9_nodeBelow_34 : decode cX9_nodeBelow 34 = .ok (.getfield 19, 3) := by decide +kernel
theorem dX9_nodeBelow_37 : decode cX9_nodeBelow 37 = .ok (.iload_n 3, 1) := by decide +kernel
theorem dX9_nodeBelow_38 : decode cX9_nodeBelow 38 = .ok (.iaload, 1) := by decide +kernel
theorem dX9_nodeBelow_39 : decode cX9_nodeBelow 39 = .ok (.istore_n 3, 1) := by decide +kernel
theorem dX9_nodeBelow_40 : decode cX9_nodeBelow 40 = .ok (.iinc 4 1, 3) := by decide +kernel
theorem dX9_nodeBelow_43 : decode cX9_nodeBelow 43 = .ok (.goto (-33), 3) := by decide +kernel
theorem dX9_nodeBelow_46 : decode cX9_nodeBelow 46 = .ok (.iconst 0, 1) := by decide +kernel
theorem dX9_nodeBelow_47 : decode cX9_nodeBelow 47 = .ok (.ireturn, 1) := by decide +kernel
theorem dX9_addBelow_0 : decode cX9_addBelow 0 = .ok (.aload_n 0, 1) := by decide +kernel
theorem dX9_addBelow_1 : decode cX9_addBelow 1 = .ok (.getfield 26, 3) := by decide +kernel
theorem dX9_addBelow_4 : decode cX9_addBelow 4 = .ok (.aload_n 0, 1) := by decide +kernel
theorem dX9_addBelow_5 : decode cX9_addBelow 5 = .ok (.getfield 11, 3) := by decide +kernel
theorem dX9_addBelow_8 : decode cX9_addBelow 8 = .ok (.arraylength, 1) := by decide +kernel
theorem dX9_addBelow_9 : decode cX9_addBelow 9 = .ok (.if_icmp .lt 5, 3) := by decide +kernel
theorem dX9_addBelow_12 : decode cX9_addBelow 12 = .ok (.iconst 0, 1) := by decide +kernel
theorem dX9_addBelow_13 : decode cX9_addBelow 13 = .ok (.ireturn, 1) := by decide +kernel
theorem dX9_addBelow_14 : decode cX9_addBelow 14 = .ok (.aload_n 0, 1) := by decide +kernel
theorem dX9_addBelow_15 : decode cX9_addBelow 15 = .ok (.getfield 26, 3) := by decide +kernel
theorem dX9_addBelow_18 : decode cX9_addBelow 18 = .ok (.istore_n 3, 1) := by decide +kernel
theorem dX9_addBelow_19 : decode cX9_addBelow 19 = .ok (.aload_n 0, 1) := by decide +kernel
theorem dX9_addBelow_20 : decode cX9_addBelow 20 = .ok (.getfield 11, 3) := by decide +kernel
theorem dX9_addBelow_23 : decode cX9_addBelow 23 = .ok (.iload_n 3, 1) := by decide +kernel
theorem dX9_addBelow_24 : decode cX9_addBelow 24 = .ok (.iload_n 2, 1) := by decide +kernel
theorem dX9_addBelow_25 : decode cX9_addBelow 25 = .ok (.castore, 1) := by decide +kernel
theorem dX9_addBelow_26 : decode cX9_addBelow 26 = .ok (.aload_n 0, 1) := by decide +kernel
theorem dX9_addBelow_27 : decode cX9_addBelow 27 = .ok (.getfield 15, 3) := by decide +kernel
theorem dX9_addBelow_30 : decode cX9_addBelow 30 = .ok (.iload_n 3, 1) := by decide +kernel
theorem dX9_addBelow_31 : decode cX9_addBelow 31 = .ok (.iconst 0, 1) := by decide +kernel
theorem dX9_addBelow_32 : decode cX9_addBelow 32 = .ok (.iastore, 1) := by decide +kernel
theorem dX9_addBelow_33 : decode cX9_addBelow 33 = .ok (.aload_n 0, 1) := by decide +kernel
theorem dX9_addBelow_34 : decode cX9_addBelow 34 = .ok (.getfield 19, 3) := by decide +kernel
theorem dX9_addBelow_37 : decode cX9_addBelow 37 = .ok (.iload_n 3, 1) := by decide +kernel
theorem dX9_addBelow_38 : decode cX9_addBelow 38 = .ok (.aload_n 0, 1) := by decide +kernel
theorem dX9_addBelow_39 : decode cX9_addBelow 39 = .ok (.getfield 15, 3) := by decide +kernel
theorem dX9_addBelow_42 : decode cX9_addBelow 42 = .ok (.iload_n 1, 1) := by decide +kernel
theorem dX9_addBelow_43 : decode cX9_addBelow 43 = .ok (.iaload, 1) := by decide +kernel
theorem dX9_addBelow_44 : decode cX9_addBelow 44 = .ok (.iastore, 1) := by decide +kernel
theorem dX9_addBelow_45 : decode cX9_addBelow 45 = .ok (.aload_n 0, 1) := by decide +kernel
theorem dX9_addBelow_46 : decode cX9_addBelow 46 = .ok (.getfield 15, 3) := by decide +kernel
theorem dX9_addBelow_49 : decode cX9_addBelow 49 = .ok (.iload_n 1, 1) := by decide +kernel
theorem dX9_addBelow_50 : decode cX9_addBelow 50 = .ok (.iload_n 3, 1) := by decide +kernel
theorem dX9_addBelow_51 : decode cX9_addBelow 51 = .ok (.iastore, 1) := by decide +kernel
theorem dX9_addBelow_52 : decode cX9_addBelow 52 = .ok (.aload_n 0, 1) := by decide +kernel
theorem dX9_addBelow_53 : decode cX9_addBelow 53 = .ok (.dup, 1) := by decide +kernel
theorem dX9_addBelow_54 : decode cX9_addBelow 54 = .ok (.getfield 26, 3) := by decide +kernel
theorem dX9_addBelow_57 : decode cX9_addBelow 57 = .ok (.iconst 1, 1) := by decide +kernel
theorem dX9_addBelow_58 : decode cX9_addBelow 58 = .ok (.iadd, 1) := by decide +kernel
theorem dX9_addBelow_59 : decode cX9_addBelow 59 = .ok (.putfield 26, 3) := by decide +kernel
theorem dX9_addBelow_62 : decode cX9_addBelow 62 = .ok (.iload_n 3, 1) := by decide +kernel
theorem dX9_addBelow_63 : decode cX9_addBelow 63 = .ok (.ireturn, 1) := by decide +kernel
theorem dX10_init_0 : decode cX10_init 0 = .ok (.aload_n 0, 1) := by decide +kernel
theorem dX10_init_1 : decode cX10_init 1 = .ok (.invokespecial 1, 3) := by decide +kernel
theorem dX10_init_4 : decode cX10_init 4 = .ok (.aload_n 0, 1) := by decide +kernel
theorem dX10_init_5 : decode cX10_init 5 = .ok (.bipush 8, 2) := by decide +kernel
theorem dX10_init_7 : decode cX10_init 7 = .ok (.anewarray 9, 3) := by decide +kernel
theorem dX10_init_10 : decode cX10_init 10 = .ok (.putfield 11, 3) := by decide +kernel
theorem dX10_init_13 : decode cX10_init 13 = .ok (.aload_n 0, 1) := by decide +kernel
theorem dX10_init_14 : decode cX10_init 14 = .ok (.new 15, 3) := by decide +kernel
theorem dX10_init_17 : decode cX10_init 17 = .ok (.dup, 1) := by decide +kernel
theorem dX10_init_18 : decode cX10_init 18 = .ok (.invokespecial 17, 3) := by decide +kernel
theorem dX10_init_21 : decode cX10_init 21 = .ok (.putfield 18, 3) := by decide +kernel
theorem dX10_init_24 : decode cX10_init 24 = .ok (.aload_n 0, 1) := by decide +kernel
theorem dX10_init_25 : decode cX10_init 25 = .ok (.bipush 8, 2) := by decide +kernel
theorem dX10_init_27 : decode cX10_init 27 = .ok (.newarray .char, 2) := by decide +kernel
theorem dX10_init_29 : decode cX10_init 29 = .ok (.putfield 22, 3) := by decide +kernel
theorem dX10_init_32 : decode cX10_init 32 = .ok (.aload_n 0, 1) := by decide +kernel
theorem dX10_init_33 : decode cX10_init 33 = .ok (.new 26, 3) := by decide +kernel
theorem dX10_init_36 : decode cX10_init 36 = .ok (.dup, 1) := by decide +kernel
theorem dX10_init_37 : decode cX10_init 37 = .ok (.invokespecial 28, 3) := by decide +kernel
theorem dX10_init_40 : decode cX10_init 40 = .ok (.putfield 29, 3) := by decide +kernel
theorem dX10_init_43 : decode cX10_init 43 = .ok (.aload_n 0, 1) := by decide +kernel
theorem dX10_init_44 : decode cX10_init 44 = .ok (.new 33, 3) := by decide +kernel
theorem dX10_init_47 : decode cX10_init 47 = .ok (.dup, 1) := by decide +kernel
theorem dX10_init_48 : decode cX10_init 48 = .ok (.invokespecial 35, 3) := by decide +kernel
theorem dX10_init_51 : decode cX10_init 51 = .ok (.putfield 36, 3) := by decide +kernel
theorem dX10_init_54 : decode cX10_init 54 = .ok (.aload_n 0, 1) := by decide +kernel
theorem dX10_init_55 : decode cX10_init 55 = .ok (.new 40, 3) := by decide +kernel
theorem dX10_init_58 : decode cX10_init 58 = .ok (.dup, 1) := by decide +kernel
theorem dX10_init_59 : decode cX10_init 59 = .ok (.invokespecial 42, 3) := by decide +kernel
theorem dX10_init_62 : decode cX10_init 62 = .ok (.putfield 43, 3) := by decide +kernel
theorem dX10_init_65 : decode cX10_init 65 = .ok (.aload_n 0, 1) := by decide +kernel
theorem dX10_init_66 : decode cX10_init 66 = .ok (.new 47, 3) := by decide +kernel
theorem dX10_init_69 : decode cX10_init 69 = .ok (.dup, 1) := by decide +kernel
theorem dX10_init_70 : decode cX10_init 70 = .ok (.invokespecial 49, 3) := by decide +kernel
theorem dX10_init_73 : decode cX10_init 73 = .ok (.putfield 50, 3) := by decide +kernel
theorem dX10_init_76 : decode cX10_init 76 = .ok (.aload_n 0, 1) := by decide +kernel
theorem dX10_init_77 : decode cX10_init 77 = .ok (.new 54, 3) := by decide +kernel
theorem dX10_init_80 : decode cX10_init 80 = .ok (.dup, 1) := by decide +kernel
theorem dX10_init_81 : decode cX10_init 81 = .ok (.invokespecial 56, 3) := by decide +kernel
theorem dX10_init_84 : decode cX10_init 84 = .ok (.putfield 57, 3) := by decide +kernel
theorem dX10_init_87 : decode cX10_init 87 = .ok (.aload_n 0, 1) := by decide +kernel
theorem dX10_init_88 : decode cX10_init 88 = .ok (.new 61, 3) := by decide +kernel
theorem dX10_init_91 : decode cX10_init 91 = .ok (.dup, 1) := by decide +kernel
theorem dX10_init_92 : decode cX10_init 92 = .ok (.invokespecial 63, 3) := by decide +kernel
theorem dX10_init_95 : decode cX10_init 95 = .ok (.putfield 64, 3) := by decide +kernel
theorem dX10_init_98 : decode cX10_init 98 = .ok (.iconst 0, 1) := by decide +kernel
theorem dX10_init_99 : decode cX10_init 99 = .ok (.istore_n 1, 1) := by decide +kernel
theorem dX10_init_100 : decode cX10_init 100 = .ok (.iload_n 1, 1) := by decide +kernel
end
section
theorem dX10_init_101 : decode cX10_init 101 = .ok (.aload_n 0, 1) := by decide +kernel
theorem dX10_init_102 : decode cX10_init 102 = .ok (.getfield 11, 3) := by decide +kernel
theorem dX10_init_105 : decode cX10_init 105 = .ok (.arraylength, 1) := by decide +kernel
theorem dX10_init_106 : decode cX10_init 106 = .ok (.if_icmp .ge 22, 3) := by decide +kernel
theorem dX10_init_109 : decode cX10_init 109 = .ok (.aload_n 0, 1) := by decide +kernel
theorem dX10_init_110 : decode cX10_init 110 = .ok (.getfield 11, 3) := by decide +kernel
theorem dX10_init_113 : decode cX10_init 113 = .ok (.iload_n 1, 1) := by decide +kernel
theorem dX10_init_114 : decode cX10_init 114 = .ok (.new 9, 3) := by decide +kernel
theorem dX10_init_117 : decode cX10_init 117 = .ok (.dup, 1) := by decide +kernel
theorem dX10_init_118 : decode cX10_init 118 = .ok (.invokespecial 68, 3) := by decide +kernel
theorem dX10_init_121 : decode cX10_init 121 = .ok (.aastore, 1) := by decide +kernel
theorem dX10_init_122 : decode cX10_init 122 = .ok (.iinc 1 1, 3) := by decide +kernel
theorem dX10_init_125 : decode cX10_init 125 = .ok (.goto (-25), 3) := by decide +kernel
theorem dX10_init_128 : decode cX10_init 128 = .ok (.return_, 1) := by decide +kernel
theorem dX10_type_0 : decode cX10_type 0 = .ok (.iload_n 1, 1) := by decide +kernel
theorem dX10_type_1 : decode cX10_type 1 = .ok (.invokestatic 69, 3) := by decide +kernel
theorem dX10_type_4 : decode cX10_type 4 = .ok (.ifCond .ne 13, 3) := by decide +kernel
theorem dX10_type_7 : decode cX10_type 7 = .ok (.new 73, 3) := by decide +kernel
theorem dX10_type_10 : decode cX10_type 10 = .ok (.dup, 1) := by decide +kernel
theorem dX10_type_11 : decode cX10_type 11 = .ok (.ldc 75, 2) := by decide +kernel
theorem dX10_type_13 : decode cX10_type 13 = .ok (.invokespecial 77, 3) := by decide +kernel
theorem dX10_type_16 : decode cX10_type 16 = .ok (.athrow, 1) := by decide +kernel
theorem dX10_type_17 : decode cX10_type 17 = .ok (.aload_n 0, 1) := by decide +kernel
theorem dX10_type_18 : decode cX10_type 18 = .ok (.getfield 18, 3) := by decide +kernel
theorem dX10_type_21 : decode cX10_type 21 = .ok (.getfield 80, 3) := by decide +kernel
theorem dX10_type_24 : decode cX10_type 24 = .ok (.bipush 65, 2) := by decide +kernel
theorem dX10_type_26 : decode cX10_type 26 = .ok (.if_icmp .lt 13, 3) := by decide +kernel
theorem dX10_type_29 : decode cX10_type 29 = .ok (.new 84, 3) := by decide +kernel
theorem dX10_type_32 : decode cX10_type 32 = .ok (.dup, 1) := by decide +kernel
theorem dX10_type_33 : decode cX10_type 33 = .ok (.ldc 86, 2) := by decide +kernel
theorem dX10_type_35 : decode cX10_type 35 = .ok (.invokespecial 88, 3) := by decide +kernel
theorem dX10_type_38 : decode cX10_type 38 = .ok (.athrow, 1) := by decide +kernel
theorem dX10_type_39 : decode cX10_type 39 = .ok (.aload_n 0, 1) := by decide +kernel
theorem dX10_type_40 : decode cX10_type 40 = .ok (.getfield 18, 3) := by decide +kernel
theorem dX10_type_43 : decode cX10_type 43 = .ok (.iload_n 1, 1) := by decide +kernel
theorem dX10_type_44 : decode cX10_type 44 = .ok (.invokevirtual 89, 3) := by decide +kernel
theorem dX10_type_47 : decode cX10_type 47 = .ok (.aload_n 0, 1) := by decide +kernel
theorem dX10_type_48 : decode cX10_type 48 = .ok (.getfield 18, 3) := by decide +kernel
theorem dX10_type_51 : decode cX10_type 51 = .ok (.getfield 80, 3) := by decide +kernel
theorem dX10_type_54 : decode cX10_type 54 = .ok (.ireturn, 1) := by decide +kernel
theorem dX10_wipe_0 : decode cX10_wipe 0 = .ok (.aload_n 0, 1) := by decide +kernel
theorem dX10_wipe_1 : decode cX10_wipe 1 = .ok (.getfield 18, 3) := by decide +kernel
theorem dX10_wipe_4 : decode cX10_wipe 4 = .ok (.getfield 80, 3) := by decide +kernel
theorem dX10_wipe_7 : decode cX10_wipe 7 = .ok (.istore_n 1, 1) := by decide +kernel
theorem dX10_wipe_8 : decode cX10_wipe 8 = .ok (.aload_n 0, 1) := by decide +kernel
theorem dX10_wipe_9 : decode cX10_wipe 9 = .ok (.getfield 18, 3) := by decide +kernel
theorem dX10_wipe_12 : decode cX10_wipe 12 = .ok (.iconst 0, 1) := by decide +kernel
theorem dX10_wipe_13 : decode cX10_wipe 13 = .ok (.putfield 80, 3) := by decide +kernel
theorem dX10_wipe_16 : decode cX10_wipe 16 = .ok (.iload_n 1, 1) := by decide +kernel
theorem dX10_wipe_17 : decode cX10_wipe 17 = .ok (.ireturn, 1) := by decide +kernel
theorem dX10_typed_0 : decode cX10_typed 0 = .ok (.iload_n 1, 1) := by decide +kernel
theorem dX10_typed_1 : decode cX10_typed 1 = .ok (.ifCond .lt 14, 3) := by decide +kernel
theorem dX10_typed_4 : decode cX10_typed 4 = .ok (.iload_n 1, 1) := by decide +kernel
theorem dX10_typed_5 : decode cX10_typed 5 = .ok (.aload_n 0, 1) := by decide +kernel
theorem dX10_typed_6 : decode cX10_typed 6 = .ok (.getfield 18, 3) := by decide +kernel
theorem dX10_typed_9 : decode cX10_typed 9 = .ok (.getfield 80, 3) := by decide +kernel
theorem dX10_typed_12 : decode cX10_typed 12 = .ok (.if_icmp .lt 13, 3) := by decide +kernel
theorem dX10_typed_15 : decode cX10_typed 15 = .ok (.new 97, 3) := by decide +kernel
theorem dX10_typed_18 : decode cX10_typed 18 = .ok (.dup, 1) := by decide +kernel
theorem dX10_typed_19 : decode cX10_typed 19 = .ok (.ldc 99, 2) := by decide +kernel
theorem dX10_typed_21 : decode cX10_typed 21 = .ok (.invokespecial 101, 3) := by decide +kernel
theorem dX10_typed_24 : decode cX10_typed 24 = .ok (.athrow, 1) := by decide +kernel
theorem dX10_typed_25 : decode cX10_typed 25 = .ok (.aload_n 0, 1) := by decide +kernel
theorem dX10_typed_26 : decode cX10_typed 26 = .ok (.getfield 18, 3) := by decide +kernel
theorem dX10_typed_29 : decode cX10_typed 29 = .ok (.getfield 102, 3) := by decide +kernel
theorem dX10_typed_32 : decode cX10_typed 32 = .ok (.iload_n 1, 1) := by decide +kernel
theorem dX10_typed_33 : decode cX10_typed 33 = .ok (.caload, 1) := by decide +kernel
theorem dX10_typed_34 : decode cX10_typed 34 = .ok (.ireturn, 1) := by decide +kernel
theorem dX10_text_0 : decode cX10_text 0 = .ok (.aload_n 0, 1) := by decide +kernel
theorem dX10_text_1 : decode cX10_text 1 = .ok (.getfield 18, 3) := by decide +kernel
theorem dX10_text_4 : decode cX10_text 4 = .ok (.getfield 80, 3) := by decide +kernel
theorem dX10_text_7 : decode cX10_text 7 = .ok (.bipush 64, 2) := by decide +kernel
theorem dX10_text_9 : decode cX10_text 9 = .ok (.if_icmp .gt 13, 3) := by decide +kernel
theorem dX10_text_12 : decode cX10_text 12 = .ok (.aload_n 0, 1) := by decide +kernel
theorem dX10_text_13 : decode cX10_text 13 = .ok (.getfield 18, 3) := by decide +kernel
theorem dX10_text_16 : decode cX10_text 16 = .ok (.invokevirtual 105, 3) := by decide +kernel
theorem dX10_text_19 : decode cX10_text 19 = .ok (.ifCond .eq 13, 3) := by decide +kernel
theorem dX10_text_22 : decode cX10_text 22 = .ok (.new 109, 3) := by decide +kernel
theorem dX10_text_25 : decode cX10_text 25 = .ok (.dup, 1) := by decide +kernel
theorem dX10_text_26 : decode cX10_text 26 = .ok (.ldc 111, 2) := by decide +kernel
theorem dX10_text_28 : decode cX10_text 28 = .ok (.invokespecial 113, 3) := by decide +kernel
theorem dX10_text_31 : decode cX10_text 31 = .ok (.athrow, 1) := by decide +kernel
theorem dX10_text_32 : decode cX10_text 32 = .ok (.aload_n 0, 1) := by decide +kernel
theorem dX10_text_33 : decode cX10_text 33 = .ok (.invokevirtual 114, 3) := by decide +kernel
theorem dX10_text_36 : decode cX10_text 36 = .ok (.astore_n 1, 1) := by decide +kernel
theorem dX10_text_37 : decode cX10_text 37 = .ok (.aload_n 1, 1) := by decide +kernel
theorem dX10_text_38 : decode cX10_text 38 = .ok (.aload_n 0, 1) := by decide +kernel
theorem dX10_text_39 : decode cX10_text 39 = .ok (.getfield 18, 3) := by decide +kernel
theorem dX10_text_42 : decode cX10_text 42 = .ok (.getfield 102, 3) := by decide +kernel
theorem dX10_text_45 : decode cX10_text 45 = .ok (.aload_n 0, 1) := by decide +kernel
theorem dX10_text_46 : decode cX10_text 46 = .ok (.getfield 18, 3) := by decide +kernel
theorem dX10_text_49 : decode cX10_text 49 = .ok (.getfield 80, 3) := by decide +kernel
theorem dX10_text_52 : decode cX10_text 52 = .ok (.invokevirtual 118, 3) := by decide +kernel
theorem dX10_text_55 : decode cX10_text 55 = .ok (.aload_n 0, 1) := by decide +kernel
theorem dX10_text_56 : decode cX10_text 56 = .ok (.getfield 18, 3) := by decide +kernel
theorem dX10_text_59 : decode cX10_text 59 = .ok (.iconst 0, 1) := by decide +kernel
theorem dX10_text_60 : decode cX10_text 60 = .ok (.putfield 80, 3) := by decide +kernel
theorem dX10_text_63 : decode cX10_text 63 = .ok (.aload_n 0, 1) := by decide +kernel
theorem dX10_text_64 : decode cX10_text 64 = .ok (.aload_n 1, 1) := by decide +kernel
theorem dX10_text_65 : decode cX10_text 65 = .ok (.invokevirtual 122, 3) := by decide +kernel
theorem dX10_text_68 : decode cX10_text 68 = .ok (.ireturn, 1) := by decide +kernel
theorem dX10_length_0 : decode cX10_length 0 = .ok (.aload_n 0, 1) := by decide +kernel
theorem dX10_length_1 : decode cX10_length 1 = .ok (.iload_n 1, 1) := by decide +kernel
theorem dX10_length_2 : decode cX10_length 2 = .ok (.invokevirtual 126, 3) := by decide +kernel
theorem dX10_length_5 : decode cX10_length 5 = .ok (.getfield 131, 3) := by decide +kernel
theorem dX10_length_8 : decode cX10_length 8 = .ok (.ireturn, 1) := by decide +kernel
theorem dX10_signAt_0 : decode cX10_signAt 0 = .ok (.aload_n 0, 1) := by decide +kernel
theorem dX10_signAt_1 : decode cX10_signAt 1 = .ok (.iload_n 1, 1) := by decide +kernel
theorem dX10_signAt_2 : decode cX10_signAt 2 = .ok (.iload_n 2, 1) := by decide +kernel
theorem dX10_signAt_3 : decode cX10_signAt 3 = .ok (.invokevirtual 136, 3) := by decide +kernel
theorem dX10_signAt_6 : decode cX10_signAt 6 = .ok (.getfield 130, 3) := by decide +kernel
theorem dX10_signAt_9 : decode cX10_signAt 9 = .ok (.iload_n 2, 1) := by decide +kernel
theorem dX10_signAt_10 : decode cX10_signAt 10 = .ok (.caload, 1) := by decide +kernel
theorem dX10_signAt_11 : decode cX10_signAt 11 = .ok (.ireturn, 1) := by decide +kernel
theorem dX10_mirror_0 : decode cX10_mirror 0 = .ok (.aload_n 0, 1) := by decide +kernel
theorem dX10_mirror_1 : decode cX10_mirror 1 = .ok (.iload_n 1, 1) := by decide +kernel
theorem dX10_mirror_2 : decode cX10_mirror 2 = .ok (.invokevirtual 126, 3) := by decide +kernel
theorem dX10_mirror_5 : decode cX10_mirror 5 = .ok (.astore_n 2, 1) := by decide +kernel
theorem dX10_mirror_6 : decode cX10_mirror 6 = .ok (.aload_n 0, 1) := by decide +kernel
theorem dX10_mirror_7 : decode cX10_mirror 7 = .ok (.invokevirtual 114, 3) := by decide +kernel
theorem dX10_mirror_10 : decode cX10_mirror 10 = .ok (.astore_n 3, 1) := by decide +kernel
theorem dX10_mirror_11 : decode cX10_mirror 11 = .ok (.aload_n 3, 1) := by decide +kernel
theorem dX10_mirror_12 : decode cX10_mirror 12 = .ok (.aload_n 2, 1) := by decide +kernel
theorem dX10_mirror_13 : decode cX10_mirror 13 = .ok (.invokevirtual 142, 3) := by decide +kernel
theorem dX10_mirror_16 : decode cX10_mirror 16 = .ok (.aload_n 0, 1) := by decide +kernel
theorem dX10_mirror_17 : decode cX10_mirror 17 = .ok (.aload_n 3, 1) := by decide +kernel
theorem dX10_mirror_18 : decode cX10_mirror 18 = .ok (.invokevirtual 122, 3) := by decide +kernel
theorem dX10_mirror_21 : decode cX10_mirror 21 = .ok (.ireturn, 1) := by decide +kernel
theorem dX10_ahead_0 : decode cX10_ahead 0 = .ok (.aload_n 0, 1) := by decide +kernel
theorem dX10_ahead_1 : decode cX10_ahead 1 = .ok (.iload_n 1, 1) := by decide +kernel
theorem dX10_ahead_2 : decode cX10_ahead 2 = .ok (.invokevirtual 126, 3) := by decide +kernel
theorem dX10_ahead_5 : decode cX10_ahead 5 = .ok (.astore_n 3, 1) := by decide +kernel
theorem dX10_ahead_6 : decode cX10_ahead 6 = .ok (.iload_n 2, 1) := by decide +kernel
theorem dX10_ahead_7 : decode cX10_ahead 7 = .ok (.invokestatic 146, 3) := by decide +kernel
theorem dX10_ahead_10 : decode cX10_ahead 10 = .ok (.ifCond .ne 13, 3) := by decide +kernel
theorem dX10_ahead_13 : decode cX10_ahead 13 = .ok (.new 73, 3) := by decide +kernel
theorem dX10_ahead_16 : decode cX10_ahead 16 = .ok (.dup, 1) := by decide +kernel
theorem dX10_ahead_17 : decode cX10_ahead 17 = .ok (.ldc 75, 2) := by decide +kernel
theorem dX10_ahead_19 : decode cX10_ahead 19 = .ok (.invokespecial 77, 3) := by decide +kernel
theorem dX10_ahead_22 : decode cX10_ahead 22 = .ok (.athrow, 1) := by decide +kernel
theorem dX10_ahead_23 : decode cX10_ahead 23 = .ok (.aload_n 3, 1) := by decide +kernel
theorem dX10_ahead_24 : decode cX10_ahead 24 = .ok (.getfield 131, 3) := by decide +kernel
theorem dX10_ahead_27 : decode cX10_ahead 27 = .ok (.bipush 64, 2) := by decide +kernel
theorem dX10_ahead_29 : decode cX10_ahead 29 = .ok (.if_icmp .lt 13, 3) := by decide +kernel
theorem dX10_ahead_32 : decode cX10_ahead 32 = .ok (.new 84, 3) := by decide +kernel
theorem dX10_ahead_35 : decode cX10_ahead 35 = .ok (.dup, 1) := by decide +kernel
theorem dX10_ahead_36 : decode cX10_ahead 36 = .ok (.ldc 152, 2) := by decide +kernel
theorem dX10_ahead_38 : decode cX10_ahead 38 = .ok (.invokespecial 88, 3) := by decide +kernel
theorem dX10_ahead_41 : decode cX10_ahead 41 = .ok (.athrow, 1) := by decide +kernel
theorem dX10_ahead_42 : decode cX10_ahead 42 = .ok (.aload_n 3, 1) := by decide +kernel
theorem dX10_ahead_43 : decode cX10_ahead 43 = .ok (.iload_n 2, 1) := by decide +kernel
theorem dX10_ahead_44 : decode cX10_ahead 44 = .ok (.invokevirtual 154, 3) := by decide +kernel
theorem dX10_ahead_47 : decode cX10_ahead 47 = .ok (.aload_n 0, 1) := by decide +kernel
theorem dX10_ahead_48 : decode cX10_ahead 48 = .ok (.getfield 29, 3) := by decide +kernel
theorem dX10_ahead_51 : decode cX10_ahead 51 = .ok (.aload_n 3, 1) := by decide +kernel
theorem dX10_ahead_52 : decode cX10_ahead 52 = .ok (.invokevirtual 149, 3) := by decide +kernel
theorem dX10_ahead_55 : decode cX10_ahead 55 = .ok (.aload_n 3, 1) := by decide +kernel
theorem dX10_ahead_56 : decode cX10_ahead 56 = .ok (.invokevirtual 157, 3) := by decide +kernel
theorem dX10_ahead_59 : decode cX10_ahead 59 = .ok (.ireturn, 1) := by decide +kernel
theorem dX10_chop_0 : decode cX10_chop 0 = .ok (.aload_n 0, 1) := by decide +kernel
theorem dX10_chop_1 : decode cX10_chop 1 = .ok (.iload_n 1, 1) := by decide +kernel
theorem dX10_chop_2 : decode cX10_chop 2 = .ok (.invokevirtual 161, 3) := by decide +kernel
theorem dX10_chop_5 : decode cX10_chop 5 = .ok (.astore_n 2, 1) := by decide +kernel
theorem dX10_chop_6 : decode cX10_chop 6 = .ok (.aload_n 2, 1) := by decide +kernel
theorem dX10_chop_7 : decode cX10_chop 7 = .ok (.invokevirtual 157, 3) := by decide +kernel
theorem dX10_chop_10 : decode cX10_chop 10 = .ok (.istore_n 3, 1) := by decide +kernel
theorem dX10_chop_11 : decode cX10_chop 11 = .ok (.aload_n 2, 1) := by decide +kernel
theorem dX10_chop_12 : decode cX10_chop 12 = .ok (.invokevirtual 164, 3) := by decide +kernel
theorem dX10_chop_15 : decode cX10_chop 15 = .ok (.aload_n 0, 1) := by decide +kernel
theorem dX10_chop_16 : decode cX10_chop 16 = .ok (.getfield 29, 3) := by decide +kernel
theorem dX10_chop_19 : decode cX10_chop 19 = .ok (.aload_n 2, 1) := by decide +kernel
theorem dX10_chop_20 : decode cX10_chop 20 = .ok (.invokevirtual 149, 3) := by decide +kernel
theorem dX10_chop_23 : decode cX10_chop 23 = .ok (.iload_n 3, 1) := by decide +kernel
theorem dX10_chop_24 : decode cX10_chop 24 = .ok (.ireturn, 1) := by decide +kernel
theorem dX10_endAt_0 : decode cX10_endAt 0 = .ok (.aload_n 0, 1) := by decide +kernel
theorem dX10_endAt_1 : decode cX10_endAt 1 = .ok (.iload_n 1, 1) := by decide +kernel
theorem dX10_endAt_2 : decode cX10_endAt 2 = .ok (.iload_n 2, 1) := by decide +kernel
theorem dX10_endAt_3 : decode cX10_endAt 3 = .ok (.invokevirtual 136, 3) := by decide +kernel
theorem dX10_endAt_6 : decode cX10_endAt 6 = .ok (.getfield 167, 3) := by decide +kernel
theorem dX10_endAt_9 : decode cX10_endAt 9 = .ok (.iload_n 2, 1) := by decide +kernel
theorem dX10_endAt_10 : decode cX10_endAt 10 = .ok (.iaload, 1) := by decide +kernel
theorem dX10_endAt_11 : decode cX10_endAt 11 = .ok (.ireturn, 1) := by decide +kernel
theorem dX10_rankOf_0 : decode cX10_rankOf 0 = .ok (.aload_n 0, 1) := by decide +kernel
theorem dX10_rankOf_1 : decode cX10_rankOf 1 = .ok (.iload_n 1, 1) := by decide +kernel
theorem dX10_rankOf_2 : decode cX10_rankOf 2 = .ok (.iload_n 2, 1) := by decide +kernel
theorem dX10_rankOf_3 : decode cX10_rankOf 3 = .ok (.invokevirtual 136, 3) := by decide +kernel
theorem dX10_rankOf_6 : decode cX10_rankOf 6 = .ok (.getfield 171, 3) := by decide +kernel
theorem dX10_rankOf_9 : decode cX10_rankOf 9 = .ok (.iload_n 2, 1) := by decide +kernel
theorem dX10_rankOf_10 : decode cX10_rankOf 10 = .ok (.iaload, 1) := by decide +kernel
theorem dX10_rankOf_11 : decode cX10_rankOf 11 = .ok (.ireturn, 1) := by decide +kernel
theorem dX10_classes_0 : decode cX10_classes 0 = .ok (.aload_n 0, 1) := by decide +kernel
theorem dX10_classes_1 : decode cX10_classes 1 = .ok (.iload_n 1, 1) := by decide +kernel
theorem dX10_classes_2 : decode cX10_classes 2 = .ok (.invokevirtual 126, 3) := by decide +kernel
theorem dX10_classes_5 : decode cX10_classes 5 = .ok (.astore_n 3, 1) := by decide +kernel
theorem dX10_classes_6 : decode cX10_classes 6 = .ok (.aload_n 0, 1) := by decide +kernel
theorem dX10_classes_7 : decode cX10_classes 7 = .ok (.iload_n 2, 1) := by decide +kernel
theorem dX10_classes_8 : decode cX10_classes 8 = .ok (.invokevirtual 174, 3) := by decide +kernel
theorem dX10_classes_11 : decode cX10_classes 11 = .ok (.aload_n 3, 1) := by decide +kernel
theorem dX10_classes_12 : decode cX10_classes 12 = .ok (.iload_n 2, 1) := by decide +kernel
theorem dX10_classes_13 : decode cX10_classes 13 = .ok (.aload_n 3, 1) := by decide +kernel
theorem dX10_classes_14 : decode cX10_classes 14 = .ok (.getfield 131, 3) := by decide +kernel
theorem dX10_classes_17 : decode cX10_classes 17 = .ok (.iconst 1, 1) := by decide +kernel
theorem dX10_classes_18 : decode cX10_classes 18 = .ok (.isub, 1) := by decide +kernel
theorem dX10_classes_19 : decode cX10_classes 19 = .ok (.invokevirtual 178, 3) := by decide +kernel
theorem dX10_classes_22 : decode cX10_classes 22 = .ok (.ireturn, 1) := by decide +kernel
theorem dX10_rounds_0 : decode cX10_rounds 0 = .ok (.aload_n 0, 1) := by decide +kernel
theorem dX10_rounds_1 : decode cX10_rounds 1 = .ok (.iload_n 1, 1) := by decide +kernel
theorem dX10_rounds_2 : decode cX10_rounds 2 = .ok (.invokevirtual 126, 3) := by decide +kernel
theorem dX10_rounds_5 : decode cX10_rounds 5 = .ok (.astore_n 2, 1) := by decide +kernel
theorem dX10_rounds_6 : decode cX10_rounds 6 = .ok (.aload_n 2, 1) := by decide +kernel
theorem dX10_rounds_7 : decode cX10_rounds 7 = .ok (.getfield 131, 3) := by decide +kernel
theorem dX10_rounds_10 : decode cX10_rounds 10 = .ok (.ifCond .ne 5, 3) := by decide +kernel
theorem dX10_rounds_13 : decode cX10_rounds 13 = .ok (.iconst 0, 1) := by decide +kernel
theorem dX10_rounds_14 : decode cX10_rounds 14 = .ok (.ireturn, 1) := by decide +kernel
theorem dX10_rounds_15 : decode cX10_rounds 15 = .ok (.aload_n 2, 1) := by decide +kernel
theorem dX10_rounds_16 : decode cX10_rounds 16 = .ok (.invokevirtual 182, 3) := by decide +kernel
theorem dX10_rounds_19 : decode cX10_rounds 19 = .ok (.istore_n 3, 1) := by decide +kernel
theorem dX10_rounds_20 : decode cX10_rounds 20 = .ok (.iconst 1, 1) := by decide +kernel
theorem dX10_rounds_21 : decode cX10_rounds 21 = .ok (.istore 4, 2) := by decide +kernel
theorem dX10_rounds_23 : decode cX10_rounds 23 = .ok (.iconst 1, 1) := by decide +kernel
theorem dX10_rounds_24 : decode cX10_rounds 24 = .ok (.istore 5, 2) := by decide +kernel
theorem dX10_rounds_26 : decode cX10_rounds 26 = .ok (.iload 5, 2) := by decide +kernel
theorem dX10_rounds_28 : decode cX10_rounds 28 = .ok (.iload_n 3, 1) := by decide +kernel
theorem dX10_rounds_29 : decode cX10_rounds 29 = .ok (.if_icmp .gt 15, 3) := by decide +kernel
theorem dX10_rounds_32 : decode cX10_rounds 32 = .ok (.iinc 4 1, 3) := by decide +kernel
theorem dX10_rounds_35 : decode cX10_rounds 35 = .ok (.iload 5, 2) := by decide +kernel
theorem dX10_rounds_37 : decode cX10_rounds 37 = .ok (.iconst 2, 1) := by decide +kernel
theorem dX10_rounds_38 : decode cX10_rounds 38 = .ok (.imul, 1) := by decide +kernel
theorem dX10_rounds_39 : decode cX10_rounds 39 = .ok (.istore 5, 2) := by decide +kernel
theorem dX10_rounds_41 : decode cX10_rounds 41 = .ok (.goto (-15), 3) := by decide +kernel
theorem dX10_rounds_44 : decode cX10_rounds 44 = .ok (.iload 4, 2) := by decide +kernel
theorem dX10_rounds_46 : decode cX10_rounds 46 = .ok (.ireturn, 1) := by decide +kernel
theorem dX10_common_0 : decode cX10_common 0 = .ok (.aload_n 0, 1) := by decide +kernel
theorem dX10_common_1 : decode cX10_common 1 = .ok (.iload_n 1, 1) := by decide +kernel
theorem dX10_common_2 : decode cX10_common 2 = .ok (.iload_n 2, 1) := by decide +kernel
theorem dX10_common_3 : decode cX10_common 3 = .ok (.invokevirtual 136, 3) := by decide +kernel
theorem dX10_common_6 : decode cX10_common 6 = .ok (.getfield 185, 3) := by decide +kernel
theorem dX10_common_9 : decode cX10_common 9 = .ok (.iload_n 2, 1) := by decide +kernel
theorem dX10_common_10 : decode cX10_common 10 = .ok (.iaload, 1) := by decide +kernel
theorem dX10_common_11 : decode cX10_common 11 = .ok (.ireturn, 1) := by decide +kernel
theorem dX10_shared_0 : decode cX10_shared 0 = .ok (.aload_n 0, 1) := by decide +kernel
theorem dX10_shared_1 : decode cX10_shared 1 = .ok (.iload_n 1, 1) := by decide +kernel
theorem dX10_shared_2 : decode cX10_shared 2 = .ok (.iload_n 2, 1) := by decide +kernel
theorem dX10_shared_3 : decode cX10_shared 3 = .ok (.invokevirtual 136, 3) := by decide +kernel
theorem dX10_shared_6 : decode cX10_shared 6 = .ok (.astore 5, 2) := by decide +kernel
theorem dX10_shared_8 : decode cX10_shared 8 = .ok (.aload_n 0, 1) := by decide +kernel
theorem dX10_shared_9 : decode cX10_shared 9 = .ok (.iload_n 3, 1) := by decide +kernel
theorem dX10_shared_10 : decode cX10_shared 10 = .ok (.iload 4, 2) := by decide +kernel
theorem dX10_shared_12 : decode cX10_shared 12 = .ok (.invokevirtual 136, 3) := by decide +kernel
theorem dX10_shared_15 : decode cX10_shared 15 = .ok (.astore 6, 2) := by decide +kernel
theorem dX10_shared_17 : decode cX10_shared 17 = .ok (.aload 5, 2) := by decide +kernel
theorem dX10_shared_19 : decode cX10_shared 19 = .ok (.iload_n 2, 1) := by decide +kernel
theorem dX10_shared_20 : decode cX10_shared 20 = .ok (.aload 6, 2) := by decide +kernel
theorem dX10_shared_22 : decode cX10_shared 22 = .ok (.iload 4, 2) := by decide +kernel
theorem dX10_shared_24 : decode cX10_shared 24 = .ok (.invokevirtual 188, 3) := by decide +kernel
theorem dX10_shared_27 : decode cX10_shared 27 = .ok (.ireturn, 1) := by decide +kernel
theorem dX10_count_0 : decode cX10_count 0 = .ok (.aload_n 0, 1) := by decide +kernel
theorem dX10_count_1 : decode cX10_count 1 = .ok (.iload_n 1, 1) := by decide +kernel
theorem dX10_count_2 : decode cX10_count 2 = .ok (.invokevirtual 126, 3) := by decide +kernel
theorem dX10_count_5 : decode cX10_count 5 = .ok (.astore_n 2, 1) := by decide +kernel
theorem dX10_count_6 : decode cX10_count 6 = .ok (.aload_n 0, 1) := by decide +kernel
theorem dX10_count_7 : decode cX10_count 7 = .ok (.invokevirtual 192, 3) := by decide +kernel
theorem dX10_count_10 : decode cX10_count 10 = .ok (.aload_n 2, 1) := by decide +kernel
theorem dX10_count_11 : decode cX10_count 11 = .ok (.aload_n 0, 1) := by decide +kernel
theorem dX10_count_12 : decode cX10_count 12 = .ok (.getfield 18, 3) := by decide +kernel
theorem dX10_count_15 : decode cX10_count 15 = .ok (.iconst 0, 1) := by decide +kernel
theorem dX10_count_16 : decode cX10_count 16 = .ok (.invokevirtual 195, 3) := by decide +kernel
theorem dX10_count_19 : decode cX10_count 19 = .ok (.aload_n 2, 1) := by decide +kernel
theorem dX10_count_20 : decode cX10_count 20 = .ok (.aload_n 0, 1) := by decide +kernel
theorem dX10_count_21 : decode cX10_count 21 = .ok (.getfield 18, 3) := by decide +kernel
theorem dX10_count_24 : decode cX10_count 24 = .ok (.iconst 0, 1) := by decide +kernel
theorem dX10_count_25 : decode cX10_count 25 = .ok (.invokevirtual 199, 3) := by decide +kernel
theorem dX10_count_28 : decode cX10_count 28 = .ok (.isub, 1) := by decide +kernel
theorem dX10_count_29 : decode cX10_count 29 = .ok (.ireturn, 1) := by decide +kernel
theorem dX10_runFrom_0 : decode cX10_runFrom 0 = .ok (.aload_n 0, 1) := by decide +kernel
theorem dX10_runFrom_1 : decode cX10_runFrom 1 = .ok (.iload_n 1, 1) := by decide +kernel
theorem dX10_runFrom_2 : decode cX10_runFrom 2 = .ok (.invokevirtual 126, 3) := by decide +kernel
theorem dX10_runFrom_5 : decode cX10_runFrom 5 = .ok (.astore_n 2, 1) := by decide +kernel
theorem dX10_runFrom_6 : decode cX10_runFrom 6 = .ok (.aload_n 0, 1) := by decide +kernel
theorem dX10_runFrom_7 : decode cX10_runFrom 7 = .ok (.invokevirtual 192, 3) := by decide +kernel
theorem dX10_runFrom_10 : decode cX10_runFrom 10 = .ok (.aload_n 0, 1) := by decide +kernel
theorem dX10_runFrom_11 : decode cX10_runFrom 11 = .ok (.aload_n 2, 1) := by decide +kernel
theorem dX10_runFrom_12 : decode cX10_runFrom 12 = .ok (.invokevirtual 202, 3) := by decide +kernel
theorem dX10_runFrom_15 : decode cX10_runFrom 15 = .ok (.ireturn, 1) := by decide +kernel
theorem dX10_standsAt_0 : decode cX10_standsAt 0 = .ok (.aload_n 0, 1) := by decide +kernel
theorem dX10_standsAt_1 : decode cX10_standsAt 1 = .ok (.iload_n 1, 1) := by decide +kernel
theorem dX10_standsAt_2 : decode cX10_standsAt 2 = .ok (.invokevirtual 126, 3) := by decide +kernel
theorem dX10_standsAt_5 : decode cX10_standsAt 5 = .ok (.astore_n 3, 1) := by decide +kernel
theorem dX10_standsAt_6 : decode cX10_standsAt 6 = .ok (.aload_n 0, 1) := by decide +kernel
theorem dX10_standsAt_7 : decode cX10_standsAt 7 = .ok (.invokevirtual 192, 3) := by decide +kernel
theorem dX10_standsAt_10 : decode cX10_standsAt 10 = .ok (.aload_n 3, 1) := by decide +kernel
theorem dX10_standsAt_11 : decode cX10_standsAt 11 = .ok (.aload_n 0, 1) := by decide +kernel
theorem dX10_standsAt_12 : decode cX10_standsAt 12 = .ok (.getfield 18, 3) := by decide +kernel
theorem dX10_standsAt_15 : decode cX10_standsAt 15 = .ok (.iconst 0, 1) := by decide +kernel
theorem dX10_standsAt_16 : decode cX10_standsAt 16 = .ok (.invokevirtual 199, 3) := by decide +kernel
theorem dX10_standsAt_19 : decode cX10_standsAt 19 = .ok (.istore 4, 2) := by decide +kernel
theorem dX10_standsAt_21 : decode cX10_standsAt 21 = .ok (.aload_n 3, 1) := by decide +kernel
theorem dX10_standsAt_22 : decode cX10_standsAt 22 = .ok (.aload_n 0, 1) := by decide +kernel
theorem dX10_standsAt_23 : decode cX10_standsAt 23 = .ok (.getfield 18, 3) := by decide +kernel
theorem dX10_standsAt_26 : decode cX10_standsAt 26 = .ok (.iconst 0, 1) := by decide +kernel
theorem dX10_standsAt_27 : decode cX10_standsAt 27 = .ok (.invokevirtual 195, 3) := by decide +kernel
theorem dX10_standsAt_30 : decode cX10_standsAt 30 = .ok (.istore 5, 2) := by decide +kernel
theorem dX10_standsAt_32 : decode cX10_standsAt 32 = .ok (.iload_n 2, 1) := by decide +kernel
theorem dX10_standsAt_33 : decode cX10_standsAt 33 = .ok (.ifCond .lt 12, 3) := by decide +kernel
theorem dX10_standsAt_36 : decode cX10_standsAt 36 = .ok (.iload_n 2, 1) := by decide +kernel
theorem dX10_standsAt_37 : decode cX10_standsAt 37 = .ok (.iload 5, 2) := by decide +kernel
theorem dX10_standsAt_39 : decode cX10_standsAt 39 = .ok (.iload 4, 2) := by decide +kernel
theorem dX10_standsAt_41 : decode cX10_standsAt 41 = .ok (.isub, 1) := by decide +kernel
theorem dX10_standsAt_42 : decode cX10_standsAt 42 = .ok (.if_icmp .lt 13, 3) := by decide +kernel
theorem dX10_standsAt_45 : decode cX10_standsAt 45 = .ok (.new 97, 3) := by decide +kernel
theorem dX10_standsAt_48 : decode cX10_standsAt 48 = .ok (.dup, 1) := by decide +kernel
theorem dX10_standsAt_49 : decode cX10_standsAt 49 = .ok (.ldc 205, 2) := by decide +kernel
theorem dX10_standsAt_51 : decode cX10_standsAt 51 = .ok (.invokespecial 101, 3) := by decide +kernel
theorem dX10_standsAt_54 : decode cX10_standsAt 54 = .ok (.athrow, 1) := by decide +kernel
theorem dX10_standsAt_55 : decode cX10_standsAt 55 = .ok (.aload_n 3, 1) := by decide +kernel
theorem dX10_standsAt_56 : decode cX10_standsAt 56 = .ok (.iload 4, 2) := by decide +kernel
theorem dX10_standsAt_58 : decode cX10_standsAt 58 = .ok (.iload 5, 2) := by decide +kernel
theorem dX10_standsAt_60 : decode cX10_standsAt 60 = .ok (.iload_n 2, 1) := by decide +kernel
theorem dX10_standsAt_61 : decode cX10_standsAt 61 = .ok (.invokevirtual 207, 3) := by decide +kernel
theorem dX10_standsAt_64 : decode cX10_standsAt 64 = .ok (.ireturn, 1) := by decide +kernel
theorem dX10_tail_0 : decode cX10_tail 0 = .ok (.aload_n 0, 1) := by decide +kernel
theorem dX10_tail_1 : decode cX10_tail 1 = .ok (.iload_n 1, 1) := by decide +kernel
theorem dX10_tail_2 : decode cX10_tail 2 = .ok (.invokevirtual 126, 3) := by decide +kernel
theorem dX10_tail_5 : decode cX10_tail 5 = .ok (.astore_n 3, 1) := by decide +kernel
theorem dX10_tail_6 : decode cX10_tail 6 = .ok (.aload_n 0, 1) := by decide +kernel
theorem dX10_tail_7 : decode cX10_tail 7 = .ok (.invokevirtual 192, 3) := by decide +kernel
theorem dX10_tail_10 : decode cX10_tail 10 = .ok (.iload_n 2, 1) := by decide +kernel
theorem dX10_tail_11 : decode cX10_tail 11 = .ok (.iconst 1, 1) := by decide +kernel
theorem dX10_tail_12 : decode cX10_tail 12 = .ok (.if_icmp .lt 14, 3) := by decide +kernel
theorem dX10_tail_15 : decode cX10_tail 15 = .ok (.iload_n 2, 1) := by decide +kernel
theorem dX10_tail_16 : decode cX10_tail 16 = .ok (.aload_n 0, 1) := by decide +kernel
theorem dX10_tail_17 : decode cX10_tail 17 = .ok (.getfield 18, 3) := by decide +kernel
theorem dX10_tail_20 : decode cX10_tail 20 = .ok (.getfield 80, 3) := by decide +kernel
theorem dX10_tail_23 : decode cX10_tail 23 = .ok (.if_icmp .le 13, 3) := by decide +kernel
theorem dX10_tail_26 : decode cX10_tail 26 = .ok (.new 73, 3) := by decide +kernel
theorem dX10_tail_29 : decode cX10_tail 29 = .ok (.dup, 1) := by decide +kernel
theorem dX10_tail_30 : decode cX10_tail 30 = .ok (.ldc 211, 2) := by decide +kernel
theorem dX10_tail_32 : decode cX10_tail 32 = .ok (.invokespecial 77, 3) := by decide +kernel
theorem dX10_tail_35 : decode cX10_tail 35 = .ok (.athrow, 1) := by decide +kernel
theorem dX10_tail_36 : decode cX10_tail 36 = .ok (.aload_n 0, 1) := by decide +kernel
theorem dX10_tail_37 : decode cX10_tail 37 = .ok (.getfield 18, 3) := by decide +kernel
theorem dX10_tail_40 : decode cX10_tail 40 = .ok (.getfield 80, 3) := by decide +kernel
theorem dX10_tail_43 : decode cX10_tail 43 = .ok (.iload_n 2, 1) := by decide +kernel
theorem dX10_tail_44 : decode cX10_tail 44 = .ok (.isub, 1) := by decide +kernel
theorem dX10_tail_45 : decode cX10_tail 45 = .ok (.istore 4, 2) := by decide +kernel
theorem dX10_tail_47 : decode cX10_tail 47 = .ok (.aload_n 3, 1) := by decide +kernel
theorem dX10_tail_48 : decode cX10_tail 48 = .ok (.aload_n 0, 1) := by decide +kernel
theorem dX10_tail_49 : decode cX10_tail 49 = .ok (.getfield 18, 3) := by decide +kernel
theorem dX10_tail_52 : decode cX10_tail 52 = .ok (.iload 4, 2) := by decide +kernel
theorem dX10_tail_54 : decode cX10_tail 54 = .ok (.invokevirtual 195, 3) := by decide +kernel
theorem dX10_tail_57 : decode cX10_tail 57 = .ok (.aload_n 3, 1) := by decide +kernel
theorem dX10_tail_58 : decode cX10_tail 58 = .ok (.aload_n 0, 1) := by decide +kernel
theorem dX10_tail_59 : decode cX10_tail 59 = .ok (.getfield 18, 3) := by decide +kernel
theorem dX10_tail_62 : decode cX10_tail 62 = .ok (.iload 4, 2) := by decide +kernel
theorem dX10_tail_64 : decode cX10_tail 64 = .ok (.invokevirtual 199, 3) := by decide +kernel
theorem dX10_tail_67 : decode cX10_tail 67 = .ok (.isub, 1) := by decide +kernel
theorem dX10_tail_68 : decode cX10_tail 68 = .ok (.ireturn, 1) := by decide +kernel
theorem dX10_words_0 : decode cX10_words 0 = .ok (.aload_n 0, 1) := by decide +kernel
theorem dX10_words_1 : decode cX10_words 1 = .ok (.iload_n 1, 1) := by decide +kernel
theorem dX10_words_2 : decode cX10_words 2 = .ok (.invokevirtual 126, 3) := by decide +kernel
theorem dX10_words_5 : decode cX10_words 5 = .ok (.astore_n 2, 1) := by decide +kernel
theorem dX10_words_6 : decode cX10_words 6 = .ok (.aload_n 2, 1) := by decide +kernel
theorem dX10_words_7 : decode cX10_words 7 = .ok (.aload_n 2, 1) := by decide +kernel
theorem dX10_words_8 : decode cX10_words 8 = .ok (.getfield 131, 3) := by decide +kernel
theorem dX10_words_11 : decode cX10_words 11 = .ok (.invokevirtual 213, 3) := by decide +kernel
theorem dX10_words_14 : decode cX10_words 14 = .ok (.i2l, 1) := by decide +kernel
theorem dX10_words_15 : decode cX10_words 15 = .ok (.lreturn, 1) := by decide +kernel
theorem dX10_word_0 : decode cX10_word 0 = .ok (.aload_n 0, 1) := by decide +kernel
theorem dX10_word_1 : decode cX10_word 1 = .ok (.iload_n 1, 1) := by decide +kernel
theorem dX10_word_2 : decode cX10_word 2 = .ok (.invokevirtual 126, 3) := by decide +kernel
theorem dX10_word_5 : decode cX10_word 5 = .ok (.astore_n 3, 1) := by decide +kernel
theorem dX10_word_6 : decode cX10_word 6 = .ok (.iload_n 2, 1) := by decide +kernel
theorem dX10_word_7 : decode cX10_word 7 = .ok (.ifCond .lt 15, 3) := by decide +kernel
theorem dX10_word_10 : decode cX10_word 10 = .ok (.iload_n 2, 1) := by decide +kernel
theorem dX10_word_11 : decode cX10_word 11 = .ok (.aload_n 3, 1) := by decide +kernel
theorem dX10_word_12 : decode cX10_word 12 = .ok (.aload_n 3, 1) := by decide +kernel
theorem dX10_word_13 : decode cX10_word 13 = .ok (.getfield 131, 3) := by decide +kernel
theorem dX10_word_16 : decode cX10_word 16 = .ok (.invokevirtual 213, 3) := by decide +kernel
theorem dX10_word_19 : decode cX10_word 19 = .ok (.if_icmp .lt 13, 3) := by decide +kernel
theorem dX10_word_22 : decode cX10_word 22 = .ok (.new 97, 3) := by decide +kernel
theorem dX10_word_25 : decode cX10_word 25 = .ok (.dup, 1) := by decide +kernel
theorem dX10_word_26 : decode cX10_word 26 = .ok (.ldc 217, 2) := by decide +kernel
theorem dX10_word_28 : decode cX10_word 28 = .ok (.invokespecial 101, 3) := by decide +kernel
theorem dX10_word_31 : decode cX10_word 31 = .ok (.athrow, 1) := by decide +kernel
theorem dX10_word_32 : decode cX10_word 32 = .ok (.aload_n 3, 1) := by decide +kernel
theorem dX10_word_33 : decode cX10_word 33 = .ok (.iload_n 2, 1) := by decide +kernel
theorem dX10_word_34 : decode cX10_word 34 = .ok (.invokevirtual 219, 3) := by decide +kernel
theorem dX10_word_37 : decode cX10_word 37 = .ok (.istore 4, 2) := by decide +kernel
theorem dX10_word_39 : decode cX10_word 39 = .ok (.aload_n 3, 1) := by decide +kernel
theorem dX10_word_40 : decode cX10_word 40 = .ok (.getfield 185, 3) := by decide +kernel
theorem dX10_word_43 : decode cX10_word 43 = .ok (.iload 4, 2) := by decide +kernel
theorem dX10_word_45 : decode cX10_word 45 = .ok (.iaload, 1) := by decide +kernel
theorem dX10_word_46 : decode cX10_word 46 = .ok (.iconst 1, 1) := by decide +kernel
theorem dX10_word_47 : decode cX10_word 47 = .ok (.iadd, 1) := by decide +kernel
theorem dX10_word_48 : decode cX10_word 48 = .ok (.iload_n 2, 1) := by decide +kernel
theorem dX10_word_49 : decode cX10_word 49 = .ok (.iadd, 1) := by decide +kernel
theorem dX10_word_50 : decode cX10_word 50 = .ok (.aload_n 3, 1) := by decide +kernel
theorem dX10_word_51 : decode cX10_word 51 = .ok (.iload 4, 2) := by decide +kernel
theorem dX10_word_53 : decode cX10_word 53 = .ok (.invokevirtual 213, 3) := by decide +kernel
theorem dX10_word_56 : decode cX10_word 56 = .ok (.isub, 1) := by decide +kernel
theorem dX10_word_57 : decode cX10_word 57 = .ok (.istore 5, 2) := by decide +kernel
theorem dX10_word_59 : decode cX10_word 59 = .ok (.aload_n 0, 1) := by decide +kernel
theorem dX10_word_60 : decode cX10_word 60 = .ok (.getfield 18, 3) := by decide +kernel
theorem dX10_word_63 : decode cX10_word 63 = .ok (.aload_n 3, 1) := by decide +kernel
theorem dX10_word_64 : decode cX10_word 64 = .ok (.getfield 130, 3) := by decide +kernel
theorem dX10_word_67 : decode cX10_word 67 = .ok (.aload_n 3, 1) := by decide +kernel
theorem dX10_word_68 : decode cX10_word 68 = .ok (.getfield 167, 3) := by decide +kernel
theorem dX10_word_71 : decode cX10_word 71 = .ok (.iload 4, 2) := by decide +kernel
theorem dX10_word_73 : decode cX10_word 73 = .ok (.iaload, 1) := by decide +kernel
theorem dX10_word_74 : decode cX10_word 74 = .ok (.iload 5, 2) := by decide +kernel
theorem dX10_word_76 : decode cX10_word 76 = .ok (.invokevirtual 132, 3) := by decide +kernel
theorem dX10_word_79 : decode cX10_word 79 = .ok (.aload_n 0, 1) := by decide +kernel
theorem dX10_word_80 : decode cX10_word 80 = .ok (.getfield 18, 3) := by decide +kernel
theorem dX10_word_83 : decode cX10_word 83 = .ok (.getfield 80, 3) := by decide +kernel
theorem dX10_word_86 : decode cX10_word 86 = .ok (.ireturn, 1) := by decide +kernel
theorem dX10_numberOf_0 : decode cX10_numberOf 0 = .ok (.aload_n 0, 1) := by decide +kernel
theorem dX10_numberOf_1 : decode cX10_numberOf 1 = .ok (.iload_n 1, 1) := by decide +kernel
theorem dX10_numberOf_2 : decode cX10_numberOf 2 = .ok (.invokevirtual 126, 3) := by decide +kernel
theorem dX10_numberOf_5 : decode cX10_numberOf 5 = .ok (.astore_n 2, 1) := by decide +kernel
theorem dX10_numberOf_6 : decode cX10_numberOf 6 = .ok (.aload_n 0, 1) := by decide +kernel
theorem dX10_numberOf_7 : decode cX10_numberOf 7 = .ok (.invokevirtual 192, 3) := by decide +kernel
theorem dX10_numberOf_10 : decode cX10_numberOf 10 = .ok (.aload_n 0, 1) := by decide +kernel
theorem dX10_numberOf_11 : decode cX10_numberOf 11 = .ok (.aload_n 2, 1) := by decide +kernel
theorem dX10_numberOf_12 : decode cX10_numberOf 12 = .ok (.invokevirtual 202, 3) := by decide +kernel
theorem dX10_numberOf_15 : decode cX10_numberOf 15 = .ok (.istore_n 3, 1) := by decide +kernel
theorem dX10_numberOf_16 : decode cX10_numberOf 16 = .ok (.aload_n 2, 1) := by decide +kernel
theorem dX10_numberOf_17 : decode cX10_numberOf 17 = .ok (.iload_n 3, 1) := by decide +kernel
theorem dX10_numberOf_18 : decode cX10_numberOf 18 = .ok (.invokevirtual 213, 3) := by decide +kernel
theorem dX10_numberOf_21 : decode cX10_numberOf 21 = .ok (.aload_n 0, 1) := by decide +kernel
theorem dX10_numberOf_22 : decode cX10_numberOf 22 = .ok (.getfield 18, 3) := by decide +kernel
theorem dX10_numberOf_25 : decode cX10_numberOf 25 = .ok (.getfield 80, 3) := by decide +kernel
theorem dX10_numberOf_28 : decode cX10_numberOf 28 = .ok (.iadd, 1) := by decide +kernel
theorem dX10_numberOf_29 : decode cX10_numberOf 29 = .ok (.aload_n 2, 1) := by decide +kernel
theorem dX10_numberOf_30 : decode cX10_numberOf 30 = .ok (.getfield 185, 3) := by decide +kernel
theorem dX10_numberOf_33 : decode cX10_numberOf 33 = .ok (.iload_n 3, 1) := by decide +kernel
theorem dX10_numberOf_34 : decode cX10_numberOf 34 = .ok (.iaload, 1) := by decide +kernel
theorem dX10_numberOf_35 : decode cX10_numberOf 35 = .ok (.isub, 1) := by decide +kernel
theorem dX10_numberOf_36 : decode cX10_numberOf 36 = .ok (.iconst 1, 1) := by decide +kernel
theorem dX10_numberOf_37 : decode cX10_numberOf 37 = .ok (.isub, 1) := by decide +kernel
theorem dX10_numberOf_38 : decode cX10_numberOf 38 = .ok (.ireturn, 1) := by decide +kernel
theorem dX10_twice_0 : decode cX10_twice 0 = .ok (.aload_n 0, 1) := by decide +kernel
theorem dX10_twice_1 : decode cX10_twice 1 = .ok (.iload_n 1, 1) := by decide +kernel
theorem dX10_twice_2 : decode cX10_twice 2 = .ok (.invokevirtual 126, 3) := by decide +kernel
theorem dX10_twice_5 : decode cX10_twice 5 = .ok (.invokevirtual 182, 3) := by decide +kernel
theorem dX10_twice_8 : decode cX10_twice 8 = .ok (.ireturn, 1) := by decide +kernel
theorem dX10_twiceAt_0 : decode cX10_twiceAt 0 = .ok (.aload_n 0, 1) := by decide +kernel
theorem dX10_twiceAt_1 : decode cX10_twiceAt 1 = .ok (.iload_n 1, 1) := by decide +kernel
theorem dX10_twiceAt_2 : decode cX10_twiceAt 2 = .ok (.invokevirtual 126, 3) := by decide +kernel
theorem dX10_twiceAt_5 : decode cX10_twiceAt 5 = .ok (.astore_n 2, 1) := by decide +kernel
theorem dX10_twiceAt_6 : decode cX10_twiceAt 6 = .ok (.aload_n 2, 1) := by decide +kernel
theorem dX10_twiceAt_7 : decode cX10_twiceAt 7 = .ok (.invokevirtual 182, 3) := by decide +kernel
theorem dX10_twiceAt_10 : decode cX10_twiceAt 10 = .ok (.ifCond .ne 13, 3) := by decide +kernel
theorem dX10_twiceAt_13 : decode cX10_twiceAt 13 = .ok (.new 97, 3) := by decide +kernel
theorem dX10_twiceAt_16 : decode cX10_twiceAt 16 = .ok (.dup, 1) := by decide +kernel
theorem dX10_twiceAt_17 : decode cX10_twiceAt 17 = .ok (.ldc 222, 2) := by decide +kernel
theorem dX10_twiceAt_19 : decode cX10_twiceAt 19 = .ok (.invokespecial 101, 3) := by decide +kernel
theorem dX10_twiceAt_22 : decode cX10_twiceAt 22 = .ok (.athrow, 1) := by decide +kernel
theorem dX10_twiceAt_23 : decode cX10_twiceAt 23 = .ok (.aload_n 2, 1) := by decide +kernel
theorem dX10_twiceAt_24 : decode cX10_twiceAt 24 = .ok (.invokevirtual 224, 3) := by decide +kernel
theorem dX10_twiceAt_27 : decode cX10_twiceAt 27 = .ok (.ireturn, 1) := by decide +kernel
theorem dX10_first_0 : decode cX10_first 0 = .ok (.aload_n 0, 1) := by decide +kernel
theorem dX10_first_1 : decode cX10_first 1 = .ok (.iload_n 1, 1) := by decide +kernel
theorem dX10_first_2 : decode cX10_first 2 = .ok (.iload_n 2, 1) := by decide +kernel
theorem dX10_first_3 : decode cX10_first 3 = .ok (.invokevirtual 250, 3) := by decide +kernel
theorem dX10_first_6 : decode cX10_first 6 = .ok (.iload_n 2, 1) := by decide +kernel
theorem dX10_first_7 : decode cX10_first 7 = .ok (.invokevirtual 253, 3) := by decide +kernel
theorem dX10_first_10 : decode cX10_first 10 = .ok (.ireturn, 1) := by decide +kernel
theorem dX10_last_0 : decode cX10_last 0 = .ok (.aload_n 0, 1) := by decide +kernel
theorem dX10_last_1 : decode cX10_last 1 = .ok (.iload_n 1, 1) := by decide +kernel
theorem dX10_last_2 : decode cX10_last 2 = .ok (.iload_n 2, 1) := by decide +kernel
theorem dX10_last_3 : decode cX10_last 3 = .ok (.invokevirtual 250, 3) := by decide +kernel
theorem dX10_last_6 : decode cX10_last 6 = .ok (.iload_n 2, 1) := by decide +kernel
theorem dX10_last_7 : decode cX10_last 7 = .ok (.invokevirtual 257, 3) := by decide +kernel
theorem dX10_last_10 : decode cX10_last 10 = .ok (.ireturn, 1) := by decide +kernel
theorem dX10_back_0 : decode cX10_back 0 = .ok (.aload_n 0, 1) := by decide +kernel
theorem dX10_back_1 : decode cX10_back 1 = .ok (.iload_n 1, 1) := by decide +kernel
theorem dX10_back_2 : decode cX10_back 2 = .ok (.iload_n 2, 1) := by decide +kernel
theorem dX10_back_3 : decode cX10_back 3 = .ok (.invokevirtual 250, 3) := by decide +kernel
theorem dX10_back_6 : decode cX10_back 6 = .ok (.iload_n 2, 1) := by decide +kernel
theorem dX10_back_7 : decode cX10_back 7 = .ok (.invokevirtual 260, 3) := by decide +kernel
theorem dX10_back_10 : decode cX10_back 10 = .ok (.ireturn, 1) := by decide +kernel
theorem dX10_column_0 : decode cX10_column 0 = .ok (.aload_n 0, 1) := by decide +kernel
theorem dX10_column_1 : decode cX10_column 1 = .ok (.iload_n 1, 1) := by decide +kernel
theorem dX10_column_2 : decode cX10_column 2 = .ok (.invokevirtual 126, 3) := by decide +kernel
theorem dX10_column_5 : decode cX10_column 5 = .ok (.astore_n 2, 1) := by decide +kernel
theorem dX10_column_6 : decode cX10_column 6 = .ok (.aload_n 0, 1) := by decide +kernel
theorem dX10_column_7 : decode cX10_column 7 = .ok (.getfield 18, 3) := by decide +kernel
theorem dX10_column_10 : decode cX10_column 10 = .ok (.iconst 0, 1) := by decide +kernel
theorem dX10_column_11 : decode cX10_column 11 = .ok (.putfield 80, 3) := by decide +kernel
theorem dX10_column_14 : decode cX10_column 14 = .ok (.iconst 0, 1) := by decide +kernel
theorem dX10_column_15 : decode cX10_column 15 = .ok (.istore_n 3, 1) := by decide +kernel
theorem dX10_column_16 : decode cX10_column 16 = .ok (.iload_n 3, 1) := by decide +kernel
theorem dX10_column_17 : decode cX10_column 17 = .ok (.aload_n 2, 1) := by decide +kernel
theorem dX10_column_18 : decode cX10_column 18 = .ok (.getfield 131, 3) := by decide +kernel
theorem dX10_column_21 : decode cX10_column 21 = .ok (.if_icmp .gt 21, 3) := by decide +kernel
theorem dX10_column_24 : decode cX10_column 24 = .ok (.aload_n 0, 1) := by decide +kernel
theorem dX10_column_25 : decode cX10_column 25 = .ok (.getfield 18, 3) := by decide +kernel
theorem dX10_column_28 : decode cX10_column 28 = .ok (.aload_n 2, 1) := by decide +kernel
theorem dX10_column_29 : decode cX10_column 29 = .ok (.iload_n 3, 1) := by decide +kernel
theorem dX10_column_30 : decode cX10_column 30 = .ok (.invokevirtual 257, 3) := by decide +kernel
theorem dX10_column_33 : decode cX10_column 33 = .ok (.invokevirtual 89, 3) := by decide +kernel
theorem dX10_column_36 : decode cX10_column 36 = .ok (.iinc 3 1, 3) := by decide +kernel
theorem dX10_column_39 : decode cX10_column 39 = .ok (.goto (-23), 3) := by decide +kernel
theorem dX10_column_42 : decode cX10_column 42 = .ok (.aload_n 0, 1) := by decide +kernel
theorem dX10_column_43 : decode cX10_column 43 = .ok (.getfield 18, 3) := by decide +kernel
theorem dX10_column_46 : decode cX10_column 46 = .ok (.getfield 80, 3) := by decide +kernel
theorem dX10_column_49 : decode cX10_column 49 = .ok (.ireturn, 1) := by decide +kernel
theorem dX10_undo_0 : decode cX10_undo 0 = .ok (.aload_n 0, 1) := by decide +kernel
theorem dX10_undo_1 : decode cX10_undo 1 = .ok (.getfield 36, 3) := by decide +kernel
theorem dX10_undo_4 : decode cX10_undo 4 = .ok (.aload_n 0, 1) := by decide +kernel
theorem dX10_undo_5 : decode cX10_undo 5 = .ok (.getfield 18, 3) := by decide +kernel
theorem dX10_undo_8 : decode cX10_undo 8 = .ok (.getfield 102, 3) := by decide +kernel
theorem dX10_undo_11 : decode cX10_undo 11 = .ok (.aload_n 0, 1) := by decide +kernel
theorem dX10_undo_12 : decode cX10_undo 12 = .ok (.getfield 18, 3) := by decide +kernel
theorem dX10_undo_15 : decode cX10_undo 15 = .ok (.getfield 80, 3) := by decide +kernel
theorem dX10_undo_18 : decode cX10_undo 18 = .ok (.invokevirtual 267, 3) := by decide +kernel
theorem dX10_undo_21 : decode cX10_undo 21 = .ok (.ifCond .ne 14, 3) := by decide +kernel
theorem dX10_undo_24 : decode cX10_undo 24 = .ok (.new 109, 3) := by decide +kernel
theorem dX10_undo_27 : decode cX10_undo 27 = .ok (.dup, 1) := by decide +kernel
theorem dX10_undo_28 : decode cX10_undo 28 = .ok (.ldc_w 271, 3) := by decide +kernel
theorem dX10_undo_31 : decode cX10_undo 31 = .ok (.invokespecial 113, 3) := by decide +kernel
theorem dX10_undo_34 : decode cX10_undo 34 = .ok (.athrow, 1) := by decide +kernel
theorem dX10_undo_35 : decode cX10_undo 35 = .ok (.aload_n 0, 1) := by decide +kernel
theorem dX10_undo_36 : decode cX10_undo 36 = .ok (.invokevirtual 114, 3) := by decide +kernel
theorem dX10_undo_39 : decode cX10_undo 39 = .ok (.astore_n 1, 1) := by decide +kernel
theorem dX10_undo_40 : decode cX10_undo 40 = .ok (.aload_n 1, 1) := by decide +kernel
theorem dX10_undo_41 : decode cX10_undo 41 = .ok (.aload_n 0, 1) := by decide +kernel
theorem dX10_undo_42 : decode cX10_undo 42 = .ok (.getfield 36, 3) := by decide +kernel
theorem dX10_undo_45 : decode cX10_undo 45 = .ok (.getfield 273, 3) := by decide +kernel
theorem dX10_undo_48 : decode cX10_undo 48 = .ok (.aload_n 0, 1) := by decide +kernel
theorem dX10_undo_49 : decode cX10_undo 49 = .ok (.getfield 18, 3) := by decide +kernel
theorem dX10_undo_52 : decode cX10_undo 52 = .ok (.getfield 80, 3) := by decide +kernel
theorem dX10_undo_55 : decode cX10_undo 55 = .ok (.iconst 1, 1) := by decide +kernel
theorem dX10_undo_56 : decode cX10_undo 56 = .ok (.isub, 1) := by decide +kernel
theorem dX10_undo_57 : decode cX10_undo 57 = .ok (.invokevirtual 118, 3) := by decide +kernel
theorem dX10_undo_60 : decode cX10_undo 60 = .ok (.aload_n 0, 1) := by decide +kernel
theorem dX10_undo_61 : decode cX10_undo 61 = .ok (.aload_n 1, 1) := by decide +kernel
theorem dX10_undo_62 : decode cX10_undo 62 = .ok (.invokevirtual 122, 3) := by decide +kernel
theorem dX10_undo_65 : decode cX10_undo 65 = .ok (.ireturn, 1) := by decide +kernel
theorem dX10_squares_0 : decode cX10_squares 0 = .ok (.aload_n 0, 1) := by decide +kernel
theorem dX10_squares_1 : decode cX10_squares 1 = .ok (.iload_n 1, 1) := by decide +kernel
theorem dX10_squares_2 : decode cX10_squares 2 = .ok (.invokevirtual 126, 3) := by decide +kernel
theorem dX10_squares_5 : decode cX10_squares 5 = .ok (.invokestatic 276, 3) := by decide +kernel
theorem dX10_squares_8 : decode cX10_squares 8 = .ok (.ireturn, 1) := by decide +kernel
theorem dX10_period_0 : decode cX10_period 0 = .ok (.aload_n 0, 1) := by decide +kernel
theorem dX10_period_1 : decode cX10_period 1 = .ok (.iload_n 1, 1) := by decide +kernel
theorem dX10_period_2 : decode cX10_period 2 = .ok (.invokevirtual 161, 3) := by decide +kernel
theorem dX10_period_5 : decode cX10_period 5 = .ok (.invokestatic 286, 3) := by decide +kernel
theorem dX10_period_8 : decode cX10_period 8 = .ok (.ireturn, 1) := by decide +kernel
theorem dX10_parts_0 : decode cX10_parts 0 = .ok (.aload_n 0, 1) := by decide +kernel
theorem dX10_parts_1 : decode cX10_parts 1 = .ok (.getfield 57, 3) := by decide +kernel
theorem dX10_parts_4 : decode cX10_parts 4 = .ok (.aload_n 0, 1) := by decide +kernel
theorem dX10_parts_5 : decode cX10_parts 5 = .ok (.iload_n 1, 1) := by decide +kernel
theorem dX10_parts_6 : decode cX10_parts 6 = .ok (.invokevirtual 126, 3) := by decide +kernel
theorem dX10_parts_9 : decode cX10_parts 9 = .ok (.invokevirtual 292, 3) := by decide +kernel
theorem dX10_parts_12 : decode cX10_parts 12 = .ok (.ireturn, 1) := by decide +kernel
theorem dX10_partAt_0 : decode cX10_partAt 0 = .ok (.aload_n 0, 1) := by decide +kernel
theorem dX10_partAt_1 : decode cX10_partAt 1 = .ok (.iload_n 1, 1) := by decide +kernel
theorem dX10_partAt_2 : decode cX10_partAt 2 = .ok (.invokevirtual 126, 3) := by decide +kernel
theorem dX10_partAt_5 : decode cX10_partAt 5 = .ok (.astore_n 3, 1) := by decide +kernel
theorem dX10_partAt_6 : decode cX10_partAt 6 = .ok (.iload_n 2, 1) := by decide +kernel
theorem dX10_partAt_7 : decode cX10_partAt 7 = .ok (.ifCond .lt 15, 3) := by decide +kernel
theorem dX10_partAt_10 : decode cX10_partAt 10 = .ok (.iload_n 2, 1) := by decide +kernel
theorem dX10_partAt_11 : decode cX10_partAt 11 = .ok (.aload_n 0, 1) := by decide +kernel
theorem dX10_partAt_12 : decode cX10_partAt 12 = .ok (.getfield 57, 3) := by decide +kernel
theorem dX10_partAt_15 : decode cX10_partAt 15 = .ok (.aload_n 3, 1) := by decide +kernel
theorem dX10_partAt_16 : decode cX10_partAt 16 = .ok (.invokevirtual 292, 3) := by decide +kernel
theorem dX10_partAt_19 : decode cX10_partAt 19 = .ok (.if_icmp .lt 14, 3) := by decide +kernel
theorem dX10_partAt_22 : decode cX10_partAt 22 = .ok (.new 295, 3) := by decide +kernel
theorem dX10_partAt_25 : decode cX10_partAt 25 = .ok (.dup, 1) := by decide +kernel
theorem dX10_partAt_26 : decode cX10_partAt 26 = .ok (.ldc_w 297, 3) := by decide +kernel
theorem dX10_partAt_29 : decode cX10_partAt 29 = .ok (.invokespecial 299, 3) := by decide +kernel
theorem dX10_partAt_32 : decode cX10_partAt 32 = .ok (.athrow, 1) := by decide +kernel
theorem dX10_partAt_33 : decode cX10_partAt 33 = .ok (.aload_n 0, 1) := by decide +kernel
theorem dX10_partAt_34 : decode cX10_partAt 34 = .ok (.getfield 57, 3) := by decide +kernel
theorem dX10_partAt_37 : decode cX10_partAt 37 = .ok (.aload_n 3, 1) := by decide +kernel
theorem dX10_partAt_38 : decode cX10_partAt 38 = .ok (.iload_n 2, 1) := by decide +kernel
theorem dX10_partAt_39 : decode cX10_partAt 39 = .ok (.invokevirtual 300, 3) := by decide +kernel
theorem dX10_partAt_42 : decode cX10_partAt 42 = .ok (.ireturn, 1) := by decide +kernel
theorem dX10_pieces_0 : decode cX10_pieces 0 = .ok (.aload_n 0, 1) := by decide +kernel
theorem dX10_pieces_1 : decode cX10_pieces 1 = .ok (.getfield 64, 3) := by decide +kernel
theorem dX10_pieces_4 : decode cX10_pieces 4 = .ok (.aload_n 0, 1) := by decide +kernel
theorem dX10_pieces_5 : decode cX10_pieces 5 = .ok (.iload_n 1, 1) := by decide +kernel
theorem dX10_pieces_6 : decode cX10_pieces 6 = .ok (.invokevirtual 126, 3) := by decide +kernel
theorem dX10_pieces_9 : decode cX10_pieces 9 = .ok (.invokevirtual 303, 3) := by decide +kernel
theorem dX10_pieces_12 : decode cX10_pieces 12 = .ok (.ireturn, 1) := by decide +kernel
theorem dX10_fewest_0 : decode cX10_fewest 0 = .ok (.aload_n 0, 1) := by decide +kernel
theorem dX10_fewest_1 : decode cX10_fewest 1 = .ok (.getfield 64, 3) := by decide +kernel
theorem dX10_fewest_4 : decode cX10_fewest 4 = .ok (.aload_n 0, 1) := by decide +kernel
theorem dX10_fewest_5 : decode cX10_fewest 5 = .ok (.iload_n 1, 1) := by decide +kernel
theorem dX10_fewest_6 : decode cX10_fewest 6 = .ok (.invokevirtual 126, 3) := by decide +kernel
theorem dX10_fewest_9 : decode cX10_fewest 9 = .ok (.invokevirtual 316, 3) := by decide +kernel
theorem dX10_fewest_12 : decode cX10_fewest 12 = .ok (.ireturn, 1) := by decide +kernel
theorem dX10_checksum_0 : decode cX10_checksum 0 = .ok (.ldc2_w 324, 3) := by decide +kernel
theorem dX10_checksum_3 : decode cX10_checksum 3 = .ok (.lstore_n 1, 1) := by decide +kernel
theorem dX10_checksum_4 : decode cX10_checksum 4 = .ok (.iconst 0, 1) := by decide +kernel
theorem dX10_checksum_5 : decode cX10_checksum 5 = .ok (.istore_n 3, 1) := by decide +kernel
theorem dX10_checksum_6 : decode cX10_checksum 6 = .ok (.iload_n 3, 1) := by decide +kernel
theorem dX10_checksum_7 : decode cX10_checksum 7 = .ok (.aload_n 0, 1) := by decide +kernel
theorem dX10_checksum_8 : decode cX10_checksum 8 = .ok (.getfield 235, 3) := by decide +kernel
theorem dX10_checksum_11 : decode cX10_checksum 11 = .ok (.if_icmp .ge 81, 3) := by decide +kernel
theorem dX10_checksum_14 : decode cX10_checksum 14 = .ok (.aload_n 0, 1) := by decide +kernel
theorem dX10_checksum_15 : decode cX10_checksum 15 = .ok (.getfield 11, 3) := by decide +kernel
theorem dX10_checksum_18 : decode cX10_checksum 18 = .ok (.iload_n 3, 1) := by decide +kernel
theorem dX10_checksum_19 : decode cX10_checksum 19 = .ok (.aaload, 1) := by decide +kernel
theorem dX10_checksum_20 : decode cX10_checksum 20 = .ok (.astore 4, 2) := by decide +kernel
theorem dX10_checksum_22 : decode cX10_checksum 22 = .ok (.ldc2_w 326, 3) := by decide +kernel
theorem dX10_checksum_25 : decode cX10_checksum 25 = .ok (.lload_n 1, 1) := by decide +kernel
theorem dX10_checksum_26 : decode cX10_checksum 26 = .ok (.lmul, 1) := by decide +kernel
theorem dX10_checksum_27 : decode cX10_checksum 27 = .ok (.aload 4, 2) := by decide +kernel
theorem dX10_checksum_29 : decode cX10_checksum 29 = .ok (.getfield 131, 3) := by decide +kernel
theorem dX10_checksum_32 : decode cX10_checksum 32 = .ok (.i2l, 1) := by decide +kernel
theorem dX10_checksum_33 : decode cX10_checksum 33 = .ok (.ladd, 1) := by decide +kernel
theorem dX10_checksum_34 : decode cX10_checksum 34 = .ok (.lstore_n 1, 1) := by decide +kernel
theorem dX10_checksum_35 : decode cX10_checksum 35 = .ok (.iconst 0, 1) := by decide +kernel
theorem dX10_checksum_36 : decode cX10_checksum 36 = .ok (.istore 5, 2) := by decide +kernel
theorem dX10_checksum_38 : decode cX10_checksum 38 = .ok (.iload 5, 2) := by decide +kernel
theorem dX10_checksum_40 : decode cX10_checksum 40 = .ok (.aload 4, 2) := by decide +kernel
theorem dX10_checksum_42 : decode cX10_checksum 42 = .ok (.getfield 131, 3) := by decide +kernel
theorem dX10_checksum_45 : decode cX10_checksum 45 = .ok (.if_icmp .ge 41, 3) := by decide +kernel
theorem dX10_checksum_48 : decode cX10_checksum 48 = .ok (.ldc2_w 326, 3) := by decide +kernel
theorem dX10_checksum_51 : decode cX10_checksum 51 = .ok (.lload_n 1, 1) := by decide +kernel
theorem dX10_checksum_52 : decode cX10_checksum 52 = .ok (.lmul, 1) := by decide +kernel
theorem dX10_checksum_53 : decode cX10_checksum 53 = .ok (.aload 4, 2) := by decide +kernel
theorem dX10_checksum_55 : decode cX10_checksum 55 = .ok (.getfield 167, 3) := by decide +kernel
theorem dX10_checksum_58 : decode cX10_checksum 58 = .ok (.iload 5, 2) := by decide +kernel
theorem dX10_checksum_60 : decode cX10_checksum 60 = .ok (.iaload, 1) := by decide +kernel
theorem dX10_checksum_61 : decode cX10_checksum 61 = .ok (.i2l, 1) := by decide +kernel
theorem dX10_checksum_62 : decode cX10_checksum 62 = .ok (.ladd, 1) := by decide +kernel
theorem dX10_checksum_63 : decode cX10_checksum 63 = .ok (.lstore_n 1, 1) := by decide +kernel
theorem dX10_checksum_64 : decode cX10_checksum 64 = .ok (.ldc2_w 326, 3) := by decide +kernel
theorem dX10_checksum_67 : decode cX10_checksum 67 = .ok (.lload_n 1, 1) := by decide +kernel
theorem dX10_checksum_68 : decode cX10_checksum 68 = .ok (.lmul, 1) := by decide +kernel
theorem dX10_checksum_69 : decode cX10_checksum 69 = .ok (.aload 4, 2) := by decide +kernel
theorem dX10_checksum_71 : decode cX10_checksum 71 = .ok (.getfield 185, 3) := by decide +kernel
theorem dX10_checksum_74 : decode cX10_checksum 74 = .ok (.iload 5, 2) := by decide +kernel
theorem dX10_checksum_76 : decode cX10_checksum 76 = .ok (.iaload, 1) := by decide +kernel
theorem dX10_checksum_77 : decode cX10_checksum 77 = .ok (.i2l, 1) := by decide +kernel
theorem dX10_checksum_78 : decode cX10_checksum 78 = .ok (.ladd, 1) := by decide +kernel
theorem dX10_checksum_79 : decode cX10_checksum 79 = .ok (.lstore_n 1, 1) := by decide +kernel
theorem dX10_checksum_80 : decode cX10_checksum 80 = .ok (.iinc 5 1, 3) := by decide +kernel
theorem dX10_checksum_83 : decode cX10_checksum 83 = .ok (.goto (-45), 3) := by decide +kernel
theorem dX10_checksum_86 : decode cX10_checksum 86 = .ok (.iinc 3 1, 3) := by decide +kernel
theorem dX10_checksum_89 : decode cX10_checksum 89 = .ok (.goto (-83), 3) := by decide +kernel
theorem dX10_checksum_92 : decode cX10_checksum 92 = .ok (.lload_n 1, 1) := by decide +kernel
theorem dX10_checksum_93 : decode cX10_checksum 93 = .ok (.lreturn, 1) := by decide +kernel
theorem dX10_isSound_0 : decode cX10_isSound 0 = .ok (.iconst 0, 1) := by decide +kernel
theorem dX10_isSound_1 : decode cX10_isSound 1 = .ok (.istore_n 1, 1) := by decide +kernel
theorem dX10_isSound_2 : decode cX10_isSound 2 = .ok (.iload_n 1, 1) := by decide +kernel
theorem dX10_isSound_3 : decode cX10_isSound 3 = .ok (.aload_n 0, 1) := by decide +kernel
theorem dX10_isSound_4 : decode cX10_isSound 4 = .ok (.getfield 235, 3) := by decide +kernel
theorem dX10_isSound_7 : decode cX10_isSound 7 = .ok (.if_icmp .ge 80, 3) := by decide +kernel
theorem dX10_isSound_10 : decode cX10_isSound 10 = .ok (.aload_n 0, 1) := by decide +kernel
theorem dX10_isSound_11 : decode cX10_isSound 11 = .ok (.getfield 11, 3) := by decide +kernel
theorem dX10_isSound_14 : decode cX10_isSound 14 = .ok (.iload_n 1, 1) := by decide +kernel
theorem dX10_isSound_15 : decode cX10_isSound 15 = .ok (.aaload, 1) := by decide +kernel
theorem dX10_isSound_16 : decode cX10_isSound 16 = .ok (.astore_n 2, 1) := by decide +kernel
theorem dX10_isSound_17 : decode cX10_isSound 17 = .ok (.aload_n 0, 1) := by decide +kernel
theorem dX10_isSound_18 : decode cX10_isSound 18 = .ok (.getfield 36, 3) := by decide +kernel
theorem dX10_isSound_21 : decode cX10_isSound 21 = .ok (.aload_n 2, 1) := by decide +kernel
theorem dX10_isSound_22 : decode cX10_isSound 22 = .ok (.invokevirtual 328, 3) := by decide +kernel
theorem dX10_isSound_25 : decode cX10_isSound 25 = .ok (.ifCond .eq 48, 3) := by decide +kernel
theorem dX10_isSound_28 : decode cX10_isSound 28 = .ok (.aload_n 0, 1) := by decide +kernel
theorem dX10_isSound_29 : decode cX10_isSound 29 = .ok (.getfield 50, 3) := by decide +kernel
theorem dX10_isSound_32 : decode cX10_isSound 32 = .ok (.aload_n 2, 1) := by decide +kernel
theorem dX10_isSound_33 : decode cX10_isSound 33 = .ok (.invokevirtual 332, 3) := by decide +kernel
theorem dX10_isSound_36 : decode cX10_isSound 36 = .ok (.ifCond .eq 37, 3) := by decide +kernel
theorem dX10_isSound_39 : decode cX10_isSound 39 = .ok (.aload_n 0, 1) := by decide +kernel
theorem dX10_isSound_40 : decode cX10_isSound 40 = .ok (.getfield 57, 3) := by decide +kernel
theorem dX10_isSound_43 : decode cX10_isSound 43 = .ok (.aload_n 2, 1) := by decide +kernel
theorem dX10_isSound_44 : decode cX10_isSound 44 = .ok (.invokevirtual 335, 3) := by decide +kernel
theorem dX10_isSound_47 : decode cX10_isSound 47 = .ok (.ifCond .eq 26, 3) := by decide +kernel
theorem dX10_isSound_50 : decode cX10_isSound 50 = .ok (.aload_n 0, 1) := by decide +kernel
theorem dX10_isSound_51 : decode cX10_isSound 51 = .ok (.getfield 64, 3) := by decide +kernel
theorem dX10_isSound_54 : decode cX10_isSound 54 = .ok (.aload_n 2, 1) := by decide +kernel
theorem dX10_isSound_55 : decode cX10_isSound 55 = .ok (.invokevirtual 303, 3) := by decide +kernel
theorem dX10_isSound_58 : decode cX10_isSound 58 = .ok (.aload_n 0, 1) := by decide +kernel
theorem dX10_isSound_59 : decode cX10_isSound 59 = .ok (.getfield 64, 3) := by decide +kernel
theorem dX10_isSound_62 : decode cX10_isSound 62 = .ok (.aload_n 2, 1) := by decide +kernel
theorem dX10_isSound_63 : decode cX10_isSound 63 = .ok (.invokevirtual 316, 3) := by decide +kernel
theorem dX10_isSound_66 : decode cX10_isSound 66 = .ok (.if_icmp .ne 7, 3) := by decide +kernel
theorem dX10_isSound_69 : decode cX10_isSound 69 = .ok (.iconst 1, 1) := by decide +kernel
theorem dX10_isSound_70 : decode cX10_isSound 70 = .ok (.goto 4, 3) := by decide +kernel
theorem dX10_isSound_73 : decode cX10_isSound 73 = .ok (.iconst 0, 1) := by decide +kernel
theorem dX10_isSound_74 : decode cX10_isSound 74 = .ok (.istore_n 3, 1) := by decide +kernel
theorem dX10_isSound_75 : decode cX10_isSound 75 = .ok (.iload_n 3, 1) := by decide +kernel
theorem dX10_isSound_76 : decode cX10_isSound 76 = .ok (.ifCond .ne 5, 3) := by decide +kernel
theorem dX10_isSound_79 : decode cX10_isSound 79 = .ok (.iconst 0, 1) := by decide +kernel
theorem dX10_isSound_80 : decode cX10_isSound 80 = .ok (.ireturn, 1) := by decide +kernel
theorem dX10_isSound_81 : decode cX10_isSound 81 = .ok (.iinc 1 1, 3) := by decide +kernel
theorem dX10_isSound_84 : decode cX10_isSound 84 = .ok (.goto (-82), 3) := by decide +kernel
theorem dX10_isSound_87 : decode cX10_isSound 87 = .ok (.iconst 1, 1) := by decide +kernel
theorem dX10_isSound_88 : decode cX10_isSound 88 = .ok (.ireturn, 1) := by decide +kernel
theorem dX10_isLetter_0 : decode cX10_isLetter 0 = .ok (.iload_n 0, 1) := by decide +kernel
theorem dX10_isLetter_1 : decode cX10_isLetter 1 = .ok (.bipush 97, 2) := by decide +kernel
theorem dX10_isLetter_3 : decode cX10_isLetter 3 = .ok (.if_icmp .lt 13, 3) := by decide +kernel
theorem dX10_isLetter_6 : decode cX10_isLetter 6 = .ok (.iload_n 0, 1) := by decide +kernel
theorem dX10_isLetter_7 : decode cX10_isLetter 7 = .ok (.bipush 122, 2) := by decide +kernel
theorem dX10_isLetter_9 : decode cX10_isLetter 9 = .ok (.if_icmp .gt 7, 3) := by decide +kernel
theorem dX10_isLetter_12 : decode cX10_isLetter 12 = .ok (.iconst 1, 1) := by decide +kernel
theorem dX10_isLetter_13 : decode cX10_isLetter 13 = .ok (.goto 4, 3) := by decide +kernel
theorem dX10_isLetter_16 : decode cX10_isLetter 16 = .ok (.iconst 0, 1) := by decide +kernel
theorem dX10_isLetter_17 : decode cX10_isLetter 17 = .ok (.ireturn, 1) := by decide +kernel
theorem dX10_isTypable_0 : decode cX10_isTypable 0 = .ok (.iload_n 0, 1) := by decide +kernel
theorem dX10_isTypable_1 : decode cX10_isTypable 1 = .ok (.bipush 36, 2) := by decide +kernel
theorem dX10_isTypable_3 : decode cX10_isTypable 3 = .ok (.if_icmp .eq 10, 3) := by decide +kernel
theorem dX10_isTypable_6 : decode cX10_isTypable 6 = .ok (.iload_n 0, 1) := by decide +kernel
theorem dX10_isTypable_7 : decode cX10_isTypable 7 = .ok (.invokestatic 146, 3) := by decide +kernel
theorem dX10_isTypable_10 : decode cX10_isTypable 10 = .ok (.ifCond .eq 7, 3) := by decide +kernel
theorem dX10_isTypable_13 : decode cX10_isTypable 13 = .ok (.iconst 1, 1) := by decide +kernel
theorem dX10_isTypable_14 : decode cX10_isTypable 14 = .ok (.goto 4, 3) := by decide +kernel
theorem dX10_isTypable_17 : decode cX10_isTypable 17 = .ok (.iconst 0, 1) := by decide +kernel
theorem dX10_isTypable_18 : decode cX10_isTypable 18 = .ok (.ireturn, 1) := by decide +kernel
theorem dX10_known_0 : decode cX10_known 0 = .ok (.iload_n 1, 1) := by decide +kernel
theorem dX10_known_1 : decode cX10_known 1 = .ok (.ifCond .lt 11, 3) := by decide +kernel
theorem dX10_known_4 : decode cX10_known 4 = .ok (.iload_n 1, 1) := by decide +kernel
theorem dX10_known_5 : decode cX10_known 5 = .ok (.aload_n 0, 1) := by decide +kernel
theorem dX10_known_6 : decode cX10_known 6 = .ok (.getfield 235, 3) := by decide +kernel
theorem dX10_known_9 : decode cX10_known 9 = .ok (.if_icmp .lt 14, 3) := by decide +kernel
theorem dX10_known_12 : decode cX10_known 12 = .ok (.new 295, 3) := by decide +kernel
theorem dX10_known_15 : decode cX10_known 15 = .ok (.dup, 1) := by decide +kernel
theorem dX10_known_16 : decode cX10_known 16 = .ok (.ldc_w 336, 3) := by decide +kernel
theorem dX10_known_19 : decode cX10_known 19 = .ok (.invokespecial 299, 3) := by decide +kernel
theorem dX10_known_22 : decode cX10_known 22 = .ok (.athrow, 1) := by decide +kernel
theorem dX10_known_23 : decode cX10_known 23 = .ok (.aload_n 0, 1) := by decide +kernel
theorem dX10_known_24 : decode cX10_known 24 = .ok (.getfield 11, 3) := by decide +kernel
theorem dX10_known_27 : decode cX10_known 27 = .ok (.iload_n 1, 1) := by decide +kernel
theorem dX10_known_28 : decode cX10_known 28 = .ok (.aaload, 1) := by decide +kernel
theorem dX10_known_29 : decode cX10_known 29 = .ok (.areturn, 1) := by decide +kernel
theorem dX10_knownWith_0 : decode cX10_knownWith 0 = .ok (.aload_n 0, 1) := by decide +kernel
theorem dX10_knownWith_1 : decode cX10_knownWith 1 = .ok (.iload_n 1, 1) := by decide +kernel
theorem dX10_knownWith_2 : decode cX10_knownWith 2 = .ok (.invokevirtual 126, 3) := by decide +kernel
theorem dX10_knownWith_5 : decode cX10_knownWith 5 = .ok (.astore_n 3, 1) := by decide +kernel
theorem dX10_knownWith_6 : decode cX10_knownWith 6 = .ok (.iload_n 2, 1) := by decide +kernel
theorem dX10_knownWith_7 : decode cX10_knownWith 7 = .ok (.ifCond .lt 11, 3) := by decide +kernel
theorem dX10_knownWith_10 : decode cX10_knownWith 10 = .ok (.iload_n 2, 1) := by decide +kernel
theorem dX10_knownWith_11 : decode cX10_knownWith 11 = .ok (.aload_n 3, 1) := by decide +kernel
theorem dX10_knownWith_12 : decode cX10_knownWith 12 = .ok (.getfield 131, 3) := by decide +kernel
theorem dX10_knownWith_15 : decode cX10_knownWith 15 = .ok (.if_icmp .lt 14, 3) := by decide +kernel
theorem dX10_knownWith_18 : decode cX10_knownWith 18 = .ok (.new 295, 3) := by decide +kernel
theorem dX10_knownWith_21 : decode cX10_knownWith 21 = .ok (.dup, 1) := by decide +kernel
theorem dX10_knownWith_22 : decode cX10_knownWith 22 = .ok (.ldc_w 338, 3) := by decide +kernel
theorem dX10_knownWith_25 : decode cX10_knownWith 25 = .ok (.invokespecial 299, 3) := by decide +kernel
theorem dX10_knownWith_28 : decode cX10_knownWith 28 = .ok (.athrow, 1) := by decide +kernel
theorem dX10_knownWith_29 : decode cX10_knownWith 29 = .ok (.aload_n 3, 1) := by decide +kernel
theorem dX10_knownWith_30 : decode cX10_knownWith 30 = .ok (.areturn, 1) := by decide +kernel
theorem dX10_knownWithRow_0 : decode cX10_knownWithRow 0 = .ok (.aload_n 0, 1) := by decide +kernel
theorem dX10_knownWithRow_1 : decode cX10_knownWithRow 1 = .ok (.iload_n 1, 1) := by decide +kernel
theorem dX10_knownWithRow_2 : decode cX10_knownWithRow 2 = .ok (.invokevirtual 126, 3) := by decide +kernel
theorem dX10_knownWithRow_5 : decode cX10_knownWithRow 5 = .ok (.astore_n 3, 1) := by decide +kernel
theorem dX10_knownWithRow_6 : decode cX10_knownWithRow 6 = .ok (.iload_n 2, 1) := by decide +kernel
theorem dX10_knownWithRow_7 : decode cX10_knownWithRow 7 = .ok (.ifCond .lt 11, 3) := by decide +kernel
theorem dX10_knownWithRow_10 : decode cX10_knownWithRow 10 = .ok (.iload_n 2, 1) := by decide +kernel
theorem dX10_knownWithRow_11 : decode cX10_knownWithRow 11 = .ok (.aload_n 3, 1) := by decide +kernel
theorem dX10_knownWithRow_12 : decode cX10_knownWithRow 12 = .ok (.getfield 131, 3) := by decide +kernel
theorem dX10_knownWithRow_15 : decode cX10_knownWithRow 15 = .ok (.if_icmp .le 14, 3) := by decide +kernel
theorem dX10_knownWithRow_18 : decode cX10_knownWithRow 18 = .ok (.new 295, 3) := by decide +kernel
theorem dX10_knownWithRow_21 : decode cX10_knownWithRow 21 = .ok (.dup, 1) := by decide +kernel
theorem dX10_knownWithRow_22 : decode cX10_knownWithRow 22 = .ok (.ldc_w 340, 3) := by decide +kernel
theorem dX10_knownWithRow_25 : decode cX10_knownWithRow 25 = .ok (.invokespecial 299, 3) := by decide +kernel
theorem dX10_knownWithRow_28 : decode cX10_knownWithRow 28 = .ok (.athrow, 1) := by decide +kernel
theorem dX10_knownWithRow_29 : decode cX10_knownWithRow 29 = .ok (.aload_n 3, 1) := by decide +kernel
theorem dX10_knownWithRow_30 : decode cX10_knownWithRow 30 = .ok (.areturn, 1) := by decide +kernel
theorem dX10_knownNotEmpty_0 : decode cX10_knownNotEmpty 0 = .ok (.aload_n 0, 1) := by decide +kernel
theorem dX10_knownNotEmpty_1 : decode cX10_knownNotEmpty 1 = .ok (.iload_n 1, 1) := by decide +kernel
theorem dX10_knownNotEmpty_2 : decode cX10_knownNotEmpty 2 = .ok (.invokevirtual 126, 3) := by decide +kernel
theorem dX10_knownNotEmpty_5 : decode cX10_knownNotEmpty 5 = .ok (.astore_n 2, 1) := by decide +kernel
theorem dX10_knownNotEmpty_6 : decode cX10_knownNotEmpty 6 = .ok (.aload_n 2, 1) := by decide +kernel
theorem dX10_knownNotEmpty_7 : decode cX10_knownNotEmpty 7 = .ok (.getfield 131, 3) := by decide +kernel
theorem dX10_knownNotEmpty_10 : decode cX10_knownNotEmpty 10 = .ok (.ifCond .ne 14, 3) := by decide +kernel
theorem dX10_knownNotEmpty_13 : decode cX10_knownNotEmpty 13 = .ok (.new 97, 3) := by decide +kernel
theorem dX10_knownNotEmpty_16 : decode cX10_knownNotEmpty 16 = .ok (.dup, 1) := by decide +kernel
theorem dX10_knownNotEmpty_17 : decode cX10_knownNotEmpty 17 = .ok (.ldc_w 321, 3) := by decide +kernel
theorem dX10_knownNotEmpty_20 : decode cX10_knownNotEmpty 20 = .ok (.invokespecial 101, 3) := by decide +kernel
theorem dX10_knownNotEmpty_23 : decode cX10_knownNotEmpty 23 = .ok (.athrow, 1) := by decide +kernel
theorem dX10_knownNotEmpty_24 : decode cX10_knownNotEmpty 24 = .ok (.aload_n 2, 1) := by decide +kernel
theorem dX10_knownNotEmpty_25 : decode cX10_knownNotEmpty 25 = .ok (.areturn, 1) := by decide +kernel
theorem dX10_refuseClassSize_0 : decode cX10_refuseClassSize 0 = .ok (.iload_n 1, 1) := by decide +kernel
theorem dX10_refuseClassSize_1 : decode cX10_refuseClassSize 1 = .ok (.iconst 1, 1) := by decide +kernel
theorem dX10_refuseClassSize_2 : decode cX10_refuseClassSize 2 = .ok (.if_icmp .lt 9, 3) := by decide +kernel
theorem dX10_refuseClassSize_5 : decode cX10_refuseClassSize 5 = .ok (.iload_n 1, 1) := by decide +kernel
theorem dX10_refuseClassSize_6 : decode cX10_refuseClassSize 6 = .ok (.bipush 64, 2) := by decide +kernel
theorem dX10_refuseClassSize_8 : decode cX10_refuseClassSize 8 = .ok (.if_icmp .le 14, 3) := by decide +kernel
theorem dX10_refuseClassSize_11 : decode cX10_refuseClassSize 11 = .ok (.new 73, 3) := by decide +kernel
theorem dX10_refuseClassSize_14 : decode cX10_refuseClassSize 14 = .ok (.dup, 1) := by decide +kernel
theorem dX10_refuseClassSize_15 : decode cX10_refuseClassSize 15 = .ok (.ldc_w 344, 3) := by decide +kernel
theorem dX10_refuseClassSize_18 : decode cX10_refuseClassSize 18 = .ok (.invokespecial 77, 3) := by decide +kernel
theorem dX10_refuseClassSize_21 : decode cX10_refuseClassSize 21 = .ok (.athrow, 1) := by decide +kernel
theorem dX10_refuseClassSize_22 : decode cX10_refuseClassSize 22 = .ok (.return_, 1) := by decide +kernel
theorem dX10_refuseNoWord_0 : decode cX10_refuseNoWord 0 = .ok (.aload_n 0, 1) := by decide +kernel
theorem dX10_refuseNoWord_1 : decode cX10_refuseNoWord 1 = .ok (.getfield 18, 3) := by decide +kernel
theorem dX10_refuseNoWord_4 : decode cX10_refuseNoWord 4 = .ok (.getfield 80, 3) := by decide +kernel
theorem dX10_refuseNoWord_7 : decode cX10_refuseNoWord 7 = .ok (.ifCond .eq 13, 3) := by decide +kernel
theorem dX10_refuseNoWord_10 : decode cX10_refuseNoWord 10 = .ok (.aload_n 0, 1) := by decide +kernel
theorem dX10_refuseNoWord_11 : decode cX10_refuseNoWord 11 = .ok (.getfield 18, 3) := by decide +kernel
theorem dX10_refuseNoWord_14 : decode cX10_refuseNoWord 14 = .ok (.invokevirtual 105, 3) := by decide +kernel
theorem dX10_refuseNoWord_17 : decode cX10_refuseNoWord 17 = .ok (.ifCond .eq 14, 3) := by decide +kernel
theorem dX10_refuseNoWord_20 : decode cX10_refuseNoWord 20 = .ok (.new 109, 3) := by decide +kernel
theorem dX10_refuseNoWord_23 : decode cX10_refuseNoWord 23 = .ok (.dup, 1) := by decide +kernel
theorem dX10_refuseNoWord_24 : decode cX10_refuseNoWord 24 = .ok (.ldc_w 346, 3) := by decide +kernel
theorem dX10_refuseNoWord_27 : decode cX10_refuseNoWord 27 = .ok (.invokespecial 113, 3) := by decide +kernel
theorem dX10_refuseNoWord_30 : decode cX10_refuseNoWord 30 = .ok (.athrow, 1) := by decide +kernel
theorem dX10_refuseNoWord_31 : decode cX10_refuseNoWord 31 = .ok (.return_, 1) := by decide +kernel
theorem dX10_leastRank_0 : decode cX10_leastRank 0 = .ok (.aload_n 1, 1) := by decide +kernel
theorem dX10_leastRank_1 : decode cX10_leastRank 1 = .ok (.aload_n 0, 1) := by decide +kernel
theorem dX10_leastRank_2 : decode cX10_leastRank 2 = .ok (.getfield 18, 3) := by decide +kernel
theorem dX10_leastRank_5 : decode cX10_leastRank 5 = .ok (.iconst 0, 1) := by decide +kernel
theorem dX10_leastRank_6 : decode cX10_leastRank 6 = .ok (.invokevirtual 199, 3) := by decide +kernel
theorem dX10_leastRank_9 : decode cX10_leastRank 9 = .ok (.istore_n 2, 1) := by decide +kernel
theorem dX10_leastRank_10 : decode cX10_leastRank 10 = .ok (.iload_n 2, 1) := by decide +kernel
theorem dX10_leastRank_11 : decode cX10_leastRank 11 = .ok (.aload_n 1, 1) := by decide +kernel
theorem dX10_leastRank_12 : decode cX10_leastRank 12 = .ok (.aload_n 0, 1) := by decide +kernel
theorem dX10_leastRank_13 : decode cX10_leastRank 13 = .ok (.getfield 18, 3) := by decide +kernel
theorem dX10_leastRank_16 : decode cX10_leastRank 16 = .ok (.iconst 0, 1) := by decide +kernel
theorem dX10_leastRank_17 : decode cX10_leastRank 17 = .ok (.invokevirtual 195, 3) := by decide +kernel
theorem dX10_leastRank_20 : decode cX10_leastRank 20 = .ok (.if_icmp .lt 14, 3) := by decide +kernel
theorem dX10_leastRank_23 : decode cX10_leastRank 23 = .ok (.new 97, 3) := by decide +kernel
theorem dX10_leastRank_26 : decode cX10_leastRank 26 = .ok (.dup, 1) := by decide +kernel
theorem dX10_leastRank_27 : decode cX10_leastRank 27 = .ok (.ldc_w 348, 3) := by decide +kernel
theorem dX10_leastRank_30 : decode cX10_leastRank 30 = .ok (.invokespecial 101, 3) := by decide +kernel
theorem dX10_leastRank_33 : decode cX10_leastRank 33 = .ok (.athrow, 1) := by decide +kernel
theorem dX10_leastRank_34 : decode cX10_leastRank 34 = .ok (.iload_n 2, 1) := by decide +kernel
theorem dX10_leastRank_35 : decode cX10_leastRank 35 = .ok (.ireturn, 1) := by decide +kernel
theorem dX10_freshText_0 : decode cX10_freshText 0 = .ok (.aload_n 0, 1) := by decide +kernel
theorem dX10_freshText_1 : decode cX10_freshText 1 = .ok (.getfield 235, 3) := by decide +kernel
theorem dX10_freshText_4 : decode cX10_freshText 4 = .ok (.bipush 8, 2) := by decide +kernel
theorem dX10_freshText_6 : decode cX10_freshText 6 = .ok (.if_icmp .lt 14, 3) := by decide +kernel
theorem dX10_freshText_9 : decode cX10_freshText 9 = .ok (.new 84, 3) := by decide +kernel
theorem dX10_freshText_12 : decode cX10_freshText 12 = .ok (.dup, 1) := by decide +kernel
theorem dX10_freshText_13 : decode cX10_freshText 13 = .ok (.ldc_w 350, 3) := by decide +kernel
theorem dX10_freshText_16 : decode cX10_freshText 16 = .ok (.invokespecial 88, 3) := by decide +kernel
theorem dX10_freshText_19 : decode cX10_freshText 19 = .ok (.athrow, 1) := by decide +kernel
theorem dX10_freshText_20 : decode cX10_freshText 20 = .ok (.aload_n 0, 1) := by decide +kernel
theorem dX10_freshText_21 : decode cX10_freshText 21 = .ok (.getfield 11, 3) := by decide +kernel
theorem dX10_freshText_24 : decode cX10_freshText 24 = .ok (.aload_n 0, 1) := by decide +kernel
theorem dX10_freshText_25 : decode cX10_freshText 25 = .ok (.getfield 235, 3) := by decide +kernel
theorem dX10_freshText_28 : decode cX10_freshText 28 = .ok (.aaload, 1) := by decide +kernel
theorem dX10_freshText_29 : decode cX10_freshText 29 = .ok (.areturn, 1) := by decide +kernel
theorem dX10_keep_0 : decode cX10_keep 0 = .ok (.aload_n 0, 1) := by decide +kernel
theorem dX10_keep_1 : decode cX10_keep 1 = .ok (.getfield 29, 3) := by decide +kernel
theorem dX10_keep_4 : decode cX10_keep 4 = .ok (.aload_n 1, 1) := by decide +kernel
theorem dX10_keep_5 : decode cX10_keep 5 = .ok (.invokevirtual 149, 3) := by decide +kernel
theorem dX10_keep_8 : decode cX10_keep 8 = .ok (.aload_n 0, 1) := by decide +kernel
theorem dX10_keep_9 : decode cX10_keep 9 = .ok (.dup, 1) := by decide +kernel
theorem dX10_keep_10 : decode cX10_keep 10 = .ok (.getfield 235, 3) := by decide +kernel
theorem dX10_keep_13 : decode cX10_keep 13 = .ok (.iconst 1, 1) := by decide +kernel
theorem dX10_keep_14 : decode cX10_keep 14 = .ok (.iadd, 1) := by decide +kernel
theorem dX10_keep_15 : decode cX10_keep 15 = .ok (.putfield 235, 3) := by decide +kernel
theorem dX10_keep_18 : decode cX10_keep 18 = .ok (.aload_n 0, 1) := by decide +kernel
theorem dX10_keep_19 : decode cX10_keep 19 = .ok (.getfield 235, 3) := by decide +kernel
theorem dX10_keep_22 : decode cX10_keep 22 = .ok (.iconst 1, 1) := by decide +kernel
theorem dX10_keep_23 : decode cX10_keep 23 = .ok (.isub, 1) := by decide +kernel
theorem dX10_keep_24 : decode cX10_keep 24 = .ok (.ireturn, 1) := by decide +kernel
theorem dL_cell_0 : decode cL_cell 0 = .ok (.sipush 12345, 3) := by decide +kernel
theorem dL_cell_3 : decode cL_cell 3 = .ok (.bipush 31, 2) := by decide +kernel
theorem dL_cell_5 : decode cL_cell 5 = .ok (.aload_n 0, 1) := by decide +kernel
theorem dL_cell_6 : decode cL_cell 6 = .ok (.arraylength, 1) := by decide +kernel
theorem dL_cell_7 : decode cL_cell 7 = .ok (.imul, 1) := by decide +kernel
theorem dL_cell_8 : decode cL_cell 8 = .ok (.iadd, 1) := by decide +kernel
theorem dL_cell_9 : decode cL_cell 9 = .ok (.istore_n 2, 1) := by decide +kernel
theorem dL_cell_10 : decode cL_cell 10 = .ok (.aload_n 0, 1) := by decide +kernel
theorem dL_cell_11 : decode cL_cell 11 = .ok (.astore_n 3, 1) := by decide +kernel
theorem dL_cell_12 : decode cL_cell 12 = .ok (.aload_n 3, 1) := by decide +kernel
theorem dL_cell_13 : decode cL_cell 13 = .ok (.arraylength, 1) := by decide +kernel
theorem dL_cell_14 : decode cL_cell 14 = .ok (.istore 4, 2) := by decide +kernel
theorem dL_cell_16 : decode cL_cell 16 = .ok (.iconst 0, 1) := by decide +kernel
theorem dL_cell_17 : decode cL_cell 17 = .ok (.istore 5, 2) := by decide +kernel
theorem dL_cell_19 : decode cL_cell 19 = .ok (.iload 5, 2) := by decide +kernel
theorem dL_cell_21 : decode cL_cell 21 = .ok (.iload 4, 2) := by decide +kernel
theorem dL_cell_23 : decode cL_cell 23 = .ok (.if_icmp .ge 26, 3) := by decide +kernel
theorem dL_cell_26 : decode cL_cell 26 = .ok (.aload_n 3, 1) := by decide +kernel
theorem dL_cell_27 : decode cL_cell 27 = .ok (.iload 5, 2) := by decide +kernel
theorem dL_cell_29 : decode cL_cell 29 = .ok (.iaload, 1) := by decide +kernel
theorem dL_cell_30 : decode cL_cell 30 = .ok (.istore 6, 2) := by decide +kernel
theorem dL_cell_32 : decode cL_cell 32 = .ok (.iload_n 2, 1) := by decide +kernel
theorem dL_cell_33 : decode cL_cell 33 = .ok (.iload 6, 2) := by decide +kernel
theorem dL_cell_35 : decode cL_cell 35 = .ok (.ixor, 1) := by decide +kernel
theorem dL_cell_36 : decode cL_cell 36 = .ok (.ldc 7, 2) := by decide +kernel
theorem dL_cell_38 : decode cL_cell 38 = .ok (.imul, 1) := by decide +kernel
theorem dL_cell_39 : decode cL_cell 39 = .ok (.bipush 7, 2) := by decide +kernel
theorem dL_cell_41 : decode cL_cell 41 = .ok (.iadd, 1) := by decide +kernel
theorem dL_cell_42 : decode cL_cell 42 = .ok (.istore_n 2, 1) := by decide +kernel
theorem dL_cell_43 : decode cL_cell 43 = .ok (.iinc 5 1, 3) := by decide +kernel
theorem dL_cell_46 : decode cL_cell 46 = .ok (.goto (-27), 3) := by decide +kernel
theorem dL_cell_49 : decode cL_cell 49 = .ok (.iload_n 2, 1) := by decide +kernel
theorem dL_cell_50 : decode cL_cell 50 = .ok (.bipush 7, 2) := by decide +kernel
theorem dL_cell_52 : decode cL_cell 52 = .ok (.iushr, 1) := by decide +kernel
end
section
theorem dL_cell_53 : decode cL_cell 53 = .ok (.iconst 3, 1) := by decide +kernel
theorem dL_cell_54 : decode cL_cell 54 = .ok (.iand, 1) := by decide +kernel
theorem dL_cell_55 : decode cL_cell 55 = .ok (.ifCond .ne 24, 3) := by decide +kernel
theorem dL_cell_58 : decode cL_cell 58 = .ok (.iload_n 1, 1) := by decide +kernel
theorem dL_cell_59 : decode cL_cell 59 = .ok (.aload_n 0, 1) := by decide +kernel
theorem dL_cell_60 : decode cL_cell 60 = .ok (.arraylength, 1) := by decide +kernel
theorem dL_cell_61 : decode cL_cell 61 = .ok (.if_icmp .ge 9, 3) := by decide +kernel
theorem dL_cell_64 : decode cL_cell 64 = .ok (.aload_n 0, 1) := by decide +kernel
theorem dL_cell_65 : decode cL_cell 65 = .ok (.iload_n 1, 1) := by decide +kernel
theorem dL_cell_66 : decode cL_cell 66 = .ok (.iaload, 1) := by decide +kernel
theorem dL_cell_67 : decode cL_cell 67 = .ok (.goto 11, 3) := by decide +kernel
theorem dL_cell_70 : decode cL_cell 70 = .ok (.sipush 7919, 3) := by decide +kernel
theorem dL_cell_73 : decode cL_cell 73 = .ok (.iload_n 1, 1) := by decide +kernel
theorem dL_cell_74 : decode cL_cell 74 = .ok (.imul, 1) := by decide +kernel
theorem dL_cell_75 : decode cL_cell 75 = .ok (.bipush 12, 2) := by decide +kernel
theorem dL_cell_77 : decode cL_cell 77 = .ok (.iadd, 1) := by decide +kernel
theorem dL_cell_78 : decode cL_cell 78 = .ok (.ireturn, 1) := by decide +kernel
theorem dL_cell_79 : decode cL_cell 79 = .ok (.iload_n 2, 1) := by decide +kernel
theorem dL_cell_80 : decode cL_cell 80 = .ok (.ldc 8, 2) := by decide +kernel
theorem dL_cell_82 : decode cL_cell 82 = .ok (.iload_n 1, 1) := by decide +kernel
theorem dL_cell_83 : decode cL_cell 83 = .ok (.sipush 1009, 3) := by decide +kernel
theorem dL_cell_86 : decode cL_cell 86 = .ok (.iadd, 1) := by decide +kernel
theorem dL_cell_87 : decode cL_cell 87 = .ok (.imul, 1) := by decide +kernel
theorem dL_cell_88 : decode cL_cell 88 = .ok (.ixor, 1) := by decide +kernel
theorem dL_cell_89 : decode cL_cell 89 = .ok (.istore_n 3, 1) := by decide +kernel
theorem dL_cell_90 : decode cL_cell 90 = .ok (.iload_n 3, 1) := by decide +kernel
theorem dL_cell_91 : decode cL_cell 91 = .ok (.iload_n 3, 1) := by decide +kernel
theorem dL_cell_92 : decode cL_cell 92 = .ok (.bipush 13, 2) := by decide +kernel
theorem dL_cell_94 : decode cL_cell 94 = .ok (.iushr, 1) := by decide +kernel
theorem dL_cell_95 : decode cL_cell 95 = .ok (.ixor, 1) := by decide +kernel
theorem dL_cell_96 : decode cL_cell 96 = .ok (.ldc 9, 2) := by decide +kernel
theorem dL_cell_98 : decode cL_cell 98 = .ok (.imul, 1) := by decide +kernel
theorem dL_cell_99 : decode cL_cell 99 = .ok (.istore_n 3, 1) := by decide +kernel
theorem dL_cell_100 : decode cL_cell 100 = .ok (.iload_n 3, 1) := by decide +kernel
theorem dL_cell_101 : decode cL_cell 101 = .ok (.iload_n 3, 1) := by decide +kernel
theorem dL_cell_102 : decode cL_cell 102 = .ok (.bipush 16, 2) := by decide +kernel
theorem dL_cell_104 : decode cL_cell 104 = .ok (.iushr, 1) := by decide +kernel
theorem dL_cell_105 : decode cL_cell 105 = .ok (.ixor, 1) := by decide +kernel
theorem dL_cell_106 : decode cL_cell 106 = .ok (.ireturn, 1) := by decide +kernel
theorem dL_chosen_0 : decode cL_chosen 0 = .ok (.iload_n 0, 1) := by decide +kernel
theorem dL_chosen_1 : decode cL_chosen 1 = .ok (.ldc 10, 2) := by decide +kernel
theorem dL_chosen_3 : decode cL_chosen 3 = .ok (.iand, 1) := by decide +kernel
theorem dL_chosen_4 : decode cL_chosen 4 = .ok (.iload_n 1, 1) := by decide +kernel
theorem dL_chosen_5 : decode cL_chosen 5 = .ok (.irem, 1) := by decide +kernel
theorem dL_chosen_6 : decode cL_chosen 6 = .ok (.ireturn, 1) := by decide +kernel
theorem dL_type_0 : decode cL_type 0 = .ok (.aload_n 0, 1) := by decide +kernel
theorem dL_type_1 : decode cL_type 1 = .ok (.iload_n 1, 1) := by decide +kernel
theorem dL_type_2 : decode cL_type 2 = .ok (.invokevirtual 11, 3) := by decide +kernel
theorem dL_type_5 : decode cL_type 5 = .ok (.i2l, 1) := by decide +kernel
theorem dL_type_6 : decode cL_type 6 = .ok (.lreturn, 1) := by decide +kernel
theorem dL_type_7 : decode cL_type 7 = .ok (.astore_n 2, 1) := by decide +kernel
theorem dL_type_8 : decode cL_type 8 = .ok (.ldc2_w 21, 3) := by decide +kernel
theorem dL_type_11 : decode cL_type 11 = .ok (.lreturn, 1) := by decide +kernel
theorem dL_type_12 : decode cL_type 12 = .ok (.astore_n 2, 1) := by decide +kernel
theorem dL_type_13 : decode cL_type 13 = .ok (.ldc2_w 25, 3) := by decide +kernel
theorem dL_type_16 : decode cL_type 16 = .ok (.lreturn, 1) := by decide +kernel
theorem dL_wipe_0 : decode cL_wipe 0 = .ok (.aload_n 0, 1) := by decide +kernel
theorem dL_wipe_1 : decode cL_wipe 1 = .ok (.invokevirtual 27, 3) := by decide +kernel
theorem dL_wipe_4 : decode cL_wipe 4 = .ok (.i2l, 1) := by decide +kernel
theorem dL_wipe_5 : decode cL_wipe 5 = .ok (.lreturn, 1) := by decide +kernel
theorem dL_typed_0 : decode cL_typed 0 = .ok (.aload_n 0, 1) := by decide +kernel
theorem dL_typed_1 : decode cL_typed 1 = .ok (.iload_n 1, 1) := by decide +kernel
theorem dL_typed_2 : decode cL_typed 2 = .ok (.invokevirtual 31, 3) := by decide +kernel
theorem dL_typed_5 : decode cL_typed 5 = .ok (.i2l, 1) := by decide +kernel
theorem dL_typed_6 : decode cL_typed 6 = .ok (.lreturn, 1) := by decide +kernel
theorem dL_typed_7 : decode cL_typed 7 = .ok (.astore_n 2, 1) := by decide +kernel
theorem dL_typed_8 : decode cL_typed 8 = .ok (.ldc2_w 21, 3) := by decide +kernel
theorem dL_typed_11 : decode cL_typed 11 = .ok (.lreturn, 1) := by decide +kernel
theorem dL_text_0 : decode cL_text 0 = .ok (.aload_n 0, 1) := by decide +kernel
theorem dL_text_1 : decode cL_text 1 = .ok (.invokevirtual 37, 3) := by decide +kernel
theorem dL_text_4 : decode cL_text 4 = .ok (.i2l, 1) := by decide +kernel
theorem dL_text_5 : decode cL_text 5 = .ok (.lreturn, 1) := by decide +kernel
theorem dL_text_6 : decode cL_text 6 = .ok (.astore_n 1, 1) := by decide +kernel
theorem dL_text_7 : decode cL_text 7 = .ok (.ldc2_w 21, 3) := by decide +kernel
theorem dL_text_10 : decode cL_text 10 = .ok (.lreturn, 1) := by decide +kernel
theorem dL_text_11 : decode cL_text 11 = .ok (.astore_n 1, 1) := by decide +kernel
theorem dL_text_12 : decode cL_text 12 = .ok (.ldc2_w 25, 3) := by decide +kernel
theorem dL_text_15 : decode cL_text 15 = .ok (.lreturn, 1) := by decide +kernel
theorem dL_length_0 : decode cL_length 0 = .ok (.aload_n 0, 1) := by decide +kernel
theorem dL_length_1 : decode cL_length 1 = .ok (.iload_n 1, 1) := by decide +kernel
theorem dL_length_2 : decode cL_length 2 = .ok (.invokevirtual 42, 3) := by decide +kernel
theorem dL_length_5 : decode cL_length 5 = .ok (.i2l, 1) := by decide +kernel
theorem dL_length_6 : decode cL_length 6 = .ok (.lreturn, 1) := by decide +kernel
theorem dL_length_7 : decode cL_length 7 = .ok (.astore_n 2, 1) := by decide +kernel
theorem dL_length_8 : decode cL_length 8 = .ok (.ldc2_w 21, 3) := by decide +kernel
theorem dL_length_11 : decode cL_length 11 = .ok (.lreturn, 1) := by decide +kernel
theorem dL_signAt_0 : decode cL_signAt 0 = .ok (.aload_n 0, 1) := by decide +kernel
theorem dL_signAt_1 : decode cL_signAt 1 = .ok (.iload_n 1, 1) := by decide +kernel
theorem dL_signAt_2 : decode cL_signAt 2 = .ok (.iload_n 2, 1) := by decide +kernel
theorem dL_signAt_3 : decode cL_signAt 3 = .ok (.invokevirtual 48, 3) := by decide +kernel
theorem dL_signAt_6 : decode cL_signAt 6 = .ok (.i2l, 1) := by decide +kernel
theorem dL_signAt_7 : decode cL_signAt 7 = .ok (.lreturn, 1) := by decide +kernel
theorem dL_signAt_8 : decode cL_signAt 8 = .ok (.astore_n 3, 1) := by decide +kernel
theorem dL_signAt_9 : decode cL_signAt 9 = .ok (.ldc2_w 21, 3) := by decide +kernel
theorem dL_signAt_12 : decode cL_signAt 12 = .ok (.lreturn, 1) := by decide +kernel
theorem dL_mirror_0 : decode cL_mirror 0 = .ok (.aload_n 0, 1) := by decide +kernel
theorem dL_mirror_1 : decode cL_mirror 1 = .ok (.iload_n 1, 1) := by decide +kernel
theorem dL_mirror_2 : decode cL_mirror 2 = .ok (.invokevirtual 52, 3) := by decide +kernel
theorem dL_mirror_5 : decode cL_mirror 5 = .ok (.i2l, 1) := by decide +kernel
theorem dL_mirror_6 : decode cL_mirror 6 = .ok (.lreturn, 1) := by decide +kernel
theorem dL_mirror_7 : decode cL_mirror 7 = .ok (.astore_n 2, 1) := by decide +kernel
theorem dL_mirror_8 : decode cL_mirror 8 = .ok (.ldc2_w 21, 3) := by decide +kernel
theorem dL_mirror_11 : decode cL_mirror 11 = .ok (.lreturn, 1) := by decide +kernel
theorem dL_mirror_12 : decode cL_mirror 12 = .ok (.astore_n 2, 1) := by decide +kernel
theorem dL_mirror_13 : decode cL_mirror 13 = .ok (.ldc2_w 25, 3) := by decide +kernel
theorem dL_mirror_16 : decode cL_mirror 16 = .ok (.lreturn, 1) := by decide +kernel
theorem dL_ahead_0 : decode cL_ahead 0 = .ok (.aload_n 0, 1) := by decide +kernel
theorem dL_ahead_1 : decode cL_ahead 1 = .ok (.iload_n 1, 1) := by decide +kernel
theorem dL_ahead_2 : decode cL_ahead 2 = .ok (.iload_n 2, 1) := by decide +kernel
theorem dL_ahead_3 : decode cL_ahead 3 = .ok (.invokevirtual 55, 3) := by decide +kernel
theorem dL_ahead_6 : decode cL_ahead 6 = .ok (.i2l, 1) := by decide +kernel
theorem dL_ahead_7 : decode cL_ahead 7 = .ok (.lreturn, 1) := by decide +kernel
theorem dL_ahead_8 : decode cL_ahead 8 = .ok (.astore_n 3, 1) := by decide +kernel
theorem dL_ahead_9 : decode cL_ahead 9 = .ok (.ldc2_w 21, 3) := by decide +kernel
theorem dL_ahead_12 : decode cL_ahead 12 = .ok (.lreturn, 1) := by decide +kernel
theorem dL_ahead_13 : decode cL_ahead 13 = .ok (.astore_n 3, 1) := by decide +kernel
theorem dL_ahead_14 : decode cL_ahead 14 = .ok (.ldc2_w 25, 3) := by decide +kernel
theorem dL_ahead_17 : decode cL_ahead 17 = .ok (.lreturn, 1) := by decide +kernel
theorem dL_ahead_18 : decode cL_ahead 18 = .ok (.astore_n 3, 1) := by decide +kernel
theorem dL_ahead_19 : decode cL_ahead 19 = .ok (.ldc2_w 59, 3) := by decide +kernel
theorem dL_ahead_22 : decode cL_ahead 22 = .ok (.lreturn, 1) := by decide +kernel
theorem dL_chop_0 : decode cL_chop 0 = .ok (.aload_n 0, 1) := by decide +kernel
theorem dL_chop_1 : decode cL_chop 1 = .ok (.iload_n 1, 1) := by decide +kernel
theorem dL_chop_2 : decode cL_chop 2 = .ok (.invokevirtual 61, 3) := by decide +kernel
theorem dL_chop_5 : decode cL_chop 5 = .ok (.i2l, 1) := by decide +kernel
theorem dL_chop_6 : decode cL_chop 6 = .ok (.lreturn, 1) := by decide +kernel
theorem dL_chop_7 : decode cL_chop 7 = .ok (.astore_n 2, 1) := by decide +kernel
theorem dL_chop_8 : decode cL_chop 8 = .ok (.ldc2_w 21, 3) := by decide +kernel
theorem dL_chop_11 : decode cL_chop 11 = .ok (.lreturn, 1) := by decide +kernel
theorem dL_chop_12 : decode cL_chop 12 = .ok (.astore_n 2, 1) := by decide +kernel
theorem dL_chop_13 : decode cL_chop 13 = .ok (.ldc2_w 25, 3) := by decide +kernel
theorem dL_chop_16 : decode cL_chop 16 = .ok (.lreturn, 1) := by decide +kernel
theorem dL_endAt_0 : decode cL_endAt 0 = .ok (.aload_n 0, 1) := by decide +kernel
theorem dL_endAt_1 : decode cL_endAt 1 = .ok (.iload_n 1, 1) := by decide +kernel
theorem dL_endAt_2 : decode cL_endAt 2 = .ok (.iload_n 2, 1) := by decide +kernel
theorem dL_endAt_3 : decode cL_endAt 3 = .ok (.invokevirtual 64, 3) := by decide +kernel
theorem dL_endAt_6 : decode cL_endAt 6 = .ok (.i2l, 1) := by decide +kernel
theorem dL_endAt_7 : decode cL_endAt 7 = .ok (.lreturn, 1) := by decide +kernel
theorem dL_endAt_8 : decode cL_endAt 8 = .ok (.astore_n 3, 1) := by decide +kernel
theorem dL_endAt_9 : decode cL_endAt 9 = .ok (.ldc2_w 21, 3) := by decide +kernel
theorem dL_endAt_12 : decode cL_endAt 12 = .ok (.lreturn, 1) := by decide +kernel
theorem dL_rankOf_0 : decode cL_rankOf 0 = .ok (.aload_n 0, 1) := by decide +kernel
theorem dL_rankOf_1 : decode cL_rankOf 1 = .ok (.iload_n 1, 1) := by decide +kernel
theorem dL_rankOf_2 : decode cL_rankOf 2 = .ok (.iload_n 2, 1) := by decide +kernel
theorem dL_rankOf_3 : decode cL_rankOf 3 = .ok (.invokevirtual 68, 3) := by decide +kernel
theorem dL_rankOf_6 : decode cL_rankOf 6 = .ok (.i2l, 1) := by decide +kernel
theorem dL_rankOf_7 : decode cL_rankOf 7 = .ok (.lreturn, 1) := by decide +kernel
theorem dL_rankOf_8 : decode cL_rankOf 8 = .ok (.astore_n 3, 1) := by decide +kernel
theorem dL_rankOf_9 : decode cL_rankOf 9 = .ok (.ldc2_w 21, 3) := by decide +kernel
theorem dL_rankOf_12 : decode cL_rankOf 12 = .ok (.lreturn, 1) := by decide +kernel
theorem dL_classes_0 : decode cL_classes 0 = .ok (.aload_n 0, 1) := by decide +kernel
theorem dL_classes_1 : decode cL_classes 1 = .ok (.iload_n 1, 1) := by decide +kernel
theorem dL_classes_2 : decode cL_classes 2 = .ok (.iload_n 2, 1) := by decide +kernel
theorem dL_classes_3 : decode cL_classes 3 = .ok (.invokevirtual 71, 3) := by decide +kernel
theorem dL_classes_6 : decode cL_classes 6 = .ok (.i2l, 1) := by decide +kernel
theorem dL_classes_7 : decode cL_classes 7 = .ok (.lreturn, 1) := by decide +kernel
theorem dL_classes_8 : decode cL_classes 8 = .ok (.astore_n 3, 1) := by decide +kernel
theorem dL_classes_9 : decode cL_classes 9 = .ok (.ldc2_w 21, 3) := by decide +kernel
theorem dL_classes_12 : decode cL_classes 12 = .ok (.lreturn, 1) := by decide +kernel
theorem dL_classes_13 : decode cL_classes 13 = .ok (.astore_n 3, 1) := by decide +kernel
theorem dL_classes_14 : decode cL_classes 14 = .ok (.ldc2_w 25, 3) := by decide +kernel
theorem dL_classes_17 : decode cL_classes 17 = .ok (.lreturn, 1) := by decide +kernel
theorem dL_rounds_0 : decode cL_rounds 0 = .ok (.aload_n 0, 1) := by decide +kernel
theorem dL_rounds_1 : decode cL_rounds 1 = .ok (.iload_n 1, 1) := by decide +kernel
theorem dL_rounds_2 : decode cL_rounds 2 = .ok (.invokevirtual 74, 3) := by decide +kernel
theorem dL_rounds_5 : decode cL_rounds 5 = .ok (.i2l, 1) := by decide +kernel
theorem dL_rounds_6 : decode cL_rounds 6 = .ok (.lreturn, 1) := by decide +kernel
theorem dL_rounds_7 : decode cL_rounds 7 = .ok (.astore_n 2, 1) := by decide +kernel
theorem dL_rounds_8 : decode cL_rounds 8 = .ok (.ldc2_w 21, 3) := by decide +kernel
theorem dL_rounds_11 : decode cL_rounds 11 = .ok (.lreturn, 1) := by decide +kernel
theorem dL_common_0 : decode cL_common 0 = .ok (.aload_n 0, 1) := by decide +kernel
theorem dL_common_1 : decode cL_common 1 = .ok (.iload_n 1, 1) := by decide +kernel
theorem dL_common_2 : decode cL_common 2 = .ok (.iload_n 2, 1) := by decide +kernel
theorem dL_common_3 : decode cL_common 3 = .ok (.invokevirtual 77, 3) := by decide +kernel
theorem dL_common_6 : decode cL_common 6 = .ok (.i2l, 1) := by decide +kernel
theorem dL_common_7 : decode cL_common 7 = .ok (.lreturn, 1) := by decide +kernel
theorem dL_common_8 : decode cL_common 8 = .ok (.astore_n 3, 1) := by decide +kernel
theorem dL_common_9 : decode cL_common 9 = .ok (.ldc2_w 21, 3) := by decide +kernel
theorem dL_common_12 : decode cL_common 12 = .ok (.lreturn, 1) := by decide +kernel
theorem dL_shared_0 : decode cL_shared 0 = .ok (.aload_n 0, 1) := by decide +kernel
theorem dL_shared_1 : decode cL_shared 1 = .ok (.iload_n 1, 1) := by decide +kernel
theorem dL_shared_2 : decode cL_shared 2 = .ok (.iload_n 2, 1) := by decide +kernel
theorem dL_shared_3 : decode cL_shared 3 = .ok (.iload_n 3, 1) := by decide +kernel
theorem dL_shared_4 : decode cL_shared 4 = .ok (.iload 4, 2) := by decide +kernel
theorem dL_shared_6 : decode cL_shared 6 = .ok (.invokevirtual 80, 3) := by decide +kernel
theorem dL_shared_9 : decode cL_shared 9 = .ok (.i2l, 1) := by decide +kernel
theorem dL_shared_10 : decode cL_shared 10 = .ok (.lreturn, 1) := by decide +kernel
theorem dL_shared_11 : decode cL_shared 11 = .ok (.astore 5, 2) := by decide +kernel
theorem dL_shared_13 : decode cL_shared 13 = .ok (.ldc2_w 21, 3) := by decide +kernel
theorem dL_shared_16 : decode cL_shared 16 = .ok (.lreturn, 1) := by decide +kernel
theorem dL_count_0 : decode cL_count 0 = .ok (.aload_n 0, 1) := by decide +kernel
theorem dL_count_1 : decode cL_count 1 = .ok (.iload_n 1, 1) := by decide +kernel
theorem dL_count_2 : decode cL_count 2 = .ok (.invokevirtual 84, 3) := by decide +kernel
theorem dL_count_5 : decode cL_count 5 = .ok (.i2l, 1) := by decide +kernel
theorem dL_count_6 : decode cL_count 6 = .ok (.lreturn, 1) := by decide +kernel
theorem dL_count_7 : decode cL_count 7 = .ok (.astore_n 2, 1) := by decide +kernel
theorem dL_count_8 : decode cL_count 8 = .ok (.ldc2_w 21, 3) := by decide +kernel
theorem dL_count_11 : decode cL_count 11 = .ok (.lreturn, 1) := by decide +kernel
theorem dL_count_12 : decode cL_count 12 = .ok (.astore_n 2, 1) := by decide +kernel
theorem dL_count_13 : decode cL_count 13 = .ok (.ldc2_w 25, 3) := by decide +kernel
theorem dL_count_16 : decode cL_count 16 = .ok (.lreturn, 1) := by decide +kernel
theorem dL_runFrom_0 : decode cL_runFrom 0 = .ok (.aload_n 0, 1) := by decide +kernel
theorem dL_runFrom_1 : decode cL_runFrom 1 = .ok (.iload_n 1, 1) := by decide +kernel
theorem dL_runFrom_2 : decode cL_runFrom 2 = .ok (.invokevirtual 87, 3) := by decide +kernel
theorem dL_runFrom_5 : decode cL_runFrom 5 = .ok (.i2l, 1) := by decide +kernel
theorem dL_runFrom_6 : decode cL_runFrom 6 = .ok (.lreturn, 1) := by decide +kernel
theorem dL_runFrom_7 : decode cL_runFrom 7 = .ok (.astore_n 2, 1) := by decide +kernel
theorem dL_runFrom_8 : decode cL_runFrom 8 = .ok (.ldc2_w 21, 3) := by decide +kernel
theorem dL_runFrom_11 : decode cL_runFrom 11 = .ok (.lreturn, 1) := by decide +kernel
theorem dL_runFrom_12 : decode cL_runFrom 12 = .ok (.astore_n 2, 1) := by decide +kernel
theorem dL_runFrom_13 : decode cL_runFrom 13 = .ok (.ldc2_w 25, 3) := by decide +kernel
theorem dL_runFrom_16 : decode cL_runFrom 16 = .ok (.lreturn, 1) := by decide +kernel
theorem dL_runFrom_17 : decode cL_runFrom 17 = .ok (.astore_n 2, 1) := by decide +kernel
theorem dL_runFrom_18 : decode cL_runFrom 18 = .ok (.ldc2_w 59, 3) := by decide +kernel
theorem dL_runFrom_21 : decode cL_runFrom 21 = .ok (.lreturn, 1) := by decide +kernel
theorem dL_standsAt_0 : decode cL_standsAt 0 = .ok (.aload_n 0, 1) := by decide +kernel
theorem dL_standsAt_1 : decode cL_standsAt 1 = .ok (.iload_n 1, 1) := by decide +kernel
theorem dL_standsAt_2 : decode cL_standsAt 2 = .ok (.iload_n 2, 1) := by decide +kernel
theorem dL_standsAt_3 : decode cL_standsAt 3 = .ok (.invokevirtual 90, 3) := by decide +kernel
theorem dL_standsAt_6 : decode cL_standsAt 6 = .ok (.i2l, 1) := by decide +kernel
theorem dL_standsAt_7 : decode cL_standsAt 7 = .ok (.lreturn, 1) := by decide +kernel
theorem dL_standsAt_8 : decode cL_standsAt 8 = .ok (.astore_n 3, 1) := by decide +kernel
theorem dL_standsAt_9 : decode cL_standsAt 9 = .ok (.ldc2_w 21, 3) := by decide +kernel
theorem dL_standsAt_12 : decode cL_standsAt 12 = .ok (.lreturn, 1) := by decide +kernel
theorem dL_standsAt_13 : decode cL_standsAt 13 = .ok (.astore_n 3, 1) := by decide +kernel
theorem dL_standsAt_14 : decode cL_standsAt 14 = .ok (.ldc2_w 25, 3) := by decide +kernel
theorem dL_standsAt_17 : decode cL_standsAt 17 = .ok (.lreturn, 1) := by decide +kernel
theorem dL_standsAt_18 : decode cL_standsAt 18 = .ok (.astore_n 3, 1) := by decide +kernel
theorem dL_standsAt_19 : decode cL_standsAt 19 = .ok (.ldc2_w 59, 3) := by decide +kernel
theorem dL_standsAt_22 : decode cL_standsAt 22 = .ok (.lreturn, 1) := by decide +kernel
theorem dL_tail_0 : decode cL_tail 0 = .ok (.aload_n 0, 1) := by decide +kernel
theorem dL_tail_1 : decode cL_tail 1 = .ok (.iload_n 1, 1) := by decide +kernel
theorem dL_tail_2 : decode cL_tail 2 = .ok (.iload_n 2, 1) := by decide +kernel
theorem dL_tail_3 : decode cL_tail 3 = .ok (.invokevirtual 93, 3) := by decide +kernel
theorem dL_tail_6 : decode cL_tail 6 = .ok (.i2l, 1) := by decide +kernel
theorem dL_tail_7 : decode cL_tail 7 = .ok (.lreturn, 1) := by decide +kernel
theorem dL_tail_8 : decode cL_tail 8 = .ok (.astore_n 3, 1) := by decide +kernel
theorem dL_tail_9 : decode cL_tail 9 = .ok (.ldc2_w 21, 3) := by decide +kernel
theorem dL_tail_12 : decode cL_tail 12 = .ok (.lreturn, 1) := by decide +kernel
theorem dL_tail_13 : decode cL_tail 13 = .ok (.astore_n 3, 1) := by decide +kernel
theorem dL_tail_14 : decode cL_tail 14 = .ok (.ldc2_w 25, 3) := by decide +kernel
theorem dL_tail_17 : decode cL_tail 17 = .ok (.lreturn, 1) := by decide +kernel
theorem dL_tail_18 : decode cL_tail 18 = .ok (.astore_n 3, 1) := by decide +kernel
theorem dL_tail_19 : decode cL_tail 19 = .ok (.ldc2_w 59, 3) := by decide +kernel
theorem dL_tail_22 : decode cL_tail 22 = .ok (.lreturn, 1) := by decide +kernel
theorem dL_words_0 : decode cL_words 0 = .ok (.aload_n 0, 1) := by decide +kernel
theorem dL_words_1 : decode cL_words 1 = .ok (.iload_n 1, 1) := by decide +kernel
theorem dL_words_2 : decode cL_words 2 = .ok (.invokevirtual 96, 3) := by decide +kernel
theorem dL_words_5 : decode cL_words 5 = .ok (.lreturn, 1) := by decide +kernel
theorem dL_words_6 : decode cL_words 6 = .ok (.astore_n 2, 1) := by decide +kernel
theorem dL_words_7 : decode cL_words 7 = .ok (.ldc2_w 21, 3) := by decide +kernel
theorem dL_words_10 : decode cL_words 10 = .ok (.lreturn, 1) := by decide +kernel
theorem dL_word_0 : decode cL_word 0 = .ok (.aload_n 0, 1) := by decide +kernel
theorem dL_word_1 : decode cL_word 1 = .ok (.iload_n 1, 1) := by decide +kernel
theorem dL_word_2 : decode cL_word 2 = .ok (.iload_n 2, 1) := by decide +kernel
theorem dL_word_3 : decode cL_word 3 = .ok (.invokevirtual 100, 3) := by decide +kernel
theorem dL_word_6 : decode cL_word 6 = .ok (.i2l, 1) := by decide +kernel
theorem dL_word_7 : decode cL_word 7 = .ok (.lreturn, 1) := by decide +kernel
theorem dL_word_8 : decode cL_word 8 = .ok (.astore_n 3, 1) := by decide +kernel
theorem dL_word_9 : decode cL_word 9 = .ok (.ldc2_w 21, 3) := by decide +kernel
theorem dL_word_12 : decode cL_word 12 = .ok (.lreturn, 1) := by decide +kernel
theorem dL_word_13 : decode cL_word 13 = .ok (.astore_n 3, 1) := by decide +kernel
theorem dL_word_14 : decode cL_word 14 = .ok (.ldc2_w 25, 3) := by decide +kernel
theorem dL_word_17 : decode cL_word 17 = .ok (.lreturn, 1) := by decide +kernel
theorem dL_numberOf_0 : decode cL_numberOf 0 = .ok (.aload_n 0, 1) := by decide +kernel
theorem dL_numberOf_1 : decode cL_numberOf 1 = .ok (.iload_n 1, 1) := by decide +kernel
theorem dL_numberOf_2 : decode cL_numberOf 2 = .ok (.invokevirtual 103, 3) := by decide +kernel
theorem dL_numberOf_5 : decode cL_numberOf 5 = .ok (.i2l, 1) := by decide +kernel
theorem dL_numberOf_6 : decode cL_numberOf 6 = .ok (.lreturn, 1) := by decide +kernel
theorem dL_numberOf_7 : decode cL_numberOf 7 = .ok (.astore_n 2, 1) := by decide +kernel
theorem dL_numberOf_8 : decode cL_numberOf 8 = .ok (.ldc2_w 21, 3) := by decide +kernel
theorem dL_numberOf_11 : decode cL_numberOf 11 = .ok (.lreturn, 1) := by decide +kernel
theorem dL_numberOf_12 : decode cL_numberOf 12 = .ok (.astore_n 2, 1) := by decide +kernel
theorem dL_numberOf_13 : decode cL_numberOf 13 = .ok (.ldc2_w 25, 3) := by decide +kernel
theorem dL_numberOf_16 : decode cL_numberOf 16 = .ok (.lreturn, 1) := by decide +kernel
theorem dL_numberOf_17 : decode cL_numberOf 17 = .ok (.astore_n 2, 1) := by decide +kernel
theorem dL_numberOf_18 : decode cL_numberOf 18 = .ok (.ldc2_w 59, 3) := by decide +kernel
theorem dL_numberOf_21 : decode cL_numberOf 21 = .ok (.lreturn, 1) := by decide +kernel
theorem dL_twice_0 : decode cL_twice 0 = .ok (.aload_n 0, 1) := by decide +kernel
theorem dL_twice_1 : decode cL_twice 1 = .ok (.iload_n 1, 1) := by decide +kernel
theorem dL_twice_2 : decode cL_twice 2 = .ok (.invokevirtual 106, 3) := by decide +kernel
theorem dL_twice_5 : decode cL_twice 5 = .ok (.i2l, 1) := by decide +kernel
theorem dL_twice_6 : decode cL_twice 6 = .ok (.lreturn, 1) := by decide +kernel
theorem dL_twice_7 : decode cL_twice 7 = .ok (.astore_n 2, 1) := by decide +kernel
theorem dL_twice_8 : decode cL_twice 8 = .ok (.ldc2_w 21, 3) := by decide +kernel
theorem dL_twice_11 : decode cL_twice 11 = .ok (.lreturn, 1) := by decide +kernel
theorem dL_twiceAt_0 : decode cL_twiceAt 0 = .ok (.aload_n 0, 1) := by decide +kernel
theorem dL_twiceAt_1 : decode cL_twiceAt 1 = .ok (.iload_n 1, 1) := by decide +kernel
theorem dL_twiceAt_2 : decode cL_twiceAt 2 = .ok (.invokevirtual 109, 3) := by decide +kernel
theorem dL_twiceAt_5 : decode cL_twiceAt 5 = .ok (.i2l, 1) := by decide +kernel
theorem dL_twiceAt_6 : decode cL_twiceAt 6 = .ok (.lreturn, 1) := by decide +kernel
theorem dL_twiceAt_7 : decode cL_twiceAt 7 = .ok (.astore_n 2, 1) := by decide +kernel
theorem dL_twiceAt_8 : decode cL_twiceAt 8 = .ok (.ldc2_w 21, 3) := by decide +kernel
theorem dL_twiceAt_11 : decode cL_twiceAt 11 = .ok (.lreturn, 1) := by decide +kernel
theorem dL_twiceAt_12 : decode cL_twiceAt 12 = .ok (.astore_n 2, 1) := by decide +kernel
theorem dL_twiceAt_13 : decode cL_twiceAt 13 = .ok (.ldc2_w 25, 3) := by decide +kernel
theorem dL_twiceAt_16 : decode cL_twiceAt 16 = .ok (.lreturn, 1) := by decide +kernel
theorem dL_first_0 : decode cL_first 0 = .ok (.aload_n 0, 1) := by decide +kernel
theorem dL_first_1 : decode cL_first 1 = .ok (.iload_n 1, 1) := by decide +kernel
theorem dL_first_2 : decode cL_first 2 = .ok (.iload_n 2, 1) := by decide +kernel
theorem dL_first_3 : decode cL_first 3 = .ok (.invokevirtual 112, 3) := by decide +kernel
theorem dL_first_6 : decode cL_first 6 = .ok (.i2l, 1) := by decide +kernel
theorem dL_first_7 : decode cL_first 7 = .ok (.lreturn, 1) := by decide +kernel
theorem dL_first_8 : decode cL_first 8 = .ok (.astore_n 3, 1) := by decide +kernel
theorem dL_first_9 : decode cL_first 9 = .ok (.ldc2_w 21, 3) := by decide +kernel
theorem dL_first_12 : decode cL_first 12 = .ok (.lreturn, 1) := by decide +kernel
theorem dL_last_0 : decode cL_last 0 = .ok (.aload_n 0, 1) := by decide +kernel
theorem dL_last_1 : decode cL_last 1 = .ok (.iload_n 1, 1) := by decide +kernel
theorem dL_last_2 : decode cL_last 2 = .ok (.iload_n 2, 1) := by decide +kernel
theorem dL_last_3 : decode cL_last 3 = .ok (.invokevirtual 115, 3) := by decide +kernel
theorem dL_last_6 : decode cL_last 6 = .ok (.i2l, 1) := by decide +kernel
theorem dL_last_7 : decode cL_last 7 = .ok (.lreturn, 1) := by decide +kernel
theorem dL_last_8 : decode cL_last 8 = .ok (.astore_n 3, 1) := by decide +kernel
theorem dL_last_9 : decode cL_last 9 = .ok (.ldc2_w 21, 3) := by decide +kernel
theorem dL_last_12 : decode cL_last 12 = .ok (.lreturn, 1) := by decide +kernel
theorem dL_back_0 : decode cL_back 0 = .ok (.aload_n 0, 1) := by decide +kernel
theorem dL_back_1 : decode cL_back 1 = .ok (.iload_n 1, 1) := by decide +kernel
theorem dL_back_2 : decode cL_back 2 = .ok (.iload_n 2, 1) := by decide +kernel
theorem dL_back_3 : decode cL_back 3 = .ok (.invokevirtual 118, 3) := by decide +kernel
theorem dL_back_6 : decode cL_back 6 = .ok (.i2l, 1) := by decide +kernel
theorem dL_back_7 : decode cL_back 7 = .ok (.lreturn, 1) := by decide +kernel
theorem dL_back_8 : decode cL_back 8 = .ok (.astore_n 3, 1) := by decide +kernel
theorem dL_back_9 : decode cL_back 9 = .ok (.ldc2_w 21, 3) := by decide +kernel
theorem dL_back_12 : decode cL_back 12 = .ok (.lreturn, 1) := by decide +kernel
theorem dL_column_0 : decode cL_column 0 = .ok (.aload_n 0, 1) := by decide +kernel
theorem dL_column_1 : decode cL_column 1 = .ok (.iload_n 1, 1) := by decide +kernel
theorem dL_column_2 : decode cL_column 2 = .ok (.invokevirtual 121, 3) := by decide +kernel
theorem dL_column_5 : decode cL_column 5 = .ok (.i2l, 1) := by decide +kernel
theorem dL_column_6 : decode cL_column 6 = .ok (.lreturn, 1) := by decide +kernel
theorem dL_column_7 : decode cL_column 7 = .ok (.astore_n 2, 1) := by decide +kernel
theorem dL_column_8 : decode cL_column 8 = .ok (.ldc2_w 21, 3) := by decide +kernel
theorem dL_column_11 : decode cL_column 11 = .ok (.lreturn, 1) := by decide +kernel
theorem dL_undo_0 : decode cL_undo 0 = .ok (.aload_n 0, 1) := by decide +kernel
theorem dL_undo_1 : decode cL_undo 1 = .ok (.invokevirtual 124, 3) := by decide +kernel
theorem dL_undo_4 : decode cL_undo 4 = .ok (.i2l, 1) := by decide +kernel
theorem dL_undo_5 : decode cL_undo 5 = .ok (.lreturn, 1) := by decide +kernel
theorem dL_undo_6 : decode cL_undo 6 = .ok (.astore_n 1, 1) := by decide +kernel
theorem dL_undo_7 : decode cL_undo 7 = .ok (.ldc2_w 21, 3) := by decide +kernel
theorem dL_undo_10 : decode cL_undo 10 = .ok (.lreturn, 1) := by decide +kernel
theorem dL_undo_11 : decode cL_undo 11 = .ok (.astore_n 1, 1) := by decide +kernel
theorem dL_undo_12 : decode cL_undo 12 = .ok (.ldc2_w 25, 3) := by decide +kernel
theorem dL_undo_15 : decode cL_undo 15 = .ok (.lreturn, 1) := by decide +kernel
theorem dL_squares_0 : decode cL_squares 0 = .ok (.aload_n 0, 1) := by decide +kernel
theorem dL_squares_1 : decode cL_squares 1 = .ok (.iload_n 1, 1) := by decide +kernel
theorem dL_squares_2 : decode cL_squares 2 = .ok (.invokevirtual 127, 3) := by decide +kernel
theorem dL_squares_5 : decode cL_squares 5 = .ok (.i2l, 1) := by decide +kernel
theorem dL_squares_6 : decode cL_squares 6 = .ok (.lreturn, 1) := by decide +kernel
theorem dL_squares_7 : decode cL_squares 7 = .ok (.astore_n 2, 1) := by decide +kernel
theorem dL_squares_8 : decode cL_squares 8 = .ok (.ldc2_w 21, 3) := by decide +kernel
theorem dL_squares_11 : decode cL_squares 11 = .ok (.lreturn, 1) := by decide +kernel
theorem dL_period_0 : decode cL_period 0 = .ok (.aload_n 0, 1) := by decide +kernel
theorem dL_period_1 : decode cL_period 1 = .ok (.iload_n 1, 1) := by decide +kernel
theorem dL_period_2 : decode cL_period 2 = .ok (.invokevirtual 130, 3) := by decide +kernel
theorem dL_period_5 : decode cL_period 5 = .ok (.i2l, 1) := by decide +kernel
theorem dL_period_6 : decode cL_period 6 = .ok (.lreturn, 1) := by decide +kernel
theorem dL_period_7 : decode cL_period 7 = .ok (.astore_n 2, 1) := by decide +kernel
theorem dL_period_8 : decode cL_period 8 = .ok (.ldc2_w 21, 3) := by decide +kernel
theorem dL_period_11 : decode cL_period 11 = .ok (.lreturn, 1) := by decide +kernel
theorem dL_period_12 : decode cL_period 12 = .ok (.astore_n 2, 1) := by decide +kernel
theorem dL_period_13 : decode cL_period 13 = .ok (.ldc2_w 25, 3) := by decide +kernel
theorem dL_period_16 : decode cL_period 16 = .ok (.lreturn, 1) := by decide +kernel
theorem dL_parts_0 : decode cL_parts 0 = .ok (.aload_n 0, 1) := by decide +kernel
theorem dL_parts_1 : decode cL_parts 1 = .ok (.iload_n 1, 1) := by decide +kernel
theorem dL_parts_2 : decode cL_parts 2 = .ok (.invokevirtual 133, 3) := by decide +kernel
theorem dL_parts_5 : decode cL_parts 5 = .ok (.i2l, 1) := by decide +kernel
theorem dL_parts_6 : decode cL_parts 6 = .ok (.lreturn, 1) := by decide +kernel
theorem dL_parts_7 : decode cL_parts 7 = .ok (.astore_n 2, 1) := by decide +kernel
theorem dL_parts_8 : decode cL_parts 8 = .ok (.ldc2_w 21, 3) := by decide +kernel
theorem dL_parts_11 : decode cL_parts 11 = .ok (.lreturn, 1) := by decide +kernel
theorem dL_partAt_0 : decode cL_partAt 0 = .ok (.aload_n 0, 1) := by decide +kernel
theorem dL_partAt_1 : decode cL_partAt 1 = .ok (.iload_n 1, 1) := by decide +kernel
theorem dL_partAt_2 : decode cL_partAt 2 = .ok (.iload_n 2, 1) := by decide +kernel
theorem dL_partAt_3 : decode cL_partAt 3 = .ok (.invokevirtual 136, 3) := by decide +kernel
theorem dL_partAt_6 : decode cL_partAt 6 = .ok (.i2l, 1) := by decide +kernel
theorem dL_partAt_7 : decode cL_partAt 7 = .ok (.lreturn, 1) := by decide +kernel
theorem dL_partAt_8 : decode cL_partAt 8 = .ok (.astore_n 3, 1) := by decide +kernel
theorem dL_partAt_9 : decode cL_partAt 9 = .ok (.ldc2_w 21, 3) := by decide +kernel
theorem dL_partAt_12 : decode cL_partAt 12 = .ok (.lreturn, 1) := by decide +kernel
theorem dL_pieces_0 : decode cL_pieces 0 = .ok (.aload_n 0, 1) := by decide +kernel
theorem dL_pieces_1 : decode cL_pieces 1 = .ok (.iload_n 1, 1) := by decide +kernel
theorem dL_pieces_2 : decode cL_pieces 2 = .ok (.invokevirtual 139, 3) := by decide +kernel
theorem dL_pieces_5 : decode cL_pieces 5 = .ok (.i2l, 1) := by decide +kernel
theorem dL_pieces_6 : decode cL_pieces 6 = .ok (.lreturn, 1) := by decide +kernel
theorem dL_pieces_7 : decode cL_pieces 7 = .ok (.astore_n 2, 1) := by decide +kernel
theorem dL_pieces_8 : decode cL_pieces 8 = .ok (.ldc2_w 21, 3) := by decide +kernel
theorem dL_pieces_11 : decode cL_pieces 11 = .ok (.lreturn, 1) := by decide +kernel
theorem dL_fewest_0 : decode cL_fewest 0 = .ok (.aload_n 0, 1) := by decide +kernel
theorem dL_fewest_1 : decode cL_fewest 1 = .ok (.iload_n 1, 1) := by decide +kernel
theorem dL_fewest_2 : decode cL_fewest 2 = .ok (.invokevirtual 142, 3) := by decide +kernel
theorem dL_fewest_5 : decode cL_fewest 5 = .ok (.i2l, 1) := by decide +kernel
theorem dL_fewest_6 : decode cL_fewest 6 = .ok (.lreturn, 1) := by decide +kernel
theorem dL_fewest_7 : decode cL_fewest 7 = .ok (.astore_n 2, 1) := by decide +kernel
theorem dL_fewest_8 : decode cL_fewest 8 = .ok (.ldc2_w 21, 3) := by decide +kernel
theorem dL_fewest_11 : decode cL_fewest 11 = .ok (.lreturn, 1) := by decide +kernel
theorem dL_checksum_0 : decode cL_checksum 0 = .ok (.aload_n 0, 1) := by decide +kernel
theorem dL_checksum_1 : decode cL_checksum 1 = .ok (.invokevirtual 145, 3) := by decide +kernel
theorem dL_checksum_4 : decode cL_checksum 4 = .ok (.lreturn, 1) := by decide +kernel
theorem dL_isSound_0 : decode cL_isSound 0 = .ok (.aload_n 0, 1) := by decide +kernel
theorem dL_isSound_1 : decode cL_isSound 1 = .ok (.invokevirtual 149, 3) := by decide +kernel
theorem dL_isSound_4 : decode cL_isSound 4 = .ok (.ifCond .eq 7, 3) := by decide +kernel
theorem dL_isSound_7 : decode cL_isSound 7 = .ok (.lconst 1, 1) := by decide +kernel
theorem dL_isSound_8 : decode cL_isSound 8 = .ok (.goto 4, 3) := by decide +kernel
theorem dL_isSound_11 : decode cL_isSound 11 = .ok (.lconst 0, 1) := by decide +kernel
theorem dL_isSound_12 : decode cL_isSound 12 = .ok (.lreturn, 1) := by decide +kernel
theorem dL_size_0 : decode cL_size 0 = .ok (.aload_n 0, 1) := by decide +kernel
theorem dL_size_1 : decode cL_size 1 = .ok (.iconst 0, 1) := by decide +kernel
theorem dL_size_2 : decode cL_size 2 = .ok (.invokestatic 153, 3) := by decide +kernel
theorem dL_size_5 : decode cL_size 5 = .ok (.bipush 6, 2) := by decide +kernel
theorem dL_size_7 : decode cL_size 7 = .ok (.invokestatic 157, 3) := by decide +kernel
theorem dL_size_10 : decode cL_size 10 = .ok (.ifCond .ne 16, 3) := by decide +kernel
theorem dL_size_13 : decode cL_size 13 = .ok (.aload_n 0, 1) := by decide +kernel
theorem dL_size_14 : decode cL_size 14 = .ok (.iconst 1, 1) := by decide +kernel
theorem dL_size_15 : decode cL_size 15 = .ok (.invokestatic 153, 3) := by decide +kernel
theorem dL_size_18 : decode cL_size 18 = .ok (.bipush 64, 2) := by decide +kernel
theorem dL_size_20 : decode cL_size 20 = .ok (.invokestatic 157, 3) := by decide +kernel
theorem dL_size_23 : decode cL_size 23 = .ok (.goto 15, 3) := by decide +kernel
theorem dL_size_26 : decode cL_size 26 = .ok (.iconst 1, 1) := by decide +kernel
theorem dL_size_27 : decode cL_size 27 = .ok (.aload_n 0, 1) := by decide +kernel
theorem dL_size_28 : decode cL_size 28 = .ok (.iconst 1, 1) := by decide +kernel
theorem dL_size_29 : decode cL_size 29 = .ok (.invokestatic 153, 3) := by decide +kernel
theorem dL_size_32 : decode cL_size 32 = .ok (.bipush 24, 2) := by decide +kernel
theorem dL_size_34 : decode cL_size 34 = .ok (.invokestatic 157, 3) := by decide +kernel
theorem dL_size_37 : decode cL_size 37 = .ok (.iadd, 1) := by decide +kernel
theorem dL_size_38 : decode cL_size 38 = .ok (.ireturn, 1) := by decide +kernel
theorem dL_signs_0 : decode cL_signs 0 = .ok (.aload_n 0, 1) := by decide +kernel
theorem dL_signs_1 : decode cL_signs 1 = .ok (.invokestatic 160, 3) := by decide +kernel
theorem dL_signs_4 : decode cL_signs 4 = .ok (.newarray .char, 2) := by decide +kernel
theorem dL_signs_6 : decode cL_signs 6 = .ok (.astore_n 1, 1) := by decide +kernel
theorem dL_signs_7 : decode cL_signs 7 = .ok (.iconst 1, 1) := by decide +kernel
theorem dL_signs_8 : decode cL_signs 8 = .ok (.aload_n 0, 1) := by decide +kernel
theorem dL_signs_9 : decode cL_signs 9 = .ok (.iconst 2, 1) := by decide +kernel
theorem dL_signs_10 : decode cL_signs 10 = .ok (.invokestatic 153, 3) := by decide +kernel
theorem dL_signs_13 : decode cL_signs 13 = .ok (.iconst 4, 1) := by decide +kernel
theorem dL_signs_14 : decode cL_signs 14 = .ok (.invokestatic 157, 3) := by decide +kernel
theorem dL_signs_17 : decode cL_signs 17 = .ok (.iadd, 1) := by decide +kernel
theorem dL_signs_18 : decode cL_signs 18 = .ok (.istore_n 2, 1) := by decide +kernel
theorem dL_signs_19 : decode cL_signs 19 = .ok (.iconst 1, 1) := by decide +kernel
theorem dL_signs_20 : decode cL_signs 20 = .ok (.aload_n 0, 1) := by decide +kernel
theorem dL_signs_21 : decode cL_signs 21 = .ok (.iconst 3, 1) := by decide +kernel
theorem dL_signs_22 : decode cL_signs 22 = .ok (.invokestatic 153, 3) := by decide +kernel
theorem dL_signs_25 : decode cL_signs 25 = .ok (.bipush 9, 2) := by decide +kernel
theorem dL_signs_27 : decode cL_signs 27 = .ok (.invokestatic 157, 3) := by decide +kernel
theorem dL_signs_30 : decode cL_signs 30 = .ok (.iadd, 1) := by decide +kernel
theorem dL_signs_31 : decode cL_signs 31 = .ok (.istore_n 3, 1) := by decide +kernel
theorem dL_signs_32 : decode cL_signs 32 = .ok (.iconst 0, 1) := by decide +kernel
theorem dL_signs_33 : decode cL_signs 33 = .ok (.istore 4, 2) := by decide +kernel
theorem dL_signs_35 : decode cL_signs 35 = .ok (.iload 4, 2) := by decide +kernel
theorem dL_signs_37 : decode cL_signs 37 = .ok (.aload_n 1, 1) := by decide +kernel
theorem dL_signs_38 : decode cL_signs 38 = .ok (.arraylength, 1) := by decide +kernel
theorem dL_signs_39 : decode cL_signs 39 = .ok (.if_icmp .ge 67, 3) := by decide +kernel
theorem dL_signs_42 : decode cL_signs 42 = .ok (.aload_n 0, 1) := by decide +kernel
theorem dL_signs_43 : decode cL_signs 43 = .ok (.iconst 4, 1) := by decide +kernel
theorem dL_signs_44 : decode cL_signs 44 = .ok (.iload 4, 2) := by decide +kernel
theorem dL_signs_46 : decode cL_signs 46 = .ok (.iadd, 1) := by decide +kernel
theorem dL_signs_47 : decode cL_signs 47 = .ok (.invokestatic 153, 3) := by decide +kernel
theorem dL_signs_50 : decode cL_signs 50 = .ok (.bipush 31, 2) := by decide +kernel
theorem dL_signs_52 : decode cL_signs 52 = .ok (.iload 4, 2) := by decide +kernel
theorem dL_signs_54 : decode cL_signs 54 = .ok (.imul, 1) := by decide +kernel
theorem dL_signs_55 : decode cL_signs 55 = .ok (.iadd, 1) := by decide +kernel
theorem dL_signs_56 : decode cL_signs 56 = .ok (.sipush 1000, 3) := by decide +kernel
theorem dL_signs_59 : decode cL_signs 59 = .ok (.invokestatic 157, 3) := by decide +kernel
theorem dL_signs_62 : decode cL_signs 62 = .ok (.istore 5, 2) := by decide +kernel
theorem dL_signs_64 : decode cL_signs 64 = .ok (.aload_n 1, 1) := by decide +kernel
theorem dL_signs_65 : decode cL_signs 65 = .ok (.iload 4, 2) := by decide +kernel
theorem dL_signs_67 : decode cL_signs 67 = .ok (.iload 4, 2) := by decide +kernel
theorem dL_signs_69 : decode cL_signs 69 = .ok (.iload_n 3, 1) := by decide +kernel
theorem dL_signs_70 : decode cL_signs 70 = .ok (.if_icmp .lt 19, 3) := by decide +kernel
theorem dL_signs_73 : decode cL_signs 73 = .ok (.iload 5, 2) := by decide +kernel
theorem dL_signs_75 : decode cL_signs 75 = .ok (.iconst 3, 1) := by decide +kernel
theorem dL_signs_76 : decode cL_signs 76 = .ok (.irem, 1) := by decide +kernel
theorem dL_signs_77 : decode cL_signs 77 = .ok (.ifCond .le 12, 3) := by decide +kernel
theorem dL_signs_80 : decode cL_signs 80 = .ok (.aload_n 1, 1) := by decide +kernel
theorem dL_signs_81 : decode cL_signs 81 = .ok (.iload 4, 2) := by decide +kernel
theorem dL_signs_83 : decode cL_signs 83 = .ok (.iload_n 3, 1) := by decide +kernel
theorem dL_signs_84 : decode cL_signs 84 = .ok (.isub, 1) := by decide +kernel
theorem dL_signs_85 : decode cL_signs 85 = .ok (.caload, 1) := by decide +kernel
theorem dL_signs_86 : decode cL_signs 86 = .ok (.goto 13, 3) := by decide +kernel
theorem dL_signs_89 : decode cL_signs 89 = .ok (.bipush 97, 2) := by decide +kernel
theorem dL_signs_91 : decode cL_signs 91 = .ok (.iload 5, 2) := by decide +kernel
theorem dL_signs_93 : decode cL_signs 93 = .ok (.iconst 3, 1) := by decide +kernel
theorem dL_signs_94 : decode cL_signs 94 = .ok (.idiv, 1) := by decide +kernel
theorem dL_signs_95 : decode cL_signs 95 = .ok (.iload_n 2, 1) := by decide +kernel
theorem dL_signs_96 : decode cL_signs 96 = .ok (.irem, 1) := by decide +kernel
theorem dL_signs_97 : decode cL_signs 97 = .ok (.iadd, 1) := by decide +kernel
theorem dL_signs_98 : decode cL_signs 98 = .ok (.i2c, 1) := by decide +kernel
theorem dL_signs_99 : decode cL_signs 99 = .ok (.castore, 1) := by decide +kernel
theorem dL_signs_100 : decode cL_signs 100 = .ok (.iinc 4 1, 3) := by decide +kernel
theorem dL_signs_103 : decode cL_signs 103 = .ok (.goto (-68), 3) := by decide +kernel
theorem dL_signs_106 : decode cL_signs 106 = .ok (.aload_n 1, 1) := by decide +kernel
theorem dL_signs_107 : decode cL_signs 107 = .ok (.areturn, 1) := by decide +kernel
theorem dL_tells_0 : decode cL_tells 0 = .ok (.aload_n 0, 1) := by decide +kernel
theorem dL_tells_1 : decode cL_tells 1 = .ok (.invokestatic 164, 3) := by decide +kernel
theorem dL_tells_4 : decode cL_tells 4 = .ok (.pop2, 1) := by decide +kernel
theorem dL_tells_5 : decode cL_tells 5 = .ok (.aload_n 1, 1) := by decide +kernel
theorem dL_tells_6 : decode cL_tells 6 = .ok (.astore_n 2, 1) := by decide +kernel
theorem dL_tells_7 : decode cL_tells 7 = .ok (.aload_n 2, 1) := by decide +kernel
theorem dL_tells_8 : decode cL_tells 8 = .ok (.arraylength, 1) := by decide +kernel
theorem dL_tells_9 : decode cL_tells 9 = .ok (.istore_n 3, 1) := by decide +kernel
theorem dL_tells_10 : decode cL_tells 10 = .ok (.iconst 0, 1) := by decide +kernel
theorem dL_tells_11 : decode cL_tells 11 = .ok (.istore 4, 2) := by decide +kernel
theorem dL_tells_13 : decode cL_tells 13 = .ok (.iload 4, 2) := by decide +kernel
theorem dL_tells_15 : decode cL_tells 15 = .ok (.iload_n 3, 1) := by decide +kernel
theorem dL_tells_16 : decode cL_tells 16 = .ok (.if_icmp .ge 22, 3) := by decide +kernel
theorem dL_tells_19 : decode cL_tells 19 = .ok (.aload_n 2, 1) := by decide +kernel
theorem dL_tells_20 : decode cL_tells 20 = .ok (.iload 4, 2) := by decide +kernel
theorem dL_tells_22 : decode cL_tells 22 = .ok (.caload, 1) := by decide +kernel
theorem dL_tells_23 : decode cL_tells 23 = .ok (.istore 5, 2) := by decide +kernel
theorem dL_tells_25 : decode cL_tells 25 = .ok (.aload_n 0, 1) := by decide +kernel
theorem dL_tells_26 : decode cL_tells 26 = .ok (.iload 5, 2) := by decide +kernel
theorem dL_tells_28 : decode cL_tells 28 = .ok (.invokestatic 167, 3) := by decide +kernel
theorem dL_tells_31 : decode cL_tells 31 = .ok (.pop2, 1) := by decide +kernel
theorem dL_tells_32 : decode cL_tells 32 = .ok (.iinc 4 1, 3) := by decide +kernel
theorem dL_tells_35 : decode cL_tells 35 = .ok (.goto (-22), 3) := by decide +kernel
theorem dL_tells_38 : decode cL_tells 38 = .ok (.aload_n 0, 1) := by decide +kernel
theorem dL_tells_39 : decode cL_tells 39 = .ok (.invokestatic 170, 3) := by decide +kernel
theorem dL_tells_42 : decode cL_tells 42 = .ok (.l2i, 1) := by decide +kernel
theorem dL_tells_43 : decode cL_tells 43 = .ok (.ireturn, 1) := by decide +kernel
theorem dL_comesBack_0 : decode cL_comesBack 0 = .ok (.aload_n 2, 1) := by decide +kernel
theorem dL_comesBack_1 : decode cL_comesBack 1 = .ok (.arraylength, 1) := by decide +kernel
theorem dL_comesBack_2 : decode cL_comesBack 2 = .ok (.istore_n 3, 1) := by decide +kernel
theorem dL_comesBack_3 : decode cL_comesBack 3 = .ok (.aload_n 0, 1) := by decide +kernel
theorem dL_comesBack_4 : decode cL_comesBack 4 = .ok (.iload_n 1, 1) := by decide +kernel
theorem dL_comesBack_5 : decode cL_comesBack 5 = .ok (.invokestatic 172, 3) := by decide +kernel
theorem dL_comesBack_8 : decode cL_comesBack 8 = .ok (.iload_n 3, 1) := by decide +kernel
theorem dL_comesBack_9 : decode cL_comesBack 9 = .ok (.i2l, 1) := by decide +kernel
theorem dL_comesBack_10 : decode cL_comesBack 10 = .ok (.lconst 1, 1) := by decide +kernel
theorem dL_comesBack_11 : decode cL_comesBack 11 = .ok (.ladd, 1) := by decide +kernel
theorem dL_comesBack_12 : decode cL_comesBack 12 = .ok (.lcmp, 1) := by decide +kernel
theorem dL_comesBack_13 : decode cL_comesBack 13 = .ok (.ifCond .eq 5, 3) := by decide +kernel
theorem dL_comesBack_16 : decode cL_comesBack 16 = .ok (.iconst 0, 1) := by decide +kernel
theorem dL_comesBack_17 : decode cL_comesBack 17 = .ok (.ireturn, 1) := by decide +kernel
theorem dL_comesBack_18 : decode cL_comesBack 18 = .ok (.iconst 0, 1) := by decide +kernel
theorem dL_comesBack_19 : decode cL_comesBack 19 = .ok (.istore 4, 2) := by decide +kernel
theorem dL_comesBack_21 : decode cL_comesBack 21 = .ok (.iload 4, 2) := by decide +kernel
theorem dL_comesBack_23 : decode cL_comesBack 23 = .ok (.iload_n 3, 1) := by decide +kernel
theorem dL_comesBack_24 : decode cL_comesBack 24 = .ok (.if_icmp .gt 53, 3) := by decide +kernel
theorem dL_comesBack_27 : decode cL_comesBack 27 = .ok (.aload_n 0, 1) := by decide +kernel
theorem dL_comesBack_28 : decode cL_comesBack 28 = .ok (.iload 4, 2) := by decide +kernel
theorem dL_comesBack_30 : decode cL_comesBack 30 = .ok (.invokestatic 175, 3) := by decide +kernel
theorem dL_comesBack_33 : decode cL_comesBack 33 = .ok (.aload_n 0, 1) := by decide +kernel
theorem dL_comesBack_34 : decode cL_comesBack 34 = .ok (.iload_n 1, 1) := by decide +kernel
theorem dL_comesBack_35 : decode cL_comesBack 35 = .ok (.iload 4, 2) := by decide +kernel
theorem dL_comesBack_37 : decode cL_comesBack 37 = .ok (.invokestatic 177, 3) := by decide +kernel
theorem dL_comesBack_40 : decode cL_comesBack 40 = .ok (.lcmp, 1) := by decide +kernel
theorem dL_comesBack_41 : decode cL_comesBack 41 = .ok (.ifCond .ne 28, 3) := by decide +kernel
theorem dL_comesBack_44 : decode cL_comesBack 44 = .ok (.iload 4, 2) := by decide +kernel
theorem dL_comesBack_46 : decode cL_comesBack 46 = .ok (.ifCond .le 25, 3) := by decide +kernel
theorem dL_comesBack_49 : decode cL_comesBack 49 = .ok (.aload_n 0, 1) := by decide +kernel
theorem dL_comesBack_50 : decode cL_comesBack 50 = .ok (.iload_n 1, 1) := by decide +kernel
theorem dL_comesBack_51 : decode cL_comesBack 51 = .ok (.iload 4, 2) := by decide +kernel
theorem dL_comesBack_53 : decode cL_comesBack 53 = .ok (.invokestatic 180, 3) := by decide +kernel
theorem dL_comesBack_56 : decode cL_comesBack 56 = .ok (.aload_n 0, 1) := by decide +kernel
theorem dL_comesBack_57 : decode cL_comesBack 57 = .ok (.iload_n 1, 1) := by decide +kernel
theorem dL_comesBack_58 : decode cL_comesBack 58 = .ok (.iload 4, 2) := by decide +kernel
theorem dL_comesBack_60 : decode cL_comesBack 60 = .ok (.iconst 1, 1) := by decide +kernel
theorem dL_comesBack_61 : decode cL_comesBack 61 = .ok (.isub, 1) := by decide +kernel
theorem dL_comesBack_62 : decode cL_comesBack 62 = .ok (.invokestatic 180, 3) := by decide +kernel
theorem dL_comesBack_65 : decode cL_comesBack 65 = .ok (.lcmp, 1) := by decide +kernel
theorem dL_comesBack_66 : decode cL_comesBack 66 = .ok (.ifCond .ge 5, 3) := by decide +kernel
theorem dL_comesBack_69 : decode cL_comesBack 69 = .ok (.iconst 0, 1) := by decide +kernel
theorem dL_comesBack_70 : decode cL_comesBack 70 = .ok (.ireturn, 1) := by decide +kernel
theorem dL_comesBack_71 : decode cL_comesBack 71 = .ok (.iinc 4 1, 3) := by decide +kernel
theorem dL_comesBack_74 : decode cL_comesBack 74 = .ok (.goto (-53), 3) := by decide +kernel
theorem dL_comesBack_77 : decode cL_comesBack 77 = .ok (.sipush 128, 3) := by decide +kernel
theorem dL_comesBack_80 : decode cL_comesBack 80 = .ok (.newarray .int, 2) := by decide +kernel
theorem dL_comesBack_82 : decode cL_comesBack 82 = .ok (.astore 4, 2) := by decide +kernel
theorem dL_comesBack_84 : decode cL_comesBack 84 = .ok (.iload_n 3, 1) := by decide +kernel
theorem dL_comesBack_85 : decode cL_comesBack 85 = .ok (.iconst 1, 1) := by decide +kernel
theorem dL_comesBack_86 : decode cL_comesBack 86 = .ok (.iadd, 1) := by decide +kernel
theorem dL_comesBack_87 : decode cL_comesBack 87 = .ok (.newarray .int, 2) := by decide +kernel
theorem dL_comesBack_89 : decode cL_comesBack 89 = .ok (.astore 5, 2) := by decide +kernel
theorem dL_comesBack_91 : decode cL_comesBack 91 = .ok (.iconst 0, 1) := by decide +kernel
theorem dL_comesBack_92 : decode cL_comesBack 92 = .ok (.istore 6, 2) := by decide +kernel
theorem dL_comesBack_94 : decode cL_comesBack 94 = .ok (.iload 6, 2) := by decide +kernel
theorem dL_comesBack_96 : decode cL_comesBack 96 = .ok (.iload_n 3, 1) := by decide +kernel
theorem dL_comesBack_97 : decode cL_comesBack 97 = .ok (.if_icmp .gt 77, 3) := by decide +kernel
theorem dL_comesBack_100 : decode cL_comesBack 100 = .ok (.aload 5, 2) := by decide +kernel
theorem dL_comesBack_102 : decode cL_comesBack 102 = .ok (.iload 6, 2) := by decide +kernel
theorem dL_comesBack_104 : decode cL_comesBack 104 = .ok (.aload_n 0, 1) := by decide +kernel
theorem dL_comesBack_105 : decode cL_comesBack 105 = .ok (.iload_n 1, 1) := by decide +kernel
theorem dL_comesBack_106 : decode cL_comesBack 106 = .ok (.iload 6, 2) := by decide +kernel
theorem dL_comesBack_108 : decode cL_comesBack 108 = .ok (.invokestatic 182, 3) := by decide +kernel
theorem dL_comesBack_111 : decode cL_comesBack 111 = .ok (.l2i, 1) := by decide +kernel
theorem dL_comesBack_112 : decode cL_comesBack 112 = .ok (.iastore, 1) := by decide +kernel
theorem dL_comesBack_113 : decode cL_comesBack 113 = .ok (.aload_n 0, 1) := by decide +kernel
theorem dL_comesBack_114 : decode cL_comesBack 114 = .ok (.iload_n 1, 1) := by decide +kernel
theorem dL_comesBack_115 : decode cL_comesBack 115 = .ok (.iload 6, 2) := by decide +kernel
theorem dL_comesBack_117 : decode cL_comesBack 117 = .ok (.invokestatic 177, 3) := by decide +kernel
theorem dL_comesBack_120 : decode cL_comesBack 120 = .ok (.l2i, 1) := by decide +kernel
theorem dL_comesBack_121 : decode cL_comesBack 121 = .ok (.i2c, 1) := by decide +kernel
theorem dL_comesBack_122 : decode cL_comesBack 122 = .ok (.istore 7, 2) := by decide +kernel
theorem dL_comesBack_124 : decode cL_comesBack 124 = .ok (.aload_n 0, 1) := by decide +kernel
theorem dL_comesBack_125 : decode cL_comesBack 125 = .ok (.iload_n 1, 1) := by decide +kernel
theorem dL_comesBack_126 : decode cL_comesBack 126 = .ok (.aload 5, 2) := by decide +kernel
theorem dL_comesBack_128 : decode cL_comesBack 128 = .ok (.iload 6, 2) := by decide +kernel
theorem dL_comesBack_130 : decode cL_comesBack 130 = .ok (.iaload, 1) := by decide +kernel
theorem dL_comesBack_131 : decode cL_comesBack 131 = .ok (.invokestatic 180, 3) := by decide +kernel
theorem dL_comesBack_134 : decode cL_comesBack 134 = .ok (.iload 7, 2) := by decide +kernel
theorem dL_comesBack_136 : decode cL_comesBack 136 = .ok (.i2l, 1) := by decide +kernel
theorem dL_comesBack_137 : decode cL_comesBack 137 = .ok (.lcmp, 1) := by decide +kernel
theorem dL_comesBack_138 : decode cL_comesBack 138 = .ok (.ifCond .ne 16, 3) := by decide +kernel
theorem dL_comesBack_141 : decode cL_comesBack 141 = .ok (.aload 4, 2) := by decide +kernel
theorem dL_comesBack_143 : decode cL_comesBack 143 = .ok (.iload 7, 2) := by decide +kernel
theorem dL_comesBack_145 : decode cL_comesBack 145 = .ok (.iaload, 1) := by decide +kernel
theorem dL_comesBack_146 : decode cL_comesBack 146 = .ok (.aload 5, 2) := by decide +kernel
theorem dL_comesBack_148 : decode cL_comesBack 148 = .ok (.iload 6, 2) := by decide +kernel
theorem dL_comesBack_150 : decode cL_comesBack 150 = .ok (.iaload, 1) := by decide +kernel
theorem dL_comesBack_151 : decode cL_comesBack 151 = .ok (.if_icmp .le 5, 3) := by decide +kernel
theorem dL_comesBack_154 : decode cL_comesBack 154 = .ok (.iconst 0, 1) := by decide +kernel
theorem dL_comesBack_155 : decode cL_comesBack 155 = .ok (.ireturn, 1) := by decide +kernel
theorem dL_comesBack_156 : decode cL_comesBack 156 = .ok (.aload 4, 2) := by decide +kernel
theorem dL_comesBack_158 : decode cL_comesBack 158 = .ok (.iload 7, 2) := by decide +kernel
theorem dL_comesBack_160 : decode cL_comesBack 160 = .ok (.aload 5, 2) := by decide +kernel
theorem dL_comesBack_162 : decode cL_comesBack 162 = .ok (.iload 6, 2) := by decide +kernel
theorem dL_comesBack_164 : decode cL_comesBack 164 = .ok (.iaload, 1) := by decide +kernel
theorem dL_comesBack_165 : decode cL_comesBack 165 = .ok (.iconst 1, 1) := by decide +kernel
theorem dL_comesBack_166 : decode cL_comesBack 166 = .ok (.iadd, 1) := by decide +kernel
theorem dL_comesBack_167 : decode cL_comesBack 167 = .ok (.iastore, 1) := by decide +kernel
theorem dL_comesBack_168 : decode cL_comesBack 168 = .ok (.iinc 6 1, 3) := by decide +kernel
theorem dL_comesBack_171 : decode cL_comesBack 171 = .ok (.goto (-77), 3) := by decide +kernel
theorem dL_comesBack_174 : decode cL_comesBack 174 = .ok (.aload_n 0, 1) := by decide +kernel
theorem dL_comesBack_175 : decode cL_comesBack 175 = .ok (.invokestatic 184, 3) := by decide +kernel
theorem dL_comesBack_178 : decode cL_comesBack 178 = .ok (.lstore 6, 2) := by decide +kernel
theorem dL_comesBack_180 : decode cL_comesBack 180 = .ok (.lload 6, 2) := by decide +kernel
theorem dL_comesBack_182 : decode cL_comesBack 182 = .ok (.lconst 0, 1) := by decide +kernel
theorem dL_comesBack_183 : decode cL_comesBack 183 = .ok (.lcmp, 1) := by decide +kernel
theorem dL_comesBack_184 : decode cL_comesBack 184 = .ok (.ifCond .lt 16, 3) := by decide +kernel
theorem dL_comesBack_187 : decode cL_comesBack 187 = .ok (.aload_n 0, 1) := by decide +kernel
theorem dL_comesBack_188 : decode cL_comesBack 188 = .ok (.lload 6, 2) := by decide +kernel
theorem dL_comesBack_190 : decode cL_comesBack 190 = .ok (.l2i, 1) := by decide +kernel
theorem dL_comesBack_191 : decode cL_comesBack 191 = .ok (.invokestatic 186, 3) := by decide +kernel
theorem dL_comesBack_194 : decode cL_comesBack 194 = .ok (.iload_n 3, 1) := by decide +kernel
theorem dL_comesBack_195 : decode cL_comesBack 195 = .ok (.i2l, 1) := by decide +kernel
theorem dL_comesBack_196 : decode cL_comesBack 196 = .ok (.lcmp, 1) := by decide +kernel
theorem dL_comesBack_197 : decode cL_comesBack 197 = .ok (.ifCond .eq 5, 3) := by decide +kernel
theorem dL_comesBack_200 : decode cL_comesBack 200 = .ok (.iconst 0, 1) := by decide +kernel
theorem dL_comesBack_201 : decode cL_comesBack 201 = .ok (.ireturn, 1) := by decide +kernel
theorem dL_comesBack_202 : decode cL_comesBack 202 = .ok (.iconst 0, 1) := by decide +kernel
theorem dL_comesBack_203 : decode cL_comesBack 203 = .ok (.istore 8, 2) := by decide +kernel
theorem dL_comesBack_205 : decode cL_comesBack 205 = .ok (.iload_n 3, 1) := by decide +kernel
theorem dL_comesBack_206 : decode cL_comesBack 206 = .ok (.iconst 1, 1) := by decide +kernel
theorem dL_comesBack_207 : decode cL_comesBack 207 = .ok (.isub, 1) := by decide +kernel
theorem dL_comesBack_208 : decode cL_comesBack 208 = .ok (.istore 9, 2) := by decide +kernel
theorem dL_comesBack_210 : decode cL_comesBack 210 = .ok (.iload 9, 2) := by decide +kernel
theorem dL_comesBack_212 : decode cL_comesBack 212 = .ok (.ifCond .lt 52, 3) := by decide +kernel
theorem dL_comesBack_215 : decode cL_comesBack 215 = .ok (.aload_n 0, 1) := by decide +kernel
theorem dL_comesBack_216 : decode cL_comesBack 216 = .ok (.iload_n 1, 1) := by decide +kernel
theorem dL_comesBack_217 : decode cL_comesBack 217 = .ok (.iload 8, 2) := by decide +kernel
theorem dL_comesBack_219 : decode cL_comesBack 219 = .ok (.invokestatic 177, 3) := by decide +kernel
theorem dL_comesBack_222 : decode cL_comesBack 222 = .ok (.aload_n 2, 1) := by decide +kernel
theorem dL_comesBack_223 : decode cL_comesBack 223 = .ok (.iload 9, 2) := by decide +kernel
theorem dL_comesBack_225 : decode cL_comesBack 225 = .ok (.caload, 1) := by decide +kernel
theorem dL_comesBack_226 : decode cL_comesBack 226 = .ok (.i2l, 1) := by decide +kernel
theorem dL_comesBack_227 : decode cL_comesBack 227 = .ok (.lcmp, 1) := by decide +kernel
theorem dL_comesBack_228 : decode cL_comesBack 228 = .ok (.ifCond .ne 21, 3) := by decide +kernel
theorem dL_comesBack_231 : decode cL_comesBack 231 = .ok (.aload_n 0, 1) := by decide +kernel
theorem dL_comesBack_232 : decode cL_comesBack 232 = .ok (.lload 6, 2) := by decide +kernel
theorem dL_comesBack_234 : decode cL_comesBack 234 = .ok (.l2i, 1) := by decide +kernel
theorem dL_comesBack_235 : decode cL_comesBack 235 = .ok (.iload 9, 2) := by decide +kernel
theorem dL_comesBack_237 : decode cL_comesBack 237 = .ok (.invokestatic 188, 3) := by decide +kernel
theorem dL_comesBack_240 : decode cL_comesBack 240 = .ok (.aload_n 2, 1) := by decide +kernel
theorem dL_comesBack_241 : decode cL_comesBack 241 = .ok (.iload 9, 2) := by decide +kernel
theorem dL_comesBack_243 : decode cL_comesBack 243 = .ok (.caload, 1) := by decide +kernel
theorem dL_comesBack_244 : decode cL_comesBack 244 = .ok (.i2l, 1) := by decide +kernel
theorem dL_comesBack_245 : decode cL_comesBack 245 = .ok (.lcmp, 1) := by decide +kernel
theorem dL_comesBack_246 : decode cL_comesBack 246 = .ok (.ifCond .eq 5, 3) := by decide +kernel
theorem dL_comesBack_249 : decode cL_comesBack 249 = .ok (.iconst 0, 1) := by decide +kernel
theorem dL_comesBack_250 : decode cL_comesBack 250 = .ok (.ireturn, 1) := by decide +kernel
theorem dL_comesBack_251 : decode cL_comesBack 251 = .ok (.aload 5, 2) := by decide +kernel
theorem dL_comesBack_253 : decode cL_comesBack 253 = .ok (.iload 8, 2) := by decide +kernel
theorem dL_comesBack_255 : decode cL_comesBack 255 = .ok (.iaload, 1) := by decide +kernel
theorem dL_comesBack_256 : decode cL_comesBack 256 = .ok (.istore 8, 2) := by decide +kernel
theorem dL_comesBack_258 : decode cL_comesBack 258 = .ok (.iinc 9 (-1), 3) := by decide +kernel
theorem dL_comesBack_261 : decode cL_comesBack 261 = .ok (.goto (-51), 3) := by decide +kernel
theorem dL_comesBack_264 : decode cL_comesBack 264 = .ok (.aload_n 0, 1) := by decide +kernel
theorem dL_comesBack_265 : decode cL_comesBack 265 = .ok (.iload_n 1, 1) := by decide +kernel
theorem dL_comesBack_266 : decode cL_comesBack 266 = .ok (.iload 8, 2) := by decide +kernel
theorem dL_comesBack_268 : decode cL_comesBack 268 = .ok (.invokestatic 177, 3) := by decide +kernel
theorem dL_comesBack_271 : decode cL_comesBack 271 = .ok (.ldc2_w 190, 3) := by decide +kernel
theorem dL_comesBack_274 : decode cL_comesBack 274 = .ok (.lcmp, 1) := by decide +kernel
theorem dL_comesBack_275 : decode cL_comesBack 275 = .ok (.ifCond .ne 7, 3) := by decide +kernel
theorem dL_comesBack_278 : decode cL_comesBack 278 = .ok (.iconst 1, 1) := by decide +kernel
theorem dL_comesBack_279 : decode cL_comesBack 279 = .ok (.goto 4, 3) := by decide +kernel
theorem dL_comesBack_282 : decode cL_comesBack 282 = .ok (.iconst 0, 1) := by decide +kernel
theorem dL_comesBack_283 : decode cL_comesBack 283 = .ok (.ireturn, 1) := by decide +kernel
theorem dL_isRun_0 : decode cL_isRun 0 = .ok (.aload_n 0, 1) := by decide +kernel
theorem dL_isRun_1 : decode cL_isRun 1 = .ok (.invokestatic 164, 3) := by decide +kernel
theorem dL_isRun_4 : decode cL_isRun 4 = .ok (.pop2, 1) := by decide +kernel
theorem dL_isRun_5 : decode cL_isRun 5 = .ok (.iconst 0, 1) := by decide +kernel
theorem dL_isRun_6 : decode cL_isRun 6 = .ok (.istore 5, 2) := by decide +kernel
theorem dL_isRun_8 : decode cL_isRun 8 = .ok (.iload 5, 2) := by decide +kernel
theorem dL_isRun_10 : decode cL_isRun 10 = .ok (.iload 4, 2) := by decide +kernel
theorem dL_isRun_12 : decode cL_isRun 12 = .ok (.if_icmp .ge 20, 3) := by decide +kernel
theorem dL_isRun_15 : decode cL_isRun 15 = .ok (.aload_n 0, 1) := by decide +kernel
theorem dL_isRun_16 : decode cL_isRun 16 = .ok (.aload_n 2, 1) := by decide +kernel
theorem dL_isRun_17 : decode cL_isRun 17 = .ok (.iload_n 3, 1) := by decide +kernel
theorem dL_isRun_18 : decode cL_isRun 18 = .ok (.iload 5, 2) := by decide +kernel
theorem dL_isRun_20 : decode cL_isRun 20 = .ok (.iadd, 1) := by decide +kernel
theorem dL_isRun_21 : decode cL_isRun 21 = .ok (.caload, 1) := by decide +kernel
theorem dL_isRun_22 : decode cL_isRun 22 = .ok (.invokestatic 167, 3) := by decide +kernel
theorem dL_isRun_25 : decode cL_isRun 25 = .ok (.pop2, 1) := by decide +kernel
theorem dL_isRun_26 : decode cL_isRun 26 = .ok (.iinc 5 1, 3) := by decide +kernel
theorem dL_isRun_29 : decode cL_isRun 29 = .ok (.goto (-21), 3) := by decide +kernel
theorem dL_isRun_32 : decode cL_isRun 32 = .ok (.aload_n 0, 1) := by decide +kernel
theorem dL_isRun_33 : decode cL_isRun 33 = .ok (.iload_n 1, 1) := by decide +kernel
theorem dL_isRun_34 : decode cL_isRun 34 = .ok (.invokestatic 192, 3) := by decide +kernel
theorem dL_isRun_37 : decode cL_isRun 37 = .ok (.lstore 5, 2) := by decide +kernel
theorem dL_isRun_39 : decode cL_isRun 39 = .ok (.aload_n 0, 1) := by decide +kernel
theorem dL_isRun_40 : decode cL_isRun 40 = .ok (.iload_n 1, 1) := by decide +kernel
theorem dL_isRun_41 : decode cL_isRun 41 = .ok (.invokestatic 194, 3) := by decide +kernel
theorem dL_isRun_44 : decode cL_isRun 44 = .ok (.lstore 7, 2) := by decide +kernel
theorem dL_isRun_46 : decode cL_isRun 46 = .ok (.aload_n 0, 1) := by decide +kernel
theorem dL_isRun_47 : decode cL_isRun 47 = .ok (.iload_n 1, 1) := by decide +kernel
theorem dL_isRun_48 : decode cL_isRun 48 = .ok (.invokestatic 196, 3) := by decide +kernel
theorem dL_isRun_51 : decode cL_isRun 51 = .ok (.lstore 9, 2) := by decide +kernel
theorem dL_isRun_53 : decode cL_isRun 53 = .ok (.iconst 0, 1) := by decide +kernel
theorem dL_isRun_54 : decode cL_isRun 54 = .ok (.istore 11, 2) := by decide +kernel
theorem dL_isRun_56 : decode cL_isRun 56 = .ok (.iconst (-1), 1) := by decide +kernel
theorem dL_isRun_57 : decode cL_isRun 57 = .ok (.istore 12, 2) := by decide +kernel
theorem dL_isRun_59 : decode cL_isRun 59 = .ok (.iconst 0, 1) := by decide +kernel
theorem dL_isRun_60 : decode cL_isRun 60 = .ok (.istore 13, 2) := by decide +kernel
theorem dL_isRun_62 : decode cL_isRun 62 = .ok (.iload 13, 2) := by decide +kernel
theorem dL_isRun_64 : decode cL_isRun 64 = .ok (.aload_n 2, 1) := by decide +kernel
theorem dL_isRun_65 : decode cL_isRun 65 = .ok (.arraylength, 1) := by decide +kernel
theorem dL_isRun_66 : decode cL_isRun 66 = .ok (.if_icmp .ge 165, 3) := by decide +kernel
theorem dL_isRun_69 : decode cL_isRun 69 = .ok (.iload 13, 2) := by decide +kernel
theorem dL_isRun_71 : decode cL_isRun 71 = .ok (.iload 4, 2) := by decide +kernel
theorem dL_isRun_73 : decode cL_isRun 73 = .ok (.iadd, 1) := by decide +kernel
theorem dL_isRun_74 : decode cL_isRun 74 = .ok (.aload_n 2, 1) := by decide +kernel
theorem dL_isRun_75 : decode cL_isRun 75 = .ok (.arraylength, 1) := by decide +kernel
theorem dL_isRun_76 : decode cL_isRun 76 = .ok (.if_icmp .gt 7, 3) := by decide +kernel
theorem dL_isRun_79 : decode cL_isRun 79 = .ok (.iconst 1, 1) := by decide +kernel
theorem dL_isRun_80 : decode cL_isRun 80 = .ok (.goto 4, 3) := by decide +kernel
theorem dL_isRun_83 : decode cL_isRun 83 = .ok (.iconst 0, 1) := by decide +kernel
theorem dL_isRun_84 : decode cL_isRun 84 = .ok (.istore 14, 2) := by decide +kernel
theorem dL_isRun_86 : decode cL_isRun 86 = .ok (.iconst 0, 1) := by decide +kernel
theorem dL_isRun_87 : decode cL_isRun 87 = .ok (.istore 15, 2) := by decide +kernel
theorem dL_isRun_89 : decode cL_isRun 89 = .ok (.iload 14, 2) := by decide +kernel
theorem dL_isRun_91 : decode cL_isRun 91 = .ok (.ifCond .eq 39, 3) := by decide +kernel
theorem dL_isRun_94 : decode cL_isRun 94 = .ok (.iload 15, 2) := by decide +kernel
theorem dL_isRun_96 : decode cL_isRun 96 = .ok (.iload 4, 2) := by decide +kernel
theorem dL_isRun_98 : decode cL_isRun 98 = .ok (.if_icmp .ge 32, 3) := by decide +kernel
theorem dL_isRun_101 : decode cL_isRun 101 = .ok (.aload_n 2, 1) := by decide +kernel
theorem dL_isRun_102 : decode cL_isRun 102 = .ok (.iload 13, 2) := by decide +kernel
theorem dL_isRun_104 : decode cL_isRun 104 = .ok (.iload 15, 2) := by decide +kernel
theorem dL_isRun_106 : decode cL_isRun 106 = .ok (.iadd, 1) := by decide +kernel
theorem dL_isRun_107 : decode cL_isRun 107 = .ok (.caload, 1) := by decide +kernel
theorem dL_isRun_108 : decode cL_isRun 108 = .ok (.aload_n 2, 1) := by decide +kernel
theorem dL_isRun_109 : decode cL_isRun 109 = .ok (.iload_n 3, 1) := by decide +kernel
theorem dL_isRun_110 : decode cL_isRun 110 = .ok (.iload 15, 2) := by decide +kernel
theorem dL_isRun_112 : decode cL_isRun 112 = .ok (.iadd, 1) := by decide +kernel
theorem dL_isRun_113 : decode cL_isRun 113 = .ok (.caload, 1) := by decide +kernel
theorem dL_isRun_114 : decode cL_isRun 114 = .ok (.if_icmp .ne 7, 3) := by decide +kernel
theorem dL_isRun_117 : decode cL_isRun 117 = .ok (.iconst 1, 1) := by decide +kernel
theorem dL_isRun_118 : decode cL_isRun 118 = .ok (.goto 4, 3) := by decide +kernel
theorem dL_isRun_121 : decode cL_isRun 121 = .ok (.iconst 0, 1) := by decide +kernel
theorem dL_isRun_122 : decode cL_isRun 122 = .ok (.istore 14, 2) := by decide +kernel
theorem dL_isRun_124 : decode cL_isRun 124 = .ok (.iinc 15 1, 3) := by decide +kernel
theorem dL_isRun_127 : decode cL_isRun 127 = .ok (.goto (-38), 3) := by decide +kernel
theorem dL_isRun_130 : decode cL_isRun 130 = .ok (.aload_n 0, 1) := by decide +kernel
theorem dL_isRun_131 : decode cL_isRun 131 = .ok (.iload_n 1, 1) := by decide +kernel
theorem dL_isRun_132 : decode cL_isRun 132 = .ok (.iload 13, 2) := by decide +kernel
theorem dL_isRun_134 : decode cL_isRun 134 = .ok (.invokestatic 198, 3) := by decide +kernel
theorem dL_isRun_137 : decode cL_isRun 137 = .ok (.lstore 15, 2) := by decide +kernel
theorem dL_isRun_139 : decode cL_isRun 139 = .ok (.iload 14, 2) := by decide +kernel
theorem dL_isRun_141 : decode cL_isRun 141 = .ok (.lload 15, 2) := by decide +kernel
theorem dL_isRun_143 : decode cL_isRun 143 = .ok (.lload 7, 2) := by decide +kernel
theorem dL_isRun_145 : decode cL_isRun 145 = .ok (.lcmp, 1) := by decide +kernel
theorem dL_isRun_146 : decode cL_isRun 146 = .ok (.ifCond .lt 18, 3) := by decide +kernel
theorem dL_isRun_149 : decode cL_isRun 149 = .ok (.lload 15, 2) := by decide +kernel
theorem dL_isRun_151 : decode cL_isRun 151 = .ok (.lload 7, 2) := by decide +kernel
theorem dL_isRun_153 : decode cL_isRun 153 = .ok (.lload 5, 2) := by decide +kernel
theorem dL_isRun_155 : decode cL_isRun 155 = .ok (.ladd, 1) := by decide +kernel
theorem dL_isRun_156 : decode cL_isRun 156 = .ok (.lcmp, 1) := by decide +kernel
theorem dL_isRun_157 : decode cL_isRun 157 = .ok (.ifCond .ge 7, 3) := by decide +kernel
theorem dL_isRun_160 : decode cL_isRun 160 = .ok (.iconst 1, 1) := by decide +kernel
theorem dL_isRun_161 : decode cL_isRun 161 = .ok (.goto 4, 3) := by decide +kernel
theorem dL_isRun_164 : decode cL_isRun 164 = .ok (.iconst 0, 1) := by decide +kernel
theorem dL_isRun_165 : decode cL_isRun 165 = .ok (.if_icmp .eq 5, 3) := by decide +kernel
theorem dL_isRun_168 : decode cL_isRun 168 = .ok (.iconst 0, 1) := by decide +kernel
theorem dL_isRun_169 : decode cL_isRun 169 = .ok (.ireturn, 1) := by decide +kernel
theorem dL_isRun_170 : decode cL_isRun 170 = .ok (.iload 14, 2) := by decide +kernel
theorem dL_isRun_172 : decode cL_isRun 172 = .ok (.ifCond .eq 19, 3) := by decide +kernel
theorem dL_isRun_175 : decode cL_isRun 175 = .ok (.aload_n 0, 1) := by decide +kernel
theorem dL_isRun_176 : decode cL_isRun 176 = .ok (.iload_n 1, 1) := by decide +kernel
theorem dL_isRun_177 : decode cL_isRun 177 = .ok (.iload 11, 2) := by decide +kernel
theorem dL_isRun_179 : decode cL_isRun 179 = .ok (.invokestatic 200, 3) := by decide +kernel
theorem dL_isRun_182 : decode cL_isRun 182 = .ok (.iload 13, 2) := by decide +kernel
theorem dL_isRun_184 : decode cL_isRun 184 = .ok (.i2l, 1) := by decide +kernel
theorem dL_isRun_185 : decode cL_isRun 185 = .ok (.lcmp, 1) := by decide +kernel
theorem dL_isRun_186 : decode cL_isRun 186 = .ok (.ifCond .eq 5, 3) := by decide +kernel
theorem dL_isRun_189 : decode cL_isRun 189 = .ok (.iconst 0, 1) := by decide +kernel
theorem dL_isRun_190 : decode cL_isRun 190 = .ok (.ireturn, 1) := by decide +kernel
theorem dL_isRun_191 : decode cL_isRun 191 = .ok (.iload 11, 2) := by decide +kernel
theorem dL_isRun_193 : decode cL_isRun 193 = .ok (.iload 14, 2) := by decide +kernel
theorem dL_isRun_195 : decode cL_isRun 195 = .ok (.ifCond .eq 7, 3) := by decide +kernel
theorem dL_isRun_198 : decode cL_isRun 198 = .ok (.iconst 1, 1) := by decide +kernel
theorem dL_isRun_199 : decode cL_isRun 199 = .ok (.goto 4, 3) := by decide +kernel
theorem dL_isRun_202 : decode cL_isRun 202 = .ok (.iconst 0, 1) := by decide +kernel
theorem dL_isRun_203 : decode cL_isRun 203 = .ok (.iadd, 1) := by decide +kernel
theorem dL_isRun_204 : decode cL_isRun 204 = .ok (.istore 11, 2) := by decide +kernel
theorem dL_isRun_206 : decode cL_isRun 206 = .ok (.iload 14, 2) := by decide +kernel
theorem dL_isRun_208 : decode cL_isRun 208 = .ok (.ifCond .eq 13, 3) := by decide +kernel
theorem dL_isRun_211 : decode cL_isRun 211 = .ok (.iload 12, 2) := by decide +kernel
theorem dL_isRun_213 : decode cL_isRun 213 = .ok (.ifCond .ge 8, 3) := by decide +kernel
theorem dL_isRun_216 : decode cL_isRun 216 = .ok (.iload 13, 2) := by decide +kernel
theorem dL_isRun_218 : decode cL_isRun 218 = .ok (.goto 5, 3) := by decide +kernel
theorem dL_isRun_221 : decode cL_isRun 221 = .ok (.iload 12, 2) := by decide +kernel
theorem dL_isRun_223 : decode cL_isRun 223 = .ok (.istore 12, 2) := by decide +kernel
theorem dL_isRun_225 : decode cL_isRun 225 = .ok (.iinc 13 1, 3) := by decide +kernel
theorem dL_isRun_228 : decode cL_isRun 228 = .ok (.goto (-166), 3) := by decide +kernel
theorem dL_isRun_231 : decode cL_isRun 231 = .ok (.iload 11, 2) := by decide +kernel
theorem dL_isRun_233 : decode cL_isRun 233 = .ok (.i2l, 1) := by decide +kernel
theorem dL_isRun_234 : decode cL_isRun 234 = .ok (.lload 5, 2) := by decide +kernel
theorem dL_isRun_236 : decode cL_isRun 236 = .ok (.lcmp, 1) := by decide +kernel
theorem dL_isRun_237 : decode cL_isRun 237 = .ok (.ifCond .ne 36, 3) := by decide +kernel
theorem dL_isRun_240 : decode cL_isRun 240 = .ok (.aload_n 0, 1) := by decide +kernel
theorem dL_isRun_241 : decode cL_isRun 241 = .ok (.iload_n 1, 1) := by decide +kernel
theorem dL_isRun_242 : decode cL_isRun 242 = .ok (.iload 11, 2) := by decide +kernel
theorem dL_isRun_244 : decode cL_isRun 244 = .ok (.invokestatic 200, 3) := by decide +kernel
theorem dL_isRun_247 : decode cL_isRun 247 = .ok (.ldc2_w 59, 3) := by decide +kernel
theorem dL_isRun_250 : decode cL_isRun 250 = .ok (.lcmp, 1) := by decide +kernel
theorem dL_isRun_251 : decode cL_isRun 251 = .ok (.ifCond .ne 22, 3) := by decide +kernel
theorem dL_isRun_254 : decode cL_isRun 254 = .ok (.aload_n 0, 1) := by decide +kernel
theorem dL_isRun_255 : decode cL_isRun 255 = .ok (.iload_n 1, 1) := by decide +kernel
theorem dL_isRun_256 : decode cL_isRun 256 = .ok (.iload 4, 2) := by decide +kernel
theorem dL_isRun_258 : decode cL_isRun 258 = .ok (.invokestatic 202, 3) := by decide +kernel
theorem dL_isRun_261 : decode cL_isRun 261 = .ok (.lload 5, 2) := by decide +kernel
theorem dL_isRun_263 : decode cL_isRun 263 = .ok (.lcmp, 1) := by decide +kernel
theorem dL_isRun_264 : decode cL_isRun 264 = .ok (.ifCond .ne 9, 3) := by decide +kernel
theorem dL_isRun_267 : decode cL_isRun 267 = .ok (.iload 12, 2) := by decide +kernel
theorem dL_isRun_269 : decode cL_isRun 269 = .ok (.iload_n 3, 1) := by decide +kernel
theorem dL_isRun_270 : decode cL_isRun 270 = .ok (.if_icmp .le 5, 3) := by decide +kernel
theorem dL_isRun_273 : decode cL_isRun 273 = .ok (.iconst 0, 1) := by decide +kernel
theorem dL_isRun_274 : decode cL_isRun 274 = .ok (.ireturn, 1) := by decide +kernel
theorem dL_isRun_275 : decode cL_isRun 275 = .ok (.aload_n 0, 1) := by decide +kernel
theorem dL_isRun_276 : decode cL_isRun 276 = .ok (.iload_n 1, 1) := by decide +kernel
theorem dL_isRun_277 : decode cL_isRun 277 = .ok (.lload 9, 2) := by decide +kernel
theorem dL_isRun_279 : decode cL_isRun 279 = .ok (.l2i, 1) := by decide +kernel
theorem dL_isRun_280 : decode cL_isRun 280 = .ok (.invokestatic 204, 3) := by decide +kernel
theorem dL_isRun_283 : decode cL_isRun 283 = .ok (.iload 4, 2) := by decide +kernel
theorem dL_isRun_285 : decode cL_isRun 285 = .ok (.i2l, 1) := by decide +kernel
theorem dL_isRun_286 : decode cL_isRun 286 = .ok (.lcmp, 1) := by decide +kernel
theorem dL_isRun_287 : decode cL_isRun 287 = .ok (.ifCond .eq 5, 3) := by decide +kernel
theorem dL_isRun_290 : decode cL_isRun 290 = .ok (.iconst 0, 1) := by decide +kernel
theorem dL_isRun_291 : decode cL_isRun 291 = .ok (.ireturn, 1) := by decide +kernel
theorem dL_isRun_292 : decode cL_isRun 292 = .ok (.iconst 0, 1) := by decide +kernel
theorem dL_isRun_293 : decode cL_isRun 293 = .ok (.istore 13, 2) := by decide +kernel
theorem dL_isRun_295 : decode cL_isRun 295 = .ok (.iload 13, 2) := by decide +kernel
theorem dL_isRun_297 : decode cL_isRun 297 = .ok (.iload 4, 2) := by decide +kernel
theorem dL_isRun_299 : decode cL_isRun 299 = .ok (.if_icmp .ge 28, 3) := by decide +kernel
theorem dL_isRun_302 : decode cL_isRun 302 = .ok (.aload_n 0, 1) := by decide +kernel
theorem dL_isRun_303 : decode cL_isRun 303 = .ok (.iload 13, 2) := by decide +kernel
theorem dL_isRun_305 : decode cL_isRun 305 = .ok (.invokestatic 175, 3) := by decide +kernel
theorem dL_isRun_308 : decode cL_isRun 308 = .ok (.aload_n 2, 1) := by decide +kernel
theorem dL_isRun_309 : decode cL_isRun 309 = .ok (.iload_n 3, 1) := by decide +kernel
theorem dL_isRun_310 : decode cL_isRun 310 = .ok (.iload 13, 2) := by decide +kernel
theorem dL_isRun_312 : decode cL_isRun 312 = .ok (.iadd, 1) := by decide +kernel
theorem dL_isRun_313 : decode cL_isRun 313 = .ok (.caload, 1) := by decide +kernel
theorem dL_isRun_314 : decode cL_isRun 314 = .ok (.i2l, 1) := by decide +kernel
theorem dL_isRun_315 : decode cL_isRun 315 = .ok (.lcmp, 1) := by decide +kernel
theorem dL_isRun_316 : decode cL_isRun 316 = .ok (.ifCond .eq 5, 3) := by decide +kernel
theorem dL_isRun_319 : decode cL_isRun 319 = .ok (.iconst 0, 1) := by decide +kernel
theorem dL_isRun_320 : decode cL_isRun 320 = .ok (.ireturn, 1) := by decide +kernel
theorem dL_isRun_321 : decode cL_isRun 321 = .ok (.iinc 13 1, 3) := by decide +kernel
theorem dL_isRun_324 : decode cL_isRun 324 = .ok (.goto (-29), 3) := by decide +kernel
theorem dL_isRun_327 : decode cL_isRun 327 = .ok (.aload_n 0, 1) := by decide +kernel
theorem dL_isRun_328 : decode cL_isRun 328 = .ok (.iload_n 1, 1) := by decide +kernel
theorem dL_isRun_329 : decode cL_isRun 329 = .ok (.invokestatic 196, 3) := by decide +kernel
theorem dL_isRun_332 : decode cL_isRun 332 = .ok (.lload 9, 2) := by decide +kernel
theorem dL_isRun_334 : decode cL_isRun 334 = .ok (.lcmp, 1) := by decide +kernel
theorem dL_isRun_335 : decode cL_isRun 335 = .ok (.ifCond .ne 25, 3) := by decide +kernel
theorem dL_isRun_338 : decode cL_isRun 338 = .ok (.lload 9, 2) := by decide +kernel
theorem dL_isRun_340 : decode cL_isRun 340 = .ok (.lconst 0, 1) := by decide +kernel
theorem dL_isRun_341 : decode cL_isRun 341 = .ok (.lcmp, 1) := by decide +kernel
theorem dL_isRun_342 : decode cL_isRun 342 = .ok (.ifCond .lt 18, 3) := by decide +kernel
theorem dL_isRun_345 : decode cL_isRun 345 = .ok (.lload 9, 2) := by decide +kernel
theorem dL_isRun_347 : decode cL_isRun 347 = .ok (.aload_n 0, 1) := by decide +kernel
theorem dL_isRun_348 : decode cL_isRun 348 = .ok (.iload_n 1, 1) := by decide +kernel
theorem dL_isRun_349 : decode cL_isRun 349 = .ok (.invokestatic 206, 3) := by decide +kernel
theorem dL_isRun_352 : decode cL_isRun 352 = .ok (.lcmp, 1) := by decide +kernel
theorem dL_isRun_353 : decode cL_isRun 353 = .ok (.ifCond .ge 7, 3) := by decide +kernel
theorem dL_isRun_356 : decode cL_isRun 356 = .ok (.iconst 1, 1) := by decide +kernel
theorem dL_isRun_357 : decode cL_isRun 357 = .ok (.goto 4, 3) := by decide +kernel
theorem dL_isRun_360 : decode cL_isRun 360 = .ok (.iconst 0, 1) := by decide +kernel
theorem dL_isRun_361 : decode cL_isRun 361 = .ok (.ireturn, 1) := by decide +kernel
end
section
theorem dL_law_0 : decode cL_law 0 = .ok (.new 12, 3) := by decide +kernel
theorem dL_law_3 : decode cL_law 3 = .ok (.dup, 1) := by decide +kernel
theorem dL_law_4 : decode cL_law 4 = .ok (.invokespecial 208, 3) := by decide +kernel
theorem dL_law_7 : decode cL_law 7 = .ok (.astore_n 1, 1) := by decide +kernel
theorem dL_law_8 : decode cL_law 8 = .ok (.aload_n 0, 1) := by decide +kernel
theorem dL_law_9 : decode cL_law 9 = .ok (.invokestatic 209, 3) := by decide +kernel
theorem dL_law_12 : decode cL_law 12 = .ok (.astore_n 2, 1) := by decide +kernel
theorem dL_law_13 : decode cL_law 13 = .ok (.aload_n 2, 1) := by decide +kernel
theorem dL_law_14 : decode cL_law 14 = .ok (.arraylength, 1) := by decide +kernel
theorem dL_law_15 : decode cL_law 15 = .ok (.istore_n 3, 1) := by decide +kernel
theorem dL_law_16 : decode cL_law 16 = .ok (.aload_n 1, 1) := by decide +kernel
theorem dL_law_17 : decode cL_law 17 = .ok (.aload_n 2, 1) := by decide +kernel
theorem dL_law_18 : decode cL_law 18 = .ok (.invokestatic 213, 3) := by decide +kernel
theorem dL_law_21 : decode cL_law 21 = .ok (.istore 4, 2) := by decide +kernel
theorem dL_law_23 : decode cL_law 23 = .ok (.iload 4, 2) := by decide +kernel
theorem dL_law_25 : decode cL_law 25 = .ok (.ifCond .ne 13, 3) := by decide +kernel
theorem dL_law_28 : decode cL_law 28 = .ok (.aload_n 1, 1) := by decide +kernel
theorem dL_law_29 : decode cL_law 29 = .ok (.iload 4, 2) := by decide +kernel
theorem dL_law_31 : decode cL_law 31 = .ok (.aload_n 2, 1) := by decide +kernel
theorem dL_law_32 : decode cL_law 32 = .ok (.invokestatic 217, 3) := by decide +kernel
theorem dL_law_35 : decode cL_law 35 = .ok (.ifCond .ne 5, 3) := by decide +kernel
theorem dL_law_38 : decode cL_law 38 = .ok (.iconst 0, 1) := by decide +kernel
theorem dL_law_39 : decode cL_law 39 = .ok (.ireturn, 1) := by decide +kernel
theorem dL_law_40 : decode cL_law 40 = .ok (.lconst 0, 1) := by decide +kernel
theorem dL_law_41 : decode cL_law 41 = .ok (.lstore 5, 2) := by decide +kernel
theorem dL_law_43 : decode cL_law 43 = .ok (.lconst 0, 1) := by decide +kernel
theorem dL_law_44 : decode cL_law 44 = .ok (.lstore 7, 2) := by decide +kernel
theorem dL_law_46 : decode cL_law 46 = .ok (.iconst 0, 1) := by decide +kernel
theorem dL_law_47 : decode cL_law 47 = .ok (.istore 9, 2) := by decide +kernel
theorem dL_law_49 : decode cL_law 49 = .ok (.iload 9, 2) := by decide +kernel
theorem dL_law_51 : decode cL_law 51 = .ok (.iload_n 3, 1) := by decide +kernel
theorem dL_law_52 : decode cL_law 52 = .ok (.if_icmp .ge 71, 3) := by decide +kernel
theorem dL_law_55 : decode cL_law 55 = .ok (.aload_n 1, 1) := by decide +kernel
theorem dL_law_56 : decode cL_law 56 = .ok (.iconst 0, 1) := by decide +kernel
theorem dL_law_57 : decode cL_law 57 = .ok (.iload 9, 2) := by decide +kernel
theorem dL_law_59 : decode cL_law 59 = .ok (.invokestatic 221, 3) := by decide +kernel
theorem dL_law_62 : decode cL_law 62 = .ok (.lstore 10, 2) := by decide +kernel
theorem dL_law_64 : decode cL_law 64 = .ok (.lload 5, 2) := by decide +kernel
theorem dL_law_66 : decode cL_law 66 = .ok (.lload 10, 2) := by decide +kernel
theorem dL_law_68 : decode cL_law 68 = .ok (.ladd, 1) := by decide +kernel
theorem dL_law_69 : decode cL_law 69 = .ok (.lstore 5, 2) := by decide +kernel
theorem dL_law_71 : decode cL_law 71 = .ok (.lload 7, 2) := by decide +kernel
theorem dL_law_73 : decode cL_law 73 = .ok (.lload 10, 2) := by decide +kernel
theorem dL_law_75 : decode cL_law 75 = .ok (.invokestatic 223, 3) := by decide +kernel
theorem dL_law_78 : decode cL_law 78 = .ok (.lstore 7, 2) := by decide +kernel
theorem dL_law_80 : decode cL_law 80 = .ok (.iload 9, 2) := by decide +kernel
theorem dL_law_82 : decode cL_law 82 = .ok (.ifCond .le 35, 3) := by decide +kernel
theorem dL_law_85 : decode cL_law 85 = .ok (.lload 10, 2) := by decide +kernel
theorem dL_law_87 : decode cL_law 87 = .ok (.aload_n 1, 1) := by decide +kernel
theorem dL_law_88 : decode cL_law 88 = .ok (.iconst 0, 1) := by decide +kernel
theorem dL_law_89 : decode cL_law 89 = .ok (.aload_n 1, 1) := by decide +kernel
theorem dL_law_90 : decode cL_law 90 = .ok (.iconst 0, 1) := by decide +kernel
theorem dL_law_91 : decode cL_law 91 = .ok (.iload 9, 2) := by decide +kernel
theorem dL_law_93 : decode cL_law 93 = .ok (.iconst 1, 1) := by decide +kernel
theorem dL_law_94 : decode cL_law 94 = .ok (.isub, 1) := by decide +kernel
theorem dL_law_95 : decode cL_law 95 = .ok (.invokestatic 229, 3) := by decide +kernel
theorem dL_law_98 : decode cL_law 98 = .ok (.l2i, 1) := by decide +kernel
theorem dL_law_99 : decode cL_law 99 = .ok (.iconst 0, 1) := by decide +kernel
theorem dL_law_100 : decode cL_law 100 = .ok (.aload_n 1, 1) := by decide +kernel
theorem dL_law_101 : decode cL_law 101 = .ok (.iconst 0, 1) := by decide +kernel
theorem dL_law_102 : decode cL_law 102 = .ok (.iload 9, 2) := by decide +kernel
theorem dL_law_104 : decode cL_law 104 = .ok (.invokestatic 229, 3) := by decide +kernel
theorem dL_law_107 : decode cL_law 107 = .ok (.l2i, 1) := by decide +kernel
theorem dL_law_108 : decode cL_law 108 = .ok (.invokestatic 231, 3) := by decide +kernel
theorem dL_law_111 : decode cL_law 111 = .ok (.lcmp, 1) := by decide +kernel
theorem dL_law_112 : decode cL_law 112 = .ok (.ifCond .eq 5, 3) := by decide +kernel
theorem dL_law_115 : decode cL_law 115 = .ok (.iconst 0, 1) := by decide +kernel
theorem dL_law_116 : decode cL_law 116 = .ok (.ireturn, 1) := by decide +kernel
theorem dL_law_117 : decode cL_law 117 = .ok (.iinc 9 1, 3) := by decide +kernel
theorem dL_law_120 : decode cL_law 120 = .ok (.goto (-71), 3) := by decide +kernel
theorem dL_law_123 : decode cL_law 123 = .ok (.aload_n 1, 1) := by decide +kernel
theorem dL_law_124 : decode cL_law 124 = .ok (.iconst 0, 1) := by decide +kernel
theorem dL_law_125 : decode cL_law 125 = .ok (.invokestatic 206, 3) := by decide +kernel
theorem dL_law_128 : decode cL_law 128 = .ok (.iload_n 3, 1) := by decide +kernel
theorem dL_law_129 : decode cL_law 129 = .ok (.i2l, 1) := by decide +kernel
theorem dL_law_130 : decode cL_law 130 = .ok (.iload_n 3, 1) := by decide +kernel
theorem dL_law_131 : decode cL_law 131 = .ok (.i2l, 1) := by decide +kernel
theorem dL_law_132 : decode cL_law 132 = .ok (.lconst 1, 1) := by decide +kernel
theorem dL_law_133 : decode cL_law 133 = .ok (.ladd, 1) := by decide +kernel
theorem dL_law_134 : decode cL_law 134 = .ok (.lmul, 1) := by decide +kernel
theorem dL_law_135 : decode cL_law 135 = .ok (.ldc2_w 234, 3) := by decide +kernel
theorem dL_law_138 : decode cL_law 138 = .ok (.ldiv, 1) := by decide +kernel
theorem dL_law_139 : decode cL_law 139 = .ok (.lload 5, 2) := by decide +kernel
theorem dL_law_141 : decode cL_law 141 = .ok (.lsub, 1) := by decide +kernel
theorem dL_law_142 : decode cL_law 142 = .ok (.lcmp, 1) := by decide +kernel
theorem dL_law_143 : decode cL_law 143 = .ok (.ifCond .ne 44, 3) := by decide +kernel
theorem dL_law_146 : decode cL_law 146 = .ok (.aload_n 1, 1) := by decide +kernel
theorem dL_law_147 : decode cL_law 147 = .ok (.iconst 0, 1) := by decide +kernel
theorem dL_law_148 : decode cL_law 148 = .ok (.invokestatic 236, 3) := by decide +kernel
theorem dL_law_151 : decode cL_law 151 = .ok (.lload 7, 2) := by decide +kernel
theorem dL_law_153 : decode cL_law 153 = .ok (.lcmp, 1) := by decide +kernel
theorem dL_law_154 : decode cL_law 154 = .ok (.ifCond .ne 33, 3) := by decide +kernel
theorem dL_law_157 : decode cL_law 157 = .ok (.aload_n 1, 1) := by decide +kernel
theorem dL_law_158 : decode cL_law 158 = .ok (.iconst 0, 1) := by decide +kernel
theorem dL_law_159 : decode cL_law 159 = .ok (.invokestatic 238, 3) := by decide +kernel
theorem dL_law_162 : decode cL_law 162 = .ok (.lconst 0, 1) := by decide +kernel
theorem dL_law_163 : decode cL_law 163 = .ok (.lcmp, 1) := by decide +kernel
theorem dL_law_164 : decode cL_law 164 = .ok (.ifCond .ge 7, 3) := by decide +kernel
theorem dL_law_167 : decode cL_law 167 = .ok (.iconst 1, 1) := by decide +kernel
theorem dL_law_168 : decode cL_law 168 = .ok (.goto 4, 3) := by decide +kernel
theorem dL_law_171 : decode cL_law 171 = .ok (.iconst 0, 1) := by decide +kernel
theorem dL_law_172 : decode cL_law 172 = .ok (.lload 7, 2) := by decide +kernel
theorem dL_law_174 : decode cL_law 174 = .ok (.lconst 0, 1) := by decide +kernel
theorem dL_law_175 : decode cL_law 175 = .ok (.lcmp, 1) := by decide +kernel
theorem dL_law_176 : decode cL_law 176 = .ok (.ifCond .ne 7, 3) := by decide +kernel
theorem dL_law_179 : decode cL_law 179 = .ok (.iconst 1, 1) := by decide +kernel
theorem dL_law_180 : decode cL_law 180 = .ok (.goto 4, 3) := by decide +kernel
theorem dL_law_183 : decode cL_law 183 = .ok (.iconst 0, 1) := by decide +kernel
theorem dL_law_184 : decode cL_law 184 = .ok (.if_icmp .eq 5, 3) := by decide +kernel
theorem dL_law_187 : decode cL_law 187 = .ok (.iconst 0, 1) := by decide +kernel
theorem dL_law_188 : decode cL_law 188 = .ok (.ireturn, 1) := by decide +kernel
theorem dL_law_189 : decode cL_law 189 = .ok (.iconst 0, 1) := by decide +kernel
theorem dL_law_190 : decode cL_law 190 = .ok (.istore 9, 2) := by decide +kernel
theorem dL_law_192 : decode cL_law 192 = .ok (.iload_n 3, 1) := by decide +kernel
theorem dL_law_193 : decode cL_law 193 = .ok (.i2l, 1) := by decide +kernel
theorem dL_law_194 : decode cL_law 194 = .ok (.lstore 10, 2) := by decide +kernel
theorem dL_law_196 : decode cL_law 196 = .ok (.iconst 0, 1) := by decide +kernel
theorem dL_law_197 : decode cL_law 197 = .ok (.istore 12, 2) := by decide +kernel
theorem dL_law_199 : decode cL_law 199 = .ok (.iload 12, 2) := by decide +kernel
theorem dL_law_201 : decode cL_law 201 = .ok (.iload_n 3, 1) := by decide +kernel
theorem dL_law_202 : decode cL_law 202 = .ok (.if_icmp .ge 50, 3) := by decide +kernel
theorem dL_law_205 : decode cL_law 205 = .ok (.aload_n 1, 1) := by decide +kernel
theorem dL_law_206 : decode cL_law 206 = .ok (.iconst 0, 1) := by decide +kernel
theorem dL_law_207 : decode cL_law 207 = .ok (.iload 12, 2) := by decide +kernel
theorem dL_law_209 : decode cL_law 209 = .ok (.invokestatic 198, 3) := by decide +kernel
theorem dL_law_212 : decode cL_law 212 = .ok (.lload 10, 2) := by decide +kernel
theorem dL_law_214 : decode cL_law 214 = .ok (.lcmp, 1) := by decide +kernel
theorem dL_law_215 : decode cL_law 215 = .ok (.ifCond .ge 31, 3) := by decide +kernel
theorem dL_law_218 : decode cL_law 218 = .ok (.aload_n 1, 1) := by decide +kernel
theorem dL_law_219 : decode cL_law 219 = .ok (.iconst 0, 1) := by decide +kernel
theorem dL_law_220 : decode cL_law 220 = .ok (.iload 9, 2) := by decide +kernel
theorem dL_law_222 : decode cL_law 222 = .ok (.invokestatic 240, 3) := by decide +kernel
theorem dL_law_225 : decode cL_law 225 = .ok (.iload 12, 2) := by decide +kernel
theorem dL_law_227 : decode cL_law 227 = .ok (.i2l, 1) := by decide +kernel
theorem dL_law_228 : decode cL_law 228 = .ok (.lcmp, 1) := by decide +kernel
theorem dL_law_229 : decode cL_law 229 = .ok (.ifCond .eq 5, 3) := by decide +kernel
theorem dL_law_232 : decode cL_law 232 = .ok (.iconst 0, 1) := by decide +kernel
theorem dL_law_233 : decode cL_law 233 = .ok (.ireturn, 1) := by decide +kernel
theorem dL_law_234 : decode cL_law 234 = .ok (.aload_n 1, 1) := by decide +kernel
theorem dL_law_235 : decode cL_law 235 = .ok (.iconst 0, 1) := by decide +kernel
theorem dL_law_236 : decode cL_law 236 = .ok (.iload 12, 2) := by decide +kernel
theorem dL_law_238 : decode cL_law 238 = .ok (.invokestatic 198, 3) := by decide +kernel
theorem dL_law_241 : decode cL_law 241 = .ok (.lstore 10, 2) := by decide +kernel
theorem dL_law_243 : decode cL_law 243 = .ok (.iinc 9 1, 3) := by decide +kernel
theorem dL_law_246 : decode cL_law 246 = .ok (.iinc 12 1, 3) := by decide +kernel
theorem dL_law_249 : decode cL_law 249 = .ok (.goto (-50), 3) := by decide +kernel
theorem dL_law_252 : decode cL_law 252 = .ok (.aload_n 1, 1) := by decide +kernel
theorem dL_law_253 : decode cL_law 253 = .ok (.iconst 0, 1) := by decide +kernel
theorem dL_law_254 : decode cL_law 254 = .ok (.invokestatic 242, 3) := by decide +kernel
theorem dL_law_257 : decode cL_law 257 = .ok (.iload 9, 2) := by decide +kernel
theorem dL_law_259 : decode cL_law 259 = .ok (.i2l, 1) := by decide +kernel
theorem dL_law_260 : decode cL_law 260 = .ok (.lcmp, 1) := by decide +kernel
theorem dL_law_261 : decode cL_law 261 = .ok (.ifCond .ne 17, 3) := by decide +kernel
theorem dL_law_264 : decode cL_law 264 = .ok (.aload_n 1, 1) := by decide +kernel
theorem dL_law_265 : decode cL_law 265 = .ok (.iconst 0, 1) := by decide +kernel
theorem dL_law_266 : decode cL_law 266 = .ok (.invokestatic 244, 3) := by decide +kernel
theorem dL_law_269 : decode cL_law 269 = .ok (.aload_n 1, 1) := by decide +kernel
theorem dL_law_270 : decode cL_law 270 = .ok (.iconst 0, 1) := by decide +kernel
theorem dL_law_271 : decode cL_law 271 = .ok (.invokestatic 246, 3) := by decide +kernel
theorem dL_law_274 : decode cL_law 274 = .ok (.lcmp, 1) := by decide +kernel
theorem dL_law_275 : decode cL_law 275 = .ok (.ifCond .eq 5, 3) := by decide +kernel
theorem dL_law_278 : decode cL_law 278 = .ok (.iconst 0, 1) := by decide +kernel
theorem dL_law_279 : decode cL_law 279 = .ok (.ireturn, 1) := by decide +kernel
theorem dL_law_280 : decode cL_law 280 = .ok (.iconst 1, 1) := by decide +kernel
theorem dL_law_281 : decode cL_law 281 = .ok (.istore 12, 2) := by decide +kernel
theorem dL_law_283 : decode cL_law 283 = .ok (.iconst 0, 1) := by decide +kernel
theorem dL_law_284 : decode cL_law 284 = .ok (.istore 13, 2) := by decide +kernel
theorem dL_law_286 : decode cL_law 286 = .ok (.iload_n 3, 1) := by decide +kernel
theorem dL_law_287 : decode cL_law 287 = .ok (.ifCond .ne 7, 3) := by decide +kernel
theorem dL_law_290 : decode cL_law 290 = .ok (.iconst 1, 1) := by decide +kernel
theorem dL_law_291 : decode cL_law 291 = .ok (.goto 4, 3) := by decide +kernel
theorem dL_law_294 : decode cL_law 294 = .ok (.iconst 0, 1) := by decide +kernel
theorem dL_law_295 : decode cL_law 295 = .ok (.istore 14, 2) := by decide +kernel
theorem dL_law_297 : decode cL_law 297 = .ok (.iload 14, 2) := by decide +kernel
theorem dL_law_299 : decode cL_law 299 = .ok (.ifCond .ne 40, 3) := by decide +kernel
theorem dL_law_302 : decode cL_law 302 = .ok (.aload_n 1, 1) := by decide +kernel
theorem dL_law_303 : decode cL_law 303 = .ok (.iconst 0, 1) := by decide +kernel
theorem dL_law_304 : decode cL_law 304 = .ok (.bipush 64, 2) := by decide +kernel
theorem dL_law_306 : decode cL_law 306 = .ok (.iload 12, 2) := by decide +kernel
theorem dL_law_308 : decode cL_law 308 = .ok (.invokestatic 248, 3) := by decide +kernel
theorem dL_law_311 : decode cL_law 311 = .ok (.invokestatic 251, 3) := by decide +kernel
theorem dL_law_314 : decode cL_law 314 = .ok (.iload_n 3, 1) := by decide +kernel
theorem dL_law_315 : decode cL_law 315 = .ok (.i2l, 1) := by decide +kernel
theorem dL_law_316 : decode cL_law 316 = .ok (.lcmp, 1) := by decide +kernel
theorem dL_law_317 : decode cL_law 317 = .ok (.ifCond .ne 7, 3) := by decide +kernel
theorem dL_law_320 : decode cL_law 320 = .ok (.iconst 1, 1) := by decide +kernel
theorem dL_law_321 : decode cL_law 321 = .ok (.goto 4, 3) := by decide +kernel
theorem dL_law_324 : decode cL_law 324 = .ok (.iconst 0, 1) := by decide +kernel
theorem dL_law_325 : decode cL_law 325 = .ok (.istore 14, 2) := by decide +kernel
theorem dL_law_327 : decode cL_law 327 = .ok (.iinc 13 1, 3) := by decide +kernel
theorem dL_law_330 : decode cL_law 330 = .ok (.iload 12, 2) := by decide +kernel
theorem dL_law_332 : decode cL_law 332 = .ok (.iconst 2, 1) := by decide +kernel
theorem dL_law_333 : decode cL_law 333 = .ok (.imul, 1) := by decide +kernel
theorem dL_law_334 : decode cL_law 334 = .ok (.istore 12, 2) := by decide +kernel
theorem dL_law_336 : decode cL_law 336 = .ok (.goto (-39), 3) := by decide +kernel
theorem dL_law_339 : decode cL_law 339 = .ok (.aload_n 1, 1) := by decide +kernel
theorem dL_law_340 : decode cL_law 340 = .ok (.iconst 0, 1) := by decide +kernel
theorem dL_law_341 : decode cL_law 341 = .ok (.invokestatic 253, 3) := by decide +kernel
theorem dL_law_344 : decode cL_law 344 = .ok (.iload 13, 2) := by decide +kernel
theorem dL_law_346 : decode cL_law 346 = .ok (.i2l, 1) := by decide +kernel
theorem dL_law_347 : decode cL_law 347 = .ok (.lcmp, 1) := by decide +kernel
theorem dL_law_348 : decode cL_law 348 = .ok (.ifCond .eq 5, 3) := by decide +kernel
theorem dL_law_351 : decode cL_law 351 = .ok (.iconst 0, 1) := by decide +kernel
theorem dL_law_352 : decode cL_law 352 = .ok (.ireturn, 1) := by decide +kernel
theorem dL_law_353 : decode cL_law 353 = .ok (.iconst 0, 1) := by decide +kernel
theorem dL_law_354 : decode cL_law 354 = .ok (.istore 14, 2) := by decide +kernel
theorem dL_law_356 : decode cL_law 356 = .ok (.iload 14, 2) := by decide +kernel
theorem dL_law_358 : decode cL_law 358 = .ok (.iconst 3, 1) := by decide +kernel
theorem dL_law_359 : decode cL_law 359 = .ok (.if_icmp .ge 63, 3) := by decide +kernel
theorem dL_law_362 : decode cL_law 362 = .ok (.iload_n 3, 1) := by decide +kernel
theorem dL_law_363 : decode cL_law 363 = .ok (.ifCond .le 59, 3) := by decide +kernel
theorem dL_law_366 : decode cL_law 366 = .ok (.aload_n 0, 1) := by decide +kernel
theorem dL_law_367 : decode cL_law 367 = .ok (.bipush 80, 2) := by decide +kernel
theorem dL_law_369 : decode cL_law 369 = .ok (.iconst 2, 1) := by decide +kernel
theorem dL_law_370 : decode cL_law 370 = .ok (.iload 14, 2) := by decide +kernel
theorem dL_law_372 : decode cL_law 372 = .ok (.imul, 1) := by decide +kernel
theorem dL_law_373 : decode cL_law 373 = .ok (.iadd, 1) := by decide +kernel
theorem dL_law_374 : decode cL_law 374 = .ok (.invokestatic 153, 3) := by decide +kernel
theorem dL_law_377 : decode cL_law 377 = .ok (.iload_n 3, 1) := by decide +kernel
theorem dL_law_378 : decode cL_law 378 = .ok (.invokestatic 157, 3) := by decide +kernel
theorem dL_law_381 : decode cL_law 381 = .ok (.istore 15, 2) := by decide +kernel
theorem dL_law_383 : decode cL_law 383 = .ok (.aload_n 1, 1) := by decide +kernel
theorem dL_law_384 : decode cL_law 384 = .ok (.iconst 0, 1) := by decide +kernel
theorem dL_law_385 : decode cL_law 385 = .ok (.aload_n 2, 1) := by decide +kernel
theorem dL_law_386 : decode cL_law 386 = .ok (.iload 15, 2) := by decide +kernel
theorem dL_law_388 : decode cL_law 388 = .ok (.iconst 1, 1) := by decide +kernel
theorem dL_law_389 : decode cL_law 389 = .ok (.aload_n 0, 1) := by decide +kernel
theorem dL_law_390 : decode cL_law 390 = .ok (.bipush 81, 2) := by decide +kernel
theorem dL_law_392 : decode cL_law 392 = .ok (.iconst 2, 1) := by decide +kernel
theorem dL_law_393 : decode cL_law 393 = .ok (.iload 14, 2) := by decide +kernel
theorem dL_law_395 : decode cL_law 395 = .ok (.imul, 1) := by decide +kernel
theorem dL_law_396 : decode cL_law 396 = .ok (.iadd, 1) := by decide +kernel
theorem dL_law_397 : decode cL_law 397 = .ok (.invokestatic 153, 3) := by decide +kernel
theorem dL_law_400 : decode cL_law 400 = .ok (.iload_n 3, 1) := by decide +kernel
theorem dL_law_401 : decode cL_law 401 = .ok (.iload 15, 2) := by decide +kernel
theorem dL_law_403 : decode cL_law 403 = .ok (.isub, 1) := by decide +kernel
theorem dL_law_404 : decode cL_law 404 = .ok (.invokestatic 157, 3) := by decide +kernel
theorem dL_law_407 : decode cL_law 407 = .ok (.iadd, 1) := by decide +kernel
theorem dL_law_408 : decode cL_law 408 = .ok (.invokestatic 255, 3) := by decide +kernel
theorem dL_law_411 : decode cL_law 411 = .ok (.ifCond .ne 5, 3) := by decide +kernel
theorem dL_law_414 : decode cL_law 414 = .ok (.iconst 0, 1) := by decide +kernel
theorem dL_law_415 : decode cL_law 415 = .ok (.ireturn, 1) := by decide +kernel
theorem dL_law_416 : decode cL_law 416 = .ok (.iinc 14 1, 3) := by decide +kernel
theorem dL_law_419 : decode cL_law 419 = .ok (.goto (-63), 3) := by decide +kernel
theorem dL_law_422 : decode cL_law 422 = .ok (.aload_n 1, 1) := by decide +kernel
theorem dL_law_423 : decode cL_law 423 = .ok (.iconst 0, 1) := by decide +kernel
theorem dL_law_424 : decode cL_law 424 = .ok (.invokestatic 259, 3) := by decide +kernel
theorem dL_law_427 : decode cL_law 427 = .ok (.lstore 14, 2) := by decide +kernel
theorem dL_law_429 : decode cL_law 429 = .ok (.aload_n 1, 1) := by decide +kernel
theorem dL_law_430 : decode cL_law 430 = .ok (.lload 14, 2) := by decide +kernel
theorem dL_law_432 : decode cL_law 432 = .ok (.l2i, 1) := by decide +kernel
theorem dL_law_433 : decode cL_law 433 = .ok (.invokestatic 206, 3) := by decide +kernel
theorem dL_law_436 : decode cL_law 436 = .ok (.aload_n 1, 1) := by decide +kernel
theorem dL_law_437 : decode cL_law 437 = .ok (.iconst 0, 1) := by decide +kernel
theorem dL_law_438 : decode cL_law 438 = .ok (.invokestatic 206, 3) := by decide +kernel
theorem dL_law_441 : decode cL_law 441 = .ok (.lcmp, 1) := by decide +kernel
theorem dL_law_442 : decode cL_law 442 = .ok (.ifCond .ne 51, 3) := by decide +kernel
theorem dL_law_445 : decode cL_law 445 = .ok (.aload_n 1, 1) := by decide +kernel
theorem dL_law_446 : decode cL_law 446 = .ok (.lload 14, 2) := by decide +kernel
theorem dL_law_448 : decode cL_law 448 = .ok (.l2i, 1) := by decide +kernel
theorem dL_law_449 : decode cL_law 449 = .ok (.invokestatic 236, 3) := by decide +kernel
theorem dL_law_452 : decode cL_law 452 = .ok (.aload_n 1, 1) := by decide +kernel
theorem dL_law_453 : decode cL_law 453 = .ok (.iconst 0, 1) := by decide +kernel
theorem dL_law_454 : decode cL_law 454 = .ok (.invokestatic 236, 3) := by decide +kernel
theorem dL_law_457 : decode cL_law 457 = .ok (.lcmp, 1) := by decide +kernel
theorem dL_law_458 : decode cL_law 458 = .ok (.ifCond .ne 35, 3) := by decide +kernel
theorem dL_law_461 : decode cL_law 461 = .ok (.aload_n 1, 1) := by decide +kernel
theorem dL_law_462 : decode cL_law 462 = .ok (.lload 14, 2) := by decide +kernel
theorem dL_law_464 : decode cL_law 464 = .ok (.l2i, 1) := by decide +kernel
theorem dL_law_465 : decode cL_law 465 = .ok (.invokestatic 261, 3) := by decide +kernel
theorem dL_law_468 : decode cL_law 468 = .ok (.aload_n 1, 1) := by decide +kernel
theorem dL_law_469 : decode cL_law 469 = .ok (.iconst 0, 1) := by decide +kernel
theorem dL_law_470 : decode cL_law 470 = .ok (.invokestatic 261, 3) := by decide +kernel
theorem dL_law_473 : decode cL_law 473 = .ok (.lcmp, 1) := by decide +kernel
theorem dL_law_474 : decode cL_law 474 = .ok (.ifCond .ne 19, 3) := by decide +kernel
theorem dL_law_477 : decode cL_law 477 = .ok (.aload_n 1, 1) := by decide +kernel
theorem dL_law_478 : decode cL_law 478 = .ok (.lload 14, 2) := by decide +kernel
theorem dL_law_480 : decode cL_law 480 = .ok (.l2i, 1) := by decide +kernel
theorem dL_law_481 : decode cL_law 481 = .ok (.invokestatic 263, 3) := by decide +kernel
theorem dL_law_484 : decode cL_law 484 = .ok (.aload_n 1, 1) := by decide +kernel
theorem dL_law_485 : decode cL_law 485 = .ok (.iconst 0, 1) := by decide +kernel
theorem dL_law_486 : decode cL_law 486 = .ok (.invokestatic 263, 3) := by decide +kernel
theorem dL_law_489 : decode cL_law 489 = .ok (.lcmp, 1) := by decide +kernel
theorem dL_law_490 : decode cL_law 490 = .ok (.ifCond .eq 5, 3) := by decide +kernel
theorem dL_law_493 : decode cL_law 493 = .ok (.iconst 0, 1) := by decide +kernel
theorem dL_law_494 : decode cL_law 494 = .ok (.ireturn, 1) := by decide +kernel
theorem dL_law_495 : decode cL_law 495 = .ok (.iload_n 3, 1) := by decide +kernel
theorem dL_law_496 : decode cL_law 496 = .ok (.bipush 64, 2) := by decide +kernel
theorem dL_law_498 : decode cL_law 498 = .ok (.if_icmp .ge 21, 3) := by decide +kernel
theorem dL_law_501 : decode cL_law 501 = .ok (.aload_n 1, 1) := by decide +kernel
theorem dL_law_502 : decode cL_law 502 = .ok (.iconst 0, 1) := by decide +kernel
theorem dL_law_503 : decode cL_law 503 = .ok (.bipush 98, 2) := by decide +kernel
theorem dL_law_505 : decode cL_law 505 = .ok (.invokestatic 265, 3) := by decide +kernel
theorem dL_law_508 : decode cL_law 508 = .ok (.aload_n 1, 1) := by decide +kernel
theorem dL_law_509 : decode cL_law 509 = .ok (.iconst 0, 1) := by decide +kernel
theorem dL_law_510 : decode cL_law 510 = .ok (.invokestatic 268, 3) := by decide +kernel
theorem dL_law_513 : decode cL_law 513 = .ok (.lcmp, 1) := by decide +kernel
theorem dL_law_514 : decode cL_law 514 = .ok (.ifCond .eq 5, 3) := by decide +kernel
theorem dL_law_517 : decode cL_law 517 = .ok (.iconst 0, 1) := by decide +kernel
theorem dL_law_518 : decode cL_law 518 = .ok (.ireturn, 1) := by decide +kernel
theorem dL_law_519 : decode cL_law 519 = .ok (.aload_n 1, 1) := by decide +kernel
theorem dL_law_520 : decode cL_law 520 = .ok (.invokestatic 270, 3) := by decide +kernel
theorem dL_law_523 : decode cL_law 523 = .ok (.aload_n 1, 1) := by decide +kernel
theorem dL_law_524 : decode cL_law 524 = .ok (.invokestatic 270, 3) := by decide +kernel
theorem dL_law_527 : decode cL_law 527 = .ok (.lcmp, 1) := by decide +kernel
theorem dL_law_528 : decode cL_law 528 = .ok (.ifCond .ne 16, 3) := by decide +kernel
theorem dL_law_531 : decode cL_law 531 = .ok (.aload_n 1, 1) := by decide +kernel
theorem dL_law_532 : decode cL_law 532 = .ok (.invokestatic 272, 3) := by decide +kernel
theorem dL_law_535 : decode cL_law 535 = .ok (.lconst 1, 1) := by decide +kernel
theorem dL_law_536 : decode cL_law 536 = .ok (.lcmp, 1) := by decide +kernel
theorem dL_law_537 : decode cL_law 537 = .ok (.ifCond .ne 7, 3) := by decide +kernel
theorem dL_law_540 : decode cL_law 540 = .ok (.iconst 1, 1) := by decide +kernel
theorem dL_law_541 : decode cL_law 541 = .ok (.goto 4, 3) := by decide +kernel
theorem dL_law_544 : decode cL_law 544 = .ok (.iconst 0, 1) := by decide +kernel
theorem dL_law_545 : decode cL_law 545 = .ok (.ireturn, 1) := by decide +kernel
end
section
/-! THE ABSTRACT MACHINE: values are integers, longs, float and double bits, numbers of cells; a heap is a function from cell numbers and places to integers. am_V says: from an abstract state of a method's frame every concrete frame that it describes comes to the method's end. -/
abbrev AV : Type := Int ⊕ (Int ⊕ (UInt32 ⊕ (UInt64 ⊕ (Nat ⊕ Unit))))
abbrev aI (x : Int) : AV := Sum.inl x
abbrev aL (x : Int) : AV := Sum.inr (Sum.inl x)
abbrev aF (x : UInt32) : AV := Sum.inr (Sum.inr (Sum.inl x))
abbrev aD (x : UInt64) : AV := Sum.inr (Sum.inr (Sum.inr (Sum.inl x)))
abbrev aR (a : Nat) : AV := Sum.inr (Sum.inr (Sum.inr (Sum.inr (Sum.inl a))))
abbrev aU : AV := Sum.inr (Sum.inr (Sum.inr (Sum.inr (Sum.inr ()))))
def am_i (x : Int) : Prop := -2147483648 ≤ x ∧ x < 2147483648
def am_l (x : Int) : Prop := -9223372036854775808 ≤ x ∧ x < 9223372036854775808
def am_ok : AV → Prop
  | .inl x => am_i x
  | .inr (.inl x) => am_l x
  | _ => True
/-- the address of a cell number: 1000 is the script -/
def am_ad (B b a : Nat) : Nat := if a = 1000 then b else B + a
def am_v (B b : Nat) : AV → Value
  | .inl x => .int (Int32.ofInt x)
  | .inr (.inl x) => .long (Int64.ofInt x)
  | .inr (.inr (.inl x)) => .float x
  | .inr (.inr (.inr (.inl x))) => .double x
  | .inr (.inr (.inr (.inr (.inl a)))) => .ref (am_ad B b a)
  | .inr (.inr (.inr (.inr (.inr _)))) => .null
/-- a method: own class, name, code, locals, return type, arguments, cells, slots, frames, handlers, whether it is the law -/
abbrev MInfo : Type := String × MethodName × ByteArray × Nat × Option FieldType × Nat × Nat × Nat × Nat × List (Nat × Nat × Nat × Nat) × Bool
abbrev am_own (m : MInfo) : String := m.1
abbrev am_y (m : MInfo) : MethodName := m.2.1
abbrev am_cc (m : MInfo) : ByteArray := m.2.2.1
abbrev am_ml (m : MInfo) : Nat := m.2.2.2.1
abbrev am_rt (m : MInfo) : Option FieldType := m.2.2.2.2.1
abbrev am_n (m : MInfo) : Nat := m.2.2.2.2.2.1
abbrev am_kc (m : MInfo) : Nat := m.2.2.2.2.2.2.1
abbrev am_ks (m : MInfo) : Nat := m.2.2.2.2.2.2.2.1
abbrev am_fr (m : MInfo) : Nat := m.2.2.2.2.2.2.2.2.1
abbrev am_hh (m : MInfo) : List (Nat × Nat × Nat × Nat) := m.2.2.2.2.2.2.2.2.2.1
abbrev am_law (m : MInfo) : Bool := m.2.2.2.2.2.2.2.2.2.2
/-- kinds of cells, references, whether nothing else was made behind them -/
abbrev Rho : Type := List (Nat × Nat) × (Nat → Int → Option Nat) × Bool
abbrev Hh : Type := Nat → Int → Int
abbrev PQ : Type := List AV → Rho → Hh → Prop
abbrev PX : Type := String → Rho → Hh → Prop
abbrev am_cl : List vw_C := [(RX1, TX1, 3), (RX2, TX2, 1), (RX3, TX3, 0), (RX5, TX5, 3), (RX6, TX6, 5), (RX7, TX7, 5), (RX8, TX8, 2), (RX9, TX9, 5), (RX10, TX10, 10)]
def am_ref (ci k : Nat) : Bool := match ci with
  | 0 => true
  | 1 => true
  | 2 => false
  | 3 => Nat.beq k 0
  | 4 => Nat.ble k 3
  | 5 => true
  | 6 => Nat.beq k 0
  | 7 => Nat.ble k 2
  | 8 => Nat.ble k 8
  | _ => Nat.ble k 7
def am_fv (B ci k : Nat) (r : Option Nat) (h : Int) : Value := if am_ref ci k = true then va_rf (r.map (B + ·)) else .int (Int32.ofInt h)
def am_cell (B : Nat) (cA : Nat → ClassId) (kd : Nat × Nat) (r : Int → Option Nat) (h : Int → Int) : va_E :=
  if kd.1 = 0 then .inl (cA 0, kd.2, .inl (fun i => Int32.ofInt (h i)))
  else if kd.1 = 1 then .inl (cA 1, kd.2, .inl (fun i => Int32.ofInt (h i)))
  else if kd.1 = 2 then .inl (cA 2, kd.2, .inr (.inl (fun i => Int64.ofInt (h i))))
  else if kd.1 = 3 then .inl (cA 3, kd.2, .inr (.inr (.inr (.inl (fun i => UInt64.ofNat (h i).toNat)))))
  else if kd.1 = 4 then .inl (cA 4, kd.2, .inr (.inr (.inr (.inr (fun i => (r i).map (B + ·))))))
  else if kd.1 = 5 then .inl (cA 5, kd.2, .inr (.inr (.inr (.inr (fun i => (r i).map (B + ·))))))
  else .inr (kd.1 - 10, (List.range kd.2).map (fun (k : Nat) => am_fv B (kd.1 - 10) k (r k) (h k)))
def am_w (B : Nat) (cA : Nat → ClassId) (ρ : Rho) (h : Hh) : va_W := ρ.1.mapIdx (fun i kd => (B + i, am_cell B cA kd (ρ.2.1 i) (h i)))
def am_tys (cA : Nat → ClassId) : List (ClassId × FieldType) := [(cA 0, .int), (cA 1, .char), (cA 2, .int), (cA 3, .int), (cA 4, .object RX6), (cA 5, .array .int)]
/-- what a cell's integers are -/
def am_rg (kd : Nat × Nat) (h : Int → Int) : Prop := (kd.1 = 2 → ∀ i, am_l (h i)) ∧ (kd.1 ≠ 2 → kd.1 ≠ 3 → ∀ i, am_i (h i)) ∧ (kd.1 = 1 → ∀ i, 0 ≤ h i ∧ h i < 65536) ∧ (kd.1 = 3 → ∀ i, 0 ≤ h i ∧ h i < 18446744073709551616)
def am_HR (D : va_G) (cA : Nat → ClassId) (B : Nat) (g0 g1 : Int → Int) (ρ : Rho) (h : Hh) (H : Heap) : Prop :=
  va_P D am_cl (am_w B cA ρ h) H ∧ (ρ.2.2 = true → H.size = B + ρ.1.length) ∧ ρ.1.length ≤ 1000 ∧ (∀ a i x, ρ.2.1 a i = some x → x < 1000) ∧ (∀ (a : Nat) (kd : Nat × Nat), ρ.1[a]? = some kd → am_rg kd (h a)) ∧ h 1000 = g0 ∧ h 1001 = g1
def am_LR (B b : Nat) (ls : Array Slot) (nL : Nat) (E : List AV) : Prop :=
  ls.size = nL ∧ E.length = nL ∧ lv_wf ls ∧ ∀ (i : Nat) (v : AV), E[i]? = some v → v = aU ∨ (ls[i]? = some (.val (am_v B b v)) ∧ am_ok v)
def am_St (st : List AV) : Prop := ∀ v ∈ st, am_ok v
def am_w1 : Cond → Bool
  | .castable _ _ => true
  | .methodLinkNest _ _ _ _ => true
  | .declares _ => true
  | _ => false
def am_W0 : List Cond := lw_tbl.filter goodWord
def am_W1 : List Cond := lw_tbl.filter am_w1
/-- the pairs of classes of exceptions that are unlike -/
def am_X6 : List String := ["java/lang/IllegalArgumentException", "java/lang/IllegalStateException", "java/lang/IndexOutOfBoundsException", "java/lang/ArithmeticException", "java/lang/UnsupportedOperationException", "java/util/NoSuchElementException"]
def am_AO (U : State) : Prop := (Cond.arrayOver (.object RX6)).before #[] U = true ∧ (Cond.arrayOver (.array .int)).before #[] U = true
def am_strs (U : State) : Prop := (∀ (own : String) (k : Nat) (tx : String), Cond.stringRef own k tx ∈ lw_tbl → ∃ a, vk_R own k tx a U) ∧ am_AO U
def am_A (B : Nat) : Nat → Prop := fun q => B ≤ q
def am_C (m : MInfo) (l : Launch) (p : Program) (s : State) (R : Room) (i : MethodId) (args : Array Value) (meth : Method) (c : Code) (D : va_G) (cA : Nat → ClassId) (B b : Nat) (g0 g1 : Int → Int) : Prop :=
  l.stackTraces = false ∧ p.tables.exec = Jvm.exec ∧ c.code = am_cc m ∧ meth.sig.returnType = am_rt m ∧ c.maxLocals = am_ml m ∧ s.vm.findClass (am_own m) = some i.cls ∧ (∀ w ∈ am_W0, w.before args s = true) ∧ (∀ w ∈ am_W1, va_Nw w s) ∧ am_strs s ∧ meth.locks = false ∧ va_K D am_cl (am_tys cA) s ∧ vx_Zq Bundle.tN "UNASSIGNED_STACK" Bundle.steD (am_A B) s s.heap ∧ vx_Zq Bundle.tN "SUPPRESSED_SENTINEL" Bundle.listD (am_A B) s s.heap ∧ B ≤ s.heap.size ∧ ((am_law m = true ∧ am_hh m = []) ∨ c.exceptionTable.toList = tableOf (am_hh m)) ∧ (am_law m = true ∨ meth.name = (am_y m).name) ∧ am_fr m ≤ R.frames ∧ 100 * am_fr m ≤ R.locals ∧ (∀ E1 ∈ am_X6, ∀ E2 ∈ am_X6, E1 ≠ E2 → va_Nc E1 E2 s) ∧ (va_X b (g1 0).toNat (fun j => Int32.ofInt (g0 j)) s s.heap ∧ b < B ∧ (∀ j, am_i (g0 j)) ∧ 0 ≤ g1 0 ∧ g1 0 ≤ 260)
def am_QC (D : va_G) (cA : Nat → ClassId) (B b : Nat) (g0 g1 : Int → Int) (Q : PQ) : Array Value → State → Outcome → State → Prop := fun _ st o t =>
  ∃ (v : List AV) (ρ : Rho) (h : Hh), o = .returned (v.head?.map (am_v B b)) ∧ v.length ≤ 1 ∧ Q v ρ h ∧ am_St v ∧ am_HR D cA B g0 g1 ρ h t.heap ∧ va_F (am_A B) st t
def am_XC (D : va_G) (cA : Nat → ClassId) (B : Nat) (g0 g1 : Int → Int) (X : PX) : String → State → State → Prop := fun E st t =>
  ∃ (ρ : Rho) (h : Hh), X E ρ h ∧ am_HR D cA B g0 g1 ρ h t.heap ∧ va_F (am_A B) st t
/-- the end that is owed: of a method by its contract; the law's own by Z -/
def am_Z (m : MInfo) (l : Launch) (p : Program) (e : Env) (R : Room) (s : State) (i : MethodId) (args : Array Value) (below : List Frame) (meth : Method) (c : Code) (D : va_G) (cA : Nat → ClassId) (B b : Nat) (g0 g1 : Int → Int) (Q : PQ) (X : PX) (Z : State → Prop) : Prop :=
  (am_law m = false ∧ Z = vx_MQ below (am_QC D cA B b g0 g1 Q) (am_XC D cA B g0 g1 X) args s R.cells R.slots (am_A B)) ∨
  (am_law m = true ∧ (∀ E ρ h, ¬ X E ρ h) ∧ ∀ (v : Int) (ρ : Rho) (h : Hh) (pc : Nat) (H : Heap) (locs : List Loc) (cells slots : Nat) (ls : Array Slot), Q [aI v] ρ h → am_i v → decode (am_cc m) pc = .ok (.ireturn, 1) → va_S (am_A B) s.heap H locs → cells ≤ R.cells → slots ≤ R.slots → W p l e R s i args below meth c H locs cells slots Z (F0 i pc ls [.int (Int32.ofInt v)]))
def am_V (m : MInfo) (kc ks pc : Nat) (E st : List AV) (ρ : Rho) (h : Hh) (Q : PQ) (X : PX) : Prop :=
  ∀ (l : Launch) (p : Program) (e : Env) (R : Room) (s : State) (i : MethodId) (args : Array Value) (below : List Frame) (meth : Method) (c : Code) (D : va_G) (cA : Nat → ClassId) (B b : Nat) (g0 g1 : Int → Int) (Z : State → Prop) (H : Heap) (locs : List Loc) (cells slots : Nat) (ls : Array Slot),
    am_C m l p s R i args meth c D cA B b g0 g1 → am_Z m l p e R s i args below meth c D cA B b g0 g1 Q X Z → am_HR D cA B g0 g1 ρ h H → am_LR B b ls (am_ml m) E → am_St st → va_S (am_A B) s.heap H locs → cells + kc ≤ R.cells → slots + ks ≤ R.slots →
    W p l e R s i args below meth c H locs cells slots Z (F0 i pc ls (st.map (am_v B b)))
-- numbers
theorem am_bmI {z : Int} (h : am_i z) : z.bmod (2 ^ 32) = z := by
  obtain ⟨h1, h2⟩ := h
  rw [Int.bmod_eq_of_le (by omega) (by omega)]
theorem am_bmL {z : Int} (h : am_l z) : z.bmod (2 ^ 64) = z := by
  obtain ⟨h1, h2⟩ := h
  rw [Int.bmod_eq_of_le (by omega) (by omega)]
theorem am_toI {x : Int} (h : am_i x) : (Int32.ofInt x).toInt = x := by
  rw [Int32.toInt_ofInt]
  exact am_bmI h
theorem am_toL {x : Int} (h : am_l x) : (Int64.ofInt x).toInt = x := by
  rw [Int64.toInt_ofInt]
  exact am_bmL h
theorem am_eqI {x y : Int} (hx : am_i x) (hy : am_i y) : Int32.ofInt x = Int32.ofInt y ↔ x = y := by
  rw [← Int32.toInt_inj, am_toI hx, am_toI hy]
theorem am_ltI {x y : Int} (hx : am_i x) (hy : am_i y) : Int32.ofInt x < Int32.ofInt y ↔ x < y := by
  rw [Int32.lt_iff_toInt_lt, am_toI hx, am_toI hy]
theorem am_leI {x y : Int} (hx : am_i x) (hy : am_i y) : Int32.ofInt x ≤ Int32.ofInt y ↔ x ≤ y := by
  rw [Int32.le_iff_toInt_le, am_toI hx, am_toI hy]
theorem am_0I : Int32.ofInt 0 = 0 := rfl
theorem am_i0 : am_i 0 := ⟨by decide, by decide⟩
theorem am_asI {z : Int32} {x : Int} (h : z.toInt = x) : z = Int32.ofInt x := by
  rw [← h, Int32.ofInt_toInt]
theorem am_asL {z : Int64} {x : Int} (h : z.toInt = x) : z = Int64.ofInt x := by
  rw [← h, Int64.ofInt_toInt]
theorem am_rI (z : Int32) : am_i z.toInt := ⟨Int32.le_toInt z, Int32.toInt_lt z⟩
theorem am_rL (z : Int64) : am_l z.toInt := ⟨Int64.le_toInt z, Int64.toInt_lt z⟩
theorem am_cl0 {x : Int} (h0 : 0 ≤ x) (h : am_i x) : (Int32.ofInt x).toNatClampNeg = x.toNat := by
  have h1 := am_toI h
  unfold Int32.toNatClampNeg
  rw [h1]
theorem am_in {x : Int} {n : Nat} (h0 : 0 ≤ x) (h1 : x < n) (h : am_i x) : vp_in (Int32.ofInt x) n := by
  rw [vp_in_iff, am_toI h]
  exact ⟨h0, h1⟩
theorem am_add {x y : Int} : Int32.ofInt x + Int32.ofInt y = Int32.ofInt (x + y) := (Int32.ofInt_add ..).symm
theorem am_sub {x y : Int} : Int32.ofInt x - Int32.ofInt y = Int32.ofInt (x - y) := (Int32.ofInt_sub ..).symm
theorem am_mul {x y : Int} : Int32.ofInt x * Int32.ofInt y = Int32.ofInt (x * y) := (Int32.ofInt_mul ..).symm
theorem am_StC {v : AV} {st : List AV} (h : am_ok v) (hs : am_St st) : am_St (v :: st) := fun w hw => (List.mem_cons.mp hw).elim (fun e => e ▸ h) (hs w)
theorem am_StT {v : AV} {st : List AV} (hs : am_St (v :: st)) : am_St st := fun w hw => hs w (List.mem_cons_of_mem _ hw)
theorem am_StH {v : AV} {st : List AV} (hs : am_St (v :: st)) : am_ok v := hs v List.mem_cons_self
/-- the slots of a value, of a stack -/
def am_c1 : AV → Nat
  | .inr (.inl _) => 2
  | .inr (.inr (.inr (.inl _))) => 2
  | _ => 1
def am_ct : List AV → Nat
  | [] => 0
  | v :: st => am_c1 v + am_ct st
end
section
def am_c2 : Option AV → Bool
  | some (.inr (.inl _)) => true
  | some (.inr (.inr (.inr (.inl _)))) => true
  | _ => false
def am_kill (E : List AV) : Nat → List AV
  | 0 => E
  | i + 1 => cond (am_c2 E[i]?) (E.set i aU) E
def am_s1 (E : List AV) (i : Nat) (v : AV) : List AV := (am_kill E i).set i v
def am_s2 (E : List AV) (i : Nat) (v : AV) : List AV := ((am_kill E i).set i v).set (i + 1) aU
theorem am_LR.at {B b nL i : Nat} {ls : Array Slot} {E : List AV} {v : AV} (hL : am_LR B b ls nL E) (he : E[i]? = some v) (hv : v ≠ aU) : ls[i]? = some (.val (am_v B b v)) ∧ am_ok v := (hL.2.2.2 i v he).resolve_left hv
theorem am_LR.lt {B b nL i : Nat} {ls : Array Slot} {E : List AV} {v : AV} (hL : am_LR B b ls nL E) (he : E[i]? = some v) : i < nL := by
  have := (List.getElem?_eq_some_iff.mp he).1
  rw [hL.2.1] at this
  exact this
def am_all (ls : Array Slot) (nL : Nat) : List (Nat × Value) := (List.range nL).filterMap fun (j : Nat) => match (ls[j]? : Option Slot) with
  | some (.val w) => some (j, w)
  | _ => none
theorem am_all_has {ls : Array Slot} {nL : Nat} (h1 : ls.size = nL) (h2 : lv_wf ls) : lv_has ls nL (am_all ls nL) := by
  refine ⟨h1, h2, fun q hq => ?_⟩
  obtain ⟨j, -, hj⟩ := List.mem_filterMap.mp hq
  split at hj
  · rename_i w hw
    cases hj
    exact hw
  · cases hj
theorem am_all_mem {ls : Array Slot} {nL j : Nat} {w : Value} (h1 : ls.size = nL) (h : ls[j]? = some (.val w)) : (j, w) ∈ am_all ls nL := by
  refine List.mem_filterMap.mpr ⟨j, List.mem_range.mpr (by rw [← h1]; exact lv_lt h), ?_⟩
  rw [h]
theorem am_kill_get {E : List AV} {i j : Nat} {v : AV} (h : (am_kill E i)[j]? = some v) : v = aU ∨ (E[j]? = some v ∧ (j + 1 = i → am_c2 (some v) = false)) := by
  cases i with
  | zero => exact Or.inr ⟨h, fun q => by omega⟩
  | succ i =>
    cases hc : am_c2 E[i]? with
    | true =>
      have h : (cond (am_c2 E[i]?) (E.set i aU) E)[j]? = some v := h
      rw [hc] at h
      rw [cond_true, List.getElem?_set] at h
      by_cases q : i = j
      · rw [if_pos q] at h
        split at h
        · exact Or.inl (Option.some.inj h).symm
        · cases h
      · rw [if_neg q] at h
        exact Or.inr ⟨h, fun z => by omega⟩
    | false =>
      have h : (cond (am_c2 E[i]?) (E.set i aU) E)[j]? = some v := h
      rw [hc, cond_false] at h
      refine Or.inr ⟨h, fun z => ?_⟩
      have : i = j := by omega
      subst this
      rw [h] at hc
      exact hc
theorem am_kill_len (E : List AV) (i : Nat) : (am_kill E i).length = E.length := by
  cases i with
  | zero => rfl
  | succ i =>
    show (cond (am_c2 E[i]?) (E.set i aU) E).length = E.length
    cases am_c2 E[i]?
    · rfl
    · exact List.length_set
theorem am_cat {B b : Nat} {v : AV} (h : am_c2 (some v) = false) : (am_v B b v).category = 1 := by
  rcases v with x | x | x | x | x | x <;> first | rfl | (simp [am_c2] at h)
theorem am_LR.s1 {B b nL i : Nat} {ls ls' : Array Slot} {E : List AV} {v : AV} (hL : am_LR B b ls nL E) (hok : am_ok v) (h' : lv_has ls' nL ((i, am_v B b v) :: (am_all ls nL).filter (fun q => !(q.1 == i) && !(q.1 + 1 == i && q.2.category == 2)))) : am_LR B b ls' nL (am_s1 E i v) := by
  obtain ⟨h1, h2, h3, h4⟩ := hL
  refine ⟨h'.1, by unfold am_s1; rw [List.length_set, am_kill_len, h2], h'.2.1, fun j w hj => ?_⟩
  unfold am_s1 at hj
  rw [List.getElem?_set] at hj
  by_cases q : i = j
  · subst q
    rw [if_pos rfl] at hj
    split at hj
    · cases hj
      exact Or.inr ⟨h'.2.2 _ List.mem_cons_self, hok⟩
    · cases hj
  · rw [if_neg q] at hj
    rcases am_kill_get hj with z | ⟨z1, z2⟩
    · exact Or.inl z
    · rcases h4 j w z1 with z | ⟨z3, z4⟩
      · exact Or.inl z
      · refine Or.inr ⟨h'.2.2 (j, am_v B b w) (List.mem_cons_of_mem _ (List.mem_filter.mpr ⟨am_all_mem h1 z3, ?_⟩)), z4⟩
        by_cases y : j + 1 = i
        · have := am_cat (B := B) (b := b) (z2 y)
          simp [this]
          omega
        · simp [y]
          omega
theorem am_LR.s2 {B b nL i : Nat} {ls ls' : Array Slot} {E : List AV} {v : AV} (hL : am_LR B b ls nL E) (hok : am_ok v) (h' : lv_has ls' nL ((i, am_v B b v) :: (am_all ls nL).filter (fun q => !(q.1 == i) && (!(q.1 == i + 1) && !(q.1 + 1 == i && q.2.category == 2))))) : am_LR B b ls' nL (am_s2 E i v) := by
  obtain ⟨h1, h2, h3, h4⟩ := hL
  refine ⟨h'.1, by unfold am_s2; rw [List.length_set, List.length_set, am_kill_len, h2], h'.2.1, fun j w hj => ?_⟩
  unfold am_s2 at hj
  rw [List.getElem?_set] at hj
  by_cases q0 : i + 1 = j
  · rw [if_pos q0] at hj
    split at hj
    · exact Or.inl (Option.some.inj hj).symm
    · cases hj
  rw [if_neg q0, List.getElem?_set] at hj
  by_cases q : i = j
  · subst q
    rw [if_pos rfl] at hj
    split at hj
    · cases hj
      exact Or.inr ⟨h'.2.2 _ List.mem_cons_self, hok⟩
    · cases hj
  · rw [if_neg q] at hj
    rcases am_kill_get hj with z | ⟨z1, z2⟩
    · exact Or.inl z
    · rcases h4 j w z1 with z | ⟨z3, z4⟩
      · exact Or.inl z
      · refine Or.inr ⟨h'.2.2 (j, am_v B b w) (List.mem_cons_of_mem _ (List.mem_filter.mpr ⟨am_all_mem h1 z3, ?_⟩)), z4⟩
        by_cases y : j + 1 = i
        · have := am_cat (B := B) (b := b) (z2 y)
          simp [this]
          omega
        · simp [y]
          omega
/-- fewer places are known -/
def am_le : List AV → List AV → Prop
  | [], [] => True
  | x :: xs, y :: ys => (x = y ∨ x = aU) ∧ am_le xs ys
  | _, _ => False
theorem am_le_get : ∀ {E' E : List AV}, am_le E' E → E'.length = E.length ∧ ∀ (i : Nat) (v : AV), E'[i]? = some v → v = aU ∨ E[i]? = some v
  | [], [], _ => ⟨rfl, fun i v h => by simp at h⟩
  | x :: xs, y :: ys, h => by
    obtain ⟨h1, h2⟩ := am_le_get h.2
    refine ⟨by simp [h1], fun i v hv => ?_⟩
    cases i with
    | zero =>
      simp only [List.getElem?_cons_zero, Option.some.injEq] at hv ⊢
      rcases h.1 with z | z
      · exact Or.inr (by rw [← z, hv])
      · exact Or.inl (by rw [← hv, z])
    | succ i =>
      simp only [List.getElem?_cons_succ] at hv ⊢
      exact h2 i v hv
  | [], _ :: _, h => h.elim
  | _ :: _, [], h => h.elim
theorem v_weak {m : MInfo} {kc ks pc : Nat} {E st : List AV} {ρ : Rho} {h : Hh} {Q : PQ} {X : PX} {E2 : List AV} (hle : am_le E2 E) (k : am_V m kc ks pc E2 st ρ h Q X) : am_V m kc ks pc E st ρ h Q X := by
  intro l p e R s q args below meth c D cA B b g0 g1 Z H locs cells slots ls hC hZ hR hL hS hF hc hs
  obtain ⟨h1, h2⟩ := am_le_get hle
  refine k l p e R s q args below meth c D cA B b g0 g1 Z H locs cells slots ls hC hZ hR ⟨hL.1, h1.trans hL.2.1, hL.2.2.1, fun i v hv => ?_⟩ hS hF hc hs
  rcases h2 i v hv with z | z
  · exact Or.inl z
  · exact hL.2.2.2 i v z
theorem v_lessR {m : MInfo} {kc ks pc : Nat} {E st : List AV} {ρ : Rho} {h : Hh} {Q : PQ} {X : PX} {kc2 ks2 : Nat} (h1 : kc2 ≤ kc) (h2 : ks2 ≤ ks) (k : am_V m kc2 ks2 pc E st ρ h Q X) : am_V m kc ks pc E st ρ h Q X := by
  intro l p e R s q args below meth c D cA B b g0 g1 Z H locs cells slots ls hC hZ hR hL hS hF hc hs
  exact k l p e R s q args below meth c D cA B b g0 g1 Z H locs cells slots ls hC hZ hR hL hS hF (by omega) (by omega)
theorem am_b8 {n : Int} (h1 : -128 ≤ n) (h2 : n ≤ 127) : (Int8.ofInt n).toInt32 = Int32.ofInt n := by
  apply am_asI
  rw [Int8.toInt_toInt32, Int8.toInt_ofInt]
  exact Int.bmod_eq_of_le (by show -(((256 : Nat) : Int) / 2) ≤ n; omega) (by show n < (((256 : Nat) : Int) + 1) / 2; omega)
theorem am_b16 {n : Int} (h1 : -32768 ≤ n) (h2 : n ≤ 32767) : (Int16.ofInt n).toInt32 = Int32.ofInt n := by
  apply am_asI
  rw [Int16.toInt_toInt32, Int16.toInt_ofInt]
  exact Int.bmod_eq_of_le (by show -(((65536 : Nat) : Int) / 2) ≤ n; omega) (by show n < (((65536 : Nat) : Int) + 1) / 2; omega)
theorem am_char {x : Int} : ((Int32.ofInt x).toUInt32 % 65536).toInt32 = Int32.ofInt (x % 65536) := by
  apply am_asI
  have h1 := pk_char (Int32.ofInt x)
  rw [h1]
  have h2 : (Int32.ofInt x).toBitVec.toNat = (x % 4294967296).toNat := by
    show (BitVec.ofInt 32 x).toNat = _
    rw [BitVec.toNat_ofInt]
    rfl
  rw [h2, nI_toInt (by omega)]
  omega
theorem am_divI {x y : Int} (hx : 0 ≤ x) (hy : 0 < y) (ix : am_i x) (iy : am_i y) : Int32.ofInt x / Int32.ofInt y = Int32.ofInt (x / y) := by
  apply am_asI
  have h1 : 0 ≤ x / y := Int.ediv_nonneg hx (by omega)
  have h2 : x / y ≤ x := Int.ediv_le_self _ hx
  rw [Int32.toInt_div, am_toI ix, am_toI iy, Int.tdiv_eq_ediv_of_nonneg hx]
  exact am_bmI ⟨by omega, by have := ix.2; omega⟩
theorem am_ne0 {y : Int} (hy : 0 < y) (iy : am_i y) : ¬ Int32.ofInt y = 0 := by
  intro q
  have := (am_eqI iy am_i0).mp (q.trans am_0I.symm)
  omega
theorem am_divL {x y : Int} (hx : 0 ≤ x) (hy : 0 < y) (ix : am_l x) (iy : am_l y) : Int64.ofInt x / Int64.ofInt y = Int64.ofInt (x / y) := by
  apply am_asL
  have h1 : 0 ≤ x / y := Int.ediv_nonneg hx (by omega)
  have h2 : x / y ≤ x := Int.ediv_le_self _ hx
  rw [Int64.toInt_div, am_toL ix, am_toL iy, Int.tdiv_eq_ediv_of_nonneg hx]
  exact am_bmL ⟨by omega, by have := ix.2; omega⟩
theorem am_ne0L {y : Int} (hy : 0 < y) (iy : am_l y) : ¬ Int64.ofInt y = 0 := by
  intro q
  have h0 : Int64.ofInt y = Int64.ofInt 0 := q
  have := congrArg Int64.toInt h0
  rw [am_toL iy, am_toL ⟨by decide, by decide⟩] at this
  omega
theorem am_wL (z : Int) : am_l (z.bmod (2 ^ 64)) := by
  have h1 := Int.le_bmod (x := z) (m := 2 ^ 64) (by decide)
  have h2 := Int.bmod_lt (x := z) (m := 2 ^ 64) (by decide)
  exact ⟨by omega, by omega⟩
theorem am_asW {z : Int64} {x : Int} (h : z.toInt = x.bmod (2 ^ 64)) : z = Int64.ofInt (x.bmod (2 ^ 64)) := am_asL h
theorem am_addL {x y : Int} (hx : am_l x) (hy : am_l y) : Int64.ofInt x + Int64.ofInt y = Int64.ofInt ((x + y).bmod (2 ^ 64)) := am_asL (by rw [Int64.toInt_add, am_toL hx, am_toL hy])
theorem am_subL {x y : Int} (hx : am_l x) (hy : am_l y) : Int64.ofInt x - Int64.ofInt y = Int64.ofInt ((x - y).bmod (2 ^ 64)) := am_asL (by rw [Int64.toInt_sub, am_toL hx, am_toL hy])
theorem am_mulL {x y : Int} (hx : am_l x) (hy : am_l y) : Int64.ofInt x * Int64.ofInt y = Int64.ofInt ((x * y).bmod (2 ^ 64)) := am_asL (by rw [Int64.toInt_mul, am_toL hx, am_toL hy])
theorem am_i2l {x : Int} (hx : am_i x) : (Int32.ofInt x).toInt64 = Int64.ofInt x := am_asL (by rw [Int32.toInt_toInt64, am_toI hx])
theorem am_lOf {x : Int} (hx : am_i x) : am_l x := ⟨by have := hx.1; omega, by have := hx.2; omega⟩
theorem am_cmpL {x y : Int} (hx : am_l x) (hy : am_l y) : lg_cmp (Int64.ofInt x) (Int64.ofInt y) = Int32.ofInt (if y < x then 1 else if x = y then 0 else -1) := by
  unfold lg_cmp
  have e1 : (Int64.ofInt x > Int64.ofInt y) = (y < x) := by
    show (Int64.ofInt y < Int64.ofInt x) = _
    rw [Int64.lt_iff_toInt_lt, am_toL hx, am_toL hy]
  have e2 : (Int64.ofInt x = Int64.ofInt y) = (x = y) := by
    rw [← Int64.toInt_inj, am_toL hx, am_toL hy]
  simp only [e1, e2]
  split
  · rfl
  · split <;> rfl
theorem am_andI (x y : Int) : am_i (Int32.ofInt x &&& Int32.ofInt y).toInt := am_rI _
theorem v_iconst {m : MInfo} {kc ks pc : Nat} {E st : List AV} {ρ : Rho} {h : Hh} {Q : PQ} {X : PX} {n : Int} (hd : decode (am_cc m) pc = .ok (.iconst n, 1)) (hn : am_i n) (k : am_V m kc ks (pc + 1) E (aI n :: st) ρ h Q X) : am_V m kc ks pc E st ρ h Q X := by
  intro l p e R s q args below meth c D cA B b g0 g1 Z H locs cells slots ls hC hZ hR hL hS hF hc hs
  exact lv_iconst hC.2.1 hC.2.2.1 hd rfl (k l p e R s q args below meth c D cA B b g0 g1 Z H locs cells slots ls hC hZ hR hL (am_StC hn hS) hF hc hs)
theorem v_bipush {m : MInfo} {kc ks pc : Nat} {E st : List AV} {ρ : Rho} {h : Hh} {Q : PQ} {X : PX} {n : Int} (hd : decode (am_cc m) pc = .ok (.bipush n, 2)) (h1 : -128 ≤ n) (h2 : n ≤ 127) (k : am_V m kc ks (pc + 2) E (aI n :: st) ρ h Q X) : am_V m kc ks pc E st ρ h Q X := by
  intro l p e R s q args below meth c D cA B b g0 g1 Z H locs cells slots ls hC hZ hR hL hS hF hc hs
  exact lv_bipush hC.2.1 hC.2.2.1 hd (am_b8 h1 h2) (k l p e R s q args below meth c D cA B b g0 g1 Z H locs cells slots ls hC hZ hR hL (am_StC ⟨by omega, by omega⟩ hS) hF hc hs)
theorem v_sipush {m : MInfo} {kc ks pc : Nat} {E st : List AV} {ρ : Rho} {h : Hh} {Q : PQ} {X : PX} {n : Int} (hd : decode (am_cc m) pc = .ok (.sipush n, 3)) (h1 : -32768 ≤ n) (h2 : n ≤ 32767) (k : am_V m kc ks (pc + 3) E (aI n :: st) ρ h Q X) : am_V m kc ks pc E st ρ h Q X := by
  intro l p e R s q args below meth c D cA B b g0 g1 Z H locs cells slots ls hC hZ hR hL hS hF hc hs
  exact lv_sipush hC.2.1 hC.2.2.1 hd (am_b16 h1 h2) (k l p e R s q args below meth c D cA B b g0 g1 Z H locs cells slots ls hC hZ hR hL (am_StC ⟨by omega, by omega⟩ hS) hF hc hs)
theorem v_lconst {m : MInfo} {kc ks pc : Nat} {E st : List AV} {ρ : Rho} {h : Hh} {Q : PQ} {X : PX} {n : Fin 2} {x : Int} (hd : decode (am_cc m) pc = .ok (.lconst n, 1)) (hx : ((n : Nat) : Int) = x) (k : am_V m kc ks (pc + 1) E (aL x :: st) ρ h Q X) : am_V m kc ks pc E st ρ h Q X := by
  intro l p e R s q args below meth c D cA B b g0 g1 Z H locs cells slots ls hC hZ hR hL hS hF hc hs
  exact lv_lconst hC.2.1 hC.2.2.1 hd (show Int64.ofNat _ = Int64.ofInt x by rw [← hx]; rfl) (k l p e R s q args below meth c D cA B b g0 g1 Z H locs cells slots ls hC hZ hR hL (am_StC ⟨by omega, by omega⟩ hS) hF hc hs)
theorem v_fconst0 {m : MInfo} {kc ks pc : Nat} {E st : List AV} {ρ : Rho} {h : Hh} {Q : PQ} {X : PX}  (hd : decode (am_cc m) pc = .ok (.fconst 0, 1))  (k : am_V m kc ks (pc + 1) E (aF 0 :: st) ρ h Q X) : am_V m kc ks pc E st ρ h Q X := by
  intro l p e R s q args below meth c D cA B b g0 g1 Z H locs cells slots ls hC hZ hR hL hS hF hc hs
  exact lv_fconst0 hC.2.1 hC.2.2.1 hd (k l p e R s q args below meth c D cA B b g0 g1 Z H locs cells slots ls hC hZ hR hL (am_StC trivial hS) hF hc hs)
theorem v_dconst0 {m : MInfo} {kc ks pc : Nat} {E st : List AV} {ρ : Rho} {h : Hh} {Q : PQ} {X : PX}  (hd : decode (am_cc m) pc = .ok (.dconst 0, 1))  (k : am_V m kc ks (pc + 1) E (aD 0 :: st) ρ h Q X) : am_V m kc ks pc E st ρ h Q X := by
  intro l p e R s q args below meth c D cA B b g0 g1 Z H locs cells slots ls hC hZ hR hL hS hF hc hs
  exact lv_dconst0 hC.2.1 hC.2.2.1 hd (k l p e R s q args below meth c D cA B b g0 g1 Z H locs cells slots ls hC hZ hR hL (am_StC trivial hS) hF hc hs)
theorem v_ldc2l {m : MInfo} {kc ks pc : Nat} {E st : List AV} {ρ : Rho} {h : Hh} {Q : PQ} {X : PX} {n : Nat} {x : Int} (hd : decode (am_cc m) pc = .ok (.ldc2_w n, 3)) (hw : Cond.constantLong (am_own m) n (Int64.ofInt x) ∈ am_W0) (hx : am_l x) (k : am_V m kc ks (pc + 3) E (aL x :: st) ρ h Q X) : am_V m kc ks pc E st ρ h Q X := by
  intro l p e R s q args below meth c D cA B b g0 g1 Z H locs cells slots ls hC hZ hR hL hS hF hc hs
  exact lv_ldc2 hC.2.1 hC.2.2.1 hC.2.2.2.2.2.1 (hC.2.2.2.2.2.2.1 _ hw) hd (k l p e R s q args below meth c D cA B b g0 g1 Z H locs cells slots ls hC hZ hR hL (am_StC hx hS) hF hc hs)
theorem v_iload_n {m : MInfo} {kc ks pc : Nat} {E st : List AV} {ρ : Rho} {h : Hh} {Q : PQ} {X : PX} {i : Fin 4} {j : Nat} {x : Int} (hd : decode (am_cc m) pc = .ok (.iload_n i, 1)) (hi : (i : Nat) = j) (he : E[j]? = some (aI x)) (k : am_V m kc ks (pc + 1) E (aI x :: st) ρ h Q X) : am_V m kc ks pc E st ρ h Q X := by
  intro l p e R s q args below meth c D cA B b g0 g1 Z H locs cells slots ls hC hZ hR hL hS hF hc hs
  exact lv_iload_n hC.2.1 hC.2.2.1 hd hi (hL.at he (by intro z; cases z)).1 (k l p e R s q args below meth c D cA B b g0 g1 Z H locs cells slots ls hC hZ hR hL (am_StC (hL.at he (by intro z; cases z)).2 hS) hF hc hs)
theorem v_iload {m : MInfo} {kc ks pc : Nat} {E st : List AV} {ρ : Rho} {h : Hh} {Q : PQ} {X : PX} {i : Nat} {x : Int} (hd : decode (am_cc m) pc = .ok (.iload i, 2)) (he : E[i]? = some (aI x)) (k : am_V m kc ks (pc + 2) E (aI x :: st) ρ h Q X) : am_V m kc ks pc E st ρ h Q X := by
  intro l p e R s q args below meth c D cA B b g0 g1 Z H locs cells slots ls hC hZ hR hL hS hF hc hs
  exact lv_iload hC.2.1 hC.2.2.1 hd (hL.at he (by intro z; cases z)).1 (k l p e R s q args below meth c D cA B b g0 g1 Z H locs cells slots ls hC hZ hR hL (am_StC (hL.at he (by intro z; cases z)).2 hS) hF hc hs)
theorem v_lload_n {m : MInfo} {kc ks pc : Nat} {E st : List AV} {ρ : Rho} {h : Hh} {Q : PQ} {X : PX} {i : Fin 4} {j : Nat} {x : Int} (hd : decode (am_cc m) pc = .ok (.lload_n i, 1)) (hi : (i : Nat) = j) (he : E[j]? = some (aL x)) (k : am_V m kc ks (pc + 1) E (aL x :: st) ρ h Q X) : am_V m kc ks pc E st ρ h Q X := by
  intro l p e R s q args below meth c D cA B b g0 g1 Z H locs cells slots ls hC hZ hR hL hS hF hc hs
  exact lv_lload_n hC.2.1 hC.2.2.1 hd hi (hL.at he (by intro z; cases z)).1 (k l p e R s q args below meth c D cA B b g0 g1 Z H locs cells slots ls hC hZ hR hL (am_StC (hL.at he (by intro z; cases z)).2 hS) hF hc hs)
theorem v_lload {m : MInfo} {kc ks pc : Nat} {E st : List AV} {ρ : Rho} {h : Hh} {Q : PQ} {X : PX} {i : Nat} {x : Int} (hd : decode (am_cc m) pc = .ok (.lload i, 2)) (he : E[i]? = some (aL x)) (k : am_V m kc ks (pc + 2) E (aL x :: st) ρ h Q X) : am_V m kc ks pc E st ρ h Q X := by
  intro l p e R s q args below meth c D cA B b g0 g1 Z H locs cells slots ls hC hZ hR hL hS hF hc hs
  exact lv_lload hC.2.1 hC.2.2.1 hd (hL.at he (by intro z; cases z)).1 (k l p e R s q args below meth c D cA B b g0 g1 Z H locs cells slots ls hC hZ hR hL (am_StC (hL.at he (by intro z; cases z)).2 hS) hF hc hs)
theorem v_fload_n {m : MInfo} {kc ks pc : Nat} {E st : List AV} {ρ : Rho} {h : Hh} {Q : PQ} {X : PX} {i : Fin 4} {j : Nat} {x : UInt32} (hd : decode (am_cc m) pc = .ok (.fload_n i, 1)) (hi : (i : Nat) = j) (he : E[j]? = some (aF x)) (k : am_V m kc ks (pc + 1) E (aF x :: st) ρ h Q X) : am_V m kc ks pc E st ρ h Q X := by
  intro l p e R s q args below meth c D cA B b g0 g1 Z H locs cells slots ls hC hZ hR hL hS hF hc hs
  exact lv_fload_n hC.2.1 hC.2.2.1 hd hi (hL.at he (by intro z; cases z)).1 (k l p e R s q args below meth c D cA B b g0 g1 Z H locs cells slots ls hC hZ hR hL (am_StC (hL.at he (by intro z; cases z)).2 hS) hF hc hs)
theorem v_fload {m : MInfo} {kc ks pc : Nat} {E st : List AV} {ρ : Rho} {h : Hh} {Q : PQ} {X : PX} {i : Nat} {x : UInt32} (hd : decode (am_cc m) pc = .ok (.fload i, 2)) (he : E[i]? = some (aF x)) (k : am_V m kc ks (pc + 2) E (aF x :: st) ρ h Q X) : am_V m kc ks pc E st ρ h Q X := by
  intro l p e R s q args below meth c D cA B b g0 g1 Z H locs cells slots ls hC hZ hR hL hS hF hc hs
  exact lv_fload hC.2.1 hC.2.2.1 hd (hL.at he (by intro z; cases z)).1 (k l p e R s q args below meth c D cA B b g0 g1 Z H locs cells slots ls hC hZ hR hL (am_StC (hL.at he (by intro z; cases z)).2 hS) hF hc hs)
theorem v_dload_n {m : MInfo} {kc ks pc : Nat} {E st : List AV} {ρ : Rho} {h : Hh} {Q : PQ} {X : PX} {i : Fin 4} {j : Nat} {x : UInt64} (hd : decode (am_cc m) pc = .ok (.dload_n i, 1)) (hi : (i : Nat) = j) (he : E[j]? = some (aD x)) (k : am_V m kc ks (pc + 1) E (aD x :: st) ρ h Q X) : am_V m kc ks pc E st ρ h Q X := by
  intro l p e R s q args below meth c D cA B b g0 g1 Z H locs cells slots ls hC hZ hR hL hS hF hc hs
  exact lv_dload_n hC.2.1 hC.2.2.1 hd hi (hL.at he (by intro z; cases z)).1 (k l p e R s q args below meth c D cA B b g0 g1 Z H locs cells slots ls hC hZ hR hL (am_StC (hL.at he (by intro z; cases z)).2 hS) hF hc hs)
theorem v_dload {m : MInfo} {kc ks pc : Nat} {E st : List AV} {ρ : Rho} {h : Hh} {Q : PQ} {X : PX} {i : Nat} {x : UInt64} (hd : decode (am_cc m) pc = .ok (.dload i, 2)) (he : E[i]? = some (aD x)) (k : am_V m kc ks (pc + 2) E (aD x :: st) ρ h Q X) : am_V m kc ks pc E st ρ h Q X := by
  intro l p e R s q args below meth c D cA B b g0 g1 Z H locs cells slots ls hC hZ hR hL hS hF hc hs
  exact lv_dload hC.2.1 hC.2.2.1 hd (hL.at he (by intro z; cases z)).1 (k l p e R s q args below meth c D cA B b g0 g1 Z H locs cells slots ls hC hZ hR hL (am_StC (hL.at he (by intro z; cases z)).2 hS) hF hc hs)
theorem v_aload_n {m : MInfo} {kc ks pc : Nat} {E st : List AV} {ρ : Rho} {h : Hh} {Q : PQ} {X : PX} {i : Fin 4} {j x : Nat} (hd : decode (am_cc m) pc = .ok (.aload_n i, 1)) (hi : (i : Nat) = j) (he : E[j]? = some (aR x)) (k : am_V m kc ks (pc + 1) E (aR x :: st) ρ h Q X) : am_V m kc ks pc E st ρ h Q X := by
  intro l p e R s q args below meth c D cA B b g0 g1 Z H locs cells slots ls hC hZ hR hL hS hF hc hs
  exact lv_aload_n hC.2.1 hC.2.2.1 hd hi (hL.at he (by intro z; cases z)).1 (k l p e R s q args below meth c D cA B b g0 g1 Z H locs cells slots ls hC hZ hR hL (am_StC trivial hS) hF hc hs)
theorem v_aload {m : MInfo} {kc ks pc : Nat} {E st : List AV} {ρ : Rho} {h : Hh} {Q : PQ} {X : PX} {i x : Nat} (hd : decode (am_cc m) pc = .ok (.aload i, 2)) (he : E[i]? = some (aR x)) (k : am_V m kc ks (pc + 2) E (aR x :: st) ρ h Q X) : am_V m kc ks pc E st ρ h Q X := by
  intro l p e R s q args below meth c D cA B b g0 g1 Z H locs cells slots ls hC hZ hR hL hS hF hc hs
  exact lv_aload hC.2.1 hC.2.2.1 hd (hL.at he (by intro z; cases z)).1 (k l p e R s q args below meth c D cA B b g0 g1 Z H locs cells slots ls hC hZ hR hL (am_StC trivial hS) hF hc hs)
theorem v_istore {m : MInfo} {kc ks pc : Nat} {E st : List AV} {ρ : Rho} {h : Hh} {Q : PQ} {X : PX} {E2 : List AV} {i : Nat} {x : Int} (hd : decode (am_cc m) pc = .ok (.istore i, 2)) (hi : i < am_ml m) (hE : am_s1 E i (aI x) = E2) (k : am_V m kc ks (pc + 2) E2 st ρ h Q X) : am_V m kc ks pc E (aI x :: st) ρ h Q X := by
  intro l p e R s q args below meth c D cA B b g0 g1 Z H locs cells slots ls hC hZ hR hL hS hF hc hs
  subst hE
  exact lv_istore hC.2.1 hC.2.2.1 hd (am_all_has hL.1 hL.2.2.1) hi rfl (fun ls2 h2 => (k l p e R s q args below meth c D cA B b g0 g1 Z H locs cells slots ls2 hC hZ hR (hL.s1 (am_StH hS) h2) (am_StT hS) hF hc hs))
theorem v_istore_n {m : MInfo} {kc ks pc : Nat} {E st : List AV} {ρ : Rho} {h : Hh} {Q : PQ} {X : PX} {E2 : List AV} {j : Fin 4} {i : Nat} {x : Int} (hd : decode (am_cc m) pc = .ok (.istore_n j, 1)) (hj : (j : Nat) = i) (hi : i < am_ml m) (hE : am_s1 E i (aI x) = E2) (k : am_V m kc ks (pc + 1) E2 st ρ h Q X) : am_V m kc ks pc E (aI x :: st) ρ h Q X := by
  intro l p e R s q args below meth c D cA B b g0 g1 Z H locs cells slots ls hC hZ hR hL hS hF hc hs
  subst hE
  exact lv_istore_n hC.2.1 hC.2.2.1 hd hj (am_all_has hL.1 hL.2.2.1) hi rfl (fun ls2 h2 => (k l p e R s q args below meth c D cA B b g0 g1 Z H locs cells slots ls2 hC hZ hR (hL.s1 (am_StH hS) h2) (am_StT hS) hF hc hs))
theorem v_lstore {m : MInfo} {kc ks pc : Nat} {E st : List AV} {ρ : Rho} {h : Hh} {Q : PQ} {X : PX} {E2 : List AV} {i : Nat} {x : Int} (hd : decode (am_cc m) pc = .ok (.lstore i, 2)) (hi : i + 1 < am_ml m) (hE : am_s2 E i (aL x) = E2) (k : am_V m kc ks (pc + 2) E2 st ρ h Q X) : am_V m kc ks pc E (aL x :: st) ρ h Q X := by
  intro l p e R s q args below meth c D cA B b g0 g1 Z H locs cells slots ls hC hZ hR hL hS hF hc hs
  subst hE
  exact lv_lstore hC.2.1 hC.2.2.1 hd (am_all_has hL.1 hL.2.2.1) hi rfl (fun ls2 h2 => (k l p e R s q args below meth c D cA B b g0 g1 Z H locs cells slots ls2 hC hZ hR (hL.s2 (am_StH hS) h2) (am_StT hS) hF hc hs))
theorem v_lstore_n {m : MInfo} {kc ks pc : Nat} {E st : List AV} {ρ : Rho} {h : Hh} {Q : PQ} {X : PX} {E2 : List AV} {j : Fin 4} {i : Nat} {x : Int} (hd : decode (am_cc m) pc = .ok (.lstore_n j, 1)) (hj : (j : Nat) = i) (hi : i + 1 < am_ml m) (hE : am_s2 E i (aL x) = E2) (k : am_V m kc ks (pc + 1) E2 st ρ h Q X) : am_V m kc ks pc E (aL x :: st) ρ h Q X := by
  intro l p e R s q args below meth c D cA B b g0 g1 Z H locs cells slots ls hC hZ hR hL hS hF hc hs
  subst hE
  exact lv_lstore_n hC.2.1 hC.2.2.1 hd hj (am_all_has hL.1 hL.2.2.1) hi rfl (fun ls2 h2 => (k l p e R s q args below meth c D cA B b g0 g1 Z H locs cells slots ls2 hC hZ hR (hL.s2 (am_StH hS) h2) (am_StT hS) hF hc hs))
theorem v_fstore {m : MInfo} {kc ks pc : Nat} {E st : List AV} {ρ : Rho} {h : Hh} {Q : PQ} {X : PX} {E2 : List AV} {i : Nat} {x : UInt32} (hd : decode (am_cc m) pc = .ok (.fstore i, 2)) (hi : i < am_ml m) (hE : am_s1 E i (aF x) = E2) (k : am_V m kc ks (pc + 2) E2 st ρ h Q X) : am_V m kc ks pc E (aF x :: st) ρ h Q X := by
  intro l p e R s q args below meth c D cA B b g0 g1 Z H locs cells slots ls hC hZ hR hL hS hF hc hs
  subst hE
  exact lv_fstore hC.2.1 hC.2.2.1 hd (am_all_has hL.1 hL.2.2.1) hi rfl (fun ls2 h2 => (k l p e R s q args below meth c D cA B b g0 g1 Z H locs cells slots ls2 hC hZ hR (hL.s1 (am_StH hS) h2) (am_StT hS) hF hc hs))
theorem v_fstore_n {m : MInfo} {kc ks pc : Nat} {E st : List AV} {ρ : Rho} {h : Hh} {Q : PQ} {X : PX} {E2 : List AV} {j : Fin 4} {i : Nat} {x : UInt32} (hd : decode (am_cc m) pc = .ok (.fstore_n j, 1)) (hj : (j : Nat) = i) (hi : i < am_ml m) (hE : am_s1 E i (aF x) = E2) (k : am_V m kc ks (pc + 1) E2 st ρ h Q X) : am_V m kc ks pc E (aF x :: st) ρ h Q X := by
  intro l p e R s q args below meth c D cA B b g0 g1 Z H locs cells slots ls hC hZ hR hL hS hF hc hs
  subst hE
  exact lv_fstore_n hC.2.1 hC.2.2.1 hd hj (am_all_has hL.1 hL.2.2.1) hi rfl (fun ls2 h2 => (k l p e R s q args below meth c D cA B b g0 g1 Z H locs cells slots ls2 hC hZ hR (hL.s1 (am_StH hS) h2) (am_StT hS) hF hc hs))
theorem v_dstore {m : MInfo} {kc ks pc : Nat} {E st : List AV} {ρ : Rho} {h : Hh} {Q : PQ} {X : PX} {E2 : List AV} {i : Nat} {x : UInt64} (hd : decode (am_cc m) pc = .ok (.dstore i, 2)) (hi : i + 1 < am_ml m) (hE : am_s2 E i (aD x) = E2) (k : am_V m kc ks (pc + 2) E2 st ρ h Q X) : am_V m kc ks pc E (aD x :: st) ρ h Q X := by
  intro l p e R s q args below meth c D cA B b g0 g1 Z H locs cells slots ls hC hZ hR hL hS hF hc hs
  subst hE
  exact lv_dstore hC.2.1 hC.2.2.1 hd (am_all_has hL.1 hL.2.2.1) hi rfl (fun ls2 h2 => (k l p e R s q args below meth c D cA B b g0 g1 Z H locs cells slots ls2 hC hZ hR (hL.s2 (am_StH hS) h2) (am_StT hS) hF hc hs))
theorem v_dstore_n {m : MInfo} {kc ks pc : Nat} {E st : List AV} {ρ : Rho} {h : Hh} {Q : PQ} {X : PX} {E2 : List AV} {j : Fin 4} {i : Nat} {x : UInt64} (hd : decode (am_cc m) pc = .ok (.dstore_n j, 1)) (hj : (j : Nat) = i) (hi : i + 1 < am_ml m) (hE : am_s2 E i (aD x) = E2) (k : am_V m kc ks (pc + 1) E2 st ρ h Q X) : am_V m kc ks pc E (aD x :: st) ρ h Q X := by
  intro l p e R s q args below meth c D cA B b g0 g1 Z H locs cells slots ls hC hZ hR hL hS hF hc hs
  subst hE
  exact lv_dstore_n hC.2.1 hC.2.2.1 hd hj (am_all_has hL.1 hL.2.2.1) hi rfl (fun ls2 h2 => (k l p e R s q args below meth c D cA B b g0 g1 Z H locs cells slots ls2 hC hZ hR (hL.s2 (am_StH hS) h2) (am_StT hS) hF hc hs))
theorem v_astore {m : MInfo} {kc ks pc : Nat} {E st : List AV} {ρ : Rho} {h : Hh} {Q : PQ} {X : PX} {E2 : List AV} {i : Nat} {x : Nat} (hd : decode (am_cc m) pc = .ok (.astore i, 2)) (hi : i < am_ml m) (hE : am_s1 E i (aR x) = E2) (k : am_V m kc ks (pc + 2) E2 st ρ h Q X) : am_V m kc ks pc E (aR x :: st) ρ h Q X := by
  intro l p e R s q args below meth c D cA B b g0 g1 Z H locs cells slots ls hC hZ hR hL hS hF hc hs
  subst hE
  exact lv_astore hC.2.1 hC.2.2.1 hd (am_all_has hL.1 hL.2.2.1) hi rfl (fun ls2 h2 => (k l p e R s q args below meth c D cA B b g0 g1 Z H locs cells slots ls2 hC hZ hR (hL.s1 (am_StH hS) h2) (am_StT hS) hF hc hs))
theorem v_astore_n {m : MInfo} {kc ks pc : Nat} {E st : List AV} {ρ : Rho} {h : Hh} {Q : PQ} {X : PX} {E2 : List AV} {j : Fin 4} {i : Nat} {x : Nat} (hd : decode (am_cc m) pc = .ok (.astore_n j, 1)) (hj : (j : Nat) = i) (hi : i < am_ml m) (hE : am_s1 E i (aR x) = E2) (k : am_V m kc ks (pc + 1) E2 st ρ h Q X) : am_V m kc ks pc E (aR x :: st) ρ h Q X := by
  intro l p e R s q args below meth c D cA B b g0 g1 Z H locs cells slots ls hC hZ hR hL hS hF hc hs
  subst hE
  exact lv_astore_n hC.2.1 hC.2.2.1 hd hj (am_all_has hL.1 hL.2.2.1) hi rfl (fun ls2 h2 => (k l p e R s q args below meth c D cA B b g0 g1 Z H locs cells slots ls2 hC hZ hR (hL.s1 (am_StH hS) h2) (am_StT hS) hF hc hs))
theorem am_getAll {ls : Array Slot} {nL j : Nat} {w : Value} (h1 : ls.size = nL) (h : ls[j]? = some (.val w)) : ∃ k : Nat, (am_all ls nL)[k]? = some (j, w) := by
  obtain ⟨k, hk⟩ := List.getElem?_of_mem (am_all_mem h1 h)
  exact ⟨k, hk⟩
theorem v_iinc {m : MInfo} {kc ks pc : Nat} {E st : List AV} {ρ : Rho} {h : Hh} {Q : PQ} {X : PX} {E2 : List AV} {i : Nat} {n x : Int} (hd : decode (am_cc m) pc = .ok (.iinc i n, 3)) (he : E[i]? = some (aI x)) (hr : am_i (x + n)) (hE : am_s1 E i (aI (x + n)) = E2) (k : am_V m kc ks (pc + 3) E2 st ρ h Q X) : am_V m kc ks pc E st ρ h Q X := by
  intro l p e R s q args below meth c D cA B b g0 g1 Z H locs cells slots ls hC hZ hR hL hS hF hc hs
  subst hE
  obtain ⟨k9, hk9⟩ := am_getAll hL.1 (hL.at he (by intro z; cases z)).1
  exact lv_iinc hC.2.1 hC.2.2.1 hd (am_all_has hL.1 hL.2.2.1) hk9 am_add (hL.lt he) rfl (fun ls2 h2 => (k l p e R s q args below meth c D cA B b g0 g1 Z H locs cells slots ls2 hC hZ hR (hL.s1 (v := aI (x + n)) hr h2) hS hF hc hs))
theorem v_iadd {m : MInfo} {kc ks pc : Nat} {E st : List AV} {ρ : Rho} {h : Hh} {Q : PQ} {X : PX} {x y : Int} (hd : decode (am_cc m) pc = .ok (.iadd, 1)) (hr : am_i (x + y)) (k : am_V m kc ks (pc + 1) E (aI (x + y) :: st) ρ h Q X) : am_V m kc ks pc E (aI y :: aI x :: st) ρ h Q X := by
  intro l p e R s q args below meth c D cA B b g0 g1 Z H locs cells slots ls hC hZ hR hL hS hF hc hs
  have hy := am_StH hS
  have hx := am_StH (am_StT hS)
  refine lv_iadd hC.2.1 hC.2.2.1 hd ?_
  rw [am_add]
  exact (k l p e R s q args below meth c D cA B b g0 g1 Z H locs cells slots ls hC hZ hR hL (am_StC hr (am_StT (am_StT hS))) hF hc hs)
theorem v_isub {m : MInfo} {kc ks pc : Nat} {E st : List AV} {ρ : Rho} {h : Hh} {Q : PQ} {X : PX} {x y : Int} (hd : decode (am_cc m) pc = .ok (.isub, 1)) (hr : am_i (x - y)) (k : am_V m kc ks (pc + 1) E (aI (x - y) :: st) ρ h Q X) : am_V m kc ks pc E (aI y :: aI x :: st) ρ h Q X := by
  intro l p e R s q args below meth c D cA B b g0 g1 Z H locs cells slots ls hC hZ hR hL hS hF hc hs
  have hy := am_StH hS
  have hx := am_StH (am_StT hS)
  refine lv_isub hC.2.1 hC.2.2.1 hd ?_
  rw [am_sub]
  exact (k l p e R s q args below meth c D cA B b g0 g1 Z H locs cells slots ls hC hZ hR hL (am_StC hr (am_StT (am_StT hS))) hF hc hs)
theorem v_imul {m : MInfo} {kc ks pc : Nat} {E st : List AV} {ρ : Rho} {h : Hh} {Q : PQ} {X : PX} {x y : Int} (hd : decode (am_cc m) pc = .ok (.imul, 1)) (hr : am_i (x * y)) (k : am_V m kc ks (pc + 1) E (aI (x * y) :: st) ρ h Q X) : am_V m kc ks pc E (aI y :: aI x :: st) ρ h Q X := by
  intro l p e R s q args below meth c D cA B b g0 g1 Z H locs cells slots ls hC hZ hR hL hS hF hc hs
  have hy := am_StH hS
  have hx := am_StH (am_StT hS)
  refine lv_imul hC.2.1 hC.2.2.1 hd ?_
  rw [am_mul]
  exact (k l p e R s q args below meth c D cA B b g0 g1 Z H locs cells slots ls hC hZ hR hL (am_StC hr (am_StT (am_StT hS))) hF hc hs)
theorem v_idiv {m : MInfo} {kc ks pc : Nat} {E st : List AV} {ρ : Rho} {h : Hh} {Q : PQ} {X : PX} {x y : Int} (hd : decode (am_cc m) pc = .ok (.idiv, 1)) (h1 : 0 ≤ x) (h2 : 0 < y) (k : am_V m kc ks (pc + 1) E (aI (x / y) :: st) ρ h Q X) : am_V m kc ks pc E (aI y :: aI x :: st) ρ h Q X := by
  intro l p e R s q args below meth c D cA B b g0 g1 Z H locs cells slots ls hC hZ hR hL hS hF hc hs
  have hy := am_StH hS
  have hx := am_StH (am_StT hS)
  refine lv_idiv hC.2.1 hC.2.2.1 hd (am_ne0 h2 hy) ?_
  rw [am_divI h1 h2 hx hy]
  exact (k l p e R s q args below meth c D cA B b g0 g1 Z H locs cells slots ls hC hZ hR hL (am_StC (show am_i (x / y) from ⟨by have := Int.ediv_nonneg h1 (Int.le_of_lt h2); omega, by have := Int.ediv_le_self y h1; have h9 : am_i x := hx; have := h9.2; omega⟩) (am_StT (am_StT hS))) hF hc hs)
theorem v_irem {m : MInfo} {kc ks pc : Nat} {E st : List AV} {ρ : Rho} {h : Hh} {Q : PQ} {X : PX} {x y : Int} (hd : decode (am_cc m) pc = .ok (.irem, 1)) (h1 : 0 ≤ x) (h2 : 0 < y) (k : am_V m kc ks (pc + 1) E (aI (x % y) :: st) ρ h Q X) : am_V m kc ks pc E (aI y :: aI x :: st) ρ h Q X := by
  intro l p e R s q args below meth c D cA B b g0 g1 Z H locs cells slots ls hC hZ hR hL hS hF hc hs
  have hy := am_StH hS
  have hx := am_StH (am_StT hS)
  refine lv_irem hC.2.1 hC.2.2.1 hd (am_ne0 h2 hy) ?_
  rw [am_divI h1 h2 hx hy, am_mul, am_sub, show x - x / y * y = x % y by rw [Int.emod_def, Int.mul_comm]]
  exact (k l p e R s q args below meth c D cA B b g0 g1 Z H locs cells slots ls hC hZ hR hL (am_StC (show am_i (x % y) from ⟨by have := Int.emod_nonneg x (by omega : y ≠ 0); omega, by have := Int.emod_lt_of_pos x h2; have h9 : am_i y := hy; have := h9.2; omega⟩) (am_StT (am_StT hS))) hF hc hs)
theorem v_iand {m : MInfo} {kc ks pc : Nat} {E st : List AV} {ρ : Rho} {h : Hh} {Q : PQ} {X : PX} {x y : Int} (hd : decode (am_cc m) pc = .ok (.iand, 1))  (k : am_V m kc ks (pc + 1) E (aI (Int32.ofInt x &&& Int32.ofInt y).toInt :: st) ρ h Q X) : am_V m kc ks pc E (aI y :: aI x :: st) ρ h Q X := by
  intro l p e R s q args below meth c D cA B b g0 g1 Z H locs cells slots ls hC hZ hR hL hS hF hc hs
  have hy := am_StH hS
  have hx := am_StH (am_StT hS)
  refine lv_iand hC.2.1 hC.2.2.1 hd ?_
  rw [show Int32.ofInt x &&& Int32.ofInt y = Int32.ofInt (Int32.ofInt x &&& Int32.ofInt y).toInt from (Int32.ofInt_toInt _).symm]
  exact (k l p e R s q args below meth c D cA B b g0 g1 Z H locs cells slots ls hC hZ hR hL (am_StC (am_andI x y) (am_StT (am_StT hS))) hF hc hs)
theorem v_ladd {m : MInfo} {kc ks pc : Nat} {E st : List AV} {ρ : Rho} {h : Hh} {Q : PQ} {X : PX} {x y : Int} (hd : decode (am_cc m) pc = .ok (.ladd, 1))  (k : am_V m kc ks (pc + 1) E (aL ((x + y).bmod (2 ^ 64)) :: st) ρ h Q X) : am_V m kc ks pc E (aL y :: aL x :: st) ρ h Q X := by
  intro l p e R s q args below meth c D cA B b g0 g1 Z H locs cells slots ls hC hZ hR hL hS hF hc hs
  have hy := am_StH hS
  have hx := am_StH (am_StT hS)
  refine lv_ladd hC.2.1 hC.2.2.1 hd ?_
  rw [am_addL hx hy]
  exact (k l p e R s q args below meth c D cA B b g0 g1 Z H locs cells slots ls hC hZ hR hL (am_StC (am_wL _) (am_StT (am_StT hS))) hF hc hs)
theorem v_lsub {m : MInfo} {kc ks pc : Nat} {E st : List AV} {ρ : Rho} {h : Hh} {Q : PQ} {X : PX} {x y : Int} (hd : decode (am_cc m) pc = .ok (.lsub, 1))  (k : am_V m kc ks (pc + 1) E (aL ((x - y).bmod (2 ^ 64)) :: st) ρ h Q X) : am_V m kc ks pc E (aL y :: aL x :: st) ρ h Q X := by
  intro l p e R s q args below meth c D cA B b g0 g1 Z H locs cells slots ls hC hZ hR hL hS hF hc hs
  have hy := am_StH hS
  have hx := am_StH (am_StT hS)
  refine lv_lsub hC.2.1 hC.2.2.1 hd ?_
  rw [am_subL hx hy]
  exact (k l p e R s q args below meth c D cA B b g0 g1 Z H locs cells slots ls hC hZ hR hL (am_StC (am_wL _) (am_StT (am_StT hS))) hF hc hs)
theorem v_lmul {m : MInfo} {kc ks pc : Nat} {E st : List AV} {ρ : Rho} {h : Hh} {Q : PQ} {X : PX} {x y : Int} (hd : decode (am_cc m) pc = .ok (.lmul, 1))  (k : am_V m kc ks (pc + 1) E (aL ((x * y).bmod (2 ^ 64)) :: st) ρ h Q X) : am_V m kc ks pc E (aL y :: aL x :: st) ρ h Q X := by
  intro l p e R s q args below meth c D cA B b g0 g1 Z H locs cells slots ls hC hZ hR hL hS hF hc hs
  have hy := am_StH hS
  have hx := am_StH (am_StT hS)
  refine lv_lmul hC.2.1 hC.2.2.1 hd ?_
  rw [am_mulL hx hy]
  exact (k l p e R s q args below meth c D cA B b g0 g1 Z H locs cells slots ls hC hZ hR hL (am_StC (am_wL _) (am_StT (am_StT hS))) hF hc hs)
theorem v_ldiv {m : MInfo} {kc ks pc : Nat} {E st : List AV} {ρ : Rho} {h : Hh} {Q : PQ} {X : PX} {x y : Int} (hd : decode (am_cc m) pc = .ok (.ldiv, 1)) (h1 : 0 ≤ x) (h2 : 0 < y) (k : am_V m kc ks (pc + 1) E (aL (x / y) :: st) ρ h Q X) : am_V m kc ks pc E (aL y :: aL x :: st) ρ h Q X := by
  intro l p e R s q args below meth c D cA B b g0 g1 Z H locs cells slots ls hC hZ hR hL hS hF hc hs
  have hy := am_StH hS
  have hx := am_StH (am_StT hS)
  refine lv_ldiv hC.2.1 hC.2.2.1 hd (am_ne0L h2 hy) ?_
  rw [am_divL h1 h2 hx hy]
  exact (k l p e R s q args below meth c D cA B b g0 g1 Z H locs cells slots ls hC hZ hR hL (am_StC (show am_l (x / y) from ⟨by have := Int.ediv_nonneg h1 (Int.le_of_lt h2); omega, by have := Int.ediv_le_self y h1; have h9 : am_l x := hx; have := h9.2; omega⟩) (am_StT (am_StT hS))) hF hc hs)
theorem v_lcmp {m : MInfo} {kc ks pc : Nat} {E st : List AV} {ρ : Rho} {h : Hh} {Q : PQ} {X : PX} {x y : Int} (hd : decode (am_cc m) pc = .ok (.lcmp, 1))  (k : am_V m kc ks (pc + 1) E (aI (if y < x then 1 else if x = y then 0 else -1) :: st) ρ h Q X) : am_V m kc ks pc E (aL y :: aL x :: st) ρ h Q X := by
  intro l p e R s q args below meth c D cA B b g0 g1 Z H locs cells slots ls hC hZ hR hL hS hF hc hs
  have hy := am_StH hS
  have hx := am_StH (am_StT hS)
  refine W.lcmp hC.2.1 hC.2.2.1 hd ?_
  rw [am_cmpL hx hy]
  exact (k l p e R s q args below meth c D cA B b g0 g1 Z H locs cells slots ls hC hZ hR hL (am_StC (show am_i _ by split; exact ⟨by decide, by decide⟩; split <;> exact ⟨by decide, by decide⟩) (am_StT (am_StT hS))) hF hc hs)
theorem v_fdiv {m : MInfo} {kc ks pc : Nat} {E st : List AV} {ρ : Rho} {h : Hh} {Q : PQ} {X : PX} {x y : UInt32} (hd : decode (am_cc m) pc = .ok (.fdiv, 1)) (hn : vf_n32 (FP.fdiv x y)) (k : am_V m kc ks (pc + 1) E (aF (FP.fdiv x y) :: st) ρ h Q X) : am_V m kc ks pc E (aF y :: aF x :: st) ρ h Q X := by
  intro l p e R s q args below meth c D cA B b g0 g1 Z H locs cells slots ls hC hZ hR hL hS hF hc hs
  have hy := am_StH hS
  have hx := am_StH (am_StT hS)
  refine lv_fdiv hC.2.1 hC.2.2.1 hd hn ?_
  exact (k l p e R s q args below meth c D cA B b g0 g1 Z H locs cells slots ls hC hZ hR hL (am_StC trivial (am_StT (am_StT hS))) hF hc hs)
theorem v_ddiv {m : MInfo} {kc ks pc : Nat} {E st : List AV} {ρ : Rho} {h : Hh} {Q : PQ} {X : PX} {x y : UInt64} (hd : decode (am_cc m) pc = .ok (.ddiv, 1)) (hn : vf_n64 (FP.ddiv x y)) (k : am_V m kc ks (pc + 1) E (aD (FP.ddiv x y) :: st) ρ h Q X) : am_V m kc ks pc E (aD y :: aD x :: st) ρ h Q X := by
  intro l p e R s q args below meth c D cA B b g0 g1 Z H locs cells slots ls hC hZ hR hL hS hF hc hs
  have hy := am_StH hS
  have hx := am_StH (am_StT hS)
  refine lv_ddiv hC.2.1 hC.2.2.1 hd hn ?_
  exact (k l p e R s q args below meth c D cA B b g0 g1 Z H locs cells slots ls hC hZ hR hL (am_StC trivial (am_StT (am_StT hS))) hF hc hs)
theorem v_dcmp {m : MInfo} {kc ks pc : Nat} {E st : List AV} {ρ : Rho} {h : Hh} {Q : PQ} {X : PX} {op : CmpOp} {x y : UInt64} (hd : decode (am_cc m) pc = .ok (.dcmp op, 1)) (k : am_V m kc ks (pc + 1) E (aI (Op.cmpValue (FP.dcmp x y) op).toInt :: st) ρ h Q X) : am_V m kc ks pc E (aD y :: aD x :: st) ρ h Q X := by
  intro l p e R s q args below meth c D cA B b g0 g1 Z H locs cells slots ls hC hZ hR hL hS hF hc hs
  refine lv_dcmp hC.2.1 hC.2.2.1 hd ?_
  rw [← Int32.ofInt_toInt (Op.cmpValue (FP.dcmp x y) op)]
  exact (k l p e R s q args below meth c D cA B b g0 g1 Z H locs cells slots ls hC hZ hR hL (am_StC (am_rI _) (am_StT (am_StT hS))) hF hc hs)
theorem v_fcmp {m : MInfo} {kc ks pc : Nat} {E st : List AV} {ρ : Rho} {h : Hh} {Q : PQ} {X : PX} {op : CmpOp} {x y : UInt32} (hd : decode (am_cc m) pc = .ok (.fcmp op, 1)) (k : am_V m kc ks (pc + 1) E (aI (Op.cmpValue (FP.fcmp x y) op).toInt :: st) ρ h Q X) : am_V m kc ks pc E (aF y :: aF x :: st) ρ h Q X := by
  intro l p e R s q args below meth c D cA B b g0 g1 Z H locs cells slots ls hC hZ hR hL hS hF hc hs
  refine lv_fcmp hC.2.1 hC.2.2.1 hd ?_
  rw [← Int32.ofInt_toInt (Op.cmpValue (FP.fcmp x y) op)]
  exact (k l p e R s q args below meth c D cA B b g0 g1 Z H locs cells slots ls hC hZ hR hL (am_StC (am_rI _) (am_StT (am_StT hS))) hF hc hs)
theorem v_i2c {m : MInfo} {kc ks pc : Nat} {E st : List AV} {ρ : Rho} {h : Hh} {Q : PQ} {X : PX} {x : Int} (hd : decode (am_cc m) pc = .ok (.i2c, 1))  (k : am_V m kc ks (pc + 1) E (aI (x % 65536) :: st) ρ h Q X) : am_V m kc ks pc E (aI x :: st) ρ h Q X := by
  intro l p e R s q args below meth c D cA B b g0 g1 Z H locs cells slots ls hC hZ hR hL hS hF hc hs
  have hx := am_StH hS
  exact lv_i2c hC.2.1 hC.2.2.1 hd am_char (k l p e R s q args below meth c D cA B b g0 g1 Z H locs cells slots ls hC hZ hR hL (am_StC (show am_i (x % 65536) from ⟨by omega, by omega⟩) (am_StT hS)) hF hc hs)
theorem v_i2l {m : MInfo} {kc ks pc : Nat} {E st : List AV} {ρ : Rho} {h : Hh} {Q : PQ} {X : PX} {x : Int} (hd : decode (am_cc m) pc = .ok (.i2l, 1))  (k : am_V m kc ks (pc + 1) E (aL x :: st) ρ h Q X) : am_V m kc ks pc E (aI x :: st) ρ h Q X := by
  intro l p e R s q args below meth c D cA B b g0 g1 Z H locs cells slots ls hC hZ hR hL hS hF hc hs
  have hx := am_StH hS
  exact lv_i2l hC.2.1 hC.2.2.1 hd (am_i2l hx) (k l p e R s q args below meth c D cA B b g0 g1 Z H locs cells slots ls hC hZ hR hL (am_StC (am_lOf hx) (am_StT hS)) hF hc hs)
theorem v_i2f {m : MInfo} {kc ks pc : Nat} {E st : List AV} {ρ : Rho} {h : Hh} {Q : PQ} {X : PX} {x : Int} (hd : decode (am_cc m) pc = .ok (.i2f, 1))  (k : am_V m kc ks (pc + 1) E (aF (FP.i2f (Int32.ofInt x)) :: st) ρ h Q X) : am_V m kc ks pc E (aI x :: st) ρ h Q X := by
  intro l p e R s q args below meth c D cA B b g0 g1 Z H locs cells slots ls hC hZ hR hL hS hF hc hs
  have hx := am_StH hS
  exact lv_i2f hC.2.1 hC.2.2.1 hd (k l p e R s q args below meth c D cA B b g0 g1 Z H locs cells slots ls hC hZ hR hL (am_StC trivial (am_StT hS)) hF hc hs)
theorem v_i2d {m : MInfo} {kc ks pc : Nat} {E st : List AV} {ρ : Rho} {h : Hh} {Q : PQ} {X : PX} {x : Int} (hd : decode (am_cc m) pc = .ok (.i2d, 1))  (k : am_V m kc ks (pc + 1) E (aD (FP.i2d (Int32.ofInt x)) :: st) ρ h Q X) : am_V m kc ks pc E (aI x :: st) ρ h Q X := by
  intro l p e R s q args below meth c D cA B b g0 g1 Z H locs cells slots ls hC hZ hR hL hS hF hc hs
  have hx := am_StH hS
  exact lv_i2d hC.2.1 hC.2.2.1 hd (k l p e R s q args below meth c D cA B b g0 g1 Z H locs cells slots ls hC hZ hR hL (am_StC trivial (am_StT hS)) hF hc hs)
theorem v_f2d {m : MInfo} {kc ks pc : Nat} {E st : List AV} {ρ : Rho} {h : Hh} {Q : PQ} {X : PX} {x : UInt32} (hd : decode (am_cc m) pc = .ok (.f2d, 1)) (hn : vf_n64 (FP.f2d x)) (k : am_V m kc ks (pc + 1) E (aD (FP.f2d x) :: st) ρ h Q X) : am_V m kc ks pc E (aF x :: st) ρ h Q X := by
  intro l p e R s q args below meth c D cA B b g0 g1 Z H locs cells slots ls hC hZ hR hL hS hF hc hs
  have hx := am_StH hS
  exact lv_f2d hC.2.1 hC.2.2.1 hd hn (k l p e R s q args below meth c D cA B b g0 g1 Z H locs cells slots ls hC hZ hR hL (am_StC trivial (am_StT hS)) hF hc hs)
theorem v_dupR {m : MInfo} {kc ks pc : Nat} {E st : List AV} {ρ : Rho} {h : Hh} {Q : PQ} {X : PX} {x : Nat} (hd : decode (am_cc m) pc = .ok (.dup, 1)) (k : am_V m kc ks (pc + 1) E (aR x :: aR x :: st) ρ h Q X) : am_V m kc ks pc E (aR x :: st) ρ h Q X := by
  intro l p e R s q args below meth c D cA B b g0 g1 Z H locs cells slots ls hC hZ hR hL hS hF hc hs
  exact lv_dup hC.2.1 hC.2.2.1 hd rfl (k l p e R s q args below meth c D cA B b g0 g1 Z H locs cells slots ls hC hZ hR hL (am_StC trivial hS) hF hc hs)
theorem v_dupI {m : MInfo} {kc ks pc : Nat} {E st : List AV} {ρ : Rho} {h : Hh} {Q : PQ} {X : PX} {x : Int} (hd : decode (am_cc m) pc = .ok (.dup, 1)) (k : am_V m kc ks (pc + 1) E (aI x :: aI x :: st) ρ h Q X) : am_V m kc ks pc E (aI x :: st) ρ h Q X := by
  intro l p e R s q args below meth c D cA B b g0 g1 Z H locs cells slots ls hC hZ hR hL hS hF hc hs
  exact lv_dup hC.2.1 hC.2.2.1 hd rfl (k l p e R s q args below meth c D cA B b g0 g1 Z H locs cells slots ls hC hZ hR hL (am_StC (am_StH hS) hS) hF hc hs)
theorem v_dup2 {m : MInfo} {kc ks pc : Nat} {E st : List AV} {ρ : Rho} {h : Hh} {Q : PQ} {X : PX} {x : Int} {a : Nat} (hd : decode (am_cc m) pc = .ok (.dup2, 1)) (k : am_V m kc ks (pc + 1) E (aI x :: aR a :: aI x :: aR a :: st) ρ h Q X) : am_V m kc ks pc E (aI x :: aR a :: st) ρ h Q X := by
  intro l p e R s q args below meth c D cA B b g0 g1 Z H locs cells slots ls hC hZ hR hL hS hF hc hs
  exact lv_dup2_11 hC.2.1 hC.2.2.1 hd rfl rfl (k l p e R s q args below meth c D cA B b g0 g1 Z H locs cells slots ls hC hZ hR hL (am_StC (am_StH hS) (am_StC trivial hS)) hF hc hs)
theorem v_if_eq {m : MInfo} {kc ks pc : Nat} {E st : List AV} {ρ : Rho} {h : Hh} {Q : PQ} {X : PX} {x off : Int} {tgt : Nat} (hd : decode (am_cc m) pc = .ok (.ifCond .eq off, 3)) (ht : (pc : Int) + off = (tgt : Int)) (kt : x = 0 → am_V m kc ks tgt E st ρ h Q X) (kf : x ≠ 0 → am_V m kc ks (pc + 3) E st ρ h Q X) : am_V m kc ks pc E (aI x :: st) ρ h Q X := by
  intro l p e R s q args below meth c D cA B b g0 g1 Z H locs cells slots ls hC hZ hR hL hS hF hc hs
  have hx : am_i x := am_StH hS
  have eq9 := am_eqI hx am_i0
  refine lv_if_eq hC.2.1 hC.2.2.1 hd ht (fun z => kt ?_ l p e R s q args below meth c D cA B b g0 g1 Z H locs cells slots ls hC hZ hR hL (am_StT hS) hF hc hs) (fun z => kf ?_ l p e R s q args below meth c D cA B b g0 g1 Z H locs cells slots ls hC hZ hR hL (am_StT hS) hF hc hs)
  · exact eq9.mp z
  · exact fun y => z (eq9.mpr y)
theorem v_if_ne {m : MInfo} {kc ks pc : Nat} {E st : List AV} {ρ : Rho} {h : Hh} {Q : PQ} {X : PX} {x off : Int} {tgt : Nat} (hd : decode (am_cc m) pc = .ok (.ifCond .ne off, 3)) (ht : (pc : Int) + off = (tgt : Int)) (kt : x ≠ 0 → am_V m kc ks tgt E st ρ h Q X) (kf : x = 0 → am_V m kc ks (pc + 3) E st ρ h Q X) : am_V m kc ks pc E (aI x :: st) ρ h Q X := by
  intro l p e R s q args below meth c D cA B b g0 g1 Z H locs cells slots ls hC hZ hR hL hS hF hc hs
  have hx : am_i x := am_StH hS
  have eq9 := am_eqI hx am_i0
  refine lv_if_ne hC.2.1 hC.2.2.1 hd ht (fun z => kt ?_ l p e R s q args below meth c D cA B b g0 g1 Z H locs cells slots ls hC hZ hR hL (am_StT hS) hF hc hs) (fun z => kf ?_ l p e R s q args below meth c D cA B b g0 g1 Z H locs cells slots ls hC hZ hR hL (am_StT hS) hF hc hs)
  · exact fun y => z (eq9.mpr y)
  · exact eq9.mp z
theorem v_if_lt {m : MInfo} {kc ks pc : Nat} {E st : List AV} {ρ : Rho} {h : Hh} {Q : PQ} {X : PX} {x off : Int} {tgt : Nat} (hd : decode (am_cc m) pc = .ok (.ifCond .lt off, 3)) (ht : (pc : Int) + off = (tgt : Int)) (kt : x < 0 → am_V m kc ks tgt E st ρ h Q X) (kf : 0 ≤ x → am_V m kc ks (pc + 3) E st ρ h Q X) : am_V m kc ks pc E (aI x :: st) ρ h Q X := by
  intro l p e R s q args below meth c D cA B b g0 g1 Z H locs cells slots ls hC hZ hR hL hS hF hc hs
  have hx : am_i x := am_StH hS
  have eq9 := am_ltI hx am_i0
  refine lv_if_lt hC.2.1 hC.2.2.1 hd ht (fun z => kt ?_ l p e R s q args below meth c D cA B b g0 g1 Z H locs cells slots ls hC hZ hR hL (am_StT hS) hF hc hs) (fun z => kf ?_ l p e R s q args below meth c D cA B b g0 g1 Z H locs cells slots ls hC hZ hR hL (am_StT hS) hF hc hs)
  · exact eq9.mp z
  · have := mt eq9.mpr z; omega
theorem v_if_ge {m : MInfo} {kc ks pc : Nat} {E st : List AV} {ρ : Rho} {h : Hh} {Q : PQ} {X : PX} {x off : Int} {tgt : Nat} (hd : decode (am_cc m) pc = .ok (.ifCond .ge off, 3)) (ht : (pc : Int) + off = (tgt : Int)) (kt : 0 ≤ x → am_V m kc ks tgt E st ρ h Q X) (kf : x < 0 → am_V m kc ks (pc + 3) E st ρ h Q X) : am_V m kc ks pc E (aI x :: st) ρ h Q X := by
  intro l p e R s q args below meth c D cA B b g0 g1 Z H locs cells slots ls hC hZ hR hL hS hF hc hs
  have hx : am_i x := am_StH hS
  have eq9 := am_leI am_i0 hx
  refine lv_if_ge hC.2.1 hC.2.2.1 hd ht (fun z => kt ?_ l p e R s q args below meth c D cA B b g0 g1 Z H locs cells slots ls hC hZ hR hL (am_StT hS) hF hc hs) (fun z => kf ?_ l p e R s q args below meth c D cA B b g0 g1 Z H locs cells slots ls hC hZ hR hL (am_StT hS) hF hc hs)
  · exact eq9.mp z
  · have := mt eq9.mpr z; omega
theorem v_if_gt {m : MInfo} {kc ks pc : Nat} {E st : List AV} {ρ : Rho} {h : Hh} {Q : PQ} {X : PX} {x off : Int} {tgt : Nat} (hd : decode (am_cc m) pc = .ok (.ifCond .gt off, 3)) (ht : (pc : Int) + off = (tgt : Int)) (kt : 0 < x → am_V m kc ks tgt E st ρ h Q X) (kf : x ≤ 0 → am_V m kc ks (pc + 3) E st ρ h Q X) : am_V m kc ks pc E (aI x :: st) ρ h Q X := by
  intro l p e R s q args below meth c D cA B b g0 g1 Z H locs cells slots ls hC hZ hR hL hS hF hc hs
  have hx : am_i x := am_StH hS
  have eq9 := am_ltI am_i0 hx
  refine lv_if_gt hC.2.1 hC.2.2.1 hd ht (fun z => kt ?_ l p e R s q args below meth c D cA B b g0 g1 Z H locs cells slots ls hC hZ hR hL (am_StT hS) hF hc hs) (fun z => kf ?_ l p e R s q args below meth c D cA B b g0 g1 Z H locs cells slots ls hC hZ hR hL (am_StT hS) hF hc hs)
  · exact eq9.mp z
  · have := mt eq9.mpr z; omega
theorem v_if_le {m : MInfo} {kc ks pc : Nat} {E st : List AV} {ρ : Rho} {h : Hh} {Q : PQ} {X : PX} {x off : Int} {tgt : Nat} (hd : decode (am_cc m) pc = .ok (.ifCond .le off, 3)) (ht : (pc : Int) + off = (tgt : Int)) (kt : x ≤ 0 → am_V m kc ks tgt E st ρ h Q X) (kf : 0 < x → am_V m kc ks (pc + 3) E st ρ h Q X) : am_V m kc ks pc E (aI x :: st) ρ h Q X := by
  intro l p e R s q args below meth c D cA B b g0 g1 Z H locs cells slots ls hC hZ hR hL hS hF hc hs
  have hx : am_i x := am_StH hS
  have eq9 := am_leI hx am_i0
  refine lv_if_le hC.2.1 hC.2.2.1 hd ht (fun z => kt ?_ l p e R s q args below meth c D cA B b g0 g1 Z H locs cells slots ls hC hZ hR hL (am_StT hS) hF hc hs) (fun z => kf ?_ l p e R s q args below meth c D cA B b g0 g1 Z H locs cells slots ls hC hZ hR hL (am_StT hS) hF hc hs)
  · exact eq9.mp z
  · have := mt eq9.mpr z; omega
theorem v_icmp_eq {m : MInfo} {kc ks pc : Nat} {E st : List AV} {ρ : Rho} {h : Hh} {Q : PQ} {X : PX} {x y off : Int} {tgt : Nat} (hd : decode (am_cc m) pc = .ok (.if_icmp .eq off, 3)) (ht : (pc : Int) + off = (tgt : Int)) (kt : x = y → am_V m kc ks tgt E st ρ h Q X) (kf : x ≠ y → am_V m kc ks (pc + 3) E st ρ h Q X) : am_V m kc ks pc E (aI y :: aI x :: st) ρ h Q X := by
  intro l p e R s q args below meth c D cA B b g0 g1 Z H locs cells slots ls hC hZ hR hL hS hF hc hs
  have hy : am_i y := am_StH hS
  have hx : am_i x := am_StH (am_StT hS)
  have eq9 := am_eqI hx hy
  refine lv_icmp_eq hC.2.1 hC.2.2.1 hd ht (fun z => kt ?_ l p e R s q args below meth c D cA B b g0 g1 Z H locs cells slots ls hC hZ hR hL (am_StT (am_StT hS)) hF hc hs) (fun z => kf ?_ l p e R s q args below meth c D cA B b g0 g1 Z H locs cells slots ls hC hZ hR hL (am_StT (am_StT hS)) hF hc hs)
  · exact eq9.mp z
  · exact fun y => z (eq9.mpr y)
theorem v_icmp_ne {m : MInfo} {kc ks pc : Nat} {E st : List AV} {ρ : Rho} {h : Hh} {Q : PQ} {X : PX} {x y off : Int} {tgt : Nat} (hd : decode (am_cc m) pc = .ok (.if_icmp .ne off, 3)) (ht : (pc : Int) + off = (tgt : Int)) (kt : x ≠ y → am_V m kc ks tgt E st ρ h Q X) (kf : x = y → am_V m kc ks (pc + 3) E st ρ h Q X) : am_V m kc ks pc E (aI y :: aI x :: st) ρ h Q X := by
  intro l p e R s q args below meth c D cA B b g0 g1 Z H locs cells slots ls hC hZ hR hL hS hF hc hs
  have hy : am_i y := am_StH hS
  have hx : am_i x := am_StH (am_StT hS)
  have eq9 := am_eqI hx hy
  refine lv_icmp_ne hC.2.1 hC.2.2.1 hd ht (fun z => kt ?_ l p e R s q args below meth c D cA B b g0 g1 Z H locs cells slots ls hC hZ hR hL (am_StT (am_StT hS)) hF hc hs) (fun z => kf ?_ l p e R s q args below meth c D cA B b g0 g1 Z H locs cells slots ls hC hZ hR hL (am_StT (am_StT hS)) hF hc hs)
  · exact fun y => z (eq9.mpr y)
  · exact eq9.mp z
theorem v_icmp_lt {m : MInfo} {kc ks pc : Nat} {E st : List AV} {ρ : Rho} {h : Hh} {Q : PQ} {X : PX} {x y off : Int} {tgt : Nat} (hd : decode (am_cc m) pc = .ok (.if_icmp .lt off, 3)) (ht : (pc : Int) + off = (tgt : Int)) (kt : x < y → am_V m kc ks tgt E st ρ h Q X) (kf : y ≤ x → am_V m kc ks (pc + 3) E st ρ h Q X) : am_V m kc ks pc E (aI y :: aI x :: st) ρ h Q X := by
  intro l p e R s q args below meth c D cA B b g0 g1 Z H locs cells slots ls hC hZ hR hL hS hF hc hs
  have hy : am_i y := am_StH hS
  have hx : am_i x := am_StH (am_StT hS)
  have eq9 := am_ltI hx hy
  refine lv_icmp_lt hC.2.1 hC.2.2.1 hd ht (fun z => kt ?_ l p e R s q args below meth c D cA B b g0 g1 Z H locs cells slots ls hC hZ hR hL (am_StT (am_StT hS)) hF hc hs) (fun z => kf ?_ l p e R s q args below meth c D cA B b g0 g1 Z H locs cells slots ls hC hZ hR hL (am_StT (am_StT hS)) hF hc hs)
  · exact eq9.mp z
  · have := mt eq9.mpr z; omega
theorem v_icmp_ge {m : MInfo} {kc ks pc : Nat} {E st : List AV} {ρ : Rho} {h : Hh} {Q : PQ} {X : PX} {x y off : Int} {tgt : Nat} (hd : decode (am_cc m) pc = .ok (.if_icmp .ge off, 3)) (ht : (pc : Int) + off = (tgt : Int)) (kt : y ≤ x → am_V m kc ks tgt E st ρ h Q X) (kf : x < y → am_V m kc ks (pc + 3) E st ρ h Q X) : am_V m kc ks pc E (aI y :: aI x :: st) ρ h Q X := by
  intro l p e R s q args below meth c D cA B b g0 g1 Z H locs cells slots ls hC hZ hR hL hS hF hc hs
  have hy : am_i y := am_StH hS
  have hx : am_i x := am_StH (am_StT hS)
  have eq9 := am_leI hy hx
  refine lv_icmp_ge hC.2.1 hC.2.2.1 hd ht (fun z => kt ?_ l p e R s q args below meth c D cA B b g0 g1 Z H locs cells slots ls hC hZ hR hL (am_StT (am_StT hS)) hF hc hs) (fun z => kf ?_ l p e R s q args below meth c D cA B b g0 g1 Z H locs cells slots ls hC hZ hR hL (am_StT (am_StT hS)) hF hc hs)
  · exact eq9.mp z
  · have := mt eq9.mpr z; omega
theorem v_icmp_gt {m : MInfo} {kc ks pc : Nat} {E st : List AV} {ρ : Rho} {h : Hh} {Q : PQ} {X : PX} {x y off : Int} {tgt : Nat} (hd : decode (am_cc m) pc = .ok (.if_icmp .gt off, 3)) (ht : (pc : Int) + off = (tgt : Int)) (kt : y < x → am_V m kc ks tgt E st ρ h Q X) (kf : x ≤ y → am_V m kc ks (pc + 3) E st ρ h Q X) : am_V m kc ks pc E (aI y :: aI x :: st) ρ h Q X := by
  intro l p e R s q args below meth c D cA B b g0 g1 Z H locs cells slots ls hC hZ hR hL hS hF hc hs
  have hy : am_i y := am_StH hS
  have hx : am_i x := am_StH (am_StT hS)
  have eq9 := am_ltI hy hx
  refine lv_icmp_gt hC.2.1 hC.2.2.1 hd ht (fun z => kt ?_ l p e R s q args below meth c D cA B b g0 g1 Z H locs cells slots ls hC hZ hR hL (am_StT (am_StT hS)) hF hc hs) (fun z => kf ?_ l p e R s q args below meth c D cA B b g0 g1 Z H locs cells slots ls hC hZ hR hL (am_StT (am_StT hS)) hF hc hs)
  · exact eq9.mp z
  · have := mt eq9.mpr z; omega
theorem v_icmp_le {m : MInfo} {kc ks pc : Nat} {E st : List AV} {ρ : Rho} {h : Hh} {Q : PQ} {X : PX} {x y off : Int} {tgt : Nat} (hd : decode (am_cc m) pc = .ok (.if_icmp .le off, 3)) (ht : (pc : Int) + off = (tgt : Int)) (kt : x ≤ y → am_V m kc ks tgt E st ρ h Q X) (kf : y < x → am_V m kc ks (pc + 3) E st ρ h Q X) : am_V m kc ks pc E (aI y :: aI x :: st) ρ h Q X := by
  intro l p e R s q args below meth c D cA B b g0 g1 Z H locs cells slots ls hC hZ hR hL hS hF hc hs
  have hy : am_i y := am_StH hS
  have hx : am_i x := am_StH (am_StT hS)
  have eq9 := am_leI hx hy
  refine lv_icmp_le hC.2.1 hC.2.2.1 hd ht (fun z => kt ?_ l p e R s q args below meth c D cA B b g0 g1 Z H locs cells slots ls hC hZ hR hL (am_StT (am_StT hS)) hF hc hs) (fun z => kf ?_ l p e R s q args below meth c D cA B b g0 g1 Z H locs cells slots ls hC hZ hR hL (am_StT (am_StT hS)) hF hc hs)
  · exact eq9.mp z
  · have := mt eq9.mpr z; omega
theorem v_goto {m : MInfo} {kc ks pc : Nat} {E st : List AV} {ρ : Rho} {h : Hh} {Q : PQ} {X : PX} {off : Int} {tgt : Nat} (hd : decode (am_cc m) pc = .ok (.goto off, 3)) (ht : (pc : Int) + off = (tgt : Int)) (k : am_V m kc ks tgt E st ρ h Q X) : am_V m kc ks pc E st ρ h Q X := by
  intro l p e R s q args below meth c D cA B b g0 g1 Z H locs cells slots ls hC hZ hR hL hS hF hc hs
  exact lv_goto hC.2.1 hC.2.2.1 hd ht (k l p e R s q args below meth c D cA B b g0 g1 Z H locs cells slots ls hC hZ hR hL hS hF hc hs)
theorem am_toI32 {x : Int} : (Int64.ofInt x).toInt32 = Int32.ofInt x := by
  rw [← Int32.toInt_inj, Int64.toInt_toInt32, Int64.toInt_ofInt, Int32.toInt_ofInt]
  apply Int.bmod_bmod_of_dvd
  exact ⟨2 ^ 32, by decide⟩
theorem v_l2i {m : MInfo} {kc ks pc : Nat} {E st : List AV} {ρ : Rho} {h : Hh} {Q : PQ} {X : PX} {x : Int} (hd : decode (am_cc m) pc = .ok (.l2i, 1)) (hx : am_i x) (k : am_V m kc ks (pc + 1) E (aI x :: st) ρ h Q X) : am_V m kc ks pc E (aL x :: st) ρ h Q X := by
  intro l p e R s q args below meth c D cA B b g0 g1 Z H locs cells slots ls hC hZ hR hL hS hF hc hs
  exact lv_l2i hC.2.1 hC.2.2.1 hd am_toI32 (k l p e R s q args below meth c D cA B b g0 g1 Z H locs cells slots ls hC hZ hR hL (am_StC hx (am_StT hS)) hF hc hs)
theorem v_pop2l {m : MInfo} {kc ks pc : Nat} {E st : List AV} {ρ : Rho} {h : Hh} {Q : PQ} {X : PX} {x : Int} (hd : decode (am_cc m) pc = .ok (.pop2, 1)) (k : am_V m kc ks (pc + 1) E st ρ h Q X) : am_V m kc ks pc E (aL x :: st) ρ h Q X := by
  intro l p e R s q args below meth c D cA B b g0 g1 Z H locs cells slots ls hC hZ hR hL hS hF hc hs
  exact lv_pop2_2 hC.2.1 hC.2.2.1 hd rfl (k l p e R s q args below meth c D cA B b g0 g1 Z H locs cells slots ls hC hZ hR hL (am_StT hS) hF hc hs)
theorem v_ldci {m : MInfo} {kc ks pc : Nat} {E st : List AV} {ρ : Rho} {h : Hh} {Q : PQ} {X : PX} {n : Nat} {x : Int} (hd : decode (am_cc m) pc = .ok (.ldc n, 2)) (hw : Cond.constant (am_own m) n (Int32.ofInt x) ∈ am_W0) (hx : am_i x) (k : am_V m kc ks (pc + 2) E (aI x :: st) ρ h Q X) : am_V m kc ks pc E st ρ h Q X := by
  intro l p e R s q args below meth c D cA B b g0 g1 Z H locs cells slots ls hC hZ hR hL hS hF hc hs
  exact lv_ldc hC.2.1 hC.2.2.1 hC.2.2.2.2.2.1 (hC.2.2.2.2.2.2.1 _ hw) hd (k l p e R s q args below meth c D cA B b g0 g1 Z H locs cells slots ls hC hZ hR hL (am_StC hx hS) hF hc hs)
/-- iadd, whatever comes out -/
theorem v_iaddA {m : MInfo} {kc ks pc : Nat} {E st : List AV} {ρ : Rho} {h : Hh} {Q : PQ} {X : PX} {x y : Int} (hd : decode (am_cc m) pc = .ok (.iadd, 1)) (k : ∀ z, am_i z → am_V m kc ks (pc + 1) E (aI z :: st) ρ h Q X) : am_V m kc ks pc E (aI y :: aI x :: st) ρ h Q X := by
  intro l p e R s q args below meth c D cA B b g0 g1 Z H locs cells slots ls hC hZ hR hL hS hF hc hs
  refine lv_iadd hC.2.1 hC.2.2.1 hd ?_
  rw [am_asI (z := Int32.ofInt x + Int32.ofInt y) rfl]
  exact k _ (am_rI _) l p e R s q args below meth c D cA B b g0 g1 Z H locs cells slots ls hC hZ hR hL (am_StC (am_rI _) (am_StT (am_StT hS))) hF hc hs
/-- isub, whatever comes out -/
theorem v_isubA {m : MInfo} {kc ks pc : Nat} {E st : List AV} {ρ : Rho} {h : Hh} {Q : PQ} {X : PX} {x y : Int} (hd : decode (am_cc m) pc = .ok (.isub, 1)) (k : ∀ z, am_i z → am_V m kc ks (pc + 1) E (aI z :: st) ρ h Q X) : am_V m kc ks pc E (aI y :: aI x :: st) ρ h Q X := by
  intro l p e R s q args below meth c D cA B b g0 g1 Z H locs cells slots ls hC hZ hR hL hS hF hc hs
  refine lv_isub hC.2.1 hC.2.2.1 hd ?_
  rw [am_asI (z := Int32.ofInt x - Int32.ofInt y) rfl]
  exact k _ (am_rI _) l p e R s q args below meth c D cA B b g0 g1 Z H locs cells slots ls hC hZ hR hL (am_StC (am_rI _) (am_StT (am_StT hS))) hF hc hs
/-- imul, whatever comes out -/
theorem v_imulA {m : MInfo} {kc ks pc : Nat} {E st : List AV} {ρ : Rho} {h : Hh} {Q : PQ} {X : PX} {x y : Int} (hd : decode (am_cc m) pc = .ok (.imul, 1)) (k : ∀ z, am_i z → am_V m kc ks (pc + 1) E (aI z :: st) ρ h Q X) : am_V m kc ks pc E (aI y :: aI x :: st) ρ h Q X := by
  intro l p e R s q args below meth c D cA B b g0 g1 Z H locs cells slots ls hC hZ hR hL hS hF hc hs
  refine lv_imul hC.2.1 hC.2.2.1 hd ?_
  rw [am_asI (z := Int32.ofInt x * Int32.ofInt y) rfl]
  exact k _ (am_rI _) l p e R s q args below meth c D cA B b g0 g1 Z H locs cells slots ls hC hZ hR hL (am_StC (am_rI _) (am_StT (am_StT hS))) hF hc hs
/-- ixor, whatever comes out -/
theorem v_ixorA {m : MInfo} {kc ks pc : Nat} {E st : List AV} {ρ : Rho} {h : Hh} {Q : PQ} {X : PX} {x y : Int} (hd : decode (am_cc m) pc = .ok (.ixor, 1)) (k : ∀ z, am_i z → am_V m kc ks (pc + 1) E (aI z :: st) ρ h Q X) : am_V m kc ks pc E (aI y :: aI x :: st) ρ h Q X := by
  intro l p e R s q args below meth c D cA B b g0 g1 Z H locs cells slots ls hC hZ hR hL hS hF hc hs
  refine lv_ixor hC.2.1 hC.2.2.1 hd ?_
  rw [am_asI (z := Int32.ofInt x ^^^ Int32.ofInt y) rfl]
  exact k _ (am_rI _) l p e R s q args below meth c D cA B b g0 g1 Z H locs cells slots ls hC hZ hR hL (am_StC (am_rI _) (am_StT (am_StT hS))) hF hc hs
theorem v_iushrA {m : MInfo} {kc ks pc : Nat} {E st : List AV} {ρ : Rho} {h : Hh} {Q : PQ} {X : PX} {x y : Int} (hd : decode (am_cc m) pc = .ok (.iushr, 1)) (k : ∀ z, am_i z → am_V m kc ks (pc + 1) E (aI z :: st) ρ h Q X) : am_V m kc ks pc E (aI y :: aI x :: st) ρ h Q X := by
  intro l p e R s q args below meth c D cA B b g0 g1 Z H locs cells slots ls hC hZ hR hL hS hF hc hs
  exact lv_iushr hC.2.1 hC.2.2.1 hd (am_asI rfl) (k _ (am_rI _) l p e R s q args below meth c D cA B b g0 g1 Z H locs cells slots ls hC hZ hR hL (am_StC (am_rI _) (am_StT (am_StT hS))) hF hc hs)
theorem v_iandA {m : MInfo} {kc ks pc : Nat} {E st : List AV} {ρ : Rho} {h : Hh} {Q : PQ} {X : PX} {x y : Int} (hd : decode (am_cc m) pc = .ok (.iand, 1)) (k : ∀ z, am_i z → am_V m kc ks (pc + 1) E (aI z :: st) ρ h Q X) : am_V m kc ks pc E (aI y :: aI x :: st) ρ h Q X :=
  v_iand hd (k _ (am_rI _))
end
section
def am_st (h : Hh) (a : Nat) (j v : Int) : Hh := fun a' j' => if a' = a ∧ j' = j then v else h a' j'
theorem am_st_o {h : Hh} {a a' : Nat} {j v : Int} (hn : a' ≠ a) : am_st h a j v a' = h a' := funext fun j' => if_neg fun z => hn z.1
theorem am_st_s {h : Hh} {a : Nat} {j v : Int} : am_st h a j v a j = v := if_pos ⟨rfl, rfl⟩
theorem am_st_n {h : Hh} {a a' : Nat} {j j' v : Int} (hn : a' ≠ a ∨ j' ≠ j) : am_st h a j v a' j' = h a' j' := if_neg fun z => hn.elim (fun y => y z.1) (fun y => y z.2)
theorem am_st_f {h : Hh} {a : Nat} {j v : Int} : am_st h a j v a = fun j' => if j' = j then v else h a j' := funext fun j' => by simp [am_st]
theorem am_w_get {B a : Nat} {cA : Nat → ClassId} {ρ : Rho} {h : Hh} {kd : Nat × Nat} (hk : ρ.1[a]? = some kd) : (am_w B cA ρ h)[a]? = some (B + a, am_cell B cA kd (ρ.2.1 a) (h a)) := by
  unfold am_w
  rw [List.getElem?_mapIdx, hk]
  rfl
theorem am_w_len {B : Nat} {cA : Nat → ClassId} {ρ : Rho} {h : Hh} : (am_w B cA ρ h).length = ρ.1.length := by
  unfold am_w
  rw [List.length_mapIdx]
theorem am_lt {ρ : Rho} {a : Nat} {kd : Nat × Nat} (hk : ρ.1[a]? = some kd) : a < ρ.1.length := (List.getElem?_eq_some_iff.mp hk).1
theorem am_w_set {B a : Nat} {cA : Nat → ClassId} {ρ ρ' : Rho} {h h' : Hh} {kd : Nat × Nat} {e : va_E} (hk : ρ.1[a]? = some kd) (h1 : ρ'.1 = ρ.1) (he : am_cell B cA kd (ρ'.2.1 a) (h' a) = e) (ho : ∀ a', a' ≠ a → h' a' = h a' ∧ ρ'.2.1 a' = ρ.2.1 a') : (am_w B cA ρ h).set a (B + a, e) = am_w B cA ρ' h' := by
  apply List.ext_getElem?
  intro j
  rw [List.getElem?_set, am_w_len]
  by_cases q : a = j
  · subst q
    rw [if_pos rfl, if_pos (am_lt hk), am_w_get (ρ := ρ') (by rw [h1]; exact hk), he]
  · rw [if_neg q]
    unfold am_w
    rw [List.getElem?_mapIdx, List.getElem?_mapIdx, h1, (ho j (fun z => q z.symm)).1, (ho j (fun z => q z.symm)).2]
theorem am_wD {B : Nat} {cA : Nat → ClassId} {ρ : Rho} {h : Hh} : va_D (am_A B) (am_w B cA ρ h) := by
  have key : ∀ (i : Nat) (p : Nat × va_E), (am_w B cA ρ h)[i]? = some p → p.1 = B + i := by
    intro i p hp
    unfold am_w at hp
    rw [List.getElem?_mapIdx] at hp
    cases hz : ρ.1[i]? with
    | none => rw [hz] at hp; cases hp
    | some kd => rw [hz] at hp; cases hp; rfl
  refine ⟨fun i j p q hp hq hpq => ?_, fun k q hq => ?_⟩
  · have h1 := key i p hp
    have h2 := key j q hq
    omega
  · have h1 := key k q hq
    show B ≤ q.1
    omega
theorem am_HR.lt {D : va_G} {cA : Nat → ClassId} {B a : Nat} {g0 g1 : Int → Int} {ρ : Rho} {h : Hh} {H : Heap} {kd : Nat × Nat} (hR : am_HR D cA B g0 g1 ρ h H) (hk : ρ.1[a]? = some kd) : a < 1000 := Nat.lt_of_lt_of_le (am_lt hk) hR.2.2.1
theorem am_adL {B b a : Nat} (h : a < 1000) : am_ad B b a = B + a := if_neg (by omega)
theorem am_HR.rg {D : va_G} {cA : Nat → ClassId} {B a : Nat} {g0 g1 : Int → Int} {ρ : Rho} {h : Hh} {H : Heap} {kd : Nat × Nat} (hR : am_HR D cA B g0 g1 ρ h H) (hk : ρ.1[a]? = some kd) : am_rg kd (h a) := hR.2.2.2.2.1 a kd hk
theorem am_HR.set {D : va_G} {cA : Nat → ClassId} {B a : Nat} {g0 g1 : Int → Int} {ρ : Rho} {h : Hh} {H H1 : Heap} {kd : Nat × Nat} {j v : Int} {e : va_E} (hR : am_HR D cA B g0 g1 ρ h H) (hk : ρ.1[a]? = some kd) (hP : va_P D am_cl ((am_w B cA ρ h).set a (B + a, e)) H1) (hz : H1.size = H.size) (he : am_cell B cA kd (ρ.2.1 a) (am_st h a j v a) = e) (hg : am_rg kd (am_st h a j v a)) : am_HR D cA B g0 g1 ρ (am_st h a j v) H1 := by
  obtain ⟨h1, h2, h3, h4, h5, h6, h7⟩ := id hR
  have hlt := hR.lt hk
  rw [am_w_set (ρ' := ρ) (h' := am_st h a j v) hk rfl he (fun a' hn => ⟨am_st_o hn, rfl⟩)] at hP
  refine ⟨hP, fun z => by rw [hz]; exact h2 z, h3, h4, fun a' kd' hk' => ?_, ?_, ?_⟩
  · by_cases q : a' = a
    · subst q
      cases hk.symm.trans hk'
      exact hg
    · rw [am_st_o q]
      exact h5 a' kd' hk'
  · rw [am_st_o (by omega)]; exact h6
  · rw [am_st_o (by omega)]; exact h7
theorem am_cellO {B ci N : Nat} {cA : Nat → ClassId} {r : Int → Option Nat} {h : Int → Int} : am_cell B cA (10 + ci, N) r h = .inr (ci, (List.range N).map (fun (k : Nat) => am_fv B ci k (r k) (h k))) := by
  unfold am_cell
  dsimp only
  rw [if_neg (by omega), if_neg (by omega), if_neg (by omega), if_neg (by omega), if_neg (by omega), if_neg (by omega), Nat.add_sub_cancel_left]
/-- an entry of a class's pool for a field, and the field's place -/
def am_FL (own : String) (idx ci k N : Nat) : Prop := ∃ (C : String) (T : u_T), am_cl[ci]? = some (C, T, N) ∧ k < N ∧ Cond.fieldLink own idx (T k).1 (T k).2.1 (T k).2.2.1 ∈ am_W0
/-- the classes' own words, field types and names -/
def am_clsOK (q : vw_C) : Prop := (∀ w ∈ u_ws q.1 q.2.1 q.2.2, w ∈ am_W0) ∧ (∀ a, a < q.2.2 → ∀ b, b < q.2.2 → a ≠ b → (q.2.1 a).2.1 ≠ (q.2.1 b).2.1)
theorem am_mem {w : Cond} (i : Nat) (h : lw_tbl[i]? = some w) (g : goodWord w = true) : w ∈ am_W0 := List.mem_filter.mpr ⟨List.mem_of_getElem? h, g⟩
theorem am_mem1 {w : Cond} (i : Nat) (h : lw_tbl[i]? = some w) (g : am_w1 w = true) : w ∈ am_W1 := List.mem_filter.mpr ⟨List.mem_of_getElem? h, g⟩
theorem v_getI {m : MInfo} {kc ks pc : Nat} {E st : List AV} {ρ : Rho} {h : Hh} {Q : PQ} {X : PX} {idx ci k0 N a : Nat} {j : Int} (hd : decode (am_cc m) pc = .ok (.getfield idx, 3)) (hf : am_FL (am_own m) idx ci k0 N) (hcl : ∀ q ∈ am_cl, am_clsOK q) (hr : am_ref ci k0 = false) (hj : ((k0 : Nat) : Int) = j) (hk : ρ.1[a]? = some (10 + ci, N)) (k : am_V m kc ks (pc + 3) E (aI (h a j) :: st) ρ h Q X) : am_V m kc ks pc E (aR a :: st) ρ h Q X := by
  intro l p e R s q args below meth c D cA B b g0 g1 Z H locs cells slots ls hC hZ hR hL hS hF hc hs
  subst hj
  obtain ⟨C, T, f1, f2, f3⟩ := hf
  have hok := (hR.rg hk).2.1 (by show 10 + ci ≠ 2; omega) (by show 10 + ci ≠ 3; omega) (k0 : Int)
  have hg := am_w_get (B := B) (cA := cA) (h := h) hk
  rw [am_cellO] at hg
  show W p l e R s q args below meth c H locs cells slots Z (F0 q pc ls (.ref (am_ad B b a) :: st.map (am_v B b)))
  rw [am_adL (hR.lt hk)]
  refine va_get (Ts := am_W0) (ref := (T k0).1) hC.2.1 hC.2.2.1 hC.2.2.2.2.2.2.1 (hcl _ (List.mem_of_getElem? f1)).1 hC.2.2.2.2.2.1 hC.2.2.2.2.2.2.2.2.2.2.1 hR.1 a hg f1 k0 f2 (hC.2.2.2.2.2.2.1 _ f3) (fun x hx => hx) (v := .int (Int32.ofInt (h a k0))) ?_ hd ?_
  · rw [List.getElem?_map, List.getElem?_range f2]
    simp only [Option.map_some, am_fv, hr]
    rfl
  · exact (k l p e R s q args below meth c D cA B b g0 g1 Z H locs cells slots ls hC hZ hR hL (am_StC (v := aI (h a k0)) hok (am_StT hS)) hF hc hs)
theorem v_getR {m : MInfo} {kc ks pc : Nat} {E st : List AV} {ρ : Rho} {h : Hh} {Q : PQ} {X : PX} {idx ci k0 N a x : Nat} (hd : decode (am_cc m) pc = .ok (.getfield idx, 3)) (hf : am_FL (am_own m) idx ci k0 N) (hcl : ∀ q ∈ am_cl, am_clsOK q) (hr : am_ref ci k0 = true) (hk : ρ.1[a]? = some (10 + ci, N)) (hx : ρ.2.1 a k0 = some x) (k : am_V m kc ks (pc + 3) E (aR x :: st) ρ h Q X) : am_V m kc ks pc E (aR a :: st) ρ h Q X := by
  intro l p e R s q args below meth c D cA B b g0 g1 Z H locs cells slots ls hC hZ hR hL hS hF hc hs
  obtain ⟨C, T, f1, f2, f3⟩ := hf
  have hx9 := hR.2.2.2.1 _ _ _ hx
  have hg := am_w_get (B := B) (cA := cA) (h := h) hk
  rw [am_cellO] at hg
  show W p l e R s q args below meth c H locs cells slots Z (F0 q pc ls (.ref (am_ad B b a) :: st.map (am_v B b)))
  rw [am_adL (hR.lt hk)]
  refine va_get (Ts := am_W0) (ref := (T k0).1) hC.2.1 hC.2.2.1 hC.2.2.2.2.2.2.1 (hcl _ (List.mem_of_getElem? f1)).1 hC.2.2.2.2.2.1 hC.2.2.2.2.2.2.2.2.2.2.1 hR.1 a hg f1 k0 f2 (hC.2.2.2.2.2.2.1 _ f3) (fun x hx => hx) (v := .ref (am_ad B b x)) ?_ hd ?_
  · rw [List.getElem?_map, List.getElem?_range f2]
    simp only [Option.map_some, am_fv, hr, hx, am_adL hx9]
    rfl
  · exact (k l p e R s q args below meth c D cA B b g0 g1 Z H locs cells slots ls hC hZ hR hL (am_StC trivial (am_StT hS)) hF hc hs)
theorem am_map_set {α : Type} {N k : Nat} {f g : Nat → α} {v : α} (hk : k < N) (h1 : g k = v) (h2 : ∀ j, j ≠ k → g j = f j) : ((List.range N).map f).set k v = (List.range N).map g := by
  apply List.ext_getElem?
  intro j
  rw [List.getElem?_set, List.getElem?_map, List.getElem?_map, List.length_map, List.length_range]
  by_cases q : k = j
  · subst q
    rw [if_pos rfl, if_pos hk, List.getElem?_range hk, Option.map_some, h1]
  · rw [if_neg q]
    cases hz : (List.range N)[j]? with
    | none => rfl
    | some y =>
      have hy := List.getElem?_eq_some_iff.mp hz
      obtain ⟨hy1, hy2⟩ := hy
      rw [List.getElem_range] at hy2
      subst hy2
      rw [Option.map_some, Option.map_some, h2 j (fun z => q z.symm)]
theorem am_puts {p : Program} {l : Launch} {e : Env} {R : Room} {s : State} {m : MethodId} {args : Array Value} {below : List Frame} {meth : Method} {c : Code} {H : Heap} {locs : List Loc} {cells slots : Nat} {Q : State → Prop} {cc : ByteArray} {pc : Nat} {ls : Array Slot} {rest : List Value} {D : va_G} {cl : List vw_C} {A : Nat → Prop} {a : Nat} {tys : List (ClassId × FieldType)} {ws : va_W} {H0 : Heap} (hexec : p.tables.exec = Jvm.exec) (hb : c.code = cc) {own ref C : String} {T : u_T} {N ci index : Nat} {Ts : List Cond} (hts : ∀ w ∈ Ts, w.before args s = true) (hin : ∀ w ∈ u_ws C T N, w ∈ Ts) (ty0 : Nat → FieldType) (hty : ∀ k, k < N → parseFieldDescriptor (T k).2.2.1 = some (ty0 k)) (hnm : ∀ a, a < N → ∀ b, b < N → a ≠ b → (T a).2.1 ≠ (T b).2.1) (hown : s.vm.findClass own = some m.cls) (hK : va_K D cl tys s) (hP : va_P D cl ws H) (hD : va_D A ws) (hS0 : va_S A H0 H locs) (q0 : Nat) {fs : List Value} (he : ws[q0]? = some (a, .inr (ci, fs))) (hc : cl[ci]? = some (C, T, N)) (k : Nat) (hk : k < N) (hlink : (Cond.fieldLink own index ref (T k).2.1 (T k).2.2.1).before args s = true) (hsame : ∀ x, s.fieldFound? (T k).1 (T k).2.1 (T k).2.2.1 = some x → s.fieldFound? ref (T k).2.1 (T k).2.2.1 = some x) (hfin : (T k).2.2.2 = false) {ty : FieldType} {v : Value} (hd : parseFieldDescriptor (T k).2.2.1 = some ty) (hn : narrow ty v = v) (hfit : fits ty v = true) (hl : k < fs.length)
    (hdg : decode cc pc = .ok (.putfield index, 3)) (kk : ∀ (H1 : Heap) (locs1 : List Loc), va_P D cl (ws.set q0 (a, .inr (ci, fs.set k v))) H1 → va_S A H0 H1 locs1 → H1.size = H.size → W p l e R s m args below meth c H1 locs1 cells slots Q (F0 m (pc + 3) ls rest)) : W p l e R s m args below meth c H locs cells slots Q (F0 m pc ls (v :: .ref a :: rest)) := by
  have hap := va_apart (own := own) hts hin ty0 hty hnm hK hc
  obtain ⟨r, h1, cell, q1, q2, q3, q4⟩ := hP q0 _ he
  have hr : r = (C, T, N) := Option.some.inj (h1.symm.trans hc)
  subst hr
  obtain ⟨hS, hfc, kC, hkC, hkind⟩ := hK.1 ci _ hc
  obtain ⟨cf, kf, fi, f, hi, hsl⟩ := hS k hk
  have hlay := hts _ (hin _ (u_in_lay hk))
  unfold u_lay at hlay
  rw [if_neg (by rw [hfin]; decide)] at hlay
  have hst := (u_facts hfc hkC (u_lays hts hin hk) hi).1
  have h6 := u_store hfc hkC hkind hlay hi hd hn hfit
  refine W.putK hexec hb (f := f) ⟨hown, hlink, ⟨_, _, _, hsame _ hi⟩, hst⟩ (by rw [q2]; exact h6) q1 q3 (by rw [hsl]; exact k2_hasslot (q4 k hk)) rfl rfl hdg fun H' e1 e2 e3 => ?_
  rw [hsl] at e1 ⊢
  exact kk H' _ (hP.set hD he ⟨_, hc, t_OB.to (V := updV (vp_V fs) k v) ⟨_, e1, q2, q3, t_set q4 hap hk v⟩ (fun j _ => vp_updV_set hl v j)⟩ e3) (hS0.put e2 e3 (hD.2 q0 _ he)) e2
/-- the types of a class's fields -/
def am_tyOf (q : vw_C) (k : Nat) : FieldType := (parseFieldDescriptor (q.2.1 k).2.2.1).getD .int
/-- a field of numbers may be written -/
def am_PL (own : String) (idx ci k N : Nat) : Prop := ∃ (C : String) (T : u_T), am_cl[ci]? = some (C, T, N) ∧ k < N ∧ Cond.fieldLink own idx (T k).1 (T k).2.1 (T k).2.2.1 ∈ am_W0 ∧ (T k).2.2.2 = false ∧ parseFieldDescriptor (T k).2.2.1 = some .int ∧ ∀ j, j < N → (parseFieldDescriptor (T j).2.2.1).isSome = true
theorem v_putI {m : MInfo} {kc ks pc : Nat} {E st : List AV} {ρ : Rho} {h : Hh} {Q : PQ} {X : PX} {idx ci k0 N a : Nat} {j x : Int} (hd : decode (am_cc m) pc = .ok (.putfield idx, 3)) (hf : am_PL (am_own m) idx ci k0 N) (hcl : ∀ q ∈ am_cl, am_clsOK q) (hr : am_ref ci k0 = false) (hj : ((k0 : Nat) : Int) = j) (hk : ρ.1[a]? = some (10 + ci, N)) (k : am_V m kc ks (pc + 3) E st ρ (am_st h a j x) Q X) : am_V m kc ks pc E (aI x :: aR a :: st) ρ h Q X := by
  intro l p e R s q args below meth c D cA B b g0 g1 Z H locs cells slots ls hC hZ hR hL hS hF hc hs
  subst hj
  obtain ⟨C, T, f1, f2, f3, f4, f5, f6⟩ := hf
  have hx : am_i x := am_StH hS
  have hg := am_w_get (B := B) (cA := cA) (h := h) hk
  rw [am_cellO] at hg
  have hlt := hR.lt hk
  show W p l e R s q args below meth c H locs cells slots Z (F0 q pc ls (.int (Int32.ofInt x) :: .ref (am_ad B b a) :: st.map (am_v B b)))
  rw [am_adL hlt]
  have hcq := hcl _ (List.mem_of_getElem? f1)
  refine am_puts (Ts := am_W0) (ref := (T k0).1) hC.2.1 hC.2.2.1 hC.2.2.2.2.2.2.1 hcq.1 (am_tyOf (C, T, N)) (fun k9 h9 => ?_) hcq.2 hC.2.2.2.2.2.1 hC.2.2.2.2.2.2.2.2.2.2.1 hR.1 am_wD hF a hg f1 k0 f2 (hC.2.2.2.2.2.2.1 _ f3) (fun x hx => hx) f4 f5 rfl rfl (by rw [List.length_map, List.length_range]; exact f2) hd (fun H1 locs1 hP1 hF1 hz => ?_)
  · have := f6 k9 h9
    show _ = some ((parseFieldDescriptor (T k9).2.2.1).getD .int)
    cases hz : parseFieldDescriptor (T k9).2.2.1 with
    | none => rw [hz] at this; cases this
    | some y => rfl
  · have hrg := hR.rg hk
    have h9 : am_cell B cA (10 + ci, N) (ρ.2.1 a) (am_st h a k0 x a) = .inr (ci, ((List.range N).map (fun (k : Nat) => am_fv B ci k (ρ.2.1 a k) (h a k))).set k0 (.int (Int32.ofInt x))) := by
      rw [am_cellO, am_map_set (g := fun (k : Nat) => am_fv B ci k (ρ.2.1 a k) (am_st h a k0 x a k)) f2]
      · show am_fv B ci k0 _ (am_st h a k0 x a k0) = _
        rw [am_st_s]
        simp only [am_fv, hr]
        rfl
      · intro j hj
        show am_fv B ci j _ (am_st h a k0 x a j) = _
        rw [am_st_n (Or.inr (by omega))]
    have hR1 := hR.set hk hP1 hz h9 ⟨fun z => absurd z (by show 10 + ci ≠ 2; omega), fun _ _ i => by
      rw [am_st_f]
      show am_i (if i = (k0 : Int) then x else h a i)
      split
      · exact hx
      · exact hrg.2.1 (by show 10 + ci ≠ 2; omega) (by show 10 + ci ≠ 3; omega) i, fun z => absurd z (by show 10 + ci ≠ 1; omega), fun z => absurd z (by show 10 + ci ≠ 3; omega)⟩
    exact (k l p e R s q args below meth c D cA B b g0 g1 Z H1 locs1 cells slots ls hC hZ hR1 hL (am_StT (am_StT hS)) hF1 hc hs)
theorem am_ix {i : Int} {n : Nat} (h0 : 0 ≤ i) (h1 : i < n) (hi : am_i i) : vp_in (Int32.ofInt i) n ∧ (((Int32.ofInt i).toNatClampNeg : Nat) : Int) = i := by
  refine ⟨am_in h0 h1 hi, ?_⟩
  rw [am_cl0 h0 hi]
  exact Int.toNat_of_nonneg h0
theorem v_iald {m : MInfo} {kc ks pc : Nat} {E st : List AV} {ρ : Rho} {h : Hh} {Q : PQ} {X : PX} {a n : Nat} {i : Int} (hd : decode (am_cc m) pc = .ok (.iaload, 1)) (hk : ρ.1[a]? = some (0, n)) (h0 : 0 ≤ i) (h1 : i < n) (k : am_V m kc ks (pc + 1) E (aI (h a i) :: st) ρ h Q X) : am_V m kc ks pc E (aI i :: aR a :: st) ρ h Q X := by
  intro l p e R s q args below meth c D cA B b g0 g1 Z H locs cells slots ls hC hZ hR hL hS hF hc hs
  have hi : am_i i := am_StH hS
  obtain ⟨e1, e2⟩ := am_ix h0 h1 hi
  have hrg := hR.rg hk
  show W p l e R s q args below meth c H locs cells slots Z (F0 q pc ls (.int (Int32.ofInt i) :: .ref (am_ad B b a) :: st.map (am_v B b)))
  rw [am_adL (hR.lt hk)]
  refine va_iald hC.2.1 hC.2.2.1 hC.2.2.2.2.2.2.2.2.2.2.1 hR.1 a 0 (am_w_get hk) rfl e1 hd ?_
  show W p l e R s q args below meth c H locs cells slots Z (F0 q (pc + 1) ls (.int (Int32.ofInt (h a (((Int32.ofInt i).toNatClampNeg : Nat) : Int))) :: st.map (am_v B b)))
  rw [e2]
  exact (k l p e R s q args below meth c D cA B b g0 g1 Z H locs cells slots ls hC hZ hR hL (am_StC (hrg.2.1 (by simp) (by simp) i) (am_StT (am_StT hS))) hF hc hs)
theorem v_cald {m : MInfo} {kc ks pc : Nat} {E st : List AV} {ρ : Rho} {h : Hh} {Q : PQ} {X : PX} {a n : Nat} {i : Int} (hd : decode (am_cc m) pc = .ok (.caload, 1)) (hk : ρ.1[a]? = some (1, n)) (h0 : 0 ≤ i) (h1 : i < n) (k : am_V m kc ks (pc + 1) E (aI (h a i) :: st) ρ h Q X) : am_V m kc ks pc E (aI i :: aR a :: st) ρ h Q X := by
  intro l p e R s q args below meth c D cA B b g0 g1 Z H locs cells slots ls hC hZ hR hL hS hF hc hs
  have hi : am_i i := am_StH hS
  obtain ⟨e1, e2⟩ := am_ix h0 h1 hi
  have hrg := hR.rg hk
  show W p l e R s q args below meth c H locs cells slots Z (F0 q pc ls (.int (Int32.ofInt i) :: .ref (am_ad B b a) :: st.map (am_v B b)))
  rw [am_adL (hR.lt hk)]
  refine va_cald hC.2.1 hC.2.2.1 hC.2.2.2.2.2.2.2.2.2.2.1 hR.1 a 1 (am_w_get hk) rfl e1 hd ?_
  show W p l e R s q args below meth c H locs cells slots Z (F0 q (pc + 1) ls (.int (Int32.ofInt (h a (((Int32.ofInt i).toNatClampNeg : Nat) : Int))) :: st.map (am_v B b)))
  rw [e2]
  exact (k l p e R s q args below meth c D cA B b g0 g1 Z H locs cells slots ls hC hZ hR hL (am_StC (hrg.2.1 (by simp) (by simp) i) (am_StT (am_StT hS))) hF hc hs)
theorem v_cald2 {m : MInfo} {kc ks pc : Nat} {E st : List AV} {ρ : Rho} {h : Hh} {Q : PQ} {X : PX} {a n : Nat} {i : Int} (hd : decode (am_cc m) pc = .ok (.caload, 1)) (hk : ρ.1[a]? = some (1, n)) (h0 : 0 ≤ i) (h1 : i < n) (k : 0 ≤ h a i → h a i < 65536 → am_V m kc ks (pc + 1) E (aI (h a i) :: st) ρ h Q X) : am_V m kc ks pc E (aI i :: aR a :: st) ρ h Q X := by
  intro l p e R s q args below meth c D cA B b g0 g1 Z H locs cells slots ls hC hZ hR hL hS hF hc hs
  have hrg := (hR.rg hk).2.2.1 rfl i
  exact v_cald hd hk h0 h1 (k hrg.1 hrg.2) l p e R s q args below meth c D cA B b g0 g1 Z H locs cells slots ls hC hZ hR hL hS hF hc hs
theorem v_aaldT {m : MInfo} {kc ks pc : Nat} {E st : List AV} {ρ : Rho} {h : Hh} {Q : PQ} {X : PX} {a n x : Nat} {i : Int} (hd : decode (am_cc m) pc = .ok (.aaload, 1)) (hk : ρ.1[a]? = some (4, n)) (h0 : 0 ≤ i) (h1 : i < n) (hx : ρ.2.1 a i = some x) (k : am_V m kc ks (pc + 1) E (aR x :: st) ρ h Q X) : am_V m kc ks pc E (aI i :: aR a :: st) ρ h Q X := by
  intro l p e R s q args below meth c D cA B b g0 g1 Z H locs cells slots ls hC hZ hR hL hS hF hc hs
  have hi : am_i i := am_StH hS
  obtain ⟨e1, e2⟩ := am_ix h0 h1 hi
  have hx9 := hR.2.2.2.1 _ _ _ hx
  show W p l e R s q args below meth c H locs cells slots Z (F0 q pc ls (.int (Int32.ofInt i) :: .ref (am_ad B b a) :: st.map (am_v B b)))
  rw [am_adL (hR.lt hk)]
  have ha := am_w_get (B := B) (cA := cA) (h := h) hk
  have hlt : (Int32.ofInt i).toNatClampNeg < n := Nat.not_le.mp fun z => e1 (Or.inr z)
  have hP9 : H[B + a]? = some (vp_cell (cA 4) (n, .inr (.inr (.inr (.inr (fun (i : Nat) => (ρ.2.1 a i).map (B + ·))))))) := hR.1 a _ ha
  refine W.aald (v := va_rf ((ρ.2.1 a ((Int32.ofInt i).toNatClampNeg : Nat)).map (B + ·))) (ty := .object RX6) hC.2.1 hC.2.2.1 hP9 ((hC.2.2.2.2.2.2.2.2.2.2.1.2 4 _ rfl).1 n _) rfl (fun z => by cases z) (by show ¬ (_ < _ ∨ (arrV _ _ _).slots.size ≤ _); rw [arrV_size]; exact e1) (by show (arrV _ _ _).slots[_]? = _; rw [arrV_read _ _ hlt]) rfl rfl hd ?_
  rw [e2, hx]
  have k9 := (k l p e R s q args below meth c D cA B b g0 g1 Z H locs cells slots ls hC hZ hR hL (am_StC (v := aR x) trivial (am_StT (am_StT hS))) hF hc hs)
  have e9 : am_v B b (aR x) = .ref (B + x) := by show Value.ref (am_ad B b x) = _; rw [am_adL hx9]
  rw [List.map_cons, e9] at k9
  exact k9
theorem v_aaldI {m : MInfo} {kc ks pc : Nat} {E st : List AV} {ρ : Rho} {h : Hh} {Q : PQ} {X : PX} {a n x : Nat} {i : Int} (hd : decode (am_cc m) pc = .ok (.aaload, 1)) (hk : ρ.1[a]? = some (5, n)) (h0 : 0 ≤ i) (h1 : i < n) (hx : ρ.2.1 a i = some x) (k : am_V m kc ks (pc + 1) E (aR x :: st) ρ h Q X) : am_V m kc ks pc E (aI i :: aR a :: st) ρ h Q X := by
  intro l p e R s q args below meth c D cA B b g0 g1 Z H locs cells slots ls hC hZ hR hL hS hF hc hs
  have hi : am_i i := am_StH hS
  obtain ⟨e1, e2⟩ := am_ix h0 h1 hi
  have hx9 := hR.2.2.2.1 _ _ _ hx
  show W p l e R s q args below meth c H locs cells slots Z (F0 q pc ls (.int (Int32.ofInt i) :: .ref (am_ad B b a) :: st.map (am_v B b)))
  rw [am_adL (hR.lt hk)]
  have ha := am_w_get (B := B) (cA := cA) (h := h) hk
  have hlt : (Int32.ofInt i).toNatClampNeg < n := Nat.not_le.mp fun z => e1 (Or.inr z)
  have hP9 : H[B + a]? = some (vp_cell (cA 5) (n, .inr (.inr (.inr (.inr (fun (i : Nat) => (ρ.2.1 a i).map (B + ·))))))) := hR.1 a _ ha
  refine W.aald (v := va_rf ((ρ.2.1 a ((Int32.ofInt i).toNatClampNeg : Nat)).map (B + ·))) (ty := .array .int) hC.2.1 hC.2.2.1 hP9 ((hC.2.2.2.2.2.2.2.2.2.2.1.2 5 _ rfl).1 n _) rfl (fun z => by cases z) (by show ¬ (_ < _ ∨ (arrV _ _ _).slots.size ≤ _); rw [arrV_size]; exact e1) (by show (arrV _ _ _).slots[_]? = _; rw [arrV_read _ _ hlt]) rfl rfl hd ?_
  rw [e2, hx]
  have k9 := (k l p e R s q args below meth c D cA B b g0 g1 Z H locs cells slots ls hC hZ hR hL (am_StC (v := aR x) trivial (am_StT (am_StT hS))) hF hc hs)
  have e9 : am_v B b (aR x) = .ref (B + x) := by show Value.ref (am_ad B b x) = _; rw [am_adL hx9]
  rw [List.map_cons, e9] at k9
  exact k9
theorem v_iast {m : MInfo} {kc ks pc : Nat} {E st : List AV} {ρ : Rho} {h : Hh} {Q : PQ} {X : PX} {a n : Nat} {i : Int} {x : Int} (hd : decode (am_cc m) pc = .ok (.iastore, 1)) (hk : ρ.1[a]? = some (0, n)) (h0 : 0 ≤ i) (h1 : i < n) (k : am_V m kc ks (pc + 1) E st ρ (am_st h a i x) Q X) : am_V m kc ks pc E (aI x :: aI i :: aR a :: st) ρ h Q X := by
  intro l p e R s q args below meth c D cA B b g0 g1 Z H locs cells slots ls hC hZ hR hL hS hF hc hs
  have hi : am_i i := am_StH (am_StT hS)
  have hx : am_ok (aI x) := am_StH hS
  obtain ⟨e1, e2⟩ := am_ix h0 h1 hi
  have hrg := hR.rg hk
  show W p l e R s q args below meth c H locs cells slots Z (F0 q pc ls (.int (Int32.ofInt x) :: .int (Int32.ofInt i) :: .ref (am_ad B b a) :: st.map (am_v B b)))
  rw [am_adL (hR.lt hk)]
  have ha := am_w_get (B := B) (cA := cA) (h := h) hk
  refine W.iast hC.2.1 hC.2.2.1 (hR.1 a _ ha) ((hC.2.2.2.2.2.2.2.2.2.2.1.2 0 _ rfl).1 n (fun (j : Nat) => .int (Int32.ofInt (h a j)))) (fun z => by cases z) (by show ¬ (_ < _ ∨ (arrV _ _ _).slots.size ≤ _); rw [arrV_size]; exact e1) rfl rfl hd fun H1 e3 z oq => ?_
  have hfun : (fun (j : Nat) => Int32.ofInt (if ((j : Nat) : Int) = i then x else h a j)) = (fun (j : Nat) => (if j = (Int32.ofInt i).toNatClampNeg then Int32.ofInt x else Int32.ofInt (h a j))) := by
    funext j
    by_cases z9 : j = (Int32.ofInt i).toNatClampNeg
    · subst z9
      simp [e2]
    · have : ¬ ((j : Nat) : Int) = i := fun z8 => z9 (by omega)
      simp [z9, this]
  have hcell : am_cell B cA (0, n) (ρ.2.1 a) (am_st h a i x a) = .inl (cA 0, n, .inl (fun j => if j = (Int32.ofInt i).toNatClampNeg then Int32.ofInt x else Int32.ofInt (h a j))) := by
    rw [am_st_f]
    exact congrArg (fun (f : Nat → _) => (Sum.inl (cA 0, n, .inl f) : va_E)) hfun
  have hP1 : va_P D am_cl ((am_w B cA ρ h).set a (B + a, am_cell B cA (0, n) (ρ.2.1 a) (am_st h a i x a))) H1 := by
    refine hR.1.set am_wD ha ?_ oq
    rw [hcell]
    show H1[B + a]? = some (vp_cell _ _)
    rw [e3]
    refine congrArg some ?_
    refine (arrV_store (cA 0) n _ (fun (j : Nat) => .int (Int32.ofInt (h a j))) _).trans ?_
    show arrV (cA 0) n _ = arrV (cA 0) n (fun (j : Nat) => .int (if j = (Int32.ofInt i).toNatClampNeg then Int32.ofInt x else Int32.ofInt (h a j)))
    refine congrArg (arrV (cA 0) n) (funext fun j => ?_)
    show ((if j = (Int32.ofInt i).toNatClampNeg then .int (Int32.ofInt x) else .int (Int32.ofInt (h a j))) : Value) = _
    by_cases z9 : j = (Int32.ofInt i).toNatClampNeg <;> simp [z9]
  have hR1 := hR.set hk hP1 z rfl (by rw [am_st_f]; exact ⟨fun z8 => absurd z8 (by simp), fun _ _ i9 => by show am_i (if i9 = i then x else h a i9); split; exact hx; exact hrg.2.1 (by simp) (by simp) i9, fun z8 => absurd z8 (by simp), fun z8 => absurd z8 (by simp)⟩)
  exact (k l p e R s q args below meth c D cA B b g0 g1 Z H1 _ cells slots ls hC hZ hR1 hL (am_StT (am_StT (am_StT hS))) (hF.put z oq (Nat.le_add_right B a)) hc hs)
theorem am_nar {x : Int} : vp_nar .char (Int32.ofInt x) = Int32.ofInt (x % 65536) := by
  rw [vp_nar_char]
  have := am_char (x := x)
  rw [← this]
  congr 1
theorem v_cast {m : MInfo} {kc ks pc : Nat} {E st : List AV} {ρ : Rho} {h : Hh} {Q : PQ} {X : PX} {a n : Nat} {i : Int} {x : Int} (hd : decode (am_cc m) pc = .ok (.castore, 1)) (hk : ρ.1[a]? = some (1, n)) (h0 : 0 ≤ i) (h1 : i < n) (k : am_V m kc ks (pc + 1) E st ρ (am_st h a i (x % 65536)) Q X) : am_V m kc ks pc E (aI x :: aI i :: aR a :: st) ρ h Q X := by
  intro l p e R s q args below meth c D cA B b g0 g1 Z H locs cells slots ls hC hZ hR hL hS hF hc hs
  have hi : am_i i := am_StH (am_StT hS)
  have hx : am_ok (aI x) := am_StH hS
  obtain ⟨e1, e2⟩ := am_ix h0 h1 hi
  have hrg := hR.rg hk
  show W p l e R s q args below meth c H locs cells slots Z (F0 q pc ls (.int (Int32.ofInt x) :: .int (Int32.ofInt i) :: .ref (am_ad B b a) :: st.map (am_v B b)))
  rw [am_adL (hR.lt hk)]
  have ha := am_w_get (B := B) (cA := cA) (h := h) hk
  refine W.cast hC.2.1 hC.2.2.1 (hR.1 a _ ha) ((hC.2.2.2.2.2.2.2.2.2.2.1.2 1 _ rfl).1 n (fun (j : Nat) => .int (Int32.ofInt (h a j)))) (fun z => by cases z) (by show ¬ (_ < _ ∨ (arrV _ _ _).slots.size ≤ _); rw [arrV_size]; exact e1) rfl rfl hd fun H1 e3 z oq => ?_
  have hfun : (fun (j : Nat) => Int32.ofInt (if ((j : Nat) : Int) = i then x % 65536 else h a j)) = (fun (j : Nat) => (if j = (Int32.ofInt i).toNatClampNeg then Int32.ofInt (x % 65536) else Int32.ofInt (h a j))) := by
    funext j
    by_cases z9 : j = (Int32.ofInt i).toNatClampNeg
    · subst z9
      simp [e2]
    · have : ¬ ((j : Nat) : Int) = i := fun z8 => z9 (by omega)
      simp [z9, this]
  have hcell : am_cell B cA (1, n) (ρ.2.1 a) (am_st h a i (x % 65536) a) = .inl (cA 1, n, .inl (fun j => if j = (Int32.ofInt i).toNatClampNeg then Int32.ofInt (x % 65536) else Int32.ofInt (h a j))) := by
    rw [am_st_f]
    exact congrArg (fun (f : Nat → _) => (Sum.inl (cA 1, n, .inl f) : va_E)) hfun
  have hP1 : va_P D am_cl ((am_w B cA ρ h).set a (B + a, am_cell B cA (1, n) (ρ.2.1 a) (am_st h a i (x % 65536) a))) H1 := by
    refine hR.1.set am_wD ha ?_ oq
    rw [hcell]
    show H1[B + a]? = some (vp_cell _ _)
    rw [e3]
    refine congrArg some ?_
    refine (arrV_store (cA 1) n _ (fun (j : Nat) => .int (Int32.ofInt (h a j))) _).trans ?_
    show arrV (cA 1) n _ = arrV (cA 1) n (fun (j : Nat) => .int (if j = (Int32.ofInt i).toNatClampNeg then Int32.ofInt (x % 65536) else Int32.ofInt (h a j)))
    refine congrArg (arrV (cA 1) n) (funext fun j => ?_)
    show ((if j = (Int32.ofInt i).toNatClampNeg then narrow .char (.int (Int32.ofInt x)) else .int (Int32.ofInt (h a j))) : Value) = _
    by_cases z9 : j = (Int32.ofInt i).toNatClampNeg <;> simp [z9, show narrow .char (.int (Int32.ofInt x)) = .int (Int32.ofInt (x % 65536)) from congrArg Value.int am_nar]
  have hR1 := hR.set hk hP1 z rfl (by rw [am_st_f]; exact ⟨fun z8 => absurd z8 (by simp), fun _ _ i9 => by show am_i (if i9 = i then x % 65536 else h a i9); split; exact ⟨by omega, by omega⟩; exact hrg.2.1 (by simp) (by simp) i9, fun _ i9 => by show 0 ≤ (if i9 = i then x % 65536 else h a i9) ∧ (if i9 = i then x % 65536 else h a i9) < 65536; split; exact ⟨by omega, by omega⟩; exact hrg.2.2.1 rfl i9, fun z8 => absurd z8 (by simp)⟩)
  exact (k l p e R s q args below meth c D cA B b g0 g1 Z H1 _ cells slots ls hC hZ hR1 hL (am_StT (am_StT (am_StT hS))) (hF.put z oq (Nat.le_add_right B a)) hc hs)
theorem v_alen {m : MInfo} {kc ks pc : Nat} {E st : List AV} {ρ : Rho} {h : Hh} {Q : PQ} {X : PX} {a n tag : Nat} {N : Int} (hd : decode (am_cc m) pc = .ok (.arraylength, 1)) (hk : ρ.1[a]? = some (tag, n)) (ht : tag < 6) (hn : ((n : Nat) : Int) = N) (hN : am_i N) (k : am_V m kc ks (pc + 1) E (aI N :: st) ρ h Q X) : am_V m kc ks pc E (aR a :: st) ρ h Q X := by
  intro l p e R s q args below meth c D cA B b g0 g1 Z H locs cells slots ls hC hZ hR hL hS hF hc hs
  subst hn
  show W p l e R s q args below meth c H locs cells slots Z (F0 q pc ls (.ref (am_ad B b a) :: st.map (am_v B b)))
  rw [am_adL (hR.lt hk)]
  have ha := am_w_get (B := B) (cA := cA) (h := h) hk
  have key : ∃ x : vp_A, am_cell B cA (tag, n) (ρ.2.1 a) (h a) = .inl (cA tag, x) ∧ x.1 = n ∧ ∃ ty, (am_tys cA)[tag]? = some (cA tag, ty) := by
    match tag, ht with
    | 0, _ => exact ⟨_, rfl, rfl, _, rfl⟩
    | 1, _ => exact ⟨_, rfl, rfl, _, rfl⟩
    | 2, _ => exact ⟨_, rfl, rfl, _, rfl⟩
    | 3, _ => exact ⟨_, rfl, rfl, _, rfl⟩
    | 4, _ => exact ⟨_, rfl, rfl, _, rfl⟩
    | 5, _ => exact ⟨_, rfl, rfl, _, rfl⟩
  obtain ⟨x, x1, x2, ty, x3⟩ := key
  rw [x1] at ha
  refine va_alen hC.2.1 hC.2.2.1 hC.2.2.2.2.2.2.2.2.2.2.1 hR.1 a tag ha x3 (v := Int32.ofInt n) (by rw [x2]; exact am_asI (by rw [Int32.toInt_ofNat']; exact am_bmI hN)) hd ?_
  exact (k l p e R s q args below meth c D cA B b g0 g1 Z H locs cells slots ls hC hZ hR hL (am_StC (v := aI n) hN (am_StT hS)) hF hc hs)
end
section
theorem am_sum (B b : Nat) : ∀ st : List AV, ((st.map (am_v B b)).map fun v => v.category).sum ≤ am_ct st
  | [] => Nat.le_refl 0
  | x :: st => by
    have h1 := am_sum B b st
    have h2 : (am_v B b x).category ≤ am_c1 x := by rcases x with x | x | x | x | x | x <;> exact Nat.le_refl _
    simp only [List.map_cons, List.sum_cons, am_ct]
    omega
theorem am_good {w : Cond} (h : w ∈ am_W0) : goodWord w = true := (List.mem_filter.mp h).2
theorem am_goodIn {ws : List Cond} (h : ∀ w ∈ ws, w ∈ am_W0) : GoodIn am_W0 ws := fun w hw => ⟨h w hw, good_of_word (am_good (h w hw))⟩
theorem v_iret {m : MInfo} {kc ks pc : Nat} {E : List AV} {ρ : Rho} {h : Hh} {Q : PQ} {X : PX} {x : Int} (hd : decode (am_cc m) pc = .ok (.ireturn, 1)) (hlaw : am_law m = false) (hr : am_rt m = some .int) (hQ : Q [aI x] ρ h) : am_V m kc ks pc E [aI x] ρ h Q X := by
  intro l p e R s q args below meth c D cA B b g0 g1 Z H locs cells slots ls hC hZ hR hL hS hF hc hs
  rcases hZ with ⟨-, hZ⟩ | ⟨z, -⟩
  · subst hZ
    refine W.widen (Nat.le_trans (Nat.le_add_right _ _) hc) (Nat.le_trans (Nat.le_add_right _ _) hs) (vx_ret ?_)
    have hrt := hC.2.2.2.1
    rw [hr] at hrt
    exact W.iret hC.2.1 hC.2.2.1 hrt (fun t ht hW => ⟨[aI x], ρ, h, rfl, by simp, hQ, hS, by rw [ht]; exact hR, hF.F ht⟩) hF.2.2 hd hC.2.2.2.2.2.2.2.2.2.1
  · rw [hlaw] at z
    cases z
theorem v_zret {m : MInfo} {kc ks pc : Nat} {E : List AV} {ρ : Rho} {h : Hh} {Q : PQ} {X : PX} {x : Int} (hd : decode (am_cc m) pc = .ok (.ireturn, 1)) (hlaw : am_law m = false) (hr : am_rt m = some .boolean) (hx : x = 0 ∨ x = 1) (hQ : Q [aI x] ρ h) : am_V m kc ks pc E [aI x] ρ h Q X := by
  intro l p e R s q args below meth c D cA B b g0 g1 Z H locs cells slots ls hC hZ hR hL hS hF hc hs
  rcases hZ with ⟨-, hZ⟩ | ⟨z, -⟩
  · subst hZ
    refine W.widen (Nat.le_trans (Nat.le_add_right _ _) hc) (Nat.le_trans (Nat.le_add_right _ _) hs) (vx_ret ?_)
    have hrt := hC.2.2.2.1
    rw [hr] at hrt
    have hn : narrow .boolean (.int (Int32.ofInt x)) = .int (Int32.ofInt x) := by rcases hx with rfl | rfl <;> rfl
    exact W.zret hC.2.1 hC.2.2.1 hrt hn (fun t ht hW => ⟨[aI x], ρ, h, rfl, by simp, hQ, hS, by rw [ht]; exact hR, hF.F ht⟩) hF.2.2 hd hC.2.2.2.2.2.2.2.2.2.1
  · rw [hlaw] at z
    cases z
theorem v_cret {m : MInfo} {kc ks pc : Nat} {E : List AV} {ρ : Rho} {h : Hh} {Q : PQ} {X : PX} {x : Int} (hd : decode (am_cc m) pc = .ok (.ireturn, 1)) (hlaw : am_law m = false) (hr : am_rt m = some .char) (h0 : 0 ≤ x) (h1 : x < 65536) (hQ : Q [aI x] ρ h) : am_V m kc ks pc E [aI x] ρ h Q X := by
  intro l p e R s q args below meth c D cA B b g0 g1 Z H locs cells slots ls hC hZ hR hL hS hF hc hs
  rcases hZ with ⟨-, hZ⟩ | ⟨z, -⟩
  · subst hZ
    refine W.widen (Nat.le_trans (Nat.le_add_right _ _) hc) (Nat.le_trans (Nat.le_add_right _ _) hs) (vx_ret ?_)
    have hrt := hC.2.2.2.1
    rw [hr] at hrt
    have hn : narrow .char (.int (Int32.ofInt x)) = .int (Int32.ofInt x) := by
      have h9 : narrow .char (.int (Int32.ofInt x)) = .int (Int32.ofInt (x % 65536)) := congrArg Value.int am_nar
      rw [h9, show x % 65536 = x by omega]
    exact W.zret hC.2.1 hC.2.2.1 hrt hn (fun t ht hW => ⟨[aI x], ρ, h, rfl, by simp, hQ, hS, by rw [ht]; exact hR, hF.F ht⟩) hF.2.2 hd hC.2.2.2.2.2.2.2.2.2.1
  · rw [hlaw] at z
    cases z
theorem v_lret {m : MInfo} {kc ks pc : Nat} {E : List AV} {ρ : Rho} {h : Hh} {Q : PQ} {X : PX} {x : Int} (hd : decode (am_cc m) pc = .ok (.lreturn, 1)) (hlaw : am_law m = false) (hr : am_rt m = some .long) (hQ : Q [aL x] ρ h) : am_V m kc ks pc E [aL x] ρ h Q X := by
  intro l p e R s q args below meth c D cA B b g0 g1 Z H locs cells slots ls hC hZ hR hL hS hF hc hs
  rcases hZ with ⟨-, hZ⟩ | ⟨z, -⟩
  · subst hZ
    refine W.widen (Nat.le_trans (Nat.le_add_right _ _) hc) (Nat.le_trans (Nat.le_add_right _ _) hs) (vx_ret ?_)
    have hrt := hC.2.2.2.1
    rw [hr] at hrt
    exact W.lret hC.2.1 hC.2.2.1 hrt (fun t ht hW => ⟨[aL x], ρ, h, rfl, by simp, hQ, hS, by rw [ht]; exact hR, hF.F ht⟩) hF.2.2 hd hC.2.2.2.2.2.2.2.2.2.1
  · rw [hlaw] at z
    cases z
theorem v_fret {m : MInfo} {kc ks pc : Nat} {E : List AV} {ρ : Rho} {h : Hh} {Q : PQ} {X : PX} {x : UInt32} (hd : decode (am_cc m) pc = .ok (.freturn, 1)) (hlaw : am_law m = false) (hr : am_rt m = some .float) (hQ : Q [aF x] ρ h) : am_V m kc ks pc E [aF x] ρ h Q X := by
  intro l p e R s q args below meth c D cA B b g0 g1 Z H locs cells slots ls hC hZ hR hL hS hF hc hs
  rcases hZ with ⟨-, hZ⟩ | ⟨z, -⟩
  · subst hZ
    refine W.widen (Nat.le_trans (Nat.le_add_right _ _) hc) (Nat.le_trans (Nat.le_add_right _ _) hs) (vx_ret ?_)
    have hrt := hC.2.2.2.1
    rw [hr] at hrt
    exact W.fret hC.2.1 hC.2.2.1 hrt (fun t ht hW => ⟨[aF x], ρ, h, rfl, by simp, hQ, hS, by rw [ht]; exact hR, hF.F ht⟩) hF.2.2 hd hC.2.2.2.2.2.2.2.2.2.1
  · rw [hlaw] at z
    cases z
theorem v_dret {m : MInfo} {kc ks pc : Nat} {E : List AV} {ρ : Rho} {h : Hh} {Q : PQ} {X : PX} {x : UInt64} (hd : decode (am_cc m) pc = .ok (.dreturn, 1)) (hlaw : am_law m = false) (hr : am_rt m = some .double) (hQ : Q [aD x] ρ h) : am_V m kc ks pc E [aD x] ρ h Q X := by
  intro l p e R s q args below meth c D cA B b g0 g1 Z H locs cells slots ls hC hZ hR hL hS hF hc hs
  rcases hZ with ⟨-, hZ⟩ | ⟨z, -⟩
  · subst hZ
    refine W.widen (Nat.le_trans (Nat.le_add_right _ _) hc) (Nat.le_trans (Nat.le_add_right _ _) hs) (vx_ret ?_)
    have hrt := hC.2.2.2.1
    rw [hr] at hrt
    exact W.dret hC.2.1 hC.2.2.1 hrt (fun t ht hW => ⟨[aD x], ρ, h, rfl, by simp, hQ, hS, by rw [ht]; exact hR, hF.F ht⟩) hF.2.2 hd hC.2.2.2.2.2.2.2.2.2.1
  · rw [hlaw] at z
    cases z
theorem v_aret {m : MInfo} {kc ks pc : Nat} {E : List AV} {ρ : Rho} {h : Hh} {Q : PQ} {X : PX} {x : Nat} (hd : decode (am_cc m) pc = .ok (.areturn, 1)) (hlaw : am_law m = false) {C9 : String} (hr : am_rt m = some (.object C9)) (hQ : Q [aR x] ρ h) : am_V m kc ks pc E [aR x] ρ h Q X := by
  intro l p e R s q args below meth c D cA B b g0 g1 Z H locs cells slots ls hC hZ hR hL hS hF hc hs
  rcases hZ with ⟨-, hZ⟩ | ⟨z, -⟩
  · subst hZ
    refine W.widen (Nat.le_trans (Nat.le_add_right _ _) hc) (Nat.le_trans (Nat.le_add_right _ _) hs) (vx_ret ?_)
    have hrt := hC.2.2.2.1
    rw [hr] at hrt
    exact W.aret hC.2.1 hC.2.2.1 hrt (Or.inl ⟨_, rfl⟩) (Or.inr ⟨_, rfl⟩) (fun t ht hW => ⟨[aR x], ρ, h, rfl, by simp, hQ, hS, by rw [ht]; exact hR, hF.F ht⟩) hF.2.2 hd hC.2.2.2.2.2.2.2.2.2.1
  · rw [hlaw] at z
    cases z
theorem v_aretA {m : MInfo} {kc ks pc : Nat} {E : List AV} {ρ : Rho} {h : Hh} {Q : PQ} {X : PX} {x : Nat} (hd : decode (am_cc m) pc = .ok (.areturn, 1)) (hlaw : am_law m = false) {C9 : FieldType} (hr : am_rt m = some (.array C9)) (hQ : Q [aR x] ρ h) : am_V m kc ks pc E [aR x] ρ h Q X := by
  intro l p e R s q args below meth c D cA B b g0 g1 Z H locs cells slots ls hC hZ hR hL hS hF hc hs
  rcases hZ with ⟨-, hZ⟩ | ⟨z, -⟩
  · subst hZ
    refine W.widen (Nat.le_trans (Nat.le_add_right _ _) hc) (Nat.le_trans (Nat.le_add_right _ _) hs) (vx_ret ?_)
    have hrt := hC.2.2.2.1
    rw [hr] at hrt
    exact W.aret hC.2.1 hC.2.2.1 hrt (Or.inr ⟨_, rfl⟩) (Or.inr ⟨_, rfl⟩) (fun t ht hW => ⟨[aR x], ρ, h, rfl, by simp, hQ, hS, by rw [ht]; exact hR, hF.F ht⟩) hF.2.2 hd hC.2.2.2.2.2.2.2.2.2.1
  · rw [hlaw] at z
    cases z
theorem v_vret {m : MInfo} {kc ks pc : Nat} {E : List AV} {ρ : Rho} {h : Hh} {Q : PQ} {X : PX}  (hd : decode (am_cc m) pc = .ok (.return_, 1)) (hlaw : am_law m = false) (hr : am_rt m = none) (hQ : Q [] ρ h) : am_V m kc ks pc E [] ρ h Q X := by
  intro l p e R s q args below meth c D cA B b g0 g1 Z H locs cells slots ls hC hZ hR hL hS hF hc hs
  rcases hZ with ⟨-, hZ⟩ | ⟨z, -⟩
  · subst hZ
    refine W.widen (Nat.le_trans (Nat.le_add_right _ _) hc) (Nat.le_trans (Nat.le_add_right _ _) hs) (vx_ret ?_)
    have hrt := hC.2.2.2.1
    rw [hr] at hrt
    exact W.vret hC.2.1 hC.2.2.1 hrt (fun t ht hW => ⟨[], ρ, h, rfl, by simp, hQ, hS, by rw [ht]; exact hR, hF.F ht⟩) hF.2.2 hd hC.2.2.2.2.2.2.2.2.2.1
  · rw [hlaw] at z
    cases z
theorem v_lawret {m : MInfo} {kc ks pc : Nat} {E : List AV} {ρ : Rho} {h : Hh} {Q : PQ} {X : PX} {x : Int} (hd : decode (am_cc m) pc = .ok (.ireturn, 1)) (hlaw : am_law m = true) (hQ : Q [aI x] ρ h) : am_V m kc ks pc E [aI x] ρ h Q X := by
  intro l p e R s q args below meth c D cA B b g0 g1 Z H locs cells slots ls hC hZ hR hL hS hF hc hs
  rcases hZ with ⟨z, -⟩ | ⟨-, -, hZ⟩
  · rw [hlaw] at z
    cases z
  · exact hZ x ρ h pc H locs cells slots ls hQ (am_StH hS) hd hF (Nat.le_trans (Nat.le_add_right _ _) hc) (Nat.le_trans (Nat.le_add_right _ _) hs)
theorem v_mmin {m : MInfo} {kc ks pc : Nat} {E st : List AV} {ρ : Rho} {h : Hh} {Q : PQ} {X : PX} {x y : Int} {idx : Nat} (hd : decode (am_cc m) pc = .ok (.invokestatic idx, 3)) (hl : Cond.methodLink (am_own m) idx Lib.Math.min.name ∈ am_W0 ∧ Cond.static Lib.Math.min.name ∈ am_W0 ∧ Cond.initialized "java/lang/Math" ∈ am_W0 ∧ Cond.code Lib.Math.min.name Lib.Math.min.code 2 (some .int) ∈ am_W0) (hfr : 1 ≤ am_fr m) (hst : am_ct st ≤ 16) (k : am_V m kc ks (pc + 3) E (aI (min x y) :: st) ρ h Q X) : am_V m kc ks pc E (aI y :: aI x :: st) ρ h Q X := by
  intro l p e R s q args below meth c D cA B b g0 g1 Z H locs cells slots ls hC hZ hR hL hS hF hc hs
  have hy : am_i y := am_StH hS
  have hx : am_i x := am_StH (am_StT hS)
  have hw := hC.2.2.2.2.2.2.1
  have hsum := am_sum B b st
  have hfr9 := hC.2.2.2.2.2.2.2.2.2.2.2.2.2.2.2.2.1
  have hlo9 := hC.2.2.2.2.2.2.2.2.2.2.2.2.2.2.2.2.2.1
  refine va_mmin hC.2.1 hC.2.2.1 (hC.2.2.2.2.1.trans hL.1.symm) hC.2.2.2.2.2.1 (hw _ hl.1) (hw _ hl.2.1) (hw _ hl.2.2.1) (hw _ hl.2.2.2) (by omega) (by omega) (by omega) (by omega) hd ?_
  have e9 : (if Int32.ofInt y < Int32.ofInt x then Int32.ofInt y else Int32.ofInt x) = Int32.ofInt (min x y) := by
    by_cases z : y < x
    · rw [if_pos ((am_ltI hy hx).mpr z), show min x y = y by omega]
    · rw [if_neg (mt ((am_ltI hy hx).mp) z), show min x y = x by omega]
  rw [e9]
  exact (k l p e R s q args below meth c D cA B b g0 g1 Z H locs cells slots ls hC hZ hR hL (am_StC (v := aI (min x y)) (show am_i _ by obtain ⟨a1, a2⟩ := hx; obtain ⟨b1, b2⟩ := hy; exact ⟨by omega, by omega⟩) (am_StT (am_StT hS))) hF hc hs)
theorem v_mmax {m : MInfo} {kc ks pc : Nat} {E st : List AV} {ρ : Rho} {h : Hh} {Q : PQ} {X : PX} {x y : Int} {idx : Nat} (hd : decode (am_cc m) pc = .ok (.invokestatic idx, 3)) (hl : Cond.methodLink (am_own m) idx Lib.Math.max.name ∈ am_W0 ∧ Cond.static Lib.Math.max.name ∈ am_W0 ∧ Cond.initialized "java/lang/Math" ∈ am_W0 ∧ Cond.code Lib.Math.max.name Lib.Math.max.code 2 (some .int) ∈ am_W0) (hfr : 1 ≤ am_fr m) (hst : am_ct st ≤ 16) (k : am_V m kc ks (pc + 3) E (aI (max x y) :: st) ρ h Q X) : am_V m kc ks pc E (aI y :: aI x :: st) ρ h Q X := by
  intro l p e R s q args below meth c D cA B b g0 g1 Z H locs cells slots ls hC hZ hR hL hS hF hc hs
  have hy : am_i y := am_StH hS
  have hx : am_i x := am_StH (am_StT hS)
  have hw := hC.2.2.2.2.2.2.1
  have hsum := am_sum B b st
  have hfr9 := hC.2.2.2.2.2.2.2.2.2.2.2.2.2.2.2.2.1
  have hlo9 := hC.2.2.2.2.2.2.2.2.2.2.2.2.2.2.2.2.2.1
  refine va_mmax hC.2.1 hC.2.2.1 (hC.2.2.2.2.1.trans hL.1.symm) hC.2.2.2.2.2.1 (hw _ hl.1) (hw _ hl.2.1) (hw _ hl.2.2.1) (hw _ hl.2.2.2) (by omega) (by omega) (by omega) (by omega) hd ?_
  have e9 : (if Int32.ofInt x < Int32.ofInt y then Int32.ofInt y else Int32.ofInt x) = Int32.ofInt (max x y) := by
    by_cases z : x < y
    · rw [if_pos ((am_ltI hx hy).mpr z), show max x y = y by omega]
    · rw [if_neg (mt ((am_ltI hx hy).mp) z), show max x y = x by omega]
  rw [e9]
  exact (k l p e R s q args below meth c D cA B b g0 g1 Z H locs cells slots ls hC hZ hR hL (am_StC (v := aI (max x y)) (show am_i _ by obtain ⟨a1, a2⟩ := hx; obtain ⟨b1, b2⟩ := hy; exact ⟨by omega, by omega⟩) (am_StT (am_StT hS))) hF hc hs)
theorem v_mmaxL {m : MInfo} {kc ks pc : Nat} {E st : List AV} {ρ : Rho} {h : Hh} {Q : PQ} {X : PX} {x y : Int} {idx : Nat} (hd : decode (am_cc m) pc = .ok (.invokestatic idx, 3)) (hl : Cond.methodLink (am_own m) idx Lib.MathLoose.max_long.x ∈ am_W0 ∧ Cond.static Lib.MathLoose.max_long.x ∈ am_W0 ∧ Cond.initialized "java/lang/Math" ∈ am_W0 ∧ Cond.code Lib.MathLoose.max_long.x Lib.MathLoose.max_long.code 4 (some .long) ∈ am_W0) (hfr : 1 ≤ am_fr m) (hst : am_ct st ≤ 8) (k : am_V m kc ks (pc + 3) E (aL (max x y) :: st) ρ h Q X) : am_V m kc ks pc E (aL y :: aL x :: st) ρ h Q X := by
  intro l p e R s q args below meth c D cA B b g0 g1 Z H locs cells slots ls hC hZ hR hL hS hF hc hs
  have hy : am_l y := am_StH hS
  have hx : am_l x := am_StH (am_StT hS)
  have hw := hC.2.2.2.2.2.2.1
  have hsum := am_sum B b st
  have hfr9 := hC.2.2.2.2.2.2.2.2.2.2.2.2.2.2.2.2.1
  have hlo9 := hC.2.2.2.2.2.2.2.2.2.2.2.2.2.2.2.2.2.1
  refine va_mmax_long hC.2.1 hC.2.2.1 (hC.2.2.2.2.1.trans hL.1.symm) hC.2.2.2.2.2.1 (hw _ hl.1) (hw _ hl.2.1) (hw _ hl.2.2.1) (hw _ hl.2.2.2) (by omega) (by omega) (by omega) (by omega) hd ?_
  have hlt : Int64.ofInt y < Int64.ofInt x ↔ y < x := by rw [Int64.lt_iff_toInt_lt, am_toL hx, am_toL hy]
  have e9 : (if Int64.ofInt y < Int64.ofInt x then Int64.ofInt x else Int64.ofInt y) = Int64.ofInt (max x y) := by
    by_cases z : y < x
    · rw [if_pos (hlt.mpr z), show max x y = x by omega]
    · rw [if_neg (mt hlt.mp z), show max x y = y by omega]
  rw [e9]
  exact (k l p e R s q args below meth c D cA B b g0 g1 Z H locs cells slots ls hC hZ hR hL (am_StC (v := aL (max x y)) (show am_l _ by obtain ⟨a1, a2⟩ := hx; obtain ⟨b1, b2⟩ := hy; exact ⟨by omega, by omega⟩) (am_StT (am_StT hS))) hF hc hs)
/-- a place that throws: 'new E("text")' -/
def am_TH (own : String) (ik is ic : Nat) (cls : String) : Prop := Cond.classLink own ik cls ∈ am_W0 ∧ Cond.initialized cls ∈ am_W0 ∧ (∃ tx, Cond.stringRef own is tx ∈ lw_tbl) ∧ (∀ w ∈ vx_atS own ic cls ["java/lang/RuntimeException", "java/lang/Exception"], w ∈ am_W0 ∨ w ∈ am_W1) ∧ (∀ w ∈ Cond.classLink own ik cls :: Cond.initialized cls :: vx_atS own ic cls ["java/lang/RuntimeException", "java/lang/Exception"], vx_ot w = true) ∧ Bundle.fit cls = true
theorem am_tab {m : MInfo} {x : List ExceptionTableEntry} (h : (am_law m = true ∧ am_hh m = []) ∨ x = tableOf (am_hh m)) (hlaw : am_law m = false) : x = tableOf (am_hh m) := h.resolve_left (fun z => by rw [hlaw] at z; exact absurd z.1 (by decide))
theorem am_nil {hh : List (Nat × Nat × Nat × Nat)} (h : hh = []) : tableOf hh = [] := by rw [h]; rfl
theorem am_W1ot {w : Cond} (h : w ∈ am_W1) : w.onTables = true := by
  have h1 := (List.mem_filter.mp h).2
  cases w <;> first | rfl | (simp [am_w1] at h1)
theorem am_HR.up {D : va_G} {cA : Nat → ClassId} {B : Nat} {g0 g1 : Int → Int} {ρ : Rho} {h : Hh} {H H1 : Heap} (hR : am_HR D cA B g0 g1 ρ h H) (ho : ∀ q : Nat, q < H.size → H1[q]? = H[q]?) : am_HR D cA B g0 g1 (ρ.1, ρ.2.1, false) h H1 :=
  ⟨hR.1.kept fun k x hx => ho x.1 ((hR.1 k x hx).lt), fun z => (by cases z), hR.2.2.1, hR.2.2.2.1, hR.2.2.2.2.1, hR.2.2.2.2.2.1, hR.2.2.2.2.2.2⟩
theorem v_throw {m : MInfo} {kc ks pc : Nat} {E st : List AV} {ρ : Rho} {h : Hh} {Q : PQ} {X : PX} {ik is ic : Nat} {cls : String} (d0 : decode (am_cc m) pc = .ok (.new ik, 3)) (d3 : decode (am_cc m) (pc + 3) = .ok (.dup, 1)) (d4 : decode (am_cc m) (pc + 4) = .ok (.ldc is, 2)) (d6 : decode (am_cc m) (pc + 6) = .ok (.invokespecial ic, 3)) (d9 : decode (am_cc m) (pc + 9) = .ok (.athrow, 1)) (ht : am_TH (am_own m) ik is ic cls) (hlaw : am_law m = false) (hhh : am_hh m = []) (hfr : 6 ≤ am_fr m) (hst : am_ct st ≤ 16) (h1 : 1 ≤ kc) (h6 : 6 ≤ ks) (hX : X cls (ρ.1, ρ.2.1, false) h) : am_V m kc ks pc E st ρ h Q X := by
  intro l p e R s q args below meth c D cA B b g0 g1 Z H locs cells slots ls hC hZ hR hL hS hF hc hs
  rcases hZ with ⟨-, hZ⟩ | ⟨z, -⟩
  · subst hZ
    obtain ⟨t1, t2, ⟨tx, t3⟩, t4, t5, t6⟩ := ht
    have hw := hC.2.2.2.2.2.2.1
    have hsum := am_sum B b st
    have hfr9 := hC.2.2.2.2.2.2.2.2.2.2.2.2.2.2.2.2.1
    have hlo9 := hC.2.2.2.2.2.2.2.2.2.2.2.2.2.2.2.2.2.1
    obtain ⟨sa, hsa⟩ := hC.2.2.2.2.2.2.2.2.1.1 _ _ _ t3
    have htab : c.exceptionTable.toList = [] := (am_tab hC.2.2.2.2.2.2.2.2.2.2.2.2.2.2.1 hlaw).trans (am_nil hhh)
    refine vx_throwS (names := ["java/lang/RuntimeException", "java/lang/Exception"]) (sa := sa) hC.2.1 hC.2.2.1 hC.1 hC.2.2.2.2.2.1 t6 (by decide) (hw _ t1) (hw _ t2) hsa (fun w9 hw9 => ?_) t5 hC.2.2.2.2.2.2.2.2.2.2.2.1 hC.2.2.2.2.2.2.2.2.2.2.2.2.1 hF (hL.1.trans hC.2.2.2.2.1.symm) d0 d3 d4 d6 d9 (fun x9 hx9 => by rw [htab] at hx9; cases hx9) ?_ ?_ (by omega) (by omega) hC.2.2.2.2.2.2.2.2.2.1 (fun t hal hsz ho => ⟨_, h, hX, hR.up ho, ?_⟩) hF.2.2 (by omega) (by omega)
    · rcases t4 w9 hw9 with z | z
      · exact hw _ z
      · exact va_Nw.use (am_W1ot z) (hC.2.2.2.2.2.2.2.1 _ z)
    · show 2 + 3 < R.frames
      omega
    · show _ + (13 * (2 + 1) + 43) ≤ R.locals
      omega
    · exact ⟨Nat.le_trans hF.1 hsz, fun q1 k1 k2 => (ho q1 (Nat.lt_of_lt_of_le k1 hF.1)).trans (hF.2.1 q1 k1 k2)⟩
  · rw [hlaw] at z
    cases z
theorem v_throwW {m : MInfo} {kc ks pc : Nat} {E st : List AV} {ρ : Rho} {h : Hh} {Q : PQ} {X : PX} {ik is ic : Nat} {cls : String} (d0 : decode (am_cc m) pc = .ok (.new ik, 3)) (d3 : decode (am_cc m) (pc + 3) = .ok (.dup, 1)) (d4 : decode (am_cc m) (pc + 4) = .ok (.ldc_w is, 3)) (d6 : decode (am_cc m) (pc + 7) = .ok (.invokespecial ic, 3)) (d9 : decode (am_cc m) (pc + 10) = .ok (.athrow, 1)) (ht : am_TH (am_own m) ik is ic cls) (hlaw : am_law m = false) (hhh : am_hh m = []) (hfr : 6 ≤ am_fr m) (hst : am_ct st ≤ 16) (h1 : 1 ≤ kc) (h6 : 6 ≤ ks) (hX : X cls (ρ.1, ρ.2.1, false) h) : am_V m kc ks pc E st ρ h Q X := by
  intro l p e R s q args below meth c D cA B b g0 g1 Z H locs cells slots ls hC hZ hR hL hS hF hc hs
  rcases hZ with ⟨-, hZ⟩ | ⟨z, -⟩
  · subst hZ
    obtain ⟨t1, t2, ⟨tx, t3⟩, t4, t5, t6⟩ := ht
    have hw := hC.2.2.2.2.2.2.1
    have hsum := am_sum B b st
    have hfr9 := hC.2.2.2.2.2.2.2.2.2.2.2.2.2.2.2.2.1
    have hlo9 := hC.2.2.2.2.2.2.2.2.2.2.2.2.2.2.2.2.2.1
    obtain ⟨sa, hsa⟩ := hC.2.2.2.2.2.2.2.2.1.1 _ _ _ t3
    have htab : c.exceptionTable.toList = [] := (am_tab hC.2.2.2.2.2.2.2.2.2.2.2.2.2.2.1 hlaw).trans (am_nil hhh)
    refine vx_throwSW (names := ["java/lang/RuntimeException", "java/lang/Exception"]) (sa := sa) hC.2.1 hC.2.2.1 hC.1 hC.2.2.2.2.2.1 t6 (by decide) (hw _ t1) (hw _ t2) hsa (fun w9 hw9 => ?_) t5 hC.2.2.2.2.2.2.2.2.2.2.2.1 hC.2.2.2.2.2.2.2.2.2.2.2.2.1 hF (hL.1.trans hC.2.2.2.2.1.symm) d0 d3 d4 d6 d9 (fun x9 hx9 => by rw [htab] at hx9; cases hx9) ?_ ?_ (by omega) (by omega) hC.2.2.2.2.2.2.2.2.2.1 (fun t hal hsz ho => ⟨_, h, hX, hR.up ho, ?_⟩) hF.2.2 (by omega) (by omega)
    · rcases t4 w9 hw9 with z | z
      · exact hw _ z
      · exact va_Nw.use (am_W1ot z) (hC.2.2.2.2.2.2.2.1 _ z)
    · show 2 + 3 < R.frames
      omega
    · show _ + (13 * (2 + 1) + 43) ≤ R.locals
      omega
    · exact ⟨Nat.le_trans hF.1 hsz, fun q1 k1 k2 => (ho q1 (Nat.lt_of_lt_of_le k1 hF.1)).trans (hF.2.1 q1 k1 k2)⟩
  · rw [hlaw] at z
    cases z
/-- what is the same for every state that the method is called in -/
def am_G (D : va_G) (cA : Nat → ClassId) (B b : Nat) (g0 g1 : Int → Int) (U : State) : Prop := (∀ w ∈ am_W1, va_Nw w U) ∧ am_strs U ∧ va_K D am_cl (am_tys cA) U ∧ vx_Zq Bundle.tN "UNASSIGNED_STACK" Bundle.steD (am_A B) U U.heap ∧ vx_Zq Bundle.tN "SUPPRESSED_SENTINEL" Bundle.listD (am_A B) U U.heap ∧ B ≤ U.heap.size ∧ (∀ E1 ∈ am_X6, ∀ E2 ∈ am_X6, E1 ≠ E2 → va_Nc E1 E2 U) ∧ (va_X b (g1 0).toNat (fun j => Int32.ofInt (g0 j)) U U.heap ∧ b < B ∧ (∀ j, am_i (g0 j)) ∧ 0 ≤ g1 0 ∧ g1 0 ≤ 260)
def am_ws (j : MInfo) : List Cond := .code (am_y j) (am_cc j) (am_ml j) (am_rt j) :: am_W0
def am_rm (j : MInfo) : Room := { frames := am_fr j, cells := am_kc j, slots := am_ks j, locals := 100 * am_fr j }
def am_E (j : MInfo) (As : List AV) : List AV := As ++ List.replicate (am_ml j - As.length) aU
def am_Pc (D : va_G) (cA : Nat → ClassId) (B b : Nat) (g0 g1 : Int → Int) (ρ : Rho) (h : Hh) (As : List AV) : Array Value → State → Prop := va_Pc (As.map (am_v B b)) (fun U => am_G D cA B b g0 g1 U ∧ am_HR D cA B g0 g1 ρ h U.heap)
/-- a method's own facts -/
def am_J (j : MInfo) : Prop := Cond.initialized (am_y j).cls ∈ am_W0 ∧ Cond.code (am_y j) (am_cc j) (am_ml j) (am_rt j) ∈ am_W0 ∧ plainName (am_y j).cls = true ∧ ((am_y j).cls ≠ "java/lang/invoke/MethodHandle" ∧ (am_y j).cls ≠ "java/lang/invoke/VarHandle") ∧ am_own j = (am_y j).cls ∧ am_law j = false ∧ am_hh j = [] ∧ am_ml j ≤ 60
/-- arguments of one slot each -/
def am_one : AV → Bool
  | .inr (.inl _) => false
  | .inr (.inr (.inr (.inl _))) => false
  | _ => true
theorem am_one_cat {B b : Nat} {v : AV} (h : am_one v = true) : (am_v B b v).category = 1 := by
  rcases v with x | x | x | x | x | x <;> first | rfl | (simp [am_one] at h)
theorem am_sl {B b : Nat} : ∀ {As : List AV}, (∀ v ∈ As, am_one v = true) → lg_sl (As.map (am_v B b)) = As.map (fun v => Slot.val (am_v B b v))
  | [], _ => rfl
  | v :: As, h => by
    have h1 := am_sl (B := B) (b := b) (As := As) (fun w hw => h w (List.mem_cons_of_mem _ hw))
    have h2 := am_one_cat (B := B) (b := b) (h v List.mem_cons_self)
    show (if (am_v B b v).category = 2 then [Slot.val (am_v B b v), Slot.second] else [Slot.val (am_v B b v)]) ++ lg_sl (As.map (am_v B b)) = _
    rw [h1, if_neg (by omega)]
    rfl
theorem am_entry {B b : Nat} {j : MInfo} {As : List AV} (h1 : ∀ v ∈ As, am_one v = true) (h2 : As.length ≤ am_ml j) (h3 : am_St As) : am_LR B b ((lg_sl (As.map (am_v B b)) ++ List.replicate (am_ml j - (lg_sl (As.map (am_v B b))).length) Slot.unset).toArray) (am_ml j) (am_E j As) := by
  have e1 := am_sl (B := B) (b := b) h1
  have hw := lv_entry (As.map (am_v B b)) (n := am_ml j) (by rw [e1, List.length_map]; exact h2)
  refine ⟨hw.1, by unfold am_E; rw [List.length_append, List.length_replicate]; omega, hw.2.1, fun i v hv => ?_⟩
  unfold am_E at hv
  rw [e1]
  by_cases z : i < As.length
  · rw [List.getElem?_append_left z] at hv
    refine Or.inr ⟨?_, h3 v (List.mem_of_getElem? hv)⟩
    rw [List.getElem?_toArray, List.getElem?_append_left (by rw [List.length_map]; exact z), List.getElem?_map, hv]
    rfl
  · rw [List.getElem?_append_right (by omega), List.getElem?_replicate] at hv
    split at hv
    · exact Or.inl (Option.some.inj hv).symm
    · cases hv
set_option maxHeartbeats 1000000 in
/-- the contract of a method, from its abstract run -/
theorem am_met {j : MInfo} {l : Launch} (hl : l.stackTraces = false) (hJ : am_J j) {D : va_G} {cA : Nat → ClassId} {B b : Nat} {g0 g1 : Int → Int} {ρ : Rho} {h : Hh} {Q : PQ} {X : PX} {As : List AV} (h1 : ∀ v ∈ As, am_one v = true) (h2 : As.length ≤ am_ml j) (h3 : am_St As) (hV : am_V j (am_kc j) (am_ks j) 0 (am_E j As) [] ρ h Q X) :
    vx_Met l (am_y j) (am_ws j) (am_rm j) (am_Pc D cA B b g0 g1 ρ h As) (am_QC D cA B b g0 g1 Q) (am_XC D cA B g0 g1 X) (am_kc j) (am_ks j) (am_A B) := by
  obtain ⟨j1, j2, j3, j4, j5, j6, j7, j8⟩ := hJ
  refine vx_ofW (cc := am_cc j) (maxL := am_ml j) (ret := am_rt j) j3 rfl ?_
  intro p e s m args below meth c s₁ B0 hml ht hv
  obtain ⟨rfl, hG, hHR⟩ := hv
  obtain ⟨G1, G2, G3, G4, G5, G6, G7, G8⟩ := hG
  have hws := atoms_spec (ws := am_ws j) B0.pre
  have htab : c.exceptionTable.toList = tableOf (am_hh j) := by
    rw [am_nil j7]
    cases hz : c.exceptionTable.toList with
    | nil => rfl
    | cons x xs => exact (ht x (by rw [hz]; exact List.mem_cons_self)).elim
  rw [lg_entry_eq]
  refine hV l p e (am_rm j) s m _ below meth c D cA B b g0 g1 _ s.heap [] 0 0 _ ⟨hl, B0.exec, B0.bytes, B0.returns, hml, ?_, fun w hw => hws w (List.mem_cons_of_mem _ hw), G1, G2, B0.notSynchronized, G3, G4, G5, G6, Or.inr htab, Or.inr (name_of_methodNamed B0.named B0.method).1, Nat.le_refl _, Nat.le_refl _, G7, G8⟩ (Or.inl ⟨j6, rfl⟩) hHR (am_entry h1 h2 h3) (fun v hv => by cases hv) va_S.rf (by show 0 + am_kc j ≤ am_kc j; omega) (by show 0 + am_ks j ≤ am_ks j; omega)
  · rw [j5]
    exact findClass_of_methodNamed B0.named
theorem am_AO.moved {u U : State} (hvm : u.vm.Alike U.vm) (h : am_AO u) : am_AO U := by
  refine ⟨(va_AO.moved hvm (va_AO.of h.1)).use, ?_⟩
  have h := h.2
  simp only [Cond.before, Cond.holds, Cond.value, beq_iff_eq] at h
  cases hc : u.vm.findClass (FieldType.array .int).toString with
  | none => simp [hc] at h
  | some comp =>
    simp only [hc, Option.bind_some, Option.bind_eq_some_iff, Option.map_eq_some_iff] at h
    obtain ⟨c, hi, k, hk, hb⟩ := h
    obtain ⟨k', hk', he⟩ := hvm.2.2 _ _ hk
    have hi' : (U.vm.classes.findIdx? fun (x : Class) => match x.kind with | .array component _ => component == comp | _ => false) = some c := by
      refine Eq.trans (va_idx_bare U.vm comp).symm ?_
      first | rw [hvm.bare_eq] | rw [← hvm.bare_eq]
      exact (va_idx_bare u.vm comp).trans hi
    cases hkind : k.kind with
    | array component ty =>
      rw [hkind] at hb
      simp at hb
      have hkind' : k'.kind = .array component ty := by rw [he]; exact hkind
      have f1 : U.vm.findClass (FieldType.array .int).toString = some comp := by rw [hvm.findClass]; exact hc
      have f2 : U.vm.findClass ("[" ++ (FieldType.array .int).toString) = some c := by rw [hvm.findClass]; exact hb.2
      unfold Cond.before Cond.holds
      simp only [Cond.value]
      rw [f1, Option.bind_some]
      refine (congrArg (fun o : Option Nat => (o.bind (fun c => (U.vm.classes[c]?).map fun (k : Class) => match k.kind with | .array _ ty => decide (ty = FieldType.array .int) && decide (U.vm.findClass ("[" ++ (FieldType.array .int).toString) = some c) | _ => false) == some true)) hi').trans ?_
      simp [hk', hkind', f2, hb.1]
    | _ => rw [hkind] at hb; simp at hb
theorem am_C.G {m : MInfo} {l : Launch} {p : Program} {s : State} {R : Room} {i : MethodId} {args : Array Value} {meth : Method} {c : Code} {D : va_G} {cA : Nat → ClassId} {B b : Nat} {g0 g1 : Int → Int} {H : Heap} {locs : List Loc} (hC : am_C m l p s R i args meth c D cA B b g0 g1) (hF : va_S (am_A B) s.heap H locs) {U : State} (hU : U.heap = H) (hW : s.WarmedH U.vm) : am_G D cA B b g0 g1 U := by
  refine ⟨fun w hw => ?_, ⟨fun own k tx hk => ?_, am_AO.moved hW.alike hC.2.2.2.2.2.2.2.2.1.2⟩, va_K.moved hW.alike hC.2.2.2.2.2.2.2.2.2.2.1, ?_, ?_, ?_, fun E1 h1 E2 h2 hn => (hC.2.2.2.2.2.2.2.2.2.2.2.2.2.2.2.2.2.2.1 E1 h1 E2 h2 hn).moved hW.alike, ?_⟩
  · have h1 := hC.2.2.2.2.2.2.2.1 w hw
    have h2 := (List.mem_filter.mp hw).2
    cases w <;> first | exact va_Nw.warmC hW h1 | exact va_Nw.warmM hW h1 | exact va_Nw.warmD hW h1 | (simp [am_w1] at h2)
  · obtain ⟨a, ha⟩ := hC.2.2.2.2.2.2.2.2.1.1 own k tx hk
    exact ⟨a, ha.warm hW⟩
  · rw [hU]
    exact vx_Zq.moved hW.alike (vx_Zq.kept hC.2.2.2.2.2.2.2.2.2.2.2.1 (fun a h1 h2 => hF.2.1 a h1 h2))
  · rw [hU]
    exact vx_Zq.moved hW.alike (vx_Zq.kept hC.2.2.2.2.2.2.2.2.2.2.2.2.1 (fun a h1 h2 => hF.2.1 a h1 h2))
  · rw [hU]
    exact Nat.le_trans hC.2.2.2.2.2.2.2.2.2.2.2.2.2.1 hF.1
  · obtain ⟨x1, x2, x3⟩ := hC.2.2.2.2.2.2.2.2.2.2.2.2.2.2.2.2.2.2.2
    refine ⟨?_, x2, x3⟩
    rw [hU]
    exact va_X.moved hW.alike (x1.kept (hF.2.1 b (Nat.lt_of_lt_of_le x2 hC.2.2.2.2.2.2.2.2.2.2.2.2.2.1) (Nat.not_le.mpr x2)))
theorem am_FB {D : va_G} {cA : Nat → ClassId} {B b : Nat} {g0 g1 : Int → Int} {ρ : Rho} {h : Hh} {As : List AV} : FrameBlind (am_Pc D cA B b g0 g1 ρ h As) := by
  intro a U g mk hq
  obtain ⟨q1, ⟨G1, G2, G3, G4, G5, G6, G7, G8⟩, q3⟩ := hq
  have hvm : U.vm = (U.calling g mk a).vm := rfl
  have hal : U.vm.Alike (U.calling g mk a).vm := Vm.Alike.refl U.vm
  refine ⟨q1, ⟨fun w hw => va_Nw.same (am_W1ot hw) hvm (G1 w hw), ⟨fun own k tx hk => ?_, am_AO.moved hal G2.2⟩, va_K.moved hal G3, vx_Zq.moved hal G4, vx_Zq.moved hal G5, G6, fun E1 h1 E2 h2 hn => (G7 E1 h1 E2 h2 hn).moved hal, va_X.moved hal G8.1, G8.2⟩, q3⟩
  obtain ⟨a9, h9⟩ := G2.1 own k tx hk
  exact ⟨a9, vk_R.same hvm.symm h9⟩
theorem am_room {j m : MInfo} {R : Room} (h1 : am_fr m ≤ R.frames) (h2 : 100 * am_fr m ≤ R.locals) (h3 : am_fr j + 1 ≤ am_fr m) (h4 : am_ml j ≤ 60) : (am_rm j).frames + 1 ≤ R.frames ∧ 8 + (am_ml j + 11) + (am_rm j).locals ≤ R.locals := by
  constructor
  · show am_fr j + 1 ≤ R.frames
    omega
  · show 8 + (am_ml j + 11) + 100 * am_fr j ≤ R.locals
    omega
theorem am_goes {B b : Nat} {v : List AV} {st : List AV} (h : v.length ≤ 1) : (v.head?.map (am_v B b)).toList ++ st.map (am_v B b) = (v ++ st).map (am_v B b) := by
  match v, h with
  | [], _ => rfl
  | [x], _ => rfl
theorem am_StA {v st : List AV} (h1 : am_St v) (h2 : am_St st) : am_St (v ++ st) := fun w hw => (List.mem_append.mp hw).elim (h1 w) (h2 w)
/-- behind a call -/
theorem am_after {m : MInfo} {kc ks pc : Nat} {E st : List AV} {Q : PQ} {X : PX} {kcj ksj : Nat} {l : Launch} {p : Program} {e : Env} {R : Room} {s : State} {q : MethodId} {args : Array Value} {below : List Frame} {meth : Method} {c : Code} {D : va_G} {cA : Nat → ClassId} {B b : Nat} {g0 g1 : Int → Int} {Z : State → Prop} {H : Heap} {locs : List Loc} {cells slots : Nat} {ls : Array Slot} {st0 : List Value} {a9 : Array Value}
    (hC : am_C m l p s R q args meth c D cA B b g0 g1) (hZ : am_Z m l p e R s q args below meth c D cA B b g0 g1 Q X Z) (hL : am_LR B b ls (am_ml m) E) (hS : am_St st) (hF : va_S (am_A B) s.heap H locs) (hc : cells + kc ≤ R.cells) (hs : slots + ks ≤ R.slots) (hkc : kcj ≤ kc) (hks : ksj ≤ ks) (hhh : am_hh m = [])
    (hr : vx_Run p l e R s q args below meth c H locs cells slots kcj ksj (F0 q pc ls st0) (st.map (am_v B b)) (am_QC D cA B b g0 g1 (fun v ρ h => am_V m (kc - kcj) (ks - ksj) (pc + 3) E (v ++ st) ρ h Q X) a9) (am_XC D cA B g0 g1 X) (am_A B)) : W p l e R s q args below meth c H locs cells slots Z (F0 q pc ls st0) := by
  intro T hT Xs
  rcases hr T hT Xs with ⟨v, st₀, t, T', L, h0, X', hLq, e1, e2, ⟨v9, ρ9, h9, q1, q2, q3, q4, q5, q6⟩, stp⟩ | ⟨q9, st₀, t, T', L, Ex, ce, h0, X', hLq, e1, e2, ⟨ρ9, h9, q1, q2, q3⟩, hce, hcv, hcl, stp⟩
  · cases q1
    obtain ⟨k1, k2, k3⟩ := vx_keep h0 e1 hF (fun _ _ z => z) (fun _ z => z) hLq q6
    rw [← e1] at q5
    obtain ⟨t2, a1, b1⟩ := q3 l p e R s q args below meth c D cA B b g0 g1 Z T'.heap (locs ++ L) (cells + kcj) (slots + ksj) ls hC hZ q5 hL (am_StA q4 hS) k3 (by omega) (by omega) T' rfl X'
    rw [← am_goes q2] at a1
    exact ⟨t2, stp t2 a1, b1⟩
  · obtain ⟨k1, k2, k3⟩ := vx_keep h0 e1 hF (fun _ _ z => z) (fun _ z => z) hLq q3
    rcases hZ with ⟨hlaw, hZ⟩ | ⟨-, hX, -⟩
    · subst hZ
      have htab : c.exceptionTable.toList = [] := (am_tab hC.2.2.2.2.2.2.2.2.2.2.2.2.2.2.1 hlaw).trans (am_nil hhh)
      have hw : vx_W p l e R s q args below meth c T'.heap (locs ++ L) (cells + kcj) (slots + ksj) (vx_MQ below (am_QC D cA B b g0 g1 Q) (am_XC D cA B g0 g1 X) args s R.cells R.slots (am_A B)) (F0 q pc ls (st.map (am_v B b))) q9 :=
        vx_out (fun x9 hx9 => by rw [htab] at hx9; cases hx9) hC.2.2.2.2.2.2.2.2.2.1 (by rw [e1]; exact hce) hcv hcl (fun t9 ht9 _ => ⟨ρ9, h9, q1, by rw [ht9, e1]; exact q2, k3.F ht9⟩) k3.2.2 (by omega) (by omega)
      obtain ⟨t2, a1, b1⟩ := hw T' rfl X'
      exact ⟨t2, stp.trans a1, b1⟩
    · exact (hX Ex ρ9 h9 q1).elim
set_option maxHeartbeats 1000000 in
theorem v_callV {m : MInfo} {kc ks pc : Nat} {E st : List AV} {ρ : Rho} {h : Hh} {Q : PQ} {X : PX} {j : MInfo} {idx n : Nat} {As E0 : List AV} {a ci N : Nat} {q9 : vw_C} (hd : decode (am_cc m) pc = .ok (.invokevirtual idx, 3)) (hlk : Cond.methodLink (am_own m) idx (am_y j) ∈ am_W0 ∧ Cond.instanceMethod (am_y j) ∈ am_W0 ∧ Cond.selects (am_y j).cls (am_y j) (am_y j) ∈ am_W0) (hJ : am_J j) (hkc : am_kc j ≤ kc) (hks : am_ks j ≤ ks) (hfr : am_fr j + 1 ≤ am_fr m) (hhh : am_hh m = []) (hst : am_ct st ≤ 8) (h1 : ∀ v ∈ (aR a :: As), am_one v = true) (h2 : ((aR a :: As)).length ≤ am_ml j) (hE : am_E j ((aR a :: As)) = E0) (hk : ρ.1[a]? = some (10 + ci, N)) (hcl : am_cl[ci]? = some q9) (hq9 : q9.1 = (am_y j).cls) (hn : (parseMethodDescriptor (am_y j).desc).map (fun d => d.parameters.length) = some n) (hAn : As.length = n) (k : am_V j (am_kc j) (am_ks j) 0 E0 [] ρ h (fun v ρ' h' => am_V m (kc - am_kc j) (ks - am_ks j) (pc + 3) E (v ++ st) ρ' h' Q X) X) : am_V m kc ks pc E (As.reverse ++ aR a :: st) ρ h Q X := by
  intro l p e R s q args below meth c D cA B b g0 g1 Z H locs cells slots ls hC hZ hR hL hS hF hc hs
  subst hE
  obtain ⟨j1, j2, j3, j4, j5, j6, j7, j8⟩ := id hJ
  have hw := hC.2.2.2.2.2.2.1
  have hfr9 := hC.2.2.2.2.2.2.2.2.2.2.2.2.2.2.2.2.1
  have hlo9 := hC.2.2.2.2.2.2.2.2.2.2.2.2.2.2.2.2.2.1
  have hsum := am_sum B b st
  have hroom := am_room (j := j) hfr9 hlo9 hfr j8
  have hlt := hR.lt hk
  have ha9 := am_w_get (B := B) (cA := cA) (h := h) hk
  rw [am_cellO] at ha9
  have hcell := va_recv hC.2.2.2.2.2.2.2.2.2.2.1 hR.1 hcl ha9
  rw [hq9] at hcell
  have hSs : am_St st := fun w9 hw9 => hS w9 (List.mem_append_right _ (List.mem_cons_of_mem _ hw9))
  have hSa : am_St (aR a :: As) := am_StC trivial (fun w9 hw9 => hS w9 (List.mem_append_left _ (List.mem_reverse.mpr hw9)))
  have hM := am_met (l := l) hC.1 hJ (D := D) (cA := cA) (B := B) (b := b) (g0 := g0) (g1 := g1) h1 h2 hSa k
  refine am_after hC hZ hL hSs hF hc hs hkc hks hhh (a9 := (Value.ref (B + a) :: As.map (am_v B b)).toArray) (vx_runV (As := As.map (am_v B b)) (b := B + a) ⟨hC.2.1, hC.2.2.1, hC.2.2.2.2.1, hC.2.2.2.2.2.1, hw⟩ hM (cwV n hw (am_goodIn (fun w9 hw9 => by
    rcases List.mem_append.mp hw9 with z | z
    · simp only [List.mem_cons, List.mem_nil_iff, or_false] at z
      rcases z with rfl | rfl | rfl | rfl
      · exact hlk.1
      · exact hlk.2.1
      · exact hlk.2.2
      · exact j1
    · rcases List.mem_cons.mp z with rfl | z
      · exact j2
      · exact z)) rfl rfl rfl ⟨rfl, j4.1, j4.2, hn⟩ hroom) ⟨am_FB, hcell, fun U hU hW => ⟨by rw [List.map_cons]; show _ = (Value.ref (am_ad B b a) :: _).toArray; rw [am_adL hlt], hC.G hF hU hW, by rw [hU]; exact hR⟩⟩ rfl (by rw [List.length_map]; exact hAn) hL.1 ?_ (lv_room (by omega)) hd ⟨by omega, by omega⟩)
  rw [List.map_append, List.map_cons, List.map_reverse]
  show _ ++ Value.ref (am_ad B b a) :: _ = _
  rw [am_adL hlt]
set_option maxHeartbeats 1000000 in
theorem v_callU {m : MInfo} {kc ks pc : Nat} {E st : List AV} {ρ : Rho} {h : Hh} {Q : PQ} {X : PX} {j : MInfo} {idx n : Nat} {As E0 : List AV} {a ci N : Nat} {q9 : vw_C} {x9 : MethodName} {owner : String} (hd : decode (am_cc m) pc = .ok (.invokevirtual idx, 3)) (hlk : Cond.methodLink (am_own m) idx x9 ∈ am_W0 ∧ Cond.sameMethod x9.cls owner x9.name x9.desc ∈ am_W0 ∧ Cond.selects q9.1 x9 (am_y j) ∈ am_W0 ∧ Cond.instanceMethod (am_y j) ∈ am_W0 ∧ Cond.declares ⟨owner, x9.name, x9.desc⟩ ∈ am_W1 ∧ owner ≠ "java/lang/invoke/MethodHandle" ∧ owner ≠ "java/lang/invoke/VarHandle") (hJ : am_J j) (hkc : am_kc j ≤ kc) (hks : am_ks j ≤ ks) (hfr : am_fr j + 1 ≤ am_fr m) (hhh : am_hh m = []) (hst : am_ct st ≤ 8) (h1 : ∀ v ∈ (aR a :: As), am_one v = true) (h2 : ((aR a :: As)).length ≤ am_ml j) (hE : am_E j ((aR a :: As)) = E0) (hk : ρ.1[a]? = some (10 + ci, N)) (hcl : am_cl[ci]? = some q9) (hn : (parseMethodDescriptor x9.desc).map (fun d => d.parameters.length) = some n) (hAn : As.length = n) (k : am_V j (am_kc j) (am_ks j) 0 E0 [] ρ h (fun v ρ' h' => am_V m (kc - am_kc j) (ks - am_ks j) (pc + 3) E (v ++ st) ρ' h' Q X) X) : am_V m kc ks pc E (As.reverse ++ aR a :: st) ρ h Q X := by
  intro l p e R s q args below meth c D cA B b g0 g1 Z H locs cells slots ls hC hZ hR hL hS hF hc hs
  subst hE
  obtain ⟨j1, j2, j3, j4, j5, j6, j7, j8⟩ := id hJ
  have hw := hC.2.2.2.2.2.2.1
  have hfr9 := hC.2.2.2.2.2.2.2.2.2.2.2.2.2.2.2.2.1
  have hlo9 := hC.2.2.2.2.2.2.2.2.2.2.2.2.2.2.2.2.2.1
  have hsum := am_sum B b st
  have hroom := am_room (j := j) hfr9 hlo9 hfr j8
  have hlt := hR.lt hk
  have ha9 := am_w_get (B := B) (cA := cA) (h := h) hk
  rw [am_cellO] at ha9
  have hcell := va_recv hC.2.2.2.2.2.2.2.2.2.2.1 hR.1 hcl ha9
  have hSs : am_St st := fun w9 hw9 => hS w9 (List.mem_append_right _ (List.mem_cons_of_mem _ hw9))
  have hSa : am_St (aR a :: As) := am_StC trivial (fun w9 hw9 => hS w9 (List.mem_append_left _ (List.mem_reverse.mpr hw9)))
  have hM := am_met (l := l) hC.1 hJ (D := D) (cA := cA) (B := B) (b := b) (g0 := g0) (g1 := g1) h1 h2 hSa k
  refine am_after hC hZ hL hSs hF hc hs hkc hks hhh (a9 := (Value.ref (B + a) :: As.map (am_v B b)).toArray) (vx_runU (As := As.map (am_v B b)) (b := B + a) ⟨hC.2.1, hC.2.2.1, hC.2.2.2.2.1, hC.2.2.2.2.2.1, hw⟩ hM (va_cwA (C := q9.1) (owner := owner) (x := x9) n hw (am_goodIn (fun w9 hw9 => by
    rcases List.mem_append.mp hw9 with z | z
    · simp only [List.mem_cons, List.mem_nil_iff, or_false] at z
      rcases z with rfl | rfl | rfl | rfl | rfl
      · exact hlk.1
      · exact hlk.2.1
      · exact hlk.2.2.1
      · exact hlk.2.2.2.1
      · exact j1
    · rcases List.mem_cons.mp z with rfl | z
      · exact j2
      · exact z)) rfl rfl rfl (hC.2.2.2.2.2.2.2.1 _ hlk.2.2.2.2.1) ⟨hlk.2.2.2.2.2.1, hlk.2.2.2.2.2.2, hn⟩ hroom) ⟨am_FB, hcell, fun U hU hW => ⟨by rw [List.map_cons]; show _ = (Value.ref (am_ad B b a) :: _).toArray; rw [am_adL hlt], hC.G hF hU hW, by rw [hU]; exact hR⟩⟩ rfl (by rw [List.length_map]; exact hAn) hL.1 ?_ (lv_room (by omega)) hd ⟨by omega, by omega⟩)
  rw [List.map_append, List.map_cons, List.map_reverse]
  show _ ++ Value.ref (am_ad B b a) :: _ = _
  rw [am_adL hlt]
set_option maxHeartbeats 1000000 in
theorem v_callS {m : MInfo} {kc ks pc : Nat} {E st : List AV} {ρ : Rho} {h : Hh} {Q : PQ} {X : PX} {j : MInfo} {idx n : Nat} {As E0 : List AV}  (hd : decode (am_cc m) pc = .ok (.invokestatic idx, 3)) (hlk : Cond.methodLink (am_own m) idx (am_y j) ∈ am_W0 ∧ Cond.static (am_y j) ∈ am_W0) (hJ : am_J j) (hkc : am_kc j ≤ kc) (hks : am_ks j ≤ ks) (hfr : am_fr j + 1 ≤ am_fr m) (hhh : am_hh m = []) (hst : am_ct st ≤ 8) (h1 : ∀ v ∈ As, am_one v = true) (h2 : (As).length ≤ am_ml j) (hE : am_E j (As) = E0)  (hn : (parseMethodDescriptor (am_y j).desc).map (fun d => d.parameters.length) = some n) (hAn : As.length = n) (k : am_V j (am_kc j) (am_ks j) 0 E0 [] ρ h (fun v ρ' h' => am_V m (kc - am_kc j) (ks - am_ks j) (pc + 3) E (v ++ st) ρ' h' Q X) X) : am_V m kc ks pc E (As.reverse ++ st) ρ h Q X := by
  intro l p e R s q args below meth c D cA B b g0 g1 Z H locs cells slots ls hC hZ hR hL hS hF hc hs
  subst hE
  obtain ⟨j1, j2, j3, j4, j5, j6, j7, j8⟩ := id hJ
  have hw := hC.2.2.2.2.2.2.1
  have hfr9 := hC.2.2.2.2.2.2.2.2.2.2.2.2.2.2.2.2.1
  have hlo9 := hC.2.2.2.2.2.2.2.2.2.2.2.2.2.2.2.2.2.1
  have hsum := am_sum B b st
  have hroom := am_room (j := j) hfr9 hlo9 hfr j8
  have hSs : am_St st := fun w9 hw9 => hS w9 (List.mem_append_right _ hw9)
  have hSa : am_St As := fun w9 hw9 => hS w9 (List.mem_append_left _ (List.mem_reverse.mpr hw9))
  have hM := am_met (l := l) hC.1 hJ (D := D) (cA := cA) (B := B) (b := b) (g0 := g0) (g1 := g1) h1 h2 hSa k
  refine am_after hC hZ hL hSs hF hc hs hkc hks hhh (a9 := (As.map (am_v B b)).toArray) (vx_runS (As := As.map (am_v B b)) ⟨hC.2.1, hC.2.2.1, hC.2.2.2.2.1, hC.2.2.2.2.2.1, hw⟩ hM (va_cwS n hw (am_goodIn (fun w9 hw9 => by
    rcases List.mem_append.mp hw9 with z | z
    · simp only [List.mem_cons, List.mem_nil_iff, or_false] at z
      rcases z with rfl | rfl | rfl
      · exact hlk.1
      · exact hlk.2
      · exact j1
    · rcases List.mem_cons.mp z with rfl | z
      · exact j2
      · exact z)) rfl rfl rfl ⟨j4.1, j4.2, hn⟩ hroom) ⟨am_FB, fun U hU hW => ⟨rfl, hC.G hF hU hW, by rw [hU]; exact hR⟩⟩ rfl (by rw [List.length_map]; exact hAn) hL.1 ?_ (lv_room (by omega)) hd ⟨by omega, by omega⟩)
  rw [List.map_append, List.map_reverse]
set_option maxHeartbeats 1000000 in
theorem v_callSN {m : MInfo} {kc ks pc : Nat} {E st : List AV} {ρ : Rho} {h : Hh} {Q : PQ} {X : PX} {j : MInfo} {idx n : Nat} {As E0 : List AV} {host : String} (hd : decode (am_cc m) pc = .ok (.invokestatic idx, 3)) (hlk : Cond.methodLinkNest (am_own m) idx (am_y j) host ∈ am_W1 ∧ Cond.static (am_y j) ∈ am_W0) (hJ : am_J j) (hkc : am_kc j ≤ kc) (hks : am_ks j ≤ ks) (hfr : am_fr j + 1 ≤ am_fr m) (hhh : am_hh m = []) (hst : am_ct st ≤ 8) (h1 : ∀ v ∈ As, am_one v = true) (h2 : (As).length ≤ am_ml j) (hE : am_E j (As) = E0)  (hn : (parseMethodDescriptor (am_y j).desc).map (fun d => d.parameters.length) = some n) (hAn : As.length = n) (k : am_V j (am_kc j) (am_ks j) 0 E0 [] ρ h (fun v ρ' h' => am_V m (kc - am_kc j) (ks - am_ks j) (pc + 3) E (v ++ st) ρ' h' Q X) X) : am_V m kc ks pc E (As.reverse ++ st) ρ h Q X := by
  intro l p e R s q args below meth c D cA B b g0 g1 Z H locs cells slots ls hC hZ hR hL hS hF hc hs
  subst hE
  obtain ⟨j1, j2, j3, j4, j5, j6, j7, j8⟩ := id hJ
  have hw := hC.2.2.2.2.2.2.1
  have hfr9 := hC.2.2.2.2.2.2.2.2.2.2.2.2.2.2.2.2.1
  have hlo9 := hC.2.2.2.2.2.2.2.2.2.2.2.2.2.2.2.2.2.1
  have hsum := am_sum B b st
  have hroom := am_room (j := j) hfr9 hlo9 hfr j8
  have hSs : am_St st := fun w9 hw9 => hS w9 (List.mem_append_right _ hw9)
  have hSa : am_St As := fun w9 hw9 => hS w9 (List.mem_append_left _ (List.mem_reverse.mpr hw9))
  have hM := am_met (l := l) hC.1 hJ (D := D) (cA := cA) (B := B) (b := b) (g0 := g0) (g1 := g1) h1 h2 hSa k
  refine am_after hC hZ hL hSs hF hc hs hkc hks hhh (a9 := (As.map (am_v B b)).toArray) (vx_runSN (As := As.map (am_v B b)) ⟨hC.2.1, hC.2.2.1, hC.2.2.2.2.1, hC.2.2.2.2.2.1, hw⟩ hM ⟨va_cnB n hw (am_goodIn (fun w9 hw9 => by
    rcases List.mem_cons.mp hw9 with rfl | z
    · exact j2
    · exact z)) rfl rfl rfl (hC.2.2.2.2.2.2.2.1 _ hlk.1) (hw _ j1) ⟨j4.1, j4.2, hn⟩ hroom, hw _ hlk.2, trivial⟩ ⟨am_FB, fun U hU hW => ⟨rfl, hC.G hF hU hW, by rw [hU]; exact hR⟩⟩ rfl (by rw [List.length_map]; exact hAn) hL.1 ?_ (lv_room (by omega)) hd ⟨by omega, by omega⟩)
  rw [List.map_append, List.map_reverse]
end
section
theorem v_slen {m : MInfo} {kc ks pc : Nat} {E st : List AV} {ρ : Rho} {h : Hh} {Q : PQ} {X : PX} (hd : decode (am_cc m) pc = .ok (.arraylength, 1)) (k : 0 ≤ h 1001 0 → h 1001 0 ≤ 260 → am_V m kc ks (pc + 1) E (aI (h 1001 0) :: st) ρ h Q X) : am_V m kc ks pc E (aR 1000 :: st) ρ h Q X := by
  intro l p e R s q args below meth c D cA B b g0 g1 Z H locs cells slots ls hC hZ hR hL hS hF hc hs
  obtain ⟨hX, hbB, hg0, hg1, hg2⟩ := hC.2.2.2.2.2.2.2.2.2.2.2.2.2.2.2.2.2.2.2
  have e1 : h 1001 0 = g1 0 := by rw [hR.2.2.2.2.2.2]
  have hok : am_i (h 1001 0) := by rw [e1]; exact ⟨by omega, by omega⟩
  have k := k (by omega) (by omega)
  show W p l e R s q args below meth c H locs cells slots Z (F0 q pc ls (.ref b :: st.map (am_v B b)))
  refine va_slen hC.2.1 hC.2.2.1 hX (Nat.lt_of_lt_of_le hbB hC.2.2.2.2.2.2.2.2.2.2.2.2.2.1) (Nat.not_le.mpr hbB) hF hd ?_
  have e2 : Int32.ofNat (g1 0).toNat = Int32.ofInt (h 1001 0) := am_asI (by rw [Int32.toInt_ofNat', e1, Int.toNat_of_nonneg hg1]; exact am_bmI ⟨by omega, by omega⟩)
  rw [e2]
  exact (k l p e R s q args below meth c D cA B b g0 g1 Z H locs cells slots ls hC hZ hR hL (am_StC (v := aI (h 1001 0)) hok (am_StT hS)) hF hc hs)
theorem v_sld {m : MInfo} {kc ks pc : Nat} {E st : List AV} {ρ : Rho} {h : Hh} {Q : PQ} {X : PX} {i : Int} (hd : decode (am_cc m) pc = .ok (.iaload, 1)) (h0 : 0 ≤ i) (h1 : i < h 1001 0) (k : am_i (h 1000 i) → am_V m kc ks (pc + 1) E (aI (h 1000 i) :: st) ρ h Q X) : am_V m kc ks pc E (aI i :: aR 1000 :: st) ρ h Q X := by
  intro l p e R s q args below meth c D cA B b g0 g1 Z H locs cells slots ls hC hZ hR hL hS hF hc hs
  obtain ⟨hX, hbB, hg0, hg1, hg2⟩ := hC.2.2.2.2.2.2.2.2.2.2.2.2.2.2.2.2.2.2.2
  have hi : am_i i := am_StH hS
  have e1 : h 1001 0 = g1 0 := by rw [hR.2.2.2.2.2.2]
  have e2 : h 1000 = g0 := hR.2.2.2.2.2.1
  have hok : am_i (h 1000 i) := by rw [e2]; exact hg0 i
  have k := k hok
  obtain ⟨e3, e4⟩ := am_ix (n := (g1 0).toNat) h0 (by rw [Int.toNat_of_nonneg hg1]; omega) hi
  show W p l e R s q args below meth c H locs cells slots Z (F0 q pc ls (.int (Int32.ofInt i) :: .ref b :: st.map (am_v B b)))
  refine va_sld hC.2.1 hC.2.2.1 hX (Nat.lt_of_lt_of_le hbB hC.2.2.2.2.2.2.2.2.2.2.2.2.2.1) (Nat.not_le.mpr hbB) hF e3 hd ?_
  rw [e4, ← e2]
  exact (k l p e R s q args below meth c D cA B b g0 g1 Z H locs cells slots ls hC hZ hR hL (am_StC (v := aI (h 1000 i)) hok (am_StT (am_StT hS))) hF hc hs)
theorem v_tswIn {m : MInfo} {kc ks pc : Nat} {E st : List AV} {ρ : Rho} {h : Hh} {Q : PQ} {X : PX} {dflt lo hi x off : Int} {offs : Array Int} {len tgt : Nat} (hd : decode (am_cc m) pc = .ok (.tableswitch dflt lo hi offs, len)) (h1 : lo ≤ x) (h2 : x ≤ hi) (ho : offs[(x - lo).toNat]? = some off) (ht : (pc : Int) + off = (tgt : Int)) (k : am_V m kc ks tgt E st ρ h Q X) : am_V m kc ks pc E (aI x :: st) ρ h Q X := by
  intro l p e R s q args below meth c D cA B b g0 g1 Z H locs cells slots ls hC hZ hR hL hS hF hc hs
  have hx : am_i x := am_StH hS
  have e1 := am_toI hx
  exact lv_tableIn hC.2.1 hC.2.2.1 hd (by rw [e1]; omega) (by rw [e1]; omega) (by rw [e1]; exact ho) ht (k l p e R s q args below meth c D cA B b g0 g1 Z H locs cells slots ls hC hZ hR hL (am_StT hS) hF hc hs)
theorem v_tswOut {m : MInfo} {kc ks pc : Nat} {E st : List AV} {ρ : Rho} {h : Hh} {Q : PQ} {X : PX} {dflt lo hi x : Int} {offs : Array Int} {len tgt : Nat} (hd : decode (am_cc m) pc = .ok (.tableswitch dflt lo hi offs, len)) (h1 : x < lo ∨ hi < x) (ht : (pc : Int) + dflt = (tgt : Int)) (k : am_V m kc ks tgt E st ρ h Q X) : am_V m kc ks pc E (aI x :: st) ρ h Q X := by
  intro l p e R s q args below meth c D cA B b g0 g1 Z H locs cells slots ls hC hZ hR hL hS hF hc hs
  have hx : am_i x := am_StH hS
  have e1 := am_toI hx
  exact lv_tableOut hC.2.1 hC.2.2.1 hd (by rw [e1]; exact h1) ht (k l p e R s q args below meth c D cA B b g0 g1 Z H locs cells slots ls hC hZ hR hL (am_StT hS) hF hc hs)
/-- the handler that takes an exception -/
def am_HD (own : String) (hh : List (Nat × Nat × Nat × Nat)) (pc : Nat) (Ex : String) (hpc : Nat) : Prop := ∃ (pre : List (Nat × Nat × Nat × Nat)) (x : Nat × Nat × Nat × Nat) (suf : List (Nat × Nat × Nat × Nat)), hh = pre ++ x :: suf ∧ (∀ z ∈ pre, z.2.2.2 ≠ 0 ∧ ∃ nm, Cond.classLink own z.2.2.2 nm ∈ am_W0 ∧ nm ∈ am_X6 ∧ Ex ≠ nm) ∧ x.1 ≤ pc ∧ pc < x.2.1 ∧ x.2.2.2 ≠ 0 ∧ Cond.classLink own x.2.2.2 Ex ∈ am_W0 ∧ Cond.castable Ex Ex ∈ am_W1 ∧ Ex ∈ am_X6 ∧ x.2.2.1 = hpc
theorem am_LR.s0 {B b nL i : Nat} {ls ls' : Array Slot} {E : List AV} {w9 : Value} (hL : am_LR B b ls nL E) (h' : lv_has ls' nL ((i, w9) :: (am_all ls nL).filter (fun q => !(q.1 == i) && !(q.1 + 1 == i && q.2.category == 2)))) : am_LR B b ls' nL (am_s1 E i aU) := by
  obtain ⟨h1, h2, h3, h4⟩ := hL
  refine ⟨h'.1, by unfold am_s1; rw [List.length_set, am_kill_len, h2], h'.2.1, fun j w hj => ?_⟩
  unfold am_s1 at hj
  rw [List.getElem?_set] at hj
  by_cases q : i = j
  · subst q
    rw [if_pos rfl] at hj
    split at hj
    · exact Or.inl (Option.some.inj hj).symm
    · cases hj
  · rw [if_neg q] at hj
    rcases am_kill_get hj with z | ⟨z1, z2⟩
    · exact Or.inl z
    · rcases h4 j w z1 with z | ⟨z3, z4⟩
      · exact Or.inl z
      · refine Or.inr ⟨h'.2.2 (j, am_v B b w) (List.mem_cons_of_mem _ (List.mem_filter.mpr ⟨am_all_mem h1 z3, ?_⟩)), z4⟩
        by_cases y : j + 1 = i
        · have := am_cat (B := B) (b := b) (z2 y)
          simp [this]
          omega
        · simp [y]
          omega
theorem am_cov {z : Nat × Nat × Nat × Nat} {pc : Nat} (h1 : z.1 ≤ pc) (h2 : pc < z.2.1) : covers ⟨z.1, z.2.1, z.2.2.1, z.2.2.2⟩ pc = true := by
  simp [covers, h1, h2]
set_option maxHeartbeats 1000000 in
theorem v_callH {m : MInfo} {kc ks pc : Nat} {E st : List AV} {ρ : Rho} {h : Hh} {Q : PQ} {X : PX} {j : MInfo} {idx n : Nat} {As E0 : List AV} {a ci N : Nat} {q9 : vw_C} (hd : decode (am_cc m) pc = .ok (.invokevirtual idx, 3)) (hlk : Cond.methodLink (am_own m) idx (am_y j) ∈ am_W0 ∧ Cond.instanceMethod (am_y j) ∈ am_W0 ∧ Cond.selects (am_y j).cls (am_y j) (am_y j) ∈ am_W0) (hJ : am_J j) (hkc : am_kc j ≤ kc) (hks : am_ks j ≤ ks) (hfr : am_fr j + 1 ≤ am_fr m) (hst : am_ct st ≤ 8) (h1 : ∀ v ∈ (aR a :: As), am_one v = true) (h2 : (aR a :: As).length ≤ am_ml j) (hE : am_E j (aR a :: As) = E0) (hk : ρ.1[a]? = some (10 + ci, N)) (hcl : am_cl[ci]? = some q9) (hq9 : q9.1 = (am_y j).cls) (hn : (parseMethodDescriptor (am_y j).desc).map (fun d => d.parameters.length) = some n) (hAn : As.length = n)
    (k : am_V j (am_kc j) (am_ks j) 0 E0 [] ρ h (fun v ρ' h' => am_V m (kc - am_kc j) (ks - am_ks j) (pc + 3) E (v ++ st) ρ' h' Q X) (fun Ex ρ' h' => ∃ (hpc i9 ln : Nat), am_HD (am_own m) (am_hh m) pc Ex hpc ∧ i9 < am_ml m ∧ ((∃ f9 : Fin 4, decode (am_cc m) hpc = .ok (.astore_n f9, 1) ∧ (f9 : Nat) = i9 ∧ ln = 1) ∨ (decode (am_cc m) hpc = .ok (.astore i9, 2) ∧ ln = 2)) ∧ am_V m (kc - am_kc j) (ks - am_ks j) (hpc + ln) (am_s1 E i9 aU) [] ρ' h' Q X)) : am_V m kc ks pc E (As.reverse ++ aR a :: st) ρ h Q X := by
  intro l p e R s q args below meth c D cA B b g0 g1 Z H locs cells slots ls hC hZ hR hL hS hF hc hs
  subst hE
  obtain ⟨j1, j2, j3, j4, j5, j6, j7, j8⟩ := id hJ
  have hw := hC.2.2.2.2.2.2.1
  have hfr9 := hC.2.2.2.2.2.2.2.2.2.2.2.2.2.2.2.2.1
  have hlo9 := hC.2.2.2.2.2.2.2.2.2.2.2.2.2.2.2.2.2.1
  have hsum := am_sum B b st
  have hroom := am_room (j := j) hfr9 hlo9 hfr j8
  have hlt := hR.lt hk
  have ha9 := am_w_get (B := B) (cA := cA) (h := h) hk
  rw [am_cellO] at ha9
  have hcell := va_recv hC.2.2.2.2.2.2.2.2.2.2.1 hR.1 hcl ha9
  rw [hq9] at hcell
  have hSs : am_St st := fun w9 hw9 => hS w9 (List.mem_append_right _ (List.mem_cons_of_mem _ hw9))
  have hSa : am_St (aR a :: As) := am_StC trivial (fun w9 hw9 => hS w9 (List.mem_append_left _ (List.mem_reverse.mpr hw9)))
  have hM := am_met (l := l) hC.1 hJ (D := D) (cA := cA) (B := B) (b := b) (g0 := g0) (g1 := g1) h1 h2 hSa k
  have hr := vx_runV (e := e) (below := below) (meth := meth) (As := As.map (am_v B b)) (b := B + a) (H := H) (locs := locs) (cells := cells) (slots := slots) (g := F0 q pc ls ((As.reverse ++ aR a :: st).map (am_v B b))) (rest := st.map (am_v B b)) ⟨hC.2.1, hC.2.2.1, hC.2.2.2.2.1, hC.2.2.2.2.2.1, hw⟩ hM (cwV n hw (am_goodIn (fun w9 hw9 => by
    rcases List.mem_append.mp hw9 with z | z
    · simp only [List.mem_cons, List.mem_nil_iff, or_false] at z
      rcases z with rfl | rfl | rfl | rfl
      · exact hlk.1
      · exact hlk.2.1
      · exact hlk.2.2
      · exact j1
    · rcases List.mem_cons.mp z with rfl | z
      · exact j2
      · exact z)) rfl rfl rfl ⟨rfl, j4.1, j4.2, hn⟩ hroom) ⟨am_FB, hcell, fun U hU hW => ⟨by rw [List.map_cons]; show _ = (Value.ref (am_ad B b a) :: _).toArray; rw [am_adL hlt], hC.G hF hU hW, by rw [hU]; exact hR⟩⟩ rfl (by rw [List.length_map]; exact hAn) hL.1 (by
    show (As.reverse ++ aR a :: st).map (am_v B b) = _
    rw [List.map_append, List.map_cons, List.map_reverse]
    show _ ++ Value.ref (am_ad B b a) :: _ = _
    rw [am_adL hlt]) (lv_room (by omega)) hd ⟨by omega, by omega⟩
  intro T hT Xs
  rcases hr T hT Xs with ⟨v, st₀, t, T', L, h0, X', hLq, e1, e2, ⟨v9, ρ9, h9, q1, q2, q3, q4, q5, q6⟩, stp⟩ | ⟨q9, st₀, t, T', L, Ex, ce, h0, X', hLq, e1, e2, ⟨ρ9, h9, q1, q2, q3⟩, hce, hcv, hcl9, stp⟩
  · cases q1
    obtain ⟨k1, k2, k3⟩ := vx_keep h0 e1 hF (fun _ _ z => z) (fun _ z => z) hLq q6
    rw [← e1] at q5
    obtain ⟨t2, a1, b1⟩ := q3 l p e R s q args below meth c D cA B b g0 g1 Z T'.heap (locs ++ L) (cells + am_kc j) (slots + am_ks j) ls hC hZ q5 hL (am_StA q4 hSs) k3 (by omega) (by omega) T' rfl X'
    rw [← am_goes q2] at a1
    exact ⟨t2, stp t2 a1, b1⟩
  · obtain ⟨k1, k2, k3⟩ := vx_keep h0 e1 hF (fun _ _ z => z) (fun _ z => z) hLq q3
    obtain ⟨hpc, i9, ln, ⟨pre, x, suf, d1, d2, d3, d4, d5, d6, d7, d8, d9⟩, hi9, hdec, hV⟩ := q1
    subst d9
    have htab : c.exceptionTable.toList = tableOf pre ++ ⟨x.1, x.2.1, x.2.2.1, x.2.2.2⟩ :: tableOf suf := by
      rw [hC.2.2.2.2.2.2.2.2.2.2.2.2.2.2.1.resolve_left (fun z9 => by rw [d1] at z9; simp at z9), d1]
      simp [tableOf]
    have hwv : vx_W p l e R s q args below meth c T'.heap (locs ++ L) (cells + am_kc j) (slots + am_ks j) Z (F0 q pc ls (st.map (am_v B b))) q9 := by
      refine vx_catch (name := Ex) hC.2.2.2.2.2.1 _ _ _ htab (fun z hz => ?_) (am_cov d3 d4) d5 (hw _ d6) (va_Nw.use rfl (hC.2.2.2.2.2.2.2.1 _ d7)) (by rw [e1]; exact hce) hcv hcl9 ?_
      · obtain ⟨z9, hz9, rfl⟩ := List.mem_map.mp hz
        obtain ⟨y1, nm, y2, y3, y4⟩ := d2 z9 hz9
        exact Or.inr ⟨y1, nm, hw _ y2, hC.2.2.2.2.2.2.2.2.2.2.2.2.2.2.2.2.2.2.1 Ex d8 nm y3 y4⟩
      · have hgo : ∀ ls2 : Array Slot, lv_has ls2 (am_ml m) ((i9, .ref q9) :: (am_all ls (am_ml m)).filter (fun q => !(q.1 == i9) && !(q.1 + 1 == i9 && q.2.category == 2))) → W p l e R s q args below meth c T'.heap (locs ++ L) (cells + am_kc j) (slots + am_ks j) Z (F0 q (x.2.2.1 + ln) ls2 []) := fun ls2 h2 => hV l p e R s q args below meth c D cA B b g0 g1 Z T'.heap (locs ++ L) (cells + am_kc j) (slots + am_ks j) ls2 hC hZ (by rw [e1]; exact q2) (hL.s0 h2) (fun w9 hw9 => by cases hw9) k3 (by omega) (by omega)
        rcases hdec with ⟨f9, y1, y2, y3⟩ | ⟨y1, y3⟩
        · subst y3
          exact lv_astore_n hC.2.1 hC.2.2.1 y1 y2 (am_all_has hL.1 hL.2.2.1) hi9 rfl hgo
        · subst y3
          exact lv_astore hC.2.1 hC.2.2.1 y1 (am_all_has hL.1 hL.2.2.1) hi9 rfl hgo
    obtain ⟨t2, a1, b1⟩ := hwv T' rfl X'
    exact ⟨t2, stp.trans a1, b1⟩
/-- a method with a table of its own -/
def am_wsW (j : MInfo) : List Cond := .codeWith (am_y j) (am_cc j) (am_ml j) (am_rt j) (am_hh j) :: am_W0
def am_JW (j : MInfo) : Prop := Cond.initialized (am_y j).cls ∈ am_W0 ∧ Cond.codeWith (am_y j) (am_cc j) (am_ml j) (am_rt j) (am_hh j) ∈ am_W0 ∧ plainName (am_y j).cls = true ∧ ((am_y j).cls ≠ "java/lang/invoke/MethodHandle" ∧ (am_y j).cls ≠ "java/lang/invoke/VarHandle") ∧ am_own j = (am_y j).cls ∧ am_law j = false ∧ am_ml j ≤ 60
set_option maxHeartbeats 1000000 in
theorem am_metW {j : MInfo} {l : Launch} (hl : l.stackTraces = false) (hJ : am_JW j) {D : va_G} {cA : Nat → ClassId} {B b : Nat} {g0 g1 : Int → Int} {ρ : Rho} {h : Hh} {Q : PQ} {X : PX} {As : List AV} (h1 : ∀ v ∈ As, am_one v = true) (h2 : As.length ≤ am_ml j) (h3 : am_St As) (hV : am_V j (am_kc j) (am_ks j) 0 (am_E j As) [] ρ h Q X) :
    vx_Met l (am_y j) (am_wsW j) (am_rm j) (am_Pc D cA B b g0 g1 ρ h As) (am_QC D cA B b g0 g1 Q) (am_XC D cA B g0 g1 X) (am_kc j) (am_ks j) (am_A B) := by
  obtain ⟨j1, j2, j3, j4, j5, j6, j8⟩ := hJ
  refine vx_ofWH (cc := am_cc j) (maxL := am_ml j) (ret := am_rt j) (hh := am_hh j) j3 rfl ?_
  intro p e s m args below meth c s₁ B0 hml hv
  obtain ⟨rfl, hG, hHR⟩ := hv
  obtain ⟨G1, G2, G3, G4, G5, G6, G7, G8⟩ := hG
  have hws := atoms_spec (ws := am_wsW j) B0.pre
  have htab : c.exceptionTable.toList = tableOf (am_hh j) := vx_table (x := am_y j) B0 (hws _ List.mem_cons_self)
  rw [lg_entry_eq]
  refine hV l p e (am_rm j) s m _ below meth c D cA B b g0 g1 _ s.heap [] 0 0 _ ⟨hl, B0.exec, B0.bytes, B0.returns, hml, ?_, fun w hw => hws w (List.mem_cons_of_mem _ hw), G1, G2, B0.notSynchronized, G3, G4, G5, G6, Or.inr htab, Or.inr (name_of_methodNamed B0.named B0.method).1, Nat.le_refl _, Nat.le_refl _, G7, G8⟩ (Or.inl ⟨j6, rfl⟩) hHR (am_entry h1 h2 h3) (fun v hv => by cases hv) va_S.rf (by show 0 + am_kc j ≤ am_kc j; omega) (by show 0 + am_ks j ≤ am_ks j; omega)
  · rw [j5]
    exact findClass_of_methodNamed B0.named
set_option maxHeartbeats 1000000 in
theorem v_callSX {m : MInfo} {kc ks pc : Nat} {E st : List AV} {ρ : Rho} {h : Hh} {Q : PQ} {X : PX} {j : MInfo} {idx n : Nat} {As E0 : List AV}  (hd : decode (am_cc m) pc = .ok (.invokestatic idx, 3)) (hlk : Cond.methodLink (am_own m) idx (am_y j) ∈ am_W0 ∧ Cond.static (am_y j) ∈ am_W0) (hJ : am_JW j) (hkc : am_kc j ≤ kc) (hks : am_ks j ≤ ks) (hfr : am_fr j + 1 ≤ am_fr m) (hhh : am_hh m = []) (hst : am_ct st ≤ 8) (h1 : ∀ v ∈ As, am_one v = true) (h2 : (As).length ≤ am_ml j) (hE : am_E j (As) = E0)  (hn : (parseMethodDescriptor (am_y j).desc).map (fun d => d.parameters.length) = some n) (hAn : As.length = n) (k : am_V j (am_kc j) (am_ks j) 0 E0 [] ρ h (fun v ρ' h' => am_V m (kc - am_kc j) (ks - am_ks j) (pc + 3) E (v ++ st) ρ' h' Q X) X) : am_V m kc ks pc E (As.reverse ++ st) ρ h Q X := by
  intro l p e R s q args below meth c D cA B b g0 g1 Z H locs cells slots ls hC hZ hR hL hS hF hc hs
  subst hE
  obtain ⟨j1, j2, j3, j4, j5, j6, j8⟩ := id hJ
  have hw := hC.2.2.2.2.2.2.1
  have hfr9 := hC.2.2.2.2.2.2.2.2.2.2.2.2.2.2.2.2.1
  have hlo9 := hC.2.2.2.2.2.2.2.2.2.2.2.2.2.2.2.2.2.1
  have hsum := am_sum B b st
  have hroom := am_room (j := j) hfr9 hlo9 hfr j8
  have hSs : am_St st := fun w9 hw9 => hS w9 (List.mem_append_right _ hw9)
  have hSa : am_St As := fun w9 hw9 => hS w9 (List.mem_append_left _ (List.mem_reverse.mpr hw9))
  have hM := am_metW (l := l) hC.1 hJ (D := D) (cA := cA) (B := B) (b := b) (g0 := g0) (g1 := g1) h1 h2 hSa k
  refine am_after hC hZ hL hSs hF hc hs hkc hks hhh (a9 := (As.map (am_v B b)).toArray) (vx_runSX (As := As.map (am_v B b)) ⟨hC.2.1, hC.2.2.1, hC.2.2.2.2.1, hC.2.2.2.2.2.1, hw⟩ hM (vx_cwSW n hw (am_goodIn (fun w9 hw9 => by
    rcases List.mem_append.mp hw9 with z | z
    · simp only [List.mem_cons, List.mem_nil_iff, or_false] at z
      rcases z with rfl | rfl | rfl
      · exact hlk.1
      · exact hlk.2
      · exact j1
    · rcases List.mem_cons.mp z with rfl | z
      · exact j2
      · exact z)) rfl rfl rfl ⟨j4.1, j4.2, hn⟩ hroom) ⟨am_FB, fun U hU hW => ⟨rfl, hC.G hF hU hW, by rw [hU]; exact hR⟩⟩ rfl (by rw [List.length_map]; exact hAn) hL.1 ?_ (lv_room (by omega)) hd ⟨by omega, by omega⟩)
  rw [List.map_append, List.map_reverse]
end
section
theorem am_in_0 {w : Cond} (i : Nat) (h : (k2_sels lw_privs)[i]? = some w) : w ∈ lw_tbl := List.mem_append_left _ (List.mem_of_getElem? h)
theorem am_in_1 {w : Cond} (i : Nat) (h : tables_1_1[i]? = some w) : w ∈ lw_tbl := List.mem_append_right _ (show w ∈ tables_1 from List.mem_append_left _ (List.mem_of_getElem? h))
theorem am_in_2 {w : Cond} (i : Nat) (h : tables_1_2[i]? = some w) : w ∈ lw_tbl := List.mem_append_right _ (show w ∈ tables_1 from List.mem_append_right _ (List.mem_append_left _ (List.mem_of_getElem? h)))
theorem am_in_3 {w : Cond} (i : Nat) (h : tables_1_3[i]? = some w) : w ∈ lw_tbl := List.mem_append_right _ (show w ∈ tables_1 from List.mem_append_right _ (List.mem_append_right _ (List.mem_append_left _ (List.mem_of_getElem? h))))
theorem am_in_4 {w : Cond} (i : Nat) (h : tables_1_4[i]? = some w) : w ∈ lw_tbl := List.mem_append_right _ (show w ∈ tables_1 from List.mem_append_right _ (List.mem_append_right _ (List.mem_append_right _ (List.mem_append_left _ (List.mem_of_getElem? h)))))
theorem am_in_5 {w : Cond} (i : Nat) (h : tables_1_5[i]? = some w) : w ∈ lw_tbl := List.mem_append_right _ (show w ∈ tables_1 from List.mem_append_right _ (List.mem_append_right _ (List.mem_append_right _ (List.mem_append_right _ (List.mem_of_getElem? h)))))
theorem am_mem_0 {w : Cond} (i : Nat) (h : (k2_sels lw_privs)[i]? = some w) (g : goodWord w = true) : w ∈ am_W0 := List.mem_filter.mpr ⟨am_in_0 i h, g⟩
theorem am_mem1_0 {w : Cond} (i : Nat) (h : (k2_sels lw_privs)[i]? = some w) (g : am_w1 w = true) : w ∈ am_W1 := List.mem_filter.mpr ⟨am_in_0 i h, g⟩
theorem am_mem_1 {w : Cond} (i : Nat) (h : tables_1_1[i]? = some w) (g : goodWord w = true) : w ∈ am_W0 := List.mem_filter.mpr ⟨am_in_1 i h, g⟩
theorem am_mem1_1 {w : Cond} (i : Nat) (h : tables_1_1[i]? = some w) (g : am_w1 w = true) : w ∈ am_W1 := List.mem_filter.mpr ⟨am_in_1 i h, g⟩
theorem am_mem_2 {w : Cond} (i : Nat) (h : tables_1_2[i]? = some w) (g : goodWord w = true) : w ∈ am_W0 := List.mem_filter.mpr ⟨am_in_2 i h, g⟩
theorem am_mem1_2 {w : Cond} (i : Nat) (h : tables_1_2[i]? = some w) (g : am_w1 w = true) : w ∈ am_W1 := List.mem_filter.mpr ⟨am_in_2 i h, g⟩
theorem am_mem_3 {w : Cond} (i : Nat) (h : tables_1_3[i]? = some w) (g : goodWord w = true) : w ∈ am_W0 := List.mem_filter.mpr ⟨am_in_3 i h, g⟩
theorem am_mem1_3 {w : Cond} (i : Nat) (h : tables_1_3[i]? = some w) (g : am_w1 w = true) : w ∈ am_W1 := List.mem_filter.mpr ⟨am_in_3 i h, g⟩
theorem am_mem_4 {w : Cond} (i : Nat) (h : tables_1_4[i]? = some w) (g : goodWord w = true) : w ∈ am_W0 := List.mem_filter.mpr ⟨am_in_4 i h, g⟩
theorem am_mem1_4 {w : Cond} (i : Nat) (h : tables_1_4[i]? = some w) (g : am_w1 w = true) : w ∈ am_W1 := List.mem_filter.mpr ⟨am_in_4 i h, g⟩
theorem am_mem_5 {w : Cond} (i : Nat) (h : tables_1_5[i]? = some w) (g : goodWord w = true) : w ∈ am_W0 := List.mem_filter.mpr ⟨am_in_5 i h, g⟩
theorem am_mem1_5 {w : Cond} (i : Nat) (h : tables_1_5[i]? = some w) (g : am_w1 w = true) : w ∈ am_W1 := List.mem_filter.mpr ⟨am_in_5 i h, g⟩
theorem am_uws {C : String} {T : u_T} {N : Nat} (h : ∀ k, k < N → u_lay C T k ∈ am_W0) : ∀ w ∈ u_ws C T N, w ∈ am_W0 := by
  intro w hw
  obtain ⟨k, hk, rfl⟩ := List.mem_map.mp hw
  exact h k (List.mem_range.mp hk)
def M_X0_init : MInfo := (RX0, yX0_init, cX0_init, 1, none, 1, 0, 0, 1, [], false)
def M_X0_allCuts_2 : MInfo := (RX0, yX0_allCuts, cX0_allCuts, 5, some .int, 2, 0, 0, 3, [], false)
def M_X0_allCuts_3 : MInfo := (RX0, yX0_allCuts, cX0_allCuts, 5, some .int, 2, 0, 0, 2, [], false)
def M_X0_startOf_2 : MInfo := (RX0, yX0_startOf, cX0_startOf, 6, some .int, 3, 0, 0, 3, [], false)
def M_X0_startOf_3 : MInfo := (RX0, yX0_startOf, cX0_startOf, 6, some .int, 3, 0, 0, 2, [], false)
def M_X1_init : MInfo := (RX1, yX1_init, cX1_init, 1, none, 1, 3, 193, 1, [], false)
def M_X1_sortEnds : MInfo := (RX1, yX1_sortEnds, cX1_sortEnds, 4, none, 2, 0, 0, 4, [], false)
def M_X1_listBySecondHalf : MInfo := (RX1, yX1_listBySecondHalf, cX1_listBySecondHalf, 5, none, 3, 0, 0, 1, [], false)
def M_X1_orderByClass : MInfo := (RX1, yX1_orderByClass, cX1_orderByClass, 5, none, 2, 0, 0, 1, [], false)
def M_X1_numberClasses : MInfo := (RX1, yX1_numberClasses, cX1_numberClasses, 6, some .int, 3, 0, 0, 3, [], false)
def M_X1_areAlike : MInfo := (RX1, yX1_areAlike, cX1_areAlike, 5, some .boolean, 5, 0, 0, 2, [], false)
def M_X1_classBehind : MInfo := (RX1, yX1_classBehind, cX1_classBehind, 3, some .int, 3, 0, 0, 1, [], false)
def M_X1_tellCommons : MInfo := (RX1, yX1_tellCommons, cX1_tellCommons, 6, none, 2, 0, 0, 2, [], false)
def M_X2_init : MInfo := (RX2, yX2_init, cX2_init, 1, none, 1, 1, 65, 2, [], false)
def M_X2_sizeFrom : MInfo := (RX2, yX2_sizeFrom, cX2_sizeFrom, 4, some .int, 3, 0, 0, 2, [], false)
def M_X2_commonWithLowerAhead : MInfo := (RX2, yX2_commonWithLowerAhead, cX2_commonWithLowerAhead, 5, some .int, 3, 0, 0, 1, [], false)
def M_X2_commonWithUpperAhead : MInfo := (RX2, yX2_commonWithUpperAhead, cX2_commonWithUpperAhead, 5, some .int, 3, 0, 0, 1, [], false)
def M_X2_fewestWords : MInfo := (RX2, yX2_fewestWords, cX2_fewestWords, 6, some .int, 2, 0, 0, 3, [], false)
def M_X3_init : MInfo := (RX3, yX3_init, cX3_init, 1, none, 1, 0, 0, 2, [], false)
def M_X3_sizeFrom : MInfo := (RX3, yX3_sizeFrom, cX3_sizeFrom, 5, some .int, 3, 0, 0, 1, [], false)
def M_X3_agreesWith : MInfo := (RX3, yX3_agreesWith, cX3_agreesWith, 6, some .boolean, 2, 0, 0, 2, [], false)
def M_X4_allSquares : MInfo := (RX4, yX4_allSquares, cX4_allSquares, 5, some .int, 1, 0, 0, 1, [], false)
def M_X4_leastPeriod : MInfo := (RX4, yX4_leastPeriod, cX4_leastPeriod, 2, some .int, 1, 0, 0, 2, [], false)
def M_X5_init : MInfo := (RX5, yX5_init, cX5_init, 1, none, 1, 9, 520, 1, [], false)
def M_X6_init : MInfo := (RX6, yX6_init, cX6_init, 1, none, 1, 4, 256, 1, [], false)
def M_X6_add : MInfo := (RX6, yX6_add, cX6_add, 4, none, 3, 0, 0, 1, [], false)
def M_X6_addTurnedRound : MInfo := (RX6, yX6_addTurnedRound, cX6_addTurnedRound, 3, none, 2, 0, 0, 1, [], false)
def M_X6_putAhead : MInfo := (RX6, yX6_putAhead, cX6_putAhead, 3, none, 2, 0, 0, 1, [], false)
def M_X6_dropFirst : MInfo := (RX6, yX6_dropFirst, cX6_dropFirst, 2, none, 1, 0, 0, 1, [], false)
def M_X6_endsAboveWhole : MInfo := (RX6, yX6_endsAboveWhole, cX6_endsAboveWhole, 1, some .int, 1, 0, 0, 1, [], false)
def M_X6_likeSigns : MInfo := (RX6, yX6_likeSigns, cX6_likeSigns, 6, some .int, 4, 0, 0, 1, [], false)
def M_X6_unlikeBeginnings : MInfo := (RX6, yX6_unlikeBeginnings, cX6_unlikeBeginnings, 5, some .int, 3, 0, 0, 1, [], false)
def M_X6_greatestCommon : MInfo := (RX6, yX6_greatestCommon, cX6_greatestCommon, 3, some .int, 1, 0, 0, 1, [], false)
def M_X6_againstWord : MInfo := (RX6, yX6_againstWord, cX6_againstWord, 8, some .int, 4, 0, 0, 1, [], false)
def M_X6_endsBelow : MInfo := (RX6, yX6_endsBelow, cX6_endsBelow, 3, some .int, 3, 0, 0, 3, [], false)
def M_X6_endsUpTo : MInfo := (RX6, yX6_endsUpTo, cX6_endsUpTo, 3, some .int, 3, 0, 0, 3, [], false)
def M_X6_endsUnder : MInfo := (RX6, yX6_endsUnder, cX6_endsUnder, 7, some .int, 4, 0, 0, 2, [], false)
def M_X6_risingPlace : MInfo := (RX6, yX6_risingPlace, cX6_risingPlace, 6, some .int, 4, 0, 0, 1, [], false)
def M_X6_newWordsBelow : MInfo := (RX6, yX6_newWordsBelow, cX6_newWordsBelow, 4, some .int, 2, 0, 0, 1, [], false)
def M_X6_rankBringing : MInfo := (RX6, yX6_rankBringing, cX6_rankBringing, 4, some .int, 2, 0, 0, 1, [], false)
def M_X6_firstPlaceOfLongestTwice : MInfo := (RX6, yX6_firstPlaceOfLongestTwice, cX6_firstPlaceOfLongestTwice, 4, some .int, 1, 0, 0, 2, [], false)
def M_X6_placeOfRow : MInfo := (RX6, yX6_placeOfRow, cX6_placeOfRow, 2, some .int, 2, 0, 0, 1, [], false)
def M_X6_firstSign : MInfo := (RX6, yX6_firstSign, cX6_firstSign, 2, some .char, 2, 0, 0, 1, [], false)
def M_X6_lastSign : MInfo := (RX6, yX6_lastSign, cX6_lastSign, 3, some .char, 2, 0, 0, 2, [], false)
def M_X6_rowAhead : MInfo := (RX6, yX6_rowAhead, cX6_rowAhead, 3, some .int, 2, 0, 0, 2, [], false)
def M_X7_init : MInfo := (RX7, yX7_init, cX7_init, 1, none, 1, 5, 249, 1, [], false)
def M_X7_indexOfSign : MInfo := (RX7, yX7_indexOfSign, cX7_indexOfSign, 1, some .int, 1, 0, 0, 2, [], false)
def M_X7_turnBack : MInfo := (RX7, yX7_turnBack, cX7_turnBack, 5, some .boolean, 3, 0, 0, 4, [], false)
def M_X7_endSigns : MInfo := (RX7, yX7_endSigns, cX7_endSigns, 5, some .int, 3, 0, 0, 1, [], false)
def M_X7_tellRowsAhead : MInfo := (RX7, yX7_tellRowsAhead, cX7_tellRowsAhead, 5, none, 3, 0, 0, 3, [], false)
def M_X7_comesBack : MInfo := (RX7, yX7_comesBack, cX7_comesBack, 4, some .boolean, 2, 0, 0, 5, [], false)
def M_X8_init : MInfo := (RX8, yX8_init, cX8_init, 1, none, 1, 1, 65, 1, [], false)
def M_X8_put : MInfo := (RX8, yX8_put, cX8_put, 2, none, 2, 0, 0, 1, [], false)
def M_X8_hold : MInfo := (RX8, yX8_hold, cX8_hold, 5, none, 4, 0, 0, 2, [], false)
def M_X8_hasEndSign : MInfo := (RX8, yX8_hasEndSign, cX8_hasEndSign, 2, some .boolean, 1, 0, 0, 1, [], false)
def M_X9_init : MInfo := (RX9, yX9_init, cX9_init, 1, none, 1, 3, 6243, 1, [], false)
def M_X9_agreesWith : MInfo := (RX9, yX9_agreesWith, cX9_agreesWith, 2, some .boolean, 2, 0, 0, 3, [], false)
def M_X9_listWords : MInfo := (RX9, yX9_listWords, cX9_listWords, 6, none, 2, 0, 0, 2, [], false)
def M_X9_nodeBelow : MInfo := (RX9, yX9_nodeBelow, cX9_nodeBelow, 5, some .int, 3, 0, 0, 1, [], false)
def M_X9_addBelow : MInfo := (RX9, yX9_addBelow, cX9_addBelow, 4, some .int, 3, 0, 0, 1, [], false)
def M_X10_init : MInfo := (RX10, yX10_init, cX10_init, 2, none, 1, 71, 9458, 3, [], false)
def M_X10_type : MInfo := (RX10, yX10_type, cX10_type, 2, some .int, 2, 1, 6, 6, [], false)
def M_X10_wipe : MInfo := (RX10, yX10_wipe, cX10_wipe, 2, some .int, 1, 0, 0, 1, [], false)
def M_X10_typed : MInfo := (RX10, yX10_typed, cX10_typed, 2, some .char, 2, 1, 6, 6, [], false)
def M_X10_text : MInfo := (RX10, yX10_text, cX10_text, 2, some .int, 1, 2, 12, 7, [], false)
def M_X10_length : MInfo := (RX10, yX10_length, cX10_length, 2, some .int, 2, 1, 6, 7, [], false)
def M_X10_signAt : MInfo := (RX10, yX10_signAt, cX10_signAt, 3, some .char, 3, 2, 12, 8, [], false)
def M_X10_mirror : MInfo := (RX10, yX10_mirror, cX10_mirror, 4, some .int, 2, 2, 12, 7, [], false)
def M_X10_ahead : MInfo := (RX10, yX10_ahead, cX10_ahead, 4, some .int, 3, 2, 12, 7, [], false)
def M_X10_chop : MInfo := (RX10, yX10_chop, cX10_chop, 4, some .int, 2, 2, 12, 8, [], false)
def M_X10_endAt : MInfo := (RX10, yX10_endAt, cX10_endAt, 3, some .int, 3, 2, 12, 8, [], false)
def M_X10_rankOf : MInfo := (RX10, yX10_rankOf, cX10_rankOf, 3, some .int, 3, 2, 12, 8, [], false)
def M_X10_classes : MInfo := (RX10, yX10_classes, cX10_classes, 4, some .int, 3, 2, 12, 7, [], false)
def M_X10_rounds : MInfo := (RX10, yX10_rounds, cX10_rounds, 6, some .int, 2, 1, 6, 7, [], false)
def M_X10_common : MInfo := (RX10, yX10_common, cX10_common, 3, some .int, 3, 2, 12, 8, [], false)
def M_X10_shared : MInfo := (RX10, yX10_shared, cX10_shared, 7, some .int, 5, 4, 24, 8, [], false)
def M_X10_count : MInfo := (RX10, yX10_count, cX10_count, 3, some .int, 2, 2, 12, 7, [], false)
def M_X10_runFrom : MInfo := (RX10, yX10_runFrom, cX10_runFrom, 3, some .int, 2, 3, 18, 7, [], false)
def M_X10_standsAt : MInfo := (RX10, yX10_standsAt, cX10_standsAt, 6, some .int, 3, 3, 18, 7, [], false)
def M_X10_tail : MInfo := (RX10, yX10_tail, cX10_tail, 5, some .int, 3, 3, 18, 7, [], false)
def M_X10_words : MInfo := (RX10, yX10_words, cX10_words, 3, some .long, 2, 1, 6, 7, [], false)
def M_X10_word : MInfo := (RX10, yX10_word, cX10_word, 6, some .int, 3, 2, 12, 7, [], false)
def M_X10_numberOf : MInfo := (RX10, yX10_numberOf, cX10_numberOf, 4, some .int, 2, 3, 18, 7, [], false)
def M_X10_twice : MInfo := (RX10, yX10_twice, cX10_twice, 2, some .int, 2, 1, 6, 7, [], false)
def M_X10_twiceAt : MInfo := (RX10, yX10_twiceAt, cX10_twiceAt, 3, some .int, 2, 2, 12, 7, [], false)
def M_X10_first : MInfo := (RX10, yX10_first, cX10_first, 3, some .char, 3, 2, 12, 8, [], false)
def M_X10_last : MInfo := (RX10, yX10_last, cX10_last, 3, some .char, 3, 2, 12, 8, [], false)
def M_X10_back : MInfo := (RX10, yX10_back, cX10_back, 3, some .int, 3, 2, 12, 8, [], false)
def M_X10_column : MInfo := (RX10, yX10_column, cX10_column, 4, some .int, 2, 1, 6, 7, [], false)
def M_X10_undo : MInfo := (RX10, yX10_undo, cX10_undo, 2, some .int, 1, 2, 12, 7, [], false)
def M_X10_squares : MInfo := (RX10, yX10_squares, cX10_squares, 2, some .int, 2, 1, 6, 7, [], false)
def M_X10_period : MInfo := (RX10, yX10_period, cX10_period, 2, some .int, 2, 2, 12, 8, [], false)
def M_X10_parts : MInfo := (RX10, yX10_parts, cX10_parts, 2, some .int, 2, 1, 6, 7, [], false)
def M_X10_partAt : MInfo := (RX10, yX10_partAt, cX10_partAt, 4, some .int, 3, 2, 12, 7, [], false)
def M_X10_pieces : MInfo := (RX10, yX10_pieces, cX10_pieces, 2, some .int, 2, 1, 6, 7, [], false)
def M_X10_fewest : MInfo := (RX10, yX10_fewest, cX10_fewest, 2, some .int, 2, 1, 6, 7, [], false)
def M_X10_checksum : MInfo := (RX10, yX10_checksum, cX10_checksum, 6, some .long, 1, 0, 0, 1, [], false)
def M_X10_isSound : MInfo := (RX10, yX10_isSound, cX10_isSound, 4, some .boolean, 1, 0, 0, 6, [], false)
def M_X10_isLetter : MInfo := (RX10, yX10_isLetter, cX10_isLetter, 1, some .boolean, 1, 0, 0, 1, [], false)
def M_X10_isTypable : MInfo := (RX10, yX10_isTypable, cX10_isTypable, 1, some .boolean, 1, 0, 0, 2, [], false)
def M_X10_known : MInfo := (RX10, yX10_known, cX10_known, 2, some (.object "Suffixshelf$Text"), 2, 1, 6, 6, [], false)
def M_X10_knownWith : MInfo := (RX10, yX10_knownWith, cX10_knownWith, 4, some (.object "Suffixshelf$Text"), 3, 2, 12, 7, [], false)
def M_X10_knownWithRow : MInfo := (RX10, yX10_knownWithRow, cX10_knownWithRow, 4, some (.object "Suffixshelf$Text"), 3, 2, 12, 7, [], false)
def M_X10_knownNotEmpty : MInfo := (RX10, yX10_knownNotEmpty, cX10_knownNotEmpty, 3, some (.object "Suffixshelf$Text"), 2, 2, 12, 7, [], false)
def M_X10_refuseClassSize : MInfo := (RX10, yX10_refuseClassSize, cX10_refuseClassSize, 2, none, 2, 1, 6, 6, [], false)
def M_X10_refuseNoWord : MInfo := (RX10, yX10_refuseNoWord, cX10_refuseNoWord, 1, none, 1, 1, 6, 6, [], false)
def M_X10_leastRank : MInfo := (RX10, yX10_leastRank, cX10_leastRank, 3, some .int, 2, 1, 6, 6, [], false)
def M_X10_freshText : MInfo := (RX10, yX10_freshText, cX10_freshText, 1, some (.object "Suffixshelf$Text"), 1, 1, 6, 6, [], false)
def M_X10_keep : MInfo := (RX10, yX10_keep, cX10_keep, 2, some .int, 2, 0, 0, 5, [], false)
def M_L_cell : MInfo := (RL, yL_cell, cL_cell, 7, some .int, 2, 0, 0, 1, [], false)
def M_L_chosen : MInfo := (RL, yL_chosen, cL_chosen, 2, some .int, 2, 0, 0, 1, [], false)
def M_L_type : MInfo := (RL, yL_type, cL_type, 3, some .long, 2, 1, 6, 7, [(0, 6, 7, 17), (0, 6, 12, 23)], false)
def M_L_wipe : MInfo := (RL, yL_wipe, cL_wipe, 1, some .long, 1, 0, 0, 2, [], false)
def M_L_typed : MInfo := (RL, yL_typed, cL_typed, 3, some .long, 2, 1, 6, 7, [(0, 6, 7, 35)], false)
def M_L_text : MInfo := (RL, yL_text, cL_text, 2, some .long, 1, 2, 12, 8, [(0, 5, 6, 40), (0, 5, 11, 23)], false)
def M_L_length : MInfo := (RL, yL_length, cL_length, 3, some .long, 2, 1, 6, 8, [(0, 6, 7, 46)], false)
def M_L_signAt : MInfo := (RL, yL_signAt, cL_signAt, 4, some .long, 3, 2, 12, 9, [(0, 7, 8, 46)], false)
def M_L_mirror : MInfo := (RL, yL_mirror, cL_mirror, 3, some .long, 2, 2, 12, 8, [(0, 6, 7, 46), (0, 6, 12, 23)], false)
def M_L_ahead : MInfo := (RL, yL_ahead, cL_ahead, 4, some .long, 3, 2, 12, 8, [(0, 7, 8, 46), (0, 7, 13, 17), (0, 7, 18, 23)], false)
def M_L_chop : MInfo := (RL, yL_chop, cL_chop, 3, some .long, 2, 2, 12, 9, [(0, 6, 7, 46), (0, 6, 12, 35)], false)
def M_L_endAt : MInfo := (RL, yL_endAt, cL_endAt, 4, some .long, 3, 2, 12, 9, [(0, 7, 8, 46)], false)
def M_L_rankOf : MInfo := (RL, yL_rankOf, cL_rankOf, 4, some .long, 3, 2, 12, 9, [(0, 7, 8, 46)], false)
def M_L_classes : MInfo := (RL, yL_classes, cL_classes, 4, some .long, 3, 2, 12, 8, [(0, 7, 8, 46), (0, 7, 13, 17)], false)
def M_L_rounds : MInfo := (RL, yL_rounds, cL_rounds, 3, some .long, 2, 1, 6, 8, [(0, 6, 7, 46)], false)
def M_L_common : MInfo := (RL, yL_common, cL_common, 4, some .long, 3, 2, 12, 9, [(0, 7, 8, 46)], false)
def M_L_shared : MInfo := (RL, yL_shared, cL_shared, 6, some .long, 5, 4, 24, 9, [(0, 10, 11, 46)], false)
def M_L_count : MInfo := (RL, yL_count, cL_count, 3, some .long, 2, 2, 12, 8, [(0, 6, 7, 46), (0, 6, 12, 40)], false)
def M_L_runFrom : MInfo := (RL, yL_runFrom, cL_runFrom, 3, some .long, 2, 3, 18, 8, [(0, 6, 7, 46), (0, 6, 12, 40), (0, 6, 17, 35)], false)
def M_L_standsAt : MInfo := (RL, yL_standsAt, cL_standsAt, 4, some .long, 3, 3, 18, 8, [(0, 7, 8, 46), (0, 7, 13, 40), (0, 7, 18, 35)], false)
def M_L_tail : MInfo := (RL, yL_tail, cL_tail, 4, some .long, 3, 3, 18, 8, [(0, 7, 8, 46), (0, 7, 13, 40), (0, 7, 18, 17)], false)
def M_L_words : MInfo := (RL, yL_words, cL_words, 3, some .long, 2, 1, 6, 8, [(0, 5, 6, 46)], false)
def M_L_word : MInfo := (RL, yL_word, cL_word, 4, some .long, 3, 2, 12, 8, [(0, 7, 8, 46), (0, 7, 13, 35)], false)
def M_L_numberOf : MInfo := (RL, yL_numberOf, cL_numberOf, 3, some .long, 2, 3, 18, 8, [(0, 6, 7, 46), (0, 6, 12, 40), (0, 6, 17, 35)], false)
def M_L_twice : MInfo := (RL, yL_twice, cL_twice, 3, some .long, 2, 1, 6, 8, [(0, 6, 7, 46)], false)
def M_L_twiceAt : MInfo := (RL, yL_twiceAt, cL_twiceAt, 3, some .long, 2, 2, 12, 8, [(0, 6, 7, 46), (0, 6, 12, 35)], false)
def M_L_first : MInfo := (RL, yL_first, cL_first, 4, some .long, 3, 2, 12, 9, [(0, 7, 8, 46)], false)
def M_L_last : MInfo := (RL, yL_last, cL_last, 4, some .long, 3, 2, 12, 9, [(0, 7, 8, 46)], false)
def M_L_back : MInfo := (RL, yL_back, cL_back, 4, some .long, 3, 2, 12, 9, [(0, 7, 8, 46)], false)
def M_L_column : MInfo := (RL, yL_column, cL_column, 3, some .long, 2, 1, 6, 8, [(0, 6, 7, 46)], false)
def M_L_undo : MInfo := (RL, yL_undo, cL_undo, 2, some .long, 1, 2, 12, 8, [(0, 5, 6, 40), (0, 5, 11, 23)], false)
def M_L_squares : MInfo := (RL, yL_squares, cL_squares, 3, some .long, 2, 1, 6, 8, [(0, 6, 7, 46)], false)
def M_L_period : MInfo := (RL, yL_period, cL_period, 3, some .long, 2, 2, 12, 9, [(0, 6, 7, 46), (0, 6, 12, 35)], false)
def M_L_parts : MInfo := (RL, yL_parts, cL_parts, 3, some .long, 2, 1, 6, 8, [(0, 6, 7, 46)], false)
def M_L_partAt : MInfo := (RL, yL_partAt, cL_partAt, 4, some .long, 3, 2, 12, 8, [(0, 7, 8, 46)], false)
def M_L_pieces : MInfo := (RL, yL_pieces, cL_pieces, 3, some .long, 2, 1, 6, 8, [(0, 6, 7, 46)], false)
def M_L_fewest : MInfo := (RL, yL_fewest, cL_fewest, 3, some .long, 2, 1, 6, 8, [(0, 6, 7, 46)], false)
def M_L_checksum : MInfo := (RL, yL_checksum, cL_checksum, 1, some .long, 1, 0, 0, 2, [], false)
def M_L_isSound : MInfo := (RL, yL_isSound, cL_isSound, 1, some .long, 1, 0, 0, 7, [], false)
def M_L_size : MInfo := (RL, yL_size, cL_size, 1, some .int, 1, 0, 0, 2, [], false)
def M_L_signs : MInfo := (RL, yL_signs, cL_signs, 6, some (.array .char), 1, 1, 64, 3, [], false)
def M_L_tells : MInfo := (RL, yL_tells, cL_tells, 6, some .int, 2, 400, 2400, 9, [], false)
def M_L_comesBack : MInfo := (RL, yL_comesBack, cL_comesBack, 10, some .boolean, 3, 4002, 24300, 10, [], false)
def M_L_isRun : MInfo := (RL, yL_isRun, cL_isRun, 17, some .boolean, 5, 2000, 12000, 10, [], false)
def M_L_law : MInfo := (RL, yL_law, cL_law, 16, some .boolean, 1, 95, 570, 11, [], true)
theorem ini_X0 : Cond.initialized RX0 ∈ am_W0 := am_mem_1 7 (by decide +kernel) rfl
theorem ini_X1 : Cond.initialized RX1 ∈ am_W0 := am_mem_1 3 (by decide +kernel) rfl
theorem ini_X2 : Cond.initialized RX2 ∈ am_W0 := am_mem_1 9 (by decide +kernel) rfl
theorem ini_X3 : Cond.initialized RX3 ∈ am_W0 := am_mem_1 8 (by decide +kernel) rfl
theorem ini_X4 : Cond.initialized RX4 ∈ am_W0 := am_mem_1 22 (by decide +kernel) rfl
theorem ini_X5 : Cond.initialized RX5 ∈ am_W0 := am_mem_1 5 (by decide +kernel) rfl
theorem ini_X6 : Cond.initialized RX6 ∈ am_W0 := am_mem_1 10 (by decide +kernel) rfl
theorem ini_X7 : Cond.initialized RX7 ∈ am_W0 := am_mem_1 4 (by decide +kernel) rfl
theorem ini_X8 : Cond.initialized RX8 ∈ am_W0 := am_mem_1 2 (by decide +kernel) rfl
theorem ini_X9 : Cond.initialized RX9 ∈ am_W0 := am_mem_1 6 (by decide +kernel) rfl
theorem ini_X10 : Cond.initialized RX10 ∈ am_W0 := am_mem_1 1 (by decide +kernel) rfl
theorem ini_L : Cond.initialized RL ∈ am_W0 := am_mem_1 0 (by decide +kernel) rfl
theorem ini_M : Cond.initialized "java/lang/Math" ∈ am_W0 := am_mem_1 17 (by decide +kernel) rfl
theorem J_X0_init : am_J M_X0_init := ⟨ini_X0, am_mem_1 136 (by decide +kernel) rfl, by decide, ⟨by decide, by decide⟩, rfl, rfl, rfl, by decide⟩
theorem J_X0_allCuts_2 : am_J M_X0_allCuts_2 := ⟨ini_X0, am_mem_3 122 (by decide +kernel) rfl, by decide, ⟨by decide, by decide⟩, rfl, rfl, rfl, by decide⟩
theorem J_X0_allCuts_3 : am_J M_X0_allCuts_3 := ⟨ini_X0, am_mem_3 122 (by decide +kernel) rfl, by decide, ⟨by decide, by decide⟩, rfl, rfl, rfl, by decide⟩
theorem J_X0_startOf_2 : am_J M_X0_startOf_2 := ⟨ini_X0, am_mem_3 155 (by decide +kernel) rfl, by decide, ⟨by decide, by decide⟩, rfl, rfl, rfl, by decide⟩
theorem J_X0_startOf_3 : am_J M_X0_startOf_3 := ⟨ini_X0, am_mem_3 155 (by decide +kernel) rfl, by decide, ⟨by decide, by decide⟩, rfl, rfl, rfl, by decide⟩
theorem J_X1_init : am_J M_X1_init := ⟨ini_X1, am_mem_1 55 (by decide +kernel) rfl, by decide, ⟨by decide, by decide⟩, rfl, rfl, rfl, by decide⟩
theorem J_X1_sortEnds : am_J M_X1_sortEnds := ⟨ini_X1, am_mem_2 130 (by decide +kernel) rfl, by decide, ⟨by decide, by decide⟩, rfl, rfl, rfl, by decide⟩
theorem J_X1_listBySecondHalf : am_J M_X1_listBySecondHalf := ⟨ini_X1, am_mem_2 150 (by decide +kernel) rfl, by decide, ⟨by decide, by decide⟩, rfl, rfl, rfl, by decide⟩
theorem J_X1_orderByClass : am_J M_X1_orderByClass := ⟨ini_X1, am_mem_2 134 (by decide +kernel) rfl, by decide, ⟨by decide, by decide⟩, rfl, rfl, rfl, by decide⟩
theorem J_X1_numberClasses : am_J M_X1_numberClasses := ⟨ini_X1, am_mem_2 138 (by decide +kernel) rfl, by decide, ⟨by decide, by decide⟩, rfl, rfl, rfl, by decide⟩
theorem J_X1_areAlike : am_J M_X1_areAlike := ⟨ini_X1, am_mem_2 142 (by decide +kernel) rfl, by decide, ⟨by decide, by decide⟩, rfl, rfl, rfl, by decide⟩
theorem J_X1_classBehind : am_J M_X1_classBehind := ⟨ini_X1, am_mem_2 146 (by decide +kernel) rfl, by decide, ⟨by decide, by decide⟩, rfl, rfl, rfl, by decide⟩
theorem J_X1_tellCommons : am_J M_X1_tellCommons := ⟨ini_X1, am_mem_2 154 (by decide +kernel) rfl, by decide, ⟨by decide, by decide⟩, rfl, rfl, rfl, by decide⟩
theorem J_X2_init : am_J M_X2_init := ⟨ini_X2, am_mem_1 143 (by decide +kernel) rfl, by decide, ⟨by decide, by decide⟩, rfl, rfl, rfl, by decide⟩
theorem J_X2_sizeFrom : am_J M_X2_sizeFrom := ⟨ini_X2, am_mem_3 128 (by decide +kernel) rfl, by decide, ⟨by decide, by decide⟩, rfl, rfl, rfl, by decide⟩
theorem J_X2_commonWithLowerAhead : am_J M_X2_commonWithLowerAhead := ⟨ini_X2, am_mem_3 132 (by decide +kernel) rfl, by decide, ⟨by decide, by decide⟩, rfl, rfl, rfl, by decide⟩
theorem J_X2_commonWithUpperAhead : am_J M_X2_commonWithUpperAhead := ⟨ini_X2, am_mem_3 138 (by decide +kernel) rfl, by decide, ⟨by decide, by decide⟩, rfl, rfl, rfl, by decide⟩
theorem J_X2_fewestWords : am_J M_X2_fewestWords := ⟨ini_X2, am_mem_3 176 (by decide +kernel) rfl, by decide, ⟨by decide, by decide⟩, rfl, rfl, rfl, by decide⟩
theorem J_X3_init : am_J M_X3_init := ⟨ini_X3, am_mem_1 133 (by decide +kernel) rfl, by decide, ⟨by decide, by decide⟩, rfl, rfl, rfl, by decide⟩
theorem J_X3_sizeFrom : am_J M_X3_sizeFrom := ⟨ini_X3, am_mem_3 141 (by decide +kernel) rfl, by decide, ⟨by decide, by decide⟩, rfl, rfl, rfl, by decide⟩
theorem J_X3_agreesWith : am_J M_X3_agreesWith := ⟨ini_X3, am_mem_4 8 (by decide +kernel) rfl, by decide, ⟨by decide, by decide⟩, rfl, rfl, rfl, by decide⟩
theorem J_X4_allSquares : am_J M_X4_allSquares := ⟨ini_X4, am_mem_3 98 (by decide +kernel) rfl, by decide, ⟨by decide, by decide⟩, rfl, rfl, rfl, by decide⟩
theorem J_X4_leastPeriod : am_J M_X4_leastPeriod := ⟨ini_X4, am_mem_3 108 (by decide +kernel) rfl, by decide, ⟨by decide, by decide⟩, rfl, rfl, rfl, by decide⟩
theorem J_X5_init : am_J M_X5_init := ⟨ini_X5, am_mem_1 95 (by decide +kernel) rfl, by decide, ⟨by decide, by decide⟩, rfl, rfl, rfl, by decide⟩
theorem J_X6_init : am_J M_X6_init := ⟨ini_X6, am_mem_1 152 (by decide +kernel) rfl, by decide, ⟨by decide, by decide⟩, rfl, rfl, rfl, by decide⟩
theorem J_X6_add : am_J M_X6_add := ⟨ini_X6, am_mem_4 72 (by decide +kernel) rfl, by decide, ⟨by decide, by decide⟩, rfl, rfl, rfl, by decide⟩
theorem J_X6_addTurnedRound : am_J M_X6_addTurnedRound := ⟨ini_X6, am_mem_2 122 (by decide +kernel) rfl, by decide, ⟨by decide, by decide⟩, rfl, rfl, rfl, by decide⟩
theorem J_X6_putAhead : am_J M_X6_putAhead := ⟨ini_X6, am_mem_2 198 (by decide +kernel) rfl, by decide, ⟨by decide, by decide⟩, rfl, rfl, rfl, by decide⟩
theorem J_X6_dropFirst : am_J M_X6_dropFirst := ⟨ini_X6, am_mem_2 235 (by decide +kernel) rfl, by decide, ⟨by decide, by decide⟩, rfl, rfl, rfl, by decide⟩
theorem J_X6_endsAboveWhole : am_J M_X6_endsAboveWhole := ⟨ini_X6, am_mem_2 202 (by decide +kernel) rfl, by decide, ⟨by decide, by decide⟩, rfl, rfl, rfl, by decide⟩
theorem J_X6_likeSigns : am_J M_X6_likeSigns := ⟨ini_X6, am_mem_2 161 (by decide +kernel) rfl, by decide, ⟨by decide, by decide⟩, rfl, rfl, rfl, by decide⟩
theorem J_X6_unlikeBeginnings : am_J M_X6_unlikeBeginnings := ⟨ini_X6, am_mem_3 30 (by decide +kernel) rfl, by decide, ⟨by decide, by decide⟩, rfl, rfl, rfl, by decide⟩
theorem J_X6_greatestCommon : am_J M_X6_greatestCommon := ⟨ini_X6, am_mem_3 41 (by decide +kernel) rfl, by decide, ⟨by decide, by decide⟩, rfl, rfl, rfl, by decide⟩
theorem J_X6_againstWord : am_J M_X6_againstWord := ⟨ini_X6, am_mem_4 173 (by decide +kernel) rfl, by decide, ⟨by decide, by decide⟩, rfl, rfl, rfl, by decide⟩
theorem J_X6_endsBelow : am_J M_X6_endsBelow := ⟨ini_X6, am_mem_4 177 (by decide +kernel) rfl, by decide, ⟨by decide, by decide⟩, rfl, rfl, rfl, by decide⟩
theorem J_X6_endsUpTo : am_J M_X6_endsUpTo := ⟨ini_X6, am_mem_4 165 (by decide +kernel) rfl, by decide, ⟨by decide, by decide⟩, rfl, rfl, rfl, by decide⟩
theorem J_X6_endsUnder : am_J M_X6_endsUnder := ⟨ini_X6, am_mem_4 169 (by decide +kernel) rfl, by decide, ⟨by decide, by decide⟩, rfl, rfl, rfl, by decide⟩
theorem J_X6_risingPlace : am_J M_X6_risingPlace := ⟨ini_X6, am_mem_4 208 (by decide +kernel) rfl, by decide, ⟨by decide, by decide⟩, rfl, rfl, rfl, by decide⟩
theorem J_X6_newWordsBelow : am_J M_X6_newWordsBelow := ⟨ini_X6, am_mem_3 68 (by decide +kernel) rfl, by decide, ⟨by decide, by decide⟩, rfl, rfl, rfl, by decide⟩
theorem J_X6_rankBringing : am_J M_X6_rankBringing := ⟨ini_X6, am_mem_4 228 (by decide +kernel) rfl, by decide, ⟨by decide, by decide⟩, rfl, rfl, rfl, by decide⟩
theorem J_X6_firstPlaceOfLongestTwice : am_J M_X6_firstPlaceOfLongestTwice := ⟨ini_X6, am_mem_3 87 (by decide +kernel) rfl, by decide, ⟨by decide, by decide⟩, rfl, rfl, rfl, by decide⟩
theorem J_X6_placeOfRow : am_J M_X6_placeOfRow := ⟨ini_X6, am_mem_3 205 (by decide +kernel) rfl, by decide, ⟨by decide, by decide⟩, rfl, rfl, rfl, by decide⟩
theorem J_X6_firstSign : am_J M_X6_firstSign := ⟨ini_X6, am_mem_4 114 (by decide +kernel) rfl, by decide, ⟨by decide, by decide⟩, rfl, rfl, rfl, by decide⟩
theorem J_X6_lastSign : am_J M_X6_lastSign := ⟨ini_X6, am_mem_3 201 (by decide +kernel) rfl, by decide, ⟨by decide, by decide⟩, rfl, rfl, rfl, by decide⟩
theorem J_X6_rowAhead : am_J M_X6_rowAhead := ⟨ini_X6, am_mem_3 225 (by decide +kernel) rfl, by decide, ⟨by decide, by decide⟩, rfl, rfl, rfl, by decide⟩
theorem J_X7_init : am_J M_X7_init := ⟨ini_X7, am_mem_1 72 (by decide +kernel) rfl, by decide, ⟨by decide, by decide⟩, rfl, rfl, rfl, by decide⟩
theorem J_X7_indexOfSign : am_J M_X7_indexOfSign := ⟨ini_X7, am_mem_3 220 (by decide +kernel) rfl, by decide, ⟨by decide, by decide⟩, rfl, rfl, rfl, by decide⟩
theorem J_X7_turnBack : am_J M_X7_turnBack := ⟨ini_X7, am_mem_3 209 (by decide +kernel) rfl, by decide, ⟨by decide, by decide⟩, rfl, rfl, rfl, by decide⟩
theorem J_X7_endSigns : am_J M_X7_endSigns := ⟨ini_X7, am_mem_3 213 (by decide +kernel) rfl, by decide, ⟨by decide, by decide⟩, rfl, rfl, rfl, by decide⟩
theorem J_X7_tellRowsAhead : am_J M_X7_tellRowsAhead := ⟨ini_X7, am_mem_3 217 (by decide +kernel) rfl, by decide, ⟨by decide, by decide⟩, rfl, rfl, rfl, by decide⟩
theorem J_X7_comesBack : am_J M_X7_comesBack := ⟨ini_X7, am_mem_3 197 (by decide +kernel) rfl, by decide, ⟨by decide, by decide⟩, rfl, rfl, rfl, by decide⟩
theorem J_X8_init : am_J M_X8_init := ⟨ini_X8, am_mem_1 37 (by decide +kernel) rfl, by decide, ⟨by decide, by decide⟩, rfl, rfl, rfl, by decide⟩
theorem J_X8_put : am_J M_X8_put := ⟨ini_X8, am_mem_4 40 (by decide +kernel) rfl, by decide, ⟨by decide, by decide⟩, rfl, rfl, rfl, by decide⟩
theorem J_X8_hold : am_J M_X8_hold := ⟨ini_X8, am_mem_4 232 (by decide +kernel) rfl, by decide, ⟨by decide, by decide⟩, rfl, rfl, rfl, by decide⟩
theorem J_X8_hasEndSign : am_J M_X8_hasEndSign := ⟨ini_X8, am_mem_4 52 (by decide +kernel) rfl, by decide, ⟨by decide, by decide⟩, rfl, rfl, rfl, by decide⟩
theorem J_X9_init : am_J M_X9_init := ⟨ini_X9, am_mem_1 111 (by decide +kernel) rfl, by decide, ⟨by decide, by decide⟩, rfl, rfl, rfl, by decide⟩
theorem J_X9_agreesWith : am_J M_X9_agreesWith := ⟨ini_X9, am_mem_3 229 (by decide +kernel) rfl, by decide, ⟨by decide, by decide⟩, rfl, rfl, rfl, by decide⟩
theorem J_X9_listWords : am_J M_X9_listWords := ⟨ini_X9, am_mem_3 233 (by decide +kernel) rfl, by decide, ⟨by decide, by decide⟩, rfl, rfl, rfl, by decide⟩
theorem J_X9_nodeBelow : am_J M_X9_nodeBelow := ⟨ini_X9, am_mem_3 237 (by decide +kernel) rfl, by decide, ⟨by decide, by decide⟩, rfl, rfl, rfl, by decide⟩
theorem J_X9_addBelow : am_J M_X9_addBelow := ⟨ini_X9, am_mem_4 1 (by decide +kernel) rfl, by decide, ⟨by decide, by decide⟩, rfl, rfl, rfl, by decide⟩
theorem J_X10_init : am_J M_X10_init := ⟨ini_X10, am_mem_1 27 (by decide +kernel) rfl, by decide, ⟨by decide, by decide⟩, rfl, rfl, rfl, by decide⟩
theorem J_X10_type : am_J M_X10_type := ⟨ini_X10, am_mem_4 32 (by decide +kernel) rfl, by decide, ⟨by decide, by decide⟩, rfl, rfl, rfl, by decide⟩
theorem J_X10_wipe : am_J M_X10_wipe := ⟨ini_X10, am_mem_4 25 (by decide +kernel) rfl, by decide, ⟨by decide, by decide⟩, rfl, rfl, rfl, by decide⟩
theorem J_X10_typed : am_J M_X10_typed := ⟨ini_X10, am_mem_4 90 (by decide +kernel) rfl, by decide, ⟨by decide, by decide⟩, rfl, rfl, rfl, by decide⟩
theorem J_X10_text : am_J M_X10_text := ⟨ini_X10, am_mem_4 48 (by decide +kernel) rfl, by decide, ⟨by decide, by decide⟩, rfl, rfl, rfl, by decide⟩
theorem J_X10_length : am_J M_X10_length := ⟨ini_X10, am_mem_4 138 (by decide +kernel) rfl, by decide, ⟨by decide, by decide⟩, rfl, rfl, rfl, by decide⟩
theorem J_X10_signAt : am_J M_X10_signAt := ⟨ini_X10, am_mem_4 145 (by decide +kernel) rfl, by decide, ⟨by decide, by decide⟩, rfl, rfl, rfl, by decide⟩
theorem J_X10_mirror : am_J M_X10_mirror := ⟨ini_X10, am_mem_2 81 (by decide +kernel) rfl, by decide, ⟨by decide, by decide⟩, rfl, rfl, rfl, by decide⟩
theorem J_X10_ahead : am_J M_X10_ahead := ⟨ini_X10, am_mem_2 174 (by decide +kernel) rfl, by decide, ⟨by decide, by decide⟩, rfl, rfl, rfl, by decide⟩
theorem J_X10_chop : am_J M_X10_chop := ⟨ini_X10, am_mem_2 211 (by decide +kernel) rfl, by decide, ⟨by decide, by decide⟩, rfl, rfl, rfl, by decide⟩
theorem J_X10_endAt : am_J M_X10_endAt := ⟨ini_X10, am_mem_3 2 (by decide +kernel) rfl, by decide, ⟨by decide, by decide⟩, rfl, rfl, rfl, by decide⟩
theorem J_X10_rankOf : am_J M_X10_rankOf := ⟨ini_X10, am_mem_3 14 (by decide +kernel) rfl, by decide, ⟨by decide, by decide⟩, rfl, rfl, rfl, by decide⟩
theorem J_X10_classes : am_J M_X10_classes := ⟨ini_X10, am_mem_3 21 (by decide +kernel) rfl, by decide, ⟨by decide, by decide⟩, rfl, rfl, rfl, by decide⟩
theorem J_X10_rounds : am_J M_X10_rounds := ⟨ini_X10, am_mem_3 37 (by decide +kernel) rfl, by decide, ⟨by decide, by decide⟩, rfl, rfl, rfl, by decide⟩
theorem J_X10_common : am_J M_X10_common := ⟨ini_X10, am_mem_3 49 (by decide +kernel) rfl, by decide, ⟨by decide, by decide⟩, rfl, rfl, rfl, by decide⟩
theorem J_X10_shared : am_J M_X10_shared := ⟨ini_X10, am_mem_3 56 (by decide +kernel) rfl, by decide, ⟨by decide, by decide⟩, rfl, rfl, rfl, by decide⟩
theorem J_X10_count : am_J M_X10_count := ⟨ini_X10, am_mem_4 156 (by decide +kernel) rfl, by decide, ⟨by decide, by decide⟩, rfl, rfl, rfl, by decide⟩
theorem J_X10_runFrom : am_J M_X10_runFrom := ⟨ini_X10, am_mem_4 184 (by decide +kernel) rfl, by decide, ⟨by decide, by decide⟩, rfl, rfl, rfl, by decide⟩
theorem J_X10_standsAt : am_J M_X10_standsAt := ⟨ini_X10, am_mem_4 203 (by decide +kernel) rfl, by decide, ⟨by decide, by decide⟩, rfl, rfl, rfl, by decide⟩
theorem J_X10_tail : am_J M_X10_tail := ⟨ini_X10, am_mem_4 215 (by decide +kernel) rfl, by decide, ⟨by decide, by decide⟩, rfl, rfl, rfl, by decide⟩
theorem J_X10_words : am_J M_X10_words := ⟨ini_X10, am_mem_3 64 (by decide +kernel) rfl, by decide, ⟨by decide, by decide⟩, rfl, rfl, rfl, by decide⟩
theorem J_X10_word : am_J M_X10_word := ⟨ini_X10, am_mem_4 223 (by decide +kernel) rfl, by decide, ⟨by decide, by decide⟩, rfl, rfl, rfl, by decide⟩
theorem J_X10_numberOf : am_J M_X10_numberOf := ⟨ini_X10, am_mem_4 196 (by decide +kernel) rfl, by decide, ⟨by decide, by decide⟩, rfl, rfl, rfl, by decide⟩
theorem J_X10_twice : am_J M_X10_twice := ⟨ini_X10, am_mem_3 75 (by decide +kernel) rfl, by decide, ⟨by decide, by decide⟩, rfl, rfl, rfl, by decide⟩
theorem J_X10_twiceAt : am_J M_X10_twiceAt := ⟨ini_X10, am_mem_3 82 (by decide +kernel) rfl, by decide, ⟨by decide, by decide⟩, rfl, rfl, rfl, by decide⟩
theorem J_X10_first : am_J M_X10_first := ⟨ini_X10, am_mem_4 110 (by decide +kernel) rfl, by decide, ⟨by decide, by decide⟩, rfl, rfl, rfl, by decide⟩
theorem J_X10_last : am_J M_X10_last := ⟨ini_X10, am_mem_4 98 (by decide +kernel) rfl, by decide, ⟨by decide, by decide⟩, rfl, rfl, rfl, by decide⟩
theorem J_X10_back : am_J M_X10_back := ⟨ini_X10, am_mem_4 121 (by decide +kernel) rfl, by decide, ⟨by decide, by decide⟩, rfl, rfl, rfl, by decide⟩
theorem J_X10_column : am_J M_X10_column := ⟨ini_X10, am_mem_4 82 (by decide +kernel) rfl, by decide, ⟨by decide, by decide⟩, rfl, rfl, rfl, by decide⟩
theorem J_X10_undo : am_J M_X10_undo := ⟨ini_X10, am_mem_4 129 (by decide +kernel) rfl, by decide, ⟨by decide, by decide⟩, rfl, rfl, rfl, by decide⟩
theorem J_X10_squares : am_J M_X10_squares := ⟨ini_X10, am_mem_3 95 (by decide +kernel) rfl, by decide, ⟨by decide, by decide⟩, rfl, rfl, rfl, by decide⟩
theorem J_X10_period : am_J M_X10_period := ⟨ini_X10, am_mem_3 105 (by decide +kernel) rfl, by decide, ⟨by decide, by decide⟩, rfl, rfl, rfl, by decide⟩
theorem J_X10_parts : am_J M_X10_parts := ⟨ini_X10, am_mem_3 116 (by decide +kernel) rfl, by decide, ⟨by decide, by decide⟩, rfl, rfl, rfl, by decide⟩
theorem J_X10_partAt : am_J M_X10_partAt := ⟨ini_X10, am_mem_3 148 (by decide +kernel) rfl, by decide, ⟨by decide, by decide⟩, rfl, rfl, rfl, by decide⟩
theorem J_X10_pieces : am_J M_X10_pieces := ⟨ini_X10, am_mem_3 162 (by decide +kernel) rfl, by decide, ⟨by decide, by decide⟩, rfl, rfl, rfl, by decide⟩
theorem J_X10_fewest : am_J M_X10_fewest := ⟨ini_X10, am_mem_3 172 (by decide +kernel) rfl, by decide, ⟨by decide, by decide⟩, rfl, rfl, rfl, by decide⟩
theorem J_X10_checksum : am_J M_X10_checksum := ⟨ini_X10, am_mem_3 184 (by decide +kernel) rfl, by decide, ⟨by decide, by decide⟩, rfl, rfl, rfl, by decide⟩
theorem J_X10_isSound : am_J M_X10_isSound := ⟨ini_X10, am_mem_3 193 (by decide +kernel) rfl, by decide, ⟨by decide, by decide⟩, rfl, rfl, rfl, by decide⟩
theorem J_X10_isLetter : am_J M_X10_isLetter := ⟨ini_X10, am_mem_2 177 (by decide +kernel) rfl, by decide, ⟨by decide, by decide⟩, rfl, rfl, rfl, by decide⟩
theorem J_X10_isTypable : am_J M_X10_isTypable := ⟨ini_X10, am_mem_4 35 (by decide +kernel) rfl, by decide, ⟨by decide, by decide⟩, rfl, rfl, rfl, by decide⟩
theorem J_X10_known : am_J M_X10_known := ⟨ini_X10, am_mem_2 85 (by decide +kernel) rfl, by decide, ⟨by decide, by decide⟩, rfl, rfl, rfl, by decide⟩
theorem J_X10_knownWith : am_J M_X10_knownWith := ⟨ini_X10, am_mem_3 6 (by decide +kernel) rfl, by decide, ⟨by decide, by decide⟩, rfl, rfl, rfl, by decide⟩
theorem J_X10_knownWithRow : am_J M_X10_knownWithRow := ⟨ini_X10, am_mem_4 102 (by decide +kernel) rfl, by decide, ⟨by decide, by decide⟩, rfl, rfl, rfl, by decide⟩
theorem J_X10_knownNotEmpty : am_J M_X10_knownNotEmpty := ⟨ini_X10, am_mem_2 215 (by decide +kernel) rfl, by decide, ⟨by decide, by decide⟩, rfl, rfl, rfl, by decide⟩
theorem J_X10_refuseClassSize : am_J M_X10_refuseClassSize := ⟨ini_X10, am_mem_3 25 (by decide +kernel) rfl, by decide, ⟨by decide, by decide⟩, rfl, rfl, rfl, by decide⟩
theorem J_X10_refuseNoWord : am_J M_X10_refuseNoWord := ⟨ini_X10, am_mem_4 160 (by decide +kernel) rfl, by decide, ⟨by decide, by decide⟩, rfl, rfl, rfl, by decide⟩
theorem J_X10_leastRank : am_J M_X10_leastRank := ⟨ini_X10, am_mem_4 188 (by decide +kernel) rfl, by decide, ⟨by decide, by decide⟩, rfl, rfl, rfl, by decide⟩
theorem J_X10_freshText : am_J M_X10_freshText := ⟨ini_X10, am_mem_2 102 (by decide +kernel) rfl, by decide, ⟨by decide, by decide⟩, rfl, rfl, rfl, by decide⟩
theorem J_X10_keep : am_J M_X10_keep := ⟨ini_X10, am_mem_2 126 (by decide +kernel) rfl, by decide, ⟨by decide, by decide⟩, rfl, rfl, rfl, by decide⟩
theorem J_L_cell : am_J M_L_cell := ⟨ini_L, am_mem_1 227 (by decide +kernel) rfl, by decide, ⟨by decide, by decide⟩, rfl, rfl, rfl, by decide⟩
theorem J_L_chosen : am_J M_L_chosen := ⟨ini_L, am_mem_1 233 (by decide +kernel) rfl, by decide, ⟨by decide, by decide⟩, rfl, rfl, rfl, by decide⟩
theorem J_L_type : am_JW M_L_type := ⟨ini_L, am_mem_4 28 (by decide +kernel) rfl, by decide, ⟨by decide, by decide⟩, rfl, rfl, by decide⟩
theorem J_L_wipe : am_J M_L_wipe := ⟨ini_L, am_mem_4 21 (by decide +kernel) rfl, by decide, ⟨by decide, by decide⟩, rfl, rfl, rfl, by decide⟩
theorem J_L_typed : am_JW M_L_typed := ⟨ini_L, am_mem_4 86 (by decide +kernel) rfl, by decide, ⟨by decide, by decide⟩, rfl, rfl, by decide⟩
theorem J_L_text : am_JW M_L_text := ⟨ini_L, am_mem_4 43 (by decide +kernel) rfl, by decide, ⟨by decide, by decide⟩, rfl, rfl, by decide⟩
theorem J_L_length : am_JW M_L_length := ⟨ini_L, am_mem_4 134 (by decide +kernel) rfl, by decide, ⟨by decide, by decide⟩, rfl, rfl, by decide⟩
theorem J_L_signAt : am_JW M_L_signAt := ⟨ini_L, am_mem_4 141 (by decide +kernel) rfl, by decide, ⟨by decide, by decide⟩, rfl, rfl, by decide⟩
theorem J_L_mirror : am_JW M_L_mirror := ⟨ini_L, am_mem_1 237 (by decide +kernel) rfl, by decide, ⟨by decide, by decide⟩, rfl, rfl, by decide⟩
theorem J_L_ahead : am_JW M_L_ahead := ⟨ini_L, am_mem_2 169 (by decide +kernel) rfl, by decide, ⟨by decide, by decide⟩, rfl, rfl, by decide⟩
theorem J_L_chop : am_JW M_L_chop := ⟨ini_L, am_mem_2 206 (by decide +kernel) rfl, by decide, ⟨by decide, by decide⟩, rfl, rfl, by decide⟩
theorem J_L_endAt : am_JW M_L_endAt := ⟨ini_L, am_mem_2 238 (by decide +kernel) rfl, by decide, ⟨by decide, by decide⟩, rfl, rfl, by decide⟩
theorem J_L_rankOf : am_JW M_L_rankOf := ⟨ini_L, am_mem_3 10 (by decide +kernel) rfl, by decide, ⟨by decide, by decide⟩, rfl, rfl, by decide⟩
theorem J_L_classes : am_JW M_L_classes := ⟨ini_L, am_mem_3 17 (by decide +kernel) rfl, by decide, ⟨by decide, by decide⟩, rfl, rfl, by decide⟩
theorem J_L_rounds : am_JW M_L_rounds := ⟨ini_L, am_mem_3 33 (by decide +kernel) rfl, by decide, ⟨by decide, by decide⟩, rfl, rfl, by decide⟩
theorem J_L_common : am_JW M_L_common := ⟨ini_L, am_mem_3 45 (by decide +kernel) rfl, by decide, ⟨by decide, by decide⟩, rfl, rfl, by decide⟩
theorem J_L_shared : am_JW M_L_shared := ⟨ini_L, am_mem_3 52 (by decide +kernel) rfl, by decide, ⟨by decide, by decide⟩, rfl, rfl, by decide⟩
theorem J_L_count : am_JW M_L_count := ⟨ini_L, am_mem_4 152 (by decide +kernel) rfl, by decide, ⟨by decide, by decide⟩, rfl, rfl, by decide⟩
theorem J_L_runFrom : am_JW M_L_runFrom := ⟨ini_L, am_mem_4 180 (by decide +kernel) rfl, by decide, ⟨by decide, by decide⟩, rfl, rfl, by decide⟩
theorem J_L_standsAt : am_JW M_L_standsAt := ⟨ini_L, am_mem_4 199 (by decide +kernel) rfl, by decide, ⟨by decide, by decide⟩, rfl, rfl, by decide⟩
theorem J_L_tail : am_JW M_L_tail := ⟨ini_L, am_mem_4 211 (by decide +kernel) rfl, by decide, ⟨by decide, by decide⟩, rfl, rfl, by decide⟩
theorem J_L_words : am_JW M_L_words := ⟨ini_L, am_mem_3 60 (by decide +kernel) rfl, by decide, ⟨by decide, by decide⟩, rfl, rfl, by decide⟩
theorem J_L_word : am_JW M_L_word := ⟨ini_L, am_mem_4 219 (by decide +kernel) rfl, by decide, ⟨by decide, by decide⟩, rfl, rfl, by decide⟩
theorem J_L_numberOf : am_JW M_L_numberOf := ⟨ini_L, am_mem_4 192 (by decide +kernel) rfl, by decide, ⟨by decide, by decide⟩, rfl, rfl, by decide⟩
theorem J_L_twice : am_JW M_L_twice := ⟨ini_L, am_mem_3 71 (by decide +kernel) rfl, by decide, ⟨by decide, by decide⟩, rfl, rfl, by decide⟩
theorem J_L_twiceAt : am_JW M_L_twiceAt := ⟨ini_L, am_mem_3 78 (by decide +kernel) rfl, by decide, ⟨by decide, by decide⟩, rfl, rfl, by decide⟩
theorem J_L_first : am_JW M_L_first := ⟨ini_L, am_mem_4 106 (by decide +kernel) rfl, by decide, ⟨by decide, by decide⟩, rfl, rfl, by decide⟩
theorem J_L_last : am_JW M_L_last := ⟨ini_L, am_mem_4 94 (by decide +kernel) rfl, by decide, ⟨by decide, by decide⟩, rfl, rfl, by decide⟩
theorem J_L_back : am_JW M_L_back := ⟨ini_L, am_mem_4 117 (by decide +kernel) rfl, by decide, ⟨by decide, by decide⟩, rfl, rfl, by decide⟩
theorem J_L_column : am_JW M_L_column := ⟨ini_L, am_mem_4 78 (by decide +kernel) rfl, by decide, ⟨by decide, by decide⟩, rfl, rfl, by decide⟩
theorem J_L_undo : am_JW M_L_undo := ⟨ini_L, am_mem_4 125 (by decide +kernel) rfl, by decide, ⟨by decide, by decide⟩, rfl, rfl, by decide⟩
theorem J_L_squares : am_JW M_L_squares := ⟨ini_L, am_mem_3 91 (by decide +kernel) rfl, by decide, ⟨by decide, by decide⟩, rfl, rfl, by decide⟩
theorem J_L_period : am_JW M_L_period := ⟨ini_L, am_mem_3 101 (by decide +kernel) rfl, by decide, ⟨by decide, by decide⟩, rfl, rfl, by decide⟩
theorem J_L_parts : am_JW M_L_parts := ⟨ini_L, am_mem_3 112 (by decide +kernel) rfl, by decide, ⟨by decide, by decide⟩, rfl, rfl, by decide⟩
theorem J_L_partAt : am_JW M_L_partAt := ⟨ini_L, am_mem_3 144 (by decide +kernel) rfl, by decide, ⟨by decide, by decide⟩, rfl, rfl, by decide⟩
theorem J_L_pieces : am_JW M_L_pieces := ⟨ini_L, am_mem_3 158 (by decide +kernel) rfl, by decide, ⟨by decide, by decide⟩, rfl, rfl, by decide⟩
theorem J_L_fewest : am_JW M_L_fewest := ⟨ini_L, am_mem_3 168 (by decide +kernel) rfl, by decide, ⟨by decide, by decide⟩, rfl, rfl, by decide⟩
theorem J_L_checksum : am_J M_L_checksum := ⟨ini_L, am_mem_3 180 (by decide +kernel) rfl, by decide, ⟨by decide, by decide⟩, rfl, rfl, rfl, by decide⟩
theorem J_L_isSound : am_J M_L_isSound := ⟨ini_L, am_mem_3 189 (by decide +kernel) rfl, by decide, ⟨by decide, by decide⟩, rfl, rfl, rfl, by decide⟩
theorem J_L_size : am_J M_L_size := ⟨ini_L, am_mem_4 15 (by decide +kernel) rfl, by decide, ⟨by decide, by decide⟩, rfl, rfl, rfl, by decide⟩
theorem J_L_signs : am_J M_L_signs := ⟨ini_L, am_mem_4 12 (by decide +kernel) rfl, by decide, ⟨by decide, by decide⟩, rfl, rfl, rfl, by decide⟩
theorem J_L_tells : am_J M_L_tells := ⟨ini_L, am_mem_4 18 (by decide +kernel) rfl, by decide, ⟨by decide, by decide⟩, rfl, rfl, rfl, by decide⟩
theorem J_L_comesBack : am_J M_L_comesBack := ⟨ini_L, am_mem_4 75 (by decide +kernel) rfl, by decide, ⟨by decide, by decide⟩, rfl, rfl, rfl, by decide⟩
theorem J_L_isRun : am_J M_L_isRun := ⟨ini_L, am_mem_4 149 (by decide +kernel) rfl, by decide, ⟨by decide, by decide⟩, rfl, rfl, rfl, by decide⟩
theorem fl_X10_11 : am_FL RX10 11 8 0 10 := ⟨RX10, TX10, rfl, by decide, am_mem_1 194 (by decide +kernel) rfl⟩
theorem fl_X10_18 : am_FL RX10 18 8 1 10 := ⟨RX10, TX10, rfl, by decide, am_mem_1 195 (by decide +kernel) rfl⟩
theorem fl_X10_22 : am_FL RX10 22 8 2 10 := ⟨RX10, TX10, rfl, by decide, am_mem_1 196 (by decide +kernel) rfl⟩
theorem fl_X10_29 : am_FL RX10 29 8 3 10 := ⟨RX10, TX10, rfl, by decide, am_mem_1 197 (by decide +kernel) rfl⟩
theorem fl_X10_36 : am_FL RX10 36 8 4 10 := ⟨RX10, TX10, rfl, by decide, am_mem_1 198 (by decide +kernel) rfl⟩
theorem fl_X10_43 : am_FL RX10 43 8 5 10 := ⟨RX10, TX10, rfl, by decide, am_mem_1 199 (by decide +kernel) rfl⟩
theorem fl_X10_50 : am_FL RX10 50 8 6 10 := ⟨RX10, TX10, rfl, by decide, am_mem_1 200 (by decide +kernel) rfl⟩
theorem fl_X10_57 : am_FL RX10 57 8 7 10 := ⟨RX10, TX10, rfl, by decide, am_mem_1 201 (by decide +kernel) rfl⟩
theorem fl_X10_64 : am_FL RX10 64 8 8 10 := ⟨RX10, TX10, rfl, by decide, am_mem_1 202 (by decide +kernel) rfl⟩
theorem fl_X10_80 : am_FL RX10 80 6 1 2 := ⟨RX8, TX8, rfl, by decide, am_mem_1 43 (by decide +kernel) rfl⟩
theorem pl_X10_80 : am_PL RX10 80 6 1 2 := ⟨RX8, TX8, rfl, by decide, am_mem_1 43 (by decide +kernel) rfl, rfl, by decide +kernel, by decide +kernel⟩
theorem fl_X10_102 : am_FL RX10 102 6 0 2 := ⟨RX8, TX8, rfl, by decide, am_mem_1 40 (by decide +kernel) rfl⟩
theorem fl_X10_130 : am_FL RX10 130 4 0 5 := ⟨RX6, TX6, rfl, by decide, am_mem_1 160 (by decide +kernel) rfl⟩
theorem fl_X10_131 : am_FL RX10 131 4 4 5 := ⟨RX6, TX6, rfl, by decide, am_mem_1 182 (by decide +kernel) rfl⟩
theorem pl_X10_131 : am_PL RX10 131 4 4 5 := ⟨RX6, TX6, rfl, by decide, am_mem_1 182 (by decide +kernel) rfl, rfl, by decide +kernel, by decide +kernel⟩
theorem fl_X10_167 : am_FL RX10 167 4 1 5 := ⟨RX6, TX6, rfl, by decide, am_mem_1 164 (by decide +kernel) rfl⟩
theorem fl_X10_171 : am_FL RX10 171 4 2 5 := ⟨RX6, TX6, rfl, by decide, am_mem_1 169 (by decide +kernel) rfl⟩
theorem fl_X10_185 : am_FL RX10 185 4 3 5 := ⟨RX6, TX6, rfl, by decide, am_mem_1 173 (by decide +kernel) rfl⟩
theorem fl_X10_235 : am_FL RX10 235 8 9 10 := ⟨RX10, TX10, rfl, by decide, am_mem_1 203 (by decide +kernel) rfl⟩
theorem pl_X10_235 : am_PL RX10 235 8 9 10 := ⟨RX10, TX10, rfl, by decide, am_mem_1 203 (by decide +kernel) rfl, rfl, by decide +kernel, by decide +kernel⟩
theorem fl_X10_273 : am_FL RX10 273 5 0 5 := ⟨RX7, TX7, rfl, by decide, am_mem_1 75 (by decide +kernel) rfl⟩
theorem fl_X0_7 : am_FL RX0 7 4 4 5 := ⟨RX6, TX6, rfl, by decide, am_mem_1 180 (by decide +kernel) rfl⟩
theorem pl_X0_7 : am_PL RX0 7 4 4 5 := ⟨RX6, TX6, rfl, by decide, am_mem_1 180 (by decide +kernel) rfl, rfl, by decide +kernel, by decide +kernel⟩
theorem fl_X1_9 : am_FL RX1 9 0 0 3 := ⟨RX1, TX1, rfl, by decide, am_mem_1 57 (by decide +kernel) rfl⟩
theorem fl_X1_15 : am_FL RX1 15 0 1 3 := ⟨RX1, TX1, rfl, by decide, am_mem_1 58 (by decide +kernel) rfl⟩
theorem fl_X1_18 : am_FL RX1 18 0 2 3 := ⟨RX1, TX1, rfl, by decide, am_mem_1 59 (by decide +kernel) rfl⟩
theorem fl_X1_21 : am_FL RX1 21 4 4 5 := ⟨RX6, TX6, rfl, by decide, am_mem_1 174 (by decide +kernel) rfl⟩
theorem pl_X1_21 : am_PL RX1 21 4 4 5 := ⟨RX6, TX6, rfl, by decide, am_mem_1 174 (by decide +kernel) rfl, rfl, by decide +kernel, by decide +kernel⟩
theorem fl_X1_27 : am_FL RX1 27 4 2 5 := ⟨RX6, TX6, rfl, by decide, am_mem_1 166 (by decide +kernel) rfl⟩
theorem fl_X1_30 : am_FL RX1 30 4 0 5 := ⟨RX6, TX6, rfl, by decide, am_mem_1 155 (by decide +kernel) rfl⟩
theorem fl_X1_49 : am_FL RX1 49 4 1 5 := ⟨RX6, TX6, rfl, by decide, am_mem_1 163 (by decide +kernel) rfl⟩
theorem fl_X1_69 : am_FL RX1 69 4 3 5 := ⟨RX6, TX6, rfl, by decide, am_mem_1 172 (by decide +kernel) rfl⟩
theorem fl_X2_9 : am_FL RX2 9 1 0 1 := ⟨RX2, TX2, rfl, by decide, am_mem_1 145 (by decide +kernel) rfl⟩
theorem fl_X2_15 : am_FL RX2 15 4 4 5 := ⟨RX6, TX6, rfl, by decide, am_mem_1 175 (by decide +kernel) rfl⟩
theorem pl_X2_15 : am_PL RX2 15 4 4 5 := ⟨RX6, TX6, rfl, by decide, am_mem_1 175 (by decide +kernel) rfl, rfl, by decide +kernel, by decide +kernel⟩
theorem fl_X2_34 : am_FL RX2 34 4 2 5 := ⟨RX6, TX6, rfl, by decide, am_mem_1 167 (by decide +kernel) rfl⟩
theorem fl_X2_37 : am_FL RX2 37 4 3 5 := ⟨RX6, TX6, rfl, by decide, am_mem_1 171 (by decide +kernel) rfl⟩
theorem fl_X2_43 : am_FL RX2 43 4 1 5 := ⟨RX6, TX6, rfl, by decide, am_mem_1 162 (by decide +kernel) rfl⟩
theorem fl_X3_7 : am_FL RX3 7 4 4 5 := ⟨RX6, TX6, rfl, by decide, am_mem_1 178 (by decide +kernel) rfl⟩
theorem pl_X3_7 : am_PL RX3 7 4 4 5 := ⟨RX6, TX6, rfl, by decide, am_mem_1 178 (by decide +kernel) rfl, rfl, by decide +kernel, by decide +kernel⟩
theorem fl_X3_13 : am_FL RX3 13 4 0 5 := ⟨RX6, TX6, rfl, by decide, am_mem_1 156 (by decide +kernel) rfl⟩
theorem fl_X3_17 : am_FL RX3 17 4 2 5 := ⟨RX6, TX6, rfl, by decide, am_mem_1 168 (by decide +kernel) rfl⟩
theorem fl_X4_7 : am_FL RX4 7 4 4 5 := ⟨RX6, TX6, rfl, by decide, am_mem_1 177 (by decide +kernel) rfl⟩
theorem pl_X4_7 : am_PL RX4 7 4 4 5 := ⟨RX6, TX6, rfl, by decide, am_mem_1 177 (by decide +kernel) rfl, rfl, by decide +kernel, by decide +kernel⟩
theorem fl_X4_13 : am_FL RX4 13 4 0 5 := ⟨RX6, TX6, rfl, by decide, am_mem_1 157 (by decide +kernel) rfl⟩
theorem fl_X5_11 : am_FL RX5 11 3 0 3 := ⟨RX5, TX5, rfl, by decide, am_mem_1 99 (by decide +kernel) rfl⟩
theorem fl_X6_9 : am_FL RX6 9 4 0 5 := ⟨RX6, TX6, rfl, by decide, am_mem_1 154 (by decide +kernel) rfl⟩
theorem fl_X6_15 : am_FL RX6 15 4 1 5 := ⟨RX6, TX6, rfl, by decide, am_mem_1 161 (by decide +kernel) rfl⟩
theorem fl_X6_19 : am_FL RX6 19 4 2 5 := ⟨RX6, TX6, rfl, by decide, am_mem_1 165 (by decide +kernel) rfl⟩
theorem fl_X6_22 : am_FL RX6 22 4 3 5 := ⟨RX6, TX6, rfl, by decide, am_mem_1 170 (by decide +kernel) rfl⟩
theorem fl_X6_25 : am_FL RX6 25 4 4 5 := ⟨RX6, TX6, rfl, by decide, am_mem_1 176 (by decide +kernel) rfl⟩
theorem pl_X6_25 : am_PL RX6 25 4 4 5 := ⟨RX6, TX6, rfl, by decide, am_mem_1 176 (by decide +kernel) rfl, rfl, by decide +kernel, by decide +kernel⟩
theorem fl_X6_42 : am_FL RX6 42 6 1 2 := ⟨RX8, TX8, rfl, by decide, am_mem_1 44 (by decide +kernel) rfl⟩
theorem pl_X6_42 : am_PL RX6 42 6 1 2 := ⟨RX8, TX8, rfl, by decide, am_mem_1 44 (by decide +kernel) rfl, rfl, by decide +kernel, by decide +kernel⟩
theorem fl_X6_45 : am_FL RX6 45 6 0 2 := ⟨RX8, TX8, rfl, by decide, am_mem_1 41 (by decide +kernel) rfl⟩
theorem fl_X7_9 : am_FL RX7 9 5 0 5 := ⟨RX7, TX7, rfl, by decide, am_mem_1 74 (by decide +kernel) rfl⟩
theorem fl_X7_15 : am_FL RX7 15 5 1 5 := ⟨RX7, TX7, rfl, by decide, am_mem_1 76 (by decide +kernel) rfl⟩
theorem fl_X7_18 : am_FL RX7 18 5 2 5 := ⟨RX7, TX7, rfl, by decide, am_mem_1 77 (by decide +kernel) rfl⟩
theorem fl_X7_22 : am_FL RX7 22 5 3 5 := ⟨RX7, TX7, rfl, by decide, am_mem_1 78 (by decide +kernel) rfl⟩
theorem fl_X7_25 : am_FL RX7 25 5 4 5 := ⟨RX7, TX7, rfl, by decide, am_mem_1 79 (by decide +kernel) rfl⟩
theorem fl_X7_53 : am_FL RX7 53 4 4 5 := ⟨RX6, TX6, rfl, by decide, am_mem_1 181 (by decide +kernel) rfl⟩
theorem pl_X7_53 : am_PL RX7 53 4 4 5 := ⟨RX6, TX6, rfl, by decide, am_mem_1 181 (by decide +kernel) rfl, rfl, by decide +kernel, by decide +kernel⟩
theorem fl_X7_65 : am_FL RX7 65 4 0 5 := ⟨RX6, TX6, rfl, by decide, am_mem_1 159 (by decide +kernel) rfl⟩
theorem fl_X8_9 : am_FL RX8 9 6 0 2 := ⟨RX8, TX8, rfl, by decide, am_mem_1 39 (by decide +kernel) rfl⟩
theorem fl_X8_15 : am_FL RX8 15 6 1 2 := ⟨RX8, TX8, rfl, by decide, am_mem_1 42 (by decide +kernel) rfl⟩
theorem pl_X8_15 : am_PL RX8 15 6 1 2 := ⟨RX8, TX8, rfl, by decide, am_mem_1 42 (by decide +kernel) rfl, rfl, by decide +kernel, by decide +kernel⟩
theorem fl_X9_11 : am_FL RX9 11 7 0 5 := ⟨RX9, TX9, rfl, by decide, am_mem_1 113 (by decide +kernel) rfl⟩
theorem fl_X9_15 : am_FL RX9 15 7 1 5 := ⟨RX9, TX9, rfl, by decide, am_mem_1 114 (by decide +kernel) rfl⟩
theorem fl_X9_19 : am_FL RX9 19 7 2 5 := ⟨RX9, TX9, rfl, by decide, am_mem_1 115 (by decide +kernel) rfl⟩
theorem fl_X9_26 : am_FL RX9 26 7 3 5 := ⟨RX9, TX9, rfl, by decide, am_mem_1 116 (by decide +kernel) rfl⟩
theorem pl_X9_26 : am_PL RX9 26 7 3 5 := ⟨RX9, TX9, rfl, by decide, am_mem_1 116 (by decide +kernel) rfl, rfl, by decide +kernel, by decide +kernel⟩
theorem fl_X9_30 : am_FL RX9 30 4 4 5 := ⟨RX6, TX6, rfl, by decide, am_mem_1 179 (by decide +kernel) rfl⟩
theorem pl_X9_30 : am_PL RX9 30 4 4 5 := ⟨RX6, TX6, rfl, by decide, am_mem_1 179 (by decide +kernel) rfl, rfl, by decide +kernel, by decide +kernel⟩
theorem fl_X9_37 : am_FL RX9 37 7 4 5 := ⟨RX9, TX9, rfl, by decide, am_mem_1 117 (by decide +kernel) rfl⟩
theorem pl_X9_37 : am_PL RX9 37 7 4 5 := ⟨RX9, TX9, rfl, by decide, am_mem_1 117 (by decide +kernel) rfl, rfl, by decide +kernel, by decide +kernel⟩
theorem fl_X9_44 : am_FL RX9 44 4 0 5 := ⟨RX6, TX6, rfl, by decide, am_mem_1 158 (by decide +kernel) rfl⟩
theorem ml_L_55 : Cond.methodLink RL 55 yX10_ahead ∈ am_W0 ∧ Cond.instanceMethod yX10_ahead ∈ am_W0 ∧ Cond.selects RX10 yX10_ahead yX10_ahead ∈ am_W0 := ⟨am_mem_2 171 (by decide +kernel) rfl, am_mem_2 172 (by decide +kernel) rfl, am_mem_2 173 (by decide +kernel) rfl⟩
theorem ml_L_118 : Cond.methodLink RL 118 yX10_back ∈ am_W0 ∧ Cond.instanceMethod yX10_back ∈ am_W0 ∧ Cond.selects RX10 yX10_back yX10_back ∈ am_W0 := ⟨am_mem_4 118 (by decide +kernel) rfl, am_mem_4 119 (by decide +kernel) rfl, am_mem_4 120 (by decide +kernel) rfl⟩
theorem ml_L_145 : Cond.methodLink RL 145 yX10_checksum ∈ am_W0 ∧ Cond.instanceMethod yX10_checksum ∈ am_W0 ∧ Cond.selects RX10 yX10_checksum yX10_checksum ∈ am_W0 := ⟨am_mem_3 181 (by decide +kernel) rfl, am_mem_3 182 (by decide +kernel) rfl, am_mem_3 183 (by decide +kernel) rfl⟩
theorem ml_L_61 : Cond.methodLink RL 61 yX10_chop ∈ am_W0 ∧ Cond.instanceMethod yX10_chop ∈ am_W0 ∧ Cond.selects RX10 yX10_chop yX10_chop ∈ am_W0 := ⟨am_mem_2 208 (by decide +kernel) rfl, am_mem_2 209 (by decide +kernel) rfl, am_mem_2 210 (by decide +kernel) rfl⟩
theorem ml_L_71 : Cond.methodLink RL 71 yX10_classes ∈ am_W0 ∧ Cond.instanceMethod yX10_classes ∈ am_W0 ∧ Cond.selects RX10 yX10_classes yX10_classes ∈ am_W0 := ⟨am_mem_3 18 (by decide +kernel) rfl, am_mem_3 19 (by decide +kernel) rfl, am_mem_3 20 (by decide +kernel) rfl⟩
theorem ml_L_121 : Cond.methodLink RL 121 yX10_column ∈ am_W0 ∧ Cond.instanceMethod yX10_column ∈ am_W0 ∧ Cond.selects RX10 yX10_column yX10_column ∈ am_W0 := ⟨am_mem_4 79 (by decide +kernel) rfl, am_mem_4 80 (by decide +kernel) rfl, am_mem_4 81 (by decide +kernel) rfl⟩
theorem ms_L_172 : Cond.methodLink RL 172 yL_column ∈ am_W0 ∧ Cond.static yL_column ∈ am_W0 := ⟨am_mem_4 76 (by decide +kernel) rfl, am_mem_4 77 (by decide +kernel) rfl⟩
theorem ms_L_175 : Cond.methodLink RL 175 yL_typed ∈ am_W0 ∧ Cond.static yL_typed ∈ am_W0 := ⟨am_mem_4 84 (by decide +kernel) rfl, am_mem_4 85 (by decide +kernel) rfl⟩
theorem ms_L_177 : Cond.methodLink RL 177 yL_last ∈ am_W0 ∧ Cond.static yL_last ∈ am_W0 := ⟨am_mem_4 92 (by decide +kernel) rfl, am_mem_4 93 (by decide +kernel) rfl⟩
theorem ms_L_180 : Cond.methodLink RL 180 yL_first ∈ am_W0 ∧ Cond.static yL_first ∈ am_W0 := ⟨am_mem_4 104 (by decide +kernel) rfl, am_mem_4 105 (by decide +kernel) rfl⟩
theorem ms_L_182 : Cond.methodLink RL 182 yL_back ∈ am_W0 ∧ Cond.static yL_back ∈ am_W0 := ⟨am_mem_4 115 (by decide +kernel) rfl, am_mem_4 116 (by decide +kernel) rfl⟩
theorem ms_L_184 : Cond.methodLink RL 184 yL_undo ∈ am_W0 ∧ Cond.static yL_undo ∈ am_W0 := ⟨am_mem_4 123 (by decide +kernel) rfl, am_mem_4 124 (by decide +kernel) rfl⟩
theorem ms_L_186 : Cond.methodLink RL 186 yL_length ∈ am_W0 ∧ Cond.static yL_length ∈ am_W0 := ⟨am_mem_4 132 (by decide +kernel) rfl, am_mem_4 133 (by decide +kernel) rfl⟩
theorem ms_L_188 : Cond.methodLink RL 188 yL_signAt ∈ am_W0 ∧ Cond.static yL_signAt ∈ am_W0 := ⟨am_mem_4 139 (by decide +kernel) rfl, am_mem_4 140 (by decide +kernel) rfl⟩
theorem ml_L_77 : Cond.methodLink RL 77 yX10_common ∈ am_W0 ∧ Cond.instanceMethod yX10_common ∈ am_W0 ∧ Cond.selects RX10 yX10_common yX10_common ∈ am_W0 := ⟨am_mem_3 46 (by decide +kernel) rfl, am_mem_3 47 (by decide +kernel) rfl, am_mem_3 48 (by decide +kernel) rfl⟩
theorem ml_L_84 : Cond.methodLink RL 84 yX10_count ∈ am_W0 ∧ Cond.instanceMethod yX10_count ∈ am_W0 ∧ Cond.selects RX10 yX10_count yX10_count ∈ am_W0 := ⟨am_mem_4 153 (by decide +kernel) rfl, am_mem_4 154 (by decide +kernel) rfl, am_mem_4 155 (by decide +kernel) rfl⟩
theorem ml_L_64 : Cond.methodLink RL 64 yX10_endAt ∈ am_W0 ∧ Cond.instanceMethod yX10_endAt ∈ am_W0 ∧ Cond.selects RX10 yX10_endAt yX10_endAt ∈ am_W0 := ⟨am_mem_2 239 (by decide +kernel) rfl, am_mem_3 0 (by decide +kernel) rfl, am_mem_3 1 (by decide +kernel) rfl⟩
theorem ml_L_142 : Cond.methodLink RL 142 yX10_fewest ∈ am_W0 ∧ Cond.instanceMethod yX10_fewest ∈ am_W0 ∧ Cond.selects RX10 yX10_fewest yX10_fewest ∈ am_W0 := ⟨am_mem_3 169 (by decide +kernel) rfl, am_mem_3 170 (by decide +kernel) rfl, am_mem_3 171 (by decide +kernel) rfl⟩
theorem ml_L_112 : Cond.methodLink RL 112 yX10_first ∈ am_W0 ∧ Cond.instanceMethod yX10_first ∈ am_W0 ∧ Cond.selects RX10 yX10_first yX10_first ∈ am_W0 := ⟨am_mem_4 107 (by decide +kernel) rfl, am_mem_4 108 (by decide +kernel) rfl, am_mem_4 109 (by decide +kernel) rfl⟩
theorem ms_L_164 : Cond.methodLink RL 164 yL_wipe ∈ am_W0 ∧ Cond.static yL_wipe ∈ am_W0 := ⟨am_mem_4 19 (by decide +kernel) rfl, am_mem_4 20 (by decide +kernel) rfl⟩
theorem ms_L_167 : Cond.methodLink RL 167 yL_type ∈ am_W0 ∧ Cond.static yL_type ∈ am_W0 := ⟨am_mem_4 26 (by decide +kernel) rfl, am_mem_4 27 (by decide +kernel) rfl⟩
theorem ms_L_192 : Cond.methodLink RL 192 yL_count ∈ am_W0 ∧ Cond.static yL_count ∈ am_W0 := ⟨am_mem_4 150 (by decide +kernel) rfl, am_mem_4 151 (by decide +kernel) rfl⟩
theorem ms_L_194 : Cond.methodLink RL 194 yL_runFrom ∈ am_W0 ∧ Cond.static yL_runFrom ∈ am_W0 := ⟨am_mem_4 178 (by decide +kernel) rfl, am_mem_4 179 (by decide +kernel) rfl⟩
theorem ms_L_196 : Cond.methodLink RL 196 yL_numberOf ∈ am_W0 ∧ Cond.static yL_numberOf ∈ am_W0 := ⟨am_mem_4 190 (by decide +kernel) rfl, am_mem_4 191 (by decide +kernel) rfl⟩
theorem ms_L_198 : Cond.methodLink RL 198 yL_rankOf ∈ am_W0 ∧ Cond.static yL_rankOf ∈ am_W0 := ⟨am_mem_3 8 (by decide +kernel) rfl, am_mem_3 9 (by decide +kernel) rfl⟩
theorem ms_L_200 : Cond.methodLink RL 200 yL_standsAt ∈ am_W0 ∧ Cond.static yL_standsAt ∈ am_W0 := ⟨am_mem_4 197 (by decide +kernel) rfl, am_mem_4 198 (by decide +kernel) rfl⟩
theorem ms_L_202 : Cond.methodLink RL 202 yL_tail ∈ am_W0 ∧ Cond.static yL_tail ∈ am_W0 := ⟨am_mem_4 209 (by decide +kernel) rfl, am_mem_4 210 (by decide +kernel) rfl⟩
theorem ms_L_204 : Cond.methodLink RL 204 yL_word ∈ am_W0 ∧ Cond.static yL_word ∈ am_W0 := ⟨am_mem_4 217 (by decide +kernel) rfl, am_mem_4 218 (by decide +kernel) rfl⟩
theorem ms_L_206 : Cond.methodLink RL 206 yL_words ∈ am_W0 ∧ Cond.static yL_words ∈ am_W0 := ⟨am_mem_3 58 (by decide +kernel) rfl, am_mem_3 59 (by decide +kernel) rfl⟩
theorem ml_L_149 : Cond.methodLink RL 149 yX10_isSound ∈ am_W0 ∧ Cond.instanceMethod yX10_isSound ∈ am_W0 ∧ Cond.selects RX10 yX10_isSound yX10_isSound ∈ am_W0 := ⟨am_mem_3 190 (by decide +kernel) rfl, am_mem_3 191 (by decide +kernel) rfl, am_mem_3 192 (by decide +kernel) rfl⟩
theorem ml_L_115 : Cond.methodLink RL 115 yX10_last ∈ am_W0 ∧ Cond.instanceMethod yX10_last ∈ am_W0 ∧ Cond.selects RX10 yX10_last yX10_last ∈ am_W0 := ⟨am_mem_4 95 (by decide +kernel) rfl, am_mem_4 96 (by decide +kernel) rfl, am_mem_4 97 (by decide +kernel) rfl⟩
theorem ms_L_209 : Cond.methodLink RL 209 yL_signs ∈ am_W0 ∧ Cond.static yL_signs ∈ am_W0 := ⟨am_mem_4 10 (by decide +kernel) rfl, am_mem_4 11 (by decide +kernel) rfl⟩
theorem ms_L_213 : Cond.methodLink RL 213 yL_tells ∈ am_W0 ∧ Cond.static yL_tells ∈ am_W0 := ⟨am_mem_4 16 (by decide +kernel) rfl, am_mem_4 17 (by decide +kernel) rfl⟩
theorem ms_L_217 : Cond.methodLink RL 217 yL_comesBack ∈ am_W0 ∧ Cond.static yL_comesBack ∈ am_W0 := ⟨am_mem_4 73 (by decide +kernel) rfl, am_mem_4 74 (by decide +kernel) rfl⟩
theorem ms_L_221 : Cond.methodLink RL 221 yL_common ∈ am_W0 ∧ Cond.static yL_common ∈ am_W0 := ⟨am_mem_3 43 (by decide +kernel) rfl, am_mem_3 44 (by decide +kernel) rfl⟩
theorem mm_L_223 : Cond.methodLink RL 223 Lib.MathLoose.max_long.x ∈ am_W0 ∧ Cond.static Lib.MathLoose.max_long.x ∈ am_W0 ∧ Cond.initialized "java/lang/Math" ∈ am_W0 ∧ Cond.code Lib.MathLoose.max_long.x Lib.MathLoose.max_long.code 4 (some .long) ∈ am_W0 := ⟨am_mem_4 234 (by decide +kernel) rfl, am_mem_4 235 (by decide +kernel) rfl, ini_M, am_mem_4 236 (by decide +kernel) rfl⟩
theorem ms_L_229 : Cond.methodLink RL 229 yL_endAt ∈ am_W0 ∧ Cond.static yL_endAt ∈ am_W0 := ⟨am_mem_2 236 (by decide +kernel) rfl, am_mem_2 237 (by decide +kernel) rfl⟩
theorem ms_L_231 : Cond.methodLink RL 231 yL_shared ∈ am_W0 ∧ Cond.static yL_shared ∈ am_W0 := ⟨am_mem_3 50 (by decide +kernel) rfl, am_mem_3 51 (by decide +kernel) rfl⟩
theorem ms_L_236 : Cond.methodLink RL 236 yL_twice ∈ am_W0 ∧ Cond.static yL_twice ∈ am_W0 := ⟨am_mem_3 69 (by decide +kernel) rfl, am_mem_3 70 (by decide +kernel) rfl⟩
theorem ms_L_238 : Cond.methodLink RL 238 yL_twiceAt ∈ am_W0 ∧ Cond.static yL_twiceAt ∈ am_W0 := ⟨am_mem_3 76 (by decide +kernel) rfl, am_mem_3 77 (by decide +kernel) rfl⟩
theorem ms_L_240 : Cond.methodLink RL 240 yL_partAt ∈ am_W0 ∧ Cond.static yL_partAt ∈ am_W0 := ⟨am_mem_3 142 (by decide +kernel) rfl, am_mem_3 143 (by decide +kernel) rfl⟩
theorem ms_L_242 : Cond.methodLink RL 242 yL_parts ∈ am_W0 ∧ Cond.static yL_parts ∈ am_W0 := ⟨am_mem_3 110 (by decide +kernel) rfl, am_mem_3 111 (by decide +kernel) rfl⟩
theorem ms_L_244 : Cond.methodLink RL 244 yL_pieces ∈ am_W0 ∧ Cond.static yL_pieces ∈ am_W0 := ⟨am_mem_3 156 (by decide +kernel) rfl, am_mem_3 157 (by decide +kernel) rfl⟩
theorem ms_L_246 : Cond.methodLink RL 246 yL_fewest ∈ am_W0 ∧ Cond.static yL_fewest ∈ am_W0 := ⟨am_mem_3 166 (by decide +kernel) rfl, am_mem_3 167 (by decide +kernel) rfl⟩
theorem mm_L_248 : Cond.methodLink RL 248 Lib.Math.min.name ∈ am_W0 ∧ Cond.static Lib.Math.min.name ∈ am_W0 ∧ Cond.initialized "java/lang/Math" ∈ am_W0 ∧ Cond.code Lib.Math.min.name Lib.Math.min.code 2 (some .int) ∈ am_W0 := ⟨am_mem_4 237 (by decide +kernel) rfl, am_mem_2 163 (by decide +kernel) rfl, ini_M, am_mem_2 164 (by decide +kernel) rfl⟩
theorem ms_L_251 : Cond.methodLink RL 251 yL_classes ∈ am_W0 ∧ Cond.static yL_classes ∈ am_W0 := ⟨am_mem_3 15 (by decide +kernel) rfl, am_mem_3 16 (by decide +kernel) rfl⟩
theorem ms_L_253 : Cond.methodLink RL 253 yL_rounds ∈ am_W0 ∧ Cond.static yL_rounds ∈ am_W0 := ⟨am_mem_3 31 (by decide +kernel) rfl, am_mem_3 32 (by decide +kernel) rfl⟩
theorem ms_L_153 : Cond.methodLink RL 153 yL_cell ∈ am_W0 ∧ Cond.static yL_cell ∈ am_W0 := ⟨am_mem_1 225 (by decide +kernel) rfl, am_mem_1 226 (by decide +kernel) rfl⟩
theorem ms_L_157 : Cond.methodLink RL 157 yL_chosen ∈ am_W0 ∧ Cond.static yL_chosen ∈ am_W0 := ⟨am_mem_1 231 (by decide +kernel) rfl, am_mem_1 232 (by decide +kernel) rfl⟩
theorem ms_L_255 : Cond.methodLink RL 255 yL_isRun ∈ am_W0 ∧ Cond.static yL_isRun ∈ am_W0 := ⟨am_mem_4 147 (by decide +kernel) rfl, am_mem_4 148 (by decide +kernel) rfl⟩
theorem ms_L_259 : Cond.methodLink RL 259 yL_mirror ∈ am_W0 ∧ Cond.static yL_mirror ∈ am_W0 := ⟨am_mem_1 235 (by decide +kernel) rfl, am_mem_1 236 (by decide +kernel) rfl⟩
theorem ms_L_261 : Cond.methodLink RL 261 yL_period ∈ am_W0 ∧ Cond.static yL_period ∈ am_W0 := ⟨am_mem_3 99 (by decide +kernel) rfl, am_mem_3 100 (by decide +kernel) rfl⟩
theorem ms_L_263 : Cond.methodLink RL 263 yL_squares ∈ am_W0 ∧ Cond.static yL_squares ∈ am_W0 := ⟨am_mem_3 89 (by decide +kernel) rfl, am_mem_3 90 (by decide +kernel) rfl⟩
theorem ms_L_265 : Cond.methodLink RL 265 yL_ahead ∈ am_W0 ∧ Cond.static yL_ahead ∈ am_W0 := ⟨am_mem_2 167 (by decide +kernel) rfl, am_mem_2 168 (by decide +kernel) rfl⟩
theorem ms_L_268 : Cond.methodLink RL 268 yL_chop ∈ am_W0 ∧ Cond.static yL_chop ∈ am_W0 := ⟨am_mem_2 204 (by decide +kernel) rfl, am_mem_2 205 (by decide +kernel) rfl⟩
theorem ms_L_270 : Cond.methodLink RL 270 yL_checksum ∈ am_W0 ∧ Cond.static yL_checksum ∈ am_W0 := ⟨am_mem_3 178 (by decide +kernel) rfl, am_mem_3 179 (by decide +kernel) rfl⟩
theorem ms_L_272 : Cond.methodLink RL 272 yL_isSound ∈ am_W0 ∧ Cond.static yL_isSound ∈ am_W0 := ⟨am_mem_3 187 (by decide +kernel) rfl, am_mem_3 188 (by decide +kernel) rfl⟩
theorem ml_L_42 : Cond.methodLink RL 42 yX10_length ∈ am_W0 ∧ Cond.instanceMethod yX10_length ∈ am_W0 ∧ Cond.selects RX10 yX10_length yX10_length ∈ am_W0 := ⟨am_mem_4 135 (by decide +kernel) rfl, am_mem_4 136 (by decide +kernel) rfl, am_mem_4 137 (by decide +kernel) rfl⟩
theorem ml_L_52 : Cond.methodLink RL 52 yX10_mirror ∈ am_W0 ∧ Cond.instanceMethod yX10_mirror ∈ am_W0 ∧ Cond.selects RX10 yX10_mirror yX10_mirror ∈ am_W0 := ⟨am_mem_2 78 (by decide +kernel) rfl, am_mem_2 79 (by decide +kernel) rfl, am_mem_2 80 (by decide +kernel) rfl⟩
theorem ml_L_103 : Cond.methodLink RL 103 yX10_numberOf ∈ am_W0 ∧ Cond.instanceMethod yX10_numberOf ∈ am_W0 ∧ Cond.selects RX10 yX10_numberOf yX10_numberOf ∈ am_W0 := ⟨am_mem_4 193 (by decide +kernel) rfl, am_mem_4 194 (by decide +kernel) rfl, am_mem_4 195 (by decide +kernel) rfl⟩
theorem ml_L_136 : Cond.methodLink RL 136 yX10_partAt ∈ am_W0 ∧ Cond.instanceMethod yX10_partAt ∈ am_W0 ∧ Cond.selects RX10 yX10_partAt yX10_partAt ∈ am_W0 := ⟨am_mem_3 145 (by decide +kernel) rfl, am_mem_3 146 (by decide +kernel) rfl, am_mem_3 147 (by decide +kernel) rfl⟩
theorem ml_L_133 : Cond.methodLink RL 133 yX10_parts ∈ am_W0 ∧ Cond.instanceMethod yX10_parts ∈ am_W0 ∧ Cond.selects RX10 yX10_parts yX10_parts ∈ am_W0 := ⟨am_mem_3 113 (by decide +kernel) rfl, am_mem_3 114 (by decide +kernel) rfl, am_mem_3 115 (by decide +kernel) rfl⟩
theorem ml_L_130 : Cond.methodLink RL 130 yX10_period ∈ am_W0 ∧ Cond.instanceMethod yX10_period ∈ am_W0 ∧ Cond.selects RX10 yX10_period yX10_period ∈ am_W0 := ⟨am_mem_3 102 (by decide +kernel) rfl, am_mem_3 103 (by decide +kernel) rfl, am_mem_3 104 (by decide +kernel) rfl⟩
theorem ml_L_139 : Cond.methodLink RL 139 yX10_pieces ∈ am_W0 ∧ Cond.instanceMethod yX10_pieces ∈ am_W0 ∧ Cond.selects RX10 yX10_pieces yX10_pieces ∈ am_W0 := ⟨am_mem_3 159 (by decide +kernel) rfl, am_mem_3 160 (by decide +kernel) rfl, am_mem_3 161 (by decide +kernel) rfl⟩
theorem ml_L_68 : Cond.methodLink RL 68 yX10_rankOf ∈ am_W0 ∧ Cond.instanceMethod yX10_rankOf ∈ am_W0 ∧ Cond.selects RX10 yX10_rankOf yX10_rankOf ∈ am_W0 := ⟨am_mem_3 11 (by decide +kernel) rfl, am_mem_3 12 (by decide +kernel) rfl, am_mem_3 13 (by decide +kernel) rfl⟩
theorem ml_L_74 : Cond.methodLink RL 74 yX10_rounds ∈ am_W0 ∧ Cond.instanceMethod yX10_rounds ∈ am_W0 ∧ Cond.selects RX10 yX10_rounds yX10_rounds ∈ am_W0 := ⟨am_mem_3 34 (by decide +kernel) rfl, am_mem_3 35 (by decide +kernel) rfl, am_mem_3 36 (by decide +kernel) rfl⟩
theorem ml_L_87 : Cond.methodLink RL 87 yX10_runFrom ∈ am_W0 ∧ Cond.instanceMethod yX10_runFrom ∈ am_W0 ∧ Cond.selects RX10 yX10_runFrom yX10_runFrom ∈ am_W0 := ⟨am_mem_4 181 (by decide +kernel) rfl, am_mem_4 182 (by decide +kernel) rfl, am_mem_4 183 (by decide +kernel) rfl⟩
theorem ml_L_80 : Cond.methodLink RL 80 yX10_shared ∈ am_W0 ∧ Cond.instanceMethod yX10_shared ∈ am_W0 ∧ Cond.selects RX10 yX10_shared yX10_shared ∈ am_W0 := ⟨am_mem_3 53 (by decide +kernel) rfl, am_mem_3 54 (by decide +kernel) rfl, am_mem_3 55 (by decide +kernel) rfl⟩
theorem ml_L_48 : Cond.methodLink RL 48 yX10_signAt ∈ am_W0 ∧ Cond.instanceMethod yX10_signAt ∈ am_W0 ∧ Cond.selects RX10 yX10_signAt yX10_signAt ∈ am_W0 := ⟨am_mem_4 142 (by decide +kernel) rfl, am_mem_4 143 (by decide +kernel) rfl, am_mem_4 144 (by decide +kernel) rfl⟩
theorem ms_L_160 : Cond.methodLink RL 160 yL_size ∈ am_W0 ∧ Cond.static yL_size ∈ am_W0 := ⟨am_mem_4 13 (by decide +kernel) rfl, am_mem_4 14 (by decide +kernel) rfl⟩
theorem ml_L_127 : Cond.methodLink RL 127 yX10_squares ∈ am_W0 ∧ Cond.instanceMethod yX10_squares ∈ am_W0 ∧ Cond.selects RX10 yX10_squares yX10_squares ∈ am_W0 := ⟨am_mem_3 92 (by decide +kernel) rfl, am_mem_3 93 (by decide +kernel) rfl, am_mem_3 94 (by decide +kernel) rfl⟩
theorem ml_L_90 : Cond.methodLink RL 90 yX10_standsAt ∈ am_W0 ∧ Cond.instanceMethod yX10_standsAt ∈ am_W0 ∧ Cond.selects RX10 yX10_standsAt yX10_standsAt ∈ am_W0 := ⟨am_mem_4 200 (by decide +kernel) rfl, am_mem_4 201 (by decide +kernel) rfl, am_mem_4 202 (by decide +kernel) rfl⟩
theorem ml_L_93 : Cond.methodLink RL 93 yX10_tail ∈ am_W0 ∧ Cond.instanceMethod yX10_tail ∈ am_W0 ∧ Cond.selects RX10 yX10_tail yX10_tail ∈ am_W0 := ⟨am_mem_4 212 (by decide +kernel) rfl, am_mem_4 213 (by decide +kernel) rfl, am_mem_4 214 (by decide +kernel) rfl⟩
theorem ms_L_170 : Cond.methodLink RL 170 yL_text ∈ am_W0 ∧ Cond.static yL_text ∈ am_W0 := ⟨am_mem_4 41 (by decide +kernel) rfl, am_mem_4 42 (by decide +kernel) rfl⟩
theorem ml_L_37 : Cond.methodLink RL 37 yX10_text ∈ am_W0 ∧ Cond.instanceMethod yX10_text ∈ am_W0 ∧ Cond.selects RX10 yX10_text yX10_text ∈ am_W0 := ⟨am_mem_4 45 (by decide +kernel) rfl, am_mem_4 46 (by decide +kernel) rfl, am_mem_4 47 (by decide +kernel) rfl⟩
theorem ml_L_106 : Cond.methodLink RL 106 yX10_twice ∈ am_W0 ∧ Cond.instanceMethod yX10_twice ∈ am_W0 ∧ Cond.selects RX10 yX10_twice yX10_twice ∈ am_W0 := ⟨am_mem_3 72 (by decide +kernel) rfl, am_mem_3 73 (by decide +kernel) rfl, am_mem_3 74 (by decide +kernel) rfl⟩
theorem ml_L_109 : Cond.methodLink RL 109 yX10_twiceAt ∈ am_W0 ∧ Cond.instanceMethod yX10_twiceAt ∈ am_W0 ∧ Cond.selects RX10 yX10_twiceAt yX10_twiceAt ∈ am_W0 := ⟨am_mem_3 79 (by decide +kernel) rfl, am_mem_3 80 (by decide +kernel) rfl, am_mem_3 81 (by decide +kernel) rfl⟩
theorem ml_L_11 : Cond.methodLink RL 11 yX10_type ∈ am_W0 ∧ Cond.instanceMethod yX10_type ∈ am_W0 ∧ Cond.selects RX10 yX10_type yX10_type ∈ am_W0 := ⟨am_mem_4 29 (by decide +kernel) rfl, am_mem_4 30 (by decide +kernel) rfl, am_mem_4 31 (by decide +kernel) rfl⟩
theorem ml_L_31 : Cond.methodLink RL 31 yX10_typed ∈ am_W0 ∧ Cond.instanceMethod yX10_typed ∈ am_W0 ∧ Cond.selects RX10 yX10_typed yX10_typed ∈ am_W0 := ⟨am_mem_4 87 (by decide +kernel) rfl, am_mem_4 88 (by decide +kernel) rfl, am_mem_4 89 (by decide +kernel) rfl⟩
theorem ml_L_124 : Cond.methodLink RL 124 yX10_undo ∈ am_W0 ∧ Cond.instanceMethod yX10_undo ∈ am_W0 ∧ Cond.selects RX10 yX10_undo yX10_undo ∈ am_W0 := ⟨am_mem_4 126 (by decide +kernel) rfl, am_mem_4 127 (by decide +kernel) rfl, am_mem_4 128 (by decide +kernel) rfl⟩
theorem ml_L_27 : Cond.methodLink RL 27 yX10_wipe ∈ am_W0 ∧ Cond.instanceMethod yX10_wipe ∈ am_W0 ∧ Cond.selects RX10 yX10_wipe yX10_wipe ∈ am_W0 := ⟨am_mem_4 22 (by decide +kernel) rfl, am_mem_4 23 (by decide +kernel) rfl, am_mem_4 24 (by decide +kernel) rfl⟩
theorem ml_L_100 : Cond.methodLink RL 100 yX10_word ∈ am_W0 ∧ Cond.instanceMethod yX10_word ∈ am_W0 ∧ Cond.selects RX10 yX10_word yX10_word ∈ am_W0 := ⟨am_mem_4 220 (by decide +kernel) rfl, am_mem_4 221 (by decide +kernel) rfl, am_mem_4 222 (by decide +kernel) rfl⟩
theorem ml_L_96 : Cond.methodLink RL 96 yX10_words ∈ am_W0 ∧ Cond.instanceMethod yX10_words ∈ am_W0 ∧ Cond.selects RX10 yX10_words yX10_words ∈ am_W0 := ⟨am_mem_3 61 (by decide +kernel) rfl, am_mem_3 62 (by decide +kernel) rfl, am_mem_3 63 (by decide +kernel) rfl⟩
theorem mu_X0_13_2 : Cond.methodLink RX0 13 ⟨"Suffixshelf$Cutter", "sizeFrom", "(LSuffixshelf$Text;I)I"⟩ ∈ am_W0 ∧ Cond.sameMethod "Suffixshelf$Cutter" "Suffixshelf$Cutter" "sizeFrom" "(LSuffixshelf$Text;I)I" ∈ am_W0 ∧ Cond.selects RX2 ⟨"Suffixshelf$Cutter", "sizeFrom", "(LSuffixshelf$Text;I)I"⟩ yX2_sizeFrom ∈ am_W0 ∧ Cond.instanceMethod yX2_sizeFrom ∈ am_W0 ∧ Cond.declares ⟨"Suffixshelf$Cutter", "sizeFrom", "(LSuffixshelf$Text;I)I"⟩ ∈ am_W1 ∧ "Suffixshelf$Cutter" ≠ "java/lang/invoke/MethodHandle" ∧ "Suffixshelf$Cutter" ≠ "java/lang/invoke/VarHandle" := ⟨am_mem_3 123 (by decide +kernel) rfl, am_mem_3 125 (by decide +kernel) rfl, am_mem_3 126 (by decide +kernel) rfl, am_mem_3 127 (by decide +kernel) rfl, am_mem1_3 124 (by decide +kernel) rfl, by decide, by decide⟩
theorem mu_X0_13_3 : Cond.methodLink RX0 13 ⟨"Suffixshelf$Cutter", "sizeFrom", "(LSuffixshelf$Text;I)I"⟩ ∈ am_W0 ∧ Cond.sameMethod "Suffixshelf$Cutter" "Suffixshelf$Cutter" "sizeFrom" "(LSuffixshelf$Text;I)I" ∈ am_W0 ∧ Cond.selects RX3 ⟨"Suffixshelf$Cutter", "sizeFrom", "(LSuffixshelf$Text;I)I"⟩ yX3_sizeFrom ∈ am_W0 ∧ Cond.instanceMethod yX3_sizeFrom ∈ am_W0 ∧ Cond.declares ⟨"Suffixshelf$Cutter", "sizeFrom", "(LSuffixshelf$Text;I)I"⟩ ∈ am_W1 ∧ "Suffixshelf$Cutter" ≠ "java/lang/invoke/MethodHandle" ∧ "Suffixshelf$Cutter" ≠ "java/lang/invoke/VarHandle" := ⟨am_mem_3 123 (by decide +kernel) rfl, am_mem_3 125 (by decide +kernel) rfl, am_mem_3 139 (by decide +kernel) rfl, am_mem_3 140 (by decide +kernel) rfl, am_mem1_3 124 (by decide +kernel) rfl, by decide, by decide⟩
theorem ml_X10_126 : Cond.methodLink RX10 126 yX10_known ∈ am_W0 ∧ Cond.instanceMethod yX10_known ∈ am_W0 ∧ Cond.selects RX10 yX10_known yX10_known ∈ am_W0 := ⟨am_mem_2 82 (by decide +kernel) rfl, am_mem_2 84 (by decide +kernel) rfl, am_mem_0 1 (by decide +kernel) rfl⟩
theorem ms_X10_146 : Cond.methodLink RX10 146 yX10_isLetter ∈ am_W0 ∧ Cond.static yX10_isLetter ∈ am_W0 := ⟨am_mem_2 175 (by decide +kernel) rfl, am_mem_2 176 (by decide +kernel) rfl⟩
theorem ml_X10_154 : Cond.methodLink RX10 154 yX6_putAhead ∈ am_W0 ∧ Cond.instanceMethod yX6_putAhead ∈ am_W0 ∧ Cond.selects RX6 yX6_putAhead yX6_putAhead ∈ am_W0 := ⟨am_mem_2 195 (by decide +kernel) rfl, am_mem_2 196 (by decide +kernel) rfl, am_mem_2 197 (by decide +kernel) rfl⟩
theorem ml_X10_149 : Cond.methodLink RX10 149 yX1_sortEnds ∈ am_W0 ∧ Cond.instanceMethod yX1_sortEnds ∈ am_W0 ∧ Cond.selects RX1 yX1_sortEnds yX1_sortEnds ∈ am_W0 := ⟨am_mem_2 127 (by decide +kernel) rfl, am_mem_2 128 (by decide +kernel) rfl, am_mem_2 129 (by decide +kernel) rfl⟩
theorem ml_X10_157 : Cond.methodLink RX10 157 yX6_endsAboveWhole ∈ am_W0 ∧ Cond.instanceMethod yX6_endsAboveWhole ∈ am_W0 ∧ Cond.selects RX6 yX6_endsAboveWhole yX6_endsAboveWhole ∈ am_W0 := ⟨am_mem_2 199 (by decide +kernel) rfl, am_mem_2 200 (by decide +kernel) rfl, am_mem_2 201 (by decide +kernel) rfl⟩
theorem ml_X10_250 : Cond.methodLink RX10 250 yX10_knownWithRow ∈ am_W0 ∧ Cond.instanceMethod yX10_knownWithRow ∈ am_W0 ∧ Cond.selects RX10 yX10_knownWithRow yX10_knownWithRow ∈ am_W0 := ⟨am_mem_4 99 (by decide +kernel) rfl, am_mem_4 101 (by decide +kernel) rfl, am_mem_0 20 (by decide +kernel) rfl⟩
theorem ml_X10_260 : Cond.methodLink RX10 260 yX6_rowAhead ∈ am_W0 ∧ Cond.instanceMethod yX6_rowAhead ∈ am_W0 ∧ Cond.selects RX6 yX6_rowAhead yX6_rowAhead ∈ am_W0 := ⟨am_mem_4 122 (by decide +kernel) rfl, am_mem_3 223 (by decide +kernel) rfl, am_mem_3 224 (by decide +kernel) rfl⟩
theorem ml_X10_161 : Cond.methodLink RX10 161 yX10_knownNotEmpty ∈ am_W0 ∧ Cond.instanceMethod yX10_knownNotEmpty ∈ am_W0 ∧ Cond.selects RX10 yX10_knownNotEmpty yX10_knownNotEmpty ∈ am_W0 := ⟨am_mem_2 212 (by decide +kernel) rfl, am_mem_2 214 (by decide +kernel) rfl, am_mem_0 10 (by decide +kernel) rfl⟩
theorem ml_X10_164 : Cond.methodLink RX10 164 yX6_dropFirst ∈ am_W0 ∧ Cond.instanceMethod yX6_dropFirst ∈ am_W0 ∧ Cond.selects RX6 yX6_dropFirst yX6_dropFirst ∈ am_W0 := ⟨am_mem_2 232 (by decide +kernel) rfl, am_mem_2 233 (by decide +kernel) rfl, am_mem_2 234 (by decide +kernel) rfl⟩
theorem ml_X10_174 : Cond.methodLink RX10 174 yX10_refuseClassSize ∈ am_W0 ∧ Cond.instanceMethod yX10_refuseClassSize ∈ am_W0 ∧ Cond.selects RX10 yX10_refuseClassSize yX10_refuseClassSize ∈ am_W0 := ⟨am_mem_3 22 (by decide +kernel) rfl, am_mem_3 24 (by decide +kernel) rfl, am_mem_0 12 (by decide +kernel) rfl⟩
theorem ml_X10_178 : Cond.methodLink RX10 178 yX6_unlikeBeginnings ∈ am_W0 ∧ Cond.instanceMethod yX6_unlikeBeginnings ∈ am_W0 ∧ Cond.selects RX6 yX6_unlikeBeginnings yX6_unlikeBeginnings ∈ am_W0 := ⟨am_mem_3 27 (by decide +kernel) rfl, am_mem_3 28 (by decide +kernel) rfl, am_mem_3 29 (by decide +kernel) rfl⟩
theorem ml_X10_257 : Cond.methodLink RX10 257 yX6_lastSign ∈ am_W0 ∧ Cond.instanceMethod yX6_lastSign ∈ am_W0 ∧ Cond.selects RX6 yX6_lastSign yX6_lastSign ∈ am_W0 := ⟨am_mem_4 83 (by decide +kernel) rfl, am_mem_3 199 (by decide +kernel) rfl, am_mem_3 200 (by decide +kernel) rfl⟩
theorem ml_X10_89 : Cond.methodLink RX10 89 yX8_put ∈ am_W0 ∧ Cond.instanceMethod yX8_put ∈ am_W0 ∧ Cond.selects RX8 yX8_put yX8_put ∈ am_W0 := ⟨am_mem_4 37 (by decide +kernel) rfl, am_mem_4 38 (by decide +kernel) rfl, am_mem_4 39 (by decide +kernel) rfl⟩
theorem ml_X10_136 : Cond.methodLink RX10 136 yX10_knownWith ∈ am_W0 ∧ Cond.instanceMethod yX10_knownWith ∈ am_W0 ∧ Cond.selects RX10 yX10_knownWith yX10_knownWith ∈ am_W0 := ⟨am_mem_3 3 (by decide +kernel) rfl, am_mem_3 5 (by decide +kernel) rfl, am_mem_0 11 (by decide +kernel) rfl⟩
theorem ml_X10_192 : Cond.methodLink RX10 192 yX10_refuseNoWord ∈ am_W0 ∧ Cond.instanceMethod yX10_refuseNoWord ∈ am_W0 ∧ Cond.selects RX10 yX10_refuseNoWord yX10_refuseNoWord ∈ am_W0 := ⟨am_mem_4 157 (by decide +kernel) rfl, am_mem_4 159 (by decide +kernel) rfl, am_mem_0 21 (by decide +kernel) rfl⟩
theorem ml_X10_195 : Cond.methodLink RX10 195 yX6_endsUpTo ∈ am_W0 ∧ Cond.instanceMethod yX6_endsUpTo ∈ am_W0 ∧ Cond.selects RX6 yX6_endsUpTo yX6_endsUpTo ∈ am_W0 := ⟨am_mem_4 162 (by decide +kernel) rfl, am_mem_4 163 (by decide +kernel) rfl, am_mem_4 164 (by decide +kernel) rfl⟩
theorem ml_X10_199 : Cond.methodLink RX10 199 yX6_endsBelow ∈ am_W0 ∧ Cond.instanceMethod yX6_endsBelow ∈ am_W0 ∧ Cond.selects RX6 yX6_endsBelow yX6_endsBelow ∈ am_W0 := ⟨am_mem_4 174 (by decide +kernel) rfl, am_mem_4 175 (by decide +kernel) rfl, am_mem_4 176 (by decide +kernel) rfl⟩
theorem ml_X10_316 : Cond.methodLink RX10 316 yX2_fewestWords ∈ am_W0 ∧ Cond.instanceMethod yX2_fewestWords ∈ am_W0 ∧ Cond.selects RX2 yX2_fewestWords yX2_fewestWords ∈ am_W0 := ⟨am_mem_3 173 (by decide +kernel) rfl, am_mem_3 174 (by decide +kernel) rfl, am_mem_3 175 (by decide +kernel) rfl⟩
theorem ml_X10_253 : Cond.methodLink RX10 253 yX6_firstSign ∈ am_W0 ∧ Cond.instanceMethod yX6_firstSign ∈ am_W0 ∧ Cond.selects RX6 yX6_firstSign yX6_firstSign ∈ am_W0 := ⟨am_mem_4 111 (by decide +kernel) rfl, am_mem_4 112 (by decide +kernel) rfl, am_mem_4 113 (by decide +kernel) rfl⟩
theorem ml_X10_328 : Cond.methodLink RX10 328 yX7_comesBack ∈ am_W0 ∧ Cond.instanceMethod yX7_comesBack ∈ am_W0 ∧ Cond.selects RX7 yX7_comesBack yX7_comesBack ∈ am_W0 := ⟨am_mem_3 194 (by decide +kernel) rfl, am_mem_3 195 (by decide +kernel) rfl, am_mem_3 196 (by decide +kernel) rfl⟩
theorem ml_X10_332 : Cond.methodLink RX10 332 yX9_agreesWith ∈ am_W0 ∧ Cond.instanceMethod yX9_agreesWith ∈ am_W0 ∧ Cond.selects RX9 yX9_agreesWith yX9_agreesWith ∈ am_W0 := ⟨am_mem_3 226 (by decide +kernel) rfl, am_mem_3 227 (by decide +kernel) rfl, am_mem_3 228 (by decide +kernel) rfl⟩
theorem ml_X10_335 : Cond.methodLink RX10 335 yX3_agreesWith ∈ am_W0 ∧ Cond.instanceMethod yX3_agreesWith ∈ am_W0 ∧ Cond.selects RX3 yX3_agreesWith yX3_agreesWith ∈ am_W0 := ⟨am_mem_4 5 (by decide +kernel) rfl, am_mem_4 6 (by decide +kernel) rfl, am_mem_4 7 (by decide +kernel) rfl⟩
theorem mu_X10_303_2 : Cond.methodLink RX10 303 ⟨"Suffixshelf$Packer", "allCuts", "(LSuffixshelf$Text;)I"⟩ ∈ am_W0 ∧ Cond.sameMethod "Suffixshelf$Packer" "Suffixshelf$Cutter" "allCuts" "(LSuffixshelf$Text;)I" ∈ am_W0 ∧ Cond.selects RX2 ⟨"Suffixshelf$Packer", "allCuts", "(LSuffixshelf$Text;)I"⟩ yX0_allCuts ∈ am_W0 ∧ Cond.instanceMethod yX0_allCuts ∈ am_W0 ∧ Cond.declares ⟨"Suffixshelf$Cutter", "allCuts", "(LSuffixshelf$Text;)I"⟩ ∈ am_W1 ∧ "Suffixshelf$Cutter" ≠ "java/lang/invoke/MethodHandle" ∧ "Suffixshelf$Cutter" ≠ "java/lang/invoke/VarHandle" := ⟨am_mem_3 163 (by decide +kernel) rfl, am_mem_3 164 (by decide +kernel) rfl, am_mem_3 165 (by decide +kernel) rfl, am_mem_3 121 (by decide +kernel) rfl, am_mem1_3 119 (by decide +kernel) rfl, by decide, by decide⟩
theorem ml_X10_114 : Cond.methodLink RX10 114 yX10_freshText ∈ am_W0 ∧ Cond.instanceMethod yX10_freshText ∈ am_W0 ∧ Cond.selects RX10 yX10_freshText yX10_freshText ∈ am_W0 := ⟨am_mem_2 99 (by decide +kernel) rfl, am_mem_2 101 (by decide +kernel) rfl, am_mem_0 2 (by decide +kernel) rfl⟩
theorem ml_X10_142 : Cond.methodLink RX10 142 yX6_addTurnedRound ∈ am_W0 ∧ Cond.instanceMethod yX6_addTurnedRound ∈ am_W0 ∧ Cond.selects RX6 yX6_addTurnedRound yX6_addTurnedRound ∈ am_W0 := ⟨am_mem_2 119 (by decide +kernel) rfl, am_mem_2 120 (by decide +kernel) rfl, am_mem_2 121 (by decide +kernel) rfl⟩
theorem ml_X10_122 : Cond.methodLink RX10 122 yX10_keep ∈ am_W0 ∧ Cond.instanceMethod yX10_keep ∈ am_W0 ∧ Cond.selects RX10 yX10_keep yX10_keep ∈ am_W0 := ⟨am_mem_2 123 (by decide +kernel) rfl, am_mem_2 125 (by decide +kernel) rfl, am_mem_0 3 (by decide +kernel) rfl⟩
theorem ml_X10_202 : Cond.methodLink RX10 202 yX10_leastRank ∈ am_W0 ∧ Cond.instanceMethod yX10_leastRank ∈ am_W0 ∧ Cond.selects RX10 yX10_leastRank yX10_leastRank ∈ am_W0 := ⟨am_mem_4 185 (by decide +kernel) rfl, am_mem_4 187 (by decide +kernel) rfl, am_mem_0 23 (by decide +kernel) rfl⟩
theorem ml_X10_213 : Cond.methodLink RX10 213 yX6_newWordsBelow ∈ am_W0 ∧ Cond.instanceMethod yX6_newWordsBelow ∈ am_W0 ∧ Cond.selects RX6 yX6_newWordsBelow yX6_newWordsBelow ∈ am_W0 := ⟨am_mem_3 65 (by decide +kernel) rfl, am_mem_3 66 (by decide +kernel) rfl, am_mem_3 67 (by decide +kernel) rfl⟩
theorem mu_X10_292_3 : Cond.methodLink RX10 292 ⟨"Suffixshelf$PartCutter", "allCuts", "(LSuffixshelf$Text;)I"⟩ ∈ am_W0 ∧ Cond.sameMethod "Suffixshelf$PartCutter" "Suffixshelf$Cutter" "allCuts" "(LSuffixshelf$Text;)I" ∈ am_W0 ∧ Cond.selects RX3 ⟨"Suffixshelf$PartCutter", "allCuts", "(LSuffixshelf$Text;)I"⟩ yX0_allCuts ∈ am_W0 ∧ Cond.instanceMethod yX0_allCuts ∈ am_W0 ∧ Cond.declares ⟨"Suffixshelf$Cutter", "allCuts", "(LSuffixshelf$Text;)I"⟩ ∈ am_W1 ∧ "Suffixshelf$Cutter" ≠ "java/lang/invoke/MethodHandle" ∧ "Suffixshelf$Cutter" ≠ "java/lang/invoke/VarHandle" := ⟨am_mem_3 117 (by decide +kernel) rfl, am_mem_3 118 (by decide +kernel) rfl, am_mem_3 120 (by decide +kernel) rfl, am_mem_3 121 (by decide +kernel) rfl, am_mem1_3 119 (by decide +kernel) rfl, by decide, by decide⟩
theorem mu_X10_300_3 : Cond.methodLink RX10 300 ⟨"Suffixshelf$PartCutter", "startOf", "(LSuffixshelf$Text;I)I"⟩ ∈ am_W0 ∧ Cond.sameMethod "Suffixshelf$PartCutter" "Suffixshelf$Cutter" "startOf" "(LSuffixshelf$Text;I)I" ∈ am_W0 ∧ Cond.selects RX3 ⟨"Suffixshelf$PartCutter", "startOf", "(LSuffixshelf$Text;I)I"⟩ yX0_startOf ∈ am_W0 ∧ Cond.instanceMethod yX0_startOf ∈ am_W0 ∧ Cond.declares ⟨"Suffixshelf$Cutter", "startOf", "(LSuffixshelf$Text;I)I"⟩ ∈ am_W1 ∧ "Suffixshelf$Cutter" ≠ "java/lang/invoke/MethodHandle" ∧ "Suffixshelf$Cutter" ≠ "java/lang/invoke/VarHandle" := ⟨am_mem_3 150 (by decide +kernel) rfl, am_mem_3 151 (by decide +kernel) rfl, am_mem_3 153 (by decide +kernel) rfl, am_mem_3 154 (by decide +kernel) rfl, am_mem1_3 152 (by decide +kernel) rfl, by decide, by decide⟩
theorem ms_X10_286 : Cond.methodLink RX10 286 yX4_leastPeriod ∈ am_W0 ∧ Cond.static yX4_leastPeriod ∈ am_W0 := ⟨am_mem_3 106 (by decide +kernel) rfl, am_mem_3 107 (by decide +kernel) rfl⟩
theorem ml_X10_105 : Cond.methodLink RX10 105 yX8_hasEndSign ∈ am_W0 ∧ Cond.instanceMethod yX8_hasEndSign ∈ am_W0 ∧ Cond.selects RX8 yX8_hasEndSign yX8_hasEndSign ∈ am_W0 := ⟨am_mem_4 49 (by decide +kernel) rfl, am_mem_4 50 (by decide +kernel) rfl, am_mem_4 51 (by decide +kernel) rfl⟩
theorem ml_X10_182 : Cond.methodLink RX10 182 yX6_greatestCommon ∈ am_W0 ∧ Cond.instanceMethod yX6_greatestCommon ∈ am_W0 ∧ Cond.selects RX6 yX6_greatestCommon yX6_greatestCommon ∈ am_W0 := ⟨am_mem_3 38 (by decide +kernel) rfl, am_mem_3 39 (by decide +kernel) rfl, am_mem_3 40 (by decide +kernel) rfl⟩
theorem ml_X10_188 : Cond.methodLink RX10 188 yX6_likeSigns ∈ am_W0 ∧ Cond.instanceMethod yX6_likeSigns ∈ am_W0 ∧ Cond.selects RX6 yX6_likeSigns yX6_likeSigns ∈ am_W0 := ⟨am_mem_3 57 (by decide +kernel) rfl, am_mem_2 159 (by decide +kernel) rfl, am_mem_2 160 (by decide +kernel) rfl⟩
theorem ms_X10_276 : Cond.methodLink RX10 276 yX4_allSquares ∈ am_W0 ∧ Cond.static yX4_allSquares ∈ am_W0 := ⟨am_mem_3 96 (by decide +kernel) rfl, am_mem_3 97 (by decide +kernel) rfl⟩
theorem ml_X10_207 : Cond.methodLink RX10 207 yX6_risingPlace ∈ am_W0 ∧ Cond.instanceMethod yX6_risingPlace ∈ am_W0 ∧ Cond.selects RX6 yX6_risingPlace yX6_risingPlace ∈ am_W0 := ⟨am_mem_4 205 (by decide +kernel) rfl, am_mem_4 206 (by decide +kernel) rfl, am_mem_4 207 (by decide +kernel) rfl⟩
theorem ml_X10_118 : Cond.methodLink RX10 118 yX6_add ∈ am_W0 ∧ Cond.instanceMethod yX6_add ∈ am_W0 ∧ Cond.selects RX6 yX6_add yX6_add ∈ am_W0 := ⟨am_mem_4 69 (by decide +kernel) rfl, am_mem_4 70 (by decide +kernel) rfl, am_mem_4 71 (by decide +kernel) rfl⟩
theorem ml_X10_224 : Cond.methodLink RX10 224 yX6_firstPlaceOfLongestTwice ∈ am_W0 ∧ Cond.instanceMethod yX6_firstPlaceOfLongestTwice ∈ am_W0 ∧ Cond.selects RX6 yX6_firstPlaceOfLongestTwice yX6_firstPlaceOfLongestTwice ∈ am_W0 := ⟨am_mem_3 84 (by decide +kernel) rfl, am_mem_3 85 (by decide +kernel) rfl, am_mem_3 86 (by decide +kernel) rfl⟩
theorem ms_X10_69 : Cond.methodLink RX10 69 yX10_isTypable ∈ am_W0 ∧ Cond.static yX10_isTypable ∈ am_W0 := ⟨am_mem_4 33 (by decide +kernel) rfl, am_mem_4 34 (by decide +kernel) rfl⟩
theorem ml_X10_267 : Cond.methodLink RX10 267 yX7_turnBack ∈ am_W0 ∧ Cond.instanceMethod yX7_turnBack ∈ am_W0 ∧ Cond.selects RX7 yX7_turnBack yX7_turnBack ∈ am_W0 := ⟨am_mem_4 130 (by decide +kernel) rfl, am_mem_3 207 (by decide +kernel) rfl, am_mem_3 208 (by decide +kernel) rfl⟩
theorem ml_X10_219 : Cond.methodLink RX10 219 yX6_rankBringing ∈ am_W0 ∧ Cond.instanceMethod yX6_rankBringing ∈ am_W0 ∧ Cond.selects RX6 yX6_rankBringing yX6_rankBringing ∈ am_W0 := ⟨am_mem_4 225 (by decide +kernel) rfl, am_mem_4 226 (by decide +kernel) rfl, am_mem_4 227 (by decide +kernel) rfl⟩
theorem ml_X10_132 : Cond.methodLink RX10 132 yX8_hold ∈ am_W0 ∧ Cond.instanceMethod yX8_hold ∈ am_W0 ∧ Cond.selects RX8 yX8_hold yX8_hold ∈ am_W0 := ⟨am_mem_4 229 (by decide +kernel) rfl, am_mem_4 230 (by decide +kernel) rfl, am_mem_4 231 (by decide +kernel) rfl⟩
theorem ml_X1_56 : Cond.methodLink RX1 56 yX1_classBehind ∈ am_W0 ∧ Cond.instanceMethod yX1_classBehind ∈ am_W0 ∧ Cond.selects RX1 yX1_classBehind yX1_classBehind ∈ am_W0 := ⟨am_mem_2 143 (by decide +kernel) rfl, am_mem_2 145 (by decide +kernel) rfl, am_mem_0 7 (by decide +kernel) rfl⟩
theorem ml_X1_52 : Cond.methodLink RX1 52 yX1_areAlike ∈ am_W0 ∧ Cond.instanceMethod yX1_areAlike ∈ am_W0 ∧ Cond.selects RX1 yX1_areAlike yX1_areAlike ∈ am_W0 := ⟨am_mem_2 139 (by decide +kernel) rfl, am_mem_2 141 (by decide +kernel) rfl, am_mem_0 6 (by decide +kernel) rfl⟩
theorem ml_X1_34 : Cond.methodLink RX1 34 yX1_orderByClass ∈ am_W0 ∧ Cond.instanceMethod yX1_orderByClass ∈ am_W0 ∧ Cond.selects RX1 yX1_orderByClass yX1_orderByClass ∈ am_W0 := ⟨am_mem_2 131 (by decide +kernel) rfl, am_mem_2 133 (by decide +kernel) rfl, am_mem_0 4 (by decide +kernel) rfl⟩
theorem ml_X1_38 : Cond.methodLink RX1 38 yX1_numberClasses ∈ am_W0 ∧ Cond.instanceMethod yX1_numberClasses ∈ am_W0 ∧ Cond.selects RX1 yX1_numberClasses yX1_numberClasses ∈ am_W0 := ⟨am_mem_2 135 (by decide +kernel) rfl, am_mem_2 137 (by decide +kernel) rfl, am_mem_0 5 (by decide +kernel) rfl⟩
theorem ml_X1_42 : Cond.methodLink RX1 42 yX1_listBySecondHalf ∈ am_W0 ∧ Cond.instanceMethod yX1_listBySecondHalf ∈ am_W0 ∧ Cond.selects RX1 yX1_listBySecondHalf yX1_listBySecondHalf ∈ am_W0 := ⟨am_mem_2 147 (by decide +kernel) rfl, am_mem_2 149 (by decide +kernel) rfl, am_mem_0 8 (by decide +kernel) rfl⟩
theorem ml_X1_46 : Cond.methodLink RX1 46 yX1_tellCommons ∈ am_W0 ∧ Cond.instanceMethod yX1_tellCommons ∈ am_W0 ∧ Cond.selects RX1 yX1_tellCommons yX1_tellCommons ∈ am_W0 := ⟨am_mem_2 151 (by decide +kernel) rfl, am_mem_2 153 (by decide +kernel) rfl, am_mem_0 9 (by decide +kernel) rfl⟩
theorem mm_X1_59 : Cond.methodLink RX1 59 Lib.Math.max.name ∈ am_W0 ∧ Cond.static Lib.Math.max.name ∈ am_W0 ∧ Cond.initialized "java/lang/Math" ∈ am_W0 ∧ Cond.code Lib.Math.max.name Lib.Math.max.code 2 (some .int) ∈ am_W0 := ⟨am_mem_2 155 (by decide +kernel) rfl, am_mem_2 156 (by decide +kernel) rfl, ini_M, am_mem_2 157 (by decide +kernel) rfl⟩
theorem ml_X1_65 : Cond.methodLink RX1 65 yX6_likeSigns ∈ am_W0 ∧ Cond.instanceMethod yX6_likeSigns ∈ am_W0 ∧ Cond.selects RX6 yX6_likeSigns yX6_likeSigns ∈ am_W0 := ⟨am_mem_2 158 (by decide +kernel) rfl, am_mem_2 159 (by decide +kernel) rfl, am_mem_2 160 (by decide +kernel) rfl⟩
theorem mm_X2_40 : Cond.methodLink RX2 40 Lib.Math.min.name ∈ am_W0 ∧ Cond.static Lib.Math.min.name ∈ am_W0 ∧ Cond.initialized "java/lang/Math" ∈ am_W0 ∧ Cond.code Lib.Math.min.name Lib.Math.min.code 2 (some .int) ∈ am_W0 := ⟨am_mem_3 133 (by decide +kernel) rfl, am_mem_2 163 (by decide +kernel) rfl, ini_M, am_mem_2 164 (by decide +kernel) rfl⟩
theorem ml_X2_46 : Cond.methodLink RX2 46 yX2_sizeFrom ∈ am_W0 ∧ Cond.instanceMethod yX2_sizeFrom ∈ am_W0 ∧ Cond.selects RX2 yX2_sizeFrom yX2_sizeFrom ∈ am_W0 := ⟨am_mem_3 177 (by decide +kernel) rfl, am_mem_3 127 (by decide +kernel) rfl, am_mem_5 0 (by decide +kernel) rfl⟩
theorem ml_X2_21 : Cond.methodLink RX2 21 yX2_commonWithLowerAhead ∈ am_W0 ∧ Cond.instanceMethod yX2_commonWithLowerAhead ∈ am_W0 ∧ Cond.selects RX2 yX2_commonWithLowerAhead yX2_commonWithLowerAhead ∈ am_W0 := ⟨am_mem_3 129 (by decide +kernel) rfl, am_mem_3 131 (by decide +kernel) rfl, am_mem_0 13 (by decide +kernel) rfl⟩
theorem mm_X2_25 : Cond.methodLink RX2 25 Lib.Math.max.name ∈ am_W0 ∧ Cond.static Lib.Math.max.name ∈ am_W0 ∧ Cond.initialized "java/lang/Math" ∈ am_W0 ∧ Cond.code Lib.Math.max.name Lib.Math.max.code 2 (some .int) ∈ am_W0 := ⟨am_mem_3 134 (by decide +kernel) rfl, am_mem_2 156 (by decide +kernel) rfl, ini_M, am_mem_2 157 (by decide +kernel) rfl⟩
theorem ml_X2_31 : Cond.methodLink RX2 31 yX2_commonWithUpperAhead ∈ am_W0 ∧ Cond.instanceMethod yX2_commonWithUpperAhead ∈ am_W0 ∧ Cond.selects RX2 yX2_commonWithUpperAhead yX2_commonWithUpperAhead ∈ am_W0 := ⟨am_mem_3 135 (by decide +kernel) rfl, am_mem_3 137 (by decide +kernel) rfl, am_mem_0 14 (by decide +kernel) rfl⟩
theorem ml_X3_21 : Cond.methodLink RX3 21 yX3_sizeFrom ∈ am_W0 ∧ Cond.instanceMethod yX3_sizeFrom ∈ am_W0 ∧ Cond.selects RX3 yX3_sizeFrom yX3_sizeFrom ∈ am_W0 := ⟨am_mem_4 9 (by decide +kernel) rfl, am_mem_3 140 (by decide +kernel) rfl, am_mem_5 1 (by decide +kernel) rfl⟩
theorem ml_X4_17 : Cond.methodLink RX4 17 yX6_likeSigns ∈ am_W0 ∧ Cond.instanceMethod yX6_likeSigns ∈ am_W0 ∧ Cond.selects RX6 yX6_likeSigns yX6_likeSigns ∈ am_W0 := ⟨am_mem_3 109 (by decide +kernel) rfl, am_mem_2 159 (by decide +kernel) rfl, am_mem_2 160 (by decide +kernel) rfl⟩
theorem mm_X6_29 : Cond.methodLink RX6 29 Lib.Math.min.name ∈ am_W0 ∧ Cond.static Lib.Math.min.name ∈ am_W0 ∧ Cond.initialized "java/lang/Math" ∈ am_W0 ∧ Cond.code Lib.Math.min.name Lib.Math.min.code 2 (some .int) ∈ am_W0 := ⟨am_mem_2 162 (by decide +kernel) rfl, am_mem_2 163 (by decide +kernel) rfl, ini_M, am_mem_2 164 (by decide +kernel) rfl⟩
theorem ml_X6_46 : Cond.methodLink RX6 46 yX6_endsUnder ∈ am_W0 ∧ Cond.instanceMethod yX6_endsUnder ∈ am_W0 ∧ Cond.selects RX6 yX6_endsUnder yX6_endsUnder ∈ am_W0 := ⟨am_mem_4 166 (by decide +kernel) rfl, am_mem_4 168 (by decide +kernel) rfl, am_mem_0 22 (by decide +kernel) rfl⟩
theorem ml_X6_50 : Cond.methodLink RX6 50 yX6_againstWord ∈ am_W0 ∧ Cond.instanceMethod yX6_againstWord ∈ am_W0 ∧ Cond.selects RX6 yX6_againstWord yX6_againstWord ∈ am_W0 := ⟨am_mem_4 170 (by decide +kernel) rfl, am_mem_4 171 (by decide +kernel) rfl, am_mem_4 172 (by decide +kernel) rfl⟩
theorem ml_X6_54 : Cond.methodLink RX6 54 yX6_greatestCommon ∈ am_W0 ∧ Cond.instanceMethod yX6_greatestCommon ∈ am_W0 ∧ Cond.selects RX6 yX6_greatestCommon yX6_greatestCommon ∈ am_W0 := ⟨am_mem_3 88 (by decide +kernel) rfl, am_mem_3 39 (by decide +kernel) rfl, am_mem_3 40 (by decide +kernel) rfl⟩
theorem mm_X6_39 : Cond.methodLink RX6 39 Lib.Math.max.name ∈ am_W0 ∧ Cond.static Lib.Math.max.name ∈ am_W0 ∧ Cond.initialized "java/lang/Math" ∈ am_W0 ∧ Cond.code Lib.Math.max.name Lib.Math.max.code 2 (some .int) ∈ am_W0 := ⟨am_mem_3 42 (by decide +kernel) rfl, am_mem_2 156 (by decide +kernel) rfl, ini_M, am_mem_2 157 (by decide +kernel) rfl⟩
theorem ml_X6_65 : Cond.methodLink RX6 65 yX6_placeOfRow ∈ am_W0 ∧ Cond.instanceMethod yX6_placeOfRow ∈ am_W0 ∧ Cond.selects RX6 yX6_placeOfRow yX6_placeOfRow ∈ am_W0 := ⟨am_mem_3 202 (by decide +kernel) rfl, am_mem_3 203 (by decide +kernel) rfl, am_mem_3 204 (by decide +kernel) rfl⟩
theorem ml_X7_32 : Cond.methodLink RX7 32 yX6_lastSign ∈ am_W0 ∧ Cond.instanceMethod yX6_lastSign ∈ am_W0 ∧ Cond.selects RX6 yX6_lastSign yX6_lastSign ∈ am_W0 := ⟨am_mem_3 198 (by decide +kernel) rfl, am_mem_3 199 (by decide +kernel) rfl, am_mem_3 200 (by decide +kernel) rfl⟩
theorem ml_X7_57 : Cond.methodLink RX7 57 yX7_turnBack ∈ am_W0 ∧ Cond.instanceMethod yX7_turnBack ∈ am_W0 ∧ Cond.selects RX7 yX7_turnBack yX7_turnBack ∈ am_W0 := ⟨am_mem_3 206 (by decide +kernel) rfl, am_mem_3 207 (by decide +kernel) rfl, am_mem_3 208 (by decide +kernel) rfl⟩
theorem ml_X7_61 : Cond.methodLink RX7 61 yX6_rowAhead ∈ am_W0 ∧ Cond.instanceMethod yX6_rowAhead ∈ am_W0 ∧ Cond.selects RX6 yX6_rowAhead yX6_rowAhead ∈ am_W0 := ⟨am_mem_3 222 (by decide +kernel) rfl, am_mem_3 223 (by decide +kernel) rfl, am_mem_3 224 (by decide +kernel) rfl⟩
theorem mn_X7_28 : Cond.methodLinkNest RX7 28 yX10_isLetter "Suffixshelf" ∈ am_W1 ∧ Cond.static yX10_isLetter ∈ am_W0 := ⟨am_mem1_3 221 (by decide +kernel) rfl, am_mem_2 176 (by decide +kernel) rfl⟩
theorem ms_X7_50 : Cond.methodLink RX7 50 yX7_indexOfSign ∈ am_W0 ∧ Cond.static yX7_indexOfSign ∈ am_W0 := ⟨am_mem_3 218 (by decide +kernel) rfl, am_mem_3 219 (by decide +kernel) rfl⟩
theorem ml_X7_42 : Cond.methodLink RX7 42 yX7_endSigns ∈ am_W0 ∧ Cond.instanceMethod yX7_endSigns ∈ am_W0 ∧ Cond.selects RX7 yX7_endSigns yX7_endSigns ∈ am_W0 := ⟨am_mem_3 210 (by decide +kernel) rfl, am_mem_3 212 (by decide +kernel) rfl, am_mem_0 15 (by decide +kernel) rfl⟩
theorem ml_X7_46 : Cond.methodLink RX7 46 yX7_tellRowsAhead ∈ am_W0 ∧ Cond.instanceMethod yX7_tellRowsAhead ∈ am_W0 ∧ Cond.selects RX7 yX7_tellRowsAhead yX7_tellRowsAhead ∈ am_W0 := ⟨am_mem_3 214 (by decide +kernel) rfl, am_mem_3 216 (by decide +kernel) rfl, am_mem_0 16 (by decide +kernel) rfl⟩
theorem ml_X8_19 : Cond.methodLink RX8 19 yX8_put ∈ am_W0 ∧ Cond.instanceMethod yX8_put ∈ am_W0 ∧ Cond.selects RX8 yX8_put yX8_put ∈ am_W0 := ⟨am_mem_4 233 (by decide +kernel) rfl, am_mem_4 38 (by decide +kernel) rfl, am_mem_4 39 (by decide +kernel) rfl⟩
theorem ml_X9_22 : Cond.methodLink RX9 22 yX9_listWords ∈ am_W0 ∧ Cond.instanceMethod yX9_listWords ∈ am_W0 ∧ Cond.selects RX9 yX9_listWords yX9_listWords ∈ am_W0 := ⟨am_mem_3 230 (by decide +kernel) rfl, am_mem_3 232 (by decide +kernel) rfl, am_mem_0 17 (by decide +kernel) rfl⟩
theorem ml_X9_33 : Cond.methodLink RX9 33 yX6_newWordsBelow ∈ am_W0 ∧ Cond.instanceMethod yX6_newWordsBelow ∈ am_W0 ∧ Cond.selects RX6 yX6_newWordsBelow yX6_newWordsBelow ∈ am_W0 := ⟨am_mem_4 3 (by decide +kernel) rfl, am_mem_3 66 (by decide +kernel) rfl, am_mem_3 67 (by decide +kernel) rfl⟩
theorem ml_X9_40 : Cond.methodLink RX9 40 yX6_greatestCommon ∈ am_W0 ∧ Cond.instanceMethod yX6_greatestCommon ∈ am_W0 ∧ Cond.selects RX6 yX6_greatestCommon yX6_greatestCommon ∈ am_W0 := ⟨am_mem_4 4 (by decide +kernel) rfl, am_mem_3 39 (by decide +kernel) rfl, am_mem_3 40 (by decide +kernel) rfl⟩
theorem ml_X9_45 : Cond.methodLink RX9 45 yX9_nodeBelow ∈ am_W0 ∧ Cond.instanceMethod yX9_nodeBelow ∈ am_W0 ∧ Cond.selects RX9 yX9_nodeBelow yX9_nodeBelow ∈ am_W0 := ⟨am_mem_3 234 (by decide +kernel) rfl, am_mem_3 236 (by decide +kernel) rfl, am_mem_0 18 (by decide +kernel) rfl⟩
theorem ml_X9_49 : Cond.methodLink RX9 49 yX9_addBelow ∈ am_W0 ∧ Cond.instanceMethod yX9_addBelow ∈ am_W0 ∧ Cond.selects RX9 yX9_addBelow yX9_addBelow ∈ am_W0 := ⟨am_mem_3 238 (by decide +kernel) rfl, am_mem_4 0 (by decide +kernel) rfl, am_mem_0 19 (by decide +kernel) rfl⟩
theorem mm_X9_52 : Cond.methodLink RX9 52 Lib.Math.max.name ∈ am_W0 ∧ Cond.static Lib.Math.max.name ∈ am_W0 ∧ Cond.initialized "java/lang/Math" ∈ am_W0 ∧ Cond.code Lib.Math.max.name Lib.Math.max.code 2 (some .int) ∈ am_W0 := ⟨am_mem_4 2 (by decide +kernel) rfl, am_mem_2 156 (by decide +kernel) rfl, ini_M, am_mem_2 157 (by decide +kernel) rfl⟩
theorem lc_L_21 : Cond.constantLong RL 21 (Int64.ofInt -4000000000000000001) ∈ am_W0 := am_mem_2 165 (by decide +kernel) rfl
theorem lc_L_25 : Cond.constantLong RL 25 (Int64.ofInt -4000000000000000002) ∈ am_W0 := am_mem_2 166 (by decide +kernel) rfl
theorem lc_L_59 : Cond.constantLong RL 59 (Int64.ofInt -4000000000000000003) ∈ am_W0 := am_mem_2 203 (by decide +kernel) rfl
theorem lc_X10_324 : Cond.constantLong RX10 324 (Int64.ofInt 7) ∈ am_W0 := am_mem_3 185 (by decide +kernel) rfl
theorem lc_X10_326 : Cond.constantLong RX10 326 (Int64.ofInt 31) ∈ am_W0 := am_mem_3 186 (by decide +kernel) rfl
theorem lc_L_190 : Cond.constantLong RL 190 (Int64.ofInt 36) ∈ am_W0 := am_mem_4 146 (by decide +kernel) rfl
theorem lc_L_234 : Cond.constantLong RL 234 (Int64.ofInt 2) ∈ am_W0 := am_mem_4 238 (by decide +kernel) rfl
theorem ic_L_7 : Cond.constant RL 7 (Int32.ofInt 16777619) ∈ am_W0 := am_mem_1 228 (by decide +kernel) rfl
theorem ic_L_8 : Cond.constant RL 8 (Int32.ofInt 69069) ∈ am_W0 := am_mem_1 229 (by decide +kernel) rfl
theorem ic_L_9 : Cond.constant RL 9 (Int32.ofInt 1103515245) ∈ am_W0 := am_mem_1 230 (by decide +kernel) rfl
theorem ic_L_10 : Cond.constant RL 10 (Int32.ofInt 2147483647) ∈ am_W0 := am_mem_1 234 (by decide +kernel) rfl
end
section
/-! NoSuchElementException: its constructor names its class above by another entry (13) of its pool than the chain of the library's laws -/
def am_six : ByteArray := ⟨#[0x2a, 0x2b, 0xb7, 0x00, 0x0d, 0xb1]⟩
def am_NS : String := "java/util/NoSuchElementException"
def am_atX (own : String) (ic : Nat) : List Cond := ((Bundle.throwableAtoms ++ (Bundle.throwableSAtoms ++ (Bundle.passSAtoms am_NS "java/lang/RuntimeException" 13 am_six ++ (Bundle.chainSAtoms "java/lang/RuntimeException" ["java/lang/Exception"] ++
  [.methodLink own ic (Bundle.initS am_NS), .instantiable am_NS 6, .castable am_NS am_NS, .selects am_NS Bundle.tFill0 Bundle.tFill0, .selects am_NS Bundle.tFill Bundle.tFill,
   .lays am_NS Bundle.tN "cause" "Ljava/lang/Throwable;", .lays am_NS Bundle.tN "stackTrace" Bundle.steD, .lays am_NS Bundle.tN "suppressedExceptions" Bundle.listD, .lays am_NS Bundle.tN "detailMessage" "Ljava/lang/String;",
   .fieldLink Bundle.tN 198 Bundle.tN "backtrace" "Ljava/lang/Object;", .lays Bundle.tN Bundle.tN "backtrace" "Ljava/lang/Object;", .lays am_NS Bundle.tN "backtrace" "Ljava/lang/Object;"])))) : List Cond).filter vx_no
def am_THX (own : String) (ik is ic : Nat) : Prop := Cond.classLink own ik am_NS ∈ am_W0 ∧ Cond.initialized am_NS ∈ am_W0 ∧ (∃ tx, Cond.stringRef own is tx ∈ lw_tbl) ∧ (∀ w ∈ am_atX own ic, w ∈ am_W0 ∨ w ∈ am_W1) ∧ (∀ w ∈ am_atX own ic, vx_ot w = true)
/-! throw new NoSuchElementException("text") -/
def am_full (own : String) (ic : Nat) : List Cond := Bundle.throwableAtoms ++ (Bundle.throwableSAtoms ++ (Bundle.passSAtoms am_NS "java/lang/RuntimeException" 13 am_six ++ (Bundle.chainSAtoms "java/lang/RuntimeException" ["java/lang/Exception"] ++
  [.methodLink own ic (Bundle.initS am_NS), .instantiable am_NS 6, .castable am_NS am_NS, .selects am_NS Bundle.tFill0 Bundle.tFill0, .selects am_NS Bundle.tFill Bundle.tFill,
   .lays am_NS Bundle.tN "cause" "Ljava/lang/Throwable;", .lays am_NS Bundle.tN "stackTrace" Bundle.steD, .lays am_NS Bundle.tN "suppressedExceptions" Bundle.listD, .lays am_NS Bundle.tN "detailMessage" "Ljava/lang/String;",
   .fieldLink Bundle.tN 198 Bundle.tN "backtrace" "Ljava/lang/Object;", .lays Bundle.tN Bundle.tN "backtrace" "Ljava/lang/Object;", .lays am_NS Bundle.tN "backtrace" "Ljava/lang/Object;"])))
theorem am_six0 : decode am_six 0 = .ok (.aload_n 0, 1) := by decide +kernel
theorem am_six1 : decode am_six 1 = .ok (.aload_n 1, 1) := by decide +kernel
theorem am_six2 : decode am_six 2 = .ok (.invokespecial 13, 3) := by decide +kernel
theorem am_six5 : decode am_six 5 = .ok (.return_, 1) := by decide +kernel
set_option maxHeartbeats 1000000 in
theorem am_ctorX {p : Program} {l : Launch} {e : Env} {R : Room} {s : State} {m₀ : MethodId} {args : Array Value} {below : List Frame} {meth : Method} {c : Code} {W0 : State} {locs : List Loc} {cells slots : Nat}
    (X : Stand p l e R s m₀ args below meth c W0 locs cells slots) (hexec : p.tables.exec = Jvm.exec) (htr : e.platform.stackTraces = false) {own : String} {ic : Nat} (hown : s.vm.findClass own = some m₀.cls)
    (h : ∀ w ∈ am_full own ic, w.before args s = true) (hU9 : (Cond.isRef (.static Bundle.tN "UNASSIGNED_STACK" Bundle.steD)).before args s = true) (hN9 : (Cond.isRef (.static Bundle.tN "SUPPRESSED_SENTINEL" Bundle.listD)).before args s = true)
    (hlocs : ∀ x ∈ locs, ∀ cell, s.heap[x.base]? = some cell → cell.vm.isStatics = false)
    {a : Addr} {cX : ClassId} {kX : Class} (hfoundX : s.vm.findClass am_NS = some cX) (hkX : s.vm.classes[cX]? = some kX) (hcell : W0.heap[a]? = some (freshCell cX kX)) (hnew : s.heap.size ≤ a)
    {msg : Value} (hmsg : msg.isRef = true)
    {g : JFrame} (hg : g.method = m₀) (hsize : g.locals.size = c.maxLocals) (hlocked : g.locked = none) (hentered : g.entered = []) {rest : List Value} (hstack : g.stack = msg :: .ref a :: .ref a :: rest)
    (hd6 : decode c.code g.pc = .ok (.invokespecial ic, 3)) (hd9 : decode c.code (g.pc + 3) = .ok (.athrow, 1)) (hout : ∀ x ∈ c.exceptionTable.toList, covers x (g.pc + 3) = false)
    (hRframes : 5 < R.frames) (hRlocals : 2 * g.monitorRoom + ((Value.ref a :: rest).map fun v => v.category).sum + 81 ≤ R.locals) (hlocks : meth.locks = false) :
    ∃ U : State, Steps p.tables e below (W0.setTop g) U ∧ U.status = .running ∧ Ended U below (.threw a) ∧ s.WarmedH U.vm ∧ s.sameButNew ({ U with vm := s.vm } : State) locs cells slots ∧
      ∃ ce : Cell, U.heap[a]? = some ce ∧ ce.vm = .none ∧ s.vm.findClass am_NS = some ce.cls := by
  have howns : e.platform.frameOwnsMonitors = true := by rw [X.admits.platform]
  have hfin : e.platform.finalization = false := by rw [X.admits.platform]
  have hpl : e.platform.magicAccessors = ({} : Platform).magicAccessors := by rw [X.admits.platform]
  have a' : ∀ x, x ∈ am_full own ic → x.holds args s none s [] = true := fun x hx => h x hx
  obtain ⟨T, Z0, L, -, Y⟩ := ThrowableC.of_atoms (args := args) howns hfin hpl (fun x hx => h x (List.mem_append_left _ hx))
  obtain ⟨Z, M, LZ, LM, hnZ⟩ := Init0T.ofS_atoms (args := args) hpl L Y (fun x hx => h x (List.mem_append_right _ (List.mem_append_left _ hx)))
  obtain ⟨P2, Ps, hlen, L2, hL, hP2m, hlink2, hlink⟩ := Bundle.chainS (args := args) hpl hnZ ["java/lang/Exception"] "java/lang/RuntimeException" (by decide) (by decide) (fun x hx => h x (List.mem_append_right _ (List.mem_append_right _ (List.mem_append_right _ (List.mem_append_left _ hx)))))
  obtain ⟨P1, L1, hP1m, hs1⟩ := PassC.ofS_atoms (args := args) (s := s) hpl (X := am_NS) (Y := "java/lang/RuntimeException") (index := 13) (bytes := am_six) (by decide) (by decide) am_six0 am_six1 am_six2 am_six5 (fun x hx => h x (List.mem_append_right _ (List.mem_append_right _ (List.mem_append_left _ hx))))
  have hlink1 : P1.sup = P2.m := Option.some.inj (hs1.symm.trans hP2m)
  have hfound : s.vm.findClass am_NS = some P1.m.cls := findClass_of_methodNamed hP1m
  cases Option.some.inj (hfoundX.symm.trans hfound)
  obtain ⟨c1, kX', hc1, hk, hord, -, -, hn6⟩ := Cond.instantiable_spec (a' (.instantiable am_NS 6) (by simp [am_full]))
  cases Option.some.inj (hc1.symm.trans hfound)
  cases Option.some.inj (hkX.symm.trans hk)
  have hsel0 : selectMethod e.platform s.vm P1.m.cls T.fill0 = .method T.fill0 := by
    obtain ⟨c2, r2, m2, q1, q2, q3, q4, -⟩ := Cond.selects_spec (a' (.selects am_NS Bundle.tFill0 Bundle.tFill0) (by simp [am_full]))
    cases Option.some.inj (q1.symm.trans hfound)
    cases Option.some.inj (q2.symm.trans (State.methodFound?_of_named Y.fill0 (by decide)))
    cases Option.some.inj (q3.symm.trans Y.fill0)
    rw [Launch.admits_selectMethod X.admits]; exact q4
  have hselF : selectMethod e.platform s.vm P1.m.cls T.fill = .method T.fill := by
    obtain ⟨c2, r2, m2, q1, q2, q3, q4, -⟩ := Cond.selects_spec (a' (.selects am_NS Bundle.tFill Bundle.tFill) (by simp [am_full]))
    cases Option.some.inj (q1.symm.trans hfound)
    cases Option.some.inj (q2.symm.trans (State.methodFound?_of_named Y.fill (by decide)))
    cases Option.some.inj (q3.symm.trans Y.fill)
    rw [Launch.admits_selectMethod X.admits]; exact q4
  obtain ⟨cellS0, hcS0, hiss⟩ := Y.statics
  obtain ⟨u0, hu0⟩ := Cond.staticRefV Y.unassigned L.unassignedStatic L.statics hcS0 hiss hU9
  obtain ⟨sen, hsen⟩ := Cond.staticRefV Y.sentinel L.sentinelStatic L.statics hcS0 hiss hN9
  obtain ⟨ci198, i198, fB, hk198, hg198, ha198, hsB, -, hnB, htB, hffB⟩ := Cond.ownField (t := .object "java/lang/Object") Y.found L.cls (by decide +kernel) (a' (.fieldLink Bundle.tN 198 Bundle.tN "backtrace" "Ljava/lang/Object;") (by simp [am_full])) (a' (.lays Bundle.tN Bundle.tN "backtrace" "Ljava/lang/Object;") (by simp [am_full])) e.platform hpl
  obtain ⟨cellS, hcS', heS, -, hkeep⟩ := X.same.2.2.2.2.2 T.aS cellS0 hcS0
  have hcellS : W0.heap[T.aS]? = some cellS := hcS'
  have hout' : ∀ i, (⟨T.aS, i⟩ : Loc) ∉ locs := fun i hmem => by
    have := hlocs _ hmem cellS0 hcS0
    rw [hiss] at this; cases this
  have hknownS : cellS.vm ≠ .unknown := by
    rw [heS]; intro hu
    rw [show cellS0.vm = .unknown from hu] at hiss
    cases hiss
  have hneS : T.aS ≠ a := Nat.ne_of_lt (Nat.lt_of_lt_of_le (Array.getElem?_eq_some_iff.mp hcS0).1 hnew)
  obtain ⟨iM, hffM⟩ := Y.msg
  obtain ⟨tyC, dC, hdC, hdnC⟩ := Cond.laysAt hfound hk Y.cause (a' (.lays am_NS Bundle.tN "cause" "Ljava/lang/Throwable;") (by simp [am_full]))
  obtain ⟨tyS, dS, hdS, hdnS⟩ := Cond.laysAt hfound hk Y.stack (a' (.lays am_NS Bundle.tN "stackTrace" Bundle.steD) (by simp [am_full]))
  obtain ⟨tyP, dP, hdP, hdnP⟩ := Cond.laysAt hfound hk Y.supp (a' (.lays am_NS Bundle.tN "suppressedExceptions" Bundle.listD) (by simp [am_full]))
  obtain ⟨tyM, dM, hdM, hdnM⟩ := Cond.laysAt hfound hk hffM (a' (.lays am_NS Bundle.tN "detailMessage" "Ljava/lang/String;") (by simp [am_full]))
  obtain ⟨tyB, dB, hdB, hdnB⟩ := Cond.laysAt hfound hk hffB (a' (.lays am_NS Bundle.tN "backtrace" "Ljava/lang/Object;") (by simp [am_full]))
  have bC := Cond.laysApart hdB hdC hdnB hdnC (by rw [hnB, Y.causeName]; decide)
  have bS := Cond.laysApart hdB hdS hdnB hdnS (by rw [hnB, Y.stackName]; decide)
  have bP := Cond.laysApart hdB hdP hdnB hdnP (by rw [hnB, Y.suppName]; decide)
  have hskip : SkipFacts T e.platform s (fun u => u) u0 ((preparedCellV T.toThrowableT (freshCell P1.m.cls kX) a u0 sen).withEntry W0.cur) :=
    ⟨{ ci198 := ci198, i198 := i198, fBack := fB }, ⟨hk198, hg198, ha198, hsB⟩, by
      have := fresh_default (c := P1.m.cls) tyB
      rw [htB] at this
      simpa [preparedCellV, Cell.setSlot, Cell.withEntry, Array.getElem?_setIfInBounds, bC, bS, bP, bC.symm, bS.symm, bP.symm, defaultValue] using this, fun _ _ => rfl⟩
  obtain ⟨tm, methC, cdC, kC, vm₁, hnC, -, -, -, -, -, -, -, hW₁, st1⟩ := Steps.initColdS (tb := p.tables) (e := e) (below := below) (s := s) (U := W0) X.here hexec X.warmed hpl hown (t := Bundle.initS am_NS) rfl rfl (by decide)
    (a' (.methodLink own ic (Bundle.initS am_NS)) (by simp [am_full])) (h (.instanceMethod (Bundle.initS am_NS)) (by simp [am_full, Bundle.passSAtoms])) (bytes := am_six) (maxL := 2) (h (.code (Bundle.initS am_NS) am_six 2 none) (by simp [am_full, Bundle.passSAtoms]))
    (f := g) hg (a := a) (msg := msg) (rest := .ref a :: rest) hstack hd6
  cases Option.some.inj (hnC.symm.trans hP1m)
  have X₁ := X.noted hW₁
  obtain ⟨vm₂, X₂, st2⟩ := X₁.ctorMessageOffV hexec (g := { g with stack := .ref a :: rest }) hg hsize T L Z LZ M LM (P1 :: P2 :: Ps)
    (fun P hP => by
      rcases List.mem_cons.mp hP with rfl | hP
      · exact L1
      · rcases List.mem_cons.mp hP with rfl | hP
        · exact L2
        · exact hL P hP) ⟨hlink1, hlink2, hlink⟩ (u0 := u0) (sen := sen) (self := a) hmsg (cell := freshCell P1.m.cls kX) (cellS := cellS)
    hcell (fun _ => by simp) (by simp) rfl rfl hsel0 hselF hcellS hneS hknownS (by rw [hkeep _ (hout' _)]; exact hu0) (by rw [hkeep _ (hout' _)]; exact hsen)
    (Takes.of_laid hk hord tyC (by rw [Y.causeType]; rfl)) (Takes.of_laid hk hord tyS (by rw [Y.stackType]; exact fits_refV_array _ u0)) (Takes.of_laid hk hord tyP (by rw [Y.suppType]; exact fits_refV_object _ sen))
    (Takes.of_laid hk hord tyM (by rw [Y.msgType]; exact fits_refV_object _ ⟨msg, hmsg⟩)) Y.objLocals hskip htr [] hd6
    (by simp only [List.length_cons, hlen]; simpa using hRframes) (by simp only [List.length_cons, hlen]; simpa using hRlocals)
  obtain ⟨hwalk, hrun, hended, hWU, hsame⟩ := X₂.athrowLeaves hexec (g := { g with stack := .ref a :: rest, pc := g.pc + 3 }) hg hlocked hentered hout (a := a) (rest := rest) rfl hd9
  have hlt : a < ((W0.setVm vm₁).setVm vm₂).heap.size := (Array.getElem?_eq_some_iff.mp hcell).1
  have hU := heapAt_setCell_self (s := (W0.setVm vm₁).setVm vm₂) (plainBareV T.toThrowableT (freshCell P1.m.cls kX) a u0 sen msg) hlt
  refine ⟨_, st1 _ (fun acts => ?_), hrun, hended, hWU, hsame.weaken (fun y hy hlt' => ?_) (Nat.le_refl _) (Nat.le_refl _), _, hU, rfl, hfound⟩
  · rw [doInvoke_state]
    exact st2 _ hwalk
  · rcases List.mem_append.mp hy with h1 | h1
    · exact h1
    · exfalso
      have hb : y.base = a := by
        simp only [List.mem_cons, List.not_mem_nil, or_false] at h1
        rcases h1 with rfl | rfl | rfl | rfl | rfl <;> rfl
      rw [hb] at hlt'
      exact Nat.not_lt.mpr hnew hlt'
set_option maxHeartbeats 1000000 in
theorem am_throwX {p : Program} {l : Launch} {e : Env} {R : Room} {s : State} {m : MethodId} {args : Array Value} {below : List Frame} {meth : Method} {c : Code} {H : Heap} {locs : List Loc} {cells slots : Nat} {ls : Array Slot} {rest : List Value} {Qc : Array Value → State → Outcome → State → Prop} {XC : String → State → State → Prop} {free : Addr → Prop} {cc : ByteArray} {pc : Nat} (hexec : p.tables.exec = Jvm.exec) (hb : c.code = cc) (hl : l.stackTraces = false) {own text : String} {ik is ic mc ms sa : Nat} {A : Nat → Prop}
    (hown : s.vm.findClass own = some m.cls) (hk : (Cond.classLink own ik am_NS).before args s = true) (hini : (Cond.initialized am_NS).before args s = true) (hstr : vk_R own is text sa s) (hat : ∀ w ∈ am_atX own ic, w.before args s = true) (hgood : ∀ w ∈ am_atX own ic, vx_ot w = true)
    (hU : vx_Zq Bundle.tN "UNASSIGNED_STACK" Bundle.steD A s s.heap) (hN : vx_Zq Bundle.tN "SUPPRESSED_SENTINEL" Bundle.listD A s s.heap) (hS : va_S A s.heap H locs) (hsize : ls.size = c.maxLocals)
    (d0 : decode cc pc = .ok (.new ik, 3)) (d3 : decode cc (pc + 3) = .ok (.dup, 1)) (d4 : decode cc (pc + 4) = .ok (.ldc is, 2)) (d6 : decode cc (pc + 6) = .ok (.invokespecial ic, 3)) (d9 : decode cc (pc + 9) = .ok (.athrow, 1))
    (hout : ∀ x ∈ c.exceptionTable.toList, covers x (pc + 9) = false) (hRframes : 5 < R.frames) (hRlocals : (rest.map fun v => v.category).sum + 82 ≤ R.locals) (hRcells : cells + 1 ≤ R.cells) (hRslots : slots + 6 ≤ R.slots) (hlocks : meth.locks = false)
    (hx : ∀ t : State, s.vm.Alike t.vm → H.size ≤ t.heap.size → (∀ q : Nat, q < H.size → t.heap[q]? = H[q]?) → XC am_NS s t) (hf : ∀ z ∈ locs, free z.base) (hc : cells + 1 ≤ mc) (hs : slots + 6 ≤ ms) :
    W p l e R s m args below meth c H locs cells slots (vx_MQ below Qc XC args s mc ms free) (F0 m pc ls rest) := by
  intro T hT X
  have htr : e.platform.stackTraces = false := (show e.platform.stackTraces = l.stackTraces by rw [X.admits.platform]).trans hl
  have Y := vx_rebase X (R' := { frames := R.frames, locals := R.locals, cells := 1, slots := 6 }) (Nat.le_refl _) (Nat.le_refl _) hRcells hRslots
  obtain ⟨s', hA⟩ : ∃ z, z = (T.setVm s.vm).setFrames (.invoking m args :: below) := ⟨_, rfl⟩
  rw [← hA] at Y
  have hvm : s'.vm = s.vm := by rw [hA]; rfl
  have hhp : s'.heap = H := by rw [hA]; exact hT
  have hW0 : s.WarmedH s'.vm := by rw [hvm]; exact State.WarmedH.refl s
  have hat' : ∀ w ∈ am_atX own ic, w.before args s' = true := fun w hw => vx_ot_at hW0 hvm.symm (hgood w hw) (hat w hw)
  have hk' : (Cond.classLink own ik am_NS).before args s' = true := vx_ot_at hW0 hvm.symm rfl hk
  have hini' : (Cond.initialized am_NS).before args s' = true := vx_ot_at hW0 hvm.symm rfl hini
  have hU' : vx_Zq Bundle.tN "UNASSIGNED_STACK" Bundle.steD A s' s'.heap := by rw [hhp]; exact vx_Zq.moved hW0.alike (hU.kept hS.2.1)
  have hN' : vx_Zq Bundle.tN "SUPPRESSED_SENTINEL" Bundle.listD A s' s'.heap := by rw [hhp]; exact vx_Zq.moved hW0.alike (hN.kept hS.2.1)
  have h : ∀ w ∈ am_full own ic, w.before args s' = true := vx_own hat' (vx_isRefq hU'.1) (vx_isRefq hN'.1) hU'.2.word hN'.2.word
  have hown' : s'.vm.findClass own = some m.cls := by rw [hvm]; exact hown
  have hins : (Cond.instantiable am_NS 6).before args s' = true := h _ (by simp [am_full])
  obtain ⟨vm₁, cX, kX, hfX, hkX, -, -, X₁, st1⟩ := Y.newCold hexec (own := own) (C := am_NS) (index := ik) (n := 6) hown' hk' hins hini'
    (g := F0 m pc ls rest) rfl (by rw [hb]; exact d0) (Nat.le_refl _) (Nat.le_refl _)
  generalize hT1 : (T.setVm vm₁).pushCell { cls := cX, slots := kX.instanceTypes.map defaultValue, vm := .none } = T1 at X₁ st1
  have hcat : (Value.ref T.heap.size).category = 1 := rfl
  have hcellA : T1.heap[T.heap.size]? = some (freshCell cX kX) := by rw [← hT1]; exact State.heap_pushCell_size _ _
  have d3' : decode c.code (pc + 3) = .ok (.dup, 1) := by rw [hb]; exact d3
  have d4' : decode c.code (pc + 4) = .ok (.ldc is, 2) := by rw [hb]; exact d4
  have hstr' : vk_R own is text sa s' := vk_R.warm hW0 hstr
  obtain ⟨U, hsteps, hrun, hend, hW, hsame, ce, hce, hO1, hO2⟩ := am_ctorX X₁ hexec htr (own := own) (ic := ic) hown' h (vx_isRefq hU'.1) (vx_isRefq hN'.1) (fun x hx => nomatch hx) hfX hkX hcellA (by rw [hhp, hT]; exact Nat.le_refl _) (msg := .ref sa) rfl
    (g := { method := m, pc := pc + 6, locals := ls, stack := .ref sa :: .ref T.heap.size :: .ref T.heap.size :: rest, locked := none }) rfl hsize rfl rfl (rest := rest) rfl
    (by rw [hb]; exact d6) (by rw [hb]; exact d9) hout hRframes (by simp only [List.map_cons, List.sum_cons, hcat]; show 2 * 0 + _ + 81 ≤ R.locals; omega) hlocks
  obtain ⟨f1, f2⟩ := vx_frame hsame
  rw [hhp] at f1 f2
  have hWs : s.WarmedH U.vm := State.WarmedH.trans hW0 hW
  have hcl : s.vm.findClass am_NS = some ce.cls := by
    rw [hvm] at hO2
    exact hO2
  have hall : s.sameButNew ({ U with vm := s.vm } : State) locs mc ms := by
    subst hA
    obtain ⟨e1, e2⟩ := hsame
    rw [State.setFrames_setFrames] at e1
    have h2 : (T.setVm s.vm).sameButNew ({ U with vm := s.vm } : State) [] (0 + 1) (0 + 6) := ⟨e1, e2⟩
    have h3 := X.same.trans h2
    rw [List.append_nil] at h3
    exact h3.mono hc hs
  refine ⟨U, ?_, .threw T.heap.size, hrun, hend, Or.inr ⟨T.heap.size, rfl, am_NS, ce, locs, hx U hWs.alike f1 (fun q hq => f2 q hq (fun z hz => nomatch hz)), hce, hO1, hcl, hWs, hall, hf⟩⟩
  refine st1 _ ?_
  show Steps p.tables e below (T1.setTop { method := m, pc := pc + 3, locals := ls, stack := .ref T.heap.size :: rest, locked := none }) _
  jvm_step X₁.here [X₁.here.top, hexec, d3', Value.category]
  exact X₁.ldcString hexec (own := own) (text := text) (index := is) (a := sa) hown' hstr'.1 hstr'.2
    (g := { method := m, pc := pc + 4, locals := ls, stack := .ref T.heap.size :: .ref T.heap.size :: rest, locked := none }) rfl d4' _ hsteps
theorem v_throwX {m : MInfo} {kc ks pc : Nat} {E st : List AV} {ρ : Rho} {h : Hh} {Q : PQ} {X : PX} {ik is ic : Nat} (d0 : decode (am_cc m) pc = .ok (.new ik, 3)) (d3 : decode (am_cc m) (pc + 3) = .ok (.dup, 1)) (d4 : decode (am_cc m) (pc + 4) = .ok (.ldc is, 2)) (d6 : decode (am_cc m) (pc + 6) = .ok (.invokespecial ic, 3)) (d9 : decode (am_cc m) (pc + 9) = .ok (.athrow, 1)) (ht : am_THX (am_own m) ik is ic) (hlaw : am_law m = false) (hhh : am_hh m = []) (hfr : 6 ≤ am_fr m) (hst : am_ct st ≤ 16) (h1 : 1 ≤ kc) (h6 : 6 ≤ ks) (hX : X "java/util/NoSuchElementException" (ρ.1, ρ.2.1, false) h) : am_V m kc ks pc E st ρ h Q X := by
  intro l p e R s q args below meth c D cA B b g0 g1 Z H locs cells slots ls hC hZ hR hL hS hF hc hs
  rcases hZ with ⟨-, hZ⟩ | ⟨z, -⟩
  · subst hZ
    obtain ⟨t1, t2, ⟨tx, t3⟩, t4, t5⟩ := ht
    have hw := hC.2.2.2.2.2.2.1
    have hsum := am_sum B b st
    have hfr9 := hC.2.2.2.2.2.2.2.2.2.2.2.2.2.2.2.2.1
    have hlo9 := hC.2.2.2.2.2.2.2.2.2.2.2.2.2.2.2.2.2.1
    obtain ⟨sa, hsa⟩ := hC.2.2.2.2.2.2.2.2.1.1 _ _ _ t3
    have htab : c.exceptionTable.toList = [] := (am_tab hC.2.2.2.2.2.2.2.2.2.2.2.2.2.2.1 hlaw).trans (am_nil hhh)
    refine am_throwX (sa := sa) hC.2.1 hC.2.2.1 hC.1 hC.2.2.2.2.2.1 (hw _ t1) (hw _ t2) hsa (fun w9 hw9 => ?_) t5 hC.2.2.2.2.2.2.2.2.2.2.2.1 hC.2.2.2.2.2.2.2.2.2.2.2.2.1 hF (hL.1.trans hC.2.2.2.2.1.symm) d0 d3 d4 d6 d9 (fun x9 hx9 => by rw [htab] at hx9; cases hx9) (by omega) (by omega) (by omega) (by omega) hC.2.2.2.2.2.2.2.2.2.1 (fun t hal hsz ho => ⟨_, h, hX, hR.up ho, ?_⟩) hF.2.2 (by omega) (by omega)
    · rcases t4 w9 hw9 with z | z
      · exact hw _ z
      · exact va_Nw.use (am_W1ot z) (hC.2.2.2.2.2.2.2.1 _ z)
    · exact ⟨Nat.le_trans hF.1 hsz, fun q1 k1 k2 => (ho q1 (Nat.lt_of_lt_of_le k1 hF.1)).trans (hF.2.1 q1 k1 k2)⟩
  · rw [hlaw] at z
    cases z
set_option maxHeartbeats 1000000 in
theorem am_throwXW {p : Program} {l : Launch} {e : Env} {R : Room} {s : State} {m : MethodId} {args : Array Value} {below : List Frame} {meth : Method} {c : Code} {H : Heap} {locs : List Loc} {cells slots : Nat} {ls : Array Slot} {rest : List Value} {Qc : Array Value → State → Outcome → State → Prop} {XC : String → State → State → Prop} {free : Addr → Prop} {cc : ByteArray} {pc : Nat} (hexec : p.tables.exec = Jvm.exec) (hb : c.code = cc) (hl : l.stackTraces = false) {own text : String} {ik is ic mc ms sa : Nat} {A : Nat → Prop}
    (hown : s.vm.findClass own = some m.cls) (hk : (Cond.classLink own ik am_NS).before args s = true) (hini : (Cond.initialized am_NS).before args s = true) (hstr : vk_R own is text sa s) (hat : ∀ w ∈ am_atX own ic, w.before args s = true) (hgood : ∀ w ∈ am_atX own ic, vx_ot w = true)
    (hU : vx_Zq Bundle.tN "UNASSIGNED_STACK" Bundle.steD A s s.heap) (hN : vx_Zq Bundle.tN "SUPPRESSED_SENTINEL" Bundle.listD A s s.heap) (hS : va_S A s.heap H locs) (hsize : ls.size = c.maxLocals)
    (d0 : decode cc pc = .ok (.new ik, 3)) (d3 : decode cc (pc + 3) = .ok (.dup, 1)) (d4 : decode cc (pc + 4) = .ok (.ldc_w is, 3)) (d6 : decode cc (pc + 7) = .ok (.invokespecial ic, 3)) (d9 : decode cc (pc + 10) = .ok (.athrow, 1))
    (hout : ∀ x ∈ c.exceptionTable.toList, covers x (pc + 10) = false) (hRframes : 5 < R.frames) (hRlocals : (rest.map fun v => v.category).sum + 82 ≤ R.locals) (hRcells : cells + 1 ≤ R.cells) (hRslots : slots + 6 ≤ R.slots) (hlocks : meth.locks = false)
    (hx : ∀ t : State, s.vm.Alike t.vm → H.size ≤ t.heap.size → (∀ q : Nat, q < H.size → t.heap[q]? = H[q]?) → XC am_NS s t) (hf : ∀ z ∈ locs, free z.base) (hc : cells + 1 ≤ mc) (hs : slots + 6 ≤ ms) :
    W p l e R s m args below meth c H locs cells slots (vx_MQ below Qc XC args s mc ms free) (F0 m pc ls rest) := by
  intro T hT X
  have htr : e.platform.stackTraces = false := (show e.platform.stackTraces = l.stackTraces by rw [X.admits.platform]).trans hl
  have Y := vx_rebase X (R' := { frames := R.frames, locals := R.locals, cells := 1, slots := 6 }) (Nat.le_refl _) (Nat.le_refl _) hRcells hRslots
  obtain ⟨s', hA⟩ : ∃ z, z = (T.setVm s.vm).setFrames (.invoking m args :: below) := ⟨_, rfl⟩
  rw [← hA] at Y
  have hvm : s'.vm = s.vm := by rw [hA]; rfl
  have hhp : s'.heap = H := by rw [hA]; exact hT
  have hW0 : s.WarmedH s'.vm := by rw [hvm]; exact State.WarmedH.refl s
  have hat' : ∀ w ∈ am_atX own ic, w.before args s' = true := fun w hw => vx_ot_at hW0 hvm.symm (hgood w hw) (hat w hw)
  have hk' : (Cond.classLink own ik am_NS).before args s' = true := vx_ot_at hW0 hvm.symm rfl hk
  have hini' : (Cond.initialized am_NS).before args s' = true := vx_ot_at hW0 hvm.symm rfl hini
  have hU' : vx_Zq Bundle.tN "UNASSIGNED_STACK" Bundle.steD A s' s'.heap := by rw [hhp]; exact vx_Zq.moved hW0.alike (hU.kept hS.2.1)
  have hN' : vx_Zq Bundle.tN "SUPPRESSED_SENTINEL" Bundle.listD A s' s'.heap := by rw [hhp]; exact vx_Zq.moved hW0.alike (hN.kept hS.2.1)
  have h : ∀ w ∈ am_full own ic, w.before args s' = true := vx_own hat' (vx_isRefq hU'.1) (vx_isRefq hN'.1) hU'.2.word hN'.2.word
  have hown' : s'.vm.findClass own = some m.cls := by rw [hvm]; exact hown
  have hins : (Cond.instantiable am_NS 6).before args s' = true := h _ (by simp [am_full])
  obtain ⟨vm₁, cX, kX, hfX, hkX, -, -, X₁, st1⟩ := Y.newCold hexec (own := own) (C := am_NS) (index := ik) (n := 6) hown' hk' hins hini'
    (g := F0 m pc ls rest) rfl (by rw [hb]; exact d0) (Nat.le_refl _) (Nat.le_refl _)
  generalize hT1 : (T.setVm vm₁).pushCell { cls := cX, slots := kX.instanceTypes.map defaultValue, vm := .none } = T1 at X₁ st1
  have hcat : (Value.ref T.heap.size).category = 1 := rfl
  have hcellA : T1.heap[T.heap.size]? = some (freshCell cX kX) := by rw [← hT1]; exact State.heap_pushCell_size _ _
  have d3' : decode c.code (pc + 3) = .ok (.dup, 1) := by rw [hb]; exact d3
  have d4' : decode c.code (pc + 4) = .ok (.ldc_w is, 3) := by rw [hb]; exact d4
  have hstr' : vk_R own is text sa s' := vk_R.warm hW0 hstr
  obtain ⟨U, hsteps, hrun, hend, hW, hsame, ce, hce, hO1, hO2⟩ := am_ctorX X₁ hexec htr (own := own) (ic := ic) hown' h (vx_isRefq hU'.1) (vx_isRefq hN'.1) (fun x hx => nomatch hx) hfX hkX hcellA (by rw [hhp, hT]; exact Nat.le_refl _) (msg := .ref sa) rfl
    (g := { method := m, pc := pc + 7, locals := ls, stack := .ref sa :: .ref T.heap.size :: .ref T.heap.size :: rest, locked := none }) rfl hsize rfl rfl (rest := rest) rfl
    (by rw [hb]; exact d6) (by rw [hb]; exact d9) hout hRframes (by simp only [List.map_cons, List.sum_cons, hcat]; show 2 * 0 + _ + 81 ≤ R.locals; omega) hlocks
  obtain ⟨f1, f2⟩ := vx_frame hsame
  rw [hhp] at f1 f2
  have hWs : s.WarmedH U.vm := State.WarmedH.trans hW0 hW
  have hcl : s.vm.findClass am_NS = some ce.cls := by
    rw [hvm] at hO2
    exact hO2
  have hall : s.sameButNew ({ U with vm := s.vm } : State) locs mc ms := by
    subst hA
    obtain ⟨e1, e2⟩ := hsame
    rw [State.setFrames_setFrames] at e1
    have h2 : (T.setVm s.vm).sameButNew ({ U with vm := s.vm } : State) [] (0 + 1) (0 + 6) := ⟨e1, e2⟩
    have h3 := X.same.trans h2
    rw [List.append_nil] at h3
    exact h3.mono hc hs
  refine ⟨U, ?_, .threw T.heap.size, hrun, hend, Or.inr ⟨T.heap.size, rfl, am_NS, ce, locs, hx U hWs.alike f1 (fun q hq => f2 q hq (fun z hz => nomatch hz)), hce, hO1, hcl, hWs, hall, hf⟩⟩
  refine st1 _ ?_
  show Steps p.tables e below (T1.setTop { method := m, pc := pc + 3, locals := ls, stack := .ref T.heap.size :: rest, locked := none }) _
  jvm_step X₁.here [X₁.here.top, hexec, d3', Value.category]
  exact X₁.ldcStringW hexec (own := own) (text := text) (index := is) (a := sa) hown' hstr'.1 hstr'.2
    (g := { method := m, pc := pc + 4, locals := ls, stack := .ref T.heap.size :: .ref T.heap.size :: rest, locked := none }) rfl d4' _ hsteps
theorem v_throwXW {m : MInfo} {kc ks pc : Nat} {E st : List AV} {ρ : Rho} {h : Hh} {Q : PQ} {X : PX} {ik is ic : Nat} (d0 : decode (am_cc m) pc = .ok (.new ik, 3)) (d3 : decode (am_cc m) (pc + 3) = .ok (.dup, 1)) (d4 : decode (am_cc m) (pc + 4) = .ok (.ldc_w is, 3)) (d6 : decode (am_cc m) (pc + 7) = .ok (.invokespecial ic, 3)) (d9 : decode (am_cc m) (pc + 10) = .ok (.athrow, 1)) (ht : am_THX (am_own m) ik is ic) (hlaw : am_law m = false) (hhh : am_hh m = []) (hfr : 6 ≤ am_fr m) (hst : am_ct st ≤ 16) (h1 : 1 ≤ kc) (h6 : 6 ≤ ks) (hX : X "java/util/NoSuchElementException" (ρ.1, ρ.2.1, false) h) : am_V m kc ks pc E st ρ h Q X := by
  intro l p e R s q args below meth c D cA B b g0 g1 Z H locs cells slots ls hC hZ hR hL hS hF hc hs
  rcases hZ with ⟨-, hZ⟩ | ⟨z, -⟩
  · subst hZ
    obtain ⟨t1, t2, ⟨tx, t3⟩, t4, t5⟩ := ht
    have hw := hC.2.2.2.2.2.2.1
    have hsum := am_sum B b st
    have hfr9 := hC.2.2.2.2.2.2.2.2.2.2.2.2.2.2.2.2.1
    have hlo9 := hC.2.2.2.2.2.2.2.2.2.2.2.2.2.2.2.2.2.1
    obtain ⟨sa, hsa⟩ := hC.2.2.2.2.2.2.2.2.1.1 _ _ _ t3
    have htab : c.exceptionTable.toList = [] := (am_tab hC.2.2.2.2.2.2.2.2.2.2.2.2.2.2.1 hlaw).trans (am_nil hhh)
    refine am_throwXW (sa := sa) hC.2.1 hC.2.2.1 hC.1 hC.2.2.2.2.2.1 (hw _ t1) (hw _ t2) hsa (fun w9 hw9 => ?_) t5 hC.2.2.2.2.2.2.2.2.2.2.2.1 hC.2.2.2.2.2.2.2.2.2.2.2.2.1 hF (hL.1.trans hC.2.2.2.2.1.symm) d0 d3 d4 d6 d9 (fun x9 hx9 => by rw [htab] at hx9; cases hx9) (by omega) (by omega) (by omega) (by omega) hC.2.2.2.2.2.2.2.2.2.1 (fun t hal hsz ho => ⟨_, h, hX, hR.up ho, ?_⟩) hF.2.2 (by omega) (by omega)
    · rcases t4 w9 hw9 with z | z
      · exact hw _ z
      · exact va_Nw.use (am_W1ot z) (hC.2.2.2.2.2.2.2.1 _ z)
    · exact ⟨Nat.le_trans hF.1 hsz, fun q1 k1 k2 => (ho q1 (Nat.lt_of_lt_of_le k1 hF.1)).trans (hF.2.1 q1 k1 k2)⟩
  · rw [hlaw] at z
    cases z
end
section
theorem cls_X1 : am_clsOK (RX1, TX1, 3) := by
  refine ⟨am_uws (fun k hk => ?_), by decide +kernel⟩
  have hk : k < 3 := hk
  match k, hk with
  | 0, _ => exact am_mem_1 60 (by decide +kernel) rfl
  | 1, _ => exact am_mem_1 62 (by decide +kernel) rfl
  | 2, _ => exact am_mem_1 64 (by decide +kernel) rfl

theorem cls_X2 : am_clsOK (RX2, TX2, 1) := by
  refine ⟨am_uws (fun k hk => ?_), by decide +kernel⟩
  have hk : k < 1 := hk
  match k, hk with
  | 0, _ => exact am_mem_1 146 (by decide +kernel) rfl

theorem cls_X3 : am_clsOK (RX3, TX3, 0) := by
  refine ⟨am_uws (fun k hk => ?_), by decide +kernel⟩
  exact absurd hk (Nat.not_lt_zero k)
theorem cls_X5 : am_clsOK (RX5, TX5, 3) := by
  refine ⟨am_uws (fun k hk => ?_), by decide +kernel⟩
  have hk : k < 3 := hk
  match k, hk with
  | 0, _ => exact am_mem_1 100 (by decide +kernel) rfl
  | 1, _ => exact am_mem_1 102 (by decide +kernel) rfl
  | 2, _ => exact am_mem_1 104 (by decide +kernel) rfl

theorem cls_X6 : am_clsOK (RX6, TX6, 5) := by
  refine ⟨am_uws (fun k hk => ?_), by decide +kernel⟩
  have hk : k < 5 := hk
  match k, hk with
  | 0, _ => exact am_mem_1 183 (by decide +kernel) rfl
  | 1, _ => exact am_mem_1 185 (by decide +kernel) rfl
  | 2, _ => exact am_mem_1 187 (by decide +kernel) rfl
  | 3, _ => exact am_mem_1 189 (by decide +kernel) rfl
  | 4, _ => exact am_mem_1 191 (by decide +kernel) rfl

theorem cls_X7 : am_clsOK (RX7, TX7, 5) := by
  refine ⟨am_uws (fun k hk => ?_), by decide +kernel⟩
  have hk : k < 5 := hk
  match k, hk with
  | 0, _ => exact am_mem_1 80 (by decide +kernel) rfl
  | 1, _ => exact am_mem_1 82 (by decide +kernel) rfl
  | 2, _ => exact am_mem_1 84 (by decide +kernel) rfl
  | 3, _ => exact am_mem_1 86 (by decide +kernel) rfl
  | 4, _ => exact am_mem_1 88 (by decide +kernel) rfl

theorem cls_X8 : am_clsOK (RX8, TX8, 2) := by
  refine ⟨am_uws (fun k hk => ?_), by decide +kernel⟩
  have hk : k < 2 := hk
  match k, hk with
  | 0, _ => exact am_mem_1 45 (by decide +kernel) rfl
  | 1, _ => exact am_mem_1 47 (by decide +kernel) rfl

theorem cls_X9 : am_clsOK (RX9, TX9, 5) := by
  refine ⟨am_uws (fun k hk => ?_), by decide +kernel⟩
  have hk : k < 5 := hk
  match k, hk with
  | 0, _ => exact am_mem_1 118 (by decide +kernel) rfl
  | 1, _ => exact am_mem_1 120 (by decide +kernel) rfl
  | 2, _ => exact am_mem_1 122 (by decide +kernel) rfl
  | 3, _ => exact am_mem_1 124 (by decide +kernel) rfl
  | 4, _ => exact am_mem_1 126 (by decide +kernel) rfl

theorem cls_X10 : am_clsOK (RX10, TX10, 10) := by
  refine ⟨am_uws (fun k hk => ?_), by decide +kernel⟩
  have hk : k < 10 := hk
  match k, hk with
  | 0, _ => exact am_mem_1 204 (by decide +kernel) rfl
  | 1, _ => exact am_mem_1 206 (by decide +kernel) rfl
  | 2, _ => exact am_mem_1 208 (by decide +kernel) rfl
  | 3, _ => exact am_mem_1 210 (by decide +kernel) rfl
  | 4, _ => exact am_mem_1 212 (by decide +kernel) rfl
  | 5, _ => exact am_mem_1 214 (by decide +kernel) rfl
  | 6, _ => exact am_mem_1 216 (by decide +kernel) rfl
  | 7, _ => exact am_mem_1 218 (by decide +kernel) rfl
  | 8, _ => exact am_mem_1 220 (by decide +kernel) rfl
  | 9, _ => exact am_mem_1 222 (by decide +kernel) rfl

theorem am_clsA : ∀ q ∈ am_cl, am_clsOK q := List.forall_mem_cons.mpr ⟨cls_X1, List.forall_mem_cons.mpr ⟨cls_X2, List.forall_mem_cons.mpr ⟨cls_X3, List.forall_mem_cons.mpr ⟨cls_X5, List.forall_mem_cons.mpr ⟨cls_X6, List.forall_mem_cons.mpr ⟨cls_X7, List.forall_mem_cons.mpr ⟨cls_X8, List.forall_mem_cons.mpr ⟨cls_X9, List.forall_mem_cons.mpr ⟨cls_X10, fun _ h => absurd h List.not_mem_nil⟩⟩⟩⟩⟩⟩⟩⟩⟩
def ca9_77 : List Cond := ([11, 12, 13, 14, 28, 29, 30, 38, 56, 73, 96, 112, 137, 153].filterMap (fun i => tables_1_1[i]?)) ++ ([5, 6, 7, 8, 9, 10, 11, 12, 13, 14, 15, 16, 17, 18, 19, 20, 21, 22, 23, 24, 25, 26, 27, 28, 29, 30, 31, 32, 33, 34, 35, 36, 37, 38, 39, 40, 41, 42, 43, 44, 45, 46, 47, 48, 49, 50, 55, 56, 57, 58, 59, 60, 61, 62, 63, 64, 65, 66, 67, 68, 69, 70, 89, 90, 91, 92, 93, 94, 97, 98, 106, 107, 108, 109, 110, 111, 116, 117, 118, 170, 178, 179, 180, 181, 182, 183, 184, 185, 186, 188, 189, 190, 191, 192, 193, 219, 220, 221, 222, 223, 224, 229, 230, 231].filterMap (fun i => tables_1_2[i]?)) ++ ([56, 57, 58, 59, 60, 61, 66, 67, 68, 239].filterMap (fun i => tables_1_4[i]?)) ++ ([12, 18].filterMap (fun i => tables_1_5[i]?))
theorem ca8_77 : ∀ w ∈ ca9_77, w ∈ lw_tbl := by
  intro w hw
  simp only [ca9_77, List.mem_append, List.mem_filterMap] at hw
  rcases hw with ((⟨i, -, h⟩ | ⟨i, -, h⟩) | ⟨i, -, h⟩) | ⟨i, -, h⟩
  · exact am_in_1 i h
  · exact am_in_2 i h
  · exact am_in_4 i h
  · exact am_in_5 i h
theorem ca7_77 : ∀ w ∈ vx_atS RX10 77 "java/lang/IllegalArgumentException" ["java/lang/RuntimeException", "java/lang/Exception"], w ∈ ca9_77 ∧ (goodWord w = true ∨ am_w1 w = true) := by decide +kernel
theorem at_77 : (∀ w ∈ vx_atS RX10 77 "java/lang/IllegalArgumentException" ["java/lang/RuntimeException", "java/lang/Exception"], w ∈ am_W0 ∨ w ∈ am_W1) ∧ (∀ w ∈ vx_atS RX10 77 "java/lang/IllegalArgumentException" ["java/lang/RuntimeException", "java/lang/Exception"], vx_ot w = true) := ⟨fun w hw => (ca7_77 w hw).2.elim (fun g => Or.inl (List.mem_filter.mpr ⟨ca8_77 w (ca7_77 w hw).1, g⟩)) (fun g => Or.inr (List.mem_filter.mpr ⟨ca8_77 w (ca7_77 w hw).1, g⟩)), by decide +kernel⟩
theorem th_73_75_77 : am_TH RX10 73 75 77 "java/lang/IllegalArgumentException" := ⟨am_mem_2 178 (by decide +kernel) rfl, am_mem_1 14 (by decide +kernel) rfl, ⟨"no such sign", am_in_2 187 (by decide +kernel)⟩, at_77.1, List.forall_mem_cons.mpr ⟨rfl, List.forall_mem_cons.mpr ⟨rfl, at_77.2⟩⟩, by decide⟩
theorem th_73_211_77 : am_TH RX10 73 211 77 "java/lang/IllegalArgumentException" := ⟨am_mem_2 178 (by decide +kernel) rfl, am_mem_1 14 (by decide +kernel) rfl, ⟨"the word has not so many signs", am_in_4 216 (by decide +kernel)⟩, at_77.1, List.forall_mem_cons.mpr ⟨rfl, List.forall_mem_cons.mpr ⟨rfl, at_77.2⟩⟩, by decide⟩
theorem th_73_344_77 : am_TH RX10 73 344 77 "java/lang/IllegalArgumentException" := ⟨am_mem_2 178 (by decide +kernel) rfl, am_mem_1 14 (by decide +kernel) rfl, ⟨"classes are told by 1 to 64 signs", am_in_3 26 (by decide +kernel)⟩, at_77.1, List.forall_mem_cons.mpr ⟨rfl, List.forall_mem_cons.mpr ⟨rfl, at_77.2⟩⟩, by decide⟩
def ca9_88 : List Cond := ([11, 12, 13, 15, 28, 29, 30, 38, 56, 73, 96, 112, 137, 153].filterMap (fun i => tables_1_1[i]?)) ++ ([5, 6, 7, 8, 9, 10, 11, 12, 13, 14, 15, 16, 17, 18, 19, 20, 21, 22, 23, 24, 25, 26, 27, 28, 29, 30, 31, 32, 33, 34, 35, 36, 37, 38, 39, 40, 41, 42, 43, 44, 45, 46, 47, 48, 49, 50, 55, 56, 57, 58, 59, 60, 61, 62, 63, 64, 65, 66, 67, 68, 69, 70, 77, 89, 90, 91, 92, 93, 94, 97, 98, 103, 104, 105, 106, 107, 108, 109, 110, 111, 113, 114, 115, 116, 117, 118, 181, 182, 183, 184, 185, 186, 191, 192, 193, 219, 220, 221, 222, 223, 224, 229, 230, 231].filterMap (fun i => tables_1_2[i]?)) ++ ([56, 57, 58, 59, 60, 61, 66, 67, 68, 239].filterMap (fun i => tables_1_4[i]?)) ++ ([13, 18].filterMap (fun i => tables_1_5[i]?))
theorem ca8_88 : ∀ w ∈ ca9_88, w ∈ lw_tbl := by
  intro w hw
  simp only [ca9_88, List.mem_append, List.mem_filterMap] at hw
  rcases hw with ((⟨i, -, h⟩ | ⟨i, -, h⟩) | ⟨i, -, h⟩) | ⟨i, -, h⟩
  · exact am_in_1 i h
  · exact am_in_2 i h
  · exact am_in_4 i h
  · exact am_in_5 i h
theorem ca7_88 : ∀ w ∈ vx_atS RX10 88 "java/lang/IllegalStateException" ["java/lang/RuntimeException", "java/lang/Exception"], w ∈ ca9_88 ∧ (goodWord w = true ∨ am_w1 w = true) := by decide +kernel
theorem at_88 : (∀ w ∈ vx_atS RX10 88 "java/lang/IllegalStateException" ["java/lang/RuntimeException", "java/lang/Exception"], w ∈ am_W0 ∨ w ∈ am_W1) ∧ (∀ w ∈ vx_atS RX10 88 "java/lang/IllegalStateException" ["java/lang/RuntimeException", "java/lang/Exception"], vx_ot w = true) := ⟨fun w hw => (ca7_88 w hw).2.elim (fun g => Or.inl (List.mem_filter.mpr ⟨ca8_88 w (ca7_88 w hw).1, g⟩)) (fun g => Or.inr (List.mem_filter.mpr ⟨ca8_88 w (ca7_88 w hw).1, g⟩)), by decide +kernel⟩
theorem th_84_86_88 : am_TH RX10 84 86 88 "java/lang/IllegalStateException" := ⟨am_mem_2 103 (by decide +kernel) rfl, am_mem_1 15 (by decide +kernel) rfl, ⟨"the typed row is full", am_in_4 36 (by decide +kernel)⟩, at_88.1, List.forall_mem_cons.mpr ⟨rfl, List.forall_mem_cons.mpr ⟨rfl, at_88.2⟩⟩, by decide⟩
theorem th_84_152_88 : am_TH RX10 84 152 88 "java/lang/IllegalStateException" := ⟨am_mem_2 103 (by decide +kernel) rfl, am_mem_1 15 (by decide +kernel) rfl, ⟨"the text is full", am_in_2 194 (by decide +kernel)⟩, at_88.1, List.forall_mem_cons.mpr ⟨rfl, List.forall_mem_cons.mpr ⟨rfl, at_88.2⟩⟩, by decide⟩
theorem th_84_350_88 : am_TH RX10 84 350 88 "java/lang/IllegalStateException" := ⟨am_mem_2 103 (by decide +kernel) rfl, am_mem_1 15 (by decide +kernel) rfl, ⟨"there are 8 texts", am_in_2 112 (by decide +kernel)⟩, at_88.1, List.forall_mem_cons.mpr ⟨rfl, List.forall_mem_cons.mpr ⟨rfl, at_88.2⟩⟩, by decide⟩
def ca9_101 : List Cond := ([11, 12, 13, 21, 28, 29, 30, 38, 56, 73, 96, 112, 137, 153].filterMap (fun i => tables_1_1[i]?)) ++ ([5, 6, 7, 8, 9, 10, 11, 12, 13, 14, 15, 16, 17, 18, 19, 20, 21, 22, 23, 24, 25, 26, 27, 28, 29, 30, 31, 32, 33, 34, 35, 36, 37, 38, 39, 40, 41, 42, 43, 44, 45, 46, 47, 48, 49, 50, 55, 56, 57, 58, 59, 60, 61, 62, 63, 64, 65, 66, 67, 68, 69, 70, 89, 90, 91, 92, 93, 94, 97, 98, 106, 107, 108, 109, 110, 111, 116, 117, 118, 181, 182, 183, 184, 185, 186, 191, 192, 193, 207, 216, 217, 218, 219, 220, 221, 222, 223, 224, 226, 227, 228, 229, 230, 231].filterMap (fun i => tables_1_2[i]?)) ++ ([56, 57, 58, 59, 60, 61, 66, 67, 68, 239].filterMap (fun i => tables_1_4[i]?)) ++ ([17, 18].filterMap (fun i => tables_1_5[i]?))
theorem ca8_101 : ∀ w ∈ ca9_101, w ∈ lw_tbl := by
  intro w hw
  simp only [ca9_101, List.mem_append, List.mem_filterMap] at hw
  rcases hw with ((⟨i, -, h⟩ | ⟨i, -, h⟩) | ⟨i, -, h⟩) | ⟨i, -, h⟩
  · exact am_in_1 i h
  · exact am_in_2 i h
  · exact am_in_4 i h
  · exact am_in_5 i h
theorem ca7_101 : ∀ w ∈ am_atX RX10 101, w ∈ ca9_101 ∧ (goodWord w = true ∨ am_w1 w = true) := by decide +kernel
theorem at_101 : (∀ w ∈ am_atX RX10 101, w ∈ am_W0 ∨ w ∈ am_W1) ∧ (∀ w ∈ am_atX RX10 101, vx_ot w = true) := ⟨fun w hw => (ca7_101 w hw).2.elim (fun g => Or.inl (List.mem_filter.mpr ⟨ca8_101 w (ca7_101 w hw).1, g⟩)) (fun g => Or.inr (List.mem_filter.mpr ⟨ca8_101 w (ca7_101 w hw).1, g⟩)), by decide +kernel⟩
theorem th_97_99_101 : am_THX RX10 97 99 101 := ⟨am_mem_2 216 (by decide +kernel) rfl, am_mem_1 21 (by decide +kernel) rfl, ⟨"no such typed sign", am_in_4 91 (by decide +kernel)⟩, at_101.1, at_101.2⟩
theorem th_97_205_101 : am_THX RX10 97 205 101 := ⟨am_mem_2 216 (by decide +kernel) rfl, am_mem_1 21 (by decide +kernel) rfl, ⟨"the word does not stand at so many places", am_in_4 204 (by decide +kernel)⟩, at_101.1, at_101.2⟩
theorem th_97_217_101 : am_THX RX10 97 217 101 := ⟨am_mem_2 216 (by decide +kernel) rfl, am_mem_1 21 (by decide +kernel) rfl, ⟨"no such word", am_in_4 224 (by decide +kernel)⟩, at_101.1, at_101.2⟩
theorem th_97_222_101 : am_THX RX10 97 222 101 := ⟨am_mem_2 216 (by decide +kernel) rfl, am_mem_1 21 (by decide +kernel) rfl, ⟨"no word stands twice", am_in_3 83 (by decide +kernel)⟩, at_101.1, at_101.2⟩
theorem th_97_321_101 : am_THX RX10 97 321 101 := ⟨am_mem_2 216 (by decide +kernel) rfl, am_mem_1 21 (by decide +kernel) rfl, ⟨"the text has no signs", am_in_2 225 (by decide +kernel)⟩, at_101.1, at_101.2⟩
theorem th_97_348_101 : am_THX RX10 97 348 101 := ⟨am_mem_2 216 (by decide +kernel) rfl, am_mem_1 21 (by decide +kernel) rfl, ⟨"the word stands nowhere", am_in_4 189 (by decide +kernel)⟩, at_101.1, at_101.2⟩
def ca9_113 : List Cond := ([11, 12, 13, 16, 28, 29, 30, 38, 56, 73, 96, 112, 137, 153].filterMap (fun i => tables_1_1[i]?)) ++ ([5, 6, 7, 8, 9, 10, 11, 12, 13, 14, 15, 16, 17, 18, 19, 20, 21, 22, 23, 24, 25, 26, 27, 28, 29, 30, 31, 32, 33, 34, 35, 36, 37, 38, 39, 40, 41, 42, 43, 44, 45, 46, 47, 48, 49, 50, 55, 56, 57, 58, 59, 60, 61, 62, 63, 64, 65, 66, 67, 68, 69, 70, 89, 90, 91, 92, 93, 94, 97, 98, 106, 107, 108, 109, 110, 111, 116, 117, 118, 181, 182, 183, 184, 185, 186, 191, 192, 193, 219, 220, 221, 222, 223, 224, 229, 230, 231].filterMap (fun i => tables_1_2[i]?)) ++ ([44, 53, 54, 55, 56, 57, 58, 59, 60, 61, 63, 64, 65, 66, 67, 68, 239].filterMap (fun i => tables_1_4[i]?)) ++ ([14, 18].filterMap (fun i => tables_1_5[i]?))
theorem ca8_113 : ∀ w ∈ ca9_113, w ∈ lw_tbl := by
  intro w hw
  simp only [ca9_113, List.mem_append, List.mem_filterMap] at hw
  rcases hw with ((⟨i, -, h⟩ | ⟨i, -, h⟩) | ⟨i, -, h⟩) | ⟨i, -, h⟩
  · exact am_in_1 i h
  · exact am_in_2 i h
  · exact am_in_4 i h
  · exact am_in_5 i h
theorem ca7_113 : ∀ w ∈ vx_atS RX10 113 "java/lang/UnsupportedOperationException" ["java/lang/RuntimeException", "java/lang/Exception"], w ∈ ca9_113 ∧ (goodWord w = true ∨ am_w1 w = true) := by decide +kernel
theorem at_113 : (∀ w ∈ vx_atS RX10 113 "java/lang/UnsupportedOperationException" ["java/lang/RuntimeException", "java/lang/Exception"], w ∈ am_W0 ∨ w ∈ am_W1) ∧ (∀ w ∈ vx_atS RX10 113 "java/lang/UnsupportedOperationException" ["java/lang/RuntimeException", "java/lang/Exception"], vx_ot w = true) := ⟨fun w hw => (ca7_113 w hw).2.elim (fun g => Or.inl (List.mem_filter.mpr ⟨ca8_113 w (ca7_113 w hw).1, g⟩)) (fun g => Or.inr (List.mem_filter.mpr ⟨ca8_113 w (ca7_113 w hw).1, g⟩)), by decide +kernel⟩
theorem th_109_111_113 : am_TH RX10 109 111 113 "java/lang/UnsupportedOperationException" := ⟨am_mem_4 53 (by decide +kernel) rfl, am_mem_1 16 (by decide +kernel) rfl, ⟨"the typed row is no text", am_in_4 62 (by decide +kernel)⟩, at_113.1, List.forall_mem_cons.mpr ⟨rfl, List.forall_mem_cons.mpr ⟨rfl, at_113.2⟩⟩, by decide⟩
theorem th_109_271_113 : am_TH RX10 109 271 113 "java/lang/UnsupportedOperationException" := ⟨am_mem_4 53 (by decide +kernel) rfl, am_mem_1 16 (by decide +kernel) rfl, ⟨"the typed row is no last column", am_in_4 131 (by decide +kernel)⟩, at_113.1, List.forall_mem_cons.mpr ⟨rfl, List.forall_mem_cons.mpr ⟨rfl, at_113.2⟩⟩, by decide⟩
theorem th_109_346_113 : am_TH RX10 109 346 113 "java/lang/UnsupportedOperationException" := ⟨am_mem_4 53 (by decide +kernel) rfl, am_mem_1 16 (by decide +kernel) rfl, ⟨"the typed row is no word", am_in_4 161 (by decide +kernel)⟩, at_113.1, List.forall_mem_cons.mpr ⟨rfl, List.forall_mem_cons.mpr ⟨rfl, at_113.2⟩⟩, by decide⟩
def ca9_299 : List Cond := ([11, 12, 13, 18, 28, 29, 30, 38, 56, 73, 96, 112, 137, 153, 238].filterMap (fun i => tables_1_1[i]?)) ++ ([2, 3, 4, 5, 6, 7, 8, 9, 10, 11, 12, 13, 14, 15, 16, 17, 18, 19, 20, 21, 22, 23, 24, 25, 26, 27, 28, 29, 30, 31, 32, 33, 34, 35, 36, 37, 38, 39, 40, 41, 42, 43, 44, 45, 46, 47, 48, 49, 50, 51, 53, 54, 55, 56, 57, 58, 59, 60, 61, 62, 63, 64, 65, 66, 67, 68, 69, 70, 86, 87, 88, 89, 90, 91, 92, 93, 94, 96, 97, 98, 106, 107, 108, 109, 110, 111, 116, 117, 118, 181, 182, 183, 184, 185, 186, 191, 192, 193, 219, 220, 221, 222, 223, 224, 229, 230, 231].filterMap (fun i => tables_1_2[i]?)) ++ ([56, 57, 58, 59, 60, 61, 66, 67, 68, 239].filterMap (fun i => tables_1_4[i]?)) ++ ([2, 16, 18].filterMap (fun i => tables_1_5[i]?))
theorem ca8_299 : ∀ w ∈ ca9_299, w ∈ lw_tbl := by
  intro w hw
  simp only [ca9_299, List.mem_append, List.mem_filterMap] at hw
  rcases hw with ((⟨i, -, h⟩ | ⟨i, -, h⟩) | ⟨i, -, h⟩) | ⟨i, -, h⟩
  · exact am_in_1 i h
  · exact am_in_2 i h
  · exact am_in_4 i h
  · exact am_in_5 i h
theorem ca7_299 : ∀ w ∈ vx_atS RX10 299 "java/lang/IndexOutOfBoundsException" ["java/lang/RuntimeException", "java/lang/Exception"], w ∈ ca9_299 ∧ (goodWord w = true ∨ am_w1 w = true) := by decide +kernel
theorem at_299 : (∀ w ∈ vx_atS RX10 299 "java/lang/IndexOutOfBoundsException" ["java/lang/RuntimeException", "java/lang/Exception"], w ∈ am_W0 ∨ w ∈ am_W1) ∧ (∀ w ∈ vx_atS RX10 299 "java/lang/IndexOutOfBoundsException" ["java/lang/RuntimeException", "java/lang/Exception"], vx_ot w = true) := ⟨fun w hw => (ca7_299 w hw).2.elim (fun g => Or.inl (List.mem_filter.mpr ⟨ca8_299 w (ca7_299 w hw).1, g⟩)) (fun g => Or.inr (List.mem_filter.mpr ⟨ca8_299 w (ca7_299 w hw).1, g⟩)), by decide +kernel⟩
theorem th_295_297_299 : am_TH RX10 295 297 299 "java/lang/IndexOutOfBoundsException" := ⟨am_mem_2 86 (by decide +kernel) rfl, am_mem_1 18 (by decide +kernel) rfl, ⟨"no such part", am_in_3 149 (by decide +kernel)⟩, at_299.1, List.forall_mem_cons.mpr ⟨rfl, List.forall_mem_cons.mpr ⟨rfl, at_299.2⟩⟩, by decide⟩
theorem th_295_336_299 : am_TH RX10 295 336 299 "java/lang/IndexOutOfBoundsException" := ⟨am_mem_2 86 (by decide +kernel) rfl, am_mem_1 18 (by decide +kernel) rfl, ⟨"no such text", am_in_2 95 (by decide +kernel)⟩, at_299.1, List.forall_mem_cons.mpr ⟨rfl, List.forall_mem_cons.mpr ⟨rfl, at_299.2⟩⟩, by decide⟩
theorem th_295_338_299 : am_TH RX10 295 338 299 "java/lang/IndexOutOfBoundsException" := ⟨am_mem_2 86 (by decide +kernel) rfl, am_mem_1 18 (by decide +kernel) rfl, ⟨"no such place or rank", am_in_3 7 (by decide +kernel)⟩, at_299.1, List.forall_mem_cons.mpr ⟨rfl, List.forall_mem_cons.mpr ⟨rfl, at_299.2⟩⟩, by decide⟩
theorem th_295_340_299 : am_TH RX10 295 340 299 "java/lang/IndexOutOfBoundsException" := ⟨am_mem_2 86 (by decide +kernel) rfl, am_mem_1 18 (by decide +kernel) rfl, ⟨"no such row", am_in_4 103 (by decide +kernel)⟩, at_299.1, List.forall_mem_cons.mpr ⟨rfl, List.forall_mem_cons.mpr ⟨rfl, at_299.2⟩⟩, by decide⟩
end

/-! ===== the logic of method bodies: a world by keys, contracts that return or throw, blocks of plain instructions at once ===== -/
section GLA
/-- the words that every contract takes: the good ones of the law's tables -/
def TB : List Cond := lw_tbl.filter goodWord
theorem tbi {w : Cond} (i : Nat) (h : lw_tbl[i]? = some w) (g : goodWord w = true) : w ∈ TB := List.mem_filter.mpr ⟨List.mem_of_getElem? h, g⟩
theorem tb_at {args a' : Array Value} {s U : State} (hts : ∀ w ∈ TB, w.before args s = true) (hW : s.WarmedH U.vm) : ∀ w ∈ TB, w.before a' U = true := fun w hw => word_at hW (good_of_word (List.mem_filter.mp hw).2) (hts w hw)
/-- n cells by keys: cell k lies at ad k and holds f k -/
def wl (n : Nat) (ad : Nat → Nat) (f : Nat → va_E) : va_W := (List.range n).map fun k => (ad k, f k)
theorem wl_get {n : Nat} {ad : Nat → Nat} {f : Nat → va_E} {k : Nat} (h : k < n) : (wl n ad f)[k]? = some (ad k, f k) := by
  unfold wl
  rw [List.getElem?_map, List.getElem?_range h]
  rfl
theorem wl_at {n : Nat} {ad : Nat → Nat} {f : Nat → va_E} {k : Nat} {e : va_E} (h : k < n) (he : f k = e) : (wl n ad f)[k]? = some (ad k, e) := he ▸ wl_get h
theorem wl_lt {n : Nat} {ad : Nat → Nat} {f : Nat → va_E} {k : Nat} {q : Nat × va_E} (h : (wl n ad f)[k]? = some q) : k < n ∧ q = (ad k, f k) := by
  have hl : k < (wl n ad f).length := (List.getElem?_eq_some_iff.mp h).1
  have hk : k < n := by
    unfold wl at hl
    rw [List.length_map, List.length_range] at hl
    exact hl
  refine ⟨hk, ?_⟩
  rw [wl_get hk] at h
  exact (Option.some.inj h).symm
theorem wl_set {n : Nat} {ad : Nat → Nat} {f : Nat → va_E} {k : Nat} (e : va_E) : (wl n ad f).set k (ad k, e) = wl n ad (va_up f k e) := by
  apply List.ext_getElem?
  intro i
  by_cases hi : i < n
  · rw [wl_get hi]
    by_cases hk : k = i
    · subst hk
      have hl : k < (wl n ad f).length := by
        unfold wl
        rw [List.length_map, List.length_range]
        exact hi
      rw [List.getElem?_set_self hl]
      show _ = some (ad k, if k = k then e else f k)
      rw [if_pos rfl]
    · rw [List.getElem?_set_ne hk, wl_get hi]
      show _ = some (ad i, if i = k then e else f i)
      rw [if_neg (fun h => hk h.symm)]
  · have h1 : (wl n ad (va_up f k e)).length ≤ i := by
      unfold wl
      rw [List.length_map, List.length_range]
      omega
    have h2 : ((wl n ad f).set k (ad k, e)).length ≤ i := by
      rw [List.length_set]
      unfold wl
      rw [List.length_map, List.length_range]
      omega
    rw [List.getElem?_eq_none h1, List.getElem?_eq_none h2]
theorem wl_D {n : Nat} {ad : Nat → Nat} {f g : Nat → va_E} {A : Nat → Prop} (h : va_D A (wl n ad f)) : va_D A (wl n ad g) := by
  refine ⟨fun i j p q hi hj hpq => ?_, fun k q hk => ?_⟩
  · obtain ⟨h1, e1⟩ := wl_lt hi
    obtain ⟨h2, e2⟩ := wl_lt hj
    subst e1
    subst e2
    exact h.1 i j _ _ (wl_get h1) (wl_get h2) hpq
  · obtain ⟨h1, e1⟩ := wl_lt hk
    subst e1
    exact (h.2 k (ad k, f k) (wl_get h1) : A (ad k))
theorem wl_A {n : Nat} {ad : Nat → Nat} {f g : Nat → va_E} {sz q : Nat} (h : va_A (wl n ad f) sz q) : va_A (wl n ad g) sz q := by
  rcases h with ⟨k, e, hk⟩ | h
  · obtain ⟨h1, e1⟩ := wl_lt hk
    refine Or.inl ⟨k, g k, ?_⟩
    rw [wl_get h1]
    cases e1
    rfl
  · exact Or.inr h
/-- the classes whose objects the worlds hold: number k is that of the names -/
abbrev gCl : List vw_C := [(RX0, TX0, 8), (RX1, TX1, 6), (RX2, TX2, 12), (RX3, TX3, 4), (RX4, TX4, 3), (RX5, TX5, 4), (RX6, TX6, 7), (RX7, TX7, 6), (RX8, TX8, 3), (RX9, TX9, 13), (RX10, TX10, 12), (RX11, TX11, 18), (RX12, TX12, 61)]
/-- arrays by their kinds: 0 byte, 1 int, 2 boolean, 3 long, 4 rows of bytes -/
abbrev gT (dA : Nat → ClassId) : List (ClassId × FieldType) := [(dA 0, .byte), (dA 1, .int), (dA 2, .boolean), (dA 3, .long), (dA 4, .array .byte)]
abbrev oB (dA : Nat → ClassId) (n : Nat) (g : Nat → Int32) : va_E := .inl (dA 0, n, .inl g)
abbrev oI (dA : Nat → ClassId) (n : Nat) (g : Nat → Int32) : va_E := .inl (dA 1, n, .inl g)
abbrev oZ (dA : Nat → ClassId) (n : Nat) (g : Nat → Int32) : va_E := .inl (dA 2, n, .inl g)
abbrev oJ (dA : Nat → ClassId) (n : Nat) (g : Nat → Int64) : va_E := .inl (dA 3, n, .inr (.inl g))
abbrev oR (dA : Nat → ClassId) (n : Nat) (g : Nat → Option Nat) : va_E := .inl (dA 4, n, .inr (.inr (.inr (.inr g))))
/-- a launch, the classes' numbers and slots, the arrays' classes, how many keys, their addresses -/
abbrev gE : Type := Launch × va_G × (Nat → ClassId) × Nat × (Nat → Nat)
/-- the texts of the class's own exceptions: class, entry, text -/
def gStr : List (String × Nat × String) := [("LedgerFiles", 149, "not mounted"), ("LedgerFiles", 154, "mounted, or without power"), ("LedgerFiles", 203, "no file system"), ("LedgerFiles", 359, "n is not 0 .. 2000"), ("LedgerFiles", 393, "what is not 0 .. 6"), ("LedgerFiles", 401, "k is not 0 .. 4167"), ("LedgerFiles", 411, "no such name"), ("LedgerFiles", 414, "no such name or byte"), ("LedgerFiles", 419, "no such way"), ("LedgerFiles", 437, "what is not 0 .. 2"), ("LedgerFiles", 460, "without power"), ("LedgerFiles", 465, "steps is below -1"), ("LedgerFiles", 473, "the power is on"), ("LedgerFiles", 482, "no such block or byte"), ("LedgerFiles", 510, "what is not 0 .. 17"), ("LedgerFiles$Disk", 56, "the power failed")]
/-- words that only a warmed machine keeps: the class of arrays of rows, links to a nest mate's private constructors, which exceptions are which -/
def gNst : List (String × Nat × MethodName × String) := [("LedgerFiles", 15, yX8_init, "LedgerFiles"), ("LedgerFiles", 93, yX5_init, "LedgerFiles")]
def gExc : List String := ["java/lang/IllegalStateException", "java/lang/UnsupportedOperationException", "java/lang/IllegalArgumentException", "java/util/NoSuchElementException"]
def gDcl : List MethodName := [⟨"java/lang/RuntimeException", "<init>", "(Ljava/lang/String;)V"⟩, ⟨"java/lang/Exception", "<init>", "(Ljava/lang/String;)V"⟩, ⟨"java/lang/Throwable", "<init>", "(Ljava/lang/String;)V"⟩]
def gWd (U : State) : Prop := va_AOA .byte U ∧ (∀ q ∈ gNst, va_Nw (.methodLinkNest q.1 q.2.1 q.2.2.1 q.2.2.2) U) ∧ (∀ X ∈ gExc, va_Nw (.castable X X) U) ∧ (∀ X ∈ gExc, ∀ Y ∈ gExc, X ≠ Y → va_Nc X Y U) ∧ ∀ x ∈ gDcl, va_Nw (.declares x) U
theorem gWd.moved {s U : State} (h : gWd s) (hW : s.WarmedH U.vm) : gWd U := ⟨va_AOA.moved hW.alike h.1, fun q hq => va_Nw.warmM hW (h.2.1 q hq), fun X hX => va_Nw.warmC hW (h.2.2.1 X hX), fun X hX Y hY hne => va_Nc.moved hW.alike (h.2.2.2.1 X hX Y hY hne), fun x hx => va_Nw.warmD hW (h.2.2.2.2 x hx)⟩
/-- what a state gives beside the world: the tables, the two statics of Throwable, the texts -/
def gS (E : gE) (A : Nat → Prop) (U : State) (H : Heap) : Prop := va_K E.2.1 gCl (gT E.2.2.1) U ∧ vx_Zq Bundle.tN "UNASSIGNED_STACK" Bundle.steD A U H ∧ vx_Zq Bundle.tN "SUPPRESSED_SENTINEL" Bundle.listD A U H ∧ (∀ q ∈ gStr, ∃ a, vk_R q.1 q.2.1 q.2.2 a U) ∧ E.1.stackTraces = false ∧ gWd U
theorem gS.moved {E : gE} {A B : Nat → Prop} {s U : State} {H0 H : Heap} (h : gS E A s H0) (hW : s.WarmedH U.vm) (hq : ∀ a : Nat, a < H0.size → ¬ A a → H[a]? = H0[a]?) (hB : ∀ q, B q → A q) : gS E B U H :=
  ⟨va_K.moved hW.alike h.1, vx_Zq.narrow (vx_Zq.moved hW.alike (vx_Zq.kept h.2.1 hq)) hB, vx_Zq.narrow (vx_Zq.moved hW.alike (vx_Zq.kept h.2.2.1 hq)) hB, fun q hq => by
    obtain ⟨a, ha⟩ := h.2.2.2.1 q hq
    exact ⟨a, vk_R.warm hW ha⟩, h.2.2.2.2.1, h.2.2.2.2.2.moved hW⟩
/-- room by height: one exception, frames and locals by the height -/
abbrev gR (h : Nat) : Room := { frames := h, cells := 1, slots := 6, locals := 64 * h }
/-- what is owed at the end: a value and a world, or an exception and a world -/
abbrev gQ : Type := (Option Value → (Nat → va_E) → Prop) × (String → (Nat → va_E) → Prop)
def gQn (E : gE) (A : Nat → Prop) (Q : gQ) : Array Value → State → Outcome → State → Prop := fun _ st o t => ∃ (v : Option Value) (f : Nat → va_E), o = .returned v ∧ Q.1 v f ∧ va_P E.2.1 gCl (wl E.2.2.2.1 E.2.2.2.2 f) t.heap ∧ va_F A st t
def gQx (E : gE) (A : Nat → Prop) (Q : gQ) : String → State → State → Prop := fun X st t => ∃ f : Nat → va_E, Q.2 X f ∧ va_P E.2.1 gCl (wl E.2.2.2.1 E.2.2.2.2 f) t.heap ∧ va_F A st t
def gPost (E : gE) (A : Nat → Prop) (Q : gQ) : Array Value → State → Outcome → State → Prop := fun a st o t => (gQn E A Q a st o t ∧ ∃ L, FrameEnd st o t L 0 0 ∧ ∀ q ∈ L, A q.base) ∨ ∃ q, o = .threw q ∧ vx_T (gQx E A Q) st q t 1 6 A
def gPre (E : gE) (as : List Value) (f : Nat → va_E) (sz : Nat) : Array Value → State → Prop := fun a U => a = as.toArray ∧ U.heap.size = sz ∧ va_P E.2.1 gCl (wl E.2.2.2.1 E.2.2.2.2 f) U.heap ∧ va_D (fun _ => True) (wl E.2.2.2.1 E.2.2.2.2 f) ∧ gS E (va_A (wl E.2.2.2.1 E.2.2.2.2 f) sz) U U.heap
/-- THE CONTRACT of a method: height, name, code, locals, type of its answer; arguments, world; what it owes -/
def Ct (E : gE) (h : Nat) (y : MethodName) (cc : ByteArray) (nL : Nat) (ret : Option FieldType) (as : List Value) (f : Nat → va_E) (Q : gQ) : Prop :=
  ∀ sz, MetFree E.1 y (headSpec (.code y cc nL ret :: TB) (gR h)) (gPre E as f sz) (fun _ _ _ _ _ => True) (gPost E (va_A (wl E.2.2.2.1 E.2.2.2.2 f) sz) Q)
/-- a method's own: height, name, locals, type of its answer, the heap's size at its start, what it may write -/
abbrev gM : Type := Nat × MethodName × Nat × Option FieldType × Nat × (Nat → Prop)
def Cx (E : gE) (K : gM) (cc : ByteArray) (p : Program) (s : State) (m : MethodId) (args : Array Value) (meth : Method) (c : Code) : Prop :=
  p.tables.exec = Jvm.exec ∧ c.code = cc ∧ c.maxLocals = K.2.2.1 ∧ meth.sig.returnType = K.2.2.2.1 ∧ s.vm.findClass K.2.1.cls = some m.cls ∧ (∀ w ∈ TB, w.before args s = true) ∧ meth.locks = false ∧ ((K.1 ≤ 100 → ∀ x ∈ c.exceptionTable.toList, False) ∧ ∀ (cc9 : ByteArray) (nL9 : Nat) (ret9 : Option FieldType) (hh : List (Nat × Nat × Nat × Nat)), Cond.codeWith K.2.1 cc9 nL9 ret9 hh ∈ TB → c.exceptionTable.toList = tableOf hh) ∧ s.heap.size = K.2.2.2.2.1 ∧ (∀ q, K.2.2.2.2.1 ≤ q → K.2.2.2.2.2 q) ∧ meth.name = K.2.1.name ∧ gS E K.2.2.2.2.2 s s.heap
def gZ (E : gE) (K : gM) (Q : gQ) (below : List Frame) (args : Array Value) (s : State) : State → Prop := fun t => ∃ o, t.status = .running ∧ Ended t below o ∧ gPost E K.2.2.2.2.2 Q args s o t
/-- how a body ends: its room, the cells and slots made so far, what must hold at its end -/
abbrev gU : Type := Room × Nat × Nat × (List Frame → Array Value → State → State → Prop)
abbrev gO (E : gE) (K : gM) (Q : gQ) : gU := (gR K.1, 0, 0, gZ E K Q)
/-- THE GOAL inside a body: at pc, with these locals and this stack, and this world -/
def G (E : gE) (K : gM) (cc : ByteArray) (Q : gU) (pc : Nat) (lv : List (Nat × Value)) (st : List Value) (f : Nat → va_E) : Prop :=
  ∀ (p : Program) (e : Env) (s : State) (m : MethodId) (args : Array Value) (below : List Frame) (meth : Method) (c : Code), Cx E K cc p s m args meth c →
    ∀ (H : Heap) (locs : List Loc) (ls : Array Slot), va_P E.2.1 gCl (wl E.2.2.2.1 E.2.2.2.2 f) H → va_D K.2.2.2.2.2 (wl E.2.2.2.1 E.2.2.2.2 f) → va_S K.2.2.2.2.2 s.heap H locs → lv_has ls K.2.2.1 lv →
      W p E.1 e Q.1 s m args below meth c H locs Q.2.1 Q.2.2.1 (Q.2.2.2 below args s) (F0 m pc ls st)
/-- a contract out of its body -/
theorem Ct.of {E : gE} {h : Nat} {y : MethodName} {cc : ByteArray} {nL : Nat} {ret : Option FieldType} {as : List Value} {f : Nat → va_E} {Q : gQ} (hy : plainName y.cls = true) (hl : (lg_sl as).length ≤ nL)
    (b : ∀ sz, G E (h, y, nL, ret, sz, va_A (wl E.2.2.2.1 E.2.2.2.2 f) sz) cc (gO E (h, y, nL, ret, sz, va_A (wl E.2.2.2.1 E.2.2.2.2 f) sz) Q) 0 (lv_args 0 as) [] f) : Ct E h y cc nL ret as f Q := by
  intro sz
  refine MetFree.of_bodyS (code := cc) (maxLocals := nL) (ret := ret) hy ?_ ?_
  · intro args s m h hn
    obtain ⟨meth, c, h1, h2, h3, h4, h5, h6, -, -⟩ := Cond.code_spec hn (atoms_spec (ws := .code y cc nL ret :: TB) h _ List.mem_cons_self)
    exact ⟨meth, c, h1, h2, h3, h4, h5, h6⟩
  · intro p e s m args below meth c s₁ B hml hP _
    obtain ⟨rfl, hsz, hP, hD, hS⟩ := hP
    have hts : ∀ w ∈ (Cond.code y cc nL ret :: TB), w.before as.toArray s = true := atoms_spec B.pre
    have hh0 : s₁.heap = s.heap := by rw [B.state]; rfl
    have ht : ∀ x ∈ c.exceptionTable.toList, False := by
      obtain ⟨meth9, c9, h1, h2, -, -, -, -, h7, -⟩ := Cond.code_spec B.named (hts _ List.mem_cons_self)
      cases Option.some.inj (h1.symm.trans B.method)
      cases Option.some.inj (h2.symm.trans (Stand.of_body B).code)
      intro x hx
      rw [Array.isEmpty_iff.mp h7] at hx
      cases hx
    have hx : Cx E (h, y, nL, ret, sz, va_A (wl E.2.2.2.1 E.2.2.2.2 f) sz) cc p s m as.toArray meth c :=
      ⟨B.exec, B.bytes, hml, B.returns, findClass_of_methodNamed B.named, fun w hw => hts w (List.mem_cons_of_mem _ hw), B.notSynchronized, ⟨fun _ => ht, fun cc9 nL9 ret9 hh hw => vx_table (x := y) B (hts _ (List.mem_cons_of_mem _ hw))⟩, hsz, fun q hq => Or.inr hq, (name_of_methodNamed B.named B.method).1, hS⟩
    have hw := b sz p e s m as.toArray below meth c hx s.heap [] _ hP (hD.weaken (fun k q hk _ => Or.inl ⟨k, q.2, hk⟩)) va_S.rf (lv_entry as hl)
    rw [← lg_entry_eq] at hw
    obtain ⟨t, a1, o, b1, b2, b3⟩ := hw s₁ hh0 (Stand.of_body B)
    exact ⟨t, o, a1, b1, b2, b3⟩
end GLA

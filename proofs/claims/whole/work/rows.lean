section
-- ===== PART A: goes FIRST, ahead of the names: the tables' words, and 'selects' of the private methods out of them =====
/-- a private method of a class that the tables say can be made, by its rows of tables_1 -/
def lw_okq (q : MethodName × Nat) : Prop := (q.1.cls ≠ "java/lang/invoke/MethodHandle" ∧ q.1.cls ≠ "java/lang/invoke/VarHandle") ∧ Cond.instantiable q.1.cls q.2 ∈ tables_1 ∧ Cond.privateMethod q.1 ∈ tables_1 ∧ Cond.instanceMethod q.1 ∈ tables_1
theorem lw_p0 : lw_okq (⟨"java/lang/Throwable", "fillInStackTrace", "(I)Ljava/lang/Throwable;"⟩, 6) := ⟨⟨by decide +kernel, by decide +kernel⟩, List.mem_of_getElem? (i := 114) (by decide +kernel), List.mem_of_getElem? (i := 112) (by decide +kernel), List.mem_of_getElem? (i := 113) (by decide +kernel)⟩
theorem lw_p1 : lw_okq (⟨"BlockJournal", "placeOf", "(I)I"⟩, 11) := ⟨⟨by decide +kernel, by decide +kernel⟩, List.mem_of_getElem? (i := 12) (by decide +kernel), List.mem_of_getElem? (i := 171) (by decide +kernel), List.mem_of_getElem? (i := 172) (by decide +kernel)⟩
theorem lw_p2 : lw_okq (⟨"BlockJournal", "isChangeOf", "(II)Z"⟩, 11) := ⟨⟨by decide +kernel, by decide +kernel⟩, List.mem_of_getElem? (i := 12) (by decide +kernel), List.mem_of_getElem? (i := 175) (by decide +kernel), List.mem_of_getElem? (i := 176) (by decide +kernel)⟩
theorem lw_p3 : lw_okq (⟨"BlockJournal", "openPlace", "(II)V"⟩, 11) := ⟨⟨by decide +kernel, by decide +kernel⟩, List.mem_of_getElem? (i := 12) (by decide +kernel), List.mem_of_getElem? (i := 180) (by decide +kernel), List.mem_of_getElem? (i := 181) (by decide +kernel)⟩
theorem lw_p4 : lw_okq (⟨"BlockJournal", "headWord", "(I)I"⟩, 11) := ⟨⟨by decide +kernel, by decide +kernel⟩, List.mem_of_getElem? (i := 12) (by decide +kernel), List.mem_of_getElem? (i := 198) (by decide +kernel), List.mem_of_getElem? (i := 199) (by decide +kernel)⟩
theorem lw_p5 : lw_okq (⟨"BlockJournal", "write", "(I[II)V"⟩, 11) := ⟨⟨by decide +kernel, by decide +kernel⟩, List.mem_of_getElem? (i := 12) (by decide +kernel), List.mem_of_getElem? (i := 202) (by decide +kernel), List.mem_of_getElem? (i := 203) (by decide +kernel)⟩
theorem lw_p6 : lw_okq (⟨"BlockJournal", "writeFullHead", "(I)V"⟩, 11) := ⟨⟨by decide +kernel, by decide +kernel⟩, List.mem_of_getElem? (i := 12) (by decide +kernel), List.mem_of_getElem? (i := 206) (by decide +kernel), List.mem_of_getElem? (i := 207) (by decide +kernel)⟩
theorem lw_p7 : lw_okq (⟨"BlockJournal", "setWord", "(II)V"⟩, 11) := ⟨⟨by decide +kernel, by decide +kernel⟩, List.mem_of_getElem? (i := 12) (by decide +kernel), List.mem_of_getElem? (i := 210) (by decide +kernel), List.mem_of_getElem? (i := 211) (by decide +kernel)⟩
theorem lw_p8 : lw_okq (⟨"BlockJournal", "payloadCheck", "(I)I"⟩, 11) := ⟨⟨by decide +kernel, by decide +kernel⟩, List.mem_of_getElem? (i := 12) (by decide +kernel), List.mem_of_getElem? (i := 214) (by decide +kernel), List.mem_of_getElem? (i := 215) (by decide +kernel)⟩
theorem lw_p9 : lw_okq (⟨"BlockJournal", "writeEmptyHead", "(I)V"⟩, 11) := ⟨⟨by decide +kernel, by decide +kernel⟩, List.mem_of_getElem? (i := 12) (by decide +kernel), List.mem_of_getElem? (i := 218) (by decide +kernel), List.mem_of_getElem? (i := 219) (by decide +kernel)⟩
theorem lw_p10 : lw_okq (⟨"BlockJournal", "headIsRight", "()Z"⟩, 11) := ⟨⟨by decide +kernel, by decide +kernel⟩, List.mem_of_getElem? (i := 12) (by decide +kernel), List.mem_of_getElem? (i := 230) (by decide +kernel), List.mem_of_getElem? (i := 231) (by decide +kernel)⟩
theorem lw_p11 : lw_okq (⟨"BlockJournal", "headCount", "()I"⟩, 11) := ⟨⟨by decide +kernel, by decide +kernel⟩, List.mem_of_getElem? (i := 12) (by decide +kernel), List.mem_of_getElem? (i := 234) (by decide +kernel), List.mem_of_getElem? (i := 235) (by decide +kernel)⟩
theorem lw_p12 : lw_okq (⟨"BlockJournal", "targetsAreRight", "(I)Z"⟩, 11) := ⟨⟨by decide +kernel, by decide +kernel⟩, List.mem_of_getElem? (i := 12) (by decide +kernel), List.mem_of_getElem? (i := 238) (by decide +kernel), List.mem_of_getElem? (i := 239) (by decide +kernel)⟩
theorem lw_p13 : lw_okq (⟨"BlockJournal", "headTarget", "(I)I"⟩, 11) := ⟨⟨by decide +kernel, by decide +kernel⟩, List.mem_of_getElem? (i := 12) (by decide +kernel), List.mem_of_getElem? (i := 242) (by decide +kernel), List.mem_of_getElem? (i := 243) (by decide +kernel)⟩
theorem lw_p14 : lw_okq (⟨"BlockJournalModel", "fails", "(ZI)Z"⟩, 11) := ⟨⟨by decide +kernel, by decide +kernel⟩, List.mem_of_getElem? (i := 305) (by decide +kernel), List.mem_of_getElem? (i := 358) (by decide +kernel), List.mem_of_getElem? (i := 359) (by decide +kernel)⟩
theorem lw_p15 : lw_okq (⟨"BlockJournalModel", "find", "(I)I"⟩, 11) := ⟨⟨by decide +kernel, by decide +kernel⟩, List.mem_of_getElem? (i := 305) (by decide +kernel), List.mem_of_getElem? (i := 369) (by decide +kernel), List.mem_of_getElem? (i := 370) (by decide +kernel)⟩
def lw_privs_1 : List (MethodName × Nat) := [(⟨"java/lang/Throwable", "fillInStackTrace", "(I)Ljava/lang/Throwable;"⟩, 6), (⟨"BlockJournal", "placeOf", "(I)I"⟩, 11), (⟨"BlockJournal", "isChangeOf", "(II)Z"⟩, 11), (⟨"BlockJournal", "openPlace", "(II)V"⟩, 11), (⟨"BlockJournal", "headWord", "(I)I"⟩, 11), (⟨"BlockJournal", "write", "(I[II)V"⟩, 11), (⟨"BlockJournal", "writeFullHead", "(I)V"⟩, 11), (⟨"BlockJournal", "setWord", "(II)V"⟩, 11), (⟨"BlockJournal", "payloadCheck", "(I)I"⟩, 11), (⟨"BlockJournal", "writeEmptyHead", "(I)V"⟩, 11), (⟨"BlockJournal", "headIsRight", "()Z"⟩, 11), (⟨"BlockJournal", "headCount", "()I"⟩, 11), (⟨"BlockJournal", "targetsAreRight", "(I)Z"⟩, 11), (⟨"BlockJournal", "headTarget", "(I)I"⟩, 11), (⟨"BlockJournalModel", "fails", "(ZI)Z"⟩, 11), (⟨"BlockJournalModel", "find", "(I)I"⟩, 11)]
theorem lw_r1 : ∀ q ∈ lw_privs_1, lw_okq q := List.forall_mem_cons.mpr ⟨lw_p0, List.forall_mem_cons.mpr ⟨lw_p1, List.forall_mem_cons.mpr ⟨lw_p2, List.forall_mem_cons.mpr ⟨lw_p3, List.forall_mem_cons.mpr ⟨lw_p4, List.forall_mem_cons.mpr ⟨lw_p5, List.forall_mem_cons.mpr ⟨lw_p6, List.forall_mem_cons.mpr ⟨lw_p7, List.forall_mem_cons.mpr ⟨lw_p8, List.forall_mem_cons.mpr ⟨lw_p9, List.forall_mem_cons.mpr ⟨lw_p10, List.forall_mem_cons.mpr ⟨lw_p11, List.forall_mem_cons.mpr ⟨lw_p12, List.forall_mem_cons.mpr ⟨lw_p13, List.forall_mem_cons.mpr ⟨lw_p14, List.forall_mem_cons.mpr ⟨lw_p15, fun _ h => absurd h List.not_mem_nil⟩⟩⟩⟩⟩⟩⟩⟩⟩⟩⟩⟩⟩⟩⟩⟩
theorem lw_p16 : lw_okq (⟨"BlockJournalModel", "number", "(II)J"⟩, 11) := ⟨⟨by decide +kernel, by decide +kernel⟩, List.mem_of_getElem? (i := 305) (by decide +kernel), List.mem_of_getElem? (i := 381) (by decide +kernel), List.mem_of_getElem? (i := 382) (by decide +kernel)⟩
theorem lw_p17 : lw_okq (⟨"BlockJournalModel", "commits", "(IIJ)Z"⟩, 11) := ⟨⟨by decide +kernel, by decide +kernel⟩, List.mem_of_getElem? (i := 305) (by decide +kernel), List.mem_of_getElem? (i := 386) (by decide +kernel), List.mem_of_getElem? (i := 387) (by decide +kernel)⟩
theorem lw_p18 : lw_okq (⟨"BlockJournalModel", "headed", "(JI)V"⟩, 11) := ⟨⟨by decide +kernel, by decide +kernel⟩, List.mem_of_getElem? (i := 305) (by decide +kernel), List.mem_of_getElem? (i := 390) (by decide +kernel), List.mem_of_getElem? (i := 391) (by decide +kernel)⟩
theorem lw_p19 : lw_okq (⟨"BlockJournalModel", "check", "(I)J"⟩, 11) := ⟨⟨by decide +kernel, by decide +kernel⟩, List.mem_of_getElem? (i := 305) (by decide +kernel), List.mem_of_getElem? (i := 394) (by decide +kernel), List.mem_of_getElem? (i := 395) (by decide +kernel)⟩
theorem lw_p20 : lw_okq (⟨"BlockJournalModel", "ranked", "(I)I"⟩, 11) := ⟨⟨by decide +kernel, by decide +kernel⟩, List.mem_of_getElem? (i := 305) (by decide +kernel), List.mem_of_getElem? (i := 400) (by decide +kernel), List.mem_of_getElem? (i := 401) (by decide +kernel)⟩
theorem lw_p21 : lw_okq (⟨"BlockJournalModel", "writes", "(I)Z"⟩, 11) := ⟨⟨by decide +kernel, by decide +kernel⟩, List.mem_of_getElem? (i := 305) (by decide +kernel), List.mem_of_getElem? (i := 404) (by decide +kernel), List.mem_of_getElem? (i := 405) (by decide +kernel)⟩
theorem lw_p22 : lw_okq (⟨"BlockJournalModel", "isRight", "()Z"⟩, 11) := ⟨⟨by decide +kernel, by decide +kernel⟩, List.mem_of_getElem? (i := 305) (by decide +kernel), List.mem_of_getElem? (i := 412) (by decide +kernel), List.mem_of_getElem? (i := 413) (by decide +kernel)⟩
theorem lw_p23 : lw_okq (⟨"BlockJournalModel", "target", "(I)I"⟩, 11) := ⟨⟨by decide +kernel, by decide +kernel⟩, List.mem_of_getElem? (i := 305) (by decide +kernel), List.mem_of_getElem? (i := 417) (by decide +kernel), List.mem_of_getElem? (i := 418) (by decide +kernel)⟩
def lw_privs_2 : List (MethodName × Nat) := [(⟨"BlockJournalModel", "number", "(II)J"⟩, 11), (⟨"BlockJournalModel", "commits", "(IIJ)Z"⟩, 11), (⟨"BlockJournalModel", "headed", "(JI)V"⟩, 11), (⟨"BlockJournalModel", "check", "(I)J"⟩, 11), (⟨"BlockJournalModel", "ranked", "(I)I"⟩, 11), (⟨"BlockJournalModel", "writes", "(I)Z"⟩, 11), (⟨"BlockJournalModel", "isRight", "()Z"⟩, 11), (⟨"BlockJournalModel", "target", "(I)I"⟩, 11)]
theorem lw_r2 : ∀ q ∈ lw_privs_2, lw_okq q := List.forall_mem_cons.mpr ⟨lw_p16, List.forall_mem_cons.mpr ⟨lw_p17, List.forall_mem_cons.mpr ⟨lw_p18, List.forall_mem_cons.mpr ⟨lw_p19, List.forall_mem_cons.mpr ⟨lw_p20, List.forall_mem_cons.mpr ⟨lw_p21, List.forall_mem_cons.mpr ⟨lw_p22, List.forall_mem_cons.mpr ⟨lw_p23, fun _ h => absurd h List.not_mem_nil⟩⟩⟩⟩⟩⟩⟩⟩
def lw_privs : List (MethodName × Nat) := lw_privs_1 ++ (lw_privs_2)
def lw_tbl : List Cond := k2_sels lw_privs ++ tables_1
theorem lw_privs_ok : ∀ q ∈ lw_privs, lw_okq q := by
  show ∀ q ∈ lw_privs_1 ++ (lw_privs_2), lw_okq q
  exact List.forall_mem_append.mpr ⟨lw_r1, lw_r2⟩
end
section
/-! ===== BEGIN words of one list among another's, by their places ===== -/
theorem goodIn_r {big : List Cond} (ws : List Cond) (ps : List Nat) (hp : ws = ps.filterMap (fun i => big[i]?)) (h : ws.all goodWord = true) : GoodIn big ws := by
  intro w hw
  have h1 := List.all_eq_true.mp h w hw
  rw [hp] at hw
  obtain ⟨i, -, hi⟩ := List.mem_filterMap.mp hw
  have hm : w ∈ big := by first | exact List.mem_of_getElem? hi | exact List.getElem?_mem hi
  exact ⟨hm, good_of_word h1⟩
theorem goodIn_app {big a b : List Cond} (ha : GoodIn big a) (hb : GoodIn big b) : GoodIn big (a ++ b) := fun w h => (List.mem_append.mp h).elim (ha w) (hb w)
theorem goodIn_ca {big a b : List Cond} {c : Cond} (ha : GoodIn big (c :: a)) (hb : GoodIn big b) : GoodIn big (c :: (a ++ b)) := fun w h => (List.mem_cons.mp h).elim (fun e => ha w (List.mem_cons.mpr (Or.inl e))) (fun h => (List.mem_append.mp h).elim (fun h => ha w (List.mem_cons.mpr (Or.inr h))) (hb w))
theorem goodIn_sub {big ws : List Cond} (hm : ∀ w ∈ ws, w ∈ big) (h : ws.all goodWord = true) : GoodIn big ws := fun w hw => ⟨hm w hw, good_of_word (List.all_eq_true.mp h w hw)⟩
/-! ===== END ===== -/

/-! ===== BEGIN exceptions that leave a method, and their catching by the caller (launches without stack traces) ===== -/
section VXA
/-! The laws vx_back, vx_callV, vx_callS, vx_callSW, vx_throw0, vx_throwS follow proofs of the library, with one case more: JvmDerived/Free/Laws.lean (Back.of_free), Shelf42/LK1.lean (callV, callS), Shelf/KitTraced.lean (throwNew0V, throwNewS). -/
/-- where a method has thrown q: the class by its name, the cell, what was written, the world -/
def vx_T (XC : String → State → State → Prop) (st : State) (q : Addr) (t : State) (mc ms : Nat) (free : Addr → Prop) : Prop :=
  ∃ (E : String) (ce : Cell) (L : List Loc), XC E st t ∧ t.heap[q]? = some ce ∧ ce.vm = .none ∧ st.vm.findClass E = some ce.cls ∧ st.WarmedH t.vm ∧ st.sameButNew ({ t with vm := st.vm } : State) L mc ms ∧ ∀ z ∈ L, free z.base
def vx_Q (Qc : Array Value → State → Outcome → State → Prop) (XC : String → State → State → Prop) (mc ms : Nat) (free : Addr → Prop) : Array Value → State → Outcome → State → Prop := fun a st o t =>
  (Qc a st o t ∧ ∃ L, FrameEnd st o t L mc ms ∧ ∀ q ∈ L, free q.base) ∨ ∃ q, o = .threw q ∧ vx_T XC st q t mc ms free
/-- a callee that returns or throws -/
def vx_Met (l : Launch) (y : MethodName) (ws : List Cond) (rm : Room) (Pc : Array Value → State → Prop) (Qc : Array Value → State → Outcome → State → Prop) (XC : String → State → State → Prop) (mc ms : Nat) (free : Addr → Prop) : Prop :=
  MetFree l y (headSpec ws rm) Pc (fun _ _ _ _ _ => True) (vx_Q Qc XC mc ms free)
def vx_Post (XC : String → State → State → Prop) (mc ms : Nat) (free : Addr → Prop) : Pt → Array Value → Addr → Pt → Prop := fun A a q B =>
  ∃ (g : JFrame) (mk : MethodId) (t : State) (L : List Loc) (E : String) (ce : Cell), B.U.heap = t.heap ∧ B.U.vm = t.vm ∧ XC E (A.U.calling g mk a) t ∧ t.heap[q]? = some ce ∧ ce.vm = .none ∧ A.U.vm.findClass E = some ce.cls ∧ B.locs = A.locs ++ L ∧ (∀ z ∈ L, free z.base) ∧ B.cells = A.cells + mc ∧ B.slots = A.slots + ms
def vx_Back (l : Launch) (R : Room) (p : Program) (e : Env) (below : List Frame) (s : State) (sargs : Array Value) (y : MethodName) (len W9 : Nat)
    (Pre : Pt → Array Value → Prop) (Post : Pt → Array Value → Option Value → Pt → Prop) (PostX : Pt → Array Value → Addr → Pt → Prop) : Prop :=
  ∀ (m : MethodId) (meth : Method) (c : Code) (A : Pt) (g : JFrame) (ig : Instr) (mk : MethodId) (a : Array Value),
    Stand p l e R s m sargs below meth c A.U A.locs A.cells A.slots → g.method = m → g.locals.size = c.maxLocals → decode c.code g.pc = .ok (ig, len) →
    2 * g.monitorRoom + (g.stack.map fun v => v.category).sum ≤ W9 → A.U.methodNamed? y = some mk → Pre A a →
    (∃ (v : Option Value) (B : Pt), Stand p l e R s m sargs below meth c B.U B.locs B.cells B.slots ∧ Post A a v B ∧
      Steps p.tables e below (doInvoke e (A.U.setTop g) [] mk a).1 (B.U.setTop { g with pc := g.pc + len, stack := v.toList ++ g.stack })) ∨
    (∃ (q : Addr) (B : Pt), Stand p l e R s m sargs below meth c B.U B.locs B.cells B.slots ∧ PostX A a q B ∧
      Steps p.tables e below (doInvoke e (A.U.setTop g) [] mk a).1 ((B.U.setTop g).pushFrame (.throwing q)))
section Payer
variable {l : Launch} {R : Room} {p : Program} {e : Env} {below : List Frame} {s : State} {sargs : Array Value} {y : MethodName} {len W9 : Nat}
theorem vx_back {ws : List Cond} {rm : Room} {Pc : Array Value → State → Prop} {Qc : Array Value → State → Outcome → State → Prop} {XC : String → State → State → Prop} {mc ms : Nat} {free : Addr → Prop} {bytes : ByteArray} {maxL : Nat} {ret : Option FieldType}
    (hM : vx_Met l y ws rm Pc Qc XC mc ms free) (hblind : FrameBlind Pc) (hrc : rm.cells = mc) (hrs : rm.slots = ms)
    (hframes : rm.frames + 1 ≤ R.frames) (hlocals : W9 + (maxL + 11) + rm.locals ≤ R.locals)
    (hws : ∀ w ∈ ws, ∀ a' U, s.WarmedH U.vm → w.before a' U = true) (hcode : Cond.code y bytes maxL ret ∈ ws) (hinit : ∀ a' U, s.WarmedH U.vm → (Cond.initialized y.cls).before a' U = true) :
    vx_Back l R p e below s sargs y len W9 (PreOf R mc ms Pc) (PostOf Qc mc ms free) (vx_Post XC mc ms free) := by
  intro m meth c A g ig mk a X hg hsize hdg hW hn hp
  have h1 : (headSpec ws rm).pre.before a A.U = true := atoms_intro fun w hw => hws w hw _ _ X.warmed
  have h2 : (Cond.code y bytes maxL ret).before a A.U = true := hws _ hcode _ _ X.warmed
  have h3 : (Cond.initialized y.cls).before a A.U = true := hinit _ _ X.warmed
  have h4 : A.cells + (headSpec ws rm).room.cells ≤ R.cells := by rw [show (headSpec ws rm).room.cells = mc from hrc]; exact hp.1
  have h5 : A.slots + (headSpec ws rm).room.slots ≤ R.slots := by rw [show (headSpec ws rm).room.slots = ms from hrs]; exact hp.2.1
  have hPc : Pc a (A.U.calling g mk a) := hblind _ _ _ _ hp.2.2
  obtain ⟨U, Ls, c0, s0⟩ := A
  dsimp only [Pt.U, Pt.locs, Pt.cells, Pt.slots] at h1 h2 h3 h4 h5 X hn hPc ⊢
  obtain ⟨methY, cY, hmY, hcY, -, hlY, -, -, -, -⟩ := Cond.code_spec hn h2
  obtain ⟨kY, hkY, -⟩ := className_of_methodNamed hn
  have hinitY : kY.init = .initialized := Cond.initialized_spec (findClass_of_methodNamed hn) hkY h3
  have h : At U g.method c below := by rw [hg]; exact X.here
  have hlocals9 : W9 + (maxL + 11) + (headSpec ws rm).room.locals ≤ R.locals := hlocals
  have happ : (headSpec ws rm).appliesLoose y e.platform (U.calling g mk a) = true :=
    Spec.appliesLoose_calling (g := g) h hdg hn hkY hinitY
      (X.room_calling (g := g) (R' := (headSpec ws rm).room) hsize hmY hcY hframes (by rw [hlY]; omega) h4 h5) h1
  obtain ⟨mid, hmid⟩ := h.above
  have hfr : (U.setTop g).frames = (.java g :: mid) ++ below := by rw [State.frames_setTop' g h.top, hmid]; rfl
  obtain ⟨o, s₂, hsteps, -, hend, hq⟩ := Steps.callFree hM p X.admits X.cas X.clock (acts := []) hfr happ hPc trivial
  have hq' : vx_Q Qc XC mc ms free a (U.calling g mk a) o s₂ := hq
  rw [State.frames_setTop' g h.top] at hend
  obtain ⟨g₀, hg0⟩ := Option.isSome_iff_exists.mp h.top
  obtain ⟨r, hr⟩ := State.topJava?_eq_some.mp hg0
  have hr' : (({ U with heap := s₂.heap, slotsUsed := s₂.slotsUsed } : State).setVm s₂.vm).frames = .java g₀ :: r := hr
  rcases hq' with ⟨hqc, L, hfe, hL⟩ | ⟨q, rfl, E, ce, L, hx, hce, hcv, hcl, hW₂, hsm, hL⟩
  · obtain ⟨⟨v, rfl⟩, hW₂, e2, q2, q3, q4, q5, q6⟩ := id hfe
    have e3 : s₂ = ({ (U.calling g mk a).setFrames s₂.frames with heap := s₂.heap, slotsUsed := s₂.slotsUsed } : State).setVm s₂.vm := by
      have : s₂ = ({ s₂ with vm := (U.calling g mk a).vm } : State).setVm s₂.vm := rfl
      rw [e2] at this
      exact this
    obtain ⟨c₂, i₂, len₂, hc₂, hd₂, hf₂⟩ := hend
    have hW' : U.WarmedH s₂.vm := hW₂
    have hcc : c₂ = c := by
      have h1 : s₂.code? g.method = U.code? g.method := by
        rw [State.code?_eq, State.code?_eq, hW'.alike.method?]
      exact Option.some.inj (hc₂.symm.trans (h1.trans h.code))
    subst hcc
    have hlen : len₂ = len := by rw [hdg] at hd₂; cases hd₂; rfl
    subst hlen
    have hs₂ : s₂ = (({ U with heap := s₂.heap, slotsUsed := s₂.slotsUsed } : State).setVm s₂.vm).setTop { g with pc := g.pc + len₂, stack := v.toList ++ g.stack } := by
      refine e3.trans ?_
      rw [hf₂, State.calling_eq h.top, State.setFrames_setFrames, State.setTop_of_frames _ hr', hr]
      rfl
    have hsame : U.sameButNew ({ U with heap := s₂.heap, slotsUsed := s₂.slotsUsed } : State) L mc ms := by
      refine ⟨?_, q2, q3, q4, q5, q6⟩
      obtain ⟨t, ht, -⟩ := State.frames_cons hr
      show ({ U with heap := s₂.heap, slotsUsed := s₂.slotsUsed } : State) = { U.setFrames U.frames with heap := s₂.heap, slotsUsed := s₂.slotsUsed }
      rw [State.setFrames_self ht]
    subst hg
    refine Or.inl ⟨v, ⟨(({ U with heap := s₂.heap, slotsUsed := s₂.slotsUsed } : State).setVm s₂.vm), Ls ++ L, c0 + mc, s0 + ms⟩,
      ⟨X.admits, X.cas, X.clock, X.frames, X.room, X.hears, X.method, X.code, (X.here.setHeapUsed s₂.heap s₂.slotsUsed).setVm hW'.alike, X.tail, State.WarmedH.trans X.warmed hW', X.limits, X.bytes, X.same.trans (hsame.setVm s.vm)⟩,
      ⟨g, mk, s₂, L, rfl, rfl, hqc, rfl, hL, rfl, rfl⟩, ?_⟩
    show Steps p.tables e below _ ((({ U with heap := s₂.heap, slotsUsed := s₂.slotsUsed } : State).setVm s₂.vm).setTop { g with pc := g.pc + len₂, stack := v.toList ++ g.stack })
    rw [← hs₂]
    exact hsteps
  · obtain ⟨e2, q2, q3, q4, q5, q6⟩ := id hsm
    have e3 : s₂ = ({ (U.calling g mk a).setFrames s₂.frames with heap := s₂.heap, slotsUsed := s₂.slotsUsed } : State).setVm s₂.vm := by
      have : s₂ = ({ s₂ with vm := (U.calling g mk a).vm } : State).setVm s₂.vm := rfl
      rw [e2] at this
      exact this
    have hf₂ : s₂.frames = .throwing q :: .java g :: U.frames.tail := hend
    have hW' : U.WarmedH s₂.vm := hW₂
    have hs₂ : s₂ = ((({ U with heap := s₂.heap, slotsUsed := s₂.slotsUsed } : State).setVm s₂.vm).setTop g).pushFrame (.throwing q) := by
      refine e3.trans ?_
      rw [hf₂, State.calling_eq h.top, State.setFrames_setFrames, State.pushFrame, State.frames_setTop _ hr', State.setTop_of_frames _ hr', State.setFrames_setFrames, hr]
      rfl
    have hsame : U.sameButNew ({ U with heap := s₂.heap, slotsUsed := s₂.slotsUsed } : State) L mc ms := by
      refine ⟨?_, q2, q3, q4, q5, q6⟩
      obtain ⟨t, ht, -⟩ := State.frames_cons hr
      show ({ U with heap := s₂.heap, slotsUsed := s₂.slotsUsed } : State) = { U.setFrames U.frames with heap := s₂.heap, slotsUsed := s₂.slotsUsed }
      rw [State.setFrames_self ht]
    subst hg
    refine Or.inr ⟨q, ⟨(({ U with heap := s₂.heap, slotsUsed := s₂.slotsUsed } : State).setVm s₂.vm), Ls ++ L, c0 + mc, s0 + ms⟩,
      ⟨X.admits, X.cas, X.clock, X.frames, X.room, X.hears, X.method, X.code, (X.here.setHeapUsed s₂.heap s₂.slotsUsed).setVm hW'.alike, X.tail, State.WarmedH.trans X.warmed hW', X.limits, X.bytes, X.same.trans (hsame.setVm s.vm)⟩,
      ⟨g, mk, s₂, L, E, ce, rfl, rfl, hx, hce, hcv, hcl, rfl, hL, rfl, rfl⟩, ?_⟩
    show Steps p.tables e below _ (((({ U with heap := s₂.heap, slotsUsed := s₂.slotsUsed } : State).setVm s₂.vm).setTop g).pushFrame (.throwing q))
    rw [← hs₂]
    exact hsteps
end Payer
section Calls
variable {p : Program} {l : Launch} {e : Env} {R : Room} {s : State} {m : MethodId} {args : Array Value} {below : List Frame} {meth : Method} {c : Code} {T : State} {locs : List Loc} {cells slots : Nat}
theorem vx_callV (X : Stand p l e R s m args below meth c T locs cells slots) (hexec : p.tables.exec = Jvm.exec) {own C : String} {index : Nat} {y : MethodName} {bytes : ByteArray} {maxL : Nat} {ret : Option FieldType}
    (hown : s.vm.findClass own = some m.cls) (hlink : (Cond.methodLink own index y).before args s = true) (hinst : (Cond.instanceMethod y).before args s = true) (hsel : (Cond.selects C y y).before args s = true)
    (hcode : (Cond.code y bytes maxL ret).before args s = true) (hy : y.cls ≠ "java/lang/invoke/MethodHandle" ∧ y.cls ≠ "java/lang/invoke/VarHandle")
    {W9 : Nat} {Pre : Pt → Array Value → Prop} {Post : Pt → Array Value → Option Value → Pt → Prop} {PostX : Pt → Array Value → Addr → Pt → Prop} (hK : vx_Back l R p e below s args y 3 W9 Pre Post PostX)
    {b : Addr} {cellB : Cell} (hcell : T.heap[b]? = some cellB) (hobj : cellB.vm.isStatics = false) (hcls : s.vm.findClass C = some cellB.cls)
    {g : JFrame} (hg : g.method = m) (hsize : g.locals.size = c.maxLocals) {argsL rest : List Value} (hlen : ∀ sig, parseMethodDescriptor y.desc = some sig → argsL.length = sig.parameters.length)
    (hstack : g.stack = argsL.reverse ++ .ref b :: rest) (hW : 2 * g.monitorRoom + (rest.map fun v => v.category).sum ≤ W9) (hdg : decode c.code g.pc = .ok (.invokevirtual index, 3))
    (hpre : ∀ vm₁, s.WarmedH vm₁ → Pre ⟨T.setVm vm₁, locs, cells, slots⟩ (Value.ref b :: argsL).toArray) :
    (∃ (v : Option Value) (vm₁ : Vm) (B : Pt), s.WarmedH vm₁ ∧ Stand p l e R s m args below meth c B.U B.locs B.cells B.slots ∧ Post ⟨T.setVm vm₁, locs, cells, slots⟩ (Value.ref b :: argsL).toArray v B ∧
      ∀ target, Steps p.tables e below (B.U.setTop { g with pc := g.pc + 3, stack := v.toList ++ rest }) target → Steps p.tables e below (T.setTop g) target) ∨
    (∃ (q : Addr) (vm₁ : Vm) (B : Pt), s.WarmedH vm₁ ∧ Stand p l e R s m args below meth c B.U B.locs B.cells B.slots ∧ PostX ⟨T.setVm vm₁, locs, cells, slots⟩ (Value.ref b :: argsL).toArray q B ∧
      Steps p.tables e below (T.setTop g) ((B.U.setTop { g with stack := rest }).pushFrame (.throwing q))) := by
  obtain ⟨mk, methM, hnamed, hmethM, hstM, habM⟩ := Cond.instanceMethod_spec hinst
  obtain ⟨methM', cM, hmethM', -, -, -, -, -, -, hsigM⟩ := Cond.code_spec hnamed hcode
  cases hmethM.symm.trans hmethM'
  obtain ⟨c2, r2, m2, q1, q2, q3, q4, kP, hkP, hkPi⟩ := Cond.selects_spec hsel
  cases hcls.symm.trans q1
  cases (State.methodFound?_of_named hnamed hy).symm.trans q2
  cases hnamed.symm.trans q3
  have hselP : selectMethod e.platform s.vm cellB.cls mk = .method mk := by rw [Launch.admits_selectMethod X.admits]; exact q4
  obtain ⟨vm₁, X₁, hstep₁⟩ := X.invokevirtual hexec hown hlink hnamed hmethM hstM hkP hkPi hy (a := b) (cell := cellB) hcell
    (fun z h => by rw [h] at hobj; cases hobj) hselP hmethM habM hkP hkPi (g := g) hg (argsL := argsL) (rest := rest) (hlen _ hsigM) hstack hdg
  rcases hK m meth c ⟨T.setVm vm₁, locs, cells, slots⟩ { g with stack := rest } (.invokevirtual index) mk (Value.ref b :: argsL).toArray X₁ hg hsize hdg hW (X₁.named hnamed) (hpre vm₁ X₁.warmed) with ⟨v, B, X', hpost, hsteps⟩ | ⟨q, B, X', hpost, hsteps⟩
  · exact Or.inl ⟨v, vm₁, B, X₁.warmed, X', hpost, fun target h => hstep₁ _ fun acts => by rw [doInvoke_state]; exact hsteps.trans h⟩
  · exact Or.inr ⟨q, vm₁, B, X₁.warmed, X', hpost, hstep₁ _ fun acts => by rw [doInvoke_state]; exact hsteps⟩
theorem vx_callS (X : Stand p l e R s m args below meth c T locs cells slots) (hexec : p.tables.exec = Jvm.exec) {own : String} {index : Nat} {y : MethodName} {bytes : ByteArray} {maxL : Nat} {ret : Option FieldType}
    (hown : s.vm.findClass own = some m.cls) (hlink : (Cond.methodLink own index y).before args s = true) (hstat : (Cond.static y).before args s = true) (hinit : (Cond.initialized y.cls).before args s = true)
    (hcode : (Cond.code y bytes maxL ret).before args s = true) (hy : y.cls ≠ "java/lang/invoke/MethodHandle" ∧ y.cls ≠ "java/lang/invoke/VarHandle")
    {W9 : Nat} {Pre : Pt → Array Value → Prop} {Post : Pt → Array Value → Option Value → Pt → Prop} {PostX : Pt → Array Value → Addr → Pt → Prop} (hK : vx_Back l R p e below s args y 3 W9 Pre Post PostX)
    {g : JFrame} (hg : g.method = m) (hsize : g.locals.size = c.maxLocals) {argsL rest : List Value} (hlen : ∀ sig, parseMethodDescriptor y.desc = some sig → argsL.length = sig.parameters.length)
    (hstack : g.stack = argsL.reverse ++ rest) (hW : 2 * g.monitorRoom + (rest.map fun v => v.category).sum ≤ W9) (hdg : decode c.code g.pc = .ok (.invokestatic index, 3))
    (hpre : ∀ vm₁, s.WarmedH vm₁ → Pre ⟨T.setVm vm₁, locs, cells, slots⟩ argsL.toArray) :
    (∃ (v : Option Value) (vm₁ : Vm) (B : Pt), s.WarmedH vm₁ ∧ Stand p l e R s m args below meth c B.U B.locs B.cells B.slots ∧ Post ⟨T.setVm vm₁, locs, cells, slots⟩ argsL.toArray v B ∧
      ∀ target, Steps p.tables e below (B.U.setTop { g with pc := g.pc + 3, stack := v.toList ++ rest }) target → Steps p.tables e below (T.setTop g) target) ∨
    (∃ (q : Addr) (vm₁ : Vm) (B : Pt), s.WarmedH vm₁ ∧ Stand p l e R s m args below meth c B.U B.locs B.cells B.slots ∧ PostX ⟨T.setVm vm₁, locs, cells, slots⟩ argsL.toArray q B ∧
      Steps p.tables e below (T.setTop g) ((B.U.setTop { g with stack := rest }).pushFrame (.throwing q))) := by
  obtain ⟨mk, hnamed⟩ := Cond.code_named hcode
  obtain ⟨methM, cM, hmethM, -, -, -, -, -, -, hsigM⟩ := Cond.code_spec hnamed hcode
  have hstatic : methM.isStatic = true := Cond.static_spec hnamed hmethM hstat
  obtain ⟨kP, hkP, -⟩ := className_of_methodNamed hnamed
  have hinitP : kP.init = .initialized := Cond.initialized_spec (findClass_of_methodNamed hnamed) hkP hinit
  obtain ⟨vm₁, X₁, hstep₁⟩ := X.invokestatic hexec hown hlink hnamed hmethM hstatic hkP hinitP hy (g := g) hg (argsL := argsL) (rest := rest) (hlen _ hsigM) hstack hdg
  rcases hK m meth c ⟨T.setVm vm₁, locs, cells, slots⟩ { g with stack := rest } (.invokestatic index) mk argsL.toArray X₁ hg hsize hdg hW (X₁.named hnamed) (hpre vm₁ X₁.warmed) with ⟨v, B, X', hpost, hsteps⟩ | ⟨q, B, X', hpost, hsteps⟩
  · exact Or.inl ⟨v, vm₁, B, X₁.warmed, X', hpost, fun target h => hstep₁ _ fun acts => by rw [doInvoke_state]; exact hsteps.trans h⟩
  · exact Or.inr ⟨q, vm₁, B, X₁.warmed, X', hpost, hstep₁ _ fun acts => by rw [doInvoke_state]; exact hsteps⟩
end Calls
theorem vx_cls {s : State} {T : State} {vm₁ : Vm} {E : String} {k : ClassId} (hW : s.WarmedH vm₁) (h : (T.setVm vm₁).vm.findClass E = some k) : s.vm.findClass E = some k := by
  have h1 : vm₁.findClass E = some k := h
  rw [hW.alike.findClass] at h1
  exact h1
/-- the method's frame g, with q thrown over it -/
def vx_W (p : Program) (l : Launch) (e : Env) (R : Room) (s : State) (m : MethodId) (args : Array Value) (below : List Frame) (meth : Method) (c : Code) (H : Heap) (locs : List Loc) (cells slots : Nat) (Q : State → Prop) (g : JFrame) (q : Addr) : Prop :=
  ∀ T : State, T.heap = H → Stand p l e R s m args below meth c T locs cells slots → ∃ t, Steps p.tables e below ((T.setTop g).pushFrame (.throwing q)) t ∧ Q t
def vx_Run (p : Program) (l : Launch) (e : Env) (R : Room) (s : State) (m : MethodId) (args : Array Value) (below : List Frame) (meth : Method) (c : Code) (H : Heap) (locs : List Loc) (cells slots mc ms : Nat) (g : JFrame) (rest : List Value) (Qa : State → Outcome → State → Prop) (XC : String → State → State → Prop) (free : Addr → Prop) : Prop :=
  ∀ T : State, T.heap = H → Stand p l e R s m args below meth c T locs cells slots →
    (∃ (v : Option Value) (st₀ t T' : State) (L : List Loc), st₀.heap = H ∧ Stand p l e R s m args below meth c T' (locs ++ L) (cells + mc) (slots + ms) ∧ (∀ q ∈ L, free q.base) ∧ T'.heap = t.heap ∧ T'.vm = t.vm ∧ Qa st₀ (.returned v) t ∧
      Goes p e below T g T' { g with pc := g.pc + 3, stack := v.toList ++ rest }) ∨
    (∃ (q : Addr) (st₀ t T' : State) (L : List Loc) (E : String) (ce : Cell), st₀.heap = H ∧ Stand p l e R s m args below meth c T' (locs ++ L) (cells + mc) (slots + ms) ∧ (∀ z ∈ L, free z.base) ∧ T'.heap = t.heap ∧ T'.vm = t.vm ∧ XC E st₀ t ∧ t.heap[q]? = some ce ∧ ce.vm = .none ∧ s.vm.findClass E = some ce.cls ∧
      Steps p.tables e below (T.setTop g) ((T'.setTop { g with stack := rest }).pushFrame (.throwing q)))
def vx_X {S : Type} (px : S → Prop) (B : String → S → State → Prop) (A : Nat → Prop) : String → State → State → Prop := fun E st t => ∃ u : S, px u ∧ B E u t ∧ va_F A st t
section Runs
variable {p : Program} {l : Launch} {e : Env} {R : Room} {s : State} {m : MethodId} {args : Array Value} {below : List Frame} {meth : Method} {c : Code} {H : Heap} {locs : List Loc} {cells slots : Nat}
variable {y : MethodName} {bytes cc : ByteArray} {maxL nL mc ms n index : Nat} {ret : Option FieldType} {ws : List Cond} {rm : Room} {Pc : Array Value → State → Prop} {Qc : Array Value → State → Outcome → State → Prop} {XC : String → State → State → Prop} {free : Addr → Prop} {Ts : List Cond} {own C : String} {b : Addr} {As rest : List Value} {g : JFrame}
theorem vx_callBack (cb : CallB R s args own index y bytes maxL ret ws rm mc ms n) (hM : vx_Met l y ws rm Pc Qc XC mc ms free) (hbl : FrameBlind Pc) : vx_Back l R p e below s args y 3 8 (PreOf R mc ms Pc) (PostOf Qc mc ms free) (vx_Post XC mc ms free) := by
  obtain ⟨hrc, hrs, hfr, hlo, hws, hcw, -, hini, -⟩ := cb
  exact vx_back (bytes := bytes) (maxL := maxL) (ret := ret) hM hbl hrc hrs hfr hlo hws hcw (fun a' U hW => word_at hW (Or.inl (by first | rfl | simp [Cond.onTables, Cond.keeps, Cond.steady])) hini)
theorem vx_runV (S : CallFix p m c cc nL s args Ts own) (hM : vx_Met l y ws rm Pc Qc XC mc ms free) (cw : CallW R s args own C index y bytes maxL ret ws rm mc ms n) (hp : PreV s H C b Pc As)
    (hg : g.method = m) (hn : As.length = n) (hsize : g.locals.size = nL) (hstack : g.stack = As.reverse ++ .ref b :: rest) (hW : 2 * g.monitorRoom + (rest.map fun v => v.category).sum ≤ 8) (hdg : decode cc g.pc = .ok (.invokevirtual index, 3)) (hf : cells + mc ≤ R.cells ∧ slots + ms ≤ R.slots) :
    vx_Run p l e R s m args below meth c H locs cells slots mc ms g rest (Qc (Value.ref b :: As).toArray) XC free := by
  have hK : vx_Back l R p e below s args y 3 8 (PreOf R mc ms Pc) (PostOf Qc mc ms free) (vx_Post XC mc ms free) := vx_callBack cw.1 hM hp.1
  obtain ⟨⟨-, -, -, -, -, -, hcode, -, hy, hlen, hl⟩, hin, hse⟩ := cw
  obtain ⟨hx, hb, hml, ho, -⟩ := S
  obtain ⟨-, ⟨cellB, hcB, hoB, hclB⟩, hPc⟩ := hp
  intro T hT X
  rcases vx_callV X hx (C := C) (bytes := bytes) (maxL := maxL) (ret := ret) ho hl hin hse hcode hy hK (by rw [hT]; exact hcB) hoB hclB hg (hsize.trans hml.symm) (argsL := As) (rest := rest) (fun sig h => hn.trans (hlen sig h)) hstack hW (by rw [hb]; exact hdg)
    (fun vm₁ hW₁ => ⟨hf.1, hf.2, hPc (T.setVm vm₁) hT hW₁⟩) with ⟨v, vm₁, ⟨U', l2, c2, s2⟩, hW₁, X', ⟨g', mk, t, L, e1, e2, hq, h1, hL, h2, h3⟩, st⟩ | ⟨q, vm₁, ⟨U', l2, c2, s2⟩, hW₁, X', ⟨g', mk, t, L, E, ce, e1, e2, hq, hce, hcv, hcl, h1, hL, h2, h3⟩, st⟩
  · dsimp only [Pt.U, Pt.locs, Pt.cells, Pt.slots] at X' e1 e2 h1 h2 h3 st
    subst h1; subst h2; subst h3
    exact Or.inl ⟨v, (T.setVm vm₁).calling g' mk (Value.ref b :: As).toArray, t, U', L, hT, X', hL, e1, e2, hq, st⟩
  · dsimp only [Pt.U, Pt.locs, Pt.cells, Pt.slots] at X' e1 e2 h1 h2 h3 st hcl
    subst h1; subst h2; subst h3
    exact Or.inr ⟨q, (T.setVm vm₁).calling g' mk (Value.ref b :: As).toArray, t, U', L, E, ce, hT, X', hL, e1, e2, hq, hce, hcv, vx_cls hW₁ hcl, st⟩
theorem vx_runS (S : CallFix p m c cc nL s args Ts own) (hM : vx_Met l y ws rm Pc Qc XC mc ms free) (cw : CallB R s args own index y bytes maxL ret ws rm mc ms n ∧ (Cond.static y).before args s = true) (hp : PreS s H Pc As)
    (hg : g.method = m) (hn : As.length = n) (hsize : g.locals.size = nL) (hstack : g.stack = As.reverse ++ rest) (hW : 2 * g.monitorRoom + (rest.map fun v => v.category).sum ≤ 8) (hdg : decode cc g.pc = .ok (.invokestatic index, 3)) (hf : cells + mc ≤ R.cells ∧ slots + ms ≤ R.slots) :
    vx_Run p l e R s m args below meth c H locs cells slots mc ms g rest (Qc As.toArray) XC free := by
  have hK : vx_Back l R p e below s args y 3 8 (PreOf R mc ms Pc) (PostOf Qc mc ms free) (vx_Post XC mc ms free) := vx_callBack cw.1 hM hp.1
  obtain ⟨⟨-, -, -, -, -, -, hcode, hini, hy, hlen, hl⟩, hstt⟩ := cw
  obtain ⟨hx, hb, hml, ho, -⟩ := S
  intro T hT X
  rcases vx_callS X hx (bytes := bytes) (maxL := maxL) (ret := ret) ho hl hstt hini hcode hy hK hg (hsize.trans hml.symm) (argsL := As) (rest := rest) (fun sig h => hn.trans (hlen sig h)) hstack hW (by rw [hb]; exact hdg)
    (fun vm₁ hW₁ => ⟨hf.1, hf.2, hp.2 (T.setVm vm₁) hT hW₁⟩) with ⟨v, vm₁, ⟨U', l2, c2, s2⟩, hW₁, X', ⟨g', mk, t, L, e1, e2, hq, h1, hL, h2, h3⟩, st⟩ | ⟨q, vm₁, ⟨U', l2, c2, s2⟩, hW₁, X', ⟨g', mk, t, L, E, ce, e1, e2, hq, hce, hcv, hcl, h1, hL, h2, h3⟩, st⟩
  · dsimp only [Pt.U, Pt.locs, Pt.cells, Pt.slots] at X' e1 e2 h1 h2 h3 st
    subst h1; subst h2; subst h3
    exact Or.inl ⟨v, (T.setVm vm₁).calling g' mk As.toArray, t, U', L, hT, X', hL, e1, e2, hq, st⟩
  · dsimp only [Pt.U, Pt.locs, Pt.cells, Pt.slots] at X' e1 e2 h1 h2 h3 st hcl
    subst h1; subst h2; subst h3
    exact Or.inr ⟨q, (T.setVm vm₁).calling g' mk As.toArray, t, U', L, E, ce, hT, X', hL, e1, e2, hq, hce, hcv, vx_cls hW₁ hcl, st⟩
end Runs
section Rows
variable {p : Program} {l : Launch} {e : Env} {R : Room} {s : State} {m : MethodId} {args : Array Value} {below : List Frame} {meth : Method} {c : Code} {H : Heap} {locs : List Loc} {cells slots : Nat} {Q : State → Prop}
variable {mc ms : Nat} {free : Addr → Prop} {A0 A1 : Nat → Prop} {H0 : Heap} {a : Array Value} {pc : Nat} {ls : Array Slot} {st0 rest : List Value}
theorem vx_keep {st₀ t T' : State} {L : List Loc} (h0 : st₀.heap = H) (e1 : T'.heap = t.heap) (hS : va_S A0 H0 H locs) (hA : ∀ q, q < H.size → A1 q → A0 q) (hf : ∀ q, free q → A0 q) (hL : ∀ q ∈ L, free q.base) (hF : va_F A1 st₀ t) :
    H.size ≤ T'.heap.size ∧ (∀ q : Nat, q < H.size → ¬ A1 q → T'.heap[q]? = H[q]?) ∧ va_S A0 H0 T'.heap (locs ++ L) := by
  obtain ⟨hz, hk⟩ := hF
  rw [h0] at hz hk
  exact ⟨by rw [e1]; exact hz, fun q h1 h2 => by rw [e1]; exact hk q h1 h2,
    ⟨Nat.le_trans hS.1 (by rw [e1]; exact hz), fun q h1 h2 => by rw [e1, hk q (Nat.lt_of_lt_of_le h1 hS.1) (fun z => h2 (hA q (Nat.lt_of_lt_of_le h1 hS.1) z))]; exact hS.2.1 q h1 h2, fun q hq => by
      rcases List.mem_append.mp hq with h | h
      · exact hS.2.2 q h
      · exact hf _ (hL q h)⟩⟩
theorem vx_calli {S SX : Type} {post : Int32 → S → Prop} {px : SX → Prop} {B : S → State → Prop} {BX : String → SX → State → Prop} {AX : Nat → Prop} (hr : vx_Run p l e R s m args below meth c H locs cells slots mc ms (F0 m pc ls st0) rest (va_Qi post B A1 a) (vx_X px BX AX) free) (hS : va_S A0 H0 H locs) (hA : ∀ q, q < H.size → A1 q → A0 q) (hf : ∀ q, free q → A0 q) (hAX : ∀ q, q < H.size → AX q → A0 q)
    (kx : ∀ (E : String) (ce : Cell) (q9 : Addr) (u : SX) (t : State) (H1 : Heap) (locs1 : List Loc), t.heap = H1 → s.vm.Alike t.vm → px u → BX E u t → H.size ≤ H1.size → (∀ q : Nat, q < H.size → ¬ AX q → H1[q]? = H[q]?) → va_S A0 H0 H1 locs1 → H1[q9]? = some ce → ce.vm = .none → s.vm.findClass E = some ce.cls → vx_W p l e R s m args below meth c H1 locs1 (cells + mc) (slots + ms) Q (F0 m pc ls rest) q9)
    (kk : ∀ (r : Int32) (u : S) (t : State) (H1 : Heap) (locs1 : List Loc), t.heap = H1 → s.vm.Alike t.vm → post r u → B u t → H.size ≤ H1.size → (∀ q : Nat, q < H.size → ¬ A1 q → H1[q]? = H[q]?) → va_S A0 H0 H1 locs1 → W p l e R s m args below meth c H1 locs1 (cells + mc) (slots + ms) Q (F0 m (pc + 3) ls (.int r :: rest))) : W p l e R s m args below meth c H locs cells slots Q (F0 m pc ls st0) := by
  intro T hT X
  rcases hr T hT X with ⟨v, st₀, t, T', L, h0, X', hL, e1, e2, ⟨⟨r, u, hv, hp, hb⟩, hF⟩, st⟩ | ⟨q, st₀, t, T', L, E, ce, h0, X', hL, e1, e2, ⟨u, hp, hb, hF⟩, hce, hcv, hcl, st⟩
  · cases hv
    obtain ⟨k1, k2, k3⟩ := vx_keep h0 e1 hS hA hf hL hF
    obtain ⟨t2, a1, b1⟩ := kk r u t T'.heap (locs ++ L) e1.symm (by rw [← e2]; exact X'.warmed.alike) hp hb k1 k2 k3 T' rfl X'
    exact ⟨t2, st t2 a1, b1⟩
  · obtain ⟨k1, k2, k3⟩ := vx_keep h0 e1 hS hAX hf hL hF
    obtain ⟨t2, a1, b1⟩ := kx E ce q u t T'.heap (locs ++ L) e1.symm (by rw [← e2]; exact X'.warmed.alike) hp hb k1 k2 k3 (by rw [e1]; exact hce) hcv hcl T' rfl X'
    exact ⟨t2, st.trans a1, b1⟩
theorem vx_calll {S SX : Type} {post : Int64 → S → Prop} {px : SX → Prop} {B : S → State → Prop} {BX : String → SX → State → Prop} {AX : Nat → Prop} (hr : vx_Run p l e R s m args below meth c H locs cells slots mc ms (F0 m pc ls st0) rest (va_Ql post B A1 a) (vx_X px BX AX) free) (hS : va_S A0 H0 H locs) (hA : ∀ q, q < H.size → A1 q → A0 q) (hf : ∀ q, free q → A0 q) (hAX : ∀ q, q < H.size → AX q → A0 q)
    (kx : ∀ (E : String) (ce : Cell) (q9 : Addr) (u : SX) (t : State) (H1 : Heap) (locs1 : List Loc), t.heap = H1 → s.vm.Alike t.vm → px u → BX E u t → H.size ≤ H1.size → (∀ q : Nat, q < H.size → ¬ AX q → H1[q]? = H[q]?) → va_S A0 H0 H1 locs1 → H1[q9]? = some ce → ce.vm = .none → s.vm.findClass E = some ce.cls → vx_W p l e R s m args below meth c H1 locs1 (cells + mc) (slots + ms) Q (F0 m pc ls rest) q9)
    (kk : ∀ (r : Int64) (u : S) (t : State) (H1 : Heap) (locs1 : List Loc), t.heap = H1 → s.vm.Alike t.vm → post r u → B u t → H.size ≤ H1.size → (∀ q : Nat, q < H.size → ¬ A1 q → H1[q]? = H[q]?) → va_S A0 H0 H1 locs1 → W p l e R s m args below meth c H1 locs1 (cells + mc) (slots + ms) Q (F0 m (pc + 3) ls (.long r :: rest))) : W p l e R s m args below meth c H locs cells slots Q (F0 m pc ls st0) := by
  intro T hT X
  rcases hr T hT X with ⟨v, st₀, t, T', L, h0, X', hL, e1, e2, ⟨⟨r, u, hv, hp, hb⟩, hF⟩, st⟩ | ⟨q, st₀, t, T', L, E, ce, h0, X', hL, e1, e2, ⟨u, hp, hb, hF⟩, hce, hcv, hcl, st⟩
  · cases hv
    obtain ⟨k1, k2, k3⟩ := vx_keep h0 e1 hS hA hf hL hF
    obtain ⟨t2, a1, b1⟩ := kk r u t T'.heap (locs ++ L) e1.symm (by rw [← e2]; exact X'.warmed.alike) hp hb k1 k2 k3 T' rfl X'
    exact ⟨t2, st t2 a1, b1⟩
  · obtain ⟨k1, k2, k3⟩ := vx_keep h0 e1 hS hAX hf hL hF
    obtain ⟨t2, a1, b1⟩ := kx E ce q u t T'.heap (locs ++ L) e1.symm (by rw [← e2]; exact X'.warmed.alike) hp hb k1 k2 k3 (by rw [e1]; exact hce) hcv hcl T' rfl X'
    exact ⟨t2, st.trans a1, b1⟩
theorem vx_callf {S SX : Type} {post : UInt32 → S → Prop} {px : SX → Prop} {B : S → State → Prop} {BX : String → SX → State → Prop} {AX : Nat → Prop} (hr : vx_Run p l e R s m args below meth c H locs cells slots mc ms (F0 m pc ls st0) rest (va_Qf post B A1 a) (vx_X px BX AX) free) (hS : va_S A0 H0 H locs) (hA : ∀ q, q < H.size → A1 q → A0 q) (hf : ∀ q, free q → A0 q) (hAX : ∀ q, q < H.size → AX q → A0 q)
    (kx : ∀ (E : String) (ce : Cell) (q9 : Addr) (u : SX) (t : State) (H1 : Heap) (locs1 : List Loc), t.heap = H1 → s.vm.Alike t.vm → px u → BX E u t → H.size ≤ H1.size → (∀ q : Nat, q < H.size → ¬ AX q → H1[q]? = H[q]?) → va_S A0 H0 H1 locs1 → H1[q9]? = some ce → ce.vm = .none → s.vm.findClass E = some ce.cls → vx_W p l e R s m args below meth c H1 locs1 (cells + mc) (slots + ms) Q (F0 m pc ls rest) q9)
    (kk : ∀ (r : UInt32) (u : S) (t : State) (H1 : Heap) (locs1 : List Loc), t.heap = H1 → s.vm.Alike t.vm → post r u → B u t → H.size ≤ H1.size → (∀ q : Nat, q < H.size → ¬ A1 q → H1[q]? = H[q]?) → va_S A0 H0 H1 locs1 → W p l e R s m args below meth c H1 locs1 (cells + mc) (slots + ms) Q (F0 m (pc + 3) ls (.float r :: rest))) : W p l e R s m args below meth c H locs cells slots Q (F0 m pc ls st0) := by
  intro T hT X
  rcases hr T hT X with ⟨v, st₀, t, T', L, h0, X', hL, e1, e2, ⟨⟨r, u, hv, hp, hb⟩, hF⟩, st⟩ | ⟨q, st₀, t, T', L, E, ce, h0, X', hL, e1, e2, ⟨u, hp, hb, hF⟩, hce, hcv, hcl, st⟩
  · cases hv
    obtain ⟨k1, k2, k3⟩ := vx_keep h0 e1 hS hA hf hL hF
    obtain ⟨t2, a1, b1⟩ := kk r u t T'.heap (locs ++ L) e1.symm (by rw [← e2]; exact X'.warmed.alike) hp hb k1 k2 k3 T' rfl X'
    exact ⟨t2, st t2 a1, b1⟩
  · obtain ⟨k1, k2, k3⟩ := vx_keep h0 e1 hS hAX hf hL hF
    obtain ⟨t2, a1, b1⟩ := kx E ce q u t T'.heap (locs ++ L) e1.symm (by rw [← e2]; exact X'.warmed.alike) hp hb k1 k2 k3 (by rw [e1]; exact hce) hcv hcl T' rfl X'
    exact ⟨t2, st.trans a1, b1⟩
theorem vx_calld {S SX : Type} {post : UInt64 → S → Prop} {px : SX → Prop} {B : S → State → Prop} {BX : String → SX → State → Prop} {AX : Nat → Prop} (hr : vx_Run p l e R s m args below meth c H locs cells slots mc ms (F0 m pc ls st0) rest (va_Qd post B A1 a) (vx_X px BX AX) free) (hS : va_S A0 H0 H locs) (hA : ∀ q, q < H.size → A1 q → A0 q) (hf : ∀ q, free q → A0 q) (hAX : ∀ q, q < H.size → AX q → A0 q)
    (kx : ∀ (E : String) (ce : Cell) (q9 : Addr) (u : SX) (t : State) (H1 : Heap) (locs1 : List Loc), t.heap = H1 → s.vm.Alike t.vm → px u → BX E u t → H.size ≤ H1.size → (∀ q : Nat, q < H.size → ¬ AX q → H1[q]? = H[q]?) → va_S A0 H0 H1 locs1 → H1[q9]? = some ce → ce.vm = .none → s.vm.findClass E = some ce.cls → vx_W p l e R s m args below meth c H1 locs1 (cells + mc) (slots + ms) Q (F0 m pc ls rest) q9)
    (kk : ∀ (r : UInt64) (u : S) (t : State) (H1 : Heap) (locs1 : List Loc), t.heap = H1 → s.vm.Alike t.vm → post r u → B u t → H.size ≤ H1.size → (∀ q : Nat, q < H.size → ¬ A1 q → H1[q]? = H[q]?) → va_S A0 H0 H1 locs1 → W p l e R s m args below meth c H1 locs1 (cells + mc) (slots + ms) Q (F0 m (pc + 3) ls (.double r :: rest))) : W p l e R s m args below meth c H locs cells slots Q (F0 m pc ls st0) := by
  intro T hT X
  rcases hr T hT X with ⟨v, st₀, t, T', L, h0, X', hL, e1, e2, ⟨⟨r, u, hv, hp, hb⟩, hF⟩, st⟩ | ⟨q, st₀, t, T', L, E, ce, h0, X', hL, e1, e2, ⟨u, hp, hb, hF⟩, hce, hcv, hcl, st⟩
  · cases hv
    obtain ⟨k1, k2, k3⟩ := vx_keep h0 e1 hS hA hf hL hF
    obtain ⟨t2, a1, b1⟩ := kk r u t T'.heap (locs ++ L) e1.symm (by rw [← e2]; exact X'.warmed.alike) hp hb k1 k2 k3 T' rfl X'
    exact ⟨t2, st t2 a1, b1⟩
  · obtain ⟨k1, k2, k3⟩ := vx_keep h0 e1 hS hAX hf hL hF
    obtain ⟨t2, a1, b1⟩ := kx E ce q u t T'.heap (locs ++ L) e1.symm (by rw [← e2]; exact X'.warmed.alike) hp hb k1 k2 k3 (by rw [e1]; exact hce) hcv hcl T' rfl X'
    exact ⟨t2, st.trans a1, b1⟩
theorem vx_callv {S SX : Type} {post : S → Prop} {px : SX → Prop} {B : S → State → Prop} {BX : String → SX → State → Prop} {AX : Nat → Prop} (hr : vx_Run p l e R s m args below meth c H locs cells slots mc ms (F0 m pc ls st0) rest (va_Qv post B A1 a) (vx_X px BX AX) free) (hS : va_S A0 H0 H locs) (hA : ∀ q, q < H.size → A1 q → A0 q) (hf : ∀ q, free q → A0 q) (hAX : ∀ q, q < H.size → AX q → A0 q)
    (kx : ∀ (E : String) (ce : Cell) (q9 : Addr) (u : SX) (t : State) (H1 : Heap) (locs1 : List Loc), t.heap = H1 → s.vm.Alike t.vm → px u → BX E u t → H.size ≤ H1.size → (∀ q : Nat, q < H.size → ¬ AX q → H1[q]? = H[q]?) → va_S A0 H0 H1 locs1 → H1[q9]? = some ce → ce.vm = .none → s.vm.findClass E = some ce.cls → vx_W p l e R s m args below meth c H1 locs1 (cells + mc) (slots + ms) Q (F0 m pc ls rest) q9)
    (kk : ∀ (u : S) (t : State) (H1 : Heap) (locs1 : List Loc), t.heap = H1 → s.vm.Alike t.vm → post u → B u t → H.size ≤ H1.size → (∀ q : Nat, q < H.size → ¬ A1 q → H1[q]? = H[q]?) → va_S A0 H0 H1 locs1 → W p l e R s m args below meth c H1 locs1 (cells + mc) (slots + ms) Q (F0 m (pc + 3) ls (rest))) : W p l e R s m args below meth c H locs cells slots Q (F0 m pc ls st0) := by
  intro T hT X
  rcases hr T hT X with ⟨v, st₀, t, T', L, h0, X', hL, e1, e2, ⟨⟨u, hv, hp, hb⟩, hF⟩, st⟩ | ⟨q, st₀, t, T', L, E, ce, h0, X', hL, e1, e2, ⟨u, hp, hb, hF⟩, hce, hcv, hcl, st⟩
  · cases hv
    obtain ⟨k1, k2, k3⟩ := vx_keep h0 e1 hS hA hf hL hF
    obtain ⟨t2, a1, b1⟩ := kk u t T'.heap (locs ++ L) e1.symm (by rw [← e2]; exact X'.warmed.alike) hp hb k1 k2 k3 T' rfl X'
    exact ⟨t2, st t2 a1, b1⟩
  · obtain ⟨k1, k2, k3⟩ := vx_keep h0 e1 hS hAX hf hL hF
    obtain ⟨t2, a1, b1⟩ := kx E ce q u t T'.heap (locs ++ L) e1.symm (by rw [← e2]; exact X'.warmed.alike) hp hb k1 k2 k3 (by rw [e1]; exact hce) hcv hcl T' rfl X'
    exact ⟨t2, st.trans a1, b1⟩
end Rows
section Ends
variable {p : Program} {l : Launch} {e : Env} {R : Room} {s : State} {m : MethodId} {args : Array Value} {below : List Frame} {meth : Method} {c : Code} {H : Heap} {locs : List Loc} {cells slots : Nat} {Q : State → Prop}
variable {mc ms : Nat} {free : Addr → Prop} {A0 A1 : Nat → Prop} {H0 : Heap} {a : Array Value} {ls : Array Slot} {st0 rest : List Value}
variable {Qc : Array Value → State → Outcome → State → Prop} {XC : String → State → State → Prop}
/-- what a body that may throw owes at its end -/
def vx_MQ (below : List Frame) (Qc : Array Value → State → Outcome → State → Prop) (XC : String → State → State → Prop) (a : Array Value) (s : State) (mc ms : Nat) (free : Addr → Prop) : State → Prop := fun t =>
  ∃ o, t.status = .running ∧ Ended t below o ∧ vx_Q Qc XC mc ms free a s o t
theorem vx_ret {g : JFrame} {mc ms : Nat} (k : W p l e R s m args below meth c H locs cells slots (MQ below Qc args s mc ms free) g) : W p l e R s m args below meth c H locs cells slots (vx_MQ below Qc XC args s mc ms free) g := by
  intro T hT X
  obtain ⟨t, a1, o, b1, b2, b3, b4⟩ := k T hT X
  exact ⟨t, a1, o, b1, b2, Or.inl ⟨b3, b4⟩⟩
/-- not caught here: it goes on to the caller -/
theorem vx_widen {g : JFrame} {q : Addr} {k n : Nat} (h1 : cells ≤ k) (h2 : slots ≤ n) (kk : vx_W p l e R s m args below meth c H locs k n Q g q) : vx_W p l e R s m args below meth c H locs cells slots Q g q := fun T hT X => kk T hT (stand_widen X h1 h2)
theorem vx_out {pc : Nat} {E : String} {ce : Cell} {q : Addr} {mc ms : Nat} (hout : ∀ x ∈ c.exceptionTable.toList, covers x pc = false) (hlocks : meth.locks = false) (hcell : H[q]? = some ce) (hv : ce.vm = .none) (hcl : s.vm.findClass E = some ce.cls)
    (hx : ∀ t : State, t.heap = H → s.vm.Alike t.vm → XC E s t) (hf : ∀ z ∈ locs, free z.base) (hc : cells ≤ mc) (hs : slots ≤ ms) :
    vx_W p l e R s m args below meth c H locs cells slots (vx_MQ below Qc XC args s mc ms free) (F0 m pc ls rest) q := by
  intro T hT X
  obtain ⟨st1, hrun, hend, hW, hsm⟩ := X.leaveThrown q (g := F0 m pc ls rest) rfl rfl rfl hout hlocks
  have hcell9 : (T.setFrames (.throwing q :: below)).heap[q]? = some ce := by
    show T.heap[q]? = some ce
    rw [hT]; exact hcell
  exact ⟨_, st1, .threw q, hrun, hend, Or.inr ⟨q, rfl, E, ce, locs, hx _ hT hW.alike, hcell9, hv, hcl, hW, hsm.mono hc hs, hf⟩⟩
theorem vx_frame {U : State} {k n : Nat} (h : s.sameButNew ({ U with vm := s.vm } : State) locs k n) : s.heap.size ≤ U.heap.size ∧ ∀ q : Nat, q < s.heap.size → (∀ z ∈ locs, z.base ≠ q) → U.heap[q]? = s.heap[q]? := by
  obtain ⟨-, h2, -, -, -, h6⟩ := h
  refine ⟨h2, fun q hq hz => ?_⟩
  obtain ⟨c9, e1, e2, e3, e4⟩ := h6 q _ (Array.getElem?_eq_getElem hq)
  have hs : c9.slots = (s.heap[q]).slots := Array.ext_getElem? fun i => e4 i fun hm => hz _ hm rfl
  have h9 : c9 = s.heap[q] := by
    rw [hs] at e2
    exact e2
  have e5 : U.heap[q]? = some c9 := e1
  rw [e5, h9, Array.getElem?_eq_getElem hq]
/-- the words of a throw but the four that speak of the heap -/
def vx_no (w : Cond) : Bool := decide (w ≠ .isRef (.static Bundle.tN "UNASSIGNED_STACK" Bundle.steD)) && decide (w ≠ .isRef (.static Bundle.tN "SUPPRESSED_SENTINEL" Bundle.listD)) && decide (w ≠ .laysStatic Bundle.tN "UNASSIGNED_STACK" Bundle.steD) && decide (w ≠ .laysStatic Bundle.tN "SUPPRESSED_SENTINEL" Bundle.listD)
def vx_at0 (own : String) (ic : Nat) (X : String) (names : List String) : List Cond := (Bundle.ownAtoms0 own ic X names).filter vx_no
def vx_atS (own : String) (ic : Nat) (X : String) (names : List String) : List Cond := (Bundle.ownAtoms own ic X names).filter vx_no
/-- a word that the tables alone decide, or a good one -/
def vx_ot (w : Cond) : Bool := w.onTables || goodWord w
theorem vx_ot_at {args a' : Array Value} {s U : State} {w : Cond} (hW : s.WarmedH U.vm) (hvm : s.vm = U.vm) (hg : vx_ot w = true) (h : w.before args s = true) : w.before a' U = true := by
  simp only [vx_ot, Bool.or_eq_true] at hg
  rcases hg with hg | hg
  · exact va_tabs hg hvm h
  · exact word_at hW (good_of_word hg) h
/-- a list's words: the good ones out of the method's own list, the others by premises of their own -/
theorem vx_hat {args : Array Value} {s : State} {L B : List Cond} (h1 : ∀ w ∈ L.filter goodWord, w.before args s = true) (h2 : ∀ w ∈ L.filter (fun w => !goodWord w), w ∈ B) (h3 : ∀ w ∈ B, w.before args s = true) : ∀ w ∈ L, w.before args s = true := by
  intro w hw
  by_cases g : goodWord w = true
  · exact h1 w (List.mem_filter.mpr ⟨hw, g⟩)
  · refine h3 w (h2 w (List.mem_filter.mpr ⟨hw, ?_⟩))
    show (!goodWord w) = true
    cases hgw : goodWord w
    · rfl
    · exact absurd hgw g
theorem vx_c {args : Array Value} {s : State} {w : Cond} {B : List Cond} (h : w.before args s = true) (t : ∀ w ∈ B, w.before args s = true) : ∀ w' ∈ w :: B, w'.before args s = true := fun w' h' => (List.mem_cons.mp h').elim (fun e => by rw [e]; exact h) (t w')
theorem vx_n {args : Array Value} {s : State} : ∀ w ∈ ([] : List Cond), w.before args s = true := fun _ h => nomatch h
theorem vx_own {args : Array Value} {s : State} {L : List Cond} (h1 : ∀ w ∈ L.filter vx_no, w.before args s = true)
    (hU : (Cond.isRef (.static Bundle.tN "UNASSIGNED_STACK" Bundle.steD)).before args s = true) (hN : (Cond.isRef (.static Bundle.tN "SUPPRESSED_SENTINEL" Bundle.listD)).before args s = true)
    (lU : (Cond.laysStatic Bundle.tN "UNASSIGNED_STACK" Bundle.steD).before args s = true) (lN : (Cond.laysStatic Bundle.tN "SUPPRESSED_SENTINEL" Bundle.listD).before args s = true) : ∀ w ∈ L, w.before args s = true := by
  intro w hw
  by_cases e1 : w = .isRef (.static Bundle.tN "UNASSIGNED_STACK" Bundle.steD)
  · rw [e1]; exact hU
  · by_cases e2 : w = .isRef (.static Bundle.tN "SUPPRESSED_SENTINEL" Bundle.listD)
    · rw [e2]; exact hN
    · by_cases e3 : w = .laysStatic Bundle.tN "UNASSIGNED_STACK" Bundle.steD
      · rw [e3]; exact lU
      · by_cases e4 : w = .laysStatic Bundle.tN "SUPPRESSED_SENTINEL" Bundle.listD
        · rw [e4]; exact lN
        · exact h1 w (List.mem_filter.mpr ⟨hw, by unfold vx_no; rw [decide_eq_true e1, decide_eq_true e2, decide_eq_true e3, decide_eq_true e4]; rfl⟩)
/-- where a static field lies, its class's statics cell in H -/
def vx_L (C n d : String) (A : Nat → Prop) (U : State) (H : Heap) : Prop := ∃ (c : ClassId) (k : Class) (i : Nat) (f : Field) (a : Nat) (cell : Cell), U.vm.findClass C = some c ∧ U.fieldFound? C n d = some (c, k, i, f) ∧ f.isStatic = true ∧ k.statics = some a ∧ H[a]? = some cell ∧ cell.vm.isStatics = true ∧ cell.cls = c ∧ f.slot < cell.slots.size ∧ k.staticTypes[f.slot]? = some f.type ∧ ¬ A a
theorem vx_L.moved {C n d : String} {A : Nat → Prop} {u U : State} {H : Heap} (hvm : u.vm.Alike U.vm) (h : vx_L C n d A u H) : vx_L C n d A U H := by
  obtain ⟨c, k, i, f, a, cell, h1, h2, h3, h4, h5, h6, h7, h8, h9, h10⟩ := h
  obtain ⟨k', hi', he⟩ := State.fieldFound?_setVm hvm h2
  exact ⟨c, k', i, f, a, cell, by rw [hvm.findClass]; exact h1, hi', h3, by rw [he]; exact h4, h5, h6, h7, h8, by rw [he]; exact h9, h10⟩
theorem vx_L.kept {C n d : String} {A : Nat → Prop} {U : State} {H H1 : Heap} (h : vx_L C n d A U H) (hq : ∀ a : Nat, a < H.size → ¬ A a → H1[a]? = H[a]?) : vx_L C n d A U H1 := by
  obtain ⟨c, k, i, f, a, cell, h1, h2, h3, h4, h5, h6, h7, h8, h9, h10⟩ := h
  exact ⟨c, k, i, f, a, cell, h1, h2, h3, h4, by rw [hq a (Array.getElem?_eq_some_iff.mp h5).1 h10]; exact h5, h6, h7, h8, h9, h10⟩
theorem vx_L.narrow {C n d : String} {A B : Nat → Prop} {U : State} {H : Heap} (h : vx_L C n d A U H) (hAB : ∀ q, B q → A q) : vx_L C n d B U H := by
  obtain ⟨c, k, i, f, a, cell, h1, h2, h3, h4, h5, h6, h7, h8, h9, h10⟩ := h
  exact ⟨c, k, i, f, a, cell, h1, h2, h3, h4, h5, h6, h7, h8, h9, fun z => h10 (hAB _ z)⟩
theorem vx_L.word {C n d : String} {A : Nat → Prop} {s : State} {args : Array Value} (h : vx_L C n d A s s.heap) : (Cond.laysStatic C n d).before args s = true := by
  obtain ⟨c, k, i, f, a, cell, h1, h2, h3, h4, h5, h6, h7, h8, h9, -⟩ := h
  show (Cond.laysStatic C n d).holds args s none s [] = true
  exact Cond.laysStatic_of h1 h2 h3 h4 h5 h6 h7 h8 h9
/-- .. and what it holds: null or some reference -/
def vx_Zq (C n d : String) (A : Nat → Prop) (U : State) (H : Heap) : Prop := va_Zq C n d A U H ∧ vx_L C n d A U H
theorem vx_Zq.moved {C n d : String} {A : Nat → Prop} {u U : State} {H : Heap} (hvm : u.vm.Alike U.vm) (h : vx_Zq C n d A u H) : vx_Zq C n d A U H := ⟨va_Zq.moved hvm h.1, vx_L.moved hvm h.2⟩
theorem vx_Zq.kept {C n d : String} {A : Nat → Prop} {U : State} {H H1 : Heap} (h : vx_Zq C n d A U H) (hq : ∀ a : Nat, a < H.size → ¬ A a → H1[a]? = H[a]?) : vx_Zq C n d A U H1 := ⟨va_Zq.kept h.1 hq, vx_L.kept h.2 hq⟩
theorem vx_Zq.narrow {C n d : String} {A B : Nat → Prop} {U : State} {H : Heap} (h : vx_Zq C n d A U H) (hAB : ∀ q, B q → A q) : vx_Zq C n d B U H := ⟨va_Zq.narrow h.1 hAB, vx_L.narrow h.2 hAB⟩
theorem vx_Zqof {args : Array Value} {s : State} {C n d : String} {A : Nat → Prop} (hl : (Cond.laysStatic C n d).before args s = true) (hini : (Cond.initialized C).before args s = true) (h : (Cond.isRef (.static C n d)).before args s = true) (hA : ∀ a : Nat, a < s.heap.size → ¬ A a) : vx_Zq C n d A s s.heap := by
  refine ⟨va_Zqof hl hini h hA, ?_⟩
  obtain ⟨c, k, i, f, a, cell, h1, h2, h3, h4, h5, h6, h7, h8, h9⟩ := Cond.laysStatic_spec hl
  exact ⟨c, k, i, f, a, cell, h1, h2, h3, h4, h5, h6, h7, h8, h9, hA a (Array.getElem?_eq_some_iff.mp h5).1⟩
theorem vx_isRef {C n d : String} {v : Value} {A : Nat → Prop} {s : State} {args : Array Value} (h : va_Z C n d v A s s.heap) (hv : v.isRef = true) : (Cond.isRef (.static C n d)).before args s = true := by
  obtain ⟨cf, kf, fi, f, a, cell, h1, h2, h3, h4, h5, h6, h7, -⟩ := h
  have he : (Term.static C n d).eval args s none [] s = some v := by
    simp [Term.eval, State.fieldNamed?, h1, h2, h4, h5, h6, h7]
  simp only [Cond.before, Cond.holds, Cond.value, he]
  cases v <;> simp_all [Value.isRef]
theorem vx_isRefq {C n d : String} {A : Nat → Prop} {s : State} {args : Array Value} (h : va_Zq C n d A s s.heap) : (Cond.isRef (.static C n d)).before args s = true := by
  rcases h with h | ⟨t, h⟩
  · exact vx_isRef h rfl
  · exact vx_isRef h rfl
/-- the same frame, seen from here: as if the method were called anew in this heap -/
theorem vx_rebase {T : State} (X : Stand p l e R s m args below meth c T locs cells slots) {R' : Room} (hf : R'.frames ≤ R.frames) (hl : R'.locals ≤ R.locals) (hc : cells + R'.cells ≤ R.cells) (hs : slots + R'.slots ≤ R.slots) :
    Stand p l e R' ((T.setVm s.vm).setFrames (.invoking m args :: below)) m args below meth c T [] 0 0 := by
  have htop : (T.setVm s.vm).topJava?.isSome := X.here.top
  have hF : ((T.setVm s.vm).setFrames (.invoking m args :: below)).frames = .invoking m args :: below := State.frames_setFrames _ (State.cur_lt_of_top htop)
  obtain ⟨g₀, hg0⟩ := Option.isSome_iff_exists.mp htop
  obtain ⟨r, hr⟩ := State.topJava?_eq_some.mp hg0
  have hl9 : e.platform.stackLimits (T.setVm s.vm).me = e.platform.stackLimits s.me := X.limits
  have hb9 : (T.setVm s.vm).me.stackBytes = s.me.stackBytes := X.bytes
  refine ⟨X.admits, X.cas, X.clock, hF, ?_, X.hears, X.method, X.code, X.here, X.tail, X.warmed, ?_, ?_, ?_⟩
  · have h := X.room
    have hU : ((T.setVm s.vm).setFrames (.invoking m args :: below)).localsInUse = s.localsInUse := by
      rw [State.localsInUse_invoking hF (meth := meth) (c := c) X.method X.code, State.localsInUse_invoking X.frames X.method X.code]
    simp only [State.hasRoom, Bool.and_eq_true, decide_eq_true_eq] at h ⊢
    obtain ⟨⟨⟨⟨h1, h2, h3, h4, h5, h6⟩, h7⟩, h8⟩, h9⟩ := h
    rw [X.frames, List.length_cons] at h2 h3
    have q1 := X.heapSize
    have q2 := X.used
    simp only [hF, hU, List.length_cons, State.stackLimits_setFrames, State.stackBytes_setFrames, hl9, hb9]
    refine ⟨⟨⟨⟨by omega, by omega, by omega, by omega, by omega, h6⟩, ?_⟩, ?_⟩, X.book⟩
    · show T.heap.size + R'.cells ≤ e.platform.maxCells
      omega
    · show T.slotsUsed + R'.slots ≤ e.platform.maxSlots
      omega
  · rw [State.stackLimits_setFrames]; rfl
  · rw [State.stackBytes_setFrames]; rfl
  · refine ⟨?_, Nat.le_refl _, Nat.le_refl _, ?_, ?_, fun a c9 h9 => ⟨c9, h9, rfl, rfl, fun _ _ => rfl⟩⟩
    · obtain ⟨t, ht, -⟩ := State.frames_cons hr
      show T.setVm s.vm = { ((T.setVm s.vm).setFrames (.invoking m args :: below)).setFrames (T.setVm s.vm).frames with heap := T.heap, slotsUsed := T.slotsUsed }
      rw [State.setFrames_setFrames, State.setFrames_self ht]
      rfl
    · show T.slotsUsed = T.slotsUsed + ((T.heap.toList.drop T.heap.size).map (·.slots.size)).sum
      rw [List.drop_eq_nil_of_le (Nat.le_of_eq Array.length_toList)]
      rfl
    · show ((T.heap.toList.drop T.heap.size).map (·.slots.size)).sum ≤ 0
      rw [List.drop_eq_nil_of_le (Nat.le_of_eq Array.length_toList)]
      exact Nat.le_refl _
/-- 'throw new E()': new; dup; invokespecial; athrow -/
theorem vx_throw0 {cc : ByteArray} {pc : Nat} (hexec : p.tables.exec = Jvm.exec) (hb : c.code = cc) (hl : l.stackTraces = false) {own cls : String} {names : List String} {ik ic mc ms : Nat} {A : Nat → Prop}
    (hown : s.vm.findClass own = some m.cls) (hcls : Bundle.fit cls = true) (hnames : ∀ n ∈ names, Bundle.fit n = true)
    (hk : (Cond.classLink own ik cls).before args s = true) (hini : (Cond.initialized cls).before args s = true) (hat : ∀ w ∈ vx_at0 own ic cls names, w.before args s = true)
    (hgood : ∀ w ∈ Cond.classLink own ik cls :: Cond.initialized cls :: vx_at0 own ic cls names, vx_ot w = true)
    (hU : vx_Zq Bundle.tN "UNASSIGNED_STACK" Bundle.steD A s s.heap) (hN : vx_Zq Bundle.tN "SUPPRESSED_SENTINEL" Bundle.listD A s s.heap) (hS : va_S A s.heap H locs) (hsize : ls.size = c.maxLocals)
    (d0 : decode cc pc = .ok (.new ik, 3)) (d3 : decode cc (pc + 3) = .ok (.dup, 1)) (d4 : decode cc (pc + 4) = .ok (.invokespecial ic, 3)) (d7 : decode cc (pc + 7) = .ok (.athrow, 1))
    (hout : ∀ x ∈ c.exceptionTable.toList, covers x (pc + 7) = false)
    (hRframes : names.length + 3 < R.frames) (hRlocals : (rest.map fun v => v.category).sum + (13 * (names.length + 1) + 42) ≤ R.locals) (hRcells : cells + 1 ≤ R.cells) (hRslots : slots + 6 ≤ R.slots) (hlocks : meth.locks = false)
    (hx : ∀ t : State, s.vm.Alike t.vm → H.size ≤ t.heap.size → (∀ q : Nat, q < H.size → t.heap[q]? = H[q]?) → XC cls s t)
    (hf : ∀ z ∈ locs, free z.base) (hc : cells + 1 ≤ mc) (hs : slots + 6 ≤ ms) :
    W p l e R s m args below meth c H locs cells slots (vx_MQ below Qc XC args s mc ms free) (F0 m pc ls rest) := by
  intro T hT X
  have htr : e.platform.stackTraces = false := (show e.platform.stackTraces = l.stackTraces by rw [X.admits.platform]).trans hl
  have Y := vx_rebase X (R' := { frames := R.frames, locals := R.locals, cells := 1, slots := 6 }) (Nat.le_refl _) (Nat.le_refl _) hRcells hRslots
  obtain ⟨s', hA⟩ : ∃ z, z = (T.setVm s.vm).setFrames (.invoking m args :: below) := ⟨_, rfl⟩
  rw [← hA] at Y
  have hvm : s'.vm = s.vm := by rw [hA]; rfl
  have hhp : s'.heap = H := by rw [hA]; exact hT
  have hW0 : s.WarmedH s'.vm := by rw [hvm]; exact State.WarmedH.refl s
  have hat' : ∀ w ∈ vx_at0 own ic cls names, w.before args s' = true := fun w hw => vx_ot_at hW0 hvm.symm (hgood w (List.mem_cons_of_mem _ (List.mem_cons_of_mem _ hw))) (hat w hw)
  have hk' : (Cond.classLink own ik cls).before args s' = true := vx_ot_at hW0 hvm.symm (hgood _ List.mem_cons_self) hk
  have hini' : (Cond.initialized cls).before args s' = true := vx_ot_at hW0 hvm.symm (hgood _ (List.mem_cons_of_mem _ List.mem_cons_self)) hini
  have hU' : vx_Zq Bundle.tN "UNASSIGNED_STACK" Bundle.steD A s' s'.heap := by rw [hhp]; exact vx_Zq.moved hW0.alike (hU.kept hS.2.1)
  have hN' : vx_Zq Bundle.tN "SUPPRESSED_SENTINEL" Bundle.listD A s' s'.heap := by rw [hhp]; exact vx_Zq.moved hW0.alike (hN.kept hS.2.1)
  have h : ∀ w ∈ Bundle.ownAtoms0 own ic cls names, w.before args s' = true := vx_own hat' (vx_isRefq hU'.1) (vx_isRefq hN'.1) hU'.2.word hN'.2.word
  have hown' : s'.vm.findClass own = some m.cls := by rw [hvm]; exact hown
  have hins : (Cond.instantiable cls 6).before args s' = true := h _ (by simp [Bundle.ownAtoms0])
  obtain ⟨vm₁, cX, kX, hfX, hkX, -, -, X₁, st1⟩ := Y.newCold hexec (own := own) (C := cls) (index := ik) (n := 6) hown' hk' hins hini'
    (g := F0 m pc ls rest) rfl (by rw [hb]; exact d0) (Nat.le_refl _) (Nat.le_refl _)
  generalize hT1 : (T.setVm vm₁).pushCell { cls := cX, slots := kX.instanceTypes.map defaultValue, vm := .none } = T1 at X₁ st1
  have hcat : (Value.ref T.heap.size).category = 1 := rfl
  have hcellA : T1.heap[T.heap.size]? = some (freshCell cX kX) := by rw [← hT1]; exact State.heap_pushCell_size _ _
  have d3' : decode c.code (pc + 3) = .ok (.dup, 1) := by rw [hb]; exact d3
  obtain ⟨U, hsteps, hrun, hend, hW, hsame, ce, hce, hO⟩ := X₁.ctorThrow0 hexec htr (own := own) (cls := cls) (names := names) (ic := ic) hown' hcls hnames h (fun x hx => nomatch hx) hfX hkX hcellA (by rw [hhp, hT]; exact Nat.le_refl _)
    (g := { method := m, pc := pc + 4, locals := ls, stack := .ref T.heap.size :: .ref T.heap.size :: rest, locked := none }) rfl hsize rfl rfl (rest := rest) rfl
    (by rw [hb]; exact d4) (by rw [hb]; exact d7) hout hRframes (by simp only [List.map_cons, List.sum_cons, hcat]; omega) hlocks
  obtain ⟨f1, f2⟩ := vx_frame hsame
  rw [hhp] at f1 f2
  have hWs : s.WarmedH U.vm := State.WarmedH.trans hW0 hW
  have hcl : s.vm.findClass cls = some ce.cls := by
    have h9 := hO.cls
    rw [hvm] at h9
    exact h9
  have hall : s.sameButNew ({ U with vm := s.vm } : State) locs mc ms := by
    subst hA
    obtain ⟨e1, e2⟩ := hsame
    rw [State.setFrames_setFrames] at e1
    have h2 : (T.setVm s.vm).sameButNew ({ U with vm := s.vm } : State) [] (0 + 1) (0 + 6) := ⟨e1, e2⟩
    have h3 := X.same.trans h2
    rw [List.append_nil] at h3
    exact h3.mono hc hs
  refine ⟨U, ?_, .threw T.heap.size, hrun, hend, Or.inr ⟨T.heap.size, rfl, cls, ce, locs, hx U hWs.alike f1 (fun q hq => f2 q hq (fun z hz => nomatch hz)), hce, hO.vm, hcl, hWs, hall, hf⟩⟩
  refine st1 _ ?_
  show Steps p.tables e below (T1.setTop { method := m, pc := pc + 3, locals := ls, stack := .ref T.heap.size :: rest, locked := none }) _
  jvm_step X₁.here [X₁.here.top, hexec, d3', Value.category]
  exact hsteps
/-- 'throw new E("text")': new; dup; ldc; invokespecial; athrow -/
theorem vx_throwS {cc : ByteArray} {pc : Nat} (hexec : p.tables.exec = Jvm.exec) (hb : c.code = cc) (hl : l.stackTraces = false) {own cls text : String} {names : List String} {ik is ic mc ms sa : Nat} {A : Nat → Prop}
    (hown : s.vm.findClass own = some m.cls) (hcls : Bundle.fit cls = true) (hnames : ∀ n ∈ names, Bundle.fit n = true)
    (hk : (Cond.classLink own ik cls).before args s = true) (hini : (Cond.initialized cls).before args s = true) (hstr : vk_R own is text sa s) (hat : ∀ w ∈ vx_atS own ic cls names, w.before args s = true)
    (hgood : ∀ w ∈ Cond.classLink own ik cls :: Cond.initialized cls :: vx_atS own ic cls names, vx_ot w = true)
    (hU : vx_Zq Bundle.tN "UNASSIGNED_STACK" Bundle.steD A s s.heap) (hN : vx_Zq Bundle.tN "SUPPRESSED_SENTINEL" Bundle.listD A s s.heap) (hS : va_S A s.heap H locs) (hsize : ls.size = c.maxLocals)
    (d0 : decode cc pc = .ok (.new ik, 3)) (d3 : decode cc (pc + 3) = .ok (.dup, 1)) (d4 : decode cc (pc + 4) = .ok (.ldc is, 2)) (d6 : decode cc (pc + 6) = .ok (.invokespecial ic, 3)) (d9 : decode cc (pc + 9) = .ok (.athrow, 1))
    (hout : ∀ x ∈ c.exceptionTable.toList, covers x (pc + 9) = false)
    (hRframes : names.length + 3 < R.frames) (hRlocals : (rest.map fun v => v.category).sum + (13 * (names.length + 1) + 43) ≤ R.locals) (hRcells : cells + 1 ≤ R.cells) (hRslots : slots + 6 ≤ R.slots) (hlocks : meth.locks = false)
    (hx : ∀ t : State, s.vm.Alike t.vm → H.size ≤ t.heap.size → (∀ q : Nat, q < H.size → t.heap[q]? = H[q]?) → XC cls s t)
    (hf : ∀ z ∈ locs, free z.base) (hc : cells + 1 ≤ mc) (hs : slots + 6 ≤ ms) :
    W p l e R s m args below meth c H locs cells slots (vx_MQ below Qc XC args s mc ms free) (F0 m pc ls rest) := by
  intro T hT X
  have htr : e.platform.stackTraces = false := (show e.platform.stackTraces = l.stackTraces by rw [X.admits.platform]).trans hl
  have Y := vx_rebase X (R' := { frames := R.frames, locals := R.locals, cells := 1, slots := 6 }) (Nat.le_refl _) (Nat.le_refl _) hRcells hRslots
  obtain ⟨s', hA⟩ : ∃ z, z = (T.setVm s.vm).setFrames (.invoking m args :: below) := ⟨_, rfl⟩
  rw [← hA] at Y
  have hvm : s'.vm = s.vm := by rw [hA]; rfl
  have hhp : s'.heap = H := by rw [hA]; exact hT
  have hW0 : s.WarmedH s'.vm := by rw [hvm]; exact State.WarmedH.refl s
  have hat' : ∀ w ∈ vx_atS own ic cls names, w.before args s' = true := fun w hw => vx_ot_at hW0 hvm.symm (hgood w (List.mem_cons_of_mem _ (List.mem_cons_of_mem _ hw))) (hat w hw)
  have hk' : (Cond.classLink own ik cls).before args s' = true := vx_ot_at hW0 hvm.symm (hgood _ List.mem_cons_self) hk
  have hini' : (Cond.initialized cls).before args s' = true := vx_ot_at hW0 hvm.symm (hgood _ (List.mem_cons_of_mem _ List.mem_cons_self)) hini
  have hU' : vx_Zq Bundle.tN "UNASSIGNED_STACK" Bundle.steD A s' s'.heap := by rw [hhp]; exact vx_Zq.moved hW0.alike (hU.kept hS.2.1)
  have hN' : vx_Zq Bundle.tN "SUPPRESSED_SENTINEL" Bundle.listD A s' s'.heap := by rw [hhp]; exact vx_Zq.moved hW0.alike (hN.kept hS.2.1)
  have h : ∀ w ∈ Bundle.ownAtoms own ic cls names, w.before args s' = true := vx_own hat' (vx_isRefq hU'.1) (vx_isRefq hN'.1) hU'.2.word hN'.2.word
  have hown' : s'.vm.findClass own = some m.cls := by rw [hvm]; exact hown
  have hins : (Cond.instantiable cls 6).before args s' = true := h _ (by simp [Bundle.ownAtoms])
  obtain ⟨vm₁, cX, kX, hfX, hkX, -, -, X₁, st1⟩ := Y.newCold hexec (own := own) (C := cls) (index := ik) (n := 6) hown' hk' hins hini'
    (g := F0 m pc ls rest) rfl (by rw [hb]; exact d0) (Nat.le_refl _) (Nat.le_refl _)
  generalize hT1 : (T.setVm vm₁).pushCell { cls := cX, slots := kX.instanceTypes.map defaultValue, vm := .none } = T1 at X₁ st1
  have hcat : (Value.ref T.heap.size).category = 1 := rfl
  have hcellA : T1.heap[T.heap.size]? = some (freshCell cX kX) := by rw [← hT1]; exact State.heap_pushCell_size _ _
  have d3' : decode c.code (pc + 3) = .ok (.dup, 1) := by rw [hb]; exact d3
  have d4' : decode c.code (pc + 4) = .ok (.ldc is, 2) := by rw [hb]; exact d4
  have hstr' : vk_R own is text sa s' := vk_R.warm hW0 hstr
  obtain ⟨U, hsteps, hrun, hend, hW, hsame, ce, hce, hO⟩ := X₁.ctorThrowS hexec htr (own := own) (cls := cls) (names := names) (ic := ic) hown' hcls hnames h (fun x hx => nomatch hx) hfX hkX hcellA (by rw [hhp, hT]; exact Nat.le_refl _) (msg := .ref sa) rfl
    (g := { method := m, pc := pc + 6, locals := ls, stack := .ref sa :: .ref T.heap.size :: .ref T.heap.size :: rest, locked := none }) rfl hsize rfl rfl (rest := rest) rfl
    (by rw [hb]; exact d6) (by rw [hb]; exact d9) hout hRframes (by simp only [List.map_cons, List.sum_cons, hcat]; omega) hlocks
  obtain ⟨f1, f2⟩ := vx_frame hsame
  rw [hhp] at f1 f2
  have hWs : s.WarmedH U.vm := State.WarmedH.trans hW0 hW
  have hcl : s.vm.findClass cls = some ce.cls := by
    have h9 := hO.cls
    rw [hvm] at h9
    exact h9
  have hall : s.sameButNew ({ U with vm := s.vm } : State) locs mc ms := by
    subst hA
    obtain ⟨e1, e2⟩ := hsame
    rw [State.setFrames_setFrames] at e1
    have h2 : (T.setVm s.vm).sameButNew ({ U with vm := s.vm } : State) [] (0 + 1) (0 + 6) := ⟨e1, e2⟩
    have h3 := X.same.trans h2
    rw [List.append_nil] at h3
    exact h3.mono hc hs
  refine ⟨U, ?_, .threw T.heap.size, hrun, hend, Or.inr ⟨T.heap.size, rfl, cls, ce, locs, hx U hWs.alike f1 (fun q hq => f2 q hq (fun z hz => nomatch hz)), hce, hO.vm, hcl, hWs, hall, hf⟩⟩
  refine st1 _ ?_
  show Steps p.tables e below (T1.setTop { method := m, pc := pc + 3, locals := ls, stack := .ref T.heap.size :: rest, locked := none }) _
  jvm_step X₁.here [X₁.here.top, hexec, d3', Value.category]
  exact X₁.ldcString hexec (own := own) (text := text) (index := is) (a := sa) hown' hstr'.1 hstr'.2
    (g := { method := m, pc := pc + 4, locals := ls, stack := .ref T.heap.size :: .ref T.heap.size :: rest, locked := none }) rfl d4' _ hsteps
/-- 'throw new E("text")', the text by a wide index -/
theorem vx_throwSW {cc : ByteArray} {pc : Nat} (hexec : p.tables.exec = Jvm.exec) (hb : c.code = cc) (hl : l.stackTraces = false) {own cls text : String} {names : List String} {ik is ic mc ms sa : Nat} {A : Nat → Prop}
    (hown : s.vm.findClass own = some m.cls) (hcls : Bundle.fit cls = true) (hnames : ∀ n ∈ names, Bundle.fit n = true)
    (hk : (Cond.classLink own ik cls).before args s = true) (hini : (Cond.initialized cls).before args s = true) (hstr : vk_R own is text sa s) (hat : ∀ w ∈ vx_atS own ic cls names, w.before args s = true)
    (hgood : ∀ w ∈ Cond.classLink own ik cls :: Cond.initialized cls :: vx_atS own ic cls names, vx_ot w = true)
    (hU : vx_Zq Bundle.tN "UNASSIGNED_STACK" Bundle.steD A s s.heap) (hN : vx_Zq Bundle.tN "SUPPRESSED_SENTINEL" Bundle.listD A s s.heap) (hS : va_S A s.heap H locs) (hsize : ls.size = c.maxLocals)
    (d0 : decode cc pc = .ok (.new ik, 3)) (d3 : decode cc (pc + 3) = .ok (.dup, 1)) (d4 : decode cc (pc + 4) = .ok (.ldc_w is, 3)) (d7 : decode cc (pc + 7) = .ok (.invokespecial ic, 3)) (d10 : decode cc (pc + 10) = .ok (.athrow, 1))
    (hout : ∀ x ∈ c.exceptionTable.toList, covers x (pc + 10) = false)
    (hRframes : names.length + 3 < R.frames) (hRlocals : (rest.map fun v => v.category).sum + (13 * (names.length + 1) + 43) ≤ R.locals) (hRcells : cells + 1 ≤ R.cells) (hRslots : slots + 6 ≤ R.slots) (hlocks : meth.locks = false)
    (hx : ∀ t : State, s.vm.Alike t.vm → H.size ≤ t.heap.size → (∀ q : Nat, q < H.size → t.heap[q]? = H[q]?) → XC cls s t)
    (hf : ∀ z ∈ locs, free z.base) (hc : cells + 1 ≤ mc) (hs : slots + 6 ≤ ms) :
    W p l e R s m args below meth c H locs cells slots (vx_MQ below Qc XC args s mc ms free) (F0 m pc ls rest) := by
  intro T hT X
  have htr : e.platform.stackTraces = false := (show e.platform.stackTraces = l.stackTraces by rw [X.admits.platform]).trans hl
  have Y := vx_rebase X (R' := { frames := R.frames, locals := R.locals, cells := 1, slots := 6 }) (Nat.le_refl _) (Nat.le_refl _) hRcells hRslots
  obtain ⟨s', hA⟩ : ∃ z, z = (T.setVm s.vm).setFrames (.invoking m args :: below) := ⟨_, rfl⟩
  rw [← hA] at Y
  have hvm : s'.vm = s.vm := by rw [hA]; rfl
  have hhp : s'.heap = H := by rw [hA]; exact hT
  have hW0 : s.WarmedH s'.vm := by rw [hvm]; exact State.WarmedH.refl s
  have hat' : ∀ w ∈ vx_atS own ic cls names, w.before args s' = true := fun w hw => vx_ot_at hW0 hvm.symm (hgood w (List.mem_cons_of_mem _ (List.mem_cons_of_mem _ hw))) (hat w hw)
  have hk' : (Cond.classLink own ik cls).before args s' = true := vx_ot_at hW0 hvm.symm (hgood _ List.mem_cons_self) hk
  have hini' : (Cond.initialized cls).before args s' = true := vx_ot_at hW0 hvm.symm (hgood _ (List.mem_cons_of_mem _ List.mem_cons_self)) hini
  have hU' : vx_Zq Bundle.tN "UNASSIGNED_STACK" Bundle.steD A s' s'.heap := by rw [hhp]; exact vx_Zq.moved hW0.alike (hU.kept hS.2.1)
  have hN' : vx_Zq Bundle.tN "SUPPRESSED_SENTINEL" Bundle.listD A s' s'.heap := by rw [hhp]; exact vx_Zq.moved hW0.alike (hN.kept hS.2.1)
  have h : ∀ w ∈ Bundle.ownAtoms own ic cls names, w.before args s' = true := vx_own hat' (vx_isRefq hU'.1) (vx_isRefq hN'.1) hU'.2.word hN'.2.word
  have hown' : s'.vm.findClass own = some m.cls := by rw [hvm]; exact hown
  have hins : (Cond.instantiable cls 6).before args s' = true := h _ (by simp [Bundle.ownAtoms])
  obtain ⟨vm₁, cX, kX, hfX, hkX, -, -, X₁, st1⟩ := Y.newCold hexec (own := own) (C := cls) (index := ik) (n := 6) hown' hk' hins hini'
    (g := F0 m pc ls rest) rfl (by rw [hb]; exact d0) (Nat.le_refl _) (Nat.le_refl _)
  generalize hT1 : (T.setVm vm₁).pushCell { cls := cX, slots := kX.instanceTypes.map defaultValue, vm := .none } = T1 at X₁ st1
  have hcat : (Value.ref T.heap.size).category = 1 := rfl
  have hcellA : T1.heap[T.heap.size]? = some (freshCell cX kX) := by rw [← hT1]; exact State.heap_pushCell_size _ _
  have d3' : decode c.code (pc + 3) = .ok (.dup, 1) := by rw [hb]; exact d3
  have d4' : decode c.code (pc + 4) = .ok (.ldc_w is, 3) := by rw [hb]; exact d4
  have hstr' : vk_R own is text sa s' := vk_R.warm hW0 hstr
  obtain ⟨U, hsteps, hrun, hend, hW, hsame, ce, hce, hO⟩ := X₁.ctorThrowS hexec htr (own := own) (cls := cls) (names := names) (ic := ic) hown' hcls hnames h (fun x hx => nomatch hx) hfX hkX hcellA (by rw [hhp, hT]; exact Nat.le_refl _) (msg := .ref sa) rfl
    (g := { method := m, pc := pc + 7, locals := ls, stack := .ref sa :: .ref T.heap.size :: .ref T.heap.size :: rest, locked := none }) rfl hsize rfl rfl (rest := rest) rfl
    (by rw [hb]; exact d7) (by rw [hb]; exact d10) hout hRframes (by simp only [List.map_cons, List.sum_cons, hcat]; omega) hlocks
  obtain ⟨f1, f2⟩ := vx_frame hsame
  rw [hhp] at f1 f2
  have hWs : s.WarmedH U.vm := State.WarmedH.trans hW0 hW
  have hcl : s.vm.findClass cls = some ce.cls := by
    have h9 := hO.cls
    rw [hvm] at h9
    exact h9
  have hall : s.sameButNew ({ U with vm := s.vm } : State) locs mc ms := by
    subst hA
    obtain ⟨e1, e2⟩ := hsame
    rw [State.setFrames_setFrames] at e1
    have h2 : (T.setVm s.vm).sameButNew ({ U with vm := s.vm } : State) [] (0 + 1) (0 + 6) := ⟨e1, e2⟩
    have h3 := X.same.trans h2
    rw [List.append_nil] at h3
    exact h3.mono hc hs
  refine ⟨U, ?_, .threw T.heap.size, hrun, hend, Or.inr ⟨T.heap.size, rfl, cls, ce, locs, hx U hWs.alike f1 (fun q hq => f2 q hq (fun z hz => nomatch hz)), hce, hO.vm, hcl, hWs, hall, hf⟩⟩
  refine st1 _ ?_
  show Steps p.tables e below (T1.setTop { method := m, pc := pc + 3, locals := ls, stack := .ref T.heap.size :: rest, locked := none }) _
  jvm_step X₁.here [X₁.here.top, hexec, d3', Value.category]
  exact X₁.ldcStringW hexec (own := own) (text := text) (index := is) (a := sa) hown' hstr'.1 hstr'.2
    (g := { method := m, pc := pc + 4, locals := ls, stack := .ref T.heap.size :: .ref T.heap.size :: rest, locked := none }) rfl d4' _ hsteps
end Ends
section Bodies
variable {l : Launch}
theorem vx_ofW {y : MethodName} {ws ws' : List Cond} {rm : Room} {Pc : Array Value → State → Prop} {Qc : Array Value → State → Outcome → State → Prop} {XC : String → State → State → Prop} {mc ms : Nat} {free : Addr → Prop} {cc : ByteArray} {maxL : Nat} {ret : Option FieldType}
    (hy : plainName y.cls = true) (hw : ws = Cond.code y cc maxL ret :: ws')
    (body : ∀ p e s m args below meth c s₁, BodyLoose p l y (headSpec ws rm) cc maxL ret e s m args below meth c s₁ → c.maxLocals = maxL → (∀ x ∈ c.exceptionTable.toList, False) → Pc args s →
      W p l e (headSpec ws rm).room s m args below meth c s.heap [] 0 0 (vx_MQ below Qc XC args s mc ms free) (entryFrame m args maxL)) : vx_Met l y ws rm Pc Qc XC mc ms free := by
  refine MetFree.of_bodyS (code := cc) (maxLocals := maxL) (ret := ret) hy ?_ ?_
  · intro args s m h hn
    obtain ⟨meth, c, h1, h2, h3, h4, h5, h6, -, -⟩ := Cond.code_spec hn (atoms_spec (ws := ws) h _ (by rw [hw]; exact List.mem_cons_self))
    exact ⟨meth, c, h1, h2, h3, h4, h5, h6⟩
  · intro p e s m args below meth c s₁ B hml hP _
    have hh0 : s₁.heap = s.heap := by rw [B.state]; rfl
    have ht : ∀ x ∈ c.exceptionTable.toList, False := by
      obtain ⟨meth9, c9, h1, h2, -, -, -, -, h7, -⟩ := Cond.code_spec B.named (atoms_spec (ws := ws) B.pre _ (by rw [hw]; exact List.mem_cons_self))
      cases Option.some.inj (h1.symm.trans B.method)
      cases Option.some.inj (h2.symm.trans (Stand.of_body B).code)
      intro x hx
      rw [Array.isEmpty_iff.mp h7] at hx
      cases hx
    obtain ⟨t, a1, o, b1, b2, b3⟩ := body p e s m args below meth c s₁ B hml ht hP s₁ hh0 (Stand.of_body B)
    exact ⟨t, o, a1, b1, b2, b3⟩
/-- the table of a body with handlers -/
theorem vx_table {p : Program} {x y : MethodName} {S : Spec} {cc bytes : ByteArray} {maxL maxL' : Nat} {ret ret' : Option FieldType} {e : Env} {s s₁ : State} {m : MethodId} {args : Array Value} {below : List Frame} {meth : Method} {c : Code} {hh : List (Nat × Nat × Nat × Nat)}
    (B : BodyLoose p l y S cc maxL ret e s m args below meth c s₁) (h : (Cond.codeWith y bytes maxL' ret' hh).before args s = true) : c.exceptionTable.toList = tableOf hh := by
  obtain ⟨m9, meth9, c9, hn9, h1, h2, -, -, h6, -⟩ := Cond.codeWith_spec h
  cases Option.some.inj (hn9.symm.trans B.named)
  cases Option.some.inj (h1.symm.trans B.method)
  cases Option.some.inj (h2.symm.trans (Stand.of_body B).code)
  rw [← h6, table_eq]
end Bodies
end VXA
/-! ===== END ===== -/
/-! ===== BEGIN a static call of a method with an exception table ===== -/
section VXS
variable {p : Program} {l : Launch} {e : Env} {R : Room} {s : State} {m : MethodId} {args : Array Value} {below : List Frame} {meth : Method} {c : Code} {T : State} {H : Heap} {locs : List Loc} {cells slots : Nat}
abbrev vx_CSW (R : Room) (s : State) (args : Array Value) (own : String) (index : Nat) (y : MethodName) (bytes : ByteArray) (maxL : Nat) (ret : Option FieldType) (hh : List (Nat × Nat × Nat × Nat)) (ws : List Cond) (rm : Room) (mc ms n : Nat) : Prop :=
  (rm.cells = mc ∧ rm.slots = ms ∧ rm.frames + 1 ≤ R.frames ∧ 8 + (maxL + 11) + rm.locals ≤ R.locals ∧ (∀ w ∈ ws, ∀ (a' : Array Value) (U : State), s.WarmedH U.vm → w.before a' U = true) ∧ Cond.codeWith y bytes maxL ret hh ∈ ws) ∧
  (Cond.codeWith y bytes maxL ret hh).before args s = true ∧ (Cond.initialized y.cls).before args s = true ∧ (y.cls ≠ "java/lang/invoke/MethodHandle" ∧ y.cls ≠ "java/lang/invoke/VarHandle") ∧
  (∀ sig, parseMethodDescriptor y.desc = some sig → n = sig.parameters.length) ∧ (Cond.methodLink own index y).before args s = true ∧ (Cond.static y).before args s = true
theorem vx_cwSW {own : String} {index maxL mc ms : Nat} {y : MethodName} {bytes : ByteArray} {ret : Option FieldType} {hh : List (Nat × Nat × Nat × Nat)} {Ts ws ws' : List Cond} {rm : Room} (n : Nat) (ht : ∀ w ∈ Ts, w.before args s = true) (hT : GoodIn Ts (va_wsS own index y ws)) (hw : ws = Cond.codeWith y bytes maxL ret hh :: ws') (hrc : rm.cells = mc) (hrs : rm.slots = ms)
    (hd : y.cls ≠ "java/lang/invoke/MethodHandle" ∧ y.cls ≠ "java/lang/invoke/VarHandle" ∧ (parseMethodDescriptor y.desc).map (fun d => d.parameters.length) = some n) (hR : rm.frames + 1 ≤ R.frames ∧ 8 + (maxL + 11) + rm.locals ≤ R.locals) :
    vx_CSW R s args own index y bytes maxL ret hh ws rm mc ms n := by
  have ok : ∀ w ∈ va_wsS own index y ws, w.before args s = true := fun w h => ht w (hT w h).1
  have hG : GoodIn Ts ws := fun w h => hT w (by unfold va_wsS; exact List.mem_append_right _ h)
  have hc : Cond.codeWith y bytes maxL ret hh ∈ ws := by rw [hw]; exact List.mem_cons_self
  refine ⟨⟨hrc, hrs, hR.1, hR.2, pay_in ht hG, hc⟩, ht _ (hG _ hc).1, ok _ (by simp [va_wsS]), ⟨hd.1, hd.2.1⟩, fun sig h => ?_, ok _ (by simp [va_wsS]), ok _ (by simp [va_wsS])⟩
  have h2 := hd.2.2
  rw [h] at h2
  exact (Option.some.inj h2).symm
theorem vx_callSW (X : Stand p l e R s m args below meth c T locs cells slots) (hexec : p.tables.exec = Jvm.exec) {own : String} {index : Nat} {y : MethodName} {bytes : ByteArray} {maxL : Nat} {ret : Option FieldType} {hh : List (Nat × Nat × Nat × Nat)}
    (hown : s.vm.findClass own = some m.cls) (hlink : (Cond.methodLink own index y).before args s = true) (hstat : (Cond.static y).before args s = true) (hinit : (Cond.initialized y.cls).before args s = true)
    (hcode : (Cond.codeWith y bytes maxL ret hh).before args s = true) (hy : y.cls ≠ "java/lang/invoke/MethodHandle" ∧ y.cls ≠ "java/lang/invoke/VarHandle")
    {W9 : Nat} {Pre : Pt → Array Value → Prop} {Post : Pt → Array Value → Option Value → Pt → Prop} (hK : Back l R p e below s args y 3 W9 Pre Post)
    {g : JFrame} (hg : g.method = m) (hsize : g.locals.size = c.maxLocals) {argsL rest : List Value} (hlen : ∀ sig, parseMethodDescriptor y.desc = some sig → argsL.length = sig.parameters.length)
    (hstack : g.stack = argsL.reverse ++ rest) (hW : 2 * g.monitorRoom + (rest.map fun v => v.category).sum ≤ W9) (hdg : decode c.code g.pc = .ok (.invokestatic index, 3))
    (hpre : ∀ vm₁, s.WarmedH vm₁ → Pre ⟨T.setVm vm₁, locs, cells, slots⟩ argsL.toArray) :
    ∃ (v : Option Value) (vm₁ : Vm) (B : Pt), s.WarmedH vm₁ ∧ Stand p l e R s m args below meth c B.U B.locs B.cells B.slots ∧ Post ⟨T.setVm vm₁, locs, cells, slots⟩ argsL.toArray v B ∧
      ∀ target, Steps p.tables e below (B.U.setTop { g with pc := g.pc + 3, stack := v.toList ++ rest }) target → Steps p.tables e below (T.setTop g) target := by
  obtain ⟨mk, methM, cM, hnamed, hmethM, -, -, -, -, -, -, hsigM⟩ := Cond.codeWith_spec hcode
  have hstatic : methM.isStatic = true := Cond.static_spec hnamed hmethM hstat
  obtain ⟨kP, hkP, -⟩ := className_of_methodNamed hnamed
  have hinitP : kP.init = .initialized := Cond.initialized_spec (findClass_of_methodNamed hnamed) hkP hinit
  obtain ⟨vm₁, X₁, hstep₁⟩ := X.invokestatic hexec hown hlink hnamed hmethM hstatic hkP hinitP hy (g := g) hg (argsL := argsL) (rest := rest) (hlen _ hsigM) hstack hdg
  obtain ⟨v, B, X', hpost, hsteps⟩ := hK m meth c ⟨T.setVm vm₁, locs, cells, slots⟩ { g with stack := rest } (.invokestatic index) mk argsL.toArray X₁ hg hsize hdg hW (X₁.named hnamed) (hpre vm₁ X₁.warmed)
  exact ⟨v, vm₁, B, X₁.warmed, X', hpost, fun target h => hstep₁ _ fun acts => by rw [doInvoke_state]; exact hsteps.trans h⟩
theorem vx_runSW {y : MethodName} {bytes cc : ByteArray} {maxL nL mc ms n index : Nat} {ret : Option FieldType} {hh : List (Nat × Nat × Nat × Nat)} {ws : List Cond} {rm : Room} {Pc : Array Value → State → Prop} {Qc : Array Value → State → Outcome → State → Prop} {free : Addr → Prop} {Ts : List Cond} {own : String} {As rest : List Value} {g : JFrame}
    (S : CallFix p m c cc nL s args Ts own) (hM : Met l y ws rm Pc Qc mc ms free) (cw : vx_CSW R s args own index y bytes maxL ret hh ws rm mc ms n) (hp : PreS s H Pc As)
    (hg : g.method = m) (hn : As.length = n) (hsize : g.locals.size = nL) (hstack : g.stack = As.reverse ++ rest) (hW : 2 * g.monitorRoom + (rest.map fun v => v.category).sum ≤ 8) (hdg : decode cc g.pc = .ok (.invokestatic index, 3)) (hf : cells + mc ≤ R.cells ∧ slots + ms ≤ R.slots) :
    va_Run p l e R s m args below meth c H locs cells slots mc ms g rest (Qc As.toArray) (free) := by
  obtain ⟨⟨hrc, hrs, hfr, hlo, hws, hcw⟩, hcode, hini, hy, hlen, hl, hstt⟩ := cw
  have hK : Back l R p e below s args y 3 8 (PreOf R mc ms Pc) (PostOf Qc mc ms free) := va_backW (hh := hh) (bytes := bytes) (maxL := maxL) (ret := ret) hM hp.1 hrc hrs hfr hlo hws hcw (fun a' U hW => word_at hW (Or.inl (by first | rfl | simp [Cond.onTables, Cond.keeps, Cond.steady])) hini)
  obtain ⟨hx, hb, hml, ho, -⟩ := S
  intro T hT X
  obtain ⟨v, vm₁, ⟨U', l2, c2, s2⟩, hW₁, X', ⟨g', mk, t, L, e1, e2, hq, h1, hL, h2, h3⟩, st⟩ := vx_callSW X hx (hh := hh) (bytes := bytes) (maxL := maxL) (ret := ret) ho hl hstt hini hcode hy hK hg (hsize.trans hml.symm) (argsL := As) (rest := rest) (fun sig h => hn.trans (hlen sig h)) hstack hW (by rw [hb]; exact hdg)
    (fun vm₁ hW₁ => ⟨hf.1, hf.2, hp.2 (T.setVm vm₁) hT hW₁⟩)
  dsimp only [Pt.U, Pt.locs, Pt.cells, Pt.slots] at X' e1 e2 h1 h2 h3 st
  subst h1; subst h2; subst h3
  exact ⟨v, (T.setVm vm₁).calling g' mk As.toArray, t, U', L, hT, X', hL, e1, e2, hq, st⟩
/-- a thing of a world lies in the heap -/
theorem vx_lt {D : va_G} {cl : List vw_C} {ws : va_W} {H1 : Heap} (h : va_P D cl ws H1) {k : Nat} {q : Nat × va_E} (hk : ws[k]? = some q) : q.1 < H1.size := (h k q hk).lt
end VXS
/-! ===== END ===== -/
/-! ===== BEGIN methods with a table of their own: called by a name, returning or throwing ===== -/
section VXH
/-! vx_backW, vx_callVX, vx_callSX, vx_callVW, vx_runVW, vx_runVX, vx_runSX, vx_ofWH follow the same proofs as their sisters above (Free/Laws.lean, Shelf42/LK1.lean); vx_outP calls Shelf42/NT130.lean (outThrough). -/
section
variable {l : Launch} {R : Room} {p : Program} {e : Env} {below : List Frame} {s : State} {sargs : Array Value} {y : MethodName} {len W9 : Nat}
theorem vx_backW {ws : List Cond} {rm : Room} {Pc : Array Value → State → Prop} {Qc : Array Value → State → Outcome → State → Prop} {XC : String → State → State → Prop} {mc ms : Nat} {free : Addr → Prop} {bytes : ByteArray} {maxL : Nat} {ret : Option FieldType} {hh : List (Nat × Nat × Nat × Nat)}
    (hM : vx_Met l y ws rm Pc Qc XC mc ms free) (hblind : FrameBlind Pc) (hrc : rm.cells = mc) (hrs : rm.slots = ms)
    (hframes : rm.frames + 1 ≤ R.frames) (hlocals : W9 + (maxL + 11) + rm.locals ≤ R.locals)
    (hws : ∀ w ∈ ws, ∀ a' U, s.WarmedH U.vm → w.before a' U = true) (hcode : Cond.codeWith y bytes maxL ret hh ∈ ws) (hinit : ∀ a' U, s.WarmedH U.vm → (Cond.initialized y.cls).before a' U = true) :
    vx_Back l R p e below s sargs y len W9 (PreOf R mc ms Pc) (PostOf Qc mc ms free) (vx_Post XC mc ms free) := by
  intro m meth c A g ig mk a X hg hsize hdg hW hn hp
  have h1 : (headSpec ws rm).pre.before a A.U = true := atoms_intro fun w hw => hws w hw _ _ X.warmed
  have h2 : (Cond.codeWith y bytes maxL ret hh).before a A.U = true := hws _ hcode _ _ X.warmed
  have h3 : (Cond.initialized y.cls).before a A.U = true := hinit _ _ X.warmed
  have h4 : A.cells + (headSpec ws rm).room.cells ≤ R.cells := by rw [show (headSpec ws rm).room.cells = mc from hrc]; exact hp.1
  have h5 : A.slots + (headSpec ws rm).room.slots ≤ R.slots := by rw [show (headSpec ws rm).room.slots = ms from hrs]; exact hp.2.1
  have hPc : Pc a (A.U.calling g mk a) := hblind _ _ _ _ hp.2.2
  obtain ⟨U, Ls, c0, s0⟩ := A
  dsimp only [Pt.U, Pt.locs, Pt.cells, Pt.slots] at h1 h2 h3 h4 h5 X hn hPc ⊢
  obtain ⟨m9, methY, cY, hn9, hmY, hcY, -, hlY, -⟩ := Cond.codeWith_spec h2
  cases Option.some.inj (hn9.symm.trans hn)
  obtain ⟨kY, hkY, -⟩ := className_of_methodNamed hn
  have hinitY : kY.init = .initialized := Cond.initialized_spec (findClass_of_methodNamed hn) hkY h3
  have h : At U g.method c below := by rw [hg]; exact X.here
  have hlocals9 : W9 + (maxL + 11) + (headSpec ws rm).room.locals ≤ R.locals := hlocals
  have happ : (headSpec ws rm).appliesLoose y e.platform (U.calling g mk a) = true :=
    Spec.appliesLoose_calling (g := g) h hdg hn hkY hinitY
      (X.room_calling (g := g) (R' := (headSpec ws rm).room) hsize hmY hcY hframes (by rw [hlY]; omega) h4 h5) h1
  obtain ⟨mid, hmid⟩ := h.above
  have hfr : (U.setTop g).frames = (.java g :: mid) ++ below := by rw [State.frames_setTop' g h.top, hmid]; rfl
  obtain ⟨o, s₂, hsteps, -, hend, hq⟩ := Steps.callFree hM p X.admits X.cas X.clock (acts := []) hfr happ hPc trivial
  have hq' : vx_Q Qc XC mc ms free a (U.calling g mk a) o s₂ := hq
  rw [State.frames_setTop' g h.top] at hend
  obtain ⟨g₀, hg0⟩ := Option.isSome_iff_exists.mp h.top
  obtain ⟨r, hr⟩ := State.topJava?_eq_some.mp hg0
  have hr' : (({ U with heap := s₂.heap, slotsUsed := s₂.slotsUsed } : State).setVm s₂.vm).frames = .java g₀ :: r := hr
  rcases hq' with ⟨hqc, L, hfe, hL⟩ | ⟨q, rfl, E, ce, L, hx, hce, hcv, hcl, hW₂, hsm, hL⟩
  · obtain ⟨⟨v, rfl⟩, hW₂, e2, q2, q3, q4, q5, q6⟩ := id hfe
    have e3 : s₂ = ({ (U.calling g mk a).setFrames s₂.frames with heap := s₂.heap, slotsUsed := s₂.slotsUsed } : State).setVm s₂.vm := by
      have : s₂ = ({ s₂ with vm := (U.calling g mk a).vm } : State).setVm s₂.vm := rfl
      rw [e2] at this
      exact this
    obtain ⟨c₂, i₂, len₂, hc₂, hd₂, hf₂⟩ := hend
    have hW' : U.WarmedH s₂.vm := hW₂
    have hcc : c₂ = c := by
      have h1 : s₂.code? g.method = U.code? g.method := by
        rw [State.code?_eq, State.code?_eq, hW'.alike.method?]
      exact Option.some.inj (hc₂.symm.trans (h1.trans h.code))
    subst hcc
    have hlen : len₂ = len := by rw [hdg] at hd₂; cases hd₂; rfl
    subst hlen
    have hs₂ : s₂ = (({ U with heap := s₂.heap, slotsUsed := s₂.slotsUsed } : State).setVm s₂.vm).setTop { g with pc := g.pc + len₂, stack := v.toList ++ g.stack } := by
      refine e3.trans ?_
      rw [hf₂, State.calling_eq h.top, State.setFrames_setFrames, State.setTop_of_frames _ hr', hr]
      rfl
    have hsame : U.sameButNew ({ U with heap := s₂.heap, slotsUsed := s₂.slotsUsed } : State) L mc ms := by
      refine ⟨?_, q2, q3, q4, q5, q6⟩
      obtain ⟨t, ht, -⟩ := State.frames_cons hr
      show ({ U with heap := s₂.heap, slotsUsed := s₂.slotsUsed } : State) = { U.setFrames U.frames with heap := s₂.heap, slotsUsed := s₂.slotsUsed }
      rw [State.setFrames_self ht]
    subst hg
    refine Or.inl ⟨v, ⟨(({ U with heap := s₂.heap, slotsUsed := s₂.slotsUsed } : State).setVm s₂.vm), Ls ++ L, c0 + mc, s0 + ms⟩,
      ⟨X.admits, X.cas, X.clock, X.frames, X.room, X.hears, X.method, X.code, (X.here.setHeapUsed s₂.heap s₂.slotsUsed).setVm hW'.alike, X.tail, State.WarmedH.trans X.warmed hW', X.limits, X.bytes, X.same.trans (hsame.setVm s.vm)⟩,
      ⟨g, mk, s₂, L, rfl, rfl, hqc, rfl, hL, rfl, rfl⟩, ?_⟩
    show Steps p.tables e below _ ((({ U with heap := s₂.heap, slotsUsed := s₂.slotsUsed } : State).setVm s₂.vm).setTop { g with pc := g.pc + len₂, stack := v.toList ++ g.stack })
    rw [← hs₂]
    exact hsteps
  · obtain ⟨e2, q2, q3, q4, q5, q6⟩ := id hsm
    have e3 : s₂ = ({ (U.calling g mk a).setFrames s₂.frames with heap := s₂.heap, slotsUsed := s₂.slotsUsed } : State).setVm s₂.vm := by
      have : s₂ = ({ s₂ with vm := (U.calling g mk a).vm } : State).setVm s₂.vm := rfl
      rw [e2] at this
      exact this
    have hf₂ : s₂.frames = .throwing q :: .java g :: U.frames.tail := hend
    have hW' : U.WarmedH s₂.vm := hW₂
    have hs₂ : s₂ = ((({ U with heap := s₂.heap, slotsUsed := s₂.slotsUsed } : State).setVm s₂.vm).setTop g).pushFrame (.throwing q) := by
      refine e3.trans ?_
      rw [hf₂, State.calling_eq h.top, State.setFrames_setFrames, State.pushFrame, State.frames_setTop _ hr', State.setTop_of_frames _ hr', State.setFrames_setFrames, hr]
      rfl
    have hsame : U.sameButNew ({ U with heap := s₂.heap, slotsUsed := s₂.slotsUsed } : State) L mc ms := by
      refine ⟨?_, q2, q3, q4, q5, q6⟩
      obtain ⟨t, ht, -⟩ := State.frames_cons hr
      show ({ U with heap := s₂.heap, slotsUsed := s₂.slotsUsed } : State) = { U.setFrames U.frames with heap := s₂.heap, slotsUsed := s₂.slotsUsed }
      rw [State.setFrames_self ht]
    subst hg
    refine Or.inr ⟨q, ⟨(({ U with heap := s₂.heap, slotsUsed := s₂.slotsUsed } : State).setVm s₂.vm), Ls ++ L, c0 + mc, s0 + ms⟩,
      ⟨X.admits, X.cas, X.clock, X.frames, X.room, X.hears, X.method, X.code, (X.here.setHeapUsed s₂.heap s₂.slotsUsed).setVm hW'.alike, X.tail, State.WarmedH.trans X.warmed hW', X.limits, X.bytes, X.same.trans (hsame.setVm s.vm)⟩,
      ⟨g, mk, s₂, L, E, ce, rfl, rfl, hx, hce, hcv, hcl, rfl, hL, rfl, rfl⟩, ?_⟩
    show Steps p.tables e below _ (((({ U with heap := s₂.heap, slotsUsed := s₂.slotsUsed } : State).setVm s₂.vm).setTop g).pushFrame (.throwing q))
    rw [← hs₂]
    exact hsteps
end
variable {p : Program} {l : Launch} {e : Env} {R : Room} {s : State} {m : MethodId} {args : Array Value} {below : List Frame} {meth : Method} {c : Code} {T : State} {H : Heap} {locs : List Loc} {cells slots : Nat}
theorem vx_callVX (X : Stand p l e R s m args below meth c T locs cells slots) (hexec : p.tables.exec = Jvm.exec) {own C : String} {index : Nat} {y : MethodName} {bytes : ByteArray} {maxL : Nat} {ret : Option FieldType} {hh : List (Nat × Nat × Nat × Nat)}
    (hown : s.vm.findClass own = some m.cls) (hlink : (Cond.methodLink own index y).before args s = true) (hinst : (Cond.instanceMethod y).before args s = true) (hsel : (Cond.selects C y y).before args s = true)
    (hcode : (Cond.codeWith y bytes maxL ret hh).before args s = true) (hy : y.cls ≠ "java/lang/invoke/MethodHandle" ∧ y.cls ≠ "java/lang/invoke/VarHandle")
    {W9 : Nat} {Pre : Pt → Array Value → Prop} {Post : Pt → Array Value → Option Value → Pt → Prop} {PostX : Pt → Array Value → Addr → Pt → Prop} (hK : vx_Back l R p e below s args y 3 W9 Pre Post PostX)
    {b : Addr} {cellB : Cell} (hcell : T.heap[b]? = some cellB) (hobj : cellB.vm.isStatics = false) (hcls : s.vm.findClass C = some cellB.cls)
    {g : JFrame} (hg : g.method = m) (hsize : g.locals.size = c.maxLocals) {argsL rest : List Value} (hlen : ∀ sig, parseMethodDescriptor y.desc = some sig → argsL.length = sig.parameters.length)
    (hstack : g.stack = argsL.reverse ++ .ref b :: rest) (hW : 2 * g.monitorRoom + (rest.map fun v => v.category).sum ≤ W9) (hdg : decode c.code g.pc = .ok (.invokevirtual index, 3))
    (hpre : ∀ vm₁, s.WarmedH vm₁ → Pre ⟨T.setVm vm₁, locs, cells, slots⟩ (Value.ref b :: argsL).toArray) :
    (∃ (v : Option Value) (vm₁ : Vm) (B : Pt), s.WarmedH vm₁ ∧ Stand p l e R s m args below meth c B.U B.locs B.cells B.slots ∧ Post ⟨T.setVm vm₁, locs, cells, slots⟩ (Value.ref b :: argsL).toArray v B ∧
      ∀ target, Steps p.tables e below (B.U.setTop { g with pc := g.pc + 3, stack := v.toList ++ rest }) target → Steps p.tables e below (T.setTop g) target) ∨
    (∃ (q : Addr) (vm₁ : Vm) (B : Pt), s.WarmedH vm₁ ∧ Stand p l e R s m args below meth c B.U B.locs B.cells B.slots ∧ PostX ⟨T.setVm vm₁, locs, cells, slots⟩ (Value.ref b :: argsL).toArray q B ∧
      Steps p.tables e below (T.setTop g) ((B.U.setTop { g with stack := rest }).pushFrame (.throwing q))) := by
  obtain ⟨mk, methM, hnamed, hmethM, hstM, habM⟩ := Cond.instanceMethod_spec hinst
  obtain ⟨m8, methM', cM, hn8, hmethM', -, -, -, -, -, -, hsigM⟩ := Cond.codeWith_spec hcode
  cases Option.some.inj (hn8.symm.trans hnamed)
  cases hmethM.symm.trans hmethM'
  obtain ⟨c2, r2, m2, q1, q2, q3, q4, kP, hkP, hkPi⟩ := Cond.selects_spec hsel
  cases hcls.symm.trans q1
  cases (State.methodFound?_of_named hnamed hy).symm.trans q2
  cases hnamed.symm.trans q3
  have hselP : selectMethod e.platform s.vm cellB.cls mk = .method mk := by rw [Launch.admits_selectMethod X.admits]; exact q4
  obtain ⟨vm₁, X₁, hstep₁⟩ := X.invokevirtual hexec hown hlink hnamed hmethM hstM hkP hkPi hy (a := b) (cell := cellB) hcell
    (fun z h => by rw [h] at hobj; cases hobj) hselP hmethM habM hkP hkPi (g := g) hg (argsL := argsL) (rest := rest) (hlen _ hsigM) hstack hdg
  rcases hK m meth c ⟨T.setVm vm₁, locs, cells, slots⟩ { g with stack := rest } (.invokevirtual index) mk (Value.ref b :: argsL).toArray X₁ hg hsize hdg hW (X₁.named hnamed) (hpre vm₁ X₁.warmed) with ⟨v, B, X', hpost, hsteps⟩ | ⟨q, B, X', hpost, hsteps⟩
  · exact Or.inl ⟨v, vm₁, B, X₁.warmed, X', hpost, fun target h => hstep₁ _ fun acts => by rw [doInvoke_state]; exact hsteps.trans h⟩
  · exact Or.inr ⟨q, vm₁, B, X₁.warmed, X', hpost, hstep₁ _ fun acts => by rw [doInvoke_state]; exact hsteps⟩
theorem vx_callSX (X : Stand p l e R s m args below meth c T locs cells slots) (hexec : p.tables.exec = Jvm.exec) {own : String} {index : Nat} {y : MethodName} {bytes : ByteArray} {maxL : Nat} {ret : Option FieldType} {hh : List (Nat × Nat × Nat × Nat)}
    (hown : s.vm.findClass own = some m.cls) (hlink : (Cond.methodLink own index y).before args s = true) (hstat : (Cond.static y).before args s = true) (hinit : (Cond.initialized y.cls).before args s = true)
    (hcode : (Cond.codeWith y bytes maxL ret hh).before args s = true) (hy : y.cls ≠ "java/lang/invoke/MethodHandle" ∧ y.cls ≠ "java/lang/invoke/VarHandle")
    {W9 : Nat} {Pre : Pt → Array Value → Prop} {Post : Pt → Array Value → Option Value → Pt → Prop} {PostX : Pt → Array Value → Addr → Pt → Prop} (hK : vx_Back l R p e below s args y 3 W9 Pre Post PostX)
    {g : JFrame} (hg : g.method = m) (hsize : g.locals.size = c.maxLocals) {argsL rest : List Value} (hlen : ∀ sig, parseMethodDescriptor y.desc = some sig → argsL.length = sig.parameters.length)
    (hstack : g.stack = argsL.reverse ++ rest) (hW : 2 * g.monitorRoom + (rest.map fun v => v.category).sum ≤ W9) (hdg : decode c.code g.pc = .ok (.invokestatic index, 3))
    (hpre : ∀ vm₁, s.WarmedH vm₁ → Pre ⟨T.setVm vm₁, locs, cells, slots⟩ argsL.toArray) :
    (∃ (v : Option Value) (vm₁ : Vm) (B : Pt), s.WarmedH vm₁ ∧ Stand p l e R s m args below meth c B.U B.locs B.cells B.slots ∧ Post ⟨T.setVm vm₁, locs, cells, slots⟩ argsL.toArray v B ∧
      ∀ target, Steps p.tables e below (B.U.setTop { g with pc := g.pc + 3, stack := v.toList ++ rest }) target → Steps p.tables e below (T.setTop g) target) ∨
    (∃ (q : Addr) (vm₁ : Vm) (B : Pt), s.WarmedH vm₁ ∧ Stand p l e R s m args below meth c B.U B.locs B.cells B.slots ∧ PostX ⟨T.setVm vm₁, locs, cells, slots⟩ argsL.toArray q B ∧
      Steps p.tables e below (T.setTop g) ((B.U.setTop { g with stack := rest }).pushFrame (.throwing q))) := by
  obtain ⟨mk, methM, cM, hnamed, hmethM, -, -, -, -, -, -, hsigM⟩ := Cond.codeWith_spec hcode
  have hstatic : methM.isStatic = true := Cond.static_spec hnamed hmethM hstat
  obtain ⟨kP, hkP, -⟩ := className_of_methodNamed hnamed
  have hinitP : kP.init = .initialized := Cond.initialized_spec (findClass_of_methodNamed hnamed) hkP hinit
  obtain ⟨vm₁, X₁, hstep₁⟩ := X.invokestatic hexec hown hlink hnamed hmethM hstatic hkP hinitP hy (g := g) hg (argsL := argsL) (rest := rest) (hlen _ hsigM) hstack hdg
  rcases hK m meth c ⟨T.setVm vm₁, locs, cells, slots⟩ { g with stack := rest } (.invokestatic index) mk argsL.toArray X₁ hg hsize hdg hW (X₁.named hnamed) (hpre vm₁ X₁.warmed) with ⟨v, B, X', hpost, hsteps⟩ | ⟨q, B, X', hpost, hsteps⟩
  · exact Or.inl ⟨v, vm₁, B, X₁.warmed, X', hpost, fun target h => hstep₁ _ fun acts => by rw [doInvoke_state]; exact hsteps.trans h⟩
  · exact Or.inr ⟨q, vm₁, B, X₁.warmed, X', hpost, hstep₁ _ fun acts => by rw [doInvoke_state]; exact hsteps⟩
theorem vx_callVW (X : Stand p l e R s m args below meth c T locs cells slots) (hexec : p.tables.exec = Jvm.exec) {own C : String} {index : Nat} {y : MethodName} {bytes : ByteArray} {maxL : Nat} {ret : Option FieldType} {hh : List (Nat × Nat × Nat × Nat)}
    (hown : s.vm.findClass own = some m.cls) (hlink : (Cond.methodLink own index y).before args s = true) (hinst : (Cond.instanceMethod y).before args s = true) (hsel : (Cond.selects C y y).before args s = true)
    (hcode : (Cond.codeWith y bytes maxL ret hh).before args s = true) (hy : y.cls ≠ "java/lang/invoke/MethodHandle" ∧ y.cls ≠ "java/lang/invoke/VarHandle")
    {W9 : Nat} {Pre : Pt → Array Value → Prop} {Post : Pt → Array Value → Option Value → Pt → Prop} (hK : Back l R p e below s args y 3 W9 Pre Post)
    {b : Addr} {cellB : Cell} (hcell : T.heap[b]? = some cellB) (hobj : cellB.vm.isStatics = false) (hcls : s.vm.findClass C = some cellB.cls)
    {g : JFrame} (hg : g.method = m) (hsize : g.locals.size = c.maxLocals) {argsL rest : List Value} (hlen : ∀ sig, parseMethodDescriptor y.desc = some sig → argsL.length = sig.parameters.length)
    (hstack : g.stack = argsL.reverse ++ .ref b :: rest) (hW : 2 * g.monitorRoom + (rest.map fun v => v.category).sum ≤ W9) (hdg : decode c.code g.pc = .ok (.invokevirtual index, 3))
    (hpre : ∀ vm₁, s.WarmedH vm₁ → Pre ⟨T.setVm vm₁, locs, cells, slots⟩ (Value.ref b :: argsL).toArray) :
    ∃ (v : Option Value) (vm₁ : Vm) (B : Pt), s.WarmedH vm₁ ∧ Stand p l e R s m args below meth c B.U B.locs B.cells B.slots ∧ Post ⟨T.setVm vm₁, locs, cells, slots⟩ (Value.ref b :: argsL).toArray v B ∧
      ∀ target, Steps p.tables e below (B.U.setTop { g with pc := g.pc + 3, stack := v.toList ++ rest }) target → Steps p.tables e below (T.setTop g) target := by
  obtain ⟨mk, methM, hnamed, hmethM, hstM, habM⟩ := Cond.instanceMethod_spec hinst
  obtain ⟨m8, methM', cM, hn8, hmethM', -, -, -, -, -, -, hsigM⟩ := Cond.codeWith_spec hcode
  cases Option.some.inj (hn8.symm.trans hnamed)
  cases hmethM.symm.trans hmethM'
  obtain ⟨c2, r2, m2, q1, q2, q3, q4, kP, hkP, hkPi⟩ := Cond.selects_spec hsel
  cases hcls.symm.trans q1
  cases (State.methodFound?_of_named hnamed hy).symm.trans q2
  cases hnamed.symm.trans q3
  have hselP : selectMethod e.platform s.vm cellB.cls mk = .method mk := by rw [Launch.admits_selectMethod X.admits]; exact q4
  obtain ⟨vm₁, X₁, hstep₁⟩ := X.invokevirtual hexec hown hlink hnamed hmethM hstM hkP hkPi hy (a := b) (cell := cellB) hcell
    (fun z h => by rw [h] at hobj; cases hobj) hselP hmethM habM hkP hkPi (g := g) hg (argsL := argsL) (rest := rest) (hlen _ hsigM) hstack hdg
  obtain ⟨v, B, X', hpost, hsteps⟩ := hK m meth c ⟨T.setVm vm₁, locs, cells, slots⟩ { g with stack := rest } (.invokevirtual index) mk (Value.ref b :: argsL).toArray X₁ hg hsize hdg hW (X₁.named hnamed) (hpre vm₁ X₁.warmed)
  exact ⟨v, vm₁, B, X₁.warmed, X', hpost, fun target h => hstep₁ _ fun acts => by rw [doInvoke_state]; exact hsteps.trans h⟩
abbrev vx_CVW (R : Room) (s : State) (args : Array Value) (own C : String) (index : Nat) (y : MethodName) (bytes : ByteArray) (maxL : Nat) (ret : Option FieldType) (hh : List (Nat × Nat × Nat × Nat)) (ws : List Cond) (rm : Room) (mc ms n : Nat) : Prop :=
  (rm.cells = mc ∧ rm.slots = ms ∧ rm.frames + 1 ≤ R.frames ∧ 8 + (maxL + 11) + rm.locals ≤ R.locals ∧ (∀ w ∈ ws, ∀ (a' : Array Value) (U : State), s.WarmedH U.vm → w.before a' U = true) ∧ Cond.codeWith y bytes maxL ret hh ∈ ws) ∧
  (Cond.codeWith y bytes maxL ret hh).before args s = true ∧ (Cond.initialized y.cls).before args s = true ∧ (y.cls ≠ "java/lang/invoke/MethodHandle" ∧ y.cls ≠ "java/lang/invoke/VarHandle") ∧
  (∀ sig, parseMethodDescriptor y.desc = some sig → n = sig.parameters.length) ∧ (Cond.methodLink own index y).before args s = true ∧ (Cond.instanceMethod y).before args s = true ∧ (Cond.selects C y y).before args s = true
theorem vx_cwVW {own C : String} {index maxL mc ms : Nat} {y : MethodName} {bytes : ByteArray} {ret : Option FieldType} {hh : List (Nat × Nat × Nat × Nat)} {Ts ws ws' : List Cond} {rm : Room} (n : Nat) (ht : ∀ w ∈ Ts, w.before args s = true) (hT : GoodIn Ts (wsV own index C y ws)) (hw : ws = Cond.codeWith y bytes maxL ret hh :: ws') (hrc : rm.cells = mc) (hrs : rm.slots = ms)
    (hd : y.cls = C ∧ y.cls ≠ "java/lang/invoke/MethodHandle" ∧ y.cls ≠ "java/lang/invoke/VarHandle" ∧ (parseMethodDescriptor y.desc).map (fun d => d.parameters.length) = some n) (hR : rm.frames + 1 ≤ R.frames ∧ 8 + (maxL + 11) + rm.locals ≤ R.locals) :
    vx_CVW R s args own C index y bytes maxL ret hh ws rm mc ms n := by
  obtain ⟨hC, hd⟩ := hd
  subst hC
  have ok : ∀ w ∈ wsV own index y.cls y ws, w.before args s = true := fun w h => ht w (hT w h).1
  have hG : GoodIn Ts ws := fun w h => hT w (by unfold wsV; exact List.mem_append_right _ h)
  have hc : Cond.codeWith y bytes maxL ret hh ∈ ws := by rw [hw]; exact List.mem_cons_self
  refine ⟨⟨hrc, hrs, hR.1, hR.2, pay_in ht hG, hc⟩, ht _ (hG _ hc).1, ok _ (by simp [wsV]), ⟨hd.1, hd.2.1⟩, fun sig h => ?_, ok _ (by simp [wsV]), ok _ (by simp [wsV]), ok _ (by simp [wsV])⟩
  have h2 := hd.2.2
  rw [h] at h2
  exact (Option.some.inj h2).symm
theorem vx_runVW {y : MethodName} {bytes cc : ByteArray} {maxL nL mc ms n index : Nat} {ret : Option FieldType} {hh : List (Nat × Nat × Nat × Nat)} {ws : List Cond} {rm : Room} {Pc : Array Value → State → Prop} {Qc : Array Value → State → Outcome → State → Prop} {free : Addr → Prop} {Ts : List Cond} {own C : String} {b : Addr} {As rest : List Value} {g : JFrame}
    (S : CallFix p m c cc nL s args Ts own) (hM : Met l y ws rm Pc Qc mc ms free) (cw : vx_CVW R s args own C index y bytes maxL ret hh ws rm mc ms n) (hp : PreV s H C b Pc As)
    (hg : g.method = m) (hn : As.length = n) (hsize : g.locals.size = nL) (hstack : g.stack = As.reverse ++ .ref b :: rest) (hW : 2 * g.monitorRoom + (rest.map fun v => v.category).sum ≤ 8) (hdg : decode cc g.pc = .ok (.invokevirtual index, 3)) (hf : cells + mc ≤ R.cells ∧ slots + ms ≤ R.slots) :
    va_Run p l e R s m args below meth c H locs cells slots mc ms g rest (Qc (Value.ref b :: As).toArray) free := by
  obtain ⟨⟨hrc, hrs, hfr, hlo, hws, hcw⟩, hcode, hini, hy, hlen, hl, hin, hse⟩ := cw
  have hK : Back l R p e below s args y 3 8 (PreOf R mc ms Pc) (PostOf Qc mc ms free) := va_backW (hh := hh) (bytes := bytes) (maxL := maxL) (ret := ret) hM hp.1 hrc hrs hfr hlo hws hcw (fun a' U hW => word_at hW (Or.inl (by first | rfl | simp [Cond.onTables, Cond.keeps, Cond.steady])) hini)
  obtain ⟨hx, hb, hml, ho, -⟩ := S
  obtain ⟨-, ⟨cellB, hcB, hoB, hclB⟩, hPc⟩ := hp
  intro T hT X
  obtain ⟨v, vm₁, ⟨U', l2, c2, s2⟩, hW₁, X', ⟨g', mk, t, L, e1, e2, hq, h1, hL, h2, h3⟩, st⟩ := vx_callVW X hx (C := C) (hh := hh) (bytes := bytes) (maxL := maxL) (ret := ret) ho hl hin hse hcode hy hK (by rw [hT]; exact hcB) hoB hclB hg (hsize.trans hml.symm) (argsL := As) (rest := rest) (fun sig h => hn.trans (hlen sig h)) hstack hW (by rw [hb]; exact hdg)
    (fun vm₁ hW₁ => ⟨hf.1, hf.2, hPc (T.setVm vm₁) hT hW₁⟩)
  dsimp only [Pt.U, Pt.locs, Pt.cells, Pt.slots] at X' e1 e2 h1 h2 h3 st
  subst h1; subst h2; subst h3
  exact ⟨v, (T.setVm vm₁).calling g' mk (Value.ref b :: As).toArray, t, U', L, hT, X', hL, e1, e2, hq, st⟩
section
variable {y : MethodName} {bytes cc : ByteArray} {maxL nL mc ms n index : Nat} {ret : Option FieldType} {ws : List Cond} {rm : Room} {Pc : Array Value → State → Prop} {Qc : Array Value → State → Outcome → State → Prop} {XC : String → State → State → Prop} {free : Addr → Prop} {Ts : List Cond} {own C : String} {b : Addr} {As rest : List Value} {g : JFrame}
theorem vx_runVX {hh : List (Nat × Nat × Nat × Nat)} (S : CallFix p m c cc nL s args Ts own) (hM : vx_Met l y ws rm Pc Qc XC mc ms free) (cw : vx_CVW R s args own C index y bytes maxL ret hh ws rm mc ms n) (hp : PreV s H C b Pc As)
    (hg : g.method = m) (hn : As.length = n) (hsize : g.locals.size = nL) (hstack : g.stack = As.reverse ++ .ref b :: rest) (hW : 2 * g.monitorRoom + (rest.map fun v => v.category).sum ≤ 8) (hdg : decode cc g.pc = .ok (.invokevirtual index, 3)) (hf : cells + mc ≤ R.cells ∧ slots + ms ≤ R.slots) :
    vx_Run p l e R s m args below meth c H locs cells slots mc ms g rest (Qc (Value.ref b :: As).toArray) XC free := by
  obtain ⟨⟨hrc, hrs, hfr, hlo, hws, hcw⟩, hcode, hini, hy, hlen, hl, hin, hse⟩ := cw
  have hK : vx_Back l R p e below s args y 3 8 (PreOf R mc ms Pc) (PostOf Qc mc ms free) (vx_Post XC mc ms free) := vx_backW (hh := hh) (bytes := bytes) (maxL := maxL) (ret := ret) hM hp.1 hrc hrs hfr hlo hws hcw (fun a' U hW => word_at hW (Or.inl (by first | rfl | simp [Cond.onTables, Cond.keeps, Cond.steady])) hini)
  obtain ⟨hx, hb, hml, ho, -⟩ := S
  obtain ⟨-, ⟨cellB, hcB, hoB, hclB⟩, hPc⟩ := hp
  intro T hT X
  rcases vx_callVX X hx (C := C) (hh := hh) (bytes := bytes) (maxL := maxL) (ret := ret) ho hl hin hse hcode hy hK (by rw [hT]; exact hcB) hoB hclB hg (hsize.trans hml.symm) (argsL := As) (rest := rest) (fun sig h => hn.trans (hlen sig h)) hstack hW (by rw [hb]; exact hdg)
    (fun vm₁ hW₁ => ⟨hf.1, hf.2, hPc (T.setVm vm₁) hT hW₁⟩) with ⟨v, vm₁, ⟨U', l2, c2, s2⟩, hW₁, X', ⟨g', mk, t, L, e1, e2, hq, h1, hL, h2, h3⟩, st⟩ | ⟨q, vm₁, ⟨U', l2, c2, s2⟩, hW₁, X', ⟨g', mk, t, L, E, ce, e1, e2, hq, hce, hcv, hcl, h1, hL, h2, h3⟩, st⟩
  · dsimp only [Pt.U, Pt.locs, Pt.cells, Pt.slots] at X' e1 e2 h1 h2 h3 st
    subst h1; subst h2; subst h3
    exact Or.inl ⟨v, (T.setVm vm₁).calling g' mk (Value.ref b :: As).toArray, t, U', L, hT, X', hL, e1, e2, hq, st⟩
  · dsimp only [Pt.U, Pt.locs, Pt.cells, Pt.slots] at X' e1 e2 h1 h2 h3 st hcl
    subst h1; subst h2; subst h3
    exact Or.inr ⟨q, (T.setVm vm₁).calling g' mk (Value.ref b :: As).toArray, t, U', L, E, ce, hT, X', hL, e1, e2, hq, hce, hcv, vx_cls hW₁ hcl, st⟩
theorem vx_runSX {hh : List (Nat × Nat × Nat × Nat)} (S : CallFix p m c cc nL s args Ts own) (hM : vx_Met l y ws rm Pc Qc XC mc ms free) (cw : vx_CSW R s args own index y bytes maxL ret hh ws rm mc ms n) (hp : PreS s H Pc As)
    (hg : g.method = m) (hn : As.length = n) (hsize : g.locals.size = nL) (hstack : g.stack = As.reverse ++ rest) (hW : 2 * g.monitorRoom + (rest.map fun v => v.category).sum ≤ 8) (hdg : decode cc g.pc = .ok (.invokestatic index, 3)) (hf : cells + mc ≤ R.cells ∧ slots + ms ≤ R.slots) :
    vx_Run p l e R s m args below meth c H locs cells slots mc ms g rest (Qc As.toArray) XC free := by
  obtain ⟨⟨hrc, hrs, hfr, hlo, hws, hcw⟩, hcode, hini, hy, hlen, hl, hstt⟩ := cw
  have hK : vx_Back l R p e below s args y 3 8 (PreOf R mc ms Pc) (PostOf Qc mc ms free) (vx_Post XC mc ms free) := vx_backW (hh := hh) (bytes := bytes) (maxL := maxL) (ret := ret) hM hp.1 hrc hrs hfr hlo hws hcw (fun a' U hW => word_at hW (Or.inl (by first | rfl | simp [Cond.onTables, Cond.keeps, Cond.steady])) hini)
  obtain ⟨hx, hb, hml, ho, -⟩ := S
  intro T hT X
  rcases vx_callSX X hx (hh := hh) (bytes := bytes) (maxL := maxL) (ret := ret) ho hl hstt hini hcode hy hK hg (hsize.trans hml.symm) (argsL := As) (rest := rest) (fun sig h => hn.trans (hlen sig h)) hstack hW (by rw [hb]; exact hdg)
    (fun vm₁ hW₁ => ⟨hf.1, hf.2, hp.2 (T.setVm vm₁) hT hW₁⟩) with ⟨v, vm₁, ⟨U', l2, c2, s2⟩, hW₁, X', ⟨g', mk, t, L, e1, e2, hq, h1, hL, h2, h3⟩, st⟩ | ⟨q, vm₁, ⟨U', l2, c2, s2⟩, hW₁, X', ⟨g', mk, t, L, E, ce, e1, e2, hq, hce, hcv, hcl, h1, hL, h2, h3⟩, st⟩
  · dsimp only [Pt.U, Pt.locs, Pt.cells, Pt.slots] at X' e1 e2 h1 h2 h3 st
    subst h1; subst h2; subst h3
    exact Or.inl ⟨v, (T.setVm vm₁).calling g' mk As.toArray, t, U', L, hT, X', hL, e1, e2, hq, st⟩
  · dsimp only [Pt.U, Pt.locs, Pt.cells, Pt.slots] at X' e1 e2 h1 h2 h3 st hcl
    subst h1; subst h2; subst h3
    exact Or.inr ⟨q, (T.setVm vm₁).calling g' mk As.toArray, t, U', L, E, ce, hT, X', hL, e1, e2, hq, hce, hcv, vx_cls hW₁ hcl, st⟩
end
end VXH
theorem vx_ofWH {l : Launch} {y : MethodName} {ws ws' : List Cond} {rm : Room} {Pc : Array Value → State → Prop} {Qc : Array Value → State → Outcome → State → Prop} {XC : String → State → State → Prop} {mc ms : Nat} {free : Addr → Prop} {cc : ByteArray} {maxL : Nat} {ret : Option FieldType} {hh : List (Nat × Nat × Nat × Nat)}
    (hy : plainName y.cls = true) (hw : ws = Cond.codeWith y cc maxL ret hh :: ws')
    (body : ∀ p e s m args below meth c s₁, BodyLoose p l y (headSpec ws rm) cc maxL ret e s m args below meth c s₁ → c.maxLocals = maxL → Pc args s →
      W p l e (headSpec ws rm).room s m args below meth c s.heap [] 0 0 (vx_MQ below Qc XC args s mc ms free) (entryFrame m args maxL)) : vx_Met l y ws rm Pc Qc XC mc ms free := by
  refine MetFree.of_bodyS (code := cc) (maxLocals := maxL) (ret := ret) hy ?_ ?_
  · intro args s m h hn
    obtain ⟨m9, meth, c, hn9, h1, h2, h3, h4, -, h5, h6, -⟩ := Cond.codeWith_spec (atoms_spec (ws := ws) h _ (by rw [hw]; exact List.mem_cons_self))
    cases hn.symm.trans hn9
    exact ⟨meth, c, h1, h2, h3, h4, h5, h6⟩
  · intro p e s m args below meth c s₁ B hml hP _
    have hh0 : s₁.heap = s.heap := by rw [B.state]; rfl
    obtain ⟨t, a1, o, b1, b2, b3⟩ := body p e s m args below meth c s₁ B hml hP s₁ hh0 (Stand.of_body B)
    exact ⟨t, o, a1, b1, b2, b3⟩
/-! ===== END ===== -/
end
section
/-! Catching in a method's own table, where the classes of its rows link but may not be resolved yet. -/
section BXC
/-- what the search finds, and the tables that it leaves -/
def bx_F (e : Env) (s : State) (f : JFrame) (a : Addr) (h : Handler) (vm' : Vm) : Prop :=
  ∀ (Q : Handler → Pre) (E : CtlPost) (d : Bool) (acts : List Action), wp (findHandler f a) Q E e d acts s ↔ Q h d acts (s.setVm vm')
theorem bx_row {Q : Handler → Pre} {E : CtlPost} {e : Env} {d : Bool} {acts : List Action} {s : State} {f : JFrame} {a : Addr} {x : ExceptionTableEntry} {t : List ExceptionTableEntry} {k : ClassId} {cell : Cell} (hx : covers x f.pc = true) (h0 : x.catchType ≠ 0)
    (hl : s.vm.ClassLinks e.platform f.method.cls x.catchType k) (hcell : s.heap[a]? = some cell) (hobj : ∀ z, cell.vm ≠ .statics z) (hk : ∃ z, s.vm.classes[cell.cls]? = some z) (hc : ∃ z, s.vm.classes[k]? = some z) :
    wp (findHandler.go f a (x :: t)) Q E e d acts s ↔ if s.vm.assignable cell.cls k = true then Q (.found x.handlerPc) d acts (s.setVm (s.vm.noted f.method.cls x.catchType (.cls k))) else wp (findHandler.go f a t) Q E e d acts (s.setVm (s.vm.noted f.method.cls x.catchType (.cls k))) := by
  simp only [covers] at hx
  obtain ⟨ha, ht⟩ := (resolveClass_links e.toSetting hl).op (op := VmOp.resolveClass f.method.cls x.catchType) rfl
  have hal : s.vm.Alike (s.vm.noted f.method.cls x.catchType (.cls k)) := (Vm.Alike.refl s.vm).noted _ _ _
  obtain ⟨k1, hk1⟩ := hk
  obtain ⟨k2, hk2⟩ := hc
  obtain ⟨k1', hk1', -⟩ := hal.2.2 _ _ hk1
  obtain ⟨k2', hk2', -⟩ := hal.2.2 _ _ hk2
  have hs : (s.vm.noted f.method.cls x.catchType (.cls k)).assignable cell.cls k = s.vm.assignable cell.cls k := hal.assignable _ _
  cases hn : s.vm.assignable cell.cls k
  · rw [hn] at hs
    simp [findHandler.go, hx, h0, ha, ht, hcell, hobj, hk1', hk2', hs, VmOp.dirties, VmOp.acts]
  · rw [hn] at hs
    simp [findHandler.go, hx, h0, ha, ht, hcell, hobj, hk1', hk2', hs, VmOp.dirties, VmOp.acts]
end BXC
end
section
/-! The words of 'throw new NoSuchElementException(text)': its constructor passes the text on by entry 13 of its pool (RuntimeException's and Exception's by entry 7). -/
def bx_ownN (own : String) (ic : Nat) : List Cond :=
  Bundle.throwableAtoms ++ Bundle.throwableSAtoms ++ (Bundle.passSAtoms "java/util/NoSuchElementException" "java/lang/RuntimeException" 13 prog_12_method_4_code ++ Bundle.chainSAtoms "java/lang/RuntimeException" ["java/lang/Exception"]) ++
  [.methodLink own ic (Bundle.initS "java/util/NoSuchElementException"), .instantiable "java/util/NoSuchElementException" 6, .castable "java/util/NoSuchElementException" "java/util/NoSuchElementException", .selects "java/util/NoSuchElementException" Bundle.tFill0 Bundle.tFill0, .selects "java/util/NoSuchElementException" Bundle.tFill Bundle.tFill,
   .lays "java/util/NoSuchElementException" Bundle.tN "cause" "Ljava/lang/Throwable;", .lays "java/util/NoSuchElementException" Bundle.tN "stackTrace" Bundle.steD, .lays "java/util/NoSuchElementException" Bundle.tN "suppressedExceptions" Bundle.listD, .lays "java/util/NoSuchElementException" Bundle.tN "detailMessage" "Ljava/lang/String;",
   .isRef (.static Bundle.tN "UNASSIGNED_STACK" Bundle.steD), .isRef (.static Bundle.tN "SUPPRESSED_SENTINEL" Bundle.listD),
   .fieldLink Bundle.tN 198 Bundle.tN "backtrace" "Ljava/lang/Object;", .lays Bundle.tN Bundle.tN "backtrace" "Ljava/lang/Object;", .lays "java/util/NoSuchElementException" Bundle.tN "backtrace" "Ljava/lang/Object;"]
def bx_atN (own : String) (ic : Nat) : List Cond := (bx_ownN own ic).filter vx_no
end
section
/-! ===== BEGIN printed: names, fields, word lists, decode rows ===== -/
def RX0 : String := "BlockJournal"
def TX0 : u_T := fun k => match k with
  | 0 => ("BlockJournal", "store", "[I", true)
  | 1 => ("BlockJournal", "checkSteps", "[I", true)
  | 2 => ("BlockJournal", "newHead", "[I", true)
  | 3 => ("BlockJournal", "tape", "[I", true)
  | 4 => ("BlockJournal", "tapeLength", "I", false)
  | 5 => ("BlockJournal", "changeBlocks", "[I", true)
  | 6 => ("BlockJournal", "changeBytes", "[I", true)
  | 7 => ("BlockJournal", "changes", "I", false)
  | 8 => ("BlockJournal", "off", "Z", false)
  | 9 => ("BlockJournal", "writesLeft", "I", false)
  | _ => ("BlockJournal", "writesDone", "J", false)
def tyX0 : Nat → FieldType := fun k => match k with
  | 0 => .array .int
  | 1 => .array .int
  | 2 => .array .int
  | 3 => .array .int
  | 4 => .int
  | 5 => .array .int
  | 6 => .array .int
  | 7 => .int
  | 8 => .boolean
  | 9 => .int
  | _ => .long
abbrev wsX00 : List Cond := u_ws RX0 TX0 11
theorem nmX0 : ∀ a, a < 11 → ∀ b, b < 11 → a ≠ b → (TX0 a).2.1 ≠ (TX0 b).2.1 := by decide +kernel
theorem tyX0_ok : ∀ k, k < 11 → parseFieldDescriptor (TX0 k).2.2.1 = some (tyX0 k) := by decide +kernel
abbrev cX0_init : ByteArray := prog_1_method_1_code
def yX0_init : MethodName := ⟨RX0, "<init>", "()V"⟩
abbrev cX0_feed : ByteArray := prog_1_method_2_code
def yX0_feed : MethodName := ⟨RX0, "feed", "(IJ)I"⟩
abbrev cX0_put : ByteArray := prog_1_method_3_code
def yX0_put : MethodName := ⟨RX0, "put", "(I)I"⟩
abbrev cX0_drop : ByteArray := prog_1_method_4_code
def yX0_drop : MethodName := ⟨RX0, "drop", "()I"⟩
abbrev cX0_commit : ByteArray := prog_1_method_5_code
def yX0_commit : MethodName := ⟨RX0, "commit", "()Z"⟩
abbrev cX0_recover : ByteArray := prog_1_method_6_code
def yX0_recover : MethodName := ⟨RX0, "recover", "()I"⟩
abbrev cX0_lose : ByteArray := prog_1_method_7_code
def yX0_lose : MethodName := ⟨RX0, "lose", "(I)V"⟩
abbrev cX0_power : ByteArray := prog_1_method_8_code
def yX0_power : MethodName := ⟨RX0, "power", "()Z"⟩
abbrev cX0_spoil : ByteArray := prog_1_method_9_code
def yX0_spoil : MethodName := ⟨RX0, "spoil", "(III)I"⟩
abbrev cX0_at : ByteArray := prog_1_method_10_code
def yX0_at : MethodName := ⟨RX0, "at", "(II)I"⟩
abbrev cX0_change : ByteArray := prog_1_method_11_code
def yX0_change : MethodName := ⟨RX0, "change", "(I)I"⟩
abbrev cX0_look : ByteArray := prog_1_method_12_code
def yX0_look : MethodName := ⟨RX0, "look", "(I)J"⟩
abbrev cX0_isTarget : ByteArray := prog_1_method_13_code
def yX0_isTarget : MethodName := ⟨RX0, "isTarget", "(I)Z"⟩
abbrev cX0_isInStore : ByteArray := prog_1_method_14_code
def yX0_isInStore : MethodName := ⟨RX0, "isInStore", "(II)Z"⟩
abbrev cX0_placeOf : ByteArray := prog_1_method_15_code
def yX0_placeOf : MethodName := ⟨RX0, "placeOf", "(I)I"⟩
abbrev cX0_isChangeOf : ByteArray := prog_1_method_16_code
def yX0_isChangeOf : MethodName := ⟨RX0, "isChangeOf", "(II)Z"⟩
abbrev cX0_openPlace : ByteArray := prog_1_method_17_code
def yX0_openPlace : MethodName := ⟨RX0, "openPlace", "(II)V"⟩
abbrev cX0_write : ByteArray := prog_1_method_18_code
def yX0_write : MethodName := ⟨RX0, "write", "(I[II)V"⟩
abbrev cX0_writeFullHead : ByteArray := prog_1_method_19_code
def yX0_writeFullHead : MethodName := ⟨RX0, "writeFullHead", "(I)V"⟩
abbrev cX0_writeEmptyHead : ByteArray := prog_1_method_20_code
def yX0_writeEmptyHead : MethodName := ⟨RX0, "writeEmptyHead", "(I)V"⟩
abbrev cX0_setWord : ByteArray := prog_1_method_21_code
def yX0_setWord : MethodName := ⟨RX0, "setWord", "(II)V"⟩
abbrev cX0_headWord : ByteArray := prog_1_method_22_code
def yX0_headWord : MethodName := ⟨RX0, "headWord", "(I)I"⟩
abbrev cX0_headCount : ByteArray := prog_1_method_23_code
def yX0_headCount : MethodName := ⟨RX0, "headCount", "()I"⟩
abbrev cX0_headTarget : ByteArray := prog_1_method_24_code
def yX0_headTarget : MethodName := ⟨RX0, "headTarget", "(I)I"⟩
abbrev cX0_headIsRight : ByteArray := prog_1_method_25_code
def yX0_headIsRight : MethodName := ⟨RX0, "headIsRight", "()Z"⟩
abbrev cX0_targetsAreRight : ByteArray := prog_1_method_26_code
def yX0_targetsAreRight : MethodName := ⟨RX0, "targetsAreRight", "(I)Z"⟩
abbrev cX0_payloadCheck : ByteArray := prog_1_method_27_code
def yX0_payloadCheck : MethodName := ⟨RX0, "payloadCheck", "(I)I"⟩
abbrev cX0_eightSteps : ByteArray := prog_1_method_28_code
def yX0_eightSteps : MethodName := ⟨RX0, "eightSteps", "(I)I"⟩
def RX1 : String := "BlockJournalModel"
def TX1 : u_T := fun k => match k with
  | 0 => ("BlockJournalModel", "thrown", "I", false)
  | 1 => ("BlockJournalModel", "store", "[I", true)
  | 2 => ("BlockJournalModel", "tape", "[I", true)
  | 3 => ("BlockJournalModel", "taped", "I", false)
  | 4 => ("BlockJournalModel", "change", "[I", true)
  | 5 => ("BlockJournalModel", "fresh", "[I", true)
  | 6 => ("BlockJournalModel", "changes", "I", false)
  | 7 => ("BlockJournalModel", "done", "J", false)
  | 8 => ("BlockJournalModel", "left", "J", false)
  | 9 => ("BlockJournalModel", "off", "Z", false)
  | _ => ("BlockJournalModel", "row", "[I", true)
def tyX1 : Nat → FieldType := fun k => match k with
  | 0 => .int
  | 1 => .array .int
  | 2 => .array .int
  | 3 => .int
  | 4 => .array .int
  | 5 => .array .int
  | 6 => .int
  | 7 => .long
  | 8 => .long
  | 9 => .boolean
  | _ => .array .int
abbrev wsX10 : List Cond := u_ws RX1 TX1 11
theorem nmX1 : ∀ a, a < 11 → ∀ b, b < 11 → a ≠ b → (TX1 a).2.1 ≠ (TX1 b).2.1 := by decide +kernel
theorem tyX1_ok : ∀ k, k < 11 → parseFieldDescriptor (TX1 k).2.2.1 = some (tyX1 k) := by decide +kernel
abbrev cX1_init : ByteArray := prog_3_method_1_code
def yX1_init : MethodName := ⟨RX1, "<init>", "()V"⟩
abbrev cX1_thrown : ByteArray := prog_3_method_2_code
def yX1_thrown : MethodName := ⟨RX1, "thrown", "()I"⟩
abbrev cX1_fails : ByteArray := prog_3_method_3_code
def yX1_fails : MethodName := ⟨RX1, "fails", "(ZI)Z"⟩
abbrev cX1_within : ByteArray := prog_3_method_4_code
def yX1_within : MethodName := ⟨RX1, "within", "(JJJ)Z"⟩
abbrev cX1_writes : ByteArray := prog_3_method_5_code
def yX1_writes : MethodName := ⟨RX1, "writes", "(I)Z"⟩
abbrev cX1_number : ByteArray := prog_3_method_6_code
def yX1_number : MethodName := ⟨RX1, "number", "(II)J"⟩
abbrev cX1_check : ByteArray := prog_3_method_7_code
def yX1_check : MethodName := ⟨RX1, "check", "(I)J"⟩
abbrev cX1_target : ByteArray := prog_3_method_8_code
def yX1_target : MethodName := ⟨RX1, "target", "(I)I"⟩
abbrev cX1_isRight : ByteArray := prog_3_method_9_code
def yX1_isRight : MethodName := ⟨RX1, "isRight", "()Z"⟩
abbrev cX1_feed : ByteArray := prog_3_method_10_code
def yX1_feed : MethodName := ⟨RX1, "feed", "(IJ)I"⟩
abbrev cX1_find : ByteArray := prog_3_method_11_code
def yX1_find : MethodName := ⟨RX1, "find", "(I)I"⟩
abbrev cX1_put : ByteArray := prog_3_method_12_code
def yX1_put : MethodName := ⟨RX1, "put", "(I)I"⟩
abbrev cX1_drop : ByteArray := prog_3_method_13_code
def yX1_drop : MethodName := ⟨RX1, "drop", "()I"⟩
abbrev cX1_ranked : ByteArray := prog_3_method_14_code
def yX1_ranked : MethodName := ⟨RX1, "ranked", "(I)I"⟩
abbrev cX1_headed : ByteArray := prog_3_method_15_code
def yX1_headed : MethodName := ⟨RX1, "headed", "(JI)V"⟩
abbrev cX1_commits : ByteArray := prog_3_method_16_code
def yX1_commits : MethodName := ⟨RX1, "commits", "(IIJ)Z"⟩
abbrev cX1_commit : ByteArray := prog_3_method_17_code
def yX1_commit : MethodName := ⟨RX1, "commit", "()Z"⟩
abbrev cX1_recover : ByteArray := prog_3_method_18_code
def yX1_recover : MethodName := ⟨RX1, "recover", "()I"⟩
abbrev cX1_lose : ByteArray := prog_3_method_19_code
def yX1_lose : MethodName := ⟨RX1, "lose", "(I)V"⟩
abbrev cX1_power : ByteArray := prog_3_method_20_code
def yX1_power : MethodName := ⟨RX1, "power", "()Z"⟩
abbrev cX1_spoil : ByteArray := prog_3_method_21_code
def yX1_spoil : MethodName := ⟨RX1, "spoil", "(III)I"⟩
abbrev cX1_at : ByteArray := prog_3_method_22_code
def yX1_at : MethodName := ⟨RX1, "at", "(II)I"⟩
abbrev cX1_change : ByteArray := prog_3_method_23_code
def yX1_change : MethodName := ⟨RX1, "change", "(I)I"⟩
abbrev cX1_look : ByteArray := prog_3_method_24_code
def yX1_look : MethodName := ⟨RX1, "look", "(I)J"⟩
def RJ0 : String := "java/lang/String"
def TJ0 : u_T := fun k => match k with
  | _ => ("", "", "", false)
def tyJ0 : Nat → FieldType := fun k => match k with
  | _ => .int
abbrev wsJ00 : List Cond := u_ws RJ0 TJ0 0
theorem nmJ0 : ∀ a, a < 0 → ∀ b, b < 0 → a ≠ b → (TJ0 a).2.1 ≠ (TJ0 b).2.1 := by decide +kernel
theorem tyJ0_ok : ∀ k, k < 0 → parseFieldDescriptor (TJ0 k).2.2.1 = some (tyJ0 k) := by decide +kernel
def RJ10 : String := "java/lang/System"
def TJ10 : u_T := fun k => match k with
  | _ => ("", "", "", false)
def tyJ10 : Nat → FieldType := fun k => match k with
  | _ => .int
abbrev wsJ100 : List Cond := u_ws RJ10 TJ10 0
theorem nmJ10 : ∀ a, a < 0 → ∀ b, b < 0 → a ≠ b → (TJ10 a).2.1 ≠ (TJ10 b).2.1 := by decide +kernel
theorem tyJ10_ok : ∀ k, k < 0 → parseFieldDescriptor (TJ10 k).2.2.1 = some (tyJ10 k) := by decide +kernel
def RJ7 : String := "java/util/Arrays"
def TJ7 : u_T := fun k => match k with
  | _ => ("", "", "", false)
def tyJ7 : Nat → FieldType := fun k => match k with
  | _ => .int
abbrev wsJ70 : List Cond := u_ws RJ7 TJ7 0
theorem nmJ7 : ∀ a, a < 0 → ∀ b, b < 0 → a ≠ b → (TJ7 a).2.1 ≠ (TJ7 b).2.1 := by decide +kernel
theorem tyJ7_ok : ∀ k, k < 0 → parseFieldDescriptor (TJ7 k).2.2.1 = some (tyJ7 k) := by decide +kernel
abbrev cJ7_fill_53178 : ByteArray := prog_11_method_103_code
def yJ7_fill_53178 : MethodName := ⟨RJ7, "fill", "([II)V"⟩
def RL : String := "BlockJournalLaw"
abbrev cL_feed : ByteArray := method_3_code
def yL_feed : MethodName := ⟨RL, "feed", "(LBlockJournal;IJ[J)I"⟩
abbrev cL_put : ByteArray := method_4_code
def yL_put : MethodName := ⟨RL, "put", "(LBlockJournal;I[J)I"⟩
abbrev cL_commit : ByteArray := method_5_code
def yL_commit : MethodName := ⟨RL, "commit", "(LBlockJournal;[J)I"⟩
abbrev cL_recover : ByteArray := method_6_code
def yL_recover : MethodName := ⟨RL, "recover", "(LBlockJournal;[J)I"⟩
abbrev cL_lose : ByteArray := method_7_code
def yL_lose : MethodName := ⟨RL, "lose", "(LBlockJournal;I)I"⟩
abbrev cL_spoil : ByteArray := method_8_code
def yL_spoil : MethodName := ⟨RL, "spoil", "(LBlockJournal;III[J)I"⟩
abbrev cL_at : ByteArray := method_9_code
def yL_at : MethodName := ⟨RL, "at", "(LBlockJournal;II[J)I"⟩
abbrev cL_change : ByteArray := method_10_code
def yL_change : MethodName := ⟨RL, "change", "(LBlockJournal;I[J)I"⟩
abbrev cL_look : ByteArray := method_11_code
def yL_look : MethodName := ⟨RL, "look", "(LBlockJournal;I[J)I"⟩
abbrev cL_law : ByteArray := code
def yL_law : MethodName := ⟨RL, "law", "([I)Z"⟩
def wsX0_eightSteps : List Cond := .code yX0_eightSteps cX0_eightSteps 3 (some .int) :: ([.constant RX0 147 (-2097792136)])
def wsX0_init : List Cond := .code yX0_init cX0_init 2 none :: ([.methodLink RX0 1 objectInit, .instanceMethod objectInit, .code objectInit ⟨#[0xb1]⟩ 1 none, .arrayClass .int, .fieldLink RX0 9 "BlockJournal" "store" "[I", .fieldLink RX0 13 "BlockJournal" "checkSteps" "[I", .fieldLink RX0 16 "BlockJournal" "newHead" "[I", .fieldLink RX0 19 "BlockJournal" "tape" "[I", .fieldLink RX0 22 "BlockJournal" "changeBlocks" "[I", .fieldLink RX0 25 "BlockJournal" "changeBytes" "[I", .fieldLink RX0 28 "BlockJournal" "writesLeft" "I", .methodLink RX0 32 yX0_eightSteps, .static yX0_eightSteps, .initialized RX0, .code yX0_eightSteps cX0_eightSteps 3 (some .int), .constant RX0 147 (-2097792136)] ++ wsX00)
def wsX0_feed : List Cond := .code yX0_feed cX0_feed 5 (some .int) :: ([.classLink RX0 36 "java/lang/IllegalArgumentException", .initialized "java/lang/IllegalArgumentException", .classLink RX0 46 "java/lang/IllegalStateException", .initialized "java/lang/IllegalStateException", .fieldLink RX0 43 "BlockJournal" "tapeLength" "I", .fieldLink RX0 19 "BlockJournal" "tape" "[I"] ++ wsX00 ++ (vx_atS RX0 40 "java/lang/IllegalArgumentException" ["java/lang/RuntimeException", "java/lang/Exception"]).filter goodWord ++ (vx_atS RX0 50 "java/lang/IllegalStateException" ["java/lang/RuntimeException", "java/lang/Exception"]).filter goodWord)
def wsX0_isTarget : List Cond := .code yX0_isTarget cX0_isTarget 1 (some .boolean) :: ([])
def wsX0_placeOf : List Cond := .code yX0_placeOf cX0_placeOf 3 (some .int) :: ([.fieldLink RX0 64 "BlockJournal" "changes" "I", .fieldLink RX0 22 "BlockJournal" "changeBlocks" "[I"] ++ wsX00)
def wsX0_isChangeOf : List Cond := .code yX0_isChangeOf cX0_isChangeOf 3 (some .boolean) :: ([.fieldLink RX0 64 "BlockJournal" "changes" "I", .fieldLink RX0 22 "BlockJournal" "changeBlocks" "[I"] ++ wsX00)
def wsX0_openPlace : List Cond := .code yX0_openPlace cX0_openPlace 4 none :: ([.fieldLink RX0 64 "BlockJournal" "changes" "I", .fieldLink RX0 22 "BlockJournal" "changeBlocks" "[I", .methodLink RX0 73 arraycopyName, .native arraycopyName, .static arraycopyName, .initialized "java/lang/System", .fieldLink RX0 25 "BlockJournal" "changeBytes" "[I"] ++ wsX00)
def wsJ7_fill_53178 : List Cond := .code yJ7_fill_53178 cJ7_fill_53178 4 none :: ([])
def wsX0_put_r1 : List Cond := [Cond.classLink RX0 36 "java/lang/IllegalArgumentException", Cond.initialized "java/lang/IllegalArgumentException", Cond.classLink RX0 46 "java/lang/IllegalStateException", Cond.initialized "java/lang/IllegalStateException", Cond.fieldLink RX0 64 "BlockJournal" "changes" "I", Cond.fieldLink RX0 19 "BlockJournal" "tape" "[I", Cond.fieldLink RX0 25 "BlockJournal" "changeBytes" "[I", Cond.methodLink RX0 73 arraycopyName, Cond.native arraycopyName, Cond.static arraycopyName, Cond.initialized "java/lang/System", Cond.fieldLink RX0 43 "BlockJournal" "tapeLength" "I", Cond.methodLink RX0 51 yX0_isTarget, Cond.static yX0_isTarget, Cond.initialized RX0, Cond.code yX0_isTarget cX0_isTarget 1 (some .boolean), Cond.methodLink RX0 57 yX0_placeOf, Cond.instanceMethod yX0_placeOf, Cond.selects RX0 yX0_placeOf yX0_placeOf, Cond.code yX0_placeOf cX0_placeOf 3 (some .int), Cond.fieldLink RX0 22 "BlockJournal" "changeBlocks" "[I", Cond.methodLink RX0 60 yX0_isChangeOf, Cond.instanceMethod yX0_isChangeOf, Cond.selects RX0 yX0_isChangeOf yX0_isChangeOf]
def wsX0_put_r2 : List Cond := [Cond.code yX0_isChangeOf cX0_isChangeOf 3 (some .boolean), Cond.methodLink RX0 69 yX0_openPlace, Cond.instanceMethod yX0_openPlace, Cond.selects RX0 yX0_openPlace yX0_openPlace, Cond.code yX0_openPlace cX0_openPlace 4 none, Cond.methodLink RX0 79 yJ7_fill_53178, Cond.static yJ7_fill_53178, Cond.initialized RJ7, Cond.code yJ7_fill_53178 cJ7_fill_53178 4 none]
def wsX0_put : List Cond := .code yX0_put cX0_put 3 (some .int) :: ((wsX0_put_r1 ++ wsX0_put_r2) ++ wsX00 ++ (vx_atS RX0 40 "java/lang/IllegalArgumentException" ["java/lang/RuntimeException", "java/lang/Exception"]).filter goodWord ++ (vx_atS RX0 50 "java/lang/IllegalStateException" ["java/lang/RuntimeException", "java/lang/Exception"]).filter goodWord)
def wsX0_drop : List Cond := .code yX0_drop cX0_drop 2 (some .int) :: ([.fieldLink RX0 64 "BlockJournal" "changes" "I"] ++ wsX00)
def wsX0_headWord : List Cond := .code yX0_headWord cX0_headWord 4 (some .int) :: ([.fieldLink RX0 9 "BlockJournal" "store" "[I"] ++ wsX00)
def wsX0_write : List Cond := .code yX0_write cX0_write 4 none :: ([.fieldLink RX0 28 "BlockJournal" "writesLeft" "I", .fieldLink RX0 85 "BlockJournal" "off" "Z", .fieldLink RX0 9 "BlockJournal" "store" "[I", .methodLink RX0 73 arraycopyName, .native arraycopyName, .static arraycopyName, .initialized "java/lang/System", .fieldLink RX0 132 "BlockJournal" "writesDone" "J"] ++ wsX00)
def wsX0_setWord : List Cond := .code yX0_setWord cX0_setWord 4 none :: ([.fieldLink RX0 16 "BlockJournal" "newHead" "[I"] ++ wsX00)
def wsX0_payloadCheck : List Cond := .code yX0_payloadCheck cX0_payloadCheck 5 (some .int) :: ([.fieldLink RX0 13 "BlockJournal" "checkSteps" "[I", .fieldLink RX0 9 "BlockJournal" "store" "[I"] ++ wsX00)
def wsX0_writeFullHead_r1 : List Cond := [Cond.fieldLink RX0 16 "BlockJournal" "newHead" "[I", Cond.fieldLink RX0 64 "BlockJournal" "changes" "I", Cond.fieldLink RX0 22 "BlockJournal" "changeBlocks" "[I", Cond.methodLink RX0 79 yJ7_fill_53178, Cond.static yJ7_fill_53178, Cond.initialized RJ7, Cond.code yJ7_fill_53178 cJ7_fill_53178 4 none, Cond.methodLink RX0 138 yX0_setWord, Cond.instanceMethod yX0_setWord, Cond.selects RX0 yX0_setWord yX0_setWord, Cond.initialized RX0, Cond.code yX0_setWord cX0_setWord 4 none, Cond.methodLink RX0 141 yX0_payloadCheck, Cond.instanceMethod yX0_payloadCheck, Cond.selects RX0 yX0_payloadCheck yX0_payloadCheck, Cond.code yX0_payloadCheck cX0_payloadCheck 5 (some .int), Cond.fieldLink RX0 13 "BlockJournal" "checkSteps" "[I", Cond.fieldLink RX0 9 "BlockJournal" "store" "[I", Cond.methodLink RX0 94 yX0_write, Cond.instanceMethod yX0_write, Cond.selects RX0 yX0_write yX0_write, Cond.code yX0_write cX0_write 4 none, Cond.fieldLink RX0 28 "BlockJournal" "writesLeft" "I", Cond.fieldLink RX0 85 "BlockJournal" "off" "Z"]
def wsX0_writeFullHead_r2 : List Cond := [Cond.methodLink RX0 73 arraycopyName, Cond.native arraycopyName, Cond.static arraycopyName, Cond.initialized "java/lang/System", Cond.fieldLink RX0 132 "BlockJournal" "writesDone" "J"]
def wsX0_writeFullHead : List Cond := .code yX0_writeFullHead cX0_writeFullHead 3 none :: ((wsX0_writeFullHead_r1 ++ wsX0_writeFullHead_r2) ++ wsX00)
def wsX0_writeEmptyHead : List Cond := .code yX0_writeEmptyHead cX0_writeEmptyHead 2 none :: ([.fieldLink RX0 16 "BlockJournal" "newHead" "[I", .methodLink RX0 79 yJ7_fill_53178, .static yJ7_fill_53178, .initialized RJ7, .code yJ7_fill_53178 cJ7_fill_53178 4 none, .methodLink RX0 138 yX0_setWord, .instanceMethod yX0_setWord, .selects RX0 yX0_setWord yX0_setWord, .initialized RX0, .code yX0_setWord cX0_setWord 4 none, .methodLink RX0 94 yX0_write, .instanceMethod yX0_write, .selects RX0 yX0_write yX0_write, .code yX0_write cX0_write 4 none, .fieldLink RX0 28 "BlockJournal" "writesLeft" "I", .fieldLink RX0 85 "BlockJournal" "off" "Z", .fieldLink RX0 9 "BlockJournal" "store" "[I", .methodLink RX0 73 arraycopyName, .native arraycopyName, .static arraycopyName, .initialized "java/lang/System", .fieldLink RX0 132 "BlockJournal" "writesDone" "J"] ++ wsX00)
def wsX0_commit_r1 : List Cond := [Cond.classLink RX0 46 "java/lang/IllegalStateException", Cond.initialized "java/lang/IllegalStateException", Cond.fieldLink RX0 64 "BlockJournal" "changes" "I", Cond.fieldLink RX0 85 "BlockJournal" "off" "Z", Cond.fieldLink RX0 25 "BlockJournal" "changeBytes" "[I", Cond.fieldLink RX0 22 "BlockJournal" "changeBlocks" "[I", Cond.methodLink RX0 91 yX0_headWord, Cond.instanceMethod yX0_headWord, Cond.selects RX0 yX0_headWord yX0_headWord, Cond.initialized RX0, Cond.code yX0_headWord cX0_headWord 4 (some .int), Cond.fieldLink RX0 9 "BlockJournal" "store" "[I", Cond.methodLink RX0 94 yX0_write, Cond.instanceMethod yX0_write, Cond.selects RX0 yX0_write yX0_write, Cond.code yX0_write cX0_write 4 none, Cond.fieldLink RX0 28 "BlockJournal" "writesLeft" "I", Cond.methodLink RX0 73 arraycopyName, Cond.native arraycopyName, Cond.static arraycopyName, Cond.initialized "java/lang/System", Cond.fieldLink RX0 132 "BlockJournal" "writesDone" "J", Cond.methodLink RX0 98 yX0_writeFullHead, Cond.instanceMethod yX0_writeFullHead]
def wsX0_commit_r2 : List Cond := [Cond.selects RX0 yX0_writeFullHead yX0_writeFullHead, Cond.code yX0_writeFullHead cX0_writeFullHead 3 none, Cond.fieldLink RX0 16 "BlockJournal" "newHead" "[I", Cond.methodLink RX0 79 yJ7_fill_53178, Cond.static yJ7_fill_53178, Cond.initialized RJ7, Cond.code yJ7_fill_53178 cJ7_fill_53178 4 none, Cond.methodLink RX0 138 yX0_setWord, Cond.instanceMethod yX0_setWord, Cond.selects RX0 yX0_setWord yX0_setWord, Cond.code yX0_setWord cX0_setWord 4 none, Cond.methodLink RX0 141 yX0_payloadCheck, Cond.instanceMethod yX0_payloadCheck, Cond.selects RX0 yX0_payloadCheck yX0_payloadCheck, Cond.code yX0_payloadCheck cX0_payloadCheck 5 (some .int), Cond.fieldLink RX0 13 "BlockJournal" "checkSteps" "[I", Cond.methodLink RX0 102 yX0_writeEmptyHead, Cond.instanceMethod yX0_writeEmptyHead, Cond.selects RX0 yX0_writeEmptyHead yX0_writeEmptyHead, Cond.code yX0_writeEmptyHead cX0_writeEmptyHead 2 none]
def wsX0_commit : List Cond := .code yX0_commit cX0_commit 3 (some .boolean) :: ((wsX0_commit_r1 ++ wsX0_commit_r2) ++ wsX00 ++ (vx_atS RX0 50 "java/lang/IllegalStateException" ["java/lang/RuntimeException", "java/lang/Exception"]).filter goodWord)
def wsX0_headCount : List Cond := .code yX0_headCount cX0_headCount 1 (some .int) :: ([.fieldLink RX0 9 "BlockJournal" "store" "[I"] ++ wsX00)
def wsX0_headTarget : List Cond := .code yX0_headTarget cX0_headTarget 3 (some .int) :: ([.fieldLink RX0 9 "BlockJournal" "store" "[I"] ++ wsX00)
def wsX0_targetsAreRight : List Cond := .code yX0_targetsAreRight cX0_targetsAreRight 5 (some .boolean) :: ([.methodLink RX0 115 yX0_headTarget, .instanceMethod yX0_headTarget, .selects RX0 yX0_headTarget yX0_headTarget, .initialized RX0, .code yX0_headTarget cX0_headTarget 3 (some .int), .fieldLink RX0 9 "BlockJournal" "store" "[I", .methodLink RX0 51 yX0_isTarget, .static yX0_isTarget, .code yX0_isTarget cX0_isTarget 1 (some .boolean)] ++ wsX00)
def wsX0_headIsRight_r1 : List Cond := [Cond.methodLink RX0 111 yX0_headCount, Cond.instanceMethod yX0_headCount, Cond.selects RX0 yX0_headCount yX0_headCount, Cond.initialized RX0, Cond.code yX0_headCount cX0_headCount 1 (some .int), Cond.fieldLink RX0 9 "BlockJournal" "store" "[I", Cond.methodLink RX0 144 yX0_targetsAreRight, Cond.instanceMethod yX0_targetsAreRight, Cond.selects RX0 yX0_targetsAreRight yX0_targetsAreRight, Cond.code yX0_targetsAreRight cX0_targetsAreRight 5 (some .boolean), Cond.methodLink RX0 115 yX0_headTarget, Cond.instanceMethod yX0_headTarget, Cond.selects RX0 yX0_headTarget yX0_headTarget, Cond.code yX0_headTarget cX0_headTarget 3 (some .int), Cond.methodLink RX0 51 yX0_isTarget, Cond.static yX0_isTarget, Cond.code yX0_isTarget cX0_isTarget 1 (some .boolean), Cond.methodLink RX0 91 yX0_headWord, Cond.instanceMethod yX0_headWord, Cond.selects RX0 yX0_headWord yX0_headWord, Cond.code yX0_headWord cX0_headWord 4 (some .int), Cond.methodLink RX0 141 yX0_payloadCheck, Cond.instanceMethod yX0_payloadCheck, Cond.selects RX0 yX0_payloadCheck yX0_payloadCheck]
def wsX0_headIsRight_r2 : List Cond := [Cond.code yX0_payloadCheck cX0_payloadCheck 5 (some .int), Cond.fieldLink RX0 13 "BlockJournal" "checkSteps" "[I"]
def wsX0_headIsRight : List Cond := .code yX0_headIsRight cX0_headIsRight 2 (some .boolean) :: ((wsX0_headIsRight_r1 ++ wsX0_headIsRight_r2) ++ wsX00)
def wsX0_recover_r1 : List Cond := [Cond.classLink RX0 46 "java/lang/IllegalStateException", Cond.initialized "java/lang/IllegalStateException", Cond.fieldLink RX0 85 "BlockJournal" "off" "Z", Cond.fieldLink RX0 9 "BlockJournal" "store" "[I", Cond.methodLink RX0 107 yX0_headIsRight, Cond.instanceMethod yX0_headIsRight, Cond.selects RX0 yX0_headIsRight yX0_headIsRight, Cond.initialized RX0, Cond.code yX0_headIsRight cX0_headIsRight 2 (some .boolean), Cond.methodLink RX0 111 yX0_headCount, Cond.instanceMethod yX0_headCount, Cond.selects RX0 yX0_headCount yX0_headCount, Cond.code yX0_headCount cX0_headCount 1 (some .int), Cond.methodLink RX0 144 yX0_targetsAreRight, Cond.instanceMethod yX0_targetsAreRight, Cond.selects RX0 yX0_targetsAreRight yX0_targetsAreRight, Cond.code yX0_targetsAreRight cX0_targetsAreRight 5 (some .boolean), Cond.methodLink RX0 115 yX0_headTarget, Cond.instanceMethod yX0_headTarget, Cond.selects RX0 yX0_headTarget yX0_headTarget, Cond.code yX0_headTarget cX0_headTarget 3 (some .int), Cond.methodLink RX0 51 yX0_isTarget, Cond.static yX0_isTarget, Cond.code yX0_isTarget cX0_isTarget 1 (some .boolean)]
def wsX0_recover_r2 : List Cond := [Cond.methodLink RX0 91 yX0_headWord, Cond.instanceMethod yX0_headWord, Cond.selects RX0 yX0_headWord yX0_headWord, Cond.code yX0_headWord cX0_headWord 4 (some .int), Cond.methodLink RX0 141 yX0_payloadCheck, Cond.instanceMethod yX0_payloadCheck, Cond.selects RX0 yX0_payloadCheck yX0_payloadCheck, Cond.code yX0_payloadCheck cX0_payloadCheck 5 (some .int), Cond.fieldLink RX0 13 "BlockJournal" "checkSteps" "[I", Cond.methodLink RX0 94 yX0_write, Cond.instanceMethod yX0_write, Cond.selects RX0 yX0_write yX0_write, Cond.code yX0_write cX0_write 4 none, Cond.fieldLink RX0 28 "BlockJournal" "writesLeft" "I", Cond.methodLink RX0 73 arraycopyName, Cond.native arraycopyName, Cond.static arraycopyName, Cond.initialized "java/lang/System", Cond.fieldLink RX0 132 "BlockJournal" "writesDone" "J", Cond.methodLink RX0 102 yX0_writeEmptyHead, Cond.instanceMethod yX0_writeEmptyHead, Cond.selects RX0 yX0_writeEmptyHead yX0_writeEmptyHead, Cond.code yX0_writeEmptyHead cX0_writeEmptyHead 2 none, Cond.fieldLink RX0 16 "BlockJournal" "newHead" "[I"]
def wsX0_recover_r3 : List Cond := [Cond.methodLink RX0 79 yJ7_fill_53178, Cond.static yJ7_fill_53178, Cond.initialized RJ7, Cond.code yJ7_fill_53178 cJ7_fill_53178 4 none, Cond.methodLink RX0 138 yX0_setWord, Cond.instanceMethod yX0_setWord, Cond.selects RX0 yX0_setWord yX0_setWord, Cond.code yX0_setWord cX0_setWord 4 none]
def wsX0_recover : List Cond := .code yX0_recover cX0_recover 3 (some .int) :: ((wsX0_recover_r1 ++ (wsX0_recover_r2 ++ wsX0_recover_r3)) ++ wsX00 ++ (vx_atS RX0 50 "java/lang/IllegalStateException" ["java/lang/RuntimeException", "java/lang/Exception"]).filter goodWord)
def wsX0_lose : List Cond := .code yX0_lose cX0_lose 2 none :: ([.classLink RX0 36 "java/lang/IllegalArgumentException", .initialized "java/lang/IllegalArgumentException", .classLink RX0 46 "java/lang/IllegalStateException", .initialized "java/lang/IllegalStateException", .fieldLink RX0 85 "BlockJournal" "off" "Z", .fieldLink RX0 28 "BlockJournal" "writesLeft" "I"] ++ wsX00 ++ (vx_atS RX0 40 "java/lang/IllegalArgumentException" ["java/lang/RuntimeException", "java/lang/Exception"]).filter goodWord ++ (vx_atS RX0 50 "java/lang/IllegalStateException" ["java/lang/RuntimeException", "java/lang/Exception"]).filter goodWord)
def wsX0_power : List Cond := .code yX0_power cX0_power 2 (some .boolean) :: ([.fieldLink RX0 85 "BlockJournal" "off" "Z", .fieldLink RX0 28 "BlockJournal" "writesLeft" "I"] ++ wsX00)
def wsX0_isInStore : List Cond := .code yX0_isInStore cX0_isInStore 2 (some .boolean) :: ([])
def wsX0_spoil : List Cond := .code yX0_spoil cX0_spoil 5 (some .int) :: ([.classLink RX0 36 "java/lang/IllegalArgumentException", .initialized "java/lang/IllegalArgumentException", .fieldLink RX0 9 "BlockJournal" "store" "[I", .methodLink RX0 120 yX0_isInStore, .static yX0_isInStore, .initialized RX0, .code yX0_isInStore cX0_isInStore 2 (some .boolean)] ++ wsX00 ++ (vx_atS RX0 40 "java/lang/IllegalArgumentException" ["java/lang/RuntimeException", "java/lang/Exception"]).filter goodWord)
def wsX0_at : List Cond := .code yX0_at cX0_at 3 (some .int) :: ([.classLink RX0 36 "java/lang/IllegalArgumentException", .initialized "java/lang/IllegalArgumentException", .fieldLink RX0 9 "BlockJournal" "store" "[I", .methodLink RX0 120 yX0_isInStore, .static yX0_isInStore, .initialized RX0, .code yX0_isInStore cX0_isInStore 2 (some .boolean)] ++ wsX00 ++ (vx_atS RX0 40 "java/lang/IllegalArgumentException" ["java/lang/RuntimeException", "java/lang/Exception"]).filter goodWord)
def wsX0_change : List Cond := .code yX0_change cX0_change 2 (some .int) :: ([.classLink RX0 125 "java/util/NoSuchElementException", .initialized "java/util/NoSuchElementException", .fieldLink RX0 64 "BlockJournal" "changes" "I", .fieldLink RX0 22 "BlockJournal" "changeBlocks" "[I"] ++ wsX00 ++ (bx_atN RX0 129).filter goodWord)
def wsX0_look_r1 : List Cond := [Cond.classLink RX0 125 "java/util/NoSuchElementException", Cond.initialized "java/util/NoSuchElementException", Cond.constantLong RX0 130 (4294967295), Cond.fieldLink RX0 64 "BlockJournal" "changes" "I", Cond.fieldLink RX0 132 "BlockJournal" "writesDone" "J", Cond.fieldLink RX0 85 "BlockJournal" "off" "Z", Cond.fieldLink RX0 28 "BlockJournal" "writesLeft" "I", Cond.methodLink RX0 91 yX0_headWord, Cond.instanceMethod yX0_headWord, Cond.selects RX0 yX0_headWord yX0_headWord, Cond.initialized RX0, Cond.code yX0_headWord cX0_headWord 4 (some .int), Cond.fieldLink RX0 9 "BlockJournal" "store" "[I", Cond.methodLink RX0 111 yX0_headCount, Cond.instanceMethod yX0_headCount, Cond.selects RX0 yX0_headCount yX0_headCount, Cond.code yX0_headCount cX0_headCount 1 (some .int), Cond.methodLink RX0 107 yX0_headIsRight, Cond.instanceMethod yX0_headIsRight, Cond.selects RX0 yX0_headIsRight yX0_headIsRight, Cond.code yX0_headIsRight cX0_headIsRight 2 (some .boolean), Cond.methodLink RX0 144 yX0_targetsAreRight, Cond.instanceMethod yX0_targetsAreRight, Cond.selects RX0 yX0_targetsAreRight yX0_targetsAreRight]
def wsX0_look_r2 : List Cond := [Cond.code yX0_targetsAreRight cX0_targetsAreRight 5 (some .boolean), Cond.methodLink RX0 115 yX0_headTarget, Cond.instanceMethod yX0_headTarget, Cond.selects RX0 yX0_headTarget yX0_headTarget, Cond.code yX0_headTarget cX0_headTarget 3 (some .int), Cond.methodLink RX0 51 yX0_isTarget, Cond.static yX0_isTarget, Cond.code yX0_isTarget cX0_isTarget 1 (some .boolean), Cond.methodLink RX0 141 yX0_payloadCheck, Cond.instanceMethod yX0_payloadCheck, Cond.selects RX0 yX0_payloadCheck yX0_payloadCheck, Cond.code yX0_payloadCheck cX0_payloadCheck 5 (some .int), Cond.fieldLink RX0 13 "BlockJournal" "checkSteps" "[I"]
def wsX0_look : List Cond := .code yX0_look cX0_look 2 (some .long) :: ((wsX0_look_r1 ++ wsX0_look_r2) ++ wsX00 ++ (bx_atN RX0 129).filter goodWord)
def wsX1_init : List Cond := .code yX1_init cX1_init 1 none :: ([.methodLink RX1 1 objectInit, .instanceMethod objectInit, .code objectInit ⟨#[0xb1]⟩ 1 none, .arrayClass .int, .fieldLink RX1 7 "BlockJournalModel" "store" "[I", .fieldLink RX1 13 "BlockJournalModel" "tape" "[I", .fieldLink RX1 16 "BlockJournalModel" "change" "[I", .fieldLink RX1 19 "BlockJournalModel" "fresh" "[I", .constantLong RX1 22 (-1), .fieldLink RX1 24 "BlockJournalModel" "left" "J", .fieldLink RX1 28 "BlockJournalModel" "row" "[I"] ++ wsX10)
def wsX1_thrown : List Cond := .code yX1_thrown cX1_thrown 1 (some .int) :: ([.fieldLink RX1 31 "BlockJournalModel" "thrown" "I"] ++ wsX10)
def wsX1_fails : List Cond := .code yX1_fails cX1_fails 3 (some .boolean) :: ([.fieldLink RX1 31 "BlockJournalModel" "thrown" "I"] ++ wsX10)
def wsX1_within : List Cond := .code yX1_within cX1_within 6 (some .boolean) :: ([])
def wsX1_writes : List Cond := .code yX1_writes cX1_writes 3 (some .boolean) :: ([.fieldLink RX1 35 "BlockJournalModel" "off" "Z", .fieldLink RX1 24 "BlockJournalModel" "left" "J", .fieldLink RX1 39 "BlockJournalModel" "done" "J", .fieldLink RX1 7 "BlockJournalModel" "store" "[I", .fieldLink RX1 28 "BlockJournalModel" "row" "[I"] ++ wsX10)
def wsX1_number : List Cond := .code yX1_number cX1_number 6 (some .long) :: ([.constantLong RX1 42 (256), .fieldLink RX1 7 "BlockJournalModel" "store" "[I"] ++ wsX10)
def wsX1_check : List Cond := .code yX1_check cX1_check 9 (some .long) :: ([.constantLong RX1 44 (4294967295), .fieldLink RX1 7 "BlockJournalModel" "store" "[I", .constantLong RX1 46 (517762881)] ++ wsX10)
def wsX1_target : List Cond := .code yX1_target cX1_target 2 (some .int) :: ([.methodLink RX1 48 yX1_number, .instanceMethod yX1_number, .selects RX1 yX1_number yX1_number, .initialized RX1, .code yX1_number cX1_number 6 (some .long), .constantLong RX1 42 (256), .fieldLink RX1 7 "BlockJournalModel" "store" "[I"] ++ wsX10)
def wsX1_isRight : List Cond := .code yX1_isRight cX1_isRight 4 (some .boolean) :: ([.fieldLink RX1 7 "BlockJournalModel" "store" "[I", .constantLong RX1 52 (24), .constantLong RX1 62 (25), .constantLong RX1 64 (95), .methodLink RX1 54 yX1_within, .static yX1_within, .initialized RX1, .code yX1_within cX1_within 6 (some .boolean), .methodLink RX1 58 yX1_target, .instanceMethod yX1_target, .selects RX1 yX1_target yX1_target, .code yX1_target cX1_target 2 (some .int), .methodLink RX1 48 yX1_number, .instanceMethod yX1_number, .selects RX1 yX1_number yX1_number, .code yX1_number cX1_number 6 (some .long), .constantLong RX1 42 (256), .methodLink RX1 66 yX1_check, .instanceMethod yX1_check, .selects RX1 yX1_check yX1_check, .code yX1_check cX1_check 9 (some .long), .constantLong RX1 44 (4294967295), .constantLong RX1 46 (517762881)] ++ wsX10)
def wsX1_feed : List Cond := .code yX1_feed cX1_feed 5 (some .int) :: ([.constantLong RX1 70 (8), .fieldLink RX1 76 "BlockJournalModel" "taped" "I", .fieldLink RX1 13 "BlockJournalModel" "tape" "[I", .constantLong RX1 79 (255), .methodLink RX1 54 yX1_within, .static yX1_within, .initialized RX1, .code yX1_within cX1_within 6 (some .boolean), .methodLink RX1 72 yX1_fails, .instanceMethod yX1_fails, .selects RX1 yX1_fails yX1_fails, .code yX1_fails cX1_fails 3 (some .boolean), .fieldLink RX1 31 "BlockJournalModel" "thrown" "I"] ++ wsX10)
def wsX1_find : List Cond := .code yX1_find cX1_find 3 (some .int) :: ([.fieldLink RX1 81 "BlockJournalModel" "changes" "I", .fieldLink RX1 16 "BlockJournalModel" "change" "[I"] ++ wsX10)
def wsX1_put : List Cond := .code yX1_put cX1_put 4 (some .int) :: ([.constantLong RX1 62 (25), .constantLong RX1 64 (95), .fieldLink RX1 81 "BlockJournalModel" "changes" "I", .fieldLink RX1 16 "BlockJournalModel" "change" "[I", .fieldLink RX1 19 "BlockJournalModel" "fresh" "[I", .fieldLink RX1 76 "BlockJournalModel" "taped" "I", .fieldLink RX1 13 "BlockJournalModel" "tape" "[I", .methodLink RX1 54 yX1_within, .static yX1_within, .initialized RX1, .code yX1_within cX1_within 6 (some .boolean), .methodLink RX1 72 yX1_fails, .instanceMethod yX1_fails, .selects RX1 yX1_fails yX1_fails, .code yX1_fails cX1_fails 3 (some .boolean), .fieldLink RX1 31 "BlockJournalModel" "thrown" "I", .methodLink RX1 84 yX1_find, .instanceMethod yX1_find, .selects RX1 yX1_find yX1_find, .code yX1_find cX1_find 3 (some .int)] ++ wsX10)
def wsX1_drop : List Cond := .code yX1_drop cX1_drop 2 (some .int) :: ([.fieldLink RX1 31 "BlockJournalModel" "thrown" "I", .fieldLink RX1 81 "BlockJournalModel" "changes" "I"] ++ wsX10)
def wsX1_ranked : List Cond := .code yX1_ranked cX1_ranked 5 (some .int) :: ([.fieldLink RX1 81 "BlockJournalModel" "changes" "I", .fieldLink RX1 16 "BlockJournalModel" "change" "[I"] ++ wsX10)
def wsX1_headed : List Cond := .code yX1_headed cX1_headed 7 none :: ([.fieldLink RX1 28 "BlockJournalModel" "row" "[I", .constantLong RX1 79 (255), .fieldLink RX1 16 "BlockJournalModel" "change" "[I", .methodLink RX1 66 yX1_check, .instanceMethod yX1_check, .selects RX1 yX1_check yX1_check, .initialized RX1, .code yX1_check cX1_check 9 (some .long), .constantLong RX1 44 (4294967295), .fieldLink RX1 7 "BlockJournalModel" "store" "[I", .constantLong RX1 46 (517762881), .methodLink RX1 87 yX1_ranked, .instanceMethod yX1_ranked, .selects RX1 yX1_ranked yX1_ranked, .code yX1_ranked cX1_ranked 5 (some .int), .fieldLink RX1 81 "BlockJournalModel" "changes" "I"] ++ wsX10)
def wsX1_commits_r1 : List Cond := [Cond.fieldLink RX1 28 "BlockJournalModel" "row" "[I", Cond.fieldLink RX1 19 "BlockJournalModel" "fresh" "[I", Cond.fieldLink RX1 16 "BlockJournalModel" "change" "[I", Cond.methodLink RX1 90 yX1_headed, Cond.instanceMethod yX1_headed, Cond.selects RX1 yX1_headed yX1_headed, Cond.initialized RX1, Cond.code yX1_headed cX1_headed 7 none, Cond.constantLong RX1 79 (255), Cond.methodLink RX1 66 yX1_check, Cond.instanceMethod yX1_check, Cond.selects RX1 yX1_check yX1_check, Cond.code yX1_check cX1_check 9 (some .long), Cond.constantLong RX1 44 (4294967295), Cond.fieldLink RX1 7 "BlockJournalModel" "store" "[I", Cond.constantLong RX1 46 (517762881), Cond.methodLink RX1 87 yX1_ranked, Cond.instanceMethod yX1_ranked, Cond.selects RX1 yX1_ranked yX1_ranked, Cond.code yX1_ranked cX1_ranked 5 (some .int), Cond.fieldLink RX1 81 "BlockJournalModel" "changes" "I", Cond.methodLink RX1 94 yX1_writes, Cond.instanceMethod yX1_writes, Cond.selects RX1 yX1_writes yX1_writes]
def wsX1_commits_r2 : List Cond := [Cond.code yX1_writes cX1_writes 3 (some .boolean), Cond.fieldLink RX1 35 "BlockJournalModel" "off" "Z", Cond.fieldLink RX1 24 "BlockJournalModel" "left" "J", Cond.fieldLink RX1 39 "BlockJournalModel" "done" "J"]
def wsX1_commits : List Cond := .code yX1_commits cX1_commits 7 (some .boolean) :: ((wsX1_commits_r1 ++ wsX1_commits_r2) ++ wsX10)
def wsX1_commit_r1 : List Cond := [Cond.fieldLink RX1 81 "BlockJournalModel" "changes" "I", Cond.fieldLink RX1 35 "BlockJournalModel" "off" "Z", Cond.methodLink RX1 72 yX1_fails, Cond.instanceMethod yX1_fails, Cond.selects RX1 yX1_fails yX1_fails, Cond.initialized RX1, Cond.code yX1_fails cX1_fails 3 (some .boolean), Cond.fieldLink RX1 31 "BlockJournalModel" "thrown" "I", Cond.methodLink RX1 48 yX1_number, Cond.instanceMethod yX1_number, Cond.selects RX1 yX1_number yX1_number, Cond.code yX1_number cX1_number 6 (some .long), Cond.constantLong RX1 42 (256), Cond.fieldLink RX1 7 "BlockJournalModel" "store" "[I", Cond.methodLink RX1 98 yX1_commits, Cond.instanceMethod yX1_commits, Cond.selects RX1 yX1_commits yX1_commits, Cond.code yX1_commits cX1_commits 7 (some .boolean), Cond.fieldLink RX1 28 "BlockJournalModel" "row" "[I", Cond.fieldLink RX1 19 "BlockJournalModel" "fresh" "[I", Cond.fieldLink RX1 16 "BlockJournalModel" "change" "[I", Cond.methodLink RX1 90 yX1_headed, Cond.instanceMethod yX1_headed, Cond.selects RX1 yX1_headed yX1_headed]
def wsX1_commit_r2 : List Cond := [Cond.code yX1_headed cX1_headed 7 none, Cond.constantLong RX1 79 (255), Cond.methodLink RX1 66 yX1_check, Cond.instanceMethod yX1_check, Cond.selects RX1 yX1_check yX1_check, Cond.code yX1_check cX1_check 9 (some .long), Cond.constantLong RX1 44 (4294967295), Cond.constantLong RX1 46 (517762881), Cond.methodLink RX1 87 yX1_ranked, Cond.instanceMethod yX1_ranked, Cond.selects RX1 yX1_ranked yX1_ranked, Cond.code yX1_ranked cX1_ranked 5 (some .int), Cond.methodLink RX1 94 yX1_writes, Cond.instanceMethod yX1_writes, Cond.selects RX1 yX1_writes yX1_writes, Cond.code yX1_writes cX1_writes 3 (some .boolean), Cond.fieldLink RX1 24 "BlockJournalModel" "left" "J", Cond.fieldLink RX1 39 "BlockJournalModel" "done" "J"]
def wsX1_commit : List Cond := .code yX1_commit cX1_commit 5 (some .boolean) :: ((wsX1_commit_r1 ++ wsX1_commit_r2) ++ wsX10)
def wsX1_recover_r1 : List Cond := [Cond.fieldLink RX1 35 "BlockJournalModel" "off" "Z", Cond.fieldLink RX1 7 "BlockJournalModel" "store" "[I", Cond.fieldLink RX1 28 "BlockJournalModel" "row" "[I", Cond.methodLink RX1 72 yX1_fails, Cond.instanceMethod yX1_fails, Cond.selects RX1 yX1_fails yX1_fails, Cond.initialized RX1, Cond.code yX1_fails cX1_fails 3 (some .boolean), Cond.fieldLink RX1 31 "BlockJournalModel" "thrown" "I", Cond.methodLink RX1 102 yX1_isRight, Cond.instanceMethod yX1_isRight, Cond.selects RX1 yX1_isRight yX1_isRight, Cond.code yX1_isRight cX1_isRight 4 (some .boolean), Cond.constantLong RX1 52 (24), Cond.constantLong RX1 62 (25), Cond.constantLong RX1 64 (95), Cond.methodLink RX1 54 yX1_within, Cond.static yX1_within, Cond.code yX1_within cX1_within 6 (some .boolean), Cond.methodLink RX1 58 yX1_target, Cond.instanceMethod yX1_target, Cond.selects RX1 yX1_target yX1_target, Cond.code yX1_target cX1_target 2 (some .int), Cond.methodLink RX1 48 yX1_number]
def wsX1_recover_r2 : List Cond := [Cond.instanceMethod yX1_number, Cond.selects RX1 yX1_number yX1_number, Cond.code yX1_number cX1_number 6 (some .long), Cond.constantLong RX1 42 (256), Cond.methodLink RX1 66 yX1_check, Cond.instanceMethod yX1_check, Cond.selects RX1 yX1_check yX1_check, Cond.code yX1_check cX1_check 9 (some .long), Cond.constantLong RX1 44 (4294967295), Cond.constantLong RX1 46 (517762881), Cond.methodLink RX1 94 yX1_writes, Cond.instanceMethod yX1_writes, Cond.selects RX1 yX1_writes yX1_writes, Cond.code yX1_writes cX1_writes 3 (some .boolean), Cond.fieldLink RX1 24 "BlockJournalModel" "left" "J", Cond.fieldLink RX1 39 "BlockJournalModel" "done" "J", Cond.methodLink RX1 90 yX1_headed, Cond.instanceMethod yX1_headed, Cond.selects RX1 yX1_headed yX1_headed, Cond.code yX1_headed cX1_headed 7 none, Cond.constantLong RX1 79 (255), Cond.fieldLink RX1 16 "BlockJournalModel" "change" "[I", Cond.methodLink RX1 87 yX1_ranked, Cond.instanceMethod yX1_ranked]
def wsX1_recover_r3 : List Cond := [Cond.selects RX1 yX1_ranked yX1_ranked, Cond.code yX1_ranked cX1_ranked 5 (some .int), Cond.fieldLink RX1 81 "BlockJournalModel" "changes" "I"]
def wsX1_recover : List Cond := .code yX1_recover cX1_recover 6 (some .int) :: ((wsX1_recover_r1 ++ (wsX1_recover_r2 ++ wsX1_recover_r3)) ++ wsX10)
def wsX1_lose : List Cond := .code yX1_lose cX1_lose 2 none :: ([.fieldLink RX1 35 "BlockJournalModel" "off" "Z", .fieldLink RX1 24 "BlockJournalModel" "left" "J", .methodLink RX1 72 yX1_fails, .instanceMethod yX1_fails, .selects RX1 yX1_fails yX1_fails, .initialized RX1, .code yX1_fails cX1_fails 3 (some .boolean), .fieldLink RX1 31 "BlockJournalModel" "thrown" "I"] ++ wsX10)
def wsX1_power : List Cond := .code yX1_power cX1_power 2 (some .boolean) :: ([.fieldLink RX1 31 "BlockJournalModel" "thrown" "I", .fieldLink RX1 35 "BlockJournalModel" "off" "Z", .constantLong RX1 22 (-1), .fieldLink RX1 24 "BlockJournalModel" "left" "J"] ++ wsX10)
def wsX1_spoil : List Cond := .code yX1_spoil cX1_spoil 5 (some .int) :: ([.constantLong RX1 64 (95), .constantLong RX1 106 (63), .fieldLink RX1 7 "BlockJournalModel" "store" "[I", .methodLink RX1 54 yX1_within, .static yX1_within, .initialized RX1, .code yX1_within cX1_within 6 (some .boolean), .methodLink RX1 72 yX1_fails, .instanceMethod yX1_fails, .selects RX1 yX1_fails yX1_fails, .code yX1_fails cX1_fails 3 (some .boolean), .fieldLink RX1 31 "BlockJournalModel" "thrown" "I"] ++ wsX10)
def wsX1_at : List Cond := .code yX1_at cX1_at 3 (some .int) :: ([.constantLong RX1 64 (95), .constantLong RX1 106 (63), .fieldLink RX1 7 "BlockJournalModel" "store" "[I", .methodLink RX1 54 yX1_within, .static yX1_within, .initialized RX1, .code yX1_within cX1_within 6 (some .boolean), .methodLink RX1 72 yX1_fails, .instanceMethod yX1_fails, .selects RX1 yX1_fails yX1_fails, .code yX1_fails cX1_fails 3 (some .boolean), .fieldLink RX1 31 "BlockJournalModel" "thrown" "I"] ++ wsX10)
def wsX1_change : List Cond := .code yX1_change cX1_change 2 (some .int) :: ([.fieldLink RX1 81 "BlockJournalModel" "changes" "I", .fieldLink RX1 16 "BlockJournalModel" "change" "[I", .methodLink RX1 54 yX1_within, .static yX1_within, .initialized RX1, .code yX1_within cX1_within 6 (some .boolean), .methodLink RX1 72 yX1_fails, .instanceMethod yX1_fails, .selects RX1 yX1_fails yX1_fails, .code yX1_fails cX1_fails 3 (some .boolean), .fieldLink RX1 31 "BlockJournalModel" "thrown" "I", .methodLink RX1 87 yX1_ranked, .instanceMethod yX1_ranked, .selects RX1 yX1_ranked yX1_ranked, .code yX1_ranked cX1_ranked 5 (some .int)] ++ wsX10)
def wsX1_look_r1 : List Cond := [Cond.constantLong RX1 108 (6), Cond.fieldLink RX1 7 "BlockJournalModel" "store" "[I", Cond.fieldLink RX1 81 "BlockJournalModel" "changes" "I", Cond.fieldLink RX1 39 "BlockJournalModel" "done" "J", Cond.fieldLink RX1 35 "BlockJournalModel" "off" "Z", Cond.fieldLink RX1 24 "BlockJournalModel" "left" "J", Cond.methodLink RX1 54 yX1_within, Cond.static yX1_within, Cond.initialized RX1, Cond.code yX1_within cX1_within 6 (some .boolean), Cond.methodLink RX1 72 yX1_fails, Cond.instanceMethod yX1_fails, Cond.selects RX1 yX1_fails yX1_fails, Cond.code yX1_fails cX1_fails 3 (some .boolean), Cond.fieldLink RX1 31 "BlockJournalModel" "thrown" "I", Cond.methodLink RX1 48 yX1_number, Cond.instanceMethod yX1_number, Cond.selects RX1 yX1_number yX1_number, Cond.code yX1_number cX1_number 6 (some .long), Cond.constantLong RX1 42 (256), Cond.methodLink RX1 102 yX1_isRight, Cond.instanceMethod yX1_isRight, Cond.selects RX1 yX1_isRight yX1_isRight, Cond.code yX1_isRight cX1_isRight 4 (some .boolean)]
def wsX1_look_r2 : List Cond := [Cond.constantLong RX1 52 (24), Cond.constantLong RX1 62 (25), Cond.constantLong RX1 64 (95), Cond.methodLink RX1 58 yX1_target, Cond.instanceMethod yX1_target, Cond.selects RX1 yX1_target yX1_target, Cond.code yX1_target cX1_target 2 (some .int), Cond.methodLink RX1 66 yX1_check, Cond.instanceMethod yX1_check, Cond.selects RX1 yX1_check yX1_check, Cond.code yX1_check cX1_check 9 (some .long), Cond.constantLong RX1 44 (4294967295), Cond.constantLong RX1 46 (517762881)]
def wsX1_look : List Cond := .code yX1_look cX1_look 2 (some .long) :: ((wsX1_look_r1 ++ wsX1_look_r2) ++ wsX10)
def wsL_feed : List Cond := .codeWith yL_feed cL_feed 6 (some .int) [(0, 11, 14, 13), (0, 11, 18, 15)] :: ([.classLink RL 13 "java/lang/IllegalArgumentException", .classLink RL 15 "java/lang/IllegalStateException", .methodLink RL 7 yX0_feed, .instanceMethod yX0_feed, .selects RX0 yX0_feed yX0_feed, .initialized RX0, .code yX0_feed cX0_feed 5 (some .int), .classLink RX0 36 "java/lang/IllegalArgumentException", .initialized "java/lang/IllegalArgumentException", .classLink RX0 46 "java/lang/IllegalStateException", .initialized "java/lang/IllegalStateException", .fieldLink RX0 43 "BlockJournal" "tapeLength" "I", .fieldLink RX0 19 "BlockJournal" "tape" "[I"] ++ wsX00 ++ (vx_atS RX0 40 "java/lang/IllegalArgumentException" ["java/lang/RuntimeException", "java/lang/Exception"]).filter goodWord ++ (vx_atS RX0 50 "java/lang/IllegalStateException" ["java/lang/RuntimeException", "java/lang/Exception"]).filter goodWord)
def wsL_put_r1 : List Cond := [Cond.classLink RL 13 "java/lang/IllegalArgumentException", Cond.classLink RL 15 "java/lang/IllegalStateException", Cond.methodLink RL 17 yX0_put, Cond.instanceMethod yX0_put, Cond.selects RX0 yX0_put yX0_put, Cond.initialized RX0, Cond.code yX0_put cX0_put 3 (some .int), Cond.classLink RX0 36 "java/lang/IllegalArgumentException", Cond.initialized "java/lang/IllegalArgumentException", Cond.classLink RX0 46 "java/lang/IllegalStateException", Cond.initialized "java/lang/IllegalStateException", Cond.fieldLink RX0 64 "BlockJournal" "changes" "I", Cond.fieldLink RX0 19 "BlockJournal" "tape" "[I", Cond.fieldLink RX0 25 "BlockJournal" "changeBytes" "[I", Cond.methodLink RX0 73 arraycopyName, Cond.native arraycopyName, Cond.static arraycopyName, Cond.initialized "java/lang/System", Cond.fieldLink RX0 43 "BlockJournal" "tapeLength" "I", Cond.methodLink RX0 51 yX0_isTarget, Cond.static yX0_isTarget, Cond.code yX0_isTarget cX0_isTarget 1 (some .boolean), Cond.methodLink RX0 57 yX0_placeOf, Cond.instanceMethod yX0_placeOf]
def wsL_put_r2 : List Cond := [Cond.selects RX0 yX0_placeOf yX0_placeOf, Cond.code yX0_placeOf cX0_placeOf 3 (some .int), Cond.fieldLink RX0 22 "BlockJournal" "changeBlocks" "[I", Cond.methodLink RX0 60 yX0_isChangeOf, Cond.instanceMethod yX0_isChangeOf, Cond.selects RX0 yX0_isChangeOf yX0_isChangeOf, Cond.code yX0_isChangeOf cX0_isChangeOf 3 (some .boolean), Cond.methodLink RX0 69 yX0_openPlace, Cond.instanceMethod yX0_openPlace, Cond.selects RX0 yX0_openPlace yX0_openPlace, Cond.code yX0_openPlace cX0_openPlace 4 none, Cond.methodLink RX0 79 yJ7_fill_53178, Cond.static yJ7_fill_53178, Cond.initialized RJ7, Cond.code yJ7_fill_53178 cJ7_fill_53178 4 none]
def wsL_put : List Cond := .codeWith yL_put cL_put 4 (some .int) [(0, 9, 12, 13), (0, 9, 15, 15)] :: ((wsL_put_r1 ++ wsL_put_r2) ++ wsX00 ++ (vx_atS RX0 40 "java/lang/IllegalArgumentException" ["java/lang/RuntimeException", "java/lang/Exception"]).filter goodWord ++ (vx_atS RX0 50 "java/lang/IllegalStateException" ["java/lang/RuntimeException", "java/lang/Exception"]).filter goodWord)
def wsL_commit_r1 : List Cond := [Cond.classLink RL 15 "java/lang/IllegalStateException", Cond.methodLink RL 21 yX0_commit, Cond.instanceMethod yX0_commit, Cond.selects RX0 yX0_commit yX0_commit, Cond.initialized RX0, Cond.code yX0_commit cX0_commit 3 (some .boolean), Cond.classLink RX0 46 "java/lang/IllegalStateException", Cond.initialized "java/lang/IllegalStateException", Cond.fieldLink RX0 64 "BlockJournal" "changes" "I", Cond.fieldLink RX0 85 "BlockJournal" "off" "Z", Cond.fieldLink RX0 25 "BlockJournal" "changeBytes" "[I", Cond.fieldLink RX0 22 "BlockJournal" "changeBlocks" "[I", Cond.methodLink RX0 91 yX0_headWord, Cond.instanceMethod yX0_headWord, Cond.selects RX0 yX0_headWord yX0_headWord, Cond.code yX0_headWord cX0_headWord 4 (some .int), Cond.fieldLink RX0 9 "BlockJournal" "store" "[I", Cond.methodLink RX0 94 yX0_write, Cond.instanceMethod yX0_write, Cond.selects RX0 yX0_write yX0_write, Cond.code yX0_write cX0_write 4 none, Cond.fieldLink RX0 28 "BlockJournal" "writesLeft" "I", Cond.methodLink RX0 73 arraycopyName, Cond.native arraycopyName]
def wsL_commit_r2 : List Cond := [Cond.static arraycopyName, Cond.initialized "java/lang/System", Cond.fieldLink RX0 132 "BlockJournal" "writesDone" "J", Cond.methodLink RX0 98 yX0_writeFullHead, Cond.instanceMethod yX0_writeFullHead, Cond.selects RX0 yX0_writeFullHead yX0_writeFullHead, Cond.code yX0_writeFullHead cX0_writeFullHead 3 none, Cond.fieldLink RX0 16 "BlockJournal" "newHead" "[I", Cond.methodLink RX0 79 yJ7_fill_53178, Cond.static yJ7_fill_53178, Cond.initialized RJ7, Cond.code yJ7_fill_53178 cJ7_fill_53178 4 none, Cond.methodLink RX0 138 yX0_setWord, Cond.instanceMethod yX0_setWord, Cond.selects RX0 yX0_setWord yX0_setWord, Cond.code yX0_setWord cX0_setWord 4 none, Cond.methodLink RX0 141 yX0_payloadCheck, Cond.instanceMethod yX0_payloadCheck, Cond.selects RX0 yX0_payloadCheck yX0_payloadCheck, Cond.code yX0_payloadCheck cX0_payloadCheck 5 (some .int), Cond.fieldLink RX0 13 "BlockJournal" "checkSteps" "[I", Cond.methodLink RX0 102 yX0_writeEmptyHead, Cond.instanceMethod yX0_writeEmptyHead, Cond.selects RX0 yX0_writeEmptyHead yX0_writeEmptyHead]
def wsL_commit_r3 : List Cond := [Cond.code yX0_writeEmptyHead cX0_writeEmptyHead 2 none]
def wsL_commit : List Cond := .codeWith yL_commit cL_commit 3 (some .int) [(0, 15, 18, 15)] :: ((wsL_commit_r1 ++ (wsL_commit_r2 ++ wsL_commit_r3)) ++ wsX00 ++ (vx_atS RX0 50 "java/lang/IllegalStateException" ["java/lang/RuntimeException", "java/lang/Exception"]).filter goodWord)
def wsL_recover_r1 : List Cond := [Cond.classLink RL 15 "java/lang/IllegalStateException", Cond.methodLink RL 25 yX0_recover, Cond.instanceMethod yX0_recover, Cond.selects RX0 yX0_recover yX0_recover, Cond.initialized RX0, Cond.code yX0_recover cX0_recover 3 (some .int), Cond.classLink RX0 46 "java/lang/IllegalStateException", Cond.initialized "java/lang/IllegalStateException", Cond.fieldLink RX0 85 "BlockJournal" "off" "Z", Cond.fieldLink RX0 9 "BlockJournal" "store" "[I", Cond.methodLink RX0 107 yX0_headIsRight, Cond.instanceMethod yX0_headIsRight, Cond.selects RX0 yX0_headIsRight yX0_headIsRight, Cond.code yX0_headIsRight cX0_headIsRight 2 (some .boolean), Cond.methodLink RX0 111 yX0_headCount, Cond.instanceMethod yX0_headCount, Cond.selects RX0 yX0_headCount yX0_headCount, Cond.code yX0_headCount cX0_headCount 1 (some .int), Cond.methodLink RX0 144 yX0_targetsAreRight, Cond.instanceMethod yX0_targetsAreRight, Cond.selects RX0 yX0_targetsAreRight yX0_targetsAreRight, Cond.code yX0_targetsAreRight cX0_targetsAreRight 5 (some .boolean), Cond.methodLink RX0 115 yX0_headTarget, Cond.instanceMethod yX0_headTarget]
def wsL_recover_r2 : List Cond := [Cond.selects RX0 yX0_headTarget yX0_headTarget, Cond.code yX0_headTarget cX0_headTarget 3 (some .int), Cond.methodLink RX0 51 yX0_isTarget, Cond.static yX0_isTarget, Cond.code yX0_isTarget cX0_isTarget 1 (some .boolean), Cond.methodLink RX0 91 yX0_headWord, Cond.instanceMethod yX0_headWord, Cond.selects RX0 yX0_headWord yX0_headWord, Cond.code yX0_headWord cX0_headWord 4 (some .int), Cond.methodLink RX0 141 yX0_payloadCheck, Cond.instanceMethod yX0_payloadCheck, Cond.selects RX0 yX0_payloadCheck yX0_payloadCheck, Cond.code yX0_payloadCheck cX0_payloadCheck 5 (some .int), Cond.fieldLink RX0 13 "BlockJournal" "checkSteps" "[I", Cond.methodLink RX0 94 yX0_write, Cond.instanceMethod yX0_write, Cond.selects RX0 yX0_write yX0_write, Cond.code yX0_write cX0_write 4 none, Cond.fieldLink RX0 28 "BlockJournal" "writesLeft" "I", Cond.methodLink RX0 73 arraycopyName, Cond.native arraycopyName, Cond.static arraycopyName, Cond.initialized "java/lang/System", Cond.fieldLink RX0 132 "BlockJournal" "writesDone" "J"]
def wsL_recover_r3 : List Cond := [Cond.methodLink RX0 102 yX0_writeEmptyHead, Cond.instanceMethod yX0_writeEmptyHead, Cond.selects RX0 yX0_writeEmptyHead yX0_writeEmptyHead, Cond.code yX0_writeEmptyHead cX0_writeEmptyHead 2 none, Cond.fieldLink RX0 16 "BlockJournal" "newHead" "[I", Cond.methodLink RX0 79 yJ7_fill_53178, Cond.static yJ7_fill_53178, Cond.initialized RJ7, Cond.code yJ7_fill_53178 cJ7_fill_53178 4 none, Cond.methodLink RX0 138 yX0_setWord, Cond.instanceMethod yX0_setWord, Cond.selects RX0 yX0_setWord yX0_setWord, Cond.code yX0_setWord cX0_setWord 4 none]
def wsL_recover : List Cond := .codeWith yL_recover cL_recover 3 (some .int) [(0, 8, 11, 15)] :: ((wsL_recover_r1 ++ (wsL_recover_r2 ++ wsL_recover_r3)) ++ wsX00 ++ (vx_atS RX0 50 "java/lang/IllegalStateException" ["java/lang/RuntimeException", "java/lang/Exception"]).filter goodWord)
def wsL_lose : List Cond := .codeWith yL_lose cL_lose 3 (some .int) [(0, 5, 8, 13), (0, 5, 11, 15)] :: ([.classLink RL 13 "java/lang/IllegalArgumentException", .classLink RL 15 "java/lang/IllegalStateException", .methodLink RL 29 yX0_lose, .instanceMethod yX0_lose, .selects RX0 yX0_lose yX0_lose, .initialized RX0, .code yX0_lose cX0_lose 2 none, .classLink RX0 36 "java/lang/IllegalArgumentException", .initialized "java/lang/IllegalArgumentException", .classLink RX0 46 "java/lang/IllegalStateException", .initialized "java/lang/IllegalStateException", .fieldLink RX0 85 "BlockJournal" "off" "Z", .fieldLink RX0 28 "BlockJournal" "writesLeft" "I"] ++ wsX00 ++ (vx_atS RX0 40 "java/lang/IllegalArgumentException" ["java/lang/RuntimeException", "java/lang/Exception"]).filter goodWord ++ (vx_atS RX0 50 "java/lang/IllegalStateException" ["java/lang/RuntimeException", "java/lang/Exception"]).filter goodWord)
def wsL_spoil : List Cond := .codeWith yL_spoil cL_spoil 6 (some .int) [(0, 12, 15, 13)] :: ([.classLink RL 13 "java/lang/IllegalArgumentException", .methodLink RL 33 yX0_spoil, .instanceMethod yX0_spoil, .selects RX0 yX0_spoil yX0_spoil, .initialized RX0, .code yX0_spoil cX0_spoil 5 (some .int), .classLink RX0 36 "java/lang/IllegalArgumentException", .initialized "java/lang/IllegalArgumentException", .fieldLink RX0 9 "BlockJournal" "store" "[I", .methodLink RX0 120 yX0_isInStore, .static yX0_isInStore, .code yX0_isInStore cX0_isInStore 2 (some .boolean)] ++ wsX00 ++ (vx_atS RX0 40 "java/lang/IllegalArgumentException" ["java/lang/RuntimeException", "java/lang/Exception"]).filter goodWord)
def wsL_at : List Cond := .codeWith yL_at cL_at 5 (some .int) [(0, 10, 13, 13)] :: ([.classLink RL 13 "java/lang/IllegalArgumentException", .methodLink RL 37 yX0_at, .instanceMethod yX0_at, .selects RX0 yX0_at yX0_at, .initialized RX0, .code yX0_at cX0_at 3 (some .int), .classLink RX0 36 "java/lang/IllegalArgumentException", .initialized "java/lang/IllegalArgumentException", .fieldLink RX0 9 "BlockJournal" "store" "[I", .methodLink RX0 120 yX0_isInStore, .static yX0_isInStore, .code yX0_isInStore cX0_isInStore 2 (some .boolean)] ++ wsX00 ++ (vx_atS RX0 40 "java/lang/IllegalArgumentException" ["java/lang/RuntimeException", "java/lang/Exception"]).filter goodWord)
def wsL_change : List Cond := .codeWith yL_change cL_change 4 (some .int) [(0, 9, 12, 44)] :: ([.classLink RL 44 "java/util/NoSuchElementException", .methodLink RL 41 yX0_change, .instanceMethod yX0_change, .selects RX0 yX0_change yX0_change, .initialized RX0, .code yX0_change cX0_change 2 (some .int), .classLink RX0 125 "java/util/NoSuchElementException", .initialized "java/util/NoSuchElementException", .fieldLink RX0 64 "BlockJournal" "changes" "I", .fieldLink RX0 22 "BlockJournal" "changeBlocks" "[I"] ++ wsX00 ++ (bx_atN RX0 129).filter goodWord)
def wsL_look_r1 : List Cond := [Cond.classLink RL 44 "java/util/NoSuchElementException", Cond.methodLink RL 46 yX0_look, Cond.instanceMethod yX0_look, Cond.selects RX0 yX0_look yX0_look, Cond.initialized RX0, Cond.code yX0_look cX0_look 2 (some .long), Cond.classLink RX0 125 "java/util/NoSuchElementException", Cond.initialized "java/util/NoSuchElementException", Cond.constantLong RX0 130 (4294967295), Cond.fieldLink RX0 64 "BlockJournal" "changes" "I", Cond.fieldLink RX0 132 "BlockJournal" "writesDone" "J", Cond.fieldLink RX0 85 "BlockJournal" "off" "Z", Cond.fieldLink RX0 28 "BlockJournal" "writesLeft" "I", Cond.methodLink RX0 91 yX0_headWord, Cond.instanceMethod yX0_headWord, Cond.selects RX0 yX0_headWord yX0_headWord, Cond.code yX0_headWord cX0_headWord 4 (some .int), Cond.fieldLink RX0 9 "BlockJournal" "store" "[I", Cond.methodLink RX0 111 yX0_headCount, Cond.instanceMethod yX0_headCount, Cond.selects RX0 yX0_headCount yX0_headCount, Cond.code yX0_headCount cX0_headCount 1 (some .int), Cond.methodLink RX0 107 yX0_headIsRight, Cond.instanceMethod yX0_headIsRight]
def wsL_look_r2 : List Cond := [Cond.selects RX0 yX0_headIsRight yX0_headIsRight, Cond.code yX0_headIsRight cX0_headIsRight 2 (some .boolean), Cond.methodLink RX0 144 yX0_targetsAreRight, Cond.instanceMethod yX0_targetsAreRight, Cond.selects RX0 yX0_targetsAreRight yX0_targetsAreRight, Cond.code yX0_targetsAreRight cX0_targetsAreRight 5 (some .boolean), Cond.methodLink RX0 115 yX0_headTarget, Cond.instanceMethod yX0_headTarget, Cond.selects RX0 yX0_headTarget yX0_headTarget, Cond.code yX0_headTarget cX0_headTarget 3 (some .int), Cond.methodLink RX0 51 yX0_isTarget, Cond.static yX0_isTarget, Cond.code yX0_isTarget cX0_isTarget 1 (some .boolean), Cond.methodLink RX0 141 yX0_payloadCheck, Cond.instanceMethod yX0_payloadCheck, Cond.selects RX0 yX0_payloadCheck yX0_payloadCheck, Cond.code yX0_payloadCheck cX0_payloadCheck 5 (some .int), Cond.fieldLink RX0 13 "BlockJournal" "checkSteps" "[I"]
def wsL_look : List Cond := .codeWith yL_look cL_look 4 (some .int) [(0, 8, 11, 44)] :: ((wsL_look_r1 ++ wsL_look_r2) ++ wsX00 ++ (bx_atN RX0 129).filter goodWord)
def wsL_law0_r1 : List Cond := [Cond.classLink RL 8 RX0, Cond.instantiable RX0 11, Cond.initialized RX0, Cond.classLink RL 51 RX1, Cond.instantiable RX1 11, Cond.initialized RX1, Cond.arrayClass .long, Cond.constantLong RL 54 (4294967295), Cond.methodLink RL 50 yX0_init, Cond.instanceMethod yX0_init, Cond.code yX0_init cX0_init 2 none, Cond.methodLink RX0 1 objectInit, Cond.instanceMethod objectInit, Cond.code objectInit ⟨#[0xb1]⟩ 1 none, Cond.arrayClass .int, Cond.fieldLink RX0 9 "BlockJournal" "store" "[I", Cond.fieldLink RX0 13 "BlockJournal" "checkSteps" "[I", Cond.fieldLink RX0 16 "BlockJournal" "newHead" "[I", Cond.fieldLink RX0 19 "BlockJournal" "tape" "[I", Cond.fieldLink RX0 22 "BlockJournal" "changeBlocks" "[I", Cond.fieldLink RX0 25 "BlockJournal" "changeBytes" "[I", Cond.fieldLink RX0 28 "BlockJournal" "writesLeft" "I", Cond.methodLink RX0 32 yX0_eightSteps, Cond.static yX0_eightSteps]
def wsL_law0_r2 : List Cond := [Cond.code yX0_eightSteps cX0_eightSteps 3 (some .int), Cond.constant RX0 147 (-2097792136), Cond.methodLink RL 53 yX1_init, Cond.instanceMethod yX1_init, Cond.code yX1_init cX1_init 1 none, Cond.methodLink RX1 1 objectInit, Cond.fieldLink RX1 7 "BlockJournalModel" "store" "[I", Cond.fieldLink RX1 13 "BlockJournalModel" "tape" "[I", Cond.fieldLink RX1 16 "BlockJournalModel" "change" "[I", Cond.fieldLink RX1 19 "BlockJournalModel" "fresh" "[I", Cond.constantLong RX1 22 (-1), Cond.fieldLink RX1 24 "BlockJournalModel" "left" "J", Cond.fieldLink RX1 28 "BlockJournalModel" "row" "[I", Cond.methodLink RL 56 yL_feed, Cond.static yL_feed, Cond.initialized RL, Cond.codeWith yL_feed cL_feed 6 (some .int) [(0, 11, 14, 13), (0, 11, 18, 15)], Cond.classLink RL 13 "java/lang/IllegalArgumentException", Cond.classLink RL 15 "java/lang/IllegalStateException", Cond.methodLink RL 7 yX0_feed, Cond.instanceMethod yX0_feed, Cond.selects RX0 yX0_feed yX0_feed, Cond.code yX0_feed cX0_feed 5 (some .int), Cond.classLink RX0 36 "java/lang/IllegalArgumentException"]
def wsL_law0_r3 : List Cond := [Cond.initialized "java/lang/IllegalArgumentException", Cond.classLink RX0 46 "java/lang/IllegalStateException", Cond.initialized "java/lang/IllegalStateException", Cond.fieldLink RX0 43 "BlockJournal" "tapeLength" "I", Cond.methodLink RL 61 yX1_feed, Cond.instanceMethod yX1_feed, Cond.selects RX1 yX1_feed yX1_feed, Cond.code yX1_feed cX1_feed 5 (some .int), Cond.constantLong RX1 70 (8), Cond.fieldLink RX1 76 "BlockJournalModel" "taped" "I", Cond.constantLong RX1 79 (255), Cond.methodLink RX1 54 yX1_within, Cond.static yX1_within, Cond.code yX1_within cX1_within 6 (some .boolean), Cond.methodLink RX1 72 yX1_fails, Cond.instanceMethod yX1_fails, Cond.selects RX1 yX1_fails yX1_fails, Cond.code yX1_fails cX1_fails 3 (some .boolean), Cond.fieldLink RX1 31 "BlockJournalModel" "thrown" "I", Cond.methodLink RL 62 yX1_thrown, Cond.instanceMethod yX1_thrown, Cond.selects RX1 yX1_thrown yX1_thrown, Cond.code yX1_thrown cX1_thrown 1 (some .int), Cond.methodLink RL 65 yL_put]
def wsL_law0_r4 : List Cond := [Cond.static yL_put, Cond.codeWith yL_put cL_put 4 (some .int) [(0, 9, 12, 13), (0, 9, 15, 15)], Cond.methodLink RL 17 yX0_put, Cond.instanceMethod yX0_put, Cond.selects RX0 yX0_put yX0_put, Cond.code yX0_put cX0_put 3 (some .int), Cond.fieldLink RX0 64 "BlockJournal" "changes" "I", Cond.methodLink RX0 73 arraycopyName, Cond.native arraycopyName, Cond.static arraycopyName, Cond.initialized "java/lang/System", Cond.methodLink RX0 51 yX0_isTarget, Cond.static yX0_isTarget, Cond.code yX0_isTarget cX0_isTarget 1 (some .boolean), Cond.methodLink RX0 57 yX0_placeOf, Cond.instanceMethod yX0_placeOf, Cond.selects RX0 yX0_placeOf yX0_placeOf, Cond.code yX0_placeOf cX0_placeOf 3 (some .int), Cond.methodLink RX0 60 yX0_isChangeOf, Cond.instanceMethod yX0_isChangeOf, Cond.selects RX0 yX0_isChangeOf yX0_isChangeOf, Cond.code yX0_isChangeOf cX0_isChangeOf 3 (some .boolean), Cond.methodLink RX0 69 yX0_openPlace, Cond.instanceMethod yX0_openPlace]
def wsL_law0_r5 : List Cond := [Cond.selects RX0 yX0_openPlace yX0_openPlace, Cond.code yX0_openPlace cX0_openPlace 4 none, Cond.methodLink RX0 79 yJ7_fill_53178, Cond.static yJ7_fill_53178, Cond.initialized RJ7, Cond.code yJ7_fill_53178 cJ7_fill_53178 4 none, Cond.methodLink RL 68 yX1_put, Cond.instanceMethod yX1_put, Cond.selects RX1 yX1_put yX1_put, Cond.code yX1_put cX1_put 4 (some .int), Cond.constantLong RX1 62 (25), Cond.constantLong RX1 64 (95), Cond.fieldLink RX1 81 "BlockJournalModel" "changes" "I", Cond.methodLink RX1 84 yX1_find, Cond.instanceMethod yX1_find, Cond.selects RX1 yX1_find yX1_find, Cond.code yX1_find cX1_find 3 (some .int), Cond.methodLink RL 69 yX0_drop, Cond.instanceMethod yX0_drop, Cond.selects RX0 yX0_drop yX0_drop, Cond.code yX0_drop cX0_drop 2 (some .int), Cond.methodLink RL 72 yX1_drop, Cond.instanceMethod yX1_drop, Cond.selects RX1 yX1_drop yX1_drop]
def wsL_law0_r6 : List Cond := [Cond.code yX1_drop cX1_drop 2 (some .int), Cond.methodLink RL 73 yL_commit, Cond.static yL_commit, Cond.codeWith yL_commit cL_commit 3 (some .int) [(0, 15, 18, 15)], Cond.methodLink RL 21 yX0_commit, Cond.instanceMethod yX0_commit, Cond.selects RX0 yX0_commit yX0_commit, Cond.code yX0_commit cX0_commit 3 (some .boolean), Cond.fieldLink RX0 85 "BlockJournal" "off" "Z", Cond.methodLink RX0 91 yX0_headWord, Cond.instanceMethod yX0_headWord, Cond.selects RX0 yX0_headWord yX0_headWord, Cond.code yX0_headWord cX0_headWord 4 (some .int), Cond.methodLink RX0 94 yX0_write, Cond.instanceMethod yX0_write, Cond.selects RX0 yX0_write yX0_write, Cond.code yX0_write cX0_write 4 none, Cond.fieldLink RX0 132 "BlockJournal" "writesDone" "J", Cond.methodLink RX0 98 yX0_writeFullHead, Cond.instanceMethod yX0_writeFullHead, Cond.selects RX0 yX0_writeFullHead yX0_writeFullHead, Cond.code yX0_writeFullHead cX0_writeFullHead 3 none, Cond.methodLink RX0 138 yX0_setWord, Cond.instanceMethod yX0_setWord]
def wsL_law0_r7 : List Cond := [Cond.selects RX0 yX0_setWord yX0_setWord, Cond.code yX0_setWord cX0_setWord 4 none, Cond.methodLink RX0 141 yX0_payloadCheck, Cond.instanceMethod yX0_payloadCheck, Cond.selects RX0 yX0_payloadCheck yX0_payloadCheck, Cond.code yX0_payloadCheck cX0_payloadCheck 5 (some .int), Cond.methodLink RX0 102 yX0_writeEmptyHead, Cond.instanceMethod yX0_writeEmptyHead, Cond.selects RX0 yX0_writeEmptyHead yX0_writeEmptyHead, Cond.code yX0_writeEmptyHead cX0_writeEmptyHead 2 none, Cond.methodLink RL 76 yX1_commit, Cond.instanceMethod yX1_commit, Cond.selects RX1 yX1_commit yX1_commit, Cond.code yX1_commit cX1_commit 5 (some .boolean), Cond.fieldLink RX1 35 "BlockJournalModel" "off" "Z", Cond.methodLink RX1 48 yX1_number, Cond.instanceMethod yX1_number, Cond.selects RX1 yX1_number yX1_number, Cond.code yX1_number cX1_number 6 (some .long), Cond.constantLong RX1 42 (256), Cond.methodLink RX1 98 yX1_commits, Cond.instanceMethod yX1_commits, Cond.selects RX1 yX1_commits yX1_commits, Cond.code yX1_commits cX1_commits 7 (some .boolean)]
def wsL_law0_r8 : List Cond := [Cond.methodLink RX1 90 yX1_headed, Cond.instanceMethod yX1_headed, Cond.selects RX1 yX1_headed yX1_headed, Cond.code yX1_headed cX1_headed 7 none, Cond.methodLink RX1 66 yX1_check, Cond.instanceMethod yX1_check, Cond.selects RX1 yX1_check yX1_check, Cond.code yX1_check cX1_check 9 (some .long), Cond.constantLong RX1 44 (4294967295), Cond.constantLong RX1 46 (517762881), Cond.methodLink RX1 87 yX1_ranked, Cond.instanceMethod yX1_ranked, Cond.selects RX1 yX1_ranked yX1_ranked, Cond.code yX1_ranked cX1_ranked 5 (some .int), Cond.methodLink RX1 94 yX1_writes, Cond.instanceMethod yX1_writes, Cond.selects RX1 yX1_writes yX1_writes, Cond.code yX1_writes cX1_writes 3 (some .boolean), Cond.fieldLink RX1 39 "BlockJournalModel" "done" "J", Cond.methodLink RL 77 yL_recover, Cond.static yL_recover, Cond.codeWith yL_recover cL_recover 3 (some .int) [(0, 8, 11, 15)], Cond.methodLink RL 25 yX0_recover, Cond.instanceMethod yX0_recover]
def wsL_law0_r9 : List Cond := [Cond.selects RX0 yX0_recover yX0_recover, Cond.code yX0_recover cX0_recover 3 (some .int), Cond.methodLink RX0 107 yX0_headIsRight, Cond.instanceMethod yX0_headIsRight, Cond.selects RX0 yX0_headIsRight yX0_headIsRight, Cond.code yX0_headIsRight cX0_headIsRight 2 (some .boolean), Cond.methodLink RX0 111 yX0_headCount, Cond.instanceMethod yX0_headCount, Cond.selects RX0 yX0_headCount yX0_headCount, Cond.code yX0_headCount cX0_headCount 1 (some .int), Cond.methodLink RX0 144 yX0_targetsAreRight, Cond.instanceMethod yX0_targetsAreRight, Cond.selects RX0 yX0_targetsAreRight yX0_targetsAreRight, Cond.code yX0_targetsAreRight cX0_targetsAreRight 5 (some .boolean), Cond.methodLink RX0 115 yX0_headTarget, Cond.instanceMethod yX0_headTarget, Cond.selects RX0 yX0_headTarget yX0_headTarget, Cond.code yX0_headTarget cX0_headTarget 3 (some .int), Cond.methodLink RL 79 yX1_recover, Cond.instanceMethod yX1_recover, Cond.selects RX1 yX1_recover yX1_recover, Cond.code yX1_recover cX1_recover 6 (some .int), Cond.methodLink RX1 102 yX1_isRight, Cond.instanceMethod yX1_isRight]
def wsL_law0_r10 : List Cond := [Cond.selects RX1 yX1_isRight yX1_isRight, Cond.code yX1_isRight cX1_isRight 4 (some .boolean), Cond.constantLong RX1 52 (24), Cond.methodLink RX1 58 yX1_target, Cond.instanceMethod yX1_target, Cond.selects RX1 yX1_target yX1_target, Cond.code yX1_target cX1_target 2 (some .int), Cond.methodLink RL 80 yL_lose, Cond.static yL_lose, Cond.codeWith yL_lose cL_lose 3 (some .int) [(0, 5, 8, 13), (0, 5, 11, 15)], Cond.methodLink RL 29 yX0_lose, Cond.instanceMethod yX0_lose, Cond.selects RX0 yX0_lose yX0_lose, Cond.code yX0_lose cX0_lose 2 none, Cond.methodLink RL 83 yX1_lose, Cond.instanceMethod yX1_lose, Cond.selects RX1 yX1_lose yX1_lose, Cond.code yX1_lose cX1_lose 2 none, Cond.methodLink RL 84 yX0_power, Cond.instanceMethod yX0_power, Cond.selects RX0 yX0_power yX0_power, Cond.code yX0_power cX0_power 2 (some .boolean), Cond.methodLink RL 87 yX1_power, Cond.instanceMethod yX1_power]
def wsL_law0_r11 : List Cond := [Cond.selects RX1 yX1_power yX1_power, Cond.code yX1_power cX1_power 2 (some .boolean), Cond.methodLink RL 88 yL_spoil, Cond.static yL_spoil, Cond.codeWith yL_spoil cL_spoil 6 (some .int) [(0, 12, 15, 13)], Cond.methodLink RL 33 yX0_spoil, Cond.instanceMethod yX0_spoil, Cond.selects RX0 yX0_spoil yX0_spoil, Cond.code yX0_spoil cX0_spoil 5 (some .int), Cond.methodLink RX0 120 yX0_isInStore, Cond.static yX0_isInStore, Cond.code yX0_isInStore cX0_isInStore 2 (some .boolean), Cond.methodLink RL 91 yX1_spoil, Cond.instanceMethod yX1_spoil, Cond.selects RX1 yX1_spoil yX1_spoil, Cond.code yX1_spoil cX1_spoil 5 (some .int), Cond.constantLong RX1 106 (63), Cond.methodLink RL 92 yL_at, Cond.static yL_at, Cond.codeWith yL_at cL_at 5 (some .int) [(0, 10, 13, 13)], Cond.methodLink RL 37 yX0_at, Cond.instanceMethod yX0_at, Cond.selects RX0 yX0_at yX0_at, Cond.code yX0_at cX0_at 3 (some .int)]
def wsL_law0_r12 : List Cond := [Cond.methodLink RL 95 yX1_at, Cond.instanceMethod yX1_at, Cond.selects RX1 yX1_at yX1_at, Cond.code yX1_at cX1_at 3 (some .int), Cond.methodLink RL 96 yL_change, Cond.static yL_change, Cond.codeWith yL_change cL_change 4 (some .int) [(0, 9, 12, 44)], Cond.classLink RL 44 "java/util/NoSuchElementException", Cond.methodLink RL 41 yX0_change, Cond.instanceMethod yX0_change, Cond.selects RX0 yX0_change yX0_change, Cond.code yX0_change cX0_change 2 (some .int), Cond.classLink RX0 125 "java/util/NoSuchElementException", Cond.initialized "java/util/NoSuchElementException", Cond.methodLink RL 98 yX1_change, Cond.instanceMethod yX1_change, Cond.selects RX1 yX1_change yX1_change, Cond.code yX1_change cX1_change 2 (some .int), Cond.methodLink RL 99 yL_look, Cond.static yL_look, Cond.codeWith yL_look cL_look 4 (some .int) [(0, 8, 11, 44)], Cond.methodLink RL 46 yX0_look, Cond.instanceMethod yX0_look, Cond.selects RX0 yX0_look yX0_look]
def wsL_law0_r13 : List Cond := [Cond.code yX0_look cX0_look 2 (some .long), Cond.constantLong RX0 130 (4294967295), Cond.methodLink RL 101 yX1_look, Cond.instanceMethod yX1_look, Cond.selects RX1 yX1_look yX1_look, Cond.code yX1_look cX1_look 2 (some .long), Cond.constantLong RX1 108 (6)]
def wsL_law0 : List Cond := (wsL_law0_r1 ++ (wsL_law0_r2 ++ (wsL_law0_r3 ++ (wsL_law0_r4 ++ (wsL_law0_r5 ++ (wsL_law0_r6 ++ (wsL_law0_r7 ++ (wsL_law0_r8 ++ (wsL_law0_r9 ++ (wsL_law0_r10 ++ (wsL_law0_r11 ++ (wsL_law0_r12 ++ wsL_law0_r13)))))))))))) ++ wsX00 ++ wsX10 ++ ([] : List Cond)
def wsL_law : List Cond := wsL_law0 ++ (vx_atS RX0 40 "java/lang/IllegalArgumentException" ["java/lang/RuntimeException", "java/lang/Exception"]).filter goodWord ++ (vx_atS RX0 50 "java/lang/IllegalStateException" ["java/lang/RuntimeException", "java/lang/Exception"]).filter goodWord ++ (bx_atN RX0 129).filter goodWord
set_option maxRecDepth 20000 in
theorem wsL_law_in0 : ∀ w ∈ wsL_law0, w ∈ lw_tbl := fun w h => (goodIn_p wsL_law0 [39, 42, 45, 332, 98, 376, 380, 384, 372, 189, 192, 197, 201, 206, 212, 389, 395, 85, 399, 219, 224, 228, 232, 236, 240, 244, 403, 407, 412, 416, 420, 426, 430, 251, 256, 260, 264, 268, 434, 438, 443, 275, 447, 89, 451, 283, 286, 455, 294, 460, 302, 464, 325, 468] (by decide +kernel) (by decide +kernel) w h).1
theorem wsL_law_x0 : ∀ w ∈ (vx_atS RX0 40 "java/lang/IllegalArgumentException" ["java/lang/RuntimeException", "java/lang/Exception"]).filter goodWord, w ∈ lw_tbl := by decide +kernel
theorem wsL_law_x1 : ∀ w ∈ (vx_atS RX0 50 "java/lang/IllegalStateException" ["java/lang/RuntimeException", "java/lang/Exception"]).filter goodWord, w ∈ lw_tbl := by decide +kernel
theorem wsL_law_x2 : ∀ w ∈ (bx_atN RX0 129).filter goodWord, w ∈ lw_tbl := by decide +kernel
theorem wsL_law_in : ∀ w ∈ wsL_law, w ∈ lw_tbl := fun w h => (List.mem_append.mp h).elim (fun h => (List.mem_append.mp h).elim (fun h => (List.mem_append.mp h).elim (fun h => wsL_law_in0 w h) (fun h => wsL_law_x0 w h)) (fun h => wsL_law_x1 w h)) (fun h => wsL_law_x2 w h)
theorem inlX0 : ∀ w ∈ wsX00, w ∈ wsL_law := fun _ h => List.mem_append_left _ (List.mem_append_left _ (List.mem_append_left _ (List.mem_append_left _ (List.mem_append_left _ (List.mem_append_right _ h)))))
theorem inX0 : ∀ w ∈ wsX00, w ∈ lw_tbl := fun w h => wsL_law_in w (inlX0 w h)
theorem inlX1 : ∀ w ∈ wsX10, w ∈ wsL_law := fun _ h => List.mem_append_left _ (List.mem_append_left _ (List.mem_append_left _ (List.mem_append_left _ (List.mem_append_right _ h))))
theorem inX1 : ∀ w ∈ wsX10, w ∈ lw_tbl := fun w h => wsL_law_in w (inlX1 w h)
theorem inJ0 : ∀ w ∈ wsJ00, w ∈ lw_tbl := by decide +kernel
theorem inJ10 : ∀ w ∈ wsJ100, w ∈ lw_tbl := by decide +kernel
theorem inJ7 : ∀ w ∈ wsJ70, w ∈ lw_tbl := by decide +kernel
set_option maxRecDepth 20000 in
theorem ggX0_init_X0_eightSteps : GoodIn wsX0_init wsX0_eightSteps := goodIn_r _ [15, 16] (by decide +kernel) (by decide +kernel)
set_option maxRecDepth 20000 in
theorem gX0_init_X0_eightSteps : GoodIn wsX0_init (va_wsS RX0 32 yX0_eightSteps wsX0_eightSteps) := goodIn_app (goodIn_of _ (by decide +kernel)) ggX0_init_X0_eightSteps
set_option maxRecDepth 20000 in
theorem ggX0_put_X0_isTarget : GoodIn wsX0_put wsX0_isTarget := goodIn_r _ [16] (by decide +kernel) (by decide +kernel)
set_option maxRecDepth 20000 in
theorem gX0_put_X0_isTarget : GoodIn wsX0_put (va_wsS RX0 51 yX0_isTarget wsX0_isTarget) := goodIn_app (goodIn_of _ (by decide +kernel)) ggX0_put_X0_isTarget
set_option maxRecDepth 20000 in
theorem ggX0_put_X0_placeOf : GoodIn wsX0_put wsX0_placeOf := goodIn_r _ [20, 5, 21, 34, 35, 36, 37, 38, 39, 40, 41, 42, 43, 44] (by decide +kernel) (by decide +kernel)
set_option maxRecDepth 20000 in
theorem gX0_put_X0_placeOf : GoodIn wsX0_put (wsV RX0 57 RX0 yX0_placeOf wsX0_placeOf) := goodIn_app (goodIn_of _ (by decide +kernel)) ggX0_put_X0_placeOf
set_option maxRecDepth 20000 in
theorem ggX0_put_X0_isChangeOf : GoodIn wsX0_put wsX0_isChangeOf := goodIn_r _ [25, 5, 21, 34, 35, 36, 37, 38, 39, 40, 41, 42, 43, 44] (by decide +kernel) (by decide +kernel)
set_option maxRecDepth 20000 in
theorem gX0_put_X0_isChangeOf : GoodIn wsX0_put (wsV RX0 60 RX0 yX0_isChangeOf wsX0_isChangeOf) := goodIn_app (goodIn_of _ (by decide +kernel)) ggX0_put_X0_isChangeOf
set_option maxRecDepth 20000 in
theorem ggX0_put_X0_openPlace : GoodIn wsX0_put wsX0_openPlace := goodIn_r _ [29, 5, 21, 8, 9, 10, 11, 7, 34, 35, 36, 37, 38, 39, 40, 41, 42, 43, 44] (by decide +kernel) (by decide +kernel)
set_option maxRecDepth 20000 in
theorem gX0_put_X0_openPlace : GoodIn wsX0_put (wsV RX0 69 RX0 yX0_openPlace wsX0_openPlace) := goodIn_app (goodIn_of _ (by decide +kernel)) ggX0_put_X0_openPlace
set_option maxRecDepth 20000 in
theorem ggX0_put_J7_fill_53178 : GoodIn wsX0_put wsJ7_fill_53178 := goodIn_r _ [33] (by decide +kernel) (by decide +kernel)
set_option maxRecDepth 20000 in
theorem gX0_put_J7_fill_53178 : GoodIn wsX0_put (va_wsS RX0 79 yJ7_fill_53178 wsJ7_fill_53178) := goodIn_app (goodIn_of _ (by decide +kernel)) ggX0_put_J7_fill_53178
set_option maxRecDepth 20000 in
theorem ggX0_commit_X0_headWord : GoodIn wsX0_commit wsX0_headWord := goodIn_r _ [11, 12, 45, 46, 47, 48, 49, 50, 51, 52, 53, 54, 55] (by decide +kernel) (by decide +kernel)
set_option maxRecDepth 20000 in
theorem gX0_commit_X0_headWord : GoodIn wsX0_commit (wsV RX0 91 RX0 yX0_headWord wsX0_headWord) := goodIn_app (goodIn_of _ (by decide +kernel)) ggX0_commit_X0_headWord
set_option maxRecDepth 20000 in
theorem ggX0_commit_X0_write : GoodIn wsX0_commit wsX0_write := goodIn_r _ [16, 17, 4, 12, 18, 19, 20, 21, 22, 45, 46, 47, 48, 49, 50, 51, 52, 53, 54, 55] (by decide +kernel) (by decide +kernel)
set_option maxRecDepth 20000 in
theorem gX0_commit_X0_write : GoodIn wsX0_commit (wsV RX0 94 RX0 yX0_write wsX0_write) := goodIn_app (goodIn_of _ (by decide +kernel)) ggX0_commit_X0_write
set_option maxRecDepth 20000 in
theorem ggX0_commit_X0_writeFullHead : GoodIn wsX0_commit wsX0_writeFullHead := goodIn_r _ [26, 27, 3, 6, 28, 29, 30, 31, 32, 33, 34, 10, 35, 36, 37, 38, 39, 40, 12, 13, 14, 15, 16, 17, 4, 18, 19, 20, 21, 22, 45, 46, 47, 48, 49, 50, 51, 52, 53, 54, 55] (by decide +kernel) (by decide +kernel)
set_option maxRecDepth 20000 in
theorem gX0_commit_X0_writeFullHead : GoodIn wsX0_commit (wsV RX0 98 RX0 yX0_writeFullHead wsX0_writeFullHead) := goodIn_app (goodIn_of _ (by decide +kernel)) ggX0_commit_X0_writeFullHead
set_option maxRecDepth 20000 in
theorem ggX0_commit_X0_writeEmptyHead : GoodIn wsX0_commit wsX0_writeEmptyHead := goodIn_r _ [44, 27, 28, 29, 30, 31, 32, 33, 34, 10, 35, 13, 14, 15, 16, 17, 4, 12, 18, 19, 20, 21, 22, 45, 46, 47, 48, 49, 50, 51, 52, 53, 54, 55] (by decide +kernel) (by decide +kernel)
set_option maxRecDepth 20000 in
theorem gX0_commit_X0_writeEmptyHead : GoodIn wsX0_commit (wsV RX0 102 RX0 yX0_writeEmptyHead wsX0_writeEmptyHead) := goodIn_app (goodIn_of _ (by decide +kernel)) ggX0_commit_X0_writeEmptyHead
set_option maxRecDepth 20000 in
theorem ggX0_recover_X0_headIsRight : GoodIn wsX0_recover wsX0_headIsRight := goodIn_r _ [9, 10, 11, 12, 8, 13, 4, 14, 15, 16, 17, 18, 19, 20, 21, 22, 23, 24, 25, 26, 27, 28, 29, 30, 31, 32, 33, 57, 58, 59, 60, 61, 62, 63, 64, 65, 66, 67] (by decide +kernel) (by decide +kernel)
set_option maxRecDepth 20000 in
theorem gX0_recover_X0_headIsRight : GoodIn wsX0_recover (wsV RX0 107 RX0 yX0_headIsRight wsX0_headIsRight) := goodIn_app (goodIn_of _ (by decide +kernel)) ggX0_recover_X0_headIsRight
set_option maxRecDepth 20000 in
theorem ggX0_recover_X0_headCount : GoodIn wsX0_recover wsX0_headCount := goodIn_r _ [13, 4, 57, 58, 59, 60, 61, 62, 63, 64, 65, 66, 67] (by decide +kernel) (by decide +kernel)
set_option maxRecDepth 20000 in
theorem gX0_recover_X0_headCount : GoodIn wsX0_recover (wsV RX0 111 RX0 yX0_headCount wsX0_headCount) := goodIn_app (goodIn_of _ (by decide +kernel)) ggX0_recover_X0_headCount
set_option maxRecDepth 20000 in
theorem ggX0_recover_X0_headTarget : GoodIn wsX0_recover wsX0_headTarget := goodIn_r _ [21, 4, 57, 58, 59, 60, 61, 62, 63, 64, 65, 66, 67] (by decide +kernel) (by decide +kernel)
set_option maxRecDepth 20000 in
theorem gX0_recover_X0_headTarget : GoodIn wsX0_recover (wsV RX0 115 RX0 yX0_headTarget wsX0_headTarget) := goodIn_app (goodIn_of _ (by decide +kernel)) ggX0_recover_X0_headTarget
set_option maxRecDepth 20000 in
theorem ggX0_recover_X0_write : GoodIn wsX0_recover wsX0_write := goodIn_r _ [37, 38, 3, 4, 39, 40, 41, 42, 43, 57, 58, 59, 60, 61, 62, 63, 64, 65, 66, 67] (by decide +kernel) (by decide +kernel)
set_option maxRecDepth 20000 in
theorem gX0_recover_X0_write : GoodIn wsX0_recover (wsV RX0 94 RX0 yX0_write wsX0_write) := goodIn_app (goodIn_of _ (by decide +kernel)) ggX0_recover_X0_write
set_option maxRecDepth 20000 in
theorem ggX0_recover_X0_headWord : GoodIn wsX0_recover wsX0_headWord := goodIn_r _ [28, 4, 57, 58, 59, 60, 61, 62, 63, 64, 65, 66, 67] (by decide +kernel) (by decide +kernel)
set_option maxRecDepth 20000 in
theorem gX0_recover_X0_headWord : GoodIn wsX0_recover (wsV RX0 91 RX0 yX0_headWord wsX0_headWord) := goodIn_app (goodIn_of _ (by decide +kernel)) ggX0_recover_X0_headWord
set_option maxRecDepth 20000 in
theorem ggX0_recover_X0_writeEmptyHead : GoodIn wsX0_recover wsX0_writeEmptyHead := goodIn_r _ [47, 48, 49, 50, 51, 52, 53, 54, 55, 8, 56, 34, 35, 36, 37, 38, 3, 4, 39, 40, 41, 42, 43, 57, 58, 59, 60, 61, 62, 63, 64, 65, 66, 67] (by decide +kernel) (by decide +kernel)
set_option maxRecDepth 20000 in
theorem gX0_recover_X0_writeEmptyHead : GoodIn wsX0_recover (wsV RX0 102 RX0 yX0_writeEmptyHead wsX0_writeEmptyHead) := goodIn_app (goodIn_of _ (by decide +kernel)) ggX0_recover_X0_writeEmptyHead
set_option maxRecDepth 20000 in
theorem ggX0_spoil_X0_isInStore : GoodIn wsX0_spoil wsX0_isInStore := goodIn_r _ [7] (by decide +kernel) (by decide +kernel)
set_option maxRecDepth 20000 in
theorem gX0_spoil_X0_isInStore : GoodIn wsX0_spoil (va_wsS RX0 120 yX0_isInStore wsX0_isInStore) := goodIn_app (goodIn_of _ (by decide +kernel)) ggX0_spoil_X0_isInStore
set_option maxRecDepth 20000 in
theorem ggX0_at_X0_isInStore : GoodIn wsX0_at wsX0_isInStore := goodIn_r _ [7] (by decide +kernel) (by decide +kernel)
set_option maxRecDepth 20000 in
theorem gX0_at_X0_isInStore : GoodIn wsX0_at (va_wsS RX0 120 yX0_isInStore wsX0_isInStore) := goodIn_app (goodIn_of _ (by decide +kernel)) ggX0_at_X0_isInStore
set_option maxRecDepth 20000 in
theorem ggX0_look_X0_headWord : GoodIn wsX0_look wsX0_headWord := goodIn_r _ [12, 13, 38, 39, 40, 41, 42, 43, 44, 45, 46, 47, 48] (by decide +kernel) (by decide +kernel)
set_option maxRecDepth 20000 in
theorem gX0_look_X0_headWord : GoodIn wsX0_look (wsV RX0 91 RX0 yX0_headWord wsX0_headWord) := goodIn_app (goodIn_of _ (by decide +kernel)) ggX0_look_X0_headWord
set_option maxRecDepth 20000 in
theorem ggX0_look_X0_headCount : GoodIn wsX0_look wsX0_headCount := goodIn_r _ [17, 13, 38, 39, 40, 41, 42, 43, 44, 45, 46, 47, 48] (by decide +kernel) (by decide +kernel)
set_option maxRecDepth 20000 in
theorem gX0_look_X0_headCount : GoodIn wsX0_look (wsV RX0 111 RX0 yX0_headCount wsX0_headCount) := goodIn_app (goodIn_of _ (by decide +kernel)) ggX0_look_X0_headCount
set_option maxRecDepth 20000 in
theorem ggX0_look_X0_headIsRight : GoodIn wsX0_look wsX0_headIsRight := goodIn_r _ [21, 14, 15, 16, 11, 17, 13, 22, 23, 24, 25, 26, 27, 28, 29, 30, 31, 32, 8, 9, 10, 12, 33, 34, 35, 36, 37, 38, 39, 40, 41, 42, 43, 44, 45, 46, 47, 48] (by decide +kernel) (by decide +kernel)
set_option maxRecDepth 20000 in
theorem gX0_look_X0_headIsRight : GoodIn wsX0_look (wsV RX0 107 RX0 yX0_headIsRight wsX0_headIsRight) := goodIn_app (goodIn_of _ (by decide +kernel)) ggX0_look_X0_headIsRight
set_option maxRecDepth 20000 in
theorem ggX0_writeFullHead_J7_fill_53178 : GoodIn wsX0_writeFullHead wsJ7_fill_53178 := goodIn_r _ [7] (by decide +kernel) (by decide +kernel)
set_option maxRecDepth 20000 in
theorem gX0_writeFullHead_J7_fill_53178 : GoodIn wsX0_writeFullHead (va_wsS RX0 79 yJ7_fill_53178 wsJ7_fill_53178) := goodIn_app (goodIn_of _ (by decide +kernel)) ggX0_writeFullHead_J7_fill_53178
set_option maxRecDepth 20000 in
theorem ggX0_writeFullHead_X0_setWord : GoodIn wsX0_writeFullHead wsX0_setWord := goodIn_r _ [12, 1, 30, 31, 32, 33, 34, 35, 36, 37, 38, 39, 40] (by decide +kernel) (by decide +kernel)
set_option maxRecDepth 20000 in
theorem gX0_writeFullHead_X0_setWord : GoodIn wsX0_writeFullHead (wsV RX0 138 RX0 yX0_setWord wsX0_setWord) := goodIn_app (goodIn_of _ (by decide +kernel)) ggX0_writeFullHead_X0_setWord
set_option maxRecDepth 20000 in
theorem ggX0_writeFullHead_X0_payloadCheck : GoodIn wsX0_writeFullHead wsX0_payloadCheck := goodIn_r _ [16, 17, 18, 30, 31, 32, 33, 34, 35, 36, 37, 38, 39, 40] (by decide +kernel) (by decide +kernel)
set_option maxRecDepth 20000 in
theorem gX0_writeFullHead_X0_payloadCheck : GoodIn wsX0_writeFullHead (wsV RX0 141 RX0 yX0_payloadCheck wsX0_payloadCheck) := goodIn_app (goodIn_of _ (by decide +kernel)) ggX0_writeFullHead_X0_payloadCheck
set_option maxRecDepth 20000 in
theorem ggX0_writeFullHead_X0_write : GoodIn wsX0_writeFullHead wsX0_write := goodIn_r _ [22, 23, 24, 18, 25, 26, 27, 28, 29, 30, 31, 32, 33, 34, 35, 36, 37, 38, 39, 40] (by decide +kernel) (by decide +kernel)
set_option maxRecDepth 20000 in
theorem gX0_writeFullHead_X0_write : GoodIn wsX0_writeFullHead (wsV RX0 94 RX0 yX0_write wsX0_write) := goodIn_app (goodIn_of _ (by decide +kernel)) ggX0_writeFullHead_X0_write
set_option maxRecDepth 20000 in
theorem ggX0_writeEmptyHead_J7_fill_53178 : GoodIn wsX0_writeEmptyHead wsJ7_fill_53178 := goodIn_r _ [5] (by decide +kernel) (by decide +kernel)
set_option maxRecDepth 20000 in
theorem gX0_writeEmptyHead_J7_fill_53178 : GoodIn wsX0_writeEmptyHead (va_wsS RX0 79 yJ7_fill_53178 wsJ7_fill_53178) := goodIn_app (goodIn_of _ (by decide +kernel)) ggX0_writeEmptyHead_J7_fill_53178
set_option maxRecDepth 20000 in
theorem ggX0_writeEmptyHead_X0_setWord : GoodIn wsX0_writeEmptyHead wsX0_setWord := goodIn_r _ [10, 1, 23, 24, 25, 26, 27, 28, 29, 30, 31, 32, 33] (by decide +kernel) (by decide +kernel)
set_option maxRecDepth 20000 in
theorem gX0_writeEmptyHead_X0_setWord : GoodIn wsX0_writeEmptyHead (wsV RX0 138 RX0 yX0_setWord wsX0_setWord) := goodIn_app (goodIn_of _ (by decide +kernel)) ggX0_writeEmptyHead_X0_setWord
set_option maxRecDepth 20000 in
theorem ggX0_writeEmptyHead_X0_write : GoodIn wsX0_writeEmptyHead wsX0_write := goodIn_r _ [14, 15, 16, 17, 18, 19, 20, 21, 22, 23, 24, 25, 26, 27, 28, 29, 30, 31, 32, 33] (by decide +kernel) (by decide +kernel)
set_option maxRecDepth 20000 in
theorem gX0_writeEmptyHead_X0_write : GoodIn wsX0_writeEmptyHead (wsV RX0 94 RX0 yX0_write wsX0_write) := goodIn_app (goodIn_of _ (by decide +kernel)) ggX0_writeEmptyHead_X0_write
set_option maxRecDepth 20000 in
theorem ggX0_headIsRight_X0_headCount : GoodIn wsX0_headIsRight wsX0_headCount := goodIn_r _ [5, 6, 27, 28, 29, 30, 31, 32, 33, 34, 35, 36, 37] (by decide +kernel) (by decide +kernel)
set_option maxRecDepth 20000 in
theorem gX0_headIsRight_X0_headCount : GoodIn wsX0_headIsRight (wsV RX0 111 RX0 yX0_headCount wsX0_headCount) := goodIn_app (goodIn_of _ (by decide +kernel)) ggX0_headIsRight_X0_headCount
set_option maxRecDepth 20000 in
theorem ggX0_headIsRight_X0_targetsAreRight : GoodIn wsX0_headIsRight wsX0_targetsAreRight := goodIn_r _ [10, 11, 12, 13, 4, 14, 6, 15, 16, 17, 27, 28, 29, 30, 31, 32, 33, 34, 35, 36, 37] (by decide +kernel) (by decide +kernel)
set_option maxRecDepth 20000 in
theorem gX0_headIsRight_X0_targetsAreRight : GoodIn wsX0_headIsRight (wsV RX0 144 RX0 yX0_targetsAreRight wsX0_targetsAreRight) := goodIn_app (goodIn_of _ (by decide +kernel)) ggX0_headIsRight_X0_targetsAreRight
set_option maxRecDepth 20000 in
theorem ggX0_headIsRight_X0_headWord : GoodIn wsX0_headIsRight wsX0_headWord := goodIn_r _ [21, 6, 27, 28, 29, 30, 31, 32, 33, 34, 35, 36, 37] (by decide +kernel) (by decide +kernel)
set_option maxRecDepth 20000 in
theorem gX0_headIsRight_X0_headWord : GoodIn wsX0_headIsRight (wsV RX0 91 RX0 yX0_headWord wsX0_headWord) := goodIn_app (goodIn_of _ (by decide +kernel)) ggX0_headIsRight_X0_headWord
set_option maxRecDepth 20000 in
theorem ggX0_headIsRight_X0_payloadCheck : GoodIn wsX0_headIsRight wsX0_payloadCheck := goodIn_r _ [25, 26, 6, 27, 28, 29, 30, 31, 32, 33, 34, 35, 36, 37] (by decide +kernel) (by decide +kernel)
set_option maxRecDepth 20000 in
theorem gX0_headIsRight_X0_payloadCheck : GoodIn wsX0_headIsRight (wsV RX0 141 RX0 yX0_payloadCheck wsX0_payloadCheck) := goodIn_app (goodIn_of _ (by decide +kernel)) ggX0_headIsRight_X0_payloadCheck
set_option maxRecDepth 20000 in
theorem ggX0_targetsAreRight_X0_headTarget : GoodIn wsX0_targetsAreRight wsX0_headTarget := goodIn_r _ [5, 6, 10, 11, 12, 13, 14, 15, 16, 17, 18, 19, 20] (by decide +kernel) (by decide +kernel)
set_option maxRecDepth 20000 in
theorem gX0_targetsAreRight_X0_headTarget : GoodIn wsX0_targetsAreRight (wsV RX0 115 RX0 yX0_headTarget wsX0_headTarget) := goodIn_app (goodIn_of _ (by decide +kernel)) ggX0_targetsAreRight_X0_headTarget
set_option maxRecDepth 20000 in
theorem ggX0_targetsAreRight_X0_isTarget : GoodIn wsX0_targetsAreRight wsX0_isTarget := goodIn_r _ [9] (by decide +kernel) (by decide +kernel)
set_option maxRecDepth 20000 in
theorem gX0_targetsAreRight_X0_isTarget : GoodIn wsX0_targetsAreRight (va_wsS RX0 51 yX0_isTarget wsX0_isTarget) := goodIn_app (goodIn_of _ (by decide +kernel)) ggX0_targetsAreRight_X0_isTarget
set_option maxRecDepth 20000 in
theorem ggX1_target_X1_number : GoodIn wsX1_target wsX1_number := goodIn_r _ [5, 6, 7, 8, 9, 10, 11, 12, 13, 14, 15, 16, 17, 18] (by decide +kernel) (by decide +kernel)
set_option maxRecDepth 20000 in
theorem gX1_target_X1_number : GoodIn wsX1_target (wsV RX1 48 RX1 yX1_number wsX1_number) := goodIn_app (goodIn_of _ (by decide +kernel)) ggX1_target_X1_number
set_option maxRecDepth 20000 in
theorem ggX1_isRight_X1_within : GoodIn wsX1_isRight wsX1_within := goodIn_r _ [8] (by decide +kernel) (by decide +kernel)
set_option maxRecDepth 20000 in
theorem gX1_isRight_X1_within : GoodIn wsX1_isRight (va_wsS RX1 54 yX1_within wsX1_within) := goodIn_app (goodIn_of _ (by decide +kernel)) ggX1_isRight_X1_within
set_option maxRecDepth 20000 in
theorem ggX1_isRight_X1_target : GoodIn wsX1_isRight wsX1_target := goodIn_r _ [12, 13, 14, 15, 7, 16, 17, 1, 24, 25, 26, 27, 28, 29, 30, 31, 32, 33, 34] (by decide +kernel) (by decide +kernel)
set_option maxRecDepth 20000 in
theorem gX1_isRight_X1_target : GoodIn wsX1_isRight (wsV RX1 58 RX1 yX1_target wsX1_target) := goodIn_app (goodIn_of _ (by decide +kernel)) ggX1_isRight_X1_target
set_option maxRecDepth 20000 in
theorem ggX1_isRight_X1_number : GoodIn wsX1_isRight wsX1_number := goodIn_r _ [16, 17, 1, 24, 25, 26, 27, 28, 29, 30, 31, 32, 33, 34] (by decide +kernel) (by decide +kernel)
set_option maxRecDepth 20000 in
theorem gX1_isRight_X1_number : GoodIn wsX1_isRight (wsV RX1 48 RX1 yX1_number wsX1_number) := goodIn_app (goodIn_of _ (by decide +kernel)) ggX1_isRight_X1_number
set_option maxRecDepth 20000 in
theorem ggX1_isRight_X1_check : GoodIn wsX1_isRight wsX1_check := goodIn_r _ [21, 22, 1, 23, 24, 25, 26, 27, 28, 29, 30, 31, 32, 33, 34] (by decide +kernel) (by decide +kernel)
set_option maxRecDepth 20000 in
theorem gX1_isRight_X1_check : GoodIn wsX1_isRight (wsV RX1 66 RX1 yX1_check wsX1_check) := goodIn_app (goodIn_of _ (by decide +kernel)) ggX1_isRight_X1_check
set_option maxRecDepth 20000 in
theorem ggX1_feed_X1_within : GoodIn wsX1_feed wsX1_within := goodIn_r _ [8] (by decide +kernel) (by decide +kernel)
set_option maxRecDepth 20000 in
theorem gX1_feed_X1_within : GoodIn wsX1_feed (va_wsS RX1 54 yX1_within wsX1_within) := goodIn_app (goodIn_of _ (by decide +kernel)) ggX1_feed_X1_within
set_option maxRecDepth 20000 in
theorem ggX1_feed_X1_fails : GoodIn wsX1_feed wsX1_fails := goodIn_r _ [12, 13, 14, 15, 16, 17, 18, 19, 20, 21, 22, 23, 24] (by decide +kernel) (by decide +kernel)
set_option maxRecDepth 20000 in
theorem gX1_feed_X1_fails : GoodIn wsX1_feed (wsV RX1 72 RX1 yX1_fails wsX1_fails) := goodIn_app (goodIn_of _ (by decide +kernel)) ggX1_feed_X1_fails
set_option maxRecDepth 20000 in
theorem ggX1_put_X1_within : GoodIn wsX1_put wsX1_within := goodIn_r _ [11] (by decide +kernel) (by decide +kernel)
set_option maxRecDepth 20000 in
theorem gX1_put_X1_within : GoodIn wsX1_put (va_wsS RX1 54 yX1_within wsX1_within) := goodIn_app (goodIn_of _ (by decide +kernel)) ggX1_put_X1_within
set_option maxRecDepth 20000 in
theorem ggX1_put_X1_fails : GoodIn wsX1_put wsX1_fails := goodIn_r _ [15, 16, 21, 22, 23, 24, 25, 26, 27, 28, 29, 30, 31] (by decide +kernel) (by decide +kernel)
set_option maxRecDepth 20000 in
theorem gX1_put_X1_fails : GoodIn wsX1_put (wsV RX1 72 RX1 yX1_fails wsX1_fails) := goodIn_app (goodIn_of _ (by decide +kernel)) ggX1_put_X1_fails
set_option maxRecDepth 20000 in
theorem ggX1_put_X1_find : GoodIn wsX1_put wsX1_find := goodIn_r _ [20, 3, 4, 21, 22, 23, 24, 25, 26, 27, 28, 29, 30, 31] (by decide +kernel) (by decide +kernel)
set_option maxRecDepth 20000 in
theorem gX1_put_X1_find : GoodIn wsX1_put (wsV RX1 84 RX1 yX1_find wsX1_find) := goodIn_app (goodIn_of _ (by decide +kernel)) ggX1_put_X1_find
set_option maxRecDepth 20000 in
theorem ggX1_headed_X1_check : GoodIn wsX1_headed wsX1_check := goodIn_r _ [8, 9, 10, 11, 17, 18, 19, 20, 21, 22, 23, 24, 25, 26, 27] (by decide +kernel) (by decide +kernel)
set_option maxRecDepth 20000 in
theorem gX1_headed_X1_check : GoodIn wsX1_headed (wsV RX1 66 RX1 yX1_check wsX1_check) := goodIn_app (goodIn_of _ (by decide +kernel)) ggX1_headed_X1_check
set_option maxRecDepth 20000 in
theorem ggX1_headed_X1_ranked : GoodIn wsX1_headed wsX1_ranked := goodIn_r _ [15, 16, 3, 17, 18, 19, 20, 21, 22, 23, 24, 25, 26, 27] (by decide +kernel) (by decide +kernel)
set_option maxRecDepth 20000 in
theorem gX1_headed_X1_ranked : GoodIn wsX1_headed (wsV RX1 87 RX1 yX1_ranked wsX1_ranked) := goodIn_app (goodIn_of _ (by decide +kernel)) ggX1_headed_X1_ranked
set_option maxRecDepth 20000 in
theorem ggX1_commits_X1_headed : GoodIn wsX1_commits wsX1_headed := goodIn_r _ [8, 1, 9, 3, 10, 11, 12, 7, 13, 14, 15, 16, 17, 18, 19, 20, 21, 29, 30, 31, 32, 33, 34, 35, 36, 37, 38, 39] (by decide +kernel) (by decide +kernel)
set_option maxRecDepth 20000 in
theorem gX1_commits_X1_headed : GoodIn wsX1_commits (wsV RX1 90 RX1 yX1_headed wsX1_headed) := goodIn_app (goodIn_of _ (by decide +kernel)) ggX1_commits_X1_headed
set_option maxRecDepth 20000 in
theorem ggX1_commits_X1_writes : GoodIn wsX1_commits wsX1_writes := goodIn_r _ [25, 26, 27, 28, 15, 1, 29, 30, 31, 32, 33, 34, 35, 36, 37, 38, 39] (by decide +kernel) (by decide +kernel)
set_option maxRecDepth 20000 in
theorem gX1_commits_X1_writes : GoodIn wsX1_commits (wsV RX1 94 RX1 yX1_writes wsX1_writes) := goodIn_app (goodIn_of _ (by decide +kernel)) ggX1_commits_X1_writes
set_option maxRecDepth 20000 in
theorem ggX1_commits_X1_ranked : GoodIn wsX1_commits wsX1_ranked := goodIn_r _ [20, 21, 3, 29, 30, 31, 32, 33, 34, 35, 36, 37, 38, 39] (by decide +kernel) (by decide +kernel)
set_option maxRecDepth 20000 in
theorem gX1_commits_X1_ranked : GoodIn wsX1_commits (wsV RX1 87 RX1 yX1_ranked wsX1_ranked) := goodIn_app (goodIn_of _ (by decide +kernel)) ggX1_commits_X1_ranked
set_option maxRecDepth 20000 in
theorem ggX1_commit_X1_fails : GoodIn wsX1_commit wsX1_fails := goodIn_r _ [7, 8, 43, 44, 45, 46, 47, 48, 49, 50, 51, 52, 53] (by decide +kernel) (by decide +kernel)
set_option maxRecDepth 20000 in
theorem gX1_commit_X1_fails : GoodIn wsX1_commit (wsV RX1 72 RX1 yX1_fails wsX1_fails) := goodIn_app (goodIn_of _ (by decide +kernel)) ggX1_commit_X1_fails
set_option maxRecDepth 20000 in
theorem ggX1_commit_X1_number : GoodIn wsX1_commit wsX1_number := goodIn_r _ [12, 13, 14, 43, 44, 45, 46, 47, 48, 49, 50, 51, 52, 53] (by decide +kernel) (by decide +kernel)
set_option maxRecDepth 20000 in
theorem gX1_commit_X1_number : GoodIn wsX1_commit (wsV RX1 48 RX1 yX1_number wsX1_number) := goodIn_app (goodIn_of _ (by decide +kernel)) ggX1_commit_X1_number
set_option maxRecDepth 20000 in
theorem ggX1_commit_X1_commits : GoodIn wsX1_commit wsX1_commits := goodIn_r _ [18, 19, 20, 21, 22, 23, 24, 6, 25, 26, 27, 28, 29, 30, 31, 14, 32, 33, 34, 35, 36, 1, 37, 38, 39, 40, 2, 41, 42, 43, 44, 45, 46, 47, 48, 49, 50, 51, 52, 53] (by decide +kernel) (by decide +kernel)
set_option maxRecDepth 20000 in
theorem gX1_commit_X1_commits : GoodIn wsX1_commit (wsV RX1 98 RX1 yX1_commits wsX1_commits) := goodIn_app (goodIn_of _ (by decide +kernel)) ggX1_commit_X1_commits
set_option maxRecDepth 20000 in
theorem ggX1_recover_X1_fails : GoodIn wsX1_recover wsX1_fails := goodIn_r _ [8, 9, 52, 53, 54, 55, 56, 57, 58, 59, 60, 61, 62] (by decide +kernel) (by decide +kernel)
set_option maxRecDepth 20000 in
theorem gX1_recover_X1_fails : GoodIn wsX1_recover (wsV RX1 72 RX1 yX1_fails wsX1_fails) := goodIn_app (goodIn_of _ (by decide +kernel)) ggX1_recover_X1_fails
set_option maxRecDepth 20000 in
theorem ggX1_recover_X1_isRight : GoodIn wsX1_recover wsX1_isRight := goodIn_r _ [13, 2, 14, 15, 16, 17, 18, 7, 19, 20, 21, 22, 23, 24, 25, 26, 27, 28, 29, 30, 31, 32, 33, 34, 52, 53, 54, 55, 56, 57, 58, 59, 60, 61, 62] (by decide +kernel) (by decide +kernel)
set_option maxRecDepth 20000 in
theorem gX1_recover_X1_isRight : GoodIn wsX1_recover (wsV RX1 102 RX1 yX1_isRight wsX1_isRight) := goodIn_app (goodIn_of _ (by decide +kernel)) ggX1_recover_X1_isRight
set_option maxRecDepth 20000 in
theorem ggX1_recover_X1_number : GoodIn wsX1_recover wsX1_number := goodIn_r _ [27, 28, 2, 52, 53, 54, 55, 56, 57, 58, 59, 60, 61, 62] (by decide +kernel) (by decide +kernel)
set_option maxRecDepth 20000 in
theorem gX1_recover_X1_number : GoodIn wsX1_recover (wsV RX1 48 RX1 yX1_number wsX1_number) := goodIn_app (goodIn_of _ (by decide +kernel)) ggX1_recover_X1_number
set_option maxRecDepth 20000 in
theorem ggX1_recover_X1_target : GoodIn wsX1_recover wsX1_target := goodIn_r _ [23, 24, 25, 26, 7, 27, 28, 2, 52, 53, 54, 55, 56, 57, 58, 59, 60, 61, 62] (by decide +kernel) (by decide +kernel)
set_option maxRecDepth 20000 in
theorem gX1_recover_X1_target : GoodIn wsX1_recover (wsV RX1 58 RX1 yX1_target wsX1_target) := goodIn_app (goodIn_of _ (by decide +kernel)) ggX1_recover_X1_target
set_option maxRecDepth 20000 in
theorem ggX1_recover_X1_writes : GoodIn wsX1_recover wsX1_writes := goodIn_r _ [38, 1, 39, 40, 2, 3, 52, 53, 54, 55, 56, 57, 58, 59, 60, 61, 62] (by decide +kernel) (by decide +kernel)
set_option maxRecDepth 20000 in
theorem gX1_recover_X1_writes : GoodIn wsX1_recover (wsV RX1 94 RX1 yX1_writes wsX1_writes) := goodIn_app (goodIn_of _ (by decide +kernel)) ggX1_recover_X1_writes
set_option maxRecDepth 20000 in
theorem ggX1_recover_X1_headed : GoodIn wsX1_recover wsX1_headed := goodIn_r _ [44, 3, 45, 46, 29, 30, 31, 7, 32, 33, 2, 34, 47, 48, 49, 50, 51, 52, 53, 54, 55, 56, 57, 58, 59, 60, 61, 62] (by decide +kernel) (by decide +kernel)
set_option maxRecDepth 20000 in
theorem gX1_recover_X1_headed : GoodIn wsX1_recover (wsV RX1 90 RX1 yX1_headed wsX1_headed) := goodIn_app (goodIn_of _ (by decide +kernel)) ggX1_recover_X1_headed
set_option maxRecDepth 20000 in
theorem ggX1_lose_X1_fails : GoodIn wsX1_lose wsX1_fails := goodIn_r _ [7, 8, 9, 10, 11, 12, 13, 14, 15, 16, 17, 18, 19] (by decide +kernel) (by decide +kernel)
set_option maxRecDepth 20000 in
theorem gX1_lose_X1_fails : GoodIn wsX1_lose (wsV RX1 72 RX1 yX1_fails wsX1_fails) := goodIn_app (goodIn_of _ (by decide +kernel)) ggX1_lose_X1_fails
set_option maxRecDepth 20000 in
theorem ggX1_spoil_X1_within : GoodIn wsX1_spoil wsX1_within := goodIn_r _ [7] (by decide +kernel) (by decide +kernel)
set_option maxRecDepth 20000 in
theorem gX1_spoil_X1_within : GoodIn wsX1_spoil (va_wsS RX1 54 yX1_within wsX1_within) := goodIn_app (goodIn_of _ (by decide +kernel)) ggX1_spoil_X1_within
set_option maxRecDepth 20000 in
theorem ggX1_spoil_X1_fails : GoodIn wsX1_spoil wsX1_fails := goodIn_r _ [11, 12, 13, 14, 15, 16, 17, 18, 19, 20, 21, 22, 23] (by decide +kernel) (by decide +kernel)
set_option maxRecDepth 20000 in
theorem gX1_spoil_X1_fails : GoodIn wsX1_spoil (wsV RX1 72 RX1 yX1_fails wsX1_fails) := goodIn_app (goodIn_of _ (by decide +kernel)) ggX1_spoil_X1_fails
set_option maxRecDepth 20000 in
theorem ggX1_at_X1_within : GoodIn wsX1_at wsX1_within := goodIn_r _ [7] (by decide +kernel) (by decide +kernel)
set_option maxRecDepth 20000 in
theorem gX1_at_X1_within : GoodIn wsX1_at (va_wsS RX1 54 yX1_within wsX1_within) := goodIn_app (goodIn_of _ (by decide +kernel)) ggX1_at_X1_within
set_option maxRecDepth 20000 in
theorem ggX1_at_X1_fails : GoodIn wsX1_at wsX1_fails := goodIn_r _ [11, 12, 13, 14, 15, 16, 17, 18, 19, 20, 21, 22, 23] (by decide +kernel) (by decide +kernel)
set_option maxRecDepth 20000 in
theorem gX1_at_X1_fails : GoodIn wsX1_at (wsV RX1 72 RX1 yX1_fails wsX1_fails) := goodIn_app (goodIn_of _ (by decide +kernel)) ggX1_at_X1_fails
set_option maxRecDepth 20000 in
theorem ggX1_change_X1_within : GoodIn wsX1_change wsX1_within := goodIn_r _ [6] (by decide +kernel) (by decide +kernel)
set_option maxRecDepth 20000 in
theorem gX1_change_X1_within : GoodIn wsX1_change (va_wsS RX1 54 yX1_within wsX1_within) := goodIn_app (goodIn_of _ (by decide +kernel)) ggX1_change_X1_within
set_option maxRecDepth 20000 in
theorem ggX1_change_X1_fails : GoodIn wsX1_change wsX1_fails := goodIn_r _ [10, 11, 16, 17, 18, 19, 20, 21, 22, 23, 24, 25, 26] (by decide +kernel) (by decide +kernel)
set_option maxRecDepth 20000 in
theorem gX1_change_X1_fails : GoodIn wsX1_change (wsV RX1 72 RX1 yX1_fails wsX1_fails) := goodIn_app (goodIn_of _ (by decide +kernel)) ggX1_change_X1_fails
set_option maxRecDepth 20000 in
theorem ggX1_change_X1_ranked : GoodIn wsX1_change wsX1_ranked := goodIn_r _ [15, 1, 2, 16, 17, 18, 19, 20, 21, 22, 23, 24, 25, 26] (by decide +kernel) (by decide +kernel)
set_option maxRecDepth 20000 in
theorem gX1_change_X1_ranked : GoodIn wsX1_change (wsV RX1 87 RX1 yX1_ranked wsX1_ranked) := goodIn_app (goodIn_of _ (by decide +kernel)) ggX1_change_X1_ranked
set_option maxRecDepth 20000 in
theorem ggX1_look_X1_within : GoodIn wsX1_look wsX1_within := goodIn_r _ [10] (by decide +kernel) (by decide +kernel)
set_option maxRecDepth 20000 in
theorem gX1_look_X1_within : GoodIn wsX1_look (va_wsS RX1 54 yX1_within wsX1_within) := goodIn_app (goodIn_of _ (by decide +kernel)) ggX1_look_X1_within
set_option maxRecDepth 20000 in
theorem ggX1_look_X1_fails : GoodIn wsX1_look wsX1_fails := goodIn_r _ [14, 15, 38, 39, 40, 41, 42, 43, 44, 45, 46, 47, 48] (by decide +kernel) (by decide +kernel)
set_option maxRecDepth 20000 in
theorem gX1_look_X1_fails : GoodIn wsX1_look (wsV RX1 72 RX1 yX1_fails wsX1_fails) := goodIn_app (goodIn_of _ (by decide +kernel)) ggX1_look_X1_fails
set_option maxRecDepth 20000 in
theorem ggX1_look_X1_number : GoodIn wsX1_look wsX1_number := goodIn_r _ [19, 20, 2, 38, 39, 40, 41, 42, 43, 44, 45, 46, 47, 48] (by decide +kernel) (by decide +kernel)
set_option maxRecDepth 20000 in
theorem gX1_look_X1_number : GoodIn wsX1_look (wsV RX1 48 RX1 yX1_number wsX1_number) := goodIn_app (goodIn_of _ (by decide +kernel)) ggX1_look_X1_number
set_option maxRecDepth 20000 in
theorem ggX1_look_X1_isRight : GoodIn wsX1_look wsX1_isRight := goodIn_r _ [24, 2, 25, 26, 27, 7, 8, 9, 10, 28, 29, 30, 31, 16, 17, 18, 19, 20, 32, 33, 34, 35, 36, 37, 38, 39, 40, 41, 42, 43, 44, 45, 46, 47, 48] (by decide +kernel) (by decide +kernel)
set_option maxRecDepth 20000 in
theorem gX1_look_X1_isRight : GoodIn wsX1_look (wsV RX1 102 RX1 yX1_isRight wsX1_isRight) := goodIn_app (goodIn_of _ (by decide +kernel)) ggX1_look_X1_isRight
set_option maxRecDepth 20000 in
theorem ggL_feed_X0_feed : GoodIn wsL_feed wsX0_feed := goodIn_ca (goodIn_ca (goodIn_r _ [7, 8, 9, 10, 11, 12, 13, 14, 15, 16, 17, 18, 19, 20, 21, 22, 23, 24] (by decide +kernel) (by decide +kernel)) (goodIn_sub (fun _ h => List.mem_cons_of_mem _ (List.mem_append_left _ (List.mem_append_right _ h))) (by decide +kernel))) (goodIn_sub (fun _ h => List.mem_cons_of_mem _ (List.mem_append_right _ h)) (by decide +kernel))
set_option maxRecDepth 20000 in
theorem gL_feed_X0_feed : GoodIn wsL_feed (wsV RL 7 RX0 yX0_feed wsX0_feed) := goodIn_app (goodIn_of _ (by decide +kernel)) ggL_feed_X0_feed
set_option maxRecDepth 20000 in
theorem ggL_put_X0_put : GoodIn wsL_put wsX0_put := goodIn_ca (goodIn_ca (goodIn_r _ [7, 8, 9, 10, 11, 12, 13, 14, 15, 16, 17, 18, 19, 20, 21, 6, 22, 23, 24, 25, 26, 27, 28, 29, 30, 31, 32, 33, 34, 35, 36, 37, 38, 39, 40, 41, 42, 43, 44, 45, 46, 47, 48, 49, 50] (by decide +kernel) (by decide +kernel)) (goodIn_sub (fun _ h => List.mem_cons_of_mem _ (List.mem_append_left _ (List.mem_append_right _ h))) (by decide +kernel))) (goodIn_sub (fun _ h => List.mem_cons_of_mem _ (List.mem_append_right _ h)) (by decide +kernel))
set_option maxRecDepth 20000 in
theorem gL_put_X0_put : GoodIn wsL_put (wsV RL 17 RX0 yX0_put wsX0_put) := goodIn_app (goodIn_of _ (by decide +kernel)) ggL_put_X0_put
set_option maxRecDepth 20000 in
theorem ggL_commit_X0_commit : GoodIn wsL_commit wsX0_commit := goodIn_ca (goodIn_r _ [6, 7, 8, 9, 10, 11, 12, 13, 14, 15, 5, 16, 17, 18, 19, 20, 21, 22, 23, 24, 25, 26, 27, 28, 29, 30, 31, 32, 33, 34, 35, 36, 37, 38, 39, 40, 41, 42, 43, 44, 45, 46, 47, 48, 49, 50, 51, 52, 53, 54, 55, 56, 57, 58, 59, 60] (by decide +kernel) (by decide +kernel)) (goodIn_sub (fun _ h => List.mem_cons_of_mem _ (List.mem_append_right _ h)) (by decide +kernel))
set_option maxRecDepth 20000 in
theorem gL_commit_X0_commit : GoodIn wsL_commit (wsV RL 21 RX0 yX0_commit wsX0_commit) := goodIn_app (goodIn_of _ (by decide +kernel)) ggL_commit_X0_commit
set_option maxRecDepth 20000 in
theorem ggL_recover_X0_recover : GoodIn wsL_recover wsX0_recover := goodIn_ca (goodIn_r _ [6, 7, 8, 9, 10, 11, 12, 13, 5, 14, 15, 16, 17, 18, 19, 20, 21, 22, 23, 24, 25, 26, 27, 28, 29, 30, 31, 32, 33, 34, 35, 36, 37, 38, 39, 40, 41, 42, 43, 44, 45, 46, 47, 48, 49, 50, 51, 52, 53, 54, 55, 56, 57, 58, 59, 60, 61, 62, 63, 64, 65, 66, 67, 68, 69, 70, 71, 72] (by decide +kernel) (by decide +kernel)) (goodIn_sub (fun _ h => List.mem_cons_of_mem _ (List.mem_append_right _ h)) (by decide +kernel))
set_option maxRecDepth 20000 in
theorem gL_recover_X0_recover : GoodIn wsL_recover (wsV RL 25 RX0 yX0_recover wsX0_recover) := goodIn_app (goodIn_of _ (by decide +kernel)) ggL_recover_X0_recover
set_option maxRecDepth 20000 in
theorem ggL_lose_X0_lose : GoodIn wsL_lose wsX0_lose := goodIn_ca (goodIn_ca (goodIn_r _ [7, 8, 9, 10, 11, 12, 13, 14, 15, 16, 17, 18, 19, 20, 21, 22, 23, 24] (by decide +kernel) (by decide +kernel)) (goodIn_sub (fun _ h => List.mem_cons_of_mem _ (List.mem_append_left _ (List.mem_append_right _ h))) (by decide +kernel))) (goodIn_sub (fun _ h => List.mem_cons_of_mem _ (List.mem_append_right _ h)) (by decide +kernel))
set_option maxRecDepth 20000 in
theorem gL_lose_X0_lose : GoodIn wsL_lose (wsV RL 29 RX0 yX0_lose wsX0_lose) := goodIn_app (goodIn_of _ (by decide +kernel)) ggL_lose_X0_lose
set_option maxRecDepth 20000 in
theorem ggL_spoil_X0_spoil : GoodIn wsL_spoil wsX0_spoil := goodIn_ca (goodIn_r _ [6, 7, 8, 9, 10, 11, 5, 12, 13, 14, 15, 16, 17, 18, 19, 20, 21, 22, 23] (by decide +kernel) (by decide +kernel)) (goodIn_sub (fun _ h => List.mem_cons_of_mem _ (List.mem_append_right _ h)) (by decide +kernel))
set_option maxRecDepth 20000 in
theorem gL_spoil_X0_spoil : GoodIn wsL_spoil (wsV RL 33 RX0 yX0_spoil wsX0_spoil) := goodIn_app (goodIn_of _ (by decide +kernel)) ggL_spoil_X0_spoil
set_option maxRecDepth 20000 in
theorem ggL_at_X0_at : GoodIn wsL_at wsX0_at := goodIn_ca (goodIn_r _ [6, 7, 8, 9, 10, 11, 5, 12, 13, 14, 15, 16, 17, 18, 19, 20, 21, 22, 23] (by decide +kernel) (by decide +kernel)) (goodIn_sub (fun _ h => List.mem_cons_of_mem _ (List.mem_append_right _ h)) (by decide +kernel))
set_option maxRecDepth 20000 in
theorem gL_at_X0_at : GoodIn wsL_at (wsV RL 37 RX0 yX0_at wsX0_at) := goodIn_app (goodIn_of _ (by decide +kernel)) ggL_at_X0_at
set_option maxRecDepth 20000 in
theorem ggL_change_X0_change : GoodIn wsL_change wsX0_change := goodIn_ca (goodIn_r _ [6, 7, 8, 9, 10, 11, 12, 13, 14, 15, 16, 17, 18, 19, 20, 21] (by decide +kernel) (by decide +kernel)) (goodIn_sub (fun _ h => List.mem_cons_of_mem _ (List.mem_append_right _ h)) (by decide +kernel))
set_option maxRecDepth 20000 in
theorem gL_change_X0_change : GoodIn wsL_change (wsV RL 41 RX0 yX0_change wsX0_change) := goodIn_app (goodIn_of _ (by decide +kernel)) ggL_change_X0_change
set_option maxRecDepth 20000 in
theorem ggL_look_X0_look : GoodIn wsL_look wsX0_look := goodIn_ca (goodIn_r _ [6, 7, 8, 9, 10, 11, 12, 13, 14, 15, 16, 5, 17, 18, 19, 20, 21, 22, 23, 24, 25, 26, 27, 28, 29, 30, 31, 32, 33, 34, 35, 36, 37, 38, 39, 40, 41, 42, 43, 44, 45, 46, 47, 48, 49, 50, 51, 52, 53] (by decide +kernel) (by decide +kernel)) (goodIn_sub (fun _ h => List.mem_cons_of_mem _ (List.mem_append_right _ h)) (by decide +kernel))
set_option maxRecDepth 20000 in
theorem gL_look_X0_look : GoodIn wsL_look (wsV RL 46 RX0 yX0_look wsX0_look) := goodIn_app (goodIn_of _ (by decide +kernel)) ggL_look_X0_look
set_option maxRecDepth 20000 in
theorem ggL_law_X0_init : GoodIn wsL_law wsX0_init := goodIn_r _ [10, 11, 12, 13, 14, 15, 16, 17, 18, 19, 20, 21, 22, 23, 2, 24, 25, 295, 296, 297, 298, 299, 300, 301, 302, 303, 304, 305] (by decide +kernel) (by decide +kernel)
set_option maxRecDepth 20000 in
theorem gL_law_X0_init : GoodIn wsL_law (wsX0_init) := ggL_law_X0_init
set_option maxRecDepth 20000 in
theorem ggL_law_X1_init : GoodIn wsL_law wsX1_init := goodIn_r _ [28, 29, 12, 13, 14, 30, 31, 32, 33, 34, 35, 36, 306, 307, 308, 309, 310, 311, 312, 313, 314, 315, 316] (by decide +kernel) (by decide +kernel)
set_option maxRecDepth 20000 in
theorem gL_law_X1_init : GoodIn wsL_law (wsX1_init) := ggL_law_X1_init
set_option maxRecDepth 20000 in
theorem ggL_law_L_feed : GoodIn wsL_law wsL_feed := goodIn_ca (goodIn_ca (goodIn_r _ [40, 41, 42, 43, 44, 45, 2, 46, 47, 48, 49, 50, 51, 18, 295, 296, 297, 298, 299, 300, 301, 302, 303, 304, 305] (by decide +kernel) (by decide +kernel)) (goodIn_sub (fun _ h => List.mem_append_left _ (List.mem_append_left _ (List.mem_append_right _ h))) (by decide +kernel))) (goodIn_sub (fun _ h => List.mem_append_left _ (List.mem_append_right _ h)) (by decide +kernel))
set_option maxRecDepth 20000 in
theorem gL_law_L_feed : GoodIn wsL_law (va_wsS RL 56 yL_feed wsL_feed) := goodIn_app (goodIn_of _ (by decide +kernel)) ggL_law_L_feed
set_option maxRecDepth 20000 in
theorem ggL_law_X1_feed : GoodIn wsL_law wsX1_feed := goodIn_r _ [55, 56, 57, 31, 58, 59, 60, 5, 61, 62, 63, 64, 65, 66, 306, 307, 308, 309, 310, 311, 312, 313, 314, 315, 316] (by decide +kernel) (by decide +kernel)
set_option maxRecDepth 20000 in
theorem gL_law_X1_feed : GoodIn wsL_law (wsV RL 61 RX1 yX1_feed wsX1_feed) := goodIn_app (goodIn_of _ (by decide +kernel)) ggL_law_X1_feed
set_option maxRecDepth 20000 in
theorem ggL_law_X1_thrown : GoodIn wsL_law wsX1_thrown := goodIn_r _ [70, 66, 306, 307, 308, 309, 310, 311, 312, 313, 314, 315, 316] (by decide +kernel) (by decide +kernel)
set_option maxRecDepth 20000 in
theorem gL_law_X1_thrown : GoodIn wsL_law (wsV RL 62 RX1 yX1_thrown wsX1_thrown) := goodIn_app (goodIn_of _ (by decide +kernel)) ggL_law_X1_thrown
set_option maxRecDepth 20000 in
theorem ggL_law_L_put : GoodIn wsL_law wsL_put := goodIn_ca (goodIn_ca (goodIn_r _ [73, 41, 42, 74, 75, 76, 2, 77, 47, 48, 49, 50, 78, 18, 20, 79, 80, 81, 82, 51, 83, 84, 85, 86, 87, 88, 89, 19, 90, 91, 92, 93, 94, 95, 96, 97, 98, 99, 100, 101, 295, 296, 297, 298, 299, 300, 301, 302, 303, 304, 305] (by decide +kernel) (by decide +kernel)) (goodIn_sub (fun _ h => List.mem_append_left _ (List.mem_append_left _ (List.mem_append_right _ h))) (by decide +kernel))) (goodIn_sub (fun _ h => List.mem_append_left _ (List.mem_append_right _ h)) (by decide +kernel))
set_option maxRecDepth 20000 in
theorem gL_law_L_put : GoodIn wsL_law (va_wsS RL 65 yL_put wsL_put) := goodIn_app (goodIn_of _ (by decide +kernel)) ggL_law_L_put
set_option maxRecDepth 20000 in
theorem ggL_law_X1_put : GoodIn wsL_law wsX1_put := goodIn_r _ [105, 106, 107, 108, 32, 33, 57, 31, 59, 60, 5, 61, 62, 63, 64, 65, 66, 109, 110, 111, 112, 306, 307, 308, 309, 310, 311, 312, 313, 314, 315, 316] (by decide +kernel) (by decide +kernel)
set_option maxRecDepth 20000 in
theorem gL_law_X1_put : GoodIn wsL_law (wsV RL 68 RX1 yX1_put wsX1_put) := goodIn_app (goodIn_of _ (by decide +kernel)) ggL_law_X1_put
set_option maxRecDepth 20000 in
theorem ggL_law_X0_drop : GoodIn wsL_law wsX0_drop := goodIn_r _ [116, 78, 295, 296, 297, 298, 299, 300, 301, 302, 303, 304, 305] (by decide +kernel) (by decide +kernel)
set_option maxRecDepth 20000 in
theorem gL_law_X0_drop : GoodIn wsL_law (wsV RL 69 RX0 yX0_drop wsX0_drop) := goodIn_app (goodIn_of _ (by decide +kernel)) ggL_law_X0_drop
set_option maxRecDepth 20000 in
theorem ggL_law_X1_drop : GoodIn wsL_law wsX1_drop := goodIn_r _ [120, 66, 108, 306, 307, 308, 309, 310, 311, 312, 313, 314, 315, 316] (by decide +kernel) (by decide +kernel)
set_option maxRecDepth 20000 in
theorem gL_law_X1_drop : GoodIn wsL_law (wsV RL 72 RX1 yX1_drop wsX1_drop) := goodIn_app (goodIn_of _ (by decide +kernel)) ggL_law_X1_drop
set_option maxRecDepth 20000 in
theorem ggL_law_L_commit : GoodIn wsL_law wsL_commit := goodIn_ca (goodIn_r _ [123, 42, 124, 125, 126, 2, 127, 49, 50, 78, 128, 20, 19, 129, 130, 131, 132, 15, 133, 134, 135, 136, 21, 79, 80, 81, 82, 137, 138, 139, 140, 141, 17, 98, 99, 100, 101, 142, 143, 144, 145, 146, 147, 148, 149, 16, 150, 151, 152, 153, 295, 296, 297, 298, 299, 300, 301, 302, 303, 304, 305] (by decide +kernel) (by decide +kernel)) (goodIn_sub (fun _ h => List.mem_append_left _ (List.mem_append_right _ h)) (by decide +kernel))
set_option maxRecDepth 20000 in
theorem gL_law_L_commit : GoodIn wsL_law (va_wsS RL 73 yL_commit wsL_commit) := goodIn_app (goodIn_of _ (by decide +kernel)) ggL_law_L_commit
set_option maxRecDepth 20000 in
theorem ggL_law_X1_commit : GoodIn wsL_law wsX1_commit := goodIn_r _ [157, 108, 158, 62, 63, 64, 5, 65, 66, 159, 160, 161, 162, 163, 30, 164, 165, 166, 167, 36, 33, 32, 168, 169, 170, 171, 58, 172, 173, 174, 175, 176, 177, 178, 179, 180, 181, 182, 183, 184, 185, 35, 186, 306, 307, 308, 309, 310, 311, 312, 313, 314, 315, 316] (by decide +kernel) (by decide +kernel)
set_option maxRecDepth 20000 in
theorem gL_law_X1_commit : GoodIn wsL_law (wsV RL 76 RX1 yX1_commit wsX1_commit) := goodIn_app (goodIn_of _ (by decide +kernel)) ggL_law_X1_commit
set_option maxRecDepth 20000 in
theorem ggL_law_L_recover : GoodIn wsL_law wsL_recover := goodIn_ca (goodIn_r _ [189, 42, 190, 191, 192, 2, 193, 49, 50, 128, 15, 194, 195, 196, 197, 198, 199, 200, 201, 202, 203, 204, 205, 206, 207, 208, 209, 83, 84, 85, 129, 130, 131, 132, 146, 147, 148, 149, 16, 133, 134, 135, 136, 21, 79, 80, 81, 82, 137, 150, 151, 152, 153, 17, 98, 99, 100, 101, 142, 143, 144, 145, 295, 296, 297, 298, 299, 300, 301, 302, 303, 304, 305] (by decide +kernel) (by decide +kernel)) (goodIn_sub (fun _ h => List.mem_append_left _ (List.mem_append_right _ h)) (by decide +kernel))
set_option maxRecDepth 20000 in
theorem gL_law_L_recover : GoodIn wsL_law (va_wsS RL 77 yL_recover wsL_recover) := goodIn_app (goodIn_of _ (by decide +kernel)) ggL_law_L_recover
set_option maxRecDepth 20000 in
theorem ggL_law_X1_recover : GoodIn wsL_law wsX1_recover := goodIn_r _ [213, 158, 30, 36, 62, 63, 64, 5, 65, 66, 214, 215, 216, 217, 218, 106, 107, 59, 60, 61, 219, 220, 221, 222, 159, 160, 161, 162, 163, 172, 173, 174, 175, 176, 177, 182, 183, 184, 185, 35, 186, 168, 169, 170, 171, 58, 32, 178, 179, 180, 181, 108, 306, 307, 308, 309, 310, 311, 312, 313, 314, 315, 316] (by decide +kernel) (by decide +kernel)
set_option maxRecDepth 20000 in
theorem gL_law_X1_recover : GoodIn wsL_law (wsV RL 79 RX1 yX1_recover wsX1_recover) := goodIn_app (goodIn_of _ (by decide +kernel)) ggL_law_X1_recover
set_option maxRecDepth 20000 in
theorem ggL_law_L_lose : GoodIn wsL_law wsL_lose := goodIn_ca (goodIn_ca (goodIn_r _ [225, 41, 42, 226, 227, 228, 2, 229, 47, 48, 49, 50, 128, 21, 295, 296, 297, 298, 299, 300, 301, 302, 303, 304, 305] (by decide +kernel) (by decide +kernel)) (goodIn_sub (fun _ h => List.mem_append_left _ (List.mem_append_left _ (List.mem_append_right _ h))) (by decide +kernel))) (goodIn_sub (fun _ h => List.mem_append_left _ (List.mem_append_right _ h)) (by decide +kernel))
set_option maxRecDepth 20000 in
theorem gL_law_L_lose : GoodIn wsL_law (va_wsS RL 80 yL_lose wsL_lose) := goodIn_app (goodIn_of _ (by decide +kernel)) ggL_law_L_lose
set_option maxRecDepth 20000 in
theorem ggL_law_X1_lose : GoodIn wsL_law wsX1_lose := goodIn_r _ [233, 158, 35, 62, 63, 64, 5, 65, 66, 306, 307, 308, 309, 310, 311, 312, 313, 314, 315, 316] (by decide +kernel) (by decide +kernel)
set_option maxRecDepth 20000 in
theorem gL_law_X1_lose : GoodIn wsL_law (wsV RL 83 RX1 yX1_lose wsX1_lose) := goodIn_app (goodIn_of _ (by decide +kernel)) ggL_law_X1_lose
set_option maxRecDepth 20000 in
theorem ggL_law_X0_power : GoodIn wsL_law wsX0_power := goodIn_r _ [237, 128, 21, 295, 296, 297, 298, 299, 300, 301, 302, 303, 304, 305] (by decide +kernel) (by decide +kernel)
set_option maxRecDepth 20000 in
theorem gL_law_X0_power : GoodIn wsL_law (wsV RL 84 RX0 yX0_power wsX0_power) := goodIn_app (goodIn_of _ (by decide +kernel)) ggL_law_X0_power
set_option maxRecDepth 20000 in
theorem ggL_law_X1_power : GoodIn wsL_law wsX1_power := goodIn_r _ [241, 66, 158, 34, 35, 306, 307, 308, 309, 310, 311, 312, 313, 314, 315, 316] (by decide +kernel) (by decide +kernel)
set_option maxRecDepth 20000 in
theorem gL_law_X1_power : GoodIn wsL_law (wsV RL 87 RX1 yX1_power wsX1_power) := goodIn_app (goodIn_of _ (by decide +kernel)) ggL_law_X1_power
set_option maxRecDepth 20000 in
theorem ggL_law_L_spoil : GoodIn wsL_law wsL_spoil := goodIn_ca (goodIn_r _ [244, 41, 245, 246, 247, 2, 248, 47, 48, 15, 249, 250, 251, 295, 296, 297, 298, 299, 300, 301, 302, 303, 304, 305] (by decide +kernel) (by decide +kernel)) (goodIn_sub (fun _ h => List.mem_append_left _ (List.mem_append_left _ (List.mem_append_right _ h))) (by decide +kernel))
set_option maxRecDepth 20000 in
theorem gL_law_L_spoil : GoodIn wsL_law (va_wsS RL 88 yL_spoil wsL_spoil) := goodIn_app (goodIn_of _ (by decide +kernel)) ggL_law_L_spoil
set_option maxRecDepth 20000 in
theorem ggL_law_X1_spoil : GoodIn wsL_law wsX1_spoil := goodIn_r _ [255, 107, 256, 30, 59, 60, 5, 61, 62, 63, 64, 65, 66, 306, 307, 308, 309, 310, 311, 312, 313, 314, 315, 316] (by decide +kernel) (by decide +kernel)
set_option maxRecDepth 20000 in
theorem gL_law_X1_spoil : GoodIn wsL_law (wsV RL 91 RX1 yX1_spoil wsX1_spoil) := goodIn_app (goodIn_of _ (by decide +kernel)) ggL_law_X1_spoil
set_option maxRecDepth 20000 in
theorem ggL_law_L_at : GoodIn wsL_law wsL_at := goodIn_ca (goodIn_r _ [259, 41, 260, 261, 262, 2, 263, 47, 48, 15, 249, 250, 251, 295, 296, 297, 298, 299, 300, 301, 302, 303, 304, 305] (by decide +kernel) (by decide +kernel)) (goodIn_sub (fun _ h => List.mem_append_left _ (List.mem_append_left _ (List.mem_append_right _ h))) (by decide +kernel))
set_option maxRecDepth 20000 in
theorem gL_law_L_at : GoodIn wsL_law (va_wsS RL 92 yL_at wsL_at) := goodIn_app (goodIn_of _ (by decide +kernel)) ggL_law_L_at
set_option maxRecDepth 20000 in
theorem ggL_law_X1_at : GoodIn wsL_law wsX1_at := goodIn_r _ [267, 107, 256, 30, 59, 60, 5, 61, 62, 63, 64, 65, 66, 306, 307, 308, 309, 310, 311, 312, 313, 314, 315, 316] (by decide +kernel) (by decide +kernel)
set_option maxRecDepth 20000 in
theorem gL_law_X1_at : GoodIn wsL_law (wsV RL 95 RX1 yX1_at wsX1_at) := goodIn_app (goodIn_of _ (by decide +kernel)) ggL_law_X1_at
set_option maxRecDepth 20000 in
theorem ggL_law_L_change : GoodIn wsL_law wsL_change := goodIn_ca (goodIn_r _ [270, 271, 272, 273, 274, 2, 275, 276, 277, 78, 19, 295, 296, 297, 298, 299, 300, 301, 302, 303, 304, 305] (by decide +kernel) (by decide +kernel)) (goodIn_sub (fun _ h => List.mem_append_right _ h) (by decide +kernel))
set_option maxRecDepth 20000 in
theorem gL_law_L_change : GoodIn wsL_law (va_wsS RL 96 yL_change wsL_change) := goodIn_app (goodIn_of _ (by decide +kernel)) ggL_law_L_change
set_option maxRecDepth 20000 in
theorem ggL_law_X1_change : GoodIn wsL_law wsX1_change := goodIn_r _ [281, 108, 32, 59, 60, 5, 61, 62, 63, 64, 65, 66, 178, 179, 180, 181, 306, 307, 308, 309, 310, 311, 312, 313, 314, 315, 316] (by decide +kernel) (by decide +kernel)
set_option maxRecDepth 20000 in
theorem gL_law_X1_change : GoodIn wsL_law (wsV RL 98 RX1 yX1_change wsX1_change) := goodIn_app (goodIn_of _ (by decide +kernel)) ggL_law_X1_change
set_option maxRecDepth 20000 in
theorem ggL_law_L_look : GoodIn wsL_law wsL_look := goodIn_ca (goodIn_r _ [284, 271, 285, 286, 287, 2, 288, 276, 277, 289, 78, 137, 128, 21, 129, 130, 131, 132, 15, 198, 199, 200, 201, 194, 195, 196, 197, 202, 203, 204, 205, 206, 207, 208, 209, 83, 84, 85, 146, 147, 148, 149, 16, 295, 296, 297, 298, 299, 300, 301, 302, 303, 304, 305] (by decide +kernel) (by decide +kernel)) (goodIn_sub (fun _ h => List.mem_append_right _ h) (by decide +kernel))
set_option maxRecDepth 20000 in
theorem gL_law_L_look : GoodIn wsL_law (va_wsS RL 99 yL_look wsL_look) := goodIn_app (goodIn_of _ (by decide +kernel)) ggL_law_L_look
set_option maxRecDepth 20000 in
theorem ggL_law_X1_look : GoodIn wsL_law wsX1_look := goodIn_r _ [293, 294, 30, 108, 186, 158, 35, 59, 60, 5, 61, 62, 63, 64, 65, 66, 159, 160, 161, 162, 163, 214, 215, 216, 217, 218, 106, 107, 219, 220, 221, 222, 172, 173, 174, 175, 176, 177, 306, 307, 308, 309, 310, 311, 312, 313, 314, 315, 316] (by decide +kernel) (by decide +kernel)
set_option maxRecDepth 20000 in
theorem gL_law_X1_look : GoodIn wsL_law (wsV RL 101 RX1 yX1_look wsX1_look) := goodIn_app (goodIn_of _ (by decide +kernel)) ggL_law_X1_look
abbrev vwCl : List vw_C := [(RX0, TX0, 11), (RX1, TX1, 11)]
/-! ===== END printed: names ===== -/
end
section
theorem dJ7_fill_53178_0 : decode cJ7_fill_53178 0 = .ok (.iconst 0, 1) := by decide +kernel
theorem dJ7_fill_53178_1 : decode cJ7_fill_53178 1 = .ok (.istore_n 2, 1) := by decide +kernel
theorem dJ7_fill_53178_2 : decode cJ7_fill_53178 2 = .ok (.aload_n 0, 1) := by decide +kernel
theorem dJ7_fill_53178_3 : decode cJ7_fill_53178 3 = .ok (.arraylength, 1) := by decide +kernel
theorem dJ7_fill_53178_4 : decode cJ7_fill_53178 4 = .ok (.istore_n 3, 1) := by decide +kernel
theorem dJ7_fill_53178_5 : decode cJ7_fill_53178 5 = .ok (.iload_n 2, 1) := by decide +kernel
theorem dJ7_fill_53178_6 : decode cJ7_fill_53178 6 = .ok (.iload_n 3, 1) := by decide +kernel
theorem dJ7_fill_53178_7 : decode cJ7_fill_53178 7 = .ok (.if_icmp .ge 13, 3) := by decide +kernel
theorem dJ7_fill_53178_10 : decode cJ7_fill_53178 10 = .ok (.aload_n 0, 1) := by decide +kernel
theorem dJ7_fill_53178_11 : decode cJ7_fill_53178 11 = .ok (.iload_n 2, 1) := by decide +kernel
theorem dJ7_fill_53178_12 : decode cJ7_fill_53178 12 = .ok (.iload_n 1, 1) := by decide +kernel
theorem dJ7_fill_53178_13 : decode cJ7_fill_53178 13 = .ok (.iastore, 1) := by decide +kernel
theorem dJ7_fill_53178_14 : decode cJ7_fill_53178 14 = .ok (.iinc 2 1, 3) := by decide +kernel
theorem dJ7_fill_53178_17 : decode cJ7_fill_53178 17 = .ok (.goto (-12), 3) := by decide +kernel
theorem dJ7_fill_53178_20 : decode cJ7_fill_53178 20 = .ok (.return_, 1) := by decide +kernel
end
section
theorem dL_feed_0 : decode cL_feed 0 = .ok (.aload 4, 2) := by decide +kernel
theorem dL_feed_2 : decode cL_feed 2 = .ok (.iconst 0, 1) := by decide +kernel
theorem dL_feed_3 : decode cL_feed 3 = .ok (.aload_n 0, 1) := by decide +kernel
theorem dL_feed_4 : decode cL_feed 4 = .ok (.iload_n 1, 1) := by decide +kernel
theorem dL_feed_5 : decode cL_feed 5 = .ok (.lload_n 2, 1) := by decide +kernel
theorem dL_feed_6 : decode cL_feed 6 = .ok (.invokevirtual 7, 3) := by decide +kernel
theorem dL_feed_9 : decode cL_feed 9 = .ok (.i2l, 1) := by decide +kernel
theorem dL_feed_10 : decode cL_feed 10 = .ok (.lastore, 1) := by decide +kernel
theorem dL_feed_11 : decode cL_feed 11 = .ok (.goto 11, 3) := by decide +kernel
theorem dL_feed_14 : decode cL_feed 14 = .ok (.astore 5, 2) := by decide +kernel
theorem dL_feed_16 : decode cL_feed 16 = .ok (.iconst 1, 1) := by decide +kernel
theorem dL_feed_17 : decode cL_feed 17 = .ok (.ireturn, 1) := by decide +kernel
theorem dL_feed_18 : decode cL_feed 18 = .ok (.astore 5, 2) := by decide +kernel
theorem dL_feed_20 : decode cL_feed 20 = .ok (.iconst 2, 1) := by decide +kernel
theorem dL_feed_21 : decode cL_feed 21 = .ok (.ireturn, 1) := by decide +kernel
theorem dL_feed_22 : decode cL_feed 22 = .ok (.iconst 0, 1) := by decide +kernel
theorem dL_feed_23 : decode cL_feed 23 = .ok (.ireturn, 1) := by decide +kernel
theorem dL_put_0 : decode cL_put 0 = .ok (.aload_n 2, 1) := by decide +kernel
theorem dL_put_1 : decode cL_put 1 = .ok (.iconst 0, 1) := by decide +kernel
theorem dL_put_2 : decode cL_put 2 = .ok (.aload_n 0, 1) := by decide +kernel
theorem dL_put_3 : decode cL_put 3 = .ok (.iload_n 1, 1) := by decide +kernel
theorem dL_put_4 : decode cL_put 4 = .ok (.invokevirtual 17, 3) := by decide +kernel
theorem dL_put_7 : decode cL_put 7 = .ok (.i2l, 1) := by decide +kernel
theorem dL_put_8 : decode cL_put 8 = .ok (.lastore, 1) := by decide +kernel
theorem dL_put_9 : decode cL_put 9 = .ok (.goto 9, 3) := by decide +kernel
theorem dL_put_12 : decode cL_put 12 = .ok (.astore_n 3, 1) := by decide +kernel
theorem dL_put_13 : decode cL_put 13 = .ok (.iconst 1, 1) := by decide +kernel
theorem dL_put_14 : decode cL_put 14 = .ok (.ireturn, 1) := by decide +kernel
theorem dL_put_15 : decode cL_put 15 = .ok (.astore_n 3, 1) := by decide +kernel
theorem dL_put_16 : decode cL_put 16 = .ok (.iconst 2, 1) := by decide +kernel
theorem dL_put_17 : decode cL_put 17 = .ok (.ireturn, 1) := by decide +kernel
theorem dL_put_18 : decode cL_put 18 = .ok (.iconst 0, 1) := by decide +kernel
theorem dL_put_19 : decode cL_put 19 = .ok (.ireturn, 1) := by decide +kernel
theorem dL_commit_0 : decode cL_commit 0 = .ok (.aload_n 1, 1) := by decide +kernel
theorem dL_commit_1 : decode cL_commit 1 = .ok (.iconst 0, 1) := by decide +kernel
theorem dL_commit_2 : decode cL_commit 2 = .ok (.aload_n 0, 1) := by decide +kernel
theorem dL_commit_3 : decode cL_commit 3 = .ok (.invokevirtual 21, 3) := by decide +kernel
theorem dL_commit_6 : decode cL_commit 6 = .ok (.ifCond .eq 7, 3) := by decide +kernel
theorem dL_commit_9 : decode cL_commit 9 = .ok (.lconst 1, 1) := by decide +kernel
theorem dL_commit_10 : decode cL_commit 10 = .ok (.goto 4, 3) := by decide +kernel
theorem dL_commit_13 : decode cL_commit 13 = .ok (.lconst 0, 1) := by decide +kernel
theorem dL_commit_14 : decode cL_commit 14 = .ok (.lastore, 1) := by decide +kernel
theorem dL_commit_15 : decode cL_commit 15 = .ok (.goto 6, 3) := by decide +kernel
theorem dL_commit_18 : decode cL_commit 18 = .ok (.astore_n 2, 1) := by decide +kernel
theorem dL_commit_19 : decode cL_commit 19 = .ok (.iconst 1, 1) := by decide +kernel
theorem dL_commit_20 : decode cL_commit 20 = .ok (.ireturn, 1) := by decide +kernel
theorem dL_commit_21 : decode cL_commit 21 = .ok (.iconst 0, 1) := by decide +kernel
theorem dL_commit_22 : decode cL_commit 22 = .ok (.ireturn, 1) := by decide +kernel
theorem dL_recover_0 : decode cL_recover 0 = .ok (.aload_n 1, 1) := by decide +kernel
theorem dL_recover_1 : decode cL_recover 1 = .ok (.iconst 0, 1) := by decide +kernel
theorem dL_recover_2 : decode cL_recover 2 = .ok (.aload_n 0, 1) := by decide +kernel
theorem dL_recover_3 : decode cL_recover 3 = .ok (.invokevirtual 25, 3) := by decide +kernel
theorem dL_recover_6 : decode cL_recover 6 = .ok (.i2l, 1) := by decide +kernel
theorem dL_recover_7 : decode cL_recover 7 = .ok (.lastore, 1) := by decide +kernel
theorem dL_recover_8 : decode cL_recover 8 = .ok (.goto 6, 3) := by decide +kernel
theorem dL_recover_11 : decode cL_recover 11 = .ok (.astore_n 2, 1) := by decide +kernel
theorem dL_recover_12 : decode cL_recover 12 = .ok (.iconst 1, 1) := by decide +kernel
theorem dL_recover_13 : decode cL_recover 13 = .ok (.ireturn, 1) := by decide +kernel
theorem dL_recover_14 : decode cL_recover 14 = .ok (.iconst 0, 1) := by decide +kernel
theorem dL_recover_15 : decode cL_recover 15 = .ok (.ireturn, 1) := by decide +kernel
theorem dL_lose_0 : decode cL_lose 0 = .ok (.aload_n 0, 1) := by decide +kernel
theorem dL_lose_1 : decode cL_lose 1 = .ok (.iload_n 1, 1) := by decide +kernel
theorem dL_lose_2 : decode cL_lose 2 = .ok (.invokevirtual 29, 3) := by decide +kernel
theorem dL_lose_5 : decode cL_lose 5 = .ok (.goto 9, 3) := by decide +kernel
theorem dL_lose_8 : decode cL_lose 8 = .ok (.astore_n 2, 1) := by decide +kernel
theorem dL_lose_9 : decode cL_lose 9 = .ok (.iconst 1, 1) := by decide +kernel
theorem dL_lose_10 : decode cL_lose 10 = .ok (.ireturn, 1) := by decide +kernel
theorem dL_lose_11 : decode cL_lose 11 = .ok (.astore_n 2, 1) := by decide +kernel
theorem dL_lose_12 : decode cL_lose 12 = .ok (.iconst 2, 1) := by decide +kernel
theorem dL_lose_13 : decode cL_lose 13 = .ok (.ireturn, 1) := by decide +kernel
theorem dL_lose_14 : decode cL_lose 14 = .ok (.iconst 0, 1) := by decide +kernel
theorem dL_lose_15 : decode cL_lose 15 = .ok (.ireturn, 1) := by decide +kernel
theorem dL_spoil_0 : decode cL_spoil 0 = .ok (.aload 4, 2) := by decide +kernel
theorem dL_spoil_2 : decode cL_spoil 2 = .ok (.iconst 0, 1) := by decide +kernel
theorem dL_spoil_3 : decode cL_spoil 3 = .ok (.aload_n 0, 1) := by decide +kernel
theorem dL_spoil_4 : decode cL_spoil 4 = .ok (.iload_n 1, 1) := by decide +kernel
theorem dL_spoil_5 : decode cL_spoil 5 = .ok (.iload_n 2, 1) := by decide +kernel
theorem dL_spoil_6 : decode cL_spoil 6 = .ok (.iload_n 3, 1) := by decide +kernel
theorem dL_spoil_7 : decode cL_spoil 7 = .ok (.invokevirtual 33, 3) := by decide +kernel
theorem dL_spoil_10 : decode cL_spoil 10 = .ok (.i2l, 1) := by decide +kernel
theorem dL_spoil_11 : decode cL_spoil 11 = .ok (.lastore, 1) := by decide +kernel
theorem dL_spoil_12 : decode cL_spoil 12 = .ok (.goto 7, 3) := by decide +kernel
theorem dL_spoil_15 : decode cL_spoil 15 = .ok (.astore 5, 2) := by decide +kernel
theorem dL_spoil_17 : decode cL_spoil 17 = .ok (.iconst 1, 1) := by decide +kernel
theorem dL_spoil_18 : decode cL_spoil 18 = .ok (.ireturn, 1) := by decide +kernel
theorem dL_spoil_19 : decode cL_spoil 19 = .ok (.iconst 0, 1) := by decide +kernel
theorem dL_spoil_20 : decode cL_spoil 20 = .ok (.ireturn, 1) := by decide +kernel
theorem dL_at_0 : decode cL_at 0 = .ok (.aload_n 3, 1) := by decide +kernel
theorem dL_at_1 : decode cL_at 1 = .ok (.iconst 0, 1) := by decide +kernel
theorem dL_at_2 : decode cL_at 2 = .ok (.aload_n 0, 1) := by decide +kernel
theorem dL_at_3 : decode cL_at 3 = .ok (.iload_n 1, 1) := by decide +kernel
theorem dL_at_4 : decode cL_at 4 = .ok (.iload_n 2, 1) := by decide +kernel
theorem dL_at_5 : decode cL_at 5 = .ok (.invokevirtual 37, 3) := by decide +kernel
theorem dL_at_8 : decode cL_at 8 = .ok (.i2l, 1) := by decide +kernel
theorem dL_at_9 : decode cL_at 9 = .ok (.lastore, 1) := by decide +kernel
theorem dL_at_10 : decode cL_at 10 = .ok (.goto 7, 3) := by decide +kernel
theorem dL_at_13 : decode cL_at 13 = .ok (.astore 4, 2) := by decide +kernel
theorem dL_at_15 : decode cL_at 15 = .ok (.iconst 1, 1) := by decide +kernel
theorem dL_at_16 : decode cL_at 16 = .ok (.ireturn, 1) := by decide +kernel
theorem dL_at_17 : decode cL_at 17 = .ok (.iconst 0, 1) := by decide +kernel
theorem dL_at_18 : decode cL_at 18 = .ok (.ireturn, 1) := by decide +kernel
theorem dL_change_0 : decode cL_change 0 = .ok (.aload_n 2, 1) := by decide +kernel
theorem dL_change_1 : decode cL_change 1 = .ok (.iconst 0, 1) := by decide +kernel
theorem dL_change_2 : decode cL_change 2 = .ok (.aload_n 0, 1) := by decide +kernel
theorem dL_change_3 : decode cL_change 3 = .ok (.iload_n 1, 1) := by decide +kernel
theorem dL_change_4 : decode cL_change 4 = .ok (.invokevirtual 41, 3) := by decide +kernel
theorem dL_change_7 : decode cL_change 7 = .ok (.i2l, 1) := by decide +kernel
theorem dL_change_8 : decode cL_change 8 = .ok (.lastore, 1) := by decide +kernel
theorem dL_change_9 : decode cL_change 9 = .ok (.goto 6, 3) := by decide +kernel
theorem dL_change_12 : decode cL_change 12 = .ok (.astore_n 3, 1) := by decide +kernel
theorem dL_change_13 : decode cL_change 13 = .ok (.iconst 1, 1) := by decide +kernel
theorem dL_change_14 : decode cL_change 14 = .ok (.ireturn, 1) := by decide +kernel
theorem dL_change_15 : decode cL_change 15 = .ok (.iconst 0, 1) := by decide +kernel
theorem dL_change_16 : decode cL_change 16 = .ok (.ireturn, 1) := by decide +kernel
theorem dL_look_0 : decode cL_look 0 = .ok (.aload_n 2, 1) := by decide +kernel
theorem dL_look_1 : decode cL_look 1 = .ok (.iconst 0, 1) := by decide +kernel
theorem dL_look_2 : decode cL_look 2 = .ok (.aload_n 0, 1) := by decide +kernel
theorem dL_look_3 : decode cL_look 3 = .ok (.iload_n 1, 1) := by decide +kernel
theorem dL_look_4 : decode cL_look 4 = .ok (.invokevirtual 46, 3) := by decide +kernel
theorem dL_look_7 : decode cL_look 7 = .ok (.lastore, 1) := by decide +kernel
theorem dL_look_8 : decode cL_look 8 = .ok (.goto 6, 3) := by decide +kernel
theorem dL_look_11 : decode cL_look 11 = .ok (.astore_n 3, 1) := by decide +kernel
theorem dL_look_12 : decode cL_look 12 = .ok (.iconst 1, 1) := by decide +kernel
theorem dL_look_13 : decode cL_look 13 = .ok (.ireturn, 1) := by decide +kernel
theorem dL_look_14 : decode cL_look 14 = .ok (.iconst 0, 1) := by decide +kernel
theorem dL_look_15 : decode cL_look 15 = .ok (.ireturn, 1) := by decide +kernel
theorem dL_law_0 : decode cL_law 0 = .ok (.new 8, 3) := by decide +kernel
theorem dL_law_3 : decode cL_law 3 = .ok (.dup, 1) := by decide +kernel
theorem dL_law_4 : decode cL_law 4 = .ok (.invokespecial 50, 3) := by decide +kernel
theorem dL_law_7 : decode cL_law 7 = .ok (.astore_n 1, 1) := by decide +kernel
theorem dL_law_8 : decode cL_law 8 = .ok (.new 51, 3) := by decide +kernel
theorem dL_law_11 : decode cL_law 11 = .ok (.dup, 1) := by decide +kernel
theorem dL_law_12 : decode cL_law 12 = .ok (.invokespecial 53, 3) := by decide +kernel
theorem dL_law_15 : decode cL_law 15 = .ok (.astore_n 2, 1) := by decide +kernel
theorem dL_law_16 : decode cL_law 16 = .ok (.iconst 1, 1) := by decide +kernel
theorem dL_law_17 : decode cL_law 17 = .ok (.newarray .long, 2) := by decide +kernel
theorem dL_law_19 : decode cL_law 19 = .ok (.astore_n 3, 1) := by decide +kernel
theorem dL_law_20 : decode cL_law 20 = .ok (.iconst 0, 1) := by decide +kernel
theorem dL_law_21 : decode cL_law 21 = .ok (.istore 4, 2) := by decide +kernel
theorem dL_law_23 : decode cL_law 23 = .ok (.iload 4, 2) := by decide +kernel
theorem dL_law_25 : decode cL_law 25 = .ok (.aload_n 0, 1) := by decide +kernel
theorem dL_law_26 : decode cL_law 26 = .ok (.arraylength, 1) := by decide +kernel
theorem dL_law_27 : decode cL_law 27 = .ok (.iconst 4, 1) := by decide +kernel
theorem dL_law_28 : decode cL_law 28 = .ok (.isub, 1) := by decide +kernel
theorem dL_law_29 : decode cL_law 29 = .ok (.if_icmp .gt 645, 3) := by decide +kernel
theorem dL_law_32 : decode cL_law 32 = .ok (.aload_n 0, 1) := by decide +kernel
theorem dL_law_33 : decode cL_law 33 = .ok (.iload 4, 2) := by decide +kernel
theorem dL_law_35 : decode cL_law 35 = .ok (.iaload, 1) := by decide +kernel
theorem dL_law_36 : decode cL_law 36 = .ok (.bipush 15, 2) := by decide +kernel
theorem dL_law_38 : decode cL_law 38 = .ok (.iand, 1) := by decide +kernel
theorem dL_law_39 : decode cL_law 39 = .ok (.tableswitch 629 0 10 #[57, 157, 213, 226, 277, 321, 357, 370, 450, 518, 574], 57) := by decide +kernel
theorem dL_law_96 : decode cL_law 96 = .ok (.aload_n 1, 1) := by decide +kernel
theorem dL_law_97 : decode cL_law 97 = .ok (.aload_n 0, 1) := by decide +kernel
theorem dL_law_98 : decode cL_law 98 = .ok (.iload 4, 2) := by decide +kernel
theorem dL_law_100 : decode cL_law 100 = .ok (.iconst 1, 1) := by decide +kernel
theorem dL_law_101 : decode cL_law 101 = .ok (.iadd, 1) := by decide +kernel
theorem dL_law_102 : decode cL_law 102 = .ok (.iaload, 1) := by decide +kernel
theorem dL_law_103 : decode cL_law 103 = .ok (.aload_n 0, 1) := by decide +kernel
theorem dL_law_104 : decode cL_law 104 = .ok (.iload 4, 2) := by decide +kernel
theorem dL_law_106 : decode cL_law 106 = .ok (.iconst 2, 1) := by decide +kernel
theorem dL_law_107 : decode cL_law 107 = .ok (.iadd, 1) := by decide +kernel
theorem dL_law_108 : decode cL_law 108 = .ok (.iaload, 1) := by decide +kernel
theorem dL_law_109 : decode cL_law 109 = .ok (.i2l, 1) := by decide +kernel
theorem dL_law_110 : decode cL_law 110 = .ok (.bipush 32, 2) := by decide +kernel
theorem dL_law_112 : decode cL_law 112 = .ok (.lshl, 1) := by decide +kernel
theorem dL_law_113 : decode cL_law 113 = .ok (.aload_n 0, 1) := by decide +kernel
theorem dL_law_114 : decode cL_law 114 = .ok (.iload 4, 2) := by decide +kernel
theorem dL_law_116 : decode cL_law 116 = .ok (.iconst 3, 1) := by decide +kernel
theorem dL_law_117 : decode cL_law 117 = .ok (.iadd, 1) := by decide +kernel
theorem dL_law_118 : decode cL_law 118 = .ok (.iaload, 1) := by decide +kernel
theorem dL_law_119 : decode cL_law 119 = .ok (.i2l, 1) := by decide +kernel
theorem dL_law_120 : decode cL_law 120 = .ok (.ldc2_w 54, 3) := by decide +kernel
theorem dL_law_123 : decode cL_law 123 = .ok (.land, 1) := by decide +kernel
theorem dL_law_124 : decode cL_law 124 = .ok (.lor, 1) := by decide +kernel
theorem dL_law_125 : decode cL_law 125 = .ok (.aload_n 3, 1) := by decide +kernel
theorem dL_law_126 : decode cL_law 126 = .ok (.invokestatic 56, 3) := by decide +kernel
theorem dL_law_129 : decode cL_law 129 = .ok (.istore 5, 2) := by decide +kernel
theorem dL_law_131 : decode cL_law 131 = .ok (.aload_n 2, 1) := by decide +kernel
theorem dL_law_132 : decode cL_law 132 = .ok (.aload_n 0, 1) := by decide +kernel
theorem dL_law_133 : decode cL_law 133 = .ok (.iload 4, 2) := by decide +kernel
theorem dL_law_135 : decode cL_law 135 = .ok (.iconst 1, 1) := by decide +kernel
theorem dL_law_136 : decode cL_law 136 = .ok (.iadd, 1) := by decide +kernel
theorem dL_law_137 : decode cL_law 137 = .ok (.iaload, 1) := by decide +kernel
theorem dL_law_138 : decode cL_law 138 = .ok (.aload_n 0, 1) := by decide +kernel
theorem dL_law_139 : decode cL_law 139 = .ok (.iload 4, 2) := by decide +kernel
theorem dL_law_141 : decode cL_law 141 = .ok (.iconst 2, 1) := by decide +kernel
theorem dL_law_142 : decode cL_law 142 = .ok (.iadd, 1) := by decide +kernel
theorem dL_law_143 : decode cL_law 143 = .ok (.iaload, 1) := by decide +kernel
theorem dL_law_144 : decode cL_law 144 = .ok (.i2l, 1) := by decide +kernel
theorem dL_law_145 : decode cL_law 145 = .ok (.bipush 32, 2) := by decide +kernel
theorem dL_law_147 : decode cL_law 147 = .ok (.lshl, 1) := by decide +kernel
theorem dL_law_148 : decode cL_law 148 = .ok (.aload_n 0, 1) := by decide +kernel
theorem dL_law_149 : decode cL_law 149 = .ok (.iload 4, 2) := by decide +kernel
theorem dL_law_151 : decode cL_law 151 = .ok (.iconst 3, 1) := by decide +kernel
theorem dL_law_152 : decode cL_law 152 = .ok (.iadd, 1) := by decide +kernel
theorem dL_law_153 : decode cL_law 153 = .ok (.iaload, 1) := by decide +kernel
theorem dL_law_154 : decode cL_law 154 = .ok (.i2l, 1) := by decide +kernel
theorem dL_law_155 : decode cL_law 155 = .ok (.ldc2_w 54, 3) := by decide +kernel
theorem dL_law_158 : decode cL_law 158 = .ok (.land, 1) := by decide +kernel
theorem dL_law_159 : decode cL_law 159 = .ok (.lor, 1) := by decide +kernel
theorem dL_law_160 : decode cL_law 160 = .ok (.invokevirtual 61, 3) := by decide +kernel
theorem dL_law_163 : decode cL_law 163 = .ok (.istore 6, 2) := by decide +kernel
theorem dL_law_165 : decode cL_law 165 = .ok (.aload_n 2, 1) := by decide +kernel
theorem dL_law_166 : decode cL_law 166 = .ok (.invokevirtual 62, 3) := by decide +kernel
theorem dL_law_169 : decode cL_law 169 = .ok (.iload 5, 2) := by decide +kernel
theorem dL_law_171 : decode cL_law 171 = .ok (.if_icmp .eq 5, 3) := by decide +kernel
theorem dL_law_174 : decode cL_law 174 = .ok (.iconst 0, 1) := by decide +kernel
theorem dL_law_175 : decode cL_law 175 = .ok (.ireturn, 1) := by decide +kernel
theorem dL_law_176 : decode cL_law 176 = .ok (.iload 5, 2) := by decide +kernel
theorem dL_law_178 : decode cL_law 178 = .ok (.ifCond .ne 15, 3) := by decide +kernel
theorem dL_law_181 : decode cL_law 181 = .ok (.aload_n 3, 1) := by decide +kernel
theorem dL_law_182 : decode cL_law 182 = .ok (.iconst 0, 1) := by decide +kernel
theorem dL_law_183 : decode cL_law 183 = .ok (.laload, 1) := by decide +kernel
theorem dL_law_184 : decode cL_law 184 = .ok (.iload 6, 2) := by decide +kernel
theorem dL_law_186 : decode cL_law 186 = .ok (.i2l, 1) := by decide +kernel
theorem dL_law_187 : decode cL_law 187 = .ok (.lcmp, 1) := by decide +kernel
theorem dL_law_188 : decode cL_law 188 = .ok (.ifCond .eq 5, 3) := by decide +kernel
theorem dL_law_191 : decode cL_law 191 = .ok (.iconst 0, 1) := by decide +kernel
theorem dL_law_192 : decode cL_law 192 = .ok (.ireturn, 1) := by decide +kernel
theorem dL_law_193 : decode cL_law 193 = .ok (.goto 475, 3) := by decide +kernel
theorem dL_law_196 : decode cL_law 196 = .ok (.aload_n 1, 1) := by decide +kernel
theorem dL_law_197 : decode cL_law 197 = .ok (.aload_n 0, 1) := by decide +kernel
theorem dL_law_198 : decode cL_law 198 = .ok (.iload 4, 2) := by decide +kernel
theorem dL_law_200 : decode cL_law 200 = .ok (.iconst 1, 1) := by decide +kernel
theorem dL_law_201 : decode cL_law 201 = .ok (.iadd, 1) := by decide +kernel
theorem dL_law_202 : decode cL_law 202 = .ok (.iaload, 1) := by decide +kernel
theorem dL_law_203 : decode cL_law 203 = .ok (.aload_n 3, 1) := by decide +kernel
theorem dL_law_204 : decode cL_law 204 = .ok (.invokestatic 65, 3) := by decide +kernel
theorem dL_law_207 : decode cL_law 207 = .ok (.istore 5, 2) := by decide +kernel
theorem dL_law_209 : decode cL_law 209 = .ok (.aload_n 2, 1) := by decide +kernel
theorem dL_law_210 : decode cL_law 210 = .ok (.aload_n 0, 1) := by decide +kernel
theorem dL_law_211 : decode cL_law 211 = .ok (.iload 4, 2) := by decide +kernel
theorem dL_law_213 : decode cL_law 213 = .ok (.iconst 1, 1) := by decide +kernel
theorem dL_law_214 : decode cL_law 214 = .ok (.iadd, 1) := by decide +kernel
theorem dL_law_215 : decode cL_law 215 = .ok (.iaload, 1) := by decide +kernel
theorem dL_law_216 : decode cL_law 216 = .ok (.invokevirtual 68, 3) := by decide +kernel
theorem dL_law_219 : decode cL_law 219 = .ok (.istore 6, 2) := by decide +kernel
theorem dL_law_221 : decode cL_law 221 = .ok (.aload_n 2, 1) := by decide +kernel
theorem dL_law_222 : decode cL_law 222 = .ok (.invokevirtual 62, 3) := by decide +kernel
theorem dL_law_225 : decode cL_law 225 = .ok (.iload 5, 2) := by decide +kernel
theorem dL_law_227 : decode cL_law 227 = .ok (.if_icmp .eq 5, 3) := by decide +kernel
theorem dL_law_230 : decode cL_law 230 = .ok (.iconst 0, 1) := by decide +kernel
theorem dL_law_231 : decode cL_law 231 = .ok (.ireturn, 1) := by decide +kernel
theorem dL_law_232 : decode cL_law 232 = .ok (.iload 5, 2) := by decide +kernel
theorem dL_law_234 : decode cL_law 234 = .ok (.ifCond .ne 15, 3) := by decide +kernel
theorem dL_law_237 : decode cL_law 237 = .ok (.aload_n 3, 1) := by decide +kernel
theorem dL_law_238 : decode cL_law 238 = .ok (.iconst 0, 1) := by decide +kernel
theorem dL_law_239 : decode cL_law 239 = .ok (.laload, 1) := by decide +kernel
theorem dL_law_240 : decode cL_law 240 = .ok (.iload 6, 2) := by decide +kernel
theorem dL_law_242 : decode cL_law 242 = .ok (.i2l, 1) := by decide +kernel
theorem dL_law_243 : decode cL_law 243 = .ok (.lcmp, 1) := by decide +kernel
theorem dL_law_244 : decode cL_law 244 = .ok (.ifCond .eq 5, 3) := by decide +kernel
theorem dL_law_247 : decode cL_law 247 = .ok (.iconst 0, 1) := by decide +kernel
theorem dL_law_248 : decode cL_law 248 = .ok (.ireturn, 1) := by decide +kernel
theorem dL_law_249 : decode cL_law 249 = .ok (.goto 419, 3) := by decide +kernel
theorem dL_law_252 : decode cL_law 252 = .ok (.aload_n 1, 1) := by decide +kernel
theorem dL_law_253 : decode cL_law 253 = .ok (.invokevirtual 69, 3) := by decide +kernel
theorem dL_law_256 : decode cL_law 256 = .ok (.aload_n 2, 1) := by decide +kernel
theorem dL_law_257 : decode cL_law 257 = .ok (.invokevirtual 72, 3) := by decide +kernel
theorem dL_law_260 : decode cL_law 260 = .ok (.if_icmp .eq 408, 3) := by decide +kernel
theorem dL_law_263 : decode cL_law 263 = .ok (.iconst 0, 1) := by decide +kernel
theorem dL_law_264 : decode cL_law 264 = .ok (.ireturn, 1) := by decide +kernel
theorem dL_law_265 : decode cL_law 265 = .ok (.aload_n 1, 1) := by decide +kernel
theorem dL_law_266 : decode cL_law 266 = .ok (.aload_n 3, 1) := by decide +kernel
theorem dL_law_267 : decode cL_law 267 = .ok (.invokestatic 73, 3) := by decide +kernel
theorem dL_law_270 : decode cL_law 270 = .ok (.istore 5, 2) := by decide +kernel
theorem dL_law_272 : decode cL_law 272 = .ok (.aload_n 2, 1) := by decide +kernel
theorem dL_law_273 : decode cL_law 273 = .ok (.invokevirtual 76, 3) := by decide +kernel
theorem dL_law_276 : decode cL_law 276 = .ok (.istore 6, 2) := by decide +kernel
theorem dL_law_278 : decode cL_law 278 = .ok (.aload_n 2, 1) := by decide +kernel
theorem dL_law_279 : decode cL_law 279 = .ok (.invokevirtual 62, 3) := by decide +kernel
theorem dL_law_282 : decode cL_law 282 = .ok (.iload 5, 2) := by decide +kernel
theorem dL_law_284 : decode cL_law 284 = .ok (.if_icmp .eq 5, 3) := by decide +kernel
theorem dL_law_287 : decode cL_law 287 = .ok (.iconst 0, 1) := by decide +kernel
theorem dL_law_288 : decode cL_law 288 = .ok (.ireturn, 1) := by decide +kernel
theorem dL_law_289 : decode cL_law 289 = .ok (.iload 5, 2) := by decide +kernel
theorem dL_law_291 : decode cL_law 291 = .ok (.ifCond .ne 22, 3) := by decide +kernel
theorem dL_law_294 : decode cL_law 294 = .ok (.aload_n 3, 1) := by decide +kernel
theorem dL_law_295 : decode cL_law 295 = .ok (.iconst 0, 1) := by decide +kernel
theorem dL_law_296 : decode cL_law 296 = .ok (.laload, 1) := by decide +kernel
theorem dL_law_297 : decode cL_law 297 = .ok (.iload 6, 2) := by decide +kernel
theorem dL_law_299 : decode cL_law 299 = .ok (.ifCond .eq 7, 3) := by decide +kernel
theorem dL_law_302 : decode cL_law 302 = .ok (.lconst 1, 1) := by decide +kernel
theorem dL_law_303 : decode cL_law 303 = .ok (.goto 4, 3) := by decide +kernel
theorem dL_law_306 : decode cL_law 306 = .ok (.lconst 0, 1) := by decide +kernel
theorem dL_law_307 : decode cL_law 307 = .ok (.lcmp, 1) := by decide +kernel
theorem dL_law_308 : decode cL_law 308 = .ok (.ifCond .eq 5, 3) := by decide +kernel
theorem dL_law_311 : decode cL_law 311 = .ok (.iconst 0, 1) := by decide +kernel
theorem dL_law_312 : decode cL_law 312 = .ok (.ireturn, 1) := by decide +kernel
theorem dL_law_313 : decode cL_law 313 = .ok (.goto 355, 3) := by decide +kernel
theorem dL_law_316 : decode cL_law 316 = .ok (.aload_n 1, 1) := by decide +kernel
theorem dL_law_317 : decode cL_law 317 = .ok (.aload_n 3, 1) := by decide +kernel
theorem dL_law_318 : decode cL_law 318 = .ok (.invokestatic 77, 3) := by decide +kernel
theorem dL_law_321 : decode cL_law 321 = .ok (.istore 5, 2) := by decide +kernel
theorem dL_law_323 : decode cL_law 323 = .ok (.aload_n 2, 1) := by decide +kernel
theorem dL_law_324 : decode cL_law 324 = .ok (.invokevirtual 79, 3) := by decide +kernel
theorem dL_law_327 : decode cL_law 327 = .ok (.istore 6, 2) := by decide +kernel
theorem dL_law_329 : decode cL_law 329 = .ok (.aload_n 2, 1) := by decide +kernel
theorem dL_law_330 : decode cL_law 330 = .ok (.invokevirtual 62, 3) := by decide +kernel
theorem dL_law_333 : decode cL_law 333 = .ok (.iload 5, 2) := by decide +kernel
theorem dL_law_335 : decode cL_law 335 = .ok (.if_icmp .eq 5, 3) := by decide +kernel
theorem dL_law_338 : decode cL_law 338 = .ok (.iconst 0, 1) := by decide +kernel
theorem dL_law_339 : decode cL_law 339 = .ok (.ireturn, 1) := by decide +kernel
theorem dL_law_340 : decode cL_law 340 = .ok (.iload 5, 2) := by decide +kernel
theorem dL_law_342 : decode cL_law 342 = .ok (.ifCond .ne 15, 3) := by decide +kernel
theorem dL_law_345 : decode cL_law 345 = .ok (.aload_n 3, 1) := by decide +kernel
theorem dL_law_346 : decode cL_law 346 = .ok (.iconst 0, 1) := by decide +kernel
theorem dL_law_347 : decode cL_law 347 = .ok (.laload, 1) := by decide +kernel
theorem dL_law_348 : decode cL_law 348 = .ok (.iload 6, 2) := by decide +kernel
theorem dL_law_350 : decode cL_law 350 = .ok (.i2l, 1) := by decide +kernel
theorem dL_law_351 : decode cL_law 351 = .ok (.lcmp, 1) := by decide +kernel
theorem dL_law_352 : decode cL_law 352 = .ok (.ifCond .eq 5, 3) := by decide +kernel
theorem dL_law_355 : decode cL_law 355 = .ok (.iconst 0, 1) := by decide +kernel
theorem dL_law_356 : decode cL_law 356 = .ok (.ireturn, 1) := by decide +kernel
theorem dL_law_357 : decode cL_law 357 = .ok (.goto 311, 3) := by decide +kernel
theorem dL_law_360 : decode cL_law 360 = .ok (.aload_n 1, 1) := by decide +kernel
theorem dL_law_361 : decode cL_law 361 = .ok (.aload_n 0, 1) := by decide +kernel
theorem dL_law_362 : decode cL_law 362 = .ok (.iload 4, 2) := by decide +kernel
theorem dL_law_364 : decode cL_law 364 = .ok (.iconst 1, 1) := by decide +kernel
theorem dL_law_365 : decode cL_law 365 = .ok (.iadd, 1) := by decide +kernel
theorem dL_law_366 : decode cL_law 366 = .ok (.iaload, 1) := by decide +kernel
theorem dL_law_367 : decode cL_law 367 = .ok (.invokestatic 80, 3) := by decide +kernel
theorem dL_law_370 : decode cL_law 370 = .ok (.istore 5, 2) := by decide +kernel
theorem dL_law_372 : decode cL_law 372 = .ok (.aload_n 2, 1) := by decide +kernel
theorem dL_law_373 : decode cL_law 373 = .ok (.aload_n 0, 1) := by decide +kernel
theorem dL_law_374 : decode cL_law 374 = .ok (.iload 4, 2) := by decide +kernel
theorem dL_law_376 : decode cL_law 376 = .ok (.iconst 1, 1) := by decide +kernel
theorem dL_law_377 : decode cL_law 377 = .ok (.iadd, 1) := by decide +kernel
theorem dL_law_378 : decode cL_law 378 = .ok (.iaload, 1) := by decide +kernel
theorem dL_law_379 : decode cL_law 379 = .ok (.invokevirtual 83, 3) := by decide +kernel
theorem dL_law_382 : decode cL_law 382 = .ok (.aload_n 2, 1) := by decide +kernel
theorem dL_law_383 : decode cL_law 383 = .ok (.invokevirtual 62, 3) := by decide +kernel
theorem dL_law_386 : decode cL_law 386 = .ok (.iload 5, 2) := by decide +kernel
theorem dL_law_388 : decode cL_law 388 = .ok (.if_icmp .eq 5, 3) := by decide +kernel
theorem dL_law_391 : decode cL_law 391 = .ok (.iconst 0, 1) := by decide +kernel
theorem dL_law_392 : decode cL_law 392 = .ok (.ireturn, 1) := by decide +kernel
theorem dL_law_393 : decode cL_law 393 = .ok (.goto 275, 3) := by decide +kernel
theorem dL_law_396 : decode cL_law 396 = .ok (.aload_n 1, 1) := by decide +kernel
theorem dL_law_397 : decode cL_law 397 = .ok (.invokevirtual 84, 3) := by decide +kernel
theorem dL_law_400 : decode cL_law 400 = .ok (.aload_n 2, 1) := by decide +kernel
theorem dL_law_401 : decode cL_law 401 = .ok (.invokevirtual 87, 3) := by decide +kernel
theorem dL_law_404 : decode cL_law 404 = .ok (.if_icmp .eq 264, 3) := by decide +kernel
theorem dL_law_407 : decode cL_law 407 = .ok (.iconst 0, 1) := by decide +kernel
theorem dL_law_408 : decode cL_law 408 = .ok (.ireturn, 1) := by decide +kernel
theorem dL_law_409 : decode cL_law 409 = .ok (.aload_n 1, 1) := by decide +kernel
theorem dL_law_410 : decode cL_law 410 = .ok (.aload_n 0, 1) := by decide +kernel
theorem dL_law_411 : decode cL_law 411 = .ok (.iload 4, 2) := by decide +kernel
theorem dL_law_413 : decode cL_law 413 = .ok (.iconst 1, 1) := by decide +kernel
theorem dL_law_414 : decode cL_law 414 = .ok (.iadd, 1) := by decide +kernel
theorem dL_law_415 : decode cL_law 415 = .ok (.iaload, 1) := by decide +kernel
theorem dL_law_416 : decode cL_law 416 = .ok (.aload_n 0, 1) := by decide +kernel
theorem dL_law_417 : decode cL_law 417 = .ok (.iload 4, 2) := by decide +kernel
theorem dL_law_419 : decode cL_law 419 = .ok (.iconst 2, 1) := by decide +kernel
theorem dL_law_420 : decode cL_law 420 = .ok (.iadd, 1) := by decide +kernel
theorem dL_law_421 : decode cL_law 421 = .ok (.iaload, 1) := by decide +kernel
theorem dL_law_422 : decode cL_law 422 = .ok (.aload_n 0, 1) := by decide +kernel
theorem dL_law_423 : decode cL_law 423 = .ok (.iload 4, 2) := by decide +kernel
theorem dL_law_425 : decode cL_law 425 = .ok (.iconst 3, 1) := by decide +kernel
theorem dL_law_426 : decode cL_law 426 = .ok (.iadd, 1) := by decide +kernel
theorem dL_law_427 : decode cL_law 427 = .ok (.iaload, 1) := by decide +kernel
theorem dL_law_428 : decode cL_law 428 = .ok (.aload_n 3, 1) := by decide +kernel
theorem dL_law_429 : decode cL_law 429 = .ok (.invokestatic 88, 3) := by decide +kernel
theorem dL_law_432 : decode cL_law 432 = .ok (.istore 5, 2) := by decide +kernel
theorem dL_law_434 : decode cL_law 434 = .ok (.aload_n 2, 1) := by decide +kernel
theorem dL_law_435 : decode cL_law 435 = .ok (.aload_n 0, 1) := by decide +kernel
theorem dL_law_436 : decode cL_law 436 = .ok (.iload 4, 2) := by decide +kernel
theorem dL_law_438 : decode cL_law 438 = .ok (.iconst 1, 1) := by decide +kernel
theorem dL_law_439 : decode cL_law 439 = .ok (.iadd, 1) := by decide +kernel
theorem dL_law_440 : decode cL_law 440 = .ok (.iaload, 1) := by decide +kernel
theorem dL_law_441 : decode cL_law 441 = .ok (.aload_n 0, 1) := by decide +kernel
theorem dL_law_442 : decode cL_law 442 = .ok (.iload 4, 2) := by decide +kernel
theorem dL_law_444 : decode cL_law 444 = .ok (.iconst 2, 1) := by decide +kernel
theorem dL_law_445 : decode cL_law 445 = .ok (.iadd, 1) := by decide +kernel
theorem dL_law_446 : decode cL_law 446 = .ok (.iaload, 1) := by decide +kernel
theorem dL_law_447 : decode cL_law 447 = .ok (.aload_n 0, 1) := by decide +kernel
theorem dL_law_448 : decode cL_law 448 = .ok (.iload 4, 2) := by decide +kernel
theorem dL_law_450 : decode cL_law 450 = .ok (.iconst 3, 1) := by decide +kernel
theorem dL_law_451 : decode cL_law 451 = .ok (.iadd, 1) := by decide +kernel
theorem dL_law_452 : decode cL_law 452 = .ok (.iaload, 1) := by decide +kernel
theorem dL_law_453 : decode cL_law 453 = .ok (.invokevirtual 91, 3) := by decide +kernel
theorem dL_law_456 : decode cL_law 456 = .ok (.istore 6, 2) := by decide +kernel
theorem dL_law_458 : decode cL_law 458 = .ok (.aload_n 2, 1) := by decide +kernel
theorem dL_law_459 : decode cL_law 459 = .ok (.invokevirtual 62, 3) := by decide +kernel
theorem dL_law_462 : decode cL_law 462 = .ok (.iload 5, 2) := by decide +kernel
theorem dL_law_464 : decode cL_law 464 = .ok (.if_icmp .eq 5, 3) := by decide +kernel
theorem dL_law_467 : decode cL_law 467 = .ok (.iconst 0, 1) := by decide +kernel
theorem dL_law_468 : decode cL_law 468 = .ok (.ireturn, 1) := by decide +kernel
theorem dL_law_469 : decode cL_law 469 = .ok (.iload 5, 2) := by decide +kernel
theorem dL_law_471 : decode cL_law 471 = .ok (.ifCond .ne 15, 3) := by decide +kernel
theorem dL_law_474 : decode cL_law 474 = .ok (.aload_n 3, 1) := by decide +kernel
theorem dL_law_475 : decode cL_law 475 = .ok (.iconst 0, 1) := by decide +kernel
theorem dL_law_476 : decode cL_law 476 = .ok (.laload, 1) := by decide +kernel
theorem dL_law_477 : decode cL_law 477 = .ok (.iload 6, 2) := by decide +kernel
theorem dL_law_479 : decode cL_law 479 = .ok (.i2l, 1) := by decide +kernel
theorem dL_law_480 : decode cL_law 480 = .ok (.lcmp, 1) := by decide +kernel
theorem dL_law_481 : decode cL_law 481 = .ok (.ifCond .eq 5, 3) := by decide +kernel
theorem dL_law_484 : decode cL_law 484 = .ok (.iconst 0, 1) := by decide +kernel
theorem dL_law_485 : decode cL_law 485 = .ok (.ireturn, 1) := by decide +kernel
theorem dL_law_486 : decode cL_law 486 = .ok (.goto 182, 3) := by decide +kernel
theorem dL_law_489 : decode cL_law 489 = .ok (.aload_n 1, 1) := by decide +kernel
theorem dL_law_490 : decode cL_law 490 = .ok (.aload_n 0, 1) := by decide +kernel
theorem dL_law_491 : decode cL_law 491 = .ok (.iload 4, 2) := by decide +kernel
theorem dL_law_493 : decode cL_law 493 = .ok (.iconst 1, 1) := by decide +kernel
theorem dL_law_494 : decode cL_law 494 = .ok (.iadd, 1) := by decide +kernel
theorem dL_law_495 : decode cL_law 495 = .ok (.iaload, 1) := by decide +kernel
theorem dL_law_496 : decode cL_law 496 = .ok (.aload_n 0, 1) := by decide +kernel
theorem dL_law_497 : decode cL_law 497 = .ok (.iload 4, 2) := by decide +kernel
theorem dL_law_499 : decode cL_law 499 = .ok (.iconst 2, 1) := by decide +kernel
theorem dL_law_500 : decode cL_law 500 = .ok (.iadd, 1) := by decide +kernel
theorem dL_law_501 : decode cL_law 501 = .ok (.iaload, 1) := by decide +kernel
theorem dL_law_502 : decode cL_law 502 = .ok (.aload_n 3, 1) := by decide +kernel
theorem dL_law_503 : decode cL_law 503 = .ok (.invokestatic 92, 3) := by decide +kernel
theorem dL_law_506 : decode cL_law 506 = .ok (.istore 5, 2) := by decide +kernel
theorem dL_law_508 : decode cL_law 508 = .ok (.aload_n 2, 1) := by decide +kernel
theorem dL_law_509 : decode cL_law 509 = .ok (.aload_n 0, 1) := by decide +kernel
theorem dL_law_510 : decode cL_law 510 = .ok (.iload 4, 2) := by decide +kernel
theorem dL_law_512 : decode cL_law 512 = .ok (.iconst 1, 1) := by decide +kernel
theorem dL_law_513 : decode cL_law 513 = .ok (.iadd, 1) := by decide +kernel
theorem dL_law_514 : decode cL_law 514 = .ok (.iaload, 1) := by decide +kernel
theorem dL_law_515 : decode cL_law 515 = .ok (.aload_n 0, 1) := by decide +kernel
theorem dL_law_516 : decode cL_law 516 = .ok (.iload 4, 2) := by decide +kernel
theorem dL_law_518 : decode cL_law 518 = .ok (.iconst 2, 1) := by decide +kernel
theorem dL_law_519 : decode cL_law 519 = .ok (.iadd, 1) := by decide +kernel
theorem dL_law_520 : decode cL_law 520 = .ok (.iaload, 1) := by decide +kernel
theorem dL_law_521 : decode cL_law 521 = .ok (.invokevirtual 95, 3) := by decide +kernel
theorem dL_law_524 : decode cL_law 524 = .ok (.istore 6, 2) := by decide +kernel
theorem dL_law_526 : decode cL_law 526 = .ok (.aload_n 2, 1) := by decide +kernel
theorem dL_law_527 : decode cL_law 527 = .ok (.invokevirtual 62, 3) := by decide +kernel
theorem dL_law_530 : decode cL_law 530 = .ok (.iload 5, 2) := by decide +kernel
theorem dL_law_532 : decode cL_law 532 = .ok (.if_icmp .eq 5, 3) := by decide +kernel
theorem dL_law_535 : decode cL_law 535 = .ok (.iconst 0, 1) := by decide +kernel
theorem dL_law_536 : decode cL_law 536 = .ok (.ireturn, 1) := by decide +kernel
theorem dL_law_537 : decode cL_law 537 = .ok (.iload 5, 2) := by decide +kernel
theorem dL_law_539 : decode cL_law 539 = .ok (.ifCond .ne 15, 3) := by decide +kernel
theorem dL_law_542 : decode cL_law 542 = .ok (.aload_n 3, 1) := by decide +kernel
theorem dL_law_543 : decode cL_law 543 = .ok (.iconst 0, 1) := by decide +kernel
theorem dL_law_544 : decode cL_law 544 = .ok (.laload, 1) := by decide +kernel
theorem dL_law_545 : decode cL_law 545 = .ok (.iload 6, 2) := by decide +kernel
theorem dL_law_547 : decode cL_law 547 = .ok (.i2l, 1) := by decide +kernel
theorem dL_law_548 : decode cL_law 548 = .ok (.lcmp, 1) := by decide +kernel
theorem dL_law_549 : decode cL_law 549 = .ok (.ifCond .eq 5, 3) := by decide +kernel
theorem dL_law_552 : decode cL_law 552 = .ok (.iconst 0, 1) := by decide +kernel
theorem dL_law_553 : decode cL_law 553 = .ok (.ireturn, 1) := by decide +kernel
theorem dL_law_554 : decode cL_law 554 = .ok (.goto 114, 3) := by decide +kernel
theorem dL_law_557 : decode cL_law 557 = .ok (.aload_n 1, 1) := by decide +kernel
theorem dL_law_558 : decode cL_law 558 = .ok (.aload_n 0, 1) := by decide +kernel
theorem dL_law_559 : decode cL_law 559 = .ok (.iload 4, 2) := by decide +kernel
theorem dL_law_561 : decode cL_law 561 = .ok (.iconst 1, 1) := by decide +kernel
theorem dL_law_562 : decode cL_law 562 = .ok (.iadd, 1) := by decide +kernel
theorem dL_law_563 : decode cL_law 563 = .ok (.iaload, 1) := by decide +kernel
theorem dL_law_564 : decode cL_law 564 = .ok (.aload_n 3, 1) := by decide +kernel
theorem dL_law_565 : decode cL_law 565 = .ok (.invokestatic 96, 3) := by decide +kernel
theorem dL_law_568 : decode cL_law 568 = .ok (.istore 5, 2) := by decide +kernel
theorem dL_law_570 : decode cL_law 570 = .ok (.aload_n 2, 1) := by decide +kernel
theorem dL_law_571 : decode cL_law 571 = .ok (.aload_n 0, 1) := by decide +kernel
theorem dL_law_572 : decode cL_law 572 = .ok (.iload 4, 2) := by decide +kernel
theorem dL_law_574 : decode cL_law 574 = .ok (.iconst 1, 1) := by decide +kernel
theorem dL_law_575 : decode cL_law 575 = .ok (.iadd, 1) := by decide +kernel
theorem dL_law_576 : decode cL_law 576 = .ok (.iaload, 1) := by decide +kernel
theorem dL_law_577 : decode cL_law 577 = .ok (.invokevirtual 98, 3) := by decide +kernel
theorem dL_law_580 : decode cL_law 580 = .ok (.istore 6, 2) := by decide +kernel
theorem dL_law_582 : decode cL_law 582 = .ok (.aload_n 2, 1) := by decide +kernel
theorem dL_law_583 : decode cL_law 583 = .ok (.invokevirtual 62, 3) := by decide +kernel
theorem dL_law_586 : decode cL_law 586 = .ok (.iload 5, 2) := by decide +kernel
theorem dL_law_588 : decode cL_law 588 = .ok (.if_icmp .eq 5, 3) := by decide +kernel
theorem dL_law_591 : decode cL_law 591 = .ok (.iconst 0, 1) := by decide +kernel
theorem dL_law_592 : decode cL_law 592 = .ok (.ireturn, 1) := by decide +kernel
theorem dL_law_593 : decode cL_law 593 = .ok (.iload 5, 2) := by decide +kernel
theorem dL_law_595 : decode cL_law 595 = .ok (.ifCond .ne 15, 3) := by decide +kernel
theorem dL_law_598 : decode cL_law 598 = .ok (.aload_n 3, 1) := by decide +kernel
theorem dL_law_599 : decode cL_law 599 = .ok (.iconst 0, 1) := by decide +kernel
theorem dL_law_600 : decode cL_law 600 = .ok (.laload, 1) := by decide +kernel
theorem dL_law_601 : decode cL_law 601 = .ok (.iload 6, 2) := by decide +kernel
theorem dL_law_603 : decode cL_law 603 = .ok (.i2l, 1) := by decide +kernel
theorem dL_law_604 : decode cL_law 604 = .ok (.lcmp, 1) := by decide +kernel
theorem dL_law_605 : decode cL_law 605 = .ok (.ifCond .eq 5, 3) := by decide +kernel
theorem dL_law_608 : decode cL_law 608 = .ok (.iconst 0, 1) := by decide +kernel
theorem dL_law_609 : decode cL_law 609 = .ok (.ireturn, 1) := by decide +kernel
theorem dL_law_610 : decode cL_law 610 = .ok (.goto 58, 3) := by decide +kernel
theorem dL_law_613 : decode cL_law 613 = .ok (.aload_n 1, 1) := by decide +kernel
theorem dL_law_614 : decode cL_law 614 = .ok (.aload_n 0, 1) := by decide +kernel
theorem dL_law_615 : decode cL_law 615 = .ok (.iload 4, 2) := by decide +kernel
theorem dL_law_617 : decode cL_law 617 = .ok (.iconst 1, 1) := by decide +kernel
theorem dL_law_618 : decode cL_law 618 = .ok (.iadd, 1) := by decide +kernel
theorem dL_law_619 : decode cL_law 619 = .ok (.iaload, 1) := by decide +kernel
theorem dL_law_620 : decode cL_law 620 = .ok (.aload_n 3, 1) := by decide +kernel
theorem dL_law_621 : decode cL_law 621 = .ok (.invokestatic 99, 3) := by decide +kernel
theorem dL_law_624 : decode cL_law 624 = .ok (.istore 5, 2) := by decide +kernel
theorem dL_law_626 : decode cL_law 626 = .ok (.aload_n 2, 1) := by decide +kernel
theorem dL_law_627 : decode cL_law 627 = .ok (.aload_n 0, 1) := by decide +kernel
theorem dL_law_628 : decode cL_law 628 = .ok (.iload 4, 2) := by decide +kernel
theorem dL_law_630 : decode cL_law 630 = .ok (.iconst 1, 1) := by decide +kernel
theorem dL_law_631 : decode cL_law 631 = .ok (.iadd, 1) := by decide +kernel
theorem dL_law_632 : decode cL_law 632 = .ok (.iaload, 1) := by decide +kernel
theorem dL_law_633 : decode cL_law 633 = .ok (.invokevirtual 101, 3) := by decide +kernel
theorem dL_law_636 : decode cL_law 636 = .ok (.lstore 6, 2) := by decide +kernel
theorem dL_law_638 : decode cL_law 638 = .ok (.aload_n 2, 1) := by decide +kernel
theorem dL_law_639 : decode cL_law 639 = .ok (.invokevirtual 62, 3) := by decide +kernel
theorem dL_law_642 : decode cL_law 642 = .ok (.iload 5, 2) := by decide +kernel
theorem dL_law_644 : decode cL_law 644 = .ok (.if_icmp .eq 5, 3) := by decide +kernel
theorem dL_law_647 : decode cL_law 647 = .ok (.iconst 0, 1) := by decide +kernel
theorem dL_law_648 : decode cL_law 648 = .ok (.ireturn, 1) := by decide +kernel
theorem dL_law_649 : decode cL_law 649 = .ok (.iload 5, 2) := by decide +kernel
theorem dL_law_651 : decode cL_law 651 = .ok (.ifCond .ne 14, 3) := by decide +kernel
theorem dL_law_654 : decode cL_law 654 = .ok (.aload_n 3, 1) := by decide +kernel
theorem dL_law_655 : decode cL_law 655 = .ok (.iconst 0, 1) := by decide +kernel
theorem dL_law_656 : decode cL_law 656 = .ok (.laload, 1) := by decide +kernel
theorem dL_law_657 : decode cL_law 657 = .ok (.lload 6, 2) := by decide +kernel
theorem dL_law_659 : decode cL_law 659 = .ok (.lcmp, 1) := by decide +kernel
theorem dL_law_660 : decode cL_law 660 = .ok (.ifCond .eq 5, 3) := by decide +kernel
theorem dL_law_663 : decode cL_law 663 = .ok (.iconst 0, 1) := by decide +kernel
theorem dL_law_664 : decode cL_law 664 = .ok (.ireturn, 1) := by decide +kernel
theorem dL_law_665 : decode cL_law 665 = .ok (.goto 3, 3) := by decide +kernel
theorem dL_law_668 : decode cL_law 668 = .ok (.iinc 4 4, 3) := by decide +kernel
theorem dL_law_671 : decode cL_law 671 = .ok (.goto (-648), 3) := by decide +kernel
theorem dL_law_674 : decode cL_law 674 = .ok (.iconst 1, 1) := by decide +kernel
theorem dL_law_675 : decode cL_law 675 = .ok (.ireturn, 1) := by decide +kernel
end
section
theorem dX0_init_0 : decode cX0_init 0 = .ok (.aload_n 0, 1) := by decide +kernel
theorem dX0_init_1 : decode cX0_init 1 = .ok (.invokespecial 1, 3) := by decide +kernel
theorem dX0_init_4 : decode cX0_init 4 = .ok (.aload_n 0, 1) := by decide +kernel
theorem dX0_init_5 : decode cX0_init 5 = .ok (.sipush 6144, 3) := by decide +kernel
theorem dX0_init_8 : decode cX0_init 8 = .ok (.newarray .int, 2) := by decide +kernel
theorem dX0_init_10 : decode cX0_init 10 = .ok (.putfield 9, 3) := by decide +kernel
theorem dX0_init_13 : decode cX0_init 13 = .ok (.aload_n 0, 1) := by decide +kernel
theorem dX0_init_14 : decode cX0_init 14 = .ok (.sipush 256, 3) := by decide +kernel
theorem dX0_init_17 : decode cX0_init 17 = .ok (.newarray .int, 2) := by decide +kernel
theorem dX0_init_19 : decode cX0_init 19 = .ok (.putfield 13, 3) := by decide +kernel
theorem dX0_init_22 : decode cX0_init 22 = .ok (.aload_n 0, 1) := by decide +kernel
theorem dX0_init_23 : decode cX0_init 23 = .ok (.bipush 64, 2) := by decide +kernel
theorem dX0_init_25 : decode cX0_init 25 = .ok (.newarray .int, 2) := by decide +kernel
theorem dX0_init_27 : decode cX0_init 27 = .ok (.putfield 16, 3) := by decide +kernel
theorem dX0_init_30 : decode cX0_init 30 = .ok (.aload_n 0, 1) := by decide +kernel
theorem dX0_init_31 : decode cX0_init 31 = .ok (.bipush 64, 2) := by decide +kernel
theorem dX0_init_33 : decode cX0_init 33 = .ok (.newarray .int, 2) := by decide +kernel
theorem dX0_init_35 : decode cX0_init 35 = .ok (.putfield 19, 3) := by decide +kernel
theorem dX0_init_38 : decode cX0_init 38 = .ok (.aload_n 0, 1) := by decide +kernel
theorem dX0_init_39 : decode cX0_init 39 = .ok (.bipush 24, 2) := by decide +kernel
theorem dX0_init_41 : decode cX0_init 41 = .ok (.newarray .int, 2) := by decide +kernel
theorem dX0_init_43 : decode cX0_init 43 = .ok (.putfield 22, 3) := by decide +kernel
theorem dX0_init_46 : decode cX0_init 46 = .ok (.aload_n 0, 1) := by decide +kernel
theorem dX0_init_47 : decode cX0_init 47 = .ok (.sipush 1536, 3) := by decide +kernel
theorem dX0_init_50 : decode cX0_init 50 = .ok (.newarray .int, 2) := by decide +kernel
theorem dX0_init_52 : decode cX0_init 52 = .ok (.putfield 25, 3) := by decide +kernel
theorem dX0_init_55 : decode cX0_init 55 = .ok (.aload_n 0, 1) := by decide +kernel
theorem dX0_init_56 : decode cX0_init 56 = .ok (.iconst (-1), 1) := by decide +kernel
theorem dX0_init_57 : decode cX0_init 57 = .ok (.putfield 28, 3) := by decide +kernel
theorem dX0_init_60 : decode cX0_init 60 = .ok (.iconst 0, 1) := by decide +kernel
theorem dX0_init_61 : decode cX0_init 61 = .ok (.istore_n 1, 1) := by decide +kernel
theorem dX0_init_62 : decode cX0_init 62 = .ok (.iload_n 1, 1) := by decide +kernel
theorem dX0_init_63 : decode cX0_init 63 = .ok (.sipush 255, 3) := by decide +kernel
theorem dX0_init_66 : decode cX0_init 66 = .ok (.if_icmp .gt 19, 3) := by decide +kernel
theorem dX0_init_69 : decode cX0_init 69 = .ok (.aload_n 0, 1) := by decide +kernel
theorem dX0_init_70 : decode cX0_init 70 = .ok (.getfield 13, 3) := by decide +kernel
theorem dX0_init_73 : decode cX0_init 73 = .ok (.iload_n 1, 1) := by decide +kernel
theorem dX0_init_74 : decode cX0_init 74 = .ok (.iload_n 1, 1) := by decide +kernel
theorem dX0_init_75 : decode cX0_init 75 = .ok (.invokestatic 32, 3) := by decide +kernel
theorem dX0_init_78 : decode cX0_init 78 = .ok (.iastore, 1) := by decide +kernel
theorem dX0_init_79 : decode cX0_init 79 = .ok (.iinc 1 1, 3) := by decide +kernel
theorem dX0_init_82 : decode cX0_init 82 = .ok (.goto (-20), 3) := by decide +kernel
theorem dX0_init_85 : decode cX0_init 85 = .ok (.return_, 1) := by decide +kernel
theorem dX0_feed_0 : decode cX0_feed 0 = .ok (.iload_n 1, 1) := by decide +kernel
theorem dX0_feed_1 : decode cX0_feed 1 = .ok (.iconst 1, 1) := by decide +kernel
theorem dX0_feed_2 : decode cX0_feed 2 = .ok (.if_icmp .lt 9, 3) := by decide +kernel
theorem dX0_feed_5 : decode cX0_feed 5 = .ok (.iload_n 1, 1) := by decide +kernel
theorem dX0_feed_6 : decode cX0_feed 6 = .ok (.bipush 8, 2) := by decide +kernel
theorem dX0_feed_8 : decode cX0_feed 8 = .ok (.if_icmp .le 13, 3) := by decide +kernel
theorem dX0_feed_11 : decode cX0_feed 11 = .ok (.new 36, 3) := by decide +kernel
theorem dX0_feed_14 : decode cX0_feed 14 = .ok (.dup, 1) := by decide +kernel
theorem dX0_feed_15 : decode cX0_feed 15 = .ok (.ldc 38, 2) := by decide +kernel
theorem dX0_feed_17 : decode cX0_feed 17 = .ok (.invokespecial 40, 3) := by decide +kernel
theorem dX0_feed_20 : decode cX0_feed 20 = .ok (.athrow, 1) := by decide +kernel
theorem dX0_feed_21 : decode cX0_feed 21 = .ok (.aload_n 0, 1) := by decide +kernel
theorem dX0_feed_22 : decode cX0_feed 22 = .ok (.getfield 43, 3) := by decide +kernel
theorem dX0_feed_25 : decode cX0_feed 25 = .ok (.iload_n 1, 1) := by decide +kernel
theorem dX0_feed_26 : decode cX0_feed 26 = .ok (.iadd, 1) := by decide +kernel
theorem dX0_feed_27 : decode cX0_feed 27 = .ok (.bipush 64, 2) := by decide +kernel
theorem dX0_feed_29 : decode cX0_feed 29 = .ok (.if_icmp .le 13, 3) := by decide +kernel
theorem dX0_feed_32 : decode cX0_feed 32 = .ok (.new 46, 3) := by decide +kernel
theorem dX0_feed_35 : decode cX0_feed 35 = .ok (.dup, 1) := by decide +kernel
theorem dX0_feed_36 : decode cX0_feed 36 = .ok (.ldc 48, 2) := by decide +kernel
theorem dX0_feed_38 : decode cX0_feed 38 = .ok (.invokespecial 50, 3) := by decide +kernel
theorem dX0_feed_41 : decode cX0_feed 41 = .ok (.athrow, 1) := by decide +kernel
theorem dX0_feed_42 : decode cX0_feed 42 = .ok (.iconst 0, 1) := by decide +kernel
theorem dX0_feed_43 : decode cX0_feed 43 = .ok (.istore 4, 2) := by decide +kernel
theorem dX0_feed_45 : decode cX0_feed 45 = .ok (.iload 4, 2) := by decide +kernel
theorem dX0_feed_47 : decode cX0_feed 47 = .ok (.iload_n 1, 1) := by decide +kernel
theorem dX0_feed_48 : decode cX0_feed 48 = .ok (.if_icmp .ge 33, 3) := by decide +kernel
theorem dX0_feed_51 : decode cX0_feed 51 = .ok (.aload_n 0, 1) := by decide +kernel
theorem dX0_feed_52 : decode cX0_feed 52 = .ok (.getfield 19, 3) := by decide +kernel
theorem dX0_feed_55 : decode cX0_feed 55 = .ok (.aload_n 0, 1) := by decide +kernel
theorem dX0_feed_56 : decode cX0_feed 56 = .ok (.getfield 43, 3) := by decide +kernel
theorem dX0_feed_59 : decode cX0_feed 59 = .ok (.iload 4, 2) := by decide +kernel
theorem dX0_feed_61 : decode cX0_feed 61 = .ok (.iadd, 1) := by decide +kernel
theorem dX0_feed_62 : decode cX0_feed 62 = .ok (.lload_n 2, 1) := by decide +kernel
theorem dX0_feed_63 : decode cX0_feed 63 = .ok (.bipush 8, 2) := by decide +kernel
theorem dX0_feed_65 : decode cX0_feed 65 = .ok (.iload 4, 2) := by decide +kernel
theorem dX0_feed_67 : decode cX0_feed 67 = .ok (.imul, 1) := by decide +kernel
theorem dX0_feed_68 : decode cX0_feed 68 = .ok (.lushr, 1) := by decide +kernel
theorem dX0_feed_69 : decode cX0_feed 69 = .ok (.l2i, 1) := by decide +kernel
theorem dX0_feed_70 : decode cX0_feed 70 = .ok (.sipush 255, 3) := by decide +kernel
theorem dX0_feed_73 : decode cX0_feed 73 = .ok (.iand, 1) := by decide +kernel
theorem dX0_feed_74 : decode cX0_feed 74 = .ok (.iastore, 1) := by decide +kernel
theorem dX0_feed_75 : decode cX0_feed 75 = .ok (.iinc 4 1, 3) := by decide +kernel
theorem dX0_feed_78 : decode cX0_feed 78 = .ok (.goto (-33), 3) := by decide +kernel
theorem dX0_feed_81 : decode cX0_feed 81 = .ok (.aload_n 0, 1) := by decide +kernel
theorem dX0_feed_82 : decode cX0_feed 82 = .ok (.dup, 1) := by decide +kernel
theorem dX0_feed_83 : decode cX0_feed 83 = .ok (.getfield 43, 3) := by decide +kernel
theorem dX0_feed_86 : decode cX0_feed 86 = .ok (.iload_n 1, 1) := by decide +kernel
theorem dX0_feed_87 : decode cX0_feed 87 = .ok (.iadd, 1) := by decide +kernel
theorem dX0_feed_88 : decode cX0_feed 88 = .ok (.putfield 43, 3) := by decide +kernel
theorem dX0_feed_91 : decode cX0_feed 91 = .ok (.aload_n 0, 1) := by decide +kernel
theorem dX0_feed_92 : decode cX0_feed 92 = .ok (.getfield 43, 3) := by decide +kernel
theorem dX0_feed_95 : decode cX0_feed 95 = .ok (.ireturn, 1) := by decide +kernel
theorem dX0_put_0 : decode cX0_put 0 = .ok (.iload_n 1, 1) := by decide +kernel
theorem dX0_put_1 : decode cX0_put 1 = .ok (.invokestatic 51, 3) := by decide +kernel
theorem dX0_put_4 : decode cX0_put 4 = .ok (.ifCond .ne 13, 3) := by decide +kernel
theorem dX0_put_7 : decode cX0_put 7 = .ok (.new 36, 3) := by decide +kernel
theorem dX0_put_10 : decode cX0_put 10 = .ok (.dup, 1) := by decide +kernel
theorem dX0_put_11 : decode cX0_put 11 = .ok (.ldc 55, 2) := by decide +kernel
theorem dX0_put_13 : decode cX0_put 13 = .ok (.invokespecial 40, 3) := by decide +kernel
theorem dX0_put_16 : decode cX0_put 16 = .ok (.athrow, 1) := by decide +kernel
theorem dX0_put_17 : decode cX0_put 17 = .ok (.aload_n 0, 1) := by decide +kernel
theorem dX0_put_18 : decode cX0_put 18 = .ok (.iload_n 1, 1) := by decide +kernel
theorem dX0_put_19 : decode cX0_put 19 = .ok (.invokevirtual 57, 3) := by decide +kernel
theorem dX0_put_22 : decode cX0_put 22 = .ok (.istore_n 2, 1) := by decide +kernel
theorem dX0_put_23 : decode cX0_put 23 = .ok (.aload_n 0, 1) := by decide +kernel
theorem dX0_put_24 : decode cX0_put 24 = .ok (.iload_n 2, 1) := by decide +kernel
theorem dX0_put_25 : decode cX0_put 25 = .ok (.iload_n 1, 1) := by decide +kernel
theorem dX0_put_26 : decode cX0_put 26 = .ok (.invokevirtual 60, 3) := by decide +kernel
theorem dX0_put_29 : decode cX0_put 29 = .ok (.ifCond .ne 28, 3) := by decide +kernel
theorem dX0_put_32 : decode cX0_put 32 = .ok (.aload_n 0, 1) := by decide +kernel
theorem dX0_put_33 : decode cX0_put 33 = .ok (.getfield 64, 3) := by decide +kernel
theorem dX0_put_36 : decode cX0_put 36 = .ok (.bipush 24, 2) := by decide +kernel
theorem dX0_put_38 : decode cX0_put 38 = .ok (.if_icmp .lt 13, 3) := by decide +kernel
theorem dX0_put_41 : decode cX0_put 41 = .ok (.new 46, 3) := by decide +kernel
theorem dX0_put_44 : decode cX0_put 44 = .ok (.dup, 1) := by decide +kernel
theorem dX0_put_45 : decode cX0_put 45 = .ok (.ldc 67, 2) := by decide +kernel
theorem dX0_put_47 : decode cX0_put 47 = .ok (.invokespecial 50, 3) := by decide +kernel
theorem dX0_put_50 : decode cX0_put 50 = .ok (.athrow, 1) := by decide +kernel
theorem dX0_put_51 : decode cX0_put 51 = .ok (.aload_n 0, 1) := by decide +kernel
theorem dX0_put_52 : decode cX0_put 52 = .ok (.iload_n 2, 1) := by decide +kernel
theorem dX0_put_53 : decode cX0_put 53 = .ok (.iload_n 1, 1) := by decide +kernel
theorem dX0_put_54 : decode cX0_put 54 = .ok (.invokevirtual 69, 3) := by decide +kernel
theorem dX0_put_57 : decode cX0_put 57 = .ok (.aload_n 0, 1) := by decide +kernel
theorem dX0_put_58 : decode cX0_put 58 = .ok (.getfield 19, 3) := by decide +kernel
theorem dX0_put_61 : decode cX0_put 61 = .ok (.iconst 0, 1) := by decide +kernel
theorem dX0_put_62 : decode cX0_put 62 = .ok (.aload_n 0, 1) := by decide +kernel
theorem dX0_put_63 : decode cX0_put 63 = .ok (.getfield 25, 3) := by decide +kernel
theorem dX0_put_66 : decode cX0_put 66 = .ok (.iload_n 2, 1) := by decide +kernel
theorem dX0_put_67 : decode cX0_put 67 = .ok (.bipush 64, 2) := by decide +kernel
theorem dX0_put_69 : decode cX0_put 69 = .ok (.imul, 1) := by decide +kernel
theorem dX0_put_70 : decode cX0_put 70 = .ok (.bipush 64, 2) := by decide +kernel
theorem dX0_put_72 : decode cX0_put 72 = .ok (.invokestatic 73, 3) := by decide +kernel
theorem dX0_put_75 : decode cX0_put 75 = .ok (.aload_n 0, 1) := by decide +kernel
theorem dX0_put_76 : decode cX0_put 76 = .ok (.getfield 19, 3) := by decide +kernel
theorem dX0_put_79 : decode cX0_put 79 = .ok (.iconst 0, 1) := by decide +kernel
theorem dX0_put_80 : decode cX0_put 80 = .ok (.invokestatic 79, 3) := by decide +kernel
theorem dX0_put_83 : decode cX0_put 83 = .ok (.aload_n 0, 1) := by decide +kernel
theorem dX0_put_84 : decode cX0_put 84 = .ok (.iconst 0, 1) := by decide +kernel
theorem dX0_put_85 : decode cX0_put 85 = .ok (.putfield 43, 3) := by decide +kernel
theorem dX0_put_88 : decode cX0_put 88 = .ok (.aload_n 0, 1) := by decide +kernel
theorem dX0_put_89 : decode cX0_put 89 = .ok (.getfield 64, 3) := by decide +kernel
theorem dX0_put_92 : decode cX0_put 92 = .ok (.ireturn, 1) := by decide +kernel
theorem dX0_drop_0 : decode cX0_drop 0 = .ok (.aload_n 0, 1) := by decide +kernel
theorem dX0_drop_1 : decode cX0_drop 1 = .ok (.getfield 64, 3) := by decide +kernel
theorem dX0_drop_4 : decode cX0_drop 4 = .ok (.istore_n 1, 1) := by decide +kernel
theorem dX0_drop_5 : decode cX0_drop 5 = .ok (.aload_n 0, 1) := by decide +kernel
theorem dX0_drop_6 : decode cX0_drop 6 = .ok (.iconst 0, 1) := by decide +kernel
theorem dX0_drop_7 : decode cX0_drop 7 = .ok (.putfield 64, 3) := by decide +kernel
theorem dX0_drop_10 : decode cX0_drop 10 = .ok (.iload_n 1, 1) := by decide +kernel
theorem dX0_drop_11 : decode cX0_drop 11 = .ok (.ireturn, 1) := by decide +kernel
theorem dX0_commit_0 : decode cX0_commit 0 = .ok (.aload_n 0, 1) := by decide +kernel
theorem dX0_commit_1 : decode cX0_commit 1 = .ok (.getfield 64, 3) := by decide +kernel
theorem dX0_commit_4 : decode cX0_commit 4 = .ok (.ifCond .eq 10, 3) := by decide +kernel
theorem dX0_commit_7 : decode cX0_commit 7 = .ok (.aload_n 0, 1) := by decide +kernel
theorem dX0_commit_8 : decode cX0_commit 8 = .ok (.getfield 85, 3) := by decide +kernel
theorem dX0_commit_11 : decode cX0_commit 11 = .ok (.ifCond .eq 13, 3) := by decide +kernel
theorem dX0_commit_14 : decode cX0_commit 14 = .ok (.new 46, 3) := by decide +kernel
theorem dX0_commit_17 : decode cX0_commit 17 = .ok (.dup, 1) := by decide +kernel
theorem dX0_commit_18 : decode cX0_commit 18 = .ok (.ldc 89, 2) := by decide +kernel
theorem dX0_commit_20 : decode cX0_commit 20 = .ok (.invokespecial 50, 3) := by decide +kernel
theorem dX0_commit_23 : decode cX0_commit 23 = .ok (.athrow, 1) := by decide +kernel
theorem dX0_commit_24 : decode cX0_commit 24 = .ok (.aload_n 0, 1) := by decide +kernel
theorem dX0_commit_25 : decode cX0_commit 25 = .ok (.iconst 0, 1) := by decide +kernel
theorem dX0_commit_26 : decode cX0_commit 26 = .ok (.invokevirtual 91, 3) := by decide +kernel
theorem dX0_commit_29 : decode cX0_commit 29 = .ok (.istore_n 1, 1) := by decide +kernel
theorem dX0_commit_30 : decode cX0_commit 30 = .ok (.iconst 0, 1) := by decide +kernel
theorem dX0_commit_31 : decode cX0_commit 31 = .ok (.istore_n 2, 1) := by decide +kernel
theorem dX0_commit_32 : decode cX0_commit 32 = .ok (.iload_n 2, 1) := by decide +kernel
theorem dX0_commit_33 : decode cX0_commit 33 = .ok (.aload_n 0, 1) := by decide +kernel
theorem dX0_commit_34 : decode cX0_commit 34 = .ok (.getfield 64, 3) := by decide +kernel
theorem dX0_commit_37 : decode cX0_commit 37 = .ok (.if_icmp .ge 24, 3) := by decide +kernel
theorem dX0_commit_40 : decode cX0_commit 40 = .ok (.aload_n 0, 1) := by decide +kernel
theorem dX0_commit_41 : decode cX0_commit 41 = .ok (.iconst 1, 1) := by decide +kernel
theorem dX0_commit_42 : decode cX0_commit 42 = .ok (.iload_n 2, 1) := by decide +kernel
theorem dX0_commit_43 : decode cX0_commit 43 = .ok (.iadd, 1) := by decide +kernel
theorem dX0_commit_44 : decode cX0_commit 44 = .ok (.aload_n 0, 1) := by decide +kernel
theorem dX0_commit_45 : decode cX0_commit 45 = .ok (.getfield 25, 3) := by decide +kernel
theorem dX0_commit_48 : decode cX0_commit 48 = .ok (.iload_n 2, 1) := by decide +kernel
theorem dX0_commit_49 : decode cX0_commit 49 = .ok (.bipush 64, 2) := by decide +kernel
theorem dX0_commit_51 : decode cX0_commit 51 = .ok (.imul, 1) := by decide +kernel
theorem dX0_commit_52 : decode cX0_commit 52 = .ok (.invokevirtual 94, 3) := by decide +kernel
theorem dX0_commit_55 : decode cX0_commit 55 = .ok (.iinc 2 1, 3) := by decide +kernel
theorem dX0_commit_58 : decode cX0_commit 58 = .ok (.goto (-26), 3) := by decide +kernel
theorem dX0_commit_61 : decode cX0_commit 61 = .ok (.aload_n 0, 1) := by decide +kernel
theorem dX0_commit_62 : decode cX0_commit 62 = .ok (.iload_n 1, 1) := by decide +kernel
theorem dX0_commit_63 : decode cX0_commit 63 = .ok (.invokevirtual 98, 3) := by decide +kernel
theorem dX0_commit_66 : decode cX0_commit 66 = .ok (.iconst 0, 1) := by decide +kernel
theorem dX0_commit_67 : decode cX0_commit 67 = .ok (.istore_n 2, 1) := by decide +kernel
theorem dX0_commit_68 : decode cX0_commit 68 = .ok (.iload_n 2, 1) := by decide +kernel
theorem dX0_commit_69 : decode cX0_commit 69 = .ok (.aload_n 0, 1) := by decide +kernel
theorem dX0_commit_70 : decode cX0_commit 70 = .ok (.getfield 64, 3) := by decide +kernel
theorem dX0_commit_73 : decode cX0_commit 73 = .ok (.if_icmp .ge 27, 3) := by decide +kernel
theorem dX0_commit_76 : decode cX0_commit 76 = .ok (.aload_n 0, 1) := by decide +kernel
theorem dX0_commit_77 : decode cX0_commit 77 = .ok (.aload_n 0, 1) := by decide +kernel
theorem dX0_commit_78 : decode cX0_commit 78 = .ok (.getfield 22, 3) := by decide +kernel
theorem dX0_commit_81 : decode cX0_commit 81 = .ok (.iload_n 2, 1) := by decide +kernel
theorem dX0_commit_82 : decode cX0_commit 82 = .ok (.iaload, 1) := by decide +kernel
theorem dX0_commit_83 : decode cX0_commit 83 = .ok (.aload_n 0, 1) := by decide +kernel
theorem dX0_commit_84 : decode cX0_commit 84 = .ok (.getfield 25, 3) := by decide +kernel
theorem dX0_commit_87 : decode cX0_commit 87 = .ok (.iload_n 2, 1) := by decide +kernel
theorem dX0_commit_88 : decode cX0_commit 88 = .ok (.bipush 64, 2) := by decide +kernel
theorem dX0_commit_90 : decode cX0_commit 90 = .ok (.imul, 1) := by decide +kernel
theorem dX0_commit_91 : decode cX0_commit 91 = .ok (.invokevirtual 94, 3) := by decide +kernel
theorem dX0_commit_94 : decode cX0_commit 94 = .ok (.iinc 2 1, 3) := by decide +kernel
theorem dX0_commit_97 : decode cX0_commit 97 = .ok (.goto (-29), 3) := by decide +kernel
theorem dX0_commit_100 : decode cX0_commit 100 = .ok (.aload_n 0, 1) := by decide +kernel
theorem dX0_commit_101 : decode cX0_commit 101 = .ok (.iload_n 1, 1) := by decide +kernel
theorem dX0_commit_102 : decode cX0_commit 102 = .ok (.iconst 1, 1) := by decide +kernel
theorem dX0_commit_103 : decode cX0_commit 103 = .ok (.iadd, 1) := by decide +kernel
theorem dX0_commit_104 : decode cX0_commit 104 = .ok (.invokevirtual 102, 3) := by decide +kernel
theorem dX0_commit_107 : decode cX0_commit 107 = .ok (.aload_n 0, 1) := by decide +kernel
theorem dX0_commit_108 : decode cX0_commit 108 = .ok (.iconst 0, 1) := by decide +kernel
theorem dX0_commit_109 : decode cX0_commit 109 = .ok (.putfield 64, 3) := by decide +kernel
theorem dX0_commit_112 : decode cX0_commit 112 = .ok (.aload_n 0, 1) := by decide +kernel
theorem dX0_commit_113 : decode cX0_commit 113 = .ok (.getfield 85, 3) := by decide +kernel
theorem dX0_commit_116 : decode cX0_commit 116 = .ok (.ifCond .ne 7, 3) := by decide +kernel
theorem dX0_commit_119 : decode cX0_commit 119 = .ok (.iconst 1, 1) := by decide +kernel
theorem dX0_commit_120 : decode cX0_commit 120 = .ok (.goto 4, 3) := by decide +kernel
theorem dX0_commit_123 : decode cX0_commit 123 = .ok (.iconst 0, 1) := by decide +kernel
theorem dX0_commit_124 : decode cX0_commit 124 = .ok (.ireturn, 1) := by decide +kernel
theorem dX0_recover_0 : decode cX0_recover 0 = .ok (.aload_n 0, 1) := by decide +kernel
theorem dX0_recover_1 : decode cX0_recover 1 = .ok (.getfield 85, 3) := by decide +kernel
theorem dX0_recover_4 : decode cX0_recover 4 = .ok (.ifCond .eq 13, 3) := by decide +kernel
theorem dX0_recover_7 : decode cX0_recover 7 = .ok (.new 46, 3) := by decide +kernel
theorem dX0_recover_10 : decode cX0_recover 10 = .ok (.dup, 1) := by decide +kernel
theorem dX0_recover_11 : decode cX0_recover 11 = .ok (.ldc 105, 2) := by decide +kernel
theorem dX0_recover_13 : decode cX0_recover 13 = .ok (.invokespecial 50, 3) := by decide +kernel
theorem dX0_recover_16 : decode cX0_recover 16 = .ok (.athrow, 1) := by decide +kernel
theorem dX0_recover_17 : decode cX0_recover 17 = .ok (.aload_n 0, 1) := by decide +kernel
theorem dX0_recover_18 : decode cX0_recover 18 = .ok (.invokevirtual 107, 3) := by decide +kernel
theorem dX0_recover_21 : decode cX0_recover 21 = .ok (.ifCond .ne 5, 3) := by decide +kernel
theorem dX0_recover_24 : decode cX0_recover 24 = .ok (.iconst 0, 1) := by decide +kernel
theorem dX0_recover_25 : decode cX0_recover 25 = .ok (.ireturn, 1) := by decide +kernel
theorem dX0_recover_26 : decode cX0_recover 26 = .ok (.aload_n 0, 1) := by decide +kernel
theorem dX0_recover_27 : decode cX0_recover 27 = .ok (.invokevirtual 111, 3) := by decide +kernel
theorem dX0_recover_30 : decode cX0_recover 30 = .ok (.istore_n 1, 1) := by decide +kernel
theorem dX0_recover_31 : decode cX0_recover 31 = .ok (.iconst 0, 1) := by decide +kernel
theorem dX0_recover_32 : decode cX0_recover 32 = .ok (.istore_n 2, 1) := by decide +kernel
theorem dX0_recover_33 : decode cX0_recover 33 = .ok (.iload_n 2, 1) := by decide +kernel
theorem dX0_recover_34 : decode cX0_recover 34 = .ok (.iload_n 1, 1) := by decide +kernel
theorem dX0_recover_35 : decode cX0_recover 35 = .ok (.if_icmp .ge 28, 3) := by decide +kernel
theorem dX0_recover_38 : decode cX0_recover 38 = .ok (.aload_n 0, 1) := by decide +kernel
theorem dX0_recover_39 : decode cX0_recover 39 = .ok (.aload_n 0, 1) := by decide +kernel
theorem dX0_recover_40 : decode cX0_recover 40 = .ok (.iload_n 2, 1) := by decide +kernel
theorem dX0_recover_41 : decode cX0_recover 41 = .ok (.invokevirtual 115, 3) := by decide +kernel
theorem dX0_recover_44 : decode cX0_recover 44 = .ok (.aload_n 0, 1) := by decide +kernel
theorem dX0_recover_45 : decode cX0_recover 45 = .ok (.getfield 9, 3) := by decide +kernel
theorem dX0_recover_48 : decode cX0_recover 48 = .ok (.iconst 1, 1) := by decide +kernel
theorem dX0_recover_49 : decode cX0_recover 49 = .ok (.iload_n 2, 1) := by decide +kernel
theorem dX0_recover_50 : decode cX0_recover 50 = .ok (.iadd, 1) := by decide +kernel
theorem dX0_recover_51 : decode cX0_recover 51 = .ok (.bipush 64, 2) := by decide +kernel
theorem dX0_recover_53 : decode cX0_recover 53 = .ok (.imul, 1) := by decide +kernel
theorem dX0_recover_54 : decode cX0_recover 54 = .ok (.invokevirtual 94, 3) := by decide +kernel
theorem dX0_recover_57 : decode cX0_recover 57 = .ok (.iinc 2 1, 3) := by decide +kernel
theorem dX0_recover_60 : decode cX0_recover 60 = .ok (.goto (-27), 3) := by decide +kernel
theorem dX0_recover_63 : decode cX0_recover 63 = .ok (.aload_n 0, 1) := by decide +kernel
theorem dX0_recover_64 : decode cX0_recover 64 = .ok (.aload_n 0, 1) := by decide +kernel
theorem dX0_recover_65 : decode cX0_recover 65 = .ok (.iconst 0, 1) := by decide +kernel
theorem dX0_recover_66 : decode cX0_recover 66 = .ok (.invokevirtual 91, 3) := by decide +kernel
theorem dX0_recover_69 : decode cX0_recover 69 = .ok (.iconst 1, 1) := by decide +kernel
theorem dX0_recover_70 : decode cX0_recover 70 = .ok (.iadd, 1) := by decide +kernel
theorem dX0_recover_71 : decode cX0_recover 71 = .ok (.invokevirtual 102, 3) := by decide +kernel
theorem dX0_recover_74 : decode cX0_recover 74 = .ok (.aload_n 0, 1) := by decide +kernel
theorem dX0_recover_75 : decode cX0_recover 75 = .ok (.getfield 85, 3) := by decide +kernel
theorem dX0_recover_78 : decode cX0_recover 78 = .ok (.ifCond .eq 7, 3) := by decide +kernel
theorem dX0_recover_81 : decode cX0_recover 81 = .ok (.iconst (-1), 1) := by decide +kernel
theorem dX0_recover_82 : decode cX0_recover 82 = .ok (.goto 4, 3) := by decide +kernel
theorem dX0_recover_85 : decode cX0_recover 85 = .ok (.iload_n 1, 1) := by decide +kernel
theorem dX0_recover_86 : decode cX0_recover 86 = .ok (.ireturn, 1) := by decide +kernel
theorem dX0_lose_0 : decode cX0_lose 0 = .ok (.iload_n 1, 1) := by decide +kernel
theorem dX0_lose_1 : decode cX0_lose 1 = .ok (.iconst 1, 1) := by decide +kernel
theorem dX0_lose_2 : decode cX0_lose 2 = .ok (.if_icmp .ge 13, 3) := by decide +kernel
theorem dX0_lose_5 : decode cX0_lose 5 = .ok (.new 36, 3) := by decide +kernel
theorem dX0_lose_8 : decode cX0_lose 8 = .ok (.dup, 1) := by decide +kernel
theorem dX0_lose_9 : decode cX0_lose 9 = .ok (.ldc 118, 2) := by decide +kernel
theorem dX0_lose_11 : decode cX0_lose 11 = .ok (.invokespecial 40, 3) := by decide +kernel
theorem dX0_lose_14 : decode cX0_lose 14 = .ok (.athrow, 1) := by decide +kernel
theorem dX0_lose_15 : decode cX0_lose 15 = .ok (.aload_n 0, 1) := by decide +kernel
theorem dX0_lose_16 : decode cX0_lose 16 = .ok (.getfield 85, 3) := by decide +kernel
theorem dX0_lose_19 : decode cX0_lose 19 = .ok (.ifCond .eq 13, 3) := by decide +kernel
theorem dX0_lose_22 : decode cX0_lose 22 = .ok (.new 46, 3) := by decide +kernel
theorem dX0_lose_25 : decode cX0_lose 25 = .ok (.dup, 1) := by decide +kernel
theorem dX0_lose_26 : decode cX0_lose 26 = .ok (.ldc 105, 2) := by decide +kernel
theorem dX0_lose_28 : decode cX0_lose 28 = .ok (.invokespecial 50, 3) := by decide +kernel
theorem dX0_lose_31 : decode cX0_lose 31 = .ok (.athrow, 1) := by decide +kernel
theorem dX0_lose_32 : decode cX0_lose 32 = .ok (.aload_n 0, 1) := by decide +kernel
theorem dX0_lose_33 : decode cX0_lose 33 = .ok (.iload_n 1, 1) := by decide +kernel
theorem dX0_lose_34 : decode cX0_lose 34 = .ok (.iconst 1, 1) := by decide +kernel
theorem dX0_lose_35 : decode cX0_lose 35 = .ok (.isub, 1) := by decide +kernel
theorem dX0_lose_36 : decode cX0_lose 36 = .ok (.putfield 28, 3) := by decide +kernel
theorem dX0_lose_39 : decode cX0_lose 39 = .ok (.return_, 1) := by decide +kernel
theorem dX0_power_0 : decode cX0_power 0 = .ok (.aload_n 0, 1) := by decide +kernel
theorem dX0_power_1 : decode cX0_power 1 = .ok (.getfield 85, 3) := by decide +kernel
theorem dX0_power_4 : decode cX0_power 4 = .ok (.istore_n 1, 1) := by decide +kernel
theorem dX0_power_5 : decode cX0_power 5 = .ok (.aload_n 0, 1) := by decide +kernel
theorem dX0_power_6 : decode cX0_power 6 = .ok (.iconst 0, 1) := by decide +kernel
theorem dX0_power_7 : decode cX0_power 7 = .ok (.putfield 85, 3) := by decide +kernel
theorem dX0_power_10 : decode cX0_power 10 = .ok (.aload_n 0, 1) := by decide +kernel
theorem dX0_power_11 : decode cX0_power 11 = .ok (.iconst (-1), 1) := by decide +kernel
theorem dX0_power_12 : decode cX0_power 12 = .ok (.putfield 28, 3) := by decide +kernel
theorem dX0_power_15 : decode cX0_power 15 = .ok (.iload_n 1, 1) := by decide +kernel
theorem dX0_power_16 : decode cX0_power 16 = .ok (.ireturn, 1) := by decide +kernel
theorem dX0_spoil_0 : decode cX0_spoil 0 = .ok (.iload_n 1, 1) := by decide +kernel
theorem dX0_spoil_1 : decode cX0_spoil 1 = .ok (.iload_n 2, 1) := by decide +kernel
theorem dX0_spoil_2 : decode cX0_spoil 2 = .ok (.invokestatic 120, 3) := by decide +kernel
theorem dX0_spoil_5 : decode cX0_spoil 5 = .ok (.ifCond .ne 13, 3) := by decide +kernel
theorem dX0_spoil_8 : decode cX0_spoil 8 = .ok (.new 36, 3) := by decide +kernel
theorem dX0_spoil_11 : decode cX0_spoil 11 = .ok (.dup, 1) := by decide +kernel
theorem dX0_spoil_12 : decode cX0_spoil 12 = .ok (.ldc 123, 2) := by decide +kernel
theorem dX0_spoil_14 : decode cX0_spoil 14 = .ok (.invokespecial 40, 3) := by decide +kernel
theorem dX0_spoil_17 : decode cX0_spoil 17 = .ok (.athrow, 1) := by decide +kernel
theorem dX0_spoil_18 : decode cX0_spoil 18 = .ok (.aload_n 0, 1) := by decide +kernel
theorem dX0_spoil_19 : decode cX0_spoil 19 = .ok (.getfield 9, 3) := by decide +kernel
theorem dX0_spoil_22 : decode cX0_spoil 22 = .ok (.iload_n 1, 1) := by decide +kernel
theorem dX0_spoil_23 : decode cX0_spoil 23 = .ok (.bipush 64, 2) := by decide +kernel
theorem dX0_spoil_25 : decode cX0_spoil 25 = .ok (.imul, 1) := by decide +kernel
theorem dX0_spoil_26 : decode cX0_spoil 26 = .ok (.iload_n 2, 1) := by decide +kernel
theorem dX0_spoil_27 : decode cX0_spoil 27 = .ok (.iadd, 1) := by decide +kernel
theorem dX0_spoil_28 : decode cX0_spoil 28 = .ok (.iaload, 1) := by decide +kernel
theorem dX0_spoil_29 : decode cX0_spoil 29 = .ok (.istore 4, 2) := by decide +kernel
theorem dX0_spoil_31 : decode cX0_spoil 31 = .ok (.aload_n 0, 1) := by decide +kernel
theorem dX0_spoil_32 : decode cX0_spoil 32 = .ok (.getfield 9, 3) := by decide +kernel
theorem dX0_spoil_35 : decode cX0_spoil 35 = .ok (.iload_n 1, 1) := by decide +kernel
theorem dX0_spoil_36 : decode cX0_spoil 36 = .ok (.bipush 64, 2) := by decide +kernel
theorem dX0_spoil_38 : decode cX0_spoil 38 = .ok (.imul, 1) := by decide +kernel
theorem dX0_spoil_39 : decode cX0_spoil 39 = .ok (.iload_n 2, 1) := by decide +kernel
theorem dX0_spoil_40 : decode cX0_spoil 40 = .ok (.iadd, 1) := by decide +kernel
theorem dX0_spoil_41 : decode cX0_spoil 41 = .ok (.iload_n 3, 1) := by decide +kernel
theorem dX0_spoil_42 : decode cX0_spoil 42 = .ok (.sipush 255, 3) := by decide +kernel
theorem dX0_spoil_45 : decode cX0_spoil 45 = .ok (.iand, 1) := by decide +kernel
theorem dX0_spoil_46 : decode cX0_spoil 46 = .ok (.iastore, 1) := by decide +kernel
theorem dX0_spoil_47 : decode cX0_spoil 47 = .ok (.iload 4, 2) := by decide +kernel
theorem dX0_spoil_49 : decode cX0_spoil 49 = .ok (.ireturn, 1) := by decide +kernel
theorem dX0_at_0 : decode cX0_at 0 = .ok (.iload_n 1, 1) := by decide +kernel
theorem dX0_at_1 : decode cX0_at 1 = .ok (.iload_n 2, 1) := by decide +kernel
theorem dX0_at_2 : decode cX0_at 2 = .ok (.invokestatic 120, 3) := by decide +kernel
theorem dX0_at_5 : decode cX0_at 5 = .ok (.ifCond .ne 13, 3) := by decide +kernel
theorem dX0_at_8 : decode cX0_at 8 = .ok (.new 36, 3) := by decide +kernel
theorem dX0_at_11 : decode cX0_at 11 = .ok (.dup, 1) := by decide +kernel
theorem dX0_at_12 : decode cX0_at 12 = .ok (.ldc 123, 2) := by decide +kernel
theorem dX0_at_14 : decode cX0_at 14 = .ok (.invokespecial 40, 3) := by decide +kernel
theorem dX0_at_17 : decode cX0_at 17 = .ok (.athrow, 1) := by decide +kernel
theorem dX0_at_18 : decode cX0_at 18 = .ok (.aload_n 0, 1) := by decide +kernel
theorem dX0_at_19 : decode cX0_at 19 = .ok (.getfield 9, 3) := by decide +kernel
theorem dX0_at_22 : decode cX0_at 22 = .ok (.iload_n 1, 1) := by decide +kernel
theorem dX0_at_23 : decode cX0_at 23 = .ok (.bipush 64, 2) := by decide +kernel
theorem dX0_at_25 : decode cX0_at 25 = .ok (.imul, 1) := by decide +kernel
theorem dX0_at_26 : decode cX0_at 26 = .ok (.iload_n 2, 1) := by decide +kernel
theorem dX0_at_27 : decode cX0_at 27 = .ok (.iadd, 1) := by decide +kernel
theorem dX0_at_28 : decode cX0_at 28 = .ok (.iaload, 1) := by decide +kernel
theorem dX0_at_29 : decode cX0_at 29 = .ok (.ireturn, 1) := by decide +kernel
theorem dX0_change_0 : decode cX0_change 0 = .ok (.iload_n 1, 1) := by decide +kernel
theorem dX0_change_1 : decode cX0_change 1 = .ok (.ifCond .lt 11, 3) := by decide +kernel
theorem dX0_change_4 : decode cX0_change 4 = .ok (.iload_n 1, 1) := by decide +kernel
theorem dX0_change_5 : decode cX0_change 5 = .ok (.aload_n 0, 1) := by decide +kernel
theorem dX0_change_6 : decode cX0_change 6 = .ok (.getfield 64, 3) := by decide +kernel
theorem dX0_change_9 : decode cX0_change 9 = .ok (.if_icmp .lt 13, 3) := by decide +kernel
theorem dX0_change_12 : decode cX0_change 12 = .ok (.new 125, 3) := by decide +kernel
theorem dX0_change_15 : decode cX0_change 15 = .ok (.dup, 1) := by decide +kernel
theorem dX0_change_16 : decode cX0_change 16 = .ok (.ldc 127, 2) := by decide +kernel
theorem dX0_change_18 : decode cX0_change 18 = .ok (.invokespecial 129, 3) := by decide +kernel
theorem dX0_change_21 : decode cX0_change 21 = .ok (.athrow, 1) := by decide +kernel
theorem dX0_change_22 : decode cX0_change 22 = .ok (.aload_n 0, 1) := by decide +kernel
theorem dX0_change_23 : decode cX0_change 23 = .ok (.getfield 22, 3) := by decide +kernel
theorem dX0_change_26 : decode cX0_change 26 = .ok (.iload_n 1, 1) := by decide +kernel
theorem dX0_change_27 : decode cX0_change 27 = .ok (.iaload, 1) := by decide +kernel
theorem dX0_change_28 : decode cX0_change 28 = .ok (.ireturn, 1) := by decide +kernel
theorem dX0_look_0 : decode cX0_look 0 = .ok (.iload_n 1, 1) := by decide +kernel
theorem dX0_look_1 : decode cX0_look 1 = .ok (.tableswitch 103 0 6 #[43, 54, 60, 73, 79, 84, 97], 43) := by decide +kernel
theorem dX0_look_44 : decode cX0_look 44 = .ok (.aload_n 0, 1) := by decide +kernel
theorem dX0_look_45 : decode cX0_look 45 = .ok (.iconst 0, 1) := by decide +kernel
theorem dX0_look_46 : decode cX0_look 46 = .ok (.invokevirtual 91, 3) := by decide +kernel
theorem dX0_look_49 : decode cX0_look 49 = .ok (.i2l, 1) := by decide +kernel
theorem dX0_look_50 : decode cX0_look 50 = .ok (.ldc2_w 130, 3) := by decide +kernel
theorem dX0_look_53 : decode cX0_look 53 = .ok (.land, 1) := by decide +kernel
theorem dX0_look_54 : decode cX0_look 54 = .ok (.lreturn, 1) := by decide +kernel
theorem dX0_look_55 : decode cX0_look 55 = .ok (.aload_n 0, 1) := by decide +kernel
theorem dX0_look_56 : decode cX0_look 56 = .ok (.invokevirtual 111, 3) := by decide +kernel
theorem dX0_look_59 : decode cX0_look 59 = .ok (.i2l, 1) := by decide +kernel
theorem dX0_look_60 : decode cX0_look 60 = .ok (.lreturn, 1) := by decide +kernel
theorem dX0_look_61 : decode cX0_look 61 = .ok (.aload_n 0, 1) := by decide +kernel
theorem dX0_look_62 : decode cX0_look 62 = .ok (.invokevirtual 107, 3) := by decide +kernel
theorem dX0_look_65 : decode cX0_look 65 = .ok (.ifCond .eq 7, 3) := by decide +kernel
theorem dX0_look_68 : decode cX0_look 68 = .ok (.lconst 1, 1) := by decide +kernel
theorem dX0_look_69 : decode cX0_look 69 = .ok (.goto 4, 3) := by decide +kernel
theorem dX0_look_72 : decode cX0_look 72 = .ok (.lconst 0, 1) := by decide +kernel
theorem dX0_look_73 : decode cX0_look 73 = .ok (.lreturn, 1) := by decide +kernel
theorem dX0_look_74 : decode cX0_look 74 = .ok (.aload_n 0, 1) := by decide +kernel
theorem dX0_look_75 : decode cX0_look 75 = .ok (.getfield 64, 3) := by decide +kernel
theorem dX0_look_78 : decode cX0_look 78 = .ok (.i2l, 1) := by decide +kernel
theorem dX0_look_79 : decode cX0_look 79 = .ok (.lreturn, 1) := by decide +kernel
theorem dX0_look_80 : decode cX0_look 80 = .ok (.aload_n 0, 1) := by decide +kernel
theorem dX0_look_81 : decode cX0_look 81 = .ok (.getfield 132, 3) := by decide +kernel
theorem dX0_look_84 : decode cX0_look 84 = .ok (.lreturn, 1) := by decide +kernel
theorem dX0_look_85 : decode cX0_look 85 = .ok (.aload_n 0, 1) := by decide +kernel
theorem dX0_look_86 : decode cX0_look 86 = .ok (.getfield 85, 3) := by decide +kernel
theorem dX0_look_89 : decode cX0_look 89 = .ok (.ifCond .eq 7, 3) := by decide +kernel
theorem dX0_look_92 : decode cX0_look 92 = .ok (.lconst 1, 1) := by decide +kernel
theorem dX0_look_93 : decode cX0_look 93 = .ok (.goto 4, 3) := by decide +kernel
theorem dX0_look_96 : decode cX0_look 96 = .ok (.lconst 0, 1) := by decide +kernel
theorem dX0_look_97 : decode cX0_look 97 = .ok (.lreturn, 1) := by decide +kernel
theorem dX0_look_98 : decode cX0_look 98 = .ok (.aload_n 0, 1) := by decide +kernel
theorem dX0_look_99 : decode cX0_look 99 = .ok (.getfield 28, 3) := by decide +kernel
theorem dX0_look_102 : decode cX0_look 102 = .ok (.i2l, 1) := by decide +kernel
theorem dX0_look_103 : decode cX0_look 103 = .ok (.lreturn, 1) := by decide +kernel
theorem dX0_look_104 : decode cX0_look 104 = .ok (.new 125, 3) := by decide +kernel
theorem dX0_look_107 : decode cX0_look 107 = .ok (.dup, 1) := by decide +kernel
theorem dX0_look_108 : decode cX0_look 108 = .ok (.ldc 136, 2) := by decide +kernel
theorem dX0_look_110 : decode cX0_look 110 = .ok (.invokespecial 129, 3) := by decide +kernel
theorem dX0_look_113 : decode cX0_look 113 = .ok (.athrow, 1) := by decide +kernel
theorem dX0_isTarget_0 : decode cX0_isTarget 0 = .ok (.iload_n 0, 1) := by decide +kernel
theorem dX0_isTarget_1 : decode cX0_isTarget 1 = .ok (.bipush 25, 2) := by decide +kernel
theorem dX0_isTarget_3 : decode cX0_isTarget 3 = .ok (.if_icmp .lt 13, 3) := by decide +kernel
theorem dX0_isTarget_6 : decode cX0_isTarget 6 = .ok (.iload_n 0, 1) := by decide +kernel
theorem dX0_isTarget_7 : decode cX0_isTarget 7 = .ok (.bipush 96, 2) := by decide +kernel
theorem dX0_isTarget_9 : decode cX0_isTarget 9 = .ok (.if_icmp .ge 7, 3) := by decide +kernel
theorem dX0_isTarget_12 : decode cX0_isTarget 12 = .ok (.iconst 1, 1) := by decide +kernel
theorem dX0_isTarget_13 : decode cX0_isTarget 13 = .ok (.goto 4, 3) := by decide +kernel
theorem dX0_isTarget_16 : decode cX0_isTarget 16 = .ok (.iconst 0, 1) := by decide +kernel
theorem dX0_isTarget_17 : decode cX0_isTarget 17 = .ok (.ireturn, 1) := by decide +kernel
theorem dX0_isInStore_0 : decode cX0_isInStore 0 = .ok (.iload_n 0, 1) := by decide +kernel
theorem dX0_isInStore_1 : decode cX0_isInStore 1 = .ok (.ifCond .lt 23, 3) := by decide +kernel
theorem dX0_isInStore_4 : decode cX0_isInStore 4 = .ok (.iload_n 0, 1) := by decide +kernel
theorem dX0_isInStore_5 : decode cX0_isInStore 5 = .ok (.bipush 96, 2) := by decide +kernel
theorem dX0_isInStore_7 : decode cX0_isInStore 7 = .ok (.if_icmp .ge 17, 3) := by decide +kernel
theorem dX0_isInStore_10 : decode cX0_isInStore 10 = .ok (.iload_n 1, 1) := by decide +kernel
theorem dX0_isInStore_11 : decode cX0_isInStore 11 = .ok (.ifCond .lt 13, 3) := by decide +kernel
theorem dX0_isInStore_14 : decode cX0_isInStore 14 = .ok (.iload_n 1, 1) := by decide +kernel
theorem dX0_isInStore_15 : decode cX0_isInStore 15 = .ok (.bipush 64, 2) := by decide +kernel
theorem dX0_isInStore_17 : decode cX0_isInStore 17 = .ok (.if_icmp .ge 7, 3) := by decide +kernel
theorem dX0_isInStore_20 : decode cX0_isInStore 20 = .ok (.iconst 1, 1) := by decide +kernel
theorem dX0_isInStore_21 : decode cX0_isInStore 21 = .ok (.goto 4, 3) := by decide +kernel
theorem dX0_isInStore_24 : decode cX0_isInStore 24 = .ok (.iconst 0, 1) := by decide +kernel
theorem dX0_isInStore_25 : decode cX0_isInStore 25 = .ok (.ireturn, 1) := by decide +kernel
theorem dX0_placeOf_0 : decode cX0_placeOf 0 = .ok (.iconst 0, 1) := by decide +kernel
theorem dX0_placeOf_1 : decode cX0_placeOf 1 = .ok (.istore_n 2, 1) := by decide +kernel
theorem dX0_placeOf_2 : decode cX0_placeOf 2 = .ok (.iload_n 2, 1) := by decide +kernel
theorem dX0_placeOf_3 : decode cX0_placeOf 3 = .ok (.aload_n 0, 1) := by decide +kernel
theorem dX0_placeOf_4 : decode cX0_placeOf 4 = .ok (.getfield 64, 3) := by decide +kernel
theorem dX0_placeOf_7 : decode cX0_placeOf 7 = .ok (.if_icmp .ge 19, 3) := by decide +kernel
theorem dX0_placeOf_10 : decode cX0_placeOf 10 = .ok (.aload_n 0, 1) := by decide +kernel
theorem dX0_placeOf_11 : decode cX0_placeOf 11 = .ok (.getfield 22, 3) := by decide +kernel
theorem dX0_placeOf_14 : decode cX0_placeOf 14 = .ok (.iload_n 2, 1) := by decide +kernel
theorem dX0_placeOf_15 : decode cX0_placeOf 15 = .ok (.iaload, 1) := by decide +kernel
theorem dX0_placeOf_16 : decode cX0_placeOf 16 = .ok (.iload_n 1, 1) := by decide +kernel
theorem dX0_placeOf_17 : decode cX0_placeOf 17 = .ok (.if_icmp .ge 9, 3) := by decide +kernel
theorem dX0_placeOf_20 : decode cX0_placeOf 20 = .ok (.iinc 2 1, 3) := by decide +kernel
theorem dX0_placeOf_23 : decode cX0_placeOf 23 = .ok (.goto (-21), 3) := by decide +kernel
theorem dX0_placeOf_26 : decode cX0_placeOf 26 = .ok (.iload_n 2, 1) := by decide +kernel
theorem dX0_placeOf_27 : decode cX0_placeOf 27 = .ok (.ireturn, 1) := by decide +kernel
theorem dX0_isChangeOf_0 : decode cX0_isChangeOf 0 = .ok (.iload_n 1, 1) := by decide +kernel
theorem dX0_isChangeOf_1 : decode cX0_isChangeOf 1 = .ok (.aload_n 0, 1) := by decide +kernel
theorem dX0_isChangeOf_2 : decode cX0_isChangeOf 2 = .ok (.getfield 64, 3) := by decide +kernel
theorem dX0_isChangeOf_5 : decode cX0_isChangeOf 5 = .ok (.if_icmp .ge 17, 3) := by decide +kernel
theorem dX0_isChangeOf_8 : decode cX0_isChangeOf 8 = .ok (.aload_n 0, 1) := by decide +kernel
theorem dX0_isChangeOf_9 : decode cX0_isChangeOf 9 = .ok (.getfield 22, 3) := by decide +kernel
theorem dX0_isChangeOf_12 : decode cX0_isChangeOf 12 = .ok (.iload_n 1, 1) := by decide +kernel
theorem dX0_isChangeOf_13 : decode cX0_isChangeOf 13 = .ok (.iaload, 1) := by decide +kernel
theorem dX0_isChangeOf_14 : decode cX0_isChangeOf 14 = .ok (.iload_n 2, 1) := by decide +kernel
theorem dX0_isChangeOf_15 : decode cX0_isChangeOf 15 = .ok (.if_icmp .ne 7, 3) := by decide +kernel
theorem dX0_isChangeOf_18 : decode cX0_isChangeOf 18 = .ok (.iconst 1, 1) := by decide +kernel
theorem dX0_isChangeOf_19 : decode cX0_isChangeOf 19 = .ok (.goto 4, 3) := by decide +kernel
theorem dX0_isChangeOf_22 : decode cX0_isChangeOf 22 = .ok (.iconst 0, 1) := by decide +kernel
theorem dX0_isChangeOf_23 : decode cX0_isChangeOf 23 = .ok (.ireturn, 1) := by decide +kernel
theorem dX0_openPlace_0 : decode cX0_openPlace 0 = .ok (.aload_n 0, 1) := by decide +kernel
theorem dX0_openPlace_1 : decode cX0_openPlace 1 = .ok (.getfield 64, 3) := by decide +kernel
theorem dX0_openPlace_4 : decode cX0_openPlace 4 = .ok (.iload_n 1, 1) := by decide +kernel
theorem dX0_openPlace_5 : decode cX0_openPlace 5 = .ok (.isub, 1) := by decide +kernel
theorem dX0_openPlace_6 : decode cX0_openPlace 6 = .ok (.istore_n 3, 1) := by decide +kernel
theorem dX0_openPlace_7 : decode cX0_openPlace 7 = .ok (.aload_n 0, 1) := by decide +kernel
theorem dX0_openPlace_8 : decode cX0_openPlace 8 = .ok (.getfield 22, 3) := by decide +kernel
theorem dX0_openPlace_11 : decode cX0_openPlace 11 = .ok (.iload_n 1, 1) := by decide +kernel
theorem dX0_openPlace_12 : decode cX0_openPlace 12 = .ok (.aload_n 0, 1) := by decide +kernel
theorem dX0_openPlace_13 : decode cX0_openPlace 13 = .ok (.getfield 22, 3) := by decide +kernel
theorem dX0_openPlace_16 : decode cX0_openPlace 16 = .ok (.iload_n 1, 1) := by decide +kernel
theorem dX0_openPlace_17 : decode cX0_openPlace 17 = .ok (.iconst 1, 1) := by decide +kernel
theorem dX0_openPlace_18 : decode cX0_openPlace 18 = .ok (.iadd, 1) := by decide +kernel
theorem dX0_openPlace_19 : decode cX0_openPlace 19 = .ok (.iload_n 3, 1) := by decide +kernel
theorem dX0_openPlace_20 : decode cX0_openPlace 20 = .ok (.invokestatic 73, 3) := by decide +kernel
theorem dX0_openPlace_23 : decode cX0_openPlace 23 = .ok (.aload_n 0, 1) := by decide +kernel
theorem dX0_openPlace_24 : decode cX0_openPlace 24 = .ok (.getfield 25, 3) := by decide +kernel
theorem dX0_openPlace_27 : decode cX0_openPlace 27 = .ok (.iload_n 1, 1) := by decide +kernel
theorem dX0_openPlace_28 : decode cX0_openPlace 28 = .ok (.bipush 64, 2) := by decide +kernel
theorem dX0_openPlace_30 : decode cX0_openPlace 30 = .ok (.imul, 1) := by decide +kernel
theorem dX0_openPlace_31 : decode cX0_openPlace 31 = .ok (.aload_n 0, 1) := by decide +kernel
theorem dX0_openPlace_32 : decode cX0_openPlace 32 = .ok (.getfield 25, 3) := by decide +kernel
theorem dX0_openPlace_35 : decode cX0_openPlace 35 = .ok (.iload_n 1, 1) := by decide +kernel
theorem dX0_openPlace_36 : decode cX0_openPlace 36 = .ok (.iconst 1, 1) := by decide +kernel
theorem dX0_openPlace_37 : decode cX0_openPlace 37 = .ok (.iadd, 1) := by decide +kernel
theorem dX0_openPlace_38 : decode cX0_openPlace 38 = .ok (.bipush 64, 2) := by decide +kernel
theorem dX0_openPlace_40 : decode cX0_openPlace 40 = .ok (.imul, 1) := by decide +kernel
theorem dX0_openPlace_41 : decode cX0_openPlace 41 = .ok (.iload_n 3, 1) := by decide +kernel
theorem dX0_openPlace_42 : decode cX0_openPlace 42 = .ok (.bipush 64, 2) := by decide +kernel
theorem dX0_openPlace_44 : decode cX0_openPlace 44 = .ok (.imul, 1) := by decide +kernel
theorem dX0_openPlace_45 : decode cX0_openPlace 45 = .ok (.invokestatic 73, 3) := by decide +kernel
theorem dX0_openPlace_48 : decode cX0_openPlace 48 = .ok (.aload_n 0, 1) := by decide +kernel
theorem dX0_openPlace_49 : decode cX0_openPlace 49 = .ok (.getfield 22, 3) := by decide +kernel
theorem dX0_openPlace_52 : decode cX0_openPlace 52 = .ok (.iload_n 1, 1) := by decide +kernel
theorem dX0_openPlace_53 : decode cX0_openPlace 53 = .ok (.iload_n 2, 1) := by decide +kernel
theorem dX0_openPlace_54 : decode cX0_openPlace 54 = .ok (.iastore, 1) := by decide +kernel
theorem dX0_openPlace_55 : decode cX0_openPlace 55 = .ok (.aload_n 0, 1) := by decide +kernel
theorem dX0_openPlace_56 : decode cX0_openPlace 56 = .ok (.dup, 1) := by decide +kernel
theorem dX0_openPlace_57 : decode cX0_openPlace 57 = .ok (.getfield 64, 3) := by decide +kernel
theorem dX0_openPlace_60 : decode cX0_openPlace 60 = .ok (.iconst 1, 1) := by decide +kernel
theorem dX0_openPlace_61 : decode cX0_openPlace 61 = .ok (.iadd, 1) := by decide +kernel
theorem dX0_openPlace_62 : decode cX0_openPlace 62 = .ok (.putfield 64, 3) := by decide +kernel
theorem dX0_openPlace_65 : decode cX0_openPlace 65 = .ok (.return_, 1) := by decide +kernel
theorem dX0_write_0 : decode cX0_write 0 = .ok (.aload_n 0, 1) := by decide +kernel
theorem dX0_write_1 : decode cX0_write 1 = .ok (.getfield 28, 3) := by decide +kernel
theorem dX0_write_4 : decode cX0_write 4 = .ok (.ifCond .ne 9, 3) := by decide +kernel
theorem dX0_write_7 : decode cX0_write 7 = .ok (.aload_n 0, 1) := by decide +kernel
theorem dX0_write_8 : decode cX0_write 8 = .ok (.iconst 1, 1) := by decide +kernel
theorem dX0_write_9 : decode cX0_write 9 = .ok (.putfield 85, 3) := by decide +kernel
theorem dX0_write_12 : decode cX0_write 12 = .ok (.return_, 1) := by decide +kernel
theorem dX0_write_13 : decode cX0_write 13 = .ok (.aload_n 0, 1) := by decide +kernel
theorem dX0_write_14 : decode cX0_write 14 = .ok (.getfield 28, 3) := by decide +kernel
theorem dX0_write_17 : decode cX0_write 17 = .ok (.ifCond .le 13, 3) := by decide +kernel
theorem dX0_write_20 : decode cX0_write 20 = .ok (.aload_n 0, 1) := by decide +kernel
theorem dX0_write_21 : decode cX0_write 21 = .ok (.dup, 1) := by decide +kernel
theorem dX0_write_22 : decode cX0_write 22 = .ok (.getfield 28, 3) := by decide +kernel
theorem dX0_write_25 : decode cX0_write 25 = .ok (.iconst 1, 1) := by decide +kernel
theorem dX0_write_26 : decode cX0_write 26 = .ok (.isub, 1) := by decide +kernel
theorem dX0_write_27 : decode cX0_write 27 = .ok (.putfield 28, 3) := by decide +kernel
theorem dX0_write_30 : decode cX0_write 30 = .ok (.aload_n 2, 1) := by decide +kernel
theorem dX0_write_31 : decode cX0_write 31 = .ok (.iload_n 3, 1) := by decide +kernel
theorem dX0_write_32 : decode cX0_write 32 = .ok (.aload_n 0, 1) := by decide +kernel
theorem dX0_write_33 : decode cX0_write 33 = .ok (.getfield 9, 3) := by decide +kernel
theorem dX0_write_36 : decode cX0_write 36 = .ok (.iload_n 1, 1) := by decide +kernel
theorem dX0_write_37 : decode cX0_write 37 = .ok (.bipush 64, 2) := by decide +kernel
theorem dX0_write_39 : decode cX0_write 39 = .ok (.imul, 1) := by decide +kernel
theorem dX0_write_40 : decode cX0_write 40 = .ok (.bipush 64, 2) := by decide +kernel
theorem dX0_write_42 : decode cX0_write 42 = .ok (.invokestatic 73, 3) := by decide +kernel
theorem dX0_write_45 : decode cX0_write 45 = .ok (.aload_n 0, 1) := by decide +kernel
theorem dX0_write_46 : decode cX0_write 46 = .ok (.dup, 1) := by decide +kernel
theorem dX0_write_47 : decode cX0_write 47 = .ok (.getfield 132, 3) := by decide +kernel
theorem dX0_write_50 : decode cX0_write 50 = .ok (.lconst 1, 1) := by decide +kernel
theorem dX0_write_51 : decode cX0_write 51 = .ok (.ladd, 1) := by decide +kernel
theorem dX0_write_52 : decode cX0_write 52 = .ok (.putfield 132, 3) := by decide +kernel
theorem dX0_write_55 : decode cX0_write 55 = .ok (.return_, 1) := by decide +kernel
theorem dX0_writeFullHead_0 : decode cX0_writeFullHead 0 = .ok (.aload_n 0, 1) := by decide +kernel
theorem dX0_writeFullHead_1 : decode cX0_writeFullHead 1 = .ok (.getfield 16, 3) := by decide +kernel
theorem dX0_writeFullHead_4 : decode cX0_writeFullHead 4 = .ok (.iconst 0, 1) := by decide +kernel
theorem dX0_writeFullHead_5 : decode cX0_writeFullHead 5 = .ok (.invokestatic 79, 3) := by decide +kernel
theorem dX0_writeFullHead_8 : decode cX0_writeFullHead 8 = .ok (.aload_n 0, 1) := by decide +kernel
theorem dX0_writeFullHead_9 : decode cX0_writeFullHead 9 = .ok (.iconst 0, 1) := by decide +kernel
theorem dX0_writeFullHead_10 : decode cX0_writeFullHead 10 = .ok (.iload_n 1, 1) := by decide +kernel
theorem dX0_writeFullHead_11 : decode cX0_writeFullHead 11 = .ok (.invokevirtual 138, 3) := by decide +kernel
theorem dX0_writeFullHead_14 : decode cX0_writeFullHead 14 = .ok (.aload_n 0, 1) := by decide +kernel
theorem dX0_writeFullHead_15 : decode cX0_writeFullHead 15 = .ok (.getfield 16, 3) := by decide +kernel
theorem dX0_writeFullHead_18 : decode cX0_writeFullHead 18 = .ok (.iconst 4, 1) := by decide +kernel
theorem dX0_writeFullHead_19 : decode cX0_writeFullHead 19 = .ok (.aload_n 0, 1) := by decide +kernel
theorem dX0_writeFullHead_20 : decode cX0_writeFullHead 20 = .ok (.getfield 64, 3) := by decide +kernel
theorem dX0_writeFullHead_23 : decode cX0_writeFullHead 23 = .ok (.iastore, 1) := by decide +kernel
theorem dX0_writeFullHead_24 : decode cX0_writeFullHead 24 = .ok (.iconst 0, 1) := by decide +kernel
theorem dX0_writeFullHead_25 : decode cX0_writeFullHead 25 = .ok (.istore_n 2, 1) := by decide +kernel
theorem dX0_writeFullHead_26 : decode cX0_writeFullHead 26 = .ok (.iload_n 2, 1) := by decide +kernel
theorem dX0_writeFullHead_27 : decode cX0_writeFullHead 27 = .ok (.aload_n 0, 1) := by decide +kernel
theorem dX0_writeFullHead_28 : decode cX0_writeFullHead 28 = .ok (.getfield 64, 3) := by decide +kernel
theorem dX0_writeFullHead_31 : decode cX0_writeFullHead 31 = .ok (.if_icmp .ge 50, 3) := by decide +kernel
theorem dX0_writeFullHead_34 : decode cX0_writeFullHead 34 = .ok (.aload_n 0, 1) := by decide +kernel
theorem dX0_writeFullHead_35 : decode cX0_writeFullHead 35 = .ok (.getfield 16, 3) := by decide +kernel
theorem dX0_writeFullHead_38 : decode cX0_writeFullHead 38 = .ok (.iconst 5, 1) := by decide +kernel
theorem dX0_writeFullHead_39 : decode cX0_writeFullHead 39 = .ok (.iconst 2, 1) := by decide +kernel
theorem dX0_writeFullHead_40 : decode cX0_writeFullHead 40 = .ok (.iload_n 2, 1) := by decide +kernel
theorem dX0_writeFullHead_41 : decode cX0_writeFullHead 41 = .ok (.imul, 1) := by decide +kernel
theorem dX0_writeFullHead_42 : decode cX0_writeFullHead 42 = .ok (.iadd, 1) := by decide +kernel
theorem dX0_writeFullHead_43 : decode cX0_writeFullHead 43 = .ok (.aload_n 0, 1) := by decide +kernel
theorem dX0_writeFullHead_44 : decode cX0_writeFullHead 44 = .ok (.getfield 22, 3) := by decide +kernel
theorem dX0_writeFullHead_47 : decode cX0_writeFullHead 47 = .ok (.iload_n 2, 1) := by decide +kernel
theorem dX0_writeFullHead_48 : decode cX0_writeFullHead 48 = .ok (.iaload, 1) := by decide +kernel
theorem dX0_writeFullHead_49 : decode cX0_writeFullHead 49 = .ok (.sipush 255, 3) := by decide +kernel
theorem dX0_writeFullHead_52 : decode cX0_writeFullHead 52 = .ok (.iand, 1) := by decide +kernel
theorem dX0_writeFullHead_53 : decode cX0_writeFullHead 53 = .ok (.iastore, 1) := by decide +kernel
theorem dX0_writeFullHead_54 : decode cX0_writeFullHead 54 = .ok (.aload_n 0, 1) := by decide +kernel
theorem dX0_writeFullHead_55 : decode cX0_writeFullHead 55 = .ok (.getfield 16, 3) := by decide +kernel
theorem dX0_writeFullHead_58 : decode cX0_writeFullHead 58 = .ok (.iconst 5, 1) := by decide +kernel
theorem dX0_writeFullHead_59 : decode cX0_writeFullHead 59 = .ok (.iconst 2, 1) := by decide +kernel
theorem dX0_writeFullHead_60 : decode cX0_writeFullHead 60 = .ok (.iload_n 2, 1) := by decide +kernel
theorem dX0_writeFullHead_61 : decode cX0_writeFullHead 61 = .ok (.imul, 1) := by decide +kernel
theorem dX0_writeFullHead_62 : decode cX0_writeFullHead 62 = .ok (.iadd, 1) := by decide +kernel
theorem dX0_writeFullHead_63 : decode cX0_writeFullHead 63 = .ok (.iconst 1, 1) := by decide +kernel
theorem dX0_writeFullHead_64 : decode cX0_writeFullHead 64 = .ok (.iadd, 1) := by decide +kernel
theorem dX0_writeFullHead_65 : decode cX0_writeFullHead 65 = .ok (.aload_n 0, 1) := by decide +kernel
theorem dX0_writeFullHead_66 : decode cX0_writeFullHead 66 = .ok (.getfield 22, 3) := by decide +kernel
theorem dX0_writeFullHead_69 : decode cX0_writeFullHead 69 = .ok (.iload_n 2, 1) := by decide +kernel
theorem dX0_writeFullHead_70 : decode cX0_writeFullHead 70 = .ok (.iaload, 1) := by decide +kernel
theorem dX0_writeFullHead_71 : decode cX0_writeFullHead 71 = .ok (.bipush 8, 2) := by decide +kernel
theorem dX0_writeFullHead_73 : decode cX0_writeFullHead 73 = .ok (.iushr, 1) := by decide +kernel
theorem dX0_writeFullHead_74 : decode cX0_writeFullHead 74 = .ok (.iastore, 1) := by decide +kernel
theorem dX0_writeFullHead_75 : decode cX0_writeFullHead 75 = .ok (.iinc 2 1, 3) := by decide +kernel
theorem dX0_writeFullHead_78 : decode cX0_writeFullHead 78 = .ok (.goto (-52), 3) := by decide +kernel
theorem dX0_writeFullHead_81 : decode cX0_writeFullHead 81 = .ok (.aload_n 0, 1) := by decide +kernel
theorem dX0_writeFullHead_82 : decode cX0_writeFullHead 82 = .ok (.bipush 59, 2) := by decide +kernel
theorem dX0_writeFullHead_84 : decode cX0_writeFullHead 84 = .ok (.aload_n 0, 1) := by decide +kernel
theorem dX0_writeFullHead_85 : decode cX0_writeFullHead 85 = .ok (.aload_n 0, 1) := by decide +kernel
theorem dX0_writeFullHead_86 : decode cX0_writeFullHead 86 = .ok (.getfield 64, 3) := by decide +kernel
theorem dX0_writeFullHead_89 : decode cX0_writeFullHead 89 = .ok (.invokevirtual 141, 3) := by decide +kernel
theorem dX0_writeFullHead_92 : decode cX0_writeFullHead 92 = .ok (.invokevirtual 138, 3) := by decide +kernel
theorem dX0_writeFullHead_95 : decode cX0_writeFullHead 95 = .ok (.aload_n 0, 1) := by decide +kernel
theorem dX0_writeFullHead_96 : decode cX0_writeFullHead 96 = .ok (.iconst 0, 1) := by decide +kernel
theorem dX0_writeFullHead_97 : decode cX0_writeFullHead 97 = .ok (.aload_n 0, 1) := by decide +kernel
theorem dX0_writeFullHead_98 : decode cX0_writeFullHead 98 = .ok (.getfield 16, 3) := by decide +kernel
theorem dX0_writeFullHead_101 : decode cX0_writeFullHead 101 = .ok (.iconst 0, 1) := by decide +kernel
theorem dX0_writeFullHead_102 : decode cX0_writeFullHead 102 = .ok (.invokevirtual 94, 3) := by decide +kernel
theorem dX0_writeFullHead_105 : decode cX0_writeFullHead 105 = .ok (.return_, 1) := by decide +kernel
theorem dX0_writeEmptyHead_0 : decode cX0_writeEmptyHead 0 = .ok (.aload_n 0, 1) := by decide +kernel
theorem dX0_writeEmptyHead_1 : decode cX0_writeEmptyHead 1 = .ok (.getfield 16, 3) := by decide +kernel
theorem dX0_writeEmptyHead_4 : decode cX0_writeEmptyHead 4 = .ok (.iconst 0, 1) := by decide +kernel
theorem dX0_writeEmptyHead_5 : decode cX0_writeEmptyHead 5 = .ok (.invokestatic 79, 3) := by decide +kernel
theorem dX0_writeEmptyHead_8 : decode cX0_writeEmptyHead 8 = .ok (.aload_n 0, 1) := by decide +kernel
theorem dX0_writeEmptyHead_9 : decode cX0_writeEmptyHead 9 = .ok (.iconst 0, 1) := by decide +kernel
theorem dX0_writeEmptyHead_10 : decode cX0_writeEmptyHead 10 = .ok (.iload_n 1, 1) := by decide +kernel
theorem dX0_writeEmptyHead_11 : decode cX0_writeEmptyHead 11 = .ok (.invokevirtual 138, 3) := by decide +kernel
theorem dX0_writeEmptyHead_14 : decode cX0_writeEmptyHead 14 = .ok (.aload_n 0, 1) := by decide +kernel
theorem dX0_writeEmptyHead_15 : decode cX0_writeEmptyHead 15 = .ok (.iconst 0, 1) := by decide +kernel
theorem dX0_writeEmptyHead_16 : decode cX0_writeEmptyHead 16 = .ok (.aload_n 0, 1) := by decide +kernel
theorem dX0_writeEmptyHead_17 : decode cX0_writeEmptyHead 17 = .ok (.getfield 16, 3) := by decide +kernel
theorem dX0_writeEmptyHead_20 : decode cX0_writeEmptyHead 20 = .ok (.iconst 0, 1) := by decide +kernel
theorem dX0_writeEmptyHead_21 : decode cX0_writeEmptyHead 21 = .ok (.invokevirtual 94, 3) := by decide +kernel
theorem dX0_writeEmptyHead_24 : decode cX0_writeEmptyHead 24 = .ok (.return_, 1) := by decide +kernel
theorem dX0_setWord_0 : decode cX0_setWord 0 = .ok (.iconst 0, 1) := by decide +kernel
theorem dX0_setWord_1 : decode cX0_setWord 1 = .ok (.istore_n 3, 1) := by decide +kernel
theorem dX0_setWord_2 : decode cX0_setWord 2 = .ok (.iload_n 3, 1) := by decide +kernel
theorem dX0_setWord_3 : decode cX0_setWord 3 = .ok (.iconst 4, 1) := by decide +kernel
theorem dX0_setWord_4 : decode cX0_setWord 4 = .ok (.if_icmp .ge 27, 3) := by decide +kernel
theorem dX0_setWord_7 : decode cX0_setWord 7 = .ok (.aload_n 0, 1) := by decide +kernel
theorem dX0_setWord_8 : decode cX0_setWord 8 = .ok (.getfield 16, 3) := by decide +kernel
theorem dX0_setWord_11 : decode cX0_setWord 11 = .ok (.iload_n 1, 1) := by decide +kernel
theorem dX0_setWord_12 : decode cX0_setWord 12 = .ok (.iload_n 3, 1) := by decide +kernel
theorem dX0_setWord_13 : decode cX0_setWord 13 = .ok (.iadd, 1) := by decide +kernel
theorem dX0_setWord_14 : decode cX0_setWord 14 = .ok (.iload_n 2, 1) := by decide +kernel
theorem dX0_setWord_15 : decode cX0_setWord 15 = .ok (.bipush 8, 2) := by decide +kernel
theorem dX0_setWord_17 : decode cX0_setWord 17 = .ok (.iload_n 3, 1) := by decide +kernel
theorem dX0_setWord_18 : decode cX0_setWord 18 = .ok (.imul, 1) := by decide +kernel
theorem dX0_setWord_19 : decode cX0_setWord 19 = .ok (.iushr, 1) := by decide +kernel
theorem dX0_setWord_20 : decode cX0_setWord 20 = .ok (.sipush 255, 3) := by decide +kernel
theorem dX0_setWord_23 : decode cX0_setWord 23 = .ok (.iand, 1) := by decide +kernel
theorem dX0_setWord_24 : decode cX0_setWord 24 = .ok (.iastore, 1) := by decide +kernel
theorem dX0_setWord_25 : decode cX0_setWord 25 = .ok (.iinc 3 1, 3) := by decide +kernel
theorem dX0_setWord_28 : decode cX0_setWord 28 = .ok (.goto (-26), 3) := by decide +kernel
theorem dX0_setWord_31 : decode cX0_setWord 31 = .ok (.return_, 1) := by decide +kernel
theorem dX0_headWord_0 : decode cX0_headWord 0 = .ok (.iconst 0, 1) := by decide +kernel
theorem dX0_headWord_1 : decode cX0_headWord 1 = .ok (.istore_n 2, 1) := by decide +kernel
theorem dX0_headWord_2 : decode cX0_headWord 2 = .ok (.iconst 0, 1) := by decide +kernel
theorem dX0_headWord_3 : decode cX0_headWord 3 = .ok (.istore_n 3, 1) := by decide +kernel
theorem dX0_headWord_4 : decode cX0_headWord 4 = .ok (.iload_n 3, 1) := by decide +kernel
theorem dX0_headWord_5 : decode cX0_headWord 5 = .ok (.iconst 4, 1) := by decide +kernel
theorem dX0_headWord_6 : decode cX0_headWord 6 = .ok (.if_icmp .ge 27, 3) := by decide +kernel
theorem dX0_headWord_9 : decode cX0_headWord 9 = .ok (.iload_n 2, 1) := by decide +kernel
theorem dX0_headWord_10 : decode cX0_headWord 10 = .ok (.aload_n 0, 1) := by decide +kernel
theorem dX0_headWord_11 : decode cX0_headWord 11 = .ok (.getfield 9, 3) := by decide +kernel
theorem dX0_headWord_14 : decode cX0_headWord 14 = .ok (.iconst 0, 1) := by decide +kernel
theorem dX0_headWord_15 : decode cX0_headWord 15 = .ok (.iload_n 1, 1) := by decide +kernel
theorem dX0_headWord_16 : decode cX0_headWord 16 = .ok (.iadd, 1) := by decide +kernel
theorem dX0_headWord_17 : decode cX0_headWord 17 = .ok (.iload_n 3, 1) := by decide +kernel
theorem dX0_headWord_18 : decode cX0_headWord 18 = .ok (.iadd, 1) := by decide +kernel
theorem dX0_headWord_19 : decode cX0_headWord 19 = .ok (.iaload, 1) := by decide +kernel
theorem dX0_headWord_20 : decode cX0_headWord 20 = .ok (.bipush 8, 2) := by decide +kernel
theorem dX0_headWord_22 : decode cX0_headWord 22 = .ok (.iload_n 3, 1) := by decide +kernel
theorem dX0_headWord_23 : decode cX0_headWord 23 = .ok (.imul, 1) := by decide +kernel
theorem dX0_headWord_24 : decode cX0_headWord 24 = .ok (.ishl, 1) := by decide +kernel
theorem dX0_headWord_25 : decode cX0_headWord 25 = .ok (.ior, 1) := by decide +kernel
theorem dX0_headWord_26 : decode cX0_headWord 26 = .ok (.istore_n 2, 1) := by decide +kernel
theorem dX0_headWord_27 : decode cX0_headWord 27 = .ok (.iinc 3 1, 3) := by decide +kernel
theorem dX0_headWord_30 : decode cX0_headWord 30 = .ok (.goto (-26), 3) := by decide +kernel
theorem dX0_headWord_33 : decode cX0_headWord 33 = .ok (.iload_n 2, 1) := by decide +kernel
theorem dX0_headWord_34 : decode cX0_headWord 34 = .ok (.ireturn, 1) := by decide +kernel
theorem dX0_headCount_0 : decode cX0_headCount 0 = .ok (.aload_n 0, 1) := by decide +kernel
theorem dX0_headCount_1 : decode cX0_headCount 1 = .ok (.getfield 9, 3) := by decide +kernel
theorem dX0_headCount_4 : decode cX0_headCount 4 = .ok (.iconst 4, 1) := by decide +kernel
theorem dX0_headCount_5 : decode cX0_headCount 5 = .ok (.iaload, 1) := by decide +kernel
theorem dX0_headCount_6 : decode cX0_headCount 6 = .ok (.ireturn, 1) := by decide +kernel
theorem dX0_headTarget_0 : decode cX0_headTarget 0 = .ok (.iconst 5, 1) := by decide +kernel
theorem dX0_headTarget_1 : decode cX0_headTarget 1 = .ok (.iconst 2, 1) := by decide +kernel
theorem dX0_headTarget_2 : decode cX0_headTarget 2 = .ok (.iload_n 1, 1) := by decide +kernel
theorem dX0_headTarget_3 : decode cX0_headTarget 3 = .ok (.imul, 1) := by decide +kernel
theorem dX0_headTarget_4 : decode cX0_headTarget 4 = .ok (.iadd, 1) := by decide +kernel
theorem dX0_headTarget_5 : decode cX0_headTarget 5 = .ok (.istore_n 2, 1) := by decide +kernel
theorem dX0_headTarget_6 : decode cX0_headTarget 6 = .ok (.aload_n 0, 1) := by decide +kernel
theorem dX0_headTarget_7 : decode cX0_headTarget 7 = .ok (.getfield 9, 3) := by decide +kernel
theorem dX0_headTarget_10 : decode cX0_headTarget 10 = .ok (.iload_n 2, 1) := by decide +kernel
theorem dX0_headTarget_11 : decode cX0_headTarget 11 = .ok (.iaload, 1) := by decide +kernel
theorem dX0_headTarget_12 : decode cX0_headTarget 12 = .ok (.aload_n 0, 1) := by decide +kernel
theorem dX0_headTarget_13 : decode cX0_headTarget 13 = .ok (.getfield 9, 3) := by decide +kernel
theorem dX0_headTarget_16 : decode cX0_headTarget 16 = .ok (.iload_n 2, 1) := by decide +kernel
theorem dX0_headTarget_17 : decode cX0_headTarget 17 = .ok (.iconst 1, 1) := by decide +kernel
theorem dX0_headTarget_18 : decode cX0_headTarget 18 = .ok (.iadd, 1) := by decide +kernel
theorem dX0_headTarget_19 : decode cX0_headTarget 19 = .ok (.iaload, 1) := by decide +kernel
theorem dX0_headTarget_20 : decode cX0_headTarget 20 = .ok (.bipush 8, 2) := by decide +kernel
theorem dX0_headTarget_22 : decode cX0_headTarget 22 = .ok (.ishl, 1) := by decide +kernel
theorem dX0_headTarget_23 : decode cX0_headTarget 23 = .ok (.ior, 1) := by decide +kernel
theorem dX0_headTarget_24 : decode cX0_headTarget 24 = .ok (.ireturn, 1) := by decide +kernel
theorem dX0_headIsRight_0 : decode cX0_headIsRight 0 = .ok (.aload_n 0, 1) := by decide +kernel
theorem dX0_headIsRight_1 : decode cX0_headIsRight 1 = .ok (.invokevirtual 111, 3) := by decide +kernel
theorem dX0_headIsRight_4 : decode cX0_headIsRight 4 = .ok (.istore_n 1, 1) := by decide +kernel
theorem dX0_headIsRight_5 : decode cX0_headIsRight 5 = .ok (.iload_n 1, 1) := by decide +kernel
theorem dX0_headIsRight_6 : decode cX0_headIsRight 6 = .ok (.iconst 1, 1) := by decide +kernel
theorem dX0_headIsRight_7 : decode cX0_headIsRight 7 = .ok (.if_icmp .lt 35, 3) := by decide +kernel
theorem dX0_headIsRight_10 : decode cX0_headIsRight 10 = .ok (.iload_n 1, 1) := by decide +kernel
theorem dX0_headIsRight_11 : decode cX0_headIsRight 11 = .ok (.bipush 24, 2) := by decide +kernel
theorem dX0_headIsRight_13 : decode cX0_headIsRight 13 = .ok (.if_icmp .gt 29, 3) := by decide +kernel
theorem dX0_headIsRight_16 : decode cX0_headIsRight 16 = .ok (.aload_n 0, 1) := by decide +kernel
theorem dX0_headIsRight_17 : decode cX0_headIsRight 17 = .ok (.iload_n 1, 1) := by decide +kernel
theorem dX0_headIsRight_18 : decode cX0_headIsRight 18 = .ok (.invokevirtual 144, 3) := by decide +kernel
theorem dX0_headIsRight_21 : decode cX0_headIsRight 21 = .ok (.ifCond .eq 21, 3) := by decide +kernel
theorem dX0_headIsRight_24 : decode cX0_headIsRight 24 = .ok (.aload_n 0, 1) := by decide +kernel
theorem dX0_headIsRight_25 : decode cX0_headIsRight 25 = .ok (.bipush 59, 2) := by decide +kernel
theorem dX0_headIsRight_27 : decode cX0_headIsRight 27 = .ok (.invokevirtual 91, 3) := by decide +kernel
theorem dX0_headIsRight_30 : decode cX0_headIsRight 30 = .ok (.aload_n 0, 1) := by decide +kernel
theorem dX0_headIsRight_31 : decode cX0_headIsRight 31 = .ok (.iload_n 1, 1) := by decide +kernel
theorem dX0_headIsRight_32 : decode cX0_headIsRight 32 = .ok (.invokevirtual 141, 3) := by decide +kernel
theorem dX0_headIsRight_35 : decode cX0_headIsRight 35 = .ok (.if_icmp .ne 7, 3) := by decide +kernel
theorem dX0_headIsRight_38 : decode cX0_headIsRight 38 = .ok (.iconst 1, 1) := by decide +kernel
theorem dX0_headIsRight_39 : decode cX0_headIsRight 39 = .ok (.goto 4, 3) := by decide +kernel
theorem dX0_headIsRight_42 : decode cX0_headIsRight 42 = .ok (.iconst 0, 1) := by decide +kernel
theorem dX0_headIsRight_43 : decode cX0_headIsRight 43 = .ok (.ireturn, 1) := by decide +kernel
theorem dX0_targetsAreRight_0 : decode cX0_targetsAreRight 0 = .ok (.iconst 0, 1) := by decide +kernel
theorem dX0_targetsAreRight_1 : decode cX0_targetsAreRight 1 = .ok (.istore_n 2, 1) := by decide +kernel
theorem dX0_targetsAreRight_2 : decode cX0_targetsAreRight 2 = .ok (.iconst 0, 1) := by decide +kernel
theorem dX0_targetsAreRight_3 : decode cX0_targetsAreRight 3 = .ok (.istore_n 3, 1) := by decide +kernel
theorem dX0_targetsAreRight_4 : decode cX0_targetsAreRight 4 = .ok (.iload_n 3, 1) := by decide +kernel
theorem dX0_targetsAreRight_5 : decode cX0_targetsAreRight 5 = .ok (.iload_n 1, 1) := by decide +kernel
theorem dX0_targetsAreRight_6 : decode cX0_targetsAreRight 6 = .ok (.if_icmp .ge 35, 3) := by decide +kernel
theorem dX0_targetsAreRight_9 : decode cX0_targetsAreRight 9 = .ok (.aload_n 0, 1) := by decide +kernel
theorem dX0_targetsAreRight_10 : decode cX0_targetsAreRight 10 = .ok (.iload_n 3, 1) := by decide +kernel
theorem dX0_targetsAreRight_11 : decode cX0_targetsAreRight 11 = .ok (.invokevirtual 115, 3) := by decide +kernel
theorem dX0_targetsAreRight_14 : decode cX0_targetsAreRight 14 = .ok (.istore 4, 2) := by decide +kernel
theorem dX0_targetsAreRight_16 : decode cX0_targetsAreRight 16 = .ok (.iload 4, 2) := by decide +kernel
theorem dX0_targetsAreRight_18 : decode cX0_targetsAreRight 18 = .ok (.invokestatic 51, 3) := by decide +kernel
theorem dX0_targetsAreRight_21 : decode cX0_targetsAreRight 21 = .ok (.ifCond .eq 9, 3) := by decide +kernel
theorem dX0_targetsAreRight_24 : decode cX0_targetsAreRight 24 = .ok (.iload 4, 2) := by decide +kernel
theorem dX0_targetsAreRight_26 : decode cX0_targetsAreRight 26 = .ok (.iload_n 2, 1) := by decide +kernel
theorem dX0_targetsAreRight_27 : decode cX0_targetsAreRight 27 = .ok (.if_icmp .gt 5, 3) := by decide +kernel
theorem dX0_targetsAreRight_30 : decode cX0_targetsAreRight 30 = .ok (.iconst 0, 1) := by decide +kernel
theorem dX0_targetsAreRight_31 : decode cX0_targetsAreRight 31 = .ok (.ireturn, 1) := by decide +kernel
theorem dX0_targetsAreRight_32 : decode cX0_targetsAreRight 32 = .ok (.iload 4, 2) := by decide +kernel
theorem dX0_targetsAreRight_34 : decode cX0_targetsAreRight 34 = .ok (.istore_n 2, 1) := by decide +kernel
theorem dX0_targetsAreRight_35 : decode cX0_targetsAreRight 35 = .ok (.iinc 3 1, 3) := by decide +kernel
theorem dX0_targetsAreRight_38 : decode cX0_targetsAreRight 38 = .ok (.goto (-34), 3) := by decide +kernel
theorem dX0_targetsAreRight_41 : decode cX0_targetsAreRight 41 = .ok (.iconst 1, 1) := by decide +kernel
theorem dX0_targetsAreRight_42 : decode cX0_targetsAreRight 42 = .ok (.ireturn, 1) := by decide +kernel
theorem dX0_payloadCheck_0 : decode cX0_payloadCheck 0 = .ok (.iconst (-1), 1) := by decide +kernel
theorem dX0_payloadCheck_1 : decode cX0_payloadCheck 1 = .ok (.istore_n 2, 1) := by decide +kernel
theorem dX0_payloadCheck_2 : decode cX0_payloadCheck 2 = .ok (.iconst 1, 1) := by decide +kernel
theorem dX0_payloadCheck_3 : decode cX0_payloadCheck 3 = .ok (.iload_n 1, 1) := by decide +kernel
theorem dX0_payloadCheck_4 : decode cX0_payloadCheck 4 = .ok (.iadd, 1) := by decide +kernel
theorem dX0_payloadCheck_5 : decode cX0_payloadCheck 5 = .ok (.bipush 64, 2) := by decide +kernel
theorem dX0_payloadCheck_7 : decode cX0_payloadCheck 7 = .ok (.imul, 1) := by decide +kernel
theorem dX0_payloadCheck_8 : decode cX0_payloadCheck 8 = .ok (.istore_n 3, 1) := by decide +kernel
theorem dX0_payloadCheck_9 : decode cX0_payloadCheck 9 = .ok (.bipush 64, 2) := by decide +kernel
theorem dX0_payloadCheck_11 : decode cX0_payloadCheck 11 = .ok (.istore 4, 2) := by decide +kernel
theorem dX0_payloadCheck_13 : decode cX0_payloadCheck 13 = .ok (.iload 4, 2) := by decide +kernel
theorem dX0_payloadCheck_15 : decode cX0_payloadCheck 15 = .ok (.iload_n 3, 1) := by decide +kernel
theorem dX0_payloadCheck_16 : decode cX0_payloadCheck 16 = .ok (.if_icmp .ge 33, 3) := by decide +kernel
theorem dX0_payloadCheck_19 : decode cX0_payloadCheck 19 = .ok (.iload_n 2, 1) := by decide +kernel
theorem dX0_payloadCheck_20 : decode cX0_payloadCheck 20 = .ok (.bipush 8, 2) := by decide +kernel
theorem dX0_payloadCheck_22 : decode cX0_payloadCheck 22 = .ok (.iushr, 1) := by decide +kernel
theorem dX0_payloadCheck_23 : decode cX0_payloadCheck 23 = .ok (.aload_n 0, 1) := by decide +kernel
theorem dX0_payloadCheck_24 : decode cX0_payloadCheck 24 = .ok (.getfield 13, 3) := by decide +kernel
theorem dX0_payloadCheck_27 : decode cX0_payloadCheck 27 = .ok (.iload_n 2, 1) := by decide +kernel
theorem dX0_payloadCheck_28 : decode cX0_payloadCheck 28 = .ok (.aload_n 0, 1) := by decide +kernel
theorem dX0_payloadCheck_29 : decode cX0_payloadCheck 29 = .ok (.getfield 9, 3) := by decide +kernel
theorem dX0_payloadCheck_32 : decode cX0_payloadCheck 32 = .ok (.iload 4, 2) := by decide +kernel
theorem dX0_payloadCheck_34 : decode cX0_payloadCheck 34 = .ok (.iaload, 1) := by decide +kernel
theorem dX0_payloadCheck_35 : decode cX0_payloadCheck 35 = .ok (.ixor, 1) := by decide +kernel
theorem dX0_payloadCheck_36 : decode cX0_payloadCheck 36 = .ok (.sipush 255, 3) := by decide +kernel
theorem dX0_payloadCheck_39 : decode cX0_payloadCheck 39 = .ok (.iand, 1) := by decide +kernel
theorem dX0_payloadCheck_40 : decode cX0_payloadCheck 40 = .ok (.iaload, 1) := by decide +kernel
theorem dX0_payloadCheck_41 : decode cX0_payloadCheck 41 = .ok (.ixor, 1) := by decide +kernel
theorem dX0_payloadCheck_42 : decode cX0_payloadCheck 42 = .ok (.istore_n 2, 1) := by decide +kernel
theorem dX0_payloadCheck_43 : decode cX0_payloadCheck 43 = .ok (.iinc 4 1, 3) := by decide +kernel
theorem dX0_payloadCheck_46 : decode cX0_payloadCheck 46 = .ok (.goto (-33), 3) := by decide +kernel
theorem dX0_payloadCheck_49 : decode cX0_payloadCheck 49 = .ok (.iload_n 2, 1) := by decide +kernel
theorem dX0_payloadCheck_50 : decode cX0_payloadCheck 50 = .ok (.iconst (-1), 1) := by decide +kernel
theorem dX0_payloadCheck_51 : decode cX0_payloadCheck 51 = .ok (.ixor, 1) := by decide +kernel
theorem dX0_payloadCheck_52 : decode cX0_payloadCheck 52 = .ok (.ireturn, 1) := by decide +kernel
theorem dX0_eightSteps_0 : decode cX0_eightSteps 0 = .ok (.iconst 0, 1) := by decide +kernel
theorem dX0_eightSteps_1 : decode cX0_eightSteps 1 = .ok (.istore_n 1, 1) := by decide +kernel
theorem dX0_eightSteps_2 : decode cX0_eightSteps 2 = .ok (.iload_n 1, 1) := by decide +kernel
theorem dX0_eightSteps_3 : decode cX0_eightSteps 3 = .ok (.bipush 8, 2) := by decide +kernel
theorem dX0_eightSteps_5 : decode cX0_eightSteps 5 = .ok (.if_icmp .ge 27, 3) := by decide +kernel
theorem dX0_eightSteps_8 : decode cX0_eightSteps 8 = .ok (.iload_n 0, 1) := by decide +kernel
theorem dX0_eightSteps_9 : decode cX0_eightSteps 9 = .ok (.iconst 1, 1) := by decide +kernel
theorem dX0_eightSteps_10 : decode cX0_eightSteps 10 = .ok (.iand, 1) := by decide +kernel
theorem dX0_eightSteps_11 : decode cX0_eightSteps 11 = .ok (.istore_n 2, 1) := by decide +kernel
theorem dX0_eightSteps_12 : decode cX0_eightSteps 12 = .ok (.iload_n 0, 1) := by decide +kernel
theorem dX0_eightSteps_13 : decode cX0_eightSteps 13 = .ok (.iconst 1, 1) := by decide +kernel
theorem dX0_eightSteps_14 : decode cX0_eightSteps 14 = .ok (.iushr, 1) := by decide +kernel
theorem dX0_eightSteps_15 : decode cX0_eightSteps 15 = .ok (.istore_n 0, 1) := by decide +kernel
theorem dX0_eightSteps_16 : decode cX0_eightSteps 16 = .ok (.iload_n 2, 1) := by decide +kernel
theorem dX0_eightSteps_17 : decode cX0_eightSteps 17 = .ok (.iconst 1, 1) := by decide +kernel
theorem dX0_eightSteps_18 : decode cX0_eightSteps 18 = .ok (.if_icmp .ne 8, 3) := by decide +kernel
theorem dX0_eightSteps_21 : decode cX0_eightSteps 21 = .ok (.iload_n 0, 1) := by decide +kernel
theorem dX0_eightSteps_22 : decode cX0_eightSteps 22 = .ok (.ldc 147, 2) := by decide +kernel
theorem dX0_eightSteps_24 : decode cX0_eightSteps 24 = .ok (.ixor, 1) := by decide +kernel
theorem dX0_eightSteps_25 : decode cX0_eightSteps 25 = .ok (.istore_n 0, 1) := by decide +kernel
theorem dX0_eightSteps_26 : decode cX0_eightSteps 26 = .ok (.iinc 1 1, 3) := by decide +kernel
theorem dX0_eightSteps_29 : decode cX0_eightSteps 29 = .ok (.goto (-27), 3) := by decide +kernel
theorem dX0_eightSteps_32 : decode cX0_eightSteps 32 = .ok (.iload_n 0, 1) := by decide +kernel
theorem dX0_eightSteps_33 : decode cX0_eightSteps 33 = .ok (.ireturn, 1) := by decide +kernel
end
section
theorem dX1_init_0 : decode cX1_init 0 = .ok (.aload_n 0, 1) := by decide +kernel
theorem dX1_init_1 : decode cX1_init 1 = .ok (.invokespecial 1, 3) := by decide +kernel
theorem dX1_init_4 : decode cX1_init 4 = .ok (.aload_n 0, 1) := by decide +kernel
theorem dX1_init_5 : decode cX1_init 5 = .ok (.sipush 6144, 3) := by decide +kernel
theorem dX1_init_8 : decode cX1_init 8 = .ok (.newarray .int, 2) := by decide +kernel
theorem dX1_init_10 : decode cX1_init 10 = .ok (.putfield 7, 3) := by decide +kernel
theorem dX1_init_13 : decode cX1_init 13 = .ok (.aload_n 0, 1) := by decide +kernel
theorem dX1_init_14 : decode cX1_init 14 = .ok (.bipush 64, 2) := by decide +kernel
theorem dX1_init_16 : decode cX1_init 16 = .ok (.newarray .int, 2) := by decide +kernel
theorem dX1_init_18 : decode cX1_init 18 = .ok (.putfield 13, 3) := by decide +kernel
theorem dX1_init_21 : decode cX1_init 21 = .ok (.aload_n 0, 1) := by decide +kernel
theorem dX1_init_22 : decode cX1_init 22 = .ok (.bipush 24, 2) := by decide +kernel
theorem dX1_init_24 : decode cX1_init 24 = .ok (.newarray .int, 2) := by decide +kernel
theorem dX1_init_26 : decode cX1_init 26 = .ok (.putfield 16, 3) := by decide +kernel
theorem dX1_init_29 : decode cX1_init 29 = .ok (.aload_n 0, 1) := by decide +kernel
theorem dX1_init_30 : decode cX1_init 30 = .ok (.sipush 1536, 3) := by decide +kernel
theorem dX1_init_33 : decode cX1_init 33 = .ok (.newarray .int, 2) := by decide +kernel
theorem dX1_init_35 : decode cX1_init 35 = .ok (.putfield 19, 3) := by decide +kernel
theorem dX1_init_38 : decode cX1_init 38 = .ok (.aload_n 0, 1) := by decide +kernel
theorem dX1_init_39 : decode cX1_init 39 = .ok (.ldc2_w 22, 3) := by decide +kernel
theorem dX1_init_42 : decode cX1_init 42 = .ok (.putfield 24, 3) := by decide +kernel
theorem dX1_init_45 : decode cX1_init 45 = .ok (.aload_n 0, 1) := by decide +kernel
theorem dX1_init_46 : decode cX1_init 46 = .ok (.bipush 64, 2) := by decide +kernel
theorem dX1_init_48 : decode cX1_init 48 = .ok (.newarray .int, 2) := by decide +kernel
theorem dX1_init_50 : decode cX1_init 50 = .ok (.putfield 28, 3) := by decide +kernel
theorem dX1_init_53 : decode cX1_init 53 = .ok (.return_, 1) := by decide +kernel
theorem dX1_thrown_0 : decode cX1_thrown 0 = .ok (.aload_n 0, 1) := by decide +kernel
theorem dX1_thrown_1 : decode cX1_thrown 1 = .ok (.getfield 31, 3) := by decide +kernel
theorem dX1_thrown_4 : decode cX1_thrown 4 = .ok (.ireturn, 1) := by decide +kernel
theorem dX1_fails_0 : decode cX1_fails 0 = .ok (.aload_n 0, 1) := by decide +kernel
theorem dX1_fails_1 : decode cX1_fails 1 = .ok (.iload_n 1, 1) := by decide +kernel
theorem dX1_fails_2 : decode cX1_fails 2 = .ok (.ifCond .eq 7, 3) := by decide +kernel
theorem dX1_fails_5 : decode cX1_fails 5 = .ok (.iload_n 2, 1) := by decide +kernel
theorem dX1_fails_6 : decode cX1_fails 6 = .ok (.goto 4, 3) := by decide +kernel
theorem dX1_fails_9 : decode cX1_fails 9 = .ok (.iconst 0, 1) := by decide +kernel
theorem dX1_fails_10 : decode cX1_fails 10 = .ok (.putfield 31, 3) := by decide +kernel
theorem dX1_fails_13 : decode cX1_fails 13 = .ok (.iload_n 1, 1) := by decide +kernel
theorem dX1_fails_14 : decode cX1_fails 14 = .ok (.ireturn, 1) := by decide +kernel
theorem dX1_within_0 : decode cX1_within 0 = .ok (.lload_n 0, 1) := by decide +kernel
theorem dX1_within_1 : decode cX1_within 1 = .ok (.lload_n 2, 1) := by decide +kernel
theorem dX1_within_2 : decode cX1_within 2 = .ok (.lcmp, 1) := by decide +kernel
theorem dX1_within_3 : decode cX1_within 3 = .ok (.ifCond .lt 14, 3) := by decide +kernel
theorem dX1_within_6 : decode cX1_within 6 = .ok (.lload_n 0, 1) := by decide +kernel
theorem dX1_within_7 : decode cX1_within 7 = .ok (.lload 4, 2) := by decide +kernel
theorem dX1_within_9 : decode cX1_within 9 = .ok (.lcmp, 1) := by decide +kernel
theorem dX1_within_10 : decode cX1_within 10 = .ok (.ifCond .gt 7, 3) := by decide +kernel
theorem dX1_within_13 : decode cX1_within 13 = .ok (.iconst 1, 1) := by decide +kernel
theorem dX1_within_14 : decode cX1_within 14 = .ok (.goto 4, 3) := by decide +kernel
theorem dX1_within_17 : decode cX1_within 17 = .ok (.iconst 0, 1) := by decide +kernel
theorem dX1_within_18 : decode cX1_within 18 = .ok (.ireturn, 1) := by decide +kernel
theorem dX1_writes_0 : decode cX1_writes 0 = .ok (.aload_n 0, 1) := by decide +kernel
theorem dX1_writes_1 : decode cX1_writes 1 = .ok (.aload_n 0, 1) := by decide +kernel
theorem dX1_writes_2 : decode cX1_writes 2 = .ok (.getfield 35, 3) := by decide +kernel
theorem dX1_writes_5 : decode cX1_writes 5 = .ok (.ifCond .ne 12, 3) := by decide +kernel
theorem dX1_writes_8 : decode cX1_writes 8 = .ok (.aload_n 0, 1) := by decide +kernel
theorem dX1_writes_9 : decode cX1_writes 9 = .ok (.getfield 24, 3) := by decide +kernel
theorem dX1_writes_12 : decode cX1_writes 12 = .ok (.lconst 0, 1) := by decide +kernel
theorem dX1_writes_13 : decode cX1_writes 13 = .ok (.lcmp, 1) := by decide +kernel
theorem dX1_writes_14 : decode cX1_writes 14 = .ok (.ifCond .ne 7, 3) := by decide +kernel
theorem dX1_writes_17 : decode cX1_writes 17 = .ok (.iconst 1, 1) := by decide +kernel
theorem dX1_writes_18 : decode cX1_writes 18 = .ok (.goto 4, 3) := by decide +kernel
theorem dX1_writes_21 : decode cX1_writes 21 = .ok (.iconst 0, 1) := by decide +kernel
theorem dX1_writes_22 : decode cX1_writes 22 = .ok (.putfield 35, 3) := by decide +kernel
theorem dX1_writes_25 : decode cX1_writes 25 = .ok (.aload_n 0, 1) := by decide +kernel
theorem dX1_writes_26 : decode cX1_writes 26 = .ok (.getfield 35, 3) := by decide +kernel
theorem dX1_writes_29 : decode cX1_writes 29 = .ok (.ifCond .eq 5, 3) := by decide +kernel
theorem dX1_writes_32 : decode cX1_writes 32 = .ok (.iconst 0, 1) := by decide +kernel
theorem dX1_writes_33 : decode cX1_writes 33 = .ok (.ireturn, 1) := by decide +kernel
theorem dX1_writes_34 : decode cX1_writes 34 = .ok (.aload_n 0, 1) := by decide +kernel
theorem dX1_writes_35 : decode cX1_writes 35 = .ok (.dup, 1) := by decide +kernel
theorem dX1_writes_36 : decode cX1_writes 36 = .ok (.getfield 24, 3) := by decide +kernel
theorem dX1_writes_39 : decode cX1_writes 39 = .ok (.aload_n 0, 1) := by decide +kernel
theorem dX1_writes_40 : decode cX1_writes 40 = .ok (.getfield 24, 3) := by decide +kernel
theorem dX1_writes_43 : decode cX1_writes 43 = .ok (.lconst 0, 1) := by decide +kernel
theorem dX1_writes_44 : decode cX1_writes 44 = .ok (.lcmp, 1) := by decide +kernel
theorem dX1_writes_45 : decode cX1_writes 45 = .ok (.ifCond .le 7, 3) := by decide +kernel
theorem dX1_writes_48 : decode cX1_writes 48 = .ok (.lconst 1, 1) := by decide +kernel
theorem dX1_writes_49 : decode cX1_writes 49 = .ok (.goto 4, 3) := by decide +kernel
theorem dX1_writes_52 : decode cX1_writes 52 = .ok (.lconst 0, 1) := by decide +kernel
theorem dX1_writes_53 : decode cX1_writes 53 = .ok (.lsub, 1) := by decide +kernel
theorem dX1_writes_54 : decode cX1_writes 54 = .ok (.putfield 24, 3) := by decide +kernel
theorem dX1_writes_57 : decode cX1_writes 57 = .ok (.aload_n 0, 1) := by decide +kernel
theorem dX1_writes_58 : decode cX1_writes 58 = .ok (.dup, 1) := by decide +kernel
theorem dX1_writes_59 : decode cX1_writes 59 = .ok (.getfield 39, 3) := by decide +kernel
theorem dX1_writes_62 : decode cX1_writes 62 = .ok (.lconst 1, 1) := by decide +kernel
theorem dX1_writes_63 : decode cX1_writes 63 = .ok (.ladd, 1) := by decide +kernel
theorem dX1_writes_64 : decode cX1_writes 64 = .ok (.putfield 39, 3) := by decide +kernel
theorem dX1_writes_67 : decode cX1_writes 67 = .ok (.iconst 0, 1) := by decide +kernel
theorem dX1_writes_68 : decode cX1_writes 68 = .ok (.istore_n 2, 1) := by decide +kernel
theorem dX1_writes_69 : decode cX1_writes 69 = .ok (.iload_n 2, 1) := by decide +kernel
theorem dX1_writes_70 : decode cX1_writes 70 = .ok (.bipush 64, 2) := by decide +kernel
theorem dX1_writes_72 : decode cX1_writes 72 = .ok (.if_icmp .ge 26, 3) := by decide +kernel
theorem dX1_writes_75 : decode cX1_writes 75 = .ok (.aload_n 0, 1) := by decide +kernel
theorem dX1_writes_76 : decode cX1_writes 76 = .ok (.getfield 7, 3) := by decide +kernel
theorem dX1_writes_79 : decode cX1_writes 79 = .ok (.bipush 64, 2) := by decide +kernel
theorem dX1_writes_81 : decode cX1_writes 81 = .ok (.iload_n 1, 1) := by decide +kernel
theorem dX1_writes_82 : decode cX1_writes 82 = .ok (.imul, 1) := by decide +kernel
theorem dX1_writes_83 : decode cX1_writes 83 = .ok (.iload_n 2, 1) := by decide +kernel
theorem dX1_writes_84 : decode cX1_writes 84 = .ok (.iadd, 1) := by decide +kernel
theorem dX1_writes_85 : decode cX1_writes 85 = .ok (.aload_n 0, 1) := by decide +kernel
theorem dX1_writes_86 : decode cX1_writes 86 = .ok (.getfield 28, 3) := by decide +kernel
theorem dX1_writes_89 : decode cX1_writes 89 = .ok (.iload_n 2, 1) := by decide +kernel
theorem dX1_writes_90 : decode cX1_writes 90 = .ok (.iaload, 1) := by decide +kernel
theorem dX1_writes_91 : decode cX1_writes 91 = .ok (.iastore, 1) := by decide +kernel
theorem dX1_writes_92 : decode cX1_writes 92 = .ok (.iinc 2 1, 3) := by decide +kernel
theorem dX1_writes_95 : decode cX1_writes 95 = .ok (.goto (-26), 3) := by decide +kernel
theorem dX1_writes_98 : decode cX1_writes 98 = .ok (.iconst 1, 1) := by decide +kernel
theorem dX1_writes_99 : decode cX1_writes 99 = .ok (.ireturn, 1) := by decide +kernel
theorem dX1_number_0 : decode cX1_number 0 = .ok (.lconst 0, 1) := by decide +kernel
theorem dX1_number_1 : decode cX1_number 1 = .ok (.lstore_n 3, 1) := by decide +kernel
theorem dX1_number_2 : decode cX1_number 2 = .ok (.iload_n 2, 1) := by decide +kernel
theorem dX1_number_3 : decode cX1_number 3 = .ok (.iconst 1, 1) := by decide +kernel
theorem dX1_number_4 : decode cX1_number 4 = .ok (.isub, 1) := by decide +kernel
theorem dX1_number_5 : decode cX1_number 5 = .ok (.istore 5, 2) := by decide +kernel
theorem dX1_number_7 : decode cX1_number 7 = .ok (.iload 5, 2) := by decide +kernel
theorem dX1_number_9 : decode cX1_number 9 = .ok (.ifCond .lt 26, 3) := by decide +kernel
theorem dX1_number_12 : decode cX1_number 12 = .ok (.lload_n 3, 1) := by decide +kernel
theorem dX1_number_13 : decode cX1_number 13 = .ok (.ldc2_w 42, 3) := by decide +kernel
theorem dX1_number_16 : decode cX1_number 16 = .ok (.lmul, 1) := by decide +kernel
theorem dX1_number_17 : decode cX1_number 17 = .ok (.aload_n 0, 1) := by decide +kernel
theorem dX1_number_18 : decode cX1_number 18 = .ok (.getfield 7, 3) := by decide +kernel
theorem dX1_number_21 : decode cX1_number 21 = .ok (.iload_n 1, 1) := by decide +kernel
theorem dX1_number_22 : decode cX1_number 22 = .ok (.iload 5, 2) := by decide +kernel
theorem dX1_number_24 : decode cX1_number 24 = .ok (.iadd, 1) := by decide +kernel
theorem dX1_number_25 : decode cX1_number 25 = .ok (.iaload, 1) := by decide +kernel
theorem dX1_number_26 : decode cX1_number 26 = .ok (.i2l, 1) := by decide +kernel
theorem dX1_number_27 : decode cX1_number 27 = .ok (.ladd, 1) := by decide +kernel
theorem dX1_number_28 : decode cX1_number 28 = .ok (.lstore_n 3, 1) := by decide +kernel
theorem dX1_number_29 : decode cX1_number 29 = .ok (.iinc 5 (-1), 3) := by decide +kernel
theorem dX1_number_32 : decode cX1_number 32 = .ok (.goto (-25), 3) := by decide +kernel
theorem dX1_number_35 : decode cX1_number 35 = .ok (.lload_n 3, 1) := by decide +kernel
theorem dX1_number_36 : decode cX1_number 36 = .ok (.lreturn, 1) := by decide +kernel
theorem dX1_check_0 : decode cX1_check 0 = .ok (.ldc2_w 44, 3) := by decide +kernel
theorem dX1_check_3 : decode cX1_check 3 = .ok (.lstore_n 2, 1) := by decide +kernel
theorem dX1_check_4 : decode cX1_check 4 = .ok (.iconst 0, 1) := by decide +kernel
theorem dX1_check_5 : decode cX1_check 5 = .ok (.istore 4, 2) := by decide +kernel
theorem dX1_check_7 : decode cX1_check 7 = .ok (.iload 4, 2) := by decide +kernel
theorem dX1_check_9 : decode cX1_check 9 = .ok (.bipush 64, 2) := by decide +kernel
theorem dX1_check_11 : decode cX1_check 11 = .ok (.iload_n 1, 1) := by decide +kernel
theorem dX1_check_12 : decode cX1_check 12 = .ok (.imul, 1) := by decide +kernel
theorem dX1_check_13 : decode cX1_check 13 = .ok (.if_icmp .ge 79, 3) := by decide +kernel
theorem dX1_check_16 : decode cX1_check 16 = .ok (.iconst 0, 1) := by decide +kernel
theorem dX1_check_17 : decode cX1_check 17 = .ok (.istore 5, 2) := by decide +kernel
theorem dX1_check_19 : decode cX1_check 19 = .ok (.iload 5, 2) := by decide +kernel
theorem dX1_check_21 : decode cX1_check 21 = .ok (.bipush 8, 2) := by decide +kernel
theorem dX1_check_23 : decode cX1_check 23 = .ok (.if_icmp .ge 63, 3) := by decide +kernel
theorem dX1_check_26 : decode cX1_check 26 = .ok (.aload_n 0, 1) := by decide +kernel
theorem dX1_check_27 : decode cX1_check 27 = .ok (.getfield 7, 3) := by decide +kernel
theorem dX1_check_30 : decode cX1_check 30 = .ok (.bipush 64, 2) := by decide +kernel
theorem dX1_check_32 : decode cX1_check 32 = .ok (.iload 4, 2) := by decide +kernel
theorem dX1_check_34 : decode cX1_check 34 = .ok (.iadd, 1) := by decide +kernel
theorem dX1_check_35 : decode cX1_check 35 = .ok (.iaload, 1) := by decide +kernel
theorem dX1_check_36 : decode cX1_check 36 = .ok (.iload 5, 2) := by decide +kernel
theorem dX1_check_38 : decode cX1_check 38 = .ok (.ishr, 1) := by decide +kernel
theorem dX1_check_39 : decode cX1_check 39 = .ok (.iconst 1, 1) := by decide +kernel
theorem dX1_check_40 : decode cX1_check 40 = .ok (.iand, 1) := by decide +kernel
theorem dX1_check_41 : decode cX1_check 41 = .ok (.i2l, 1) := by decide +kernel
theorem dX1_check_42 : decode cX1_check 42 = .ok (.lstore 6, 2) := by decide +kernel
theorem dX1_check_44 : decode cX1_check 44 = .ok (.lload_n 2, 1) := by decide +kernel
theorem dX1_check_45 : decode cX1_check 45 = .ok (.bipush 31, 2) := by decide +kernel
theorem dX1_check_47 : decode cX1_check 47 = .ok (.lshr, 1) := by decide +kernel
theorem dX1_check_48 : decode cX1_check 48 = .ok (.lload 6, 2) := by decide +kernel
theorem dX1_check_50 : decode cX1_check 50 = .ok (.lcmp, 1) := by decide +kernel
theorem dX1_check_51 : decode cX1_check 51 = .ok (.ifCond .eq 7, 3) := by decide +kernel
theorem dX1_check_54 : decode cX1_check 54 = .ok (.iconst 1, 1) := by decide +kernel
theorem dX1_check_55 : decode cX1_check 55 = .ok (.goto 4, 3) := by decide +kernel
theorem dX1_check_58 : decode cX1_check 58 = .ok (.iconst 0, 1) := by decide +kernel
theorem dX1_check_59 : decode cX1_check 59 = .ok (.istore 8, 2) := by decide +kernel
theorem dX1_check_61 : decode cX1_check 61 = .ok (.lload_n 2, 1) := by decide +kernel
theorem dX1_check_62 : decode cX1_check 62 = .ok (.iconst 1, 1) := by decide +kernel
theorem dX1_check_63 : decode cX1_check 63 = .ok (.lshl, 1) := by decide +kernel
theorem dX1_check_64 : decode cX1_check 64 = .ok (.ldc2_w 44, 3) := by decide +kernel
theorem dX1_check_67 : decode cX1_check 67 = .ok (.land, 1) := by decide +kernel
theorem dX1_check_68 : decode cX1_check 68 = .ok (.lstore_n 2, 1) := by decide +kernel
theorem dX1_check_69 : decode cX1_check 69 = .ok (.iload 8, 2) := by decide +kernel
theorem dX1_check_71 : decode cX1_check 71 = .ok (.ifCond .eq 9, 3) := by decide +kernel
theorem dX1_check_74 : decode cX1_check 74 = .ok (.lload_n 2, 1) := by decide +kernel
theorem dX1_check_75 : decode cX1_check 75 = .ok (.ldc2_w 46, 3) := by decide +kernel
theorem dX1_check_78 : decode cX1_check 78 = .ok (.lxor, 1) := by decide +kernel
theorem dX1_check_79 : decode cX1_check 79 = .ok (.lstore_n 2, 1) := by decide +kernel
theorem dX1_check_80 : decode cX1_check 80 = .ok (.iinc 5 1, 3) := by decide +kernel
theorem dX1_check_83 : decode cX1_check 83 = .ok (.goto (-64), 3) := by decide +kernel
theorem dX1_check_86 : decode cX1_check 86 = .ok (.iinc 4 1, 3) := by decide +kernel
theorem dX1_check_89 : decode cX1_check 89 = .ok (.goto (-82), 3) := by decide +kernel
theorem dX1_check_92 : decode cX1_check 92 = .ok (.lconst 0, 1) := by decide +kernel
theorem dX1_check_93 : decode cX1_check 93 = .ok (.lstore 4, 2) := by decide +kernel
theorem dX1_check_95 : decode cX1_check 95 = .ok (.iconst 0, 1) := by decide +kernel
theorem dX1_check_96 : decode cX1_check 96 = .ok (.istore 6, 2) := by decide +kernel
theorem dX1_check_98 : decode cX1_check 98 = .ok (.iload 6, 2) := by decide +kernel
theorem dX1_check_100 : decode cX1_check 100 = .ok (.bipush 32, 2) := by decide +kernel
theorem dX1_check_102 : decode cX1_check 102 = .ok (.if_icmp .ge 26, 3) := by decide +kernel
theorem dX1_check_105 : decode cX1_check 105 = .ok (.lload 4, 2) := by decide +kernel
theorem dX1_check_107 : decode cX1_check 107 = .ok (.lload_n 2, 1) := by decide +kernel
theorem dX1_check_108 : decode cX1_check 108 = .ok (.iload 6, 2) := by decide +kernel
theorem dX1_check_110 : decode cX1_check 110 = .ok (.lshr, 1) := by decide +kernel
theorem dX1_check_111 : decode cX1_check 111 = .ok (.lconst 1, 1) := by decide +kernel
theorem dX1_check_112 : decode cX1_check 112 = .ok (.land, 1) := by decide +kernel
theorem dX1_check_113 : decode cX1_check 113 = .ok (.bipush 31, 2) := by decide +kernel
theorem dX1_check_115 : decode cX1_check 115 = .ok (.iload 6, 2) := by decide +kernel
theorem dX1_check_117 : decode cX1_check 117 = .ok (.isub, 1) := by decide +kernel
theorem dX1_check_118 : decode cX1_check 118 = .ok (.lshl, 1) := by decide +kernel
theorem dX1_check_119 : decode cX1_check 119 = .ok (.lor, 1) := by decide +kernel
theorem dX1_check_120 : decode cX1_check 120 = .ok (.lstore 4, 2) := by decide +kernel
theorem dX1_check_122 : decode cX1_check 122 = .ok (.iinc 6 1, 3) := by decide +kernel
theorem dX1_check_125 : decode cX1_check 125 = .ok (.goto (-27), 3) := by decide +kernel
theorem dX1_check_128 : decode cX1_check 128 = .ok (.lload 4, 2) := by decide +kernel
theorem dX1_check_130 : decode cX1_check 130 = .ok (.ldc2_w 44, 3) := by decide +kernel
theorem dX1_check_133 : decode cX1_check 133 = .ok (.lxor, 1) := by decide +kernel
theorem dX1_check_134 : decode cX1_check 134 = .ok (.lreturn, 1) := by decide +kernel
theorem dX1_target_0 : decode cX1_target 0 = .ok (.aload_n 0, 1) := by decide +kernel
theorem dX1_target_1 : decode cX1_target 1 = .ok (.iconst 5, 1) := by decide +kernel
theorem dX1_target_2 : decode cX1_target 2 = .ok (.iconst 2, 1) := by decide +kernel
theorem dX1_target_3 : decode cX1_target 3 = .ok (.iload_n 1, 1) := by decide +kernel
theorem dX1_target_4 : decode cX1_target 4 = .ok (.imul, 1) := by decide +kernel
theorem dX1_target_5 : decode cX1_target 5 = .ok (.iadd, 1) := by decide +kernel
theorem dX1_target_6 : decode cX1_target 6 = .ok (.iconst 2, 1) := by decide +kernel
theorem dX1_target_7 : decode cX1_target 7 = .ok (.invokevirtual 48, 3) := by decide +kernel
theorem dX1_target_10 : decode cX1_target 10 = .ok (.l2i, 1) := by decide +kernel
theorem dX1_target_11 : decode cX1_target 11 = .ok (.ireturn, 1) := by decide +kernel
theorem dX1_isRight_0 : decode cX1_isRight 0 = .ok (.aload_n 0, 1) := by decide +kernel
theorem dX1_isRight_1 : decode cX1_isRight 1 = .ok (.getfield 7, 3) := by decide +kernel
theorem dX1_isRight_4 : decode cX1_isRight 4 = .ok (.iconst 4, 1) := by decide +kernel
theorem dX1_isRight_5 : decode cX1_isRight 5 = .ok (.iaload, 1) := by decide +kernel
theorem dX1_isRight_6 : decode cX1_isRight 6 = .ok (.istore_n 1, 1) := by decide +kernel
theorem dX1_isRight_7 : decode cX1_isRight 7 = .ok (.iload_n 1, 1) := by decide +kernel
theorem dX1_isRight_8 : decode cX1_isRight 8 = .ok (.i2l, 1) := by decide +kernel
theorem dX1_isRight_9 : decode cX1_isRight 9 = .ok (.lconst 1, 1) := by decide +kernel
theorem dX1_isRight_10 : decode cX1_isRight 10 = .ok (.ldc2_w 52, 3) := by decide +kernel
theorem dX1_isRight_13 : decode cX1_isRight 13 = .ok (.invokestatic 54, 3) := by decide +kernel
theorem dX1_isRight_16 : decode cX1_isRight 16 = .ok (.ifCond .ne 5, 3) := by decide +kernel
theorem dX1_isRight_19 : decode cX1_isRight 19 = .ok (.iconst 0, 1) := by decide +kernel
theorem dX1_isRight_20 : decode cX1_isRight 20 = .ok (.ireturn, 1) := by decide +kernel
theorem dX1_isRight_21 : decode cX1_isRight 21 = .ok (.iconst 1, 1) := by decide +kernel
theorem dX1_isRight_22 : decode cX1_isRight 22 = .ok (.istore_n 2, 1) := by decide +kernel
theorem dX1_isRight_23 : decode cX1_isRight 23 = .ok (.iconst 0, 1) := by decide +kernel
theorem dX1_isRight_24 : decode cX1_isRight 24 = .ok (.istore_n 3, 1) := by decide +kernel
theorem dX1_isRight_25 : decode cX1_isRight 25 = .ok (.iload_n 3, 1) := by decide +kernel
theorem dX1_isRight_26 : decode cX1_isRight 26 = .ok (.iload_n 1, 1) := by decide +kernel
theorem dX1_isRight_27 : decode cX1_isRight 27 = .ok (.if_icmp .ge 56, 3) := by decide +kernel
theorem dX1_isRight_30 : decode cX1_isRight 30 = .ok (.iload_n 2, 1) := by decide +kernel
theorem dX1_isRight_31 : decode cX1_isRight 31 = .ok (.ifCond .eq 44, 3) := by decide +kernel
theorem dX1_isRight_34 : decode cX1_isRight 34 = .ok (.aload_n 0, 1) := by decide +kernel
theorem dX1_isRight_35 : decode cX1_isRight 35 = .ok (.iload_n 3, 1) := by decide +kernel
theorem dX1_isRight_36 : decode cX1_isRight 36 = .ok (.invokevirtual 58, 3) := by decide +kernel
theorem dX1_isRight_39 : decode cX1_isRight 39 = .ok (.i2l, 1) := by decide +kernel
theorem dX1_isRight_40 : decode cX1_isRight 40 = .ok (.ldc2_w 62, 3) := by decide +kernel
theorem dX1_isRight_43 : decode cX1_isRight 43 = .ok (.ldc2_w 64, 3) := by decide +kernel
theorem dX1_isRight_46 : decode cX1_isRight 46 = .ok (.invokestatic 54, 3) := by decide +kernel
theorem dX1_isRight_49 : decode cX1_isRight 49 = .ok (.ifCond .eq 26, 3) := by decide +kernel
theorem dX1_isRight_52 : decode cX1_isRight 52 = .ok (.iload_n 3, 1) := by decide +kernel
theorem dX1_isRight_53 : decode cX1_isRight 53 = .ok (.ifCond .eq 18, 3) := by decide +kernel
theorem dX1_isRight_56 : decode cX1_isRight 56 = .ok (.aload_n 0, 1) := by decide +kernel
theorem dX1_isRight_57 : decode cX1_isRight 57 = .ok (.iload_n 3, 1) := by decide +kernel
theorem dX1_isRight_58 : decode cX1_isRight 58 = .ok (.invokevirtual 58, 3) := by decide +kernel
theorem dX1_isRight_61 : decode cX1_isRight 61 = .ok (.aload_n 0, 1) := by decide +kernel
theorem dX1_isRight_62 : decode cX1_isRight 62 = .ok (.iload_n 3, 1) := by decide +kernel
theorem dX1_isRight_63 : decode cX1_isRight 63 = .ok (.iconst 1, 1) := by decide +kernel
theorem dX1_isRight_64 : decode cX1_isRight 64 = .ok (.isub, 1) := by decide +kernel
theorem dX1_isRight_65 : decode cX1_isRight 65 = .ok (.invokevirtual 58, 3) := by decide +kernel
theorem dX1_isRight_68 : decode cX1_isRight 68 = .ok (.if_icmp .le 7, 3) := by decide +kernel
theorem dX1_isRight_71 : decode cX1_isRight 71 = .ok (.iconst 1, 1) := by decide +kernel
theorem dX1_isRight_72 : decode cX1_isRight 72 = .ok (.goto 4, 3) := by decide +kernel
theorem dX1_isRight_75 : decode cX1_isRight 75 = .ok (.iconst 0, 1) := by decide +kernel
theorem dX1_isRight_76 : decode cX1_isRight 76 = .ok (.istore_n 2, 1) := by decide +kernel
theorem dX1_isRight_77 : decode cX1_isRight 77 = .ok (.iinc 3 1, 3) := by decide +kernel
theorem dX1_isRight_80 : decode cX1_isRight 80 = .ok (.goto (-55), 3) := by decide +kernel
theorem dX1_isRight_83 : decode cX1_isRight 83 = .ok (.iload_n 2, 1) := by decide +kernel
theorem dX1_isRight_84 : decode cX1_isRight 84 = .ok (.ifCond .eq 23, 3) := by decide +kernel
theorem dX1_isRight_87 : decode cX1_isRight 87 = .ok (.aload_n 0, 1) := by decide +kernel
theorem dX1_isRight_88 : decode cX1_isRight 88 = .ok (.bipush 59, 2) := by decide +kernel
theorem dX1_isRight_90 : decode cX1_isRight 90 = .ok (.iconst 4, 1) := by decide +kernel
theorem dX1_isRight_91 : decode cX1_isRight 91 = .ok (.invokevirtual 48, 3) := by decide +kernel
theorem dX1_isRight_94 : decode cX1_isRight 94 = .ok (.aload_n 0, 1) := by decide +kernel
theorem dX1_isRight_95 : decode cX1_isRight 95 = .ok (.iload_n 1, 1) := by decide +kernel
theorem dX1_isRight_96 : decode cX1_isRight 96 = .ok (.invokevirtual 66, 3) := by decide +kernel
theorem dX1_isRight_99 : decode cX1_isRight 99 = .ok (.lcmp, 1) := by decide +kernel
theorem dX1_isRight_100 : decode cX1_isRight 100 = .ok (.ifCond .ne 7, 3) := by decide +kernel
theorem dX1_isRight_103 : decode cX1_isRight 103 = .ok (.iconst 1, 1) := by decide +kernel
theorem dX1_isRight_104 : decode cX1_isRight 104 = .ok (.goto 4, 3) := by decide +kernel
theorem dX1_isRight_107 : decode cX1_isRight 107 = .ok (.iconst 0, 1) := by decide +kernel
theorem dX1_isRight_108 : decode cX1_isRight 108 = .ok (.ireturn, 1) := by decide +kernel
theorem dX1_feed_0 : decode cX1_feed 0 = .ok (.aload_n 0, 1) := by decide +kernel
theorem dX1_feed_1 : decode cX1_feed 1 = .ok (.iload_n 1, 1) := by decide +kernel
theorem dX1_feed_2 : decode cX1_feed 2 = .ok (.i2l, 1) := by decide +kernel
theorem dX1_feed_3 : decode cX1_feed 3 = .ok (.lconst 1, 1) := by decide +kernel
theorem dX1_feed_4 : decode cX1_feed 4 = .ok (.ldc2_w 70, 3) := by decide +kernel
theorem dX1_feed_7 : decode cX1_feed 7 = .ok (.invokestatic 54, 3) := by decide +kernel
theorem dX1_feed_10 : decode cX1_feed 10 = .ok (.ifCond .ne 7, 3) := by decide +kernel
theorem dX1_feed_13 : decode cX1_feed 13 = .ok (.iconst 1, 1) := by decide +kernel
theorem dX1_feed_14 : decode cX1_feed 14 = .ok (.goto 4, 3) := by decide +kernel
theorem dX1_feed_17 : decode cX1_feed 17 = .ok (.iconst 0, 1) := by decide +kernel
theorem dX1_feed_18 : decode cX1_feed 18 = .ok (.iconst 1, 1) := by decide +kernel
theorem dX1_feed_19 : decode cX1_feed 19 = .ok (.invokevirtual 72, 3) := by decide +kernel
theorem dX1_feed_22 : decode cX1_feed 22 = .ok (.ifCond .ne 27, 3) := by decide +kernel
theorem dX1_feed_25 : decode cX1_feed 25 = .ok (.aload_n 0, 1) := by decide +kernel
theorem dX1_feed_26 : decode cX1_feed 26 = .ok (.aload_n 0, 1) := by decide +kernel
theorem dX1_feed_27 : decode cX1_feed 27 = .ok (.getfield 76, 3) := by decide +kernel
theorem dX1_feed_30 : decode cX1_feed 30 = .ok (.iload_n 1, 1) := by decide +kernel
theorem dX1_feed_31 : decode cX1_feed 31 = .ok (.iadd, 1) := by decide +kernel
theorem dX1_feed_32 : decode cX1_feed 32 = .ok (.bipush 64, 2) := by decide +kernel
theorem dX1_feed_34 : decode cX1_feed 34 = .ok (.if_icmp .le 7, 3) := by decide +kernel
theorem dX1_feed_37 : decode cX1_feed 37 = .ok (.iconst 1, 1) := by decide +kernel
theorem dX1_feed_38 : decode cX1_feed 38 = .ok (.goto 4, 3) := by decide +kernel
theorem dX1_feed_41 : decode cX1_feed 41 = .ok (.iconst 0, 1) := by decide +kernel
theorem dX1_feed_42 : decode cX1_feed 42 = .ok (.iconst 2, 1) := by decide +kernel
theorem dX1_feed_43 : decode cX1_feed 43 = .ok (.invokevirtual 72, 3) := by decide +kernel
theorem dX1_feed_46 : decode cX1_feed 46 = .ok (.ifCond .eq 5, 3) := by decide +kernel
theorem dX1_feed_49 : decode cX1_feed 49 = .ok (.iconst 0, 1) := by decide +kernel
theorem dX1_feed_50 : decode cX1_feed 50 = .ok (.ireturn, 1) := by decide +kernel
theorem dX1_feed_51 : decode cX1_feed 51 = .ok (.iconst 0, 1) := by decide +kernel
theorem dX1_feed_52 : decode cX1_feed 52 = .ok (.istore 4, 2) := by decide +kernel
theorem dX1_feed_54 : decode cX1_feed 54 = .ok (.iload 4, 2) := by decide +kernel
theorem dX1_feed_56 : decode cX1_feed 56 = .ok (.iload_n 1, 1) := by decide +kernel
theorem dX1_feed_57 : decode cX1_feed 57 = .ok (.if_icmp .ge 33, 3) := by decide +kernel
theorem dX1_feed_60 : decode cX1_feed 60 = .ok (.aload_n 0, 1) := by decide +kernel
theorem dX1_feed_61 : decode cX1_feed 61 = .ok (.getfield 13, 3) := by decide +kernel
theorem dX1_feed_64 : decode cX1_feed 64 = .ok (.aload_n 0, 1) := by decide +kernel
theorem dX1_feed_65 : decode cX1_feed 65 = .ok (.getfield 76, 3) := by decide +kernel
theorem dX1_feed_68 : decode cX1_feed 68 = .ok (.iload 4, 2) := by decide +kernel
theorem dX1_feed_70 : decode cX1_feed 70 = .ok (.iadd, 1) := by decide +kernel
theorem dX1_feed_71 : decode cX1_feed 71 = .ok (.lload_n 2, 1) := by decide +kernel
theorem dX1_feed_72 : decode cX1_feed 72 = .ok (.bipush 8, 2) := by decide +kernel
theorem dX1_feed_74 : decode cX1_feed 74 = .ok (.iload 4, 2) := by decide +kernel
theorem dX1_feed_76 : decode cX1_feed 76 = .ok (.imul, 1) := by decide +kernel
theorem dX1_feed_77 : decode cX1_feed 77 = .ok (.lshr, 1) := by decide +kernel
theorem dX1_feed_78 : decode cX1_feed 78 = .ok (.ldc2_w 79, 3) := by decide +kernel
theorem dX1_feed_81 : decode cX1_feed 81 = .ok (.land, 1) := by decide +kernel
theorem dX1_feed_82 : decode cX1_feed 82 = .ok (.l2i, 1) := by decide +kernel
theorem dX1_feed_83 : decode cX1_feed 83 = .ok (.iastore, 1) := by decide +kernel
theorem dX1_feed_84 : decode cX1_feed 84 = .ok (.iinc 4 1, 3) := by decide +kernel
theorem dX1_feed_87 : decode cX1_feed 87 = .ok (.goto (-33), 3) := by decide +kernel
theorem dX1_feed_90 : decode cX1_feed 90 = .ok (.aload_n 0, 1) := by decide +kernel
theorem dX1_feed_91 : decode cX1_feed 91 = .ok (.dup, 1) := by decide +kernel
theorem dX1_feed_92 : decode cX1_feed 92 = .ok (.getfield 76, 3) := by decide +kernel
theorem dX1_feed_95 : decode cX1_feed 95 = .ok (.iload_n 1, 1) := by decide +kernel
theorem dX1_feed_96 : decode cX1_feed 96 = .ok (.iadd, 1) := by decide +kernel
theorem dX1_feed_97 : decode cX1_feed 97 = .ok (.putfield 76, 3) := by decide +kernel
theorem dX1_feed_100 : decode cX1_feed 100 = .ok (.aload_n 0, 1) := by decide +kernel
theorem dX1_feed_101 : decode cX1_feed 101 = .ok (.getfield 76, 3) := by decide +kernel
theorem dX1_feed_104 : decode cX1_feed 104 = .ok (.ireturn, 1) := by decide +kernel
theorem dX1_find_0 : decode cX1_find 0 = .ok (.iconst 0, 1) := by decide +kernel
theorem dX1_find_1 : decode cX1_find 1 = .ok (.istore_n 2, 1) := by decide +kernel
theorem dX1_find_2 : decode cX1_find 2 = .ok (.iload_n 2, 1) := by decide +kernel
theorem dX1_find_3 : decode cX1_find 3 = .ok (.aload_n 0, 1) := by decide +kernel
theorem dX1_find_4 : decode cX1_find 4 = .ok (.getfield 81, 3) := by decide +kernel
theorem dX1_find_7 : decode cX1_find 7 = .ok (.if_icmp .ge 21, 3) := by decide +kernel
theorem dX1_find_10 : decode cX1_find 10 = .ok (.aload_n 0, 1) := by decide +kernel
theorem dX1_find_11 : decode cX1_find 11 = .ok (.getfield 16, 3) := by decide +kernel
theorem dX1_find_14 : decode cX1_find 14 = .ok (.iload_n 2, 1) := by decide +kernel
theorem dX1_find_15 : decode cX1_find 15 = .ok (.iaload, 1) := by decide +kernel
theorem dX1_find_16 : decode cX1_find 16 = .ok (.iload_n 1, 1) := by decide +kernel
theorem dX1_find_17 : decode cX1_find 17 = .ok (.if_icmp .ne 5, 3) := by decide +kernel
theorem dX1_find_20 : decode cX1_find 20 = .ok (.iload_n 2, 1) := by decide +kernel
theorem dX1_find_21 : decode cX1_find 21 = .ok (.ireturn, 1) := by decide +kernel
theorem dX1_find_22 : decode cX1_find 22 = .ok (.iinc 2 1, 3) := by decide +kernel
theorem dX1_find_25 : decode cX1_find 25 = .ok (.goto (-23), 3) := by decide +kernel
theorem dX1_find_28 : decode cX1_find 28 = .ok (.iconst (-1), 1) := by decide +kernel
theorem dX1_find_29 : decode cX1_find 29 = .ok (.ireturn, 1) := by decide +kernel
theorem dX1_put_0 : decode cX1_put 0 = .ok (.aload_n 0, 1) := by decide +kernel
theorem dX1_put_1 : decode cX1_put 1 = .ok (.iload_n 1, 1) := by decide +kernel
theorem dX1_put_2 : decode cX1_put 2 = .ok (.i2l, 1) := by decide +kernel
theorem dX1_put_3 : decode cX1_put 3 = .ok (.ldc2_w 62, 3) := by decide +kernel
theorem dX1_put_6 : decode cX1_put 6 = .ok (.ldc2_w 64, 3) := by decide +kernel
theorem dX1_put_9 : decode cX1_put 9 = .ok (.invokestatic 54, 3) := by decide +kernel
theorem dX1_put_12 : decode cX1_put 12 = .ok (.ifCond .ne 7, 3) := by decide +kernel
theorem dX1_put_15 : decode cX1_put 15 = .ok (.iconst 1, 1) := by decide +kernel
theorem dX1_put_16 : decode cX1_put 16 = .ok (.goto 4, 3) := by decide +kernel
theorem dX1_put_19 : decode cX1_put 19 = .ok (.iconst 0, 1) := by decide +kernel
theorem dX1_put_20 : decode cX1_put 20 = .ok (.iconst 1, 1) := by decide +kernel
theorem dX1_put_21 : decode cX1_put 21 = .ok (.invokevirtual 72, 3) := by decide +kernel
theorem dX1_put_24 : decode cX1_put 24 = .ok (.ifCond .ne 33, 3) := by decide +kernel
theorem dX1_put_27 : decode cX1_put 27 = .ok (.aload_n 0, 1) := by decide +kernel
theorem dX1_put_28 : decode cX1_put 28 = .ok (.aload_n 0, 1) := by decide +kernel
theorem dX1_put_29 : decode cX1_put 29 = .ok (.iload_n 1, 1) := by decide +kernel
theorem dX1_put_30 : decode cX1_put 30 = .ok (.invokevirtual 84, 3) := by decide +kernel
theorem dX1_put_33 : decode cX1_put 33 = .ok (.ifCond .ge 16, 3) := by decide +kernel
theorem dX1_put_36 : decode cX1_put 36 = .ok (.aload_n 0, 1) := by decide +kernel
theorem dX1_put_37 : decode cX1_put 37 = .ok (.getfield 81, 3) := by decide +kernel
theorem dX1_put_40 : decode cX1_put 40 = .ok (.bipush 24, 2) := by decide +kernel
theorem dX1_put_42 : decode cX1_put 42 = .ok (.if_icmp .ne 7, 3) := by decide +kernel
theorem dX1_put_45 : decode cX1_put 45 = .ok (.iconst 1, 1) := by decide +kernel
theorem dX1_put_46 : decode cX1_put 46 = .ok (.goto 4, 3) := by decide +kernel
theorem dX1_put_49 : decode cX1_put 49 = .ok (.iconst 0, 1) := by decide +kernel
theorem dX1_put_50 : decode cX1_put 50 = .ok (.iconst 2, 1) := by decide +kernel
theorem dX1_put_51 : decode cX1_put 51 = .ok (.invokevirtual 72, 3) := by decide +kernel
theorem dX1_put_54 : decode cX1_put 54 = .ok (.ifCond .eq 5, 3) := by decide +kernel
theorem dX1_put_57 : decode cX1_put 57 = .ok (.iconst 0, 1) := by decide +kernel
theorem dX1_put_58 : decode cX1_put 58 = .ok (.ireturn, 1) := by decide +kernel
theorem dX1_put_59 : decode cX1_put 59 = .ok (.aload_n 0, 1) := by decide +kernel
theorem dX1_put_60 : decode cX1_put 60 = .ok (.iload_n 1, 1) := by decide +kernel
theorem dX1_put_61 : decode cX1_put 61 = .ok (.invokevirtual 84, 3) := by decide +kernel
theorem dX1_put_64 : decode cX1_put 64 = .ok (.ifCond .ge 10, 3) := by decide +kernel
theorem dX1_put_67 : decode cX1_put 67 = .ok (.aload_n 0, 1) := by decide +kernel
theorem dX1_put_68 : decode cX1_put 68 = .ok (.getfield 81, 3) := by decide +kernel
theorem dX1_put_71 : decode cX1_put 71 = .ok (.goto 8, 3) := by decide +kernel
theorem dX1_put_74 : decode cX1_put 74 = .ok (.aload_n 0, 1) := by decide +kernel
theorem dX1_put_75 : decode cX1_put 75 = .ok (.iload_n 1, 1) := by decide +kernel
theorem dX1_put_76 : decode cX1_put 76 = .ok (.invokevirtual 84, 3) := by decide +kernel
theorem dX1_put_79 : decode cX1_put 79 = .ok (.istore_n 2, 1) := by decide +kernel
theorem dX1_put_80 : decode cX1_put 80 = .ok (.iload_n 2, 1) := by decide +kernel
theorem dX1_put_81 : decode cX1_put 81 = .ok (.aload_n 0, 1) := by decide +kernel
theorem dX1_put_82 : decode cX1_put 82 = .ok (.getfield 81, 3) := by decide +kernel
theorem dX1_put_85 : decode cX1_put 85 = .ok (.if_icmp .ne 13, 3) := by decide +kernel
theorem dX1_put_88 : decode cX1_put 88 = .ok (.aload_n 0, 1) := by decide +kernel
theorem dX1_put_89 : decode cX1_put 89 = .ok (.dup, 1) := by decide +kernel
theorem dX1_put_90 : decode cX1_put 90 = .ok (.getfield 81, 3) := by decide +kernel
theorem dX1_put_93 : decode cX1_put 93 = .ok (.iconst 1, 1) := by decide +kernel
theorem dX1_put_94 : decode cX1_put 94 = .ok (.iadd, 1) := by decide +kernel
theorem dX1_put_95 : decode cX1_put 95 = .ok (.putfield 81, 3) := by decide +kernel
theorem dX1_put_98 : decode cX1_put 98 = .ok (.aload_n 0, 1) := by decide +kernel
theorem dX1_put_99 : decode cX1_put 99 = .ok (.getfield 16, 3) := by decide +kernel
theorem dX1_put_102 : decode cX1_put 102 = .ok (.iload_n 2, 1) := by decide +kernel
theorem dX1_put_103 : decode cX1_put 103 = .ok (.iload_n 1, 1) := by decide +kernel
theorem dX1_put_104 : decode cX1_put 104 = .ok (.iastore, 1) := by decide +kernel
theorem dX1_put_105 : decode cX1_put 105 = .ok (.iconst 0, 1) := by decide +kernel
theorem dX1_put_106 : decode cX1_put 106 = .ok (.istore_n 3, 1) := by decide +kernel
theorem dX1_put_107 : decode cX1_put 107 = .ok (.iload_n 3, 1) := by decide +kernel
theorem dX1_put_108 : decode cX1_put 108 = .ok (.bipush 64, 2) := by decide +kernel
theorem dX1_put_110 : decode cX1_put 110 = .ok (.if_icmp .ge 38, 3) := by decide +kernel
theorem dX1_put_113 : decode cX1_put 113 = .ok (.aload_n 0, 1) := by decide +kernel
theorem dX1_put_114 : decode cX1_put 114 = .ok (.getfield 19, 3) := by decide +kernel
theorem dX1_put_117 : decode cX1_put 117 = .ok (.bipush 64, 2) := by decide +kernel
theorem dX1_put_119 : decode cX1_put 119 = .ok (.iload_n 2, 1) := by decide +kernel
theorem dX1_put_120 : decode cX1_put 120 = .ok (.imul, 1) := by decide +kernel
theorem dX1_put_121 : decode cX1_put 121 = .ok (.iload_n 3, 1) := by decide +kernel
theorem dX1_put_122 : decode cX1_put 122 = .ok (.iadd, 1) := by decide +kernel
theorem dX1_put_123 : decode cX1_put 123 = .ok (.iload_n 3, 1) := by decide +kernel
theorem dX1_put_124 : decode cX1_put 124 = .ok (.aload_n 0, 1) := by decide +kernel
theorem dX1_put_125 : decode cX1_put 125 = .ok (.getfield 76, 3) := by decide +kernel
theorem dX1_put_128 : decode cX1_put 128 = .ok (.if_icmp .ge 12, 3) := by decide +kernel
theorem dX1_put_131 : decode cX1_put 131 = .ok (.aload_n 0, 1) := by decide +kernel
theorem dX1_put_132 : decode cX1_put 132 = .ok (.getfield 13, 3) := by decide +kernel
theorem dX1_put_135 : decode cX1_put 135 = .ok (.iload_n 3, 1) := by decide +kernel
theorem dX1_put_136 : decode cX1_put 136 = .ok (.iaload, 1) := by decide +kernel
theorem dX1_put_137 : decode cX1_put 137 = .ok (.goto 4, 3) := by decide +kernel
theorem dX1_put_140 : decode cX1_put 140 = .ok (.iconst 0, 1) := by decide +kernel
theorem dX1_put_141 : decode cX1_put 141 = .ok (.iastore, 1) := by decide +kernel
theorem dX1_put_142 : decode cX1_put 142 = .ok (.iinc 3 1, 3) := by decide +kernel
theorem dX1_put_145 : decode cX1_put 145 = .ok (.goto (-38), 3) := by decide +kernel
theorem dX1_put_148 : decode cX1_put 148 = .ok (.aload_n 0, 1) := by decide +kernel
theorem dX1_put_149 : decode cX1_put 149 = .ok (.iconst 0, 1) := by decide +kernel
theorem dX1_put_150 : decode cX1_put 150 = .ok (.putfield 76, 3) := by decide +kernel
theorem dX1_put_153 : decode cX1_put 153 = .ok (.aload_n 0, 1) := by decide +kernel
theorem dX1_put_154 : decode cX1_put 154 = .ok (.getfield 81, 3) := by decide +kernel
theorem dX1_put_157 : decode cX1_put 157 = .ok (.ireturn, 1) := by decide +kernel
theorem dX1_drop_0 : decode cX1_drop 0 = .ok (.aload_n 0, 1) := by decide +kernel
theorem dX1_drop_1 : decode cX1_drop 1 = .ok (.iconst 0, 1) := by decide +kernel
theorem dX1_drop_2 : decode cX1_drop 2 = .ok (.putfield 31, 3) := by decide +kernel
theorem dX1_drop_5 : decode cX1_drop 5 = .ok (.aload_n 0, 1) := by decide +kernel
theorem dX1_drop_6 : decode cX1_drop 6 = .ok (.getfield 81, 3) := by decide +kernel
theorem dX1_drop_9 : decode cX1_drop 9 = .ok (.istore_n 1, 1) := by decide +kernel
theorem dX1_drop_10 : decode cX1_drop 10 = .ok (.aload_n 0, 1) := by decide +kernel
theorem dX1_drop_11 : decode cX1_drop 11 = .ok (.iconst 0, 1) := by decide +kernel
theorem dX1_drop_12 : decode cX1_drop 12 = .ok (.putfield 81, 3) := by decide +kernel
theorem dX1_drop_15 : decode cX1_drop 15 = .ok (.iload_n 1, 1) := by decide +kernel
theorem dX1_drop_16 : decode cX1_drop 16 = .ok (.ireturn, 1) := by decide +kernel
theorem dX1_ranked_0 : decode cX1_ranked 0 = .ok (.iconst 0, 1) := by decide +kernel
theorem dX1_ranked_1 : decode cX1_ranked 1 = .ok (.istore_n 2, 1) := by decide +kernel
theorem dX1_ranked_2 : decode cX1_ranked 2 = .ok (.iload_n 2, 1) := by decide +kernel
theorem dX1_ranked_3 : decode cX1_ranked 3 = .ok (.aload_n 0, 1) := by decide +kernel
theorem dX1_ranked_4 : decode cX1_ranked 4 = .ok (.getfield 81, 3) := by decide +kernel
theorem dX1_ranked_7 : decode cX1_ranked 7 = .ok (.if_icmp .ge 60, 3) := by decide +kernel
theorem dX1_ranked_10 : decode cX1_ranked 10 = .ok (.iconst 0, 1) := by decide +kernel
theorem dX1_ranked_11 : decode cX1_ranked 11 = .ok (.istore_n 3, 1) := by decide +kernel
theorem dX1_ranked_12 : decode cX1_ranked 12 = .ok (.iconst 0, 1) := by decide +kernel
theorem dX1_ranked_13 : decode cX1_ranked 13 = .ok (.istore 4, 2) := by decide +kernel
theorem dX1_ranked_15 : decode cX1_ranked 15 = .ok (.iload 4, 2) := by decide +kernel
theorem dX1_ranked_17 : decode cX1_ranked 17 = .ok (.aload_n 0, 1) := by decide +kernel
theorem dX1_ranked_18 : decode cX1_ranked 18 = .ok (.getfield 81, 3) := by decide +kernel
theorem dX1_ranked_21 : decode cX1_ranked 21 = .ok (.if_icmp .ge 33, 3) := by decide +kernel
theorem dX1_ranked_24 : decode cX1_ranked 24 = .ok (.iload_n 3, 1) := by decide +kernel
theorem dX1_ranked_25 : decode cX1_ranked 25 = .ok (.aload_n 0, 1) := by decide +kernel
theorem dX1_ranked_26 : decode cX1_ranked 26 = .ok (.getfield 16, 3) := by decide +kernel
theorem dX1_ranked_29 : decode cX1_ranked 29 = .ok (.iload 4, 2) := by decide +kernel
theorem dX1_ranked_31 : decode cX1_ranked 31 = .ok (.iaload, 1) := by decide +kernel
theorem dX1_ranked_32 : decode cX1_ranked 32 = .ok (.aload_n 0, 1) := by decide +kernel
theorem dX1_ranked_33 : decode cX1_ranked 33 = .ok (.getfield 16, 3) := by decide +kernel
theorem dX1_ranked_36 : decode cX1_ranked 36 = .ok (.iload_n 2, 1) := by decide +kernel
theorem dX1_ranked_37 : decode cX1_ranked 37 = .ok (.iaload, 1) := by decide +kernel
theorem dX1_ranked_38 : decode cX1_ranked 38 = .ok (.if_icmp .ge 7, 3) := by decide +kernel
theorem dX1_ranked_41 : decode cX1_ranked 41 = .ok (.iconst 1, 1) := by decide +kernel
theorem dX1_ranked_42 : decode cX1_ranked 42 = .ok (.goto 4, 3) := by decide +kernel
theorem dX1_ranked_45 : decode cX1_ranked 45 = .ok (.iconst 0, 1) := by decide +kernel
theorem dX1_ranked_46 : decode cX1_ranked 46 = .ok (.iadd, 1) := by decide +kernel
theorem dX1_ranked_47 : decode cX1_ranked 47 = .ok (.istore_n 3, 1) := by decide +kernel
theorem dX1_ranked_48 : decode cX1_ranked 48 = .ok (.iinc 4 1, 3) := by decide +kernel
theorem dX1_ranked_51 : decode cX1_ranked 51 = .ok (.goto (-36), 3) := by decide +kernel
theorem dX1_ranked_54 : decode cX1_ranked 54 = .ok (.iload_n 3, 1) := by decide +kernel
theorem dX1_ranked_55 : decode cX1_ranked 55 = .ok (.iload_n 1, 1) := by decide +kernel
theorem dX1_ranked_56 : decode cX1_ranked 56 = .ok (.if_icmp .ne 5, 3) := by decide +kernel
theorem dX1_ranked_59 : decode cX1_ranked 59 = .ok (.iload_n 2, 1) := by decide +kernel
theorem dX1_ranked_60 : decode cX1_ranked 60 = .ok (.ireturn, 1) := by decide +kernel
theorem dX1_ranked_61 : decode cX1_ranked 61 = .ok (.iinc 2 1, 3) := by decide +kernel
theorem dX1_ranked_64 : decode cX1_ranked 64 = .ok (.goto (-62), 3) := by decide +kernel
theorem dX1_ranked_67 : decode cX1_ranked 67 = .ok (.iconst (-1), 1) := by decide +kernel
theorem dX1_ranked_68 : decode cX1_ranked 68 = .ok (.ireturn, 1) := by decide +kernel
theorem dX1_headed_0 : decode cX1_headed 0 = .ok (.iconst 0, 1) := by decide +kernel
theorem dX1_headed_1 : decode cX1_headed 1 = .ok (.istore 4, 2) := by decide +kernel
theorem dX1_headed_3 : decode cX1_headed 3 = .ok (.iload 4, 2) := by decide +kernel
theorem dX1_headed_5 : decode cX1_headed 5 = .ok (.bipush 64, 2) := by decide +kernel
theorem dX1_headed_7 : decode cX1_headed 7 = .ok (.if_icmp .ge 17, 3) := by decide +kernel
theorem dX1_headed_10 : decode cX1_headed 10 = .ok (.aload_n 0, 1) := by decide +kernel
theorem dX1_headed_11 : decode cX1_headed 11 = .ok (.getfield 28, 3) := by decide +kernel
theorem dX1_headed_14 : decode cX1_headed 14 = .ok (.iload 4, 2) := by decide +kernel
theorem dX1_headed_16 : decode cX1_headed 16 = .ok (.iconst 0, 1) := by decide +kernel
theorem dX1_headed_17 : decode cX1_headed 17 = .ok (.iastore, 1) := by decide +kernel
theorem dX1_headed_18 : decode cX1_headed 18 = .ok (.iinc 4 1, 3) := by decide +kernel
theorem dX1_headed_21 : decode cX1_headed 21 = .ok (.goto (-18), 3) := by decide +kernel
theorem dX1_headed_24 : decode cX1_headed 24 = .ok (.iconst 0, 1) := by decide +kernel
theorem dX1_headed_25 : decode cX1_headed 25 = .ok (.istore 4, 2) := by decide +kernel
theorem dX1_headed_27 : decode cX1_headed 27 = .ok (.iload 4, 2) := by decide +kernel
theorem dX1_headed_29 : decode cX1_headed 29 = .ok (.iconst 4, 1) := by decide +kernel
theorem dX1_headed_30 : decode cX1_headed 30 = .ok (.if_icmp .ge 28, 3) := by decide +kernel
theorem dX1_headed_33 : decode cX1_headed 33 = .ok (.aload_n 0, 1) := by decide +kernel
theorem dX1_headed_34 : decode cX1_headed 34 = .ok (.getfield 28, 3) := by decide +kernel
theorem dX1_headed_37 : decode cX1_headed 37 = .ok (.iload 4, 2) := by decide +kernel
theorem dX1_headed_39 : decode cX1_headed 39 = .ok (.lload_n 1, 1) := by decide +kernel
theorem dX1_headed_40 : decode cX1_headed 40 = .ok (.bipush 8, 2) := by decide +kernel
theorem dX1_headed_42 : decode cX1_headed 42 = .ok (.iload 4, 2) := by decide +kernel
theorem dX1_headed_44 : decode cX1_headed 44 = .ok (.imul, 1) := by decide +kernel
theorem dX1_headed_45 : decode cX1_headed 45 = .ok (.lshr, 1) := by decide +kernel
theorem dX1_headed_46 : decode cX1_headed 46 = .ok (.ldc2_w 79, 3) := by decide +kernel
theorem dX1_headed_49 : decode cX1_headed 49 = .ok (.land, 1) := by decide +kernel
theorem dX1_headed_50 : decode cX1_headed 50 = .ok (.l2i, 1) := by decide +kernel
theorem dX1_headed_51 : decode cX1_headed 51 = .ok (.iastore, 1) := by decide +kernel
theorem dX1_headed_52 : decode cX1_headed 52 = .ok (.iinc 4 1, 3) := by decide +kernel
theorem dX1_headed_55 : decode cX1_headed 55 = .ok (.goto (-28), 3) := by decide +kernel
theorem dX1_headed_58 : decode cX1_headed 58 = .ok (.iload_n 3, 1) := by decide +kernel
theorem dX1_headed_59 : decode cX1_headed 59 = .ok (.ifCond .ne 4, 3) := by decide +kernel
theorem dX1_headed_62 : decode cX1_headed 62 = .ok (.return_, 1) := by decide +kernel
theorem dX1_headed_63 : decode cX1_headed 63 = .ok (.aload_n 0, 1) := by decide +kernel
theorem dX1_headed_64 : decode cX1_headed 64 = .ok (.getfield 28, 3) := by decide +kernel
theorem dX1_headed_67 : decode cX1_headed 67 = .ok (.iconst 4, 1) := by decide +kernel
theorem dX1_headed_68 : decode cX1_headed 68 = .ok (.iload_n 3, 1) := by decide +kernel
theorem dX1_headed_69 : decode cX1_headed 69 = .ok (.iastore, 1) := by decide +kernel
theorem dX1_headed_70 : decode cX1_headed 70 = .ok (.aload_n 0, 1) := by decide +kernel
theorem dX1_headed_71 : decode cX1_headed 71 = .ok (.iload_n 3, 1) := by decide +kernel
theorem dX1_headed_72 : decode cX1_headed 72 = .ok (.invokevirtual 66, 3) := by decide +kernel
theorem dX1_headed_75 : decode cX1_headed 75 = .ok (.lstore 4, 2) := by decide +kernel
theorem dX1_headed_77 : decode cX1_headed 77 = .ok (.iconst 0, 1) := by decide +kernel
theorem dX1_headed_78 : decode cX1_headed 78 = .ok (.istore 6, 2) := by decide +kernel
theorem dX1_headed_80 : decode cX1_headed 80 = .ok (.iload 6, 2) := by decide +kernel
theorem dX1_headed_82 : decode cX1_headed 82 = .ok (.iload_n 3, 1) := by decide +kernel
theorem dX1_headed_83 : decode cX1_headed 83 = .ok (.if_icmp .ge 61, 3) := by decide +kernel
theorem dX1_headed_86 : decode cX1_headed 86 = .ok (.aload_n 0, 1) := by decide +kernel
theorem dX1_headed_87 : decode cX1_headed 87 = .ok (.getfield 28, 3) := by decide +kernel
theorem dX1_headed_90 : decode cX1_headed 90 = .ok (.iconst 5, 1) := by decide +kernel
theorem dX1_headed_91 : decode cX1_headed 91 = .ok (.iconst 2, 1) := by decide +kernel
theorem dX1_headed_92 : decode cX1_headed 92 = .ok (.iload 6, 2) := by decide +kernel
theorem dX1_headed_94 : decode cX1_headed 94 = .ok (.imul, 1) := by decide +kernel
theorem dX1_headed_95 : decode cX1_headed 95 = .ok (.iadd, 1) := by decide +kernel
theorem dX1_headed_96 : decode cX1_headed 96 = .ok (.aload_n 0, 1) := by decide +kernel
theorem dX1_headed_97 : decode cX1_headed 97 = .ok (.getfield 16, 3) := by decide +kernel
theorem dX1_headed_100 : decode cX1_headed 100 = .ok (.aload_n 0, 1) := by decide +kernel
theorem dX1_headed_101 : decode cX1_headed 101 = .ok (.iload 6, 2) := by decide +kernel
theorem dX1_headed_103 : decode cX1_headed 103 = .ok (.invokevirtual 87, 3) := by decide +kernel
theorem dX1_headed_106 : decode cX1_headed 106 = .ok (.iaload, 1) := by decide +kernel
theorem dX1_headed_107 : decode cX1_headed 107 = .ok (.sipush 255, 3) := by decide +kernel
theorem dX1_headed_110 : decode cX1_headed 110 = .ok (.iand, 1) := by decide +kernel
theorem dX1_headed_111 : decode cX1_headed 111 = .ok (.iastore, 1) := by decide +kernel
theorem dX1_headed_112 : decode cX1_headed 112 = .ok (.aload_n 0, 1) := by decide +kernel
theorem dX1_headed_113 : decode cX1_headed 113 = .ok (.getfield 28, 3) := by decide +kernel
theorem dX1_headed_116 : decode cX1_headed 116 = .ok (.bipush 6, 2) := by decide +kernel
theorem dX1_headed_118 : decode cX1_headed 118 = .ok (.iconst 2, 1) := by decide +kernel
theorem dX1_headed_119 : decode cX1_headed 119 = .ok (.iload 6, 2) := by decide +kernel
theorem dX1_headed_121 : decode cX1_headed 121 = .ok (.imul, 1) := by decide +kernel
theorem dX1_headed_122 : decode cX1_headed 122 = .ok (.iadd, 1) := by decide +kernel
theorem dX1_headed_123 : decode cX1_headed 123 = .ok (.aload_n 0, 1) := by decide +kernel
theorem dX1_headed_124 : decode cX1_headed 124 = .ok (.getfield 16, 3) := by decide +kernel
theorem dX1_headed_127 : decode cX1_headed 127 = .ok (.aload_n 0, 1) := by decide +kernel
theorem dX1_headed_128 : decode cX1_headed 128 = .ok (.iload 6, 2) := by decide +kernel
theorem dX1_headed_130 : decode cX1_headed 130 = .ok (.invokevirtual 87, 3) := by decide +kernel
theorem dX1_headed_133 : decode cX1_headed 133 = .ok (.iaload, 1) := by decide +kernel
theorem dX1_headed_134 : decode cX1_headed 134 = .ok (.bipush 8, 2) := by decide +kernel
theorem dX1_headed_136 : decode cX1_headed 136 = .ok (.ishr, 1) := by decide +kernel
theorem dX1_headed_137 : decode cX1_headed 137 = .ok (.iastore, 1) := by decide +kernel
theorem dX1_headed_138 : decode cX1_headed 138 = .ok (.iinc 6 1, 3) := by decide +kernel
theorem dX1_headed_141 : decode cX1_headed 141 = .ok (.goto (-61), 3) := by decide +kernel
theorem dX1_headed_144 : decode cX1_headed 144 = .ok (.iconst 0, 1) := by decide +kernel
theorem dX1_headed_145 : decode cX1_headed 145 = .ok (.istore 6, 2) := by decide +kernel
theorem dX1_headed_147 : decode cX1_headed 147 = .ok (.iload 6, 2) := by decide +kernel
theorem dX1_headed_149 : decode cX1_headed 149 = .ok (.iconst 4, 1) := by decide +kernel
theorem dX1_headed_150 : decode cX1_headed 150 = .ok (.if_icmp .ge 32, 3) := by decide +kernel
theorem dX1_headed_153 : decode cX1_headed 153 = .ok (.aload_n 0, 1) := by decide +kernel
theorem dX1_headed_154 : decode cX1_headed 154 = .ok (.getfield 28, 3) := by decide +kernel
theorem dX1_headed_157 : decode cX1_headed 157 = .ok (.bipush 59, 2) := by decide +kernel
theorem dX1_headed_159 : decode cX1_headed 159 = .ok (.iload 6, 2) := by decide +kernel
theorem dX1_headed_161 : decode cX1_headed 161 = .ok (.iadd, 1) := by decide +kernel
theorem dX1_headed_162 : decode cX1_headed 162 = .ok (.lload 4, 2) := by decide +kernel
theorem dX1_headed_164 : decode cX1_headed 164 = .ok (.bipush 8, 2) := by decide +kernel
theorem dX1_headed_166 : decode cX1_headed 166 = .ok (.iload 6, 2) := by decide +kernel
theorem dX1_headed_168 : decode cX1_headed 168 = .ok (.imul, 1) := by decide +kernel
theorem dX1_headed_169 : decode cX1_headed 169 = .ok (.lshr, 1) := by decide +kernel
theorem dX1_headed_170 : decode cX1_headed 170 = .ok (.ldc2_w 79, 3) := by decide +kernel
theorem dX1_headed_173 : decode cX1_headed 173 = .ok (.land, 1) := by decide +kernel
theorem dX1_headed_174 : decode cX1_headed 174 = .ok (.l2i, 1) := by decide +kernel
theorem dX1_headed_175 : decode cX1_headed 175 = .ok (.iastore, 1) := by decide +kernel
theorem dX1_headed_176 : decode cX1_headed 176 = .ok (.iinc 6 1, 3) := by decide +kernel
theorem dX1_headed_179 : decode cX1_headed 179 = .ok (.goto (-32), 3) := by decide +kernel
theorem dX1_headed_182 : decode cX1_headed 182 = .ok (.return_, 1) := by decide +kernel
theorem dX1_commits_0 : decode cX1_commits 0 = .ok (.iload_n 1, 1) := by decide +kernel
theorem dX1_commits_1 : decode cX1_commits 1 = .ok (.iload_n 2, 1) := by decide +kernel
theorem dX1_commits_2 : decode cX1_commits 2 = .ok (.if_icmp .eq 12, 3) := by decide +kernel
theorem dX1_commits_5 : decode cX1_commits 5 = .ok (.iload_n 1, 1) := by decide +kernel
theorem dX1_commits_6 : decode cX1_commits 6 = .ok (.iconst 2, 1) := by decide +kernel
theorem dX1_commits_7 : decode cX1_commits 7 = .ok (.iload_n 2, 1) := by decide +kernel
theorem dX1_commits_8 : decode cX1_commits 8 = .ok (.imul, 1) := by decide +kernel
theorem dX1_commits_9 : decode cX1_commits 9 = .ok (.iconst 1, 1) := by decide +kernel
theorem dX1_commits_10 : decode cX1_commits 10 = .ok (.iadd, 1) := by decide +kernel
theorem dX1_commits_11 : decode cX1_commits 11 = .ok (.if_icmp .ne 35, 3) := by decide +kernel
theorem dX1_commits_14 : decode cX1_commits 14 = .ok (.aload_n 0, 1) := by decide +kernel
theorem dX1_commits_15 : decode cX1_commits 15 = .ok (.iload_n 1, 1) := by decide +kernel
theorem dX1_commits_16 : decode cX1_commits 16 = .ok (.iload_n 2, 1) := by decide +kernel
theorem dX1_commits_17 : decode cX1_commits 17 = .ok (.if_icmp .ne 7, 3) := by decide +kernel
theorem dX1_commits_20 : decode cX1_commits 20 = .ok (.lload_n 3, 1) := by decide +kernel
theorem dX1_commits_21 : decode cX1_commits 21 = .ok (.goto 6, 3) := by decide +kernel
theorem dX1_commits_24 : decode cX1_commits 24 = .ok (.lload_n 3, 1) := by decide +kernel
theorem dX1_commits_25 : decode cX1_commits 25 = .ok (.lconst 1, 1) := by decide +kernel
theorem dX1_commits_26 : decode cX1_commits 26 = .ok (.ladd, 1) := by decide +kernel
theorem dX1_commits_27 : decode cX1_commits 27 = .ok (.iload_n 1, 1) := by decide +kernel
theorem dX1_commits_28 : decode cX1_commits 28 = .ok (.iload_n 2, 1) := by decide +kernel
theorem dX1_commits_29 : decode cX1_commits 29 = .ok (.if_icmp .ne 7, 3) := by decide +kernel
theorem dX1_commits_32 : decode cX1_commits 32 = .ok (.iload_n 2, 1) := by decide +kernel
theorem dX1_commits_33 : decode cX1_commits 33 = .ok (.goto 4, 3) := by decide +kernel
theorem dX1_commits_36 : decode cX1_commits 36 = .ok (.iconst 0, 1) := by decide +kernel
theorem dX1_commits_37 : decode cX1_commits 37 = .ok (.invokevirtual 90, 3) := by decide +kernel
theorem dX1_commits_40 : decode cX1_commits 40 = .ok (.aload_n 0, 1) := by decide +kernel
theorem dX1_commits_41 : decode cX1_commits 41 = .ok (.iconst 0, 1) := by decide +kernel
theorem dX1_commits_42 : decode cX1_commits 42 = .ok (.invokevirtual 94, 3) := by decide +kernel
theorem dX1_commits_45 : decode cX1_commits 45 = .ok (.ireturn, 1) := by decide +kernel
theorem dX1_commits_46 : decode cX1_commits 46 = .ok (.aload_n 0, 1) := by decide +kernel
theorem dX1_commits_47 : decode cX1_commits 47 = .ok (.iload_n 1, 1) := by decide +kernel
theorem dX1_commits_48 : decode cX1_commits 48 = .ok (.iload_n 2, 1) := by decide +kernel
theorem dX1_commits_49 : decode cX1_commits 49 = .ok (.if_icmp .ge 7, 3) := by decide +kernel
theorem dX1_commits_52 : decode cX1_commits 52 = .ok (.iload_n 1, 1) := by decide +kernel
theorem dX1_commits_53 : decode cX1_commits 53 = .ok (.goto 8, 3) := by decide +kernel
theorem dX1_commits_56 : decode cX1_commits 56 = .ok (.iload_n 1, 1) := by decide +kernel
theorem dX1_commits_57 : decode cX1_commits 57 = .ok (.iload_n 2, 1) := by decide +kernel
theorem dX1_commits_58 : decode cX1_commits 58 = .ok (.isub, 1) := by decide +kernel
theorem dX1_commits_59 : decode cX1_commits 59 = .ok (.iconst 1, 1) := by decide +kernel
theorem dX1_commits_60 : decode cX1_commits 60 = .ok (.isub, 1) := by decide +kernel
theorem dX1_commits_61 : decode cX1_commits 61 = .ok (.invokevirtual 87, 3) := by decide +kernel
theorem dX1_commits_64 : decode cX1_commits 64 = .ok (.istore 5, 2) := by decide +kernel
theorem dX1_commits_66 : decode cX1_commits 66 = .ok (.iconst 0, 1) := by decide +kernel
theorem dX1_commits_67 : decode cX1_commits 67 = .ok (.istore 6, 2) := by decide +kernel
theorem dX1_commits_69 : decode cX1_commits 69 = .ok (.iload 6, 2) := by decide +kernel
theorem dX1_commits_71 : decode cX1_commits 71 = .ok (.bipush 64, 2) := by decide +kernel
theorem dX1_commits_73 : decode cX1_commits 73 = .ok (.if_icmp .ge 29, 3) := by decide +kernel
theorem dX1_commits_76 : decode cX1_commits 76 = .ok (.aload_n 0, 1) := by decide +kernel
theorem dX1_commits_77 : decode cX1_commits 77 = .ok (.getfield 28, 3) := by decide +kernel
theorem dX1_commits_80 : decode cX1_commits 80 = .ok (.iload 6, 2) := by decide +kernel
theorem dX1_commits_82 : decode cX1_commits 82 = .ok (.aload_n 0, 1) := by decide +kernel
theorem dX1_commits_83 : decode cX1_commits 83 = .ok (.getfield 19, 3) := by decide +kernel
theorem dX1_commits_86 : decode cX1_commits 86 = .ok (.bipush 64, 2) := by decide +kernel
theorem dX1_commits_88 : decode cX1_commits 88 = .ok (.iload 5, 2) := by decide +kernel
theorem dX1_commits_90 : decode cX1_commits 90 = .ok (.imul, 1) := by decide +kernel
theorem dX1_commits_91 : decode cX1_commits 91 = .ok (.iload 6, 2) := by decide +kernel
theorem dX1_commits_93 : decode cX1_commits 93 = .ok (.iadd, 1) := by decide +kernel
theorem dX1_commits_94 : decode cX1_commits 94 = .ok (.iaload, 1) := by decide +kernel
theorem dX1_commits_95 : decode cX1_commits 95 = .ok (.iastore, 1) := by decide +kernel
theorem dX1_commits_96 : decode cX1_commits 96 = .ok (.iinc 6 1, 3) := by decide +kernel
theorem dX1_commits_99 : decode cX1_commits 99 = .ok (.goto (-30), 3) := by decide +kernel
theorem dX1_commits_102 : decode cX1_commits 102 = .ok (.aload_n 0, 1) := by decide +kernel
theorem dX1_commits_103 : decode cX1_commits 103 = .ok (.iload_n 1, 1) := by decide +kernel
theorem dX1_commits_104 : decode cX1_commits 104 = .ok (.iload_n 2, 1) := by decide +kernel
theorem dX1_commits_105 : decode cX1_commits 105 = .ok (.if_icmp .ge 9, 3) := by decide +kernel
theorem dX1_commits_108 : decode cX1_commits 108 = .ok (.iconst 1, 1) := by decide +kernel
theorem dX1_commits_109 : decode cX1_commits 109 = .ok (.iload_n 1, 1) := by decide +kernel
theorem dX1_commits_110 : decode cX1_commits 110 = .ok (.iadd, 1) := by decide +kernel
theorem dX1_commits_111 : decode cX1_commits 111 = .ok (.goto 10, 3) := by decide +kernel
theorem dX1_commits_114 : decode cX1_commits 114 = .ok (.aload_n 0, 1) := by decide +kernel
theorem dX1_commits_115 : decode cX1_commits 115 = .ok (.getfield 16, 3) := by decide +kernel
theorem dX1_commits_118 : decode cX1_commits 118 = .ok (.iload 5, 2) := by decide +kernel
theorem dX1_commits_120 : decode cX1_commits 120 = .ok (.iaload, 1) := by decide +kernel
theorem dX1_commits_121 : decode cX1_commits 121 = .ok (.invokevirtual 94, 3) := by decide +kernel
theorem dX1_commits_124 : decode cX1_commits 124 = .ok (.ireturn, 1) := by decide +kernel
theorem dX1_commit_0 : decode cX1_commit 0 = .ok (.aload_n 0, 1) := by decide +kernel
theorem dX1_commit_1 : decode cX1_commit 1 = .ok (.aload_n 0, 1) := by decide +kernel
theorem dX1_commit_2 : decode cX1_commit 2 = .ok (.getfield 81, 3) := by decide +kernel
theorem dX1_commit_5 : decode cX1_commit 5 = .ok (.ifCond .eq 10, 3) := by decide +kernel
theorem dX1_commit_8 : decode cX1_commit 8 = .ok (.aload_n 0, 1) := by decide +kernel
theorem dX1_commit_9 : decode cX1_commit 9 = .ok (.getfield 35, 3) := by decide +kernel
theorem dX1_commit_12 : decode cX1_commit 12 = .ok (.ifCond .eq 7, 3) := by decide +kernel
theorem dX1_commit_15 : decode cX1_commit 15 = .ok (.iconst 1, 1) := by decide +kernel
theorem dX1_commit_16 : decode cX1_commit 16 = .ok (.goto 4, 3) := by decide +kernel
theorem dX1_commit_19 : decode cX1_commit 19 = .ok (.iconst 0, 1) := by decide +kernel
theorem dX1_commit_20 : decode cX1_commit 20 = .ok (.iconst 1, 1) := by decide +kernel
theorem dX1_commit_21 : decode cX1_commit 21 = .ok (.invokevirtual 72, 3) := by decide +kernel
theorem dX1_commit_24 : decode cX1_commit 24 = .ok (.ifCond .eq 5, 3) := by decide +kernel
theorem dX1_commit_27 : decode cX1_commit 27 = .ok (.iconst 0, 1) := by decide +kernel
theorem dX1_commit_28 : decode cX1_commit 28 = .ok (.ireturn, 1) := by decide +kernel
theorem dX1_commit_29 : decode cX1_commit 29 = .ok (.aload_n 0, 1) := by decide +kernel
theorem dX1_commit_30 : decode cX1_commit 30 = .ok (.iconst 0, 1) := by decide +kernel
theorem dX1_commit_31 : decode cX1_commit 31 = .ok (.iconst 4, 1) := by decide +kernel
theorem dX1_commit_32 : decode cX1_commit 32 = .ok (.invokevirtual 48, 3) := by decide +kernel
theorem dX1_commit_35 : decode cX1_commit 35 = .ok (.lstore_n 1, 1) := by decide +kernel
theorem dX1_commit_36 : decode cX1_commit 36 = .ok (.iconst 1, 1) := by decide +kernel
theorem dX1_commit_37 : decode cX1_commit 37 = .ok (.istore_n 3, 1) := by decide +kernel
theorem dX1_commit_38 : decode cX1_commit 38 = .ok (.iconst 0, 1) := by decide +kernel
theorem dX1_commit_39 : decode cX1_commit 39 = .ok (.istore 4, 2) := by decide +kernel
theorem dX1_commit_41 : decode cX1_commit 41 = .ok (.iload 4, 2) := by decide +kernel
theorem dX1_commit_43 : decode cX1_commit 43 = .ok (.iconst 2, 1) := by decide +kernel
theorem dX1_commit_44 : decode cX1_commit 44 = .ok (.aload_n 0, 1) := by decide +kernel
theorem dX1_commit_45 : decode cX1_commit 45 = .ok (.getfield 81, 3) := by decide +kernel
theorem dX1_commit_48 : decode cX1_commit 48 = .ok (.imul, 1) := by decide +kernel
theorem dX1_commit_49 : decode cX1_commit 49 = .ok (.iconst 2, 1) := by decide +kernel
theorem dX1_commit_50 : decode cX1_commit 50 = .ok (.iadd, 1) := by decide +kernel
theorem dX1_commit_51 : decode cX1_commit 51 = .ok (.if_icmp .ge 25, 3) := by decide +kernel
theorem dX1_commit_54 : decode cX1_commit 54 = .ok (.iload_n 3, 1) := by decide +kernel
theorem dX1_commit_55 : decode cX1_commit 55 = .ok (.ifCond .eq 21, 3) := by decide +kernel
theorem dX1_commit_58 : decode cX1_commit 58 = .ok (.aload_n 0, 1) := by decide +kernel
theorem dX1_commit_59 : decode cX1_commit 59 = .ok (.iload 4, 2) := by decide +kernel
theorem dX1_commit_61 : decode cX1_commit 61 = .ok (.aload_n 0, 1) := by decide +kernel
theorem dX1_commit_62 : decode cX1_commit 62 = .ok (.getfield 81, 3) := by decide +kernel
theorem dX1_commit_65 : decode cX1_commit 65 = .ok (.lload_n 1, 1) := by decide +kernel
theorem dX1_commit_66 : decode cX1_commit 66 = .ok (.invokevirtual 98, 3) := by decide +kernel
theorem dX1_commit_69 : decode cX1_commit 69 = .ok (.istore_n 3, 1) := by decide +kernel
theorem dX1_commit_70 : decode cX1_commit 70 = .ok (.iinc 4 1, 3) := by decide +kernel
theorem dX1_commit_73 : decode cX1_commit 73 = .ok (.goto (-32), 3) := by decide +kernel
theorem dX1_commit_76 : decode cX1_commit 76 = .ok (.aload_n 0, 1) := by decide +kernel
theorem dX1_commit_77 : decode cX1_commit 77 = .ok (.iconst 0, 1) := by decide +kernel
theorem dX1_commit_78 : decode cX1_commit 78 = .ok (.putfield 81, 3) := by decide +kernel
theorem dX1_commit_81 : decode cX1_commit 81 = .ok (.iload_n 3, 1) := by decide +kernel
theorem dX1_commit_82 : decode cX1_commit 82 = .ok (.ireturn, 1) := by decide +kernel
theorem dX1_recover_0 : decode cX1_recover 0 = .ok (.aload_n 0, 1) := by decide +kernel
theorem dX1_recover_1 : decode cX1_recover 1 = .ok (.aload_n 0, 1) := by decide +kernel
theorem dX1_recover_2 : decode cX1_recover 2 = .ok (.getfield 35, 3) := by decide +kernel
theorem dX1_recover_5 : decode cX1_recover 5 = .ok (.iconst 1, 1) := by decide +kernel
theorem dX1_recover_6 : decode cX1_recover 6 = .ok (.invokevirtual 72, 3) := by decide +kernel
theorem dX1_recover_9 : decode cX1_recover 9 = .ok (.ifCond .eq 5, 3) := by decide +kernel
theorem dX1_recover_12 : decode cX1_recover 12 = .ok (.iconst 0, 1) := by decide +kernel
theorem dX1_recover_13 : decode cX1_recover 13 = .ok (.ireturn, 1) := by decide +kernel
theorem dX1_recover_14 : decode cX1_recover 14 = .ok (.aload_n 0, 1) := by decide +kernel
theorem dX1_recover_15 : decode cX1_recover 15 = .ok (.invokevirtual 102, 3) := by decide +kernel
theorem dX1_recover_18 : decode cX1_recover 18 = .ok (.ifCond .ne 5, 3) := by decide +kernel
theorem dX1_recover_21 : decode cX1_recover 21 = .ok (.iconst 0, 1) := by decide +kernel
theorem dX1_recover_22 : decode cX1_recover 22 = .ok (.ireturn, 1) := by decide +kernel
theorem dX1_recover_23 : decode cX1_recover 23 = .ok (.aload_n 0, 1) := by decide +kernel
theorem dX1_recover_24 : decode cX1_recover 24 = .ok (.getfield 7, 3) := by decide +kernel
theorem dX1_recover_27 : decode cX1_recover 27 = .ok (.iconst 4, 1) := by decide +kernel
theorem dX1_recover_28 : decode cX1_recover 28 = .ok (.iaload, 1) := by decide +kernel
theorem dX1_recover_29 : decode cX1_recover 29 = .ok (.istore_n 1, 1) := by decide +kernel
theorem dX1_recover_30 : decode cX1_recover 30 = .ok (.aload_n 0, 1) := by decide +kernel
theorem dX1_recover_31 : decode cX1_recover 31 = .ok (.iconst 0, 1) := by decide +kernel
theorem dX1_recover_32 : decode cX1_recover 32 = .ok (.iconst 4, 1) := by decide +kernel
theorem dX1_recover_33 : decode cX1_recover 33 = .ok (.invokevirtual 48, 3) := by decide +kernel
theorem dX1_recover_36 : decode cX1_recover 36 = .ok (.lstore_n 2, 1) := by decide +kernel
theorem dX1_recover_37 : decode cX1_recover 37 = .ok (.iconst 0, 1) := by decide +kernel
theorem dX1_recover_38 : decode cX1_recover 38 = .ok (.istore 4, 2) := by decide +kernel
theorem dX1_recover_40 : decode cX1_recover 40 = .ok (.iload 4, 2) := by decide +kernel
theorem dX1_recover_42 : decode cX1_recover 42 = .ok (.iload_n 1, 1) := by decide +kernel
theorem dX1_recover_43 : decode cX1_recover 43 = .ok (.if_icmp .ge 62, 3) := by decide +kernel
theorem dX1_recover_46 : decode cX1_recover 46 = .ok (.iconst 0, 1) := by decide +kernel
theorem dX1_recover_47 : decode cX1_recover 47 = .ok (.istore 5, 2) := by decide +kernel
theorem dX1_recover_49 : decode cX1_recover 49 = .ok (.iload 5, 2) := by decide +kernel
theorem dX1_recover_51 : decode cX1_recover 51 = .ok (.bipush 64, 2) := by decide +kernel
theorem dX1_recover_53 : decode cX1_recover 53 = .ok (.if_icmp .ge 31, 3) := by decide +kernel
theorem dX1_recover_56 : decode cX1_recover 56 = .ok (.aload_n 0, 1) := by decide +kernel
theorem dX1_recover_57 : decode cX1_recover 57 = .ok (.getfield 28, 3) := by decide +kernel
theorem dX1_recover_60 : decode cX1_recover 60 = .ok (.iload 5, 2) := by decide +kernel
theorem dX1_recover_62 : decode cX1_recover 62 = .ok (.aload_n 0, 1) := by decide +kernel
theorem dX1_recover_63 : decode cX1_recover 63 = .ok (.getfield 7, 3) := by decide +kernel
theorem dX1_recover_66 : decode cX1_recover 66 = .ok (.bipush 64, 2) := by decide +kernel
theorem dX1_recover_68 : decode cX1_recover 68 = .ok (.iconst 1, 1) := by decide +kernel
theorem dX1_recover_69 : decode cX1_recover 69 = .ok (.iload 4, 2) := by decide +kernel
theorem dX1_recover_71 : decode cX1_recover 71 = .ok (.iadd, 1) := by decide +kernel
theorem dX1_recover_72 : decode cX1_recover 72 = .ok (.imul, 1) := by decide +kernel
theorem dX1_recover_73 : decode cX1_recover 73 = .ok (.iload 5, 2) := by decide +kernel
theorem dX1_recover_75 : decode cX1_recover 75 = .ok (.iadd, 1) := by decide +kernel
theorem dX1_recover_76 : decode cX1_recover 76 = .ok (.iaload, 1) := by decide +kernel
theorem dX1_recover_77 : decode cX1_recover 77 = .ok (.iastore, 1) := by decide +kernel
theorem dX1_recover_78 : decode cX1_recover 78 = .ok (.iinc 5 1, 3) := by decide +kernel
theorem dX1_recover_81 : decode cX1_recover 81 = .ok (.goto (-32), 3) := by decide +kernel
theorem dX1_recover_84 : decode cX1_recover 84 = .ok (.aload_n 0, 1) := by decide +kernel
theorem dX1_recover_85 : decode cX1_recover 85 = .ok (.aload_n 0, 1) := by decide +kernel
theorem dX1_recover_86 : decode cX1_recover 86 = .ok (.iload 4, 2) := by decide +kernel
theorem dX1_recover_88 : decode cX1_recover 88 = .ok (.invokevirtual 58, 3) := by decide +kernel
theorem dX1_recover_91 : decode cX1_recover 91 = .ok (.invokevirtual 94, 3) := by decide +kernel
theorem dX1_recover_94 : decode cX1_recover 94 = .ok (.ifCond .ne 5, 3) := by decide +kernel
theorem dX1_recover_97 : decode cX1_recover 97 = .ok (.iconst (-1), 1) := by decide +kernel
theorem dX1_recover_98 : decode cX1_recover 98 = .ok (.ireturn, 1) := by decide +kernel
theorem dX1_recover_99 : decode cX1_recover 99 = .ok (.iinc 4 1, 3) := by decide +kernel
theorem dX1_recover_102 : decode cX1_recover 102 = .ok (.goto (-62), 3) := by decide +kernel
theorem dX1_recover_105 : decode cX1_recover 105 = .ok (.aload_n 0, 1) := by decide +kernel
theorem dX1_recover_106 : decode cX1_recover 106 = .ok (.lload_n 2, 1) := by decide +kernel
theorem dX1_recover_107 : decode cX1_recover 107 = .ok (.lconst 1, 1) := by decide +kernel
theorem dX1_recover_108 : decode cX1_recover 108 = .ok (.ladd, 1) := by decide +kernel
theorem dX1_recover_109 : decode cX1_recover 109 = .ok (.iconst 0, 1) := by decide +kernel
theorem dX1_recover_110 : decode cX1_recover 110 = .ok (.invokevirtual 90, 3) := by decide +kernel
theorem dX1_recover_113 : decode cX1_recover 113 = .ok (.aload_n 0, 1) := by decide +kernel
theorem dX1_recover_114 : decode cX1_recover 114 = .ok (.iconst 0, 1) := by decide +kernel
theorem dX1_recover_115 : decode cX1_recover 115 = .ok (.invokevirtual 94, 3) := by decide +kernel
theorem dX1_recover_118 : decode cX1_recover 118 = .ok (.ifCond .eq 7, 3) := by decide +kernel
theorem dX1_recover_121 : decode cX1_recover 121 = .ok (.iload_n 1, 1) := by decide +kernel
theorem dX1_recover_122 : decode cX1_recover 122 = .ok (.goto 4, 3) := by decide +kernel
theorem dX1_recover_125 : decode cX1_recover 125 = .ok (.iconst (-1), 1) := by decide +kernel
theorem dX1_recover_126 : decode cX1_recover 126 = .ok (.ireturn, 1) := by decide +kernel
theorem dX1_lose_0 : decode cX1_lose 0 = .ok (.aload_n 0, 1) := by decide +kernel
theorem dX1_lose_1 : decode cX1_lose 1 = .ok (.iload_n 1, 1) := by decide +kernel
theorem dX1_lose_2 : decode cX1_lose 2 = .ok (.iconst 1, 1) := by decide +kernel
theorem dX1_lose_3 : decode cX1_lose 3 = .ok (.if_icmp .ge 7, 3) := by decide +kernel
theorem dX1_lose_6 : decode cX1_lose 6 = .ok (.iconst 1, 1) := by decide +kernel
theorem dX1_lose_7 : decode cX1_lose 7 = .ok (.goto 4, 3) := by decide +kernel
theorem dX1_lose_10 : decode cX1_lose 10 = .ok (.iconst 0, 1) := by decide +kernel
theorem dX1_lose_11 : decode cX1_lose 11 = .ok (.iconst 1, 1) := by decide +kernel
theorem dX1_lose_12 : decode cX1_lose 12 = .ok (.invokevirtual 72, 3) := by decide +kernel
theorem dX1_lose_15 : decode cX1_lose 15 = .ok (.ifCond .ne 15, 3) := by decide +kernel
theorem dX1_lose_18 : decode cX1_lose 18 = .ok (.aload_n 0, 1) := by decide +kernel
theorem dX1_lose_19 : decode cX1_lose 19 = .ok (.aload_n 0, 1) := by decide +kernel
theorem dX1_lose_20 : decode cX1_lose 20 = .ok (.getfield 35, 3) := by decide +kernel
theorem dX1_lose_23 : decode cX1_lose 23 = .ok (.iconst 2, 1) := by decide +kernel
theorem dX1_lose_24 : decode cX1_lose 24 = .ok (.invokevirtual 72, 3) := by decide +kernel
theorem dX1_lose_27 : decode cX1_lose 27 = .ok (.ifCond .eq 4, 3) := by decide +kernel
theorem dX1_lose_30 : decode cX1_lose 30 = .ok (.return_, 1) := by decide +kernel
theorem dX1_lose_31 : decode cX1_lose 31 = .ok (.aload_n 0, 1) := by decide +kernel
theorem dX1_lose_32 : decode cX1_lose 32 = .ok (.iload_n 1, 1) := by decide +kernel
theorem dX1_lose_33 : decode cX1_lose 33 = .ok (.i2l, 1) := by decide +kernel
theorem dX1_lose_34 : decode cX1_lose 34 = .ok (.lconst 1, 1) := by decide +kernel
theorem dX1_lose_35 : decode cX1_lose 35 = .ok (.lsub, 1) := by decide +kernel
theorem dX1_lose_36 : decode cX1_lose 36 = .ok (.putfield 24, 3) := by decide +kernel
theorem dX1_lose_39 : decode cX1_lose 39 = .ok (.return_, 1) := by decide +kernel
theorem dX1_power_0 : decode cX1_power 0 = .ok (.aload_n 0, 1) := by decide +kernel
theorem dX1_power_1 : decode cX1_power 1 = .ok (.iconst 0, 1) := by decide +kernel
theorem dX1_power_2 : decode cX1_power 2 = .ok (.putfield 31, 3) := by decide +kernel
theorem dX1_power_5 : decode cX1_power 5 = .ok (.aload_n 0, 1) := by decide +kernel
theorem dX1_power_6 : decode cX1_power 6 = .ok (.getfield 35, 3) := by decide +kernel
theorem dX1_power_9 : decode cX1_power 9 = .ok (.istore_n 1, 1) := by decide +kernel
theorem dX1_power_10 : decode cX1_power 10 = .ok (.aload_n 0, 1) := by decide +kernel
theorem dX1_power_11 : decode cX1_power 11 = .ok (.iconst 0, 1) := by decide +kernel
theorem dX1_power_12 : decode cX1_power 12 = .ok (.putfield 35, 3) := by decide +kernel
theorem dX1_power_15 : decode cX1_power 15 = .ok (.aload_n 0, 1) := by decide +kernel
theorem dX1_power_16 : decode cX1_power 16 = .ok (.ldc2_w 22, 3) := by decide +kernel
theorem dX1_power_19 : decode cX1_power 19 = .ok (.putfield 24, 3) := by decide +kernel
theorem dX1_power_22 : decode cX1_power 22 = .ok (.iload_n 1, 1) := by decide +kernel
theorem dX1_power_23 : decode cX1_power 23 = .ok (.ireturn, 1) := by decide +kernel
theorem dX1_spoil_0 : decode cX1_spoil 0 = .ok (.aload_n 0, 1) := by decide +kernel
theorem dX1_spoil_1 : decode cX1_spoil 1 = .ok (.iload_n 1, 1) := by decide +kernel
theorem dX1_spoil_2 : decode cX1_spoil 2 = .ok (.i2l, 1) := by decide +kernel
theorem dX1_spoil_3 : decode cX1_spoil 3 = .ok (.lconst 0, 1) := by decide +kernel
theorem dX1_spoil_4 : decode cX1_spoil 4 = .ok (.ldc2_w 64, 3) := by decide +kernel
theorem dX1_spoil_7 : decode cX1_spoil 7 = .ok (.invokestatic 54, 3) := by decide +kernel
theorem dX1_spoil_10 : decode cX1_spoil 10 = .ok (.ifCond .eq 15, 3) := by decide +kernel
theorem dX1_spoil_13 : decode cX1_spoil 13 = .ok (.iload_n 2, 1) := by decide +kernel
theorem dX1_spoil_14 : decode cX1_spoil 14 = .ok (.i2l, 1) := by decide +kernel
theorem dX1_spoil_15 : decode cX1_spoil 15 = .ok (.lconst 0, 1) := by decide +kernel
theorem dX1_spoil_16 : decode cX1_spoil 16 = .ok (.ldc2_w 106, 3) := by decide +kernel
theorem dX1_spoil_19 : decode cX1_spoil 19 = .ok (.invokestatic 54, 3) := by decide +kernel
theorem dX1_spoil_22 : decode cX1_spoil 22 = .ok (.ifCond .ne 7, 3) := by decide +kernel
theorem dX1_spoil_25 : decode cX1_spoil 25 = .ok (.iconst 1, 1) := by decide +kernel
theorem dX1_spoil_26 : decode cX1_spoil 26 = .ok (.goto 4, 3) := by decide +kernel
theorem dX1_spoil_29 : decode cX1_spoil 29 = .ok (.iconst 0, 1) := by decide +kernel
theorem dX1_spoil_30 : decode cX1_spoil 30 = .ok (.iconst 1, 1) := by decide +kernel
theorem dX1_spoil_31 : decode cX1_spoil 31 = .ok (.invokevirtual 72, 3) := by decide +kernel
theorem dX1_spoil_34 : decode cX1_spoil 34 = .ok (.ifCond .eq 5, 3) := by decide +kernel
theorem dX1_spoil_37 : decode cX1_spoil 37 = .ok (.iconst 0, 1) := by decide +kernel
theorem dX1_spoil_38 : decode cX1_spoil 38 = .ok (.ireturn, 1) := by decide +kernel
theorem dX1_spoil_39 : decode cX1_spoil 39 = .ok (.aload_n 0, 1) := by decide +kernel
theorem dX1_spoil_40 : decode cX1_spoil 40 = .ok (.getfield 7, 3) := by decide +kernel
theorem dX1_spoil_43 : decode cX1_spoil 43 = .ok (.bipush 64, 2) := by decide +kernel
theorem dX1_spoil_45 : decode cX1_spoil 45 = .ok (.iload_n 1, 1) := by decide +kernel
theorem dX1_spoil_46 : decode cX1_spoil 46 = .ok (.imul, 1) := by decide +kernel
theorem dX1_spoil_47 : decode cX1_spoil 47 = .ok (.iload_n 2, 1) := by decide +kernel
theorem dX1_spoil_48 : decode cX1_spoil 48 = .ok (.iadd, 1) := by decide +kernel
theorem dX1_spoil_49 : decode cX1_spoil 49 = .ok (.iaload, 1) := by decide +kernel
theorem dX1_spoil_50 : decode cX1_spoil 50 = .ok (.istore 4, 2) := by decide +kernel
theorem dX1_spoil_52 : decode cX1_spoil 52 = .ok (.aload_n 0, 1) := by decide +kernel
theorem dX1_spoil_53 : decode cX1_spoil 53 = .ok (.getfield 7, 3) := by decide +kernel
theorem dX1_spoil_56 : decode cX1_spoil 56 = .ok (.bipush 64, 2) := by decide +kernel
theorem dX1_spoil_58 : decode cX1_spoil 58 = .ok (.iload_n 1, 1) := by decide +kernel
theorem dX1_spoil_59 : decode cX1_spoil 59 = .ok (.imul, 1) := by decide +kernel
theorem dX1_spoil_60 : decode cX1_spoil 60 = .ok (.iload_n 2, 1) := by decide +kernel
theorem dX1_spoil_61 : decode cX1_spoil 61 = .ok (.iadd, 1) := by decide +kernel
theorem dX1_spoil_62 : decode cX1_spoil 62 = .ok (.iload_n 3, 1) := by decide +kernel
theorem dX1_spoil_63 : decode cX1_spoil 63 = .ok (.sipush 255, 3) := by decide +kernel
theorem dX1_spoil_66 : decode cX1_spoil 66 = .ok (.iand, 1) := by decide +kernel
theorem dX1_spoil_67 : decode cX1_spoil 67 = .ok (.iastore, 1) := by decide +kernel
theorem dX1_spoil_68 : decode cX1_spoil 68 = .ok (.iload 4, 2) := by decide +kernel
theorem dX1_spoil_70 : decode cX1_spoil 70 = .ok (.ireturn, 1) := by decide +kernel
theorem dX1_at_0 : decode cX1_at 0 = .ok (.aload_n 0, 1) := by decide +kernel
theorem dX1_at_1 : decode cX1_at 1 = .ok (.iload_n 1, 1) := by decide +kernel
theorem dX1_at_2 : decode cX1_at 2 = .ok (.i2l, 1) := by decide +kernel
theorem dX1_at_3 : decode cX1_at 3 = .ok (.lconst 0, 1) := by decide +kernel
theorem dX1_at_4 : decode cX1_at 4 = .ok (.ldc2_w 64, 3) := by decide +kernel
theorem dX1_at_7 : decode cX1_at 7 = .ok (.invokestatic 54, 3) := by decide +kernel
theorem dX1_at_10 : decode cX1_at 10 = .ok (.ifCond .eq 15, 3) := by decide +kernel
theorem dX1_at_13 : decode cX1_at 13 = .ok (.iload_n 2, 1) := by decide +kernel
theorem dX1_at_14 : decode cX1_at 14 = .ok (.i2l, 1) := by decide +kernel
theorem dX1_at_15 : decode cX1_at 15 = .ok (.lconst 0, 1) := by decide +kernel
theorem dX1_at_16 : decode cX1_at 16 = .ok (.ldc2_w 106, 3) := by decide +kernel
theorem dX1_at_19 : decode cX1_at 19 = .ok (.invokestatic 54, 3) := by decide +kernel
theorem dX1_at_22 : decode cX1_at 22 = .ok (.ifCond .ne 7, 3) := by decide +kernel
theorem dX1_at_25 : decode cX1_at 25 = .ok (.iconst 1, 1) := by decide +kernel
theorem dX1_at_26 : decode cX1_at 26 = .ok (.goto 4, 3) := by decide +kernel
theorem dX1_at_29 : decode cX1_at 29 = .ok (.iconst 0, 1) := by decide +kernel
theorem dX1_at_30 : decode cX1_at 30 = .ok (.iconst 1, 1) := by decide +kernel
theorem dX1_at_31 : decode cX1_at 31 = .ok (.invokevirtual 72, 3) := by decide +kernel
theorem dX1_at_34 : decode cX1_at 34 = .ok (.ifCond .eq 7, 3) := by decide +kernel
theorem dX1_at_37 : decode cX1_at 37 = .ok (.iconst 0, 1) := by decide +kernel
theorem dX1_at_38 : decode cX1_at 38 = .ok (.goto 14, 3) := by decide +kernel
theorem dX1_at_41 : decode cX1_at 41 = .ok (.aload_n 0, 1) := by decide +kernel
theorem dX1_at_42 : decode cX1_at 42 = .ok (.getfield 7, 3) := by decide +kernel
theorem dX1_at_45 : decode cX1_at 45 = .ok (.bipush 64, 2) := by decide +kernel
theorem dX1_at_47 : decode cX1_at 47 = .ok (.iload_n 1, 1) := by decide +kernel
theorem dX1_at_48 : decode cX1_at 48 = .ok (.imul, 1) := by decide +kernel
theorem dX1_at_49 : decode cX1_at 49 = .ok (.iload_n 2, 1) := by decide +kernel
theorem dX1_at_50 : decode cX1_at 50 = .ok (.iadd, 1) := by decide +kernel
theorem dX1_at_51 : decode cX1_at 51 = .ok (.iaload, 1) := by decide +kernel
theorem dX1_at_52 : decode cX1_at 52 = .ok (.ireturn, 1) := by decide +kernel
theorem dX1_change_0 : decode cX1_change 0 = .ok (.aload_n 0, 1) := by decide +kernel
theorem dX1_change_1 : decode cX1_change 1 = .ok (.iload_n 1, 1) := by decide +kernel
theorem dX1_change_2 : decode cX1_change 2 = .ok (.i2l, 1) := by decide +kernel
theorem dX1_change_3 : decode cX1_change 3 = .ok (.lconst 0, 1) := by decide +kernel
theorem dX1_change_4 : decode cX1_change 4 = .ok (.aload_n 0, 1) := by decide +kernel
theorem dX1_change_5 : decode cX1_change 5 = .ok (.getfield 81, 3) := by decide +kernel
theorem dX1_change_8 : decode cX1_change 8 = .ok (.iconst 1, 1) := by decide +kernel
theorem dX1_change_9 : decode cX1_change 9 = .ok (.isub, 1) := by decide +kernel
theorem dX1_change_10 : decode cX1_change 10 = .ok (.i2l, 1) := by decide +kernel
theorem dX1_change_11 : decode cX1_change 11 = .ok (.invokestatic 54, 3) := by decide +kernel
theorem dX1_change_14 : decode cX1_change 14 = .ok (.ifCond .ne 7, 3) := by decide +kernel
theorem dX1_change_17 : decode cX1_change 17 = .ok (.iconst 1, 1) := by decide +kernel
theorem dX1_change_18 : decode cX1_change 18 = .ok (.goto 4, 3) := by decide +kernel
theorem dX1_change_21 : decode cX1_change 21 = .ok (.iconst 0, 1) := by decide +kernel
theorem dX1_change_22 : decode cX1_change 22 = .ok (.iconst 1, 1) := by decide +kernel
theorem dX1_change_23 : decode cX1_change 23 = .ok (.invokevirtual 72, 3) := by decide +kernel
theorem dX1_change_26 : decode cX1_change 26 = .ok (.ifCond .eq 7, 3) := by decide +kernel
theorem dX1_change_29 : decode cX1_change 29 = .ok (.iconst 0, 1) := by decide +kernel
theorem dX1_change_30 : decode cX1_change 30 = .ok (.goto 13, 3) := by decide +kernel
theorem dX1_change_33 : decode cX1_change 33 = .ok (.aload_n 0, 1) := by decide +kernel
theorem dX1_change_34 : decode cX1_change 34 = .ok (.getfield 16, 3) := by decide +kernel
theorem dX1_change_37 : decode cX1_change 37 = .ok (.aload_n 0, 1) := by decide +kernel
theorem dX1_change_38 : decode cX1_change 38 = .ok (.iload_n 1, 1) := by decide +kernel
theorem dX1_change_39 : decode cX1_change 39 = .ok (.invokevirtual 87, 3) := by decide +kernel
theorem dX1_change_42 : decode cX1_change 42 = .ok (.iaload, 1) := by decide +kernel
theorem dX1_change_43 : decode cX1_change 43 = .ok (.ireturn, 1) := by decide +kernel
theorem dX1_look_0 : decode cX1_look 0 = .ok (.aload_n 0, 1) := by decide +kernel
theorem dX1_look_1 : decode cX1_look 1 = .ok (.iload_n 1, 1) := by decide +kernel
theorem dX1_look_2 : decode cX1_look 2 = .ok (.i2l, 1) := by decide +kernel
theorem dX1_look_3 : decode cX1_look 3 = .ok (.lconst 0, 1) := by decide +kernel
theorem dX1_look_4 : decode cX1_look 4 = .ok (.ldc2_w 108, 3) := by decide +kernel
theorem dX1_look_7 : decode cX1_look 7 = .ok (.invokestatic 54, 3) := by decide +kernel
theorem dX1_look_10 : decode cX1_look 10 = .ok (.ifCond .ne 7, 3) := by decide +kernel
theorem dX1_look_13 : decode cX1_look 13 = .ok (.iconst 1, 1) := by decide +kernel
theorem dX1_look_14 : decode cX1_look 14 = .ok (.goto 4, 3) := by decide +kernel
theorem dX1_look_17 : decode cX1_look 17 = .ok (.iconst 0, 1) := by decide +kernel
theorem dX1_look_18 : decode cX1_look 18 = .ok (.iconst 1, 1) := by decide +kernel
theorem dX1_look_19 : decode cX1_look 19 = .ok (.invokevirtual 72, 3) := by decide +kernel
theorem dX1_look_22 : decode cX1_look 22 = .ok (.ifCond .eq 5, 3) := by decide +kernel
theorem dX1_look_25 : decode cX1_look 25 = .ok (.lconst 0, 1) := by decide +kernel
theorem dX1_look_26 : decode cX1_look 26 = .ok (.lreturn, 1) := by decide +kernel
theorem dX1_look_27 : decode cX1_look 27 = .ok (.iload_n 1, 1) := by decide +kernel
theorem dX1_look_28 : decode cX1_look 28 = .ok (.tableswitch 92 0 5 #[40, 47, 55, 68, 74, 79], 40) := by decide +kernel
theorem dX1_look_68 : decode cX1_look 68 = .ok (.aload_n 0, 1) := by decide +kernel
theorem dX1_look_69 : decode cX1_look 69 = .ok (.iconst 0, 1) := by decide +kernel
theorem dX1_look_70 : decode cX1_look 70 = .ok (.iconst 4, 1) := by decide +kernel
theorem dX1_look_71 : decode cX1_look 71 = .ok (.invokevirtual 48, 3) := by decide +kernel
theorem dX1_look_74 : decode cX1_look 74 = .ok (.lreturn, 1) := by decide +kernel
theorem dX1_look_75 : decode cX1_look 75 = .ok (.aload_n 0, 1) := by decide +kernel
theorem dX1_look_76 : decode cX1_look 76 = .ok (.getfield 7, 3) := by decide +kernel
theorem dX1_look_79 : decode cX1_look 79 = .ok (.iconst 4, 1) := by decide +kernel
theorem dX1_look_80 : decode cX1_look 80 = .ok (.iaload, 1) := by decide +kernel
theorem dX1_look_81 : decode cX1_look 81 = .ok (.i2l, 1) := by decide +kernel
theorem dX1_look_82 : decode cX1_look 82 = .ok (.lreturn, 1) := by decide +kernel
theorem dX1_look_83 : decode cX1_look 83 = .ok (.aload_n 0, 1) := by decide +kernel
theorem dX1_look_84 : decode cX1_look 84 = .ok (.invokevirtual 102, 3) := by decide +kernel
theorem dX1_look_87 : decode cX1_look 87 = .ok (.ifCond .eq 7, 3) := by decide +kernel
theorem dX1_look_90 : decode cX1_look 90 = .ok (.lconst 1, 1) := by decide +kernel
theorem dX1_look_91 : decode cX1_look 91 = .ok (.goto 4, 3) := by decide +kernel
theorem dX1_look_94 : decode cX1_look 94 = .ok (.lconst 0, 1) := by decide +kernel
theorem dX1_look_95 : decode cX1_look 95 = .ok (.lreturn, 1) := by decide +kernel
theorem dX1_look_96 : decode cX1_look 96 = .ok (.aload_n 0, 1) := by decide +kernel
theorem dX1_look_97 : decode cX1_look 97 = .ok (.getfield 81, 3) := by decide +kernel
theorem dX1_look_100 : decode cX1_look 100 = .ok (.i2l, 1) := by decide +kernel
theorem dX1_look_101 : decode cX1_look 101 = .ok (.lreturn, 1) := by decide +kernel
theorem dX1_look_102 : decode cX1_look 102 = .ok (.aload_n 0, 1) := by decide +kernel
theorem dX1_look_103 : decode cX1_look 103 = .ok (.getfield 39, 3) := by decide +kernel
theorem dX1_look_106 : decode cX1_look 106 = .ok (.lreturn, 1) := by decide +kernel
theorem dX1_look_107 : decode cX1_look 107 = .ok (.aload_n 0, 1) := by decide +kernel
theorem dX1_look_108 : decode cX1_look 108 = .ok (.getfield 35, 3) := by decide +kernel
theorem dX1_look_111 : decode cX1_look 111 = .ok (.ifCond .eq 7, 3) := by decide +kernel
theorem dX1_look_114 : decode cX1_look 114 = .ok (.lconst 1, 1) := by decide +kernel
theorem dX1_look_115 : decode cX1_look 115 = .ok (.goto 4, 3) := by decide +kernel
theorem dX1_look_118 : decode cX1_look 118 = .ok (.lconst 0, 1) := by decide +kernel
theorem dX1_look_119 : decode cX1_look 119 = .ok (.lreturn, 1) := by decide +kernel
theorem dX1_look_120 : decode cX1_look 120 = .ok (.aload_n 0, 1) := by decide +kernel
theorem dX1_look_121 : decode cX1_look 121 = .ok (.getfield 35, 3) := by decide +kernel
theorem dX1_look_124 : decode cX1_look 124 = .ok (.ifCond .eq 7, 3) := by decide +kernel
theorem dX1_look_127 : decode cX1_look 127 = .ok (.lconst 0, 1) := by decide +kernel
theorem dX1_look_128 : decode cX1_look 128 = .ok (.goto 7, 3) := by decide +kernel
theorem dX1_look_131 : decode cX1_look 131 = .ok (.aload_n 0, 1) := by decide +kernel
theorem dX1_look_132 : decode cX1_look 132 = .ok (.getfield 24, 3) := by decide +kernel
theorem dX1_look_135 : decode cX1_look 135 = .ok (.lreturn, 1) := by decide +kernel
end
section
section BJ
variable {p : Program} {l : Launch} {e : Env} {R : Room} {s : State} {m : MethodId} {args : Array Value} {below : List Frame} {meth : Method} {c : Code} {H : Heap} {locs : List Loc} {cells slots : Nat} {Q : State → Prop}
/-- a method that reads alone: what it answers, the heap as it was -/
def bj_Q (v : Option Value) : Array Value → State → Outcome → State → Prop := fun _ st o t => o = .returned v ∧ t.heap = st.heap
/-- behind a call of a method that reads alone -/
theorem bj_call {pc : Nat} {ls : Array Slot} {st0 rest : List Value} {a : Array Value} {v : Value} (hr : CallRun p l e R s m args below meth c H locs cells slots 0 0 (F0 m pc ls st0) rest (bj_Q (some v) a) (fun _ => False))
    (kk : W p l e R s m args below meth c H locs cells slots Q (F0 m (pc + 3) ls (v :: rest))) : W p l e R s m args below meth c H locs cells slots Q (F0 m pc ls st0) := by
  intro T hT X
  obtain ⟨v', st₀, t, T', L, h0, X', hL, e1, ⟨hv, hh⟩, st⟩ := hr T hT X
  cases hv
  obtain ⟨t2, a1, b1⟩ := kk T' (by rw [e1, hh, h0]) (Stand.forget X' (fun q h => (hL q h).elim))
  exact ⟨t2, st t2 a1, b1⟩
/-- the number on top, under another name -/
theorem bj_i {pc : Nat} {ls : Array Slot} {rest : List Value} {x y : Int32} (h : x = y) (k : W p l e R s m args below meth c H locs cells slots Q (F0 m pc ls (.int y :: rest))) : W p l e R s m args below meth c H locs cells slots Q (F0 m pc ls (.int x :: rest)) := h ▸ k
theorem bj_l {pc : Nat} {ls : Array Slot} {rest : List Value} {x y : Int64} (h : x = y) (k : W p l e R s m args below meth c H locs cells slots Q (F0 m pc ls (.long y :: rest))) : W p l e R s m args below meth c H locs cells slots Q (F0 m pc ls (.long x :: rest)) := h ▸ k
end BJ
/-- a truth as a number of the machine -/
def bI (b : Bool) : Int32 := if b then nI 1 else nI 0
theorem bI_t {b : Bool} (h : b = true) : bI b = nI 1 := by rw [h]; rfl
theorem bI_f {b : Bool} (h : b = false) : bI b = nI 0 := by rw [h]; rfl
theorem bI_n (b : Bool) : narrow .boolean (.int (bI b)) = .int (bI b) := by cases b <;> rfl
end
section
/-- the cells of a BlockJournal: itself and its six rows -/
def wX (cA : ClassId) (ad : Nat → Nat) (st ck nh tp : Nat → Int32) (tl : Int32) (cb cy : Nat → Int32) (nc of wl : Int32) (wd : Int64) : va_W :=
  [(ad 0, .inr (0, [.ref (ad 1), .ref (ad 2), .ref (ad 3), .ref (ad 4), .int tl, .ref (ad 5), .ref (ad 6), .int nc, .int of, .int wl, .long wd])), (ad 1, .inl (cA, 6144, .inl st)), (ad 2, .inl (cA, 256, .inl ck)), (ad 3, .inl (cA, 64, .inl nh)), (ad 4, .inl (cA, 64, .inl tp)), (ad 5, .inl (cA, 24, .inl cb)), (ad 6, .inl (cA, 1536, .inl cy))]
/-- the numbers of targets -/
def isT (b : Int32) : Bool := if b < nI 25 then false else if nI 96 ≤ b then false else true
/-- the places of the store -/
def isS (b k : Int32) : Bool := if b < 0 then false else if nI 96 ≤ b then false else if k < 0 then false else if nI 64 ≤ k then false else true
/-- four bytes of a row as a word, lowest first -/
def hwF (f : Nat → Int32) (p : Nat) : Nat → Int32
  | 0 => nI 0
  | i + 1 => hwF f p i ||| (f (p + i) <<< (nI (8 * i) &&& 31))
/-- a step of the check, and n of them -/
def c1F (w : Int32) : Int32 := if ¬ w &&& nI 1 = nI 1 then (w.toUInt32 >>> ((nI 1).toUInt32 &&& Int32.toUInt32 31)).toInt32 else (w.toUInt32 >>> ((nI 1).toUInt32 &&& Int32.toUInt32 31)).toInt32 ^^^ (-2097792136)
def cnF : Nat → Int32 → Int32
  | 0, w => w
  | k + 1, w => cnF k (c1F w)
/-- the first of k places from i on whose number is not below -/
def plF (f : Nat → Int32) (b : Int32) : Nat → Nat → Nat
  | 0, i => i
  | k + 1, i => if b ≤ f i then i else plF f b k (i + 1)
/-- the check of k bytes of the store from i on -/
def pcF (f ck : Nat → Int32) : Nat → Nat → Int32 → Int32
  | 0, _, w => w
  | k + 1, i, w => pcF f ck k (i + 1) ((w.toUInt32 >>> ((nI 8).toUInt32 &&& Int32.toUInt32 31)).toInt32 ^^^ ck ((w ^^^ f i) &&& nI 255).toNatClampNeg)
/-- target i of the head -/
def htF (f : Nat → Int32) (i : Nat) : Int32 := f (5 + 2 * i) ||| (f (5 + 2 * i + 1) <<< (nI 8 &&& 31))
/-- k targets from i on rise behind b and are targets -/
def trF (f : Nat → Int32) : Nat → Nat → Int32 → Bool
  | 0, _, _ => true
  | k + 1, i, b => if bI (isT (htF f i)) = 0 then false else if b < htF f i then trF f k (i + 1) (htF f i) else false

set_option maxHeartbeats 4000000 in
set_option maxRecDepth 100000 in
theorem c_X0_isTarget (l : Launch) (b : Int32)  : Met l yX0_isTarget wsX0_isTarget ({ frames := 0, cells := 0, slots := 0, locals := 0 } : Room) (va_Pc [.int b] (fun _ => True)) (bj_Q (some (.int (bI (isT b))))) 0 0 (fun _ => False) := by
  refine Met.ofW (cc := cX0_isTarget) (maxL := 1) (ret := (some .boolean)) (by decide) rfl ?_
  intro p e s m args below meth c s₁ B hml hv
  obtain ⟨rfl, -⟩ := hv
  have hx := B.exec
  have hb := B.bytes
  have hr := B.returns
  have hts := atoms_spec (ws := wsX0_isTarget) B.pre
  have hown : s.vm.findClass RX0 = some m.cls := findClass_of_methodNamed B.named
  have hlocks := B.notSynchronized
  have hl := lv_entry ([.int b]) (n := 1) (Nat.le_of_ble_eq_true rfl)
  rw [lg_entry_eq]
  generalize (lg_sl ([.int b]) ++ List.replicate (1 - (lg_sl ([.int b])).length) Slot.unset).toArray = ls at hl ⊢
  have hl : lv_has ls 1 [(0, .int b)] := hl
  refine lv_iload_n hx hb dX0_isTarget_0 rfl (lv_at hl 0 rfl) ?_
  refine lv_bipush (v := nI 25) hx hb dX0_isTarget_1 (by decide) ?_
  refine lv_icmp_lt (tgt := 16) hx hb dX0_isTarget_3 (by decide) (fun c_3 => ?_) (fun c_3 => ?_)
  · refine lv_iconst (v := nI 0) hx hb dX0_isTarget_16 (by decide) ?_
    have hres : nI 0 = bI (isT b) := by rw [isT, if_pos c_3]; rfl
    exact W.zret (v := nI 0) (ty := .boolean) hx hb hr rfl (fun t ht _ => ⟨congrArg (fun z : Int32 => Outcome.returned (some (Value.int z))) hres, ht⟩) (fun _ h => by cases h) dX0_isTarget_17
  · refine lv_iload_n hx hb dX0_isTarget_6 rfl (lv_at hl 0 rfl) ?_
    refine lv_bipush (v := nI 96) hx hb dX0_isTarget_7 (by decide) ?_
    refine lv_icmp_ge (tgt := 16) hx hb dX0_isTarget_9 (by decide) (fun c_9 => ?_) (fun c_9 => ?_)
    · refine lv_iconst (v := nI 0) hx hb dX0_isTarget_16 (by decide) ?_
      have hres : nI 0 = bI (isT b) := by rw [isT, if_neg c_3, if_pos c_9]; rfl
      exact W.zret (v := nI 0) (ty := .boolean) hx hb hr rfl (fun t ht _ => ⟨congrArg (fun z : Int32 => Outcome.returned (some (Value.int z))) hres, ht⟩) (fun _ h => by cases h) dX0_isTarget_17
    · refine lv_iconst (v := nI 1) hx hb dX0_isTarget_12 (by decide) ?_
      refine lv_goto (tgt := 17) hx hb dX0_isTarget_13 (by decide) ?_
      have hres : nI 1 = bI (isT b) := by rw [isT, if_neg c_3, if_neg c_9]; rfl
      exact W.zret (v := nI 1) (ty := .boolean) hx hb hr rfl (fun t ht _ => ⟨congrArg (fun z : Int32 => Outcome.returned (some (Value.int z))) hres, ht⟩) (fun _ h => by cases h) dX0_isTarget_17

set_option maxHeartbeats 4000000 in
set_option maxRecDepth 100000 in
theorem c_X0_isInStore (l : Launch) (b k : Int32)  : Met l yX0_isInStore wsX0_isInStore ({ frames := 0, cells := 0, slots := 0, locals := 0 } : Room) (va_Pc [.int b, .int k] (fun _ => True)) (bj_Q (some (.int (bI (isS b k))))) 0 0 (fun _ => False) := by
  refine Met.ofW (cc := cX0_isInStore) (maxL := 2) (ret := (some .boolean)) (by decide) rfl ?_
  intro p e s m args below meth c s₁ B hml hv
  obtain ⟨rfl, -⟩ := hv
  have hx := B.exec
  have hb := B.bytes
  have hr := B.returns
  have hts := atoms_spec (ws := wsX0_isInStore) B.pre
  have hown : s.vm.findClass RX0 = some m.cls := findClass_of_methodNamed B.named
  have hlocks := B.notSynchronized
  have hl := lv_entry ([.int b, .int k]) (n := 2) (Nat.le_of_ble_eq_true rfl)
  rw [lg_entry_eq]
  generalize (lg_sl ([.int b, .int k]) ++ List.replicate (2 - (lg_sl ([.int b, .int k])).length) Slot.unset).toArray = ls at hl ⊢
  have hl : lv_has ls 2 [(0, .int b), (1, .int k)] := hl
  refine lv_iload_n hx hb dX0_isInStore_0 rfl (lv_at hl 0 rfl) ?_
  refine lv_if_lt (tgt := 24) hx hb dX0_isInStore_1 (by decide) (fun c_1 => ?_) (fun c_1 => ?_)
  · refine lv_iconst (v := nI 0) hx hb dX0_isInStore_24 (by decide) ?_
    have hres : nI 0 = bI (isS b k) := by rw [isS, if_pos c_1]; rfl
    exact W.zret (v := nI 0) (ty := .boolean) hx hb hr rfl (fun t ht _ => ⟨congrArg (fun z : Int32 => Outcome.returned (some (Value.int z))) hres, ht⟩) (fun _ h => by cases h) dX0_isInStore_25
  · refine lv_iload_n hx hb dX0_isInStore_4 rfl (lv_at hl 0 rfl) ?_
    refine lv_bipush (v := nI 96) hx hb dX0_isInStore_5 (by decide) ?_
    refine lv_icmp_ge (tgt := 24) hx hb dX0_isInStore_7 (by decide) (fun c_7 => ?_) (fun c_7 => ?_)
    · refine lv_iconst (v := nI 0) hx hb dX0_isInStore_24 (by decide) ?_
      have hres : nI 0 = bI (isS b k) := by rw [isS, if_neg c_1, if_pos c_7]; rfl
      exact W.zret (v := nI 0) (ty := .boolean) hx hb hr rfl (fun t ht _ => ⟨congrArg (fun z : Int32 => Outcome.returned (some (Value.int z))) hres, ht⟩) (fun _ h => by cases h) dX0_isInStore_25
    · refine lv_iload_n hx hb dX0_isInStore_10 rfl (lv_at hl 1 rfl) ?_
      refine lv_if_lt (tgt := 24) hx hb dX0_isInStore_11 (by decide) (fun c_11 => ?_) (fun c_11 => ?_)
      · refine lv_iconst (v := nI 0) hx hb dX0_isInStore_24 (by decide) ?_
        have hres : nI 0 = bI (isS b k) := by rw [isS, if_neg c_1, if_neg c_7, if_pos c_11]; rfl
        exact W.zret (v := nI 0) (ty := .boolean) hx hb hr rfl (fun t ht _ => ⟨congrArg (fun z : Int32 => Outcome.returned (some (Value.int z))) hres, ht⟩) (fun _ h => by cases h) dX0_isInStore_25
      · refine lv_iload_n hx hb dX0_isInStore_14 rfl (lv_at hl 1 rfl) ?_
        refine lv_bipush (v := nI 64) hx hb dX0_isInStore_15 (by decide) ?_
        refine lv_icmp_ge (tgt := 24) hx hb dX0_isInStore_17 (by decide) (fun c_17 => ?_) (fun c_17 => ?_)
        · refine lv_iconst (v := nI 0) hx hb dX0_isInStore_24 (by decide) ?_
          have hres : nI 0 = bI (isS b k) := by rw [isS, if_neg c_1, if_neg c_7, if_neg c_11, if_pos c_17]; rfl
          exact W.zret (v := nI 0) (ty := .boolean) hx hb hr rfl (fun t ht _ => ⟨congrArg (fun z : Int32 => Outcome.returned (some (Value.int z))) hres, ht⟩) (fun _ h => by cases h) dX0_isInStore_25
        · refine lv_iconst (v := nI 1) hx hb dX0_isInStore_20 (by decide) ?_
          refine lv_goto (tgt := 25) hx hb dX0_isInStore_21 (by decide) ?_
          have hres : nI 1 = bI (isS b k) := by rw [isS, if_neg c_1, if_neg c_7, if_neg c_11, if_neg c_17]; rfl
          exact W.zret (v := nI 1) (ty := .boolean) hx hb hr rfl (fun t ht _ => ⟨congrArg (fun z : Int32 => Outcome.returned (some (Value.int z))) hres, ht⟩) (fun _ h => by cases h) dX0_isInStore_25

set_option maxHeartbeats 4000000 in
set_option maxRecDepth 100000 in
theorem c_X0_eightSteps (l : Launch) (b : Int32)  : Met l yX0_eightSteps wsX0_eightSteps ({ frames := 0, cells := 0, slots := 0, locals := 0 } : Room) (va_Pc [.int b] (fun _ => True)) (bj_Q (some (.int (cnF 8 b)))) 0 0 (fun _ => False) := by
  refine Met.ofW (cc := cX0_eightSteps) (maxL := 3) (ret := (some .int)) (by decide) rfl ?_
  intro p e s m args below meth c s₁ B hml hv
  obtain ⟨rfl, -⟩ := hv
  have hx := B.exec
  have hb := B.bytes
  have hr := B.returns
  have hts := atoms_spec (ws := wsX0_eightSteps) B.pre
  have hown : s.vm.findClass RX0 = some m.cls := findClass_of_methodNamed B.named
  have hlocks := B.notSynchronized
  have hl := lv_entry ([.int b]) (n := 3) (Nat.le_of_ble_eq_true rfl)
  rw [lg_entry_eq]
  generalize (lg_sl ([.int b]) ++ List.replicate (3 - (lg_sl ([.int b])).length) Slot.unset).toArray = ls at hl ⊢
  have hl : lv_has ls 3 [(0, .int b)] := hl
  refine lv_iconst (v := nI 0) hx hb dX0_eightSteps_0 (by decide) ?_
  refine lv_istore_n (lv' := [(1, .int (nI 0)), (0, .int b)]) hx hb dX0_eightSteps_1 rfl hl (by decide) rfl (fun ls hl => ?_)
  have loop_2 : ∀ (k : Nat) (i : Nat) (w : Int32), i + k = 8 → cnF 8 b = cnF k w → ∀ ls : Array Slot, lv_has ls 3 [(0, .int w), (1, .int (nI i))] → W p l e (headSpec wsX0_eightSteps ({ frames := 0, cells := 0, slots := 0, locals := 0 } : Room)).room s m ([.int b] : List Value).toArray below meth c s.heap [] 0 0 (MQ below (bj_Q (some (.int (cnF 8 b)))) ([.int b] : List Value).toArray s 0 0 (fun _ => False)) (F0 m 2 ls []) := by
    intro k
    induction k with
    | zero =>
      intro i w hk hR ls hl
      refine lv_iload_n hx hb dX0_eightSteps_2 rfl (lv_at hl 1 rfl) ?_
      refine lv_bipush (v := nI 8) hx hb dX0_eightSteps_3 (by decide) ?_
      refine lv_icmp_ge (tgt := 32) hx hb dX0_eightSteps_5 (by decide) (fun c_5 => ?_) (fun c_5 => ?_)
      · have n_5 : 8 ≤ i := (nI_leI (by omega) (by omega)).mp c_5
        refine lv_iload_n hx hb dX0_eightSteps_32 rfl (lv_at hl 0 rfl) ?_
        have hres : w = cnF 8 b := hR.symm
        exact W.iret (v := w) hx hb hr (fun t ht _ => ⟨congrArg (fun z : Int32 => Outcome.returned (some (Value.int z))) hres, ht⟩) (fun _ h => by cases h) dX0_eightSteps_33
      · have n_5 : ¬ 8 ≤ i := fun h => c_5 ((nI_leI (by omega) (by omega)).mpr h)
        exfalso; omega
    | succ k ih =>
      intro i w hk hR ls hl
      refine lv_iload_n hx hb dX0_eightSteps_2 rfl (lv_at hl 1 rfl) ?_
      refine lv_bipush (v := nI 8) hx hb dX0_eightSteps_3 (by decide) ?_
      refine lv_icmp_ge (tgt := 32) hx hb dX0_eightSteps_5 (by decide) (fun c_5 => ?_) (fun c_5 => ?_)
      · have n_5 : 8 ≤ i := (nI_leI (by omega) (by omega)).mp c_5
        exfalso; omega
      · have n_5 : ¬ 8 ≤ i := fun h => c_5 ((nI_leI (by omega) (by omega)).mpr h)
        refine lv_iload_n hx hb dX0_eightSteps_8 rfl (lv_at hl 0 rfl) ?_
        refine lv_iconst (v := nI 1) hx hb dX0_eightSteps_9 (by decide) ?_
        refine lv_iand hx hb dX0_eightSteps_10 ?_
        refine lv_istore_n (lv' := [(2, .int (w &&& (nI 1))), (0, .int w), (1, .int (nI i))]) hx hb dX0_eightSteps_11 rfl hl (by decide) rfl (fun ls hl => ?_)
        refine lv_iload_n hx hb dX0_eightSteps_12 rfl (lv_at hl 1 rfl) ?_
        refine lv_iconst (v := nI 1) hx hb dX0_eightSteps_13 (by decide) ?_
        refine lv_iushr hx hb dX0_eightSteps_14 rfl ?_
        refine lv_istore_n (lv' := [(0, .int ((w.toUInt32 >>> ((nI 1).toUInt32 &&& Int32.toUInt32 31)).toInt32)), (2, .int (w &&& (nI 1))), (1, .int (nI i))]) hx hb dX0_eightSteps_15 rfl hl (by decide) rfl (fun ls hl => ?_)
        refine lv_iload_n hx hb dX0_eightSteps_16 rfl (lv_at hl 1 rfl) ?_
        refine lv_iconst (v := nI 1) hx hb dX0_eightSteps_17 (by decide) ?_
        refine lv_icmp_ne (tgt := 26) hx hb dX0_eightSteps_18 (by decide) (fun c_18 => ?_) (fun c_18 => ?_)
        · refine lv_iinc (v := nI (i + 1)) (lv' := [(1, .int (nI (i + 1))), (0, .int ((w.toUInt32 >>> ((nI 1).toUInt32 &&& Int32.toUInt32 31)).toInt32)), (2, .int (w &&& (nI 1)))]) hx hb dX0_eightSteps_26 hl (k := 2) rfl (nI_add i 1) (by decide) rfl (fun ls hl => ?_)
          refine lv_goto (tgt := 2) hx hb dX0_eightSteps_29 (by decide) ?_
          exact ih (i + 1) _ (by omega) (by rw [hR, cnF, c1F, if_pos c_18]) _ (lv_sub hl [1, 0] rfl)
        · refine lv_iload_n hx hb dX0_eightSteps_21 rfl (lv_at hl 0 rfl) ?_
          refine lv_ldc hx hb hown (hts (.constant RX0 147 (-2097792136)) (by decide +kernel)) dX0_eightSteps_22 ?_
          refine lv_ixor hx hb dX0_eightSteps_24 ?_
          refine lv_istore_n (lv' := [(0, .int (((w.toUInt32 >>> ((nI 1).toUInt32 &&& Int32.toUInt32 31)).toInt32) ^^^ (-2097792136))), (2, .int (w &&& (nI 1))), (1, .int (nI i))]) hx hb dX0_eightSteps_25 rfl hl (by decide) rfl (fun ls hl => ?_)
          refine lv_iinc (v := nI (i + 1)) (lv' := [(1, .int (nI (i + 1))), (0, .int (((w.toUInt32 >>> ((nI 1).toUInt32 &&& Int32.toUInt32 31)).toInt32) ^^^ (-2097792136))), (2, .int (w &&& (nI 1)))]) hx hb dX0_eightSteps_26 hl (k := 2) rfl (nI_add i 1) (by decide) rfl (fun ls hl => ?_)
          refine lv_goto (tgt := 2) hx hb dX0_eightSteps_29 (by decide) ?_
          exact ih (i + 1) _ (by omega) (by rw [hR, cnF, c1F, if_neg (not_not_intro c_18)]) _ (lv_sub hl [1, 0] rfl)
  exact loop_2 8 0 b (by omega) rfl _ (lv_sub hl [1, 0] rfl)

set_option maxHeartbeats 4000000 in
set_option maxRecDepth 100000 in
theorem c_X0_headWord (l : Launch) (dC : Nat → ClassId) (dI : Nat → Nat → Nat) (cA : ClassId) (ad : Nat → Nat) (st ck nh tp : Nat → Int32) (tl : Int32) (cb cy : Nat → Int32) (nc of wl : Int32) (wd : Int64) (p0 : Nat) (hp : p0 ≤ 6140) : Met l yX0_headWord wsX0_headWord ({ frames := 0, cells := 0, slots := 0, locals := 0 } : Room) (va_Pc [.ref (ad 0), .int (nI p0)] (fun U => va_P (dC, dI) vwCl (wX cA ad st ck nh tp tl cb cy nc of wl wd) U.heap ∧ va_K (dC, dI) vwCl [(cA, .int)] U)) (bj_Q (some (.int (hwF st p0 4)))) 0 0 (fun _ => False) := by
  refine Met.ofW (cc := cX0_headWord) (maxL := 4) (ret := (some .int)) (by decide) rfl ?_
  intro p e s m args below meth c s₁ B hml hv
  obtain ⟨rfl, hP, hK⟩ := hv
  have hx := B.exec
  have hb := B.bytes
  have hr := B.returns
  have hts := atoms_spec (ws := wsX0_headWord) B.pre
  have hown : s.vm.findClass RX0 = some m.cls := findClass_of_methodNamed B.named
  have hlocks := B.notSynchronized
  have hin : ∀ w ∈ u_ws RX0 TX0 11, w ∈ wsX0_headWord := by decide +kernel
  have hl := lv_entry ([.ref (ad 0), .int (nI p0)]) (n := 4) (Nat.le_of_ble_eq_true rfl)
  rw [lg_entry_eq]
  generalize (lg_sl ([.ref (ad 0), .int (nI p0)]) ++ List.replicate (4 - (lg_sl ([.ref (ad 0), .int (nI p0)])).length) Slot.unset).toArray = ls at hl ⊢
  have hl : lv_has ls 4 [(0, .ref (ad 0)), (1, .int (nI p0))] := hl
  refine lv_iconst (v := nI 0) hx hb dX0_headWord_0 (by decide) ?_
  refine lv_istore_n (lv' := [(2, .int (nI 0)), (0, .ref (ad 0)), (1, .int (nI p0))]) hx hb dX0_headWord_1 rfl hl (by decide) rfl (fun ls hl => ?_)
  refine lv_iconst (v := nI 0) hx hb dX0_headWord_2 (by decide) ?_
  refine lv_istore_n (lv' := [(3, .int (nI 0)), (2, .int (nI 0)), (0, .ref (ad 0)), (1, .int (nI p0))]) hx hb dX0_headWord_3 rfl hl (by decide) rfl (fun ls hl => ?_)
  have loop_4 : ∀ (k : Nat) (i : Nat), i + k = 4 → ∀ ls : Array Slot, lv_has ls 4 [(0, .ref (ad 0)), (1, .int (nI p0)), (2, .int (hwF st p0 i)), (3, .int (nI i))] → W p l e (headSpec wsX0_headWord ({ frames := 0, cells := 0, slots := 0, locals := 0 } : Room)).room s m ([.ref (ad 0), .int (nI p0)] : List Value).toArray below meth c s.heap [] 0 0 (MQ below (bj_Q (some (.int (hwF st p0 4)))) ([.ref (ad 0), .int (nI p0)] : List Value).toArray s 0 0 (fun _ => False)) (F0 m 4 ls []) := by
    intro k
    induction k with
    | zero =>
      intro i hk ls hl
      refine lv_iload_n hx hb dX0_headWord_4 rfl (lv_at hl 3 rfl) ?_
      refine lv_iconst (v := nI 4) hx hb dX0_headWord_5 (by decide) ?_
      refine lv_icmp_ge (tgt := 33) hx hb dX0_headWord_6 (by decide) (fun c_6 => ?_) (fun c_6 => ?_)
      · have n_6 : 4 ≤ i := (nI_leI (by omega) (by omega)).mp c_6
        refine lv_iload_n hx hb dX0_headWord_33 rfl (lv_at hl 2 rfl) ?_
        have hres : hwF st p0 i = hwF st p0 4 := by rw [show i = 4 by omega]
        exact W.iret (v := hwF st p0 i) hx hb hr (fun t ht _ => ⟨congrArg (fun z : Int32 => Outcome.returned (some (Value.int z))) hres, ht⟩) (fun _ h => by cases h) dX0_headWord_34
      · have n_6 : ¬ 4 ≤ i := fun h => c_6 ((nI_leI (by omega) (by omega)).mpr h)
        exfalso; omega
    | succ k ih =>
      intro i hk ls hl
      refine lv_iload_n hx hb dX0_headWord_4 rfl (lv_at hl 3 rfl) ?_
      refine lv_iconst (v := nI 4) hx hb dX0_headWord_5 (by decide) ?_
      refine lv_icmp_ge (tgt := 33) hx hb dX0_headWord_6 (by decide) (fun c_6 => ?_) (fun c_6 => ?_)
      · have n_6 : 4 ≤ i := (nI_leI (by omega) (by omega)).mp c_6
        exfalso; omega
      · have n_6 : ¬ 4 ≤ i := fun h => c_6 ((nI_leI (by omega) (by omega)).mpr h)
        refine lv_iload_n hx hb dX0_headWord_9 rfl (lv_at hl 2 rfl) ?_
        refine lv_aload_n hx hb dX0_headWord_10 rfl (lv_at hl 0 rfl) ?_
        refine va_get (D := (dC, dI)) (ci := 0) (v := .ref (ad 1)) (C := RX0) (T := TX0) (N := 11) hx hb hts hin hown hK hP 0 rfl rfl 0 (by decide) (hts (.fieldLink RX0 9 "BlockJournal" "store" "[I") (by decide +kernel)) (fun _ h9 => h9) rfl dX0_headWord_11 ?_
        refine lv_iconst (v := nI 0) hx hb dX0_headWord_14 (by decide) ?_
        refine lv_iload_n hx hb dX0_headWord_15 rfl (lv_at hl 1 rfl) ?_
        refine lv_iadd hx hb dX0_headWord_16 ?_
        refine bj_i (nI_add 0 p0) ?_
        refine lv_iload_n hx hb dX0_headWord_17 rfl (lv_at hl 3 rfl) ?_
        refine lv_iadd hx hb dX0_headWord_18 ?_
        refine bj_i (nI_add (0 + p0) i) ?_
        refine va_iald (D := (dC, dI)) hx hb hK hP 1 0 (cA := cA) (n := 6144) (f := st) rfl rfl (i := (nI ((0 + p0) + i))) (vp_in_nI (by omega) (by omega)) dX0_headWord_19 ?_
        refine bj_i (y := st ((0 + p0) + i)) (congrArg st (nI_clamp (by omega))) ?_
        refine lv_bipush (v := nI 8) hx hb dX0_headWord_20 (by decide) ?_
        refine lv_iload_n hx hb dX0_headWord_22 rfl (lv_at hl 3 rfl) ?_
        refine lv_imul hx hb dX0_headWord_23 ?_
        refine bj_i (pk_mul 8 i) ?_
        refine lv_ishl hx hb dX0_headWord_24 ?_
        refine lv_ior hx hb dX0_headWord_25 ?_
        refine bj_i (y := hwF st p0 (i + 1)) (by rw [Nat.zero_add]; rfl) ?_
        refine lv_istore_n (lv' := [(2, .int (hwF st p0 (i + 1))), (0, .ref (ad 0)), (1, .int (nI p0)), (3, .int (nI i))]) hx hb dX0_headWord_26 rfl hl (by decide) rfl (fun ls hl => ?_)
        refine lv_iinc (v := nI (i + 1)) (lv' := [(3, .int (nI (i + 1))), (2, .int (hwF st p0 (i + 1))), (0, .ref (ad 0)), (1, .int (nI p0))]) hx hb dX0_headWord_27 hl (k := 3) rfl (nI_add i 1) (by decide) rfl (fun ls hl => ?_)
        refine lv_goto (tgt := 4) hx hb dX0_headWord_30 (by decide) ?_
        exact ih (i + 1) (by omega) _ (lv_sub hl [2, 3, 1, 0] rfl)
  exact loop_4 4 0 (by omega) _ (lv_sub hl [2, 3, 1, 0] rfl)

set_option maxHeartbeats 4000000 in
set_option maxRecDepth 100000 in
theorem c_X0_headCount (l : Launch) (dC : Nat → ClassId) (dI : Nat → Nat → Nat) (cA : ClassId) (ad : Nat → Nat) (st ck nh tp : Nat → Int32) (tl : Int32) (cb cy : Nat → Int32) (nc of wl : Int32) (wd : Int64)  : Met l yX0_headCount wsX0_headCount ({ frames := 0, cells := 0, slots := 0, locals := 0 } : Room) (va_Pc [.ref (ad 0)] (fun U => va_P (dC, dI) vwCl (wX cA ad st ck nh tp tl cb cy nc of wl wd) U.heap ∧ va_K (dC, dI) vwCl [(cA, .int)] U)) (bj_Q (some (.int (st 4)))) 0 0 (fun _ => False) := by
  refine Met.ofW (cc := cX0_headCount) (maxL := 1) (ret := (some .int)) (by decide) rfl ?_
  intro p e s m args below meth c s₁ B hml hv
  obtain ⟨rfl, hP, hK⟩ := hv
  have hx := B.exec
  have hb := B.bytes
  have hr := B.returns
  have hts := atoms_spec (ws := wsX0_headCount) B.pre
  have hown : s.vm.findClass RX0 = some m.cls := findClass_of_methodNamed B.named
  have hlocks := B.notSynchronized
  have hin : ∀ w ∈ u_ws RX0 TX0 11, w ∈ wsX0_headCount := by decide +kernel
  have hl := lv_entry ([.ref (ad 0)]) (n := 1) (Nat.le_of_ble_eq_true rfl)
  rw [lg_entry_eq]
  generalize (lg_sl ([.ref (ad 0)]) ++ List.replicate (1 - (lg_sl ([.ref (ad 0)])).length) Slot.unset).toArray = ls at hl ⊢
  have hl : lv_has ls 1 [(0, .ref (ad 0))] := hl
  refine lv_aload_n hx hb dX0_headCount_0 rfl (lv_at hl 0 rfl) ?_
  refine va_get (D := (dC, dI)) (ci := 0) (v := .ref (ad 1)) (C := RX0) (T := TX0) (N := 11) hx hb hts hin hown hK hP 0 rfl rfl 0 (by decide) (hts (.fieldLink RX0 9 "BlockJournal" "store" "[I") (by decide +kernel)) (fun _ h9 => h9) rfl dX0_headCount_1 ?_
  refine lv_iconst (v := nI 4) hx hb dX0_headCount_4 (by decide) ?_
  refine va_iald (D := (dC, dI)) hx hb hK hP 1 0 (cA := cA) (n := 6144) (f := st) rfl rfl (i := (nI 4)) (vp_in_nI (by omega) (by omega)) dX0_headCount_5 ?_
  refine bj_i (y := st 4) (congrArg st (nI_clamp (by omega))) ?_
  have hres : st 4 = st 4 := rfl
  exact W.iret (v := st 4) hx hb hr (fun t ht _ => ⟨congrArg (fun z : Int32 => Outcome.returned (some (Value.int z))) hres, ht⟩) (fun _ h => by cases h) dX0_headCount_6

set_option maxHeartbeats 4000000 in
set_option maxRecDepth 100000 in
theorem c_X0_headTarget (l : Launch) (dC : Nat → ClassId) (dI : Nat → Nat → Nat) (cA : ClassId) (ad : Nat → Nat) (st ck nh tp : Nat → Int32) (tl : Int32) (cb cy : Nat → Int32) (nc of wl : Int32) (wd : Int64) (i : Nat) (hi : i < 24) : Met l yX0_headTarget wsX0_headTarget ({ frames := 0, cells := 0, slots := 0, locals := 0 } : Room) (va_Pc [.ref (ad 0), .int (nI i)] (fun U => va_P (dC, dI) vwCl (wX cA ad st ck nh tp tl cb cy nc of wl wd) U.heap ∧ va_K (dC, dI) vwCl [(cA, .int)] U)) (bj_Q (some (.int (htF st i)))) 0 0 (fun _ => False) := by
  refine Met.ofW (cc := cX0_headTarget) (maxL := 3) (ret := (some .int)) (by decide) rfl ?_
  intro p e s m args below meth c s₁ B hml hv
  obtain ⟨rfl, hP, hK⟩ := hv
  have hx := B.exec
  have hb := B.bytes
  have hr := B.returns
  have hts := atoms_spec (ws := wsX0_headTarget) B.pre
  have hown : s.vm.findClass RX0 = some m.cls := findClass_of_methodNamed B.named
  have hlocks := B.notSynchronized
  have hin : ∀ w ∈ u_ws RX0 TX0 11, w ∈ wsX0_headTarget := by decide +kernel
  have hl := lv_entry ([.ref (ad 0), .int (nI i)]) (n := 3) (Nat.le_of_ble_eq_true rfl)
  rw [lg_entry_eq]
  generalize (lg_sl ([.ref (ad 0), .int (nI i)]) ++ List.replicate (3 - (lg_sl ([.ref (ad 0), .int (nI i)])).length) Slot.unset).toArray = ls at hl ⊢
  have hl : lv_has ls 3 [(0, .ref (ad 0)), (1, .int (nI i))] := hl
  refine lv_iconst (v := nI 5) hx hb dX0_headTarget_0 (by decide) ?_
  refine lv_iconst (v := nI 2) hx hb dX0_headTarget_1 (by decide) ?_
  refine lv_iload_n hx hb dX0_headTarget_2 rfl (lv_at hl 1 rfl) ?_
  refine lv_imul hx hb dX0_headTarget_3 ?_
  refine bj_i (pk_mul 2 i) ?_
  refine lv_iadd hx hb dX0_headTarget_4 ?_
  refine bj_i (nI_add 5 (2 * i)) ?_
  refine lv_istore_n (lv' := [(2, .int (nI (5 + (2 * i)))), (0, .ref (ad 0)), (1, .int (nI i))]) hx hb dX0_headTarget_5 rfl hl (by decide) rfl (fun ls hl => ?_)
  refine lv_aload_n hx hb dX0_headTarget_6 rfl (lv_at hl 1 rfl) ?_
  refine va_get (D := (dC, dI)) (ci := 0) (v := .ref (ad 1)) (C := RX0) (T := TX0) (N := 11) hx hb hts hin hown hK hP 0 rfl rfl 0 (by decide) (hts (.fieldLink RX0 9 "BlockJournal" "store" "[I") (by decide +kernel)) (fun _ h9 => h9) rfl dX0_headTarget_7 ?_
  refine lv_iload_n hx hb dX0_headTarget_10 rfl (lv_at hl 0 rfl) ?_
  refine va_iald (D := (dC, dI)) hx hb hK hP 1 0 (cA := cA) (n := 6144) (f := st) rfl rfl (i := (nI (5 + (2 * i)))) (vp_in_nI (by omega) (by omega)) dX0_headTarget_11 ?_
  refine bj_i (y := st (5 + (2 * i))) (congrArg st (nI_clamp (by omega))) ?_
  refine lv_aload_n hx hb dX0_headTarget_12 rfl (lv_at hl 1 rfl) ?_
  refine va_get (D := (dC, dI)) (ci := 0) (v := .ref (ad 1)) (C := RX0) (T := TX0) (N := 11) hx hb hts hin hown hK hP 0 rfl rfl 0 (by decide) (hts (.fieldLink RX0 9 "BlockJournal" "store" "[I") (by decide +kernel)) (fun _ h9 => h9) rfl dX0_headTarget_13 ?_
  refine lv_iload_n hx hb dX0_headTarget_16 rfl (lv_at hl 0 rfl) ?_
  refine lv_iconst (v := nI 1) hx hb dX0_headTarget_17 (by decide) ?_
  refine lv_iadd hx hb dX0_headTarget_18 ?_
  refine bj_i (nI_add (5 + (2 * i)) 1) ?_
  refine va_iald (D := (dC, dI)) hx hb hK hP 1 0 (cA := cA) (n := 6144) (f := st) rfl rfl (i := (nI ((5 + (2 * i)) + 1))) (vp_in_nI (by omega) (by omega)) dX0_headTarget_19 ?_
  refine bj_i (y := st ((5 + (2 * i)) + 1)) (congrArg st (nI_clamp (by omega))) ?_
  refine lv_bipush (v := nI 8) hx hb dX0_headTarget_20 (by decide) ?_
  refine lv_ishl hx hb dX0_headTarget_22 ?_
  refine lv_ior hx hb dX0_headTarget_23 ?_
  have hres : (st (5 + (2 * i))) ||| ((st ((5 + (2 * i)) + 1)) <<< ((nI 8) &&& 31)) = htF st i := rfl
  exact W.iret (v := (st (5 + (2 * i))) ||| ((st ((5 + (2 * i)) + 1)) <<< ((nI 8) &&& 31))) hx hb hr (fun t ht _ => ⟨congrArg (fun z : Int32 => Outcome.returned (some (Value.int z))) hres, ht⟩) (fun _ h => by cases h) dX0_headTarget_24

def icF (f : Nat → Int32) (n p : Nat) (b : Int32) : Bool := if n ≤ p then false else if ¬ f p = b then false else true

set_option maxHeartbeats 4000000 in
set_option maxRecDepth 100000 in
theorem c_X0_isChangeOf (l : Launch) (dC : Nat → ClassId) (dI : Nat → Nat → Nat) (cA : ClassId) (ad : Nat → Nat) (st ck nh tp : Nat → Int32) (tl : Int32) (cb cy : Nat → Int32) (of wl : Int32) (wd : Int64) (n : Nat) (q : Nat) (b : Int32) (hn : n ≤ 24) (hq : q ≤ 24) : Met l yX0_isChangeOf wsX0_isChangeOf ({ frames := 0, cells := 0, slots := 0, locals := 0 } : Room) (va_Pc [.ref (ad 0), .int (nI q), .int b] (fun U => va_P (dC, dI) vwCl (wX cA ad st ck nh tp tl cb cy (nI n) of wl wd) U.heap ∧ va_K (dC, dI) vwCl [(cA, .int)] U)) (bj_Q (some (.int (bI (icF cb n q b))))) 0 0 (fun _ => False) := by
  refine Met.ofW (cc := cX0_isChangeOf) (maxL := 3) (ret := (some .boolean)) (by decide) rfl ?_
  intro p e s m args below meth c s₁ B hml hv
  obtain ⟨rfl, hP, hK⟩ := hv
  have hx := B.exec
  have hb := B.bytes
  have hr := B.returns
  have hts := atoms_spec (ws := wsX0_isChangeOf) B.pre
  have hown : s.vm.findClass RX0 = some m.cls := findClass_of_methodNamed B.named
  have hlocks := B.notSynchronized
  have hin : ∀ w ∈ u_ws RX0 TX0 11, w ∈ wsX0_isChangeOf := by decide +kernel
  have hl := lv_entry ([.ref (ad 0), .int (nI q), .int b]) (n := 3) (Nat.le_of_ble_eq_true rfl)
  rw [lg_entry_eq]
  generalize (lg_sl ([.ref (ad 0), .int (nI q), .int b]) ++ List.replicate (3 - (lg_sl ([.ref (ad 0), .int (nI q), .int b])).length) Slot.unset).toArray = ls at hl ⊢
  have hl : lv_has ls 3 [(0, .ref (ad 0)), (1, .int (nI q)), (2, .int b)] := hl
  refine lv_iload_n hx hb dX0_isChangeOf_0 rfl (lv_at hl 1 rfl) ?_
  refine lv_aload_n hx hb dX0_isChangeOf_1 rfl (lv_at hl 0 rfl) ?_
  refine va_get (D := (dC, dI)) (ci := 0) (v := .int (nI n)) (C := RX0) (T := TX0) (N := 11) hx hb hts hin hown hK hP 0 rfl rfl 7 (by decide) (hts (.fieldLink RX0 64 "BlockJournal" "changes" "I") (by decide +kernel)) (fun _ h9 => h9) rfl dX0_isChangeOf_2 ?_
  refine lv_icmp_ge (tgt := 22) hx hb dX0_isChangeOf_5 (by decide) (fun c_5 => ?_) (fun c_5 => ?_)
  · have n_5 : n ≤ q := (nI_leI (by omega) (by omega)).mp c_5
    refine lv_iconst (v := nI 0) hx hb dX0_isChangeOf_22 (by decide) ?_
    have hres : nI 0 = bI (icF cb n q b) := by rw [icF, if_pos n_5]; rfl
    exact W.zret (v := nI 0) (ty := .boolean) hx hb hr rfl (fun t ht _ => ⟨congrArg (fun z : Int32 => Outcome.returned (some (Value.int z))) hres, ht⟩) (fun _ h => by cases h) dX0_isChangeOf_23
  · have n_5 : ¬ n ≤ q := fun h => c_5 ((nI_leI (by omega) (by omega)).mpr h)
    refine lv_aload_n hx hb dX0_isChangeOf_8 rfl (lv_at hl 0 rfl) ?_
    refine va_get (D := (dC, dI)) (ci := 0) (v := .ref (ad 5)) (C := RX0) (T := TX0) (N := 11) hx hb hts hin hown hK hP 0 rfl rfl 5 (by decide) (hts (.fieldLink RX0 22 "BlockJournal" "changeBlocks" "[I") (by decide +kernel)) (fun _ h9 => h9) rfl dX0_isChangeOf_9 ?_
    refine lv_iload_n hx hb dX0_isChangeOf_12 rfl (lv_at hl 1 rfl) ?_
    refine va_iald (D := (dC, dI)) hx hb hK hP 5 0 (cA := cA) (n := 24) (f := cb) rfl rfl (i := (nI q)) (vp_in_nI (by omega) (by omega)) dX0_isChangeOf_13 ?_
    refine bj_i (y := cb q) (congrArg cb (nI_clamp (by omega))) ?_
    refine lv_iload_n hx hb dX0_isChangeOf_14 rfl (lv_at hl 2 rfl) ?_
    refine lv_icmp_ne (tgt := 22) hx hb dX0_isChangeOf_15 (by decide) (fun c_15 => ?_) (fun c_15 => ?_)
    · refine lv_iconst (v := nI 0) hx hb dX0_isChangeOf_22 (by decide) ?_
      have hres : nI 0 = bI (icF cb n q b) := by rw [icF, if_neg n_5, if_pos c_15]; rfl
      exact W.zret (v := nI 0) (ty := .boolean) hx hb hr rfl (fun t ht _ => ⟨congrArg (fun z : Int32 => Outcome.returned (some (Value.int z))) hres, ht⟩) (fun _ h => by cases h) dX0_isChangeOf_23
    · refine lv_iconst (v := nI 1) hx hb dX0_isChangeOf_18 (by decide) ?_
      refine lv_goto (tgt := 23) hx hb dX0_isChangeOf_19 (by decide) ?_
      have hres : nI 1 = bI (icF cb n q b) := by rw [icF, if_neg n_5, if_neg (not_not_intro c_15)]; rfl
      exact W.zret (v := nI 1) (ty := .boolean) hx hb hr rfl (fun t ht _ => ⟨congrArg (fun z : Int32 => Outcome.returned (some (Value.int z))) hres, ht⟩) (fun _ h => by cases h) dX0_isChangeOf_23

set_option maxHeartbeats 4000000 in
set_option maxRecDepth 100000 in
theorem c_X0_placeOf (l : Launch) (dC : Nat → ClassId) (dI : Nat → Nat → Nat) (cA : ClassId) (ad : Nat → Nat) (st ck nh tp : Nat → Int32) (tl : Int32) (cb cy : Nat → Int32) (of wl : Int32) (wd : Int64) (n : Nat) (b : Int32) (hn : n ≤ 24) : Met l yX0_placeOf wsX0_placeOf ({ frames := 0, cells := 0, slots := 0, locals := 0 } : Room) (va_Pc [.ref (ad 0), .int b] (fun U => va_P (dC, dI) vwCl (wX cA ad st ck nh tp tl cb cy (nI n) of wl wd) U.heap ∧ va_K (dC, dI) vwCl [(cA, .int)] U)) (bj_Q (some (.int (nI (plF cb b n 0))))) 0 0 (fun _ => False) := by
  refine Met.ofW (cc := cX0_placeOf) (maxL := 3) (ret := (some .int)) (by decide) rfl ?_
  intro p e s m args below meth c s₁ B hml hv
  obtain ⟨rfl, hP, hK⟩ := hv
  have hx := B.exec
  have hb := B.bytes
  have hr := B.returns
  have hts := atoms_spec (ws := wsX0_placeOf) B.pre
  have hown : s.vm.findClass RX0 = some m.cls := findClass_of_methodNamed B.named
  have hlocks := B.notSynchronized
  have hin : ∀ w ∈ u_ws RX0 TX0 11, w ∈ wsX0_placeOf := by decide +kernel
  have hl := lv_entry ([.ref (ad 0), .int b]) (n := 3) (Nat.le_of_ble_eq_true rfl)
  rw [lg_entry_eq]
  generalize (lg_sl ([.ref (ad 0), .int b]) ++ List.replicate (3 - (lg_sl ([.ref (ad 0), .int b])).length) Slot.unset).toArray = ls at hl ⊢
  have hl : lv_has ls 3 [(0, .ref (ad 0)), (1, .int b)] := hl
  refine lv_iconst (v := nI 0) hx hb dX0_placeOf_0 (by decide) ?_
  refine lv_istore_n (lv' := [(2, .int (nI 0)), (0, .ref (ad 0)), (1, .int b)]) hx hb dX0_placeOf_1 rfl hl (by decide) rfl (fun ls hl => ?_)
  have loop_2 : ∀ (k : Nat) (i : Nat), i + k = n → plF cb b n 0 = plF cb b k i → ∀ ls : Array Slot, lv_has ls 3 [(0, .ref (ad 0)), (1, .int b), (2, .int (nI i))] → W p l e (headSpec wsX0_placeOf ({ frames := 0, cells := 0, slots := 0, locals := 0 } : Room)).room s m ([.ref (ad 0), .int b] : List Value).toArray below meth c s.heap [] 0 0 (MQ below (bj_Q (some (.int (nI (plF cb b n 0))))) ([.ref (ad 0), .int b] : List Value).toArray s 0 0 (fun _ => False)) (F0 m 2 ls []) := by
    intro k
    induction k with
    | zero =>
      intro i hk hR ls hl
      refine lv_iload_n hx hb dX0_placeOf_2 rfl (lv_at hl 2 rfl) ?_
      refine lv_aload_n hx hb dX0_placeOf_3 rfl (lv_at hl 0 rfl) ?_
      refine va_get (D := (dC, dI)) (ci := 0) (v := .int (nI n)) (C := RX0) (T := TX0) (N := 11) hx hb hts hin hown hK hP 0 rfl rfl 7 (by decide) (hts (.fieldLink RX0 64 "BlockJournal" "changes" "I") (by decide +kernel)) (fun _ h9 => h9) rfl dX0_placeOf_4 ?_
      refine lv_icmp_ge (tgt := 26) hx hb dX0_placeOf_7 (by decide) (fun c_7 => ?_) (fun c_7 => ?_)
      · have n_7 : n ≤ i := (nI_leI (by omega) (by omega)).mp c_7
        refine lv_iload_n hx hb dX0_placeOf_26 rfl (lv_at hl 2 rfl) ?_
        have hres : nI i = nI (plF cb b n 0) := by rw [hR, plF]
        exact W.iret (v := nI i) hx hb hr (fun t ht _ => ⟨congrArg (fun z : Int32 => Outcome.returned (some (Value.int z))) hres, ht⟩) (fun _ h => by cases h) dX0_placeOf_27
      · have n_7 : ¬ n ≤ i := fun h => c_7 ((nI_leI (by omega) (by omega)).mpr h)
        exfalso; omega
    | succ k ih =>
      intro i hk hR ls hl
      refine lv_iload_n hx hb dX0_placeOf_2 rfl (lv_at hl 2 rfl) ?_
      refine lv_aload_n hx hb dX0_placeOf_3 rfl (lv_at hl 0 rfl) ?_
      refine va_get (D := (dC, dI)) (ci := 0) (v := .int (nI n)) (C := RX0) (T := TX0) (N := 11) hx hb hts hin hown hK hP 0 rfl rfl 7 (by decide) (hts (.fieldLink RX0 64 "BlockJournal" "changes" "I") (by decide +kernel)) (fun _ h9 => h9) rfl dX0_placeOf_4 ?_
      refine lv_icmp_ge (tgt := 26) hx hb dX0_placeOf_7 (by decide) (fun c_7 => ?_) (fun c_7 => ?_)
      · have n_7 : n ≤ i := (nI_leI (by omega) (by omega)).mp c_7
        exfalso; omega
      · have n_7 : ¬ n ≤ i := fun h => c_7 ((nI_leI (by omega) (by omega)).mpr h)
        refine lv_aload_n hx hb dX0_placeOf_10 rfl (lv_at hl 0 rfl) ?_
        refine va_get (D := (dC, dI)) (ci := 0) (v := .ref (ad 5)) (C := RX0) (T := TX0) (N := 11) hx hb hts hin hown hK hP 0 rfl rfl 5 (by decide) (hts (.fieldLink RX0 22 "BlockJournal" "changeBlocks" "[I") (by decide +kernel)) (fun _ h9 => h9) rfl dX0_placeOf_11 ?_
        refine lv_iload_n hx hb dX0_placeOf_14 rfl (lv_at hl 2 rfl) ?_
        refine va_iald (D := (dC, dI)) hx hb hK hP 5 0 (cA := cA) (n := 24) (f := cb) rfl rfl (i := (nI i)) (vp_in_nI (by omega) (by omega)) dX0_placeOf_15 ?_
        refine bj_i (y := cb i) (congrArg cb (nI_clamp (by omega))) ?_
        refine lv_iload_n hx hb dX0_placeOf_16 rfl (lv_at hl 1 rfl) ?_
        refine lv_icmp_ge (tgt := 26) hx hb dX0_placeOf_17 (by decide) (fun c_17 => ?_) (fun c_17 => ?_)
        · refine lv_iload_n hx hb dX0_placeOf_26 rfl (lv_at hl 2 rfl) ?_
          have hres : nI i = nI (plF cb b n 0) := by rw [hR, plF, if_pos c_17]
          exact W.iret (v := nI i) hx hb hr (fun t ht _ => ⟨congrArg (fun z : Int32 => Outcome.returned (some (Value.int z))) hres, ht⟩) (fun _ h => by cases h) dX0_placeOf_27
        · refine lv_iinc (v := nI (i + 1)) (lv' := [(2, .int (nI (i + 1))), (0, .ref (ad 0)), (1, .int b)]) hx hb dX0_placeOf_20 hl (k := 2) rfl (nI_add i 1) (by decide) rfl (fun ls hl => ?_)
          refine lv_goto (tgt := 2) hx hb dX0_placeOf_23 (by decide) ?_
          exact ih (i + 1) (by omega) (by rw [hR, plF, if_neg c_17]) _ (lv_sub hl [1, 2, 0] rfl)
  exact loop_2 n 0 (by omega) rfl _ (lv_sub hl [1, 2, 0] rfl)

set_option maxHeartbeats 4000000 in
set_option maxRecDepth 100000 in
theorem c_X0_payloadCheck (l : Launch) (dC : Nat → ClassId) (dI : Nat → Nat → Nat) (cA : ClassId) (ad : Nat → Nat) (st ck nh tp : Nat → Int32) (tl : Int32) (cb cy : Nat → Int32) (nc of wl : Int32) (wd : Int64) (n : Nat) (hn : n ≤ 24) : Met l yX0_payloadCheck wsX0_payloadCheck ({ frames := 0, cells := 0, slots := 0, locals := 0 } : Room) (va_Pc [.ref (ad 0), .int (nI n)] (fun U => va_P (dC, dI) vwCl (wX cA ad st ck nh tp tl cb cy nc of wl wd) U.heap ∧ va_K (dC, dI) vwCl [(cA, .int)] U)) (bj_Q (some (.int (pcF st ck (n * 64) 64 (-1) ^^^ (-1))))) 0 0 (fun _ => False) := by
  refine Met.ofW (cc := cX0_payloadCheck) (maxL := 5) (ret := (some .int)) (by decide) rfl ?_
  intro p e s m args below meth c s₁ B hml hv
  obtain ⟨rfl, hP, hK⟩ := hv
  have hx := B.exec
  have hb := B.bytes
  have hr := B.returns
  have hts := atoms_spec (ws := wsX0_payloadCheck) B.pre
  have hown : s.vm.findClass RX0 = some m.cls := findClass_of_methodNamed B.named
  have hlocks := B.notSynchronized
  have hin : ∀ w ∈ u_ws RX0 TX0 11, w ∈ wsX0_payloadCheck := by decide +kernel
  have hl := lv_entry ([.ref (ad 0), .int (nI n)]) (n := 5) (Nat.le_of_ble_eq_true rfl)
  rw [lg_entry_eq]
  generalize (lg_sl ([.ref (ad 0), .int (nI n)]) ++ List.replicate (5 - (lg_sl ([.ref (ad 0), .int (nI n)])).length) Slot.unset).toArray = ls at hl ⊢
  have hl : lv_has ls 5 [(0, .ref (ad 0)), (1, .int (nI n))] := hl
  refine lv_iconst (v := (-1)) hx hb dX0_payloadCheck_0 (by decide) ?_
  refine lv_istore_n (lv' := [(2, .int (-1)), (0, .ref (ad 0)), (1, .int (nI n))]) hx hb dX0_payloadCheck_1 rfl hl (by decide) rfl (fun ls hl => ?_)
  refine lv_iconst (v := nI 1) hx hb dX0_payloadCheck_2 (by decide) ?_
  refine lv_iload_n hx hb dX0_payloadCheck_3 rfl (lv_at hl 2 rfl) ?_
  refine lv_iadd hx hb dX0_payloadCheck_4 ?_
  refine bj_i (nI_add 1 n) ?_
  refine lv_bipush (v := nI 64) hx hb dX0_payloadCheck_5 (by decide) ?_
  refine lv_imul hx hb dX0_payloadCheck_7 ?_
  refine bj_i (pk_mul (1 + n) 64) ?_
  refine lv_istore_n (lv' := [(3, .int (nI ((1 + n) * 64))), (2, .int (-1)), (0, .ref (ad 0)), (1, .int (nI n))]) hx hb dX0_payloadCheck_8 rfl hl (by decide) rfl (fun ls hl => ?_)
  refine lv_bipush (v := nI 64) hx hb dX0_payloadCheck_9 (by decide) ?_
  refine lv_istore (lv' := [(4, .int (nI 64)), (3, .int (nI ((1 + n) * 64))), (2, .int (-1)), (0, .ref (ad 0)), (1, .int (nI n))]) hx hb dX0_payloadCheck_11 hl (by decide) rfl (fun ls hl => ?_)
  have loop_13 : ∀ (k : Nat) (i : Nat) (w : Int32), i + k = (1 + n) * 64 → pcF st ck (n * 64) 64 (-1) = pcF st ck k i w → ∀ ls : Array Slot, lv_has ls 5 [(0, .ref (ad 0)), (1, .int (nI n)), (2, .int w), (3, .int (nI ((1 + n) * 64))), (4, .int (nI i))] → W p l e (headSpec wsX0_payloadCheck ({ frames := 0, cells := 0, slots := 0, locals := 0 } : Room)).room s m ([.ref (ad 0), .int (nI n)] : List Value).toArray below meth c s.heap [] 0 0 (MQ below (bj_Q (some (.int (pcF st ck (n * 64) 64 (-1) ^^^ (-1))))) ([.ref (ad 0), .int (nI n)] : List Value).toArray s 0 0 (fun _ => False)) (F0 m 13 ls []) := by
    intro k
    induction k with
    | zero =>
      intro i w hk hR ls hl
      refine lv_iload hx hb dX0_payloadCheck_13 (lv_at hl 4 rfl) ?_
      refine lv_iload_n hx hb dX0_payloadCheck_15 rfl (lv_at hl 3 rfl) ?_
      refine lv_icmp_ge (tgt := 49) hx hb dX0_payloadCheck_16 (by decide) (fun c_16 => ?_) (fun c_16 => ?_)
      · have n_16 : (1 + n) * 64 ≤ i := (nI_leI (by omega) (by omega)).mp c_16
        refine lv_iload_n hx hb dX0_payloadCheck_49 rfl (lv_at hl 2 rfl) ?_
        refine lv_iconst (v := (-1)) hx hb dX0_payloadCheck_50 (by decide) ?_
        refine lv_ixor hx hb dX0_payloadCheck_51 ?_
        have hres : w ^^^ (-1) = pcF st ck (n * 64) 64 (-1) ^^^ (-1) := by rw [hR]; rfl
        exact W.iret (v := w ^^^ (-1)) hx hb hr (fun t ht _ => ⟨congrArg (fun z : Int32 => Outcome.returned (some (Value.int z))) hres, ht⟩) (fun _ h => by cases h) dX0_payloadCheck_52
      · have n_16 : ¬ ((1 + n) * 64) ≤ i := fun h => c_16 ((nI_leI (by omega) (by omega)).mpr h)
        exfalso; omega
    | succ k ih =>
      intro i w hk hR ls hl
      refine lv_iload hx hb dX0_payloadCheck_13 (lv_at hl 4 rfl) ?_
      refine lv_iload_n hx hb dX0_payloadCheck_15 rfl (lv_at hl 3 rfl) ?_
      refine lv_icmp_ge (tgt := 49) hx hb dX0_payloadCheck_16 (by decide) (fun c_16 => ?_) (fun c_16 => ?_)
      · have n_16 : (1 + n) * 64 ≤ i := (nI_leI (by omega) (by omega)).mp c_16
        exfalso; omega
      · have n_16 : ¬ ((1 + n) * 64) ≤ i := fun h => c_16 ((nI_leI (by omega) (by omega)).mpr h)
        refine lv_iload_n hx hb dX0_payloadCheck_19 rfl (lv_at hl 2 rfl) ?_
        refine lv_bipush (v := nI 8) hx hb dX0_payloadCheck_20 (by decide) ?_
        refine lv_iushr hx hb dX0_payloadCheck_22 rfl ?_
        refine lv_aload_n hx hb dX0_payloadCheck_23 rfl (lv_at hl 0 rfl) ?_
        refine va_get (D := (dC, dI)) (ci := 0) (v := .ref (ad 2)) (C := RX0) (T := TX0) (N := 11) hx hb hts hin hown hK hP 0 rfl rfl 1 (by decide) (hts (.fieldLink RX0 13 "BlockJournal" "checkSteps" "[I") (by decide +kernel)) (fun _ h9 => h9) rfl dX0_payloadCheck_24 ?_
        refine lv_iload_n hx hb dX0_payloadCheck_27 rfl (lv_at hl 2 rfl) ?_
        refine lv_aload_n hx hb dX0_payloadCheck_28 rfl (lv_at hl 0 rfl) ?_
        refine va_get (D := (dC, dI)) (ci := 0) (v := .ref (ad 1)) (C := RX0) (T := TX0) (N := 11) hx hb hts hin hown hK hP 0 rfl rfl 0 (by decide) (hts (.fieldLink RX0 9 "BlockJournal" "store" "[I") (by decide +kernel)) (fun _ h9 => h9) rfl dX0_payloadCheck_29 ?_
        refine lv_iload hx hb dX0_payloadCheck_32 (lv_at hl 4 rfl) ?_
        refine va_iald (D := (dC, dI)) hx hb hK hP 1 0 (cA := cA) (n := 6144) (f := st) rfl rfl (i := (nI i)) (vp_in_nI (by omega) (by omega)) dX0_payloadCheck_34 ?_
        refine bj_i (y := st i) (congrArg st (nI_clamp (by omega))) ?_
        refine lv_ixor hx hb dX0_payloadCheck_35 ?_
        refine lv_sipush (v := nI 255) hx hb dX0_payloadCheck_36 (by decide) ?_
        refine lv_iand hx hb dX0_payloadCheck_39 ?_
        refine va_iald (D := (dC, dI)) hx hb hK hP 2 0 (cA := cA) (n := 256) (f := ck) rfl rfl (i := ((w ^^^ (st i)) &&& (nI 255))) (pk_andIn (w ^^^ st i) 8 (by decide) (by decide)) dX0_payloadCheck_40 ?_
        refine lv_ixor hx hb dX0_payloadCheck_41 ?_
        refine lv_istore_n (lv' := [(2, .int (((w.toUInt32 >>> ((nI 8).toUInt32 &&& Int32.toUInt32 31)).toInt32) ^^^ (ck ((w ^^^ (st i)) &&& (nI 255)).toNatClampNeg))), (0, .ref (ad 0)), (1, .int (nI n)), (3, .int (nI ((1 + n) * 64))), (4, .int (nI i))]) hx hb dX0_payloadCheck_42 rfl hl (by decide) rfl (fun ls hl => ?_)
        refine lv_iinc (v := nI (i + 1)) (lv' := [(4, .int (nI (i + 1))), (2, .int (((w.toUInt32 >>> ((nI 8).toUInt32 &&& Int32.toUInt32 31)).toInt32) ^^^ (ck ((w ^^^ (st i)) &&& (nI 255)).toNatClampNeg))), (0, .ref (ad 0)), (1, .int (nI n)), (3, .int (nI ((1 + n) * 64)))]) hx hb dX0_payloadCheck_43 hl (k := 4) rfl (nI_add i 1) (by decide) rfl (fun ls hl => ?_)
        refine lv_goto (tgt := 13) hx hb dX0_payloadCheck_46 (by decide) ?_
        exact ih (i + 1) _ (by omega) (hR.trans rfl) _ (lv_sub hl [2, 3, 1, 4, 0] rfl)
  exact loop_13 (n * 64) 64 (-1) (by omega) rfl _ (lv_sub hl [3, 4, 2, 1, 0] rfl)

set_option maxHeartbeats 4000000 in
set_option maxRecDepth 100000 in
theorem c_X0_targetsAreRight (l : Launch) (dC : Nat → ClassId) (dI : Nat → Nat → Nat) (cA : ClassId) (ad : Nat → Nat) (st ck nh tp : Nat → Int32) (tl : Int32) (cb cy : Nat → Int32) (nc of wl : Int32) (wd : Int64) (n : Nat) (hn : n ≤ 24) : Met l yX0_targetsAreRight wsX0_targetsAreRight ({ frames := 1, cells := 0, slots := 0, locals := 22 } : Room) (va_Pc [.ref (ad 0), .int (nI n)] (fun U => va_P (dC, dI) vwCl (wX cA ad st ck nh tp tl cb cy nc of wl wd) U.heap ∧ va_K (dC, dI) vwCl [(cA, .int)] U)) (bj_Q (some (.int (bI (trF st n 0 (nI 0)))))) 0 0 (fun _ => False) := by
  refine Met.ofW (cc := cX0_targetsAreRight) (maxL := 5) (ret := (some .boolean)) (by decide) rfl ?_
  intro p e s m args below meth c s₁ B hml hv
  obtain ⟨rfl, hP, hK⟩ := hv
  have hx := B.exec
  have hb := B.bytes
  have hr := B.returns
  have hts := atoms_spec (ws := wsX0_targetsAreRight) B.pre
  have hown : s.vm.findClass RX0 = some m.cls := findClass_of_methodNamed B.named
  have hlocks := B.notSynchronized
  have hin : ∀ w ∈ u_ws RX0 TX0 11, w ∈ wsX0_targetsAreRight := by decide +kernel
  have hl := lv_entry ([.ref (ad 0), .int (nI n)]) (n := 5) (Nat.le_of_ble_eq_true rfl)
  rw [lg_entry_eq]
  generalize (lg_sl ([.ref (ad 0), .int (nI n)]) ++ List.replicate (5 - (lg_sl ([.ref (ad 0), .int (nI n)])).length) Slot.unset).toArray = ls at hl ⊢
  have hl : lv_has ls 5 [(0, .ref (ad 0)), (1, .int (nI n))] := hl
  refine lv_iconst (v := nI 0) hx hb dX0_targetsAreRight_0 (by decide) ?_
  refine lv_istore_n (lv' := [(2, .int (nI 0)), (0, .ref (ad 0)), (1, .int (nI n))]) hx hb dX0_targetsAreRight_1 rfl hl (by decide) rfl (fun ls hl => ?_)
  refine lv_iconst (v := nI 0) hx hb dX0_targetsAreRight_2 (by decide) ?_
  refine lv_istore_n (lv' := [(3, .int (nI 0)), (2, .int (nI 0)), (0, .ref (ad 0)), (1, .int (nI n))]) hx hb dX0_targetsAreRight_3 rfl hl (by decide) rfl (fun ls hl => ?_)
  have loop_4 : ∀ (k : Nat) (i : Nat) (b : Int32), i + k = n → trF st n 0 (nI 0) = trF st k i b → ∀ ls : Array Slot, lv_has ls 5 [(0, .ref (ad 0)), (1, .int (nI n)), (2, .int b), (3, .int (nI i))] → W p l e (headSpec wsX0_targetsAreRight ({ frames := 1, cells := 0, slots := 0, locals := 22 } : Room)).room s m ([.ref (ad 0), .int (nI n)] : List Value).toArray below meth c s.heap [] 0 0 (MQ below (bj_Q (some (.int (bI (trF st n 0 (nI 0)))))) ([.ref (ad 0), .int (nI n)] : List Value).toArray s 0 0 (fun _ => False)) (F0 m 4 ls []) := by
    intro k
    induction k with
    | zero =>
      intro i b hk hR ls hl
      refine lv_iload_n hx hb dX0_targetsAreRight_4 rfl (lv_at hl 3 rfl) ?_
      refine lv_iload_n hx hb dX0_targetsAreRight_5 rfl (lv_at hl 1 rfl) ?_
      refine lv_icmp_ge (tgt := 41) hx hb dX0_targetsAreRight_6 (by decide) (fun c_6 => ?_) (fun c_6 => ?_)
      · have n_6 : n ≤ i := (nI_leI (by omega) (by omega)).mp c_6
        refine lv_iconst (v := nI 1) hx hb dX0_targetsAreRight_41 (by decide) ?_
        have hres : nI 1 = bI (trF st n 0 (nI 0)) := by rw [hR, trF]; rfl
        exact W.zret (v := nI 1) (ty := .boolean) hx hb hr rfl (fun t ht _ => ⟨congrArg (fun z : Int32 => Outcome.returned (some (Value.int z))) hres, ht⟩) (fun _ h => by cases h) dX0_targetsAreRight_42
      · have n_6 : ¬ n ≤ i := fun h => c_6 ((nI_leI (by omega) (by omega)).mpr h)
        exfalso; omega
    | succ k ih =>
      intro i b hk hR ls hl
      refine lv_iload_n hx hb dX0_targetsAreRight_4 rfl (lv_at hl 3 rfl) ?_
      refine lv_iload_n hx hb dX0_targetsAreRight_5 rfl (lv_at hl 1 rfl) ?_
      refine lv_icmp_ge (tgt := 41) hx hb dX0_targetsAreRight_6 (by decide) (fun c_6 => ?_) (fun c_6 => ?_)
      · have n_6 : n ≤ i := (nI_leI (by omega) (by omega)).mp c_6
        exfalso; omega
      · have n_6 : ¬ n ≤ i := fun h => c_6 ((nI_leI (by omega) (by omega)).mpr h)
        refine lv_aload_n hx hb dX0_targetsAreRight_9 rfl (lv_at hl 0 rfl) ?_
        refine lv_iload_n hx hb dX0_targetsAreRight_10 rfl (lv_at hl 3 rfl) ?_
        refine bj_call (v := .int (htF st i)) (W.runV (As := [.int (nI i)]) (rest := []) ⟨hx, hb, hml, hown, hts⟩ (c_X0_headTarget l dC dI cA ad st ck nh tp tl cb cy nc of wl wd i (by omega)) (cwV 1 hts gX0_targetsAreRight_X0_headTarget rfl rfl rfl (by decide +kernel) ⟨Nat.le_of_ble_eq_true rfl, Nat.le_of_ble_eq_true rfl⟩) ⟨fun a U g mk q => by obtain ⟨q0, qP, qK⟩ := q; exact ⟨q0, qP, va_K.moved (u := U) (U := U.calling g mk a) (Vm.Alike.refl U.vm) qK⟩, va_recv hK hP (ci := 0) (q0 := 0) rfl rfl, fun U hU hW => ⟨rfl, by rw [hU]; exact hP, va_K.moved hW.alike hK⟩⟩ rfl rfl hl.1 rfl (lv_room (Nat.le_of_ble_eq_true rfl)) dX0_targetsAreRight_11 ⟨Nat.le_of_ble_eq_true rfl, Nat.le_of_ble_eq_true rfl⟩) ?_
        refine lv_istore (lv' := [(4, .int (htF st i)), (0, .ref (ad 0)), (1, .int (nI n)), (2, .int b), (3, .int (nI i))]) hx hb dX0_targetsAreRight_14 hl (by decide) rfl (fun ls hl => ?_)
        refine lv_iload hx hb dX0_targetsAreRight_16 (lv_at hl 0 rfl) ?_
        refine bj_call (v := .int (bI (isT (htF st i)))) (W.runS (As := [.int (htF st i)]) (rest := []) ⟨hx, hb, hml, hown, hts⟩ (c_X0_isTarget l (htF st i)) (va_cwS 1 hts gX0_targetsAreRight_X0_isTarget rfl rfl rfl (by decide +kernel) ⟨Nat.le_of_ble_eq_true rfl, Nat.le_of_ble_eq_true rfl⟩) ⟨fun _ _ _ _ q => q, fun _ _ _ => ⟨rfl, trivial⟩⟩ rfl rfl hl.1 rfl (lv_room (Nat.le_of_ble_eq_true rfl)) dX0_targetsAreRight_18 ⟨Nat.le_of_ble_eq_true rfl, Nat.le_of_ble_eq_true rfl⟩) ?_
        refine lv_if_eq (tgt := 30) hx hb dX0_targetsAreRight_21 (by decide) (fun c_21 => ?_) (fun c_21 => ?_)
        · refine lv_iconst (v := nI 0) hx hb dX0_targetsAreRight_30 (by decide) ?_
          have hres : nI 0 = bI (trF st n 0 (nI 0)) := by rw [hR, trF, if_pos c_21]; rfl
          exact W.zret (v := nI 0) (ty := .boolean) hx hb hr rfl (fun t ht _ => ⟨congrArg (fun z : Int32 => Outcome.returned (some (Value.int z))) hres, ht⟩) (fun _ h => by cases h) dX0_targetsAreRight_31
        · refine lv_iload hx hb dX0_targetsAreRight_24 (lv_at hl 0 rfl) ?_
          refine lv_iload_n hx hb dX0_targetsAreRight_26 rfl (lv_at hl 3 rfl) ?_
          refine lv_icmp_gt (tgt := 32) hx hb dX0_targetsAreRight_27 (by decide) (fun c_27 => ?_) (fun c_27 => ?_)
          · refine lv_iload hx hb dX0_targetsAreRight_32 (lv_at hl 0 rfl) ?_
            refine lv_istore_n (lv' := [(2, .int (htF st i)), (4, .int (htF st i)), (0, .ref (ad 0)), (1, .int (nI n)), (3, .int (nI i))]) hx hb dX0_targetsAreRight_34 rfl hl (by decide) rfl (fun ls hl => ?_)
            refine lv_iinc (v := nI (i + 1)) (lv' := [(3, .int (nI (i + 1))), (2, .int (htF st i)), (4, .int (htF st i)), (0, .ref (ad 0)), (1, .int (nI n))]) hx hb dX0_targetsAreRight_35 hl (k := 4) rfl (nI_add i 1) (by decide) rfl (fun ls hl => ?_)
            refine lv_goto (tgt := 4) hx hb dX0_targetsAreRight_38 (by decide) ?_
            exact ih (i + 1) _ (by omega) (by rw [hR, trF, if_neg c_21, if_pos c_27]) _ (lv_sub hl [3, 4, 1, 0] rfl)
          · refine lv_iconst (v := nI 0) hx hb dX0_targetsAreRight_30 (by decide) ?_
            have hres : nI 0 = bI (trF st n 0 (nI 0)) := by rw [hR, trF, if_neg c_21, if_neg c_27]; rfl
            exact W.zret (v := nI 0) (ty := .boolean) hx hb hr rfl (fun t ht _ => ⟨congrArg (fun z : Int32 => Outcome.returned (some (Value.int z))) hres, ht⟩) (fun _ h => by cases h) dX0_targetsAreRight_31
  exact loop_4 n 0 (nI 0) (by omega) rfl _ (lv_sub hl [2, 3, 1, 0] rfl)

/-- whether the head is right -/
def hrF (f ck : Nat → Int32) : Bool := if f 4 < nI 1 then false else if nI 24 < f 4 then false else if bI (trF f (f 4).toNatClampNeg 0 (nI 0)) = 0 then false else if ¬ hwF f 59 4 = pcF f ck ((f 4).toNatClampNeg * 64) 64 (-1) ^^^ (-1) then false else true

set_option maxHeartbeats 4000000 in
set_option maxRecDepth 100000 in
theorem c_X0_headIsRight (l : Launch) (dC : Nat → ClassId) (dI : Nat → Nat → Nat) (cA : ClassId) (ad : Nat → Nat) (st ck nh tp : Nat → Int32) (tl : Int32) (cb cy : Nat → Int32) (nc of wl : Int32) (wd : Int64)  : Met l yX0_headIsRight wsX0_headIsRight ({ frames := 2, cells := 0, slots := 0, locals := 46 } : Room) (va_Pc [.ref (ad 0)] (fun U => va_P (dC, dI) vwCl (wX cA ad st ck nh tp tl cb cy nc of wl wd) U.heap ∧ va_K (dC, dI) vwCl [(cA, .int)] U)) (bj_Q (some (.int (bI (hrF st ck))))) 0 0 (fun _ => False) := by
  refine Met.ofW (cc := cX0_headIsRight) (maxL := 2) (ret := (some .boolean)) (by decide) rfl ?_
  intro p e s m args below meth c s₁ B hml hv
  obtain ⟨rfl, hP, hK⟩ := hv
  have hx := B.exec
  have hb := B.bytes
  have hr := B.returns
  have hts := atoms_spec (ws := wsX0_headIsRight) B.pre
  have hown : s.vm.findClass RX0 = some m.cls := findClass_of_methodNamed B.named
  have hlocks := B.notSynchronized
  have hin : ∀ w ∈ u_ws RX0 TX0 11, w ∈ wsX0_headIsRight := by decide +kernel
  have hl := lv_entry ([.ref (ad 0)]) (n := 2) (Nat.le_of_ble_eq_true rfl)
  rw [lg_entry_eq]
  generalize (lg_sl ([.ref (ad 0)]) ++ List.replicate (2 - (lg_sl ([.ref (ad 0)])).length) Slot.unset).toArray = ls at hl ⊢
  have hl : lv_has ls 2 [(0, .ref (ad 0))] := hl
  refine lv_aload_n hx hb dX0_headIsRight_0 rfl (lv_at hl 0 rfl) ?_
  refine bj_call (v := .int (st 4)) (W.runV (As := []) (rest := []) ⟨hx, hb, hml, hown, hts⟩ (c_X0_headCount l dC dI cA ad st ck nh tp tl cb cy nc of wl wd) (cwV 0 hts gX0_headIsRight_X0_headCount rfl rfl rfl (by decide +kernel) ⟨Nat.le_of_ble_eq_true rfl, Nat.le_of_ble_eq_true rfl⟩) ⟨fun a U g mk q => by obtain ⟨q0, qP, qK⟩ := q; exact ⟨q0, qP, va_K.moved (u := U) (U := U.calling g mk a) (Vm.Alike.refl U.vm) qK⟩, va_recv hK hP (ci := 0) (q0 := 0) rfl rfl, fun U hU hW => ⟨rfl, by rw [hU]; exact hP, va_K.moved hW.alike hK⟩⟩ rfl rfl hl.1 rfl (lv_room (Nat.le_of_ble_eq_true rfl)) dX0_headIsRight_1 ⟨Nat.le_of_ble_eq_true rfl, Nat.le_of_ble_eq_true rfl⟩) ?_
  refine lv_istore_n (lv' := [(1, .int (st 4)), (0, .ref (ad 0))]) hx hb dX0_headIsRight_4 rfl hl (by decide) rfl (fun ls hl => ?_)
  refine lv_iload_n hx hb dX0_headIsRight_5 rfl (lv_at hl 0 rfl) ?_
  refine lv_iconst (v := nI 1) hx hb dX0_headIsRight_6 (by decide) ?_
  refine lv_icmp_lt (tgt := 42) hx hb dX0_headIsRight_7 (by decide) (fun c_7 => ?_) (fun c_7 => ?_)
  · refine lv_iconst (v := nI 0) hx hb dX0_headIsRight_42 (by decide) ?_
    have hres : nI 0 = bI (hrF st ck) := by rw [hrF, if_pos c_7]; rfl
    exact W.zret (v := nI 0) (ty := .boolean) hx hb hr rfl (fun t ht _ => ⟨congrArg (fun z : Int32 => Outcome.returned (some (Value.int z))) hres, ht⟩) (fun _ h => by cases h) dX0_headIsRight_43
  · refine lv_iload_n hx hb dX0_headIsRight_10 rfl (lv_at hl 0 rfl) ?_
    refine lv_bipush (v := nI 24) hx hb dX0_headIsRight_11 (by decide) ?_
    refine lv_icmp_gt (tgt := 42) hx hb dX0_headIsRight_13 (by decide) (fun c_13 => ?_) (fun c_13 => ?_)
    · refine lv_iconst (v := nI 0) hx hb dX0_headIsRight_42 (by decide) ?_
      have hres : nI 0 = bI (hrF st ck) := by rw [hrF, if_neg c_7, if_pos c_13]; rfl
      exact W.zret (v := nI 0) (ty := .boolean) hx hb hr rfl (fun t ht _ => ⟨congrArg (fun z : Int32 => Outcome.returned (some (Value.int z))) hres, ht⟩) (fun _ h => by cases h) dX0_headIsRight_43
    · obtain ⟨n, hn, en⟩ : ∃ n : Nat, n ≤ 24 ∧ st 4 = nI n := nI_of2 (M := nI 24) (by decide) (fun h => c_7 (Int32.lt_trans h (by decide))) (Int32.not_lt.mp c_13)
      have hcl : (st 4).toNatClampNeg = n := by rw [en]; exact nI_clamp (by omega)
      rw [en] at hl
      refine lv_aload_n hx hb dX0_headIsRight_16 rfl (lv_at hl 1 rfl) ?_
      refine lv_iload_n hx hb dX0_headIsRight_17 rfl (lv_at hl 0 rfl) ?_
      refine bj_call (v := .int (bI (trF st n 0 (nI 0)))) (W.runV (As := [.int (nI n)]) (rest := []) ⟨hx, hb, hml, hown, hts⟩ (c_X0_targetsAreRight l dC dI cA ad st ck nh tp tl cb cy nc of wl wd n (by omega)) (cwV 1 hts gX0_headIsRight_X0_targetsAreRight rfl rfl rfl (by decide +kernel) ⟨Nat.le_of_ble_eq_true rfl, Nat.le_of_ble_eq_true rfl⟩) ⟨fun a U g mk q => by obtain ⟨q0, qP, qK⟩ := q; exact ⟨q0, qP, va_K.moved (u := U) (U := U.calling g mk a) (Vm.Alike.refl U.vm) qK⟩, va_recv hK hP (ci := 0) (q0 := 0) rfl rfl, fun U hU hW => ⟨rfl, by rw [hU]; exact hP, va_K.moved hW.alike hK⟩⟩ rfl rfl hl.1 rfl (lv_room (Nat.le_of_ble_eq_true rfl)) dX0_headIsRight_18 ⟨Nat.le_of_ble_eq_true rfl, Nat.le_of_ble_eq_true rfl⟩) ?_
      refine lv_if_eq (tgt := 42) hx hb dX0_headIsRight_21 (by decide) (fun c_21 => ?_) (fun c_21 => ?_)
      · refine lv_iconst (v := nI 0) hx hb dX0_headIsRight_42 (by decide) ?_
        have hres : nI 0 = bI (hrF st ck) := by rw [hrF, if_neg c_7, if_neg c_13, hcl, if_pos c_21]; rfl
        exact W.zret (v := nI 0) (ty := .boolean) hx hb hr rfl (fun t ht _ => ⟨congrArg (fun z : Int32 => Outcome.returned (some (Value.int z))) hres, ht⟩) (fun _ h => by cases h) dX0_headIsRight_43
      · refine lv_aload_n hx hb dX0_headIsRight_24 rfl (lv_at hl 1 rfl) ?_
        refine lv_bipush (v := nI 59) hx hb dX0_headIsRight_25 (by decide) ?_
        refine bj_call (v := .int (hwF st 59 4)) (W.runV (As := [.int (nI 59)]) (rest := []) ⟨hx, hb, hml, hown, hts⟩ (c_X0_headWord l dC dI cA ad st ck nh tp tl cb cy nc of wl wd 59 (by decide)) (cwV 1 hts gX0_headIsRight_X0_headWord rfl rfl rfl (by decide +kernel) ⟨Nat.le_of_ble_eq_true rfl, Nat.le_of_ble_eq_true rfl⟩) ⟨fun a U g mk q => by obtain ⟨q0, qP, qK⟩ := q; exact ⟨q0, qP, va_K.moved (u := U) (U := U.calling g mk a) (Vm.Alike.refl U.vm) qK⟩, va_recv hK hP (ci := 0) (q0 := 0) rfl rfl, fun U hU hW => ⟨rfl, by rw [hU]; exact hP, va_K.moved hW.alike hK⟩⟩ rfl rfl hl.1 rfl (lv_room (Nat.le_of_ble_eq_true rfl)) dX0_headIsRight_27 ⟨Nat.le_of_ble_eq_true rfl, Nat.le_of_ble_eq_true rfl⟩) ?_
        refine lv_aload_n hx hb dX0_headIsRight_30 rfl (lv_at hl 1 rfl) ?_
        refine lv_iload_n hx hb dX0_headIsRight_31 rfl (lv_at hl 0 rfl) ?_
        refine bj_call (v := .int (pcF st ck (n * 64) 64 (-1) ^^^ (-1))) (W.runV (As := [.int (nI n)]) (rest := [.int (hwF st 59 4)]) ⟨hx, hb, hml, hown, hts⟩ (c_X0_payloadCheck l dC dI cA ad st ck nh tp tl cb cy nc of wl wd n (by omega)) (cwV 1 hts gX0_headIsRight_X0_payloadCheck rfl rfl rfl (by decide +kernel) ⟨Nat.le_of_ble_eq_true rfl, Nat.le_of_ble_eq_true rfl⟩) ⟨fun a U g mk q => by obtain ⟨q0, qP, qK⟩ := q; exact ⟨q0, qP, va_K.moved (u := U) (U := U.calling g mk a) (Vm.Alike.refl U.vm) qK⟩, va_recv hK hP (ci := 0) (q0 := 0) rfl rfl, fun U hU hW => ⟨rfl, by rw [hU]; exact hP, va_K.moved hW.alike hK⟩⟩ rfl rfl hl.1 rfl (lv_room (Nat.le_of_ble_eq_true rfl)) dX0_headIsRight_32 ⟨Nat.le_of_ble_eq_true rfl, Nat.le_of_ble_eq_true rfl⟩) ?_
        refine lv_icmp_ne (tgt := 42) hx hb dX0_headIsRight_35 (by decide) (fun c_35 => ?_) (fun c_35 => ?_)
        · refine lv_iconst (v := nI 0) hx hb dX0_headIsRight_42 (by decide) ?_
          have hres : nI 0 = bI (hrF st ck) := by rw [hrF, if_neg c_7, if_neg c_13, hcl, if_neg c_21, if_pos c_35]; rfl
          exact W.zret (v := nI 0) (ty := .boolean) hx hb hr rfl (fun t ht _ => ⟨congrArg (fun z : Int32 => Outcome.returned (some (Value.int z))) hres, ht⟩) (fun _ h => by cases h) dX0_headIsRight_43
        · refine lv_iconst (v := nI 1) hx hb dX0_headIsRight_38 (by decide) ?_
          refine lv_goto (tgt := 43) hx hb dX0_headIsRight_39 (by decide) ?_
          have hres : nI 1 = bI (hrF st ck) := by rw [hrF, if_neg c_7, if_neg c_13, hcl, if_neg c_21, if_neg (not_not_intro c_35)]; rfl
          exact W.zret (v := nI 1) (ty := .boolean) hx hb hr rfl (fun t ht _ => ⟨congrArg (fun z : Int32 => Outcome.returned (some (Value.int z))) hres, ht⟩) (fun _ h => by cases h) dX0_headIsRight_43
end
section
/-- what a BlockJournal holds, but for its addresses and its row of check steps -/
abbrev XS : Type := (Nat → Int32) × (Nat → Int32) × (Nat → Int32) × Int32 × (Nat → Int32) × (Nat → Int32) × Int32 × Int32 × Int32 × Int64
abbrev wXu (cA : ClassId) (ad : Nat → Nat) (ck : Nat → Int32) (u : XS) : va_W := wX cA ad u.1 ck u.2.1 u.2.2.1 u.2.2.2.1 u.2.2.2.2.1 u.2.2.2.2.2.1 u.2.2.2.2.2.2.1 u.2.2.2.2.2.2.2.1 u.2.2.2.2.2.2.2.2.1 u.2.2.2.2.2.2.2.2.2
abbrev aX (dC : Nat → ClassId) (dI : Nat → Nat → Nat) (cA : ClassId) (ad : Nat → Nat) (ck : Nat → Int32) (A : Nat → Prop) (u : XS) (t : State) : Prop :=
  va_P (dC, dI) vwCl (wXu cA ad ck u) t.heap ∧ va_K (dC, dI) vwCl [(cA, .int)] t ∧ va_D A (wXu cA ad ck u)
abbrev FS : Type := Nat → Int32
/-- a row whose first i places hold v -/
def fiF (f : Nat → Int32) (v : Int32) (i : Nat) : Nat → Int32 := fun j => if j < i then v else f j
theorem fiF_0 (f : Nat → Int32) (v : Int32) : fiF f v 0 = f := by funext j; simp [fiF]
theorem fiF_up (f : Nat → Int32) (v : Int32) (i : Nat) : upd (fiF f v i) i v = fiF f v (i + 1) := by
  funext j
  simp only [upd, fiF]
  by_cases h : j = i
  · rw [if_pos h, if_pos (by omega)]
  · rw [if_neg h]
    by_cases h2 : j < i
    · rw [if_pos h2, if_pos (by omega)]
    · rw [if_neg h2, if_neg (by omega)]
/-- a write of 64 places of F from q on into block b -/
def wrS (F st : Nat → Int32) (wl : Int32) (q b : Nat) : Nat → Int32 := if ¬ wl = 0 then va_cpy F st q (b * 64) 64 else st
def wrO (of wl : Int32) : Int32 := if ¬ wl = 0 then of else nI 1
def wrL (wl : Int32) : Int32 := if ¬ wl = 0 then (if wl ≤ 0 then wl else wl - nI 1) else wl
def wrD (wl : Int32) (wd : Int64) : Int64 := if ¬ wl = 0 then wd + 1 else wd
/-- i bytes of a word, lowest first, from place p on -/
def swF (f : Nat → Int32) (p : Nat) (w : Int32) : Nat → Nat → Int32
  | 0 => f
  | i + 1 => upd (swF f p w i) (p + i) ((w.toUInt32 >>> ((nI (8 * i)).toUInt32 &&& Int32.toUInt32 31)).toInt32 &&& nI 255)
/-- i targets -/
def tgF (f cb : Nat → Int32) : Nat → Nat → Int32
  | 0 => f
  | i + 1 => upd (upd (tgF f cb i) (5 + 2 * i) (cb i &&& nI 255)) (5 + 2 * i + 1) (((cb i).toUInt32 >>> ((nI 8).toUInt32 &&& Int32.toUInt32 31)).toInt32)
/-- the row of an empty head, of a full one -/
def ehF (nh : Nat → Int32) (w : Int32) : Nat → Int32 := swF (fiF nh (nI 0) 64) 0 w 4
def fhF (st ck nh cb : Nat → Int32) (n : Nat) (w : Int32) : Nat → Int32 := swF (tgF (upd (ehF nh w) 4 (nI n)) cb n) 59 (pcF st ck (n * 64) 64 (-1) ^^^ (-1)) 4

set_option maxHeartbeats 4000000 in
set_option maxRecDepth 100000 in
theorem c_fill (l : Launch) (dC : Nat → ClassId) (dI : Nat → Nat → Nat) (cA : ClassId) (ad : Nat → Nat) (sz : Nat) (a n : Nat) (f : Nat → Int32) (v : Int32) (hn : n < 2 ^ 31) : Met l yJ7_fill_53178 wsJ7_fill_53178 ({ frames := 0, cells := 0, slots := 0, locals := 0 } : Room) (va_Pc [.ref a, .int v] (fun U => U.heap.size = sz ∧ va_P (dC, dI) vwCl ([(a, .inl (cA, n, .inl f))]) U.heap ∧ va_K (dC, dI) vwCl [(cA, .int)] U ∧ va_D (fun _ => True) ([(a, .inl (cA, n, .inl f))]))) (va_Qv (fun g : FS => g = fiF f v n) (fun (g : FS) (t : State) => va_P (dC, dI) vwCl [(a, .inl (cA, n, .inl g))] t.heap ∧ va_K (dC, dI) vwCl [(cA, .int)] t ∧ va_D (va_A ([(a, .inl (cA, n, .inl f))]) sz) [(a, .inl (cA, n, .inl g))]) (va_A ([(a, .inl (cA, n, .inl f))]) sz)) 0 0 (va_A ([(a, .inl (cA, n, .inl f))]) sz) := by
  refine Met.ofW (cc := cJ7_fill_53178) (maxL := 4) (ret := none) (by decide) rfl ?_
  intro p e s m args below meth c s₁ B hml hv
  obtain ⟨rfl, hsz, hP, hK, hD0⟩ := hv
  have hx := B.exec
  have hb := B.bytes
  have hr := B.returns
  have hts := atoms_spec (ws := wsJ7_fill_53178) B.pre
  have hown : s.vm.findClass RJ7 = some m.cls := findClass_of_methodNamed B.named
  have hlocks := B.notSynchronized
  subst hsz
  have hD := hD0.self (sz := s.heap.size)
  generalize hAe : va_A ([(a, .inl (cA, n, .inl f))]) s.heap.size = A at hD ⊢
  have hA : ∀ q : Nat, s.heap.size ≤ q → A q := fun q h => by rw [← hAe]; exact Or.inr h
  obtain ⟨H, locs, hH, hlo, hS⟩ : ∃ (H : Heap) (locs : List Loc), H = s.heap ∧ locs = [] ∧ va_S A s.heap H locs := ⟨s.heap, [], rfl, rfl, va_S.rf⟩
  rw [← hH] at hP
  have hP : va_P (dC, dI) vwCl ([(a, .inl (cA, n, .inl f))]) H := hP
  have hl := lv_entry ([.ref a, .int v]) (n := 4) (Nat.le_of_ble_eq_true rfl)
  rw [lg_entry_eq]
  generalize (lg_sl ([.ref a, .int v]) ++ List.replicate (4 - (lg_sl ([.ref a, .int v])).length) Slot.unset).toArray = ls at hl ⊢
  have goal : W p l e (headSpec wsJ7_fill_53178 ({ frames := 0, cells := 0, slots := 0, locals := 0 } : Room)).room s m ([.ref a, .int v] : List Value).toArray below meth c H locs 0 0 (MQ below (va_Qv (fun g : FS => g = fiF f v n) (fun (g : FS) (t : State) => va_P (dC, dI) vwCl [(a, .inl (cA, n, .inl g))] t.heap ∧ va_K (dC, dI) vwCl [(cA, .int)] t ∧ va_D A [(a, .inl (cA, n, .inl g))]) A) ([.ref a, .int v] : List Value).toArray s 0 0 A) (F0 m 0 ls []) := by
    clear hH hlo
    have hl : lv_has ls 4 [(0, .ref a), (1, .int v)] := hl
    refine lv_iconst (v := nI 0) hx hb dJ7_fill_53178_0 (by decide) ?_
    refine lv_istore_n (lv' := [(2, .int (nI 0)), (0, .ref a), (1, .int v)]) hx hb dJ7_fill_53178_1 rfl hl (by decide) rfl (fun ls hl => ?_)
    refine lv_aload_n hx hb dJ7_fill_53178_2 rfl (lv_at hl 1 rfl) ?_
    refine va_alen (D := (dC, dI)) hx hb hK hP 0 0 (cA := cA) rfl rfl (v := nI n) rfl dJ7_fill_53178_3 ?_
    rw [← fiF_0 f v] at hP hD
    refine lv_istore_n (lv' := [(3, .int (nI n)), (2, .int (nI 0)), (0, .ref a), (1, .int v)]) hx hb dJ7_fill_53178_4 rfl hl (by decide) rfl (fun ls hl => ?_)
    have loop_5 : ∀ (k : Nat) (i : Nat), i + k = n → ∀ (H : Heap) (locs : List Loc) (ls : Array Slot), va_P (dC, dI) vwCl ([(a, .inl (cA, n, .inl (fiF f v i)))]) H → va_D A ([(a, .inl (cA, n, .inl (fiF f v i)))]) → va_S A s.heap H locs → lv_has ls 4 [(0, .ref a), (1, .int v), (2, .int (nI i)), (3, .int (nI n))] → W p l e (headSpec wsJ7_fill_53178 ({ frames := 0, cells := 0, slots := 0, locals := 0 } : Room)).room s m ([.ref a, .int v] : List Value).toArray below meth c H locs 0 0 (MQ below (va_Qv (fun g : FS => g = fiF f v n) (fun (g : FS) (t : State) => va_P (dC, dI) vwCl [(a, .inl (cA, n, .inl g))] t.heap ∧ va_K (dC, dI) vwCl [(cA, .int)] t ∧ va_D A [(a, .inl (cA, n, .inl g))]) A) ([.ref a, .int v] : List Value).toArray s 0 0 A) (F0 m 5 ls []) := by
      intro k
      induction k with
      | zero =>
        intro i hk H locs ls hP hD hS hl
        refine lv_iload_n hx hb dJ7_fill_53178_5 rfl (lv_at hl 2 rfl) ?_
        refine lv_iload_n hx hb dJ7_fill_53178_6 rfl (lv_at hl 3 rfl) ?_
        refine lv_icmp_ge (tgt := 20) hx hb dJ7_fill_53178_7 (by decide) (fun c_7 => ?_) (fun c_7 => ?_)
        · have n_7 : n ≤ i := (nI_leI (by omega) (by omega)).mp c_7
          have hpost : (fiF f v i : FS) = fiF f v n := by rw [show i = n by omega]
          exact W.vret hx hb hr (fun t ht hW => ⟨⟨fiF f v i, rfl, hpost, by rw [ht]; exact hP, va_K.moved hW.alike hK, hD⟩, hS.F ht⟩) hS.2.2 dJ7_fill_53178_20
        · have n_7 : ¬ n ≤ i := fun h => c_7 ((nI_leI (by omega) (by omega)).mpr h)
          exfalso; omega
      | succ k ih =>
        intro i hk H locs ls hP hD hS hl
        refine lv_iload_n hx hb dJ7_fill_53178_5 rfl (lv_at hl 2 rfl) ?_
        refine lv_iload_n hx hb dJ7_fill_53178_6 rfl (lv_at hl 3 rfl) ?_
        refine lv_icmp_ge (tgt := 20) hx hb dJ7_fill_53178_7 (by decide) (fun c_7 => ?_) (fun c_7 => ?_)
        · have n_7 : n ≤ i := (nI_leI (by omega) (by omega)).mp c_7
          exfalso; omega
        · have n_7 : ¬ n ≤ i := fun h => c_7 ((nI_leI (by omega) (by omega)).mpr h)
          refine lv_aload_n hx hb dJ7_fill_53178_10 rfl (lv_at hl 0 rfl) ?_
          refine lv_iload_n hx hb dJ7_fill_53178_11 rfl (lv_at hl 2 rfl) ?_
          refine lv_iload_n hx hb dJ7_fill_53178_12 rfl (lv_at hl 1 rfl) ?_
          refine va_iast (D := (dC, dI)) hx hb hK hP hD hS 0 0 (cA := cA) (n := n) (f := (fiF f v i)) rfl rfl (i := (nI i)) (vp_in_nI (by omega) (by omega)) dJ7_fill_53178_13 (fun H locs hP hD hS => ?_)
          rw [nI_clamp (n := i) (by omega)] at hP hD
          have hP : va_P (dC, dI) vwCl ([(a, .inl (cA, n, .inl (upd (fiF f v i) i v)))]) H := hP
          have hD : va_D A ([(a, .inl (cA, n, .inl (upd (fiF f v i) i v)))]) := hD
          rw [fiF_up] at hP hD
          have hP : va_P (dC, dI) vwCl ([(a, .inl (cA, n, .inl (fiF f v (i + 1))))]) H := hP
          have hD : va_D A ([(a, .inl (cA, n, .inl (fiF f v (i + 1))))]) := hD
          refine lv_iinc (v := nI (i + 1)) (lv' := [(2, .int (nI (i + 1))), (0, .ref a), (1, .int v), (3, .int (nI n))]) hx hb dJ7_fill_53178_14 hl (k := 2) rfl (nI_add i 1) (by decide) rfl (fun ls hl => ?_)
          refine lv_goto (tgt := 5) hx hb dJ7_fill_53178_17 (by decide) ?_
          exact ih (i + 1) (by omega) _ _ _ hP hD hS (lv_sub hl [1, 2, 0, 3] rfl)
    exact loop_5 n 0 (by omega) _ _ _ hP hD hS (lv_sub hl [2, 3, 1, 0] rfl)
  rw [hH, hlo] at goal
  exact goal

set_option maxHeartbeats 4000000 in
set_option maxRecDepth 100000 in
theorem c_X0_write_1 (l : Launch) (dC : Nat → ClassId) (dI : Nat → Nat → Nat) (cA : ClassId) (ad : Nat → Nat) (sz : Nat) (st ck nh tp : Nat → Int32) (tl : Int32) (cb cy : Nat → Int32) (nc of wl : Int32) (wd : Int64) (b q : Nat) (hb9 : b < 96) (hq : q + 64 ≤ 6144) : Met l yX0_write wsX0_write ({ frames := 1, cells := 0, slots := 0, locals := 60 } : Room) (va_Pc [.ref (ad 0), .int (nI b), .ref (ad 1), .int (nI q)] (fun U => U.heap.size = sz ∧ va_P (dC, dI) vwCl (wX cA ad st ck nh tp tl cb cy nc of wl wd) U.heap ∧ va_K (dC, dI) vwCl [(cA, .int)] U ∧ va_D (fun _ => True) (wX cA ad st ck nh tp tl cb cy nc of wl wd))) (va_Qv (fun u : XS => u = (wrS st st wl q b, nh, tp, tl, cb, cy, nc, wrO of wl, wrL wl, wrD wl wd)) (aX dC dI cA ad ck (va_A (wX cA ad st ck nh tp tl cb cy nc of wl wd) sz)) (va_A (wX cA ad st ck nh tp tl cb cy nc of wl wd) sz)) 0 0 (va_A (wX cA ad st ck nh tp tl cb cy nc of wl wd) sz) := by
  refine Met.ofW (cc := cX0_write) (maxL := 4) (ret := none) (by decide) rfl ?_
  intro p e s m args below meth c s₁ B hml hv
  obtain ⟨rfl, hsz, hP, hK, hD0⟩ := hv
  have hx := B.exec
  have hb := B.bytes
  have hr := B.returns
  have hts := atoms_spec (ws := wsX0_write) B.pre
  have hown : s.vm.findClass RX0 = some m.cls := findClass_of_methodNamed B.named
  have hlocks := B.notSynchronized
  have hin : ∀ w ∈ u_ws RX0 TX0 11, w ∈ wsX0_write := by decide +kernel
  subst hsz
  have hD := hD0.self (sz := s.heap.size)
  generalize hAe : va_A (wX cA ad st ck nh tp tl cb cy nc of wl wd) s.heap.size = A at hD ⊢
  have hA : ∀ q : Nat, s.heap.size ≤ q → A q := fun q h => by rw [← hAe]; exact Or.inr h
  obtain ⟨H, locs, hH, hlo, hS⟩ : ∃ (H : Heap) (locs : List Loc), H = s.heap ∧ locs = [] ∧ va_S A s.heap H locs := ⟨s.heap, [], rfl, rfl, va_S.rf⟩
  rw [← hH] at hP
  have hP : va_P (dC, dI) vwCl (wX cA ad st ck nh tp tl cb cy nc of wl wd) H := hP
  have hl := lv_entry ([.ref (ad 0), .int (nI b), .ref (ad 1), .int (nI q)]) (n := 4) (Nat.le_of_ble_eq_true rfl)
  rw [lg_entry_eq]
  generalize (lg_sl ([.ref (ad 0), .int (nI b), .ref (ad 1), .int (nI q)]) ++ List.replicate (4 - (lg_sl ([.ref (ad 0), .int (nI b), .ref (ad 1), .int (nI q)])).length) Slot.unset).toArray = ls at hl ⊢
  have goal : W p l e (headSpec wsX0_write ({ frames := 1, cells := 0, slots := 0, locals := 60 } : Room)).room s m ([.ref (ad 0), .int (nI b), .ref (ad 1), .int (nI q)] : List Value).toArray below meth c H locs 0 0 (MQ below (va_Qv (fun u : XS => u = (wrS st st wl q b, nh, tp, tl, cb, cy, nc, wrO of wl, wrL wl, wrD wl wd)) (aX dC dI cA ad ck A) A) ([.ref (ad 0), .int (nI b), .ref (ad 1), .int (nI q)] : List Value).toArray s 0 0 A) (F0 m 0 ls []) := by
    clear hH hlo
    have hl : lv_has ls 4 [(0, .ref (ad 0)), (1, .int (nI b)), (2, .ref (ad 1)), (3, .int (nI q))] := hl
    refine lv_aload_n hx hb dX0_write_0 rfl (lv_at hl 0 rfl) ?_
    refine va_get (D := (dC, dI)) (ci := 0) (v := .int wl) (C := RX0) (T := TX0) (N := 11) hx hb hts hin hown hK hP 0 rfl rfl 9 (by decide) (hts (.fieldLink RX0 28 "BlockJournal" "writesLeft" "I") (by decide +kernel)) (fun _ h9 => h9) rfl dX0_write_1 ?_
    refine lv_if_ne (tgt := 13) hx hb dX0_write_4 (by decide) (fun c_4 => ?_) (fun c_4 => ?_)
    · refine lv_aload_n hx hb dX0_write_13 rfl (lv_at hl 0 rfl) ?_
      refine va_get (D := (dC, dI)) (ci := 0) (v := .int wl) (C := RX0) (T := TX0) (N := 11) hx hb hts hin hown hK hP 0 rfl rfl 9 (by decide) (hts (.fieldLink RX0 28 "BlockJournal" "writesLeft" "I") (by decide +kernel)) (fun _ h9 => h9) rfl dX0_write_14 ?_
      refine lv_if_le (tgt := 30) hx hb dX0_write_17 (by decide) (fun c_17 => ?_) (fun c_17 => ?_)
      · refine lv_aload_n hx hb dX0_write_30 rfl (lv_at hl 2 rfl) ?_
        refine lv_iload_n hx hb dX0_write_31 rfl (lv_at hl 3 rfl) ?_
        refine lv_aload_n hx hb dX0_write_32 rfl (lv_at hl 0 rfl) ?_
        refine va_get (D := (dC, dI)) (ci := 0) (v := .ref (ad 1)) (C := RX0) (T := TX0) (N := 11) hx hb hts hin hown hK hP 0 rfl rfl 0 (by decide) (hts (.fieldLink RX0 9 "BlockJournal" "store" "[I") (by decide +kernel)) (fun _ h9 => h9) rfl dX0_write_33 ?_
        refine lv_iload_n hx hb dX0_write_36 rfl (lv_at hl 1 rfl) ?_
        refine lv_bipush (v := nI 64) hx hb dX0_write_37 (by decide) ?_
        refine lv_imul hx hb dX0_write_39 ?_
        refine bj_i (pk_mul b 64) ?_
        refine lv_bipush (v := nI 64) hx hb dX0_write_40 (by decide) ?_
        refine va_copyi (D := (dC, dI)) hx hb (hml.trans hl.1.symm) hown (hts (.methodLink RX0 73 arraycopyName) (by decide +kernel)) (hts (.native arraycopyName) (by decide +kernel)) (hts (.static arraycopyName) (by decide +kernel)) (hts (.initialized "java/lang/System") (by decide +kernel)) hK hP hD hS 1 1 0 0 (c0 := cA) (c1 := cA) (n0 := 6144) (n1 := 6144) (f := st) (g := st) (ty := .int) rfl rfl rfl rfl rfl (sp := nI q) (dp := nI (b * 64)) (n := nI 64) (nI_pos (by omega)) (nI_pos (by omega)) (nI_pos (by omega)) (by rw [nI_clamp (by omega), nI_clamp (by omega)]; omega) (by rw [nI_clamp (by omega), nI_clamp (by omega)]; omega) (fun _ _ => rfl) (Nat.le_of_ble_eq_true rfl) (Nat.le_of_ble_eq_true rfl) dX0_write_42 (fun H locs hP hD hS => ?_)
        rw [nI_clamp (n := q) (by omega), nI_clamp (n := b * 64) (by omega), nI_clamp (n := 64) (by omega)] at hP hD
        have hP : va_P (dC, dI) vwCl (wX cA ad (va_cpy st st q (b * 64) 64) ck nh tp tl cb cy nc of wl wd) H := hP
        have hD : va_D A (wX cA ad (va_cpy st st q (b * 64) 64) ck nh tp tl cb cy nc of wl wd) := hD
        refine lv_aload_n hx hb dX0_write_45 rfl (lv_at hl 0 rfl) ?_
        refine lv_dup hx hb dX0_write_46 rfl ?_
        refine va_get (D := (dC, dI)) (ci := 0) (v := .long wd) (C := RX0) (T := TX0) (N := 11) hx hb hts hin hown hK hP 0 rfl rfl 10 (by decide) (hts (.fieldLink RX0 132 "BlockJournal" "writesDone" "J") (by decide +kernel)) (fun _ h9 => h9) rfl dX0_write_47 ?_
        refine lv_lconst (v := 1) hx hb dX0_write_50 (by decide) ?_
        refine lv_ladd hx hb dX0_write_51 ?_
        refine va_put (D := (dC, dI)) (ci := 0) (v := .long (wd + 1)) (ty := .long) (C := RX0) (T := TX0) (N := 11) hx hb hts hin tyX0 tyX0_ok nmX0 hown hK hP hD hS 0 rfl rfl 10 (by decide) (hts (.fieldLink RX0 132 "BlockJournal" "writesDone" "J") (by decide +kernel)) (fun _ h9 => h9) rfl (by decide +kernel) rfl rfl (Nat.le_of_ble_eq_true rfl) dX0_write_52 (fun H locs hP hD hS => ?_)
        have hP : va_P (dC, dI) vwCl (wX cA ad (va_cpy st st q (b * 64) 64) ck nh tp tl cb cy nc of wl (wd + 1)) H := hP
        have hD : va_D A (wX cA ad (va_cpy st st q (b * 64) 64) ck nh tp tl cb cy nc of wl (wd + 1)) := hD
        have hpost : ((va_cpy st st q (b * 64) 64, nh, tp, tl, cb, cy, nc, of, wl, wd + 1) : XS) = (wrS st st wl q b, nh, tp, tl, cb, cy, nc, wrO of wl, wrL wl, wrD wl wd) := by simp only [wrS, wrO, wrL, wrD, if_pos c_4, if_pos c_17]
        exact W.vret hx hb hr (fun t ht hW => ⟨⟨(va_cpy st st q (b * 64) 64, nh, tp, tl, cb, cy, nc, of, wl, wd + 1), rfl, hpost, by rw [ht]; exact hP, va_K.moved hW.alike hK, hD⟩, hS.F ht⟩) hS.2.2 dX0_write_55
      · refine lv_aload_n hx hb dX0_write_20 rfl (lv_at hl 0 rfl) ?_
        refine lv_dup hx hb dX0_write_21 rfl ?_
        refine va_get (D := (dC, dI)) (ci := 0) (v := .int wl) (C := RX0) (T := TX0) (N := 11) hx hb hts hin hown hK hP 0 rfl rfl 9 (by decide) (hts (.fieldLink RX0 28 "BlockJournal" "writesLeft" "I") (by decide +kernel)) (fun _ h9 => h9) rfl dX0_write_22 ?_
        refine lv_iconst (v := nI 1) hx hb dX0_write_25 (by decide) ?_
        refine lv_isub hx hb dX0_write_26 ?_
        refine va_put (D := (dC, dI)) (ci := 0) (v := .int (wl - (nI 1))) (ty := .int) (C := RX0) (T := TX0) (N := 11) hx hb hts hin tyX0 tyX0_ok nmX0 hown hK hP hD hS 0 rfl rfl 9 (by decide) (hts (.fieldLink RX0 28 "BlockJournal" "writesLeft" "I") (by decide +kernel)) (fun _ h9 => h9) rfl (by decide +kernel) rfl rfl (Nat.le_of_ble_eq_true rfl) dX0_write_27 (fun H locs hP hD hS => ?_)
        have hP : va_P (dC, dI) vwCl (wX cA ad st ck nh tp tl cb cy nc of (wl - (nI 1)) wd) H := hP
        have hD : va_D A (wX cA ad st ck nh tp tl cb cy nc of (wl - (nI 1)) wd) := hD
        refine lv_aload_n hx hb dX0_write_30 rfl (lv_at hl 2 rfl) ?_
        refine lv_iload_n hx hb dX0_write_31 rfl (lv_at hl 3 rfl) ?_
        refine lv_aload_n hx hb dX0_write_32 rfl (lv_at hl 0 rfl) ?_
        refine va_get (D := (dC, dI)) (ci := 0) (v := .ref (ad 1)) (C := RX0) (T := TX0) (N := 11) hx hb hts hin hown hK hP 0 rfl rfl 0 (by decide) (hts (.fieldLink RX0 9 "BlockJournal" "store" "[I") (by decide +kernel)) (fun _ h9 => h9) rfl dX0_write_33 ?_
        refine lv_iload_n hx hb dX0_write_36 rfl (lv_at hl 1 rfl) ?_
        refine lv_bipush (v := nI 64) hx hb dX0_write_37 (by decide) ?_
        refine lv_imul hx hb dX0_write_39 ?_
        refine bj_i (pk_mul b 64) ?_
        refine lv_bipush (v := nI 64) hx hb dX0_write_40 (by decide) ?_
        refine va_copyi (D := (dC, dI)) hx hb (hml.trans hl.1.symm) hown (hts (.methodLink RX0 73 arraycopyName) (by decide +kernel)) (hts (.native arraycopyName) (by decide +kernel)) (hts (.static arraycopyName) (by decide +kernel)) (hts (.initialized "java/lang/System") (by decide +kernel)) hK hP hD hS 1 1 0 0 (c0 := cA) (c1 := cA) (n0 := 6144) (n1 := 6144) (f := st) (g := st) (ty := .int) rfl rfl rfl rfl rfl (sp := nI q) (dp := nI (b * 64)) (n := nI 64) (nI_pos (by omega)) (nI_pos (by omega)) (nI_pos (by omega)) (by rw [nI_clamp (by omega), nI_clamp (by omega)]; omega) (by rw [nI_clamp (by omega), nI_clamp (by omega)]; omega) (fun _ _ => rfl) (Nat.le_of_ble_eq_true rfl) (Nat.le_of_ble_eq_true rfl) dX0_write_42 (fun H locs hP hD hS => ?_)
        rw [nI_clamp (n := q) (by omega), nI_clamp (n := b * 64) (by omega), nI_clamp (n := 64) (by omega)] at hP hD
        have hP : va_P (dC, dI) vwCl (wX cA ad (va_cpy st st q (b * 64) 64) ck nh tp tl cb cy nc of (wl - (nI 1)) wd) H := hP
        have hD : va_D A (wX cA ad (va_cpy st st q (b * 64) 64) ck nh tp tl cb cy nc of (wl - (nI 1)) wd) := hD
        refine lv_aload_n hx hb dX0_write_45 rfl (lv_at hl 0 rfl) ?_
        refine lv_dup hx hb dX0_write_46 rfl ?_
        refine va_get (D := (dC, dI)) (ci := 0) (v := .long wd) (C := RX0) (T := TX0) (N := 11) hx hb hts hin hown hK hP 0 rfl rfl 10 (by decide) (hts (.fieldLink RX0 132 "BlockJournal" "writesDone" "J") (by decide +kernel)) (fun _ h9 => h9) rfl dX0_write_47 ?_
        refine lv_lconst (v := 1) hx hb dX0_write_50 (by decide) ?_
        refine lv_ladd hx hb dX0_write_51 ?_
        refine va_put (D := (dC, dI)) (ci := 0) (v := .long (wd + 1)) (ty := .long) (C := RX0) (T := TX0) (N := 11) hx hb hts hin tyX0 tyX0_ok nmX0 hown hK hP hD hS 0 rfl rfl 10 (by decide) (hts (.fieldLink RX0 132 "BlockJournal" "writesDone" "J") (by decide +kernel)) (fun _ h9 => h9) rfl (by decide +kernel) rfl rfl (Nat.le_of_ble_eq_true rfl) dX0_write_52 (fun H locs hP hD hS => ?_)
        have hP : va_P (dC, dI) vwCl (wX cA ad (va_cpy st st q (b * 64) 64) ck nh tp tl cb cy nc of (wl - (nI 1)) (wd + 1)) H := hP
        have hD : va_D A (wX cA ad (va_cpy st st q (b * 64) 64) ck nh tp tl cb cy nc of (wl - (nI 1)) (wd + 1)) := hD
        have hpost : ((va_cpy st st q (b * 64) 64, nh, tp, tl, cb, cy, nc, of, wl - (nI 1), wd + 1) : XS) = (wrS st st wl q b, nh, tp, tl, cb, cy, nc, wrO of wl, wrL wl, wrD wl wd) := by simp only [wrS, wrO, wrL, wrD, if_pos c_4, if_neg c_17]
        exact W.vret hx hb hr (fun t ht hW => ⟨⟨(va_cpy st st q (b * 64) 64, nh, tp, tl, cb, cy, nc, of, wl - (nI 1), wd + 1), rfl, hpost, by rw [ht]; exact hP, va_K.moved hW.alike hK, hD⟩, hS.F ht⟩) hS.2.2 dX0_write_55
    · refine lv_aload_n hx hb dX0_write_7 rfl (lv_at hl 0 rfl) ?_
      refine lv_iconst (v := nI 1) hx hb dX0_write_8 (by decide) ?_
      refine va_put (D := (dC, dI)) (ci := 0) (v := .int (nI 1)) (ty := .boolean) (C := RX0) (T := TX0) (N := 11) hx hb hts hin tyX0 tyX0_ok nmX0 hown hK hP hD hS 0 rfl rfl 8 (by decide) (hts (.fieldLink RX0 85 "BlockJournal" "off" "Z") (by decide +kernel)) (fun _ h9 => h9) rfl (by decide +kernel) rfl rfl (Nat.le_of_ble_eq_true rfl) dX0_write_9 (fun H locs hP hD hS => ?_)
      have hP : va_P (dC, dI) vwCl (wX cA ad st ck nh tp tl cb cy nc (nI 1) wl wd) H := hP
      have hD : va_D A (wX cA ad st ck nh tp tl cb cy nc (nI 1) wl wd) := hD
      have hpost : ((st, nh, tp, tl, cb, cy, nc, nI 1, wl, wd) : XS) = (wrS st st wl q b, nh, tp, tl, cb, cy, nc, wrO of wl, wrL wl, wrD wl wd) := by simp only [wrS, wrO, wrL, wrD, if_neg (not_not_intro c_4)]
      exact W.vret hx hb hr (fun t ht hW => ⟨⟨(st, nh, tp, tl, cb, cy, nc, nI 1, wl, wd), rfl, hpost, by rw [ht]; exact hP, va_K.moved hW.alike hK, hD⟩, hS.F ht⟩) hS.2.2 dX0_write_12
  rw [hH, hlo] at goal
  exact goal

set_option maxHeartbeats 4000000 in
set_option maxRecDepth 100000 in
theorem c_X0_write_3 (l : Launch) (dC : Nat → ClassId) (dI : Nat → Nat → Nat) (cA : ClassId) (ad : Nat → Nat) (sz : Nat) (st ck nh tp : Nat → Int32) (tl : Int32) (cb cy : Nat → Int32) (nc of wl : Int32) (wd : Int64) (b q : Nat) (hb9 : b < 96) (hq : q + 64 ≤ 64) : Met l yX0_write wsX0_write ({ frames := 1, cells := 0, slots := 0, locals := 60 } : Room) (va_Pc [.ref (ad 0), .int (nI b), .ref (ad 3), .int (nI q)] (fun U => U.heap.size = sz ∧ va_P (dC, dI) vwCl (wX cA ad st ck nh tp tl cb cy nc of wl wd) U.heap ∧ va_K (dC, dI) vwCl [(cA, .int)] U ∧ va_D (fun _ => True) (wX cA ad st ck nh tp tl cb cy nc of wl wd))) (va_Qv (fun u : XS => u = (wrS nh st wl q b, nh, tp, tl, cb, cy, nc, wrO of wl, wrL wl, wrD wl wd)) (aX dC dI cA ad ck (va_A (wX cA ad st ck nh tp tl cb cy nc of wl wd) sz)) (va_A (wX cA ad st ck nh tp tl cb cy nc of wl wd) sz)) 0 0 (va_A (wX cA ad st ck nh tp tl cb cy nc of wl wd) sz) := by
  refine Met.ofW (cc := cX0_write) (maxL := 4) (ret := none) (by decide) rfl ?_
  intro p e s m args below meth c s₁ B hml hv
  obtain ⟨rfl, hsz, hP, hK, hD0⟩ := hv
  have hx := B.exec
  have hb := B.bytes
  have hr := B.returns
  have hts := atoms_spec (ws := wsX0_write) B.pre
  have hown : s.vm.findClass RX0 = some m.cls := findClass_of_methodNamed B.named
  have hlocks := B.notSynchronized
  have hin : ∀ w ∈ u_ws RX0 TX0 11, w ∈ wsX0_write := by decide +kernel
  subst hsz
  have hD := hD0.self (sz := s.heap.size)
  generalize hAe : va_A (wX cA ad st ck nh tp tl cb cy nc of wl wd) s.heap.size = A at hD ⊢
  have hA : ∀ q : Nat, s.heap.size ≤ q → A q := fun q h => by rw [← hAe]; exact Or.inr h
  obtain ⟨H, locs, hH, hlo, hS⟩ : ∃ (H : Heap) (locs : List Loc), H = s.heap ∧ locs = [] ∧ va_S A s.heap H locs := ⟨s.heap, [], rfl, rfl, va_S.rf⟩
  rw [← hH] at hP
  have hP : va_P (dC, dI) vwCl (wX cA ad st ck nh tp tl cb cy nc of wl wd) H := hP
  have hl := lv_entry ([.ref (ad 0), .int (nI b), .ref (ad 3), .int (nI q)]) (n := 4) (Nat.le_of_ble_eq_true rfl)
  rw [lg_entry_eq]
  generalize (lg_sl ([.ref (ad 0), .int (nI b), .ref (ad 3), .int (nI q)]) ++ List.replicate (4 - (lg_sl ([.ref (ad 0), .int (nI b), .ref (ad 3), .int (nI q)])).length) Slot.unset).toArray = ls at hl ⊢
  have goal : W p l e (headSpec wsX0_write ({ frames := 1, cells := 0, slots := 0, locals := 60 } : Room)).room s m ([.ref (ad 0), .int (nI b), .ref (ad 3), .int (nI q)] : List Value).toArray below meth c H locs 0 0 (MQ below (va_Qv (fun u : XS => u = (wrS nh st wl q b, nh, tp, tl, cb, cy, nc, wrO of wl, wrL wl, wrD wl wd)) (aX dC dI cA ad ck A) A) ([.ref (ad 0), .int (nI b), .ref (ad 3), .int (nI q)] : List Value).toArray s 0 0 A) (F0 m 0 ls []) := by
    clear hH hlo
    have hl : lv_has ls 4 [(0, .ref (ad 0)), (1, .int (nI b)), (2, .ref (ad 3)), (3, .int (nI q))] := hl
    refine lv_aload_n hx hb dX0_write_0 rfl (lv_at hl 0 rfl) ?_
    refine va_get (D := (dC, dI)) (ci := 0) (v := .int wl) (C := RX0) (T := TX0) (N := 11) hx hb hts hin hown hK hP 0 rfl rfl 9 (by decide) (hts (.fieldLink RX0 28 "BlockJournal" "writesLeft" "I") (by decide +kernel)) (fun _ h9 => h9) rfl dX0_write_1 ?_
    refine lv_if_ne (tgt := 13) hx hb dX0_write_4 (by decide) (fun c_4 => ?_) (fun c_4 => ?_)
    · refine lv_aload_n hx hb dX0_write_13 rfl (lv_at hl 0 rfl) ?_
      refine va_get (D := (dC, dI)) (ci := 0) (v := .int wl) (C := RX0) (T := TX0) (N := 11) hx hb hts hin hown hK hP 0 rfl rfl 9 (by decide) (hts (.fieldLink RX0 28 "BlockJournal" "writesLeft" "I") (by decide +kernel)) (fun _ h9 => h9) rfl dX0_write_14 ?_
      refine lv_if_le (tgt := 30) hx hb dX0_write_17 (by decide) (fun c_17 => ?_) (fun c_17 => ?_)
      · refine lv_aload_n hx hb dX0_write_30 rfl (lv_at hl 2 rfl) ?_
        refine lv_iload_n hx hb dX0_write_31 rfl (lv_at hl 3 rfl) ?_
        refine lv_aload_n hx hb dX0_write_32 rfl (lv_at hl 0 rfl) ?_
        refine va_get (D := (dC, dI)) (ci := 0) (v := .ref (ad 1)) (C := RX0) (T := TX0) (N := 11) hx hb hts hin hown hK hP 0 rfl rfl 0 (by decide) (hts (.fieldLink RX0 9 "BlockJournal" "store" "[I") (by decide +kernel)) (fun _ h9 => h9) rfl dX0_write_33 ?_
        refine lv_iload_n hx hb dX0_write_36 rfl (lv_at hl 1 rfl) ?_
        refine lv_bipush (v := nI 64) hx hb dX0_write_37 (by decide) ?_
        refine lv_imul hx hb dX0_write_39 ?_
        refine bj_i (pk_mul b 64) ?_
        refine lv_bipush (v := nI 64) hx hb dX0_write_40 (by decide) ?_
        refine va_copyi (D := (dC, dI)) hx hb (hml.trans hl.1.symm) hown (hts (.methodLink RX0 73 arraycopyName) (by decide +kernel)) (hts (.native arraycopyName) (by decide +kernel)) (hts (.static arraycopyName) (by decide +kernel)) (hts (.initialized "java/lang/System") (by decide +kernel)) hK hP hD hS 3 1 0 0 (c0 := cA) (c1 := cA) (n0 := 64) (n1 := 6144) (f := nh) (g := st) (ty := .int) rfl rfl rfl rfl rfl (sp := nI q) (dp := nI (b * 64)) (n := nI 64) (nI_pos (by omega)) (nI_pos (by omega)) (nI_pos (by omega)) (by rw [nI_clamp (by omega), nI_clamp (by omega)]; omega) (by rw [nI_clamp (by omega), nI_clamp (by omega)]; omega) (fun _ _ => rfl) (Nat.le_of_ble_eq_true rfl) (Nat.le_of_ble_eq_true rfl) dX0_write_42 (fun H locs hP hD hS => ?_)
        rw [nI_clamp (n := q) (by omega), nI_clamp (n := b * 64) (by omega), nI_clamp (n := 64) (by omega)] at hP hD
        have hP : va_P (dC, dI) vwCl (wX cA ad (va_cpy nh st q (b * 64) 64) ck nh tp tl cb cy nc of wl wd) H := hP
        have hD : va_D A (wX cA ad (va_cpy nh st q (b * 64) 64) ck nh tp tl cb cy nc of wl wd) := hD
        refine lv_aload_n hx hb dX0_write_45 rfl (lv_at hl 0 rfl) ?_
        refine lv_dup hx hb dX0_write_46 rfl ?_
        refine va_get (D := (dC, dI)) (ci := 0) (v := .long wd) (C := RX0) (T := TX0) (N := 11) hx hb hts hin hown hK hP 0 rfl rfl 10 (by decide) (hts (.fieldLink RX0 132 "BlockJournal" "writesDone" "J") (by decide +kernel)) (fun _ h9 => h9) rfl dX0_write_47 ?_
        refine lv_lconst (v := 1) hx hb dX0_write_50 (by decide) ?_
        refine lv_ladd hx hb dX0_write_51 ?_
        refine va_put (D := (dC, dI)) (ci := 0) (v := .long (wd + 1)) (ty := .long) (C := RX0) (T := TX0) (N := 11) hx hb hts hin tyX0 tyX0_ok nmX0 hown hK hP hD hS 0 rfl rfl 10 (by decide) (hts (.fieldLink RX0 132 "BlockJournal" "writesDone" "J") (by decide +kernel)) (fun _ h9 => h9) rfl (by decide +kernel) rfl rfl (Nat.le_of_ble_eq_true rfl) dX0_write_52 (fun H locs hP hD hS => ?_)
        have hP : va_P (dC, dI) vwCl (wX cA ad (va_cpy nh st q (b * 64) 64) ck nh tp tl cb cy nc of wl (wd + 1)) H := hP
        have hD : va_D A (wX cA ad (va_cpy nh st q (b * 64) 64) ck nh tp tl cb cy nc of wl (wd + 1)) := hD
        have hpost : ((va_cpy nh st q (b * 64) 64, nh, tp, tl, cb, cy, nc, of, wl, wd + 1) : XS) = (wrS nh st wl q b, nh, tp, tl, cb, cy, nc, wrO of wl, wrL wl, wrD wl wd) := by simp only [wrS, wrO, wrL, wrD, if_pos c_4, if_pos c_17]
        exact W.vret hx hb hr (fun t ht hW => ⟨⟨(va_cpy nh st q (b * 64) 64, nh, tp, tl, cb, cy, nc, of, wl, wd + 1), rfl, hpost, by rw [ht]; exact hP, va_K.moved hW.alike hK, hD⟩, hS.F ht⟩) hS.2.2 dX0_write_55
      · refine lv_aload_n hx hb dX0_write_20 rfl (lv_at hl 0 rfl) ?_
        refine lv_dup hx hb dX0_write_21 rfl ?_
        refine va_get (D := (dC, dI)) (ci := 0) (v := .int wl) (C := RX0) (T := TX0) (N := 11) hx hb hts hin hown hK hP 0 rfl rfl 9 (by decide) (hts (.fieldLink RX0 28 "BlockJournal" "writesLeft" "I") (by decide +kernel)) (fun _ h9 => h9) rfl dX0_write_22 ?_
        refine lv_iconst (v := nI 1) hx hb dX0_write_25 (by decide) ?_
        refine lv_isub hx hb dX0_write_26 ?_
        refine va_put (D := (dC, dI)) (ci := 0) (v := .int (wl - (nI 1))) (ty := .int) (C := RX0) (T := TX0) (N := 11) hx hb hts hin tyX0 tyX0_ok nmX0 hown hK hP hD hS 0 rfl rfl 9 (by decide) (hts (.fieldLink RX0 28 "BlockJournal" "writesLeft" "I") (by decide +kernel)) (fun _ h9 => h9) rfl (by decide +kernel) rfl rfl (Nat.le_of_ble_eq_true rfl) dX0_write_27 (fun H locs hP hD hS => ?_)
        have hP : va_P (dC, dI) vwCl (wX cA ad st ck nh tp tl cb cy nc of (wl - (nI 1)) wd) H := hP
        have hD : va_D A (wX cA ad st ck nh tp tl cb cy nc of (wl - (nI 1)) wd) := hD
        refine lv_aload_n hx hb dX0_write_30 rfl (lv_at hl 2 rfl) ?_
        refine lv_iload_n hx hb dX0_write_31 rfl (lv_at hl 3 rfl) ?_
        refine lv_aload_n hx hb dX0_write_32 rfl (lv_at hl 0 rfl) ?_
        refine va_get (D := (dC, dI)) (ci := 0) (v := .ref (ad 1)) (C := RX0) (T := TX0) (N := 11) hx hb hts hin hown hK hP 0 rfl rfl 0 (by decide) (hts (.fieldLink RX0 9 "BlockJournal" "store" "[I") (by decide +kernel)) (fun _ h9 => h9) rfl dX0_write_33 ?_
        refine lv_iload_n hx hb dX0_write_36 rfl (lv_at hl 1 rfl) ?_
        refine lv_bipush (v := nI 64) hx hb dX0_write_37 (by decide) ?_
        refine lv_imul hx hb dX0_write_39 ?_
        refine bj_i (pk_mul b 64) ?_
        refine lv_bipush (v := nI 64) hx hb dX0_write_40 (by decide) ?_
        refine va_copyi (D := (dC, dI)) hx hb (hml.trans hl.1.symm) hown (hts (.methodLink RX0 73 arraycopyName) (by decide +kernel)) (hts (.native arraycopyName) (by decide +kernel)) (hts (.static arraycopyName) (by decide +kernel)) (hts (.initialized "java/lang/System") (by decide +kernel)) hK hP hD hS 3 1 0 0 (c0 := cA) (c1 := cA) (n0 := 64) (n1 := 6144) (f := nh) (g := st) (ty := .int) rfl rfl rfl rfl rfl (sp := nI q) (dp := nI (b * 64)) (n := nI 64) (nI_pos (by omega)) (nI_pos (by omega)) (nI_pos (by omega)) (by rw [nI_clamp (by omega), nI_clamp (by omega)]; omega) (by rw [nI_clamp (by omega), nI_clamp (by omega)]; omega) (fun _ _ => rfl) (Nat.le_of_ble_eq_true rfl) (Nat.le_of_ble_eq_true rfl) dX0_write_42 (fun H locs hP hD hS => ?_)
        rw [nI_clamp (n := q) (by omega), nI_clamp (n := b * 64) (by omega), nI_clamp (n := 64) (by omega)] at hP hD
        have hP : va_P (dC, dI) vwCl (wX cA ad (va_cpy nh st q (b * 64) 64) ck nh tp tl cb cy nc of (wl - (nI 1)) wd) H := hP
        have hD : va_D A (wX cA ad (va_cpy nh st q (b * 64) 64) ck nh tp tl cb cy nc of (wl - (nI 1)) wd) := hD
        refine lv_aload_n hx hb dX0_write_45 rfl (lv_at hl 0 rfl) ?_
        refine lv_dup hx hb dX0_write_46 rfl ?_
        refine va_get (D := (dC, dI)) (ci := 0) (v := .long wd) (C := RX0) (T := TX0) (N := 11) hx hb hts hin hown hK hP 0 rfl rfl 10 (by decide) (hts (.fieldLink RX0 132 "BlockJournal" "writesDone" "J") (by decide +kernel)) (fun _ h9 => h9) rfl dX0_write_47 ?_
        refine lv_lconst (v := 1) hx hb dX0_write_50 (by decide) ?_
        refine lv_ladd hx hb dX0_write_51 ?_
        refine va_put (D := (dC, dI)) (ci := 0) (v := .long (wd + 1)) (ty := .long) (C := RX0) (T := TX0) (N := 11) hx hb hts hin tyX0 tyX0_ok nmX0 hown hK hP hD hS 0 rfl rfl 10 (by decide) (hts (.fieldLink RX0 132 "BlockJournal" "writesDone" "J") (by decide +kernel)) (fun _ h9 => h9) rfl (by decide +kernel) rfl rfl (Nat.le_of_ble_eq_true rfl) dX0_write_52 (fun H locs hP hD hS => ?_)
        have hP : va_P (dC, dI) vwCl (wX cA ad (va_cpy nh st q (b * 64) 64) ck nh tp tl cb cy nc of (wl - (nI 1)) (wd + 1)) H := hP
        have hD : va_D A (wX cA ad (va_cpy nh st q (b * 64) 64) ck nh tp tl cb cy nc of (wl - (nI 1)) (wd + 1)) := hD
        have hpost : ((va_cpy nh st q (b * 64) 64, nh, tp, tl, cb, cy, nc, of, wl - (nI 1), wd + 1) : XS) = (wrS nh st wl q b, nh, tp, tl, cb, cy, nc, wrO of wl, wrL wl, wrD wl wd) := by simp only [wrS, wrO, wrL, wrD, if_pos c_4, if_neg c_17]
        exact W.vret hx hb hr (fun t ht hW => ⟨⟨(va_cpy nh st q (b * 64) 64, nh, tp, tl, cb, cy, nc, of, wl - (nI 1), wd + 1), rfl, hpost, by rw [ht]; exact hP, va_K.moved hW.alike hK, hD⟩, hS.F ht⟩) hS.2.2 dX0_write_55
    · refine lv_aload_n hx hb dX0_write_7 rfl (lv_at hl 0 rfl) ?_
      refine lv_iconst (v := nI 1) hx hb dX0_write_8 (by decide) ?_
      refine va_put (D := (dC, dI)) (ci := 0) (v := .int (nI 1)) (ty := .boolean) (C := RX0) (T := TX0) (N := 11) hx hb hts hin tyX0 tyX0_ok nmX0 hown hK hP hD hS 0 rfl rfl 8 (by decide) (hts (.fieldLink RX0 85 "BlockJournal" "off" "Z") (by decide +kernel)) (fun _ h9 => h9) rfl (by decide +kernel) rfl rfl (Nat.le_of_ble_eq_true rfl) dX0_write_9 (fun H locs hP hD hS => ?_)
      have hP : va_P (dC, dI) vwCl (wX cA ad st ck nh tp tl cb cy nc (nI 1) wl wd) H := hP
      have hD : va_D A (wX cA ad st ck nh tp tl cb cy nc (nI 1) wl wd) := hD
      have hpost : ((st, nh, tp, tl, cb, cy, nc, nI 1, wl, wd) : XS) = (wrS nh st wl q b, nh, tp, tl, cb, cy, nc, wrO of wl, wrL wl, wrD wl wd) := by simp only [wrS, wrO, wrL, wrD, if_neg (not_not_intro c_4)]
      exact W.vret hx hb hr (fun t ht hW => ⟨⟨(st, nh, tp, tl, cb, cy, nc, nI 1, wl, wd), rfl, hpost, by rw [ht]; exact hP, va_K.moved hW.alike hK, hD⟩, hS.F ht⟩) hS.2.2 dX0_write_12
  rw [hH, hlo] at goal
  exact goal

set_option maxHeartbeats 4000000 in
set_option maxRecDepth 100000 in
theorem c_X0_write_6 (l : Launch) (dC : Nat → ClassId) (dI : Nat → Nat → Nat) (cA : ClassId) (ad : Nat → Nat) (sz : Nat) (st ck nh tp : Nat → Int32) (tl : Int32) (cb cy : Nat → Int32) (nc of wl : Int32) (wd : Int64) (b q : Nat) (hb9 : b < 96) (hq : q + 64 ≤ 1536) : Met l yX0_write wsX0_write ({ frames := 1, cells := 0, slots := 0, locals := 60 } : Room) (va_Pc [.ref (ad 0), .int (nI b), .ref (ad 6), .int (nI q)] (fun U => U.heap.size = sz ∧ va_P (dC, dI) vwCl (wX cA ad st ck nh tp tl cb cy nc of wl wd) U.heap ∧ va_K (dC, dI) vwCl [(cA, .int)] U ∧ va_D (fun _ => True) (wX cA ad st ck nh tp tl cb cy nc of wl wd))) (va_Qv (fun u : XS => u = (wrS cy st wl q b, nh, tp, tl, cb, cy, nc, wrO of wl, wrL wl, wrD wl wd)) (aX dC dI cA ad ck (va_A (wX cA ad st ck nh tp tl cb cy nc of wl wd) sz)) (va_A (wX cA ad st ck nh tp tl cb cy nc of wl wd) sz)) 0 0 (va_A (wX cA ad st ck nh tp tl cb cy nc of wl wd) sz) := by
  refine Met.ofW (cc := cX0_write) (maxL := 4) (ret := none) (by decide) rfl ?_
  intro p e s m args below meth c s₁ B hml hv
  obtain ⟨rfl, hsz, hP, hK, hD0⟩ := hv
  have hx := B.exec
  have hb := B.bytes
  have hr := B.returns
  have hts := atoms_spec (ws := wsX0_write) B.pre
  have hown : s.vm.findClass RX0 = some m.cls := findClass_of_methodNamed B.named
  have hlocks := B.notSynchronized
  have hin : ∀ w ∈ u_ws RX0 TX0 11, w ∈ wsX0_write := by decide +kernel
  subst hsz
  have hD := hD0.self (sz := s.heap.size)
  generalize hAe : va_A (wX cA ad st ck nh tp tl cb cy nc of wl wd) s.heap.size = A at hD ⊢
  have hA : ∀ q : Nat, s.heap.size ≤ q → A q := fun q h => by rw [← hAe]; exact Or.inr h
  obtain ⟨H, locs, hH, hlo, hS⟩ : ∃ (H : Heap) (locs : List Loc), H = s.heap ∧ locs = [] ∧ va_S A s.heap H locs := ⟨s.heap, [], rfl, rfl, va_S.rf⟩
  rw [← hH] at hP
  have hP : va_P (dC, dI) vwCl (wX cA ad st ck nh tp tl cb cy nc of wl wd) H := hP
  have hl := lv_entry ([.ref (ad 0), .int (nI b), .ref (ad 6), .int (nI q)]) (n := 4) (Nat.le_of_ble_eq_true rfl)
  rw [lg_entry_eq]
  generalize (lg_sl ([.ref (ad 0), .int (nI b), .ref (ad 6), .int (nI q)]) ++ List.replicate (4 - (lg_sl ([.ref (ad 0), .int (nI b), .ref (ad 6), .int (nI q)])).length) Slot.unset).toArray = ls at hl ⊢
  have goal : W p l e (headSpec wsX0_write ({ frames := 1, cells := 0, slots := 0, locals := 60 } : Room)).room s m ([.ref (ad 0), .int (nI b), .ref (ad 6), .int (nI q)] : List Value).toArray below meth c H locs 0 0 (MQ below (va_Qv (fun u : XS => u = (wrS cy st wl q b, nh, tp, tl, cb, cy, nc, wrO of wl, wrL wl, wrD wl wd)) (aX dC dI cA ad ck A) A) ([.ref (ad 0), .int (nI b), .ref (ad 6), .int (nI q)] : List Value).toArray s 0 0 A) (F0 m 0 ls []) := by
    clear hH hlo
    have hl : lv_has ls 4 [(0, .ref (ad 0)), (1, .int (nI b)), (2, .ref (ad 6)), (3, .int (nI q))] := hl
    refine lv_aload_n hx hb dX0_write_0 rfl (lv_at hl 0 rfl) ?_
    refine va_get (D := (dC, dI)) (ci := 0) (v := .int wl) (C := RX0) (T := TX0) (N := 11) hx hb hts hin hown hK hP 0 rfl rfl 9 (by decide) (hts (.fieldLink RX0 28 "BlockJournal" "writesLeft" "I") (by decide +kernel)) (fun _ h9 => h9) rfl dX0_write_1 ?_
    refine lv_if_ne (tgt := 13) hx hb dX0_write_4 (by decide) (fun c_4 => ?_) (fun c_4 => ?_)
    · refine lv_aload_n hx hb dX0_write_13 rfl (lv_at hl 0 rfl) ?_
      refine va_get (D := (dC, dI)) (ci := 0) (v := .int wl) (C := RX0) (T := TX0) (N := 11) hx hb hts hin hown hK hP 0 rfl rfl 9 (by decide) (hts (.fieldLink RX0 28 "BlockJournal" "writesLeft" "I") (by decide +kernel)) (fun _ h9 => h9) rfl dX0_write_14 ?_
      refine lv_if_le (tgt := 30) hx hb dX0_write_17 (by decide) (fun c_17 => ?_) (fun c_17 => ?_)
      · refine lv_aload_n hx hb dX0_write_30 rfl (lv_at hl 2 rfl) ?_
        refine lv_iload_n hx hb dX0_write_31 rfl (lv_at hl 3 rfl) ?_
        refine lv_aload_n hx hb dX0_write_32 rfl (lv_at hl 0 rfl) ?_
        refine va_get (D := (dC, dI)) (ci := 0) (v := .ref (ad 1)) (C := RX0) (T := TX0) (N := 11) hx hb hts hin hown hK hP 0 rfl rfl 0 (by decide) (hts (.fieldLink RX0 9 "BlockJournal" "store" "[I") (by decide +kernel)) (fun _ h9 => h9) rfl dX0_write_33 ?_
        refine lv_iload_n hx hb dX0_write_36 rfl (lv_at hl 1 rfl) ?_
        refine lv_bipush (v := nI 64) hx hb dX0_write_37 (by decide) ?_
        refine lv_imul hx hb dX0_write_39 ?_
        refine bj_i (pk_mul b 64) ?_
        refine lv_bipush (v := nI 64) hx hb dX0_write_40 (by decide) ?_
        refine va_copyi (D := (dC, dI)) hx hb (hml.trans hl.1.symm) hown (hts (.methodLink RX0 73 arraycopyName) (by decide +kernel)) (hts (.native arraycopyName) (by decide +kernel)) (hts (.static arraycopyName) (by decide +kernel)) (hts (.initialized "java/lang/System") (by decide +kernel)) hK hP hD hS 6 1 0 0 (c0 := cA) (c1 := cA) (n0 := 1536) (n1 := 6144) (f := cy) (g := st) (ty := .int) rfl rfl rfl rfl rfl (sp := nI q) (dp := nI (b * 64)) (n := nI 64) (nI_pos (by omega)) (nI_pos (by omega)) (nI_pos (by omega)) (by rw [nI_clamp (by omega), nI_clamp (by omega)]; omega) (by rw [nI_clamp (by omega), nI_clamp (by omega)]; omega) (fun _ _ => rfl) (Nat.le_of_ble_eq_true rfl) (Nat.le_of_ble_eq_true rfl) dX0_write_42 (fun H locs hP hD hS => ?_)
        rw [nI_clamp (n := q) (by omega), nI_clamp (n := b * 64) (by omega), nI_clamp (n := 64) (by omega)] at hP hD
        have hP : va_P (dC, dI) vwCl (wX cA ad (va_cpy cy st q (b * 64) 64) ck nh tp tl cb cy nc of wl wd) H := hP
        have hD : va_D A (wX cA ad (va_cpy cy st q (b * 64) 64) ck nh tp tl cb cy nc of wl wd) := hD
        refine lv_aload_n hx hb dX0_write_45 rfl (lv_at hl 0 rfl) ?_
        refine lv_dup hx hb dX0_write_46 rfl ?_
        refine va_get (D := (dC, dI)) (ci := 0) (v := .long wd) (C := RX0) (T := TX0) (N := 11) hx hb hts hin hown hK hP 0 rfl rfl 10 (by decide) (hts (.fieldLink RX0 132 "BlockJournal" "writesDone" "J") (by decide +kernel)) (fun _ h9 => h9) rfl dX0_write_47 ?_
        refine lv_lconst (v := 1) hx hb dX0_write_50 (by decide) ?_
        refine lv_ladd hx hb dX0_write_51 ?_
        refine va_put (D := (dC, dI)) (ci := 0) (v := .long (wd + 1)) (ty := .long) (C := RX0) (T := TX0) (N := 11) hx hb hts hin tyX0 tyX0_ok nmX0 hown hK hP hD hS 0 rfl rfl 10 (by decide) (hts (.fieldLink RX0 132 "BlockJournal" "writesDone" "J") (by decide +kernel)) (fun _ h9 => h9) rfl (by decide +kernel) rfl rfl (Nat.le_of_ble_eq_true rfl) dX0_write_52 (fun H locs hP hD hS => ?_)
        have hP : va_P (dC, dI) vwCl (wX cA ad (va_cpy cy st q (b * 64) 64) ck nh tp tl cb cy nc of wl (wd + 1)) H := hP
        have hD : va_D A (wX cA ad (va_cpy cy st q (b * 64) 64) ck nh tp tl cb cy nc of wl (wd + 1)) := hD
        have hpost : ((va_cpy cy st q (b * 64) 64, nh, tp, tl, cb, cy, nc, of, wl, wd + 1) : XS) = (wrS cy st wl q b, nh, tp, tl, cb, cy, nc, wrO of wl, wrL wl, wrD wl wd) := by simp only [wrS, wrO, wrL, wrD, if_pos c_4, if_pos c_17]
        exact W.vret hx hb hr (fun t ht hW => ⟨⟨(va_cpy cy st q (b * 64) 64, nh, tp, tl, cb, cy, nc, of, wl, wd + 1), rfl, hpost, by rw [ht]; exact hP, va_K.moved hW.alike hK, hD⟩, hS.F ht⟩) hS.2.2 dX0_write_55
      · refine lv_aload_n hx hb dX0_write_20 rfl (lv_at hl 0 rfl) ?_
        refine lv_dup hx hb dX0_write_21 rfl ?_
        refine va_get (D := (dC, dI)) (ci := 0) (v := .int wl) (C := RX0) (T := TX0) (N := 11) hx hb hts hin hown hK hP 0 rfl rfl 9 (by decide) (hts (.fieldLink RX0 28 "BlockJournal" "writesLeft" "I") (by decide +kernel)) (fun _ h9 => h9) rfl dX0_write_22 ?_
        refine lv_iconst (v := nI 1) hx hb dX0_write_25 (by decide) ?_
        refine lv_isub hx hb dX0_write_26 ?_
        refine va_put (D := (dC, dI)) (ci := 0) (v := .int (wl - (nI 1))) (ty := .int) (C := RX0) (T := TX0) (N := 11) hx hb hts hin tyX0 tyX0_ok nmX0 hown hK hP hD hS 0 rfl rfl 9 (by decide) (hts (.fieldLink RX0 28 "BlockJournal" "writesLeft" "I") (by decide +kernel)) (fun _ h9 => h9) rfl (by decide +kernel) rfl rfl (Nat.le_of_ble_eq_true rfl) dX0_write_27 (fun H locs hP hD hS => ?_)
        have hP : va_P (dC, dI) vwCl (wX cA ad st ck nh tp tl cb cy nc of (wl - (nI 1)) wd) H := hP
        have hD : va_D A (wX cA ad st ck nh tp tl cb cy nc of (wl - (nI 1)) wd) := hD
        refine lv_aload_n hx hb dX0_write_30 rfl (lv_at hl 2 rfl) ?_
        refine lv_iload_n hx hb dX0_write_31 rfl (lv_at hl 3 rfl) ?_
        refine lv_aload_n hx hb dX0_write_32 rfl (lv_at hl 0 rfl) ?_
        refine va_get (D := (dC, dI)) (ci := 0) (v := .ref (ad 1)) (C := RX0) (T := TX0) (N := 11) hx hb hts hin hown hK hP 0 rfl rfl 0 (by decide) (hts (.fieldLink RX0 9 "BlockJournal" "store" "[I") (by decide +kernel)) (fun _ h9 => h9) rfl dX0_write_33 ?_
        refine lv_iload_n hx hb dX0_write_36 rfl (lv_at hl 1 rfl) ?_
        refine lv_bipush (v := nI 64) hx hb dX0_write_37 (by decide) ?_
        refine lv_imul hx hb dX0_write_39 ?_
        refine bj_i (pk_mul b 64) ?_
        refine lv_bipush (v := nI 64) hx hb dX0_write_40 (by decide) ?_
        refine va_copyi (D := (dC, dI)) hx hb (hml.trans hl.1.symm) hown (hts (.methodLink RX0 73 arraycopyName) (by decide +kernel)) (hts (.native arraycopyName) (by decide +kernel)) (hts (.static arraycopyName) (by decide +kernel)) (hts (.initialized "java/lang/System") (by decide +kernel)) hK hP hD hS 6 1 0 0 (c0 := cA) (c1 := cA) (n0 := 1536) (n1 := 6144) (f := cy) (g := st) (ty := .int) rfl rfl rfl rfl rfl (sp := nI q) (dp := nI (b * 64)) (n := nI 64) (nI_pos (by omega)) (nI_pos (by omega)) (nI_pos (by omega)) (by rw [nI_clamp (by omega), nI_clamp (by omega)]; omega) (by rw [nI_clamp (by omega), nI_clamp (by omega)]; omega) (fun _ _ => rfl) (Nat.le_of_ble_eq_true rfl) (Nat.le_of_ble_eq_true rfl) dX0_write_42 (fun H locs hP hD hS => ?_)
        rw [nI_clamp (n := q) (by omega), nI_clamp (n := b * 64) (by omega), nI_clamp (n := 64) (by omega)] at hP hD
        have hP : va_P (dC, dI) vwCl (wX cA ad (va_cpy cy st q (b * 64) 64) ck nh tp tl cb cy nc of (wl - (nI 1)) wd) H := hP
        have hD : va_D A (wX cA ad (va_cpy cy st q (b * 64) 64) ck nh tp tl cb cy nc of (wl - (nI 1)) wd) := hD
        refine lv_aload_n hx hb dX0_write_45 rfl (lv_at hl 0 rfl) ?_
        refine lv_dup hx hb dX0_write_46 rfl ?_
        refine va_get (D := (dC, dI)) (ci := 0) (v := .long wd) (C := RX0) (T := TX0) (N := 11) hx hb hts hin hown hK hP 0 rfl rfl 10 (by decide) (hts (.fieldLink RX0 132 "BlockJournal" "writesDone" "J") (by decide +kernel)) (fun _ h9 => h9) rfl dX0_write_47 ?_
        refine lv_lconst (v := 1) hx hb dX0_write_50 (by decide) ?_
        refine lv_ladd hx hb dX0_write_51 ?_
        refine va_put (D := (dC, dI)) (ci := 0) (v := .long (wd + 1)) (ty := .long) (C := RX0) (T := TX0) (N := 11) hx hb hts hin tyX0 tyX0_ok nmX0 hown hK hP hD hS 0 rfl rfl 10 (by decide) (hts (.fieldLink RX0 132 "BlockJournal" "writesDone" "J") (by decide +kernel)) (fun _ h9 => h9) rfl (by decide +kernel) rfl rfl (Nat.le_of_ble_eq_true rfl) dX0_write_52 (fun H locs hP hD hS => ?_)
        have hP : va_P (dC, dI) vwCl (wX cA ad (va_cpy cy st q (b * 64) 64) ck nh tp tl cb cy nc of (wl - (nI 1)) (wd + 1)) H := hP
        have hD : va_D A (wX cA ad (va_cpy cy st q (b * 64) 64) ck nh tp tl cb cy nc of (wl - (nI 1)) (wd + 1)) := hD
        have hpost : ((va_cpy cy st q (b * 64) 64, nh, tp, tl, cb, cy, nc, of, wl - (nI 1), wd + 1) : XS) = (wrS cy st wl q b, nh, tp, tl, cb, cy, nc, wrO of wl, wrL wl, wrD wl wd) := by simp only [wrS, wrO, wrL, wrD, if_pos c_4, if_neg c_17]
        exact W.vret hx hb hr (fun t ht hW => ⟨⟨(va_cpy cy st q (b * 64) 64, nh, tp, tl, cb, cy, nc, of, wl - (nI 1), wd + 1), rfl, hpost, by rw [ht]; exact hP, va_K.moved hW.alike hK, hD⟩, hS.F ht⟩) hS.2.2 dX0_write_55
    · refine lv_aload_n hx hb dX0_write_7 rfl (lv_at hl 0 rfl) ?_
      refine lv_iconst (v := nI 1) hx hb dX0_write_8 (by decide) ?_
      refine va_put (D := (dC, dI)) (ci := 0) (v := .int (nI 1)) (ty := .boolean) (C := RX0) (T := TX0) (N := 11) hx hb hts hin tyX0 tyX0_ok nmX0 hown hK hP hD hS 0 rfl rfl 8 (by decide) (hts (.fieldLink RX0 85 "BlockJournal" "off" "Z") (by decide +kernel)) (fun _ h9 => h9) rfl (by decide +kernel) rfl rfl (Nat.le_of_ble_eq_true rfl) dX0_write_9 (fun H locs hP hD hS => ?_)
      have hP : va_P (dC, dI) vwCl (wX cA ad st ck nh tp tl cb cy nc (nI 1) wl wd) H := hP
      have hD : va_D A (wX cA ad st ck nh tp tl cb cy nc (nI 1) wl wd) := hD
      have hpost : ((st, nh, tp, tl, cb, cy, nc, nI 1, wl, wd) : XS) = (wrS cy st wl q b, nh, tp, tl, cb, cy, nc, wrO of wl, wrL wl, wrD wl wd) := by simp only [wrS, wrO, wrL, wrD, if_neg (not_not_intro c_4)]
      exact W.vret hx hb hr (fun t ht hW => ⟨⟨(st, nh, tp, tl, cb, cy, nc, nI 1, wl, wd), rfl, hpost, by rw [ht]; exact hP, va_K.moved hW.alike hK, hD⟩, hS.F ht⟩) hS.2.2 dX0_write_12
  rw [hH, hlo] at goal
  exact goal

set_option maxHeartbeats 4000000 in
set_option maxRecDepth 100000 in
theorem c_X0_setWord (l : Launch) (dC : Nat → ClassId) (dI : Nat → Nat → Nat) (cA : ClassId) (ad : Nat → Nat) (sz : Nat) (st ck nh tp : Nat → Int32) (tl : Int32) (cb cy : Nat → Int32) (nc of wl : Int32) (wd : Int64) (q : Nat) (w : Int32) (hq : q ≤ 60) : Met l yX0_setWord wsX0_setWord ({ frames := 0, cells := 0, slots := 0, locals := 0 } : Room) (va_Pc [.ref (ad 0), .int (nI q), .int w] (fun U => U.heap.size = sz ∧ va_P (dC, dI) vwCl (wX cA ad st ck nh tp tl cb cy nc of wl wd) U.heap ∧ va_K (dC, dI) vwCl [(cA, .int)] U ∧ va_D (fun _ => True) (wX cA ad st ck nh tp tl cb cy nc of wl wd))) (va_Qv (fun u : XS => u = (st, swF nh q w 4, tp, tl, cb, cy, nc, of, wl, wd)) (aX dC dI cA ad ck (va_A (wX cA ad st ck nh tp tl cb cy nc of wl wd) sz)) (va_A (wX cA ad st ck nh tp tl cb cy nc of wl wd) sz)) 0 0 (va_A (wX cA ad st ck nh tp tl cb cy nc of wl wd) sz) := by
  refine Met.ofW (cc := cX0_setWord) (maxL := 4) (ret := none) (by decide) rfl ?_
  intro p e s m args below meth c s₁ B hml hv
  obtain ⟨rfl, hsz, hP, hK, hD0⟩ := hv
  have hx := B.exec
  have hb := B.bytes
  have hr := B.returns
  have hts := atoms_spec (ws := wsX0_setWord) B.pre
  have hown : s.vm.findClass RX0 = some m.cls := findClass_of_methodNamed B.named
  have hlocks := B.notSynchronized
  have hin : ∀ w ∈ u_ws RX0 TX0 11, w ∈ wsX0_setWord := by decide +kernel
  subst hsz
  have hD := hD0.self (sz := s.heap.size)
  generalize hAe : va_A (wX cA ad st ck nh tp tl cb cy nc of wl wd) s.heap.size = A at hD ⊢
  have hA : ∀ q : Nat, s.heap.size ≤ q → A q := fun q h => by rw [← hAe]; exact Or.inr h
  obtain ⟨H, locs, hH, hlo, hS⟩ : ∃ (H : Heap) (locs : List Loc), H = s.heap ∧ locs = [] ∧ va_S A s.heap H locs := ⟨s.heap, [], rfl, rfl, va_S.rf⟩
  rw [← hH] at hP
  have hP : va_P (dC, dI) vwCl (wX cA ad st ck nh tp tl cb cy nc of wl wd) H := hP
  have hl := lv_entry ([.ref (ad 0), .int (nI q), .int w]) (n := 4) (Nat.le_of_ble_eq_true rfl)
  rw [lg_entry_eq]
  generalize (lg_sl ([.ref (ad 0), .int (nI q), .int w]) ++ List.replicate (4 - (lg_sl ([.ref (ad 0), .int (nI q), .int w])).length) Slot.unset).toArray = ls at hl ⊢
  have goal : W p l e (headSpec wsX0_setWord ({ frames := 0, cells := 0, slots := 0, locals := 0 } : Room)).room s m ([.ref (ad 0), .int (nI q), .int w] : List Value).toArray below meth c H locs 0 0 (MQ below (va_Qv (fun u : XS => u = (st, swF nh q w 4, tp, tl, cb, cy, nc, of, wl, wd)) (aX dC dI cA ad ck A) A) ([.ref (ad 0), .int (nI q), .int w] : List Value).toArray s 0 0 A) (F0 m 0 ls []) := by
    clear hH hlo
    have hl : lv_has ls 4 [(0, .ref (ad 0)), (1, .int (nI q)), (2, .int w)] := hl
    refine lv_iconst (v := nI 0) hx hb dX0_setWord_0 (by decide) ?_
    refine lv_istore_n (lv' := [(3, .int (nI 0)), (0, .ref (ad 0)), (1, .int (nI q)), (2, .int w)]) hx hb dX0_setWord_1 rfl hl (by decide) rfl (fun ls hl => ?_)
    have loop_2 : ∀ (k : Nat) (i : Nat), i + k = 4 → ∀ (H : Heap) (locs : List Loc) (ls : Array Slot), va_P (dC, dI) vwCl (wX cA ad st ck (swF nh q w i) tp tl cb cy nc of wl wd) H → va_D A (wX cA ad st ck (swF nh q w i) tp tl cb cy nc of wl wd) → va_S A s.heap H locs → lv_has ls 4 [(0, .ref (ad 0)), (1, .int (nI q)), (2, .int w), (3, .int (nI i))] → W p l e (headSpec wsX0_setWord ({ frames := 0, cells := 0, slots := 0, locals := 0 } : Room)).room s m ([.ref (ad 0), .int (nI q), .int w] : List Value).toArray below meth c H locs 0 0 (MQ below (va_Qv (fun u : XS => u = (st, swF nh q w 4, tp, tl, cb, cy, nc, of, wl, wd)) (aX dC dI cA ad ck A) A) ([.ref (ad 0), .int (nI q), .int w] : List Value).toArray s 0 0 A) (F0 m 2 ls []) := by
      intro k
      induction k with
      | zero =>
        intro i hk H locs ls hP hD hS hl
        refine lv_iload_n hx hb dX0_setWord_2 rfl (lv_at hl 3 rfl) ?_
        refine lv_iconst (v := nI 4) hx hb dX0_setWord_3 (by decide) ?_
        refine lv_icmp_ge (tgt := 31) hx hb dX0_setWord_4 (by decide) (fun c_4 => ?_) (fun c_4 => ?_)
        · have n_4 : 4 ≤ i := (nI_leI (by omega) (by omega)).mp c_4
          have hpost : ((st, swF nh q w i, tp, tl, cb, cy, nc, of, wl, wd) : XS) = (st, swF nh q w 4, tp, tl, cb, cy, nc, of, wl, wd) := by rw [show i = 4 by omega]
          exact W.vret hx hb hr (fun t ht hW => ⟨⟨(st, swF nh q w i, tp, tl, cb, cy, nc, of, wl, wd), rfl, hpost, by rw [ht]; exact hP, va_K.moved hW.alike hK, hD⟩, hS.F ht⟩) hS.2.2 dX0_setWord_31
        · have n_4 : ¬ 4 ≤ i := fun h => c_4 ((nI_leI (by omega) (by omega)).mpr h)
          exfalso; omega
      | succ k ih =>
        intro i hk H locs ls hP hD hS hl
        refine lv_iload_n hx hb dX0_setWord_2 rfl (lv_at hl 3 rfl) ?_
        refine lv_iconst (v := nI 4) hx hb dX0_setWord_3 (by decide) ?_
        refine lv_icmp_ge (tgt := 31) hx hb dX0_setWord_4 (by decide) (fun c_4 => ?_) (fun c_4 => ?_)
        · have n_4 : 4 ≤ i := (nI_leI (by omega) (by omega)).mp c_4
          exfalso; omega
        · have n_4 : ¬ 4 ≤ i := fun h => c_4 ((nI_leI (by omega) (by omega)).mpr h)
          refine lv_aload_n hx hb dX0_setWord_7 rfl (lv_at hl 0 rfl) ?_
          refine va_get (D := (dC, dI)) (ci := 0) (v := .ref (ad 3)) (C := RX0) (T := TX0) (N := 11) hx hb hts hin hown hK hP 0 rfl rfl 2 (by decide) (hts (.fieldLink RX0 16 "BlockJournal" "newHead" "[I") (by decide +kernel)) (fun _ h9 => h9) rfl dX0_setWord_8 ?_
          refine lv_iload_n hx hb dX0_setWord_11 rfl (lv_at hl 1 rfl) ?_
          refine lv_iload_n hx hb dX0_setWord_12 rfl (lv_at hl 3 rfl) ?_
          refine lv_iadd hx hb dX0_setWord_13 ?_
          refine bj_i (nI_add q i) ?_
          refine lv_iload_n hx hb dX0_setWord_14 rfl (lv_at hl 2 rfl) ?_
          refine lv_bipush (v := nI 8) hx hb dX0_setWord_15 (by decide) ?_
          refine lv_iload_n hx hb dX0_setWord_17 rfl (lv_at hl 3 rfl) ?_
          refine lv_imul hx hb dX0_setWord_18 ?_
          refine bj_i (pk_mul 8 i) ?_
          refine lv_iushr hx hb dX0_setWord_19 rfl ?_
          refine lv_sipush (v := nI 255) hx hb dX0_setWord_20 (by decide) ?_
          refine lv_iand hx hb dX0_setWord_23 ?_
          refine va_iast (D := (dC, dI)) hx hb hK hP hD hS 3 0 (cA := cA) (n := 64) (f := (swF nh q w i)) rfl rfl (i := (nI (q + i))) (vp_in_nI (by omega) (by omega)) dX0_setWord_24 (fun H locs hP hD hS => ?_)
          rw [nI_clamp (n := q + i) (by omega)] at hP hD
          have hP : va_P (dC, dI) vwCl (wX cA ad st ck (upd (swF nh q w i) (q + i) (((w.toUInt32 >>> ((nI (8 * i)).toUInt32 &&& Int32.toUInt32 31)).toInt32) &&& (nI 255))) tp tl cb cy nc of wl wd) H := hP
          have hD : va_D A (wX cA ad st ck (upd (swF nh q w i) (q + i) (((w.toUInt32 >>> ((nI (8 * i)).toUInt32 &&& Int32.toUInt32 31)).toInt32) &&& (nI 255))) tp tl cb cy nc of wl wd) := hD
          refine lv_iinc (v := nI (i + 1)) (lv' := [(3, .int (nI (i + 1))), (0, .ref (ad 0)), (1, .int (nI q)), (2, .int w)]) hx hb dX0_setWord_25 hl (k := 3) rfl (nI_add i 1) (by decide) rfl (fun ls hl => ?_)
          refine lv_goto (tgt := 2) hx hb dX0_setWord_28 (by decide) ?_
          exact ih (i + 1) (by omega) _ _ _ hP hD hS (lv_sub hl [1, 2, 3, 0] rfl)
    exact loop_2 4 0 (by omega) _ _ _ hP hD hS (lv_sub hl [1, 2, 3, 0] rfl)
  rw [hH, hlo] at goal
  exact goal

set_option maxHeartbeats 4000000 in
set_option maxRecDepth 100000 in
theorem c_X0_writeEmptyHead (l : Launch) (dC : Nat → ClassId) (dI : Nat → Nat → Nat) (cA : ClassId) (ad : Nat → Nat) (sz : Nat) (st ck nh tp : Nat → Int32) (tl : Int32) (cb cy : Nat → Int32) (nc of wl : Int32) (wd : Int64) (w : Int32)  : Met l yX0_writeEmptyHead wsX0_writeEmptyHead ({ frames := 2, cells := 0, slots := 0, locals := 83 } : Room) (va_Pc [.ref (ad 0), .int w] (fun U => U.heap.size = sz ∧ va_P (dC, dI) vwCl (wX cA ad st ck nh tp tl cb cy nc of wl wd) U.heap ∧ va_K (dC, dI) vwCl [(cA, .int)] U ∧ va_D (fun _ => True) (wX cA ad st ck nh tp tl cb cy nc of wl wd))) (va_Qv (fun u : XS => u = (wrS (ehF nh w) st wl 0 0, ehF nh w, tp, tl, cb, cy, nc, wrO of wl, wrL wl, wrD wl wd)) (aX dC dI cA ad ck (va_A (wX cA ad st ck nh tp tl cb cy nc of wl wd) sz)) (va_A (wX cA ad st ck nh tp tl cb cy nc of wl wd) sz)) 0 0 (va_A (wX cA ad st ck nh tp tl cb cy nc of wl wd) sz) := by
  refine Met.ofW (cc := cX0_writeEmptyHead) (maxL := 2) (ret := none) (by decide) rfl ?_
  intro p e s m args below meth c s₁ B hml hv
  obtain ⟨rfl, hsz, hP, hK, hD0⟩ := hv
  have hx := B.exec
  have hb := B.bytes
  have hr := B.returns
  have hts := atoms_spec (ws := wsX0_writeEmptyHead) B.pre
  have hown : s.vm.findClass RX0 = some m.cls := findClass_of_methodNamed B.named
  have hlocks := B.notSynchronized
  have hin : ∀ w ∈ u_ws RX0 TX0 11, w ∈ wsX0_writeEmptyHead := by decide +kernel
  subst hsz
  have hD := hD0.self (sz := s.heap.size)
  generalize hAe : va_A (wX cA ad st ck nh tp tl cb cy nc of wl wd) s.heap.size = A at hD ⊢
  have hA : ∀ q : Nat, s.heap.size ≤ q → A q := fun q h => by rw [← hAe]; exact Or.inr h
  obtain ⟨H, locs, hH, hlo, hS⟩ : ∃ (H : Heap) (locs : List Loc), H = s.heap ∧ locs = [] ∧ va_S A s.heap H locs := ⟨s.heap, [], rfl, rfl, va_S.rf⟩
  rw [← hH] at hP
  have hP : va_P (dC, dI) vwCl (wX cA ad st ck nh tp tl cb cy nc of wl wd) H := hP
  have hl := lv_entry ([.ref (ad 0), .int w]) (n := 2) (Nat.le_of_ble_eq_true rfl)
  rw [lg_entry_eq]
  generalize (lg_sl ([.ref (ad 0), .int w]) ++ List.replicate (2 - (lg_sl ([.ref (ad 0), .int w])).length) Slot.unset).toArray = ls at hl ⊢
  have goal : W p l e (headSpec wsX0_writeEmptyHead ({ frames := 2, cells := 0, slots := 0, locals := 83 } : Room)).room s m ([.ref (ad 0), .int w] : List Value).toArray below meth c H locs 0 0 (MQ below (va_Qv (fun u : XS => u = (wrS (ehF nh w) st wl 0 0, ehF nh w, tp, tl, cb, cy, nc, wrO of wl, wrL wl, wrD wl wd)) (aX dC dI cA ad ck A) A) ([.ref (ad 0), .int w] : List Value).toArray s 0 0 A) (F0 m 0 ls []) := by
    clear hH hlo
    have hl : lv_has ls 2 [(0, .ref (ad 0)), (1, .int w)] := hl
    refine lv_aload_n hx hb dX0_writeEmptyHead_0 rfl (lv_at hl 0 rfl) ?_
    refine va_get (D := (dC, dI)) (ci := 0) (v := .ref (ad 3)) (C := RX0) (T := TX0) (N := 11) hx hb hts hin hown hK hP 0 rfl rfl 2 (by decide) (hts (.fieldLink RX0 16 "BlockJournal" "newHead" "[I") (by decide +kernel)) (fun _ h9 => h9) rfl dX0_writeEmptyHead_1 ?_
    refine lv_iconst (v := nI 0) hx hb dX0_writeEmptyHead_4 (by decide) ?_
    have hPc := hP.sub (ws' := [(ad 3, .inl (cA, 64, .inl nh))]) [3] rfl
    have hDc := hD.sub (ws' := [(ad 3, .inl (cA, 64, .inl nh))]) [3] (by decide) rfl
    have hFc := va_free (wc := [(ad 3, .inl (cA, 64, .inl nh))]) hD hS hA [3] rfl
    refine va_callv (va_runS (As := [.ref (ad 3), .int (nI 0)]) (rest := []) ⟨hx, hb, hml, hown, hts⟩ (c_fill l dC dI cA ad H.size (ad 3) 64 nh (nI 0) (by decide)) (va_cwS 2 hts gX0_writeEmptyHead_J7_fill_53178 rfl rfl rfl (by decide +kernel) ⟨Nat.le_of_ble_eq_true rfl, Nat.le_of_ble_eq_true rfl⟩) ⟨fun a U g mk q => by obtain ⟨q0, q1, qP, qK, qD⟩ := q; exact ⟨q0, q1, qP, va_K.moved (u := U) (U := U.calling g mk a) (Vm.Alike.refl U.vm) qK, qD⟩, fun U hU hW => ⟨rfl, by rw [hU], by rw [hU]; exact hPc, va_K.moved hW.alike hK, hDc.weaken (fun _ _ _ _ => trivial)⟩⟩ rfl rfl hl.1 rfl (lv_room (Nat.le_of_ble_eq_true rfl)) dX0_writeEmptyHead_5 ⟨Nat.le_of_ble_eq_true rfl, Nat.le_of_ble_eq_true rfl⟩) hS (fun q _ h => hFc q h) hFc (fun u t H1 locs ht hvm hw hB hz1 hk1 hS => ?_)
    obtain ⟨hP1, hK1, hD1⟩ := hB
    subst hw
    rw [ht] at hP1
    obtain ⟨hP, hD⟩ := va_join (wr := [(ad 0, .inr (0, [.ref (ad 1), .ref (ad 2), .ref (ad 3), .ref (ad 4), .int tl, .ref (ad 5), .ref (ad 6), .int nc, .int of, .int wl, .long wd])), (ad 1, .inl (cA, 6144, .inl st)), (ad 2, .inl (cA, 256, .inl ck)), (ad 4, .inl (cA, 64, .inl tp)), (ad 5, .inl (cA, 24, .inl cb)), (ad 6, .inl (cA, 1536, .inl cy))]) (w1 := [(ad 3, .inl (cA, 64, .inl (fiF nh (nI 0) 64)))]) hP hD [3] [0, 1, 2, 4, 5, 6] rfl rfl (by decide) (by decide) hk1 hFc hP1 hD1
    have hP : va_P (dC, dI) vwCl (wX cA ad st ck (fiF nh (nI 0) 64) tp tl cb cy nc of wl wd) H1 := hP.sub (ws' := wX cA ad st ck (fiF nh (nI 0) 64) tp tl cb cy nc of wl wd) [0, 1, 2, 6, 3, 4, 5] rfl
    have hD : va_D A (wX cA ad st ck (fiF nh (nI 0) 64) tp tl cb cy nc of wl wd) := hD.sub (ws' := wX cA ad st ck (fiF nh (nI 0) 64) tp tl cb cy nc of wl wd) [0, 1, 2, 6, 3, 4, 5] (by decide) rfl
    generalize H1 = H at hP hS ⊢
    refine lv_aload_n hx hb dX0_writeEmptyHead_8 rfl (lv_at hl 0 rfl) ?_
    refine lv_iconst (v := nI 0) hx hb dX0_writeEmptyHead_9 (by decide) ?_
    refine lv_iload_n hx hb dX0_writeEmptyHead_10 rfl (lv_at hl 1 rfl) ?_
    have hFc := va_free (wc := wX cA ad st ck (fiF nh (nI 0) 64) tp tl cb cy nc of wl wd) hD hS hA [0, 1, 2, 3, 4, 5, 6] rfl
    refine va_callv (va_runV (As := [.int (nI 0), .int w]) (rest := []) ⟨hx, hb, hml, hown, hts⟩ (c_X0_setWord l dC dI cA ad H.size st ck (fiF nh (nI 0) 64) tp tl cb cy nc of wl wd 0 w (by decide)) (cwV 2 hts gX0_writeEmptyHead_X0_setWord rfl rfl rfl (by decide +kernel) ⟨Nat.le_of_ble_eq_true rfl, Nat.le_of_ble_eq_true rfl⟩) ⟨fun a U g mk q => by obtain ⟨q0, q1, qP, qK, qD⟩ := q; exact ⟨q0, q1, qP, va_K.moved (u := U) (U := U.calling g mk a) (Vm.Alike.refl U.vm) qK, qD⟩, va_recv hK hP (ci := 0) (q0 := 0) rfl rfl, fun U hU hW => ⟨rfl, by rw [hU], by rw [hU]; exact hP, va_K.moved hW.alike hK, hD.weaken (fun _ _ _ _ => trivial)⟩⟩ rfl rfl hl.1 rfl (lv_room (Nat.le_of_ble_eq_true rfl)) dX0_writeEmptyHead_11 ⟨Nat.le_of_ble_eq_true rfl, Nat.le_of_ble_eq_true rfl⟩) hS (fun q _ h => hFc q h) hFc (fun u t H1 locs ht hvm hw hB hz1 hk1 hS => ?_)
    obtain ⟨hP1, hK1, hD1⟩ := hB
    subst hw
    rw [ht] at hP1
    have hP : va_P (dC, dI) vwCl (wX cA ad st ck (swF (fiF nh (nI 0) 64) 0 w 4) tp tl cb cy nc of wl wd) H1 := hP1
    have hD : va_D A (wX cA ad st ck (swF (fiF nh (nI 0) 64) 0 w 4) tp tl cb cy nc of wl wd) := ⟨hD1.1, fun k q h => hFc _ (hD1.2 k q h)⟩
    generalize H1 = H at hP hS ⊢
    refine lv_aload_n hx hb dX0_writeEmptyHead_14 rfl (lv_at hl 0 rfl) ?_
    refine lv_iconst (v := nI 0) hx hb dX0_writeEmptyHead_15 (by decide) ?_
    refine lv_aload_n hx hb dX0_writeEmptyHead_16 rfl (lv_at hl 0 rfl) ?_
    refine va_get (D := (dC, dI)) (ci := 0) (v := .ref (ad 3)) (C := RX0) (T := TX0) (N := 11) hx hb hts hin hown hK hP 0 rfl rfl 2 (by decide) (hts (.fieldLink RX0 16 "BlockJournal" "newHead" "[I") (by decide +kernel)) (fun _ h9 => h9) rfl dX0_writeEmptyHead_17 ?_
    refine lv_iconst (v := nI 0) hx hb dX0_writeEmptyHead_20 (by decide) ?_
    have hFc := va_free (wc := wX cA ad st ck (swF (fiF nh (nI 0) 64) 0 w 4) tp tl cb cy nc of wl wd) hD hS hA [0, 1, 2, 3, 4, 5, 6] rfl
    refine va_callv (va_runV (As := [.int (nI 0), .ref (ad 3), .int (nI 0)]) (rest := []) ⟨hx, hb, hml, hown, hts⟩ (c_X0_write_3 l dC dI cA ad H.size st ck (swF (fiF nh (nI 0) 64) 0 w 4) tp tl cb cy nc of wl wd 0 0 (by omega) (by omega)) (cwV 3 hts gX0_writeEmptyHead_X0_write rfl rfl rfl (by decide +kernel) ⟨Nat.le_of_ble_eq_true rfl, Nat.le_of_ble_eq_true rfl⟩) ⟨fun a U g mk q => by obtain ⟨q0, q1, qP, qK, qD⟩ := q; exact ⟨q0, q1, qP, va_K.moved (u := U) (U := U.calling g mk a) (Vm.Alike.refl U.vm) qK, qD⟩, va_recv hK hP (ci := 0) (q0 := 0) rfl rfl, fun U hU hW => ⟨rfl, by rw [hU], by rw [hU]; exact hP, va_K.moved hW.alike hK, hD.weaken (fun _ _ _ _ => trivial)⟩⟩ rfl rfl hl.1 rfl (lv_room (Nat.le_of_ble_eq_true rfl)) dX0_writeEmptyHead_21 ⟨Nat.le_of_ble_eq_true rfl, Nat.le_of_ble_eq_true rfl⟩) hS (fun q _ h => hFc q h) hFc (fun u t H1 locs ht hvm hw hB hz1 hk1 hS => ?_)
    obtain ⟨hP1, hK1, hD1⟩ := hB
    subst hw
    rw [ht] at hP1
    have hP : va_P (dC, dI) vwCl (wX cA ad (wrS (swF (fiF nh (nI 0) 64) 0 w 4) st wl 0 0) ck (swF (fiF nh (nI 0) 64) 0 w 4) tp tl cb cy nc (wrO of wl) (wrL wl) (wrD wl wd)) H1 := hP1
    have hD : va_D A (wX cA ad (wrS (swF (fiF nh (nI 0) 64) 0 w 4) st wl 0 0) ck (swF (fiF nh (nI 0) 64) 0 w 4) tp tl cb cy nc (wrO of wl) (wrL wl) (wrD wl wd)) := ⟨hD1.1, fun k q h => hFc _ (hD1.2 k q h)⟩
    generalize H1 = H at hP hS ⊢
    have hpost : ((wrS (swF (fiF nh (nI 0) 64) 0 w 4) st wl 0 0, swF (fiF nh (nI 0) 64) 0 w 4, tp, tl, cb, cy, nc, wrO of wl, wrL wl, wrD wl wd) : XS) = (wrS (ehF nh w) st wl 0 0, ehF nh w, tp, tl, cb, cy, nc, wrO of wl, wrL wl, wrD wl wd) := rfl
    exact W.vret hx hb hr (fun t ht hW => ⟨⟨(wrS (swF (fiF nh (nI 0) 64) 0 w 4) st wl 0 0, swF (fiF nh (nI 0) 64) 0 w 4, tp, tl, cb, cy, nc, wrO of wl, wrL wl, wrD wl wd), rfl, hpost, by rw [ht]; exact hP, va_K.moved hW.alike hK, hD⟩, hS.F ht⟩) hS.2.2 dX0_writeEmptyHead_24
  rw [hH, hlo] at goal
  exact goal

set_option maxHeartbeats 4000000 in
set_option maxRecDepth 100000 in
theorem c_X0_writeFullHead (l : Launch) (dC : Nat → ClassId) (dI : Nat → Nat → Nat) (cA : ClassId) (ad : Nat → Nat) (sz : Nat) (st ck nh tp : Nat → Int32) (tl : Int32) (cb cy : Nat → Int32) (of wl : Int32) (wd : Int64) (n : Nat) (w : Int32) (hn : n ≤ 24) : Met l yX0_writeFullHead wsX0_writeFullHead ({ frames := 2, cells := 0, slots := 0, locals := 83 } : Room) (va_Pc [.ref (ad 0), .int w] (fun U => U.heap.size = sz ∧ va_P (dC, dI) vwCl (wX cA ad st ck nh tp tl cb cy (nI n) of wl wd) U.heap ∧ va_K (dC, dI) vwCl [(cA, .int)] U ∧ va_D (fun _ => True) (wX cA ad st ck nh tp tl cb cy (nI n) of wl wd))) (va_Qv (fun u : XS => u = (wrS (fhF st ck nh cb n w) st wl 0 0, fhF st ck nh cb n w, tp, tl, cb, cy, nI n, wrO of wl, wrL wl, wrD wl wd)) (aX dC dI cA ad ck (va_A (wX cA ad st ck nh tp tl cb cy (nI n) of wl wd) sz)) (va_A (wX cA ad st ck nh tp tl cb cy (nI n) of wl wd) sz)) 0 0 (va_A (wX cA ad st ck nh tp tl cb cy (nI n) of wl wd) sz) := by
  refine Met.ofW (cc := cX0_writeFullHead) (maxL := 3) (ret := none) (by decide) rfl ?_
  intro p e s m args below meth c s₁ B hml hv
  obtain ⟨rfl, hsz, hP, hK, hD0⟩ := hv
  have hx := B.exec
  have hb := B.bytes
  have hr := B.returns
  have hts := atoms_spec (ws := wsX0_writeFullHead) B.pre
  have hown : s.vm.findClass RX0 = some m.cls := findClass_of_methodNamed B.named
  have hlocks := B.notSynchronized
  have hin : ∀ w ∈ u_ws RX0 TX0 11, w ∈ wsX0_writeFullHead := by decide +kernel
  subst hsz
  have hD := hD0.self (sz := s.heap.size)
  generalize hAe : va_A (wX cA ad st ck nh tp tl cb cy (nI n) of wl wd) s.heap.size = A at hD ⊢
  have hA : ∀ q : Nat, s.heap.size ≤ q → A q := fun q h => by rw [← hAe]; exact Or.inr h
  obtain ⟨H, locs, hH, hlo, hS⟩ : ∃ (H : Heap) (locs : List Loc), H = s.heap ∧ locs = [] ∧ va_S A s.heap H locs := ⟨s.heap, [], rfl, rfl, va_S.rf⟩
  rw [← hH] at hP
  have hP : va_P (dC, dI) vwCl (wX cA ad st ck nh tp tl cb cy (nI n) of wl wd) H := hP
  have hl := lv_entry ([.ref (ad 0), .int w]) (n := 3) (Nat.le_of_ble_eq_true rfl)
  rw [lg_entry_eq]
  generalize (lg_sl ([.ref (ad 0), .int w]) ++ List.replicate (3 - (lg_sl ([.ref (ad 0), .int w])).length) Slot.unset).toArray = ls at hl ⊢
  have goal : W p l e (headSpec wsX0_writeFullHead ({ frames := 2, cells := 0, slots := 0, locals := 83 } : Room)).room s m ([.ref (ad 0), .int w] : List Value).toArray below meth c H locs 0 0 (MQ below (va_Qv (fun u : XS => u = (wrS (fhF st ck nh cb n w) st wl 0 0, fhF st ck nh cb n w, tp, tl, cb, cy, nI n, wrO of wl, wrL wl, wrD wl wd)) (aX dC dI cA ad ck A) A) ([.ref (ad 0), .int w] : List Value).toArray s 0 0 A) (F0 m 0 ls []) := by
    clear hH hlo
    have hl : lv_has ls 3 [(0, .ref (ad 0)), (1, .int w)] := hl
    refine lv_aload_n hx hb dX0_writeFullHead_0 rfl (lv_at hl 0 rfl) ?_
    refine va_get (D := (dC, dI)) (ci := 0) (v := .ref (ad 3)) (C := RX0) (T := TX0) (N := 11) hx hb hts hin hown hK hP 0 rfl rfl 2 (by decide) (hts (.fieldLink RX0 16 "BlockJournal" "newHead" "[I") (by decide +kernel)) (fun _ h9 => h9) rfl dX0_writeFullHead_1 ?_
    refine lv_iconst (v := nI 0) hx hb dX0_writeFullHead_4 (by decide) ?_
    have hPc := hP.sub (ws' := [(ad 3, .inl (cA, 64, .inl nh))]) [3] rfl
    have hDc := hD.sub (ws' := [(ad 3, .inl (cA, 64, .inl nh))]) [3] (by decide) rfl
    have hFc := va_free (wc := [(ad 3, .inl (cA, 64, .inl nh))]) hD hS hA [3] rfl
    refine va_callv (va_runS (As := [.ref (ad 3), .int (nI 0)]) (rest := []) ⟨hx, hb, hml, hown, hts⟩ (c_fill l dC dI cA ad H.size (ad 3) 64 nh (nI 0) (by decide)) (va_cwS 2 hts gX0_writeFullHead_J7_fill_53178 rfl rfl rfl (by decide +kernel) ⟨Nat.le_of_ble_eq_true rfl, Nat.le_of_ble_eq_true rfl⟩) ⟨fun a U g mk q => by obtain ⟨q0, q1, qP, qK, qD⟩ := q; exact ⟨q0, q1, qP, va_K.moved (u := U) (U := U.calling g mk a) (Vm.Alike.refl U.vm) qK, qD⟩, fun U hU hW => ⟨rfl, by rw [hU], by rw [hU]; exact hPc, va_K.moved hW.alike hK, hDc.weaken (fun _ _ _ _ => trivial)⟩⟩ rfl rfl hl.1 rfl (lv_room (Nat.le_of_ble_eq_true rfl)) dX0_writeFullHead_5 ⟨Nat.le_of_ble_eq_true rfl, Nat.le_of_ble_eq_true rfl⟩) hS (fun q _ h => hFc q h) hFc (fun u t H1 locs ht hvm hw hB hz1 hk1 hS => ?_)
    obtain ⟨hP1, hK1, hD1⟩ := hB
    subst hw
    rw [ht] at hP1
    obtain ⟨hP, hD⟩ := va_join (wr := [(ad 0, .inr (0, [.ref (ad 1), .ref (ad 2), .ref (ad 3), .ref (ad 4), .int tl, .ref (ad 5), .ref (ad 6), .int (nI n), .int of, .int wl, .long wd])), (ad 1, .inl (cA, 6144, .inl st)), (ad 2, .inl (cA, 256, .inl ck)), (ad 4, .inl (cA, 64, .inl tp)), (ad 5, .inl (cA, 24, .inl cb)), (ad 6, .inl (cA, 1536, .inl cy))]) (w1 := [(ad 3, .inl (cA, 64, .inl (fiF nh (nI 0) 64)))]) hP hD [3] [0, 1, 2, 4, 5, 6] rfl rfl (by decide) (by decide) hk1 hFc hP1 hD1
    have hP : va_P (dC, dI) vwCl (wX cA ad st ck (fiF nh (nI 0) 64) tp tl cb cy (nI n) of wl wd) H1 := hP.sub (ws' := wX cA ad st ck (fiF nh (nI 0) 64) tp tl cb cy (nI n) of wl wd) [0, 1, 2, 6, 3, 4, 5] rfl
    have hD : va_D A (wX cA ad st ck (fiF nh (nI 0) 64) tp tl cb cy (nI n) of wl wd) := hD.sub (ws' := wX cA ad st ck (fiF nh (nI 0) 64) tp tl cb cy (nI n) of wl wd) [0, 1, 2, 6, 3, 4, 5] (by decide) rfl
    generalize H1 = H at hP hS ⊢
    refine lv_aload_n hx hb dX0_writeFullHead_8 rfl (lv_at hl 0 rfl) ?_
    refine lv_iconst (v := nI 0) hx hb dX0_writeFullHead_9 (by decide) ?_
    refine lv_iload_n hx hb dX0_writeFullHead_10 rfl (lv_at hl 1 rfl) ?_
    have hFc := va_free (wc := wX cA ad st ck (fiF nh (nI 0) 64) tp tl cb cy (nI n) of wl wd) hD hS hA [0, 1, 2, 3, 4, 5, 6] rfl
    refine va_callv (va_runV (As := [.int (nI 0), .int w]) (rest := []) ⟨hx, hb, hml, hown, hts⟩ (c_X0_setWord l dC dI cA ad H.size st ck (fiF nh (nI 0) 64) tp tl cb cy (nI n) of wl wd 0 w (by decide)) (cwV 2 hts gX0_writeFullHead_X0_setWord rfl rfl rfl (by decide +kernel) ⟨Nat.le_of_ble_eq_true rfl, Nat.le_of_ble_eq_true rfl⟩) ⟨fun a U g mk q => by obtain ⟨q0, q1, qP, qK, qD⟩ := q; exact ⟨q0, q1, qP, va_K.moved (u := U) (U := U.calling g mk a) (Vm.Alike.refl U.vm) qK, qD⟩, va_recv hK hP (ci := 0) (q0 := 0) rfl rfl, fun U hU hW => ⟨rfl, by rw [hU], by rw [hU]; exact hP, va_K.moved hW.alike hK, hD.weaken (fun _ _ _ _ => trivial)⟩⟩ rfl rfl hl.1 rfl (lv_room (Nat.le_of_ble_eq_true rfl)) dX0_writeFullHead_11 ⟨Nat.le_of_ble_eq_true rfl, Nat.le_of_ble_eq_true rfl⟩) hS (fun q _ h => hFc q h) hFc (fun u t H1 locs ht hvm hw hB hz1 hk1 hS => ?_)
    obtain ⟨hP1, hK1, hD1⟩ := hB
    subst hw
    rw [ht] at hP1
    have hP : va_P (dC, dI) vwCl (wX cA ad st ck (swF (fiF nh (nI 0) 64) 0 w 4) tp tl cb cy (nI n) of wl wd) H1 := hP1
    have hD : va_D A (wX cA ad st ck (swF (fiF nh (nI 0) 64) 0 w 4) tp tl cb cy (nI n) of wl wd) := ⟨hD1.1, fun k q h => hFc _ (hD1.2 k q h)⟩
    generalize H1 = H at hP hS ⊢
    refine lv_aload_n hx hb dX0_writeFullHead_14 rfl (lv_at hl 0 rfl) ?_
    refine va_get (D := (dC, dI)) (ci := 0) (v := .ref (ad 3)) (C := RX0) (T := TX0) (N := 11) hx hb hts hin hown hK hP 0 rfl rfl 2 (by decide) (hts (.fieldLink RX0 16 "BlockJournal" "newHead" "[I") (by decide +kernel)) (fun _ h9 => h9) rfl dX0_writeFullHead_15 ?_
    refine lv_iconst (v := nI 4) hx hb dX0_writeFullHead_18 (by decide) ?_
    refine lv_aload_n hx hb dX0_writeFullHead_19 rfl (lv_at hl 0 rfl) ?_
    refine va_get (D := (dC, dI)) (ci := 0) (v := .int (nI n)) (C := RX0) (T := TX0) (N := 11) hx hb hts hin hown hK hP 0 rfl rfl 7 (by decide) (hts (.fieldLink RX0 64 "BlockJournal" "changes" "I") (by decide +kernel)) (fun _ h9 => h9) rfl dX0_writeFullHead_20 ?_
    refine va_iast (D := (dC, dI)) hx hb hK hP hD hS 3 0 (cA := cA) (n := 64) (f := (swF (fiF nh (nI 0) 64) 0 w 4)) rfl rfl (i := (nI 4)) (vp_in_nI (by omega) (by omega)) dX0_writeFullHead_23 (fun H locs hP hD hS => ?_)
    rw [nI_clamp (n := 4) (by omega)] at hP hD
    have hP : va_P (dC, dI) vwCl (wX cA ad st ck (upd (swF (fiF nh (nI 0) 64) 0 w 4) 4 (nI n)) tp tl cb cy (nI n) of wl wd) H := hP
    have hD : va_D A (wX cA ad st ck (upd (swF (fiF nh (nI 0) 64) 0 w 4) 4 (nI n)) tp tl cb cy (nI n) of wl wd) := hD
    refine lv_iconst (v := nI 0) hx hb dX0_writeFullHead_24 (by decide) ?_
    refine lv_istore_n (lv' := [(2, .int (nI 0)), (0, .ref (ad 0)), (1, .int w)]) hx hb dX0_writeFullHead_25 rfl hl (by decide) rfl (fun ls hl => ?_)
    have loop_26 : ∀ (k : Nat) (i : Nat), i + k = n → ∀ (H : Heap) (locs : List Loc) (ls : Array Slot), va_P (dC, dI) vwCl (wX cA ad st ck (tgF (upd (swF (fiF nh (nI 0) 64) 0 w 4) 4 (nI n)) cb i) tp tl cb cy (nI n) of wl wd) H → va_D A (wX cA ad st ck (tgF (upd (swF (fiF nh (nI 0) 64) 0 w 4) 4 (nI n)) cb i) tp tl cb cy (nI n) of wl wd) → va_S A s.heap H locs → lv_has ls 3 [(0, .ref (ad 0)), (1, .int w), (2, .int (nI i))] → W p l e (headSpec wsX0_writeFullHead ({ frames := 2, cells := 0, slots := 0, locals := 83 } : Room)).room s m ([.ref (ad 0), .int w] : List Value).toArray below meth c H locs 0 0 (MQ below (va_Qv (fun u : XS => u = (wrS (fhF st ck nh cb n w) st wl 0 0, fhF st ck nh cb n w, tp, tl, cb, cy, nI n, wrO of wl, wrL wl, wrD wl wd)) (aX dC dI cA ad ck A) A) ([.ref (ad 0), .int w] : List Value).toArray s 0 0 A) (F0 m 26 ls []) := by
      intro k
      induction k with
      | zero =>
        intro i hk H locs ls hP hD hS hl
        refine lv_iload_n hx hb dX0_writeFullHead_26 rfl (lv_at hl 2 rfl) ?_
        refine lv_aload_n hx hb dX0_writeFullHead_27 rfl (lv_at hl 0 rfl) ?_
        refine va_get (D := (dC, dI)) (ci := 0) (v := .int (nI n)) (C := RX0) (T := TX0) (N := 11) hx hb hts hin hown hK hP 0 rfl rfl 7 (by decide) (hts (.fieldLink RX0 64 "BlockJournal" "changes" "I") (by decide +kernel)) (fun _ h9 => h9) rfl dX0_writeFullHead_28 ?_
        refine lv_icmp_ge (tgt := 81) hx hb dX0_writeFullHead_31 (by decide) (fun c_31 => ?_) (fun c_31 => ?_)
        · have n_31 : n ≤ i := (nI_leI (by omega) (by omega)).mp c_31
          rw [show i = n by omega] at hP hD
          refine lv_aload_n hx hb dX0_writeFullHead_81 rfl (lv_at hl 0 rfl) ?_
          refine lv_bipush (v := nI 59) hx hb dX0_writeFullHead_82 (by decide) ?_
          refine lv_aload_n hx hb dX0_writeFullHead_84 rfl (lv_at hl 0 rfl) ?_
          refine lv_aload_n hx hb dX0_writeFullHead_85 rfl (lv_at hl 0 rfl) ?_
          refine va_get (D := (dC, dI)) (ci := 0) (v := .int (nI n)) (C := RX0) (T := TX0) (N := 11) hx hb hts hin hown hK hP 0 rfl rfl 7 (by decide) (hts (.fieldLink RX0 64 "BlockJournal" "changes" "I") (by decide +kernel)) (fun _ h9 => h9) rfl dX0_writeFullHead_86 ?_
          refine bj_call (v := .int (pcF st ck (n * 64) 64 (-1) ^^^ (-1))) (W.runV (As := [.int (nI n)]) (rest := [.int (nI 59), .ref (ad 0)]) ⟨hx, hb, hml, hown, hts⟩ (c_X0_payloadCheck l dC dI cA ad st ck (tgF (upd (swF (fiF nh (nI 0) 64) 0 w 4) 4 (nI n)) cb n) tp tl cb cy (nI n) of wl wd n (by omega)) (cwV 1 hts gX0_writeFullHead_X0_payloadCheck rfl rfl rfl (by decide +kernel) ⟨Nat.le_of_ble_eq_true rfl, Nat.le_of_ble_eq_true rfl⟩) ⟨fun a U g mk q => by obtain ⟨q0, qP, qK⟩ := q; exact ⟨q0, qP, va_K.moved (u := U) (U := U.calling g mk a) (Vm.Alike.refl U.vm) qK⟩, va_recv hK hP (ci := 0) (q0 := 0) rfl rfl, fun U hU hW => ⟨rfl, by rw [hU]; exact hP, va_K.moved hW.alike hK⟩⟩ rfl rfl hl.1 rfl (lv_room (Nat.le_of_ble_eq_true rfl)) dX0_writeFullHead_89 ⟨Nat.le_of_ble_eq_true rfl, Nat.le_of_ble_eq_true rfl⟩) ?_
          have hFc := va_free (wc := wX cA ad st ck (tgF (upd (swF (fiF nh (nI 0) 64) 0 w 4) 4 (nI n)) cb n) tp tl cb cy (nI n) of wl wd) hD hS hA [0, 1, 2, 3, 4, 5, 6] rfl
          refine va_callv (va_runV (As := [.int (nI 59), .int (pcF st ck (n * 64) 64 (-1) ^^^ (-1))]) (rest := []) ⟨hx, hb, hml, hown, hts⟩ (c_X0_setWord l dC dI cA ad H.size st ck (tgF (upd (swF (fiF nh (nI 0) 64) 0 w 4) 4 (nI n)) cb n) tp tl cb cy (nI n) of wl wd 59 (pcF st ck (n * 64) 64 (-1) ^^^ (-1)) (by decide)) (cwV 2 hts gX0_writeFullHead_X0_setWord rfl rfl rfl (by decide +kernel) ⟨Nat.le_of_ble_eq_true rfl, Nat.le_of_ble_eq_true rfl⟩) ⟨fun a U g mk q => by obtain ⟨q0, q1, qP, qK, qD⟩ := q; exact ⟨q0, q1, qP, va_K.moved (u := U) (U := U.calling g mk a) (Vm.Alike.refl U.vm) qK, qD⟩, va_recv hK hP (ci := 0) (q0 := 0) rfl rfl, fun U hU hW => ⟨rfl, by rw [hU], by rw [hU]; exact hP, va_K.moved hW.alike hK, hD.weaken (fun _ _ _ _ => trivial)⟩⟩ rfl rfl hl.1 rfl (lv_room (Nat.le_of_ble_eq_true rfl)) dX0_writeFullHead_92 ⟨Nat.le_of_ble_eq_true rfl, Nat.le_of_ble_eq_true rfl⟩) hS (fun q _ h => hFc q h) hFc (fun u t H1 locs ht hvm hw hB hz1 hk1 hS => ?_)
          obtain ⟨hP1, hK1, hD1⟩ := hB
          subst hw
          rw [ht] at hP1
          have hP : va_P (dC, dI) vwCl (wX cA ad st ck (swF (tgF (upd (swF (fiF nh (nI 0) 64) 0 w 4) 4 (nI n)) cb n) 59 (pcF st ck (n * 64) 64 (-1) ^^^ (-1)) 4) tp tl cb cy (nI n) of wl wd) H1 := hP1
          have hD : va_D A (wX cA ad st ck (swF (tgF (upd (swF (fiF nh (nI 0) 64) 0 w 4) 4 (nI n)) cb n) 59 (pcF st ck (n * 64) 64 (-1) ^^^ (-1)) 4) tp tl cb cy (nI n) of wl wd) := ⟨hD1.1, fun k q h => hFc _ (hD1.2 k q h)⟩
          generalize H1 = H at hP hS ⊢
          refine lv_aload_n hx hb dX0_writeFullHead_95 rfl (lv_at hl 0 rfl) ?_
          refine lv_iconst (v := nI 0) hx hb dX0_writeFullHead_96 (by decide) ?_
          refine lv_aload_n hx hb dX0_writeFullHead_97 rfl (lv_at hl 0 rfl) ?_
          refine va_get (D := (dC, dI)) (ci := 0) (v := .ref (ad 3)) (C := RX0) (T := TX0) (N := 11) hx hb hts hin hown hK hP 0 rfl rfl 2 (by decide) (hts (.fieldLink RX0 16 "BlockJournal" "newHead" "[I") (by decide +kernel)) (fun _ h9 => h9) rfl dX0_writeFullHead_98 ?_
          refine lv_iconst (v := nI 0) hx hb dX0_writeFullHead_101 (by decide) ?_
          have hFc := va_free (wc := wX cA ad st ck (swF (tgF (upd (swF (fiF nh (nI 0) 64) 0 w 4) 4 (nI n)) cb n) 59 (pcF st ck (n * 64) 64 (-1) ^^^ (-1)) 4) tp tl cb cy (nI n) of wl wd) hD hS hA [0, 1, 2, 3, 4, 5, 6] rfl
          refine va_callv (va_runV (As := [.int (nI 0), .ref (ad 3), .int (nI 0)]) (rest := []) ⟨hx, hb, hml, hown, hts⟩ (c_X0_write_3 l dC dI cA ad H.size st ck (swF (tgF (upd (swF (fiF nh (nI 0) 64) 0 w 4) 4 (nI n)) cb n) 59 (pcF st ck (n * 64) 64 (-1) ^^^ (-1)) 4) tp tl cb cy (nI n) of wl wd 0 0 (by omega) (by omega)) (cwV 3 hts gX0_writeFullHead_X0_write rfl rfl rfl (by decide +kernel) ⟨Nat.le_of_ble_eq_true rfl, Nat.le_of_ble_eq_true rfl⟩) ⟨fun a U g mk q => by obtain ⟨q0, q1, qP, qK, qD⟩ := q; exact ⟨q0, q1, qP, va_K.moved (u := U) (U := U.calling g mk a) (Vm.Alike.refl U.vm) qK, qD⟩, va_recv hK hP (ci := 0) (q0 := 0) rfl rfl, fun U hU hW => ⟨rfl, by rw [hU], by rw [hU]; exact hP, va_K.moved hW.alike hK, hD.weaken (fun _ _ _ _ => trivial)⟩⟩ rfl rfl hl.1 rfl (lv_room (Nat.le_of_ble_eq_true rfl)) dX0_writeFullHead_102 ⟨Nat.le_of_ble_eq_true rfl, Nat.le_of_ble_eq_true rfl⟩) hS (fun q _ h => hFc q h) hFc (fun u t H1 locs ht hvm hw hB hz1 hk1 hS => ?_)
          obtain ⟨hP1, hK1, hD1⟩ := hB
          subst hw
          rw [ht] at hP1
          have hP : va_P (dC, dI) vwCl (wX cA ad (wrS (swF (tgF (upd (swF (fiF nh (nI 0) 64) 0 w 4) 4 (nI n)) cb n) 59 (pcF st ck (n * 64) 64 (-1) ^^^ (-1)) 4) st wl 0 0) ck (swF (tgF (upd (swF (fiF nh (nI 0) 64) 0 w 4) 4 (nI n)) cb n) 59 (pcF st ck (n * 64) 64 (-1) ^^^ (-1)) 4) tp tl cb cy (nI n) (wrO of wl) (wrL wl) (wrD wl wd)) H1 := hP1
          have hD : va_D A (wX cA ad (wrS (swF (tgF (upd (swF (fiF nh (nI 0) 64) 0 w 4) 4 (nI n)) cb n) 59 (pcF st ck (n * 64) 64 (-1) ^^^ (-1)) 4) st wl 0 0) ck (swF (tgF (upd (swF (fiF nh (nI 0) 64) 0 w 4) 4 (nI n)) cb n) 59 (pcF st ck (n * 64) 64 (-1) ^^^ (-1)) 4) tp tl cb cy (nI n) (wrO of wl) (wrL wl) (wrD wl wd)) := ⟨hD1.1, fun k q h => hFc _ (hD1.2 k q h)⟩
          generalize H1 = H at hP hS ⊢
          have hpost : ((wrS (swF (tgF (upd (swF (fiF nh (nI 0) 64) 0 w 4) 4 (nI n)) cb n) 59 (pcF st ck (n * 64) 64 (-1) ^^^ (-1)) 4) st wl 0 0, swF (tgF (upd (swF (fiF nh (nI 0) 64) 0 w 4) 4 (nI n)) cb n) 59 (pcF st ck (n * 64) 64 (-1) ^^^ (-1)) 4, tp, tl, cb, cy, nI n, wrO of wl, wrL wl, wrD wl wd) : XS) = (wrS (fhF st ck nh cb n w) st wl 0 0, fhF st ck nh cb n w, tp, tl, cb, cy, nI n, wrO of wl, wrL wl, wrD wl wd) := rfl
          exact W.vret hx hb hr (fun t ht hW => ⟨⟨(wrS (swF (tgF (upd (swF (fiF nh (nI 0) 64) 0 w 4) 4 (nI n)) cb n) 59 (pcF st ck (n * 64) 64 (-1) ^^^ (-1)) 4) st wl 0 0, swF (tgF (upd (swF (fiF nh (nI 0) 64) 0 w 4) 4 (nI n)) cb n) 59 (pcF st ck (n * 64) 64 (-1) ^^^ (-1)) 4, tp, tl, cb, cy, nI n, wrO of wl, wrL wl, wrD wl wd), rfl, hpost, by rw [ht]; exact hP, va_K.moved hW.alike hK, hD⟩, hS.F ht⟩) hS.2.2 dX0_writeFullHead_105
        · have n_31 : ¬ n ≤ i := fun h => c_31 ((nI_leI (by omega) (by omega)).mpr h)
          exfalso; omega
      | succ k ih =>
        intro i hk H locs ls hP hD hS hl
        refine lv_iload_n hx hb dX0_writeFullHead_26 rfl (lv_at hl 2 rfl) ?_
        refine lv_aload_n hx hb dX0_writeFullHead_27 rfl (lv_at hl 0 rfl) ?_
        refine va_get (D := (dC, dI)) (ci := 0) (v := .int (nI n)) (C := RX0) (T := TX0) (N := 11) hx hb hts hin hown hK hP 0 rfl rfl 7 (by decide) (hts (.fieldLink RX0 64 "BlockJournal" "changes" "I") (by decide +kernel)) (fun _ h9 => h9) rfl dX0_writeFullHead_28 ?_
        refine lv_icmp_ge (tgt := 81) hx hb dX0_writeFullHead_31 (by decide) (fun c_31 => ?_) (fun c_31 => ?_)
        · have n_31 : n ≤ i := (nI_leI (by omega) (by omega)).mp c_31
          exfalso; omega
        · have n_31 : ¬ n ≤ i := fun h => c_31 ((nI_leI (by omega) (by omega)).mpr h)
          refine lv_aload_n hx hb dX0_writeFullHead_34 rfl (lv_at hl 0 rfl) ?_
          refine va_get (D := (dC, dI)) (ci := 0) (v := .ref (ad 3)) (C := RX0) (T := TX0) (N := 11) hx hb hts hin hown hK hP 0 rfl rfl 2 (by decide) (hts (.fieldLink RX0 16 "BlockJournal" "newHead" "[I") (by decide +kernel)) (fun _ h9 => h9) rfl dX0_writeFullHead_35 ?_
          refine lv_iconst (v := nI 5) hx hb dX0_writeFullHead_38 (by decide) ?_
          refine lv_iconst (v := nI 2) hx hb dX0_writeFullHead_39 (by decide) ?_
          refine lv_iload_n hx hb dX0_writeFullHead_40 rfl (lv_at hl 2 rfl) ?_
          refine lv_imul hx hb dX0_writeFullHead_41 ?_
          refine bj_i (pk_mul 2 i) ?_
          refine lv_iadd hx hb dX0_writeFullHead_42 ?_
          refine bj_i (nI_add 5 (2 * i)) ?_
          refine lv_aload_n hx hb dX0_writeFullHead_43 rfl (lv_at hl 0 rfl) ?_
          refine va_get (D := (dC, dI)) (ci := 0) (v := .ref (ad 5)) (C := RX0) (T := TX0) (N := 11) hx hb hts hin hown hK hP 0 rfl rfl 5 (by decide) (hts (.fieldLink RX0 22 "BlockJournal" "changeBlocks" "[I") (by decide +kernel)) (fun _ h9 => h9) rfl dX0_writeFullHead_44 ?_
          refine lv_iload_n hx hb dX0_writeFullHead_47 rfl (lv_at hl 2 rfl) ?_
          refine va_iald (D := (dC, dI)) hx hb hK hP 5 0 (cA := cA) (n := 24) (f := cb) rfl rfl (i := (nI i)) (vp_in_nI (by omega) (by omega)) dX0_writeFullHead_48 ?_
          refine bj_i (y := cb i) (congrArg cb (nI_clamp (by omega))) ?_
          refine lv_sipush (v := nI 255) hx hb dX0_writeFullHead_49 (by decide) ?_
          refine lv_iand hx hb dX0_writeFullHead_52 ?_
          refine va_iast (D := (dC, dI)) hx hb hK hP hD hS 3 0 (cA := cA) (n := 64) (f := (tgF (upd (swF (fiF nh (nI 0) 64) 0 w 4) 4 (nI n)) cb i)) rfl rfl (i := (nI (5 + (2 * i)))) (vp_in_nI (by omega) (by omega)) dX0_writeFullHead_53 (fun H locs hP hD hS => ?_)
          rw [nI_clamp (n := 5 + (2 * i)) (by omega)] at hP hD
          have hP : va_P (dC, dI) vwCl (wX cA ad st ck (upd (tgF (upd (swF (fiF nh (nI 0) 64) 0 w 4) 4 (nI n)) cb i) (5 + (2 * i)) ((cb i) &&& (nI 255))) tp tl cb cy (nI n) of wl wd) H := hP
          have hD : va_D A (wX cA ad st ck (upd (tgF (upd (swF (fiF nh (nI 0) 64) 0 w 4) 4 (nI n)) cb i) (5 + (2 * i)) ((cb i) &&& (nI 255))) tp tl cb cy (nI n) of wl wd) := hD
          refine lv_aload_n hx hb dX0_writeFullHead_54 rfl (lv_at hl 0 rfl) ?_
          refine va_get (D := (dC, dI)) (ci := 0) (v := .ref (ad 3)) (C := RX0) (T := TX0) (N := 11) hx hb hts hin hown hK hP 0 rfl rfl 2 (by decide) (hts (.fieldLink RX0 16 "BlockJournal" "newHead" "[I") (by decide +kernel)) (fun _ h9 => h9) rfl dX0_writeFullHead_55 ?_
          refine lv_iconst (v := nI 5) hx hb dX0_writeFullHead_58 (by decide) ?_
          refine lv_iconst (v := nI 2) hx hb dX0_writeFullHead_59 (by decide) ?_
          refine lv_iload_n hx hb dX0_writeFullHead_60 rfl (lv_at hl 2 rfl) ?_
          refine lv_imul hx hb dX0_writeFullHead_61 ?_
          refine bj_i (pk_mul 2 i) ?_
          refine lv_iadd hx hb dX0_writeFullHead_62 ?_
          refine bj_i (nI_add 5 (2 * i)) ?_
          refine lv_iconst (v := nI 1) hx hb dX0_writeFullHead_63 (by decide) ?_
          refine lv_iadd hx hb dX0_writeFullHead_64 ?_
          refine bj_i (nI_add (5 + (2 * i)) 1) ?_
          refine lv_aload_n hx hb dX0_writeFullHead_65 rfl (lv_at hl 0 rfl) ?_
          refine va_get (D := (dC, dI)) (ci := 0) (v := .ref (ad 5)) (C := RX0) (T := TX0) (N := 11) hx hb hts hin hown hK hP 0 rfl rfl 5 (by decide) (hts (.fieldLink RX0 22 "BlockJournal" "changeBlocks" "[I") (by decide +kernel)) (fun _ h9 => h9) rfl dX0_writeFullHead_66 ?_
          refine lv_iload_n hx hb dX0_writeFullHead_69 rfl (lv_at hl 2 rfl) ?_
          refine va_iald (D := (dC, dI)) hx hb hK hP 5 0 (cA := cA) (n := 24) (f := cb) rfl rfl (i := (nI i)) (vp_in_nI (by omega) (by omega)) dX0_writeFullHead_70 ?_
          refine bj_i (y := cb i) (congrArg cb (nI_clamp (by omega))) ?_
          refine lv_bipush (v := nI 8) hx hb dX0_writeFullHead_71 (by decide) ?_
          refine lv_iushr hx hb dX0_writeFullHead_73 rfl ?_
          refine va_iast (D := (dC, dI)) hx hb hK hP hD hS 3 0 (cA := cA) (n := 64) (f := (upd (tgF (upd (swF (fiF nh (nI 0) 64) 0 w 4) 4 (nI n)) cb i) (5 + (2 * i)) ((cb i) &&& (nI 255)))) rfl rfl (i := (nI ((5 + (2 * i)) + 1))) (vp_in_nI (by omega) (by omega)) dX0_writeFullHead_74 (fun H locs hP hD hS => ?_)
          rw [nI_clamp (n := (5 + (2 * i)) + 1) (by omega)] at hP hD
          have hP : va_P (dC, dI) vwCl (wX cA ad st ck (upd (upd (tgF (upd (swF (fiF nh (nI 0) 64) 0 w 4) 4 (nI n)) cb i) (5 + (2 * i)) ((cb i) &&& (nI 255))) ((5 + (2 * i)) + 1) (((cb i).toUInt32 >>> ((nI 8).toUInt32 &&& Int32.toUInt32 31)).toInt32)) tp tl cb cy (nI n) of wl wd) H := hP
          have hD : va_D A (wX cA ad st ck (upd (upd (tgF (upd (swF (fiF nh (nI 0) 64) 0 w 4) 4 (nI n)) cb i) (5 + (2 * i)) ((cb i) &&& (nI 255))) ((5 + (2 * i)) + 1) (((cb i).toUInt32 >>> ((nI 8).toUInt32 &&& Int32.toUInt32 31)).toInt32)) tp tl cb cy (nI n) of wl wd) := hD
          refine lv_iinc (v := nI (i + 1)) (lv' := [(2, .int (nI (i + 1))), (0, .ref (ad 0)), (1, .int w)]) hx hb dX0_writeFullHead_75 hl (k := 2) rfl (nI_add i 1) (by decide) rfl (fun ls hl => ?_)
          refine lv_goto (tgt := 26) hx hb dX0_writeFullHead_78 (by decide) ?_
          exact ih (i + 1) (by omega) _ _ _ hP hD hS (lv_sub hl [1, 2, 0] rfl)
    exact loop_26 n 0 (by omega) _ _ _ hP hD hS (lv_sub hl [1, 2, 0] rfl)
  rw [hH, hlo] at goal
  exact goal

set_option maxHeartbeats 4000000 in
set_option maxRecDepth 100000 in
theorem c_X0_openPlace (l : Launch) (dC : Nat → ClassId) (dI : Nat → Nat → Nat) (cA : ClassId) (ad : Nat → Nat) (sz : Nat) (st ck nh tp : Nat → Int32) (tl : Int32) (cb cy : Nat → Int32) (of wl : Int32) (wd : Int64) (n : Nat) (q : Nat) (b : Int32) (hn : n < 24) (hq : q ≤ n) : Met l yX0_openPlace wsX0_openPlace ({ frames := 1, cells := 0, slots := 0, locals := 60 } : Room) (va_Pc [.ref (ad 0), .int (nI q), .int b] (fun U => U.heap.size = sz ∧ va_P (dC, dI) vwCl (wX cA ad st ck nh tp tl cb cy (nI n) of wl wd) U.heap ∧ va_K (dC, dI) vwCl [(cA, .int)] U ∧ va_D (fun _ => True) (wX cA ad st ck nh tp tl cb cy (nI n) of wl wd))) (va_Qv (fun u : XS => u = (st, nh, tp, tl, upd (va_cpy cb cb q (q + 1) (n - q)) q b, va_cpy cy cy (q * 64) ((q + 1) * 64) ((n - q) * 64), nI (n + 1), of, wl, wd)) (aX dC dI cA ad ck (va_A (wX cA ad st ck nh tp tl cb cy (nI n) of wl wd) sz)) (va_A (wX cA ad st ck nh tp tl cb cy (nI n) of wl wd) sz)) 0 0 (va_A (wX cA ad st ck nh tp tl cb cy (nI n) of wl wd) sz) := by
  refine Met.ofW (cc := cX0_openPlace) (maxL := 4) (ret := none) (by decide) rfl ?_
  intro p e s m args below meth c s₁ B hml hv
  obtain ⟨rfl, hsz, hP, hK, hD0⟩ := hv
  have hx := B.exec
  have hb := B.bytes
  have hr := B.returns
  have hts := atoms_spec (ws := wsX0_openPlace) B.pre
  have hown : s.vm.findClass RX0 = some m.cls := findClass_of_methodNamed B.named
  have hlocks := B.notSynchronized
  have hin : ∀ w ∈ u_ws RX0 TX0 11, w ∈ wsX0_openPlace := by decide +kernel
  subst hsz
  have hD := hD0.self (sz := s.heap.size)
  generalize hAe : va_A (wX cA ad st ck nh tp tl cb cy (nI n) of wl wd) s.heap.size = A at hD ⊢
  have hA : ∀ q : Nat, s.heap.size ≤ q → A q := fun q h => by rw [← hAe]; exact Or.inr h
  obtain ⟨H, locs, hH, hlo, hS⟩ : ∃ (H : Heap) (locs : List Loc), H = s.heap ∧ locs = [] ∧ va_S A s.heap H locs := ⟨s.heap, [], rfl, rfl, va_S.rf⟩
  rw [← hH] at hP
  have hP : va_P (dC, dI) vwCl (wX cA ad st ck nh tp tl cb cy (nI n) of wl wd) H := hP
  have hl := lv_entry ([.ref (ad 0), .int (nI q), .int b]) (n := 4) (Nat.le_of_ble_eq_true rfl)
  rw [lg_entry_eq]
  generalize (lg_sl ([.ref (ad 0), .int (nI q), .int b]) ++ List.replicate (4 - (lg_sl ([.ref (ad 0), .int (nI q), .int b])).length) Slot.unset).toArray = ls at hl ⊢
  have goal : W p l e (headSpec wsX0_openPlace ({ frames := 1, cells := 0, slots := 0, locals := 60 } : Room)).room s m ([.ref (ad 0), .int (nI q), .int b] : List Value).toArray below meth c H locs 0 0 (MQ below (va_Qv (fun u : XS => u = (st, nh, tp, tl, upd (va_cpy cb cb q (q + 1) (n - q)) q b, va_cpy cy cy (q * 64) ((q + 1) * 64) ((n - q) * 64), nI (n + 1), of, wl, wd)) (aX dC dI cA ad ck A) A) ([.ref (ad 0), .int (nI q), .int b] : List Value).toArray s 0 0 A) (F0 m 0 ls []) := by
    clear hH hlo
    have hl : lv_has ls 4 [(0, .ref (ad 0)), (1, .int (nI q)), (2, .int b)] := hl
    refine lv_aload_n hx hb dX0_openPlace_0 rfl (lv_at hl 0 rfl) ?_
    refine va_get (D := (dC, dI)) (ci := 0) (v := .int (nI n)) (C := RX0) (T := TX0) (N := 11) hx hb hts hin hown hK hP 0 rfl rfl 7 (by decide) (hts (.fieldLink RX0 64 "BlockJournal" "changes" "I") (by decide +kernel)) (fun _ h9 => h9) rfl dX0_openPlace_1 ?_
    refine lv_iload_n hx hb dX0_openPlace_4 rfl (lv_at hl 1 rfl) ?_
    refine lv_isub hx hb dX0_openPlace_5 ?_
    refine bj_i (pk_sub (a := n) (b := q) (by omega)) ?_
    refine lv_istore_n (lv' := [(3, .int (nI (n - q))), (0, .ref (ad 0)), (1, .int (nI q)), (2, .int b)]) hx hb dX0_openPlace_6 rfl hl (by decide) rfl (fun ls hl => ?_)
    refine lv_aload_n hx hb dX0_openPlace_7 rfl (lv_at hl 1 rfl) ?_
    refine va_get (D := (dC, dI)) (ci := 0) (v := .ref (ad 5)) (C := RX0) (T := TX0) (N := 11) hx hb hts hin hown hK hP 0 rfl rfl 5 (by decide) (hts (.fieldLink RX0 22 "BlockJournal" "changeBlocks" "[I") (by decide +kernel)) (fun _ h9 => h9) rfl dX0_openPlace_8 ?_
    refine lv_iload_n hx hb dX0_openPlace_11 rfl (lv_at hl 2 rfl) ?_
    refine lv_aload_n hx hb dX0_openPlace_12 rfl (lv_at hl 1 rfl) ?_
    refine va_get (D := (dC, dI)) (ci := 0) (v := .ref (ad 5)) (C := RX0) (T := TX0) (N := 11) hx hb hts hin hown hK hP 0 rfl rfl 5 (by decide) (hts (.fieldLink RX0 22 "BlockJournal" "changeBlocks" "[I") (by decide +kernel)) (fun _ h9 => h9) rfl dX0_openPlace_13 ?_
    refine lv_iload_n hx hb dX0_openPlace_16 rfl (lv_at hl 2 rfl) ?_
    refine lv_iconst (v := nI 1) hx hb dX0_openPlace_17 (by decide) ?_
    refine lv_iadd hx hb dX0_openPlace_18 ?_
    refine bj_i (nI_add q 1) ?_
    refine lv_iload_n hx hb dX0_openPlace_19 rfl (lv_at hl 0 rfl) ?_
    refine va_copyi (D := (dC, dI)) hx hb (hml.trans hl.1.symm) hown (hts (.methodLink RX0 73 arraycopyName) (by decide +kernel)) (hts (.native arraycopyName) (by decide +kernel)) (hts (.static arraycopyName) (by decide +kernel)) (hts (.initialized "java/lang/System") (by decide +kernel)) hK hP hD hS 5 5 0 0 (c0 := cA) (c1 := cA) (n0 := 24) (n1 := 24) (f := cb) (g := cb) (ty := .int) rfl rfl rfl rfl rfl (sp := nI q) (dp := nI (q + 1)) (n := nI (n - q)) (nI_pos (by omega)) (nI_pos (by omega)) (nI_pos (by omega)) (by rw [nI_clamp (by omega), nI_clamp (by omega)]; omega) (by rw [nI_clamp (by omega), nI_clamp (by omega)]; omega) (fun _ _ => rfl) (Nat.le_of_ble_eq_true rfl) (Nat.le_of_ble_eq_true rfl) dX0_openPlace_20 (fun H locs hP hD hS => ?_)
    rw [nI_clamp (n := q) (by omega), nI_clamp (n := q + 1) (by omega), nI_clamp (n := n - q) (by omega)] at hP hD
    have hP : va_P (dC, dI) vwCl (wX cA ad st ck nh tp tl (va_cpy cb cb q (q + 1) (n - q)) cy (nI n) of wl wd) H := hP
    have hD : va_D A (wX cA ad st ck nh tp tl (va_cpy cb cb q (q + 1) (n - q)) cy (nI n) of wl wd) := hD
    refine lv_aload_n hx hb dX0_openPlace_23 rfl (lv_at hl 1 rfl) ?_
    refine va_get (D := (dC, dI)) (ci := 0) (v := .ref (ad 6)) (C := RX0) (T := TX0) (N := 11) hx hb hts hin hown hK hP 0 rfl rfl 6 (by decide) (hts (.fieldLink RX0 25 "BlockJournal" "changeBytes" "[I") (by decide +kernel)) (fun _ h9 => h9) rfl dX0_openPlace_24 ?_
    refine lv_iload_n hx hb dX0_openPlace_27 rfl (lv_at hl 2 rfl) ?_
    refine lv_bipush (v := nI 64) hx hb dX0_openPlace_28 (by decide) ?_
    refine lv_imul hx hb dX0_openPlace_30 ?_
    refine bj_i (pk_mul q 64) ?_
    refine lv_aload_n hx hb dX0_openPlace_31 rfl (lv_at hl 1 rfl) ?_
    refine va_get (D := (dC, dI)) (ci := 0) (v := .ref (ad 6)) (C := RX0) (T := TX0) (N := 11) hx hb hts hin hown hK hP 0 rfl rfl 6 (by decide) (hts (.fieldLink RX0 25 "BlockJournal" "changeBytes" "[I") (by decide +kernel)) (fun _ h9 => h9) rfl dX0_openPlace_32 ?_
    refine lv_iload_n hx hb dX0_openPlace_35 rfl (lv_at hl 2 rfl) ?_
    refine lv_iconst (v := nI 1) hx hb dX0_openPlace_36 (by decide) ?_
    refine lv_iadd hx hb dX0_openPlace_37 ?_
    refine bj_i (nI_add q 1) ?_
    refine lv_bipush (v := nI 64) hx hb dX0_openPlace_38 (by decide) ?_
    refine lv_imul hx hb dX0_openPlace_40 ?_
    refine bj_i (pk_mul (q + 1) 64) ?_
    refine lv_iload_n hx hb dX0_openPlace_41 rfl (lv_at hl 0 rfl) ?_
    refine lv_bipush (v := nI 64) hx hb dX0_openPlace_42 (by decide) ?_
    refine lv_imul hx hb dX0_openPlace_44 ?_
    refine bj_i (pk_mul (n - q) 64) ?_
    refine va_copyi (D := (dC, dI)) hx hb (hml.trans hl.1.symm) hown (hts (.methodLink RX0 73 arraycopyName) (by decide +kernel)) (hts (.native arraycopyName) (by decide +kernel)) (hts (.static arraycopyName) (by decide +kernel)) (hts (.initialized "java/lang/System") (by decide +kernel)) hK hP hD hS 6 6 0 0 (c0 := cA) (c1 := cA) (n0 := 1536) (n1 := 1536) (f := cy) (g := cy) (ty := .int) rfl rfl rfl rfl rfl (sp := nI (q * 64)) (dp := nI ((q + 1) * 64)) (n := nI ((n - q) * 64)) (nI_pos (by omega)) (nI_pos (by omega)) (nI_pos (by omega)) (by rw [nI_clamp (by omega), nI_clamp (by omega)]; omega) (by rw [nI_clamp (by omega), nI_clamp (by omega)]; omega) (fun _ _ => rfl) (Nat.le_of_ble_eq_true rfl) (Nat.le_of_ble_eq_true rfl) dX0_openPlace_45 (fun H locs hP hD hS => ?_)
    rw [nI_clamp (n := q * 64) (by omega), nI_clamp (n := (q + 1) * 64) (by omega), nI_clamp (n := (n - q) * 64) (by omega)] at hP hD
    have hP : va_P (dC, dI) vwCl (wX cA ad st ck nh tp tl (va_cpy cb cb q (q + 1) (n - q)) (va_cpy cy cy (q * 64) ((q + 1) * 64) ((n - q) * 64)) (nI n) of wl wd) H := hP
    have hD : va_D A (wX cA ad st ck nh tp tl (va_cpy cb cb q (q + 1) (n - q)) (va_cpy cy cy (q * 64) ((q + 1) * 64) ((n - q) * 64)) (nI n) of wl wd) := hD
    refine lv_aload_n hx hb dX0_openPlace_48 rfl (lv_at hl 1 rfl) ?_
    refine va_get (D := (dC, dI)) (ci := 0) (v := .ref (ad 5)) (C := RX0) (T := TX0) (N := 11) hx hb hts hin hown hK hP 0 rfl rfl 5 (by decide) (hts (.fieldLink RX0 22 "BlockJournal" "changeBlocks" "[I") (by decide +kernel)) (fun _ h9 => h9) rfl dX0_openPlace_49 ?_
    refine lv_iload_n hx hb dX0_openPlace_52 rfl (lv_at hl 2 rfl) ?_
    refine lv_iload_n hx hb dX0_openPlace_53 rfl (lv_at hl 3 rfl) ?_
    refine va_iast (D := (dC, dI)) hx hb hK hP hD hS 5 0 (cA := cA) (n := 24) (f := (va_cpy cb cb q (q + 1) (n - q))) rfl rfl (i := (nI q)) (vp_in_nI (by omega) (by omega)) dX0_openPlace_54 (fun H locs hP hD hS => ?_)
    rw [nI_clamp (n := q) (by omega)] at hP hD
    have hP : va_P (dC, dI) vwCl (wX cA ad st ck nh tp tl (upd (va_cpy cb cb q (q + 1) (n - q)) q b) (va_cpy cy cy (q * 64) ((q + 1) * 64) ((n - q) * 64)) (nI n) of wl wd) H := hP
    have hD : va_D A (wX cA ad st ck nh tp tl (upd (va_cpy cb cb q (q + 1) (n - q)) q b) (va_cpy cy cy (q * 64) ((q + 1) * 64) ((n - q) * 64)) (nI n) of wl wd) := hD
    refine lv_aload_n hx hb dX0_openPlace_55 rfl (lv_at hl 1 rfl) ?_
    refine lv_dup hx hb dX0_openPlace_56 rfl ?_
    refine va_get (D := (dC, dI)) (ci := 0) (v := .int (nI n)) (C := RX0) (T := TX0) (N := 11) hx hb hts hin hown hK hP 0 rfl rfl 7 (by decide) (hts (.fieldLink RX0 64 "BlockJournal" "changes" "I") (by decide +kernel)) (fun _ h9 => h9) rfl dX0_openPlace_57 ?_
    refine lv_iconst (v := nI 1) hx hb dX0_openPlace_60 (by decide) ?_
    refine lv_iadd hx hb dX0_openPlace_61 ?_
    refine bj_i (nI_add n 1) ?_
    refine va_put (D := (dC, dI)) (ci := 0) (v := .int (nI (n + 1))) (ty := .int) (C := RX0) (T := TX0) (N := 11) hx hb hts hin tyX0 tyX0_ok nmX0 hown hK hP hD hS 0 rfl rfl 7 (by decide) (hts (.fieldLink RX0 64 "BlockJournal" "changes" "I") (by decide +kernel)) (fun _ h9 => h9) rfl (by decide +kernel) rfl rfl (Nat.le_of_ble_eq_true rfl) dX0_openPlace_62 (fun H locs hP hD hS => ?_)
    have hP : va_P (dC, dI) vwCl (wX cA ad st ck nh tp tl (upd (va_cpy cb cb q (q + 1) (n - q)) q b) (va_cpy cy cy (q * 64) ((q + 1) * 64) ((n - q) * 64)) (nI (n + 1)) of wl wd) H := hP
    have hD : va_D A (wX cA ad st ck nh tp tl (upd (va_cpy cb cb q (q + 1) (n - q)) q b) (va_cpy cy cy (q * 64) ((q + 1) * 64) ((n - q) * 64)) (nI (n + 1)) of wl wd) := hD
    have hpost : ((st, nh, tp, tl, upd (va_cpy cb cb q (q + 1) (n - q)) q b, va_cpy cy cy (q * 64) ((q + 1) * 64) ((n - q) * 64), nI (n + 1), of, wl, wd) : XS) = (st, nh, tp, tl, upd (va_cpy cb cb q (q + 1) (n - q)) q b, va_cpy cy cy (q * 64) ((q + 1) * 64) ((n - q) * 64), nI (n + 1), of, wl, wd) := rfl
    exact W.vret hx hb hr (fun t ht hW => ⟨⟨(st, nh, tp, tl, upd (va_cpy cb cb q (q + 1) (n - q)) q b, va_cpy cy cy (q * 64) ((q + 1) * 64) ((n - q) * 64), nI (n + 1), of, wl, wd), rfl, hpost, by rw [ht]; exact hP, va_K.moved hW.alike hK, hD⟩, hS.F ht⟩) hS.2.2 dX0_openPlace_65
  rw [hH, hlo] at goal
  exact goal

set_option maxHeartbeats 4000000 in
set_option maxRecDepth 100000 in
theorem c_X0_drop (l : Launch) (dC : Nat → ClassId) (dI : Nat → Nat → Nat) (cA : ClassId) (ad : Nat → Nat) (sz : Nat) (st ck nh tp : Nat → Int32) (tl : Int32) (cb cy : Nat → Int32) (of wl : Int32) (wd : Int64) (n : Nat)  : Met l yX0_drop wsX0_drop ({ frames := 0, cells := 0, slots := 0, locals := 0 } : Room) (va_Pc [.ref (ad 0)] (fun U => U.heap.size = sz ∧ va_P (dC, dI) vwCl (wX cA ad st ck nh tp tl cb cy (nI n) of wl wd) U.heap ∧ va_K (dC, dI) vwCl [(cA, .int)] U ∧ va_D (fun _ => True) (wX cA ad st ck nh tp tl cb cy (nI n) of wl wd))) (va_Qi (fun (r : Int32) (u : XS) => r = nI n ∧ u = (st, nh, tp, tl, cb, cy, nI 0, of, wl, wd)) (aX dC dI cA ad ck (va_A (wX cA ad st ck nh tp tl cb cy (nI n) of wl wd) sz)) (va_A (wX cA ad st ck nh tp tl cb cy (nI n) of wl wd) sz)) 0 0 (va_A (wX cA ad st ck nh tp tl cb cy (nI n) of wl wd) sz) := by
  refine Met.ofW (cc := cX0_drop) (maxL := 2) (ret := (some .int)) (by decide) rfl ?_
  intro p e s m args below meth c s₁ B hml hv
  obtain ⟨rfl, hsz, hP, hK, hD0⟩ := hv
  have hx := B.exec
  have hb := B.bytes
  have hr := B.returns
  have hts := atoms_spec (ws := wsX0_drop) B.pre
  have hown : s.vm.findClass RX0 = some m.cls := findClass_of_methodNamed B.named
  have hlocks := B.notSynchronized
  have hin : ∀ w ∈ u_ws RX0 TX0 11, w ∈ wsX0_drop := by decide +kernel
  subst hsz
  have hD := hD0.self (sz := s.heap.size)
  generalize hAe : va_A (wX cA ad st ck nh tp tl cb cy (nI n) of wl wd) s.heap.size = A at hD ⊢
  have hA : ∀ q : Nat, s.heap.size ≤ q → A q := fun q h => by rw [← hAe]; exact Or.inr h
  obtain ⟨H, locs, hH, hlo, hS⟩ : ∃ (H : Heap) (locs : List Loc), H = s.heap ∧ locs = [] ∧ va_S A s.heap H locs := ⟨s.heap, [], rfl, rfl, va_S.rf⟩
  rw [← hH] at hP
  have hP : va_P (dC, dI) vwCl (wX cA ad st ck nh tp tl cb cy (nI n) of wl wd) H := hP
  have hl := lv_entry ([.ref (ad 0)]) (n := 2) (Nat.le_of_ble_eq_true rfl)
  rw [lg_entry_eq]
  generalize (lg_sl ([.ref (ad 0)]) ++ List.replicate (2 - (lg_sl ([.ref (ad 0)])).length) Slot.unset).toArray = ls at hl ⊢
  have goal : W p l e (headSpec wsX0_drop ({ frames := 0, cells := 0, slots := 0, locals := 0 } : Room)).room s m ([.ref (ad 0)] : List Value).toArray below meth c H locs 0 0 (MQ below (va_Qi (fun (r : Int32) (u : XS) => r = nI n ∧ u = (st, nh, tp, tl, cb, cy, nI 0, of, wl, wd)) (aX dC dI cA ad ck A) A) ([.ref (ad 0)] : List Value).toArray s 0 0 A) (F0 m 0 ls []) := by
    clear hH hlo
    have hl : lv_has ls 2 [(0, .ref (ad 0))] := hl
    refine lv_aload_n hx hb dX0_drop_0 rfl (lv_at hl 0 rfl) ?_
    refine va_get (D := (dC, dI)) (ci := 0) (v := .int (nI n)) (C := RX0) (T := TX0) (N := 11) hx hb hts hin hown hK hP 0 rfl rfl 7 (by decide) (hts (.fieldLink RX0 64 "BlockJournal" "changes" "I") (by decide +kernel)) (fun _ h9 => h9) rfl dX0_drop_1 ?_
    refine lv_istore_n (lv' := [(1, .int (nI n)), (0, .ref (ad 0))]) hx hb dX0_drop_4 rfl hl (by decide) rfl (fun ls hl => ?_)
    refine lv_aload_n hx hb dX0_drop_5 rfl (lv_at hl 1 rfl) ?_
    refine lv_iconst (v := nI 0) hx hb dX0_drop_6 (by decide) ?_
    refine va_put (D := (dC, dI)) (ci := 0) (v := .int (nI 0)) (ty := .int) (C := RX0) (T := TX0) (N := 11) hx hb hts hin tyX0 tyX0_ok nmX0 hown hK hP hD hS 0 rfl rfl 7 (by decide) (hts (.fieldLink RX0 64 "BlockJournal" "changes" "I") (by decide +kernel)) (fun _ h9 => h9) rfl (by decide +kernel) rfl rfl (Nat.le_of_ble_eq_true rfl) dX0_drop_7 (fun H locs hP hD hS => ?_)
    have hP : va_P (dC, dI) vwCl (wX cA ad st ck nh tp tl cb cy (nI 0) of wl wd) H := hP
    have hD : va_D A (wX cA ad st ck nh tp tl cb cy (nI 0) of wl wd) := hD
    refine lv_iload_n hx hb dX0_drop_10 rfl (lv_at hl 0 rfl) ?_
    have hpost : ((st, nh, tp, tl, cb, cy, nI 0, of, wl, wd) : XS) = (st, nh, tp, tl, cb, cy, nI 0, of, wl, wd) := rfl
    have hres : nI n = nI n := rfl
    exact W.iret (v := nI n) hx hb hr (fun t ht hW => ⟨⟨_, (st, nh, tp, tl, cb, cy, nI 0, of, wl, wd), rfl, ⟨hres, hpost⟩, by rw [ht]; exact hP, va_K.moved hW.alike hK, hD⟩, hS.F ht⟩) hS.2.2 dX0_drop_11
  rw [hH, hlo] at goal
  exact goal

set_option maxHeartbeats 4000000 in
set_option maxRecDepth 100000 in
theorem c_X0_power (l : Launch) (dC : Nat → ClassId) (dI : Nat → Nat → Nat) (cA : ClassId) (ad : Nat → Nat) (sz : Nat) (st ck nh tp : Nat → Int32) (tl : Int32) (cb cy : Nat → Int32) (nc wl : Int32) (wd : Int64) (o : Bool)  : Met l yX0_power wsX0_power ({ frames := 0, cells := 0, slots := 0, locals := 0 } : Room) (va_Pc [.ref (ad 0)] (fun U => U.heap.size = sz ∧ va_P (dC, dI) vwCl (wX cA ad st ck nh tp tl cb cy nc (bI o) wl wd) U.heap ∧ va_K (dC, dI) vwCl [(cA, .int)] U ∧ va_D (fun _ => True) (wX cA ad st ck nh tp tl cb cy nc (bI o) wl wd))) (va_Qi (fun (r : Int32) (u : XS) => r = bI o ∧ u = (st, nh, tp, tl, cb, cy, nc, nI 0, -1, wd)) (aX dC dI cA ad ck (va_A (wX cA ad st ck nh tp tl cb cy nc (bI o) wl wd) sz)) (va_A (wX cA ad st ck nh tp tl cb cy nc (bI o) wl wd) sz)) 0 0 (va_A (wX cA ad st ck nh tp tl cb cy nc (bI o) wl wd) sz) := by
  refine Met.ofW (cc := cX0_power) (maxL := 2) (ret := (some .boolean)) (by decide) rfl ?_
  intro p e s m args below meth c s₁ B hml hv
  obtain ⟨rfl, hsz, hP, hK, hD0⟩ := hv
  have hx := B.exec
  have hb := B.bytes
  have hr := B.returns
  have hts := atoms_spec (ws := wsX0_power) B.pre
  have hown : s.vm.findClass RX0 = some m.cls := findClass_of_methodNamed B.named
  have hlocks := B.notSynchronized
  have hin : ∀ w ∈ u_ws RX0 TX0 11, w ∈ wsX0_power := by decide +kernel
  subst hsz
  have hD := hD0.self (sz := s.heap.size)
  generalize hAe : va_A (wX cA ad st ck nh tp tl cb cy nc (bI o) wl wd) s.heap.size = A at hD ⊢
  have hA : ∀ q : Nat, s.heap.size ≤ q → A q := fun q h => by rw [← hAe]; exact Or.inr h
  obtain ⟨H, locs, hH, hlo, hS⟩ : ∃ (H : Heap) (locs : List Loc), H = s.heap ∧ locs = [] ∧ va_S A s.heap H locs := ⟨s.heap, [], rfl, rfl, va_S.rf⟩
  rw [← hH] at hP
  have hP : va_P (dC, dI) vwCl (wX cA ad st ck nh tp tl cb cy nc (bI o) wl wd) H := hP
  have hl := lv_entry ([.ref (ad 0)]) (n := 2) (Nat.le_of_ble_eq_true rfl)
  rw [lg_entry_eq]
  generalize (lg_sl ([.ref (ad 0)]) ++ List.replicate (2 - (lg_sl ([.ref (ad 0)])).length) Slot.unset).toArray = ls at hl ⊢
  have goal : W p l e (headSpec wsX0_power ({ frames := 0, cells := 0, slots := 0, locals := 0 } : Room)).room s m ([.ref (ad 0)] : List Value).toArray below meth c H locs 0 0 (MQ below (va_Qi (fun (r : Int32) (u : XS) => r = bI o ∧ u = (st, nh, tp, tl, cb, cy, nc, nI 0, -1, wd)) (aX dC dI cA ad ck A) A) ([.ref (ad 0)] : List Value).toArray s 0 0 A) (F0 m 0 ls []) := by
    clear hH hlo
    have hl : lv_has ls 2 [(0, .ref (ad 0))] := hl
    refine lv_aload_n hx hb dX0_power_0 rfl (lv_at hl 0 rfl) ?_
    refine va_get (D := (dC, dI)) (ci := 0) (v := .int (bI o)) (C := RX0) (T := TX0) (N := 11) hx hb hts hin hown hK hP 0 rfl rfl 8 (by decide) (hts (.fieldLink RX0 85 "BlockJournal" "off" "Z") (by decide +kernel)) (fun _ h9 => h9) rfl dX0_power_1 ?_
    refine lv_istore_n (lv' := [(1, .int (bI o)), (0, .ref (ad 0))]) hx hb dX0_power_4 rfl hl (by decide) rfl (fun ls hl => ?_)
    refine lv_aload_n hx hb dX0_power_5 rfl (lv_at hl 1 rfl) ?_
    refine lv_iconst (v := nI 0) hx hb dX0_power_6 (by decide) ?_
    refine va_put (D := (dC, dI)) (ci := 0) (v := .int (nI 0)) (ty := .boolean) (C := RX0) (T := TX0) (N := 11) hx hb hts hin tyX0 tyX0_ok nmX0 hown hK hP hD hS 0 rfl rfl 8 (by decide) (hts (.fieldLink RX0 85 "BlockJournal" "off" "Z") (by decide +kernel)) (fun _ h9 => h9) rfl (by decide +kernel) rfl rfl (Nat.le_of_ble_eq_true rfl) dX0_power_7 (fun H locs hP hD hS => ?_)
    have hP : va_P (dC, dI) vwCl (wX cA ad st ck nh tp tl cb cy nc (nI 0) wl wd) H := hP
    have hD : va_D A (wX cA ad st ck nh tp tl cb cy nc (nI 0) wl wd) := hD
    refine lv_aload_n hx hb dX0_power_10 rfl (lv_at hl 1 rfl) ?_
    refine lv_iconst (v := (-1)) hx hb dX0_power_11 (by decide) ?_
    refine va_put (D := (dC, dI)) (ci := 0) (v := .int (-1)) (ty := .int) (C := RX0) (T := TX0) (N := 11) hx hb hts hin tyX0 tyX0_ok nmX0 hown hK hP hD hS 0 rfl rfl 9 (by decide) (hts (.fieldLink RX0 28 "BlockJournal" "writesLeft" "I") (by decide +kernel)) (fun _ h9 => h9) rfl (by decide +kernel) rfl rfl (Nat.le_of_ble_eq_true rfl) dX0_power_12 (fun H locs hP hD hS => ?_)
    have hP : va_P (dC, dI) vwCl (wX cA ad st ck nh tp tl cb cy nc (nI 0) (-1) wd) H := hP
    have hD : va_D A (wX cA ad st ck nh tp tl cb cy nc (nI 0) (-1) wd) := hD
    refine lv_iload_n hx hb dX0_power_15 rfl (lv_at hl 0 rfl) ?_
    have hpost : ((st, nh, tp, tl, cb, cy, nc, nI 0, (-1), wd) : XS) = (st, nh, tp, tl, cb, cy, nc, nI 0, -1, wd) := rfl
    have hres : bI o = bI o := rfl
    exact W.zret (v := bI o) (ty := .boolean) hx hb hr (bI_n o) (fun t ht hW => ⟨⟨_, (st, nh, tp, tl, cb, cy, nc, nI 0, (-1), wd), rfl, ⟨hres, hpost⟩, by rw [ht]; exact hP, va_K.moved hW.alike hK, hD⟩, hS.F ht⟩) hS.2.2 dX0_power_16
  rw [hH, hlo] at goal
  exact goal
end
section
/-! What a throw leans on beside the words: two statics of Throwable, the texts, words that no list of good words holds. -/
def bjB : List Cond := [.declares (Bundle.initS "java/lang/RuntimeException"), .declares (Bundle.initS "java/lang/Exception"), .declares (Bundle.initS "java/lang/Throwable"), .castable "java/lang/IllegalArgumentException" "java/lang/IllegalArgumentException", .castable "java/lang/IllegalStateException" "java/lang/IllegalStateException", .castable "java/util/NoSuchElementException" "java/util/NoSuchElementException"]
def bjTx : List (Nat × String) := [(38, "n is not 1 .. 8"), (48, "the tape would have more than 64 bytes"), (55, "the block is not 25 .. 95"), (67, "there are 24 changes of other blocks"), (89, "there are no changes, or the power is off"), (105, "the power is off"), (118, "n is below 1"), (123, "there is no such block or byte"), (127, "there is no such change"), (136, "what is not 0 .. 6")]
def bjE (A : Nat → Prop) (U : State) (H : Heap) : Prop := vx_Zq Bundle.tN "UNASSIGNED_STACK" Bundle.steD A U H ∧ vx_Zq Bundle.tN "SUPPRESSED_SENTINEL" Bundle.listD A U H ∧ (∀ w ∈ bjB, w.before #[] U = true) ∧ ∀ q ∈ bjTx, ∃ sa : Nat, vk_R RX0 q.1 q.2 sa U
theorem bjB_at {u U : State} (hvm : u.vm.Alike U.vm) (h : ∀ w ∈ bjB, w.before #[] u = true) : ∀ w ∈ bjB, w.before #[] U = true := by
  have tr : ∀ {k : Cond}, k.onTables = true → k.before #[] (u.setVm U.vm) = true → k.before #[] U = true := by
    intro k hk h
    have e := Cond.onTables_vm (A := #[]) (A' := #[]) (U := u) (U' := U) U.vm k hk
    rw [State.setVm_self] at e
    rw [← e]
    exact h
  have d : ∀ x : MethodName, Cond.declares x ∈ bjB → (Cond.declares x).before #[] U = true := fun x hx => tr rfl (by rw [Cond.declares_setVm hvm]; exact h _ hx)
  have k : ∀ a b : String, Cond.castable a b ∈ bjB → (Cond.castable a b).before #[] U = true := fun a b hx => tr rfl (by rw [Cond.castable_setVm hvm]; exact h _ hx)
  intro w hw
  have hw' := hw
  simp only [bjB, List.mem_cons, List.not_mem_nil, or_false] at hw'
  rcases hw' with rfl | rfl | rfl | rfl | rfl | rfl
  · exact d _ hw
  · exact d _ hw
  · exact d _ hw
  · exact k _ _ hw
  · exact k _ _ hw
  · exact k _ _ hw
/-- at a call, or behind one: the tables warmer, the heap changed within A, fewer cells -/
theorem bjE_at {A B : Nat → Prop} {s U : State} {H : Heap} {locs : List Loc} (h : bjE A s s.heap) (hS : va_S A s.heap H locs) (hW : s.WarmedH U.vm) (hU : U.heap = H) (hF : ∀ q, B q → A q) : bjE B U U.heap := by
  obtain ⟨h1, h2, h3, h4⟩ := h
  rw [hU]
  exact ⟨((h1.kept hS.2.1).moved hW.alike).narrow hF, ((h2.kept hS.2.1).moved hW.alike).narrow hF, bjB_at hW.alike h3, fun q hq => (h4 q hq).elim fun sa h => ⟨sa, h.warm hW⟩⟩
theorem bjE_calling {A : Nat → Prop} {U : State} {g : JFrame} {mk : MethodId} {a : Array Value} (h : bjE A U U.heap) : bjE A (U.calling g mk a) (U.calling g mk a).heap := by
  obtain ⟨h1, h2, h3, h4⟩ := h
  exact ⟨h1.moved (u := U) (U := U.calling g mk a) (Vm.Alike.refl U.vm), h2.moved (u := U) (U := U.calling g mk a) (Vm.Alike.refl U.vm), bjB_at (u := U) (U := U.calling g mk a) (Vm.Alike.refl U.vm) h3, fun q hq => (h4 q hq).elim fun sa h => ⟨sa, vk_R.same (u := U) (U := U.calling g mk a) rfl h⟩⟩
theorem bj_thr {A : Nat → Prop} {dC : Nat → ClassId} {dI : Nat → Nat → Nat} {ws : va_W} {tys : List (ClassId × FieldType)} {s t : State} {H : Heap} {locs : List Loc} (hP : va_P (dC, dI) vwCl ws H) (hK : va_K (dC, dI) vwCl tys s) (hD : va_D A ws) (hS : va_S A s.heap H locs) (hal : s.vm.Alike t.vm) (hz : H.size ≤ t.heap.size) (hk : ∀ q : Nat, q < H.size → t.heap[q]? = H[q]?) :
    (va_P (dC, dI) vwCl ws t.heap ∧ va_K (dC, dI) vwCl tys t ∧ va_D A ws) ∧ va_F A s t :=
  ⟨⟨hP.kept (fun k q h => hk _ ((hP k q h).lt)), va_K.moved hal hK, hD⟩, Nat.le_trans hS.1 hz, fun q h1 h2 => (hk q (Nat.lt_of_lt_of_le h1 hS.1)).trans (hS.2.1 q h1 h2)⟩
end
section
/-- what feed does: 0 it returns, 1 and 2 its exceptions -/
def feK (n : Int32) (T : Nat) : Nat := if n < nI 1 then 1 else if n ≤ nI 8 then (if T + n.toNatClampNeg ≤ 64 then 0 else 2) else 1
/-- the tape with i bytes of v behind its T -/
def fdF (tp : Nat → Int32) (T : Nat) (v : Int64) : Nat → Nat → Int32
  | 0 => tp
  | i + 1 => upd (fdF tp T v i) (T + i) ((v.toUInt64 >>> ((nI (8 * i)).toInt64.toUInt64 &&& Int64.toUInt64 63)).toInt64.toInt32 &&& nI 255)

set_option maxHeartbeats 4000000 in
set_option maxRecDepth 100000 in
theorem c_X0_feed (l : Launch) (h9 : l.stackTraces = false) (dC : Nat → ClassId) (dI : Nat → Nat → Nat) (cA : ClassId) (ad : Nat → Nat) (sz : Nat) (st ck nh tp : Nat → Int32) (cb cy : Nat → Int32) (nc of wl : Int32) (wd : Int64) (T : Nat) (n : Int32) (v : Int64) (hT : T ≤ 64) : vx_Met l yX0_feed wsX0_feed ({ frames := 6, cells := 1, slots := 6, locals := 82 } : Room) (va_Pc [.ref (ad 0), .int n, .long v] (fun U => U.heap.size = sz ∧ va_P (dC, dI) vwCl (wX cA ad st ck nh tp (nI T) cb cy nc of wl wd) U.heap ∧ va_K (dC, dI) vwCl [(cA, .int)] U ∧ va_D (fun _ => True) (wX cA ad st ck nh tp (nI T) cb cy nc of wl wd) ∧ bjE (va_A (wX cA ad st ck nh tp (nI T) cb cy nc of wl wd) sz) U U.heap)) (va_Qi (fun (r : Int32) (u : XS) => feK n T = 0 ∧ r = nI (T + n.toNatClampNeg) ∧ u = (st, nh, fdF tp T v n.toNatClampNeg, nI (T + n.toNatClampNeg), cb, cy, nc, of, wl, wd)) (aX dC dI cA ad ck (va_A (wX cA ad st ck nh tp (nI T) cb cy nc of wl wd) sz)) (va_A (wX cA ad st ck nh tp (nI T) cb cy nc of wl wd) sz)) (vx_X (fun _ : Unit => True) (fun E _ t => ((feK n T = 1 ∧ E = "java/lang/IllegalArgumentException") ∨ (feK n T = 2 ∧ E = "java/lang/IllegalStateException")) ∧ aX dC dI cA ad ck (va_A (wX cA ad st ck nh tp (nI T) cb cy nc of wl wd) sz) (st, nh, tp, nI T, cb, cy, nc, of, wl, wd) t) (va_A (wX cA ad st ck nh tp (nI T) cb cy nc of wl wd) sz)) 1 6 (va_A (wX cA ad st ck nh tp (nI T) cb cy nc of wl wd) sz) := by
  refine vx_ofW (cc := cX0_feed) (maxL := 5) (ret := (some .int)) (by decide) rfl ?_
  intro p e s m args below meth c s₁ B hml hnt hv
  obtain ⟨rfl, hsz, hP, hK, hD0, hE⟩ := hv
  have hx := B.exec
  have hb := B.bytes
  have hr := B.returns
  have hts := atoms_spec (ws := wsX0_feed) B.pre
  have hown : s.vm.findClass RX0 = some m.cls := findClass_of_methodNamed B.named
  have hlocks := B.notSynchronized
  have hin : ∀ w ∈ u_ws RX0 TX0 11, w ∈ wsX0_feed := by decide +kernel
  subst hsz
  have hD := hD0.self (sz := s.heap.size)
  generalize hAe : va_A (wX cA ad st ck nh tp (nI T) cb cy nc of wl wd) s.heap.size = A at hD hE ⊢
  have hA : ∀ q : Nat, s.heap.size ≤ q → A q := fun q h => by rw [← hAe]; exact Or.inr h
  obtain ⟨H, locs, hH, hlo, hS⟩ : ∃ (H : Heap) (locs : List Loc), H = s.heap ∧ locs = [] ∧ va_S A s.heap H locs := ⟨s.heap, [], rfl, rfl, va_S.rf⟩
  rw [← hH] at hP
  have hP : va_P (dC, dI) vwCl (wX cA ad st ck nh tp (nI T) cb cy nc of wl wd) H := hP
  have hl := lv_entry ([.ref (ad 0), .int n, .long v]) (n := 5) (Nat.le_of_ble_eq_true rfl)
  rw [lg_entry_eq]
  generalize (lg_sl ([.ref (ad 0), .int n, .long v]) ++ List.replicate (5 - (lg_sl ([.ref (ad 0), .int n, .long v])).length) Slot.unset).toArray = ls at hl ⊢
  have goal : W p l e (headSpec wsX0_feed ({ frames := 6, cells := 1, slots := 6, locals := 82 } : Room)).room s m ([.ref (ad 0), .int n, .long v] : List Value).toArray below meth c H locs 0 0 (vx_MQ below (va_Qi (fun (r : Int32) (u : XS) => feK n T = 0 ∧ r = nI (T + n.toNatClampNeg) ∧ u = (st, nh, fdF tp T v n.toNatClampNeg, nI (T + n.toNatClampNeg), cb, cy, nc, of, wl, wd)) (aX dC dI cA ad ck A) A) (vx_X (fun _ : Unit => True) (fun E _ t => ((feK n T = 1 ∧ E = "java/lang/IllegalArgumentException") ∨ (feK n T = 2 ∧ E = "java/lang/IllegalStateException")) ∧ aX dC dI cA ad ck A (st, nh, tp, nI T, cb, cy, nc, of, wl, wd) t) A) ([.ref (ad 0), .int n, .long v] : List Value).toArray s 1 6 A) (F0 m 0 ls []) := by
    clear hH hlo
    have hl : lv_has ls 5 [(0, .ref (ad 0)), (1, .int n), (2, .long v)] := hl
    refine lv_iload_n hx hb dX0_feed_0 rfl (lv_at hl 1 rfl) ?_
    refine lv_iconst (v := nI 1) hx hb dX0_feed_1 (by decide) ?_
    refine lv_icmp_lt (tgt := 11) hx hb dX0_feed_2 (by decide) (fun c_2 => ?_) (fun c_2 => ?_)
    · obtain ⟨sa, hsa⟩ := hE.2.2.2 (38, "n is not 1 .. 8") (by decide +kernel)
      have hgd : ∀ w ∈ (vx_atS RX0 40 "java/lang/IllegalArgumentException" ["java/lang/RuntimeException", "java/lang/Exception"]).filter goodWord, w ∈ wsX0_feed := by decide +kernel
      exact vx_throwS (own := RX0) (cls := "java/lang/IllegalArgumentException") (text := "n is not 1 .. 8") (names := ["java/lang/RuntimeException", "java/lang/Exception"]) hx hb h9 hown (by decide) (by decide) (hts (.classLink RX0 36 "java/lang/IllegalArgumentException") (by decide +kernel)) (hts (.initialized "java/lang/IllegalArgumentException") (by decide +kernel)) hsa (vx_hat (B := bjB) (fun w h => hts w (hgd w h)) (by decide +kernel) (fun w h => va_any (by revert w; decide +kernel) (hE.2.2.1 w h))) (by decide +kernel) hE.1 hE.2.1 hS (hl.1.trans hml.symm) dX0_feed_11 dX0_feed_14 dX0_feed_15 dX0_feed_17 dX0_feed_20 (fun x hx9 => (hnt x hx9).elim) (Nat.le_of_ble_eq_true rfl) (Nat.le_of_ble_eq_true rfl) (Nat.le_of_ble_eq_true rfl) (Nat.le_of_ble_eq_true rfl) hlocks (fun t hal hz hk => ⟨(), trivial, ⟨Or.inl ⟨by rw [feK, if_pos c_2], rfl⟩, (bj_thr hP hK hD hS hal hz hk).1⟩, (bj_thr hP hK hD hS hal hz hk).2⟩) hS.2.2 (Nat.le_of_ble_eq_true rfl) (Nat.le_of_ble_eq_true rfl)
    · refine lv_iload_n hx hb dX0_feed_5 rfl (lv_at hl 1 rfl) ?_
      refine lv_bipush (v := nI 8) hx hb dX0_feed_6 (by decide) ?_
      refine lv_icmp_le (tgt := 21) hx hb dX0_feed_8 (by decide) (fun c_8 => ?_) (fun c_8 => ?_)
      · obtain ⟨kk, h8, en⟩ : ∃ kk : Nat, kk ≤ 8 ∧ n = nI kk := nI_of2 (M := nI 8) (by decide) (fun h => c_2 (Int32.lt_trans h (by decide))) c_8
        have hcl : n.toNatClampNeg = kk := by rw [en]; exact nI_clamp (by omega)
        rw [en] at hl
        refine lv_aload_n hx hb dX0_feed_21 rfl (lv_at hl 0 rfl) ?_
        refine va_get (D := (dC, dI)) (ci := 0) (v := .int (nI T)) (C := RX0) (T := TX0) (N := 11) hx hb hts hin hown hK hP 0 rfl rfl 4 (by decide) (hts (.fieldLink RX0 43 "BlockJournal" "tapeLength" "I") (by decide +kernel)) (fun _ h9 => h9) rfl dX0_feed_22 ?_
        refine lv_iload_n hx hb dX0_feed_25 rfl (lv_at hl 1 rfl) ?_
        refine lv_iadd hx hb dX0_feed_26 ?_
        refine bj_i (nI_add T kk) ?_
        refine lv_bipush (v := nI 64) hx hb dX0_feed_27 (by decide) ?_
        refine lv_icmp_le (tgt := 42) hx hb dX0_feed_29 (by decide) (fun c_29 => ?_) (fun c_29 => ?_)
        · have n_29 : T + kk ≤ 64 := (nI_leI (by omega) (by omega)).mp c_29
          refine lv_iconst (v := nI 0) hx hb dX0_feed_42 (by decide) ?_
          refine lv_istore (lv' := [(4, .int (nI 0)), (0, .ref (ad 0)), (1, .int (nI kk)), (2, .long v)]) hx hb dX0_feed_43 hl (by decide) rfl (fun ls hl => ?_)
          have loop_45 : ∀ (k : Nat) (i : Nat), i + k = kk → ∀ (H : Heap) (locs : List Loc) (ls : Array Slot), va_P (dC, dI) vwCl (wX cA ad st ck nh (fdF tp T v i) (nI T) cb cy nc of wl wd) H → va_D A (wX cA ad st ck nh (fdF tp T v i) (nI T) cb cy nc of wl wd) → va_S A s.heap H locs → lv_has ls 5 [(0, .ref (ad 0)), (1, .int (nI kk)), (2, .long v), (4, .int (nI i))] → W p l e (headSpec wsX0_feed ({ frames := 6, cells := 1, slots := 6, locals := 82 } : Room)).room s m ([.ref (ad 0), .int n, .long v] : List Value).toArray below meth c H locs 0 0 (vx_MQ below (va_Qi (fun (r : Int32) (u : XS) => feK n T = 0 ∧ r = nI (T + n.toNatClampNeg) ∧ u = (st, nh, fdF tp T v n.toNatClampNeg, nI (T + n.toNatClampNeg), cb, cy, nc, of, wl, wd)) (aX dC dI cA ad ck A) A) (vx_X (fun _ : Unit => True) (fun E _ t => ((feK n T = 1 ∧ E = "java/lang/IllegalArgumentException") ∨ (feK n T = 2 ∧ E = "java/lang/IllegalStateException")) ∧ aX dC dI cA ad ck A (st, nh, tp, nI T, cb, cy, nc, of, wl, wd) t) A) ([.ref (ad 0), .int n, .long v] : List Value).toArray s 1 6 A) (F0 m 45 ls []) := by
            intro k
            induction k with
            | zero =>
              intro i hk H locs ls hP hD hS hl
              refine lv_iload hx hb dX0_feed_45 (lv_at hl 3 rfl) ?_
              refine lv_iload_n hx hb dX0_feed_47 rfl (lv_at hl 1 rfl) ?_
              refine lv_icmp_ge (tgt := 81) hx hb dX0_feed_48 (by decide) (fun c_48 => ?_) (fun c_48 => ?_)
              · have n_48 : kk ≤ i := (nI_leI (by omega) (by omega)).mp c_48
                rw [show i = kk by omega] at hP hD
                refine lv_aload_n hx hb dX0_feed_81 rfl (lv_at hl 0 rfl) ?_
                refine lv_dup hx hb dX0_feed_82 rfl ?_
                refine va_get (D := (dC, dI)) (ci := 0) (v := .int (nI T)) (C := RX0) (T := TX0) (N := 11) hx hb hts hin hown hK hP 0 rfl rfl 4 (by decide) (hts (.fieldLink RX0 43 "BlockJournal" "tapeLength" "I") (by decide +kernel)) (fun _ h9 => h9) rfl dX0_feed_83 ?_
                refine lv_iload_n hx hb dX0_feed_86 rfl (lv_at hl 1 rfl) ?_
                refine lv_iadd hx hb dX0_feed_87 ?_
                refine bj_i (nI_add T kk) ?_
                refine va_put (D := (dC, dI)) (ci := 0) (v := .int (nI (T + kk))) (ty := .int) (C := RX0) (T := TX0) (N := 11) hx hb hts hin tyX0 tyX0_ok nmX0 hown hK hP hD hS 0 rfl rfl 4 (by decide) (hts (.fieldLink RX0 43 "BlockJournal" "tapeLength" "I") (by decide +kernel)) (fun _ h9 => h9) rfl (by decide +kernel) rfl rfl (Nat.le_of_ble_eq_true rfl) dX0_feed_88 (fun H locs hP hD hS => ?_)
                have hP : va_P (dC, dI) vwCl (wX cA ad st ck nh (fdF tp T v kk) (nI (T + kk)) cb cy nc of wl wd) H := hP
                have hD : va_D A (wX cA ad st ck nh (fdF tp T v kk) (nI (T + kk)) cb cy nc of wl wd) := hD
                refine lv_aload_n hx hb dX0_feed_91 rfl (lv_at hl 0 rfl) ?_
                refine va_get (D := (dC, dI)) (ci := 0) (v := .int (nI (T + kk))) (C := RX0) (T := TX0) (N := 11) hx hb hts hin hown hK hP 0 rfl rfl 4 (by decide) (hts (.fieldLink RX0 43 "BlockJournal" "tapeLength" "I") (by decide +kernel)) (fun _ h9 => h9) rfl dX0_feed_92 ?_
                have hcode : feK n T = 0 := by rw [feK, if_neg c_2, if_pos c_8, hcl, if_pos n_29]
                have hpost : ((st, nh, fdF tp T v kk, nI (T + kk), cb, cy, nc, of, wl, wd) : XS) = (st, nh, fdF tp T v n.toNatClampNeg, nI (T + n.toNatClampNeg), cb, cy, nc, of, wl, wd) := by rw [hcl]
                refine W.widen (k := 1) (n := 6) (Nat.zero_le _) (Nat.zero_le _) ?_
                refine vx_ret ?_
                have hres : nI (T + kk) = nI (T + n.toNatClampNeg) := by rw [hcl]
                exact W.iret (v := nI (T + kk)) hx hb hr (fun t ht hW => ⟨⟨_, (st, nh, fdF tp T v kk, nI (T + kk), cb, cy, nc, of, wl, wd), rfl, ⟨hcode, hres, hpost⟩, by rw [ht]; exact hP, va_K.moved hW.alike hK, hD⟩, hS.F ht⟩) hS.2.2 dX0_feed_95
              · have n_48 : ¬ kk ≤ i := fun h => c_48 ((nI_leI (by omega) (by omega)).mpr h)
                exfalso; omega
            | succ k ih =>
              intro i hk H locs ls hP hD hS hl
              refine lv_iload hx hb dX0_feed_45 (lv_at hl 3 rfl) ?_
              refine lv_iload_n hx hb dX0_feed_47 rfl (lv_at hl 1 rfl) ?_
              refine lv_icmp_ge (tgt := 81) hx hb dX0_feed_48 (by decide) (fun c_48 => ?_) (fun c_48 => ?_)
              · have n_48 : kk ≤ i := (nI_leI (by omega) (by omega)).mp c_48
                exfalso; omega
              · have n_48 : ¬ kk ≤ i := fun h => c_48 ((nI_leI (by omega) (by omega)).mpr h)
                refine lv_aload_n hx hb dX0_feed_51 rfl (lv_at hl 0 rfl) ?_
                refine va_get (D := (dC, dI)) (ci := 0) (v := .ref (ad 4)) (C := RX0) (T := TX0) (N := 11) hx hb hts hin hown hK hP 0 rfl rfl 3 (by decide) (hts (.fieldLink RX0 19 "BlockJournal" "tape" "[I") (by decide +kernel)) (fun _ h9 => h9) rfl dX0_feed_52 ?_
                refine lv_aload_n hx hb dX0_feed_55 rfl (lv_at hl 0 rfl) ?_
                refine va_get (D := (dC, dI)) (ci := 0) (v := .int (nI T)) (C := RX0) (T := TX0) (N := 11) hx hb hts hin hown hK hP 0 rfl rfl 4 (by decide) (hts (.fieldLink RX0 43 "BlockJournal" "tapeLength" "I") (by decide +kernel)) (fun _ h9 => h9) rfl dX0_feed_56 ?_
                refine lv_iload hx hb dX0_feed_59 (lv_at hl 3 rfl) ?_
                refine lv_iadd hx hb dX0_feed_61 ?_
                refine bj_i (nI_add T i) ?_
                refine lv_lload_n hx hb dX0_feed_62 rfl (lv_at hl 2 rfl) ?_
                refine lv_bipush (v := nI 8) hx hb dX0_feed_63 (by decide) ?_
                refine lv_iload hx hb dX0_feed_65 (lv_at hl 3 rfl) ?_
                refine lv_imul hx hb dX0_feed_67 ?_
                refine bj_i (pk_mul 8 i) ?_
                refine lv_lushr hx hb dX0_feed_68 rfl ?_
                refine lv_l2i hx hb dX0_feed_69 rfl ?_
                refine lv_sipush (v := nI 255) hx hb dX0_feed_70 (by decide) ?_
                refine lv_iand hx hb dX0_feed_73 ?_
                refine va_iast (D := (dC, dI)) hx hb hK hP hD hS 4 0 (cA := cA) (n := 64) (f := (fdF tp T v i)) rfl rfl (i := (nI (T + i))) (vp_in_nI (by omega) (by omega)) dX0_feed_74 (fun H locs hP hD hS => ?_)
                rw [nI_clamp (n := T + i) (by omega)] at hP hD
                have hP : va_P (dC, dI) vwCl (wX cA ad st ck nh (upd (fdF tp T v i) (T + i) ((((v.toUInt64 >>> ((nI (8 * i)).toInt64.toUInt64 &&& Int64.toUInt64 63)).toInt64).toInt32) &&& (nI 255))) (nI T) cb cy nc of wl wd) H := hP
                have hD : va_D A (wX cA ad st ck nh (upd (fdF tp T v i) (T + i) ((((v.toUInt64 >>> ((nI (8 * i)).toInt64.toUInt64 &&& Int64.toUInt64 63)).toInt64).toInt32) &&& (nI 255))) (nI T) cb cy nc of wl wd) := hD
                refine lv_iinc (v := nI (i + 1)) (lv' := [(4, .int (nI (i + 1))), (0, .ref (ad 0)), (1, .int (nI kk)), (2, .long v)]) hx hb dX0_feed_75 hl (k := 3) rfl (nI_add i 1) (by decide) rfl (fun ls hl => ?_)
                refine lv_goto (tgt := 45) hx hb dX0_feed_78 (by decide) ?_
                exact ih (i + 1) (by omega) _ _ _ hP hD hS (lv_sub hl [1, 2, 3, 0] rfl)
          exact loop_45 kk 0 (by omega) _ _ _ hP hD hS (lv_sub hl [1, 2, 3, 0] rfl)
        · have n_29 : ¬ (T + kk) ≤ 64 := fun h => c_29 ((nI_leI (by omega) (by omega)).mpr h)
          obtain ⟨sa, hsa⟩ := hE.2.2.2 (48, "the tape would have more than 64 bytes") (by decide +kernel)
          have hgd : ∀ w ∈ (vx_atS RX0 50 "java/lang/IllegalStateException" ["java/lang/RuntimeException", "java/lang/Exception"]).filter goodWord, w ∈ wsX0_feed := by decide +kernel
          exact vx_throwS (own := RX0) (cls := "java/lang/IllegalStateException") (text := "the tape would have more than 64 bytes") (names := ["java/lang/RuntimeException", "java/lang/Exception"]) hx hb h9 hown (by decide) (by decide) (hts (.classLink RX0 46 "java/lang/IllegalStateException") (by decide +kernel)) (hts (.initialized "java/lang/IllegalStateException") (by decide +kernel)) hsa (vx_hat (B := bjB) (fun w h => hts w (hgd w h)) (by decide +kernel) (fun w h => va_any (by revert w; decide +kernel) (hE.2.2.1 w h))) (by decide +kernel) hE.1 hE.2.1 hS (hl.1.trans hml.symm) dX0_feed_32 dX0_feed_35 dX0_feed_36 dX0_feed_38 dX0_feed_41 (fun x hx9 => (hnt x hx9).elim) (Nat.le_of_ble_eq_true rfl) (Nat.le_of_ble_eq_true rfl) (Nat.le_of_ble_eq_true rfl) (Nat.le_of_ble_eq_true rfl) hlocks (fun t hal hz hk => ⟨(), trivial, ⟨Or.inr ⟨by rw [feK, if_neg c_2, if_pos c_8, hcl, if_neg n_29], rfl⟩, (bj_thr hP hK hD hS hal hz hk).1⟩, (bj_thr hP hK hD hS hal hz hk).2⟩) hS.2.2 (Nat.le_of_ble_eq_true rfl) (Nat.le_of_ble_eq_true rfl)
      · obtain ⟨sa, hsa⟩ := hE.2.2.2 (38, "n is not 1 .. 8") (by decide +kernel)
        have hgd : ∀ w ∈ (vx_atS RX0 40 "java/lang/IllegalArgumentException" ["java/lang/RuntimeException", "java/lang/Exception"]).filter goodWord, w ∈ wsX0_feed := by decide +kernel
        exact vx_throwS (own := RX0) (cls := "java/lang/IllegalArgumentException") (text := "n is not 1 .. 8") (names := ["java/lang/RuntimeException", "java/lang/Exception"]) hx hb h9 hown (by decide) (by decide) (hts (.classLink RX0 36 "java/lang/IllegalArgumentException") (by decide +kernel)) (hts (.initialized "java/lang/IllegalArgumentException") (by decide +kernel)) hsa (vx_hat (B := bjB) (fun w h => hts w (hgd w h)) (by decide +kernel) (fun w h => va_any (by revert w; decide +kernel) (hE.2.2.1 w h))) (by decide +kernel) hE.1 hE.2.1 hS (hl.1.trans hml.symm) dX0_feed_11 dX0_feed_14 dX0_feed_15 dX0_feed_17 dX0_feed_20 (fun x hx9 => (hnt x hx9).elim) (Nat.le_of_ble_eq_true rfl) (Nat.le_of_ble_eq_true rfl) (Nat.le_of_ble_eq_true rfl) (Nat.le_of_ble_eq_true rfl) hlocks (fun t hal hz hk => ⟨(), trivial, ⟨Or.inl ⟨by rw [feK, if_neg c_2, if_neg c_8], rfl⟩, (bj_thr hP hK hD hS hal hz hk).1⟩, (bj_thr hP hK hD hS hal hz hk).2⟩) hS.2.2 (Nat.le_of_ble_eq_true rfl) (Nat.le_of_ble_eq_true rfl)
  rw [hH, hlo] at goal
  exact goal

def loK (n : Int32) (o : Bool) : Nat := if nI 1 ≤ n then (if bI o = 0 then 0 else 2) else 1

set_option maxHeartbeats 4000000 in
set_option maxRecDepth 100000 in
theorem c_X0_lose (l : Launch) (h9 : l.stackTraces = false) (dC : Nat → ClassId) (dI : Nat → Nat → Nat) (cA : ClassId) (ad : Nat → Nat) (sz : Nat) (st ck nh tp : Nat → Int32) (tl : Int32) (cb cy : Nat → Int32) (nc wl : Int32) (wd : Int64) (o : Bool) (n : Int32)  : vx_Met l yX0_lose wsX0_lose ({ frames := 6, cells := 1, slots := 6, locals := 82 } : Room) (va_Pc [.ref (ad 0), .int n] (fun U => U.heap.size = sz ∧ va_P (dC, dI) vwCl (wX cA ad st ck nh tp tl cb cy nc (bI o) wl wd) U.heap ∧ va_K (dC, dI) vwCl [(cA, .int)] U ∧ va_D (fun _ => True) (wX cA ad st ck nh tp tl cb cy nc (bI o) wl wd) ∧ bjE (va_A (wX cA ad st ck nh tp tl cb cy nc (bI o) wl wd) sz) U U.heap)) (va_Qv (fun u : XS => loK n o = 0 ∧ u = (st, nh, tp, tl, cb, cy, nc, bI o, n - nI 1, wd)) (aX dC dI cA ad ck (va_A (wX cA ad st ck nh tp tl cb cy nc (bI o) wl wd) sz)) (va_A (wX cA ad st ck nh tp tl cb cy nc (bI o) wl wd) sz)) (vx_X (fun _ : Unit => True) (fun E _ t => ((loK n o = 1 ∧ E = "java/lang/IllegalArgumentException") ∨ (loK n o = 2 ∧ E = "java/lang/IllegalStateException")) ∧ aX dC dI cA ad ck (va_A (wX cA ad st ck nh tp tl cb cy nc (bI o) wl wd) sz) (st, nh, tp, tl, cb, cy, nc, bI o, wl, wd) t) (va_A (wX cA ad st ck nh tp tl cb cy nc (bI o) wl wd) sz)) 1 6 (va_A (wX cA ad st ck nh tp tl cb cy nc (bI o) wl wd) sz) := by
  refine vx_ofW (cc := cX0_lose) (maxL := 2) (ret := none) (by decide) rfl ?_
  intro p e s m args below meth c s₁ B hml hnt hv
  obtain ⟨rfl, hsz, hP, hK, hD0, hE⟩ := hv
  have hx := B.exec
  have hb := B.bytes
  have hr := B.returns
  have hts := atoms_spec (ws := wsX0_lose) B.pre
  have hown : s.vm.findClass RX0 = some m.cls := findClass_of_methodNamed B.named
  have hlocks := B.notSynchronized
  have hin : ∀ w ∈ u_ws RX0 TX0 11, w ∈ wsX0_lose := by decide +kernel
  subst hsz
  have hD := hD0.self (sz := s.heap.size)
  generalize hAe : va_A (wX cA ad st ck nh tp tl cb cy nc (bI o) wl wd) s.heap.size = A at hD hE ⊢
  have hA : ∀ q : Nat, s.heap.size ≤ q → A q := fun q h => by rw [← hAe]; exact Or.inr h
  obtain ⟨H, locs, hH, hlo, hS⟩ : ∃ (H : Heap) (locs : List Loc), H = s.heap ∧ locs = [] ∧ va_S A s.heap H locs := ⟨s.heap, [], rfl, rfl, va_S.rf⟩
  rw [← hH] at hP
  have hP : va_P (dC, dI) vwCl (wX cA ad st ck nh tp tl cb cy nc (bI o) wl wd) H := hP
  have hl := lv_entry ([.ref (ad 0), .int n]) (n := 2) (Nat.le_of_ble_eq_true rfl)
  rw [lg_entry_eq]
  generalize (lg_sl ([.ref (ad 0), .int n]) ++ List.replicate (2 - (lg_sl ([.ref (ad 0), .int n])).length) Slot.unset).toArray = ls at hl ⊢
  have goal : W p l e (headSpec wsX0_lose ({ frames := 6, cells := 1, slots := 6, locals := 82 } : Room)).room s m ([.ref (ad 0), .int n] : List Value).toArray below meth c H locs 0 0 (vx_MQ below (va_Qv (fun u : XS => loK n o = 0 ∧ u = (st, nh, tp, tl, cb, cy, nc, bI o, n - nI 1, wd)) (aX dC dI cA ad ck A) A) (vx_X (fun _ : Unit => True) (fun E _ t => ((loK n o = 1 ∧ E = "java/lang/IllegalArgumentException") ∨ (loK n o = 2 ∧ E = "java/lang/IllegalStateException")) ∧ aX dC dI cA ad ck A (st, nh, tp, tl, cb, cy, nc, bI o, wl, wd) t) A) ([.ref (ad 0), .int n] : List Value).toArray s 1 6 A) (F0 m 0 ls []) := by
    clear hH hlo
    have hl : lv_has ls 2 [(0, .ref (ad 0)), (1, .int n)] := hl
    refine lv_iload_n hx hb dX0_lose_0 rfl (lv_at hl 1 rfl) ?_
    refine lv_iconst (v := nI 1) hx hb dX0_lose_1 (by decide) ?_
    refine lv_icmp_ge (tgt := 15) hx hb dX0_lose_2 (by decide) (fun c_2 => ?_) (fun c_2 => ?_)
    · refine lv_aload_n hx hb dX0_lose_15 rfl (lv_at hl 0 rfl) ?_
      refine va_get (D := (dC, dI)) (ci := 0) (v := .int (bI o)) (C := RX0) (T := TX0) (N := 11) hx hb hts hin hown hK hP 0 rfl rfl 8 (by decide) (hts (.fieldLink RX0 85 "BlockJournal" "off" "Z") (by decide +kernel)) (fun _ h9 => h9) rfl dX0_lose_16 ?_
      refine lv_if_eq (tgt := 32) hx hb dX0_lose_19 (by decide) (fun c_19 => ?_) (fun c_19 => ?_)
      · refine lv_aload_n hx hb dX0_lose_32 rfl (lv_at hl 0 rfl) ?_
        refine lv_iload_n hx hb dX0_lose_33 rfl (lv_at hl 1 rfl) ?_
        refine lv_iconst (v := nI 1) hx hb dX0_lose_34 (by decide) ?_
        refine lv_isub hx hb dX0_lose_35 ?_
        refine va_put (D := (dC, dI)) (ci := 0) (v := .int (n - (nI 1))) (ty := .int) (C := RX0) (T := TX0) (N := 11) hx hb hts hin tyX0 tyX0_ok nmX0 hown hK hP hD hS 0 rfl rfl 9 (by decide) (hts (.fieldLink RX0 28 "BlockJournal" "writesLeft" "I") (by decide +kernel)) (fun _ h9 => h9) rfl (by decide +kernel) rfl rfl (Nat.le_of_ble_eq_true rfl) dX0_lose_36 (fun H locs hP hD hS => ?_)
        have hP : va_P (dC, dI) vwCl (wX cA ad st ck nh tp tl cb cy nc (bI o) (n - (nI 1)) wd) H := hP
        have hD : va_D A (wX cA ad st ck nh tp tl cb cy nc (bI o) (n - (nI 1)) wd) := hD
        have hcode : loK n o = 0 := by rw [loK, if_pos c_2, if_pos c_19]
        have hpost : ((st, nh, tp, tl, cb, cy, nc, bI o, n - (nI 1), wd) : XS) = (st, nh, tp, tl, cb, cy, nc, bI o, n - nI 1, wd) := rfl
        refine W.widen (k := 1) (n := 6) (Nat.zero_le _) (Nat.zero_le _) ?_
        refine vx_ret ?_
        exact W.vret hx hb hr (fun t ht hW => ⟨⟨(st, nh, tp, tl, cb, cy, nc, bI o, n - (nI 1), wd), rfl, ⟨hcode, hpost⟩, by rw [ht]; exact hP, va_K.moved hW.alike hK, hD⟩, hS.F ht⟩) hS.2.2 dX0_lose_39
      · obtain ⟨sa, hsa⟩ := hE.2.2.2 (105, "the power is off") (by decide +kernel)
        have hgd : ∀ w ∈ (vx_atS RX0 50 "java/lang/IllegalStateException" ["java/lang/RuntimeException", "java/lang/Exception"]).filter goodWord, w ∈ wsX0_lose := by decide +kernel
        exact vx_throwS (own := RX0) (cls := "java/lang/IllegalStateException") (text := "the power is off") (names := ["java/lang/RuntimeException", "java/lang/Exception"]) hx hb h9 hown (by decide) (by decide) (hts (.classLink RX0 46 "java/lang/IllegalStateException") (by decide +kernel)) (hts (.initialized "java/lang/IllegalStateException") (by decide +kernel)) hsa (vx_hat (B := bjB) (fun w h => hts w (hgd w h)) (by decide +kernel) (fun w h => va_any (by revert w; decide +kernel) (hE.2.2.1 w h))) (by decide +kernel) hE.1 hE.2.1 hS (hl.1.trans hml.symm) dX0_lose_22 dX0_lose_25 dX0_lose_26 dX0_lose_28 dX0_lose_31 (fun x hx9 => (hnt x hx9).elim) (Nat.le_of_ble_eq_true rfl) (Nat.le_of_ble_eq_true rfl) (Nat.le_of_ble_eq_true rfl) (Nat.le_of_ble_eq_true rfl) hlocks (fun t hal hz hk => ⟨(), trivial, ⟨Or.inr ⟨by rw [loK, if_pos c_2, if_neg c_19], rfl⟩, (bj_thr hP hK hD hS hal hz hk).1⟩, (bj_thr hP hK hD hS hal hz hk).2⟩) hS.2.2 (Nat.le_of_ble_eq_true rfl) (Nat.le_of_ble_eq_true rfl)
    · obtain ⟨sa, hsa⟩ := hE.2.2.2 (118, "n is below 1") (by decide +kernel)
      have hgd : ∀ w ∈ (vx_atS RX0 40 "java/lang/IllegalArgumentException" ["java/lang/RuntimeException", "java/lang/Exception"]).filter goodWord, w ∈ wsX0_lose := by decide +kernel
      exact vx_throwS (own := RX0) (cls := "java/lang/IllegalArgumentException") (text := "n is below 1") (names := ["java/lang/RuntimeException", "java/lang/Exception"]) hx hb h9 hown (by decide) (by decide) (hts (.classLink RX0 36 "java/lang/IllegalArgumentException") (by decide +kernel)) (hts (.initialized "java/lang/IllegalArgumentException") (by decide +kernel)) hsa (vx_hat (B := bjB) (fun w h => hts w (hgd w h)) (by decide +kernel) (fun w h => va_any (by revert w; decide +kernel) (hE.2.2.1 w h))) (by decide +kernel) hE.1 hE.2.1 hS (hl.1.trans hml.symm) dX0_lose_5 dX0_lose_8 dX0_lose_9 dX0_lose_11 dX0_lose_14 (fun x hx9 => (hnt x hx9).elim) (Nat.le_of_ble_eq_true rfl) (Nat.le_of_ble_eq_true rfl) (Nat.le_of_ble_eq_true rfl) (Nat.le_of_ble_eq_true rfl) hlocks (fun t hal hz hk => ⟨(), trivial, ⟨Or.inl ⟨by rw [loK, if_neg c_2], rfl⟩, (bj_thr hP hK hD hS hal hz hk).1⟩, (bj_thr hP hK hD hS hal hz hk).2⟩) hS.2.2 (Nat.le_of_ble_eq_true rfl) (Nat.le_of_ble_eq_true rfl)
  rw [hH, hlo] at goal
  exact goal

def atK (b k : Int32) : Nat := if ¬ bI (isS b k) = 0 then 0 else 1
theorem isS_nat {b k : Int32} (h : ¬ bI (isS b k) = 0) : ∃ bb kk : Nat, bb < 96 ∧ kk < 64 ∧ b = nI bb ∧ k = nI kk := by
  have h1 : isS b k = true := by
    cases hs : isS b k
    · exact absurd (by rw [hs]; decide) h
    · rfl
  unfold isS at h1
  by_cases a1 : b < 0
  · rw [if_pos a1] at h1; cases h1
  rw [if_neg a1] at h1
  by_cases a2 : nI 96 ≤ b
  · rw [if_pos a2] at h1; cases h1
  rw [if_neg a2] at h1
  by_cases a3 : k < 0
  · rw [if_pos a3] at h1; cases h1
  rw [if_neg a3] at h1
  by_cases a4 : nI 64 ≤ k
  · rw [if_pos a4] at h1; cases h1
  obtain ⟨bb, hb1, e1⟩ := nI_of a1
  obtain ⟨kk, hk1, e2⟩ := nI_of a3
  refine ⟨bb, kk, ?_, ?_, e1, e2⟩
  · rcases Nat.lt_or_ge bb 96 with h | h
    · exact h
    · exact absurd (by rw [e1]; exact nI_le h hb1) a2
  · rcases Nat.lt_or_ge kk 64 with h | h
    · exact h
    · exact absurd (by rw [e2]; exact nI_le h hk1) a4

set_option maxHeartbeats 4000000 in
set_option maxRecDepth 100000 in
theorem c_X0_spoil (l : Launch) (h9 : l.stackTraces = false) (dC : Nat → ClassId) (dI : Nat → Nat → Nat) (cA : ClassId) (ad : Nat → Nat) (sz : Nat) (st ck nh tp : Nat → Int32) (tl : Int32) (cb cy : Nat → Int32) (nc of wl : Int32) (wd : Int64) (b k v : Int32)  : vx_Met l yX0_spoil wsX0_spoil ({ frames := 6, cells := 1, slots := 6, locals := 82 } : Room) (va_Pc [.ref (ad 0), .int b, .int k, .int v] (fun U => U.heap.size = sz ∧ va_P (dC, dI) vwCl (wX cA ad st ck nh tp tl cb cy nc of wl wd) U.heap ∧ va_K (dC, dI) vwCl [(cA, .int)] U ∧ va_D (fun _ => True) (wX cA ad st ck nh tp tl cb cy nc of wl wd) ∧ bjE (va_A (wX cA ad st ck nh tp tl cb cy nc of wl wd) sz) U U.heap)) (va_Qi (fun (r : Int32) (u : XS) => atK b k = 0 ∧ r = st (b.toNatClampNeg * 64 + k.toNatClampNeg) ∧ u = (upd st (b.toNatClampNeg * 64 + k.toNatClampNeg) (v &&& nI 255), nh, tp, tl, cb, cy, nc, of, wl, wd)) (aX dC dI cA ad ck (va_A (wX cA ad st ck nh tp tl cb cy nc of wl wd) sz)) (va_A (wX cA ad st ck nh tp tl cb cy nc of wl wd) sz)) (vx_X (fun _ : Unit => True) (fun E _ t => ((atK b k = 1 ∧ E = "java/lang/IllegalArgumentException")) ∧ aX dC dI cA ad ck (va_A (wX cA ad st ck nh tp tl cb cy nc of wl wd) sz) (st, nh, tp, tl, cb, cy, nc, of, wl, wd) t) (va_A (wX cA ad st ck nh tp tl cb cy nc of wl wd) sz)) 1 6 (va_A (wX cA ad st ck nh tp tl cb cy nc of wl wd) sz) := by
  refine vx_ofW (cc := cX0_spoil) (maxL := 5) (ret := (some .int)) (by decide) rfl ?_
  intro p e s m args below meth c s₁ B hml hnt hv
  obtain ⟨rfl, hsz, hP, hK, hD0, hE⟩ := hv
  have hx := B.exec
  have hb := B.bytes
  have hr := B.returns
  have hts := atoms_spec (ws := wsX0_spoil) B.pre
  have hown : s.vm.findClass RX0 = some m.cls := findClass_of_methodNamed B.named
  have hlocks := B.notSynchronized
  have hin : ∀ w ∈ u_ws RX0 TX0 11, w ∈ wsX0_spoil := by decide +kernel
  subst hsz
  have hD := hD0.self (sz := s.heap.size)
  generalize hAe : va_A (wX cA ad st ck nh tp tl cb cy nc of wl wd) s.heap.size = A at hD hE ⊢
  have hA : ∀ q : Nat, s.heap.size ≤ q → A q := fun q h => by rw [← hAe]; exact Or.inr h
  obtain ⟨H, locs, hH, hlo, hS⟩ : ∃ (H : Heap) (locs : List Loc), H = s.heap ∧ locs = [] ∧ va_S A s.heap H locs := ⟨s.heap, [], rfl, rfl, va_S.rf⟩
  rw [← hH] at hP
  have hP : va_P (dC, dI) vwCl (wX cA ad st ck nh tp tl cb cy nc of wl wd) H := hP
  have hl := lv_entry ([.ref (ad 0), .int b, .int k, .int v]) (n := 5) (Nat.le_of_ble_eq_true rfl)
  rw [lg_entry_eq]
  generalize (lg_sl ([.ref (ad 0), .int b, .int k, .int v]) ++ List.replicate (5 - (lg_sl ([.ref (ad 0), .int b, .int k, .int v])).length) Slot.unset).toArray = ls at hl ⊢
  have goal : W p l e (headSpec wsX0_spoil ({ frames := 6, cells := 1, slots := 6, locals := 82 } : Room)).room s m ([.ref (ad 0), .int b, .int k, .int v] : List Value).toArray below meth c H locs 0 0 (vx_MQ below (va_Qi (fun (r : Int32) (u : XS) => atK b k = 0 ∧ r = st (b.toNatClampNeg * 64 + k.toNatClampNeg) ∧ u = (upd st (b.toNatClampNeg * 64 + k.toNatClampNeg) (v &&& nI 255), nh, tp, tl, cb, cy, nc, of, wl, wd)) (aX dC dI cA ad ck A) A) (vx_X (fun _ : Unit => True) (fun E _ t => ((atK b k = 1 ∧ E = "java/lang/IllegalArgumentException")) ∧ aX dC dI cA ad ck A (st, nh, tp, tl, cb, cy, nc, of, wl, wd) t) A) ([.ref (ad 0), .int b, .int k, .int v] : List Value).toArray s 1 6 A) (F0 m 0 ls []) := by
    clear hH hlo
    have hl : lv_has ls 5 [(0, .ref (ad 0)), (1, .int b), (2, .int k), (3, .int v)] := hl
    refine lv_iload_n hx hb dX0_spoil_0 rfl (lv_at hl 1 rfl) ?_
    refine lv_iload_n hx hb dX0_spoil_1 rfl (lv_at hl 2 rfl) ?_
    refine bj_call (v := .int (bI (isS b k))) (W.runS (As := [.int b, .int k]) (rest := []) ⟨hx, hb, hml, hown, hts⟩ (c_X0_isInStore l b k) (va_cwS 2 hts gX0_spoil_X0_isInStore rfl rfl rfl (by decide +kernel) ⟨Nat.le_of_ble_eq_true rfl, Nat.le_of_ble_eq_true rfl⟩) ⟨fun _ _ _ _ q => q, fun _ _ _ => ⟨rfl, trivial⟩⟩ rfl rfl hl.1 rfl (lv_room (Nat.le_of_ble_eq_true rfl)) dX0_spoil_2 ⟨Nat.le_of_ble_eq_true rfl, Nat.le_of_ble_eq_true rfl⟩) ?_
    refine lv_if_ne (tgt := 18) hx hb dX0_spoil_5 (by decide) (fun c_5 => ?_) (fun c_5 => ?_)
    · obtain ⟨bb, kk, h96, h64, eb, ek⟩ := isS_nat c_5
      have hcb : b.toNatClampNeg = bb := by rw [eb]; exact nI_clamp (by omega)
      have hck : k.toNatClampNeg = kk := by rw [ek]; exact nI_clamp (by omega)
      rw [eb, ek] at hl
      refine lv_aload_n hx hb dX0_spoil_18 rfl (lv_at hl 0 rfl) ?_
      refine va_get (D := (dC, dI)) (ci := 0) (v := .ref (ad 1)) (C := RX0) (T := TX0) (N := 11) hx hb hts hin hown hK hP 0 rfl rfl 0 (by decide) (hts (.fieldLink RX0 9 "BlockJournal" "store" "[I") (by decide +kernel)) (fun _ h9 => h9) rfl dX0_spoil_19 ?_
      refine lv_iload_n hx hb dX0_spoil_22 rfl (lv_at hl 1 rfl) ?_
      refine lv_bipush (v := nI 64) hx hb dX0_spoil_23 (by decide) ?_
      refine lv_imul hx hb dX0_spoil_25 ?_
      refine bj_i (pk_mul bb 64) ?_
      refine lv_iload_n hx hb dX0_spoil_26 rfl (lv_at hl 2 rfl) ?_
      refine lv_iadd hx hb dX0_spoil_27 ?_
      refine bj_i (nI_add (bb * 64) kk) ?_
      refine va_iald (D := (dC, dI)) hx hb hK hP 1 0 (cA := cA) (n := 6144) (f := st) rfl rfl (i := (nI ((bb * 64) + kk))) (vp_in_nI (by omega) (by omega)) dX0_spoil_28 ?_
      refine bj_i (y := st ((bb * 64) + kk)) (congrArg st (nI_clamp (by omega))) ?_
      refine lv_istore (lv' := [(4, .int (st ((bb * 64) + kk))), (0, .ref (ad 0)), (1, .int (nI bb)), (2, .int (nI kk)), (3, .int v)]) hx hb dX0_spoil_29 hl (by decide) rfl (fun ls hl => ?_)
      refine lv_aload_n hx hb dX0_spoil_31 rfl (lv_at hl 1 rfl) ?_
      refine va_get (D := (dC, dI)) (ci := 0) (v := .ref (ad 1)) (C := RX0) (T := TX0) (N := 11) hx hb hts hin hown hK hP 0 rfl rfl 0 (by decide) (hts (.fieldLink RX0 9 "BlockJournal" "store" "[I") (by decide +kernel)) (fun _ h9 => h9) rfl dX0_spoil_32 ?_
      refine lv_iload_n hx hb dX0_spoil_35 rfl (lv_at hl 2 rfl) ?_
      refine lv_bipush (v := nI 64) hx hb dX0_spoil_36 (by decide) ?_
      refine lv_imul hx hb dX0_spoil_38 ?_
      refine bj_i (pk_mul bb 64) ?_
      refine lv_iload_n hx hb dX0_spoil_39 rfl (lv_at hl 3 rfl) ?_
      refine lv_iadd hx hb dX0_spoil_40 ?_
      refine bj_i (nI_add (bb * 64) kk) ?_
      refine lv_iload_n hx hb dX0_spoil_41 rfl (lv_at hl 4 rfl) ?_
      refine lv_sipush (v := nI 255) hx hb dX0_spoil_42 (by decide) ?_
      refine lv_iand hx hb dX0_spoil_45 ?_
      refine va_iast (D := (dC, dI)) hx hb hK hP hD hS 1 0 (cA := cA) (n := 6144) (f := st) rfl rfl (i := (nI ((bb * 64) + kk))) (vp_in_nI (by omega) (by omega)) dX0_spoil_46 (fun H locs hP hD hS => ?_)
      rw [nI_clamp (n := (bb * 64) + kk) (by omega)] at hP hD
      have hP : va_P (dC, dI) vwCl (wX cA ad (upd st ((bb * 64) + kk) (v &&& (nI 255))) ck nh tp tl cb cy nc of wl wd) H := hP
      have hD : va_D A (wX cA ad (upd st ((bb * 64) + kk) (v &&& (nI 255))) ck nh tp tl cb cy nc of wl wd) := hD
      refine lv_iload hx hb dX0_spoil_47 (lv_at hl 0 rfl) ?_
      have hcode : atK b k = 0 := by rw [atK, if_pos c_5]
      have hpost : ((upd st ((bb * 64) + kk) (v &&& (nI 255)), nh, tp, tl, cb, cy, nc, of, wl, wd) : XS) = (upd st (b.toNatClampNeg * 64 + k.toNatClampNeg) (v &&& nI 255), nh, tp, tl, cb, cy, nc, of, wl, wd) := by rw [hcb, hck]
      refine W.widen (k := 1) (n := 6) (Nat.zero_le _) (Nat.zero_le _) ?_
      refine vx_ret ?_
      have hres : st ((bb * 64) + kk) = st (b.toNatClampNeg * 64 + k.toNatClampNeg) := by rw [hcb, hck]
      exact W.iret (v := st ((bb * 64) + kk)) hx hb hr (fun t ht hW => ⟨⟨_, (upd st ((bb * 64) + kk) (v &&& (nI 255)), nh, tp, tl, cb, cy, nc, of, wl, wd), rfl, ⟨hcode, hres, hpost⟩, by rw [ht]; exact hP, va_K.moved hW.alike hK, hD⟩, hS.F ht⟩) hS.2.2 dX0_spoil_49
    · obtain ⟨sa, hsa⟩ := hE.2.2.2 (123, "there is no such block or byte") (by decide +kernel)
      have hgd : ∀ w ∈ (vx_atS RX0 40 "java/lang/IllegalArgumentException" ["java/lang/RuntimeException", "java/lang/Exception"]).filter goodWord, w ∈ wsX0_spoil := by decide +kernel
      exact vx_throwS (own := RX0) (cls := "java/lang/IllegalArgumentException") (text := "there is no such block or byte") (names := ["java/lang/RuntimeException", "java/lang/Exception"]) hx hb h9 hown (by decide) (by decide) (hts (.classLink RX0 36 "java/lang/IllegalArgumentException") (by decide +kernel)) (hts (.initialized "java/lang/IllegalArgumentException") (by decide +kernel)) hsa (vx_hat (B := bjB) (fun w h => hts w (hgd w h)) (by decide +kernel) (fun w h => va_any (by revert w; decide +kernel) (hE.2.2.1 w h))) (by decide +kernel) hE.1 hE.2.1 hS (hl.1.trans hml.symm) dX0_spoil_8 dX0_spoil_11 dX0_spoil_12 dX0_spoil_14 dX0_spoil_17 (fun x hx9 => (hnt x hx9).elim) (Nat.le_of_ble_eq_true rfl) (Nat.le_of_ble_eq_true rfl) (Nat.le_of_ble_eq_true rfl) (Nat.le_of_ble_eq_true rfl) hlocks (fun t hal hz hk => ⟨(), trivial, ⟨⟨by rw [atK, if_neg (not_not_intro c_5)], rfl⟩, (bj_thr hP hK hD hS hal hz hk).1⟩, (bj_thr hP hK hD hS hal hz hk).2⟩) hS.2.2 (Nat.le_of_ble_eq_true rfl) (Nat.le_of_ble_eq_true rfl)
  rw [hH, hlo] at goal
  exact goal

set_option maxHeartbeats 4000000 in
set_option maxRecDepth 100000 in
theorem c_X0_at (l : Launch) (h9 : l.stackTraces = false) (dC : Nat → ClassId) (dI : Nat → Nat → Nat) (cA : ClassId) (ad : Nat → Nat) (sz : Nat) (st ck nh tp : Nat → Int32) (tl : Int32) (cb cy : Nat → Int32) (nc of wl : Int32) (wd : Int64) (b k : Int32)  : vx_Met l yX0_at wsX0_at ({ frames := 6, cells := 1, slots := 6, locals := 82 } : Room) (va_Pc [.ref (ad 0), .int b, .int k] (fun U => U.heap.size = sz ∧ va_P (dC, dI) vwCl (wX cA ad st ck nh tp tl cb cy nc of wl wd) U.heap ∧ va_K (dC, dI) vwCl [(cA, .int)] U ∧ va_D (fun _ => True) (wX cA ad st ck nh tp tl cb cy nc of wl wd) ∧ bjE (va_A (wX cA ad st ck nh tp tl cb cy nc of wl wd) sz) U U.heap)) (va_Qi (fun (r : Int32) (u : XS) => atK b k = 0 ∧ r = st (b.toNatClampNeg * 64 + k.toNatClampNeg) ∧ u = (st, nh, tp, tl, cb, cy, nc, of, wl, wd)) (aX dC dI cA ad ck (va_A (wX cA ad st ck nh tp tl cb cy nc of wl wd) sz)) (va_A (wX cA ad st ck nh tp tl cb cy nc of wl wd) sz)) (vx_X (fun _ : Unit => True) (fun E _ t => ((atK b k = 1 ∧ E = "java/lang/IllegalArgumentException")) ∧ aX dC dI cA ad ck (va_A (wX cA ad st ck nh tp tl cb cy nc of wl wd) sz) (st, nh, tp, tl, cb, cy, nc, of, wl, wd) t) (va_A (wX cA ad st ck nh tp tl cb cy nc of wl wd) sz)) 1 6 (va_A (wX cA ad st ck nh tp tl cb cy nc of wl wd) sz) := by
  refine vx_ofW (cc := cX0_at) (maxL := 3) (ret := (some .int)) (by decide) rfl ?_
  intro p e s m args below meth c s₁ B hml hnt hv
  obtain ⟨rfl, hsz, hP, hK, hD0, hE⟩ := hv
  have hx := B.exec
  have hb := B.bytes
  have hr := B.returns
  have hts := atoms_spec (ws := wsX0_at) B.pre
  have hown : s.vm.findClass RX0 = some m.cls := findClass_of_methodNamed B.named
  have hlocks := B.notSynchronized
  have hin : ∀ w ∈ u_ws RX0 TX0 11, w ∈ wsX0_at := by decide +kernel
  subst hsz
  have hD := hD0.self (sz := s.heap.size)
  generalize hAe : va_A (wX cA ad st ck nh tp tl cb cy nc of wl wd) s.heap.size = A at hD hE ⊢
  have hA : ∀ q : Nat, s.heap.size ≤ q → A q := fun q h => by rw [← hAe]; exact Or.inr h
  obtain ⟨H, locs, hH, hlo, hS⟩ : ∃ (H : Heap) (locs : List Loc), H = s.heap ∧ locs = [] ∧ va_S A s.heap H locs := ⟨s.heap, [], rfl, rfl, va_S.rf⟩
  rw [← hH] at hP
  have hP : va_P (dC, dI) vwCl (wX cA ad st ck nh tp tl cb cy nc of wl wd) H := hP
  have hl := lv_entry ([.ref (ad 0), .int b, .int k]) (n := 3) (Nat.le_of_ble_eq_true rfl)
  rw [lg_entry_eq]
  generalize (lg_sl ([.ref (ad 0), .int b, .int k]) ++ List.replicate (3 - (lg_sl ([.ref (ad 0), .int b, .int k])).length) Slot.unset).toArray = ls at hl ⊢
  have goal : W p l e (headSpec wsX0_at ({ frames := 6, cells := 1, slots := 6, locals := 82 } : Room)).room s m ([.ref (ad 0), .int b, .int k] : List Value).toArray below meth c H locs 0 0 (vx_MQ below (va_Qi (fun (r : Int32) (u : XS) => atK b k = 0 ∧ r = st (b.toNatClampNeg * 64 + k.toNatClampNeg) ∧ u = (st, nh, tp, tl, cb, cy, nc, of, wl, wd)) (aX dC dI cA ad ck A) A) (vx_X (fun _ : Unit => True) (fun E _ t => ((atK b k = 1 ∧ E = "java/lang/IllegalArgumentException")) ∧ aX dC dI cA ad ck A (st, nh, tp, tl, cb, cy, nc, of, wl, wd) t) A) ([.ref (ad 0), .int b, .int k] : List Value).toArray s 1 6 A) (F0 m 0 ls []) := by
    clear hH hlo
    have hl : lv_has ls 3 [(0, .ref (ad 0)), (1, .int b), (2, .int k)] := hl
    refine lv_iload_n hx hb dX0_at_0 rfl (lv_at hl 1 rfl) ?_
    refine lv_iload_n hx hb dX0_at_1 rfl (lv_at hl 2 rfl) ?_
    refine bj_call (v := .int (bI (isS b k))) (W.runS (As := [.int b, .int k]) (rest := []) ⟨hx, hb, hml, hown, hts⟩ (c_X0_isInStore l b k) (va_cwS 2 hts gX0_at_X0_isInStore rfl rfl rfl (by decide +kernel) ⟨Nat.le_of_ble_eq_true rfl, Nat.le_of_ble_eq_true rfl⟩) ⟨fun _ _ _ _ q => q, fun _ _ _ => ⟨rfl, trivial⟩⟩ rfl rfl hl.1 rfl (lv_room (Nat.le_of_ble_eq_true rfl)) dX0_at_2 ⟨Nat.le_of_ble_eq_true rfl, Nat.le_of_ble_eq_true rfl⟩) ?_
    refine lv_if_ne (tgt := 18) hx hb dX0_at_5 (by decide) (fun c_5 => ?_) (fun c_5 => ?_)
    · obtain ⟨bb, kk, h96, h64, eb, ek⟩ := isS_nat c_5
      have hcb : b.toNatClampNeg = bb := by rw [eb]; exact nI_clamp (by omega)
      have hck : k.toNatClampNeg = kk := by rw [ek]; exact nI_clamp (by omega)
      rw [eb, ek] at hl
      refine lv_aload_n hx hb dX0_at_18 rfl (lv_at hl 0 rfl) ?_
      refine va_get (D := (dC, dI)) (ci := 0) (v := .ref (ad 1)) (C := RX0) (T := TX0) (N := 11) hx hb hts hin hown hK hP 0 rfl rfl 0 (by decide) (hts (.fieldLink RX0 9 "BlockJournal" "store" "[I") (by decide +kernel)) (fun _ h9 => h9) rfl dX0_at_19 ?_
      refine lv_iload_n hx hb dX0_at_22 rfl (lv_at hl 1 rfl) ?_
      refine lv_bipush (v := nI 64) hx hb dX0_at_23 (by decide) ?_
      refine lv_imul hx hb dX0_at_25 ?_
      refine bj_i (pk_mul bb 64) ?_
      refine lv_iload_n hx hb dX0_at_26 rfl (lv_at hl 2 rfl) ?_
      refine lv_iadd hx hb dX0_at_27 ?_
      refine bj_i (nI_add (bb * 64) kk) ?_
      refine va_iald (D := (dC, dI)) hx hb hK hP 1 0 (cA := cA) (n := 6144) (f := st) rfl rfl (i := (nI ((bb * 64) + kk))) (vp_in_nI (by omega) (by omega)) dX0_at_28 ?_
      refine bj_i (y := st ((bb * 64) + kk)) (congrArg st (nI_clamp (by omega))) ?_
      have hcode : atK b k = 0 := by rw [atK, if_pos c_5]
      have hpost : ((st, nh, tp, tl, cb, cy, nc, of, wl, wd) : XS) = (st, nh, tp, tl, cb, cy, nc, of, wl, wd) := rfl
      refine W.widen (k := 1) (n := 6) (Nat.zero_le _) (Nat.zero_le _) ?_
      refine vx_ret ?_
      have hres : st ((bb * 64) + kk) = st (b.toNatClampNeg * 64 + k.toNatClampNeg) := by rw [hcb, hck]
      exact W.iret (v := st ((bb * 64) + kk)) hx hb hr (fun t ht hW => ⟨⟨_, (st, nh, tp, tl, cb, cy, nc, of, wl, wd), rfl, ⟨hcode, hres, hpost⟩, by rw [ht]; exact hP, va_K.moved hW.alike hK, hD⟩, hS.F ht⟩) hS.2.2 dX0_at_29
    · obtain ⟨sa, hsa⟩ := hE.2.2.2 (123, "there is no such block or byte") (by decide +kernel)
      have hgd : ∀ w ∈ (vx_atS RX0 40 "java/lang/IllegalArgumentException" ["java/lang/RuntimeException", "java/lang/Exception"]).filter goodWord, w ∈ wsX0_at := by decide +kernel
      exact vx_throwS (own := RX0) (cls := "java/lang/IllegalArgumentException") (text := "there is no such block or byte") (names := ["java/lang/RuntimeException", "java/lang/Exception"]) hx hb h9 hown (by decide) (by decide) (hts (.classLink RX0 36 "java/lang/IllegalArgumentException") (by decide +kernel)) (hts (.initialized "java/lang/IllegalArgumentException") (by decide +kernel)) hsa (vx_hat (B := bjB) (fun w h => hts w (hgd w h)) (by decide +kernel) (fun w h => va_any (by revert w; decide +kernel) (hE.2.2.1 w h))) (by decide +kernel) hE.1 hE.2.1 hS (hl.1.trans hml.symm) dX0_at_8 dX0_at_11 dX0_at_12 dX0_at_14 dX0_at_17 (fun x hx9 => (hnt x hx9).elim) (Nat.le_of_ble_eq_true rfl) (Nat.le_of_ble_eq_true rfl) (Nat.le_of_ble_eq_true rfl) (Nat.le_of_ble_eq_true rfl) hlocks (fun t hal hz hk => ⟨(), trivial, ⟨⟨by rw [atK, if_neg (not_not_intro c_5)], rfl⟩, (bj_thr hP hK hD hS hal hz hk).1⟩, (bj_thr hP hK hD hS hal hz hk).2⟩) hS.2.2 (Nat.le_of_ble_eq_true rfl) (Nat.le_of_ble_eq_true rfl)
  rw [hH, hlo] at goal
  exact goal
end
section
theorem plF_le (f : Nat → Int32) (b : Int32) : ∀ k i, plF f b k i ≤ i + k := by
  intro k
  induction k with
  | zero => intro i; exact Nat.le_refl _
  | succ k ih =>
    intro i
    rw [plF]
    by_cases h : b ≤ f i
    · rw [if_pos h]; omega
    · rw [if_neg h]; have := ih (i + 1); omega
theorem isT_nat {b : Int32} (h : isT b = true) : ∃ k : Nat, 25 ≤ k ∧ k < 96 ∧ b = nI k := by
  unfold isT at h
  by_cases a1 : b < nI 25
  · rw [if_pos a1] at h; cases h
  rw [if_neg a1] at h
  by_cases a2 : nI 96 ≤ b
  · rw [if_pos a2] at h; cases h
  obtain ⟨k, hk, e⟩ := nI_of (x := b) (fun q => a1 (Int32.lt_trans q (by decide)))
  refine ⟨k, ?_, ?_, e⟩
  · rcases Nat.lt_or_ge k 25 with q | q
    · exact absurd (by rw [e]; exact nI_lt q (by omega)) a1
    · exact q
  · rcases Nat.lt_or_ge k 96 with q | q
    · exact q
    · exact absurd (by rw [e]; exact nI_le q hk) a2
theorem bI_ne {x : Bool} (h : ¬ bI x = 0) : x = true := by
  cases x
  · exact absurd (by decide) h
  · rfl
theorem trF_all (f : Nat → Int32) : ∀ k i b, trF f k i b = true → ∀ j, i ≤ j → j < i + k → isT (htF f j) = true := by
  intro k
  induction k with
  | zero => intro i b _ j h1 h2; exfalso; omega
  | succ k ih =>
    intro i b h j h1 h2
    rw [trF] at h
    by_cases a1 : bI (isT (htF f i)) = 0
    · rw [if_pos a1] at h; cases h
    rw [if_neg a1] at h
    by_cases a2 : b < htF f i
    · rw [if_pos a2] at h
      by_cases e : j = i
      · rw [e]; exact bI_ne a1
      · exact ih (i + 1) _ h j (by omega) (by omega)
    · rw [if_neg a2] at h; cases h
/-- a right head: its count, its targets -/
theorem hrF_nat {f ck : Nat → Int32} (h : ¬ bI (hrF f ck) = 0) : ∃ n : Nat, 1 ≤ n ∧ n ≤ 24 ∧ f 4 = nI n ∧ ∀ i, i < n → ∃ b : Nat, 25 ≤ b ∧ b < 96 ∧ htF f i = nI b := by
  have h := bI_ne h
  unfold hrF at h
  by_cases a1 : f 4 < nI 1
  · rw [if_pos a1] at h; cases h
  rw [if_neg a1] at h
  by_cases a2 : nI 24 < f 4
  · rw [if_pos a2] at h; cases h
  rw [if_neg a2] at h
  obtain ⟨n, hn, en⟩ := nI_of2 (x := f 4) (M := nI 24) (n := 24) (by decide) (fun q => a1 (Int32.lt_trans q (by decide))) (Int32.not_lt.mp a2)
  have hcl : (f 4).toNatClampNeg = n := by rw [en]; exact nI_clamp (by omega)
  rw [hcl] at h
  by_cases a3 : bI (trF f n 0 (nI 0)) = 0
  · rw [if_pos a3] at h; cases h
  have h1 : 1 ≤ n := by
    rcases Nat.lt_or_ge n 1 with q | q
    · exact absurd (by rw [en]; exact nI_lt q (by omega)) a1
    · exact q
  exact ⟨n, h1, hn, en, fun i hi => isT_nat (trF_all f n 0 (nI 0) (bI_ne a3) i (Nat.zero_le _) (by omega))⟩
/-- the store, the power, what is left of it, the writes -/
abbrev W4 : Type := (Nat → Int32) × Int32 × Int32 × Int64
def w4 (F : Nat → Int32) (q b : Nat) (u : W4) : W4 := (wrS F u.1 u.2.2.1 q b, wrO u.2.1 u.2.2.1, wrL u.2.2.1, wrD u.2.2.1 u.2.2.2)
/-- i payload blocks are written; i changes; i targets out of the payload -/
def wpF (cy : Nat → Int32) : Nat → W4 → W4
  | 0, u => u
  | i + 1, u => w4 cy (i * 64) (1 + i) (wpF cy i u)
def wbF (cy cb : Nat → Int32) : Nat → W4 → W4
  | 0, u => u
  | i + 1, u => w4 cy (i * 64) (cb i).toNatClampNeg (wbF cy cb i u)
def wvF : Nat → W4 → W4
  | 0, u => u
  | i + 1, u => w4 (wvF i u).1 ((1 + i) * 64) (htF (wvF i u).1 i).toNatClampNeg (wvF i u)
theorem wrS_low {F st : Nat → Int32} {wl : Int32} {q b j : Nat} (h : j < b * 64 ∨ b * 64 + 64 ≤ j) : wrS F st wl q b j = st j := by
  unfold wrS
  by_cases a : ¬ wl = 0
  · rw [if_pos a]; exact pk_cpy_out h
  · rw [if_neg a]
theorem htF_eq {f g : Nat → Int32} {i : Nat} (hi : i < 24) (h : ∀ j, j < 64 → f j = g j) : htF f i = htF g i := by
  unfold htF
  rw [h _ (by omega), h _ (by omega)]
theorem wvF_low {n : Nat} {u : W4} (hn : n ≤ 24) (h : ∀ i, i < n → ∃ b : Nat, 25 ≤ b ∧ b < 96 ∧ htF u.1 i = nI b) : ∀ i, i ≤ n → ∀ j, j < 1600 → (wvF i u).1 j = u.1 j := by
  intro i
  induction i with
  | zero => intro _ j _; rfl
  | succ i ih =>
    intro hi j hj
    have h0 := ih (by omega)
    obtain ⟨b, b1, b2, eb⟩ := h i (by omega)
    have e : (htF (wvF i u).1 i).toNatClampNeg = b := by
      rw [htF_eq (by omega) (fun j hj => h0 j (by omega)), eb]; exact nI_clamp (by omega)
    show wrS (wvF i u).1 (wvF i u).1 (wvF i u).2.2.1 ((1 + i) * 64) (htF (wvF i u).1 i).toNatClampNeg j = u.1 j
    rw [e, wrS_low (by omega)]
    exact h0 j hj
theorem wvF_tgt {n : Nat} {u : W4} (hn : n ≤ 24) (h : ∀ i, i < n → ∃ b : Nat, 25 ≤ b ∧ b < 96 ∧ htF u.1 i = nI b) {i : Nat} (hi : i < n) : ∃ b : Nat, b < 96 ∧ htF (wvF i u).1 i = nI b ∧ wvF (i + 1) u = w4 (wvF i u).1 ((1 + i) * 64) b (wvF i u) := by
  obtain ⟨b, b1, b2, eb⟩ := h i hi
  have e : htF (wvF i u).1 i = nI b := by
    rw [htF_eq (by omega) (fun j hj => wvF_low hn h i (by omega) j (by omega)), eb]
  exact ⟨b, b2, e, by rw [wvF, e, nI_clamp (by omega)]⟩
def puK (cb : Nat → Int32) (n : Nat) (b : Int32) : Nat := if ¬ bI (isT b) = 0 then (if ¬ bI (icF cb n (plF cb b n 0) b) = 0 then 0 else if n < 24 then 0 else 2) else 1
/-- the changes behind a put of the bytes tp -/
def puB (cb : Nat → Int32) (n : Nat) (b : Int32) : Nat → Int32 := if ¬ bI (icF cb n (plF cb b n 0) b) = 0 then cb else upd (va_cpy cb cb (plF cb b n 0) (plF cb b n 0 + 1) (n - plF cb b n 0)) (plF cb b n 0) b
def puY (cb cy tp : Nat → Int32) (n : Nat) (b : Int32) : Nat → Int32 := va_cpy tp (if ¬ bI (icF cb n (plF cb b n 0) b) = 0 then cy else va_cpy cy cy (plF cb b n 0 * 64) ((plF cb b n 0 + 1) * 64) ((n - plF cb b n 0) * 64)) 0 (plF cb b n 0 * 64) 64
def puN (cb : Nat → Int32) (n : Nat) (b : Int32) : Nat := if ¬ bI (icF cb n (plF cb b n 0) b) = 0 then n else n + 1
def cmK (n : Nat) (o : Bool) : Nat := if nI n = 0 then 1 else if bI o = 0 then 0 else 1
/-- a commit: the row of its last head, what it leaves -/
def cm2 (st ck nh cb cy : Nat → Int32) (n : Nat) (u : W4) : W4 := w4 (fhF (wpF cy n u).1 ck nh cb n (hwF st 0 4)) 0 0 (wpF cy n u)
def cmH (st ck nh cb cy : Nat → Int32) (n : Nat) (u : W4) : Nat → Int32 := ehF (fhF (wpF cy n u).1 ck nh cb n (hwF st 0 4)) (hwF st 0 4 + nI 1)
def cmU (st ck nh cb cy : Nat → Int32) (n : Nat) (u : W4) : W4 := w4 (cmH st ck nh cb cy n u) 0 0 (wbF cy cb n (cm2 st ck nh cb cy n u))
def reK (o : Bool) : Nat := if bI o = 0 then 0 else 1
/-- a recovery -/
def rvH (nh : Nat → Int32) (n : Nat) (u : W4) : Nat → Int32 := ehF nh (hwF (wvF n u).1 0 4 + nI 1)
def rvU (nh : Nat → Int32) (n : Nat) (u : W4) : W4 := w4 (rvH nh n u) 0 0 (wvF n u)
def reU (st ck nh : Nat → Int32) (u : W4) : W4 := if ¬ bI (hrF st ck) = 0 then rvU nh (st 4).toNatClampNeg u else u
def reH (st ck nh : Nat → Int32) (u : W4) : Nat → Int32 := if ¬ bI (hrF st ck) = 0 then rvH nh (st 4).toNatClampNeg u else nh
def reR (st ck nh : Nat → Int32) (u : W4) : Int32 := if ¬ bI (hrF st ck) = 0 then (if (rvU nh (st 4).toNatClampNeg u).2.1 = 0 then st 4 else -1) else nI 0

set_option maxHeartbeats 4000000 in
set_option maxRecDepth 100000 in
theorem c_X0_put (l : Launch) (h9 : l.stackTraces = false) (dC : Nat → ClassId) (dI : Nat → Nat → Nat) (cA : ClassId) (ad : Nat → Nat) (sz : Nat) (st ck nh tp : Nat → Int32) (tl : Int32) (cb cy : Nat → Int32) (of wl : Int32) (wd : Int64) (n : Nat) (b : Int32) (hn : n ≤ 24) : vx_Met l yX0_put wsX0_put ({ frames := 6, cells := 1, slots := 6, locals := 83 } : Room) (va_Pc [.ref (ad 0), .int b] (fun U => U.heap.size = sz ∧ va_P (dC, dI) vwCl (wX cA ad st ck nh tp tl cb cy (nI n) of wl wd) U.heap ∧ va_K (dC, dI) vwCl [(cA, .int)] U ∧ va_D (fun _ => True) (wX cA ad st ck nh tp tl cb cy (nI n) of wl wd) ∧ bjE (va_A (wX cA ad st ck nh tp tl cb cy (nI n) of wl wd) sz) U U.heap)) (va_Qi (fun (r : Int32) (u : XS) => puK cb n b = 0 ∧ r = nI (puN cb n b) ∧ u = (st, nh, fiF tp (nI 0) 64, nI 0, puB cb n b, puY cb cy tp n b, nI (puN cb n b), of, wl, wd)) (aX dC dI cA ad ck (va_A (wX cA ad st ck nh tp tl cb cy (nI n) of wl wd) sz)) (va_A (wX cA ad st ck nh tp tl cb cy (nI n) of wl wd) sz)) (vx_X (fun _ : Unit => True) (fun E _ t => ((puK cb n b = 1 ∧ E = "java/lang/IllegalArgumentException") ∨ (puK cb n b = 2 ∧ E = "java/lang/IllegalStateException")) ∧ aX dC dI cA ad ck (va_A (wX cA ad st ck nh tp tl cb cy (nI n) of wl wd) sz) (st, nh, tp, tl, cb, cy, nI n, of, wl, wd) t) (va_A (wX cA ad st ck nh tp tl cb cy (nI n) of wl wd) sz)) 1 6 (va_A (wX cA ad st ck nh tp tl cb cy (nI n) of wl wd) sz) := by
  refine vx_ofW (cc := cX0_put) (maxL := 3) (ret := (some .int)) (by decide) rfl ?_
  intro p e s m args below meth c s₁ B hml hnt hv
  obtain ⟨rfl, hsz, hP, hK, hD0, hE⟩ := hv
  have hx := B.exec
  have hb := B.bytes
  have hr := B.returns
  have hts := atoms_spec (ws := wsX0_put) B.pre
  have hown : s.vm.findClass RX0 = some m.cls := findClass_of_methodNamed B.named
  have hlocks := B.notSynchronized
  have hin : ∀ w ∈ u_ws RX0 TX0 11, w ∈ wsX0_put := by decide +kernel
  subst hsz
  have hD := hD0.self (sz := s.heap.size)
  generalize hAe : va_A (wX cA ad st ck nh tp tl cb cy (nI n) of wl wd) s.heap.size = A at hD hE ⊢
  have hA : ∀ q : Nat, s.heap.size ≤ q → A q := fun q h => by rw [← hAe]; exact Or.inr h
  obtain ⟨H, locs, hH, hlo, hS⟩ : ∃ (H : Heap) (locs : List Loc), H = s.heap ∧ locs = [] ∧ va_S A s.heap H locs := ⟨s.heap, [], rfl, rfl, va_S.rf⟩
  rw [← hH] at hP
  have hP : va_P (dC, dI) vwCl (wX cA ad st ck nh tp tl cb cy (nI n) of wl wd) H := hP
  have hl := lv_entry ([.ref (ad 0), .int b]) (n := 3) (Nat.le_of_ble_eq_true rfl)
  rw [lg_entry_eq]
  generalize (lg_sl ([.ref (ad 0), .int b]) ++ List.replicate (3 - (lg_sl ([.ref (ad 0), .int b])).length) Slot.unset).toArray = ls at hl ⊢
  have goal : W p l e (headSpec wsX0_put ({ frames := 6, cells := 1, slots := 6, locals := 83 } : Room)).room s m ([.ref (ad 0), .int b] : List Value).toArray below meth c H locs 0 0 (vx_MQ below (va_Qi (fun (r : Int32) (u : XS) => puK cb n b = 0 ∧ r = nI (puN cb n b) ∧ u = (st, nh, fiF tp (nI 0) 64, nI 0, puB cb n b, puY cb cy tp n b, nI (puN cb n b), of, wl, wd)) (aX dC dI cA ad ck A) A) (vx_X (fun _ : Unit => True) (fun E _ t => ((puK cb n b = 1 ∧ E = "java/lang/IllegalArgumentException") ∨ (puK cb n b = 2 ∧ E = "java/lang/IllegalStateException")) ∧ aX dC dI cA ad ck A (st, nh, tp, tl, cb, cy, nI n, of, wl, wd) t) A) ([.ref (ad 0), .int b] : List Value).toArray s 1 6 A) (F0 m 0 ls []) := by
    clear hH hlo
    have hl : lv_has ls 3 [(0, .ref (ad 0)), (1, .int b)] := hl
    refine lv_iload_n hx hb dX0_put_0 rfl (lv_at hl 1 rfl) ?_
    refine bj_call (v := .int (bI (isT b))) (W.runS (As := [.int b]) (rest := []) ⟨hx, hb, hml, hown, hts⟩ (c_X0_isTarget l b) (va_cwS 1 hts gX0_put_X0_isTarget rfl rfl rfl (by decide +kernel) ⟨Nat.le_of_ble_eq_true rfl, Nat.le_of_ble_eq_true rfl⟩) ⟨fun _ _ _ _ q => q, fun _ _ _ => ⟨rfl, trivial⟩⟩ rfl rfl hl.1 rfl (lv_room (Nat.le_of_ble_eq_true rfl)) dX0_put_1 ⟨Nat.le_of_ble_eq_true rfl, Nat.le_of_ble_eq_true rfl⟩) ?_
    refine lv_if_ne (tgt := 17) hx hb dX0_put_4 (by decide) (fun c_4 => ?_) (fun c_4 => ?_)
    · refine lv_aload_n hx hb dX0_put_17 rfl (lv_at hl 0 rfl) ?_
      refine lv_iload_n hx hb dX0_put_18 rfl (lv_at hl 1 rfl) ?_
      refine bj_call (v := .int (nI (plF cb b n 0))) (W.runV (As := [.int b]) (rest := []) ⟨hx, hb, hml, hown, hts⟩ (c_X0_placeOf l dC dI cA ad st ck nh tp tl cb cy of wl wd n b hn) (cwV 1 hts gX0_put_X0_placeOf rfl rfl rfl (by decide +kernel) ⟨Nat.le_of_ble_eq_true rfl, Nat.le_of_ble_eq_true rfl⟩) ⟨fun a U g mk q => by obtain ⟨q0, qP, qK⟩ := q; exact ⟨q0, qP, va_K.moved (u := U) (U := U.calling g mk a) (Vm.Alike.refl U.vm) qK⟩, va_recv hK hP (ci := 0) (q0 := 0) rfl rfl, fun U hU hW => ⟨rfl, by rw [hU]; exact hP, va_K.moved hW.alike hK⟩⟩ rfl rfl hl.1 rfl (lv_room (Nat.le_of_ble_eq_true rfl)) dX0_put_19 ⟨Nat.le_of_ble_eq_true rfl, Nat.le_of_ble_eq_true rfl⟩) ?_
      refine lv_istore_n (lv' := [(2, .int (nI (plF cb b n 0))), (0, .ref (ad 0)), (1, .int b)]) hx hb dX0_put_22 rfl hl (by decide) rfl (fun ls hl => ?_)
      obtain ⟨q, hq9⟩ : ∃ q, q = plF cb b n 0 := ⟨_, rfl⟩
      have hql : q ≤ n := by rw [hq9]; have := plF_le cb b n 0; omega
      rw [← hq9] at hl
      refine lv_aload_n hx hb dX0_put_23 rfl (lv_at hl 1 rfl) ?_
      refine lv_iload_n hx hb dX0_put_24 rfl (lv_at hl 0 rfl) ?_
      refine lv_iload_n hx hb dX0_put_25 rfl (lv_at hl 2 rfl) ?_
      refine bj_call (v := .int (bI (icF cb n q b))) (W.runV (As := [.int (nI q), .int b]) (rest := []) ⟨hx, hb, hml, hown, hts⟩ (c_X0_isChangeOf l dC dI cA ad st ck nh tp tl cb cy of wl wd n q b hn (by omega)) (cwV 2 hts gX0_put_X0_isChangeOf rfl rfl rfl (by decide +kernel) ⟨Nat.le_of_ble_eq_true rfl, Nat.le_of_ble_eq_true rfl⟩) ⟨fun a U g mk q => by obtain ⟨q0, qP, qK⟩ := q; exact ⟨q0, qP, va_K.moved (u := U) (U := U.calling g mk a) (Vm.Alike.refl U.vm) qK⟩, va_recv hK hP (ci := 0) (q0 := 0) rfl rfl, fun U hU hW => ⟨rfl, by rw [hU]; exact hP, va_K.moved hW.alike hK⟩⟩ rfl rfl hl.1 rfl (lv_room (Nat.le_of_ble_eq_true rfl)) dX0_put_26 ⟨Nat.le_of_ble_eq_true rfl, Nat.le_of_ble_eq_true rfl⟩) ?_
      refine lv_if_ne (tgt := 57) hx hb dX0_put_29 (by decide) (fun c_29 => ?_) (fun c_29 => ?_)
      · have hq24 : q < 24 := by
          have hic := bI_ne c_29
          unfold icF at hic
          by_cases a9 : n ≤ q
          · rw [if_pos a9] at hic; cases hic
          · omega
        refine lv_aload_n hx hb dX0_put_57 rfl (lv_at hl 1 rfl) ?_
        refine va_get (D := (dC, dI)) (ci := 0) (v := .ref (ad 4)) (C := RX0) (T := TX0) (N := 11) hx hb hts hin hown hK hP 0 rfl rfl 3 (by decide) (hts (.fieldLink RX0 19 "BlockJournal" "tape" "[I") (by decide +kernel)) (fun _ h9 => h9) rfl dX0_put_58 ?_
        refine lv_iconst (v := nI 0) hx hb dX0_put_61 (by decide) ?_
        refine lv_aload_n hx hb dX0_put_62 rfl (lv_at hl 1 rfl) ?_
        refine va_get (D := (dC, dI)) (ci := 0) (v := .ref (ad 6)) (C := RX0) (T := TX0) (N := 11) hx hb hts hin hown hK hP 0 rfl rfl 6 (by decide) (hts (.fieldLink RX0 25 "BlockJournal" "changeBytes" "[I") (by decide +kernel)) (fun _ h9 => h9) rfl dX0_put_63 ?_
        refine lv_iload_n hx hb dX0_put_66 rfl (lv_at hl 0 rfl) ?_
        refine lv_bipush (v := nI 64) hx hb dX0_put_67 (by decide) ?_
        refine lv_imul hx hb dX0_put_69 ?_
        refine bj_i (pk_mul q 64) ?_
        refine lv_bipush (v := nI 64) hx hb dX0_put_70 (by decide) ?_
        refine va_copyi (D := (dC, dI)) hx hb (hml.trans hl.1.symm) hown (hts (.methodLink RX0 73 arraycopyName) (by decide +kernel)) (hts (.native arraycopyName) (by decide +kernel)) (hts (.static arraycopyName) (by decide +kernel)) (hts (.initialized "java/lang/System") (by decide +kernel)) hK hP hD hS 4 6 0 0 (c0 := cA) (c1 := cA) (n0 := 64) (n1 := 1536) (f := tp) (g := cy) (ty := .int) rfl rfl rfl rfl rfl (sp := nI 0) (dp := nI (q * 64)) (n := nI 64) (nI_pos (by omega)) (nI_pos (by omega)) (nI_pos (by omega)) (by rw [nI_clamp (by omega), nI_clamp (by omega)]; omega) (by rw [nI_clamp (by omega), nI_clamp (by omega)]; omega) (fun _ _ => rfl) (Nat.le_of_ble_eq_true rfl) (Nat.le_of_ble_eq_true rfl) dX0_put_72 (fun H locs hP hD hS => ?_)
        rw [nI_clamp (n := 0) (by omega), nI_clamp (n := q * 64) (by omega), nI_clamp (n := 64) (by omega)] at hP hD
        have hP : va_P (dC, dI) vwCl (wX cA ad st ck nh tp tl cb (va_cpy tp cy 0 (q * 64) 64) (nI n) of wl wd) H := hP
        have hD : va_D A (wX cA ad st ck nh tp tl cb (va_cpy tp cy 0 (q * 64) 64) (nI n) of wl wd) := hD
        refine lv_aload_n hx hb dX0_put_75 rfl (lv_at hl 1 rfl) ?_
        refine va_get (D := (dC, dI)) (ci := 0) (v := .ref (ad 4)) (C := RX0) (T := TX0) (N := 11) hx hb hts hin hown hK hP 0 rfl rfl 3 (by decide) (hts (.fieldLink RX0 19 "BlockJournal" "tape" "[I") (by decide +kernel)) (fun _ h9 => h9) rfl dX0_put_76 ?_
        refine lv_iconst (v := nI 0) hx hb dX0_put_79 (by decide) ?_
        have hPc := hP.sub (ws' := [(ad 4, .inl (cA, 64, .inl tp))]) [4] rfl
        have hDc := hD.sub (ws' := [(ad 4, .inl (cA, 64, .inl tp))]) [4] (by decide) rfl
        have hFc := va_free (wc := [(ad 4, .inl (cA, 64, .inl tp))]) hD hS hA [4] rfl
        refine va_callv (va_runS (As := [.ref (ad 4), .int (nI 0)]) (rest := []) ⟨hx, hb, hml, hown, hts⟩ (c_fill l dC dI cA ad H.size (ad 4) 64 tp (nI 0) (by decide)) (va_cwS 2 hts gX0_put_J7_fill_53178 rfl rfl rfl (by decide +kernel) ⟨Nat.le_of_ble_eq_true rfl, Nat.le_of_ble_eq_true rfl⟩) ⟨fun a U g mk q => by obtain ⟨q0, q1, qP, qK, qD⟩ := q; exact ⟨q0, q1, qP, va_K.moved (u := U) (U := U.calling g mk a) (Vm.Alike.refl U.vm) qK, qD⟩, fun U hU hW => ⟨rfl, by rw [hU], by rw [hU]; exact hPc, va_K.moved hW.alike hK, hDc.weaken (fun _ _ _ _ => trivial)⟩⟩ rfl rfl hl.1 rfl (lv_room (Nat.le_of_ble_eq_true rfl)) dX0_put_80 ⟨Nat.le_of_ble_eq_true rfl, Nat.le_of_ble_eq_true rfl⟩) hS (fun q _ h => hFc q h) hFc (fun u t H1 locs ht hvm hw hB hz1 hk1 hS => ?_)
        obtain ⟨hP1, hK1, hD1⟩ := hB
        subst hw
        rw [ht] at hP1
        obtain ⟨hP, hD⟩ := va_join (wr := [(ad 0, .inr (0, [.ref (ad 1), .ref (ad 2), .ref (ad 3), .ref (ad 4), .int tl, .ref (ad 5), .ref (ad 6), .int (nI n), .int of, .int wl, .long wd])), (ad 1, .inl (cA, 6144, .inl st)), (ad 2, .inl (cA, 256, .inl ck)), (ad 3, .inl (cA, 64, .inl nh)), (ad 5, .inl (cA, 24, .inl cb)), (ad 6, .inl (cA, 1536, .inl (va_cpy tp cy 0 (q * 64) 64)))]) (w1 := [(ad 4, .inl (cA, 64, .inl (fiF tp (nI 0) 64)))]) hP hD [4] [0, 1, 2, 3, 5, 6] rfl rfl (by decide) (by decide) hk1 hFc hP1 hD1
        have hP : va_P (dC, dI) vwCl (wX cA ad st ck nh (fiF tp (nI 0) 64) tl cb (va_cpy tp cy 0 (q * 64) 64) (nI n) of wl wd) H1 := hP.sub (ws' := wX cA ad st ck nh (fiF tp (nI 0) 64) tl cb (va_cpy tp cy 0 (q * 64) 64) (nI n) of wl wd) [0, 1, 2, 3, 6, 4, 5] rfl
        have hD : va_D A (wX cA ad st ck nh (fiF tp (nI 0) 64) tl cb (va_cpy tp cy 0 (q * 64) 64) (nI n) of wl wd) := hD.sub (ws' := wX cA ad st ck nh (fiF tp (nI 0) 64) tl cb (va_cpy tp cy 0 (q * 64) 64) (nI n) of wl wd) [0, 1, 2, 3, 6, 4, 5] (by decide) rfl
        generalize H1 = H at hP hS ⊢
        refine lv_aload_n hx hb dX0_put_83 rfl (lv_at hl 1 rfl) ?_
        refine lv_iconst (v := nI 0) hx hb dX0_put_84 (by decide) ?_
        refine va_put (D := (dC, dI)) (ci := 0) (v := .int (nI 0)) (ty := .int) (C := RX0) (T := TX0) (N := 11) hx hb hts hin tyX0 tyX0_ok nmX0 hown hK hP hD hS 0 rfl rfl 4 (by decide) (hts (.fieldLink RX0 43 "BlockJournal" "tapeLength" "I") (by decide +kernel)) (fun _ h9 => h9) rfl (by decide +kernel) rfl rfl (Nat.le_of_ble_eq_true rfl) dX0_put_85 (fun H locs hP hD hS => ?_)
        have hP : va_P (dC, dI) vwCl (wX cA ad st ck nh (fiF tp (nI 0) 64) (nI 0) cb (va_cpy tp cy 0 (q * 64) 64) (nI n) of wl wd) H := hP
        have hD : va_D A (wX cA ad st ck nh (fiF tp (nI 0) 64) (nI 0) cb (va_cpy tp cy 0 (q * 64) 64) (nI n) of wl wd) := hD
        refine lv_aload_n hx hb dX0_put_88 rfl (lv_at hl 1 rfl) ?_
        refine va_get (D := (dC, dI)) (ci := 0) (v := .int (nI n)) (C := RX0) (T := TX0) (N := 11) hx hb hts hin hown hK hP 0 rfl rfl 7 (by decide) (hts (.fieldLink RX0 64 "BlockJournal" "changes" "I") (by decide +kernel)) (fun _ h9 => h9) rfl dX0_put_89 ?_
        have hcode : puK cb n b = 0 := by rw [puK, if_pos c_4, ← hq9, if_pos c_29]
        have hpost : ((st, nh, fiF tp (nI 0) 64, nI 0, cb, va_cpy tp cy 0 (q * 64) 64, nI n, of, wl, wd) : XS) = (st, nh, fiF tp (nI 0) 64, nI 0, puB cb n b, puY cb cy tp n b, nI (puN cb n b), of, wl, wd) := by simp only [puB, puY, puN, ← hq9, if_pos c_29]
        refine W.widen (k := 1) (n := 6) (Nat.zero_le _) (Nat.zero_le _) ?_
        refine vx_ret ?_
        have hres : nI n = nI (puN cb n b) := by simp only [puN, ← hq9, if_pos c_29]
        exact W.iret (v := nI n) hx hb hr (fun t ht hW => ⟨⟨_, (st, nh, fiF tp (nI 0) 64, nI 0, cb, va_cpy tp cy 0 (q * 64) 64, nI n, of, wl, wd), rfl, ⟨hcode, hres, hpost⟩, by rw [ht]; exact hP, va_K.moved hW.alike hK, hD⟩, hS.F ht⟩) hS.2.2 dX0_put_92
      · refine lv_aload_n hx hb dX0_put_32 rfl (lv_at hl 1 rfl) ?_
        refine va_get (D := (dC, dI)) (ci := 0) (v := .int (nI n)) (C := RX0) (T := TX0) (N := 11) hx hb hts hin hown hK hP 0 rfl rfl 7 (by decide) (hts (.fieldLink RX0 64 "BlockJournal" "changes" "I") (by decide +kernel)) (fun _ h9 => h9) rfl dX0_put_33 ?_
        refine lv_bipush (v := nI 24) hx hb dX0_put_36 (by decide) ?_
        refine lv_icmp_lt (tgt := 51) hx hb dX0_put_38 (by decide) (fun c_38 => ?_) (fun c_38 => ?_)
        · have n_38 : n < 24 := (nI_ltI (by omega) (by omega)).mp c_38
          refine lv_aload_n hx hb dX0_put_51 rfl (lv_at hl 1 rfl) ?_
          refine lv_iload_n hx hb dX0_put_52 rfl (lv_at hl 0 rfl) ?_
          refine lv_iload_n hx hb dX0_put_53 rfl (lv_at hl 2 rfl) ?_
          have hFc := va_free (wc := wX cA ad st ck nh tp tl cb cy (nI n) of wl wd) hD hS hA [0, 1, 2, 3, 4, 5, 6] rfl
          refine va_callv (va_runV (As := [.int (nI q), .int b]) (rest := []) ⟨hx, hb, hml, hown, hts⟩ (c_X0_openPlace l dC dI cA ad H.size st ck nh tp tl cb cy of wl wd n q b (by omega) (by omega)) (cwV 2 hts gX0_put_X0_openPlace rfl rfl rfl (by decide +kernel) ⟨Nat.le_of_ble_eq_true rfl, Nat.le_of_ble_eq_true rfl⟩) ⟨fun a U g mk q => by obtain ⟨q0, q1, qP, qK, qD⟩ := q; exact ⟨q0, q1, qP, va_K.moved (u := U) (U := U.calling g mk a) (Vm.Alike.refl U.vm) qK, qD⟩, va_recv hK hP (ci := 0) (q0 := 0) rfl rfl, fun U hU hW => ⟨rfl, by rw [hU], by rw [hU]; exact hP, va_K.moved hW.alike hK, hD.weaken (fun _ _ _ _ => trivial)⟩⟩ rfl rfl hl.1 rfl (lv_room (Nat.le_of_ble_eq_true rfl)) dX0_put_54 ⟨Nat.le_of_ble_eq_true rfl, Nat.le_of_ble_eq_true rfl⟩) hS (fun q _ h => hFc q h) hFc (fun u t H1 locs ht hvm hw hB hz1 hk1 hS => ?_)
          obtain ⟨hP1, hK1, hD1⟩ := hB
          subst hw
          rw [ht] at hP1
          have hP : va_P (dC, dI) vwCl (wX cA ad st ck nh tp tl (upd (va_cpy cb cb q (q + 1) (n - q)) q b) (va_cpy cy cy (q * 64) ((q + 1) * 64) ((n - q) * 64)) (nI (n + 1)) of wl wd) H1 := hP1
          have hD : va_D A (wX cA ad st ck nh tp tl (upd (va_cpy cb cb q (q + 1) (n - q)) q b) (va_cpy cy cy (q * 64) ((q + 1) * 64) ((n - q) * 64)) (nI (n + 1)) of wl wd) := ⟨hD1.1, fun k q h => hFc _ (hD1.2 k q h)⟩
          generalize H1 = H at hP hS ⊢
          have hq24 : q < 24 := by omega
          refine lv_aload_n hx hb dX0_put_57 rfl (lv_at hl 1 rfl) ?_
          refine va_get (D := (dC, dI)) (ci := 0) (v := .ref (ad 4)) (C := RX0) (T := TX0) (N := 11) hx hb hts hin hown hK hP 0 rfl rfl 3 (by decide) (hts (.fieldLink RX0 19 "BlockJournal" "tape" "[I") (by decide +kernel)) (fun _ h9 => h9) rfl dX0_put_58 ?_
          refine lv_iconst (v := nI 0) hx hb dX0_put_61 (by decide) ?_
          refine lv_aload_n hx hb dX0_put_62 rfl (lv_at hl 1 rfl) ?_
          refine va_get (D := (dC, dI)) (ci := 0) (v := .ref (ad 6)) (C := RX0) (T := TX0) (N := 11) hx hb hts hin hown hK hP 0 rfl rfl 6 (by decide) (hts (.fieldLink RX0 25 "BlockJournal" "changeBytes" "[I") (by decide +kernel)) (fun _ h9 => h9) rfl dX0_put_63 ?_
          refine lv_iload_n hx hb dX0_put_66 rfl (lv_at hl 0 rfl) ?_
          refine lv_bipush (v := nI 64) hx hb dX0_put_67 (by decide) ?_
          refine lv_imul hx hb dX0_put_69 ?_
          refine bj_i (pk_mul q 64) ?_
          refine lv_bipush (v := nI 64) hx hb dX0_put_70 (by decide) ?_
          refine va_copyi (D := (dC, dI)) hx hb (hml.trans hl.1.symm) hown (hts (.methodLink RX0 73 arraycopyName) (by decide +kernel)) (hts (.native arraycopyName) (by decide +kernel)) (hts (.static arraycopyName) (by decide +kernel)) (hts (.initialized "java/lang/System") (by decide +kernel)) hK hP hD hS 4 6 0 0 (c0 := cA) (c1 := cA) (n0 := 64) (n1 := 1536) (f := tp) (g := (va_cpy cy cy (q * 64) ((q + 1) * 64) ((n - q) * 64))) (ty := .int) rfl rfl rfl rfl rfl (sp := nI 0) (dp := nI (q * 64)) (n := nI 64) (nI_pos (by omega)) (nI_pos (by omega)) (nI_pos (by omega)) (by rw [nI_clamp (by omega), nI_clamp (by omega)]; omega) (by rw [nI_clamp (by omega), nI_clamp (by omega)]; omega) (fun _ _ => rfl) (Nat.le_of_ble_eq_true rfl) (Nat.le_of_ble_eq_true rfl) dX0_put_72 (fun H locs hP hD hS => ?_)
          rw [nI_clamp (n := 0) (by omega), nI_clamp (n := q * 64) (by omega), nI_clamp (n := 64) (by omega)] at hP hD
          have hP : va_P (dC, dI) vwCl (wX cA ad st ck nh tp tl (upd (va_cpy cb cb q (q + 1) (n - q)) q b) (va_cpy tp (va_cpy cy cy (q * 64) ((q + 1) * 64) ((n - q) * 64)) 0 (q * 64) 64) (nI (n + 1)) of wl wd) H := hP
          have hD : va_D A (wX cA ad st ck nh tp tl (upd (va_cpy cb cb q (q + 1) (n - q)) q b) (va_cpy tp (va_cpy cy cy (q * 64) ((q + 1) * 64) ((n - q) * 64)) 0 (q * 64) 64) (nI (n + 1)) of wl wd) := hD
          refine lv_aload_n hx hb dX0_put_75 rfl (lv_at hl 1 rfl) ?_
          refine va_get (D := (dC, dI)) (ci := 0) (v := .ref (ad 4)) (C := RX0) (T := TX0) (N := 11) hx hb hts hin hown hK hP 0 rfl rfl 3 (by decide) (hts (.fieldLink RX0 19 "BlockJournal" "tape" "[I") (by decide +kernel)) (fun _ h9 => h9) rfl dX0_put_76 ?_
          refine lv_iconst (v := nI 0) hx hb dX0_put_79 (by decide) ?_
          have hPc := hP.sub (ws' := [(ad 4, .inl (cA, 64, .inl tp))]) [4] rfl
          have hDc := hD.sub (ws' := [(ad 4, .inl (cA, 64, .inl tp))]) [4] (by decide) rfl
          have hFc := va_free (wc := [(ad 4, .inl (cA, 64, .inl tp))]) hD hS hA [4] rfl
          refine va_callv (va_runS (As := [.ref (ad 4), .int (nI 0)]) (rest := []) ⟨hx, hb, hml, hown, hts⟩ (c_fill l dC dI cA ad H.size (ad 4) 64 tp (nI 0) (by decide)) (va_cwS 2 hts gX0_put_J7_fill_53178 rfl rfl rfl (by decide +kernel) ⟨Nat.le_of_ble_eq_true rfl, Nat.le_of_ble_eq_true rfl⟩) ⟨fun a U g mk q => by obtain ⟨q0, q1, qP, qK, qD⟩ := q; exact ⟨q0, q1, qP, va_K.moved (u := U) (U := U.calling g mk a) (Vm.Alike.refl U.vm) qK, qD⟩, fun U hU hW => ⟨rfl, by rw [hU], by rw [hU]; exact hPc, va_K.moved hW.alike hK, hDc.weaken (fun _ _ _ _ => trivial)⟩⟩ rfl rfl hl.1 rfl (lv_room (Nat.le_of_ble_eq_true rfl)) dX0_put_80 ⟨Nat.le_of_ble_eq_true rfl, Nat.le_of_ble_eq_true rfl⟩) hS (fun q _ h => hFc q h) hFc (fun u t H1 locs ht hvm hw hB hz1 hk1 hS => ?_)
          obtain ⟨hP1, hK1, hD1⟩ := hB
          subst hw
          rw [ht] at hP1
          obtain ⟨hP, hD⟩ := va_join (wr := [(ad 0, .inr (0, [.ref (ad 1), .ref (ad 2), .ref (ad 3), .ref (ad 4), .int tl, .ref (ad 5), .ref (ad 6), .int (nI (n + 1)), .int of, .int wl, .long wd])), (ad 1, .inl (cA, 6144, .inl st)), (ad 2, .inl (cA, 256, .inl ck)), (ad 3, .inl (cA, 64, .inl nh)), (ad 5, .inl (cA, 24, .inl (upd (va_cpy cb cb q (q + 1) (n - q)) q b))), (ad 6, .inl (cA, 1536, .inl (va_cpy tp (va_cpy cy cy (q * 64) ((q + 1) * 64) ((n - q) * 64)) 0 (q * 64) 64)))]) (w1 := [(ad 4, .inl (cA, 64, .inl (fiF tp (nI 0) 64)))]) hP hD [4] [0, 1, 2, 3, 5, 6] rfl rfl (by decide) (by decide) hk1 hFc hP1 hD1
          have hP : va_P (dC, dI) vwCl (wX cA ad st ck nh (fiF tp (nI 0) 64) tl (upd (va_cpy cb cb q (q + 1) (n - q)) q b) (va_cpy tp (va_cpy cy cy (q * 64) ((q + 1) * 64) ((n - q) * 64)) 0 (q * 64) 64) (nI (n + 1)) of wl wd) H1 := hP.sub (ws' := wX cA ad st ck nh (fiF tp (nI 0) 64) tl (upd (va_cpy cb cb q (q + 1) (n - q)) q b) (va_cpy tp (va_cpy cy cy (q * 64) ((q + 1) * 64) ((n - q) * 64)) 0 (q * 64) 64) (nI (n + 1)) of wl wd) [0, 1, 2, 3, 6, 4, 5] rfl
          have hD : va_D A (wX cA ad st ck nh (fiF tp (nI 0) 64) tl (upd (va_cpy cb cb q (q + 1) (n - q)) q b) (va_cpy tp (va_cpy cy cy (q * 64) ((q + 1) * 64) ((n - q) * 64)) 0 (q * 64) 64) (nI (n + 1)) of wl wd) := hD.sub (ws' := wX cA ad st ck nh (fiF tp (nI 0) 64) tl (upd (va_cpy cb cb q (q + 1) (n - q)) q b) (va_cpy tp (va_cpy cy cy (q * 64) ((q + 1) * 64) ((n - q) * 64)) 0 (q * 64) 64) (nI (n + 1)) of wl wd) [0, 1, 2, 3, 6, 4, 5] (by decide) rfl
          generalize H1 = H at hP hS ⊢
          refine lv_aload_n hx hb dX0_put_83 rfl (lv_at hl 1 rfl) ?_
          refine lv_iconst (v := nI 0) hx hb dX0_put_84 (by decide) ?_
          refine va_put (D := (dC, dI)) (ci := 0) (v := .int (nI 0)) (ty := .int) (C := RX0) (T := TX0) (N := 11) hx hb hts hin tyX0 tyX0_ok nmX0 hown hK hP hD hS 0 rfl rfl 4 (by decide) (hts (.fieldLink RX0 43 "BlockJournal" "tapeLength" "I") (by decide +kernel)) (fun _ h9 => h9) rfl (by decide +kernel) rfl rfl (Nat.le_of_ble_eq_true rfl) dX0_put_85 (fun H locs hP hD hS => ?_)
          have hP : va_P (dC, dI) vwCl (wX cA ad st ck nh (fiF tp (nI 0) 64) (nI 0) (upd (va_cpy cb cb q (q + 1) (n - q)) q b) (va_cpy tp (va_cpy cy cy (q * 64) ((q + 1) * 64) ((n - q) * 64)) 0 (q * 64) 64) (nI (n + 1)) of wl wd) H := hP
          have hD : va_D A (wX cA ad st ck nh (fiF tp (nI 0) 64) (nI 0) (upd (va_cpy cb cb q (q + 1) (n - q)) q b) (va_cpy tp (va_cpy cy cy (q * 64) ((q + 1) * 64) ((n - q) * 64)) 0 (q * 64) 64) (nI (n + 1)) of wl wd) := hD
          refine lv_aload_n hx hb dX0_put_88 rfl (lv_at hl 1 rfl) ?_
          refine va_get (D := (dC, dI)) (ci := 0) (v := .int (nI (n + 1))) (C := RX0) (T := TX0) (N := 11) hx hb hts hin hown hK hP 0 rfl rfl 7 (by decide) (hts (.fieldLink RX0 64 "BlockJournal" "changes" "I") (by decide +kernel)) (fun _ h9 => h9) rfl dX0_put_89 ?_
          have hcode : puK cb n b = 0 := by rw [puK, if_pos c_4, ← hq9, if_neg (not_not_intro c_29), if_pos n_38]
          have hpost : ((st, nh, fiF tp (nI 0) 64, nI 0, upd (va_cpy cb cb q (q + 1) (n - q)) q b, va_cpy tp (va_cpy cy cy (q * 64) ((q + 1) * 64) ((n - q) * 64)) 0 (q * 64) 64, nI (n + 1), of, wl, wd) : XS) = (st, nh, fiF tp (nI 0) 64, nI 0, puB cb n b, puY cb cy tp n b, nI (puN cb n b), of, wl, wd) := by simp only [puB, puY, puN, ← hq9, if_neg (not_not_intro c_29)]
          refine W.widen (k := 1) (n := 6) (Nat.zero_le _) (Nat.zero_le _) ?_
          refine vx_ret ?_
          have hres : nI (n + 1) = nI (puN cb n b) := by simp only [puN, ← hq9, if_neg (not_not_intro c_29)]
          exact W.iret (v := nI (n + 1)) hx hb hr (fun t ht hW => ⟨⟨_, (st, nh, fiF tp (nI 0) 64, nI 0, upd (va_cpy cb cb q (q + 1) (n - q)) q b, va_cpy tp (va_cpy cy cy (q * 64) ((q + 1) * 64) ((n - q) * 64)) 0 (q * 64) 64, nI (n + 1), of, wl, wd), rfl, ⟨hcode, hres, hpost⟩, by rw [ht]; exact hP, va_K.moved hW.alike hK, hD⟩, hS.F ht⟩) hS.2.2 dX0_put_92
        · have n_38 : ¬ n < 24 := fun h => c_38 ((nI_ltI (by omega) (by omega)).mpr h)
          obtain ⟨sa, hsa⟩ := hE.2.2.2 (67, "there are 24 changes of other blocks") (by decide +kernel)
          have hgd : ∀ w ∈ (vx_atS RX0 50 "java/lang/IllegalStateException" ["java/lang/RuntimeException", "java/lang/Exception"]).filter goodWord, w ∈ wsX0_put := by decide +kernel
          exact vx_throwS (own := RX0) (cls := "java/lang/IllegalStateException") (text := "there are 24 changes of other blocks") (names := ["java/lang/RuntimeException", "java/lang/Exception"]) hx hb h9 hown (by decide) (by decide) (hts (.classLink RX0 46 "java/lang/IllegalStateException") (by decide +kernel)) (hts (.initialized "java/lang/IllegalStateException") (by decide +kernel)) hsa (vx_hat (B := bjB) (fun w h => hts w (hgd w h)) (by decide +kernel) (fun w h => va_any (by revert w; decide +kernel) (hE.2.2.1 w h))) (by decide +kernel) hE.1 hE.2.1 hS (hl.1.trans hml.symm) dX0_put_41 dX0_put_44 dX0_put_45 dX0_put_47 dX0_put_50 (fun x hx9 => (hnt x hx9).elim) (Nat.le_of_ble_eq_true rfl) (Nat.le_of_ble_eq_true rfl) (Nat.le_of_ble_eq_true rfl) (Nat.le_of_ble_eq_true rfl) hlocks (fun t hal hz hk => ⟨(), trivial, ⟨Or.inr ⟨by rw [puK, if_pos c_4, ← hq9, if_neg (not_not_intro c_29), if_neg n_38], rfl⟩, (bj_thr hP hK hD hS hal hz hk).1⟩, (bj_thr hP hK hD hS hal hz hk).2⟩) hS.2.2 (Nat.le_of_ble_eq_true rfl) (Nat.le_of_ble_eq_true rfl)
    · obtain ⟨sa, hsa⟩ := hE.2.2.2 (55, "the block is not 25 .. 95") (by decide +kernel)
      have hgd : ∀ w ∈ (vx_atS RX0 40 "java/lang/IllegalArgumentException" ["java/lang/RuntimeException", "java/lang/Exception"]).filter goodWord, w ∈ wsX0_put := by decide +kernel
      exact vx_throwS (own := RX0) (cls := "java/lang/IllegalArgumentException") (text := "the block is not 25 .. 95") (names := ["java/lang/RuntimeException", "java/lang/Exception"]) hx hb h9 hown (by decide) (by decide) (hts (.classLink RX0 36 "java/lang/IllegalArgumentException") (by decide +kernel)) (hts (.initialized "java/lang/IllegalArgumentException") (by decide +kernel)) hsa (vx_hat (B := bjB) (fun w h => hts w (hgd w h)) (by decide +kernel) (fun w h => va_any (by revert w; decide +kernel) (hE.2.2.1 w h))) (by decide +kernel) hE.1 hE.2.1 hS (hl.1.trans hml.symm) dX0_put_7 dX0_put_10 dX0_put_11 dX0_put_13 dX0_put_16 (fun x hx9 => (hnt x hx9).elim) (Nat.le_of_ble_eq_true rfl) (Nat.le_of_ble_eq_true rfl) (Nat.le_of_ble_eq_true rfl) (Nat.le_of_ble_eq_true rfl) hlocks (fun t hal hz hk => ⟨(), trivial, ⟨Or.inl ⟨by rw [puK, if_neg (not_not_intro c_4)], rfl⟩, (bj_thr hP hK hD hS hal hz hk).1⟩, (bj_thr hP hK hD hS hal hz hk).2⟩) hS.2.2 (Nat.le_of_ble_eq_true rfl) (Nat.le_of_ble_eq_true rfl)
  rw [hH, hlo] at goal
  exact goal
end
section
theorem wbF_s {cy cb : Nat → Int32} {i b : Nat} {u : W4} (h : cb i = nI b) (hb : b < 96) : wbF cy cb (i + 1) u = w4 cy (i * 64) b (wbF cy cb i u) := by
  rw [wbF, h, nI_clamp (by omega)]

set_option maxHeartbeats 4000000 in
set_option maxRecDepth 100000 in
theorem c_X0_commit (l : Launch) (h9 : l.stackTraces = false) (dC : Nat → ClassId) (dI : Nat → Nat → Nat) (cA : ClassId) (ad : Nat → Nat) (sz : Nat) (st ck nh tp : Nat → Int32) (tl : Int32) (cb cy : Nat → Int32) (wl : Int32) (wd : Int64) (n : Nat) (o : Bool) (hn : n ≤ 24) (hcb : ∀ i, i < n → ∃ b : Nat, b < 96 ∧ cb i = nI b) : vx_Met l yX0_commit wsX0_commit ({ frames := 6, cells := 1, slots := 6, locals := 105 } : Room) (va_Pc [.ref (ad 0)] (fun U => U.heap.size = sz ∧ va_P (dC, dI) vwCl (wX cA ad st ck nh tp tl cb cy (nI n) (bI o) wl wd) U.heap ∧ va_K (dC, dI) vwCl [(cA, .int)] U ∧ va_D (fun _ => True) (wX cA ad st ck nh tp tl cb cy (nI n) (bI o) wl wd) ∧ bjE (va_A (wX cA ad st ck nh tp tl cb cy (nI n) (bI o) wl wd) sz) U U.heap)) (va_Qi (fun (r : Int32) (u : XS) => cmK n o = 0 ∧ r = (if ¬ (cmU st ck nh cb cy n (st, bI o, wl, wd)).2.1 = 0 then nI 0 else nI 1) ∧ u = ((cmU st ck nh cb cy n (st, bI o, wl, wd)).1, cmH st ck nh cb cy n (st, bI o, wl, wd), tp, tl, cb, cy, nI 0, (cmU st ck nh cb cy n (st, bI o, wl, wd)).2.1, (cmU st ck nh cb cy n (st, bI o, wl, wd)).2.2.1, (cmU st ck nh cb cy n (st, bI o, wl, wd)).2.2.2)) (aX dC dI cA ad ck (va_A (wX cA ad st ck nh tp tl cb cy (nI n) (bI o) wl wd) sz)) (va_A (wX cA ad st ck nh tp tl cb cy (nI n) (bI o) wl wd) sz)) (vx_X (fun _ : Unit => True) (fun E _ t => ((cmK n o = 1 ∧ E = "java/lang/IllegalStateException")) ∧ aX dC dI cA ad ck (va_A (wX cA ad st ck nh tp tl cb cy (nI n) (bI o) wl wd) sz) (st, nh, tp, tl, cb, cy, nI n, bI o, wl, wd) t) (va_A (wX cA ad st ck nh tp tl cb cy (nI n) (bI o) wl wd) sz)) 1 6 (va_A (wX cA ad st ck nh tp tl cb cy (nI n) (bI o) wl wd) sz) := by
  refine vx_ofW (cc := cX0_commit) (maxL := 3) (ret := (some .boolean)) (by decide) rfl ?_
  intro p e s m args below meth c s₁ B hml hnt hv
  obtain ⟨rfl, hsz, hP, hK, hD0, hE⟩ := hv
  have hx := B.exec
  have hb := B.bytes
  have hr := B.returns
  have hts := atoms_spec (ws := wsX0_commit) B.pre
  have hown : s.vm.findClass RX0 = some m.cls := findClass_of_methodNamed B.named
  have hlocks := B.notSynchronized
  have hin : ∀ w ∈ u_ws RX0 TX0 11, w ∈ wsX0_commit := by decide +kernel
  subst hsz
  have hD := hD0.self (sz := s.heap.size)
  generalize hAe : va_A (wX cA ad st ck nh tp tl cb cy (nI n) (bI o) wl wd) s.heap.size = A at hD hE ⊢
  have hA : ∀ q : Nat, s.heap.size ≤ q → A q := fun q h => by rw [← hAe]; exact Or.inr h
  obtain ⟨H, locs, hH, hlo, hS⟩ : ∃ (H : Heap) (locs : List Loc), H = s.heap ∧ locs = [] ∧ va_S A s.heap H locs := ⟨s.heap, [], rfl, rfl, va_S.rf⟩
  rw [← hH] at hP
  have hP : va_P (dC, dI) vwCl (wX cA ad st ck nh tp tl cb cy (nI n) (bI o) wl wd) H := hP
  have hl := lv_entry ([.ref (ad 0)]) (n := 3) (Nat.le_of_ble_eq_true rfl)
  rw [lg_entry_eq]
  generalize (lg_sl ([.ref (ad 0)]) ++ List.replicate (3 - (lg_sl ([.ref (ad 0)])).length) Slot.unset).toArray = ls at hl ⊢
  have goal : W p l e (headSpec wsX0_commit ({ frames := 6, cells := 1, slots := 6, locals := 105 } : Room)).room s m ([.ref (ad 0)] : List Value).toArray below meth c H locs 0 0 (vx_MQ below (va_Qi (fun (r : Int32) (u : XS) => cmK n o = 0 ∧ r = (if ¬ (cmU st ck nh cb cy n (st, bI o, wl, wd)).2.1 = 0 then nI 0 else nI 1) ∧ u = ((cmU st ck nh cb cy n (st, bI o, wl, wd)).1, cmH st ck nh cb cy n (st, bI o, wl, wd), tp, tl, cb, cy, nI 0, (cmU st ck nh cb cy n (st, bI o, wl, wd)).2.1, (cmU st ck nh cb cy n (st, bI o, wl, wd)).2.2.1, (cmU st ck nh cb cy n (st, bI o, wl, wd)).2.2.2)) (aX dC dI cA ad ck A) A) (vx_X (fun _ : Unit => True) (fun E _ t => ((cmK n o = 1 ∧ E = "java/lang/IllegalStateException")) ∧ aX dC dI cA ad ck A (st, nh, tp, tl, cb, cy, nI n, bI o, wl, wd) t) A) ([.ref (ad 0)] : List Value).toArray s 1 6 A) (F0 m 0 ls []) := by
    clear hH hlo
    have hl : lv_has ls 3 [(0, .ref (ad 0))] := hl
    refine lv_aload_n hx hb dX0_commit_0 rfl (lv_at hl 0 rfl) ?_
    refine va_get (D := (dC, dI)) (ci := 0) (v := .int (nI n)) (C := RX0) (T := TX0) (N := 11) hx hb hts hin hown hK hP 0 rfl rfl 7 (by decide) (hts (.fieldLink RX0 64 "BlockJournal" "changes" "I") (by decide +kernel)) (fun _ h9 => h9) rfl dX0_commit_1 ?_
    refine lv_if_eq (tgt := 14) hx hb dX0_commit_4 (by decide) (fun c_4 => ?_) (fun c_4 => ?_)
    · obtain ⟨sa, hsa⟩ := hE.2.2.2 (89, "there are no changes, or the power is off") (by decide +kernel)
      have hgd : ∀ w ∈ (vx_atS RX0 50 "java/lang/IllegalStateException" ["java/lang/RuntimeException", "java/lang/Exception"]).filter goodWord, w ∈ wsX0_commit := by decide +kernel
      exact vx_throwS (own := RX0) (cls := "java/lang/IllegalStateException") (text := "there are no changes, or the power is off") (names := ["java/lang/RuntimeException", "java/lang/Exception"]) hx hb h9 hown (by decide) (by decide) (hts (.classLink RX0 46 "java/lang/IllegalStateException") (by decide +kernel)) (hts (.initialized "java/lang/IllegalStateException") (by decide +kernel)) hsa (vx_hat (B := bjB) (fun w h => hts w (hgd w h)) (by decide +kernel) (fun w h => va_any (by revert w; decide +kernel) (hE.2.2.1 w h))) (by decide +kernel) hE.1 hE.2.1 hS (hl.1.trans hml.symm) dX0_commit_14 dX0_commit_17 dX0_commit_18 dX0_commit_20 dX0_commit_23 (fun x hx9 => (hnt x hx9).elim) (Nat.le_of_ble_eq_true rfl) (Nat.le_of_ble_eq_true rfl) (Nat.le_of_ble_eq_true rfl) (Nat.le_of_ble_eq_true rfl) hlocks (fun t hal hz hk => ⟨(), trivial, ⟨⟨by rw [cmK, if_pos c_4], rfl⟩, (bj_thr hP hK hD hS hal hz hk).1⟩, (bj_thr hP hK hD hS hal hz hk).2⟩) hS.2.2 (Nat.le_of_ble_eq_true rfl) (Nat.le_of_ble_eq_true rfl)
    · refine lv_aload_n hx hb dX0_commit_7 rfl (lv_at hl 0 rfl) ?_
      refine va_get (D := (dC, dI)) (ci := 0) (v := .int (bI o)) (C := RX0) (T := TX0) (N := 11) hx hb hts hin hown hK hP 0 rfl rfl 8 (by decide) (hts (.fieldLink RX0 85 "BlockJournal" "off" "Z") (by decide +kernel)) (fun _ h9 => h9) rfl dX0_commit_8 ?_
      refine lv_if_eq (tgt := 24) hx hb dX0_commit_11 (by decide) (fun c_11 => ?_) (fun c_11 => ?_)
      · refine lv_aload_n hx hb dX0_commit_24 rfl (lv_at hl 0 rfl) ?_
        refine lv_iconst (v := nI 0) hx hb dX0_commit_25 (by decide) ?_
        refine bj_call (v := .int (hwF st 0 4)) (W.runV (As := [.int (nI 0)]) (rest := []) ⟨hx, hb, hml, hown, hts⟩ (c_X0_headWord l dC dI cA ad st ck nh tp tl cb cy (nI n) (bI o) wl wd 0 (by decide)) (cwV 1 hts gX0_commit_X0_headWord rfl rfl rfl (by decide +kernel) ⟨Nat.le_of_ble_eq_true rfl, Nat.le_of_ble_eq_true rfl⟩) ⟨fun a U g mk q => by obtain ⟨q0, qP, qK⟩ := q; exact ⟨q0, qP, va_K.moved (u := U) (U := U.calling g mk a) (Vm.Alike.refl U.vm) qK⟩, va_recv hK hP (ci := 0) (q0 := 0) rfl rfl, fun U hU hW => ⟨rfl, by rw [hU]; exact hP, va_K.moved hW.alike hK⟩⟩ rfl rfl hl.1 rfl (lv_room (Nat.le_of_ble_eq_true rfl)) dX0_commit_26 ⟨Nat.le_of_ble_eq_true rfl, Nat.le_of_ble_eq_true rfl⟩) ?_
        refine lv_istore_n (lv' := [(1, .int (hwF st 0 4)), (0, .ref (ad 0))]) hx hb dX0_commit_29 rfl hl (by decide) rfl (fun ls hl => ?_)
        refine lv_iconst (v := nI 0) hx hb dX0_commit_30 (by decide) ?_
        refine lv_istore_n (lv' := [(2, .int (nI 0)), (1, .int (hwF st 0 4)), (0, .ref (ad 0))]) hx hb dX0_commit_31 rfl hl (by decide) rfl (fun ls hl => ?_)
        have loop_32 : ∀ (k : Nat) (i : Nat), i + k = n → ∀ (H : Heap) (locs : List Loc) (ls : Array Slot), va_P (dC, dI) vwCl (wX cA ad ((wpF cy i (st, bI o, wl, wd)).1) ck nh tp tl cb cy (nI n) ((wpF cy i (st, bI o, wl, wd)).2.1) ((wpF cy i (st, bI o, wl, wd)).2.2.1) ((wpF cy i (st, bI o, wl, wd)).2.2.2)) H → va_D A (wX cA ad ((wpF cy i (st, bI o, wl, wd)).1) ck nh tp tl cb cy (nI n) ((wpF cy i (st, bI o, wl, wd)).2.1) ((wpF cy i (st, bI o, wl, wd)).2.2.1) ((wpF cy i (st, bI o, wl, wd)).2.2.2)) → va_S A s.heap H locs → lv_has ls 3 [(0, .ref (ad 0)), (1, .int (hwF st 0 4)), (2, .int (nI i))] → W p l e (headSpec wsX0_commit ({ frames := 6, cells := 1, slots := 6, locals := 105 } : Room)).room s m ([.ref (ad 0)] : List Value).toArray below meth c H locs 0 0 (vx_MQ below (va_Qi (fun (r : Int32) (u : XS) => cmK n o = 0 ∧ r = (if ¬ (cmU st ck nh cb cy n (st, bI o, wl, wd)).2.1 = 0 then nI 0 else nI 1) ∧ u = ((cmU st ck nh cb cy n (st, bI o, wl, wd)).1, cmH st ck nh cb cy n (st, bI o, wl, wd), tp, tl, cb, cy, nI 0, (cmU st ck nh cb cy n (st, bI o, wl, wd)).2.1, (cmU st ck nh cb cy n (st, bI o, wl, wd)).2.2.1, (cmU st ck nh cb cy n (st, bI o, wl, wd)).2.2.2)) (aX dC dI cA ad ck A) A) (vx_X (fun _ : Unit => True) (fun E _ t => ((cmK n o = 1 ∧ E = "java/lang/IllegalStateException")) ∧ aX dC dI cA ad ck A (st, nh, tp, tl, cb, cy, nI n, bI o, wl, wd) t) A) ([.ref (ad 0)] : List Value).toArray s 1 6 A) (F0 m 32 ls []) := by
          intro k
          induction k with
          | zero =>
            intro i hk H locs ls hP hD hS hl
            refine lv_iload_n hx hb dX0_commit_32 rfl (lv_at hl 2 rfl) ?_
            refine lv_aload_n hx hb dX0_commit_33 rfl (lv_at hl 0 rfl) ?_
            refine va_get (D := (dC, dI)) (ci := 0) (v := .int (nI n)) (C := RX0) (T := TX0) (N := 11) hx hb hts hin hown hK hP 0 rfl rfl 7 (by decide) (hts (.fieldLink RX0 64 "BlockJournal" "changes" "I") (by decide +kernel)) (fun _ h9 => h9) rfl dX0_commit_34 ?_
            refine lv_icmp_ge (tgt := 61) hx hb dX0_commit_37 (by decide) (fun c_37 => ?_) (fun c_37 => ?_)
            · have n_37 : n ≤ i := (nI_leI (by omega) (by omega)).mp c_37
              have ei : i = n := by omega
              rw [ei] at hP hD
              have hP : va_P (dC, dI) vwCl (wX cA ad ((wpF cy n (st, bI o, wl, wd)).1) ck nh tp tl cb cy (nI n) ((wpF cy n (st, bI o, wl, wd)).2.1) ((wpF cy n (st, bI o, wl, wd)).2.2.1) ((wpF cy n (st, bI o, wl, wd)).2.2.2)) H := hP
              have hD : va_D A (wX cA ad ((wpF cy n (st, bI o, wl, wd)).1) ck nh tp tl cb cy (nI n) ((wpF cy n (st, bI o, wl, wd)).2.1) ((wpF cy n (st, bI o, wl, wd)).2.2.1) ((wpF cy n (st, bI o, wl, wd)).2.2.2)) := hD
              refine lv_aload_n hx hb dX0_commit_61 rfl (lv_at hl 0 rfl) ?_
              refine lv_iload_n hx hb dX0_commit_62 rfl (lv_at hl 1 rfl) ?_
              have hFc := va_free (wc := wX cA ad ((wpF cy n (st, bI o, wl, wd)).1) ck nh tp tl cb cy (nI n) ((wpF cy n (st, bI o, wl, wd)).2.1) ((wpF cy n (st, bI o, wl, wd)).2.2.1) ((wpF cy n (st, bI o, wl, wd)).2.2.2)) hD hS hA [0, 1, 2, 3, 4, 5, 6] rfl
              refine va_callv (va_runV (As := [.int (hwF st 0 4)]) (rest := []) ⟨hx, hb, hml, hown, hts⟩ (c_X0_writeFullHead l dC dI cA ad H.size ((wpF cy n (st, bI o, wl, wd)).1) ck nh tp tl cb cy ((wpF cy n (st, bI o, wl, wd)).2.1) ((wpF cy n (st, bI o, wl, wd)).2.2.1) ((wpF cy n (st, bI o, wl, wd)).2.2.2) n (hwF st 0 4) hn) (cwV 1 hts gX0_commit_X0_writeFullHead rfl rfl rfl (by decide +kernel) ⟨Nat.le_of_ble_eq_true rfl, Nat.le_of_ble_eq_true rfl⟩) ⟨fun a U g mk q => by obtain ⟨q0, q1, qP, qK, qD⟩ := q; exact ⟨q0, q1, qP, va_K.moved (u := U) (U := U.calling g mk a) (Vm.Alike.refl U.vm) qK, qD⟩, va_recv hK hP (ci := 0) (q0 := 0) rfl rfl, fun U hU hW => ⟨rfl, by rw [hU], by rw [hU]; exact hP, va_K.moved hW.alike hK, hD.weaken (fun _ _ _ _ => trivial)⟩⟩ rfl rfl hl.1 rfl (lv_room (Nat.le_of_ble_eq_true rfl)) dX0_commit_63 ⟨Nat.le_of_ble_eq_true rfl, Nat.le_of_ble_eq_true rfl⟩) hS (fun q _ h => hFc q h) hFc (fun u t H1 locs ht hvm hw hB hz1 hk1 hS => ?_)
              obtain ⟨hP1, hK1, hD1⟩ := hB
              subst hw
              rw [ht] at hP1
              have hP : va_P (dC, dI) vwCl (wX cA ad ((cm2 st ck nh cb cy n (st, bI o, wl, wd)).1) ck (fhF (wpF cy n (st, bI o, wl, wd)).1 ck nh cb n (hwF st 0 4)) tp tl cb cy (nI n) ((cm2 st ck nh cb cy n (st, bI o, wl, wd)).2.1) ((cm2 st ck nh cb cy n (st, bI o, wl, wd)).2.2.1) ((cm2 st ck nh cb cy n (st, bI o, wl, wd)).2.2.2)) H1 := hP1
              have hD : va_D A (wX cA ad ((cm2 st ck nh cb cy n (st, bI o, wl, wd)).1) ck (fhF (wpF cy n (st, bI o, wl, wd)).1 ck nh cb n (hwF st 0 4)) tp tl cb cy (nI n) ((cm2 st ck nh cb cy n (st, bI o, wl, wd)).2.1) ((cm2 st ck nh cb cy n (st, bI o, wl, wd)).2.2.1) ((cm2 st ck nh cb cy n (st, bI o, wl, wd)).2.2.2)) := ⟨hD1.1, fun k q h => hFc _ (hD1.2 k q h)⟩
              generalize H1 = H at hP hS ⊢
              refine lv_iconst (v := nI 0) hx hb dX0_commit_66 (by decide) ?_
              refine lv_istore_n (lv' := [(2, .int (nI 0)), (0, .ref (ad 0)), (1, .int (hwF st 0 4))]) hx hb dX0_commit_67 rfl hl (by decide) rfl (fun ls hl => ?_)
              have loop_68 : ∀ (k : Nat) (i : Nat), i + k = n → ∀ (H : Heap) (locs : List Loc) (ls : Array Slot), va_P (dC, dI) vwCl (wX cA ad ((wbF cy cb i (cm2 st ck nh cb cy n (st, bI o, wl, wd))).1) ck (fhF (wpF cy n (st, bI o, wl, wd)).1 ck nh cb n (hwF st 0 4)) tp tl cb cy (nI n) ((wbF cy cb i (cm2 st ck nh cb cy n (st, bI o, wl, wd))).2.1) ((wbF cy cb i (cm2 st ck nh cb cy n (st, bI o, wl, wd))).2.2.1) ((wbF cy cb i (cm2 st ck nh cb cy n (st, bI o, wl, wd))).2.2.2)) H → va_D A (wX cA ad ((wbF cy cb i (cm2 st ck nh cb cy n (st, bI o, wl, wd))).1) ck (fhF (wpF cy n (st, bI o, wl, wd)).1 ck nh cb n (hwF st 0 4)) tp tl cb cy (nI n) ((wbF cy cb i (cm2 st ck nh cb cy n (st, bI o, wl, wd))).2.1) ((wbF cy cb i (cm2 st ck nh cb cy n (st, bI o, wl, wd))).2.2.1) ((wbF cy cb i (cm2 st ck nh cb cy n (st, bI o, wl, wd))).2.2.2)) → va_S A s.heap H locs → lv_has ls 3 [(0, .ref (ad 0)), (1, .int (hwF st 0 4)), (2, .int (nI i))] → W p l e (headSpec wsX0_commit ({ frames := 6, cells := 1, slots := 6, locals := 105 } : Room)).room s m ([.ref (ad 0)] : List Value).toArray below meth c H locs 0 0 (vx_MQ below (va_Qi (fun (r : Int32) (u : XS) => cmK n o = 0 ∧ r = (if ¬ (cmU st ck nh cb cy n (st, bI o, wl, wd)).2.1 = 0 then nI 0 else nI 1) ∧ u = ((cmU st ck nh cb cy n (st, bI o, wl, wd)).1, cmH st ck nh cb cy n (st, bI o, wl, wd), tp, tl, cb, cy, nI 0, (cmU st ck nh cb cy n (st, bI o, wl, wd)).2.1, (cmU st ck nh cb cy n (st, bI o, wl, wd)).2.2.1, (cmU st ck nh cb cy n (st, bI o, wl, wd)).2.2.2)) (aX dC dI cA ad ck A) A) (vx_X (fun _ : Unit => True) (fun E _ t => ((cmK n o = 1 ∧ E = "java/lang/IllegalStateException")) ∧ aX dC dI cA ad ck A (st, nh, tp, tl, cb, cy, nI n, bI o, wl, wd) t) A) ([.ref (ad 0)] : List Value).toArray s 1 6 A) (F0 m 68 ls []) := by
                intro k
                induction k with
                | zero =>
                  intro i hk H locs ls hP hD hS hl
                  refine lv_iload_n hx hb dX0_commit_68 rfl (lv_at hl 2 rfl) ?_
                  refine lv_aload_n hx hb dX0_commit_69 rfl (lv_at hl 0 rfl) ?_
                  refine va_get (D := (dC, dI)) (ci := 0) (v := .int (nI n)) (C := RX0) (T := TX0) (N := 11) hx hb hts hin hown hK hP 0 rfl rfl 7 (by decide) (hts (.fieldLink RX0 64 "BlockJournal" "changes" "I") (by decide +kernel)) (fun _ h9 => h9) rfl dX0_commit_70 ?_
                  refine lv_icmp_ge (tgt := 100) hx hb dX0_commit_73 (by decide) (fun c_73 => ?_) (fun c_73 => ?_)
                  · have n_73 : n ≤ i := (nI_leI (by omega) (by omega)).mp c_73
                    have ei2 : i = n := by omega
                    rw [ei2] at hP hD
                    have hP : va_P (dC, dI) vwCl (wX cA ad ((wbF cy cb n (cm2 st ck nh cb cy n (st, bI o, wl, wd))).1) ck (fhF (wpF cy n (st, bI o, wl, wd)).1 ck nh cb n (hwF st 0 4)) tp tl cb cy (nI n) ((wbF cy cb n (cm2 st ck nh cb cy n (st, bI o, wl, wd))).2.1) ((wbF cy cb n (cm2 st ck nh cb cy n (st, bI o, wl, wd))).2.2.1) ((wbF cy cb n (cm2 st ck nh cb cy n (st, bI o, wl, wd))).2.2.2)) H := hP
                    have hD : va_D A (wX cA ad ((wbF cy cb n (cm2 st ck nh cb cy n (st, bI o, wl, wd))).1) ck (fhF (wpF cy n (st, bI o, wl, wd)).1 ck nh cb n (hwF st 0 4)) tp tl cb cy (nI n) ((wbF cy cb n (cm2 st ck nh cb cy n (st, bI o, wl, wd))).2.1) ((wbF cy cb n (cm2 st ck nh cb cy n (st, bI o, wl, wd))).2.2.1) ((wbF cy cb n (cm2 st ck nh cb cy n (st, bI o, wl, wd))).2.2.2)) := hD
                    refine lv_aload_n hx hb dX0_commit_100 rfl (lv_at hl 0 rfl) ?_
                    refine lv_iload_n hx hb dX0_commit_101 rfl (lv_at hl 1 rfl) ?_
                    refine lv_iconst (v := nI 1) hx hb dX0_commit_102 (by decide) ?_
                    refine lv_iadd hx hb dX0_commit_103 ?_
                    have hFc := va_free (wc := wX cA ad ((wbF cy cb n (cm2 st ck nh cb cy n (st, bI o, wl, wd))).1) ck (fhF (wpF cy n (st, bI o, wl, wd)).1 ck nh cb n (hwF st 0 4)) tp tl cb cy (nI n) ((wbF cy cb n (cm2 st ck nh cb cy n (st, bI o, wl, wd))).2.1) ((wbF cy cb n (cm2 st ck nh cb cy n (st, bI o, wl, wd))).2.2.1) ((wbF cy cb n (cm2 st ck nh cb cy n (st, bI o, wl, wd))).2.2.2)) hD hS hA [0, 1, 2, 3, 4, 5, 6] rfl
                    refine va_callv (va_runV (As := [.int ((hwF st 0 4) + (nI 1))]) (rest := []) ⟨hx, hb, hml, hown, hts⟩ (c_X0_writeEmptyHead l dC dI cA ad H.size ((wbF cy cb n (cm2 st ck nh cb cy n (st, bI o, wl, wd))).1) ck (fhF (wpF cy n (st, bI o, wl, wd)).1 ck nh cb n (hwF st 0 4)) tp tl cb cy (nI n) ((wbF cy cb n (cm2 st ck nh cb cy n (st, bI o, wl, wd))).2.1) ((wbF cy cb n (cm2 st ck nh cb cy n (st, bI o, wl, wd))).2.2.1) ((wbF cy cb n (cm2 st ck nh cb cy n (st, bI o, wl, wd))).2.2.2) ((hwF st 0 4) + (nI 1))) (cwV 1 hts gX0_commit_X0_writeEmptyHead rfl rfl rfl (by decide +kernel) ⟨Nat.le_of_ble_eq_true rfl, Nat.le_of_ble_eq_true rfl⟩) ⟨fun a U g mk q => by obtain ⟨q0, q1, qP, qK, qD⟩ := q; exact ⟨q0, q1, qP, va_K.moved (u := U) (U := U.calling g mk a) (Vm.Alike.refl U.vm) qK, qD⟩, va_recv hK hP (ci := 0) (q0 := 0) rfl rfl, fun U hU hW => ⟨rfl, by rw [hU], by rw [hU]; exact hP, va_K.moved hW.alike hK, hD.weaken (fun _ _ _ _ => trivial)⟩⟩ rfl rfl hl.1 rfl (lv_room (Nat.le_of_ble_eq_true rfl)) dX0_commit_104 ⟨Nat.le_of_ble_eq_true rfl, Nat.le_of_ble_eq_true rfl⟩) hS (fun q _ h => hFc q h) hFc (fun u t H1 locs ht hvm hw hB hz1 hk1 hS => ?_)
                    obtain ⟨hP1, hK1, hD1⟩ := hB
                    subst hw
                    rw [ht] at hP1
                    have hP : va_P (dC, dI) vwCl (wX cA ad ((cmU st ck nh cb cy n (st, bI o, wl, wd)).1) ck (cmH st ck nh cb cy n (st, bI o, wl, wd)) tp tl cb cy (nI n) ((cmU st ck nh cb cy n (st, bI o, wl, wd)).2.1) ((cmU st ck nh cb cy n (st, bI o, wl, wd)).2.2.1) ((cmU st ck nh cb cy n (st, bI o, wl, wd)).2.2.2)) H1 := hP1
                    have hD : va_D A (wX cA ad ((cmU st ck nh cb cy n (st, bI o, wl, wd)).1) ck (cmH st ck nh cb cy n (st, bI o, wl, wd)) tp tl cb cy (nI n) ((cmU st ck nh cb cy n (st, bI o, wl, wd)).2.1) ((cmU st ck nh cb cy n (st, bI o, wl, wd)).2.2.1) ((cmU st ck nh cb cy n (st, bI o, wl, wd)).2.2.2)) := ⟨hD1.1, fun k q h => hFc _ (hD1.2 k q h)⟩
                    generalize H1 = H at hP hS ⊢
                    refine lv_aload_n hx hb dX0_commit_107 rfl (lv_at hl 0 rfl) ?_
                    refine lv_iconst (v := nI 0) hx hb dX0_commit_108 (by decide) ?_
                    refine va_put (D := (dC, dI)) (ci := 0) (v := .int (nI 0)) (ty := .int) (C := RX0) (T := TX0) (N := 11) hx hb hts hin tyX0 tyX0_ok nmX0 hown hK hP hD hS 0 rfl rfl 7 (by decide) (hts (.fieldLink RX0 64 "BlockJournal" "changes" "I") (by decide +kernel)) (fun _ h9 => h9) rfl (by decide +kernel) rfl rfl (Nat.le_of_ble_eq_true rfl) dX0_commit_109 (fun H locs hP hD hS => ?_)
                    have hP : va_P (dC, dI) vwCl (wX cA ad ((cmU st ck nh cb cy n (st, bI o, wl, wd)).1) ck (cmH st ck nh cb cy n (st, bI o, wl, wd)) tp tl cb cy (nI 0) ((cmU st ck nh cb cy n (st, bI o, wl, wd)).2.1) ((cmU st ck nh cb cy n (st, bI o, wl, wd)).2.2.1) ((cmU st ck nh cb cy n (st, bI o, wl, wd)).2.2.2)) H := hP
                    have hD : va_D A (wX cA ad ((cmU st ck nh cb cy n (st, bI o, wl, wd)).1) ck (cmH st ck nh cb cy n (st, bI o, wl, wd)) tp tl cb cy (nI 0) ((cmU st ck nh cb cy n (st, bI o, wl, wd)).2.1) ((cmU st ck nh cb cy n (st, bI o, wl, wd)).2.2.1) ((cmU st ck nh cb cy n (st, bI o, wl, wd)).2.2.2)) := hD
                    refine lv_aload_n hx hb dX0_commit_112 rfl (lv_at hl 0 rfl) ?_
                    refine va_get (D := (dC, dI)) (ci := 0) (v := .int ((cmU st ck nh cb cy n (st, bI o, wl, wd)).2.1)) (C := RX0) (T := TX0) (N := 11) hx hb hts hin hown hK hP 0 rfl rfl 8 (by decide) (hts (.fieldLink RX0 85 "BlockJournal" "off" "Z") (by decide +kernel)) (fun _ h9 => h9) rfl dX0_commit_113 ?_
                    refine lv_if_ne (tgt := 123) hx hb dX0_commit_116 (by decide) (fun c_116 => ?_) (fun c_116 => ?_)
                    · refine lv_iconst (v := nI 0) hx hb dX0_commit_123 (by decide) ?_
                      have hcode : cmK n o = 0 := by rw [cmK, if_neg c_4, if_pos c_11]
                      have hpost : (((cmU st ck nh cb cy n (st, bI o, wl, wd)).1, cmH st ck nh cb cy n (st, bI o, wl, wd), tp, tl, cb, cy, nI 0, (cmU st ck nh cb cy n (st, bI o, wl, wd)).2.1, (cmU st ck nh cb cy n (st, bI o, wl, wd)).2.2.1, (cmU st ck nh cb cy n (st, bI o, wl, wd)).2.2.2) : XS) = ((cmU st ck nh cb cy n (st, bI o, wl, wd)).1, cmH st ck nh cb cy n (st, bI o, wl, wd), tp, tl, cb, cy, nI 0, (cmU st ck nh cb cy n (st, bI o, wl, wd)).2.1, (cmU st ck nh cb cy n (st, bI o, wl, wd)).2.2.1, (cmU st ck nh cb cy n (st, bI o, wl, wd)).2.2.2) := rfl
                      refine W.widen (k := 1) (n := 6) (Nat.zero_le _) (Nat.zero_le _) ?_
                      refine vx_ret ?_
                      have hres : nI 0 = (if ¬ (cmU st ck nh cb cy n (st, bI o, wl, wd)).2.1 = 0 then nI 0 else nI 1) := by rw [if_pos c_116]
                      exact W.zret (v := nI 0) (ty := .boolean) hx hb hr rfl (fun t ht hW => ⟨⟨_, ((cmU st ck nh cb cy n (st, bI o, wl, wd)).1, cmH st ck nh cb cy n (st, bI o, wl, wd), tp, tl, cb, cy, nI 0, (cmU st ck nh cb cy n (st, bI o, wl, wd)).2.1, (cmU st ck nh cb cy n (st, bI o, wl, wd)).2.2.1, (cmU st ck nh cb cy n (st, bI o, wl, wd)).2.2.2), rfl, ⟨hcode, hres, hpost⟩, by rw [ht]; exact hP, va_K.moved hW.alike hK, hD⟩, hS.F ht⟩) hS.2.2 dX0_commit_124
                    · refine lv_iconst (v := nI 1) hx hb dX0_commit_119 (by decide) ?_
                      refine lv_goto (tgt := 124) hx hb dX0_commit_120 (by decide) ?_
                      have hcode : cmK n o = 0 := by rw [cmK, if_neg c_4, if_pos c_11]
                      have hpost : (((cmU st ck nh cb cy n (st, bI o, wl, wd)).1, cmH st ck nh cb cy n (st, bI o, wl, wd), tp, tl, cb, cy, nI 0, (cmU st ck nh cb cy n (st, bI o, wl, wd)).2.1, (cmU st ck nh cb cy n (st, bI o, wl, wd)).2.2.1, (cmU st ck nh cb cy n (st, bI o, wl, wd)).2.2.2) : XS) = ((cmU st ck nh cb cy n (st, bI o, wl, wd)).1, cmH st ck nh cb cy n (st, bI o, wl, wd), tp, tl, cb, cy, nI 0, (cmU st ck nh cb cy n (st, bI o, wl, wd)).2.1, (cmU st ck nh cb cy n (st, bI o, wl, wd)).2.2.1, (cmU st ck nh cb cy n (st, bI o, wl, wd)).2.2.2) := rfl
                      refine W.widen (k := 1) (n := 6) (Nat.zero_le _) (Nat.zero_le _) ?_
                      refine vx_ret ?_
                      have hres : nI 1 = (if ¬ (cmU st ck nh cb cy n (st, bI o, wl, wd)).2.1 = 0 then nI 0 else nI 1) := by rw [if_neg (not_not_intro c_116)]
                      exact W.zret (v := nI 1) (ty := .boolean) hx hb hr rfl (fun t ht hW => ⟨⟨_, ((cmU st ck nh cb cy n (st, bI o, wl, wd)).1, cmH st ck nh cb cy n (st, bI o, wl, wd), tp, tl, cb, cy, nI 0, (cmU st ck nh cb cy n (st, bI o, wl, wd)).2.1, (cmU st ck nh cb cy n (st, bI o, wl, wd)).2.2.1, (cmU st ck nh cb cy n (st, bI o, wl, wd)).2.2.2), rfl, ⟨hcode, hres, hpost⟩, by rw [ht]; exact hP, va_K.moved hW.alike hK, hD⟩, hS.F ht⟩) hS.2.2 dX0_commit_124
                  · have n_73 : ¬ n ≤ i := fun h => c_73 ((nI_leI (by omega) (by omega)).mpr h)
                    exfalso; omega
                | succ k ih =>
                  intro i hk H locs ls hP hD hS hl
                  refine lv_iload_n hx hb dX0_commit_68 rfl (lv_at hl 2 rfl) ?_
                  refine lv_aload_n hx hb dX0_commit_69 rfl (lv_at hl 0 rfl) ?_
                  refine va_get (D := (dC, dI)) (ci := 0) (v := .int (nI n)) (C := RX0) (T := TX0) (N := 11) hx hb hts hin hown hK hP 0 rfl rfl 7 (by decide) (hts (.fieldLink RX0 64 "BlockJournal" "changes" "I") (by decide +kernel)) (fun _ h9 => h9) rfl dX0_commit_70 ?_
                  refine lv_icmp_ge (tgt := 100) hx hb dX0_commit_73 (by decide) (fun c_73 => ?_) (fun c_73 => ?_)
                  · have n_73 : n ≤ i := (nI_leI (by omega) (by omega)).mp c_73
                    exfalso; omega
                  · have n_73 : ¬ n ≤ i := fun h => c_73 ((nI_leI (by omega) (by omega)).mpr h)
                    refine lv_aload_n hx hb dX0_commit_76 rfl (lv_at hl 0 rfl) ?_
                    refine lv_aload_n hx hb dX0_commit_77 rfl (lv_at hl 0 rfl) ?_
                    refine va_get (D := (dC, dI)) (ci := 0) (v := .ref (ad 5)) (C := RX0) (T := TX0) (N := 11) hx hb hts hin hown hK hP 0 rfl rfl 5 (by decide) (hts (.fieldLink RX0 22 "BlockJournal" "changeBlocks" "[I") (by decide +kernel)) (fun _ h9 => h9) rfl dX0_commit_78 ?_
                    refine lv_iload_n hx hb dX0_commit_81 rfl (lv_at hl 2 rfl) ?_
                    refine va_iald (D := (dC, dI)) hx hb hK hP 5 0 (cA := cA) (n := 24) (f := cb) rfl rfl (i := (nI i)) (vp_in_nI (by omega) (by omega)) dX0_commit_82 ?_
                    refine bj_i (y := cb i) (congrArg cb (nI_clamp (by omega))) ?_
                    obtain ⟨b, hb9, eb⟩ := hcb i (by omega)
                    refine bj_i (y := nI b) (eb) ?_
                    refine lv_aload_n hx hb dX0_commit_83 rfl (lv_at hl 0 rfl) ?_
                    refine va_get (D := (dC, dI)) (ci := 0) (v := .ref (ad 6)) (C := RX0) (T := TX0) (N := 11) hx hb hts hin hown hK hP 0 rfl rfl 6 (by decide) (hts (.fieldLink RX0 25 "BlockJournal" "changeBytes" "[I") (by decide +kernel)) (fun _ h9 => h9) rfl dX0_commit_84 ?_
                    refine lv_iload_n hx hb dX0_commit_87 rfl (lv_at hl 2 rfl) ?_
                    refine lv_bipush (v := nI 64) hx hb dX0_commit_88 (by decide) ?_
                    refine lv_imul hx hb dX0_commit_90 ?_
                    refine bj_i (pk_mul i 64) ?_
                    have hFc := va_free (wc := wX cA ad ((wbF cy cb i (cm2 st ck nh cb cy n (st, bI o, wl, wd))).1) ck (fhF (wpF cy n (st, bI o, wl, wd)).1 ck nh cb n (hwF st 0 4)) tp tl cb cy (nI n) ((wbF cy cb i (cm2 st ck nh cb cy n (st, bI o, wl, wd))).2.1) ((wbF cy cb i (cm2 st ck nh cb cy n (st, bI o, wl, wd))).2.2.1) ((wbF cy cb i (cm2 st ck nh cb cy n (st, bI o, wl, wd))).2.2.2)) hD hS hA [0, 1, 2, 3, 4, 5, 6] rfl
                    refine va_callv (va_runV (As := [.int (nI b), .ref (ad 6), .int (nI (i * 64))]) (rest := []) ⟨hx, hb, hml, hown, hts⟩ (c_X0_write_6 l dC dI cA ad H.size ((wbF cy cb i (cm2 st ck nh cb cy n (st, bI o, wl, wd))).1) ck (fhF (wpF cy n (st, bI o, wl, wd)).1 ck nh cb n (hwF st 0 4)) tp tl cb cy (nI n) ((wbF cy cb i (cm2 st ck nh cb cy n (st, bI o, wl, wd))).2.1) ((wbF cy cb i (cm2 st ck nh cb cy n (st, bI o, wl, wd))).2.2.1) ((wbF cy cb i (cm2 st ck nh cb cy n (st, bI o, wl, wd))).2.2.2) b (i * 64) (by omega) (by omega)) (cwV 3 hts gX0_commit_X0_write rfl rfl rfl (by decide +kernel) ⟨Nat.le_of_ble_eq_true rfl, Nat.le_of_ble_eq_true rfl⟩) ⟨fun a U g mk q => by obtain ⟨q0, q1, qP, qK, qD⟩ := q; exact ⟨q0, q1, qP, va_K.moved (u := U) (U := U.calling g mk a) (Vm.Alike.refl U.vm) qK, qD⟩, va_recv hK hP (ci := 0) (q0 := 0) rfl rfl, fun U hU hW => ⟨rfl, by rw [hU], by rw [hU]; exact hP, va_K.moved hW.alike hK, hD.weaken (fun _ _ _ _ => trivial)⟩⟩ rfl rfl hl.1 rfl (lv_room (Nat.le_of_ble_eq_true rfl)) dX0_commit_91 ⟨Nat.le_of_ble_eq_true rfl, Nat.le_of_ble_eq_true rfl⟩) hS (fun q _ h => hFc q h) hFc (fun u t H1 locs ht hvm hw hB hz1 hk1 hS => ?_)
                    obtain ⟨hP1, hK1, hD1⟩ := hB
                    subst hw
                    rw [ht] at hP1
                    have hP : va_P (dC, dI) vwCl (wX cA ad (wrS cy ((wbF cy cb i (cm2 st ck nh cb cy n (st, bI o, wl, wd))).1) ((wbF cy cb i (cm2 st ck nh cb cy n (st, bI o, wl, wd))).2.2.1) (i * 64) b) ck (fhF (wpF cy n (st, bI o, wl, wd)).1 ck nh cb n (hwF st 0 4)) tp tl cb cy (nI n) (wrO ((wbF cy cb i (cm2 st ck nh cb cy n (st, bI o, wl, wd))).2.1) ((wbF cy cb i (cm2 st ck nh cb cy n (st, bI o, wl, wd))).2.2.1)) (wrL ((wbF cy cb i (cm2 st ck nh cb cy n (st, bI o, wl, wd))).2.2.1)) (wrD ((wbF cy cb i (cm2 st ck nh cb cy n (st, bI o, wl, wd))).2.2.1) ((wbF cy cb i (cm2 st ck nh cb cy n (st, bI o, wl, wd))).2.2.2))) H1 := hP1
                    have hD : va_D A (wX cA ad (wrS cy ((wbF cy cb i (cm2 st ck nh cb cy n (st, bI o, wl, wd))).1) ((wbF cy cb i (cm2 st ck nh cb cy n (st, bI o, wl, wd))).2.2.1) (i * 64) b) ck (fhF (wpF cy n (st, bI o, wl, wd)).1 ck nh cb n (hwF st 0 4)) tp tl cb cy (nI n) (wrO ((wbF cy cb i (cm2 st ck nh cb cy n (st, bI o, wl, wd))).2.1) ((wbF cy cb i (cm2 st ck nh cb cy n (st, bI o, wl, wd))).2.2.1)) (wrL ((wbF cy cb i (cm2 st ck nh cb cy n (st, bI o, wl, wd))).2.2.1)) (wrD ((wbF cy cb i (cm2 st ck nh cb cy n (st, bI o, wl, wd))).2.2.1) ((wbF cy cb i (cm2 st ck nh cb cy n (st, bI o, wl, wd))).2.2.2))) := ⟨hD1.1, fun k q h => hFc _ (hD1.2 k q h)⟩
                    generalize H1 = H at hP hS ⊢
                    have e94 := wbF_s (cy := cy) (u := cm2 st ck nh cb cy n (st, bI o, wl, wd)) eb hb9
                    have hP : va_P (dC, dI) vwCl (wX cA ad ((wbF cy cb (i + 1) (cm2 st ck nh cb cy n (st, bI o, wl, wd))).1) ck (fhF (wpF cy n (st, bI o, wl, wd)).1 ck nh cb n (hwF st 0 4)) tp tl cb cy (nI n) ((wbF cy cb (i + 1) (cm2 st ck nh cb cy n (st, bI o, wl, wd))).2.1) ((wbF cy cb (i + 1) (cm2 st ck nh cb cy n (st, bI o, wl, wd))).2.2.1) ((wbF cy cb (i + 1) (cm2 st ck nh cb cy n (st, bI o, wl, wd))).2.2.2)) H := by rw [e94]; exact hP
                    have hD : va_D A (wX cA ad ((wbF cy cb (i + 1) (cm2 st ck nh cb cy n (st, bI o, wl, wd))).1) ck (fhF (wpF cy n (st, bI o, wl, wd)).1 ck nh cb n (hwF st 0 4)) tp tl cb cy (nI n) ((wbF cy cb (i + 1) (cm2 st ck nh cb cy n (st, bI o, wl, wd))).2.1) ((wbF cy cb (i + 1) (cm2 st ck nh cb cy n (st, bI o, wl, wd))).2.2.1) ((wbF cy cb (i + 1) (cm2 st ck nh cb cy n (st, bI o, wl, wd))).2.2.2)) := by rw [e94]; exact hD
                    refine lv_iinc (v := nI (i + 1)) (lv' := [(2, .int (nI (i + 1))), (0, .ref (ad 0)), (1, .int (hwF st 0 4))]) hx hb dX0_commit_94 hl (k := 2) rfl (nI_add i 1) (by decide) rfl (fun ls hl => ?_)
                    refine lv_goto (tgt := 68) hx hb dX0_commit_97 (by decide) ?_
                    exact ih (i + 1) (by omega) _ _ _ hP hD hS (lv_sub hl [1, 2, 0] rfl)
              exact loop_68 n 0 (by omega) _ _ _ hP hD hS (lv_sub hl [1, 2, 0] rfl)
            · have n_37 : ¬ n ≤ i := fun h => c_37 ((nI_leI (by omega) (by omega)).mpr h)
              exfalso; omega
          | succ k ih =>
            intro i hk H locs ls hP hD hS hl
            refine lv_iload_n hx hb dX0_commit_32 rfl (lv_at hl 2 rfl) ?_
            refine lv_aload_n hx hb dX0_commit_33 rfl (lv_at hl 0 rfl) ?_
            refine va_get (D := (dC, dI)) (ci := 0) (v := .int (nI n)) (C := RX0) (T := TX0) (N := 11) hx hb hts hin hown hK hP 0 rfl rfl 7 (by decide) (hts (.fieldLink RX0 64 "BlockJournal" "changes" "I") (by decide +kernel)) (fun _ h9 => h9) rfl dX0_commit_34 ?_
            refine lv_icmp_ge (tgt := 61) hx hb dX0_commit_37 (by decide) (fun c_37 => ?_) (fun c_37 => ?_)
            · have n_37 : n ≤ i := (nI_leI (by omega) (by omega)).mp c_37
              exfalso; omega
            · have n_37 : ¬ n ≤ i := fun h => c_37 ((nI_leI (by omega) (by omega)).mpr h)
              refine lv_aload_n hx hb dX0_commit_40 rfl (lv_at hl 0 rfl) ?_
              refine lv_iconst (v := nI 1) hx hb dX0_commit_41 (by decide) ?_
              refine lv_iload_n hx hb dX0_commit_42 rfl (lv_at hl 2 rfl) ?_
              refine lv_iadd hx hb dX0_commit_43 ?_
              refine bj_i (nI_add 1 i) ?_
              refine lv_aload_n hx hb dX0_commit_44 rfl (lv_at hl 0 rfl) ?_
              refine va_get (D := (dC, dI)) (ci := 0) (v := .ref (ad 6)) (C := RX0) (T := TX0) (N := 11) hx hb hts hin hown hK hP 0 rfl rfl 6 (by decide) (hts (.fieldLink RX0 25 "BlockJournal" "changeBytes" "[I") (by decide +kernel)) (fun _ h9 => h9) rfl dX0_commit_45 ?_
              refine lv_iload_n hx hb dX0_commit_48 rfl (lv_at hl 2 rfl) ?_
              refine lv_bipush (v := nI 64) hx hb dX0_commit_49 (by decide) ?_
              refine lv_imul hx hb dX0_commit_51 ?_
              refine bj_i (pk_mul i 64) ?_
              have hFc := va_free (wc := wX cA ad ((wpF cy i (st, bI o, wl, wd)).1) ck nh tp tl cb cy (nI n) ((wpF cy i (st, bI o, wl, wd)).2.1) ((wpF cy i (st, bI o, wl, wd)).2.2.1) ((wpF cy i (st, bI o, wl, wd)).2.2.2)) hD hS hA [0, 1, 2, 3, 4, 5, 6] rfl
              refine va_callv (va_runV (As := [.int (nI (1 + i)), .ref (ad 6), .int (nI (i * 64))]) (rest := []) ⟨hx, hb, hml, hown, hts⟩ (c_X0_write_6 l dC dI cA ad H.size ((wpF cy i (st, bI o, wl, wd)).1) ck nh tp tl cb cy (nI n) ((wpF cy i (st, bI o, wl, wd)).2.1) ((wpF cy i (st, bI o, wl, wd)).2.2.1) ((wpF cy i (st, bI o, wl, wd)).2.2.2) (1 + i) (i * 64) (by omega) (by omega)) (cwV 3 hts gX0_commit_X0_write rfl rfl rfl (by decide +kernel) ⟨Nat.le_of_ble_eq_true rfl, Nat.le_of_ble_eq_true rfl⟩) ⟨fun a U g mk q => by obtain ⟨q0, q1, qP, qK, qD⟩ := q; exact ⟨q0, q1, qP, va_K.moved (u := U) (U := U.calling g mk a) (Vm.Alike.refl U.vm) qK, qD⟩, va_recv hK hP (ci := 0) (q0 := 0) rfl rfl, fun U hU hW => ⟨rfl, by rw [hU], by rw [hU]; exact hP, va_K.moved hW.alike hK, hD.weaken (fun _ _ _ _ => trivial)⟩⟩ rfl rfl hl.1 rfl (lv_room (Nat.le_of_ble_eq_true rfl)) dX0_commit_52 ⟨Nat.le_of_ble_eq_true rfl, Nat.le_of_ble_eq_true rfl⟩) hS (fun q _ h => hFc q h) hFc (fun u t H1 locs ht hvm hw hB hz1 hk1 hS => ?_)
              obtain ⟨hP1, hK1, hD1⟩ := hB
              subst hw
              rw [ht] at hP1
              have hP : va_P (dC, dI) vwCl (wX cA ad (wrS cy ((wpF cy i (st, bI o, wl, wd)).1) ((wpF cy i (st, bI o, wl, wd)).2.2.1) (i * 64) (1 + i)) ck nh tp tl cb cy (nI n) (wrO ((wpF cy i (st, bI o, wl, wd)).2.1) ((wpF cy i (st, bI o, wl, wd)).2.2.1)) (wrL ((wpF cy i (st, bI o, wl, wd)).2.2.1)) (wrD ((wpF cy i (st, bI o, wl, wd)).2.2.1) ((wpF cy i (st, bI o, wl, wd)).2.2.2))) H1 := hP1
              have hD : va_D A (wX cA ad (wrS cy ((wpF cy i (st, bI o, wl, wd)).1) ((wpF cy i (st, bI o, wl, wd)).2.2.1) (i * 64) (1 + i)) ck nh tp tl cb cy (nI n) (wrO ((wpF cy i (st, bI o, wl, wd)).2.1) ((wpF cy i (st, bI o, wl, wd)).2.2.1)) (wrL ((wpF cy i (st, bI o, wl, wd)).2.2.1)) (wrD ((wpF cy i (st, bI o, wl, wd)).2.2.1) ((wpF cy i (st, bI o, wl, wd)).2.2.2))) := ⟨hD1.1, fun k q h => hFc _ (hD1.2 k q h)⟩
              generalize H1 = H at hP hS ⊢
              refine lv_iinc (v := nI (i + 1)) (lv' := [(2, .int (nI (i + 1))), (0, .ref (ad 0)), (1, .int (hwF st 0 4))]) hx hb dX0_commit_55 hl (k := 2) rfl (nI_add i 1) (by decide) rfl (fun ls hl => ?_)
              refine lv_goto (tgt := 32) hx hb dX0_commit_58 (by decide) ?_
              exact ih (i + 1) (by omega) _ _ _ hP hD hS (lv_sub hl [1, 2, 0] rfl)
        exact loop_32 n 0 (by omega) _ _ _ hP hD hS (lv_sub hl [2, 1, 0] rfl)
      · obtain ⟨sa, hsa⟩ := hE.2.2.2 (89, "there are no changes, or the power is off") (by decide +kernel)
        have hgd : ∀ w ∈ (vx_atS RX0 50 "java/lang/IllegalStateException" ["java/lang/RuntimeException", "java/lang/Exception"]).filter goodWord, w ∈ wsX0_commit := by decide +kernel
        exact vx_throwS (own := RX0) (cls := "java/lang/IllegalStateException") (text := "there are no changes, or the power is off") (names := ["java/lang/RuntimeException", "java/lang/Exception"]) hx hb h9 hown (by decide) (by decide) (hts (.classLink RX0 46 "java/lang/IllegalStateException") (by decide +kernel)) (hts (.initialized "java/lang/IllegalStateException") (by decide +kernel)) hsa (vx_hat (B := bjB) (fun w h => hts w (hgd w h)) (by decide +kernel) (fun w h => va_any (by revert w; decide +kernel) (hE.2.2.1 w h))) (by decide +kernel) hE.1 hE.2.1 hS (hl.1.trans hml.symm) dX0_commit_14 dX0_commit_17 dX0_commit_18 dX0_commit_20 dX0_commit_23 (fun x hx9 => (hnt x hx9).elim) (Nat.le_of_ble_eq_true rfl) (Nat.le_of_ble_eq_true rfl) (Nat.le_of_ble_eq_true rfl) (Nat.le_of_ble_eq_true rfl) hlocks (fun t hal hz hk => ⟨(), trivial, ⟨⟨by rw [cmK, if_neg c_4, if_neg c_11], rfl⟩, (bj_thr hP hK hD hS hal hz hk).1⟩, (bj_thr hP hK hD hS hal hz hk).2⟩) hS.2.2 (Nat.le_of_ble_eq_true rfl) (Nat.le_of_ble_eq_true rfl)
  rw [hH, hlo] at goal
  exact goal

set_option maxHeartbeats 4000000 in
set_option maxRecDepth 100000 in
theorem c_X0_recover (l : Launch) (h9 : l.stackTraces = false) (dC : Nat → ClassId) (dI : Nat → Nat → Nat) (cA : ClassId) (ad : Nat → Nat) (sz : Nat) (st ck nh tp : Nat → Int32) (tl : Int32) (cb cy : Nat → Int32) (nc wl : Int32) (wd : Int64) (o : Bool)  : vx_Met l yX0_recover wsX0_recover ({ frames := 6, cells := 1, slots := 6, locals := 105 } : Room) (va_Pc [.ref (ad 0)] (fun U => U.heap.size = sz ∧ va_P (dC, dI) vwCl (wX cA ad st ck nh tp tl cb cy nc (bI o) wl wd) U.heap ∧ va_K (dC, dI) vwCl [(cA, .int)] U ∧ va_D (fun _ => True) (wX cA ad st ck nh tp tl cb cy nc (bI o) wl wd) ∧ bjE (va_A (wX cA ad st ck nh tp tl cb cy nc (bI o) wl wd) sz) U U.heap)) (va_Qi (fun (r : Int32) (u : XS) => reK o = 0 ∧ r = reR st ck nh (st, bI o, wl, wd) ∧ u = ((reU st ck nh (st, bI o, wl, wd)).1, reH st ck nh (st, bI o, wl, wd), tp, tl, cb, cy, nc, (reU st ck nh (st, bI o, wl, wd)).2.1, (reU st ck nh (st, bI o, wl, wd)).2.2.1, (reU st ck nh (st, bI o, wl, wd)).2.2.2)) (aX dC dI cA ad ck (va_A (wX cA ad st ck nh tp tl cb cy nc (bI o) wl wd) sz)) (va_A (wX cA ad st ck nh tp tl cb cy nc (bI o) wl wd) sz)) (vx_X (fun _ : Unit => True) (fun E _ t => ((reK o = 1 ∧ E = "java/lang/IllegalStateException")) ∧ aX dC dI cA ad ck (va_A (wX cA ad st ck nh tp tl cb cy nc (bI o) wl wd) sz) (st, nh, tp, tl, cb, cy, nc, bI o, wl, wd) t) (va_A (wX cA ad st ck nh tp tl cb cy nc (bI o) wl wd) sz)) 1 6 (va_A (wX cA ad st ck nh tp tl cb cy nc (bI o) wl wd) sz) := by
  refine vx_ofW (cc := cX0_recover) (maxL := 3) (ret := (some .int)) (by decide) rfl ?_
  intro p e s m args below meth c s₁ B hml hnt hv
  obtain ⟨rfl, hsz, hP, hK, hD0, hE⟩ := hv
  have hx := B.exec
  have hb := B.bytes
  have hr := B.returns
  have hts := atoms_spec (ws := wsX0_recover) B.pre
  have hown : s.vm.findClass RX0 = some m.cls := findClass_of_methodNamed B.named
  have hlocks := B.notSynchronized
  have hin : ∀ w ∈ u_ws RX0 TX0 11, w ∈ wsX0_recover := by decide +kernel
  subst hsz
  have hD := hD0.self (sz := s.heap.size)
  generalize hAe : va_A (wX cA ad st ck nh tp tl cb cy nc (bI o) wl wd) s.heap.size = A at hD hE ⊢
  have hA : ∀ q : Nat, s.heap.size ≤ q → A q := fun q h => by rw [← hAe]; exact Or.inr h
  obtain ⟨H, locs, hH, hlo, hS⟩ : ∃ (H : Heap) (locs : List Loc), H = s.heap ∧ locs = [] ∧ va_S A s.heap H locs := ⟨s.heap, [], rfl, rfl, va_S.rf⟩
  rw [← hH] at hP
  have hP : va_P (dC, dI) vwCl (wX cA ad st ck nh tp tl cb cy nc (bI o) wl wd) H := hP
  have hl := lv_entry ([.ref (ad 0)]) (n := 3) (Nat.le_of_ble_eq_true rfl)
  rw [lg_entry_eq]
  generalize (lg_sl ([.ref (ad 0)]) ++ List.replicate (3 - (lg_sl ([.ref (ad 0)])).length) Slot.unset).toArray = ls at hl ⊢
  have goal : W p l e (headSpec wsX0_recover ({ frames := 6, cells := 1, slots := 6, locals := 105 } : Room)).room s m ([.ref (ad 0)] : List Value).toArray below meth c H locs 0 0 (vx_MQ below (va_Qi (fun (r : Int32) (u : XS) => reK o = 0 ∧ r = reR st ck nh (st, bI o, wl, wd) ∧ u = ((reU st ck nh (st, bI o, wl, wd)).1, reH st ck nh (st, bI o, wl, wd), tp, tl, cb, cy, nc, (reU st ck nh (st, bI o, wl, wd)).2.1, (reU st ck nh (st, bI o, wl, wd)).2.2.1, (reU st ck nh (st, bI o, wl, wd)).2.2.2)) (aX dC dI cA ad ck A) A) (vx_X (fun _ : Unit => True) (fun E _ t => ((reK o = 1 ∧ E = "java/lang/IllegalStateException")) ∧ aX dC dI cA ad ck A (st, nh, tp, tl, cb, cy, nc, bI o, wl, wd) t) A) ([.ref (ad 0)] : List Value).toArray s 1 6 A) (F0 m 0 ls []) := by
    clear hH hlo
    have hl : lv_has ls 3 [(0, .ref (ad 0))] := hl
    refine lv_aload_n hx hb dX0_recover_0 rfl (lv_at hl 0 rfl) ?_
    refine va_get (D := (dC, dI)) (ci := 0) (v := .int (bI o)) (C := RX0) (T := TX0) (N := 11) hx hb hts hin hown hK hP 0 rfl rfl 8 (by decide) (hts (.fieldLink RX0 85 "BlockJournal" "off" "Z") (by decide +kernel)) (fun _ h9 => h9) rfl dX0_recover_1 ?_
    refine lv_if_eq (tgt := 17) hx hb dX0_recover_4 (by decide) (fun c_4 => ?_) (fun c_4 => ?_)
    · refine lv_aload_n hx hb dX0_recover_17 rfl (lv_at hl 0 rfl) ?_
      refine bj_call (v := .int (bI (hrF st ck))) (W.runV (As := []) (rest := []) ⟨hx, hb, hml, hown, hts⟩ (c_X0_headIsRight l dC dI cA ad st ck nh tp tl cb cy nc (bI o) wl wd) (cwV 0 hts gX0_recover_X0_headIsRight rfl rfl rfl (by decide +kernel) ⟨Nat.le_of_ble_eq_true rfl, Nat.le_of_ble_eq_true rfl⟩) ⟨fun a U g mk q => by obtain ⟨q0, qP, qK⟩ := q; exact ⟨q0, qP, va_K.moved (u := U) (U := U.calling g mk a) (Vm.Alike.refl U.vm) qK⟩, va_recv hK hP (ci := 0) (q0 := 0) rfl rfl, fun U hU hW => ⟨rfl, by rw [hU]; exact hP, va_K.moved hW.alike hK⟩⟩ rfl rfl hl.1 rfl (lv_room (Nat.le_of_ble_eq_true rfl)) dX0_recover_18 ⟨Nat.le_of_ble_eq_true rfl, Nat.le_of_ble_eq_true rfl⟩) ?_
      refine lv_if_ne (tgt := 26) hx hb dX0_recover_21 (by decide) (fun c_21 => ?_) (fun c_21 => ?_)
      · obtain ⟨n, hn1, hn, en, htg⟩ := hrF_nat c_21
        have hcl : (st 4).toNatClampNeg = n := by rw [en]; exact nI_clamp (by omega)
        refine lv_aload_n hx hb dX0_recover_26 rfl (lv_at hl 0 rfl) ?_
        refine bj_call (v := .int (st 4)) (W.runV (As := []) (rest := []) ⟨hx, hb, hml, hown, hts⟩ (c_X0_headCount l dC dI cA ad st ck nh tp tl cb cy nc (bI o) wl wd) (cwV 0 hts gX0_recover_X0_headCount rfl rfl rfl (by decide +kernel) ⟨Nat.le_of_ble_eq_true rfl, Nat.le_of_ble_eq_true rfl⟩) ⟨fun a U g mk q => by obtain ⟨q0, qP, qK⟩ := q; exact ⟨q0, qP, va_K.moved (u := U) (U := U.calling g mk a) (Vm.Alike.refl U.vm) qK⟩, va_recv hK hP (ci := 0) (q0 := 0) rfl rfl, fun U hU hW => ⟨rfl, by rw [hU]; exact hP, va_K.moved hW.alike hK⟩⟩ rfl rfl hl.1 rfl (lv_room (Nat.le_of_ble_eq_true rfl)) dX0_recover_27 ⟨Nat.le_of_ble_eq_true rfl, Nat.le_of_ble_eq_true rfl⟩) ?_
        refine lv_istore_n (lv' := [(1, .int (st 4)), (0, .ref (ad 0))]) hx hb dX0_recover_30 rfl hl (by decide) rfl (fun ls hl => ?_)
        rw [en] at hl
        refine lv_iconst (v := nI 0) hx hb dX0_recover_31 (by decide) ?_
        refine lv_istore_n (lv' := [(2, .int (nI 0)), (1, .int (nI n)), (0, .ref (ad 0))]) hx hb dX0_recover_32 rfl hl (by decide) rfl (fun ls hl => ?_)
        have loop_33 : ∀ (k : Nat) (i : Nat), i + k = n → ∀ (H : Heap) (locs : List Loc) (ls : Array Slot), va_P (dC, dI) vwCl (wX cA ad ((wvF i (st, bI o, wl, wd)).1) ck nh tp tl cb cy nc ((wvF i (st, bI o, wl, wd)).2.1) ((wvF i (st, bI o, wl, wd)).2.2.1) ((wvF i (st, bI o, wl, wd)).2.2.2)) H → va_D A (wX cA ad ((wvF i (st, bI o, wl, wd)).1) ck nh tp tl cb cy nc ((wvF i (st, bI o, wl, wd)).2.1) ((wvF i (st, bI o, wl, wd)).2.2.1) ((wvF i (st, bI o, wl, wd)).2.2.2)) → va_S A s.heap H locs → lv_has ls 3 [(0, .ref (ad 0)), (1, .int (nI n)), (2, .int (nI i))] → W p l e (headSpec wsX0_recover ({ frames := 6, cells := 1, slots := 6, locals := 105 } : Room)).room s m ([.ref (ad 0)] : List Value).toArray below meth c H locs 0 0 (vx_MQ below (va_Qi (fun (r : Int32) (u : XS) => reK o = 0 ∧ r = reR st ck nh (st, bI o, wl, wd) ∧ u = ((reU st ck nh (st, bI o, wl, wd)).1, reH st ck nh (st, bI o, wl, wd), tp, tl, cb, cy, nc, (reU st ck nh (st, bI o, wl, wd)).2.1, (reU st ck nh (st, bI o, wl, wd)).2.2.1, (reU st ck nh (st, bI o, wl, wd)).2.2.2)) (aX dC dI cA ad ck A) A) (vx_X (fun _ : Unit => True) (fun E _ t => ((reK o = 1 ∧ E = "java/lang/IllegalStateException")) ∧ aX dC dI cA ad ck A (st, nh, tp, tl, cb, cy, nc, bI o, wl, wd) t) A) ([.ref (ad 0)] : List Value).toArray s 1 6 A) (F0 m 33 ls []) := by
          intro k
          induction k with
          | zero =>
            intro i hk H locs ls hP hD hS hl
            refine lv_iload_n hx hb dX0_recover_33 rfl (lv_at hl 2 rfl) ?_
            refine lv_iload_n hx hb dX0_recover_34 rfl (lv_at hl 1 rfl) ?_
            refine lv_icmp_ge (tgt := 63) hx hb dX0_recover_35 (by decide) (fun c_35 => ?_) (fun c_35 => ?_)
            · have n_35 : n ≤ i := (nI_leI (by omega) (by omega)).mp c_35
              have ei : i = n := by omega
              rw [ei] at hP hD
              have hP : va_P (dC, dI) vwCl (wX cA ad ((wvF n (st, bI o, wl, wd)).1) ck nh tp tl cb cy nc ((wvF n (st, bI o, wl, wd)).2.1) ((wvF n (st, bI o, wl, wd)).2.2.1) ((wvF n (st, bI o, wl, wd)).2.2.2)) H := hP
              have hD : va_D A (wX cA ad ((wvF n (st, bI o, wl, wd)).1) ck nh tp tl cb cy nc ((wvF n (st, bI o, wl, wd)).2.1) ((wvF n (st, bI o, wl, wd)).2.2.1) ((wvF n (st, bI o, wl, wd)).2.2.2)) := hD
              refine lv_aload_n hx hb dX0_recover_63 rfl (lv_at hl 0 rfl) ?_
              refine lv_aload_n hx hb dX0_recover_64 rfl (lv_at hl 0 rfl) ?_
              refine lv_iconst (v := nI 0) hx hb dX0_recover_65 (by decide) ?_
              refine bj_call (v := .int (hwF (wvF n (st, bI o, wl, wd)).1 0 4)) (W.runV (As := [.int (nI 0)]) (rest := [.ref (ad 0)]) ⟨hx, hb, hml, hown, hts⟩ (c_X0_headWord l dC dI cA ad ((wvF n (st, bI o, wl, wd)).1) ck nh tp tl cb cy nc ((wvF n (st, bI o, wl, wd)).2.1) ((wvF n (st, bI o, wl, wd)).2.2.1) ((wvF n (st, bI o, wl, wd)).2.2.2) 0 (by decide)) (cwV 1 hts gX0_recover_X0_headWord rfl rfl rfl (by decide +kernel) ⟨Nat.le_of_ble_eq_true rfl, Nat.le_of_ble_eq_true rfl⟩) ⟨fun a U g mk q => by obtain ⟨q0, qP, qK⟩ := q; exact ⟨q0, qP, va_K.moved (u := U) (U := U.calling g mk a) (Vm.Alike.refl U.vm) qK⟩, va_recv hK hP (ci := 0) (q0 := 0) rfl rfl, fun U hU hW => ⟨rfl, by rw [hU]; exact hP, va_K.moved hW.alike hK⟩⟩ rfl rfl hl.1 rfl (lv_room (Nat.le_of_ble_eq_true rfl)) dX0_recover_66 ⟨Nat.le_of_ble_eq_true rfl, Nat.le_of_ble_eq_true rfl⟩) ?_
              refine lv_iconst (v := nI 1) hx hb dX0_recover_69 (by decide) ?_
              refine lv_iadd hx hb dX0_recover_70 ?_
              have hFc := va_free (wc := wX cA ad ((wvF n (st, bI o, wl, wd)).1) ck nh tp tl cb cy nc ((wvF n (st, bI o, wl, wd)).2.1) ((wvF n (st, bI o, wl, wd)).2.2.1) ((wvF n (st, bI o, wl, wd)).2.2.2)) hD hS hA [0, 1, 2, 3, 4, 5, 6] rfl
              refine va_callv (va_runV (As := [.int ((hwF (wvF n (st, bI o, wl, wd)).1 0 4) + (nI 1))]) (rest := []) ⟨hx, hb, hml, hown, hts⟩ (c_X0_writeEmptyHead l dC dI cA ad H.size ((wvF n (st, bI o, wl, wd)).1) ck nh tp tl cb cy nc ((wvF n (st, bI o, wl, wd)).2.1) ((wvF n (st, bI o, wl, wd)).2.2.1) ((wvF n (st, bI o, wl, wd)).2.2.2) ((hwF (wvF n (st, bI o, wl, wd)).1 0 4) + (nI 1))) (cwV 1 hts gX0_recover_X0_writeEmptyHead rfl rfl rfl (by decide +kernel) ⟨Nat.le_of_ble_eq_true rfl, Nat.le_of_ble_eq_true rfl⟩) ⟨fun a U g mk q => by obtain ⟨q0, q1, qP, qK, qD⟩ := q; exact ⟨q0, q1, qP, va_K.moved (u := U) (U := U.calling g mk a) (Vm.Alike.refl U.vm) qK, qD⟩, va_recv hK hP (ci := 0) (q0 := 0) rfl rfl, fun U hU hW => ⟨rfl, by rw [hU], by rw [hU]; exact hP, va_K.moved hW.alike hK, hD.weaken (fun _ _ _ _ => trivial)⟩⟩ rfl rfl hl.1 rfl (lv_room (Nat.le_of_ble_eq_true rfl)) dX0_recover_71 ⟨Nat.le_of_ble_eq_true rfl, Nat.le_of_ble_eq_true rfl⟩) hS (fun q _ h => hFc q h) hFc (fun u t H1 locs ht hvm hw hB hz1 hk1 hS => ?_)
              obtain ⟨hP1, hK1, hD1⟩ := hB
              subst hw
              rw [ht] at hP1
              have hP : va_P (dC, dI) vwCl (wX cA ad ((rvU nh n (st, bI o, wl, wd)).1) ck (rvH nh n (st, bI o, wl, wd)) tp tl cb cy nc ((rvU nh n (st, bI o, wl, wd)).2.1) ((rvU nh n (st, bI o, wl, wd)).2.2.1) ((rvU nh n (st, bI o, wl, wd)).2.2.2)) H1 := hP1
              have hD : va_D A (wX cA ad ((rvU nh n (st, bI o, wl, wd)).1) ck (rvH nh n (st, bI o, wl, wd)) tp tl cb cy nc ((rvU nh n (st, bI o, wl, wd)).2.1) ((rvU nh n (st, bI o, wl, wd)).2.2.1) ((rvU nh n (st, bI o, wl, wd)).2.2.2)) := ⟨hD1.1, fun k q h => hFc _ (hD1.2 k q h)⟩
              generalize H1 = H at hP hS ⊢
              refine lv_aload_n hx hb dX0_recover_74 rfl (lv_at hl 0 rfl) ?_
              refine va_get (D := (dC, dI)) (ci := 0) (v := .int ((rvU nh n (st, bI o, wl, wd)).2.1)) (C := RX0) (T := TX0) (N := 11) hx hb hts hin hown hK hP 0 rfl rfl 8 (by decide) (hts (.fieldLink RX0 85 "BlockJournal" "off" "Z") (by decide +kernel)) (fun _ h9 => h9) rfl dX0_recover_75 ?_
              refine lv_if_eq (tgt := 85) hx hb dX0_recover_78 (by decide) (fun c_78 => ?_) (fun c_78 => ?_)
              · refine lv_iload_n hx hb dX0_recover_85 rfl (lv_at hl 1 rfl) ?_
                have hcode : reK o = 0 := by rw [reK, if_pos c_4]
                have hpost : (((rvU nh n (st, bI o, wl, wd)).1, rvH nh n (st, bI o, wl, wd), tp, tl, cb, cy, nc, (rvU nh n (st, bI o, wl, wd)).2.1, (rvU nh n (st, bI o, wl, wd)).2.2.1, (rvU nh n (st, bI o, wl, wd)).2.2.2) : XS) = ((reU st ck nh (st, bI o, wl, wd)).1, reH st ck nh (st, bI o, wl, wd), tp, tl, cb, cy, nc, (reU st ck nh (st, bI o, wl, wd)).2.1, (reU st ck nh (st, bI o, wl, wd)).2.2.1, (reU st ck nh (st, bI o, wl, wd)).2.2.2) := by simp only [reU, reH, if_pos c_21, hcl]
                refine W.widen (k := 1) (n := 6) (Nat.zero_le _) (Nat.zero_le _) ?_
                refine vx_ret ?_
                have hres : nI n = reR st ck nh (st, bI o, wl, wd) := by rw [reR, if_pos c_21, hcl, if_pos c_78, en]
                exact W.iret (v := nI n) hx hb hr (fun t ht hW => ⟨⟨_, ((rvU nh n (st, bI o, wl, wd)).1, rvH nh n (st, bI o, wl, wd), tp, tl, cb, cy, nc, (rvU nh n (st, bI o, wl, wd)).2.1, (rvU nh n (st, bI o, wl, wd)).2.2.1, (rvU nh n (st, bI o, wl, wd)).2.2.2), rfl, ⟨hcode, hres, hpost⟩, by rw [ht]; exact hP, va_K.moved hW.alike hK, hD⟩, hS.F ht⟩) hS.2.2 dX0_recover_86
              · refine lv_iconst (v := (-1)) hx hb dX0_recover_81 (by decide) ?_
                refine lv_goto (tgt := 86) hx hb dX0_recover_82 (by decide) ?_
                have hcode : reK o = 0 := by rw [reK, if_pos c_4]
                have hpost : (((rvU nh n (st, bI o, wl, wd)).1, rvH nh n (st, bI o, wl, wd), tp, tl, cb, cy, nc, (rvU nh n (st, bI o, wl, wd)).2.1, (rvU nh n (st, bI o, wl, wd)).2.2.1, (rvU nh n (st, bI o, wl, wd)).2.2.2) : XS) = ((reU st ck nh (st, bI o, wl, wd)).1, reH st ck nh (st, bI o, wl, wd), tp, tl, cb, cy, nc, (reU st ck nh (st, bI o, wl, wd)).2.1, (reU st ck nh (st, bI o, wl, wd)).2.2.1, (reU st ck nh (st, bI o, wl, wd)).2.2.2) := by simp only [reU, reH, if_pos c_21, hcl]
                refine W.widen (k := 1) (n := 6) (Nat.zero_le _) (Nat.zero_le _) ?_
                refine vx_ret ?_
                have hres : (-1) = reR st ck nh (st, bI o, wl, wd) := by rw [reR, if_pos c_21, hcl, if_neg c_78]
                exact W.iret (v := (-1)) hx hb hr (fun t ht hW => ⟨⟨_, ((rvU nh n (st, bI o, wl, wd)).1, rvH nh n (st, bI o, wl, wd), tp, tl, cb, cy, nc, (rvU nh n (st, bI o, wl, wd)).2.1, (rvU nh n (st, bI o, wl, wd)).2.2.1, (rvU nh n (st, bI o, wl, wd)).2.2.2), rfl, ⟨hcode, hres, hpost⟩, by rw [ht]; exact hP, va_K.moved hW.alike hK, hD⟩, hS.F ht⟩) hS.2.2 dX0_recover_86
            · have n_35 : ¬ n ≤ i := fun h => c_35 ((nI_leI (by omega) (by omega)).mpr h)
              exfalso; omega
          | succ k ih =>
            intro i hk H locs ls hP hD hS hl
            refine lv_iload_n hx hb dX0_recover_33 rfl (lv_at hl 2 rfl) ?_
            refine lv_iload_n hx hb dX0_recover_34 rfl (lv_at hl 1 rfl) ?_
            refine lv_icmp_ge (tgt := 63) hx hb dX0_recover_35 (by decide) (fun c_35 => ?_) (fun c_35 => ?_)
            · have n_35 : n ≤ i := (nI_leI (by omega) (by omega)).mp c_35
              exfalso; omega
            · have n_35 : ¬ n ≤ i := fun h => c_35 ((nI_leI (by omega) (by omega)).mpr h)
              refine lv_aload_n hx hb dX0_recover_38 rfl (lv_at hl 0 rfl) ?_
              refine lv_aload_n hx hb dX0_recover_39 rfl (lv_at hl 0 rfl) ?_
              refine lv_iload_n hx hb dX0_recover_40 rfl (lv_at hl 2 rfl) ?_
              refine bj_call (v := .int (htF (wvF i (st, bI o, wl, wd)).1 i)) (W.runV (As := [.int (nI i)]) (rest := [.ref (ad 0)]) ⟨hx, hb, hml, hown, hts⟩ (c_X0_headTarget l dC dI cA ad ((wvF i (st, bI o, wl, wd)).1) ck nh tp tl cb cy nc ((wvF i (st, bI o, wl, wd)).2.1) ((wvF i (st, bI o, wl, wd)).2.2.1) ((wvF i (st, bI o, wl, wd)).2.2.2) i (by omega)) (cwV 1 hts gX0_recover_X0_headTarget rfl rfl rfl (by decide +kernel) ⟨Nat.le_of_ble_eq_true rfl, Nat.le_of_ble_eq_true rfl⟩) ⟨fun a U g mk q => by obtain ⟨q0, qP, qK⟩ := q; exact ⟨q0, qP, va_K.moved (u := U) (U := U.calling g mk a) (Vm.Alike.refl U.vm) qK⟩, va_recv hK hP (ci := 0) (q0 := 0) rfl rfl, fun U hU hW => ⟨rfl, by rw [hU]; exact hP, va_K.moved hW.alike hK⟩⟩ rfl rfl hl.1 rfl (lv_room (Nat.le_of_ble_eq_true rfl)) dX0_recover_41 ⟨Nat.le_of_ble_eq_true rfl, Nat.le_of_ble_eq_true rfl⟩) ?_
              obtain ⟨b, hb9, eb, e57⟩ := wvF_tgt (u := (st, bI o, wl, wd)) hn htg (i := i) (by omega)
              refine bj_i (y := nI b) (eb) ?_
              refine lv_aload_n hx hb dX0_recover_44 rfl (lv_at hl 0 rfl) ?_
              refine va_get (D := (dC, dI)) (ci := 0) (v := .ref (ad 1)) (C := RX0) (T := TX0) (N := 11) hx hb hts hin hown hK hP 0 rfl rfl 0 (by decide) (hts (.fieldLink RX0 9 "BlockJournal" "store" "[I") (by decide +kernel)) (fun _ h9 => h9) rfl dX0_recover_45 ?_
              refine lv_iconst (v := nI 1) hx hb dX0_recover_48 (by decide) ?_
              refine lv_iload_n hx hb dX0_recover_49 rfl (lv_at hl 2 rfl) ?_
              refine lv_iadd hx hb dX0_recover_50 ?_
              refine bj_i (nI_add 1 i) ?_
              refine lv_bipush (v := nI 64) hx hb dX0_recover_51 (by decide) ?_
              refine lv_imul hx hb dX0_recover_53 ?_
              refine bj_i (pk_mul (1 + i) 64) ?_
              have hFc := va_free (wc := wX cA ad ((wvF i (st, bI o, wl, wd)).1) ck nh tp tl cb cy nc ((wvF i (st, bI o, wl, wd)).2.1) ((wvF i (st, bI o, wl, wd)).2.2.1) ((wvF i (st, bI o, wl, wd)).2.2.2)) hD hS hA [0, 1, 2, 3, 4, 5, 6] rfl
              refine va_callv (va_runV (As := [.int (nI b), .ref (ad 1), .int (nI ((1 + i) * 64))]) (rest := []) ⟨hx, hb, hml, hown, hts⟩ (c_X0_write_1 l dC dI cA ad H.size ((wvF i (st, bI o, wl, wd)).1) ck nh tp tl cb cy nc ((wvF i (st, bI o, wl, wd)).2.1) ((wvF i (st, bI o, wl, wd)).2.2.1) ((wvF i (st, bI o, wl, wd)).2.2.2) b ((1 + i) * 64) (by omega) (by omega)) (cwV 3 hts gX0_recover_X0_write rfl rfl rfl (by decide +kernel) ⟨Nat.le_of_ble_eq_true rfl, Nat.le_of_ble_eq_true rfl⟩) ⟨fun a U g mk q => by obtain ⟨q0, q1, qP, qK, qD⟩ := q; exact ⟨q0, q1, qP, va_K.moved (u := U) (U := U.calling g mk a) (Vm.Alike.refl U.vm) qK, qD⟩, va_recv hK hP (ci := 0) (q0 := 0) rfl rfl, fun U hU hW => ⟨rfl, by rw [hU], by rw [hU]; exact hP, va_K.moved hW.alike hK, hD.weaken (fun _ _ _ _ => trivial)⟩⟩ rfl rfl hl.1 rfl (lv_room (Nat.le_of_ble_eq_true rfl)) dX0_recover_54 ⟨Nat.le_of_ble_eq_true rfl, Nat.le_of_ble_eq_true rfl⟩) hS (fun q _ h => hFc q h) hFc (fun u t H1 locs ht hvm hw hB hz1 hk1 hS => ?_)
              obtain ⟨hP1, hK1, hD1⟩ := hB
              subst hw
              rw [ht] at hP1
              have hP : va_P (dC, dI) vwCl (wX cA ad (wrS ((wvF i (st, bI o, wl, wd)).1) ((wvF i (st, bI o, wl, wd)).1) ((wvF i (st, bI o, wl, wd)).2.2.1) ((1 + i) * 64) b) ck nh tp tl cb cy nc (wrO ((wvF i (st, bI o, wl, wd)).2.1) ((wvF i (st, bI o, wl, wd)).2.2.1)) (wrL ((wvF i (st, bI o, wl, wd)).2.2.1)) (wrD ((wvF i (st, bI o, wl, wd)).2.2.1) ((wvF i (st, bI o, wl, wd)).2.2.2))) H1 := hP1
              have hD : va_D A (wX cA ad (wrS ((wvF i (st, bI o, wl, wd)).1) ((wvF i (st, bI o, wl, wd)).1) ((wvF i (st, bI o, wl, wd)).2.2.1) ((1 + i) * 64) b) ck nh tp tl cb cy nc (wrO ((wvF i (st, bI o, wl, wd)).2.1) ((wvF i (st, bI o, wl, wd)).2.2.1)) (wrL ((wvF i (st, bI o, wl, wd)).2.2.1)) (wrD ((wvF i (st, bI o, wl, wd)).2.2.1) ((wvF i (st, bI o, wl, wd)).2.2.2))) := ⟨hD1.1, fun k q h => hFc _ (hD1.2 k q h)⟩
              generalize H1 = H at hP hS ⊢
              have hP : va_P (dC, dI) vwCl (wX cA ad ((wvF (i + 1) (st, bI o, wl, wd)).1) ck nh tp tl cb cy nc ((wvF (i + 1) (st, bI o, wl, wd)).2.1) ((wvF (i + 1) (st, bI o, wl, wd)).2.2.1) ((wvF (i + 1) (st, bI o, wl, wd)).2.2.2)) H := by rw [e57]; exact hP
              have hD : va_D A (wX cA ad ((wvF (i + 1) (st, bI o, wl, wd)).1) ck nh tp tl cb cy nc ((wvF (i + 1) (st, bI o, wl, wd)).2.1) ((wvF (i + 1) (st, bI o, wl, wd)).2.2.1) ((wvF (i + 1) (st, bI o, wl, wd)).2.2.2)) := by rw [e57]; exact hD
              refine lv_iinc (v := nI (i + 1)) (lv' := [(2, .int (nI (i + 1))), (0, .ref (ad 0)), (1, .int (nI n))]) hx hb dX0_recover_57 hl (k := 2) rfl (nI_add i 1) (by decide) rfl (fun ls hl => ?_)
              refine lv_goto (tgt := 33) hx hb dX0_recover_60 (by decide) ?_
              exact ih (i + 1) (by omega) _ _ _ hP hD hS (lv_sub hl [1, 2, 0] rfl)
        exact loop_33 n 0 (by omega) _ _ _ hP hD hS (lv_sub hl [2, 1, 0] rfl)
      · refine lv_iconst (v := nI 0) hx hb dX0_recover_24 (by decide) ?_
        have hcode : reK o = 0 := by rw [reK, if_pos c_4]
        have hpost : ((st, nh, tp, tl, cb, cy, nc, bI o, wl, wd) : XS) = ((reU st ck nh (st, bI o, wl, wd)).1, reH st ck nh (st, bI o, wl, wd), tp, tl, cb, cy, nc, (reU st ck nh (st, bI o, wl, wd)).2.1, (reU st ck nh (st, bI o, wl, wd)).2.2.1, (reU st ck nh (st, bI o, wl, wd)).2.2.2) := by simp only [reU, reH, if_neg (not_not_intro c_21)]
        refine W.widen (k := 1) (n := 6) (Nat.zero_le _) (Nat.zero_le _) ?_
        refine vx_ret ?_
        have hres : nI 0 = reR st ck nh (st, bI o, wl, wd) := by rw [reR, if_neg (not_not_intro c_21)]
        exact W.iret (v := nI 0) hx hb hr (fun t ht hW => ⟨⟨_, (st, nh, tp, tl, cb, cy, nc, bI o, wl, wd), rfl, ⟨hcode, hres, hpost⟩, by rw [ht]; exact hP, va_K.moved hW.alike hK, hD⟩, hS.F ht⟩) hS.2.2 dX0_recover_25
    · obtain ⟨sa, hsa⟩ := hE.2.2.2 (105, "the power is off") (by decide +kernel)
      have hgd : ∀ w ∈ (vx_atS RX0 50 "java/lang/IllegalStateException" ["java/lang/RuntimeException", "java/lang/Exception"]).filter goodWord, w ∈ wsX0_recover := by decide +kernel
      exact vx_throwS (own := RX0) (cls := "java/lang/IllegalStateException") (text := "the power is off") (names := ["java/lang/RuntimeException", "java/lang/Exception"]) hx hb h9 hown (by decide) (by decide) (hts (.classLink RX0 46 "java/lang/IllegalStateException") (by decide +kernel)) (hts (.initialized "java/lang/IllegalStateException") (by decide +kernel)) hsa (vx_hat (B := bjB) (fun w h => hts w (hgd w h)) (by decide +kernel) (fun w h => va_any (by revert w; decide +kernel) (hE.2.2.1 w h))) (by decide +kernel) hE.1 hE.2.1 hS (hl.1.trans hml.symm) dX0_recover_7 dX0_recover_10 dX0_recover_11 dX0_recover_13 dX0_recover_16 (fun x hx9 => (hnt x hx9).elim) (Nat.le_of_ble_eq_true rfl) (Nat.le_of_ble_eq_true rfl) (Nat.le_of_ble_eq_true rfl) (Nat.le_of_ble_eq_true rfl) hlocks (fun t hal hz hk => ⟨(), trivial, ⟨⟨by rw [reK, if_neg c_4], rfl⟩, (bj_thr hP hK hD hS hal hz hk).1⟩, (bj_thr hP hK hD hS hal hz hk).2⟩) hS.2.2 (Nat.le_of_ble_eq_true rfl) (Nat.le_of_ble_eq_true rfl)
  rw [hH, hlo] at goal
  exact goal
end
section
/-! 'throw new NoSuchElementException(text)': as the rows for the other two, with the one link of the chain of constructors that goes by another pool entry. -/
def nsN : String := "java/util/NoSuchElementException"
theorem ns_0 : decode prog_12_method_4_code 0 = .ok (.aload_n 0, 1) := by decide +kernel
theorem ns_1 : decode prog_12_method_4_code 1 = .ok (.aload_n 1, 1) := by decide +kernel
theorem ns_2 : decode prog_12_method_4_code 2 = .ok (.invokespecial 13, 3) := by decide +kernel
theorem ns_5 : decode prog_12_method_4_code 5 = .ok (.return_, 1) := by decide +kernel
section BXN
variable {p : Program} {l : Launch} {e : Env} {R : Room} {s : State} {m : MethodId} {args : Array Value} {below : List Frame} {meth : Method} {c : Code} {T0 : State} {locs : List Loc} {cells slots : Nat}
set_option maxHeartbeats 4000000 in
/-- from the constructor's call to the throw -/
theorem bx_ctorN (X : Stand p l e R s m args below meth c T0 locs cells slots) (hexec : p.tables.exec = Jvm.exec) (htr : e.platform.stackTraces = false) {own : String} {ic : Nat}
    (hown : s.vm.findClass own = some m.cls) (h : ∀ w ∈ bx_ownN own ic, w.before args s = true) (hlocs : locs = [])
    {a : Addr} {cX : ClassId} {kX : Class} (hfX : s.vm.findClass nsN = some cX) (hkX : s.vm.classes[cX]? = some kX) (hcell : T0.heap[a]? = some (freshCell cX kX)) (hnew : s.heap.size ≤ a) {sa : Addr}
    {g : JFrame} (hg : g.method = m) (hsize : g.locals.size = c.maxLocals) (hlocked : g.locked = none) (hentered : g.entered = []) {rest : List Value} (hstack : g.stack = .ref sa :: .ref a :: .ref a :: rest)
    (hd6 : decode c.code g.pc = .ok (.invokespecial ic, 3)) (hd9 : decode c.code (g.pc + 3) = .ok (.athrow, 1)) (hout : ∀ x ∈ c.exceptionTable.toList, covers x (g.pc + 3) = false)
    (hRframes : 5 < R.frames) (hRlocals : 2 * g.monitorRoom + ((Value.ref a :: rest).map fun v => v.category).sum + 81 ≤ R.locals) (hlocks : meth.locks = false) :
    ∃ U : State, Steps p.tables e below (T0.setTop g) U ∧ U.status = .running ∧ Ended U below (.threw a) ∧ s.WarmedH U.vm ∧ s.sameButNew ({ U with vm := s.vm } : State) locs cells slots ∧
      ∃ ce : Cell, U.heap[a]? = some ce ∧ ce.vm = .none ∧ s.vm.findClass nsN = some ce.cls := by
  subst hlocs
  have howns : e.platform.frameOwnsMonitors = true := by rw [X.admits.platform]
  have hfin : e.platform.finalization = false := by rw [X.admits.platform]
  have hpl : e.platform.magicAccessors = ({} : Platform).magicAccessors := by rw [X.admits.platform]
  have a' : ∀ w, w ∈ bx_ownN own ic → w.holds args s none s [] = true := fun w hw => h w hw
  obtain ⟨T, Z0, L, -, Y⟩ := ThrowableC.of_atoms (args := args) howns hfin hpl (fun w hw => h w (by simp [bx_ownN, hw]))
  obtain ⟨Z, M, LZ, LM, hnZ⟩ := Init0T.ofS_atoms (args := args) hpl L Y (fun w hw => h w (by simp [bx_ownN, hw]))
  obtain ⟨P0, L0, hP0m, hP0s⟩ := PassC.ofS_atoms (args := args) (s := s) hpl (X := "java/util/NoSuchElementException") (Y := "java/lang/RuntimeException") (index := 13) (bytes := prog_12_method_4_code) (by decide) (by decide) ns_0 ns_1 ns_2 ns_5 (fun w hw => h w (by simp [bx_ownN, hw]))
  obtain ⟨P1, Ps, hlen, L1, hL, hP1m, hlink1, hlink⟩ := Bundle.chainS (args := args) hpl hnZ ["java/lang/Exception"] "java/lang/RuntimeException" (by decide) (by decide) (fun w hw => h w (by simp [bx_ownN, hw]))
  have hsup : P0.sup = P1.m := Option.some.inj (hP0s.symm.trans hP1m)
  have hfound : s.vm.findClass "java/util/NoSuchElementException" = some P0.m.cls := findClass_of_methodNamed hP0m
  cases Option.some.inj (hfX.symm.trans hfound)
  obtain ⟨c1, kX', hc1, hk, hord, -, -, hn6⟩ := Cond.instantiable_spec (a' (.instantiable "java/util/NoSuchElementException" 6) (by simp [bx_ownN]))
  cases Option.some.inj (hc1.symm.trans hfound)
  cases Option.some.inj (hkX.symm.trans hk)
  have sel : ∀ (y : MethodName) (k : MethodId), Cond.selects "java/util/NoSuchElementException" y y ∈ bx_ownN own ic → s.methodNamed? y = some k → (y.cls ≠ "java/lang/invoke/MethodHandle" ∧ y.cls ≠ "java/lang/invoke/VarHandle") → selectMethod e.platform s.vm P0.m.cls k = .method k := by
    intro y k hy hn hne
    obtain ⟨c2, r2, m2, q1, q2, q3, q4, -⟩ := Cond.selects_spec (a' _ hy)
    cases Option.some.inj (q1.symm.trans hfound)
    cases Option.some.inj (q2.symm.trans (State.methodFound?_of_named hn hne))
    cases Option.some.inj (q3.symm.trans hn)
    rw [Launch.admits_selectMethod X.admits]; exact q4
  have hsel0 : selectMethod e.platform s.vm P0.m.cls T.fill0 = .method T.fill0 := sel Bundle.tFill0 _ (by simp [bx_ownN]) Y.fill0 (by decide)
  have hselF : selectMethod e.platform s.vm P0.m.cls T.fill = .method T.fill := sel Bundle.tFill _ (by simp [bx_ownN]) Y.fill (by decide)
  obtain ⟨cellS0, hcS0, hiss⟩ := Y.statics
  obtain ⟨u0, hu0⟩ := Cond.staticRefV Y.unassigned L.unassignedStatic L.statics hcS0 hiss (a' (.isRef (.static Bundle.tN "UNASSIGNED_STACK" Bundle.steD)) (by simp [bx_ownN]))
  obtain ⟨sen, hsen⟩ := Cond.staticRefV Y.sentinel L.sentinelStatic L.statics hcS0 hiss (a' (.isRef (.static Bundle.tN "SUPPRESSED_SENTINEL" Bundle.listD)) (by simp [bx_ownN]))
  obtain ⟨ci198, i198, fB, hk198, hg198, ha198, hsB, -, hnB, htB, hffB⟩ := Cond.ownField (t := .object "java/lang/Object") Y.found L.cls (by decide +kernel) (a' (.fieldLink Bundle.tN 198 Bundle.tN "backtrace" "Ljava/lang/Object;") (by simp [bx_ownN])) (a' (.lays Bundle.tN Bundle.tN "backtrace" "Ljava/lang/Object;") (by simp [bx_ownN])) e.platform hpl
  obtain ⟨cellS, hcS', heS, -, hkeep⟩ := X.same.2.2.2.2.2 T.aS cellS0 hcS0
  have hcellS : T0.heap[T.aS]? = some cellS := hcS'
  have hknownS : cellS.vm ≠ .unknown := by
    rw [heS]; intro hu
    rw [show cellS0.vm = .unknown from hu] at hiss
    cases hiss
  have hneS : T.aS ≠ a := Nat.ne_of_lt (Nat.lt_of_lt_of_le (Array.getElem?_eq_some_iff.mp hcS0).1 hnew)
  obtain ⟨iM, hffM⟩ := Y.msg
  obtain ⟨tyC, dC, hdC, hdnC⟩ := Cond.laysAt hfound hk Y.cause (a' (.lays "java/util/NoSuchElementException" Bundle.tN "cause" "Ljava/lang/Throwable;") (by simp [bx_ownN]))
  obtain ⟨tyS, dS, hdS, hdnS⟩ := Cond.laysAt hfound hk Y.stack (a' (.lays "java/util/NoSuchElementException" Bundle.tN "stackTrace" Bundle.steD) (by simp [bx_ownN]))
  obtain ⟨tyP, dP, hdP, hdnP⟩ := Cond.laysAt hfound hk Y.supp (a' (.lays "java/util/NoSuchElementException" Bundle.tN "suppressedExceptions" Bundle.listD) (by simp [bx_ownN]))
  obtain ⟨tyM, dM, hdM, hdnM⟩ := Cond.laysAt hfound hk hffM (a' (.lays "java/util/NoSuchElementException" Bundle.tN "detailMessage" "Ljava/lang/String;") (by simp [bx_ownN]))
  obtain ⟨tyB, dB, hdB, hdnB⟩ := Cond.laysAt hfound hk hffB (a' (.lays "java/util/NoSuchElementException" Bundle.tN "backtrace" "Ljava/lang/Object;") (by simp [bx_ownN]))
  have bC := Cond.laysApart hdB hdC hdnB hdnC (by rw [hnB, Y.causeName]; decide)
  have bS := Cond.laysApart hdB hdS hdnB hdnS (by rw [hnB, Y.stackName]; decide)
  have bP := Cond.laysApart hdB hdP hdnB hdnP (by rw [hnB, Y.suppName]; decide)
  have hskip : SkipFacts T e.platform s (fun u => u) u0 ((preparedCellV T.toThrowableT (freshCell P0.m.cls kX) a u0 sen).withEntry T0.cur) :=
    ⟨{ ci198 := ci198, i198 := i198, fBack := fB }, ⟨hk198, hg198, ha198, hsB⟩, by
      have := fresh_default (c := P0.m.cls) tyB
      rw [htB] at this
      simpa [preparedCellV, Cell.setSlot, Cell.withEntry, Array.getElem?_setIfInBounds, bC, bS, bP, bC.symm, bS.symm, bP.symm, defaultValue] using this, fun _ _ => rfl⟩
  obtain ⟨tm, methC, cdC, kC, vm₁, hnC, -, -, -, -, -, -, -, hW₁, st1⟩ := Steps.initColdS (tb := p.tables) (e := e) (below := below) (s := s) (U := T0) X.here hexec X.warmed hpl hown (t := Bundle.initS "java/util/NoSuchElementException") rfl rfl (by decide)
    (a' (.methodLink own ic (Bundle.initS "java/util/NoSuchElementException")) (by simp [bx_ownN])) (h (.instanceMethod (Bundle.initS "java/util/NoSuchElementException")) (by simp [bx_ownN, Bundle.passSAtoms])) (bytes := prog_12_method_4_code) (maxL := 2) (h (.code (Bundle.initS "java/util/NoSuchElementException") prog_12_method_4_code 2 none) (by simp [bx_ownN, Bundle.passSAtoms]))
    (f := g) hg (a := a) (msg := .ref sa) (rest := .ref a :: rest) hstack hd6
  cases Option.some.inj (hnC.symm.trans hP0m)
  have X₁ := X.noted hW₁
  obtain ⟨vm₂, X₂, st2⟩ := X₁.ctorMessageOffV hexec (g := { g with stack := .ref a :: rest }) hg hsize T L Z LZ M LM (P0 :: P1 :: Ps)
    (fun P hP => by
      rcases List.mem_cons.mp hP with rfl | hP
      · exact L0
      · rcases List.mem_cons.mp hP with rfl | hP
        · exact L1
        · exact hL P hP) ⟨hsup, hlink1, hlink⟩ (u0 := u0) (sen := sen) (self := a) (msg := .ref sa) rfl (cell := freshCell P0.m.cls kX) (cellS := cellS)
    hcell (fun _ => by simp) (by simp) rfl rfl hsel0 hselF hcellS hneS hknownS (by rw [hkeep _ (fun q => nomatch q)]; exact hu0) (by rw [hkeep _ (fun q => nomatch q)]; exact hsen)
    (Takes.of_laid hk hord tyC (by rw [Y.causeType]; rfl)) (Takes.of_laid hk hord tyS (by rw [Y.stackType]; exact fits_refV_array _ u0)) (Takes.of_laid hk hord tyP (by rw [Y.suppType]; exact fits_refV_object _ sen))
    (Takes.of_laid hk hord tyM (by rw [Y.msgType]; exact fits_refV_object _ ⟨.ref sa, rfl⟩)) Y.objLocals hskip htr [] hd6
    (by simp only [List.length_cons, hlen, List.length_nil]; omega) (by simp only [List.length_cons, hlen, List.length_nil]; omega)
  obtain ⟨hwalk, hrun, hended, hWU, hsame⟩ := X₂.athrowLeaves hexec (g := { g with stack := .ref a :: rest, pc := g.pc + 3 }) hg hlocked hentered hout (a := a) (rest := rest) rfl hd9 hlocks
  have hlt : a < ((T0.setVm vm₁).setVm vm₂).heap.size := (Array.getElem?_eq_some_iff.mp hcell).1
  have hU := heapAt_setCell_self (s := (T0.setVm vm₁).setVm vm₂) (plainBareV T.toThrowableT (freshCell P0.m.cls kX) a u0 sen (.ref sa)) hlt
  refine ⟨_, st1 _ (fun acts => ?_), hrun, hended, hWU, hsame.weaken (fun y hy hlt' => ?_) (Nat.le_refl _) (Nat.le_refl _), _, hU, rfl, hfound⟩
  · rw [doInvoke_state]
    exact st2 _ hwalk
  · exfalso
    have hb : y.base = a := by
      simp only [List.nil_append, List.mem_cons, List.not_mem_nil, or_false] at hy
      rcases hy with rfl | rfl | rfl | rfl | rfl <;> rfl
    rw [hb] at hlt'
    exact Nat.not_lt.mpr hnew hlt'
end BXN
end
section
section BXN2
variable {p : Program} {l : Launch} {e : Env} {R : Room} {s : State} {m : MethodId} {args : Array Value} {below : List Frame} {meth : Method} {c : Code} {H : Heap} {locs : List Loc} {cells slots : Nat} {Q : State → Prop}
variable {mc ms : Nat} {free : Addr → Prop} {A0 A1 : Nat → Prop} {H0 : Heap} {a : Array Value} {ls : Array Slot} {st0 rest : List Value}
variable {Qc : Array Value → State → Outcome → State → Prop} {XC : String → State → State → Prop}
theorem bx_throwN {cc : ByteArray} {pc : Nat} (hexec : p.tables.exec = Jvm.exec) (hb : c.code = cc) (hl : l.stackTraces = false) {own text : String} {ik is ic mc ms sa : Nat} {A : Nat → Prop}
    (hown : s.vm.findClass own = some m.cls)
    (hk : (Cond.classLink own ik nsN).before args s = true) (hini : (Cond.initialized nsN).before args s = true) (hstr : vk_R own is text sa s) (hat : ∀ w ∈ bx_atN own ic, w.before args s = true)
    (hgood : ∀ w ∈ Cond.classLink own ik nsN :: Cond.initialized nsN :: bx_atN own ic, vx_ot w = true)
    (hU : vx_Zq Bundle.tN "UNASSIGNED_STACK" Bundle.steD A s s.heap) (hN : vx_Zq Bundle.tN "SUPPRESSED_SENTINEL" Bundle.listD A s s.heap) (hS : va_S A s.heap H locs) (hsize : ls.size = c.maxLocals)
    (d0 : decode cc pc = .ok (.new ik, 3)) (d3 : decode cc (pc + 3) = .ok (.dup, 1)) (d4 : decode cc (pc + 4) = .ok (.ldc is, 2)) (d6 : decode cc (pc + 6) = .ok (.invokespecial ic, 3)) (d9 : decode cc (pc + 9) = .ok (.athrow, 1))
    (hout : ∀ x ∈ c.exceptionTable.toList, covers x (pc + 9) = false)
    (hRframes : 5 < R.frames) (hRlocals : (rest.map fun v => v.category).sum + 82 ≤ R.locals) (hRcells : cells + 1 ≤ R.cells) (hRslots : slots + 6 ≤ R.slots) (hlocks : meth.locks = false)
    (hx : ∀ t : State, s.vm.Alike t.vm → H.size ≤ t.heap.size → (∀ q : Nat, q < H.size → t.heap[q]? = H[q]?) → XC nsN s t)
    (hf : ∀ z ∈ locs, free z.base) (hc : cells + 1 ≤ mc) (hs : slots + 6 ≤ ms) :
    W p l e R s m args below meth c H locs cells slots (vx_MQ below Qc XC args s mc ms free) (F0 m pc ls rest) := by
  intro T hT X
  have htr : e.platform.stackTraces = false := (show e.platform.stackTraces = l.stackTraces by rw [X.admits.platform]).trans hl
  have Y := vx_rebase X (R' := { frames := R.frames, locals := R.locals, cells := 1, slots := 6 }) (Nat.le_refl _) (Nat.le_refl _) hRcells hRslots
  obtain ⟨s', hA⟩ : ∃ z, z = (T.setVm s.vm).setFrames (.invoking m args :: below) := ⟨_, rfl⟩
  rw [← hA] at Y
  have hvm : s'.vm = s.vm := by rw [hA]; rfl
  have hhp : s'.heap = H := by rw [hA]; exact hT
  have hW0 : s.WarmedH s'.vm := by rw [hvm]; exact State.WarmedH.refl s
  have hat' : ∀ w ∈ bx_atN own ic, w.before args s' = true := fun w hw => vx_ot_at hW0 hvm.symm (hgood w (List.mem_cons_of_mem _ (List.mem_cons_of_mem _ hw))) (hat w hw)
  have hk' : (Cond.classLink own ik nsN).before args s' = true := vx_ot_at hW0 hvm.symm (hgood _ List.mem_cons_self) hk
  have hini' : (Cond.initialized nsN).before args s' = true := vx_ot_at hW0 hvm.symm (hgood _ (List.mem_cons_of_mem _ List.mem_cons_self)) hini
  have hU' : vx_Zq Bundle.tN "UNASSIGNED_STACK" Bundle.steD A s' s'.heap := by rw [hhp]; exact vx_Zq.moved hW0.alike (hU.kept hS.2.1)
  have hN' : vx_Zq Bundle.tN "SUPPRESSED_SENTINEL" Bundle.listD A s' s'.heap := by rw [hhp]; exact vx_Zq.moved hW0.alike (hN.kept hS.2.1)
  have h : ∀ w ∈ bx_ownN own ic, w.before args s' = true := vx_own hat' (vx_isRefq hU'.1) (vx_isRefq hN'.1) hU'.2.word hN'.2.word
  have hown' : s'.vm.findClass own = some m.cls := by rw [hvm]; exact hown
  have hins : (Cond.instantiable nsN 6).before args s' = true := h _ (by simp [bx_ownN, nsN])
  obtain ⟨vm₁, cX, kX, hfX, hkX, -, -, X₁, st1⟩ := Y.newCold hexec (own := own) (C := nsN) (index := ik) (n := 6) hown' hk' hins hini'
    (g := F0 m pc ls rest) rfl (by rw [hb]; exact d0) (Nat.le_refl _) (Nat.le_refl _)
  generalize hT1 : (T.setVm vm₁).pushCell { cls := cX, slots := kX.instanceTypes.map defaultValue, vm := .none } = T1 at X₁ st1
  have hcat : (Value.ref T.heap.size).category = 1 := rfl
  have hcellA : T1.heap[T.heap.size]? = some (freshCell cX kX) := by rw [← hT1]; exact State.heap_pushCell_size _ _
  have d3' : decode c.code (pc + 3) = .ok (.dup, 1) := by rw [hb]; exact d3
  have d4' : decode c.code (pc + 4) = .ok (.ldc is, 2) := by rw [hb]; exact d4
  have hstr' : vk_R own is text sa s' := vk_R.warm hW0 hstr
  obtain ⟨U, hsteps, hrun, hend, hW, hsame, ce, hce, hOvm, hOcls⟩ := bx_ctorN X₁ hexec htr (own := own) (ic := ic) hown' h rfl hfX hkX hcellA (by rw [hhp, hT]; exact Nat.le_refl _) (sa := sa)
    (g := { method := m, pc := pc + 6, locals := ls, stack := .ref sa :: .ref T.heap.size :: .ref T.heap.size :: rest, locked := none }) rfl hsize rfl rfl (rest := rest) rfl
    (by rw [hb]; exact d6) (by rw [hb]; exact d9) hout hRframes (by simp only [List.map_cons, List.sum_cons, hcat]; omega) hlocks
  obtain ⟨f1, f2⟩ := vx_frame hsame
  rw [hhp] at f1 f2
  have hWs : s.WarmedH U.vm := State.WarmedH.trans hW0 hW
  have hcl : s.vm.findClass nsN = some ce.cls := by
    have h9 := hOcls
    rw [hvm] at h9
    exact h9
  have hall : s.sameButNew ({ U with vm := s.vm } : State) locs mc ms := by
    subst hA
    obtain ⟨e1, e2⟩ := hsame
    rw [State.setFrames_setFrames] at e1
    have h2 : (T.setVm s.vm).sameButNew ({ U with vm := s.vm } : State) [] (0 + 1) (0 + 6) := ⟨e1, e2⟩
    have h3 := X.same.trans h2
    rw [List.append_nil] at h3
    exact h3.mono hc hs
  refine ⟨U, ?_, .threw T.heap.size, hrun, hend, Or.inr ⟨T.heap.size, rfl, nsN, ce, locs, hx U hWs.alike f1 (fun q hq => f2 q hq (fun z hz => nomatch hz)), hce, hOvm, hcl, hWs, hall, hf⟩⟩
  refine st1 _ ?_
  show Steps p.tables e below (T1.setTop { method := m, pc := pc + 3, locals := ls, stack := .ref T.heap.size :: rest, locked := none }) _
  jvm_step X₁.here [X₁.here.top, hexec, d3', Value.category]
  exact X₁.ldcString hexec (own := own) (text := text) (index := is) (a := sa) hown' hstr'.1 hstr'.2
    (g := { method := m, pc := pc + 4, locals := ls, stack := .ref T.heap.size :: .ref T.heap.size :: rest, locked := none }) rfl d4' _ hsteps
end BXN2
end
section
theorem sw_out {x : Int32} {n : Nat} (hn : n < 2 ^ 31) (h : ∀ v, v ≤ n → ¬ x = nI v) : x.toInt < 0 ∨ (n : Int) < x.toInt := by
  by_cases a : x < 0
  · left; exact Int32.lt_iff_toInt_lt.mp a
  · obtain ⟨j, hj, e⟩ := nI_of a
    right
    rw [e, nI_toInt hj]
    rcases Nat.lt_or_ge n j with q | q
    · exact Int.ofNat_lt.mpr q
    · exact absurd e (h j q)
def chK (i : Int32) (n : Nat) : Nat := if i < 0 then 1 else if i < nI n then 0 else 1
def lkK (w : Int32) : Nat := if w = nI 0 then 0 else if w = nI 1 then 0 else if w = nI 2 then 0 else if w = nI 3 then 0 else if w = nI 4 then 0 else if w = nI 5 then 0 else if w = nI 6 then 0 else 1
def lkR (w : Int32) (st ck : Nat → Int32) (nc : Int32) (o : Bool) (wl : Int32) (wd : Int64) : Int64 := if w = nI 0 then (hwF st 0 4).toInt64 &&& 4294967295 else if w = nI 1 then (st 4).toInt64 else if w = nI 2 then (if bI (hrF st ck) = 0 then 0 else 1) else if w = nI 3 then nc.toInt64 else if w = nI 4 then wd else if w = nI 5 then (if bI o = 0 then 0 else 1) else if w = nI 6 then wl.toInt64 else 0

set_option maxHeartbeats 4000000 in
set_option maxRecDepth 100000 in
theorem c_X0_change (l : Launch) (h9 : l.stackTraces = false) (dC : Nat → ClassId) (dI : Nat → Nat → Nat) (cA : ClassId) (ad : Nat → Nat) (sz : Nat) (st ck nh tp : Nat → Int32) (tl : Int32) (cb cy : Nat → Int32) (of wl : Int32) (wd : Int64) (n : Nat) (i : Int32) (hn : n ≤ 24) : vx_Met l yX0_change wsX0_change ({ frames := 6, cells := 1, slots := 6, locals := 82 } : Room) (va_Pc [.ref (ad 0), .int i] (fun U => U.heap.size = sz ∧ va_P (dC, dI) vwCl (wX cA ad st ck nh tp tl cb cy (nI n) of wl wd) U.heap ∧ va_K (dC, dI) vwCl [(cA, .int)] U ∧ va_D (fun _ => True) (wX cA ad st ck nh tp tl cb cy (nI n) of wl wd) ∧ bjE (va_A (wX cA ad st ck nh tp tl cb cy (nI n) of wl wd) sz) U U.heap)) (va_Qi (fun (r : Int32) (u : XS) => chK i n = 0 ∧ r = cb i.toNatClampNeg ∧ u = (st, nh, tp, tl, cb, cy, nI n, of, wl, wd)) (aX dC dI cA ad ck (va_A (wX cA ad st ck nh tp tl cb cy (nI n) of wl wd) sz)) (va_A (wX cA ad st ck nh tp tl cb cy (nI n) of wl wd) sz)) (vx_X (fun _ : Unit => True) (fun E _ t => ((chK i n = 1 ∧ E = "java/util/NoSuchElementException")) ∧ aX dC dI cA ad ck (va_A (wX cA ad st ck nh tp tl cb cy (nI n) of wl wd) sz) (st, nh, tp, tl, cb, cy, nI n, of, wl, wd) t) (va_A (wX cA ad st ck nh tp tl cb cy (nI n) of wl wd) sz)) 1 6 (va_A (wX cA ad st ck nh tp tl cb cy (nI n) of wl wd) sz) := by
  refine vx_ofW (cc := cX0_change) (maxL := 2) (ret := (some .int)) (by decide) rfl ?_
  intro p e s m args below meth c s₁ B hml hnt hv
  obtain ⟨rfl, hsz, hP, hK, hD0, hE⟩ := hv
  have hx := B.exec
  have hb := B.bytes
  have hr := B.returns
  have hts := atoms_spec (ws := wsX0_change) B.pre
  have hown : s.vm.findClass RX0 = some m.cls := findClass_of_methodNamed B.named
  have hlocks := B.notSynchronized
  have hin : ∀ w ∈ u_ws RX0 TX0 11, w ∈ wsX0_change := by decide +kernel
  subst hsz
  have hD := hD0.self (sz := s.heap.size)
  generalize hAe : va_A (wX cA ad st ck nh tp tl cb cy (nI n) of wl wd) s.heap.size = A at hD hE ⊢
  have hA : ∀ q : Nat, s.heap.size ≤ q → A q := fun q h => by rw [← hAe]; exact Or.inr h
  obtain ⟨H, locs, hH, hlo, hS⟩ : ∃ (H : Heap) (locs : List Loc), H = s.heap ∧ locs = [] ∧ va_S A s.heap H locs := ⟨s.heap, [], rfl, rfl, va_S.rf⟩
  rw [← hH] at hP
  have hP : va_P (dC, dI) vwCl (wX cA ad st ck nh tp tl cb cy (nI n) of wl wd) H := hP
  have hl := lv_entry ([.ref (ad 0), .int i]) (n := 2) (Nat.le_of_ble_eq_true rfl)
  rw [lg_entry_eq]
  generalize (lg_sl ([.ref (ad 0), .int i]) ++ List.replicate (2 - (lg_sl ([.ref (ad 0), .int i])).length) Slot.unset).toArray = ls at hl ⊢
  have goal : W p l e (headSpec wsX0_change ({ frames := 6, cells := 1, slots := 6, locals := 82 } : Room)).room s m ([.ref (ad 0), .int i] : List Value).toArray below meth c H locs 0 0 (vx_MQ below (va_Qi (fun (r : Int32) (u : XS) => chK i n = 0 ∧ r = cb i.toNatClampNeg ∧ u = (st, nh, tp, tl, cb, cy, nI n, of, wl, wd)) (aX dC dI cA ad ck A) A) (vx_X (fun _ : Unit => True) (fun E _ t => ((chK i n = 1 ∧ E = "java/util/NoSuchElementException")) ∧ aX dC dI cA ad ck A (st, nh, tp, tl, cb, cy, nI n, of, wl, wd) t) A) ([.ref (ad 0), .int i] : List Value).toArray s 1 6 A) (F0 m 0 ls []) := by
    clear hH hlo
    have hl : lv_has ls 2 [(0, .ref (ad 0)), (1, .int i)] := hl
    refine lv_iload_n hx hb dX0_change_0 rfl (lv_at hl 1 rfl) ?_
    refine lv_if_lt (tgt := 12) hx hb dX0_change_1 (by decide) (fun c_1 => ?_) (fun c_1 => ?_)
    · obtain ⟨sa, hsa⟩ := hE.2.2.2 (127, "there is no such change") (by decide +kernel)
      have hgd : ∀ w ∈ (bx_atN RX0 129).filter goodWord, w ∈ wsX0_change := by decide +kernel
      exact bx_throwN (own := RX0) (text := "there is no such change") hx hb h9 hown (hts (.classLink RX0 125 "java/util/NoSuchElementException") (by decide +kernel)) (hts (.initialized "java/util/NoSuchElementException") (by decide +kernel)) hsa (vx_hat (B := bjB) (fun w h => hts w (hgd w h)) (by decide +kernel) (fun w h => va_any (by revert w; decide +kernel) (hE.2.2.1 w h))) (by decide +kernel) hE.1 hE.2.1 hS (hl.1.trans hml.symm) dX0_change_12 dX0_change_15 dX0_change_16 dX0_change_18 dX0_change_21 (fun x hx9 => (hnt x hx9).elim) (Nat.le_of_ble_eq_true rfl) (Nat.le_of_ble_eq_true rfl) (Nat.le_of_ble_eq_true rfl) (Nat.le_of_ble_eq_true rfl) hlocks (fun t hal hz hk => ⟨(), trivial, ⟨⟨by rw [chK, if_pos c_1], rfl⟩, (bj_thr hP hK hD hS hal hz hk).1⟩, (bj_thr hP hK hD hS hal hz hk).2⟩) hS.2.2 (Nat.le_of_ble_eq_true rfl) (Nat.le_of_ble_eq_true rfl)
    · refine lv_iload_n hx hb dX0_change_4 rfl (lv_at hl 1 rfl) ?_
      refine lv_aload_n hx hb dX0_change_5 rfl (lv_at hl 0 rfl) ?_
      refine va_get (D := (dC, dI)) (ci := 0) (v := .int (nI n)) (C := RX0) (T := TX0) (N := 11) hx hb hts hin hown hK hP 0 rfl rfl 7 (by decide) (hts (.fieldLink RX0 64 "BlockJournal" "changes" "I") (by decide +kernel)) (fun _ h9 => h9) rfl dX0_change_6 ?_
      refine lv_icmp_lt (tgt := 22) hx hb dX0_change_9 (by decide) (fun c_9 => ?_) (fun c_9 => ?_)
      · obtain ⟨j, hj, ej⟩ := nI_of c_1
        have hjn : j < n := by
          rw [ej] at c_9
          exact (nI_ltI hj (by omega)).mp c_9
        have hcl : i.toNatClampNeg = j := by rw [ej]; exact nI_clamp hj
        rw [ej] at hl
        refine lv_aload_n hx hb dX0_change_22 rfl (lv_at hl 0 rfl) ?_
        refine va_get (D := (dC, dI)) (ci := 0) (v := .ref (ad 5)) (C := RX0) (T := TX0) (N := 11) hx hb hts hin hown hK hP 0 rfl rfl 5 (by decide) (hts (.fieldLink RX0 22 "BlockJournal" "changeBlocks" "[I") (by decide +kernel)) (fun _ h9 => h9) rfl dX0_change_23 ?_
        refine lv_iload_n hx hb dX0_change_26 rfl (lv_at hl 1 rfl) ?_
        refine va_iald (D := (dC, dI)) hx hb hK hP 5 0 (cA := cA) (n := 24) (f := cb) rfl rfl (i := (nI j)) (vp_in_nI (by omega) (by omega)) dX0_change_27 ?_
        refine bj_i (y := cb j) (congrArg cb (nI_clamp (by omega))) ?_
        have hcode : chK i n = 0 := by rw [chK, if_neg c_1, if_pos c_9]
        have hpost : ((st, nh, tp, tl, cb, cy, nI n, of, wl, wd) : XS) = (st, nh, tp, tl, cb, cy, nI n, of, wl, wd) := rfl
        refine W.widen (k := 1) (n := 6) (Nat.zero_le _) (Nat.zero_le _) ?_
        refine vx_ret ?_
        have hres : cb j = cb i.toNatClampNeg := by rw [hcl]
        exact W.iret (v := cb j) hx hb hr (fun t ht hW => ⟨⟨_, (st, nh, tp, tl, cb, cy, nI n, of, wl, wd), rfl, ⟨hcode, hres, hpost⟩, by rw [ht]; exact hP, va_K.moved hW.alike hK, hD⟩, hS.F ht⟩) hS.2.2 dX0_change_28
      · obtain ⟨sa, hsa⟩ := hE.2.2.2 (127, "there is no such change") (by decide +kernel)
        have hgd : ∀ w ∈ (bx_atN RX0 129).filter goodWord, w ∈ wsX0_change := by decide +kernel
        exact bx_throwN (own := RX0) (text := "there is no such change") hx hb h9 hown (hts (.classLink RX0 125 "java/util/NoSuchElementException") (by decide +kernel)) (hts (.initialized "java/util/NoSuchElementException") (by decide +kernel)) hsa (vx_hat (B := bjB) (fun w h => hts w (hgd w h)) (by decide +kernel) (fun w h => va_any (by revert w; decide +kernel) (hE.2.2.1 w h))) (by decide +kernel) hE.1 hE.2.1 hS (hl.1.trans hml.symm) dX0_change_12 dX0_change_15 dX0_change_16 dX0_change_18 dX0_change_21 (fun x hx9 => (hnt x hx9).elim) (Nat.le_of_ble_eq_true rfl) (Nat.le_of_ble_eq_true rfl) (Nat.le_of_ble_eq_true rfl) (Nat.le_of_ble_eq_true rfl) hlocks (fun t hal hz hk => ⟨(), trivial, ⟨⟨by rw [chK, if_neg c_1, if_neg c_9], rfl⟩, (bj_thr hP hK hD hS hal hz hk).1⟩, (bj_thr hP hK hD hS hal hz hk).2⟩) hS.2.2 (Nat.le_of_ble_eq_true rfl) (Nat.le_of_ble_eq_true rfl)
  rw [hH, hlo] at goal
  exact goal

set_option maxHeartbeats 4000000 in
set_option maxRecDepth 100000 in
theorem c_X0_look (l : Launch) (h9 : l.stackTraces = false) (dC : Nat → ClassId) (dI : Nat → Nat → Nat) (cA : ClassId) (ad : Nat → Nat) (sz : Nat) (st ck nh tp : Nat → Int32) (tl : Int32) (cb cy : Nat → Int32) (nc wl : Int32) (wd : Int64) (o : Bool) (w : Int32)  : vx_Met l yX0_look wsX0_look ({ frames := 6, cells := 1, slots := 6, locals := 82 } : Room) (va_Pc [.ref (ad 0), .int w] (fun U => U.heap.size = sz ∧ va_P (dC, dI) vwCl (wX cA ad st ck nh tp tl cb cy nc (bI o) wl wd) U.heap ∧ va_K (dC, dI) vwCl [(cA, .int)] U ∧ va_D (fun _ => True) (wX cA ad st ck nh tp tl cb cy nc (bI o) wl wd) ∧ bjE (va_A (wX cA ad st ck nh tp tl cb cy nc (bI o) wl wd) sz) U U.heap)) (va_Ql (fun (r : Int64) (u : XS) => lkK w = 0 ∧ r = lkR w st ck nc o wl wd ∧ u = (st, nh, tp, tl, cb, cy, nc, bI o, wl, wd)) (aX dC dI cA ad ck (va_A (wX cA ad st ck nh tp tl cb cy nc (bI o) wl wd) sz)) (va_A (wX cA ad st ck nh tp tl cb cy nc (bI o) wl wd) sz)) (vx_X (fun _ : Unit => True) (fun E _ t => ((lkK w = 1 ∧ E = "java/util/NoSuchElementException")) ∧ aX dC dI cA ad ck (va_A (wX cA ad st ck nh tp tl cb cy nc (bI o) wl wd) sz) (st, nh, tp, tl, cb, cy, nc, bI o, wl, wd) t) (va_A (wX cA ad st ck nh tp tl cb cy nc (bI o) wl wd) sz)) 1 6 (va_A (wX cA ad st ck nh tp tl cb cy nc (bI o) wl wd) sz) := by
  refine vx_ofW (cc := cX0_look) (maxL := 2) (ret := (some .long)) (by decide) rfl ?_
  intro p e s m args below meth c s₁ B hml hnt hv
  obtain ⟨rfl, hsz, hP, hK, hD0, hE⟩ := hv
  have hx := B.exec
  have hb := B.bytes
  have hr := B.returns
  have hts := atoms_spec (ws := wsX0_look) B.pre
  have hown : s.vm.findClass RX0 = some m.cls := findClass_of_methodNamed B.named
  have hlocks := B.notSynchronized
  have hin : ∀ w ∈ u_ws RX0 TX0 11, w ∈ wsX0_look := by decide +kernel
  subst hsz
  have hD := hD0.self (sz := s.heap.size)
  generalize hAe : va_A (wX cA ad st ck nh tp tl cb cy nc (bI o) wl wd) s.heap.size = A at hD hE ⊢
  have hA : ∀ q : Nat, s.heap.size ≤ q → A q := fun q h => by rw [← hAe]; exact Or.inr h
  obtain ⟨H, locs, hH, hlo, hS⟩ : ∃ (H : Heap) (locs : List Loc), H = s.heap ∧ locs = [] ∧ va_S A s.heap H locs := ⟨s.heap, [], rfl, rfl, va_S.rf⟩
  rw [← hH] at hP
  have hP : va_P (dC, dI) vwCl (wX cA ad st ck nh tp tl cb cy nc (bI o) wl wd) H := hP
  have hl := lv_entry ([.ref (ad 0), .int w]) (n := 2) (Nat.le_of_ble_eq_true rfl)
  rw [lg_entry_eq]
  generalize (lg_sl ([.ref (ad 0), .int w]) ++ List.replicate (2 - (lg_sl ([.ref (ad 0), .int w])).length) Slot.unset).toArray = ls at hl ⊢
  have goal : W p l e (headSpec wsX0_look ({ frames := 6, cells := 1, slots := 6, locals := 82 } : Room)).room s m ([.ref (ad 0), .int w] : List Value).toArray below meth c H locs 0 0 (vx_MQ below (va_Ql (fun (r : Int64) (u : XS) => lkK w = 0 ∧ r = lkR w st ck nc o wl wd ∧ u = (st, nh, tp, tl, cb, cy, nc, bI o, wl, wd)) (aX dC dI cA ad ck A) A) (vx_X (fun _ : Unit => True) (fun E _ t => ((lkK w = 1 ∧ E = "java/util/NoSuchElementException")) ∧ aX dC dI cA ad ck A (st, nh, tp, tl, cb, cy, nc, bI o, wl, wd) t) A) ([.ref (ad 0), .int w] : List Value).toArray s 1 6 A) (F0 m 0 ls []) := by
    clear hH hlo
    have hl : lv_has ls 2 [(0, .ref (ad 0)), (1, .int w)] := hl
    refine lv_iload_n hx hb dX0_look_0 rfl (lv_at hl 1 rfl) ?_
    by_cases e_0 : w = nI 0
    · refine lv_tableIn (off := 43) (tgt := 44) hx hb dX0_look_1 (by rw [e_0]; decide) (by rw [e_0]; decide) (by rw [e_0]; rfl) (by decide) ?_
      refine lv_aload_n hx hb dX0_look_44 rfl (lv_at hl 0 rfl) ?_
      refine lv_iconst (v := nI 0) hx hb dX0_look_45 (by decide) ?_
      refine bj_call (v := .int (hwF st 0 4)) (W.runV (As := [.int (nI 0)]) (rest := []) ⟨hx, hb, hml, hown, hts⟩ (c_X0_headWord l dC dI cA ad st ck nh tp tl cb cy nc (bI o) wl wd 0 (by decide)) (cwV 1 hts gX0_look_X0_headWord rfl rfl rfl (by decide +kernel) ⟨Nat.le_of_ble_eq_true rfl, Nat.le_of_ble_eq_true rfl⟩) ⟨fun a U g mk q => by obtain ⟨q0, qP, qK⟩ := q; exact ⟨q0, qP, va_K.moved (u := U) (U := U.calling g mk a) (Vm.Alike.refl U.vm) qK⟩, va_recv hK hP (ci := 0) (q0 := 0) rfl rfl, fun U hU hW => ⟨rfl, by rw [hU]; exact hP, va_K.moved hW.alike hK⟩⟩ rfl rfl hl.1 rfl (lv_room (Nat.le_of_ble_eq_true rfl)) dX0_look_46 ⟨Nat.le_of_ble_eq_true rfl, Nat.le_of_ble_eq_true rfl⟩) ?_
      refine lv_i2l hx hb dX0_look_49 rfl ?_
      refine lv_ldc2 hx hb hown (hts (.constantLong RX0 130 (4294967295)) (by decide +kernel)) dX0_look_50 ?_
      refine lv_land hx hb dX0_look_53 ?_
      have hcode : lkK w = 0 := by rw [lkK, if_pos e_0]
      have hpost : ((st, nh, tp, tl, cb, cy, nc, bI o, wl, wd) : XS) = (st, nh, tp, tl, cb, cy, nc, bI o, wl, wd) := rfl
      refine W.widen (k := 1) (n := 6) (Nat.zero_le _) (Nat.zero_le _) ?_
      refine vx_ret ?_
      have hres : ((hwF st 0 4).toInt64) &&& (4294967295) = lkR w st ck nc o wl wd := by rw [lkR, if_pos e_0]
      exact W.lret (v := ((hwF st 0 4).toInt64) &&& (4294967295)) hx hb hr (fun t ht hW => ⟨⟨_, (st, nh, tp, tl, cb, cy, nc, bI o, wl, wd), rfl, ⟨hcode, hres, hpost⟩, by rw [ht]; exact hP, va_K.moved hW.alike hK, hD⟩, hS.F ht⟩) hS.2.2 dX0_look_54
    · by_cases e_1 : w = nI 1
      · refine lv_tableIn (off := 54) (tgt := 55) hx hb dX0_look_1 (by rw [e_1]; decide) (by rw [e_1]; decide) (by rw [e_1]; rfl) (by decide) ?_
        refine lv_aload_n hx hb dX0_look_55 rfl (lv_at hl 0 rfl) ?_
        refine bj_call (v := .int (st 4)) (W.runV (As := []) (rest := []) ⟨hx, hb, hml, hown, hts⟩ (c_X0_headCount l dC dI cA ad st ck nh tp tl cb cy nc (bI o) wl wd) (cwV 0 hts gX0_look_X0_headCount rfl rfl rfl (by decide +kernel) ⟨Nat.le_of_ble_eq_true rfl, Nat.le_of_ble_eq_true rfl⟩) ⟨fun a U g mk q => by obtain ⟨q0, qP, qK⟩ := q; exact ⟨q0, qP, va_K.moved (u := U) (U := U.calling g mk a) (Vm.Alike.refl U.vm) qK⟩, va_recv hK hP (ci := 0) (q0 := 0) rfl rfl, fun U hU hW => ⟨rfl, by rw [hU]; exact hP, va_K.moved hW.alike hK⟩⟩ rfl rfl hl.1 rfl (lv_room (Nat.le_of_ble_eq_true rfl)) dX0_look_56 ⟨Nat.le_of_ble_eq_true rfl, Nat.le_of_ble_eq_true rfl⟩) ?_
        refine lv_i2l hx hb dX0_look_59 rfl ?_
        have hcode : lkK w = 0 := by rw [lkK, if_neg e_0, if_pos e_1]
        have hpost : ((st, nh, tp, tl, cb, cy, nc, bI o, wl, wd) : XS) = (st, nh, tp, tl, cb, cy, nc, bI o, wl, wd) := rfl
        refine W.widen (k := 1) (n := 6) (Nat.zero_le _) (Nat.zero_le _) ?_
        refine vx_ret ?_
        have hres : (st 4).toInt64 = lkR w st ck nc o wl wd := by rw [lkR, if_neg e_0, if_pos e_1]
        exact W.lret (v := (st 4).toInt64) hx hb hr (fun t ht hW => ⟨⟨_, (st, nh, tp, tl, cb, cy, nc, bI o, wl, wd), rfl, ⟨hcode, hres, hpost⟩, by rw [ht]; exact hP, va_K.moved hW.alike hK, hD⟩, hS.F ht⟩) hS.2.2 dX0_look_60
      · by_cases e_2 : w = nI 2
        · refine lv_tableIn (off := 60) (tgt := 61) hx hb dX0_look_1 (by rw [e_2]; decide) (by rw [e_2]; decide) (by rw [e_2]; rfl) (by decide) ?_
          refine lv_aload_n hx hb dX0_look_61 rfl (lv_at hl 0 rfl) ?_
          refine bj_call (v := .int (bI (hrF st ck))) (W.runV (As := []) (rest := []) ⟨hx, hb, hml, hown, hts⟩ (c_X0_headIsRight l dC dI cA ad st ck nh tp tl cb cy nc (bI o) wl wd) (cwV 0 hts gX0_look_X0_headIsRight rfl rfl rfl (by decide +kernel) ⟨Nat.le_of_ble_eq_true rfl, Nat.le_of_ble_eq_true rfl⟩) ⟨fun a U g mk q => by obtain ⟨q0, qP, qK⟩ := q; exact ⟨q0, qP, va_K.moved (u := U) (U := U.calling g mk a) (Vm.Alike.refl U.vm) qK⟩, va_recv hK hP (ci := 0) (q0 := 0) rfl rfl, fun U hU hW => ⟨rfl, by rw [hU]; exact hP, va_K.moved hW.alike hK⟩⟩ rfl rfl hl.1 rfl (lv_room (Nat.le_of_ble_eq_true rfl)) dX0_look_62 ⟨Nat.le_of_ble_eq_true rfl, Nat.le_of_ble_eq_true rfl⟩) ?_
          refine lv_if_eq (tgt := 72) hx hb dX0_look_65 (by decide) (fun c_65 => ?_) (fun c_65 => ?_)
          · refine lv_lconst (v := 0) hx hb dX0_look_72 (by decide) ?_
            have hcode : lkK w = 0 := by rw [lkK, if_neg e_0, if_neg e_1, if_pos e_2]
            have hpost : ((st, nh, tp, tl, cb, cy, nc, bI o, wl, wd) : XS) = (st, nh, tp, tl, cb, cy, nc, bI o, wl, wd) := rfl
            refine W.widen (k := 1) (n := 6) (Nat.zero_le _) (Nat.zero_le _) ?_
            refine vx_ret ?_
            have hres : 0 = lkR w st ck nc o wl wd := by rw [lkR, if_neg e_0, if_neg e_1, if_pos e_2, if_pos c_65]
            exact W.lret (v := 0) hx hb hr (fun t ht hW => ⟨⟨_, (st, nh, tp, tl, cb, cy, nc, bI o, wl, wd), rfl, ⟨hcode, hres, hpost⟩, by rw [ht]; exact hP, va_K.moved hW.alike hK, hD⟩, hS.F ht⟩) hS.2.2 dX0_look_73
          · refine lv_lconst (v := 1) hx hb dX0_look_68 (by decide) ?_
            refine lv_goto (tgt := 73) hx hb dX0_look_69 (by decide) ?_
            have hcode : lkK w = 0 := by rw [lkK, if_neg e_0, if_neg e_1, if_pos e_2]
            have hpost : ((st, nh, tp, tl, cb, cy, nc, bI o, wl, wd) : XS) = (st, nh, tp, tl, cb, cy, nc, bI o, wl, wd) := rfl
            refine W.widen (k := 1) (n := 6) (Nat.zero_le _) (Nat.zero_le _) ?_
            refine vx_ret ?_
            have hres : 1 = lkR w st ck nc o wl wd := by rw [lkR, if_neg e_0, if_neg e_1, if_pos e_2, if_neg c_65]
            exact W.lret (v := 1) hx hb hr (fun t ht hW => ⟨⟨_, (st, nh, tp, tl, cb, cy, nc, bI o, wl, wd), rfl, ⟨hcode, hres, hpost⟩, by rw [ht]; exact hP, va_K.moved hW.alike hK, hD⟩, hS.F ht⟩) hS.2.2 dX0_look_73
        · by_cases e_3 : w = nI 3
          · refine lv_tableIn (off := 73) (tgt := 74) hx hb dX0_look_1 (by rw [e_3]; decide) (by rw [e_3]; decide) (by rw [e_3]; rfl) (by decide) ?_
            refine lv_aload_n hx hb dX0_look_74 rfl (lv_at hl 0 rfl) ?_
            refine va_get (D := (dC, dI)) (ci := 0) (v := .int nc) (C := RX0) (T := TX0) (N := 11) hx hb hts hin hown hK hP 0 rfl rfl 7 (by decide) (hts (.fieldLink RX0 64 "BlockJournal" "changes" "I") (by decide +kernel)) (fun _ h9 => h9) rfl dX0_look_75 ?_
            refine lv_i2l hx hb dX0_look_78 rfl ?_
            have hcode : lkK w = 0 := by rw [lkK, if_neg e_0, if_neg e_1, if_neg e_2, if_pos e_3]
            have hpost : ((st, nh, tp, tl, cb, cy, nc, bI o, wl, wd) : XS) = (st, nh, tp, tl, cb, cy, nc, bI o, wl, wd) := rfl
            refine W.widen (k := 1) (n := 6) (Nat.zero_le _) (Nat.zero_le _) ?_
            refine vx_ret ?_
            have hres : nc.toInt64 = lkR w st ck nc o wl wd := by rw [lkR, if_neg e_0, if_neg e_1, if_neg e_2, if_pos e_3]
            exact W.lret (v := nc.toInt64) hx hb hr (fun t ht hW => ⟨⟨_, (st, nh, tp, tl, cb, cy, nc, bI o, wl, wd), rfl, ⟨hcode, hres, hpost⟩, by rw [ht]; exact hP, va_K.moved hW.alike hK, hD⟩, hS.F ht⟩) hS.2.2 dX0_look_79
          · by_cases e_4 : w = nI 4
            · refine lv_tableIn (off := 79) (tgt := 80) hx hb dX0_look_1 (by rw [e_4]; decide) (by rw [e_4]; decide) (by rw [e_4]; rfl) (by decide) ?_
              refine lv_aload_n hx hb dX0_look_80 rfl (lv_at hl 0 rfl) ?_
              refine va_get (D := (dC, dI)) (ci := 0) (v := .long wd) (C := RX0) (T := TX0) (N := 11) hx hb hts hin hown hK hP 0 rfl rfl 10 (by decide) (hts (.fieldLink RX0 132 "BlockJournal" "writesDone" "J") (by decide +kernel)) (fun _ h9 => h9) rfl dX0_look_81 ?_
              have hcode : lkK w = 0 := by rw [lkK, if_neg e_0, if_neg e_1, if_neg e_2, if_neg e_3, if_pos e_4]
              have hpost : ((st, nh, tp, tl, cb, cy, nc, bI o, wl, wd) : XS) = (st, nh, tp, tl, cb, cy, nc, bI o, wl, wd) := rfl
              refine W.widen (k := 1) (n := 6) (Nat.zero_le _) (Nat.zero_le _) ?_
              refine vx_ret ?_
              have hres : wd = lkR w st ck nc o wl wd := by rw [lkR, if_neg e_0, if_neg e_1, if_neg e_2, if_neg e_3, if_pos e_4]
              exact W.lret (v := wd) hx hb hr (fun t ht hW => ⟨⟨_, (st, nh, tp, tl, cb, cy, nc, bI o, wl, wd), rfl, ⟨hcode, hres, hpost⟩, by rw [ht]; exact hP, va_K.moved hW.alike hK, hD⟩, hS.F ht⟩) hS.2.2 dX0_look_84
            · by_cases e_5 : w = nI 5
              · refine lv_tableIn (off := 84) (tgt := 85) hx hb dX0_look_1 (by rw [e_5]; decide) (by rw [e_5]; decide) (by rw [e_5]; rfl) (by decide) ?_
                refine lv_aload_n hx hb dX0_look_85 rfl (lv_at hl 0 rfl) ?_
                refine va_get (D := (dC, dI)) (ci := 0) (v := .int (bI o)) (C := RX0) (T := TX0) (N := 11) hx hb hts hin hown hK hP 0 rfl rfl 8 (by decide) (hts (.fieldLink RX0 85 "BlockJournal" "off" "Z") (by decide +kernel)) (fun _ h9 => h9) rfl dX0_look_86 ?_
                refine lv_if_eq (tgt := 96) hx hb dX0_look_89 (by decide) (fun c_89 => ?_) (fun c_89 => ?_)
                · refine lv_lconst (v := 0) hx hb dX0_look_96 (by decide) ?_
                  have hcode : lkK w = 0 := by rw [lkK, if_neg e_0, if_neg e_1, if_neg e_2, if_neg e_3, if_neg e_4, if_pos e_5]
                  have hpost : ((st, nh, tp, tl, cb, cy, nc, bI o, wl, wd) : XS) = (st, nh, tp, tl, cb, cy, nc, bI o, wl, wd) := rfl
                  refine W.widen (k := 1) (n := 6) (Nat.zero_le _) (Nat.zero_le _) ?_
                  refine vx_ret ?_
                  have hres : 0 = lkR w st ck nc o wl wd := by rw [lkR, if_neg e_0, if_neg e_1, if_neg e_2, if_neg e_3, if_neg e_4, if_pos e_5, if_pos c_89]
                  exact W.lret (v := 0) hx hb hr (fun t ht hW => ⟨⟨_, (st, nh, tp, tl, cb, cy, nc, bI o, wl, wd), rfl, ⟨hcode, hres, hpost⟩, by rw [ht]; exact hP, va_K.moved hW.alike hK, hD⟩, hS.F ht⟩) hS.2.2 dX0_look_97
                · refine lv_lconst (v := 1) hx hb dX0_look_92 (by decide) ?_
                  refine lv_goto (tgt := 97) hx hb dX0_look_93 (by decide) ?_
                  have hcode : lkK w = 0 := by rw [lkK, if_neg e_0, if_neg e_1, if_neg e_2, if_neg e_3, if_neg e_4, if_pos e_5]
                  have hpost : ((st, nh, tp, tl, cb, cy, nc, bI o, wl, wd) : XS) = (st, nh, tp, tl, cb, cy, nc, bI o, wl, wd) := rfl
                  refine W.widen (k := 1) (n := 6) (Nat.zero_le _) (Nat.zero_le _) ?_
                  refine vx_ret ?_
                  have hres : 1 = lkR w st ck nc o wl wd := by rw [lkR, if_neg e_0, if_neg e_1, if_neg e_2, if_neg e_3, if_neg e_4, if_pos e_5, if_neg c_89]
                  exact W.lret (v := 1) hx hb hr (fun t ht hW => ⟨⟨_, (st, nh, tp, tl, cb, cy, nc, bI o, wl, wd), rfl, ⟨hcode, hres, hpost⟩, by rw [ht]; exact hP, va_K.moved hW.alike hK, hD⟩, hS.F ht⟩) hS.2.2 dX0_look_97
              · by_cases e_6 : w = nI 6
                · refine lv_tableIn (off := 97) (tgt := 98) hx hb dX0_look_1 (by rw [e_6]; decide) (by rw [e_6]; decide) (by rw [e_6]; rfl) (by decide) ?_
                  refine lv_aload_n hx hb dX0_look_98 rfl (lv_at hl 0 rfl) ?_
                  refine va_get (D := (dC, dI)) (ci := 0) (v := .int wl) (C := RX0) (T := TX0) (N := 11) hx hb hts hin hown hK hP 0 rfl rfl 9 (by decide) (hts (.fieldLink RX0 28 "BlockJournal" "writesLeft" "I") (by decide +kernel)) (fun _ h9 => h9) rfl dX0_look_99 ?_
                  refine lv_i2l hx hb dX0_look_102 rfl ?_
                  have hcode : lkK w = 0 := by rw [lkK, if_neg e_0, if_neg e_1, if_neg e_2, if_neg e_3, if_neg e_4, if_neg e_5, if_pos e_6]
                  have hpost : ((st, nh, tp, tl, cb, cy, nc, bI o, wl, wd) : XS) = (st, nh, tp, tl, cb, cy, nc, bI o, wl, wd) := rfl
                  refine W.widen (k := 1) (n := 6) (Nat.zero_le _) (Nat.zero_le _) ?_
                  refine vx_ret ?_
                  have hres : wl.toInt64 = lkR w st ck nc o wl wd := by rw [lkR, if_neg e_0, if_neg e_1, if_neg e_2, if_neg e_3, if_neg e_4, if_neg e_5, if_pos e_6]
                  exact W.lret (v := wl.toInt64) hx hb hr (fun t ht hW => ⟨⟨_, (st, nh, tp, tl, cb, cy, nc, bI o, wl, wd), rfl, ⟨hcode, hres, hpost⟩, by rw [ht]; exact hP, va_K.moved hW.alike hK, hD⟩, hS.F ht⟩) hS.2.2 dX0_look_103
                · have hsw : ∀ v, v ≤ 6 → ¬ w = nI v := by
                    intro v hv
                    match v, hv with
                    | 0, _ => exact e_0
                    | 1, _ => exact e_1
                    | 2, _ => exact e_2
                    | 3, _ => exact e_3
                    | 4, _ => exact e_4
                    | 5, _ => exact e_5
                    | 6, _ => exact e_6
                    | _ + 7, hv => exact absurd hv (by omega)
                  refine lv_tableOut (tgt := 104) hx hb dX0_look_1 (sw_out (by decide) hsw) (by decide) ?_
                  obtain ⟨sa, hsa⟩ := hE.2.2.2 (136, "what is not 0 .. 6") (by decide +kernel)
                  have hgd : ∀ w ∈ (bx_atN RX0 129).filter goodWord, w ∈ wsX0_look := by decide +kernel
                  exact bx_throwN (own := RX0) (text := "what is not 0 .. 6") hx hb h9 hown (hts (.classLink RX0 125 "java/util/NoSuchElementException") (by decide +kernel)) (hts (.initialized "java/util/NoSuchElementException") (by decide +kernel)) hsa (vx_hat (B := bjB) (fun w h => hts w (hgd w h)) (by decide +kernel) (fun w h => va_any (by revert w; decide +kernel) (hE.2.2.1 w h))) (by decide +kernel) hE.1 hE.2.1 hS (hl.1.trans hml.symm) dX0_look_104 dX0_look_107 dX0_look_108 dX0_look_110 dX0_look_113 (fun x hx9 => (hnt x hx9).elim) (Nat.le_of_ble_eq_true rfl) (Nat.le_of_ble_eq_true rfl) (Nat.le_of_ble_eq_true rfl) (Nat.le_of_ble_eq_true rfl) hlocks (fun t hal hz hk => ⟨(), trivial, ⟨⟨by rw [lkK, if_neg e_0, if_neg e_1, if_neg e_2, if_neg e_3, if_neg e_4, if_neg e_5, if_neg e_6], rfl⟩, (bj_thr hP hK hD hS hal hz hk).1⟩, (bj_thr hP hK hD hS hal hz hk).2⟩) hS.2.2 (Nat.le_of_ble_eq_true rfl) (Nat.le_of_ble_eq_true rfl)
  rw [hH, hlo] at goal
  exact goal
end
section
/-- seven addresses -/
def adF (x q1 q2 q3 q4 q5 q6 : Nat) : Nat → Nat := fun k => match k with
  | 0 => x
  | 1 => q1
  | 2 => q2
  | 3 => q3
  | 4 => q4
  | 5 => q5
  | _ => q6
theorem bj_new0 (N : Nat) (cA : ClassId) : vp_cell cA (N, .inl (fun _ => 0)) = arrV cA N (fun _ => defaultValue .int) := rfl
/-- the row of check steps, its first i places -/
def ckF (i : Nat) : Nat → Int32 := fun j => if j < i then cnF 8 (nI j) else 0
theorem ckF_0 : ckF 0 = fun _ => 0 := by funext j; simp [ckF]
theorem ckF_up (i : Nat) : upd (ckF i) i (cnF 8 (nI i)) = ckF (i + 1) := by
  funext j
  simp only [upd, ckF]
  by_cases h : j = i
  · rw [if_pos h, if_pos (by omega), h]
  · rw [if_neg h]
    by_cases h2 : j < i
    · rw [if_pos h2, if_pos (by omega)]
    · rw [if_neg h2, if_neg (by omega)]
theorem cA_one {D : va_G} {cl : List vw_C} {cA cB : ClassId} {ty : FieldType} {s : State} (hp : ∀ C, ty ≠ .object C) (h : va_K D cl ([(cA, ty)] ++ [(cB, ty)]) s) : cA = cB := by
  have h1 := (h.2 0 (cA, ty) rfl).2
  have h2 := (h.2 1 (cB, ty) rfl).2
  cases ty with
  | object C => exact absurd rfl (hp C)
  | _ => exact Option.some.inj (h1.symm.trans h2)

set_option maxHeartbeats 4000000 in
set_option maxRecDepth 100000 in
theorem c_X0_init (l : Launch) (dC : Nat → ClassId) (dI : Nat → Nat → Nat) (cA : ClassId) (x sz : Nat) : Met l yX0_init wsX0_init ({ frames := 1, cells := 6, slots := 8088, locals := 22 } : Room) (va_Pc [.ref x] (fun U => U.heap.size = sz ∧ va_P (dC, dI) vwCl [(x, .inr (0, [.null, .null, .null, .null, .int 0, .null, .null, .int 0, .int 0, .int 0, .long 0]))] U.heap ∧ va_K (dC, dI) vwCl [(cA, .int)] U ∧ va_D (fun _ => True) [(x, .inr (0, [.null, .null, .null, .null, .int 0, .null, .null, .int 0, .int 0, .int 0, .long 0]))])) (va_Qv (fun u : Nat → Nat => u 0 = x) (fun u t => va_P (dC, dI) vwCl (wX cA u (fun _ => 0) (ckF 256) (fun _ => 0) (fun _ => 0) (nI 0) (fun _ => 0) (fun _ => 0) (nI 0) (nI 0) (-1) 0) t.heap ∧ va_K (dC, dI) vwCl [(cA, .int)] t ∧ va_D (va_A [(x, .inr (0, [.null, .null, .null, .null, .int 0, .null, .null, .int 0, .int 0, .int 0, .long 0]))] sz) (wX cA u (fun _ => 0) (ckF 256) (fun _ => 0) (fun _ => 0) (nI 0) (fun _ => 0) (fun _ => 0) (nI 0) (nI 0) (-1) 0)) (va_A [(x, .inr (0, [.null, .null, .null, .null, .int 0, .null, .null, .int 0, .int 0, .int 0, .long 0]))] sz)) 6 8088 (va_A [(x, .inr (0, [.null, .null, .null, .null, .int 0, .null, .null, .int 0, .int 0, .int 0, .long 0]))] sz) := by
  refine Met.ofW (cc := cX0_init) (maxL := 2) (ret := none) (by decide) rfl ?_
  intro p e s m args below meth c s₁ B hml hv
  obtain ⟨rfl, hsz, hP, hK, hD0⟩ := hv
  have hx := B.exec
  have hb := B.bytes
  have hr := B.returns
  have hts := atoms_spec (ws := wsX0_init) B.pre
  have hown : s.vm.findClass RX0 = some m.cls := findClass_of_methodNamed B.named
  have hlocks := B.notSynchronized
  have hin9 : meth.name = "<init>" := (name_of_methodNamed B.named B.method).1
  have hin : ∀ w ∈ u_ws RX0 TX0 11, w ∈ wsX0_init := by decide +kernel
  subst hsz
  have hD := hD0.self (sz := s.heap.size)
  generalize hAe : va_A [(x, .inr (0, [.null, .null, .null, .null, .int 0, .null, .null, .int 0, .int 0, .int 0, .long 0]))] s.heap.size = A at hD ⊢
  have hA : ∀ q : Nat, s.heap.size ≤ q → A q := fun q h => by rw [← hAe]; exact Or.inr h
  have hS : va_S A s.heap s.heap [] := va_S.rf
  have hP : va_P (dC, dI) vwCl [(x, .inr (0, [.null, .null, .null, .null, .int 0, .null, .null, .int 0, .int 0, .int 0, .long 0]))] s.heap := hP
  have hl := lv_entry ([.ref x]) (n := 2) (Nat.le_of_ble_eq_true rfl)
  rw [lg_entry_eq]
  generalize (lg_sl ([.ref x]) ++ List.replicate (2 - (lg_sl ([.ref x])).length) Slot.unset).toArray = ls at hl ⊢
  have hl : lv_has ls 2 [(0, .ref x)] := hl
  refine lv_aload_n hx hb dX0_init_0 rfl (lv_at hl 0 rfl) ?_
  refine W.objInit hx hb hown (hts (.methodLink RX0 1 objectInit) (by decide +kernel)) (hts (.instanceMethod objectInit) (by decide +kernel)) (hts (.code objectInit ⟨#[0xb1]⟩ 1 none) (by decide +kernel)) rfl (by rw [hml]; exact hl.1) rfl dX0_init_1 (Nat.le_of_ble_eq_true rfl) (Nat.le_of_ble_eq_true rfl) ?_
  refine W.eq (g2 := F0 m 4 ls []) rfl ?_
  refine lv_aload_n hx hb dX0_init_4 rfl (lv_at hl 0 rfl) ?_
  refine lv_sipush (v := nI 6144) hx hb dX0_init_5 (by decide) ?_
  refine va_newa (D := (dC, dI)) (atype := .int) hx hb (hts (.arrayClass .int) (by decide +kernel)) (ty := .int) rfl hK hP hD hS hA (n := nI 6144) (N' := 6144) (a0 := (6144, .inl (fun _ => 0))) (bj_new0 6144) (nI_pos (by decide)) (nI_clamp (by decide)) (by decide) (Nat.le_of_ble_eq_true rfl) (Nat.le_of_ble_eq_true rfl) dX0_init_8 (fun q1 cB H hK1 hP hD hS => ?_)
  have ecB := cA_one (by intro C h; cases h) hK1
  subst ecB
  have hP : va_P (dC, dI) vwCl [(x, .inr (0, [.null, .null, .null, .null, .int 0, .null, .null, .int 0, .int 0, .int 0, .long 0])), (q1, .inl (cA, 6144, .inl (fun _ => 0)))] H := hP
  have hD : va_D A [(x, .inr (0, [.null, .null, .null, .null, .int 0, .null, .null, .int 0, .int 0, .int 0, .long 0])), (q1, .inl (cA, 6144, .inl (fun _ => 0)))] := hD
  refine va_putF (D := (dC, dI)) (ci := 0) (v := .ref q1) (ty := .array .int) (C := RX0) (T := TX0) (N := 11) hx hb hts hin tyX0 tyX0_ok nmX0 hown hK hP hD hS 0 rfl rfl 0 (by decide) (hts (.fieldLink RX0 9 "BlockJournal" "store" "[I") (by decide +kernel)) (fun _ h9 => h9) rfl hin9 rfl (by decide +kernel) rfl rfl (Nat.le_of_ble_eq_true rfl) dX0_init_10 (fun H locs hP hD hS => ?_)
  have hP : va_P (dC, dI) vwCl [(x, .inr (0, [.ref q1, .null, .null, .null, .int 0, .null, .null, .int 0, .int 0, .int 0, .long 0])), (q1, .inl (cA, 6144, .inl (fun _ => 0)))] H := hP
  have hD : va_D A [(x, .inr (0, [.ref q1, .null, .null, .null, .int 0, .null, .null, .int 0, .int 0, .int 0, .long 0])), (q1, .inl (cA, 6144, .inl (fun _ => 0)))] := hD
  refine lv_aload_n hx hb dX0_init_13 rfl (lv_at hl 0 rfl) ?_
  refine lv_sipush (v := nI 256) hx hb dX0_init_14 (by decide) ?_
  refine va_newa (D := (dC, dI)) (atype := .int) hx hb (hts (.arrayClass .int) (by decide +kernel)) (ty := .int) rfl hK hP hD hS hA (n := nI 256) (N' := 256) (a0 := (256, .inl (fun _ => 0))) (bj_new0 256) (nI_pos (by decide)) (nI_clamp (by decide)) (by decide) (Nat.le_of_ble_eq_true rfl) (Nat.le_of_ble_eq_true rfl) dX0_init_17 (fun q2 cB H hK1 hP hD hS => ?_)
  have ecB := cA_one (by intro C h; cases h) hK1
  subst ecB
  have hP : va_P (dC, dI) vwCl [(x, .inr (0, [.ref q1, .null, .null, .null, .int 0, .null, .null, .int 0, .int 0, .int 0, .long 0])), (q1, .inl (cA, 6144, .inl (fun _ => 0))), (q2, .inl (cA, 256, .inl (fun _ => 0)))] H := hP
  have hD : va_D A [(x, .inr (0, [.ref q1, .null, .null, .null, .int 0, .null, .null, .int 0, .int 0, .int 0, .long 0])), (q1, .inl (cA, 6144, .inl (fun _ => 0))), (q2, .inl (cA, 256, .inl (fun _ => 0)))] := hD
  refine va_putF (D := (dC, dI)) (ci := 0) (v := .ref q2) (ty := .array .int) (C := RX0) (T := TX0) (N := 11) hx hb hts hin tyX0 tyX0_ok nmX0 hown hK hP hD hS 0 rfl rfl 1 (by decide) (hts (.fieldLink RX0 13 "BlockJournal" "checkSteps" "[I") (by decide +kernel)) (fun _ h9 => h9) rfl hin9 rfl (by decide +kernel) rfl rfl (Nat.le_of_ble_eq_true rfl) dX0_init_19 (fun H locs hP hD hS => ?_)
  have hP : va_P (dC, dI) vwCl [(x, .inr (0, [.ref q1, .ref q2, .null, .null, .int 0, .null, .null, .int 0, .int 0, .int 0, .long 0])), (q1, .inl (cA, 6144, .inl (fun _ => 0))), (q2, .inl (cA, 256, .inl (fun _ => 0)))] H := hP
  have hD : va_D A [(x, .inr (0, [.ref q1, .ref q2, .null, .null, .int 0, .null, .null, .int 0, .int 0, .int 0, .long 0])), (q1, .inl (cA, 6144, .inl (fun _ => 0))), (q2, .inl (cA, 256, .inl (fun _ => 0)))] := hD
  refine lv_aload_n hx hb dX0_init_22 rfl (lv_at hl 0 rfl) ?_
  refine lv_bipush (v := nI 64) hx hb dX0_init_23 (by decide) ?_
  refine va_newa (D := (dC, dI)) (atype := .int) hx hb (hts (.arrayClass .int) (by decide +kernel)) (ty := .int) rfl hK hP hD hS hA (n := nI 64) (N' := 64) (a0 := (64, .inl (fun _ => 0))) (bj_new0 64) (nI_pos (by decide)) (nI_clamp (by decide)) (by decide) (Nat.le_of_ble_eq_true rfl) (Nat.le_of_ble_eq_true rfl) dX0_init_25 (fun q3 cB H hK1 hP hD hS => ?_)
  have ecB := cA_one (by intro C h; cases h) hK1
  subst ecB
  have hP : va_P (dC, dI) vwCl [(x, .inr (0, [.ref q1, .ref q2, .null, .null, .int 0, .null, .null, .int 0, .int 0, .int 0, .long 0])), (q1, .inl (cA, 6144, .inl (fun _ => 0))), (q2, .inl (cA, 256, .inl (fun _ => 0))), (q3, .inl (cA, 64, .inl (fun _ => 0)))] H := hP
  have hD : va_D A [(x, .inr (0, [.ref q1, .ref q2, .null, .null, .int 0, .null, .null, .int 0, .int 0, .int 0, .long 0])), (q1, .inl (cA, 6144, .inl (fun _ => 0))), (q2, .inl (cA, 256, .inl (fun _ => 0))), (q3, .inl (cA, 64, .inl (fun _ => 0)))] := hD
  refine va_putF (D := (dC, dI)) (ci := 0) (v := .ref q3) (ty := .array .int) (C := RX0) (T := TX0) (N := 11) hx hb hts hin tyX0 tyX0_ok nmX0 hown hK hP hD hS 0 rfl rfl 2 (by decide) (hts (.fieldLink RX0 16 "BlockJournal" "newHead" "[I") (by decide +kernel)) (fun _ h9 => h9) rfl hin9 rfl (by decide +kernel) rfl rfl (Nat.le_of_ble_eq_true rfl) dX0_init_27 (fun H locs hP hD hS => ?_)
  have hP : va_P (dC, dI) vwCl [(x, .inr (0, [.ref q1, .ref q2, .ref q3, .null, .int 0, .null, .null, .int 0, .int 0, .int 0, .long 0])), (q1, .inl (cA, 6144, .inl (fun _ => 0))), (q2, .inl (cA, 256, .inl (fun _ => 0))), (q3, .inl (cA, 64, .inl (fun _ => 0)))] H := hP
  have hD : va_D A [(x, .inr (0, [.ref q1, .ref q2, .ref q3, .null, .int 0, .null, .null, .int 0, .int 0, .int 0, .long 0])), (q1, .inl (cA, 6144, .inl (fun _ => 0))), (q2, .inl (cA, 256, .inl (fun _ => 0))), (q3, .inl (cA, 64, .inl (fun _ => 0)))] := hD
  refine lv_aload_n hx hb dX0_init_30 rfl (lv_at hl 0 rfl) ?_
  refine lv_bipush (v := nI 64) hx hb dX0_init_31 (by decide) ?_
  refine va_newa (D := (dC, dI)) (atype := .int) hx hb (hts (.arrayClass .int) (by decide +kernel)) (ty := .int) rfl hK hP hD hS hA (n := nI 64) (N' := 64) (a0 := (64, .inl (fun _ => 0))) (bj_new0 64) (nI_pos (by decide)) (nI_clamp (by decide)) (by decide) (Nat.le_of_ble_eq_true rfl) (Nat.le_of_ble_eq_true rfl) dX0_init_33 (fun q4 cB H hK1 hP hD hS => ?_)
  have ecB := cA_one (by intro C h; cases h) hK1
  subst ecB
  have hP : va_P (dC, dI) vwCl [(x, .inr (0, [.ref q1, .ref q2, .ref q3, .null, .int 0, .null, .null, .int 0, .int 0, .int 0, .long 0])), (q1, .inl (cA, 6144, .inl (fun _ => 0))), (q2, .inl (cA, 256, .inl (fun _ => 0))), (q3, .inl (cA, 64, .inl (fun _ => 0))), (q4, .inl (cA, 64, .inl (fun _ => 0)))] H := hP
  have hD : va_D A [(x, .inr (0, [.ref q1, .ref q2, .ref q3, .null, .int 0, .null, .null, .int 0, .int 0, .int 0, .long 0])), (q1, .inl (cA, 6144, .inl (fun _ => 0))), (q2, .inl (cA, 256, .inl (fun _ => 0))), (q3, .inl (cA, 64, .inl (fun _ => 0))), (q4, .inl (cA, 64, .inl (fun _ => 0)))] := hD
  refine va_putF (D := (dC, dI)) (ci := 0) (v := .ref q4) (ty := .array .int) (C := RX0) (T := TX0) (N := 11) hx hb hts hin tyX0 tyX0_ok nmX0 hown hK hP hD hS 0 rfl rfl 3 (by decide) (hts (.fieldLink RX0 19 "BlockJournal" "tape" "[I") (by decide +kernel)) (fun _ h9 => h9) rfl hin9 rfl (by decide +kernel) rfl rfl (Nat.le_of_ble_eq_true rfl) dX0_init_35 (fun H locs hP hD hS => ?_)
  have hP : va_P (dC, dI) vwCl [(x, .inr (0, [.ref q1, .ref q2, .ref q3, .ref q4, .int 0, .null, .null, .int 0, .int 0, .int 0, .long 0])), (q1, .inl (cA, 6144, .inl (fun _ => 0))), (q2, .inl (cA, 256, .inl (fun _ => 0))), (q3, .inl (cA, 64, .inl (fun _ => 0))), (q4, .inl (cA, 64, .inl (fun _ => 0)))] H := hP
  have hD : va_D A [(x, .inr (0, [.ref q1, .ref q2, .ref q3, .ref q4, .int 0, .null, .null, .int 0, .int 0, .int 0, .long 0])), (q1, .inl (cA, 6144, .inl (fun _ => 0))), (q2, .inl (cA, 256, .inl (fun _ => 0))), (q3, .inl (cA, 64, .inl (fun _ => 0))), (q4, .inl (cA, 64, .inl (fun _ => 0)))] := hD
  refine lv_aload_n hx hb dX0_init_38 rfl (lv_at hl 0 rfl) ?_
  refine lv_bipush (v := nI 24) hx hb dX0_init_39 (by decide) ?_
  refine va_newa (D := (dC, dI)) (atype := .int) hx hb (hts (.arrayClass .int) (by decide +kernel)) (ty := .int) rfl hK hP hD hS hA (n := nI 24) (N' := 24) (a0 := (24, .inl (fun _ => 0))) (bj_new0 24) (nI_pos (by decide)) (nI_clamp (by decide)) (by decide) (Nat.le_of_ble_eq_true rfl) (Nat.le_of_ble_eq_true rfl) dX0_init_41 (fun q5 cB H hK1 hP hD hS => ?_)
  have ecB := cA_one (by intro C h; cases h) hK1
  subst ecB
  have hP : va_P (dC, dI) vwCl [(x, .inr (0, [.ref q1, .ref q2, .ref q3, .ref q4, .int 0, .null, .null, .int 0, .int 0, .int 0, .long 0])), (q1, .inl (cA, 6144, .inl (fun _ => 0))), (q2, .inl (cA, 256, .inl (fun _ => 0))), (q3, .inl (cA, 64, .inl (fun _ => 0))), (q4, .inl (cA, 64, .inl (fun _ => 0))), (q5, .inl (cA, 24, .inl (fun _ => 0)))] H := hP
  have hD : va_D A [(x, .inr (0, [.ref q1, .ref q2, .ref q3, .ref q4, .int 0, .null, .null, .int 0, .int 0, .int 0, .long 0])), (q1, .inl (cA, 6144, .inl (fun _ => 0))), (q2, .inl (cA, 256, .inl (fun _ => 0))), (q3, .inl (cA, 64, .inl (fun _ => 0))), (q4, .inl (cA, 64, .inl (fun _ => 0))), (q5, .inl (cA, 24, .inl (fun _ => 0)))] := hD
  refine va_putF (D := (dC, dI)) (ci := 0) (v := .ref q5) (ty := .array .int) (C := RX0) (T := TX0) (N := 11) hx hb hts hin tyX0 tyX0_ok nmX0 hown hK hP hD hS 0 rfl rfl 5 (by decide) (hts (.fieldLink RX0 22 "BlockJournal" "changeBlocks" "[I") (by decide +kernel)) (fun _ h9 => h9) rfl hin9 rfl (by decide +kernel) rfl rfl (Nat.le_of_ble_eq_true rfl) dX0_init_43 (fun H locs hP hD hS => ?_)
  have hP : va_P (dC, dI) vwCl [(x, .inr (0, [.ref q1, .ref q2, .ref q3, .ref q4, .int 0, .ref q5, .null, .int 0, .int 0, .int 0, .long 0])), (q1, .inl (cA, 6144, .inl (fun _ => 0))), (q2, .inl (cA, 256, .inl (fun _ => 0))), (q3, .inl (cA, 64, .inl (fun _ => 0))), (q4, .inl (cA, 64, .inl (fun _ => 0))), (q5, .inl (cA, 24, .inl (fun _ => 0)))] H := hP
  have hD : va_D A [(x, .inr (0, [.ref q1, .ref q2, .ref q3, .ref q4, .int 0, .ref q5, .null, .int 0, .int 0, .int 0, .long 0])), (q1, .inl (cA, 6144, .inl (fun _ => 0))), (q2, .inl (cA, 256, .inl (fun _ => 0))), (q3, .inl (cA, 64, .inl (fun _ => 0))), (q4, .inl (cA, 64, .inl (fun _ => 0))), (q5, .inl (cA, 24, .inl (fun _ => 0)))] := hD
  refine lv_aload_n hx hb dX0_init_46 rfl (lv_at hl 0 rfl) ?_
  refine lv_sipush (v := nI 1536) hx hb dX0_init_47 (by decide) ?_
  refine va_newa (D := (dC, dI)) (atype := .int) hx hb (hts (.arrayClass .int) (by decide +kernel)) (ty := .int) rfl hK hP hD hS hA (n := nI 1536) (N' := 1536) (a0 := (1536, .inl (fun _ => 0))) (bj_new0 1536) (nI_pos (by decide)) (nI_clamp (by decide)) (by decide) (Nat.le_of_ble_eq_true rfl) (Nat.le_of_ble_eq_true rfl) dX0_init_50 (fun q6 cB H hK1 hP hD hS => ?_)
  have ecB := cA_one (by intro C h; cases h) hK1
  subst ecB
  have hP : va_P (dC, dI) vwCl [(x, .inr (0, [.ref q1, .ref q2, .ref q3, .ref q4, .int 0, .ref q5, .null, .int 0, .int 0, .int 0, .long 0])), (q1, .inl (cA, 6144, .inl (fun _ => 0))), (q2, .inl (cA, 256, .inl (fun _ => 0))), (q3, .inl (cA, 64, .inl (fun _ => 0))), (q4, .inl (cA, 64, .inl (fun _ => 0))), (q5, .inl (cA, 24, .inl (fun _ => 0))), (q6, .inl (cA, 1536, .inl (fun _ => 0)))] H := hP
  have hD : va_D A [(x, .inr (0, [.ref q1, .ref q2, .ref q3, .ref q4, .int 0, .ref q5, .null, .int 0, .int 0, .int 0, .long 0])), (q1, .inl (cA, 6144, .inl (fun _ => 0))), (q2, .inl (cA, 256, .inl (fun _ => 0))), (q3, .inl (cA, 64, .inl (fun _ => 0))), (q4, .inl (cA, 64, .inl (fun _ => 0))), (q5, .inl (cA, 24, .inl (fun _ => 0))), (q6, .inl (cA, 1536, .inl (fun _ => 0)))] := hD
  refine va_putF (D := (dC, dI)) (ci := 0) (v := .ref q6) (ty := .array .int) (C := RX0) (T := TX0) (N := 11) hx hb hts hin tyX0 tyX0_ok nmX0 hown hK hP hD hS 0 rfl rfl 6 (by decide) (hts (.fieldLink RX0 25 "BlockJournal" "changeBytes" "[I") (by decide +kernel)) (fun _ h9 => h9) rfl hin9 rfl (by decide +kernel) rfl rfl (Nat.le_of_ble_eq_true rfl) dX0_init_52 (fun H locs hP hD hS => ?_)
  have hP : va_P (dC, dI) vwCl [(x, .inr (0, [.ref q1, .ref q2, .ref q3, .ref q4, .int 0, .ref q5, .ref q6, .int 0, .int 0, .int 0, .long 0])), (q1, .inl (cA, 6144, .inl (fun _ => 0))), (q2, .inl (cA, 256, .inl (fun _ => 0))), (q3, .inl (cA, 64, .inl (fun _ => 0))), (q4, .inl (cA, 64, .inl (fun _ => 0))), (q5, .inl (cA, 24, .inl (fun _ => 0))), (q6, .inl (cA, 1536, .inl (fun _ => 0)))] H := hP
  have hD : va_D A [(x, .inr (0, [.ref q1, .ref q2, .ref q3, .ref q4, .int 0, .ref q5, .ref q6, .int 0, .int 0, .int 0, .long 0])), (q1, .inl (cA, 6144, .inl (fun _ => 0))), (q2, .inl (cA, 256, .inl (fun _ => 0))), (q3, .inl (cA, 64, .inl (fun _ => 0))), (q4, .inl (cA, 64, .inl (fun _ => 0))), (q5, .inl (cA, 24, .inl (fun _ => 0))), (q6, .inl (cA, 1536, .inl (fun _ => 0)))] := hD
  refine lv_aload_n hx hb dX0_init_55 rfl (lv_at hl 0 rfl) ?_
  refine lv_iconst (v := (-1)) hx hb dX0_init_56 (by decide) ?_
  refine va_put (D := (dC, dI)) (ci := 0) (v := .int (-1)) (ty := .int) (C := RX0) (T := TX0) (N := 11) hx hb hts hin tyX0 tyX0_ok nmX0 hown hK hP hD hS 0 rfl rfl 9 (by decide) (hts (.fieldLink RX0 28 "BlockJournal" "writesLeft" "I") (by decide +kernel)) (fun _ h9 => h9) rfl (by decide +kernel) rfl rfl (Nat.le_of_ble_eq_true rfl) dX0_init_57 (fun H locs hP hD hS => ?_)
  have hP : va_P (dC, dI) vwCl [(x, .inr (0, [.ref q1, .ref q2, .ref q3, .ref q4, .int 0, .ref q5, .ref q6, .int 0, .int 0, .int (-1), .long 0])), (q1, .inl (cA, 6144, .inl (fun _ => 0))), (q2, .inl (cA, 256, .inl (fun _ => 0))), (q3, .inl (cA, 64, .inl (fun _ => 0))), (q4, .inl (cA, 64, .inl (fun _ => 0))), (q5, .inl (cA, 24, .inl (fun _ => 0))), (q6, .inl (cA, 1536, .inl (fun _ => 0)))] H := hP
  have hD : va_D A [(x, .inr (0, [.ref q1, .ref q2, .ref q3, .ref q4, .int 0, .ref q5, .ref q6, .int 0, .int 0, .int (-1), .long 0])), (q1, .inl (cA, 6144, .inl (fun _ => 0))), (q2, .inl (cA, 256, .inl (fun _ => 0))), (q3, .inl (cA, 64, .inl (fun _ => 0))), (q4, .inl (cA, 64, .inl (fun _ => 0))), (q5, .inl (cA, 24, .inl (fun _ => 0))), (q6, .inl (cA, 1536, .inl (fun _ => 0)))] := hD
  refine W.widen (k := 6) (n := 8088) (by decide) (by decide) ?_
  obtain ⟨ad, had⟩ : ∃ ad, ad = adF x q1 q2 q3 q4 q5 q6 := ⟨_, rfl⟩
  have e0 : x = ad 0 := by rw [had]; rfl
  have hP : va_P (dC, dI) vwCl (wX cA ad (fun _ => 0) (fun _ => 0) (fun _ => 0) (fun _ => 0) (nI 0) (fun _ => 0) (fun _ => 0) (nI 0) (nI 0) (-1) 0) H := by rw [had]; exact hP
  have hD : va_D A (wX cA ad (fun _ => 0) (fun _ => 0) (fun _ => 0) (fun _ => 0) (nI 0) (fun _ => 0) (fun _ => 0) (nI 0) (nI 0) (-1) 0) := by rw [had]; exact hD
  rw [e0] at hl
  refine lv_iconst (v := nI 0) hx hb dX0_init_60 (by decide) ?_
  refine lv_istore_n (lv' := [(1, .int (nI 0)), (0, .ref (ad 0))]) hx hb dX0_init_61 rfl hl (by decide) rfl (fun ls hl => ?_)
  have hP : va_P (dC, dI) vwCl (wX cA ad (fun _ => 0) (ckF 0) (fun _ => 0) (fun _ => 0) (nI 0) (fun _ => 0) (fun _ => 0) (nI 0) (nI 0) (-1) 0) H := by rw [ckF_0]; exact hP
  have hD : va_D A (wX cA ad (fun _ => 0) (ckF 0) (fun _ => 0) (fun _ => 0) (nI 0) (fun _ => 0) (fun _ => 0) (nI 0) (nI 0) (-1) 0) := by rw [ckF_0]; exact hD
  have loop_62 : ∀ (k : Nat) (i : Nat), i + k = 256 → ∀ (H : Heap) (locs : List Loc) (ls : Array Slot), va_P (dC, dI) vwCl (wX cA ad (fun _ => 0) (ckF i) (fun _ => 0) (fun _ => 0) (nI 0) (fun _ => 0) (fun _ => 0) (nI 0) (nI 0) (-1) 0) H → va_D A (wX cA ad (fun _ => 0) (ckF i) (fun _ => 0) (fun _ => 0) (nI 0) (fun _ => 0) (fun _ => 0) (nI 0) (nI 0) (-1) 0) → va_S A s.heap H locs → lv_has ls 2 [(0, .ref (ad 0)), (1, .int (nI i))] → W p l e (headSpec wsX0_init ({ frames := 1, cells := 6, slots := 8088, locals := 22 } : Room)).room s m ([.ref x] : List Value).toArray below meth c H locs 6 8088 (MQ below (va_Qv (fun u : Nat → Nat => u 0 = x) (fun u t => va_P (dC, dI) vwCl (wX cA u (fun _ => 0) (ckF 256) (fun _ => 0) (fun _ => 0) (nI 0) (fun _ => 0) (fun _ => 0) (nI 0) (nI 0) (-1) 0) t.heap ∧ va_K (dC, dI) vwCl [(cA, .int)] t ∧ va_D A (wX cA u (fun _ => 0) (ckF 256) (fun _ => 0) (fun _ => 0) (nI 0) (fun _ => 0) (fun _ => 0) (nI 0) (nI 0) (-1) 0)) A) ([.ref x] : List Value).toArray s 6 8088 A) (F0 m 62 ls []) := by
    intro k
    induction k with
    | zero =>
      intro i hk H locs ls hP hD hS hl
      refine lv_iload_n hx hb dX0_init_62 rfl (lv_at hl 1 rfl) ?_
      refine lv_sipush (v := nI 255) hx hb dX0_init_63 (by decide) ?_
      refine lv_icmp_gt (tgt := 85) hx hb dX0_init_66 (by decide) (fun c_66 => ?_) (fun c_66 => ?_)
      · have n_66 : 255 < i := (nI_ltI (by omega) (by omega)).mp c_66
        have ei : i = 256 := by omega
        rw [ei] at hP hD
        exact W.vret hx hb hr (fun t ht hW => ⟨⟨ad, rfl, e0.symm, by rw [ht]; exact hP, va_K.moved hW.alike hK, hD⟩, hS.F ht⟩) hS.2.2 dX0_init_85
      · have n_66 : ¬ 255 < i := fun h => c_66 ((nI_ltI (by omega) (by omega)).mpr h)
        exfalso; omega
    | succ k ih =>
      intro i hk H locs ls hP hD hS hl
      refine lv_iload_n hx hb dX0_init_62 rfl (lv_at hl 1 rfl) ?_
      refine lv_sipush (v := nI 255) hx hb dX0_init_63 (by decide) ?_
      refine lv_icmp_gt (tgt := 85) hx hb dX0_init_66 (by decide) (fun c_66 => ?_) (fun c_66 => ?_)
      · have n_66 : 255 < i := (nI_ltI (by omega) (by omega)).mp c_66
        exfalso; omega
      · have n_66 : ¬ 255 < i := fun h => c_66 ((nI_ltI (by omega) (by omega)).mpr h)
        refine lv_aload_n hx hb dX0_init_69 rfl (lv_at hl 0 rfl) ?_
        refine va_get (D := (dC, dI)) (ci := 0) (v := .ref (ad 2)) (C := RX0) (T := TX0) (N := 11) hx hb hts hin hown hK hP 0 rfl rfl 1 (by decide) (hts (.fieldLink RX0 13 "BlockJournal" "checkSteps" "[I") (by decide +kernel)) (fun _ h9 => h9) rfl dX0_init_70 ?_
        refine lv_iload_n hx hb dX0_init_73 rfl (lv_at hl 1 rfl) ?_
        refine lv_iload_n hx hb dX0_init_74 rfl (lv_at hl 1 rfl) ?_
        refine bj_call (v := .int (cnF 8 (nI i))) (W.runS (As := [.int (nI i)]) (rest := [.int (nI i), .ref (ad 2)]) ⟨hx, hb, hml, hown, hts⟩ (c_X0_eightSteps l (nI i)) (va_cwS 1 hts gX0_init_X0_eightSteps rfl rfl rfl (by decide +kernel) ⟨Nat.le_of_ble_eq_true rfl, Nat.le_of_ble_eq_true rfl⟩) ⟨fun _ _ _ _ q => q, fun _ _ _ => ⟨rfl, trivial⟩⟩ rfl rfl hl.1 rfl (lv_room (Nat.le_of_ble_eq_true rfl)) dX0_init_75 ⟨Nat.le_of_ble_eq_true rfl, Nat.le_of_ble_eq_true rfl⟩) ?_
        refine va_iast (D := (dC, dI)) hx hb hK hP hD hS 2 0 (cA := cA) (n := 256) (f := (ckF i)) rfl rfl (i := (nI i)) (vp_in_nI (by omega) (by omega)) dX0_init_78 (fun H locs hP hD hS => ?_)
        rw [nI_clamp (n := i) (by omega)] at hP hD
        have hP : va_P (dC, dI) vwCl (wX cA ad (fun _ => 0) (upd (ckF i) i (cnF 8 (nI i))) (fun _ => 0) (fun _ => 0) (nI 0) (fun _ => 0) (fun _ => 0) (nI 0) (nI 0) (-1) 0) H := hP
        have hD : va_D A (wX cA ad (fun _ => 0) (upd (ckF i) i (cnF 8 (nI i))) (fun _ => 0) (fun _ => 0) (nI 0) (fun _ => 0) (fun _ => 0) (nI 0) (nI 0) (-1) 0) := hD
        rw [ckF_up] at hP hD
        have hP : va_P (dC, dI) vwCl (wX cA ad (fun _ => 0) (ckF (i + 1)) (fun _ => 0) (fun _ => 0) (nI 0) (fun _ => 0) (fun _ => 0) (nI 0) (nI 0) (-1) 0) H := hP
        have hD : va_D A (wX cA ad (fun _ => 0) (ckF (i + 1)) (fun _ => 0) (fun _ => 0) (nI 0) (fun _ => 0) (fun _ => 0) (nI 0) (nI 0) (-1) 0) := hD
        refine lv_iinc (v := nI (i + 1)) (lv' := [(1, .int (nI (i + 1))), (0, .ref (ad 0))]) hx hb dX0_init_79 hl (k := 1) rfl (nI_add i 1) (by decide) rfl (fun ls hl => ?_)
        refine lv_goto (tgt := 62) hx hb dX0_init_82 (by decide) ?_
        exact ih (i + 1) (by omega) _ _ _ hP hD hS (lv_sub hl [1, 0] rfl)
  exact loop_62 256 0 (by omega) _ _ _ hP hD hS (lv_sub hl [1, 0] rfl)
end
section
/-- the cells of a BlockJournalModel: itself and its five rows -/
def wM (cA : ClassId) (ad : Nat → Nat) (th : Int32) (st tp : Nat → Int32) (tl : Int32) (cb cy : Nat → Int32) (nc : Int32) (dn lf : Int64) (of : Int32) (ro : Nat → Int32) : va_W :=
  [(ad 0, .inr (1, [.int th, .ref (ad 1), .ref (ad 2), .int tl, .ref (ad 3), .ref (ad 4), .int nc, .long dn, .long lf, .int of, .ref (ad 5)])), (ad 1, .inl (cA, 6144, .inl st)), (ad 2, .inl (cA, 64, .inl tp)), (ad 3, .inl (cA, 24, .inl cb)), (ad 4, .inl (cA, 1536, .inl cy)), (ad 5, .inl (cA, 64, .inl ro))]
theorem md_dec (k : Nat) : nI k + (-1) = nI k - nI 1 := by rw [Int32.sub_eq_add_neg]; rfl
def wiF (a b c : Int64) : Bool := if a < b then false else if c < a then false else true
/-- k bytes of the store from p on as a number, the highest first -/
def nuF (f : Nat → Int32) (p : Nat) : Nat → Int64 → Int64
  | 0, v => v
  | k + 1, v => nuF f p k (v * 256 + (f (p + k)).toInt64)
/-- the check, a bit at a time -/
def m1F (x : Int32) (j : Nat) (w : Int64) : Int64 := if w >>> ((nI 31).toInt64 &&& 63) = ((x >>> (nI j &&& 31)) &&& nI 1).toInt64 then (w <<< ((nI 1).toInt64 &&& 63)) &&& 4294967295 else ((w <<< ((nI 1).toInt64 &&& 63)) &&& 4294967295) ^^^ 517762881
def m8F (x : Int32) : Nat → Nat → Int64 → Int64
  | 0, _, w => w
  | k + 1, j, w => m8F x k (j + 1) (m1F x j w)
def mcF (f : Nat → Int32) : Nat → Nat → Int64 → Int64
  | 0, _, w => w
  | k + 1, i, w => mcF f k (i + 1) (m8F (f (64 + i)) 8 0 w)
def mtF (w : Int64) : Nat → Nat → Int64 → Int64
  | 0, _, t => t
  | k + 1, j, t => mtF w k (j + 1) (t ||| (((w >>> ((nI j).toInt64 &&& 63)) &&& 1) <<< ((nI (31 - j)).toInt64 &&& 63)))
def ckM (f : Nat → Int32) (n : Nat) : Int64 := mtF (mcF f (64 * n) 0 4294967295) 32 0 0 ^^^ 4294967295
def tgM (f : Nat → Int32) (i : Nat) : Int32 := (nuF f (5 + 2 * i) 2 0).toInt32
def irF (f : Nat → Int32) : Nat → Nat → Int32 → Int32
  | 0, _, r => r
  | k + 1, i, r => irF f k (i + 1) (if r = 0 then nI 0 else if bI (wiF (tgM f i).toInt64 25 95) = 0 then nI 0 else if nI i = 0 then nI 1 else if tgM f i ≤ tgM f (i - 1) then nI 0 else nI 1)
def mrF (f : Nat → Int32) : Bool := if ¬ bI (wiF (f 4).toInt64 1 24) = 0 then (if irF f (f 4).toNatClampNeg 0 (nI 1) = 0 then false else if ¬ nuF f 59 4 0 = ckM f (f 4).toNatClampNeg then false else true) else false
def fnF (f : Nat → Int32) (b : Int32) : Nat → Nat → Int32
  | 0, _ => -1
  | k + 1, i => if ¬ f i = b then fnF f b k (i + 1) else nI i
/-- how many of the first n are below x -/
def blF (f : Nat → Int32) (x : Int32) : Nat → Nat → Nat → Nat
  | 0, _, b => b
  | k + 1, j, b => blF f x k (j + 1) (if x ≤ f j then b + 0 else b + 1)
def raF (f : Nat → Int32) (n i : Nat) : Nat → Nat → Int32
  | 0, _ => -1
  | k + 1, c => if ¬ blF f (f c) n 0 0 = i then raF f n i k (c + 1) else nI c
theorem wiF_nat {a : Int64} {x : Int32} {b c : Nat} (hb : b < 2 ^ 31) (hc : c < 2 ^ 31) (ha : a = x.toInt64) (h : ¬ bI (wiF a (lN b) (lN c)) = 0) : ∃ k : Nat, b ≤ k ∧ k ≤ c ∧ x = nI k := by
  have h1 : wiF a (lN b) (lN c) = true := by
    cases hs : wiF a (lN b) (lN c)
    · exact absurd (by rw [hs]; decide) h
    · rfl
  unfold wiF at h1
  by_cases a1 : a < lN b
  · rw [if_pos a1] at h1; cases h1
  rw [if_neg a1] at h1
  by_cases a2 : lN c < a
  · rw [if_pos a2] at h1; cases h1
  have t1 : (b : Int) ≤ x.toInt := by
    have q := Int64.not_lt.mp a1
    rw [ha, Int64.le_iff_toInt_le, lN_toInt hb, Int32.toInt_toInt64] at q
    exact q
  have t2 : x.toInt ≤ (c : Int) := by
    have q := Int64.not_lt.mp a2
    rw [ha, Int64.le_iff_toInt_le, lN_toInt hc, Int32.toInt_toInt64] at q
    exact q
  obtain ⟨k, hk, e⟩ := nI_of (x := x) (fun q => by
    have := Int32.lt_iff_toInt_lt.mp q
    have z : (0 : Int32).toInt = 0 := rfl
    omega)
  rw [e, nI_toInt hk] at t1 t2
  exact ⟨k, by omega, by omega, e⟩

set_option maxHeartbeats 4000000 in
set_option maxRecDepth 100000 in
theorem c_X1_thrown (l : Launch) (dC : Nat → ClassId) (dI : Nat → Nat → Nat) (cA : ClassId) (ad : Nat → Nat) (th : Int32) (st tp : Nat → Int32) (tl : Int32) (cb cy : Nat → Int32) (nc : Int32) (dn lf : Int64) (of : Int32) (ro : Nat → Int32)  : Met l yX1_thrown wsX1_thrown ({ frames := 0, cells := 0, slots := 0, locals := 0 } : Room) (va_Pc [.ref (ad 0)] (fun U => va_P (dC, dI) vwCl (wM cA ad th st tp tl cb cy nc dn lf of ro) U.heap ∧ va_K (dC, dI) vwCl [(cA, .int)] U)) (bj_Q (some (.int th))) 0 0 (fun _ => False) := by
  refine Met.ofW (cc := cX1_thrown) (maxL := 1) (ret := (some .int)) (by decide) rfl ?_
  intro p e s m args below meth c s₁ B hml hv
  obtain ⟨rfl, hP, hK⟩ := hv
  have hx := B.exec
  have hb := B.bytes
  have hr := B.returns
  have hts := atoms_spec (ws := wsX1_thrown) B.pre
  have hown : s.vm.findClass RX1 = some m.cls := findClass_of_methodNamed B.named
  have hlocks := B.notSynchronized
  have hin : ∀ w ∈ u_ws RX1 TX1 11, w ∈ wsX1_thrown := by decide +kernel
  have hl := lv_entry ([.ref (ad 0)]) (n := 1) (Nat.le_of_ble_eq_true rfl)
  rw [lg_entry_eq]
  generalize (lg_sl ([.ref (ad 0)]) ++ List.replicate (1 - (lg_sl ([.ref (ad 0)])).length) Slot.unset).toArray = ls at hl ⊢
  have hl : lv_has ls 1 [(0, .ref (ad 0))] := hl
  refine lv_aload_n hx hb dX1_thrown_0 rfl (lv_at hl 0 rfl) ?_
  refine va_get (D := (dC, dI)) (ci := 1) (v := .int th) (C := RX1) (T := TX1) (N := 11) hx hb hts hin hown hK hP 0 rfl rfl 0 (by decide) (hts (.fieldLink RX1 31 "BlockJournalModel" "thrown" "I") (by decide +kernel)) (fun _ h9 => h9) rfl dX1_thrown_1 ?_
  have hres : th = th := rfl
  exact W.iret (v := th) hx hb hr (fun t ht _ => ⟨congrArg (fun z : Int32 => Outcome.returned (some (Value.int z))) hres, ht⟩) (fun _ h => by cases h) dX1_thrown_4

set_option maxHeartbeats 4000000 in
set_option maxRecDepth 100000 in
theorem c_X1_within (l : Launch) (a b d : Int64)  : Met l yX1_within wsX1_within ({ frames := 0, cells := 0, slots := 0, locals := 0 } : Room) (va_Pc [.long a, .long b, .long d] (fun _ => True)) (bj_Q (some (.int (bI (wiF a b d))))) 0 0 (fun _ => False) := by
  refine Met.ofW (cc := cX1_within) (maxL := 6) (ret := (some .boolean)) (by decide) rfl ?_
  intro p e s m args below meth c s₁ B hml hv
  obtain ⟨rfl, -⟩ := hv
  have hx := B.exec
  have hb := B.bytes
  have hr := B.returns
  have hts := atoms_spec (ws := wsX1_within) B.pre
  have hown : s.vm.findClass RX1 = some m.cls := findClass_of_methodNamed B.named
  have hlocks := B.notSynchronized
  have hl := lv_entry ([.long a, .long b, .long d]) (n := 6) (Nat.le_of_ble_eq_true rfl)
  rw [lg_entry_eq]
  generalize (lg_sl ([.long a, .long b, .long d]) ++ List.replicate (6 - (lg_sl ([.long a, .long b, .long d])).length) Slot.unset).toArray = ls at hl ⊢
  have hl : lv_has ls 6 [(0, .long a), (2, .long b), (4, .long d)] := hl
  refine lv_lload_n hx hb dX1_within_0 rfl (lv_at hl 0 rfl) ?_
  refine lv_lload_n hx hb dX1_within_1 rfl (lv_at hl 1 rfl) ?_
  refine W.lcmp hx hb dX1_within_2 ?_
  refine lv_if_lt (tgt := 17) hx hb dX1_within_3 (by decide) (fun c_3 => ?_) (fun c_3 => ?_)
  · have m_3 := (lg_cmp_lt a b).mp c_3
    refine lv_iconst (v := nI 0) hx hb dX1_within_17 (by decide) ?_
    have hres : nI 0 = bI (wiF a b d) := by rw [wiF, if_pos m_3]; rfl
    exact W.zret (v := nI 0) (ty := .boolean) hx hb hr rfl (fun t ht _ => ⟨congrArg (fun z : Int32 => Outcome.returned (some (Value.int z))) hres, ht⟩) (fun _ h => by cases h) dX1_within_18
  · have m_3 := fun h => c_3 ((lg_cmp_lt a b).mpr h)
    refine lv_lload_n hx hb dX1_within_6 rfl (lv_at hl 0 rfl) ?_
    refine lv_lload hx hb dX1_within_7 (lv_at hl 2 rfl) ?_
    refine W.lcmp hx hb dX1_within_9 ?_
    refine lv_if_gt (tgt := 17) hx hb dX1_within_10 (by decide) (fun c_10 => ?_) (fun c_10 => ?_)
    · have m_10 := (lg_cmp_gt a d).mp c_10
      refine lv_iconst (v := nI 0) hx hb dX1_within_17 (by decide) ?_
      have hres : nI 0 = bI (wiF a b d) := by rw [wiF, if_neg m_3, if_pos m_10]; rfl
      exact W.zret (v := nI 0) (ty := .boolean) hx hb hr rfl (fun t ht _ => ⟨congrArg (fun z : Int32 => Outcome.returned (some (Value.int z))) hres, ht⟩) (fun _ h => by cases h) dX1_within_18
    · have m_10 := fun h => c_10 ((lg_cmp_gt a d).mpr h)
      refine lv_iconst (v := nI 1) hx hb dX1_within_13 (by decide) ?_
      refine lv_goto (tgt := 18) hx hb dX1_within_14 (by decide) ?_
      have hres : nI 1 = bI (wiF a b d) := by rw [wiF, if_neg m_3, if_neg m_10]; rfl
      exact W.zret (v := nI 1) (ty := .boolean) hx hb hr rfl (fun t ht _ => ⟨congrArg (fun z : Int32 => Outcome.returned (some (Value.int z))) hres, ht⟩) (fun _ h => by cases h) dX1_within_18

set_option maxHeartbeats 4000000 in
set_option maxRecDepth 100000 in
theorem c_X1_number (l : Launch) (dC : Nat → ClassId) (dI : Nat → Nat → Nat) (cA : ClassId) (ad : Nat → Nat) (th : Int32) (st tp : Nat → Int32) (tl : Int32) (cb cy : Nat → Int32) (nc : Int32) (dn lf : Int64) (of : Int32) (ro : Nat → Int32) (p0 n : Nat) (h1 : 1 ≤ n) (h2 : p0 + n ≤ 6144) : Met l yX1_number wsX1_number ({ frames := 0, cells := 0, slots := 0, locals := 0 } : Room) (va_Pc [.ref (ad 0), .int (nI p0), .int (nI n)] (fun U => va_P (dC, dI) vwCl (wM cA ad th st tp tl cb cy nc dn lf of ro) U.heap ∧ va_K (dC, dI) vwCl [(cA, .int)] U)) (bj_Q (some (.long (nuF st p0 n 0)))) 0 0 (fun _ => False) := by
  refine Met.ofW (cc := cX1_number) (maxL := 6) (ret := (some .long)) (by decide) rfl ?_
  intro p e s m args below meth c s₁ B hml hv
  obtain ⟨rfl, hP, hK⟩ := hv
  have hx := B.exec
  have hb := B.bytes
  have hr := B.returns
  have hts := atoms_spec (ws := wsX1_number) B.pre
  have hown : s.vm.findClass RX1 = some m.cls := findClass_of_methodNamed B.named
  have hlocks := B.notSynchronized
  have hin : ∀ w ∈ u_ws RX1 TX1 11, w ∈ wsX1_number := by decide +kernel
  have hl := lv_entry ([.ref (ad 0), .int (nI p0), .int (nI n)]) (n := 6) (Nat.le_of_ble_eq_true rfl)
  rw [lg_entry_eq]
  generalize (lg_sl ([.ref (ad 0), .int (nI p0), .int (nI n)]) ++ List.replicate (6 - (lg_sl ([.ref (ad 0), .int (nI p0), .int (nI n)])).length) Slot.unset).toArray = ls at hl ⊢
  have hl : lv_has ls 6 [(0, .ref (ad 0)), (1, .int (nI p0)), (2, .int (nI n))] := hl
  refine lv_lconst (v := 0) hx hb dX1_number_0 (by decide) ?_
  refine lv_lstore_n (lv' := [(3, .long 0), (0, .ref (ad 0)), (1, .int (nI p0)), (2, .int (nI n))]) hx hb dX1_number_1 rfl hl (by decide) rfl (fun ls hl => ?_)
  refine lv_iload_n hx hb dX1_number_2 rfl (lv_at hl 3 rfl) ?_
  refine lv_iconst (v := nI 1) hx hb dX1_number_3 (by decide) ?_
  refine lv_isub hx hb dX1_number_4 ?_
  refine lv_istore (lv' := [(5, .int ((nI n) - (nI 1))), (3, .long 0), (0, .ref (ad 0)), (1, .int (nI p0)), (2, .int (nI n))]) hx hb dX1_number_5 hl (by decide) rfl (fun ls hl => ?_)
  have loop_7 : ∀ (k : Nat) (v : Int64), k ≤ n → nuF st p0 n 0 = nuF st p0 k v → ∀ ls : Array Slot, lv_has ls 6 [(0, .ref (ad 0)), (1, .int (nI p0)), (2, .int (nI n)), (3, .long v), (5, .int (nI k - nI 1))] → W p l e (headSpec wsX1_number ({ frames := 0, cells := 0, slots := 0, locals := 0 } : Room)).room s m ([.ref (ad 0), .int (nI p0), .int (nI n)] : List Value).toArray below meth c s.heap [] 0 0 (MQ below (bj_Q (some (.long (nuF st p0 n 0)))) ([.ref (ad 0), .int (nI p0), .int (nI n)] : List Value).toArray s 0 0 (fun _ => False)) (F0 m 7 ls []) := by
    intro k
    induction k with
    | zero =>
      intro v hk hR ls hl
      refine lv_iload hx hb dX1_number_7 (lv_at hl 4 rfl) ?_
      refine lv_if_lt (tgt := 35) hx hb dX1_number_9 (by decide) (fun c_9 => ?_) (fun c_9 => ?_)
      · refine lv_lload_n hx hb dX1_number_35 rfl (lv_at hl 3 rfl) ?_
        have hres : v = nuF st p0 n 0 := hR.symm
        exact W.lret (v := v) hx hb hr (fun t ht _ => ⟨congrArg (fun z : Int64 => Outcome.returned (some (Value.long z))) hres, ht⟩) (fun _ h => by cases h) dX1_number_36
      · exact absurd (by decide) c_9
    | succ k ih =>
      intro v hk hR ls hl
      refine lv_iload hx hb dX1_number_7 (lv_at hl 4 rfl) ?_
      refine lv_if_lt (tgt := 35) hx hb dX1_number_9 (by decide) (fun c_9 => ?_) (fun c_9 => ?_)
      · exact absurd c_9 (by rw [show nI (k + 1) - nI 1 = nI k from nI_pred k]; exact nI_pos (by omega))
      · rw [show nI (k + 1) - nI 1 = nI k from nI_pred k] at hl
        refine lv_lload_n hx hb dX1_number_12 rfl (lv_at hl 3 rfl) ?_
        refine lv_ldc2 hx hb hown (hts (.constantLong RX1 42 (256)) (by decide +kernel)) dX1_number_13 ?_
        refine lv_lmul hx hb dX1_number_16 ?_
        refine lv_aload_n hx hb dX1_number_17 rfl (lv_at hl 0 rfl) ?_
        refine va_get (D := (dC, dI)) (ci := 1) (v := .ref (ad 1)) (C := RX1) (T := TX1) (N := 11) hx hb hts hin hown hK hP 0 rfl rfl 1 (by decide) (hts (.fieldLink RX1 7 "BlockJournalModel" "store" "[I") (by decide +kernel)) (fun _ h9 => h9) rfl dX1_number_18 ?_
        refine lv_iload_n hx hb dX1_number_21 rfl (lv_at hl 1 rfl) ?_
        refine lv_iload hx hb dX1_number_22 (lv_at hl 4 rfl) ?_
        refine lv_iadd hx hb dX1_number_24 ?_
        refine bj_i (nI_add p0 k) ?_
        refine va_iald (D := (dC, dI)) hx hb hK hP 1 0 (cA := cA) (n := 6144) (f := st) rfl rfl (i := (nI (p0 + k))) (vp_in_nI (by omega) (by omega)) dX1_number_25 ?_
        refine bj_i (y := st (p0 + k)) (congrArg st (nI_clamp (by omega))) ?_
        refine lv_i2l hx hb dX1_number_26 rfl ?_
        refine lv_ladd hx hb dX1_number_27 ?_
        refine lv_lstore_n (lv' := [(3, .long ((v * (256)) + ((st (p0 + k)).toInt64))), (0, .ref (ad 0)), (1, .int (nI p0)), (2, .int (nI n)), (5, .int (nI k))]) hx hb dX1_number_28 rfl hl (by decide) rfl (fun ls hl => ?_)
        refine lv_iinc (v := (nI k) + (-1)) (lv' := [(5, .int ((nI k) + (-1))), (3, .long ((v * (256)) + ((st (p0 + k)).toInt64))), (0, .ref (ad 0)), (1, .int (nI p0)), (2, .int (nI n))]) hx hb dX1_number_29 hl (k := 4) rfl rfl (by decide) rfl (fun ls hl => ?_)
        rw [md_dec] at hl
        refine lv_goto (tgt := 7) hx hb dX1_number_32 (by decide) ?_
        exact ih _ (by omega) (hR.trans rfl) _ (lv_sub hl [2, 3, 4, 1, 0] rfl)
  exact loop_7 n 0 (Nat.le_refl _) rfl _ (lv_sub hl [2, 3, 4, 1, 0] rfl)

set_option maxHeartbeats 4000000 in
set_option maxRecDepth 100000 in
theorem c_X1_check (l : Launch) (dC : Nat → ClassId) (dI : Nat → Nat → Nat) (cA : ClassId) (ad : Nat → Nat) (th : Int32) (st tp : Nat → Int32) (tl : Int32) (cb cy : Nat → Int32) (nc : Int32) (dn lf : Int64) (of : Int32) (ro : Nat → Int32) (n : Nat) (hn : n ≤ 24) : Met l yX1_check wsX1_check ({ frames := 0, cells := 0, slots := 0, locals := 0 } : Room) (va_Pc [.ref (ad 0), .int (nI n)] (fun U => va_P (dC, dI) vwCl (wM cA ad th st tp tl cb cy nc dn lf of ro) U.heap ∧ va_K (dC, dI) vwCl [(cA, .int)] U)) (bj_Q (some (.long (ckM st n)))) 0 0 (fun _ => False) := by
  refine Met.ofW (cc := cX1_check) (maxL := 9) (ret := (some .long)) (by decide) rfl ?_
  intro p e s m args below meth c s₁ B hml hv
  obtain ⟨rfl, hP, hK⟩ := hv
  have hx := B.exec
  have hb := B.bytes
  have hr := B.returns
  have hts := atoms_spec (ws := wsX1_check) B.pre
  have hown : s.vm.findClass RX1 = some m.cls := findClass_of_methodNamed B.named
  have hlocks := B.notSynchronized
  have hin : ∀ w ∈ u_ws RX1 TX1 11, w ∈ wsX1_check := by decide +kernel
  have hl := lv_entry ([.ref (ad 0), .int (nI n)]) (n := 9) (Nat.le_of_ble_eq_true rfl)
  rw [lg_entry_eq]
  generalize (lg_sl ([.ref (ad 0), .int (nI n)]) ++ List.replicate (9 - (lg_sl ([.ref (ad 0), .int (nI n)])).length) Slot.unset).toArray = ls at hl ⊢
  have hl : lv_has ls 9 [(0, .ref (ad 0)), (1, .int (nI n))] := hl
  refine lv_ldc2 hx hb hown (hts (.constantLong RX1 44 (4294967295)) (by decide +kernel)) dX1_check_0 ?_
  refine lv_lstore_n (lv' := [(2, .long (4294967295)), (0, .ref (ad 0)), (1, .int (nI n))]) hx hb dX1_check_3 rfl hl (by decide) rfl (fun ls hl => ?_)
  refine lv_iconst (v := nI 0) hx hb dX1_check_4 (by decide) ?_
  refine lv_istore (lv' := [(4, .int (nI 0)), (2, .long (4294967295)), (0, .ref (ad 0)), (1, .int (nI n))]) hx hb dX1_check_5 hl (by decide) rfl (fun ls hl => ?_)
  have loop_7 : ∀ (k : Nat) (i : Nat) (w : Int64), i + k = 64 * n → mcF st (64 * n) 0 4294967295 = mcF st k i w → ∀ ls : Array Slot, lv_has ls 9 [(0, .ref (ad 0)), (1, .int (nI n)), (2, .long w), (4, .int (nI i))] → W p l e (headSpec wsX1_check ({ frames := 0, cells := 0, slots := 0, locals := 0 } : Room)).room s m ([.ref (ad 0), .int (nI n)] : List Value).toArray below meth c s.heap [] 0 0 (MQ below (bj_Q (some (.long (ckM st n)))) ([.ref (ad 0), .int (nI n)] : List Value).toArray s 0 0 (fun _ => False)) (F0 m 7 ls []) := by
    intro k
    induction k with
    | zero =>
      intro i w hk hR ls hl
      refine lv_iload hx hb dX1_check_7 (lv_at hl 3 rfl) ?_
      refine lv_bipush (v := nI 64) hx hb dX1_check_9 (by decide) ?_
      refine lv_iload_n hx hb dX1_check_11 rfl (lv_at hl 1 rfl) ?_
      refine lv_imul hx hb dX1_check_12 ?_
      refine bj_i (pk_mul 64 n) ?_
      refine lv_icmp_ge (tgt := 92) hx hb dX1_check_13 (by decide) (fun c_13 => ?_) (fun c_13 => ?_)
      · have n_13 : 64 * n ≤ i := (nI_leI (by omega) (by omega)).mp c_13
        have e92 : w = mcF st (64 * n) 0 4294967295 := hR.symm
        rw [e92] at hl
        refine lv_lconst (v := 0) hx hb dX1_check_92 (by decide) ?_
        refine lv_lstore (lv' := [(4, .long 0), (0, .ref (ad 0)), (1, .int (nI n)), (2, .long (mcF st (64 * n) 0 4294967295))]) hx hb dX1_check_93 hl (by decide) rfl (fun ls hl => ?_)
        refine lv_iconst (v := nI 0) hx hb dX1_check_95 (by decide) ?_
        refine lv_istore (lv' := [(6, .int (nI 0)), (4, .long 0), (0, .ref (ad 0)), (1, .int (nI n)), (2, .long (mcF st (64 * n) 0 4294967295))]) hx hb dX1_check_96 hl (by decide) rfl (fun ls hl => ?_)
        have loop_98 : ∀ (k : Nat) (j : Nat) (t : Int64), j + k = 32 → mtF (mcF st (64 * n) 0 4294967295) 32 0 0 = mtF (mcF st (64 * n) 0 4294967295) k j t → ∀ ls : Array Slot, lv_has ls 9 [(0, .ref (ad 0)), (1, .int (nI n)), (2, .long (mcF st (64 * n) 0 4294967295)), (4, .long t), (6, .int (nI j))] → W p l e (headSpec wsX1_check ({ frames := 0, cells := 0, slots := 0, locals := 0 } : Room)).room s m ([.ref (ad 0), .int (nI n)] : List Value).toArray below meth c s.heap [] 0 0 (MQ below (bj_Q (some (.long (ckM st n)))) ([.ref (ad 0), .int (nI n)] : List Value).toArray s 0 0 (fun _ => False)) (F0 m 98 ls []) := by
          intro k
          induction k with
          | zero =>
            intro j t hj hT ls hl
            refine lv_iload hx hb dX1_check_98 (lv_at hl 4 rfl) ?_
            refine lv_bipush (v := nI 32) hx hb dX1_check_100 (by decide) ?_
            refine lv_icmp_ge (tgt := 128) hx hb dX1_check_102 (by decide) (fun c_102 => ?_) (fun c_102 => ?_)
            · have n_102 : 32 ≤ j := (nI_leI (by omega) (by omega)).mp c_102
              refine lv_lload hx hb dX1_check_128 (lv_at hl 3 rfl) ?_
              refine lv_ldc2 hx hb hown (hts (.constantLong RX1 44 (4294967295)) (by decide +kernel)) dX1_check_130 ?_
              refine lv_lxor hx hb dX1_check_133 ?_
              have hres : t ^^^ (4294967295) = ckM st n := by rw [ckM, hT]; rfl
              exact W.lret (v := t ^^^ (4294967295)) hx hb hr (fun t ht _ => ⟨congrArg (fun z : Int64 => Outcome.returned (some (Value.long z))) hres, ht⟩) (fun _ h => by cases h) dX1_check_134
            · have n_102 : ¬ 32 ≤ j := fun h => c_102 ((nI_leI (by omega) (by omega)).mpr h)
              exfalso; omega
          | succ k ih =>
            intro j t hj hT ls hl
            refine lv_iload hx hb dX1_check_98 (lv_at hl 4 rfl) ?_
            refine lv_bipush (v := nI 32) hx hb dX1_check_100 (by decide) ?_
            refine lv_icmp_ge (tgt := 128) hx hb dX1_check_102 (by decide) (fun c_102 => ?_) (fun c_102 => ?_)
            · have n_102 : 32 ≤ j := (nI_leI (by omega) (by omega)).mp c_102
              exfalso; omega
            · have n_102 : ¬ 32 ≤ j := fun h => c_102 ((nI_leI (by omega) (by omega)).mpr h)
              refine lv_lload hx hb dX1_check_105 (lv_at hl 3 rfl) ?_
              refine lv_lload_n hx hb dX1_check_107 rfl (lv_at hl 2 rfl) ?_
              refine lv_iload hx hb dX1_check_108 (lv_at hl 4 rfl) ?_
              refine lv_lshr hx hb dX1_check_110 rfl ?_
              refine lv_lconst (v := 1) hx hb dX1_check_111 (by decide) ?_
              refine lv_land hx hb dX1_check_112 ?_
              refine lv_bipush (v := nI 31) hx hb dX1_check_113 (by decide) ?_
              refine lv_iload hx hb dX1_check_115 (lv_at hl 4 rfl) ?_
              refine lv_isub hx hb dX1_check_117 ?_
              refine bj_i (pk_sub (a := 31) (b := j) (by omega)) ?_
              refine lv_lshl hx hb dX1_check_118 rfl ?_
              refine lv_lor hx hb dX1_check_119 ?_
              refine lv_lstore (lv' := [(4, .long (t ||| ((((mcF st (64 * n) 0 4294967295) >>> ((nI j).toInt64 &&& 63)) &&& 1) <<< ((nI (31 - j)).toInt64 &&& 63)))), (0, .ref (ad 0)), (1, .int (nI n)), (2, .long (mcF st (64 * n) 0 4294967295)), (6, .int (nI j))]) hx hb dX1_check_120 hl (by decide) rfl (fun ls hl => ?_)
              refine lv_iinc (v := nI (j + 1)) (lv' := [(6, .int (nI (j + 1))), (4, .long (t ||| ((((mcF st (64 * n) 0 4294967295) >>> ((nI j).toInt64 &&& 63)) &&& 1) <<< ((nI (31 - j)).toInt64 &&& 63)))), (0, .ref (ad 0)), (1, .int (nI n)), (2, .long (mcF st (64 * n) 0 4294967295))]) hx hb dX1_check_122 hl (k := 4) rfl (nI_add j 1) (by decide) rfl (fun ls hl => ?_)
              refine lv_goto (tgt := 98) hx hb dX1_check_125 (by decide) ?_
              exact ih (j + 1) _ (by omega) (hT.trans rfl) _ (lv_sub hl [2, 3, 4, 1, 0] rfl)
        exact loop_98 32 0 0 (by omega) rfl _ (lv_sub hl [2, 3, 4, 1, 0] rfl)
      · have n_13 : ¬ (64 * n) ≤ i := fun h => c_13 ((nI_leI (by omega) (by omega)).mpr h)
        exfalso; omega
    | succ k ih =>
      intro i w hk hR ls hl
      refine lv_iload hx hb dX1_check_7 (lv_at hl 3 rfl) ?_
      refine lv_bipush (v := nI 64) hx hb dX1_check_9 (by decide) ?_
      refine lv_iload_n hx hb dX1_check_11 rfl (lv_at hl 1 rfl) ?_
      refine lv_imul hx hb dX1_check_12 ?_
      refine bj_i (pk_mul 64 n) ?_
      refine lv_icmp_ge (tgt := 92) hx hb dX1_check_13 (by decide) (fun c_13 => ?_) (fun c_13 => ?_)
      · have n_13 : 64 * n ≤ i := (nI_leI (by omega) (by omega)).mp c_13
        exfalso; omega
      · have n_13 : ¬ (64 * n) ≤ i := fun h => c_13 ((nI_leI (by omega) (by omega)).mpr h)
        refine lv_iconst (v := nI 0) hx hb dX1_check_16 (by decide) ?_
        refine lv_istore (lv' := [(5, .int (nI 0)), (0, .ref (ad 0)), (1, .int (nI n)), (2, .long w), (4, .int (nI i))]) hx hb dX1_check_17 hl (by decide) rfl (fun ls hl => ?_)
        have loop_19 : ∀ (k : Nat) (j : Nat) (u : Int64), j + k = 8 → m8F (st (64 + i)) 8 0 w = m8F (st (64 + i)) k j u → ∀ ls : Array Slot, lv_has ls 9 [(0, .ref (ad 0)), (1, .int (nI n)), (2, .long u), (4, .int (nI i)), (5, .int (nI j))] → W p l e (headSpec wsX1_check ({ frames := 0, cells := 0, slots := 0, locals := 0 } : Room)).room s m ([.ref (ad 0), .int (nI n)] : List Value).toArray below meth c s.heap [] 0 0 (MQ below (bj_Q (some (.long (ckM st n)))) ([.ref (ad 0), .int (nI n)] : List Value).toArray s 0 0 (fun _ => False)) (F0 m 19 ls []) := by
          intro k
          induction k with
          | zero =>
            intro j u hj hU ls hl
            refine lv_iload hx hb dX1_check_19 (lv_at hl 4 rfl) ?_
            refine lv_bipush (v := nI 8) hx hb dX1_check_21 (by decide) ?_
            refine lv_icmp_ge (tgt := 86) hx hb dX1_check_23 (by decide) (fun c_23 => ?_) (fun c_23 => ?_)
            · have n_23 : 8 ≤ j := (nI_leI (by omega) (by omega)).mp c_23
              have e86 : u = m8F (st (64 + i)) 8 0 w := hU.symm
              rw [e86] at hl
              refine lv_iinc (v := nI (i + 1)) (lv' := [(4, .int (nI (i + 1))), (0, .ref (ad 0)), (1, .int (nI n)), (2, .long (m8F (st (64 + i)) 8 0 w)), (5, .int (nI j))]) hx hb dX1_check_86 hl (k := 3) rfl (nI_add i 1) (by decide) rfl (fun ls hl => ?_)
              refine lv_goto (tgt := 7) hx hb dX1_check_89 (by decide) ?_
              exact ih (i + 1) _ (by omega) (hR.trans rfl) _ (lv_sub hl [1, 2, 3, 0] rfl)
            · have n_23 : ¬ 8 ≤ j := fun h => c_23 ((nI_leI (by omega) (by omega)).mpr h)
              exfalso; omega
          | succ k ih =>
            intro j u hj hU ls hl
            refine lv_iload hx hb dX1_check_19 (lv_at hl 4 rfl) ?_
            refine lv_bipush (v := nI 8) hx hb dX1_check_21 (by decide) ?_
            refine lv_icmp_ge (tgt := 86) hx hb dX1_check_23 (by decide) (fun c_23 => ?_) (fun c_23 => ?_)
            · have n_23 : 8 ≤ j := (nI_leI (by omega) (by omega)).mp c_23
              exfalso; omega
            · have n_23 : ¬ 8 ≤ j := fun h => c_23 ((nI_leI (by omega) (by omega)).mpr h)
              refine lv_aload_n hx hb dX1_check_26 rfl (lv_at hl 0 rfl) ?_
              refine va_get (D := (dC, dI)) (ci := 1) (v := .ref (ad 1)) (C := RX1) (T := TX1) (N := 11) hx hb hts hin hown hK hP 0 rfl rfl 1 (by decide) (hts (.fieldLink RX1 7 "BlockJournalModel" "store" "[I") (by decide +kernel)) (fun _ h9 => h9) rfl dX1_check_27 ?_
              refine lv_bipush (v := nI 64) hx hb dX1_check_30 (by decide) ?_
              refine lv_iload hx hb dX1_check_32 (lv_at hl 3 rfl) ?_
              refine lv_iadd hx hb dX1_check_34 ?_
              refine bj_i (nI_add 64 i) ?_
              refine va_iald (D := (dC, dI)) hx hb hK hP 1 0 (cA := cA) (n := 6144) (f := st) rfl rfl (i := (nI (64 + i))) (vp_in_nI (by omega) (by omega)) dX1_check_35 ?_
              refine bj_i (y := st (64 + i)) (congrArg st (nI_clamp (by omega))) ?_
              refine lv_iload hx hb dX1_check_36 (lv_at hl 4 rfl) ?_
              refine lv_ishr hx hb dX1_check_38 ?_
              refine lv_iconst (v := nI 1) hx hb dX1_check_39 (by decide) ?_
              refine lv_iand hx hb dX1_check_40 ?_
              refine lv_i2l hx hb dX1_check_41 rfl ?_
              refine lv_lstore (lv' := [(6, .long ((((st (64 + i)) >>> ((nI j) &&& 31)) &&& (nI 1)).toInt64)), (0, .ref (ad 0)), (1, .int (nI n)), (2, .long u), (4, .int (nI i)), (5, .int (nI j))]) hx hb dX1_check_42 hl (by decide) rfl (fun ls hl => ?_)
              refine lv_lload_n hx hb dX1_check_44 rfl (lv_at hl 3 rfl) ?_
              refine lv_bipush (v := nI 31) hx hb dX1_check_45 (by decide) ?_
              refine lv_lshr hx hb dX1_check_47 rfl ?_
              refine lv_lload hx hb dX1_check_48 (lv_at hl 0 rfl) ?_
              refine W.lcmp hx hb dX1_check_50 ?_
              refine lv_if_eq (tgt := 58) hx hb dX1_check_51 (by decide) (fun c_51 => ?_) (fun c_51 => ?_)
              · have m_51 := (lg_cmp_eq (u >>> ((nI 31).toInt64 &&& 63)) ((((st (64 + i)) >>> ((nI j) &&& 31)) &&& (nI 1)).toInt64)).mp c_51
                refine lv_iconst (v := nI 0) hx hb dX1_check_58 (by decide) ?_
                refine lv_istore (lv' := [(8, .int (nI 0)), (6, .long ((((st (64 + i)) >>> ((nI j) &&& 31)) &&& (nI 1)).toInt64)), (0, .ref (ad 0)), (1, .int (nI n)), (2, .long u), (4, .int (nI i)), (5, .int (nI j))]) hx hb dX1_check_59 hl (by decide) rfl (fun ls hl => ?_)
                refine lv_lload_n hx hb dX1_check_61 rfl (lv_at hl 4 rfl) ?_
                refine lv_iconst (v := nI 1) hx hb dX1_check_62 (by decide) ?_
                refine lv_lshl hx hb dX1_check_63 rfl ?_
                refine lv_ldc2 hx hb hown (hts (.constantLong RX1 44 (4294967295)) (by decide +kernel)) dX1_check_64 ?_
                refine lv_land hx hb dX1_check_67 ?_
                refine lv_lstore_n (lv' := [(2, .long ((u <<< ((nI 1).toInt64 &&& 63)) &&& (4294967295))), (8, .int (nI 0)), (6, .long ((((st (64 + i)) >>> ((nI j) &&& 31)) &&& (nI 1)).toInt64)), (0, .ref (ad 0)), (1, .int (nI n)), (4, .int (nI i)), (5, .int (nI j))]) hx hb dX1_check_68 rfl hl (by decide) rfl (fun ls hl => ?_)
                refine lv_iload hx hb dX1_check_69 (lv_at hl 1 rfl) ?_
                refine lv_if_eq (tgt := 80) hx hb dX1_check_71 (by decide) (fun c_71 => ?_) (fun c_71 => ?_)
                · refine lv_iinc (v := nI (j + 1)) (lv' := [(5, .int (nI (j + 1))), (2, .long ((u <<< ((nI 1).toInt64 &&& 63)) &&& (4294967295))), (8, .int (nI 0)), (6, .long ((((st (64 + i)) >>> ((nI j) &&& 31)) &&& (nI 1)).toInt64)), (0, .ref (ad 0)), (1, .int (nI n)), (4, .int (nI i))]) hx hb dX1_check_80 hl (k := 6) rfl (nI_add j 1) (by decide) rfl (fun ls hl => ?_)
                  refine lv_goto (tgt := 19) hx hb dX1_check_83 (by decide) ?_
                  exact ih (j + 1) _ (by omega) (by rw [hU, m8F, m1F, if_pos m_51]) _ (lv_sub hl [4, 5, 1, 6, 0] rfl)
                · exact absurd (by decide) c_71
              · have m_51 := fun h => c_51 ((lg_cmp_eq (u >>> ((nI 31).toInt64 &&& 63)) ((((st (64 + i)) >>> ((nI j) &&& 31)) &&& (nI 1)).toInt64)).mpr h)
                refine lv_iconst (v := nI 1) hx hb dX1_check_54 (by decide) ?_
                refine lv_goto (tgt := 59) hx hb dX1_check_55 (by decide) ?_
                refine lv_istore (lv' := [(8, .int (nI 1)), (6, .long ((((st (64 + i)) >>> ((nI j) &&& 31)) &&& (nI 1)).toInt64)), (0, .ref (ad 0)), (1, .int (nI n)), (2, .long u), (4, .int (nI i)), (5, .int (nI j))]) hx hb dX1_check_59 hl (by decide) rfl (fun ls hl => ?_)
                refine lv_lload_n hx hb dX1_check_61 rfl (lv_at hl 4 rfl) ?_
                refine lv_iconst (v := nI 1) hx hb dX1_check_62 (by decide) ?_
                refine lv_lshl hx hb dX1_check_63 rfl ?_
                refine lv_ldc2 hx hb hown (hts (.constantLong RX1 44 (4294967295)) (by decide +kernel)) dX1_check_64 ?_
                refine lv_land hx hb dX1_check_67 ?_
                refine lv_lstore_n (lv' := [(2, .long ((u <<< ((nI 1).toInt64 &&& 63)) &&& (4294967295))), (8, .int (nI 1)), (6, .long ((((st (64 + i)) >>> ((nI j) &&& 31)) &&& (nI 1)).toInt64)), (0, .ref (ad 0)), (1, .int (nI n)), (4, .int (nI i)), (5, .int (nI j))]) hx hb dX1_check_68 rfl hl (by decide) rfl (fun ls hl => ?_)
                refine lv_iload hx hb dX1_check_69 (lv_at hl 1 rfl) ?_
                refine lv_if_eq (tgt := 80) hx hb dX1_check_71 (by decide) (fun c_71 => ?_) (fun c_71 => ?_)
                · exact absurd c_71 (by decide)
                · refine lv_lload_n hx hb dX1_check_74 rfl (lv_at hl 0 rfl) ?_
                  refine lv_ldc2 hx hb hown (hts (.constantLong RX1 46 (517762881)) (by decide +kernel)) dX1_check_75 ?_
                  refine lv_lxor hx hb dX1_check_78 ?_
                  refine lv_lstore_n (lv' := [(2, .long (((u <<< ((nI 1).toInt64 &&& 63)) &&& (4294967295)) ^^^ (517762881))), (8, .int (nI 1)), (6, .long ((((st (64 + i)) >>> ((nI j) &&& 31)) &&& (nI 1)).toInt64)), (0, .ref (ad 0)), (1, .int (nI n)), (4, .int (nI i)), (5, .int (nI j))]) hx hb dX1_check_79 rfl hl (by decide) rfl (fun ls hl => ?_)
                  refine lv_iinc (v := nI (j + 1)) (lv' := [(5, .int (nI (j + 1))), (2, .long (((u <<< ((nI 1).toInt64 &&& 63)) &&& (4294967295)) ^^^ (517762881))), (8, .int (nI 1)), (6, .long ((((st (64 + i)) >>> ((nI j) &&& 31)) &&& (nI 1)).toInt64)), (0, .ref (ad 0)), (1, .int (nI n)), (4, .int (nI i))]) hx hb dX1_check_80 hl (k := 6) rfl (nI_add j 1) (by decide) rfl (fun ls hl => ?_)
                  refine lv_goto (tgt := 19) hx hb dX1_check_83 (by decide) ?_
                  exact ih (j + 1) _ (by omega) (by rw [hU, m8F, m1F, if_neg m_51]) _ (lv_sub hl [4, 5, 1, 6, 0] rfl)
        exact loop_19 8 0 w (by omega) rfl _ (lv_sub hl [1, 2, 3, 4, 0] rfl)
  exact loop_7 (64 * n) 0 _ (by omega) rfl _ (lv_sub hl [2, 3, 1, 0] rfl)

set_option maxHeartbeats 4000000 in
set_option maxRecDepth 100000 in
theorem c_X1_target (l : Launch) (dC : Nat → ClassId) (dI : Nat → Nat → Nat) (cA : ClassId) (ad : Nat → Nat) (th : Int32) (st tp : Nat → Int32) (tl : Int32) (cb cy : Nat → Int32) (nc : Int32) (dn lf : Int64) (of : Int32) (ro : Nat → Int32) (i : Nat) (hi : i < 24) : Met l yX1_target wsX1_target ({ frames := 1, cells := 0, slots := 0, locals := 25 } : Room) (va_Pc [.ref (ad 0), .int (nI i)] (fun U => va_P (dC, dI) vwCl (wM cA ad th st tp tl cb cy nc dn lf of ro) U.heap ∧ va_K (dC, dI) vwCl [(cA, .int)] U)) (bj_Q (some (.int (tgM st i)))) 0 0 (fun _ => False) := by
  refine Met.ofW (cc := cX1_target) (maxL := 2) (ret := (some .int)) (by decide) rfl ?_
  intro p e s m args below meth c s₁ B hml hv
  obtain ⟨rfl, hP, hK⟩ := hv
  have hx := B.exec
  have hb := B.bytes
  have hr := B.returns
  have hts := atoms_spec (ws := wsX1_target) B.pre
  have hown : s.vm.findClass RX1 = some m.cls := findClass_of_methodNamed B.named
  have hlocks := B.notSynchronized
  have hin : ∀ w ∈ u_ws RX1 TX1 11, w ∈ wsX1_target := by decide +kernel
  have hl := lv_entry ([.ref (ad 0), .int (nI i)]) (n := 2) (Nat.le_of_ble_eq_true rfl)
  rw [lg_entry_eq]
  generalize (lg_sl ([.ref (ad 0), .int (nI i)]) ++ List.replicate (2 - (lg_sl ([.ref (ad 0), .int (nI i)])).length) Slot.unset).toArray = ls at hl ⊢
  have hl : lv_has ls 2 [(0, .ref (ad 0)), (1, .int (nI i))] := hl
  refine lv_aload_n hx hb dX1_target_0 rfl (lv_at hl 0 rfl) ?_
  refine lv_iconst (v := nI 5) hx hb dX1_target_1 (by decide) ?_
  refine lv_iconst (v := nI 2) hx hb dX1_target_2 (by decide) ?_
  refine lv_iload_n hx hb dX1_target_3 rfl (lv_at hl 1 rfl) ?_
  refine lv_imul hx hb dX1_target_4 ?_
  refine bj_i (pk_mul 2 i) ?_
  refine lv_iadd hx hb dX1_target_5 ?_
  refine bj_i (nI_add 5 (2 * i)) ?_
  refine lv_iconst (v := nI 2) hx hb dX1_target_6 (by decide) ?_
  refine bj_call (v := .long (nuF st (5 + 2 * i) 2 0)) (W.runV (As := [.int (nI (5 + (2 * i))), .int (nI 2)]) (rest := []) ⟨hx, hb, hml, hown, hts⟩ (c_X1_number l dC dI cA ad th st tp tl cb cy nc dn lf of ro (5 + 2 * i) 2 (by decide) (by omega)) (cwV 2 hts gX1_target_X1_number rfl rfl rfl (by decide +kernel) ⟨Nat.le_of_ble_eq_true rfl, Nat.le_of_ble_eq_true rfl⟩) ⟨fun a U g mk q => by obtain ⟨q0, qP, qK⟩ := q; exact ⟨q0, qP, va_K.moved (u := U) (U := U.calling g mk a) (Vm.Alike.refl U.vm) qK⟩, va_recv hK hP (ci := 1) (q0 := 0) rfl rfl, fun U hU hW => ⟨rfl, by rw [hU]; exact hP, va_K.moved hW.alike hK⟩⟩ rfl rfl hl.1 rfl (lv_room (Nat.le_of_ble_eq_true rfl)) dX1_target_7 ⟨Nat.le_of_ble_eq_true rfl, Nat.le_of_ble_eq_true rfl⟩) ?_
  refine lv_l2i hx hb dX1_target_10 rfl ?_
  have hres : (nuF st (5 + 2 * i) 2 0).toInt32 = tgM st i := rfl
  exact W.iret (v := (nuF st (5 + 2 * i) 2 0).toInt32) hx hb hr (fun t ht _ => ⟨congrArg (fun z : Int32 => Outcome.returned (some (Value.int z))) hres, ht⟩) (fun _ h => by cases h) dX1_target_11

set_option maxHeartbeats 4000000 in
set_option maxRecDepth 100000 in
theorem c_X1_isRight (l : Launch) (dC : Nat → ClassId) (dI : Nat → Nat → Nat) (cA : ClassId) (ad : Nat → Nat) (th : Int32) (st tp : Nat → Int32) (tl : Int32) (cb cy : Nat → Int32) (nc : Int32) (dn lf : Int64) (of : Int32) (ro : Nat → Int32)  : Met l yX1_isRight wsX1_isRight ({ frames := 2, cells := 0, slots := 0, locals := 53 } : Room) (va_Pc [.ref (ad 0)] (fun U => va_P (dC, dI) vwCl (wM cA ad th st tp tl cb cy nc dn lf of ro) U.heap ∧ va_K (dC, dI) vwCl [(cA, .int)] U)) (bj_Q (some (.int (bI (mrF st))))) 0 0 (fun _ => False) := by
  refine Met.ofW (cc := cX1_isRight) (maxL := 4) (ret := (some .boolean)) (by decide) rfl ?_
  intro p e s m args below meth c s₁ B hml hv
  obtain ⟨rfl, hP, hK⟩ := hv
  have hx := B.exec
  have hb := B.bytes
  have hr := B.returns
  have hts := atoms_spec (ws := wsX1_isRight) B.pre
  have hown : s.vm.findClass RX1 = some m.cls := findClass_of_methodNamed B.named
  have hlocks := B.notSynchronized
  have hin : ∀ w ∈ u_ws RX1 TX1 11, w ∈ wsX1_isRight := by decide +kernel
  have hl := lv_entry ([.ref (ad 0)]) (n := 4) (Nat.le_of_ble_eq_true rfl)
  rw [lg_entry_eq]
  generalize (lg_sl ([.ref (ad 0)]) ++ List.replicate (4 - (lg_sl ([.ref (ad 0)])).length) Slot.unset).toArray = ls at hl ⊢
  have hl : lv_has ls 4 [(0, .ref (ad 0))] := hl
  refine lv_aload_n hx hb dX1_isRight_0 rfl (lv_at hl 0 rfl) ?_
  refine va_get (D := (dC, dI)) (ci := 1) (v := .ref (ad 1)) (C := RX1) (T := TX1) (N := 11) hx hb hts hin hown hK hP 0 rfl rfl 1 (by decide) (hts (.fieldLink RX1 7 "BlockJournalModel" "store" "[I") (by decide +kernel)) (fun _ h9 => h9) rfl dX1_isRight_1 ?_
  refine lv_iconst (v := nI 4) hx hb dX1_isRight_4 (by decide) ?_
  refine va_iald (D := (dC, dI)) hx hb hK hP 1 0 (cA := cA) (n := 6144) (f := st) rfl rfl (i := (nI 4)) (vp_in_nI (by omega) (by omega)) dX1_isRight_5 ?_
  refine bj_i (y := st 4) (congrArg st (nI_clamp (by omega))) ?_
  refine lv_istore_n (lv' := [(1, .int (st 4)), (0, .ref (ad 0))]) hx hb dX1_isRight_6 rfl hl (by decide) rfl (fun ls hl => ?_)
  refine lv_iload_n hx hb dX1_isRight_7 rfl (lv_at hl 0 rfl) ?_
  refine lv_i2l hx hb dX1_isRight_8 rfl ?_
  refine lv_lconst (v := 1) hx hb dX1_isRight_9 (by decide) ?_
  refine lv_ldc2 hx hb hown (hts (.constantLong RX1 52 (24)) (by decide +kernel)) dX1_isRight_10 ?_
  refine bj_call (v := .int (bI (wiF (st 4).toInt64 1 24))) (W.runS (As := [.long ((st 4).toInt64), .long 1, .long (24)]) (rest := []) ⟨hx, hb, hml, hown, hts⟩ (c_X1_within l (st 4).toInt64 1 24) (va_cwS 3 hts gX1_isRight_X1_within rfl rfl rfl (by decide +kernel) ⟨Nat.le_of_ble_eq_true rfl, Nat.le_of_ble_eq_true rfl⟩) ⟨fun _ _ _ _ q => q, fun _ _ _ => ⟨rfl, trivial⟩⟩ rfl rfl hl.1 rfl (lv_room (Nat.le_of_ble_eq_true rfl)) dX1_isRight_13 ⟨Nat.le_of_ble_eq_true rfl, Nat.le_of_ble_eq_true rfl⟩) ?_
  refine lv_if_ne (tgt := 21) hx hb dX1_isRight_16 (by decide) (fun c_16 => ?_) (fun c_16 => ?_)
  · obtain ⟨n, hn1, hn, en⟩ := wiF_nat (b := 1) (c := 24) (by decide) (by decide) rfl c_16
    have hcl : (st 4).toNatClampNeg = n := by rw [en]; exact nI_clamp (by omega)
    rw [en] at hl
    refine lv_iconst (v := nI 1) hx hb dX1_isRight_21 (by decide) ?_
    refine lv_istore_n (lv' := [(2, .int (nI 1)), (1, .int (nI n)), (0, .ref (ad 0))]) hx hb dX1_isRight_22 rfl hl (by decide) rfl (fun ls hl => ?_)
    refine lv_iconst (v := nI 0) hx hb dX1_isRight_23 (by decide) ?_
    refine lv_istore_n (lv' := [(3, .int (nI 0)), (2, .int (nI 1)), (1, .int (nI n)), (0, .ref (ad 0))]) hx hb dX1_isRight_24 rfl hl (by decide) rfl (fun ls hl => ?_)
    have loop_25 : ∀ (k : Nat) (i : Nat) (r : Int32), i + k = n → irF st n 0 (nI 1) = irF st k i r → ∀ ls : Array Slot, lv_has ls 4 [(0, .ref (ad 0)), (1, .int (nI n)), (2, .int r), (3, .int (nI i))] → W p l e (headSpec wsX1_isRight ({ frames := 2, cells := 0, slots := 0, locals := 53 } : Room)).room s m ([.ref (ad 0)] : List Value).toArray below meth c s.heap [] 0 0 (MQ below (bj_Q (some (.int (bI (mrF st))))) ([.ref (ad 0)] : List Value).toArray s 0 0 (fun _ => False)) (F0 m 25 ls []) := by
      intro k
      induction k with
      | zero =>
        intro i r hk hR ls hl
        refine lv_iload_n hx hb dX1_isRight_25 rfl (lv_at hl 3 rfl) ?_
        refine lv_iload_n hx hb dX1_isRight_26 rfl (lv_at hl 1 rfl) ?_
        refine lv_icmp_ge (tgt := 83) hx hb dX1_isRight_27 (by decide) (fun c_27 => ?_) (fun c_27 => ?_)
        · have n_27 : n ≤ i := (nI_leI (by omega) (by omega)).mp c_27
          have e83 : r = irF st n 0 (nI 1) := hR.symm
          rw [e83] at hl
          refine lv_iload_n hx hb dX1_isRight_83 rfl (lv_at hl 2 rfl) ?_
          refine lv_if_eq (tgt := 107) hx hb dX1_isRight_84 (by decide) (fun c_84 => ?_) (fun c_84 => ?_)
          · refine lv_iconst (v := nI 0) hx hb dX1_isRight_107 (by decide) ?_
            have hres : nI 0 = bI (mrF st) := by rw [mrF, if_pos c_16, hcl, if_pos c_84]; rfl
            exact W.zret (v := nI 0) (ty := .boolean) hx hb hr rfl (fun t ht _ => ⟨congrArg (fun z : Int32 => Outcome.returned (some (Value.int z))) hres, ht⟩) (fun _ h => by cases h) dX1_isRight_108
          · refine lv_aload_n hx hb dX1_isRight_87 rfl (lv_at hl 0 rfl) ?_
            refine lv_bipush (v := nI 59) hx hb dX1_isRight_88 (by decide) ?_
            refine lv_iconst (v := nI 4) hx hb dX1_isRight_90 (by decide) ?_
            refine bj_call (v := .long (nuF st 59 4 0)) (W.runV (As := [.int (nI 59), .int (nI 4)]) (rest := []) ⟨hx, hb, hml, hown, hts⟩ (c_X1_number l dC dI cA ad th st tp tl cb cy nc dn lf of ro 59 4 (by decide) (by decide)) (cwV 2 hts gX1_isRight_X1_number rfl rfl rfl (by decide +kernel) ⟨Nat.le_of_ble_eq_true rfl, Nat.le_of_ble_eq_true rfl⟩) ⟨fun a U g mk q => by obtain ⟨q0, qP, qK⟩ := q; exact ⟨q0, qP, va_K.moved (u := U) (U := U.calling g mk a) (Vm.Alike.refl U.vm) qK⟩, va_recv hK hP (ci := 1) (q0 := 0) rfl rfl, fun U hU hW => ⟨rfl, by rw [hU]; exact hP, va_K.moved hW.alike hK⟩⟩ rfl rfl hl.1 rfl (lv_room (Nat.le_of_ble_eq_true rfl)) dX1_isRight_91 ⟨Nat.le_of_ble_eq_true rfl, Nat.le_of_ble_eq_true rfl⟩) ?_
            refine lv_aload_n hx hb dX1_isRight_94 rfl (lv_at hl 0 rfl) ?_
            refine lv_iload_n hx hb dX1_isRight_95 rfl (lv_at hl 1 rfl) ?_
            refine bj_call (v := .long (ckM st n)) (W.runV (As := [.int (nI n)]) (rest := [.long (nuF st 59 4 0)]) ⟨hx, hb, hml, hown, hts⟩ (c_X1_check l dC dI cA ad th st tp tl cb cy nc dn lf of ro n (by omega)) (cwV 1 hts gX1_isRight_X1_check rfl rfl rfl (by decide +kernel) ⟨Nat.le_of_ble_eq_true rfl, Nat.le_of_ble_eq_true rfl⟩) ⟨fun a U g mk q => by obtain ⟨q0, qP, qK⟩ := q; exact ⟨q0, qP, va_K.moved (u := U) (U := U.calling g mk a) (Vm.Alike.refl U.vm) qK⟩, va_recv hK hP (ci := 1) (q0 := 0) rfl rfl, fun U hU hW => ⟨rfl, by rw [hU]; exact hP, va_K.moved hW.alike hK⟩⟩ rfl rfl hl.1 rfl (lv_room (Nat.le_of_ble_eq_true rfl)) dX1_isRight_96 ⟨Nat.le_of_ble_eq_true rfl, Nat.le_of_ble_eq_true rfl⟩) ?_
            refine W.lcmp hx hb dX1_isRight_99 ?_
            refine lv_if_ne (tgt := 107) hx hb dX1_isRight_100 (by decide) (fun c_100 => ?_) (fun c_100 => ?_)
            · have m_100 := fun h => c_100 ((lg_cmp_eq (nuF st 59 4 0) (ckM st n)).mpr h)
              refine lv_iconst (v := nI 0) hx hb dX1_isRight_107 (by decide) ?_
              have hres : nI 0 = bI (mrF st) := by rw [mrF, if_pos c_16, hcl, if_neg c_84, if_pos m_100]; rfl
              exact W.zret (v := nI 0) (ty := .boolean) hx hb hr rfl (fun t ht _ => ⟨congrArg (fun z : Int32 => Outcome.returned (some (Value.int z))) hres, ht⟩) (fun _ h => by cases h) dX1_isRight_108
            · have m_100 := (lg_cmp_eq (nuF st 59 4 0) (ckM st n)).mp c_100
              refine lv_iconst (v := nI 1) hx hb dX1_isRight_103 (by decide) ?_
              refine lv_goto (tgt := 108) hx hb dX1_isRight_104 (by decide) ?_
              have hres : nI 1 = bI (mrF st) := by rw [mrF, if_pos c_16, hcl, if_neg c_84, if_neg (not_not_intro m_100)]; rfl
              exact W.zret (v := nI 1) (ty := .boolean) hx hb hr rfl (fun t ht _ => ⟨congrArg (fun z : Int32 => Outcome.returned (some (Value.int z))) hres, ht⟩) (fun _ h => by cases h) dX1_isRight_108
        · have n_27 : ¬ n ≤ i := fun h => c_27 ((nI_leI (by omega) (by omega)).mpr h)
          exfalso; omega
      | succ k ih =>
        intro i r hk hR ls hl
        refine lv_iload_n hx hb dX1_isRight_25 rfl (lv_at hl 3 rfl) ?_
        refine lv_iload_n hx hb dX1_isRight_26 rfl (lv_at hl 1 rfl) ?_
        refine lv_icmp_ge (tgt := 83) hx hb dX1_isRight_27 (by decide) (fun c_27 => ?_) (fun c_27 => ?_)
        · have n_27 : n ≤ i := (nI_leI (by omega) (by omega)).mp c_27
          exfalso; omega
        · have n_27 : ¬ n ≤ i := fun h => c_27 ((nI_leI (by omega) (by omega)).mpr h)
          refine lv_iload_n hx hb dX1_isRight_30 rfl (lv_at hl 2 rfl) ?_
          refine lv_if_eq (tgt := 75) hx hb dX1_isRight_31 (by decide) (fun c_31 => ?_) (fun c_31 => ?_)
          · refine lv_iconst (v := nI 0) hx hb dX1_isRight_75 (by decide) ?_
            refine lv_istore_n (lv' := [(2, .int (nI 0)), (0, .ref (ad 0)), (1, .int (nI n)), (3, .int (nI i))]) hx hb dX1_isRight_76 rfl hl (by decide) rfl (fun ls hl => ?_)
            refine lv_iinc (v := nI (i + 1)) (lv' := [(3, .int (nI (i + 1))), (2, .int (nI 0)), (0, .ref (ad 0)), (1, .int (nI n))]) hx hb dX1_isRight_77 hl (k := 3) rfl (nI_add i 1) (by decide) rfl (fun ls hl => ?_)
            refine lv_goto (tgt := 25) hx hb dX1_isRight_80 (by decide) ?_
            exact ih (i + 1) _ (by omega) (by rw [hR, irF, if_pos c_31]) _ (lv_sub hl [2, 3, 1, 0] rfl)
          · refine lv_aload_n hx hb dX1_isRight_34 rfl (lv_at hl 0 rfl) ?_
            refine lv_iload_n hx hb dX1_isRight_35 rfl (lv_at hl 3 rfl) ?_
            refine bj_call (v := .int (tgM st i)) (W.runV (As := [.int (nI i)]) (rest := []) ⟨hx, hb, hml, hown, hts⟩ (c_X1_target l dC dI cA ad th st tp tl cb cy nc dn lf of ro i (by omega)) (cwV 1 hts gX1_isRight_X1_target rfl rfl rfl (by decide +kernel) ⟨Nat.le_of_ble_eq_true rfl, Nat.le_of_ble_eq_true rfl⟩) ⟨fun a U g mk q => by obtain ⟨q0, qP, qK⟩ := q; exact ⟨q0, qP, va_K.moved (u := U) (U := U.calling g mk a) (Vm.Alike.refl U.vm) qK⟩, va_recv hK hP (ci := 1) (q0 := 0) rfl rfl, fun U hU hW => ⟨rfl, by rw [hU]; exact hP, va_K.moved hW.alike hK⟩⟩ rfl rfl hl.1 rfl (lv_room (Nat.le_of_ble_eq_true rfl)) dX1_isRight_36 ⟨Nat.le_of_ble_eq_true rfl, Nat.le_of_ble_eq_true rfl⟩) ?_
            refine lv_i2l hx hb dX1_isRight_39 rfl ?_
            refine lv_ldc2 hx hb hown (hts (.constantLong RX1 62 (25)) (by decide +kernel)) dX1_isRight_40 ?_
            refine lv_ldc2 hx hb hown (hts (.constantLong RX1 64 (95)) (by decide +kernel)) dX1_isRight_43 ?_
            refine bj_call (v := .int (bI (wiF (tgM st i).toInt64 25 95))) (W.runS (As := [.long ((tgM st i).toInt64), .long (25), .long (95)]) (rest := []) ⟨hx, hb, hml, hown, hts⟩ (c_X1_within l (tgM st i).toInt64 25 95) (va_cwS 3 hts gX1_isRight_X1_within rfl rfl rfl (by decide +kernel) ⟨Nat.le_of_ble_eq_true rfl, Nat.le_of_ble_eq_true rfl⟩) ⟨fun _ _ _ _ q => q, fun _ _ _ => ⟨rfl, trivial⟩⟩ rfl rfl hl.1 rfl (lv_room (Nat.le_of_ble_eq_true rfl)) dX1_isRight_46 ⟨Nat.le_of_ble_eq_true rfl, Nat.le_of_ble_eq_true rfl⟩) ?_
            refine lv_if_eq (tgt := 75) hx hb dX1_isRight_49 (by decide) (fun c_49 => ?_) (fun c_49 => ?_)
            · refine lv_iconst (v := nI 0) hx hb dX1_isRight_75 (by decide) ?_
              refine lv_istore_n (lv' := [(2, .int (nI 0)), (0, .ref (ad 0)), (1, .int (nI n)), (3, .int (nI i))]) hx hb dX1_isRight_76 rfl hl (by decide) rfl (fun ls hl => ?_)
              refine lv_iinc (v := nI (i + 1)) (lv' := [(3, .int (nI (i + 1))), (2, .int (nI 0)), (0, .ref (ad 0)), (1, .int (nI n))]) hx hb dX1_isRight_77 hl (k := 3) rfl (nI_add i 1) (by decide) rfl (fun ls hl => ?_)
              refine lv_goto (tgt := 25) hx hb dX1_isRight_80 (by decide) ?_
              exact ih (i + 1) _ (by omega) (by rw [hR, irF, if_neg c_31, if_pos c_49]) _ (lv_sub hl [2, 3, 1, 0] rfl)
            · refine lv_iload_n hx hb dX1_isRight_52 rfl (lv_at hl 3 rfl) ?_
              refine lv_if_eq (tgt := 71) hx hb dX1_isRight_53 (by decide) (fun c_53 => ?_) (fun c_53 => ?_)
              · refine lv_iconst (v := nI 1) hx hb dX1_isRight_71 (by decide) ?_
                refine lv_goto (tgt := 76) hx hb dX1_isRight_72 (by decide) ?_
                refine lv_istore_n (lv' := [(2, .int (nI 1)), (0, .ref (ad 0)), (1, .int (nI n)), (3, .int (nI i))]) hx hb dX1_isRight_76 rfl hl (by decide) rfl (fun ls hl => ?_)
                refine lv_iinc (v := nI (i + 1)) (lv' := [(3, .int (nI (i + 1))), (2, .int (nI 1)), (0, .ref (ad 0)), (1, .int (nI n))]) hx hb dX1_isRight_77 hl (k := 3) rfl (nI_add i 1) (by decide) rfl (fun ls hl => ?_)
                refine lv_goto (tgt := 25) hx hb dX1_isRight_80 (by decide) ?_
                exact ih (i + 1) _ (by omega) (by rw [hR, irF, if_neg c_31, if_neg c_49, if_pos c_53]) _ (lv_sub hl [2, 3, 1, 0] rfl)
              · refine lv_aload_n hx hb dX1_isRight_56 rfl (lv_at hl 0 rfl) ?_
                refine lv_iload_n hx hb dX1_isRight_57 rfl (lv_at hl 3 rfl) ?_
                refine bj_call (v := .int (tgM st i)) (W.runV (As := [.int (nI i)]) (rest := []) ⟨hx, hb, hml, hown, hts⟩ (c_X1_target l dC dI cA ad th st tp tl cb cy nc dn lf of ro i (by omega)) (cwV 1 hts gX1_isRight_X1_target rfl rfl rfl (by decide +kernel) ⟨Nat.le_of_ble_eq_true rfl, Nat.le_of_ble_eq_true rfl⟩) ⟨fun a U g mk q => by obtain ⟨q0, qP, qK⟩ := q; exact ⟨q0, qP, va_K.moved (u := U) (U := U.calling g mk a) (Vm.Alike.refl U.vm) qK⟩, va_recv hK hP (ci := 1) (q0 := 0) rfl rfl, fun U hU hW => ⟨rfl, by rw [hU]; exact hP, va_K.moved hW.alike hK⟩⟩ rfl rfl hl.1 rfl (lv_room (Nat.le_of_ble_eq_true rfl)) dX1_isRight_58 ⟨Nat.le_of_ble_eq_true rfl, Nat.le_of_ble_eq_true rfl⟩) ?_
                refine lv_aload_n hx hb dX1_isRight_61 rfl (lv_at hl 0 rfl) ?_
                refine lv_iload_n hx hb dX1_isRight_62 rfl (lv_at hl 3 rfl) ?_
                refine lv_iconst (v := nI 1) hx hb dX1_isRight_63 (by decide) ?_
                have hi0 : 0 < i := Nat.pos_of_ne_zero (fun h => c_53 (by rw [h]; decide))
                refine lv_isub hx hb dX1_isRight_64 ?_
                refine bj_i (pk_sub (a := i) (b := 1) (by omega)) ?_
                refine bj_call (v := .int (tgM st (i - 1))) (W.runV (As := [.int (nI (i - 1))]) (rest := [.int (tgM st i)]) ⟨hx, hb, hml, hown, hts⟩ (c_X1_target l dC dI cA ad th st tp tl cb cy nc dn lf of ro (i - 1) (by omega)) (cwV 1 hts gX1_isRight_X1_target rfl rfl rfl (by decide +kernel) ⟨Nat.le_of_ble_eq_true rfl, Nat.le_of_ble_eq_true rfl⟩) ⟨fun a U g mk q => by obtain ⟨q0, qP, qK⟩ := q; exact ⟨q0, qP, va_K.moved (u := U) (U := U.calling g mk a) (Vm.Alike.refl U.vm) qK⟩, va_recv hK hP (ci := 1) (q0 := 0) rfl rfl, fun U hU hW => ⟨rfl, by rw [hU]; exact hP, va_K.moved hW.alike hK⟩⟩ rfl rfl hl.1 rfl (lv_room (Nat.le_of_ble_eq_true rfl)) dX1_isRight_65 ⟨Nat.le_of_ble_eq_true rfl, Nat.le_of_ble_eq_true rfl⟩) ?_
                refine lv_icmp_le (tgt := 75) hx hb dX1_isRight_68 (by decide) (fun c_68 => ?_) (fun c_68 => ?_)
                · refine lv_iconst (v := nI 0) hx hb dX1_isRight_75 (by decide) ?_
                  refine lv_istore_n (lv' := [(2, .int (nI 0)), (0, .ref (ad 0)), (1, .int (nI n)), (3, .int (nI i))]) hx hb dX1_isRight_76 rfl hl (by decide) rfl (fun ls hl => ?_)
                  refine lv_iinc (v := nI (i + 1)) (lv' := [(3, .int (nI (i + 1))), (2, .int (nI 0)), (0, .ref (ad 0)), (1, .int (nI n))]) hx hb dX1_isRight_77 hl (k := 3) rfl (nI_add i 1) (by decide) rfl (fun ls hl => ?_)
                  refine lv_goto (tgt := 25) hx hb dX1_isRight_80 (by decide) ?_
                  exact ih (i + 1) _ (by omega) (by rw [hR, irF, if_neg c_31, if_neg c_49, if_neg c_53, if_pos c_68]) _ (lv_sub hl [2, 3, 1, 0] rfl)
                · refine lv_iconst (v := nI 1) hx hb dX1_isRight_71 (by decide) ?_
                  refine lv_goto (tgt := 76) hx hb dX1_isRight_72 (by decide) ?_
                  refine lv_istore_n (lv' := [(2, .int (nI 1)), (0, .ref (ad 0)), (1, .int (nI n)), (3, .int (nI i))]) hx hb dX1_isRight_76 rfl hl (by decide) rfl (fun ls hl => ?_)
                  refine lv_iinc (v := nI (i + 1)) (lv' := [(3, .int (nI (i + 1))), (2, .int (nI 1)), (0, .ref (ad 0)), (1, .int (nI n))]) hx hb dX1_isRight_77 hl (k := 3) rfl (nI_add i 1) (by decide) rfl (fun ls hl => ?_)
                  refine lv_goto (tgt := 25) hx hb dX1_isRight_80 (by decide) ?_
                  exact ih (i + 1) _ (by omega) (by rw [hR, irF, if_neg c_31, if_neg c_49, if_neg c_53, if_neg c_68]) _ (lv_sub hl [2, 3, 1, 0] rfl)
    exact loop_25 n 0 (nI 1) (by omega) rfl _ (lv_sub hl [3, 2, 1, 0] rfl)
  · refine lv_iconst (v := nI 0) hx hb dX1_isRight_19 (by decide) ?_
    have hres : nI 0 = bI (mrF st) := by rw [mrF, if_neg (not_not_intro c_16)]; rfl
    exact W.zret (v := nI 0) (ty := .boolean) hx hb hr rfl (fun t ht _ => ⟨congrArg (fun z : Int32 => Outcome.returned (some (Value.int z))) hres, ht⟩) (fun _ h => by cases h) dX1_isRight_20

set_option maxHeartbeats 4000000 in
set_option maxRecDepth 100000 in
theorem c_X1_find (l : Launch) (dC : Nat → ClassId) (dI : Nat → Nat → Nat) (cA : ClassId) (ad : Nat → Nat) (th : Int32) (st tp : Nat → Int32) (tl : Int32) (cb cy : Nat → Int32) (dn lf : Int64) (of : Int32) (ro : Nat → Int32) (n : Nat) (b : Int32) (hn : n ≤ 24) : Met l yX1_find wsX1_find ({ frames := 0, cells := 0, slots := 0, locals := 0 } : Room) (va_Pc [.ref (ad 0), .int b] (fun U => va_P (dC, dI) vwCl (wM cA ad th st tp tl cb cy (nI n) dn lf of ro) U.heap ∧ va_K (dC, dI) vwCl [(cA, .int)] U)) (bj_Q (some (.int (fnF cb b n 0)))) 0 0 (fun _ => False) := by
  refine Met.ofW (cc := cX1_find) (maxL := 3) (ret := (some .int)) (by decide) rfl ?_
  intro p e s m args below meth c s₁ B hml hv
  obtain ⟨rfl, hP, hK⟩ := hv
  have hx := B.exec
  have hb := B.bytes
  have hr := B.returns
  have hts := atoms_spec (ws := wsX1_find) B.pre
  have hown : s.vm.findClass RX1 = some m.cls := findClass_of_methodNamed B.named
  have hlocks := B.notSynchronized
  have hin : ∀ w ∈ u_ws RX1 TX1 11, w ∈ wsX1_find := by decide +kernel
  have hl := lv_entry ([.ref (ad 0), .int b]) (n := 3) (Nat.le_of_ble_eq_true rfl)
  rw [lg_entry_eq]
  generalize (lg_sl ([.ref (ad 0), .int b]) ++ List.replicate (3 - (lg_sl ([.ref (ad 0), .int b])).length) Slot.unset).toArray = ls at hl ⊢
  have hl : lv_has ls 3 [(0, .ref (ad 0)), (1, .int b)] := hl
  refine lv_iconst (v := nI 0) hx hb dX1_find_0 (by decide) ?_
  refine lv_istore_n (lv' := [(2, .int (nI 0)), (0, .ref (ad 0)), (1, .int b)]) hx hb dX1_find_1 rfl hl (by decide) rfl (fun ls hl => ?_)
  have loop_2 : ∀ (k : Nat) (i : Nat), i + k = n → fnF cb b n 0 = fnF cb b k i → ∀ ls : Array Slot, lv_has ls 3 [(0, .ref (ad 0)), (1, .int b), (2, .int (nI i))] → W p l e (headSpec wsX1_find ({ frames := 0, cells := 0, slots := 0, locals := 0 } : Room)).room s m ([.ref (ad 0), .int b] : List Value).toArray below meth c s.heap [] 0 0 (MQ below (bj_Q (some (.int (fnF cb b n 0)))) ([.ref (ad 0), .int b] : List Value).toArray s 0 0 (fun _ => False)) (F0 m 2 ls []) := by
    intro k
    induction k with
    | zero =>
      intro i hk hR ls hl
      refine lv_iload_n hx hb dX1_find_2 rfl (lv_at hl 2 rfl) ?_
      refine lv_aload_n hx hb dX1_find_3 rfl (lv_at hl 0 rfl) ?_
      refine va_get (D := (dC, dI)) (ci := 1) (v := .int (nI n)) (C := RX1) (T := TX1) (N := 11) hx hb hts hin hown hK hP 0 rfl rfl 6 (by decide) (hts (.fieldLink RX1 81 "BlockJournalModel" "changes" "I") (by decide +kernel)) (fun _ h9 => h9) rfl dX1_find_4 ?_
      refine lv_icmp_ge (tgt := 28) hx hb dX1_find_7 (by decide) (fun c_7 => ?_) (fun c_7 => ?_)
      · have n_7 : n ≤ i := (nI_leI (by omega) (by omega)).mp c_7
        refine lv_iconst (v := (-1)) hx hb dX1_find_28 (by decide) ?_
        have hres : (-1) = fnF cb b n 0 := by rw [hR, fnF]
        exact W.iret (v := (-1)) hx hb hr (fun t ht _ => ⟨congrArg (fun z : Int32 => Outcome.returned (some (Value.int z))) hres, ht⟩) (fun _ h => by cases h) dX1_find_29
      · have n_7 : ¬ n ≤ i := fun h => c_7 ((nI_leI (by omega) (by omega)).mpr h)
        exfalso; omega
    | succ k ih =>
      intro i hk hR ls hl
      refine lv_iload_n hx hb dX1_find_2 rfl (lv_at hl 2 rfl) ?_
      refine lv_aload_n hx hb dX1_find_3 rfl (lv_at hl 0 rfl) ?_
      refine va_get (D := (dC, dI)) (ci := 1) (v := .int (nI n)) (C := RX1) (T := TX1) (N := 11) hx hb hts hin hown hK hP 0 rfl rfl 6 (by decide) (hts (.fieldLink RX1 81 "BlockJournalModel" "changes" "I") (by decide +kernel)) (fun _ h9 => h9) rfl dX1_find_4 ?_
      refine lv_icmp_ge (tgt := 28) hx hb dX1_find_7 (by decide) (fun c_7 => ?_) (fun c_7 => ?_)
      · have n_7 : n ≤ i := (nI_leI (by omega) (by omega)).mp c_7
        exfalso; omega
      · have n_7 : ¬ n ≤ i := fun h => c_7 ((nI_leI (by omega) (by omega)).mpr h)
        refine lv_aload_n hx hb dX1_find_10 rfl (lv_at hl 0 rfl) ?_
        refine va_get (D := (dC, dI)) (ci := 1) (v := .ref (ad 3)) (C := RX1) (T := TX1) (N := 11) hx hb hts hin hown hK hP 0 rfl rfl 4 (by decide) (hts (.fieldLink RX1 16 "BlockJournalModel" "change" "[I") (by decide +kernel)) (fun _ h9 => h9) rfl dX1_find_11 ?_
        refine lv_iload_n hx hb dX1_find_14 rfl (lv_at hl 2 rfl) ?_
        refine va_iald (D := (dC, dI)) hx hb hK hP 3 0 (cA := cA) (n := 24) (f := cb) rfl rfl (i := (nI i)) (vp_in_nI (by omega) (by omega)) dX1_find_15 ?_
        refine bj_i (y := cb i) (congrArg cb (nI_clamp (by omega))) ?_
        refine lv_iload_n hx hb dX1_find_16 rfl (lv_at hl 1 rfl) ?_
        refine lv_icmp_ne (tgt := 22) hx hb dX1_find_17 (by decide) (fun c_17 => ?_) (fun c_17 => ?_)
        · refine lv_iinc (v := nI (i + 1)) (lv' := [(2, .int (nI (i + 1))), (0, .ref (ad 0)), (1, .int b)]) hx hb dX1_find_22 hl (k := 2) rfl (nI_add i 1) (by decide) rfl (fun ls hl => ?_)
          refine lv_goto (tgt := 2) hx hb dX1_find_25 (by decide) ?_
          exact ih (i + 1) (by omega) (by rw [hR, fnF, if_pos c_17]) _ (lv_sub hl [1, 2, 0] rfl)
        · refine lv_iload_n hx hb dX1_find_20 rfl (lv_at hl 2 rfl) ?_
          have hres : nI i = fnF cb b n 0 := by rw [hR, fnF, if_neg (not_not_intro c_17)]
          exact W.iret (v := nI i) hx hb hr (fun t ht _ => ⟨congrArg (fun z : Int32 => Outcome.returned (some (Value.int z))) hres, ht⟩) (fun _ h => by cases h) dX1_find_21
  exact loop_2 n 0 (by omega) rfl _ (lv_sub hl [1, 2, 0] rfl)

set_option maxHeartbeats 4000000 in
set_option maxRecDepth 100000 in
theorem c_X1_ranked (l : Launch) (dC : Nat → ClassId) (dI : Nat → Nat → Nat) (cA : ClassId) (ad : Nat → Nat) (th : Int32) (st tp : Nat → Int32) (tl : Int32) (cb cy : Nat → Int32) (dn lf : Int64) (of : Int32) (ro : Nat → Int32) (n : Nat) (i : Nat) (hn : n ≤ 24) (hi : i < 2 ^ 31) : Met l yX1_ranked wsX1_ranked ({ frames := 0, cells := 0, slots := 0, locals := 0 } : Room) (va_Pc [.ref (ad 0), .int (nI i)] (fun U => va_P (dC, dI) vwCl (wM cA ad th st tp tl cb cy (nI n) dn lf of ro) U.heap ∧ va_K (dC, dI) vwCl [(cA, .int)] U)) (bj_Q (some (.int (raF cb n i n 0)))) 0 0 (fun _ => False) := by
  refine Met.ofW (cc := cX1_ranked) (maxL := 5) (ret := (some .int)) (by decide) rfl ?_
  intro p e s m args below meth c s₁ B hml hv
  obtain ⟨rfl, hP, hK⟩ := hv
  have hx := B.exec
  have hb := B.bytes
  have hr := B.returns
  have hts := atoms_spec (ws := wsX1_ranked) B.pre
  have hown : s.vm.findClass RX1 = some m.cls := findClass_of_methodNamed B.named
  have hlocks := B.notSynchronized
  have hin : ∀ w ∈ u_ws RX1 TX1 11, w ∈ wsX1_ranked := by decide +kernel
  have hl := lv_entry ([.ref (ad 0), .int (nI i)]) (n := 5) (Nat.le_of_ble_eq_true rfl)
  rw [lg_entry_eq]
  generalize (lg_sl ([.ref (ad 0), .int (nI i)]) ++ List.replicate (5 - (lg_sl ([.ref (ad 0), .int (nI i)])).length) Slot.unset).toArray = ls at hl ⊢
  have hl : lv_has ls 5 [(0, .ref (ad 0)), (1, .int (nI i))] := hl
  refine lv_iconst (v := nI 0) hx hb dX1_ranked_0 (by decide) ?_
  refine lv_istore_n (lv' := [(2, .int (nI 0)), (0, .ref (ad 0)), (1, .int (nI i))]) hx hb dX1_ranked_1 rfl hl (by decide) rfl (fun ls hl => ?_)
  have loop_2 : ∀ (k : Nat) (q : Nat), q + k = n → raF cb n i n 0 = raF cb n i k q → ∀ ls : Array Slot, lv_has ls 5 [(0, .ref (ad 0)), (1, .int (nI i)), (2, .int (nI q))] → W p l e (headSpec wsX1_ranked ({ frames := 0, cells := 0, slots := 0, locals := 0 } : Room)).room s m ([.ref (ad 0), .int (nI i)] : List Value).toArray below meth c s.heap [] 0 0 (MQ below (bj_Q (some (.int (raF cb n i n 0)))) ([.ref (ad 0), .int (nI i)] : List Value).toArray s 0 0 (fun _ => False)) (F0 m 2 ls []) := by
    intro k
    induction k with
    | zero =>
      intro q hk hR ls hl
      refine lv_iload_n hx hb dX1_ranked_2 rfl (lv_at hl 2 rfl) ?_
      refine lv_aload_n hx hb dX1_ranked_3 rfl (lv_at hl 0 rfl) ?_
      refine va_get (D := (dC, dI)) (ci := 1) (v := .int (nI n)) (C := RX1) (T := TX1) (N := 11) hx hb hts hin hown hK hP 0 rfl rfl 6 (by decide) (hts (.fieldLink RX1 81 "BlockJournalModel" "changes" "I") (by decide +kernel)) (fun _ h9 => h9) rfl dX1_ranked_4 ?_
      refine lv_icmp_ge (tgt := 67) hx hb dX1_ranked_7 (by decide) (fun c_7 => ?_) (fun c_7 => ?_)
      · have n_7 : n ≤ q := (nI_leI (by omega) (by omega)).mp c_7
        refine lv_iconst (v := (-1)) hx hb dX1_ranked_67 (by decide) ?_
        have hres : (-1) = raF cb n i n 0 := by rw [hR, raF]
        exact W.iret (v := (-1)) hx hb hr (fun t ht _ => ⟨congrArg (fun z : Int32 => Outcome.returned (some (Value.int z))) hres, ht⟩) (fun _ h => by cases h) dX1_ranked_68
      · have n_7 : ¬ n ≤ q := fun h => c_7 ((nI_leI (by omega) (by omega)).mpr h)
        exfalso; omega
    | succ k ih =>
      intro q hk hR ls hl
      refine lv_iload_n hx hb dX1_ranked_2 rfl (lv_at hl 2 rfl) ?_
      refine lv_aload_n hx hb dX1_ranked_3 rfl (lv_at hl 0 rfl) ?_
      refine va_get (D := (dC, dI)) (ci := 1) (v := .int (nI n)) (C := RX1) (T := TX1) (N := 11) hx hb hts hin hown hK hP 0 rfl rfl 6 (by decide) (hts (.fieldLink RX1 81 "BlockJournalModel" "changes" "I") (by decide +kernel)) (fun _ h9 => h9) rfl dX1_ranked_4 ?_
      refine lv_icmp_ge (tgt := 67) hx hb dX1_ranked_7 (by decide) (fun c_7 => ?_) (fun c_7 => ?_)
      · have n_7 : n ≤ q := (nI_leI (by omega) (by omega)).mp c_7
        exfalso; omega
      · have n_7 : ¬ n ≤ q := fun h => c_7 ((nI_leI (by omega) (by omega)).mpr h)
        refine lv_iconst (v := nI 0) hx hb dX1_ranked_10 (by decide) ?_
        refine lv_istore_n (lv' := [(3, .int (nI 0)), (0, .ref (ad 0)), (1, .int (nI i)), (2, .int (nI q))]) hx hb dX1_ranked_11 rfl hl (by decide) rfl (fun ls hl => ?_)
        refine lv_iconst (v := nI 0) hx hb dX1_ranked_12 (by decide) ?_
        refine lv_istore (lv' := [(4, .int (nI 0)), (3, .int (nI 0)), (0, .ref (ad 0)), (1, .int (nI i)), (2, .int (nI q))]) hx hb dX1_ranked_13 hl (by decide) rfl (fun ls hl => ?_)
        have loop_15 : ∀ (k : Nat) (j : Nat) (b : Nat), j + k = n → blF cb (cb q) n 0 0 = blF cb (cb q) k j b → b ≤ j → ∀ ls : Array Slot, lv_has ls 5 [(0, .ref (ad 0)), (1, .int (nI i)), (2, .int (nI q)), (3, .int (nI b)), (4, .int (nI j))] → W p l e (headSpec wsX1_ranked ({ frames := 0, cells := 0, slots := 0, locals := 0 } : Room)).room s m ([.ref (ad 0), .int (nI i)] : List Value).toArray below meth c s.heap [] 0 0 (MQ below (bj_Q (some (.int (raF cb n i n 0)))) ([.ref (ad 0), .int (nI i)] : List Value).toArray s 0 0 (fun _ => False)) (F0 m 15 ls []) := by
          intro k
          induction k with
          | zero =>
            intro j b hj hB hb9 ls hl
            refine lv_iload hx hb dX1_ranked_15 (lv_at hl 4 rfl) ?_
            refine lv_aload_n hx hb dX1_ranked_17 rfl (lv_at hl 0 rfl) ?_
            refine va_get (D := (dC, dI)) (ci := 1) (v := .int (nI n)) (C := RX1) (T := TX1) (N := 11) hx hb hts hin hown hK hP 0 rfl rfl 6 (by decide) (hts (.fieldLink RX1 81 "BlockJournalModel" "changes" "I") (by decide +kernel)) (fun _ h9 => h9) rfl dX1_ranked_18 ?_
            refine lv_icmp_ge (tgt := 54) hx hb dX1_ranked_21 (by decide) (fun c_21 => ?_) (fun c_21 => ?_)
            · have n_21 : n ≤ j := (nI_leI (by omega) (by omega)).mp c_21
              refine lv_iload_n hx hb dX1_ranked_54 rfl (lv_at hl 3 rfl) ?_
              refine lv_iload_n hx hb dX1_ranked_55 rfl (lv_at hl 1 rfl) ?_
              refine lv_icmp_ne (tgt := 61) hx hb dX1_ranked_56 (by decide) (fun c_56 => ?_) (fun c_56 => ?_)
              · have n_56 : ¬ b = i := fun h => c_56 ((nI_eq (by omega) (by omega)).mpr h)
                refine lv_iinc (v := nI (q + 1)) (lv' := [(2, .int (nI (q + 1))), (0, .ref (ad 0)), (1, .int (nI i)), (3, .int (nI b)), (4, .int (nI j))]) hx hb dX1_ranked_61 hl (k := 2) rfl (nI_add q 1) (by decide) rfl (fun ls hl => ?_)
                refine lv_goto (tgt := 2) hx hb dX1_ranked_64 (by decide) ?_
                exact ih (q + 1) (by omega) (by rw [hR, raF, if_pos (by rw [hB]; exact n_56)]) _ (lv_sub hl [1, 2, 0] rfl)
              · have n_56 : b = i := (nI_eq (by omega) (by omega)).mp c_56
                refine lv_iload_n hx hb dX1_ranked_59 rfl (lv_at hl 2 rfl) ?_
                have hres : nI q = raF cb n i n 0 := by rw [hR, raF, if_neg (not_not_intro (by rw [hB]; exact n_56))]
                exact W.iret (v := nI q) hx hb hr (fun t ht _ => ⟨congrArg (fun z : Int32 => Outcome.returned (some (Value.int z))) hres, ht⟩) (fun _ h => by cases h) dX1_ranked_60
            · have n_21 : ¬ n ≤ j := fun h => c_21 ((nI_leI (by omega) (by omega)).mpr h)
              exfalso; omega
          | succ k ih =>
            intro j b hj hB hb9 ls hl
            refine lv_iload hx hb dX1_ranked_15 (lv_at hl 4 rfl) ?_
            refine lv_aload_n hx hb dX1_ranked_17 rfl (lv_at hl 0 rfl) ?_
            refine va_get (D := (dC, dI)) (ci := 1) (v := .int (nI n)) (C := RX1) (T := TX1) (N := 11) hx hb hts hin hown hK hP 0 rfl rfl 6 (by decide) (hts (.fieldLink RX1 81 "BlockJournalModel" "changes" "I") (by decide +kernel)) (fun _ h9 => h9) rfl dX1_ranked_18 ?_
            refine lv_icmp_ge (tgt := 54) hx hb dX1_ranked_21 (by decide) (fun c_21 => ?_) (fun c_21 => ?_)
            · have n_21 : n ≤ j := (nI_leI (by omega) (by omega)).mp c_21
              exfalso; omega
            · have n_21 : ¬ n ≤ j := fun h => c_21 ((nI_leI (by omega) (by omega)).mpr h)
              refine lv_iload_n hx hb dX1_ranked_24 rfl (lv_at hl 3 rfl) ?_
              refine lv_aload_n hx hb dX1_ranked_25 rfl (lv_at hl 0 rfl) ?_
              refine va_get (D := (dC, dI)) (ci := 1) (v := .ref (ad 3)) (C := RX1) (T := TX1) (N := 11) hx hb hts hin hown hK hP 0 rfl rfl 4 (by decide) (hts (.fieldLink RX1 16 "BlockJournalModel" "change" "[I") (by decide +kernel)) (fun _ h9 => h9) rfl dX1_ranked_26 ?_
              refine lv_iload hx hb dX1_ranked_29 (lv_at hl 4 rfl) ?_
              refine va_iald (D := (dC, dI)) hx hb hK hP 3 0 (cA := cA) (n := 24) (f := cb) rfl rfl (i := (nI j)) (vp_in_nI (by omega) (by omega)) dX1_ranked_31 ?_
              refine bj_i (y := cb j) (congrArg cb (nI_clamp (by omega))) ?_
              refine lv_aload_n hx hb dX1_ranked_32 rfl (lv_at hl 0 rfl) ?_
              refine va_get (D := (dC, dI)) (ci := 1) (v := .ref (ad 3)) (C := RX1) (T := TX1) (N := 11) hx hb hts hin hown hK hP 0 rfl rfl 4 (by decide) (hts (.fieldLink RX1 16 "BlockJournalModel" "change" "[I") (by decide +kernel)) (fun _ h9 => h9) rfl dX1_ranked_33 ?_
              refine lv_iload_n hx hb dX1_ranked_36 rfl (lv_at hl 2 rfl) ?_
              refine va_iald (D := (dC, dI)) hx hb hK hP 3 0 (cA := cA) (n := 24) (f := cb) rfl rfl (i := (nI q)) (vp_in_nI (by omega) (by omega)) dX1_ranked_37 ?_
              refine bj_i (y := cb q) (congrArg cb (nI_clamp (by omega))) ?_
              refine lv_icmp_ge (tgt := 45) hx hb dX1_ranked_38 (by decide) (fun c_38 => ?_) (fun c_38 => ?_)
              · refine lv_iconst (v := nI 0) hx hb dX1_ranked_45 (by decide) ?_
                refine lv_iadd hx hb dX1_ranked_46 ?_
                refine bj_i (nI_add b 0) ?_
                refine lv_istore_n (lv' := [(3, .int (nI (b + 0))), (0, .ref (ad 0)), (1, .int (nI i)), (2, .int (nI q)), (4, .int (nI j))]) hx hb dX1_ranked_47 rfl hl (by decide) rfl (fun ls hl => ?_)
                refine lv_iinc (v := nI (j + 1)) (lv' := [(4, .int (nI (j + 1))), (3, .int (nI (b + 0))), (0, .ref (ad 0)), (1, .int (nI i)), (2, .int (nI q))]) hx hb dX1_ranked_48 hl (k := 4) rfl (nI_add j 1) (by decide) rfl (fun ls hl => ?_)
                refine lv_goto (tgt := 15) hx hb dX1_ranked_51 (by decide) ?_
                exact ih (j + 1) _ (by omega) (by rw [hB, blF, if_pos c_38]) (by omega) _ (lv_sub hl [2, 3, 4, 1, 0] rfl)
              · refine lv_iconst (v := nI 1) hx hb dX1_ranked_41 (by decide) ?_
                refine lv_goto (tgt := 46) hx hb dX1_ranked_42 (by decide) ?_
                refine lv_iadd hx hb dX1_ranked_46 ?_
                refine bj_i (nI_add b 1) ?_
                refine lv_istore_n (lv' := [(3, .int (nI (b + 1))), (0, .ref (ad 0)), (1, .int (nI i)), (2, .int (nI q)), (4, .int (nI j))]) hx hb dX1_ranked_47 rfl hl (by decide) rfl (fun ls hl => ?_)
                refine lv_iinc (v := nI (j + 1)) (lv' := [(4, .int (nI (j + 1))), (3, .int (nI (b + 1))), (0, .ref (ad 0)), (1, .int (nI i)), (2, .int (nI q))]) hx hb dX1_ranked_48 hl (k := 4) rfl (nI_add j 1) (by decide) rfl (fun ls hl => ?_)
                refine lv_goto (tgt := 15) hx hb dX1_ranked_51 (by decide) ?_
                exact ih (j + 1) _ (by omega) (by rw [hB, blF, if_neg c_38]) (by omega) _ (lv_sub hl [2, 3, 4, 1, 0] rfl)
        exact loop_15 n 0 0 (by omega) rfl (Nat.le_refl _) _ (lv_sub hl [2, 3, 4, 1, 0] rfl)
  exact loop_2 n 0 (by omega) rfl _ (lv_sub hl [1, 2, 0] rfl)
end
section
abbrev MS : Type := Int32 × (Nat → Int32) × (Nat → Int32) × Int32 × (Nat → Int32) × (Nat → Int32) × Int32 × Int64 × Int64 × Int32 × (Nat → Int32)
abbrev wMu (cA : ClassId) (ad : Nat → Nat) (u : MS) : va_W := wM cA ad u.1 u.2.1 u.2.2.1 u.2.2.2.1 u.2.2.2.2.1 u.2.2.2.2.2.1 u.2.2.2.2.2.2.1 u.2.2.2.2.2.2.2.1 u.2.2.2.2.2.2.2.2.1 u.2.2.2.2.2.2.2.2.2.1 u.2.2.2.2.2.2.2.2.2.2
abbrev aM (dC : Nat → ClassId) (dI : Nat → Nat → Nat) (cA : ClassId) (ad : Nat → Nat) (A : Nat → Prop) (u : MS) (t : State) : Prop :=
  va_P (dC, dI) vwCl (wMu cA ad u) t.heap ∧ va_K (dC, dI) vwCl [(cA, .int)] t ∧ va_D A (wMu cA ad u)
/-- whether a write is done -/
def mwB (of : Int32) (lf : Int64) : Bool := if ¬ of = 0 then false else if ¬ lf = 0 then true else false
def wmF (ro st : Nat → Int32) (b : Nat) : Nat → Nat → Int32
  | 0 => st
  | i + 1 => upd (wmF ro st b i) (64 * b + i) (ro i)
def mwS (ro st : Nat → Int32) (of : Int32) (lf : Int64) (b : Nat) : Nat → Int32 := if mwB of lf = true then wmF ro st b 64 else st
def mwO (of : Int32) (lf : Int64) : Int32 := if mwB of lf = true then nI 0 else nI 1
def mwL (of : Int32) (lf : Int64) : Int64 := if mwB of lf = true then lf - (if lf ≤ 0 then 0 else 1) else lf
def mwD (of : Int32) (lf dn : Int64) : Int64 := if mwB of lf = true then dn + 1 else dn
def lb0 (f : Nat → Int32) (q : Int64) : Nat → Nat → Int32
  | 0 => f
  | i + 1 => upd (lb0 f q i) i (((q >>> ((nI (8 * i)).toInt64 &&& 63)) &&& 255).toInt32)
def lb9 (f : Nat → Int32) (q : Int64) : Nat → Nat → Int32
  | 0 => f
  | i + 1 => upd (lb9 f q i) (59 + i) (((q >>> ((nI (8 * i)).toInt64 &&& 63)) &&& 255).toInt32)
def tmF (f cb : Nat → Int32) (pi : Nat → Nat) : Nat → Nat → Int32
  | 0 => f
  | i + 1 => upd (upd (tmF f cb pi i) (5 + 2 * i) (cb (pi i) &&& nI 255)) (6 + 2 * i) (cb (pi i) >>> (nI 8 &&& 31))
def meF (ro : Nat → Int32) (q : Int64) : Nat → Int32 := lb0 (fiF ro (nI 0) 64) q 4
def mfF (st ro cb : Nat → Int32) (pi : Nat → Nat) (n : Nat) (q : Int64) : Nat → Int32 := lb9 (tmF (upd (meF ro q) 4 (nI n)) cb pi n) (ckM st n) 4
def hdF (st ro cb : Nat → Int32) (pi : Nat → Nat) (n : Nat) (q : Int64) : Nat → Int32 := if ¬ nI n = 0 then mfF st ro cb pi n q else meF ro q
theorem nI_inj0 {n : Nat} (hn : n < 2 ^ 31) (h : nI n = 0) : n = 0 := by
  rcases Nat.eq_zero_or_pos n with q | q
  · exact q
  · exact absurd h (nI_ne0 q hn)

set_option maxHeartbeats 4000000 in
set_option maxRecDepth 100000 in
theorem c_X1_fails (l : Launch) (dC : Nat → ClassId) (dI : Nat → Nat → Nat) (cA : ClassId) (ad : Nat → Nat) (sz : Nat) (th : Int32) (st tp : Nat → Int32) (tl : Int32) (cb cy : Nat → Int32) (nc : Int32) (dn lf : Int64) (of : Int32) (ro : Nat → Int32) (z k : Int32) (hz : narrow .boolean (.int z) = .int z) : Met l yX1_fails wsX1_fails ({ frames := 0, cells := 0, slots := 0, locals := 0 } : Room) (va_Pc [.ref (ad 0), .int z, .int k] (fun U => U.heap.size = sz ∧ va_P (dC, dI) vwCl (wM cA ad th st tp tl cb cy nc dn lf of ro) U.heap ∧ va_K (dC, dI) vwCl [(cA, .int)] U ∧ va_D (fun _ => True) (wM cA ad th st tp tl cb cy nc dn lf of ro))) (va_Qi (fun (r : Int32) (u : MS) => r = z ∧ u = (if z = 0 then nI 0 else k, st, tp, tl, cb, cy, nc, dn, lf, of, ro)) (aM dC dI cA ad (va_A (wM cA ad th st tp tl cb cy nc dn lf of ro) sz)) (va_A (wM cA ad th st tp tl cb cy nc dn lf of ro) sz)) 0 0 (va_A (wM cA ad th st tp tl cb cy nc dn lf of ro) sz) := by
  refine Met.ofW (cc := cX1_fails) (maxL := 3) (ret := (some .boolean)) (by decide) rfl ?_
  intro p e s m args below meth c s₁ B hml hv
  obtain ⟨rfl, hsz, hP, hK, hD0⟩ := hv
  have hx := B.exec
  have hb := B.bytes
  have hr := B.returns
  have hts := atoms_spec (ws := wsX1_fails) B.pre
  have hown : s.vm.findClass RX1 = some m.cls := findClass_of_methodNamed B.named
  have hlocks := B.notSynchronized
  have hin : ∀ w ∈ u_ws RX1 TX1 11, w ∈ wsX1_fails := by decide +kernel
  subst hsz
  have hD := hD0.self (sz := s.heap.size)
  generalize hAe : va_A (wM cA ad th st tp tl cb cy nc dn lf of ro) s.heap.size = A at hD ⊢
  have hA : ∀ q : Nat, s.heap.size ≤ q → A q := fun q h => by rw [← hAe]; exact Or.inr h
  obtain ⟨H, locs, hH, hlo, hS⟩ : ∃ (H : Heap) (locs : List Loc), H = s.heap ∧ locs = [] ∧ va_S A s.heap H locs := ⟨s.heap, [], rfl, rfl, va_S.rf⟩
  rw [← hH] at hP
  have hP : va_P (dC, dI) vwCl (wM cA ad th st tp tl cb cy nc dn lf of ro) H := hP
  have hl := lv_entry ([.ref (ad 0), .int z, .int k]) (n := 3) (Nat.le_of_ble_eq_true rfl)
  rw [lg_entry_eq]
  generalize (lg_sl ([.ref (ad 0), .int z, .int k]) ++ List.replicate (3 - (lg_sl ([.ref (ad 0), .int z, .int k])).length) Slot.unset).toArray = ls at hl ⊢
  have goal : W p l e (headSpec wsX1_fails ({ frames := 0, cells := 0, slots := 0, locals := 0 } : Room)).room s m ([.ref (ad 0), .int z, .int k] : List Value).toArray below meth c H locs 0 0 (MQ below (va_Qi (fun (r : Int32) (u : MS) => r = z ∧ u = (if z = 0 then nI 0 else k, st, tp, tl, cb, cy, nc, dn, lf, of, ro)) (aM dC dI cA ad A) A) ([.ref (ad 0), .int z, .int k] : List Value).toArray s 0 0 A) (F0 m 0 ls []) := by
    clear hH hlo
    have hl : lv_has ls 3 [(0, .ref (ad 0)), (1, .int z), (2, .int k)] := hl
    refine lv_aload_n hx hb dX1_fails_0 rfl (lv_at hl 0 rfl) ?_
    refine lv_iload_n hx hb dX1_fails_1 rfl (lv_at hl 1 rfl) ?_
    refine lv_if_eq (tgt := 9) hx hb dX1_fails_2 (by decide) (fun c_2 => ?_) (fun c_2 => ?_)
    · refine lv_iconst (v := nI 0) hx hb dX1_fails_9 (by decide) ?_
      refine va_put (D := (dC, dI)) (ci := 1) (v := .int (nI 0)) (ty := .int) (C := RX1) (T := TX1) (N := 11) hx hb hts hin tyX1 tyX1_ok nmX1 hown hK hP hD hS 0 rfl rfl 0 (by decide) (hts (.fieldLink RX1 31 "BlockJournalModel" "thrown" "I") (by decide +kernel)) (fun _ h9 => h9) rfl (by decide +kernel) rfl rfl (Nat.le_of_ble_eq_true rfl) dX1_fails_10 (fun H locs hP hD hS => ?_)
      have hP : va_P (dC, dI) vwCl (wM cA ad (nI 0) st tp tl cb cy nc dn lf of ro) H := hP
      have hD : va_D A (wM cA ad (nI 0) st tp tl cb cy nc dn lf of ro) := hD
      refine lv_iload_n hx hb dX1_fails_13 rfl (lv_at hl 1 rfl) ?_
      have hpost : ((nI 0, st, tp, tl, cb, cy, nc, dn, lf, of, ro) : MS) = (if z = 0 then nI 0 else k, st, tp, tl, cb, cy, nc, dn, lf, of, ro) := by rw [if_pos c_2]
      have hres : z = z := rfl
      exact W.zret (v := z) (ty := .boolean) hx hb hr hz (fun t ht hW => ⟨⟨_, (nI 0, st, tp, tl, cb, cy, nc, dn, lf, of, ro), rfl, ⟨hres, hpost⟩, by rw [ht]; exact hP, va_K.moved hW.alike hK, hD⟩, hS.F ht⟩) hS.2.2 dX1_fails_14
    · refine lv_iload_n hx hb dX1_fails_5 rfl (lv_at hl 2 rfl) ?_
      refine lv_goto (tgt := 10) hx hb dX1_fails_6 (by decide) ?_
      refine va_put (D := (dC, dI)) (ci := 1) (v := .int k) (ty := .int) (C := RX1) (T := TX1) (N := 11) hx hb hts hin tyX1 tyX1_ok nmX1 hown hK hP hD hS 0 rfl rfl 0 (by decide) (hts (.fieldLink RX1 31 "BlockJournalModel" "thrown" "I") (by decide +kernel)) (fun _ h9 => h9) rfl (by decide +kernel) rfl rfl (Nat.le_of_ble_eq_true rfl) dX1_fails_10 (fun H locs hP hD hS => ?_)
      have hP : va_P (dC, dI) vwCl (wM cA ad k st tp tl cb cy nc dn lf of ro) H := hP
      have hD : va_D A (wM cA ad k st tp tl cb cy nc dn lf of ro) := hD
      refine lv_iload_n hx hb dX1_fails_13 rfl (lv_at hl 1 rfl) ?_
      have hpost : ((k, st, tp, tl, cb, cy, nc, dn, lf, of, ro) : MS) = (if z = 0 then nI 0 else k, st, tp, tl, cb, cy, nc, dn, lf, of, ro) := by rw [if_neg c_2]
      have hres : z = z := rfl
      exact W.zret (v := z) (ty := .boolean) hx hb hr hz (fun t ht hW => ⟨⟨_, (k, st, tp, tl, cb, cy, nc, dn, lf, of, ro), rfl, ⟨hres, hpost⟩, by rw [ht]; exact hP, va_K.moved hW.alike hK, hD⟩, hS.F ht⟩) hS.2.2 dX1_fails_14
  rw [hH, hlo] at goal
  exact goal

set_option maxHeartbeats 4000000 in
set_option maxRecDepth 100000 in
theorem c_X1_writes (l : Launch) (dC : Nat → ClassId) (dI : Nat → Nat → Nat) (cA : ClassId) (ad : Nat → Nat) (sz : Nat) (th : Int32) (st tp : Nat → Int32) (tl : Int32) (cb cy : Nat → Int32) (nc : Int32) (dn lf : Int64) (of : Int32) (ro : Nat → Int32) (b : Nat) (hb9 : b < 96) : Met l yX1_writes wsX1_writes ({ frames := 0, cells := 0, slots := 0, locals := 0 } : Room) (va_Pc [.ref (ad 0), .int (nI b)] (fun U => U.heap.size = sz ∧ va_P (dC, dI) vwCl (wM cA ad th st tp tl cb cy nc dn lf of ro) U.heap ∧ va_K (dC, dI) vwCl [(cA, .int)] U ∧ va_D (fun _ => True) (wM cA ad th st tp tl cb cy nc dn lf of ro))) (va_Qi (fun (r : Int32) (u : MS) => r = bI (mwB of lf) ∧ u = (th, mwS ro st of lf b, tp, tl, cb, cy, nc, mwD of lf dn, mwL of lf, mwO of lf, ro)) (aM dC dI cA ad (va_A (wM cA ad th st tp tl cb cy nc dn lf of ro) sz)) (va_A (wM cA ad th st tp tl cb cy nc dn lf of ro) sz)) 0 0 (va_A (wM cA ad th st tp tl cb cy nc dn lf of ro) sz) := by
  refine Met.ofW (cc := cX1_writes) (maxL := 3) (ret := (some .boolean)) (by decide) rfl ?_
  intro p e s m args below meth c s₁ B hml hv
  obtain ⟨rfl, hsz, hP, hK, hD0⟩ := hv
  have hx := B.exec
  have hb := B.bytes
  have hr := B.returns
  have hts := atoms_spec (ws := wsX1_writes) B.pre
  have hown : s.vm.findClass RX1 = some m.cls := findClass_of_methodNamed B.named
  have hlocks := B.notSynchronized
  have hin : ∀ w ∈ u_ws RX1 TX1 11, w ∈ wsX1_writes := by decide +kernel
  subst hsz
  have hD := hD0.self (sz := s.heap.size)
  generalize hAe : va_A (wM cA ad th st tp tl cb cy nc dn lf of ro) s.heap.size = A at hD ⊢
  have hA : ∀ q : Nat, s.heap.size ≤ q → A q := fun q h => by rw [← hAe]; exact Or.inr h
  obtain ⟨H, locs, hH, hlo, hS⟩ : ∃ (H : Heap) (locs : List Loc), H = s.heap ∧ locs = [] ∧ va_S A s.heap H locs := ⟨s.heap, [], rfl, rfl, va_S.rf⟩
  rw [← hH] at hP
  have hP : va_P (dC, dI) vwCl (wM cA ad th st tp tl cb cy nc dn lf of ro) H := hP
  have hl := lv_entry ([.ref (ad 0), .int (nI b)]) (n := 3) (Nat.le_of_ble_eq_true rfl)
  rw [lg_entry_eq]
  generalize (lg_sl ([.ref (ad 0), .int (nI b)]) ++ List.replicate (3 - (lg_sl ([.ref (ad 0), .int (nI b)])).length) Slot.unset).toArray = ls at hl ⊢
  have goal : W p l e (headSpec wsX1_writes ({ frames := 0, cells := 0, slots := 0, locals := 0 } : Room)).room s m ([.ref (ad 0), .int (nI b)] : List Value).toArray below meth c H locs 0 0 (MQ below (va_Qi (fun (r : Int32) (u : MS) => r = bI (mwB of lf) ∧ u = (th, mwS ro st of lf b, tp, tl, cb, cy, nc, mwD of lf dn, mwL of lf, mwO of lf, ro)) (aM dC dI cA ad A) A) ([.ref (ad 0), .int (nI b)] : List Value).toArray s 0 0 A) (F0 m 0 ls []) := by
    clear hH hlo
    have hl : lv_has ls 3 [(0, .ref (ad 0)), (1, .int (nI b))] := hl
    refine lv_aload_n hx hb dX1_writes_0 rfl (lv_at hl 0 rfl) ?_
    refine lv_aload_n hx hb dX1_writes_1 rfl (lv_at hl 0 rfl) ?_
    refine va_get (D := (dC, dI)) (ci := 1) (v := .int of) (C := RX1) (T := TX1) (N := 11) hx hb hts hin hown hK hP 0 rfl rfl 9 (by decide) (hts (.fieldLink RX1 35 "BlockJournalModel" "off" "Z") (by decide +kernel)) (fun _ h9 => h9) rfl dX1_writes_2 ?_
    refine lv_if_ne (tgt := 17) hx hb dX1_writes_5 (by decide) (fun c_5 => ?_) (fun c_5 => ?_)
    · refine lv_iconst (v := nI 1) hx hb dX1_writes_17 (by decide) ?_
      refine lv_goto (tgt := 22) hx hb dX1_writes_18 (by decide) ?_
      refine va_put (D := (dC, dI)) (ci := 1) (v := .int (nI 1)) (ty := .boolean) (C := RX1) (T := TX1) (N := 11) hx hb hts hin tyX1 tyX1_ok nmX1 hown hK hP hD hS 0 rfl rfl 9 (by decide) (hts (.fieldLink RX1 35 "BlockJournalModel" "off" "Z") (by decide +kernel)) (fun _ h9 => h9) rfl (by decide +kernel) rfl rfl (Nat.le_of_ble_eq_true rfl) dX1_writes_22 (fun H locs hP hD hS => ?_)
      have hP : va_P (dC, dI) vwCl (wM cA ad th st tp tl cb cy nc dn lf (nI 1) ro) H := hP
      have hD : va_D A (wM cA ad th st tp tl cb cy nc dn lf (nI 1) ro) := hD
      refine lv_aload_n hx hb dX1_writes_25 rfl (lv_at hl 0 rfl) ?_
      refine va_get (D := (dC, dI)) (ci := 1) (v := .int (nI 1)) (C := RX1) (T := TX1) (N := 11) hx hb hts hin hown hK hP 0 rfl rfl 9 (by decide) (hts (.fieldLink RX1 35 "BlockJournalModel" "off" "Z") (by decide +kernel)) (fun _ h9 => h9) rfl dX1_writes_26 ?_
      refine lv_if_eq (tgt := 34) hx hb dX1_writes_29 (by decide) (fun c_29 => ?_) (fun c_29 => ?_)
      · exact absurd c_29 (by decide)
      · refine lv_iconst (v := nI 0) hx hb dX1_writes_32 (by decide) ?_
        have hpost : ((th, st, tp, tl, cb, cy, nc, dn, lf, nI 1, ro) : MS) = (th, mwS ro st of lf b, tp, tl, cb, cy, nc, mwD of lf dn, mwL of lf, mwO of lf, ro) := by simp only [mwS, mwO, mwL, mwD, mwB, if_pos c_5, Bool.false_eq_true, if_false]
        have hres : nI 0 = bI (mwB of lf) := by rw [mwB, if_pos c_5]; rfl
        exact W.zret (v := nI 0) (ty := .boolean) hx hb hr rfl (fun t ht hW => ⟨⟨_, (th, st, tp, tl, cb, cy, nc, dn, lf, nI 1, ro), rfl, ⟨hres, hpost⟩, by rw [ht]; exact hP, va_K.moved hW.alike hK, hD⟩, hS.F ht⟩) hS.2.2 dX1_writes_33
    · refine lv_aload_n hx hb dX1_writes_8 rfl (lv_at hl 0 rfl) ?_
      refine va_get (D := (dC, dI)) (ci := 1) (v := .long lf) (C := RX1) (T := TX1) (N := 11) hx hb hts hin hown hK hP 0 rfl rfl 8 (by decide) (hts (.fieldLink RX1 24 "BlockJournalModel" "left" "J") (by decide +kernel)) (fun _ h9 => h9) rfl dX1_writes_9 ?_
      refine lv_lconst (v := 0) hx hb dX1_writes_12 (by decide) ?_
      refine W.lcmp hx hb dX1_writes_13 ?_
      refine lv_if_ne (tgt := 21) hx hb dX1_writes_14 (by decide) (fun c_14 => ?_) (fun c_14 => ?_)
      · have m_14 := fun h => c_14 ((lg_cmp_eq lf 0).mpr h)
        refine lv_iconst (v := nI 0) hx hb dX1_writes_21 (by decide) ?_
        refine va_put (D := (dC, dI)) (ci := 1) (v := .int (nI 0)) (ty := .boolean) (C := RX1) (T := TX1) (N := 11) hx hb hts hin tyX1 tyX1_ok nmX1 hown hK hP hD hS 0 rfl rfl 9 (by decide) (hts (.fieldLink RX1 35 "BlockJournalModel" "off" "Z") (by decide +kernel)) (fun _ h9 => h9) rfl (by decide +kernel) rfl rfl (Nat.le_of_ble_eq_true rfl) dX1_writes_22 (fun H locs hP hD hS => ?_)
        have hP : va_P (dC, dI) vwCl (wM cA ad th st tp tl cb cy nc dn lf (nI 0) ro) H := hP
        have hD : va_D A (wM cA ad th st tp tl cb cy nc dn lf (nI 0) ro) := hD
        refine lv_aload_n hx hb dX1_writes_25 rfl (lv_at hl 0 rfl) ?_
        refine va_get (D := (dC, dI)) (ci := 1) (v := .int (nI 0)) (C := RX1) (T := TX1) (N := 11) hx hb hts hin hown hK hP 0 rfl rfl 9 (by decide) (hts (.fieldLink RX1 35 "BlockJournalModel" "off" "Z") (by decide +kernel)) (fun _ h9 => h9) rfl dX1_writes_26 ?_
        refine lv_if_eq (tgt := 34) hx hb dX1_writes_29 (by decide) (fun c_29 => ?_) (fun c_29 => ?_)
        · have hmw : mwB of lf = true := by rw [mwB, if_neg (not_not_intro c_5), if_pos m_14]
          refine lv_aload_n hx hb dX1_writes_34 rfl (lv_at hl 0 rfl) ?_
          refine lv_dup hx hb dX1_writes_35 rfl ?_
          refine va_get (D := (dC, dI)) (ci := 1) (v := .long lf) (C := RX1) (T := TX1) (N := 11) hx hb hts hin hown hK hP 0 rfl rfl 8 (by decide) (hts (.fieldLink RX1 24 "BlockJournalModel" "left" "J") (by decide +kernel)) (fun _ h9 => h9) rfl dX1_writes_36 ?_
          refine lv_aload_n hx hb dX1_writes_39 rfl (lv_at hl 0 rfl) ?_
          refine va_get (D := (dC, dI)) (ci := 1) (v := .long lf) (C := RX1) (T := TX1) (N := 11) hx hb hts hin hown hK hP 0 rfl rfl 8 (by decide) (hts (.fieldLink RX1 24 "BlockJournalModel" "left" "J") (by decide +kernel)) (fun _ h9 => h9) rfl dX1_writes_40 ?_
          refine lv_lconst (v := 0) hx hb dX1_writes_43 (by decide) ?_
          refine W.lcmp hx hb dX1_writes_44 ?_
          refine lv_if_le (tgt := 52) hx hb dX1_writes_45 (by decide) (fun c_45 => ?_) (fun c_45 => ?_)
          · have m_45 := (lg_cmp_le lf 0).mp c_45
            refine lv_lconst (v := 0) hx hb dX1_writes_52 (by decide) ?_
            refine lv_lsub hx hb dX1_writes_53 ?_
            refine va_put (D := (dC, dI)) (ci := 1) (v := .long (lf - 0)) (ty := .long) (C := RX1) (T := TX1) (N := 11) hx hb hts hin tyX1 tyX1_ok nmX1 hown hK hP hD hS 0 rfl rfl 8 (by decide) (hts (.fieldLink RX1 24 "BlockJournalModel" "left" "J") (by decide +kernel)) (fun _ h9 => h9) rfl (by decide +kernel) rfl rfl (Nat.le_of_ble_eq_true rfl) dX1_writes_54 (fun H locs hP hD hS => ?_)
            have hP : va_P (dC, dI) vwCl (wM cA ad th st tp tl cb cy nc dn (lf - 0) (nI 0) ro) H := hP
            have hD : va_D A (wM cA ad th st tp tl cb cy nc dn (lf - 0) (nI 0) ro) := hD
            refine lv_aload_n hx hb dX1_writes_57 rfl (lv_at hl 0 rfl) ?_
            refine lv_dup hx hb dX1_writes_58 rfl ?_
            refine va_get (D := (dC, dI)) (ci := 1) (v := .long dn) (C := RX1) (T := TX1) (N := 11) hx hb hts hin hown hK hP 0 rfl rfl 7 (by decide) (hts (.fieldLink RX1 39 "BlockJournalModel" "done" "J") (by decide +kernel)) (fun _ h9 => h9) rfl dX1_writes_59 ?_
            refine lv_lconst (v := 1) hx hb dX1_writes_62 (by decide) ?_
            refine lv_ladd hx hb dX1_writes_63 ?_
            refine va_put (D := (dC, dI)) (ci := 1) (v := .long (dn + 1)) (ty := .long) (C := RX1) (T := TX1) (N := 11) hx hb hts hin tyX1 tyX1_ok nmX1 hown hK hP hD hS 0 rfl rfl 7 (by decide) (hts (.fieldLink RX1 39 "BlockJournalModel" "done" "J") (by decide +kernel)) (fun _ h9 => h9) rfl (by decide +kernel) rfl rfl (Nat.le_of_ble_eq_true rfl) dX1_writes_64 (fun H locs hP hD hS => ?_)
            have hP : va_P (dC, dI) vwCl (wM cA ad th st tp tl cb cy nc (dn + 1) (lf - 0) (nI 0) ro) H := hP
            have hD : va_D A (wM cA ad th st tp tl cb cy nc (dn + 1) (lf - 0) (nI 0) ro) := hD
            refine lv_iconst (v := nI 0) hx hb dX1_writes_67 (by decide) ?_
            refine lv_istore_n (lv' := [(2, .int (nI 0)), (0, .ref (ad 0)), (1, .int (nI b))]) hx hb dX1_writes_68 rfl hl (by decide) rfl (fun ls hl => ?_)
            have loop_69 : ∀ (k : Nat) (i : Nat), i + k = 64 → ∀ (H : Heap) (locs : List Loc) (ls : Array Slot), va_P (dC, dI) vwCl (wM cA ad th (wmF ro st b i) tp tl cb cy nc (dn + 1) (lf - 0) (nI 0) ro) H → va_D A (wM cA ad th (wmF ro st b i) tp tl cb cy nc (dn + 1) (lf - 0) (nI 0) ro) → va_S A s.heap H locs → lv_has ls 3 [(0, .ref (ad 0)), (1, .int (nI b)), (2, .int (nI i))] → W p l e (headSpec wsX1_writes ({ frames := 0, cells := 0, slots := 0, locals := 0 } : Room)).room s m ([.ref (ad 0), .int (nI b)] : List Value).toArray below meth c H locs 0 0 (MQ below (va_Qi (fun (r : Int32) (u : MS) => r = bI (mwB of lf) ∧ u = (th, mwS ro st of lf b, tp, tl, cb, cy, nc, mwD of lf dn, mwL of lf, mwO of lf, ro)) (aM dC dI cA ad A) A) ([.ref (ad 0), .int (nI b)] : List Value).toArray s 0 0 A) (F0 m 69 ls []) := by
              intro k
              induction k with
              | zero =>
                intro i hk H locs ls hP hD hS hl
                refine lv_iload_n hx hb dX1_writes_69 rfl (lv_at hl 2 rfl) ?_
                refine lv_bipush (v := nI 64) hx hb dX1_writes_70 (by decide) ?_
                refine lv_icmp_ge (tgt := 98) hx hb dX1_writes_72 (by decide) (fun c_72 => ?_) (fun c_72 => ?_)
                · have n_72 : 64 ≤ i := (nI_leI (by omega) (by omega)).mp c_72
                  have ei : i = 64 := by omega
                  rw [ei] at hP hD
                  refine lv_iconst (v := nI 1) hx hb dX1_writes_98 (by decide) ?_
                  have hpost : ((th, wmF ro st b 64, tp, tl, cb, cy, nc, dn + 1, lf - 0, nI 0, ro) : MS) = (th, mwS ro st of lf b, tp, tl, cb, cy, nc, mwD of lf dn, mwL of lf, mwO of lf, ro) := by simp only [mwS, mwO, mwL, mwD, hmw, if_true, if_pos m_45]
                  have hres : nI 1 = bI (mwB of lf) := by rw [hmw]; rfl
                  exact W.zret (v := nI 1) (ty := .boolean) hx hb hr rfl (fun t ht hW => ⟨⟨_, (th, wmF ro st b 64, tp, tl, cb, cy, nc, dn + 1, lf - 0, nI 0, ro), rfl, ⟨hres, hpost⟩, by rw [ht]; exact hP, va_K.moved hW.alike hK, hD⟩, hS.F ht⟩) hS.2.2 dX1_writes_99
                · have n_72 : ¬ 64 ≤ i := fun h => c_72 ((nI_leI (by omega) (by omega)).mpr h)
                  exfalso; omega
              | succ k ih =>
                intro i hk H locs ls hP hD hS hl
                refine lv_iload_n hx hb dX1_writes_69 rfl (lv_at hl 2 rfl) ?_
                refine lv_bipush (v := nI 64) hx hb dX1_writes_70 (by decide) ?_
                refine lv_icmp_ge (tgt := 98) hx hb dX1_writes_72 (by decide) (fun c_72 => ?_) (fun c_72 => ?_)
                · have n_72 : 64 ≤ i := (nI_leI (by omega) (by omega)).mp c_72
                  exfalso; omega
                · have n_72 : ¬ 64 ≤ i := fun h => c_72 ((nI_leI (by omega) (by omega)).mpr h)
                  refine lv_aload_n hx hb dX1_writes_75 rfl (lv_at hl 0 rfl) ?_
                  refine va_get (D := (dC, dI)) (ci := 1) (v := .ref (ad 1)) (C := RX1) (T := TX1) (N := 11) hx hb hts hin hown hK hP 0 rfl rfl 1 (by decide) (hts (.fieldLink RX1 7 "BlockJournalModel" "store" "[I") (by decide +kernel)) (fun _ h9 => h9) rfl dX1_writes_76 ?_
                  refine lv_bipush (v := nI 64) hx hb dX1_writes_79 (by decide) ?_
                  refine lv_iload_n hx hb dX1_writes_81 rfl (lv_at hl 1 rfl) ?_
                  refine lv_imul hx hb dX1_writes_82 ?_
                  refine bj_i (pk_mul 64 b) ?_
                  refine lv_iload_n hx hb dX1_writes_83 rfl (lv_at hl 2 rfl) ?_
                  refine lv_iadd hx hb dX1_writes_84 ?_
                  refine bj_i (nI_add (64 * b) i) ?_
                  refine lv_aload_n hx hb dX1_writes_85 rfl (lv_at hl 0 rfl) ?_
                  refine va_get (D := (dC, dI)) (ci := 1) (v := .ref (ad 5)) (C := RX1) (T := TX1) (N := 11) hx hb hts hin hown hK hP 0 rfl rfl 10 (by decide) (hts (.fieldLink RX1 28 "BlockJournalModel" "row" "[I") (by decide +kernel)) (fun _ h9 => h9) rfl dX1_writes_86 ?_
                  refine lv_iload_n hx hb dX1_writes_89 rfl (lv_at hl 2 rfl) ?_
                  refine va_iald (D := (dC, dI)) hx hb hK hP 5 0 (cA := cA) (n := 64) (f := ro) rfl rfl (i := (nI i)) (vp_in_nI (by omega) (by omega)) dX1_writes_90 ?_
                  refine bj_i (y := ro i) (congrArg ro (nI_clamp (by omega))) ?_
                  refine va_iast (D := (dC, dI)) hx hb hK hP hD hS 1 0 (cA := cA) (n := 6144) (f := (wmF ro st b i)) rfl rfl (i := (nI ((64 * b) + i))) (vp_in_nI (by omega) (by omega)) dX1_writes_91 (fun H locs hP hD hS => ?_)
                  rw [nI_clamp (n := (64 * b) + i) (by omega)] at hP hD
                  have hP : va_P (dC, dI) vwCl (wM cA ad th (upd (wmF ro st b i) ((64 * b) + i) (ro i)) tp tl cb cy nc (dn + 1) (lf - 0) (nI 0) ro) H := hP
                  have hD : va_D A (wM cA ad th (upd (wmF ro st b i) ((64 * b) + i) (ro i)) tp tl cb cy nc (dn + 1) (lf - 0) (nI 0) ro) := hD
                  refine lv_iinc (v := nI (i + 1)) (lv' := [(2, .int (nI (i + 1))), (0, .ref (ad 0)), (1, .int (nI b))]) hx hb dX1_writes_92 hl (k := 2) rfl (nI_add i 1) (by decide) rfl (fun ls hl => ?_)
                  refine lv_goto (tgt := 69) hx hb dX1_writes_95 (by decide) ?_
                  exact ih (i + 1) (by omega) _ _ _ hP hD hS (lv_sub hl [1, 2, 0] rfl)
            exact loop_69 64 0 (by omega) _ _ _ hP hD hS (lv_sub hl [1, 2, 0] rfl)
          · have m_45 := fun h => c_45 ((lg_cmp_le lf 0).mpr h)
            refine lv_lconst (v := 1) hx hb dX1_writes_48 (by decide) ?_
            refine lv_goto (tgt := 53) hx hb dX1_writes_49 (by decide) ?_
            refine lv_lsub hx hb dX1_writes_53 ?_
            refine va_put (D := (dC, dI)) (ci := 1) (v := .long (lf - 1)) (ty := .long) (C := RX1) (T := TX1) (N := 11) hx hb hts hin tyX1 tyX1_ok nmX1 hown hK hP hD hS 0 rfl rfl 8 (by decide) (hts (.fieldLink RX1 24 "BlockJournalModel" "left" "J") (by decide +kernel)) (fun _ h9 => h9) rfl (by decide +kernel) rfl rfl (Nat.le_of_ble_eq_true rfl) dX1_writes_54 (fun H locs hP hD hS => ?_)
            have hP : va_P (dC, dI) vwCl (wM cA ad th st tp tl cb cy nc dn (lf - 1) (nI 0) ro) H := hP
            have hD : va_D A (wM cA ad th st tp tl cb cy nc dn (lf - 1) (nI 0) ro) := hD
            refine lv_aload_n hx hb dX1_writes_57 rfl (lv_at hl 0 rfl) ?_
            refine lv_dup hx hb dX1_writes_58 rfl ?_
            refine va_get (D := (dC, dI)) (ci := 1) (v := .long dn) (C := RX1) (T := TX1) (N := 11) hx hb hts hin hown hK hP 0 rfl rfl 7 (by decide) (hts (.fieldLink RX1 39 "BlockJournalModel" "done" "J") (by decide +kernel)) (fun _ h9 => h9) rfl dX1_writes_59 ?_
            refine lv_lconst (v := 1) hx hb dX1_writes_62 (by decide) ?_
            refine lv_ladd hx hb dX1_writes_63 ?_
            refine va_put (D := (dC, dI)) (ci := 1) (v := .long (dn + 1)) (ty := .long) (C := RX1) (T := TX1) (N := 11) hx hb hts hin tyX1 tyX1_ok nmX1 hown hK hP hD hS 0 rfl rfl 7 (by decide) (hts (.fieldLink RX1 39 "BlockJournalModel" "done" "J") (by decide +kernel)) (fun _ h9 => h9) rfl (by decide +kernel) rfl rfl (Nat.le_of_ble_eq_true rfl) dX1_writes_64 (fun H locs hP hD hS => ?_)
            have hP : va_P (dC, dI) vwCl (wM cA ad th st tp tl cb cy nc (dn + 1) (lf - 1) (nI 0) ro) H := hP
            have hD : va_D A (wM cA ad th st tp tl cb cy nc (dn + 1) (lf - 1) (nI 0) ro) := hD
            refine lv_iconst (v := nI 0) hx hb dX1_writes_67 (by decide) ?_
            refine lv_istore_n (lv' := [(2, .int (nI 0)), (0, .ref (ad 0)), (1, .int (nI b))]) hx hb dX1_writes_68 rfl hl (by decide) rfl (fun ls hl => ?_)
            have loop_69 : ∀ (k : Nat) (i : Nat), i + k = 64 → ∀ (H : Heap) (locs : List Loc) (ls : Array Slot), va_P (dC, dI) vwCl (wM cA ad th (wmF ro st b i) tp tl cb cy nc (dn + 1) (lf - 1) (nI 0) ro) H → va_D A (wM cA ad th (wmF ro st b i) tp tl cb cy nc (dn + 1) (lf - 1) (nI 0) ro) → va_S A s.heap H locs → lv_has ls 3 [(0, .ref (ad 0)), (1, .int (nI b)), (2, .int (nI i))] → W p l e (headSpec wsX1_writes ({ frames := 0, cells := 0, slots := 0, locals := 0 } : Room)).room s m ([.ref (ad 0), .int (nI b)] : List Value).toArray below meth c H locs 0 0 (MQ below (va_Qi (fun (r : Int32) (u : MS) => r = bI (mwB of lf) ∧ u = (th, mwS ro st of lf b, tp, tl, cb, cy, nc, mwD of lf dn, mwL of lf, mwO of lf, ro)) (aM dC dI cA ad A) A) ([.ref (ad 0), .int (nI b)] : List Value).toArray s 0 0 A) (F0 m 69 ls []) := by
              intro k
              induction k with
              | zero =>
                intro i hk H locs ls hP hD hS hl
                refine lv_iload_n hx hb dX1_writes_69 rfl (lv_at hl 2 rfl) ?_
                refine lv_bipush (v := nI 64) hx hb dX1_writes_70 (by decide) ?_
                refine lv_icmp_ge (tgt := 98) hx hb dX1_writes_72 (by decide) (fun c_72 => ?_) (fun c_72 => ?_)
                · have n_72 : 64 ≤ i := (nI_leI (by omega) (by omega)).mp c_72
                  have ei : i = 64 := by omega
                  rw [ei] at hP hD
                  refine lv_iconst (v := nI 1) hx hb dX1_writes_98 (by decide) ?_
                  have hpost : ((th, wmF ro st b 64, tp, tl, cb, cy, nc, dn + 1, lf - 1, nI 0, ro) : MS) = (th, mwS ro st of lf b, tp, tl, cb, cy, nc, mwD of lf dn, mwL of lf, mwO of lf, ro) := by simp only [mwS, mwO, mwL, mwD, hmw, if_true, if_neg m_45]
                  have hres : nI 1 = bI (mwB of lf) := by rw [hmw]; rfl
                  exact W.zret (v := nI 1) (ty := .boolean) hx hb hr rfl (fun t ht hW => ⟨⟨_, (th, wmF ro st b 64, tp, tl, cb, cy, nc, dn + 1, lf - 1, nI 0, ro), rfl, ⟨hres, hpost⟩, by rw [ht]; exact hP, va_K.moved hW.alike hK, hD⟩, hS.F ht⟩) hS.2.2 dX1_writes_99
                · have n_72 : ¬ 64 ≤ i := fun h => c_72 ((nI_leI (by omega) (by omega)).mpr h)
                  exfalso; omega
              | succ k ih =>
                intro i hk H locs ls hP hD hS hl
                refine lv_iload_n hx hb dX1_writes_69 rfl (lv_at hl 2 rfl) ?_
                refine lv_bipush (v := nI 64) hx hb dX1_writes_70 (by decide) ?_
                refine lv_icmp_ge (tgt := 98) hx hb dX1_writes_72 (by decide) (fun c_72 => ?_) (fun c_72 => ?_)
                · have n_72 : 64 ≤ i := (nI_leI (by omega) (by omega)).mp c_72
                  exfalso; omega
                · have n_72 : ¬ 64 ≤ i := fun h => c_72 ((nI_leI (by omega) (by omega)).mpr h)
                  refine lv_aload_n hx hb dX1_writes_75 rfl (lv_at hl 0 rfl) ?_
                  refine va_get (D := (dC, dI)) (ci := 1) (v := .ref (ad 1)) (C := RX1) (T := TX1) (N := 11) hx hb hts hin hown hK hP 0 rfl rfl 1 (by decide) (hts (.fieldLink RX1 7 "BlockJournalModel" "store" "[I") (by decide +kernel)) (fun _ h9 => h9) rfl dX1_writes_76 ?_
                  refine lv_bipush (v := nI 64) hx hb dX1_writes_79 (by decide) ?_
                  refine lv_iload_n hx hb dX1_writes_81 rfl (lv_at hl 1 rfl) ?_
                  refine lv_imul hx hb dX1_writes_82 ?_
                  refine bj_i (pk_mul 64 b) ?_
                  refine lv_iload_n hx hb dX1_writes_83 rfl (lv_at hl 2 rfl) ?_
                  refine lv_iadd hx hb dX1_writes_84 ?_
                  refine bj_i (nI_add (64 * b) i) ?_
                  refine lv_aload_n hx hb dX1_writes_85 rfl (lv_at hl 0 rfl) ?_
                  refine va_get (D := (dC, dI)) (ci := 1) (v := .ref (ad 5)) (C := RX1) (T := TX1) (N := 11) hx hb hts hin hown hK hP 0 rfl rfl 10 (by decide) (hts (.fieldLink RX1 28 "BlockJournalModel" "row" "[I") (by decide +kernel)) (fun _ h9 => h9) rfl dX1_writes_86 ?_
                  refine lv_iload_n hx hb dX1_writes_89 rfl (lv_at hl 2 rfl) ?_
                  refine va_iald (D := (dC, dI)) hx hb hK hP 5 0 (cA := cA) (n := 64) (f := ro) rfl rfl (i := (nI i)) (vp_in_nI (by omega) (by omega)) dX1_writes_90 ?_
                  refine bj_i (y := ro i) (congrArg ro (nI_clamp (by omega))) ?_
                  refine va_iast (D := (dC, dI)) hx hb hK hP hD hS 1 0 (cA := cA) (n := 6144) (f := (wmF ro st b i)) rfl rfl (i := (nI ((64 * b) + i))) (vp_in_nI (by omega) (by omega)) dX1_writes_91 (fun H locs hP hD hS => ?_)
                  rw [nI_clamp (n := (64 * b) + i) (by omega)] at hP hD
                  have hP : va_P (dC, dI) vwCl (wM cA ad th (upd (wmF ro st b i) ((64 * b) + i) (ro i)) tp tl cb cy nc (dn + 1) (lf - 1) (nI 0) ro) H := hP
                  have hD : va_D A (wM cA ad th (upd (wmF ro st b i) ((64 * b) + i) (ro i)) tp tl cb cy nc (dn + 1) (lf - 1) (nI 0) ro) := hD
                  refine lv_iinc (v := nI (i + 1)) (lv' := [(2, .int (nI (i + 1))), (0, .ref (ad 0)), (1, .int (nI b))]) hx hb dX1_writes_92 hl (k := 2) rfl (nI_add i 1) (by decide) rfl (fun ls hl => ?_)
                  refine lv_goto (tgt := 69) hx hb dX1_writes_95 (by decide) ?_
                  exact ih (i + 1) (by omega) _ _ _ hP hD hS (lv_sub hl [1, 2, 0] rfl)
            exact loop_69 64 0 (by omega) _ _ _ hP hD hS (lv_sub hl [1, 2, 0] rfl)
        · exact absurd (by decide) c_29
      · have m_14 := (lg_cmp_eq lf 0).mp c_14
        refine lv_iconst (v := nI 1) hx hb dX1_writes_17 (by decide) ?_
        refine lv_goto (tgt := 22) hx hb dX1_writes_18 (by decide) ?_
        refine va_put (D := (dC, dI)) (ci := 1) (v := .int (nI 1)) (ty := .boolean) (C := RX1) (T := TX1) (N := 11) hx hb hts hin tyX1 tyX1_ok nmX1 hown hK hP hD hS 0 rfl rfl 9 (by decide) (hts (.fieldLink RX1 35 "BlockJournalModel" "off" "Z") (by decide +kernel)) (fun _ h9 => h9) rfl (by decide +kernel) rfl rfl (Nat.le_of_ble_eq_true rfl) dX1_writes_22 (fun H locs hP hD hS => ?_)
        have hP : va_P (dC, dI) vwCl (wM cA ad th st tp tl cb cy nc dn lf (nI 1) ro) H := hP
        have hD : va_D A (wM cA ad th st tp tl cb cy nc dn lf (nI 1) ro) := hD
        refine lv_aload_n hx hb dX1_writes_25 rfl (lv_at hl 0 rfl) ?_
        refine va_get (D := (dC, dI)) (ci := 1) (v := .int (nI 1)) (C := RX1) (T := TX1) (N := 11) hx hb hts hin hown hK hP 0 rfl rfl 9 (by decide) (hts (.fieldLink RX1 35 "BlockJournalModel" "off" "Z") (by decide +kernel)) (fun _ h9 => h9) rfl dX1_writes_26 ?_
        refine lv_if_eq (tgt := 34) hx hb dX1_writes_29 (by decide) (fun c_29 => ?_) (fun c_29 => ?_)
        · exact absurd c_29 (by decide)
        · refine lv_iconst (v := nI 0) hx hb dX1_writes_32 (by decide) ?_
          have hpost : ((th, st, tp, tl, cb, cy, nc, dn, lf, nI 1, ro) : MS) = (th, mwS ro st of lf b, tp, tl, cb, cy, nc, mwD of lf dn, mwL of lf, mwO of lf, ro) := by simp only [mwS, mwO, mwL, mwD, mwB, if_neg (not_not_intro c_5), if_neg (not_not_intro m_14), Bool.false_eq_true, if_false]
          have hres : nI 0 = bI (mwB of lf) := by rw [mwB, if_neg (not_not_intro c_5), if_neg (not_not_intro m_14)]; rfl
          exact W.zret (v := nI 0) (ty := .boolean) hx hb hr rfl (fun t ht hW => ⟨⟨_, (th, st, tp, tl, cb, cy, nc, dn, lf, nI 1, ro), rfl, ⟨hres, hpost⟩, by rw [ht]; exact hP, va_K.moved hW.alike hK, hD⟩, hS.F ht⟩) hS.2.2 dX1_writes_33
  rw [hH, hlo] at goal
  exact goal

set_option maxHeartbeats 4000000 in
set_option maxRecDepth 100000 in
theorem c_X1_headed (l : Launch) (dC : Nat → ClassId) (dI : Nat → Nat → Nat) (cA : ClassId) (ad : Nat → Nat) (sz : Nat) (th : Int32) (st tp : Nat → Int32) (tl : Int32) (cb cy : Nat → Int32) (dn lf : Int64) (of : Int32) (ro : Nat → Int32) (N n : Nat) (q : Int64) (pi : Nat → Nat) (hN : N ≤ 24) (hn : n ≤ 24) (hpi : ∀ i, i < n → pi i < 24 ∧ raF cb N i N 0 = nI (pi i)) : Met l yX1_headed wsX1_headed ({ frames := 1, cells := 0, slots := 0, locals := 28 } : Room) (va_Pc [.ref (ad 0), .long q, .int (nI n)] (fun U => U.heap.size = sz ∧ va_P (dC, dI) vwCl (wM cA ad th st tp tl cb cy (nI N) dn lf of ro) U.heap ∧ va_K (dC, dI) vwCl [(cA, .int)] U ∧ va_D (fun _ => True) (wM cA ad th st tp tl cb cy (nI N) dn lf of ro))) (va_Qv (fun u : MS => u = (th, st, tp, tl, cb, cy, nI N, dn, lf, of, hdF st ro cb pi n q)) (aM dC dI cA ad (va_A (wM cA ad th st tp tl cb cy (nI N) dn lf of ro) sz)) (va_A (wM cA ad th st tp tl cb cy (nI N) dn lf of ro) sz)) 0 0 (va_A (wM cA ad th st tp tl cb cy (nI N) dn lf of ro) sz) := by
  refine Met.ofW (cc := cX1_headed) (maxL := 7) (ret := none) (by decide) rfl ?_
  intro p e s m args below meth c s₁ B hml hv
  obtain ⟨rfl, hsz, hP, hK, hD0⟩ := hv
  have hx := B.exec
  have hb := B.bytes
  have hr := B.returns
  have hts := atoms_spec (ws := wsX1_headed) B.pre
  have hown : s.vm.findClass RX1 = some m.cls := findClass_of_methodNamed B.named
  have hlocks := B.notSynchronized
  have hin : ∀ w ∈ u_ws RX1 TX1 11, w ∈ wsX1_headed := by decide +kernel
  subst hsz
  have hD := hD0.self (sz := s.heap.size)
  generalize hAe : va_A (wM cA ad th st tp tl cb cy (nI N) dn lf of ro) s.heap.size = A at hD ⊢
  have hA : ∀ q : Nat, s.heap.size ≤ q → A q := fun q h => by rw [← hAe]; exact Or.inr h
  obtain ⟨H, locs, hH, hlo, hS⟩ : ∃ (H : Heap) (locs : List Loc), H = s.heap ∧ locs = [] ∧ va_S A s.heap H locs := ⟨s.heap, [], rfl, rfl, va_S.rf⟩
  rw [← hH] at hP
  have hP : va_P (dC, dI) vwCl (wM cA ad th st tp tl cb cy (nI N) dn lf of ro) H := hP
  have hl := lv_entry ([.ref (ad 0), .long q, .int (nI n)]) (n := 7) (Nat.le_of_ble_eq_true rfl)
  rw [lg_entry_eq]
  generalize (lg_sl ([.ref (ad 0), .long q, .int (nI n)]) ++ List.replicate (7 - (lg_sl ([.ref (ad 0), .long q, .int (nI n)])).length) Slot.unset).toArray = ls at hl ⊢
  have goal : W p l e (headSpec wsX1_headed ({ frames := 1, cells := 0, slots := 0, locals := 28 } : Room)).room s m ([.ref (ad 0), .long q, .int (nI n)] : List Value).toArray below meth c H locs 0 0 (MQ below (va_Qv (fun u : MS => u = (th, st, tp, tl, cb, cy, nI N, dn, lf, of, hdF st ro cb pi n q)) (aM dC dI cA ad A) A) ([.ref (ad 0), .long q, .int (nI n)] : List Value).toArray s 0 0 A) (F0 m 0 ls []) := by
    clear hH hlo
    have hl : lv_has ls 7 [(0, .ref (ad 0)), (1, .long q), (3, .int (nI n))] := hl
    refine lv_iconst (v := nI 0) hx hb dX1_headed_0 (by decide) ?_
    refine lv_istore (lv' := [(4, .int (nI 0)), (0, .ref (ad 0)), (1, .long q), (3, .int (nI n))]) hx hb dX1_headed_1 hl (by decide) rfl (fun ls hl => ?_)
    have hP : va_P (dC, dI) vwCl (wM cA ad th st tp tl cb cy (nI N) dn lf of (fiF ro (nI 0) 0)) H := by rw [fiF_0]; exact hP
    have hD : va_D A (wM cA ad th st tp tl cb cy (nI N) dn lf of (fiF ro (nI 0) 0)) := by rw [fiF_0]; exact hD
    have loop_3 : ∀ (k : Nat) (i : Nat), i + k = 64 → ∀ (H : Heap) (locs : List Loc) (ls : Array Slot), va_P (dC, dI) vwCl (wM cA ad th st tp tl cb cy (nI N) dn lf of (fiF ro (nI 0) i)) H → va_D A (wM cA ad th st tp tl cb cy (nI N) dn lf of (fiF ro (nI 0) i)) → va_S A s.heap H locs → lv_has ls 7 [(0, .ref (ad 0)), (1, .long q), (3, .int (nI n)), (4, .int (nI i))] → W p l e (headSpec wsX1_headed ({ frames := 1, cells := 0, slots := 0, locals := 28 } : Room)).room s m ([.ref (ad 0), .long q, .int (nI n)] : List Value).toArray below meth c H locs 0 0 (MQ below (va_Qv (fun u : MS => u = (th, st, tp, tl, cb, cy, nI N, dn, lf, of, hdF st ro cb pi n q)) (aM dC dI cA ad A) A) ([.ref (ad 0), .long q, .int (nI n)] : List Value).toArray s 0 0 A) (F0 m 3 ls []) := by
      intro k
      induction k with
      | zero =>
        intro i hk H locs ls hP hD hS hl
        refine lv_iload hx hb dX1_headed_3 (lv_at hl 3 rfl) ?_
        refine lv_bipush (v := nI 64) hx hb dX1_headed_5 (by decide) ?_
        refine lv_icmp_ge (tgt := 24) hx hb dX1_headed_7 (by decide) (fun c_7 => ?_) (fun c_7 => ?_)
        · have n_7 : 64 ≤ i := (nI_leI (by omega) (by omega)).mp c_7
          have ei : i = 64 := by omega
          rw [ei] at hP hD
          refine lv_iconst (v := nI 0) hx hb dX1_headed_24 (by decide) ?_
          refine lv_istore (lv' := [(4, .int (nI 0)), (0, .ref (ad 0)), (1, .long q), (3, .int (nI n))]) hx hb dX1_headed_25 hl (by decide) rfl (fun ls hl => ?_)
          have loop_27 : ∀ (k : Nat) (i : Nat), i + k = 4 → ∀ (H : Heap) (locs : List Loc) (ls : Array Slot), va_P (dC, dI) vwCl (wM cA ad th st tp tl cb cy (nI N) dn lf of (lb0 (fiF ro (nI 0) 64) q i)) H → va_D A (wM cA ad th st tp tl cb cy (nI N) dn lf of (lb0 (fiF ro (nI 0) 64) q i)) → va_S A s.heap H locs → lv_has ls 7 [(0, .ref (ad 0)), (1, .long q), (3, .int (nI n)), (4, .int (nI i))] → W p l e (headSpec wsX1_headed ({ frames := 1, cells := 0, slots := 0, locals := 28 } : Room)).room s m ([.ref (ad 0), .long q, .int (nI n)] : List Value).toArray below meth c H locs 0 0 (MQ below (va_Qv (fun u : MS => u = (th, st, tp, tl, cb, cy, nI N, dn, lf, of, hdF st ro cb pi n q)) (aM dC dI cA ad A) A) ([.ref (ad 0), .long q, .int (nI n)] : List Value).toArray s 0 0 A) (F0 m 27 ls []) := by
            intro k
            induction k with
            | zero =>
              intro i hk H locs ls hP hD hS hl
              refine lv_iload hx hb dX1_headed_27 (lv_at hl 3 rfl) ?_
              refine lv_iconst (v := nI 4) hx hb dX1_headed_29 (by decide) ?_
              refine lv_icmp_ge (tgt := 58) hx hb dX1_headed_30 (by decide) (fun c_30 => ?_) (fun c_30 => ?_)
              · have n_30 : 4 ≤ i := (nI_leI (by omega) (by omega)).mp c_30
                have ei2 : i = 4 := by omega
                rw [ei2] at hP hD
                have hP : va_P (dC, dI) vwCl (wM cA ad th st tp tl cb cy (nI N) dn lf of (meF ro q)) H := hP
                have hD : va_D A (wM cA ad th st tp tl cb cy (nI N) dn lf of (meF ro q)) := hD
                refine lv_iload_n hx hb dX1_headed_58 rfl (lv_at hl 2 rfl) ?_
                refine lv_if_ne (tgt := 63) hx hb dX1_headed_59 (by decide) (fun c_59 => ?_) (fun c_59 => ?_)
                · refine lv_aload_n hx hb dX1_headed_63 rfl (lv_at hl 0 rfl) ?_
                  refine va_get (D := (dC, dI)) (ci := 1) (v := .ref (ad 5)) (C := RX1) (T := TX1) (N := 11) hx hb hts hin hown hK hP 0 rfl rfl 10 (by decide) (hts (.fieldLink RX1 28 "BlockJournalModel" "row" "[I") (by decide +kernel)) (fun _ h9 => h9) rfl dX1_headed_64 ?_
                  refine lv_iconst (v := nI 4) hx hb dX1_headed_67 (by decide) ?_
                  refine lv_iload_n hx hb dX1_headed_68 rfl (lv_at hl 2 rfl) ?_
                  refine va_iast (D := (dC, dI)) hx hb hK hP hD hS 5 0 (cA := cA) (n := 64) (f := (meF ro q)) rfl rfl (i := (nI 4)) (vp_in_nI (by omega) (by omega)) dX1_headed_69 (fun H locs hP hD hS => ?_)
                  rw [nI_clamp (n := 4) (by omega)] at hP hD
                  have hP : va_P (dC, dI) vwCl (wM cA ad th st tp tl cb cy (nI N) dn lf of (upd (meF ro q) 4 (nI n))) H := hP
                  have hD : va_D A (wM cA ad th st tp tl cb cy (nI N) dn lf of (upd (meF ro q) 4 (nI n))) := hD
                  refine lv_aload_n hx hb dX1_headed_70 rfl (lv_at hl 0 rfl) ?_
                  refine lv_iload_n hx hb dX1_headed_71 rfl (lv_at hl 2 rfl) ?_
                  refine bj_call (v := .long (ckM st n)) (W.runV (As := [.int (nI n)]) (rest := []) ⟨hx, hb, hml, hown, hts⟩ (c_X1_check l dC dI cA ad th st tp tl cb cy (nI N) dn lf of (upd (meF ro q) 4 (nI n)) n (by omega)) (cwV 1 hts gX1_headed_X1_check rfl rfl rfl (by decide +kernel) ⟨Nat.le_of_ble_eq_true rfl, Nat.le_of_ble_eq_true rfl⟩) ⟨fun a U g mk q => by obtain ⟨q0, qP, qK⟩ := q; exact ⟨q0, qP, va_K.moved (u := U) (U := U.calling g mk a) (Vm.Alike.refl U.vm) qK⟩, va_recv hK hP (ci := 1) (q0 := 0) rfl rfl, fun U hU hW => ⟨rfl, by rw [hU]; exact hP, va_K.moved hW.alike hK⟩⟩ rfl rfl hl.1 rfl (lv_room (Nat.le_of_ble_eq_true rfl)) dX1_headed_72 ⟨Nat.le_of_ble_eq_true rfl, Nat.le_of_ble_eq_true rfl⟩) ?_
                  refine lv_lstore (lv' := [(4, .long (ckM st n)), (0, .ref (ad 0)), (1, .long q), (3, .int (nI n))]) hx hb dX1_headed_75 hl (by decide) rfl (fun ls hl => ?_)
                  refine lv_iconst (v := nI 0) hx hb dX1_headed_77 (by decide) ?_
                  refine lv_istore (lv' := [(6, .int (nI 0)), (4, .long (ckM st n)), (0, .ref (ad 0)), (1, .long q), (3, .int (nI n))]) hx hb dX1_headed_78 hl (by decide) rfl (fun ls hl => ?_)
                  have loop_80 : ∀ (k : Nat) (i : Nat), i + k = n → ∀ (H : Heap) (locs : List Loc) (ls : Array Slot), va_P (dC, dI) vwCl (wM cA ad th st tp tl cb cy (nI N) dn lf of (tmF (upd (meF ro q) 4 (nI n)) cb pi i)) H → va_D A (wM cA ad th st tp tl cb cy (nI N) dn lf of (tmF (upd (meF ro q) 4 (nI n)) cb pi i)) → va_S A s.heap H locs → lv_has ls 7 [(0, .ref (ad 0)), (1, .long q), (3, .int (nI n)), (4, .long (ckM st n)), (6, .int (nI i))] → W p l e (headSpec wsX1_headed ({ frames := 1, cells := 0, slots := 0, locals := 28 } : Room)).room s m ([.ref (ad 0), .long q, .int (nI n)] : List Value).toArray below meth c H locs 0 0 (MQ below (va_Qv (fun u : MS => u = (th, st, tp, tl, cb, cy, nI N, dn, lf, of, hdF st ro cb pi n q)) (aM dC dI cA ad A) A) ([.ref (ad 0), .long q, .int (nI n)] : List Value).toArray s 0 0 A) (F0 m 80 ls []) := by
                    intro k
                    induction k with
                    | zero =>
                      intro i hk H locs ls hP hD hS hl
                      refine lv_iload hx hb dX1_headed_80 (lv_at hl 4 rfl) ?_
                      refine lv_iload_n hx hb dX1_headed_82 rfl (lv_at hl 2 rfl) ?_
                      refine lv_icmp_ge (tgt := 144) hx hb dX1_headed_83 (by decide) (fun c_83 => ?_) (fun c_83 => ?_)
                      · have n_83 : n ≤ i := (nI_leI (by omega) (by omega)).mp c_83
                        have ei3 : i = n := by omega
                        rw [ei3] at hP hD
                        refine lv_iconst (v := nI 0) hx hb dX1_headed_144 (by decide) ?_
                        refine lv_istore (lv' := [(6, .int (nI 0)), (0, .ref (ad 0)), (1, .long q), (3, .int (nI n)), (4, .long (ckM st n))]) hx hb dX1_headed_145 hl (by decide) rfl (fun ls hl => ?_)
                        have loop_147 : ∀ (k : Nat) (i : Nat), i + k = 4 → ∀ (H : Heap) (locs : List Loc) (ls : Array Slot), va_P (dC, dI) vwCl (wM cA ad th st tp tl cb cy (nI N) dn lf of (lb9 (tmF (upd (meF ro q) 4 (nI n)) cb pi n) (ckM st n) i)) H → va_D A (wM cA ad th st tp tl cb cy (nI N) dn lf of (lb9 (tmF (upd (meF ro q) 4 (nI n)) cb pi n) (ckM st n) i)) → va_S A s.heap H locs → lv_has ls 7 [(0, .ref (ad 0)), (1, .long q), (3, .int (nI n)), (4, .long (ckM st n)), (6, .int (nI i))] → W p l e (headSpec wsX1_headed ({ frames := 1, cells := 0, slots := 0, locals := 28 } : Room)).room s m ([.ref (ad 0), .long q, .int (nI n)] : List Value).toArray below meth c H locs 0 0 (MQ below (va_Qv (fun u : MS => u = (th, st, tp, tl, cb, cy, nI N, dn, lf, of, hdF st ro cb pi n q)) (aM dC dI cA ad A) A) ([.ref (ad 0), .long q, .int (nI n)] : List Value).toArray s 0 0 A) (F0 m 147 ls []) := by
                          intro k
                          induction k with
                          | zero =>
                            intro i hk H locs ls hP hD hS hl
                            refine lv_iload hx hb dX1_headed_147 (lv_at hl 4 rfl) ?_
                            refine lv_iconst (v := nI 4) hx hb dX1_headed_149 (by decide) ?_
                            refine lv_icmp_ge (tgt := 182) hx hb dX1_headed_150 (by decide) (fun c_150 => ?_) (fun c_150 => ?_)
                            · have n_150 : 4 ≤ i := (nI_leI (by omega) (by omega)).mp c_150
                              have ei4 : i = 4 := by omega
                              rw [ei4] at hP hD
                              have hP : va_P (dC, dI) vwCl (wM cA ad th st tp tl cb cy (nI N) dn lf of (mfF st ro cb pi n q)) H := hP
                              have hD : va_D A (wM cA ad th st tp tl cb cy (nI N) dn lf of (mfF st ro cb pi n q)) := hD
                              have hpost : ((th, st, tp, tl, cb, cy, nI N, dn, lf, of, mfF st ro cb pi n q) : MS) = (th, st, tp, tl, cb, cy, nI N, dn, lf, of, hdF st ro cb pi n q) := by simp only [hdF, if_pos c_59]
                              exact W.vret hx hb hr (fun t ht hW => ⟨⟨(th, st, tp, tl, cb, cy, nI N, dn, lf, of, mfF st ro cb pi n q), rfl, hpost, by rw [ht]; exact hP, va_K.moved hW.alike hK, hD⟩, hS.F ht⟩) hS.2.2 dX1_headed_182
                            · have n_150 : ¬ 4 ≤ i := fun h => c_150 ((nI_leI (by omega) (by omega)).mpr h)
                              exfalso; omega
                          | succ k ih =>
                            intro i hk H locs ls hP hD hS hl
                            refine lv_iload hx hb dX1_headed_147 (lv_at hl 4 rfl) ?_
                            refine lv_iconst (v := nI 4) hx hb dX1_headed_149 (by decide) ?_
                            refine lv_icmp_ge (tgt := 182) hx hb dX1_headed_150 (by decide) (fun c_150 => ?_) (fun c_150 => ?_)
                            · have n_150 : 4 ≤ i := (nI_leI (by omega) (by omega)).mp c_150
                              exfalso; omega
                            · have n_150 : ¬ 4 ≤ i := fun h => c_150 ((nI_leI (by omega) (by omega)).mpr h)
                              refine lv_aload_n hx hb dX1_headed_153 rfl (lv_at hl 0 rfl) ?_
                              refine va_get (D := (dC, dI)) (ci := 1) (v := .ref (ad 5)) (C := RX1) (T := TX1) (N := 11) hx hb hts hin hown hK hP 0 rfl rfl 10 (by decide) (hts (.fieldLink RX1 28 "BlockJournalModel" "row" "[I") (by decide +kernel)) (fun _ h9 => h9) rfl dX1_headed_154 ?_
                              refine lv_bipush (v := nI 59) hx hb dX1_headed_157 (by decide) ?_
                              refine lv_iload hx hb dX1_headed_159 (lv_at hl 4 rfl) ?_
                              refine lv_iadd hx hb dX1_headed_161 ?_
                              refine bj_i (nI_add 59 i) ?_
                              refine lv_lload hx hb dX1_headed_162 (lv_at hl 3 rfl) ?_
                              refine lv_bipush (v := nI 8) hx hb dX1_headed_164 (by decide) ?_
                              refine lv_iload hx hb dX1_headed_166 (lv_at hl 4 rfl) ?_
                              refine lv_imul hx hb dX1_headed_168 ?_
                              refine bj_i (pk_mul 8 i) ?_
                              refine lv_lshr hx hb dX1_headed_169 rfl ?_
                              refine lv_ldc2 hx hb hown (hts (.constantLong RX1 79 (255)) (by decide +kernel)) dX1_headed_170 ?_
                              refine lv_land hx hb dX1_headed_173 ?_
                              refine lv_l2i hx hb dX1_headed_174 rfl ?_
                              refine va_iast (D := (dC, dI)) hx hb hK hP hD hS 5 0 (cA := cA) (n := 64) (f := (lb9 (tmF (upd (meF ro q) 4 (nI n)) cb pi n) (ckM st n) i)) rfl rfl (i := (nI (59 + i))) (vp_in_nI (by omega) (by omega)) dX1_headed_175 (fun H locs hP hD hS => ?_)
                              rw [nI_clamp (n := 59 + i) (by omega)] at hP hD
                              have hP : va_P (dC, dI) vwCl (wM cA ad th st tp tl cb cy (nI N) dn lf of (upd (lb9 (tmF (upd (meF ro q) 4 (nI n)) cb pi n) (ckM st n) i) (59 + i) ((((ckM st n) >>> ((nI (8 * i)).toInt64 &&& 63)) &&& (255)).toInt32))) H := hP
                              have hD : va_D A (wM cA ad th st tp tl cb cy (nI N) dn lf of (upd (lb9 (tmF (upd (meF ro q) 4 (nI n)) cb pi n) (ckM st n) i) (59 + i) ((((ckM st n) >>> ((nI (8 * i)).toInt64 &&& 63)) &&& (255)).toInt32))) := hD
                              refine lv_iinc (v := nI (i + 1)) (lv' := [(6, .int (nI (i + 1))), (0, .ref (ad 0)), (1, .long q), (3, .int (nI n)), (4, .long (ckM st n))]) hx hb dX1_headed_176 hl (k := 4) rfl (nI_add i 1) (by decide) rfl (fun ls hl => ?_)
                              refine lv_goto (tgt := 147) hx hb dX1_headed_179 (by decide) ?_
                              exact ih (i + 1) (by omega) _ _ _ hP hD hS (lv_sub hl [1, 2, 3, 4, 0] rfl)
                        exact loop_147 4 0 (by omega) _ _ _ hP hD hS (lv_sub hl [1, 2, 3, 4, 0] rfl)
                      · have n_83 : ¬ n ≤ i := fun h => c_83 ((nI_leI (by omega) (by omega)).mpr h)
                        exfalso; omega
                    | succ k ih =>
                      intro i hk H locs ls hP hD hS hl
                      refine lv_iload hx hb dX1_headed_80 (lv_at hl 4 rfl) ?_
                      refine lv_iload_n hx hb dX1_headed_82 rfl (lv_at hl 2 rfl) ?_
                      refine lv_icmp_ge (tgt := 144) hx hb dX1_headed_83 (by decide) (fun c_83 => ?_) (fun c_83 => ?_)
                      · have n_83 : n ≤ i := (nI_leI (by omega) (by omega)).mp c_83
                        exfalso; omega
                      · have n_83 : ¬ n ≤ i := fun h => c_83 ((nI_leI (by omega) (by omega)).mpr h)
                        refine lv_aload_n hx hb dX1_headed_86 rfl (lv_at hl 0 rfl) ?_
                        refine va_get (D := (dC, dI)) (ci := 1) (v := .ref (ad 5)) (C := RX1) (T := TX1) (N := 11) hx hb hts hin hown hK hP 0 rfl rfl 10 (by decide) (hts (.fieldLink RX1 28 "BlockJournalModel" "row" "[I") (by decide +kernel)) (fun _ h9 => h9) rfl dX1_headed_87 ?_
                        refine lv_iconst (v := nI 5) hx hb dX1_headed_90 (by decide) ?_
                        refine lv_iconst (v := nI 2) hx hb dX1_headed_91 (by decide) ?_
                        refine lv_iload hx hb dX1_headed_92 (lv_at hl 4 rfl) ?_
                        refine lv_imul hx hb dX1_headed_94 ?_
                        refine bj_i (pk_mul 2 i) ?_
                        refine lv_iadd hx hb dX1_headed_95 ?_
                        refine bj_i (nI_add 5 (2 * i)) ?_
                        refine lv_aload_n hx hb dX1_headed_96 rfl (lv_at hl 0 rfl) ?_
                        refine va_get (D := (dC, dI)) (ci := 1) (v := .ref (ad 3)) (C := RX1) (T := TX1) (N := 11) hx hb hts hin hown hK hP 0 rfl rfl 4 (by decide) (hts (.fieldLink RX1 16 "BlockJournalModel" "change" "[I") (by decide +kernel)) (fun _ h9 => h9) rfl dX1_headed_97 ?_
                        refine lv_aload_n hx hb dX1_headed_100 rfl (lv_at hl 0 rfl) ?_
                        refine lv_iload hx hb dX1_headed_101 (lv_at hl 4 rfl) ?_
                        refine bj_call (v := .int (raF cb N i N 0)) (W.runV (As := [.int (nI i)]) (rest := [.ref (ad 3), .int (nI (5 + (2 * i))), .ref (ad 5)]) ⟨hx, hb, hml, hown, hts⟩ (c_X1_ranked l dC dI cA ad th st tp tl cb cy dn lf of (tmF (upd (meF ro q) 4 (nI n)) cb pi i) N i (by omega) (by omega)) (cwV 1 hts gX1_headed_X1_ranked rfl rfl rfl (by decide +kernel) ⟨Nat.le_of_ble_eq_true rfl, Nat.le_of_ble_eq_true rfl⟩) ⟨fun a U g mk q => by obtain ⟨q0, qP, qK⟩ := q; exact ⟨q0, qP, va_K.moved (u := U) (U := U.calling g mk a) (Vm.Alike.refl U.vm) qK⟩, va_recv hK hP (ci := 1) (q0 := 0) rfl rfl, fun U hU hW => ⟨rfl, by rw [hU]; exact hP, va_K.moved hW.alike hK⟩⟩ rfl rfl hl.1 rfl (lv_room (Nat.le_of_ble_eq_true rfl)) dX1_headed_103 ⟨Nat.le_of_ble_eq_true rfl, Nat.le_of_ble_eq_true rfl⟩) ?_
                        obtain ⟨hp_106, ep_106⟩ := hpi i (by omega)
                        refine bj_i (y := nI (pi i)) (ep_106) ?_
                        refine va_iald (D := (dC, dI)) hx hb hK hP 3 0 (cA := cA) (n := 24) (f := cb) rfl rfl (i := (nI (pi i))) (vp_in_nI (by omega) (by omega)) dX1_headed_106 ?_
                        refine bj_i (y := cb (pi i)) (congrArg cb (nI_clamp (by omega))) ?_
                        refine lv_sipush (v := nI 255) hx hb dX1_headed_107 (by decide) ?_
                        refine lv_iand hx hb dX1_headed_110 ?_
                        refine va_iast (D := (dC, dI)) hx hb hK hP hD hS 5 0 (cA := cA) (n := 64) (f := (tmF (upd (meF ro q) 4 (nI n)) cb pi i)) rfl rfl (i := (nI (5 + (2 * i)))) (vp_in_nI (by omega) (by omega)) dX1_headed_111 (fun H locs hP hD hS => ?_)
                        rw [nI_clamp (n := 5 + (2 * i)) (by omega)] at hP hD
                        have hP : va_P (dC, dI) vwCl (wM cA ad th st tp tl cb cy (nI N) dn lf of (upd (tmF (upd (meF ro q) 4 (nI n)) cb pi i) (5 + (2 * i)) ((cb (pi i)) &&& (nI 255)))) H := hP
                        have hD : va_D A (wM cA ad th st tp tl cb cy (nI N) dn lf of (upd (tmF (upd (meF ro q) 4 (nI n)) cb pi i) (5 + (2 * i)) ((cb (pi i)) &&& (nI 255)))) := hD
                        refine lv_aload_n hx hb dX1_headed_112 rfl (lv_at hl 0 rfl) ?_
                        refine va_get (D := (dC, dI)) (ci := 1) (v := .ref (ad 5)) (C := RX1) (T := TX1) (N := 11) hx hb hts hin hown hK hP 0 rfl rfl 10 (by decide) (hts (.fieldLink RX1 28 "BlockJournalModel" "row" "[I") (by decide +kernel)) (fun _ h9 => h9) rfl dX1_headed_113 ?_
                        refine lv_bipush (v := nI 6) hx hb dX1_headed_116 (by decide) ?_
                        refine lv_iconst (v := nI 2) hx hb dX1_headed_118 (by decide) ?_
                        refine lv_iload hx hb dX1_headed_119 (lv_at hl 4 rfl) ?_
                        refine lv_imul hx hb dX1_headed_121 ?_
                        refine bj_i (pk_mul 2 i) ?_
                        refine lv_iadd hx hb dX1_headed_122 ?_
                        refine bj_i (nI_add 6 (2 * i)) ?_
                        refine lv_aload_n hx hb dX1_headed_123 rfl (lv_at hl 0 rfl) ?_
                        refine va_get (D := (dC, dI)) (ci := 1) (v := .ref (ad 3)) (C := RX1) (T := TX1) (N := 11) hx hb hts hin hown hK hP 0 rfl rfl 4 (by decide) (hts (.fieldLink RX1 16 "BlockJournalModel" "change" "[I") (by decide +kernel)) (fun _ h9 => h9) rfl dX1_headed_124 ?_
                        refine lv_aload_n hx hb dX1_headed_127 rfl (lv_at hl 0 rfl) ?_
                        refine lv_iload hx hb dX1_headed_128 (lv_at hl 4 rfl) ?_
                        refine bj_call (v := .int (raF cb N i N 0)) (W.runV (As := [.int (nI i)]) (rest := [.ref (ad 3), .int (nI (6 + (2 * i))), .ref (ad 5)]) ⟨hx, hb, hml, hown, hts⟩ (c_X1_ranked l dC dI cA ad th st tp tl cb cy dn lf of (upd (tmF (upd (meF ro q) 4 (nI n)) cb pi i) (5 + (2 * i)) ((cb (pi i)) &&& (nI 255))) N i (by omega) (by omega)) (cwV 1 hts gX1_headed_X1_ranked rfl rfl rfl (by decide +kernel) ⟨Nat.le_of_ble_eq_true rfl, Nat.le_of_ble_eq_true rfl⟩) ⟨fun a U g mk q => by obtain ⟨q0, qP, qK⟩ := q; exact ⟨q0, qP, va_K.moved (u := U) (U := U.calling g mk a) (Vm.Alike.refl U.vm) qK⟩, va_recv hK hP (ci := 1) (q0 := 0) rfl rfl, fun U hU hW => ⟨rfl, by rw [hU]; exact hP, va_K.moved hW.alike hK⟩⟩ rfl rfl hl.1 rfl (lv_room (Nat.le_of_ble_eq_true rfl)) dX1_headed_130 ⟨Nat.le_of_ble_eq_true rfl, Nat.le_of_ble_eq_true rfl⟩) ?_
                        obtain ⟨hp_133, ep_133⟩ := hpi i (by omega)
                        refine bj_i (y := nI (pi i)) (ep_133) ?_
                        refine va_iald (D := (dC, dI)) hx hb hK hP 3 0 (cA := cA) (n := 24) (f := cb) rfl rfl (i := (nI (pi i))) (vp_in_nI (by omega) (by omega)) dX1_headed_133 ?_
                        refine bj_i (y := cb (pi i)) (congrArg cb (nI_clamp (by omega))) ?_
                        refine lv_bipush (v := nI 8) hx hb dX1_headed_134 (by decide) ?_
                        refine lv_ishr hx hb dX1_headed_136 ?_
                        refine va_iast (D := (dC, dI)) hx hb hK hP hD hS 5 0 (cA := cA) (n := 64) (f := (upd (tmF (upd (meF ro q) 4 (nI n)) cb pi i) (5 + (2 * i)) ((cb (pi i)) &&& (nI 255)))) rfl rfl (i := (nI (6 + (2 * i)))) (vp_in_nI (by omega) (by omega)) dX1_headed_137 (fun H locs hP hD hS => ?_)
                        rw [nI_clamp (n := 6 + (2 * i)) (by omega)] at hP hD
                        have hP : va_P (dC, dI) vwCl (wM cA ad th st tp tl cb cy (nI N) dn lf of (upd (upd (tmF (upd (meF ro q) 4 (nI n)) cb pi i) (5 + (2 * i)) ((cb (pi i)) &&& (nI 255))) (6 + (2 * i)) ((cb (pi i)) >>> ((nI 8) &&& 31)))) H := hP
                        have hD : va_D A (wM cA ad th st tp tl cb cy (nI N) dn lf of (upd (upd (tmF (upd (meF ro q) 4 (nI n)) cb pi i) (5 + (2 * i)) ((cb (pi i)) &&& (nI 255))) (6 + (2 * i)) ((cb (pi i)) >>> ((nI 8) &&& 31)))) := hD
                        refine lv_iinc (v := nI (i + 1)) (lv' := [(6, .int (nI (i + 1))), (0, .ref (ad 0)), (1, .long q), (3, .int (nI n)), (4, .long (ckM st n))]) hx hb dX1_headed_138 hl (k := 4) rfl (nI_add i 1) (by decide) rfl (fun ls hl => ?_)
                        refine lv_goto (tgt := 80) hx hb dX1_headed_141 (by decide) ?_
                        exact ih (i + 1) (by omega) _ _ _ hP hD hS (lv_sub hl [1, 2, 3, 4, 0] rfl)
                  exact loop_80 n 0 (by omega) _ _ _ hP hD hS (lv_sub hl [2, 3, 4, 1, 0] rfl)
                · have hpost : ((th, st, tp, tl, cb, cy, nI N, dn, lf, of, meF ro q) : MS) = (th, st, tp, tl, cb, cy, nI N, dn, lf, of, hdF st ro cb pi n q) := by simp only [hdF, if_neg (not_not_intro c_59)]
                  exact W.vret hx hb hr (fun t ht hW => ⟨⟨(th, st, tp, tl, cb, cy, nI N, dn, lf, of, meF ro q), rfl, hpost, by rw [ht]; exact hP, va_K.moved hW.alike hK, hD⟩, hS.F ht⟩) hS.2.2 dX1_headed_62
              · have n_30 : ¬ 4 ≤ i := fun h => c_30 ((nI_leI (by omega) (by omega)).mpr h)
                exfalso; omega
            | succ k ih =>
              intro i hk H locs ls hP hD hS hl
              refine lv_iload hx hb dX1_headed_27 (lv_at hl 3 rfl) ?_
              refine lv_iconst (v := nI 4) hx hb dX1_headed_29 (by decide) ?_
              refine lv_icmp_ge (tgt := 58) hx hb dX1_headed_30 (by decide) (fun c_30 => ?_) (fun c_30 => ?_)
              · have n_30 : 4 ≤ i := (nI_leI (by omega) (by omega)).mp c_30
                exfalso; omega
              · have n_30 : ¬ 4 ≤ i := fun h => c_30 ((nI_leI (by omega) (by omega)).mpr h)
                refine lv_aload_n hx hb dX1_headed_33 rfl (lv_at hl 0 rfl) ?_
                refine va_get (D := (dC, dI)) (ci := 1) (v := .ref (ad 5)) (C := RX1) (T := TX1) (N := 11) hx hb hts hin hown hK hP 0 rfl rfl 10 (by decide) (hts (.fieldLink RX1 28 "BlockJournalModel" "row" "[I") (by decide +kernel)) (fun _ h9 => h9) rfl dX1_headed_34 ?_
                refine lv_iload hx hb dX1_headed_37 (lv_at hl 3 rfl) ?_
                refine lv_lload_n hx hb dX1_headed_39 rfl (lv_at hl 1 rfl) ?_
                refine lv_bipush (v := nI 8) hx hb dX1_headed_40 (by decide) ?_
                refine lv_iload hx hb dX1_headed_42 (lv_at hl 3 rfl) ?_
                refine lv_imul hx hb dX1_headed_44 ?_
                refine bj_i (pk_mul 8 i) ?_
                refine lv_lshr hx hb dX1_headed_45 rfl ?_
                refine lv_ldc2 hx hb hown (hts (.constantLong RX1 79 (255)) (by decide +kernel)) dX1_headed_46 ?_
                refine lv_land hx hb dX1_headed_49 ?_
                refine lv_l2i hx hb dX1_headed_50 rfl ?_
                refine va_iast (D := (dC, dI)) hx hb hK hP hD hS 5 0 (cA := cA) (n := 64) (f := (lb0 (fiF ro (nI 0) 64) q i)) rfl rfl (i := (nI i)) (vp_in_nI (by omega) (by omega)) dX1_headed_51 (fun H locs hP hD hS => ?_)
                rw [nI_clamp (n := i) (by omega)] at hP hD
                have hP : va_P (dC, dI) vwCl (wM cA ad th st tp tl cb cy (nI N) dn lf of (upd (lb0 (fiF ro (nI 0) 64) q i) i (((q >>> ((nI (8 * i)).toInt64 &&& 63)) &&& (255)).toInt32))) H := hP
                have hD : va_D A (wM cA ad th st tp tl cb cy (nI N) dn lf of (upd (lb0 (fiF ro (nI 0) 64) q i) i (((q >>> ((nI (8 * i)).toInt64 &&& 63)) &&& (255)).toInt32))) := hD
                refine lv_iinc (v := nI (i + 1)) (lv' := [(4, .int (nI (i + 1))), (0, .ref (ad 0)), (1, .long q), (3, .int (nI n))]) hx hb dX1_headed_52 hl (k := 3) rfl (nI_add i 1) (by decide) rfl (fun ls hl => ?_)
                refine lv_goto (tgt := 27) hx hb dX1_headed_55 (by decide) ?_
                exact ih (i + 1) (by omega) _ _ _ hP hD hS (lv_sub hl [1, 2, 3, 0] rfl)
          exact loop_27 4 0 (by omega) _ _ _ hP hD hS (lv_sub hl [1, 2, 3, 0] rfl)
        · have n_7 : ¬ 64 ≤ i := fun h => c_7 ((nI_leI (by omega) (by omega)).mpr h)
          exfalso; omega
      | succ k ih =>
        intro i hk H locs ls hP hD hS hl
        refine lv_iload hx hb dX1_headed_3 (lv_at hl 3 rfl) ?_
        refine lv_bipush (v := nI 64) hx hb dX1_headed_5 (by decide) ?_
        refine lv_icmp_ge (tgt := 24) hx hb dX1_headed_7 (by decide) (fun c_7 => ?_) (fun c_7 => ?_)
        · have n_7 : 64 ≤ i := (nI_leI (by omega) (by omega)).mp c_7
          exfalso; omega
        · have n_7 : ¬ 64 ≤ i := fun h => c_7 ((nI_leI (by omega) (by omega)).mpr h)
          refine lv_aload_n hx hb dX1_headed_10 rfl (lv_at hl 0 rfl) ?_
          refine va_get (D := (dC, dI)) (ci := 1) (v := .ref (ad 5)) (C := RX1) (T := TX1) (N := 11) hx hb hts hin hown hK hP 0 rfl rfl 10 (by decide) (hts (.fieldLink RX1 28 "BlockJournalModel" "row" "[I") (by decide +kernel)) (fun _ h9 => h9) rfl dX1_headed_11 ?_
          refine lv_iload hx hb dX1_headed_14 (lv_at hl 3 rfl) ?_
          refine lv_iconst (v := nI 0) hx hb dX1_headed_16 (by decide) ?_
          refine va_iast (D := (dC, dI)) hx hb hK hP hD hS 5 0 (cA := cA) (n := 64) (f := (fiF ro (nI 0) i)) rfl rfl (i := (nI i)) (vp_in_nI (by omega) (by omega)) dX1_headed_17 (fun H locs hP hD hS => ?_)
          rw [nI_clamp (n := i) (by omega)] at hP hD
          have hP : va_P (dC, dI) vwCl (wM cA ad th st tp tl cb cy (nI N) dn lf of (upd (fiF ro (nI 0) i) i (nI 0))) H := hP
          have hD : va_D A (wM cA ad th st tp tl cb cy (nI N) dn lf of (upd (fiF ro (nI 0) i) i (nI 0))) := hD
          rw [fiF_up] at hP hD
          refine lv_iinc (v := nI (i + 1)) (lv' := [(4, .int (nI (i + 1))), (0, .ref (ad 0)), (1, .long q), (3, .int (nI n))]) hx hb dX1_headed_18 hl (k := 3) rfl (nI_add i 1) (by decide) rfl (fun ls hl => ?_)
          refine lv_goto (tgt := 3) hx hb dX1_headed_21 (by decide) ?_
          exact ih (i + 1) (by omega) _ _ _ hP hD hS (lv_sub hl [1, 2, 3, 0] rfl)
    exact loop_3 64 0 (by omega) _ _ _ hP hD hS (lv_sub hl [1, 2, 3, 0] rfl)
  rw [hH, hlo] at goal
  exact goal
end
section
/-- 64 bytes of the fresh rows into the row -/
def cpR (cy ro : Nat → Int32) (x : Nat) : Nat → Nat → Int32
  | 0 => ro
  | k + 1 => upd (cpR cy ro x k) k (cy (64 * x + k))
/-- the row of write i of a commit, and its block -/
def crF (st ro cb cy : Nat → Int32) (pi : Nat → Nat) (n i : Nat) (q : Int64) : Nat → Int32 := if i = n then hdF st ro cb pi n q else if ¬ i = 2 * n + 1 then cpR cy ro (pi (if n ≤ i then i - n - 1 else i)) 64 else hdF st ro cb pi 0 (q + 1)
def crB (cb : Nat → Int32) (pi : Nat → Nat) (n i : Nat) : Nat := if i = n then 0 else if ¬ i = 2 * n + 1 then (if n ≤ i then (cb (pi (i - n - 1))).toNatClampNeg else 1 + i) else 0
abbrev M5 : Type := (Nat → Int32) × (Nat → Int32) × Int32 × Int64 × Int64
def m5 (ro : Nat → Int32) (b : Nat) (u : M5) : M5 := (ro, mwS ro u.2.1 u.2.2.1 u.2.2.2.1 b, mwO u.2.2.1 u.2.2.2.1, mwL u.2.2.1 u.2.2.2.1, mwD u.2.2.1 u.2.2.2.1 u.2.2.2.2)
/-- writes i, i + 1 .. of a commit, until one is not done -/
def mcL (cb cy : Nat → Int32) (pi : Nat → Nat) (n : Nat) (q : Int64) : Nat → Nat → Int32 → M5 → M5 × Int32
  | 0, _, g, u => (u, g)
  | k + 1, i, g, u => if g = 0 then (u, g) else mcL cb cy pi n q k (i + 1) (bI (mwB u.2.2.1 u.2.2.2.1)) (m5 (crF u.2.1 u.1 cb cy pi n i q) (crB cb pi n i) u)

set_option maxHeartbeats 4000000 in
set_option maxRecDepth 100000 in
theorem c_X1_commits (l : Launch) (dC : Nat → ClassId) (dI : Nat → Nat → Nat) (cA : ClassId) (ad : Nat → Nat) (sz : Nat) (th : Int32) (st tp : Nat → Int32) (tl : Int32) (cb cy : Nat → Int32) (dn lf : Int64) (of : Int32) (ro : Nat → Int32) (n : Nat) (i : Nat) (q : Int64) (pi : Nat → Nat) (hn : n ≤ 24) (hi : i ≤ 2 * n + 1) (hpi : ∀ j, j < n → pi j < 24 ∧ raF cb n j n 0 = nI (pi j)) (hcb : ∀ j, j < n → ∃ b : Nat, b < 96 ∧ cb (pi j) = nI b) : Met l yX1_commits wsX1_commits ({ frames := 2, cells := 0, slots := 0, locals := 54 } : Room) (va_Pc [.ref (ad 0), .int (nI i), .int (nI n), .long q] (fun U => U.heap.size = sz ∧ va_P (dC, dI) vwCl (wM cA ad th st tp tl cb cy (nI n) dn lf of ro) U.heap ∧ va_K (dC, dI) vwCl [(cA, .int)] U ∧ va_D (fun _ => True) (wM cA ad th st tp tl cb cy (nI n) dn lf of ro))) (va_Qi (fun (r : Int32) (u : MS) => r = bI (mwB of lf) ∧ u = (th, mwS (crF st ro cb cy pi n i q) st of lf (crB cb pi n i), tp, tl, cb, cy, nI n, mwD of lf dn, mwL of lf, mwO of lf, crF st ro cb cy pi n i q)) (aM dC dI cA ad (va_A (wM cA ad th st tp tl cb cy (nI n) dn lf of ro) sz)) (va_A (wM cA ad th st tp tl cb cy (nI n) dn lf of ro) sz)) 0 0 (va_A (wM cA ad th st tp tl cb cy (nI n) dn lf of ro) sz) := by
  refine Met.ofW (cc := cX1_commits) (maxL := 7) (ret := (some .boolean)) (by decide) rfl ?_
  intro p e s m args below meth c s₁ B hml hv
  obtain ⟨rfl, hsz, hP, hK, hD0⟩ := hv
  have hx := B.exec
  have hb := B.bytes
  have hr := B.returns
  have hts := atoms_spec (ws := wsX1_commits) B.pre
  have hown : s.vm.findClass RX1 = some m.cls := findClass_of_methodNamed B.named
  have hlocks := B.notSynchronized
  have hin : ∀ w ∈ u_ws RX1 TX1 11, w ∈ wsX1_commits := by decide +kernel
  subst hsz
  have hD := hD0.self (sz := s.heap.size)
  generalize hAe : va_A (wM cA ad th st tp tl cb cy (nI n) dn lf of ro) s.heap.size = A at hD ⊢
  have hA : ∀ q : Nat, s.heap.size ≤ q → A q := fun q h => by rw [← hAe]; exact Or.inr h
  obtain ⟨H, locs, hH, hlo, hS⟩ : ∃ (H : Heap) (locs : List Loc), H = s.heap ∧ locs = [] ∧ va_S A s.heap H locs := ⟨s.heap, [], rfl, rfl, va_S.rf⟩
  rw [← hH] at hP
  have hP : va_P (dC, dI) vwCl (wM cA ad th st tp tl cb cy (nI n) dn lf of ro) H := hP
  have hl := lv_entry ([.ref (ad 0), .int (nI i), .int (nI n), .long q]) (n := 7) (Nat.le_of_ble_eq_true rfl)
  rw [lg_entry_eq]
  generalize (lg_sl ([.ref (ad 0), .int (nI i), .int (nI n), .long q]) ++ List.replicate (7 - (lg_sl ([.ref (ad 0), .int (nI i), .int (nI n), .long q])).length) Slot.unset).toArray = ls at hl ⊢
  have goal : W p l e (headSpec wsX1_commits ({ frames := 2, cells := 0, slots := 0, locals := 54 } : Room)).room s m ([.ref (ad 0), .int (nI i), .int (nI n), .long q] : List Value).toArray below meth c H locs 0 0 (MQ below (va_Qi (fun (r : Int32) (u : MS) => r = bI (mwB of lf) ∧ u = (th, mwS (crF st ro cb cy pi n i q) st of lf (crB cb pi n i), tp, tl, cb, cy, nI n, mwD of lf dn, mwL of lf, mwO of lf, crF st ro cb cy pi n i q)) (aM dC dI cA ad A) A) ([.ref (ad 0), .int (nI i), .int (nI n), .long q] : List Value).toArray s 0 0 A) (F0 m 0 ls []) := by
    clear hH hlo
    have hl : lv_has ls 7 [(0, .ref (ad 0)), (1, .int (nI i)), (2, .int (nI n)), (3, .long q)] := hl
    refine lv_iload_n hx hb dX1_commits_0 rfl (lv_at hl 1 rfl) ?_
    refine lv_iload_n hx hb dX1_commits_1 rfl (lv_at hl 2 rfl) ?_
    refine lv_icmp_eq (tgt := 14) hx hb dX1_commits_2 (by decide) (fun c_2 => ?_) (fun c_2 => ?_)
    · have n_2 : i = n := (nI_eq (by omega) (by omega)).mp c_2
      refine lv_aload_n hx hb dX1_commits_14 rfl (lv_at hl 0 rfl) ?_
      refine lv_iload_n hx hb dX1_commits_15 rfl (lv_at hl 1 rfl) ?_
      refine lv_iload_n hx hb dX1_commits_16 rfl (lv_at hl 2 rfl) ?_
      refine lv_icmp_ne (tgt := 24) hx hb dX1_commits_17 (by decide) (fun c_17 => ?_) (fun c_17 => ?_)
      · have n_17 : ¬ i = n := fun h => c_17 ((nI_eq (by omega) (by omega)).mpr h)
        exfalso; omega
      · have n_17 : i = n := (nI_eq (by omega) (by omega)).mp c_17
        refine lv_lload_n hx hb dX1_commits_20 rfl (lv_at hl 3 rfl) ?_
        refine lv_goto (tgt := 27) hx hb dX1_commits_21 (by decide) ?_
        refine lv_iload_n hx hb dX1_commits_27 rfl (lv_at hl 1 rfl) ?_
        refine lv_iload_n hx hb dX1_commits_28 rfl (lv_at hl 2 rfl) ?_
        refine lv_icmp_ne (tgt := 36) hx hb dX1_commits_29 (by decide) (fun c_29 => ?_) (fun c_29 => ?_)
        · have n_29 : ¬ i = n := fun h => c_29 ((nI_eq (by omega) (by omega)).mpr h)
          exfalso; omega
        · have n_29 : i = n := (nI_eq (by omega) (by omega)).mp c_29
          refine lv_iload_n hx hb dX1_commits_32 rfl (lv_at hl 2 rfl) ?_
          refine lv_goto (tgt := 37) hx hb dX1_commits_33 (by decide) ?_
          have hFc := va_free (wc := wM cA ad th st tp tl cb cy (nI n) dn lf of ro) hD hS hA [0, 1, 2, 3, 4, 5] rfl
          refine va_callv (va_runV (As := [.long q, .int (nI n)]) (rest := []) ⟨hx, hb, hml, hown, hts⟩ (c_X1_headed l dC dI cA ad H.size th st tp tl cb cy dn lf of ro n n q pi hn (by omega) hpi) (cwV 2 hts gX1_commits_X1_headed rfl rfl rfl (by decide +kernel) ⟨Nat.le_of_ble_eq_true rfl, Nat.le_of_ble_eq_true rfl⟩) ⟨fun a U g mk q => by obtain ⟨q0, q1, qP, qK, qD⟩ := q; exact ⟨q0, q1, qP, va_K.moved (u := U) (U := U.calling g mk a) (Vm.Alike.refl U.vm) qK, qD⟩, va_recv hK hP (ci := 1) (q0 := 0) rfl rfl, fun U hU hW => ⟨rfl, by rw [hU], by rw [hU]; exact hP, va_K.moved hW.alike hK, hD.weaken (fun _ _ _ _ => trivial)⟩⟩ rfl rfl hl.1 rfl (lv_room (Nat.le_of_ble_eq_true rfl)) dX1_commits_37 ⟨Nat.le_of_ble_eq_true rfl, Nat.le_of_ble_eq_true rfl⟩) hS (fun q _ h => hFc q h) hFc (fun u t H1 locs ht hvm hw hB hz1 hk1 hS => ?_)
          obtain ⟨hP1, hK1, hD1⟩ := hB
          subst hw
          rw [ht] at hP1
          have hP : va_P (dC, dI) vwCl (wM cA ad th st tp tl cb cy (nI n) dn lf of (hdF st ro cb pi n q)) H1 := hP1
          have hD : va_D A (wM cA ad th st tp tl cb cy (nI n) dn lf of (hdF st ro cb pi n q)) := ⟨hD1.1, fun k q h => hFc _ (hD1.2 k q h)⟩
          generalize H1 = H at hP hS ⊢
          refine lv_aload_n hx hb dX1_commits_40 rfl (lv_at hl 0 rfl) ?_
          refine lv_iconst (v := nI 0) hx hb dX1_commits_41 (by decide) ?_
          have hFc := va_free (wc := wM cA ad th st tp tl cb cy (nI n) dn lf of (hdF st ro cb pi n q)) hD hS hA [0, 1, 2, 3, 4, 5] rfl
          refine va_calli (va_runV (As := [.int (nI 0)]) (rest := []) ⟨hx, hb, hml, hown, hts⟩ (c_X1_writes l dC dI cA ad H.size th st tp tl cb cy (nI n) dn lf of (hdF st ro cb pi n q) 0 (by decide)) (cwV 1 hts gX1_commits_X1_writes rfl rfl rfl (by decide +kernel) ⟨Nat.le_of_ble_eq_true rfl, Nat.le_of_ble_eq_true rfl⟩) ⟨fun a U g mk q => by obtain ⟨q0, q1, qP, qK, qD⟩ := q; exact ⟨q0, q1, qP, va_K.moved (u := U) (U := U.calling g mk a) (Vm.Alike.refl U.vm) qK, qD⟩, va_recv hK hP (ci := 1) (q0 := 0) rfl rfl, fun U hU hW => ⟨rfl, by rw [hU], by rw [hU]; exact hP, va_K.moved hW.alike hK, hD.weaken (fun _ _ _ _ => trivial)⟩⟩ rfl rfl hl.1 rfl (lv_room (Nat.le_of_ble_eq_true rfl)) dX1_commits_42 ⟨Nat.le_of_ble_eq_true rfl, Nat.le_of_ble_eq_true rfl⟩) hS (fun q _ h => hFc q h) hFc (fun r_42 u t H1 locs ht hvm hw hB hz1 hk1 hS => ?_)
          obtain ⟨hP1, hK1, hD1⟩ := hB
          obtain ⟨e_42, rfl⟩ := hw
          rw [ht] at hP1
          have hP : va_P (dC, dI) vwCl (wM cA ad th (mwS (hdF st ro cb pi n q) st of lf 0) tp tl cb cy (nI n) (mwD of lf dn) (mwL of lf) (mwO of lf) (hdF st ro cb pi n q)) H1 := hP1
          have hD : va_D A (wM cA ad th (mwS (hdF st ro cb pi n q) st of lf 0) tp tl cb cy (nI n) (mwD of lf dn) (mwL of lf) (mwO of lf) (hdF st ro cb pi n q)) := ⟨hD1.1, fun k q h => hFc _ (hD1.2 k q h)⟩
          generalize H1 = H at hP hS ⊢
          subst e_42
          have hpost : ((th, mwS (hdF st ro cb pi n q) st of lf 0, tp, tl, cb, cy, nI n, mwD of lf dn, mwL of lf, mwO of lf, hdF st ro cb pi n q) : MS) = (th, mwS (crF st ro cb cy pi n i q) st of lf (crB cb pi n i), tp, tl, cb, cy, nI n, mwD of lf dn, mwL of lf, mwO of lf, crF st ro cb cy pi n i q) := by simp only [crF, crB, if_pos n_2]
          have hres : bI (mwB of lf) = bI (mwB of lf) := rfl
          exact W.zret (v := bI (mwB of lf)) (ty := .boolean) hx hb hr (bI_n _) (fun t ht hW => ⟨⟨_, (th, mwS (hdF st ro cb pi n q) st of lf 0, tp, tl, cb, cy, nI n, mwD of lf dn, mwL of lf, mwO of lf, hdF st ro cb pi n q), rfl, ⟨hres, hpost⟩, by rw [ht]; exact hP, va_K.moved hW.alike hK, hD⟩, hS.F ht⟩) hS.2.2 dX1_commits_45
    · have n_2 : ¬ i = n := fun h => c_2 ((nI_eq (by omega) (by omega)).mpr h)
      refine lv_iload_n hx hb dX1_commits_5 rfl (lv_at hl 1 rfl) ?_
      refine lv_iconst (v := nI 2) hx hb dX1_commits_6 (by decide) ?_
      refine lv_iload_n hx hb dX1_commits_7 rfl (lv_at hl 2 rfl) ?_
      refine lv_imul hx hb dX1_commits_8 ?_
      refine bj_i (pk_mul 2 n) ?_
      refine lv_iconst (v := nI 1) hx hb dX1_commits_9 (by decide) ?_
      refine lv_iadd hx hb dX1_commits_10 ?_
      refine bj_i (nI_add (2 * n) 1) ?_
      refine lv_icmp_ne (tgt := 46) hx hb dX1_commits_11 (by decide) (fun c_11 => ?_) (fun c_11 => ?_)
      · have n_11 : ¬ i = ((2 * n) + 1) := fun h => c_11 ((nI_eq (by omega) (by omega)).mpr h)
        refine lv_aload_n hx hb dX1_commits_46 rfl (lv_at hl 0 rfl) ?_
        refine lv_iload_n hx hb dX1_commits_47 rfl (lv_at hl 1 rfl) ?_
        refine lv_iload_n hx hb dX1_commits_48 rfl (lv_at hl 2 rfl) ?_
        refine lv_icmp_ge (tgt := 56) hx hb dX1_commits_49 (by decide) (fun c_49 => ?_) (fun c_49 => ?_)
        · have n_49 : n ≤ i := (nI_leI (by omega) (by omega)).mp c_49
          refine lv_iload_n hx hb dX1_commits_56 rfl (lv_at hl 1 rfl) ?_
          refine lv_iload_n hx hb dX1_commits_57 rfl (lv_at hl 2 rfl) ?_
          refine lv_isub hx hb dX1_commits_58 ?_
          refine bj_i (pk_sub (a := i) (b := n) (by omega)) ?_
          refine lv_iconst (v := nI 1) hx hb dX1_commits_59 (by decide) ?_
          refine lv_isub hx hb dX1_commits_60 ?_
          refine bj_i (pk_sub (a := i - n) (b := 1) (by omega)) ?_
          refine bj_call (v := .int (raF cb n (i - n - 1) n 0)) (W.runV (As := [.int (nI ((i - n) - 1))]) (rest := []) ⟨hx, hb, hml, hown, hts⟩ (c_X1_ranked l dC dI cA ad th st tp tl cb cy dn lf of ro n (i - n - 1) (by omega) (by omega)) (cwV 1 hts gX1_commits_X1_ranked rfl rfl rfl (by decide +kernel) ⟨Nat.le_of_ble_eq_true rfl, Nat.le_of_ble_eq_true rfl⟩) ⟨fun a U g mk q => by obtain ⟨q0, qP, qK⟩ := q; exact ⟨q0, qP, va_K.moved (u := U) (U := U.calling g mk a) (Vm.Alike.refl U.vm) qK⟩, va_recv hK hP (ci := 1) (q0 := 0) rfl rfl, fun U hU hW => ⟨rfl, by rw [hU]; exact hP, va_K.moved hW.alike hK⟩⟩ rfl rfl hl.1 rfl (lv_room (Nat.le_of_ble_eq_true rfl)) dX1_commits_61 ⟨Nat.le_of_ble_eq_true rfl, Nat.le_of_ble_eq_true rfl⟩) ?_
          obtain ⟨hp9, ep9⟩ := hpi (i - n - 1) (by omega)
          refine bj_i (y := nI (pi (i - n - 1))) (ep9) ?_
          refine lv_istore (lv' := [(5, .int (nI (pi (i - n - 1)))), (0, .ref (ad 0)), (1, .int (nI i)), (2, .int (nI n)), (3, .long q)]) hx hb dX1_commits_64 hl (by decide) rfl (fun ls hl => ?_)
          refine lv_iconst (v := nI 0) hx hb dX1_commits_66 (by decide) ?_
          refine lv_istore (lv' := [(6, .int (nI 0)), (5, .int (nI (pi (i - n - 1)))), (0, .ref (ad 0)), (1, .int (nI i)), (2, .int (nI n)), (3, .long q)]) hx hb dX1_commits_67 hl (by decide) rfl (fun ls hl => ?_)
          have loop_69 : ∀ (k : Nat) (k9 : Nat), k9 + k = 64 → ∀ (H : Heap) (locs : List Loc) (ls : Array Slot), va_P (dC, dI) vwCl (wM cA ad th st tp tl cb cy (nI n) dn lf of (cpR cy ro (pi (i - n - 1)) k9)) H → va_D A (wM cA ad th st tp tl cb cy (nI n) dn lf of (cpR cy ro (pi (i - n - 1)) k9)) → va_S A s.heap H locs → lv_has ls 7 [(0, .ref (ad 0)), (1, .int (nI i)), (2, .int (nI n)), (3, .long q), (5, .int (nI (pi (i - n - 1)))), (6, .int (nI k9))] → W p l e (headSpec wsX1_commits ({ frames := 2, cells := 0, slots := 0, locals := 54 } : Room)).room s m ([.ref (ad 0), .int (nI i), .int (nI n), .long q] : List Value).toArray below meth c H locs 0 0 (MQ below (va_Qi (fun (r : Int32) (u : MS) => r = bI (mwB of lf) ∧ u = (th, mwS (crF st ro cb cy pi n i q) st of lf (crB cb pi n i), tp, tl, cb, cy, nI n, mwD of lf dn, mwL of lf, mwO of lf, crF st ro cb cy pi n i q)) (aM dC dI cA ad A) A) ([.ref (ad 0), .int (nI i), .int (nI n), .long q] : List Value).toArray s 0 0 A) (F0 m 69 ls []) := by
            intro k
            induction k with
            | zero =>
              intro k9 hk H locs ls hP hD hS hl
              refine lv_iload hx hb dX1_commits_69 (lv_at hl 5 rfl) ?_
              refine lv_bipush (v := nI 64) hx hb dX1_commits_71 (by decide) ?_
              refine lv_icmp_ge (tgt := 102) hx hb dX1_commits_73 (by decide) (fun c_73 => ?_) (fun c_73 => ?_)
              · have n_73 : 64 ≤ k9 := (nI_leI (by omega) (by omega)).mp c_73
                have ek : k9 = 64 := by omega
                rw [ek] at hP hD
                refine lv_aload_n hx hb dX1_commits_102 rfl (lv_at hl 0 rfl) ?_
                refine lv_iload_n hx hb dX1_commits_103 rfl (lv_at hl 1 rfl) ?_
                refine lv_iload_n hx hb dX1_commits_104 rfl (lv_at hl 2 rfl) ?_
                refine lv_icmp_ge (tgt := 114) hx hb dX1_commits_105 (by decide) (fun c_105 => ?_) (fun c_105 => ?_)
                · have n_105 : n ≤ i := (nI_leI (by omega) (by omega)).mp c_105
                  refine lv_aload_n hx hb dX1_commits_114 rfl (lv_at hl 0 rfl) ?_
                  refine va_get (D := (dC, dI)) (ci := 1) (v := .ref (ad 3)) (C := RX1) (T := TX1) (N := 11) hx hb hts hin hown hK hP 0 rfl rfl 4 (by decide) (hts (.fieldLink RX1 16 "BlockJournalModel" "change" "[I") (by decide +kernel)) (fun _ h9 => h9) rfl dX1_commits_115 ?_
                  refine lv_iload hx hb dX1_commits_118 (lv_at hl 4 rfl) ?_
                  refine va_iald (D := (dC, dI)) hx hb hK hP 3 0 (cA := cA) (n := 24) (f := cb) rfl rfl (i := (nI (pi (i - n - 1)))) (vp_in_nI (by omega) (by omega)) dX1_commits_120 ?_
                  refine bj_i (y := cb (pi (i - n - 1))) (congrArg cb (nI_clamp (by omega))) ?_
                  obtain ⟨b, hb9, eb⟩ := hcb (i - n - 1) (by omega)
                  have ecl : (cb (pi (i - n - 1))).toNatClampNeg = b := by rw [eb]; exact nI_clamp (by omega)
                  refine bj_i (y := nI b) (eb) ?_
                  have hFc := va_free (wc := wM cA ad th st tp tl cb cy (nI n) dn lf of (cpR cy ro (pi (i - n - 1)) 64)) hD hS hA [0, 1, 2, 3, 4, 5] rfl
                  refine va_calli (va_runV (As := [.int (nI b)]) (rest := []) ⟨hx, hb, hml, hown, hts⟩ (c_X1_writes l dC dI cA ad H.size th st tp tl cb cy (nI n) dn lf of (cpR cy ro (pi (i - n - 1)) 64) b (by omega)) (cwV 1 hts gX1_commits_X1_writes rfl rfl rfl (by decide +kernel) ⟨Nat.le_of_ble_eq_true rfl, Nat.le_of_ble_eq_true rfl⟩) ⟨fun a U g mk q => by obtain ⟨q0, q1, qP, qK, qD⟩ := q; exact ⟨q0, q1, qP, va_K.moved (u := U) (U := U.calling g mk a) (Vm.Alike.refl U.vm) qK, qD⟩, va_recv hK hP (ci := 1) (q0 := 0) rfl rfl, fun U hU hW => ⟨rfl, by rw [hU], by rw [hU]; exact hP, va_K.moved hW.alike hK, hD.weaken (fun _ _ _ _ => trivial)⟩⟩ rfl rfl hl.1 rfl (lv_room (Nat.le_of_ble_eq_true rfl)) dX1_commits_121 ⟨Nat.le_of_ble_eq_true rfl, Nat.le_of_ble_eq_true rfl⟩) hS (fun q _ h => hFc q h) hFc (fun r_121 u t H1 locs ht hvm hw hB hz1 hk1 hS => ?_)
                  obtain ⟨hP1, hK1, hD1⟩ := hB
                  obtain ⟨e_121, rfl⟩ := hw
                  rw [ht] at hP1
                  have hP : va_P (dC, dI) vwCl (wM cA ad th (mwS (cpR cy ro (pi (i - n - 1)) 64) st of lf b) tp tl cb cy (nI n) (mwD of lf dn) (mwL of lf) (mwO of lf) (cpR cy ro (pi (i - n - 1)) 64)) H1 := hP1
                  have hD : va_D A (wM cA ad th (mwS (cpR cy ro (pi (i - n - 1)) 64) st of lf b) tp tl cb cy (nI n) (mwD of lf dn) (mwL of lf) (mwO of lf) (cpR cy ro (pi (i - n - 1)) 64)) := ⟨hD1.1, fun k q h => hFc _ (hD1.2 k q h)⟩
                  generalize H1 = H at hP hS ⊢
                  subst e_121
                  have hpost : ((th, mwS (cpR cy ro (pi (i - n - 1)) 64) st of lf b, tp, tl, cb, cy, nI n, mwD of lf dn, mwL of lf, mwO of lf, cpR cy ro (pi (i - n - 1)) 64) : MS) = (th, mwS (crF st ro cb cy pi n i q) st of lf (crB cb pi n i), tp, tl, cb, cy, nI n, mwD of lf dn, mwL of lf, mwO of lf, crF st ro cb cy pi n i q) := by simp only [crF, crB, if_neg n_2, if_pos n_11, if_pos n_49, ecl]
                  have hres : bI (mwB of lf) = bI (mwB of lf) := rfl
                  exact W.zret (v := bI (mwB of lf)) (ty := .boolean) hx hb hr (bI_n _) (fun t ht hW => ⟨⟨_, (th, mwS (cpR cy ro (pi (i - n - 1)) 64) st of lf b, tp, tl, cb, cy, nI n, mwD of lf dn, mwL of lf, mwO of lf, cpR cy ro (pi (i - n - 1)) 64), rfl, ⟨hres, hpost⟩, by rw [ht]; exact hP, va_K.moved hW.alike hK, hD⟩, hS.F ht⟩) hS.2.2 dX1_commits_124
                · have n_105 : ¬ n ≤ i := fun h => c_105 ((nI_leI (by omega) (by omega)).mpr h)
                  exfalso; omega
              · have n_73 : ¬ 64 ≤ k9 := fun h => c_73 ((nI_leI (by omega) (by omega)).mpr h)
                exfalso; omega
            | succ k ih =>
              intro k9 hk H locs ls hP hD hS hl
              refine lv_iload hx hb dX1_commits_69 (lv_at hl 5 rfl) ?_
              refine lv_bipush (v := nI 64) hx hb dX1_commits_71 (by decide) ?_
              refine lv_icmp_ge (tgt := 102) hx hb dX1_commits_73 (by decide) (fun c_73 => ?_) (fun c_73 => ?_)
              · have n_73 : 64 ≤ k9 := (nI_leI (by omega) (by omega)).mp c_73
                exfalso; omega
              · have n_73 : ¬ 64 ≤ k9 := fun h => c_73 ((nI_leI (by omega) (by omega)).mpr h)
                refine lv_aload_n hx hb dX1_commits_76 rfl (lv_at hl 0 rfl) ?_
                refine va_get (D := (dC, dI)) (ci := 1) (v := .ref (ad 5)) (C := RX1) (T := TX1) (N := 11) hx hb hts hin hown hK hP 0 rfl rfl 10 (by decide) (hts (.fieldLink RX1 28 "BlockJournalModel" "row" "[I") (by decide +kernel)) (fun _ h9 => h9) rfl dX1_commits_77 ?_
                refine lv_iload hx hb dX1_commits_80 (lv_at hl 5 rfl) ?_
                refine lv_aload_n hx hb dX1_commits_82 rfl (lv_at hl 0 rfl) ?_
                refine va_get (D := (dC, dI)) (ci := 1) (v := .ref (ad 4)) (C := RX1) (T := TX1) (N := 11) hx hb hts hin hown hK hP 0 rfl rfl 5 (by decide) (hts (.fieldLink RX1 19 "BlockJournalModel" "fresh" "[I") (by decide +kernel)) (fun _ h9 => h9) rfl dX1_commits_83 ?_
                refine lv_bipush (v := nI 64) hx hb dX1_commits_86 (by decide) ?_
                refine lv_iload hx hb dX1_commits_88 (lv_at hl 4 rfl) ?_
                refine lv_imul hx hb dX1_commits_90 ?_
                refine bj_i (pk_mul 64 (pi (i - n - 1))) ?_
                refine lv_iload hx hb dX1_commits_91 (lv_at hl 5 rfl) ?_
                refine lv_iadd hx hb dX1_commits_93 ?_
                refine bj_i (nI_add (64 * (pi (i - n - 1))) k9) ?_
                refine va_iald (D := (dC, dI)) hx hb hK hP 4 0 (cA := cA) (n := 1536) (f := cy) rfl rfl (i := (nI ((64 * (pi (i - n - 1))) + k9))) (vp_in_nI (by omega) (by omega)) dX1_commits_94 ?_
                refine bj_i (y := cy ((64 * (pi (i - n - 1))) + k9)) (congrArg cy (nI_clamp (by omega))) ?_
                refine va_iast (D := (dC, dI)) hx hb hK hP hD hS 5 0 (cA := cA) (n := 64) (f := (cpR cy ro (pi (i - n - 1)) k9)) rfl rfl (i := (nI k9)) (vp_in_nI (by omega) (by omega)) dX1_commits_95 (fun H locs hP hD hS => ?_)
                rw [nI_clamp (n := k9) (by omega)] at hP hD
                have hP : va_P (dC, dI) vwCl (wM cA ad th st tp tl cb cy (nI n) dn lf of (upd (cpR cy ro (pi (i - n - 1)) k9) k9 (cy ((64 * (pi (i - n - 1))) + k9)))) H := hP
                have hD : va_D A (wM cA ad th st tp tl cb cy (nI n) dn lf of (upd (cpR cy ro (pi (i - n - 1)) k9) k9 (cy ((64 * (pi (i - n - 1))) + k9)))) := hD
                refine lv_iinc (v := nI (k9 + 1)) (lv' := [(6, .int (nI (k9 + 1))), (0, .ref (ad 0)), (1, .int (nI i)), (2, .int (nI n)), (3, .long q), (5, .int (nI (pi (i - n - 1))))]) hx hb dX1_commits_96 hl (k := 5) rfl (nI_add k9 1) (by decide) rfl (fun ls hl => ?_)
                refine lv_goto (tgt := 69) hx hb dX1_commits_99 (by decide) ?_
                exact ih (k9 + 1) (by omega) _ _ _ hP hD hS (lv_sub hl [1, 2, 3, 4, 5, 0] rfl)
          exact loop_69 64 0 (by omega) _ _ _ hP hD hS (lv_sub hl [2, 3, 4, 5, 1, 0] rfl)
        · have n_49 : ¬ n ≤ i := fun h => c_49 ((nI_leI (by omega) (by omega)).mpr h)
          refine lv_iload_n hx hb dX1_commits_52 rfl (lv_at hl 1 rfl) ?_
          refine lv_goto (tgt := 61) hx hb dX1_commits_53 (by decide) ?_
          refine bj_call (v := .int (raF cb n i n 0)) (W.runV (As := [.int (nI i)]) (rest := []) ⟨hx, hb, hml, hown, hts⟩ (c_X1_ranked l dC dI cA ad th st tp tl cb cy dn lf of ro n i (by omega) (by omega)) (cwV 1 hts gX1_commits_X1_ranked rfl rfl rfl (by decide +kernel) ⟨Nat.le_of_ble_eq_true rfl, Nat.le_of_ble_eq_true rfl⟩) ⟨fun a U g mk q => by obtain ⟨q0, qP, qK⟩ := q; exact ⟨q0, qP, va_K.moved (u := U) (U := U.calling g mk a) (Vm.Alike.refl U.vm) qK⟩, va_recv hK hP (ci := 1) (q0 := 0) rfl rfl, fun U hU hW => ⟨rfl, by rw [hU]; exact hP, va_K.moved hW.alike hK⟩⟩ rfl rfl hl.1 rfl (lv_room (Nat.le_of_ble_eq_true rfl)) dX1_commits_61 ⟨Nat.le_of_ble_eq_true rfl, Nat.le_of_ble_eq_true rfl⟩) ?_
          obtain ⟨hp9, ep9⟩ := hpi (i) (by omega)
          refine bj_i (y := nI (pi (i))) (ep9) ?_
          refine lv_istore (lv' := [(5, .int (nI (pi (i)))), (0, .ref (ad 0)), (1, .int (nI i)), (2, .int (nI n)), (3, .long q)]) hx hb dX1_commits_64 hl (by decide) rfl (fun ls hl => ?_)
          refine lv_iconst (v := nI 0) hx hb dX1_commits_66 (by decide) ?_
          refine lv_istore (lv' := [(6, .int (nI 0)), (5, .int (nI (pi (i)))), (0, .ref (ad 0)), (1, .int (nI i)), (2, .int (nI n)), (3, .long q)]) hx hb dX1_commits_67 hl (by decide) rfl (fun ls hl => ?_)
          have loop_69 : ∀ (k : Nat) (k9 : Nat), k9 + k = 64 → ∀ (H : Heap) (locs : List Loc) (ls : Array Slot), va_P (dC, dI) vwCl (wM cA ad th st tp tl cb cy (nI n) dn lf of (cpR cy ro (pi (i)) k9)) H → va_D A (wM cA ad th st tp tl cb cy (nI n) dn lf of (cpR cy ro (pi (i)) k9)) → va_S A s.heap H locs → lv_has ls 7 [(0, .ref (ad 0)), (1, .int (nI i)), (2, .int (nI n)), (3, .long q), (5, .int (nI (pi (i)))), (6, .int (nI k9))] → W p l e (headSpec wsX1_commits ({ frames := 2, cells := 0, slots := 0, locals := 54 } : Room)).room s m ([.ref (ad 0), .int (nI i), .int (nI n), .long q] : List Value).toArray below meth c H locs 0 0 (MQ below (va_Qi (fun (r : Int32) (u : MS) => r = bI (mwB of lf) ∧ u = (th, mwS (crF st ro cb cy pi n i q) st of lf (crB cb pi n i), tp, tl, cb, cy, nI n, mwD of lf dn, mwL of lf, mwO of lf, crF st ro cb cy pi n i q)) (aM dC dI cA ad A) A) ([.ref (ad 0), .int (nI i), .int (nI n), .long q] : List Value).toArray s 0 0 A) (F0 m 69 ls []) := by
            intro k
            induction k with
            | zero =>
              intro k9 hk H locs ls hP hD hS hl
              refine lv_iload hx hb dX1_commits_69 (lv_at hl 5 rfl) ?_
              refine lv_bipush (v := nI 64) hx hb dX1_commits_71 (by decide) ?_
              refine lv_icmp_ge (tgt := 102) hx hb dX1_commits_73 (by decide) (fun c_73 => ?_) (fun c_73 => ?_)
              · have n_73 : 64 ≤ k9 := (nI_leI (by omega) (by omega)).mp c_73
                have ek : k9 = 64 := by omega
                rw [ek] at hP hD
                refine lv_aload_n hx hb dX1_commits_102 rfl (lv_at hl 0 rfl) ?_
                refine lv_iload_n hx hb dX1_commits_103 rfl (lv_at hl 1 rfl) ?_
                refine lv_iload_n hx hb dX1_commits_104 rfl (lv_at hl 2 rfl) ?_
                refine lv_icmp_ge (tgt := 114) hx hb dX1_commits_105 (by decide) (fun c_105 => ?_) (fun c_105 => ?_)
                · have n_105 : n ≤ i := (nI_leI (by omega) (by omega)).mp c_105
                  exfalso; omega
                · have n_105 : ¬ n ≤ i := fun h => c_105 ((nI_leI (by omega) (by omega)).mpr h)
                  refine lv_iconst (v := nI 1) hx hb dX1_commits_108 (by decide) ?_
                  refine lv_iload_n hx hb dX1_commits_109 rfl (lv_at hl 1 rfl) ?_
                  refine lv_iadd hx hb dX1_commits_110 ?_
                  refine bj_i (nI_add 1 i) ?_
                  refine lv_goto (tgt := 121) hx hb dX1_commits_111 (by decide) ?_
                  have hFc := va_free (wc := wM cA ad th st tp tl cb cy (nI n) dn lf of (cpR cy ro (pi (i)) 64)) hD hS hA [0, 1, 2, 3, 4, 5] rfl
                  refine va_calli (va_runV (As := [.int (nI (1 + i))]) (rest := []) ⟨hx, hb, hml, hown, hts⟩ (c_X1_writes l dC dI cA ad H.size th st tp tl cb cy (nI n) dn lf of (cpR cy ro (pi (i)) 64) (1 + i) (by omega)) (cwV 1 hts gX1_commits_X1_writes rfl rfl rfl (by decide +kernel) ⟨Nat.le_of_ble_eq_true rfl, Nat.le_of_ble_eq_true rfl⟩) ⟨fun a U g mk q => by obtain ⟨q0, q1, qP, qK, qD⟩ := q; exact ⟨q0, q1, qP, va_K.moved (u := U) (U := U.calling g mk a) (Vm.Alike.refl U.vm) qK, qD⟩, va_recv hK hP (ci := 1) (q0 := 0) rfl rfl, fun U hU hW => ⟨rfl, by rw [hU], by rw [hU]; exact hP, va_K.moved hW.alike hK, hD.weaken (fun _ _ _ _ => trivial)⟩⟩ rfl rfl hl.1 rfl (lv_room (Nat.le_of_ble_eq_true rfl)) dX1_commits_121 ⟨Nat.le_of_ble_eq_true rfl, Nat.le_of_ble_eq_true rfl⟩) hS (fun q _ h => hFc q h) hFc (fun r_121 u t H1 locs ht hvm hw hB hz1 hk1 hS => ?_)
                  obtain ⟨hP1, hK1, hD1⟩ := hB
                  obtain ⟨e_121, rfl⟩ := hw
                  rw [ht] at hP1
                  have hP : va_P (dC, dI) vwCl (wM cA ad th (mwS (cpR cy ro (pi (i)) 64) st of lf (1 + i)) tp tl cb cy (nI n) (mwD of lf dn) (mwL of lf) (mwO of lf) (cpR cy ro (pi (i)) 64)) H1 := hP1
                  have hD : va_D A (wM cA ad th (mwS (cpR cy ro (pi (i)) 64) st of lf (1 + i)) tp tl cb cy (nI n) (mwD of lf dn) (mwL of lf) (mwO of lf) (cpR cy ro (pi (i)) 64)) := ⟨hD1.1, fun k q h => hFc _ (hD1.2 k q h)⟩
                  generalize H1 = H at hP hS ⊢
                  subst e_121
                  have hpost : ((th, mwS (cpR cy ro (pi (i)) 64) st of lf (1 + i), tp, tl, cb, cy, nI n, mwD of lf dn, mwL of lf, mwO of lf, cpR cy ro (pi (i)) 64) : MS) = (th, mwS (crF st ro cb cy pi n i q) st of lf (crB cb pi n i), tp, tl, cb, cy, nI n, mwD of lf dn, mwL of lf, mwO of lf, crF st ro cb cy pi n i q) := by simp only [crF, crB, if_neg n_2, if_pos n_11, if_neg n_49]
                  have hres : bI (mwB of lf) = bI (mwB of lf) := rfl
                  exact W.zret (v := bI (mwB of lf)) (ty := .boolean) hx hb hr (bI_n _) (fun t ht hW => ⟨⟨_, (th, mwS (cpR cy ro (pi (i)) 64) st of lf (1 + i), tp, tl, cb, cy, nI n, mwD of lf dn, mwL of lf, mwO of lf, cpR cy ro (pi (i)) 64), rfl, ⟨hres, hpost⟩, by rw [ht]; exact hP, va_K.moved hW.alike hK, hD⟩, hS.F ht⟩) hS.2.2 dX1_commits_124
              · have n_73 : ¬ 64 ≤ k9 := fun h => c_73 ((nI_leI (by omega) (by omega)).mpr h)
                exfalso; omega
            | succ k ih =>
              intro k9 hk H locs ls hP hD hS hl
              refine lv_iload hx hb dX1_commits_69 (lv_at hl 5 rfl) ?_
              refine lv_bipush (v := nI 64) hx hb dX1_commits_71 (by decide) ?_
              refine lv_icmp_ge (tgt := 102) hx hb dX1_commits_73 (by decide) (fun c_73 => ?_) (fun c_73 => ?_)
              · have n_73 : 64 ≤ k9 := (nI_leI (by omega) (by omega)).mp c_73
                exfalso; omega
              · have n_73 : ¬ 64 ≤ k9 := fun h => c_73 ((nI_leI (by omega) (by omega)).mpr h)
                refine lv_aload_n hx hb dX1_commits_76 rfl (lv_at hl 0 rfl) ?_
                refine va_get (D := (dC, dI)) (ci := 1) (v := .ref (ad 5)) (C := RX1) (T := TX1) (N := 11) hx hb hts hin hown hK hP 0 rfl rfl 10 (by decide) (hts (.fieldLink RX1 28 "BlockJournalModel" "row" "[I") (by decide +kernel)) (fun _ h9 => h9) rfl dX1_commits_77 ?_
                refine lv_iload hx hb dX1_commits_80 (lv_at hl 5 rfl) ?_
                refine lv_aload_n hx hb dX1_commits_82 rfl (lv_at hl 0 rfl) ?_
                refine va_get (D := (dC, dI)) (ci := 1) (v := .ref (ad 4)) (C := RX1) (T := TX1) (N := 11) hx hb hts hin hown hK hP 0 rfl rfl 5 (by decide) (hts (.fieldLink RX1 19 "BlockJournalModel" "fresh" "[I") (by decide +kernel)) (fun _ h9 => h9) rfl dX1_commits_83 ?_
                refine lv_bipush (v := nI 64) hx hb dX1_commits_86 (by decide) ?_
                refine lv_iload hx hb dX1_commits_88 (lv_at hl 4 rfl) ?_
                refine lv_imul hx hb dX1_commits_90 ?_
                refine bj_i (pk_mul 64 (pi (i))) ?_
                refine lv_iload hx hb dX1_commits_91 (lv_at hl 5 rfl) ?_
                refine lv_iadd hx hb dX1_commits_93 ?_
                refine bj_i (nI_add (64 * (pi (i))) k9) ?_
                refine va_iald (D := (dC, dI)) hx hb hK hP 4 0 (cA := cA) (n := 1536) (f := cy) rfl rfl (i := (nI ((64 * (pi (i))) + k9))) (vp_in_nI (by omega) (by omega)) dX1_commits_94 ?_
                refine bj_i (y := cy ((64 * (pi (i))) + k9)) (congrArg cy (nI_clamp (by omega))) ?_
                refine va_iast (D := (dC, dI)) hx hb hK hP hD hS 5 0 (cA := cA) (n := 64) (f := (cpR cy ro (pi (i)) k9)) rfl rfl (i := (nI k9)) (vp_in_nI (by omega) (by omega)) dX1_commits_95 (fun H locs hP hD hS => ?_)
                rw [nI_clamp (n := k9) (by omega)] at hP hD
                have hP : va_P (dC, dI) vwCl (wM cA ad th st tp tl cb cy (nI n) dn lf of (upd (cpR cy ro (pi (i)) k9) k9 (cy ((64 * (pi (i))) + k9)))) H := hP
                have hD : va_D A (wM cA ad th st tp tl cb cy (nI n) dn lf of (upd (cpR cy ro (pi (i)) k9) k9 (cy ((64 * (pi (i))) + k9)))) := hD
                refine lv_iinc (v := nI (k9 + 1)) (lv' := [(6, .int (nI (k9 + 1))), (0, .ref (ad 0)), (1, .int (nI i)), (2, .int (nI n)), (3, .long q), (5, .int (nI (pi (i))))]) hx hb dX1_commits_96 hl (k := 5) rfl (nI_add k9 1) (by decide) rfl (fun ls hl => ?_)
                refine lv_goto (tgt := 69) hx hb dX1_commits_99 (by decide) ?_
                exact ih (k9 + 1) (by omega) _ _ _ hP hD hS (lv_sub hl [1, 2, 3, 4, 5, 0] rfl)
          exact loop_69 64 0 (by omega) _ _ _ hP hD hS (lv_sub hl [2, 3, 4, 5, 1, 0] rfl)
      · have n_11 : i = (2 * n) + 1 := (nI_eq (by omega) (by omega)).mp c_11
        refine lv_aload_n hx hb dX1_commits_14 rfl (lv_at hl 0 rfl) ?_
        refine lv_iload_n hx hb dX1_commits_15 rfl (lv_at hl 1 rfl) ?_
        refine lv_iload_n hx hb dX1_commits_16 rfl (lv_at hl 2 rfl) ?_
        refine lv_icmp_ne (tgt := 24) hx hb dX1_commits_17 (by decide) (fun c_17 => ?_) (fun c_17 => ?_)
        · have n_17 : ¬ i = n := fun h => c_17 ((nI_eq (by omega) (by omega)).mpr h)
          refine lv_lload_n hx hb dX1_commits_24 rfl (lv_at hl 3 rfl) ?_
          refine lv_lconst (v := 1) hx hb dX1_commits_25 (by decide) ?_
          refine lv_ladd hx hb dX1_commits_26 ?_
          refine lv_iload_n hx hb dX1_commits_27 rfl (lv_at hl 1 rfl) ?_
          refine lv_iload_n hx hb dX1_commits_28 rfl (lv_at hl 2 rfl) ?_
          refine lv_icmp_ne (tgt := 36) hx hb dX1_commits_29 (by decide) (fun c_29 => ?_) (fun c_29 => ?_)
          · have n_29 : ¬ i = n := fun h => c_29 ((nI_eq (by omega) (by omega)).mpr h)
            refine lv_iconst (v := nI 0) hx hb dX1_commits_36 (by decide) ?_
            have hFc := va_free (wc := wM cA ad th st tp tl cb cy (nI n) dn lf of ro) hD hS hA [0, 1, 2, 3, 4, 5] rfl
            refine va_callv (va_runV (As := [.long (q + 1), .int (nI 0)]) (rest := []) ⟨hx, hb, hml, hown, hts⟩ (c_X1_headed l dC dI cA ad H.size th st tp tl cb cy dn lf of ro n 0 (q + 1) pi hn (by omega) (fun i hi => absurd hi (Nat.not_lt_zero i))) (cwV 2 hts gX1_commits_X1_headed rfl rfl rfl (by decide +kernel) ⟨Nat.le_of_ble_eq_true rfl, Nat.le_of_ble_eq_true rfl⟩) ⟨fun a U g mk q => by obtain ⟨q0, q1, qP, qK, qD⟩ := q; exact ⟨q0, q1, qP, va_K.moved (u := U) (U := U.calling g mk a) (Vm.Alike.refl U.vm) qK, qD⟩, va_recv hK hP (ci := 1) (q0 := 0) rfl rfl, fun U hU hW => ⟨rfl, by rw [hU], by rw [hU]; exact hP, va_K.moved hW.alike hK, hD.weaken (fun _ _ _ _ => trivial)⟩⟩ rfl rfl hl.1 rfl (lv_room (Nat.le_of_ble_eq_true rfl)) dX1_commits_37 ⟨Nat.le_of_ble_eq_true rfl, Nat.le_of_ble_eq_true rfl⟩) hS (fun q _ h => hFc q h) hFc (fun u t H1 locs ht hvm hw hB hz1 hk1 hS => ?_)
            obtain ⟨hP1, hK1, hD1⟩ := hB
            subst hw
            rw [ht] at hP1
            have hP : va_P (dC, dI) vwCl (wM cA ad th st tp tl cb cy (nI n) dn lf of (hdF st ro cb pi 0 (q + 1))) H1 := hP1
            have hD : va_D A (wM cA ad th st tp tl cb cy (nI n) dn lf of (hdF st ro cb pi 0 (q + 1))) := ⟨hD1.1, fun k q h => hFc _ (hD1.2 k q h)⟩
            generalize H1 = H at hP hS ⊢
            refine lv_aload_n hx hb dX1_commits_40 rfl (lv_at hl 0 rfl) ?_
            refine lv_iconst (v := nI 0) hx hb dX1_commits_41 (by decide) ?_
            have hFc := va_free (wc := wM cA ad th st tp tl cb cy (nI n) dn lf of (hdF st ro cb pi 0 (q + 1))) hD hS hA [0, 1, 2, 3, 4, 5] rfl
            refine va_calli (va_runV (As := [.int (nI 0)]) (rest := []) ⟨hx, hb, hml, hown, hts⟩ (c_X1_writes l dC dI cA ad H.size th st tp tl cb cy (nI n) dn lf of (hdF st ro cb pi 0 (q + 1)) 0 (by decide)) (cwV 1 hts gX1_commits_X1_writes rfl rfl rfl (by decide +kernel) ⟨Nat.le_of_ble_eq_true rfl, Nat.le_of_ble_eq_true rfl⟩) ⟨fun a U g mk q => by obtain ⟨q0, q1, qP, qK, qD⟩ := q; exact ⟨q0, q1, qP, va_K.moved (u := U) (U := U.calling g mk a) (Vm.Alike.refl U.vm) qK, qD⟩, va_recv hK hP (ci := 1) (q0 := 0) rfl rfl, fun U hU hW => ⟨rfl, by rw [hU], by rw [hU]; exact hP, va_K.moved hW.alike hK, hD.weaken (fun _ _ _ _ => trivial)⟩⟩ rfl rfl hl.1 rfl (lv_room (Nat.le_of_ble_eq_true rfl)) dX1_commits_42 ⟨Nat.le_of_ble_eq_true rfl, Nat.le_of_ble_eq_true rfl⟩) hS (fun q _ h => hFc q h) hFc (fun r_42 u t H1 locs ht hvm hw hB hz1 hk1 hS => ?_)
            obtain ⟨hP1, hK1, hD1⟩ := hB
            obtain ⟨e_42, rfl⟩ := hw
            rw [ht] at hP1
            have hP : va_P (dC, dI) vwCl (wM cA ad th (mwS (hdF st ro cb pi 0 (q + 1)) st of lf 0) tp tl cb cy (nI n) (mwD of lf dn) (mwL of lf) (mwO of lf) (hdF st ro cb pi 0 (q + 1))) H1 := hP1
            have hD : va_D A (wM cA ad th (mwS (hdF st ro cb pi 0 (q + 1)) st of lf 0) tp tl cb cy (nI n) (mwD of lf dn) (mwL of lf) (mwO of lf) (hdF st ro cb pi 0 (q + 1))) := ⟨hD1.1, fun k q h => hFc _ (hD1.2 k q h)⟩
            generalize H1 = H at hP hS ⊢
            subst e_42
            have hpost : ((th, mwS (hdF st ro cb pi 0 (q + 1)) st of lf 0, tp, tl, cb, cy, nI n, mwD of lf dn, mwL of lf, mwO of lf, hdF st ro cb pi 0 (q + 1)) : MS) = (th, mwS (crF st ro cb cy pi n i q) st of lf (crB cb pi n i), tp, tl, cb, cy, nI n, mwD of lf dn, mwL of lf, mwO of lf, crF st ro cb cy pi n i q) := by simp only [crF, crB, if_neg n_2, if_neg (not_not_intro n_11)]
            have hres : bI (mwB of lf) = bI (mwB of lf) := rfl
            exact W.zret (v := bI (mwB of lf)) (ty := .boolean) hx hb hr (bI_n _) (fun t ht hW => ⟨⟨_, (th, mwS (hdF st ro cb pi 0 (q + 1)) st of lf 0, tp, tl, cb, cy, nI n, mwD of lf dn, mwL of lf, mwO of lf, hdF st ro cb pi 0 (q + 1)), rfl, ⟨hres, hpost⟩, by rw [ht]; exact hP, va_K.moved hW.alike hK, hD⟩, hS.F ht⟩) hS.2.2 dX1_commits_45
          · have n_29 : i = n := (nI_eq (by omega) (by omega)).mp c_29
            exfalso; omega
        · have n_17 : i = n := (nI_eq (by omega) (by omega)).mp c_17
          exfalso; omega
  rw [hH, hlo] at goal
  exact goal
end

/-! The law's own words, as the skeleton has them; then what its loop carries. -/
def R_law : String := "BlockJournalLaw"
def lw_P (b : Addr) (xs : List Int32) (args : Array Value) (s : State) : Prop := args = #[.ref b] ∧ s.IntsAt b xs ∧ xs.length ≤ 2048 ∧ (Jvm.Cond.and given_1 narrow_1).before args s = true
def lw_Q (_ : Array Value) (s : State) (o : Outcome) (t : State) : Prop := o = .returned (some (.int 1)) ∧ Framed s o t [] 1050 24207
def lw_Z (below : List Frame) (a : Array Value) (s : State) : State → Prop := fun t => ∃ o, t.status = .running ∧ Ended t below o ∧ lw_Q a s o t
/-- the law's own end, with 1 on the stack, nothing written that was there before, its room as the claim has it -/
theorem lw_ret {p : Program} {l : Launch} {e : Env} {s : State} {m : MethodId} {below : List Frame} {meth : Method} {c : Code} {b : Nat} (hx : p.tables.exec = Jvm.exec) (hb : c.code = code) (hr : meth.sig.returnType = ret) (hlocks : meth.locks = false) {pc : Nat} {H : Heap} {ls : Array Slot} (hdg : decode code pc = .ok (.ireturn, 1)) : W p l e room_1 s m #[Value.ref b] below meth c H [] 1050 24207 (lw_Z below #[Value.ref b] s) (F0 m pc ls [.int 1]) := by
  intro T hT X
  obtain ⟨fs, hret, hrun, hended, hW, hframe⟩ := X.leave (v := some (.int 1)) (hlocks := hlocks) (fun h => by rw [hr] at h; cases h)
  have hmeth' : T.vm.method? m = some meth := X.method'
  refine ⟨T.setFrames fs, ?_, .returned (some (.int 1)), hrun, hended, rfl, ⟨_, rfl⟩, hW, hframe⟩
  jvm_step X.here [X.here.top, hx, hb, hdg, hmeth', hr, ret, narrow_b1]
  (try refine ⟨rfl, ?_⟩); (try refine ⟨rfl, ?_⟩)
  first | (intro acts; rw [hret _ acts rfl rfl rfl]) | rw [hret _ _ rfl rfl rfl]
  exact Steps.refl _
/-- what holds at the law's entry: the machine, the code, the tables' words (any of lw_tbl by 'hts w (by decide +kernel)'), the script of L ints xs at the cell b, what the Statement gives of the start (any of its parts by flat_of_before) -/
def lw_At (p : Program) (s : State) (m : MethodId) (meth : Method) (c : Code) (b L : Nat) (xs : Nat → Int32) : Prop :=
  p.tables.exec = Jvm.exec ∧ c.code = code ∧ meth.sig.returnType = ret ∧ c.maxLocals = 8 ∧ s.vm.findClass R_law = some m.cls ∧ (∀ w ∈ lw_tbl, w.before #[Value.ref b] s = true) ∧ va_X b L xs s s.heap ∧ b < s.heap.size ∧ meth.locks = false ∧ (Jvm.Cond.and given_1 narrow_1).before #[Value.ref b] s = true
abbrev wLw (cA cL : ClassId) (ax am : Nat → Nat) (oa : Nat) (u : XS) (w : MS) (fo : Nat → Int64) : va_W := wXu cA ax (ckF 256) u ++ (wMu cA am w ++ [(oa, .inl (cL, 1, .inr (.inl fo)))])
/-- what the law leans on from its entry on -/
def LC (p : Program) (s : State) (m : MethodId) (meth : Method) (c : Code) (dC : Nat → ClassId) (dI : Nat → Nat → Nat) (cA cL : ClassId) (A : Nat → Prop) (b L : Nat) (xs : Nat → Int32) : Prop :=
  lw_At p s m meth c b L xs ∧ va_K (dC, dI) vwCl [(cA, .int), (cL, .long)] s ∧ bjE A s s.heap ∧ va_Nc "java/lang/IllegalStateException" "java/lang/IllegalArgumentException" s ∧ (∀ q : Nat, s.heap.size ≤ q → A q) ∧ ¬ A b ∧ L ≤ 2048
/-- the loop's place with int i, ready to be gone on from behind a call -/
def LK (p : Program) (l : Launch) (e : Env) (s : State) (m : MethodId) (below : List Frame) (meth : Method) (c : Code) (dC : Nat → ClassId) (dI : Nat → Nat → Nat) (cA cL : ClassId) (A : Nat → Prop) (b : Nat) (ax am : Nat → Nat) (oa i cells slots pc : Nat) : Prop :=
  ∀ (u : XS) (w : MS) (fo : Nat → Int64) (H : Heap) (locs : List Loc) (ls : Array Slot), LI u w → va_P (dC, dI) vwCl (wLw cA cL ax am oa u w fo) H → va_D A (wLw cA cL ax am oa u w fo) → va_S A s.heap H locs → lv_has ls 8 [(0, .ref b), (1, .ref (ax 0)), (2, .ref (am 0)), (3, .ref oa), (4, .int (nI i))] → W p l e room_1 s m #[Value.ref b] below meth c H locs cells slots (lw_Z below #[Value.ref b] s) (F0 m pc ls [])

/-! What a throw leans on beside the words: two statics of Throwable, the texts, words that no list of good words holds. -/
def bjB : List Cond := [.declares (Bundle.initS "java/lang/RuntimeException"), .declares (Bundle.initS "java/lang/Exception"), .declares (Bundle.initS "java/lang/Throwable"), .castable "java/lang/IllegalArgumentException" "java/lang/IllegalArgumentException", .castable "java/lang/IllegalStateException" "java/lang/IllegalStateException", .castable "java/util/NoSuchElementException" "java/util/NoSuchElementException"]
def bjTx : List (Nat × String) := [(38, "n is not 1 .. 8"), (48, "the tape would have more than 64 bytes"), (55, "the block is not 25 .. 95"), (67, "there are 24 changes of other blocks"), (89, "there are no changes, or the power is off"), (105, "the power is off"), (118, "n is below 1"), (123, "there is no such block or byte"), (127, "there is no such change"), (136, "what is not 0 .. 6")]
def bjE (A : Nat → Prop) (U : State) (H : Heap) : Prop := vx_Zq Bundle.tN "UNASSIGNED_STACK" Bundle.steD A U H ∧ vx_Zq Bundle.tN "SUPPRESSED_SENTINEL" Bundle.listD A U H ∧ (∀ w ∈ bjB, w.before #[] U = true) ∧ ∀ q ∈ bjTx, ∃ sa : Nat, vk_R RX0 q.1 q.2 sa U
theorem bjB_at {u U : State} (hvm : u.vm.Alike U.vm) (h : ∀ w ∈ bjB, w.before #[] u = true) : ∀ w ∈ bjB, w.before #[] U = true := by
  have tr : ∀ {k : Cond}, k.onTables = true → k.before #[] (u.setVm U.vm) = true → k.before #[] U = true := by
    intro k hk h
    have e := Cond.onTables_vm (A := #[]) (A' := #[]) (U := u) (U' := U) U.vm k hk
    rw [State.setVm_self] at e
    rw [← e]
    exact h
  have d : ∀ x : MethodName, Cond.declares x ∈ bjB → (Cond.declares x).before #[] U = true := fun x hx => tr rfl (by rw [Cond.declares_setVm hvm]; exact h _ hx)
  have k : ∀ a b : String, Cond.castable a b ∈ bjB → (Cond.castable a b).before #[] U = true := fun a b hx => tr rfl (by rw [Cond.castable_setVm hvm]; exact h _ hx)
  intro w hw
  have hw' := hw
  simp only [bjB, List.mem_cons, List.not_mem_nil, or_false] at hw'
  rcases hw' with rfl | rfl | rfl | rfl | rfl | rfl
  · exact d _ hw
  · exact d _ hw
  · exact d _ hw
  · exact k _ _ hw
  · exact k _ _ hw
  · exact k _ _ hw
/-- at a call, or behind one: the tables warmer, the heap changed within A, fewer cells -/
theorem bjE_at {A B : Nat → Prop} {s U : State} {H : Heap} {locs : List Loc} (h : bjE A s s.heap) (hS : va_S A s.heap H locs) (hW : s.WarmedH U.vm) (hU : U.heap = H) (hF : ∀ q, B q → A q) : bjE B U U.heap := by
  obtain ⟨h1, h2, h3, h4⟩ := h
  rw [hU]
  exact ⟨((h1.kept hS.2.1).moved hW.alike).narrow hF, ((h2.kept hS.2.1).moved hW.alike).narrow hF, bjB_at hW.alike h3, fun q hq => (h4 q hq).elim fun sa h => ⟨sa, h.warm hW⟩⟩
theorem bjE_calling {A : Nat → Prop} {U : State} {g : JFrame} {mk : MethodId} {a : Array Value} (h : bjE A U U.heap) : bjE A (U.calling g mk a) (U.calling g mk a).heap := by
  obtain ⟨h1, h2, h3, h4⟩ := h
  exact ⟨h1.moved (u := U) (U := U.calling g mk a) (Vm.Alike.refl U.vm), h2.moved (u := U) (U := U.calling g mk a) (Vm.Alike.refl U.vm), bjB_at (u := U) (U := U.calling g mk a) (Vm.Alike.refl U.vm) h3, fun q hq => (h4 q hq).elim fun sa h => ⟨sa, vk_R.same (u := U) (U := U.calling g mk a) rfl h⟩⟩
theorem bj_thr {A : Nat → Prop} {dC : Nat → ClassId} {dI : Nat → Nat → Nat} {ws : va_W} {tys : List (ClassId × FieldType)} {s t : State} {H : Heap} {locs : List Loc} (hP : va_P (dC, dI) vwCl ws H) (hK : va_K (dC, dI) vwCl tys s) (hD : va_D A ws) (hS : va_S A s.heap H locs) (hal : s.vm.Alike t.vm) (hz : H.size ≤ t.heap.size) (hk : ∀ q : Nat, q < H.size → t.heap[q]? = H[q]?) :
    (va_P (dC, dI) vwCl ws t.heap ∧ va_K (dC, dI) vwCl tys t ∧ va_D A ws) ∧ va_F A s t :=
  ⟨⟨hP.kept (fun k q h => hk _ ((hP k q h).lt)), va_K.moved hal hK, hD⟩, Nat.le_trans hS.1 hz, fun q h1 h2 => (hk q (Nat.lt_of_lt_of_le h1 hS.1)).trans (hS.2.1 q h1 h2)⟩

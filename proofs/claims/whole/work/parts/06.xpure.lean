/-- the cells of a BlockJournal: itself and its six rows -/
def wX (cA : ClassId) (ad : Nat → Nat) (st ck nh tp : Nat → Int32) (tl : Int32) (cb cy : Nat → Int32) (nc of wl : Int32) (wd : Int64) : va_W :=
  [(ad 0, .inr (0, [.ref (ad 1), .ref (ad 2), .ref (ad 3), .ref (ad 4), .int tl, .ref (ad 5), .ref (ad 6), .int nc, .int of, .int wl, .long wd])), (ad 1, .inl (cA, 6144, .inl st)), (ad 2, .inl (cA, 256, .inl ck)), (ad 3, .inl (cA, 64, .inl nh)), (ad 4, .inl (cA, 64, .inl tp)), (ad 5, .inl (cA, 24, .inl cb)), (ad 6, .inl (cA, 1536, .inl cy))]
/-- the numbers of targets -/
def isT (b : Int32) : Bool := if b < nI 25 then false else if nI 96 ≤ b then false else true
/-- the places of the store -/
def isS (b k : Int32) : Bool := if b < 0 then false else if nI 96 ≤ b then false else if k < 0 then false else if nI 64 ≤ k then false else true
/-- four bytes of a row as a word, lowest first -/
def hwF (f : Nat → Int32) (p : Nat) : Nat → Int32
  | 0 => nI 0
  | i + 1 => hwF f p i ||| (f (p + i) <<< (nI (8 * i) &&& 31))
/-- a step of the check, and n of them -/
def c1F (w : Int32) : Int32 := if ¬ w &&& nI 1 = nI 1 then (w.toUInt32 >>> ((nI 1).toUInt32 &&& Int32.toUInt32 31)).toInt32 else (w.toUInt32 >>> ((nI 1).toUInt32 &&& Int32.toUInt32 31)).toInt32 ^^^ (-2097792136)
def cnF : Nat → Int32 → Int32
  | 0, w => w
  | k + 1, w => cnF k (c1F w)
/-- the first of k places from i on whose number is not below -/
def plF (f : Nat → Int32) (b : Int32) : Nat → Nat → Nat
  | 0, i => i
  | k + 1, i => if b ≤ f i then i else plF f b k (i + 1)
/-- the check of k bytes of the store from i on -/
def pcF (f ck : Nat → Int32) : Nat → Nat → Int32 → Int32
  | 0, _, w => w
  | k + 1, i, w => pcF f ck k (i + 1) ((w.toUInt32 >>> ((nI 8).toUInt32 &&& Int32.toUInt32 31)).toInt32 ^^^ ck ((w ^^^ f i) &&& nI 255).toNatClampNeg)
/-- target i of the head -/
def htF (f : Nat → Int32) (i : Nat) : Int32 := f (5 + 2 * i) ||| (f (5 + 2 * i + 1) <<< (nI 8 &&& 31))
/-- k targets from i on rise behind b and are targets -/
def trF (f : Nat → Int32) : Nat → Nat → Int32 → Bool
  | 0, _, _ => true
  | k + 1, i, b => if bI (isT (htF f i)) = 0 then false else if b < htF f i then trF f k (i + 1) (htF f i) else false

set_option maxHeartbeats 4000000 in
set_option maxRecDepth 100000 in
theorem c_X0_isTarget (l : Launch) (b : Int32)  : Met l yX0_isTarget wsX0_isTarget ({ frames := 0, cells := 0, slots := 0, locals := 0 } : Room) (va_Pc [.int b] (fun _ => True)) (bj_Q (some (.int (bI (isT b))))) 0 0 (fun _ => False) := by
  refine Met.ofW (cc := cX0_isTarget) (maxL := 1) (ret := (some .boolean)) (by decide) rfl ?_
  intro p e s m args below meth c s₁ B hml hv
  obtain ⟨rfl, -⟩ := hv
  have hx := B.exec
  have hb := B.bytes
  have hr := B.returns
  have hts := atoms_spec (ws := wsX0_isTarget) B.pre
  have hown : s.vm.findClass RX0 = some m.cls := findClass_of_methodNamed B.named
  have hlocks := B.notSynchronized
  have hl := lv_entry ([.int b]) (n := 1) (Nat.le_of_ble_eq_true rfl)
  rw [lg_entry_eq]
  generalize (lg_sl ([.int b]) ++ List.replicate (1 - (lg_sl ([.int b])).length) Slot.unset).toArray = ls at hl ⊢
  have hl : lv_has ls 1 [(0, .int b)] := hl
  refine lv_iload_n hx hb dX0_isTarget_0 rfl (lv_at hl 0 rfl) ?_
  refine lv_bipush (v := nI 25) hx hb dX0_isTarget_1 (by decide) ?_
  refine lv_icmp_lt (tgt := 16) hx hb dX0_isTarget_3 (by decide) (fun c_3 => ?_) (fun c_3 => ?_)
  · refine lv_iconst (v := nI 0) hx hb dX0_isTarget_16 (by decide) ?_
    have hres : nI 0 = bI (isT b) := by rw [isT, if_pos c_3]; rfl
    exact W.zret (v := nI 0) (ty := .boolean) hx hb hr rfl (fun t ht _ => ⟨congrArg (fun z : Int32 => Outcome.returned (some (Value.int z))) hres, ht⟩) (fun _ h => by cases h) dX0_isTarget_17
  · refine lv_iload_n hx hb dX0_isTarget_6 rfl (lv_at hl 0 rfl) ?_
    refine lv_bipush (v := nI 96) hx hb dX0_isTarget_7 (by decide) ?_
    refine lv_icmp_ge (tgt := 16) hx hb dX0_isTarget_9 (by decide) (fun c_9 => ?_) (fun c_9 => ?_)
    · refine lv_iconst (v := nI 0) hx hb dX0_isTarget_16 (by decide) ?_
      have hres : nI 0 = bI (isT b) := by rw [isT, if_neg c_3, if_pos c_9]; rfl
      exact W.zret (v := nI 0) (ty := .boolean) hx hb hr rfl (fun t ht _ => ⟨congrArg (fun z : Int32 => Outcome.returned (some (Value.int z))) hres, ht⟩) (fun _ h => by cases h) dX0_isTarget_17
    · refine lv_iconst (v := nI 1) hx hb dX0_isTarget_12 (by decide) ?_
      refine lv_goto (tgt := 17) hx hb dX0_isTarget_13 (by decide) ?_
      have hres : nI 1 = bI (isT b) := by rw [isT, if_neg c_3, if_neg c_9]; rfl
      exact W.zret (v := nI 1) (ty := .boolean) hx hb hr rfl (fun t ht _ => ⟨congrArg (fun z : Int32 => Outcome.returned (some (Value.int z))) hres, ht⟩) (fun _ h => by cases h) dX0_isTarget_17

set_option maxHeartbeats 4000000 in
set_option maxRecDepth 100000 in
theorem c_X0_isInStore (l : Launch) (b k : Int32)  : Met l yX0_isInStore wsX0_isInStore ({ frames := 0, cells := 0, slots := 0, locals := 0 } : Room) (va_Pc [.int b, .int k] (fun _ => True)) (bj_Q (some (.int (bI (isS b k))))) 0 0 (fun _ => False) := by
  refine Met.ofW (cc := cX0_isInStore) (maxL := 2) (ret := (some .boolean)) (by decide) rfl ?_
  intro p e s m args below meth c s₁ B hml hv
  obtain ⟨rfl, -⟩ := hv
  have hx := B.exec
  have hb := B.bytes
  have hr := B.returns
  have hts := atoms_spec (ws := wsX0_isInStore) B.pre
  have hown : s.vm.findClass RX0 = some m.cls := findClass_of_methodNamed B.named
  have hlocks := B.notSynchronized
  have hl := lv_entry ([.int b, .int k]) (n := 2) (Nat.le_of_ble_eq_true rfl)
  rw [lg_entry_eq]
  generalize (lg_sl ([.int b, .int k]) ++ List.replicate (2 - (lg_sl ([.int b, .int k])).length) Slot.unset).toArray = ls at hl ⊢
  have hl : lv_has ls 2 [(0, .int b), (1, .int k)] := hl
  refine lv_iload_n hx hb dX0_isInStore_0 rfl (lv_at hl 0 rfl) ?_
  refine lv_if_lt (tgt := 24) hx hb dX0_isInStore_1 (by decide) (fun c_1 => ?_) (fun c_1 => ?_)
  · refine lv_iconst (v := nI 0) hx hb dX0_isInStore_24 (by decide) ?_
    have hres : nI 0 = bI (isS b k) := by rw [isS, if_pos c_1]; rfl
    exact W.zret (v := nI 0) (ty := .boolean) hx hb hr rfl (fun t ht _ => ⟨congrArg (fun z : Int32 => Outcome.returned (some (Value.int z))) hres, ht⟩) (fun _ h => by cases h) dX0_isInStore_25
  · refine lv_iload_n hx hb dX0_isInStore_4 rfl (lv_at hl 0 rfl) ?_
    refine lv_bipush (v := nI 96) hx hb dX0_isInStore_5 (by decide) ?_
    refine lv_icmp_ge (tgt := 24) hx hb dX0_isInStore_7 (by decide) (fun c_7 => ?_) (fun c_7 => ?_)
    · refine lv_iconst (v := nI 0) hx hb dX0_isInStore_24 (by decide) ?_
      have hres : nI 0 = bI (isS b k) := by rw [isS, if_neg c_1, if_pos c_7]; rfl
      exact W.zret (v := nI 0) (ty := .boolean) hx hb hr rfl (fun t ht _ => ⟨congrArg (fun z : Int32 => Outcome.returned (some (Value.int z))) hres, ht⟩) (fun _ h => by cases h) dX0_isInStore_25
    · refine lv_iload_n hx hb dX0_isInStore_10 rfl (lv_at hl 1 rfl) ?_
      refine lv_if_lt (tgt := 24) hx hb dX0_isInStore_11 (by decide) (fun c_11 => ?_) (fun c_11 => ?_)
      · refine lv_iconst (v := nI 0) hx hb dX0_isInStore_24 (by decide) ?_
        have hres : nI 0 = bI (isS b k) := by rw [isS, if_neg c_1, if_neg c_7, if_pos c_11]; rfl
        exact W.zret (v := nI 0) (ty := .boolean) hx hb hr rfl (fun t ht _ => ⟨congrArg (fun z : Int32 => Outcome.returned (some (Value.int z))) hres, ht⟩) (fun _ h => by cases h) dX0_isInStore_25
      · refine lv_iload_n hx hb dX0_isInStore_14 rfl (lv_at hl 1 rfl) ?_
        refine lv_bipush (v := nI 64) hx hb dX0_isInStore_15 (by decide) ?_
        refine lv_icmp_ge (tgt := 24) hx hb dX0_isInStore_17 (by decide) (fun c_17 => ?_) (fun c_17 => ?_)
        · refine lv_iconst (v := nI 0) hx hb dX0_isInStore_24 (by decide) ?_
          have hres : nI 0 = bI (isS b k) := by rw [isS, if_neg c_1, if_neg c_7, if_neg c_11, if_pos c_17]; rfl
          exact W.zret (v := nI 0) (ty := .boolean) hx hb hr rfl (fun t ht _ => ⟨congrArg (fun z : Int32 => Outcome.returned (some (Value.int z))) hres, ht⟩) (fun _ h => by cases h) dX0_isInStore_25
        · refine lv_iconst (v := nI 1) hx hb dX0_isInStore_20 (by decide) ?_
          refine lv_goto (tgt := 25) hx hb dX0_isInStore_21 (by decide) ?_
          have hres : nI 1 = bI (isS b k) := by rw [isS, if_neg c_1, if_neg c_7, if_neg c_11, if_neg c_17]; rfl
          exact W.zret (v := nI 1) (ty := .boolean) hx hb hr rfl (fun t ht _ => ⟨congrArg (fun z : Int32 => Outcome.returned (some (Value.int z))) hres, ht⟩) (fun _ h => by cases h) dX0_isInStore_25

set_option maxHeartbeats 4000000 in
set_option maxRecDepth 100000 in
theorem c_X0_eightSteps (l : Launch) (b : Int32)  : Met l yX0_eightSteps wsX0_eightSteps ({ frames := 0, cells := 0, slots := 0, locals := 0 } : Room) (va_Pc [.int b] (fun _ => True)) (bj_Q (some (.int (cnF 8 b)))) 0 0 (fun _ => False) := by
  refine Met.ofW (cc := cX0_eightSteps) (maxL := 3) (ret := (some .int)) (by decide) rfl ?_
  intro p e s m args below meth c s₁ B hml hv
  obtain ⟨rfl, -⟩ := hv
  have hx := B.exec
  have hb := B.bytes
  have hr := B.returns
  have hts := atoms_spec (ws := wsX0_eightSteps) B.pre
  have hown : s.vm.findClass RX0 = some m.cls := findClass_of_methodNamed B.named
  have hlocks := B.notSynchronized
  have hl := lv_entry ([.int b]) (n := 3) (Nat.le_of_ble_eq_true rfl)
  rw [lg_entry_eq]
  generalize (lg_sl ([.int b]) ++ List.replicate (3 - (lg_sl ([.int b])).length) Slot.unset).toArray = ls at hl ⊢
  have hl : lv_has ls 3 [(0, .int b)] := hl
  refine lv_iconst (v := nI 0) hx hb dX0_eightSteps_0 (by decide) ?_
  refine lv_istore_n (lv' := [(1, .int (nI 0)), (0, .int b)]) hx hb dX0_eightSteps_1 rfl hl (by decide) rfl (fun ls hl => ?_)
  have loop_2 : ∀ (k : Nat) (i : Nat) (w : Int32), i + k = 8 → cnF 8 b = cnF k w → ∀ ls : Array Slot, lv_has ls 3 [(0, .int w), (1, .int (nI i))] → W p l e (headSpec wsX0_eightSteps ({ frames := 0, cells := 0, slots := 0, locals := 0 } : Room)).room s m ([.int b] : List Value).toArray below meth c s.heap [] 0 0 (MQ below (bj_Q (some (.int (cnF 8 b)))) ([.int b] : List Value).toArray s 0 0 (fun _ => False)) (F0 m 2 ls []) := by
    intro k
    induction k with
    | zero =>
      intro i w hk hR ls hl
      refine lv_iload_n hx hb dX0_eightSteps_2 rfl (lv_at hl 1 rfl) ?_
      refine lv_bipush (v := nI 8) hx hb dX0_eightSteps_3 (by decide) ?_
      refine lv_icmp_ge (tgt := 32) hx hb dX0_eightSteps_5 (by decide) (fun c_5 => ?_) (fun c_5 => ?_)
      · have n_5 : 8 ≤ i := (nI_leI (by omega) (by omega)).mp c_5
        refine lv_iload_n hx hb dX0_eightSteps_32 rfl (lv_at hl 0 rfl) ?_
        have hres : w = cnF 8 b := hR.symm
        exact W.iret (v := w) hx hb hr (fun t ht _ => ⟨congrArg (fun z : Int32 => Outcome.returned (some (Value.int z))) hres, ht⟩) (fun _ h => by cases h) dX0_eightSteps_33
      · have n_5 : ¬ 8 ≤ i := fun h => c_5 ((nI_leI (by omega) (by omega)).mpr h)
        exfalso; omega
    | succ k ih =>
      intro i w hk hR ls hl
      refine lv_iload_n hx hb dX0_eightSteps_2 rfl (lv_at hl 1 rfl) ?_
      refine lv_bipush (v := nI 8) hx hb dX0_eightSteps_3 (by decide) ?_
      refine lv_icmp_ge (tgt := 32) hx hb dX0_eightSteps_5 (by decide) (fun c_5 => ?_) (fun c_5 => ?_)
      · have n_5 : 8 ≤ i := (nI_leI (by omega) (by omega)).mp c_5
        exfalso; omega
      · have n_5 : ¬ 8 ≤ i := fun h => c_5 ((nI_leI (by omega) (by omega)).mpr h)
        refine lv_iload_n hx hb dX0_eightSteps_8 rfl (lv_at hl 0 rfl) ?_
        refine lv_iconst (v := nI 1) hx hb dX0_eightSteps_9 (by decide) ?_
        refine lv_iand hx hb dX0_eightSteps_10 ?_
        refine lv_istore_n (lv' := [(2, .int (w &&& (nI 1))), (0, .int w), (1, .int (nI i))]) hx hb dX0_eightSteps_11 rfl hl (by decide) rfl (fun ls hl => ?_)
        refine lv_iload_n hx hb dX0_eightSteps_12 rfl (lv_at hl 1 rfl) ?_
        refine lv_iconst (v := nI 1) hx hb dX0_eightSteps_13 (by decide) ?_
        refine lv_iushr hx hb dX0_eightSteps_14 rfl ?_
        refine lv_istore_n (lv' := [(0, .int ((w.toUInt32 >>> ((nI 1).toUInt32 &&& Int32.toUInt32 31)).toInt32)), (2, .int (w &&& (nI 1))), (1, .int (nI i))]) hx hb dX0_eightSteps_15 rfl hl (by decide) rfl (fun ls hl => ?_)
        refine lv_iload_n hx hb dX0_eightSteps_16 rfl (lv_at hl 1 rfl) ?_
        refine lv_iconst (v := nI 1) hx hb dX0_eightSteps_17 (by decide) ?_
        refine lv_icmp_ne (tgt := 26) hx hb dX0_eightSteps_18 (by decide) (fun c_18 => ?_) (fun c_18 => ?_)
        · refine lv_iinc (v := nI (i + 1)) (lv' := [(1, .int (nI (i + 1))), (0, .int ((w.toUInt32 >>> ((nI 1).toUInt32 &&& Int32.toUInt32 31)).toInt32)), (2, .int (w &&& (nI 1)))]) hx hb dX0_eightSteps_26 hl (k := 2) rfl (nI_add i 1) (by decide) rfl (fun ls hl => ?_)
          refine lv_goto (tgt := 2) hx hb dX0_eightSteps_29 (by decide) ?_
          exact ih (i + 1) _ (by omega) (by rw [hR, cnF, c1F, if_pos c_18]) _ (lv_sub hl [1, 0] rfl)
        · refine lv_iload_n hx hb dX0_eightSteps_21 rfl (lv_at hl 0 rfl) ?_
          refine lv_ldc hx hb hown (hts (.constant RX0 147 (-2097792136)) (by decide +kernel)) dX0_eightSteps_22 ?_
          refine lv_ixor hx hb dX0_eightSteps_24 ?_
          refine lv_istore_n (lv' := [(0, .int (((w.toUInt32 >>> ((nI 1).toUInt32 &&& Int32.toUInt32 31)).toInt32) ^^^ (-2097792136))), (2, .int (w &&& (nI 1))), (1, .int (nI i))]) hx hb dX0_eightSteps_25 rfl hl (by decide) rfl (fun ls hl => ?_)
          refine lv_iinc (v := nI (i + 1)) (lv' := [(1, .int (nI (i + 1))), (0, .int (((w.toUInt32 >>> ((nI 1).toUInt32 &&& Int32.toUInt32 31)).toInt32) ^^^ (-2097792136))), (2, .int (w &&& (nI 1)))]) hx hb dX0_eightSteps_26 hl (k := 2) rfl (nI_add i 1) (by decide) rfl (fun ls hl => ?_)
          refine lv_goto (tgt := 2) hx hb dX0_eightSteps_29 (by decide) ?_
          exact ih (i + 1) _ (by omega) (by rw [hR, cnF, c1F, if_neg (not_not_intro c_18)]) _ (lv_sub hl [1, 0] rfl)
  exact loop_2 8 0 b (by omega) rfl _ (lv_sub hl [1, 0] rfl)

set_option maxHeartbeats 4000000 in
set_option maxRecDepth 100000 in
theorem c_X0_headWord (l : Launch) (dC : Nat → ClassId) (dI : Nat → Nat → Nat) (cA : ClassId) (ad : Nat → Nat) (st ck nh tp : Nat → Int32) (tl : Int32) (cb cy : Nat → Int32) (nc of wl : Int32) (wd : Int64) (p0 : Nat) (hp : p0 ≤ 6140) : Met l yX0_headWord wsX0_headWord ({ frames := 0, cells := 0, slots := 0, locals := 0 } : Room) (va_Pc [.ref (ad 0), .int (nI p0)] (fun U => va_P (dC, dI) vwCl (wX cA ad st ck nh tp tl cb cy nc of wl wd) U.heap ∧ va_K (dC, dI) vwCl [(cA, .int)] U)) (bj_Q (some (.int (hwF st p0 4)))) 0 0 (fun _ => False) := by
  refine Met.ofW (cc := cX0_headWord) (maxL := 4) (ret := (some .int)) (by decide) rfl ?_
  intro p e s m args below meth c s₁ B hml hv
  obtain ⟨rfl, hP, hK⟩ := hv
  have hx := B.exec
  have hb := B.bytes
  have hr := B.returns
  have hts := atoms_spec (ws := wsX0_headWord) B.pre
  have hown : s.vm.findClass RX0 = some m.cls := findClass_of_methodNamed B.named
  have hlocks := B.notSynchronized
  have hin : ∀ w ∈ u_ws RX0 TX0 11, w ∈ wsX0_headWord := by decide +kernel
  have hl := lv_entry ([.ref (ad 0), .int (nI p0)]) (n := 4) (Nat.le_of_ble_eq_true rfl)
  rw [lg_entry_eq]
  generalize (lg_sl ([.ref (ad 0), .int (nI p0)]) ++ List.replicate (4 - (lg_sl ([.ref (ad 0), .int (nI p0)])).length) Slot.unset).toArray = ls at hl ⊢
  have hl : lv_has ls 4 [(0, .ref (ad 0)), (1, .int (nI p0))] := hl
  refine lv_iconst (v := nI 0) hx hb dX0_headWord_0 (by decide) ?_
  refine lv_istore_n (lv' := [(2, .int (nI 0)), (0, .ref (ad 0)), (1, .int (nI p0))]) hx hb dX0_headWord_1 rfl hl (by decide) rfl (fun ls hl => ?_)
  refine lv_iconst (v := nI 0) hx hb dX0_headWord_2 (by decide) ?_
  refine lv_istore_n (lv' := [(3, .int (nI 0)), (2, .int (nI 0)), (0, .ref (ad 0)), (1, .int (nI p0))]) hx hb dX0_headWord_3 rfl hl (by decide) rfl (fun ls hl => ?_)
  have loop_4 : ∀ (k : Nat) (i : Nat), i + k = 4 → ∀ ls : Array Slot, lv_has ls 4 [(0, .ref (ad 0)), (1, .int (nI p0)), (2, .int (hwF st p0 i)), (3, .int (nI i))] → W p l e (headSpec wsX0_headWord ({ frames := 0, cells := 0, slots := 0, locals := 0 } : Room)).room s m ([.ref (ad 0), .int (nI p0)] : List Value).toArray below meth c s.heap [] 0 0 (MQ below (bj_Q (some (.int (hwF st p0 4)))) ([.ref (ad 0), .int (nI p0)] : List Value).toArray s 0 0 (fun _ => False)) (F0 m 4 ls []) := by
    intro k
    induction k with
    | zero =>
      intro i hk ls hl
      refine lv_iload_n hx hb dX0_headWord_4 rfl (lv_at hl 3 rfl) ?_
      refine lv_iconst (v := nI 4) hx hb dX0_headWord_5 (by decide) ?_
      refine lv_icmp_ge (tgt := 33) hx hb dX0_headWord_6 (by decide) (fun c_6 => ?_) (fun c_6 => ?_)
      · have n_6 : 4 ≤ i := (nI_leI (by omega) (by omega)).mp c_6
        refine lv_iload_n hx hb dX0_headWord_33 rfl (lv_at hl 2 rfl) ?_
        have hres : hwF st p0 i = hwF st p0 4 := by rw [show i = 4 by omega]
        exact W.iret (v := hwF st p0 i) hx hb hr (fun t ht _ => ⟨congrArg (fun z : Int32 => Outcome.returned (some (Value.int z))) hres, ht⟩) (fun _ h => by cases h) dX0_headWord_34
      · have n_6 : ¬ 4 ≤ i := fun h => c_6 ((nI_leI (by omega) (by omega)).mpr h)
        exfalso; omega
    | succ k ih =>
      intro i hk ls hl
      refine lv_iload_n hx hb dX0_headWord_4 rfl (lv_at hl 3 rfl) ?_
      refine lv_iconst (v := nI 4) hx hb dX0_headWord_5 (by decide) ?_
      refine lv_icmp_ge (tgt := 33) hx hb dX0_headWord_6 (by decide) (fun c_6 => ?_) (fun c_6 => ?_)
      · have n_6 : 4 ≤ i := (nI_leI (by omega) (by omega)).mp c_6
        exfalso; omega
      · have n_6 : ¬ 4 ≤ i := fun h => c_6 ((nI_leI (by omega) (by omega)).mpr h)
        refine lv_iload_n hx hb dX0_headWord_9 rfl (lv_at hl 2 rfl) ?_
        refine lv_aload_n hx hb dX0_headWord_10 rfl (lv_at hl 0 rfl) ?_
        refine va_get (D := (dC, dI)) (ci := 0) (v := .ref (ad 1)) (C := RX0) (T := TX0) (N := 11) hx hb hts hin hown hK hP 0 rfl rfl 0 (by decide) (hts (.fieldLink RX0 9 "BlockJournal" "store" "[I") (by decide +kernel)) (fun _ h9 => h9) rfl dX0_headWord_11 ?_
        refine lv_iconst (v := nI 0) hx hb dX0_headWord_14 (by decide) ?_
        refine lv_iload_n hx hb dX0_headWord_15 rfl (lv_at hl 1 rfl) ?_
        refine lv_iadd hx hb dX0_headWord_16 ?_
        refine bj_i (nI_add 0 p0) ?_
        refine lv_iload_n hx hb dX0_headWord_17 rfl (lv_at hl 3 rfl) ?_
        refine lv_iadd hx hb dX0_headWord_18 ?_
        refine bj_i (nI_add (0 + p0) i) ?_
        refine va_iald (D := (dC, dI)) hx hb hK hP 1 0 (cA := cA) (n := 6144) (f := st) rfl rfl (i := (nI ((0 + p0) + i))) (vp_in_nI (by omega) (by omega)) dX0_headWord_19 ?_
        refine bj_i (y := st ((0 + p0) + i)) (congrArg st (nI_clamp (by omega))) ?_
        refine lv_bipush (v := nI 8) hx hb dX0_headWord_20 (by decide) ?_
        refine lv_iload_n hx hb dX0_headWord_22 rfl (lv_at hl 3 rfl) ?_
        refine lv_imul hx hb dX0_headWord_23 ?_
        refine bj_i (pk_mul 8 i) ?_
        refine lv_ishl hx hb dX0_headWord_24 ?_
        refine lv_ior hx hb dX0_headWord_25 ?_
        refine bj_i (y := hwF st p0 (i + 1)) (by rw [Nat.zero_add]; rfl) ?_
        refine lv_istore_n (lv' := [(2, .int (hwF st p0 (i + 1))), (0, .ref (ad 0)), (1, .int (nI p0)), (3, .int (nI i))]) hx hb dX0_headWord_26 rfl hl (by decide) rfl (fun ls hl => ?_)
        refine lv_iinc (v := nI (i + 1)) (lv' := [(3, .int (nI (i + 1))), (2, .int (hwF st p0 (i + 1))), (0, .ref (ad 0)), (1, .int (nI p0))]) hx hb dX0_headWord_27 hl (k := 3) rfl (nI_add i 1) (by decide) rfl (fun ls hl => ?_)
        refine lv_goto (tgt := 4) hx hb dX0_headWord_30 (by decide) ?_
        exact ih (i + 1) (by omega) _ (lv_sub hl [2, 3, 1, 0] rfl)
  exact loop_4 4 0 (by omega) _ (lv_sub hl [2, 3, 1, 0] rfl)

set_option maxHeartbeats 4000000 in
set_option maxRecDepth 100000 in
theorem c_X0_headCount (l : Launch) (dC : Nat → ClassId) (dI : Nat → Nat → Nat) (cA : ClassId) (ad : Nat → Nat) (st ck nh tp : Nat → Int32) (tl : Int32) (cb cy : Nat → Int32) (nc of wl : Int32) (wd : Int64)  : Met l yX0_headCount wsX0_headCount ({ frames := 0, cells := 0, slots := 0, locals := 0 } : Room) (va_Pc [.ref (ad 0)] (fun U => va_P (dC, dI) vwCl (wX cA ad st ck nh tp tl cb cy nc of wl wd) U.heap ∧ va_K (dC, dI) vwCl [(cA, .int)] U)) (bj_Q (some (.int (st 4)))) 0 0 (fun _ => False) := by
  refine Met.ofW (cc := cX0_headCount) (maxL := 1) (ret := (some .int)) (by decide) rfl ?_
  intro p e s m args below meth c s₁ B hml hv
  obtain ⟨rfl, hP, hK⟩ := hv
  have hx := B.exec
  have hb := B.bytes
  have hr := B.returns
  have hts := atoms_spec (ws := wsX0_headCount) B.pre
  have hown : s.vm.findClass RX0 = some m.cls := findClass_of_methodNamed B.named
  have hlocks := B.notSynchronized
  have hin : ∀ w ∈ u_ws RX0 TX0 11, w ∈ wsX0_headCount := by decide +kernel
  have hl := lv_entry ([.ref (ad 0)]) (n := 1) (Nat.le_of_ble_eq_true rfl)
  rw [lg_entry_eq]
  generalize (lg_sl ([.ref (ad 0)]) ++ List.replicate (1 - (lg_sl ([.ref (ad 0)])).length) Slot.unset).toArray = ls at hl ⊢
  have hl : lv_has ls 1 [(0, .ref (ad 0))] := hl
  refine lv_aload_n hx hb dX0_headCount_0 rfl (lv_at hl 0 rfl) ?_
  refine va_get (D := (dC, dI)) (ci := 0) (v := .ref (ad 1)) (C := RX0) (T := TX0) (N := 11) hx hb hts hin hown hK hP 0 rfl rfl 0 (by decide) (hts (.fieldLink RX0 9 "BlockJournal" "store" "[I") (by decide +kernel)) (fun _ h9 => h9) rfl dX0_headCount_1 ?_
  refine lv_iconst (v := nI 4) hx hb dX0_headCount_4 (by decide) ?_
  refine va_iald (D := (dC, dI)) hx hb hK hP 1 0 (cA := cA) (n := 6144) (f := st) rfl rfl (i := (nI 4)) (vp_in_nI (by omega) (by omega)) dX0_headCount_5 ?_
  refine bj_i (y := st 4) (congrArg st (nI_clamp (by omega))) ?_
  have hres : st 4 = st 4 := rfl
  exact W.iret (v := st 4) hx hb hr (fun t ht _ => ⟨congrArg (fun z : Int32 => Outcome.returned (some (Value.int z))) hres, ht⟩) (fun _ h => by cases h) dX0_headCount_6

set_option maxHeartbeats 4000000 in
set_option maxRecDepth 100000 in
theorem c_X0_headTarget (l : Launch) (dC : Nat → ClassId) (dI : Nat → Nat → Nat) (cA : ClassId) (ad : Nat → Nat) (st ck nh tp : Nat → Int32) (tl : Int32) (cb cy : Nat → Int32) (nc of wl : Int32) (wd : Int64) (i : Nat) (hi : i < 24) : Met l yX0_headTarget wsX0_headTarget ({ frames := 0, cells := 0, slots := 0, locals := 0 } : Room) (va_Pc [.ref (ad 0), .int (nI i)] (fun U => va_P (dC, dI) vwCl (wX cA ad st ck nh tp tl cb cy nc of wl wd) U.heap ∧ va_K (dC, dI) vwCl [(cA, .int)] U)) (bj_Q (some (.int (htF st i)))) 0 0 (fun _ => False) := by
  refine Met.ofW (cc := cX0_headTarget) (maxL := 3) (ret := (some .int)) (by decide) rfl ?_
  intro p e s m args below meth c s₁ B hml hv
  obtain ⟨rfl, hP, hK⟩ := hv
  have hx := B.exec
  have hb := B.bytes
  have hr := B.returns
  have hts := atoms_spec (ws := wsX0_headTarget) B.pre
  have hown : s.vm.findClass RX0 = some m.cls := findClass_of_methodNamed B.named
  have hlocks := B.notSynchronized
  have hin : ∀ w ∈ u_ws RX0 TX0 11, w ∈ wsX0_headTarget := by decide +kernel
  have hl := lv_entry ([.ref (ad 0), .int (nI i)]) (n := 3) (Nat.le_of_ble_eq_true rfl)
  rw [lg_entry_eq]
  generalize (lg_sl ([.ref (ad 0), .int (nI i)]) ++ List.replicate (3 - (lg_sl ([.ref (ad 0), .int (nI i)])).length) Slot.unset).toArray = ls at hl ⊢
  have hl : lv_has ls 3 [(0, .ref (ad 0)), (1, .int (nI i))] := hl
  refine lv_iconst (v := nI 5) hx hb dX0_headTarget_0 (by decide) ?_
  refine lv_iconst (v := nI 2) hx hb dX0_headTarget_1 (by decide) ?_
  refine lv_iload_n hx hb dX0_headTarget_2 rfl (lv_at hl 1 rfl) ?_
  refine lv_imul hx hb dX0_headTarget_3 ?_
  refine bj_i (pk_mul 2 i) ?_
  refine lv_iadd hx hb dX0_headTarget_4 ?_
  refine bj_i (nI_add 5 (2 * i)) ?_
  refine lv_istore_n (lv' := [(2, .int (nI (5 + (2 * i)))), (0, .ref (ad 0)), (1, .int (nI i))]) hx hb dX0_headTarget_5 rfl hl (by decide) rfl (fun ls hl => ?_)
  refine lv_aload_n hx hb dX0_headTarget_6 rfl (lv_at hl 1 rfl) ?_
  refine va_get (D := (dC, dI)) (ci := 0) (v := .ref (ad 1)) (C := RX0) (T := TX0) (N := 11) hx hb hts hin hown hK hP 0 rfl rfl 0 (by decide) (hts (.fieldLink RX0 9 "BlockJournal" "store" "[I") (by decide +kernel)) (fun _ h9 => h9) rfl dX0_headTarget_7 ?_
  refine lv_iload_n hx hb dX0_headTarget_10 rfl (lv_at hl 0 rfl) ?_
  refine va_iald (D := (dC, dI)) hx hb hK hP 1 0 (cA := cA) (n := 6144) (f := st) rfl rfl (i := (nI (5 + (2 * i)))) (vp_in_nI (by omega) (by omega)) dX0_headTarget_11 ?_
  refine bj_i (y := st (5 + (2 * i))) (congrArg st (nI_clamp (by omega))) ?_
  refine lv_aload_n hx hb dX0_headTarget_12 rfl (lv_at hl 1 rfl) ?_
  refine va_get (D := (dC, dI)) (ci := 0) (v := .ref (ad 1)) (C := RX0) (T := TX0) (N := 11) hx hb hts hin hown hK hP 0 rfl rfl 0 (by decide) (hts (.fieldLink RX0 9 "BlockJournal" "store" "[I") (by decide +kernel)) (fun _ h9 => h9) rfl dX0_headTarget_13 ?_
  refine lv_iload_n hx hb dX0_headTarget_16 rfl (lv_at hl 0 rfl) ?_
  refine lv_iconst (v := nI 1) hx hb dX0_headTarget_17 (by decide) ?_
  refine lv_iadd hx hb dX0_headTarget_18 ?_
  refine bj_i (nI_add (5 + (2 * i)) 1) ?_
  refine va_iald (D := (dC, dI)) hx hb hK hP 1 0 (cA := cA) (n := 6144) (f := st) rfl rfl (i := (nI ((5 + (2 * i)) + 1))) (vp_in_nI (by omega) (by omega)) dX0_headTarget_19 ?_
  refine bj_i (y := st ((5 + (2 * i)) + 1)) (congrArg st (nI_clamp (by omega))) ?_
  refine lv_bipush (v := nI 8) hx hb dX0_headTarget_20 (by decide) ?_
  refine lv_ishl hx hb dX0_headTarget_22 ?_
  refine lv_ior hx hb dX0_headTarget_23 ?_
  have hres : (st (5 + (2 * i))) ||| ((st ((5 + (2 * i)) + 1)) <<< ((nI 8) &&& 31)) = htF st i := rfl
  exact W.iret (v := (st (5 + (2 * i))) ||| ((st ((5 + (2 * i)) + 1)) <<< ((nI 8) &&& 31))) hx hb hr (fun t ht _ => ⟨congrArg (fun z : Int32 => Outcome.returned (some (Value.int z))) hres, ht⟩) (fun _ h => by cases h) dX0_headTarget_24

def icF (f : Nat → Int32) (n p : Nat) (b : Int32) : Bool := if n ≤ p then false else if ¬ f p = b then false else true

set_option maxHeartbeats 4000000 in
set_option maxRecDepth 100000 in
theorem c_X0_isChangeOf (l : Launch) (dC : Nat → ClassId) (dI : Nat → Nat → Nat) (cA : ClassId) (ad : Nat → Nat) (st ck nh tp : Nat → Int32) (tl : Int32) (cb cy : Nat → Int32) (of wl : Int32) (wd : Int64) (n : Nat) (q : Nat) (b : Int32) (hn : n ≤ 24) (hq : q ≤ 24) : Met l yX0_isChangeOf wsX0_isChangeOf ({ frames := 0, cells := 0, slots := 0, locals := 0 } : Room) (va_Pc [.ref (ad 0), .int (nI q), .int b] (fun U => va_P (dC, dI) vwCl (wX cA ad st ck nh tp tl cb cy (nI n) of wl wd) U.heap ∧ va_K (dC, dI) vwCl [(cA, .int)] U)) (bj_Q (some (.int (bI (icF cb n q b))))) 0 0 (fun _ => False) := by
  refine Met.ofW (cc := cX0_isChangeOf) (maxL := 3) (ret := (some .boolean)) (by decide) rfl ?_
  intro p e s m args below meth c s₁ B hml hv
  obtain ⟨rfl, hP, hK⟩ := hv
  have hx := B.exec
  have hb := B.bytes
  have hr := B.returns
  have hts := atoms_spec (ws := wsX0_isChangeOf) B.pre
  have hown : s.vm.findClass RX0 = some m.cls := findClass_of_methodNamed B.named
  have hlocks := B.notSynchronized
  have hin : ∀ w ∈ u_ws RX0 TX0 11, w ∈ wsX0_isChangeOf := by decide +kernel
  have hl := lv_entry ([.ref (ad 0), .int (nI q), .int b]) (n := 3) (Nat.le_of_ble_eq_true rfl)
  rw [lg_entry_eq]
  generalize (lg_sl ([.ref (ad 0), .int (nI q), .int b]) ++ List.replicate (3 - (lg_sl ([.ref (ad 0), .int (nI q), .int b])).length) Slot.unset).toArray = ls at hl ⊢
  have hl : lv_has ls 3 [(0, .ref (ad 0)), (1, .int (nI q)), (2, .int b)] := hl
  refine lv_iload_n hx hb dX0_isChangeOf_0 rfl (lv_at hl 1 rfl) ?_
  refine lv_aload_n hx hb dX0_isChangeOf_1 rfl (lv_at hl 0 rfl) ?_
  refine va_get (D := (dC, dI)) (ci := 0) (v := .int (nI n)) (C := RX0) (T := TX0) (N := 11) hx hb hts hin hown hK hP 0 rfl rfl 7 (by decide) (hts (.fieldLink RX0 64 "BlockJournal" "changes" "I") (by decide +kernel)) (fun _ h9 => h9) rfl dX0_isChangeOf_2 ?_
  refine lv_icmp_ge (tgt := 22) hx hb dX0_isChangeOf_5 (by decide) (fun c_5 => ?_) (fun c_5 => ?_)
  · have n_5 : n ≤ q := (nI_leI (by omega) (by omega)).mp c_5
    refine lv_iconst (v := nI 0) hx hb dX0_isChangeOf_22 (by decide) ?_
    have hres : nI 0 = bI (icF cb n q b) := by rw [icF, if_pos n_5]; rfl
    exact W.zret (v := nI 0) (ty := .boolean) hx hb hr rfl (fun t ht _ => ⟨congrArg (fun z : Int32 => Outcome.returned (some (Value.int z))) hres, ht⟩) (fun _ h => by cases h) dX0_isChangeOf_23
  · have n_5 : ¬ n ≤ q := fun h => c_5 ((nI_leI (by omega) (by omega)).mpr h)
    refine lv_aload_n hx hb dX0_isChangeOf_8 rfl (lv_at hl 0 rfl) ?_
    refine va_get (D := (dC, dI)) (ci := 0) (v := .ref (ad 5)) (C := RX0) (T := TX0) (N := 11) hx hb hts hin hown hK hP 0 rfl rfl 5 (by decide) (hts (.fieldLink RX0 22 "BlockJournal" "changeBlocks" "[I") (by decide +kernel)) (fun _ h9 => h9) rfl dX0_isChangeOf_9 ?_
    refine lv_iload_n hx hb dX0_isChangeOf_12 rfl (lv_at hl 1 rfl) ?_
    refine va_iald (D := (dC, dI)) hx hb hK hP 5 0 (cA := cA) (n := 24) (f := cb) rfl rfl (i := (nI q)) (vp_in_nI (by omega) (by omega)) dX0_isChangeOf_13 ?_
    refine bj_i (y := cb q) (congrArg cb (nI_clamp (by omega))) ?_
    refine lv_iload_n hx hb dX0_isChangeOf_14 rfl (lv_at hl 2 rfl) ?_
    refine lv_icmp_ne (tgt := 22) hx hb dX0_isChangeOf_15 (by decide) (fun c_15 => ?_) (fun c_15 => ?_)
    · refine lv_iconst (v := nI 0) hx hb dX0_isChangeOf_22 (by decide) ?_
      have hres : nI 0 = bI (icF cb n q b) := by rw [icF, if_neg n_5, if_pos c_15]; rfl
      exact W.zret (v := nI 0) (ty := .boolean) hx hb hr rfl (fun t ht _ => ⟨congrArg (fun z : Int32 => Outcome.returned (some (Value.int z))) hres, ht⟩) (fun _ h => by cases h) dX0_isChangeOf_23
    · refine lv_iconst (v := nI 1) hx hb dX0_isChangeOf_18 (by decide) ?_
      refine lv_goto (tgt := 23) hx hb dX0_isChangeOf_19 (by decide) ?_
      have hres : nI 1 = bI (icF cb n q b) := by rw [icF, if_neg n_5, if_neg (not_not_intro c_15)]; rfl
      exact W.zret (v := nI 1) (ty := .boolean) hx hb hr rfl (fun t ht _ => ⟨congrArg (fun z : Int32 => Outcome.returned (some (Value.int z))) hres, ht⟩) (fun _ h => by cases h) dX0_isChangeOf_23

set_option maxHeartbeats 4000000 in
set_option maxRecDepth 100000 in
theorem c_X0_placeOf (l : Launch) (dC : Nat → ClassId) (dI : Nat → Nat → Nat) (cA : ClassId) (ad : Nat → Nat) (st ck nh tp : Nat → Int32) (tl : Int32) (cb cy : Nat → Int32) (of wl : Int32) (wd : Int64) (n : Nat) (b : Int32) (hn : n ≤ 24) : Met l yX0_placeOf wsX0_placeOf ({ frames := 0, cells := 0, slots := 0, locals := 0 } : Room) (va_Pc [.ref (ad 0), .int b] (fun U => va_P (dC, dI) vwCl (wX cA ad st ck nh tp tl cb cy (nI n) of wl wd) U.heap ∧ va_K (dC, dI) vwCl [(cA, .int)] U)) (bj_Q (some (.int (nI (plF cb b n 0))))) 0 0 (fun _ => False) := by
  refine Met.ofW (cc := cX0_placeOf) (maxL := 3) (ret := (some .int)) (by decide) rfl ?_
  intro p e s m args below meth c s₁ B hml hv
  obtain ⟨rfl, hP, hK⟩ := hv
  have hx := B.exec
  have hb := B.bytes
  have hr := B.returns
  have hts := atoms_spec (ws := wsX0_placeOf) B.pre
  have hown : s.vm.findClass RX0 = some m.cls := findClass_of_methodNamed B.named
  have hlocks := B.notSynchronized
  have hin : ∀ w ∈ u_ws RX0 TX0 11, w ∈ wsX0_placeOf := by decide +kernel
  have hl := lv_entry ([.ref (ad 0), .int b]) (n := 3) (Nat.le_of_ble_eq_true rfl)
  rw [lg_entry_eq]
  generalize (lg_sl ([.ref (ad 0), .int b]) ++ List.replicate (3 - (lg_sl ([.ref (ad 0), .int b])).length) Slot.unset).toArray = ls at hl ⊢
  have hl : lv_has ls 3 [(0, .ref (ad 0)), (1, .int b)] := hl
  refine lv_iconst (v := nI 0) hx hb dX0_placeOf_0 (by decide) ?_
  refine lv_istore_n (lv' := [(2, .int (nI 0)), (0, .ref (ad 0)), (1, .int b)]) hx hb dX0_placeOf_1 rfl hl (by decide) rfl (fun ls hl => ?_)
  have loop_2 : ∀ (k : Nat) (i : Nat), i + k = n → plF cb b n 0 = plF cb b k i → ∀ ls : Array Slot, lv_has ls 3 [(0, .ref (ad 0)), (1, .int b), (2, .int (nI i))] → W p l e (headSpec wsX0_placeOf ({ frames := 0, cells := 0, slots := 0, locals := 0 } : Room)).room s m ([.ref (ad 0), .int b] : List Value).toArray below meth c s.heap [] 0 0 (MQ below (bj_Q (some (.int (nI (plF cb b n 0))))) ([.ref (ad 0), .int b] : List Value).toArray s 0 0 (fun _ => False)) (F0 m 2 ls []) := by
    intro k
    induction k with
    | zero =>
      intro i hk hR ls hl
      refine lv_iload_n hx hb dX0_placeOf_2 rfl (lv_at hl 2 rfl) ?_
      refine lv_aload_n hx hb dX0_placeOf_3 rfl (lv_at hl 0 rfl) ?_
      refine va_get (D := (dC, dI)) (ci := 0) (v := .int (nI n)) (C := RX0) (T := TX0) (N := 11) hx hb hts hin hown hK hP 0 rfl rfl 7 (by decide) (hts (.fieldLink RX0 64 "BlockJournal" "changes" "I") (by decide +kernel)) (fun _ h9 => h9) rfl dX0_placeOf_4 ?_
      refine lv_icmp_ge (tgt := 26) hx hb dX0_placeOf_7 (by decide) (fun c_7 => ?_) (fun c_7 => ?_)
      · have n_7 : n ≤ i := (nI_leI (by omega) (by omega)).mp c_7
        refine lv_iload_n hx hb dX0_placeOf_26 rfl (lv_at hl 2 rfl) ?_
        have hres : nI i = nI (plF cb b n 0) := by rw [hR, plF]
        exact W.iret (v := nI i) hx hb hr (fun t ht _ => ⟨congrArg (fun z : Int32 => Outcome.returned (some (Value.int z))) hres, ht⟩) (fun _ h => by cases h) dX0_placeOf_27
      · have n_7 : ¬ n ≤ i := fun h => c_7 ((nI_leI (by omega) (by omega)).mpr h)
        exfalso; omega
    | succ k ih =>
      intro i hk hR ls hl
      refine lv_iload_n hx hb dX0_placeOf_2 rfl (lv_at hl 2 rfl) ?_
      refine lv_aload_n hx hb dX0_placeOf_3 rfl (lv_at hl 0 rfl) ?_
      refine va_get (D := (dC, dI)) (ci := 0) (v := .int (nI n)) (C := RX0) (T := TX0) (N := 11) hx hb hts hin hown hK hP 0 rfl rfl 7 (by decide) (hts (.fieldLink RX0 64 "BlockJournal" "changes" "I") (by decide +kernel)) (fun _ h9 => h9) rfl dX0_placeOf_4 ?_
      refine lv_icmp_ge (tgt := 26) hx hb dX0_placeOf_7 (by decide) (fun c_7 => ?_) (fun c_7 => ?_)
      · have n_7 : n ≤ i := (nI_leI (by omega) (by omega)).mp c_7
        exfalso; omega
      · have n_7 : ¬ n ≤ i := fun h => c_7 ((nI_leI (by omega) (by omega)).mpr h)
        refine lv_aload_n hx hb dX0_placeOf_10 rfl (lv_at hl 0 rfl) ?_
        refine va_get (D := (dC, dI)) (ci := 0) (v := .ref (ad 5)) (C := RX0) (T := TX0) (N := 11) hx hb hts hin hown hK hP 0 rfl rfl 5 (by decide) (hts (.fieldLink RX0 22 "BlockJournal" "changeBlocks" "[I") (by decide +kernel)) (fun _ h9 => h9) rfl dX0_placeOf_11 ?_
        refine lv_iload_n hx hb dX0_placeOf_14 rfl (lv_at hl 2 rfl) ?_
        refine va_iald (D := (dC, dI)) hx hb hK hP 5 0 (cA := cA) (n := 24) (f := cb) rfl rfl (i := (nI i)) (vp_in_nI (by omega) (by omega)) dX0_placeOf_15 ?_
        refine bj_i (y := cb i) (congrArg cb (nI_clamp (by omega))) ?_
        refine lv_iload_n hx hb dX0_placeOf_16 rfl (lv_at hl 1 rfl) ?_
        refine lv_icmp_ge (tgt := 26) hx hb dX0_placeOf_17 (by decide) (fun c_17 => ?_) (fun c_17 => ?_)
        · refine lv_iload_n hx hb dX0_placeOf_26 rfl (lv_at hl 2 rfl) ?_
          have hres : nI i = nI (plF cb b n 0) := by rw [hR, plF, if_pos c_17]
          exact W.iret (v := nI i) hx hb hr (fun t ht _ => ⟨congrArg (fun z : Int32 => Outcome.returned (some (Value.int z))) hres, ht⟩) (fun _ h => by cases h) dX0_placeOf_27
        · refine lv_iinc (v := nI (i + 1)) (lv' := [(2, .int (nI (i + 1))), (0, .ref (ad 0)), (1, .int b)]) hx hb dX0_placeOf_20 hl (k := 2) rfl (nI_add i 1) (by decide) rfl (fun ls hl => ?_)
          refine lv_goto (tgt := 2) hx hb dX0_placeOf_23 (by decide) ?_
          exact ih (i + 1) (by omega) (by rw [hR, plF, if_neg c_17]) _ (lv_sub hl [1, 2, 0] rfl)
  exact loop_2 n 0 (by omega) rfl _ (lv_sub hl [1, 2, 0] rfl)

set_option maxHeartbeats 4000000 in
set_option maxRecDepth 100000 in
theorem c_X0_payloadCheck (l : Launch) (dC : Nat → ClassId) (dI : Nat → Nat → Nat) (cA : ClassId) (ad : Nat → Nat) (st ck nh tp : Nat → Int32) (tl : Int32) (cb cy : Nat → Int32) (nc of wl : Int32) (wd : Int64) (n : Nat) (hn : n ≤ 24) : Met l yX0_payloadCheck wsX0_payloadCheck ({ frames := 0, cells := 0, slots := 0, locals := 0 } : Room) (va_Pc [.ref (ad 0), .int (nI n)] (fun U => va_P (dC, dI) vwCl (wX cA ad st ck nh tp tl cb cy nc of wl wd) U.heap ∧ va_K (dC, dI) vwCl [(cA, .int)] U)) (bj_Q (some (.int (pcF st ck (n * 64) 64 (-1) ^^^ (-1))))) 0 0 (fun _ => False) := by
  refine Met.ofW (cc := cX0_payloadCheck) (maxL := 5) (ret := (some .int)) (by decide) rfl ?_
  intro p e s m args below meth c s₁ B hml hv
  obtain ⟨rfl, hP, hK⟩ := hv
  have hx := B.exec
  have hb := B.bytes
  have hr := B.returns
  have hts := atoms_spec (ws := wsX0_payloadCheck) B.pre
  have hown : s.vm.findClass RX0 = some m.cls := findClass_of_methodNamed B.named
  have hlocks := B.notSynchronized
  have hin : ∀ w ∈ u_ws RX0 TX0 11, w ∈ wsX0_payloadCheck := by decide +kernel
  have hl := lv_entry ([.ref (ad 0), .int (nI n)]) (n := 5) (Nat.le_of_ble_eq_true rfl)
  rw [lg_entry_eq]
  generalize (lg_sl ([.ref (ad 0), .int (nI n)]) ++ List.replicate (5 - (lg_sl ([.ref (ad 0), .int (nI n)])).length) Slot.unset).toArray = ls at hl ⊢
  have hl : lv_has ls 5 [(0, .ref (ad 0)), (1, .int (nI n))] := hl
  refine lv_iconst (v := (-1)) hx hb dX0_payloadCheck_0 (by decide) ?_
  refine lv_istore_n (lv' := [(2, .int (-1)), (0, .ref (ad 0)), (1, .int (nI n))]) hx hb dX0_payloadCheck_1 rfl hl (by decide) rfl (fun ls hl => ?_)
  refine lv_iconst (v := nI 1) hx hb dX0_payloadCheck_2 (by decide) ?_
  refine lv_iload_n hx hb dX0_payloadCheck_3 rfl (lv_at hl 2 rfl) ?_
  refine lv_iadd hx hb dX0_payloadCheck_4 ?_
  refine bj_i (nI_add 1 n) ?_
  refine lv_bipush (v := nI 64) hx hb dX0_payloadCheck_5 (by decide) ?_
  refine lv_imul hx hb dX0_payloadCheck_7 ?_
  refine bj_i (pk_mul (1 + n) 64) ?_
  refine lv_istore_n (lv' := [(3, .int (nI ((1 + n) * 64))), (2, .int (-1)), (0, .ref (ad 0)), (1, .int (nI n))]) hx hb dX0_payloadCheck_8 rfl hl (by decide) rfl (fun ls hl => ?_)
  refine lv_bipush (v := nI 64) hx hb dX0_payloadCheck_9 (by decide) ?_
  refine lv_istore (lv' := [(4, .int (nI 64)), (3, .int (nI ((1 + n) * 64))), (2, .int (-1)), (0, .ref (ad 0)), (1, .int (nI n))]) hx hb dX0_payloadCheck_11 hl (by decide) rfl (fun ls hl => ?_)
  have loop_13 : ∀ (k : Nat) (i : Nat) (w : Int32), i + k = (1 + n) * 64 → pcF st ck (n * 64) 64 (-1) = pcF st ck k i w → ∀ ls : Array Slot, lv_has ls 5 [(0, .ref (ad 0)), (1, .int (nI n)), (2, .int w), (3, .int (nI ((1 + n) * 64))), (4, .int (nI i))] → W p l e (headSpec wsX0_payloadCheck ({ frames := 0, cells := 0, slots := 0, locals := 0 } : Room)).room s m ([.ref (ad 0), .int (nI n)] : List Value).toArray below meth c s.heap [] 0 0 (MQ below (bj_Q (some (.int (pcF st ck (n * 64) 64 (-1) ^^^ (-1))))) ([.ref (ad 0), .int (nI n)] : List Value).toArray s 0 0 (fun _ => False)) (F0 m 13 ls []) := by
    intro k
    induction k with
    | zero =>
      intro i w hk hR ls hl
      refine lv_iload hx hb dX0_payloadCheck_13 (lv_at hl 4 rfl) ?_
      refine lv_iload_n hx hb dX0_payloadCheck_15 rfl (lv_at hl 3 rfl) ?_
      refine lv_icmp_ge (tgt := 49) hx hb dX0_payloadCheck_16 (by decide) (fun c_16 => ?_) (fun c_16 => ?_)
      · have n_16 : (1 + n) * 64 ≤ i := (nI_leI (by omega) (by omega)).mp c_16
        refine lv_iload_n hx hb dX0_payloadCheck_49 rfl (lv_at hl 2 rfl) ?_
        refine lv_iconst (v := (-1)) hx hb dX0_payloadCheck_50 (by decide) ?_
        refine lv_ixor hx hb dX0_payloadCheck_51 ?_
        have hres : w ^^^ (-1) = pcF st ck (n * 64) 64 (-1) ^^^ (-1) := by rw [hR]; rfl
        exact W.iret (v := w ^^^ (-1)) hx hb hr (fun t ht _ => ⟨congrArg (fun z : Int32 => Outcome.returned (some (Value.int z))) hres, ht⟩) (fun _ h => by cases h) dX0_payloadCheck_52
      · have n_16 : ¬ ((1 + n) * 64) ≤ i := fun h => c_16 ((nI_leI (by omega) (by omega)).mpr h)
        exfalso; omega
    | succ k ih =>
      intro i w hk hR ls hl
      refine lv_iload hx hb dX0_payloadCheck_13 (lv_at hl 4 rfl) ?_
      refine lv_iload_n hx hb dX0_payloadCheck_15 rfl (lv_at hl 3 rfl) ?_
      refine lv_icmp_ge (tgt := 49) hx hb dX0_payloadCheck_16 (by decide) (fun c_16 => ?_) (fun c_16 => ?_)
      · have n_16 : (1 + n) * 64 ≤ i := (nI_leI (by omega) (by omega)).mp c_16
        exfalso; omega
      · have n_16 : ¬ ((1 + n) * 64) ≤ i := fun h => c_16 ((nI_leI (by omega) (by omega)).mpr h)
        refine lv_iload_n hx hb dX0_payloadCheck_19 rfl (lv_at hl 2 rfl) ?_
        refine lv_bipush (v := nI 8) hx hb dX0_payloadCheck_20 (by decide) ?_
        refine lv_iushr hx hb dX0_payloadCheck_22 rfl ?_
        refine lv_aload_n hx hb dX0_payloadCheck_23 rfl (lv_at hl 0 rfl) ?_
        refine va_get (D := (dC, dI)) (ci := 0) (v := .ref (ad 2)) (C := RX0) (T := TX0) (N := 11) hx hb hts hin hown hK hP 0 rfl rfl 1 (by decide) (hts (.fieldLink RX0 13 "BlockJournal" "checkSteps" "[I") (by decide +kernel)) (fun _ h9 => h9) rfl dX0_payloadCheck_24 ?_
        refine lv_iload_n hx hb dX0_payloadCheck_27 rfl (lv_at hl 2 rfl) ?_
        refine lv_aload_n hx hb dX0_payloadCheck_28 rfl (lv_at hl 0 rfl) ?_
        refine va_get (D := (dC, dI)) (ci := 0) (v := .ref (ad 1)) (C := RX0) (T := TX0) (N := 11) hx hb hts hin hown hK hP 0 rfl rfl 0 (by decide) (hts (.fieldLink RX0 9 "BlockJournal" "store" "[I") (by decide +kernel)) (fun _ h9 => h9) rfl dX0_payloadCheck_29 ?_
        refine lv_iload hx hb dX0_payloadCheck_32 (lv_at hl 4 rfl) ?_
        refine va_iald (D := (dC, dI)) hx hb hK hP 1 0 (cA := cA) (n := 6144) (f := st) rfl rfl (i := (nI i)) (vp_in_nI (by omega) (by omega)) dX0_payloadCheck_34 ?_
        refine bj_i (y := st i) (congrArg st (nI_clamp (by omega))) ?_
        refine lv_ixor hx hb dX0_payloadCheck_35 ?_
        refine lv_sipush (v := nI 255) hx hb dX0_payloadCheck_36 (by decide) ?_
        refine lv_iand hx hb dX0_payloadCheck_39 ?_
        refine va_iald (D := (dC, dI)) hx hb hK hP 2 0 (cA := cA) (n := 256) (f := ck) rfl rfl (i := ((w ^^^ (st i)) &&& (nI 255))) (pk_andIn (w ^^^ st i) 8 (by decide) (by decide)) dX0_payloadCheck_40 ?_
        refine lv_ixor hx hb dX0_payloadCheck_41 ?_
        refine lv_istore_n (lv' := [(2, .int (((w.toUInt32 >>> ((nI 8).toUInt32 &&& Int32.toUInt32 31)).toInt32) ^^^ (ck ((w ^^^ (st i)) &&& (nI 255)).toNatClampNeg))), (0, .ref (ad 0)), (1, .int (nI n)), (3, .int (nI ((1 + n) * 64))), (4, .int (nI i))]) hx hb dX0_payloadCheck_42 rfl hl (by decide) rfl (fun ls hl => ?_)
        refine lv_iinc (v := nI (i + 1)) (lv' := [(4, .int (nI (i + 1))), (2, .int (((w.toUInt32 >>> ((nI 8).toUInt32 &&& Int32.toUInt32 31)).toInt32) ^^^ (ck ((w ^^^ (st i)) &&& (nI 255)).toNatClampNeg))), (0, .ref (ad 0)), (1, .int (nI n)), (3, .int (nI ((1 + n) * 64)))]) hx hb dX0_payloadCheck_43 hl (k := 4) rfl (nI_add i 1) (by decide) rfl (fun ls hl => ?_)
        refine lv_goto (tgt := 13) hx hb dX0_payloadCheck_46 (by decide) ?_
        exact ih (i + 1) _ (by omega) (hR.trans rfl) _ (lv_sub hl [2, 3, 1, 4, 0] rfl)
  exact loop_13 (n * 64) 64 (-1) (by omega) rfl _ (lv_sub hl [3, 4, 2, 1, 0] rfl)

set_option maxHeartbeats 4000000 in
set_option maxRecDepth 100000 in
theorem c_X0_targetsAreRight (l : Launch) (dC : Nat → ClassId) (dI : Nat → Nat → Nat) (cA : ClassId) (ad : Nat → Nat) (st ck nh tp : Nat → Int32) (tl : Int32) (cb cy : Nat → Int32) (nc of wl : Int32) (wd : Int64) (n : Nat) (hn : n ≤ 24) : Met l yX0_targetsAreRight wsX0_targetsAreRight ({ frames := 1, cells := 0, slots := 0, locals := 22 } : Room) (va_Pc [.ref (ad 0), .int (nI n)] (fun U => va_P (dC, dI) vwCl (wX cA ad st ck nh tp tl cb cy nc of wl wd) U.heap ∧ va_K (dC, dI) vwCl [(cA, .int)] U)) (bj_Q (some (.int (bI (trF st n 0 (nI 0)))))) 0 0 (fun _ => False) := by
  refine Met.ofW (cc := cX0_targetsAreRight) (maxL := 5) (ret := (some .boolean)) (by decide) rfl ?_
  intro p e s m args below meth c s₁ B hml hv
  obtain ⟨rfl, hP, hK⟩ := hv
  have hx := B.exec
  have hb := B.bytes
  have hr := B.returns
  have hts := atoms_spec (ws := wsX0_targetsAreRight) B.pre
  have hown : s.vm.findClass RX0 = some m.cls := findClass_of_methodNamed B.named
  have hlocks := B.notSynchronized
  have hin : ∀ w ∈ u_ws RX0 TX0 11, w ∈ wsX0_targetsAreRight := by decide +kernel
  have hl := lv_entry ([.ref (ad 0), .int (nI n)]) (n := 5) (Nat.le_of_ble_eq_true rfl)
  rw [lg_entry_eq]
  generalize (lg_sl ([.ref (ad 0), .int (nI n)]) ++ List.replicate (5 - (lg_sl ([.ref (ad 0), .int (nI n)])).length) Slot.unset).toArray = ls at hl ⊢
  have hl : lv_has ls 5 [(0, .ref (ad 0)), (1, .int (nI n))] := hl
  refine lv_iconst (v := nI 0) hx hb dX0_targetsAreRight_0 (by decide) ?_
  refine lv_istore_n (lv' := [(2, .int (nI 0)), (0, .ref (ad 0)), (1, .int (nI n))]) hx hb dX0_targetsAreRight_1 rfl hl (by decide) rfl (fun ls hl => ?_)
  refine lv_iconst (v := nI 0) hx hb dX0_targetsAreRight_2 (by decide) ?_
  refine lv_istore_n (lv' := [(3, .int (nI 0)), (2, .int (nI 0)), (0, .ref (ad 0)), (1, .int (nI n))]) hx hb dX0_targetsAreRight_3 rfl hl (by decide) rfl (fun ls hl => ?_)
  have loop_4 : ∀ (k : Nat) (i : Nat) (b : Int32), i + k = n → trF st n 0 (nI 0) = trF st k i b → ∀ ls : Array Slot, lv_has ls 5 [(0, .ref (ad 0)), (1, .int (nI n)), (2, .int b), (3, .int (nI i))] → W p l e (headSpec wsX0_targetsAreRight ({ frames := 1, cells := 0, slots := 0, locals := 22 } : Room)).room s m ([.ref (ad 0), .int (nI n)] : List Value).toArray below meth c s.heap [] 0 0 (MQ below (bj_Q (some (.int (bI (trF st n 0 (nI 0)))))) ([.ref (ad 0), .int (nI n)] : List Value).toArray s 0 0 (fun _ => False)) (F0 m 4 ls []) := by
    intro k
    induction k with
    | zero =>
      intro i b hk hR ls hl
      refine lv_iload_n hx hb dX0_targetsAreRight_4 rfl (lv_at hl 3 rfl) ?_
      refine lv_iload_n hx hb dX0_targetsAreRight_5 rfl (lv_at hl 1 rfl) ?_
      refine lv_icmp_ge (tgt := 41) hx hb dX0_targetsAreRight_6 (by decide) (fun c_6 => ?_) (fun c_6 => ?_)
      · have n_6 : n ≤ i := (nI_leI (by omega) (by omega)).mp c_6
        refine lv_iconst (v := nI 1) hx hb dX0_targetsAreRight_41 (by decide) ?_
        have hres : nI 1 = bI (trF st n 0 (nI 0)) := by rw [hR, trF]; rfl
        exact W.zret (v := nI 1) (ty := .boolean) hx hb hr rfl (fun t ht _ => ⟨congrArg (fun z : Int32 => Outcome.returned (some (Value.int z))) hres, ht⟩) (fun _ h => by cases h) dX0_targetsAreRight_42
      · have n_6 : ¬ n ≤ i := fun h => c_6 ((nI_leI (by omega) (by omega)).mpr h)
        exfalso; omega
    | succ k ih =>
      intro i b hk hR ls hl
      refine lv_iload_n hx hb dX0_targetsAreRight_4 rfl (lv_at hl 3 rfl) ?_
      refine lv_iload_n hx hb dX0_targetsAreRight_5 rfl (lv_at hl 1 rfl) ?_
      refine lv_icmp_ge (tgt := 41) hx hb dX0_targetsAreRight_6 (by decide) (fun c_6 => ?_) (fun c_6 => ?_)
      · have n_6 : n ≤ i := (nI_leI (by omega) (by omega)).mp c_6
        exfalso; omega
      · have n_6 : ¬ n ≤ i := fun h => c_6 ((nI_leI (by omega) (by omega)).mpr h)
        refine lv_aload_n hx hb dX0_targetsAreRight_9 rfl (lv_at hl 0 rfl) ?_
        refine lv_iload_n hx hb dX0_targetsAreRight_10 rfl (lv_at hl 3 rfl) ?_
        refine bj_call (v := .int (htF st i)) (W.runV (As := [.int (nI i)]) (rest := []) ⟨hx, hb, hml, hown, hts⟩ (c_X0_headTarget l dC dI cA ad st ck nh tp tl cb cy nc of wl wd i (by omega)) (cwV 1 hts gX0_targetsAreRight_X0_headTarget rfl rfl rfl (by decide +kernel) ⟨Nat.le_of_ble_eq_true rfl, Nat.le_of_ble_eq_true rfl⟩) ⟨fun a U g mk q => by obtain ⟨q0, qP, qK⟩ := q; exact ⟨q0, qP, va_K.moved (u := U) (U := U.calling g mk a) (Vm.Alike.refl U.vm) qK⟩, va_recv hK hP (ci := 0) (q0 := 0) rfl rfl, fun U hU hW => ⟨rfl, by rw [hU]; exact hP, va_K.moved hW.alike hK⟩⟩ rfl rfl hl.1 rfl (lv_room (Nat.le_of_ble_eq_true rfl)) dX0_targetsAreRight_11 ⟨Nat.le_of_ble_eq_true rfl, Nat.le_of_ble_eq_true rfl⟩) ?_
        refine lv_istore (lv' := [(4, .int (htF st i)), (0, .ref (ad 0)), (1, .int (nI n)), (2, .int b), (3, .int (nI i))]) hx hb dX0_targetsAreRight_14 hl (by decide) rfl (fun ls hl => ?_)
        refine lv_iload hx hb dX0_targetsAreRight_16 (lv_at hl 0 rfl) ?_
        refine bj_call (v := .int (bI (isT (htF st i)))) (W.runS (As := [.int (htF st i)]) (rest := []) ⟨hx, hb, hml, hown, hts⟩ (c_X0_isTarget l (htF st i)) (va_cwS 1 hts gX0_targetsAreRight_X0_isTarget rfl rfl rfl (by decide +kernel) ⟨Nat.le_of_ble_eq_true rfl, Nat.le_of_ble_eq_true rfl⟩) ⟨fun _ _ _ _ q => q, fun _ _ _ => ⟨rfl, trivial⟩⟩ rfl rfl hl.1 rfl (lv_room (Nat.le_of_ble_eq_true rfl)) dX0_targetsAreRight_18 ⟨Nat.le_of_ble_eq_true rfl, Nat.le_of_ble_eq_true rfl⟩) ?_
        refine lv_if_eq (tgt := 30) hx hb dX0_targetsAreRight_21 (by decide) (fun c_21 => ?_) (fun c_21 => ?_)
        · refine lv_iconst (v := nI 0) hx hb dX0_targetsAreRight_30 (by decide) ?_
          have hres : nI 0 = bI (trF st n 0 (nI 0)) := by rw [hR, trF, if_pos c_21]; rfl
          exact W.zret (v := nI 0) (ty := .boolean) hx hb hr rfl (fun t ht _ => ⟨congrArg (fun z : Int32 => Outcome.returned (some (Value.int z))) hres, ht⟩) (fun _ h => by cases h) dX0_targetsAreRight_31
        · refine lv_iload hx hb dX0_targetsAreRight_24 (lv_at hl 0 rfl) ?_
          refine lv_iload_n hx hb dX0_targetsAreRight_26 rfl (lv_at hl 3 rfl) ?_
          refine lv_icmp_gt (tgt := 32) hx hb dX0_targetsAreRight_27 (by decide) (fun c_27 => ?_) (fun c_27 => ?_)
          · refine lv_iload hx hb dX0_targetsAreRight_32 (lv_at hl 0 rfl) ?_
            refine lv_istore_n (lv' := [(2, .int (htF st i)), (4, .int (htF st i)), (0, .ref (ad 0)), (1, .int (nI n)), (3, .int (nI i))]) hx hb dX0_targetsAreRight_34 rfl hl (by decide) rfl (fun ls hl => ?_)
            refine lv_iinc (v := nI (i + 1)) (lv' := [(3, .int (nI (i + 1))), (2, .int (htF st i)), (4, .int (htF st i)), (0, .ref (ad 0)), (1, .int (nI n))]) hx hb dX0_targetsAreRight_35 hl (k := 4) rfl (nI_add i 1) (by decide) rfl (fun ls hl => ?_)
            refine lv_goto (tgt := 4) hx hb dX0_targetsAreRight_38 (by decide) ?_
            exact ih (i + 1) _ (by omega) (by rw [hR, trF, if_neg c_21, if_pos c_27]) _ (lv_sub hl [3, 4, 1, 0] rfl)
          · refine lv_iconst (v := nI 0) hx hb dX0_targetsAreRight_30 (by decide) ?_
            have hres : nI 0 = bI (trF st n 0 (nI 0)) := by rw [hR, trF, if_neg c_21, if_neg c_27]; rfl
            exact W.zret (v := nI 0) (ty := .boolean) hx hb hr rfl (fun t ht _ => ⟨congrArg (fun z : Int32 => Outcome.returned (some (Value.int z))) hres, ht⟩) (fun _ h => by cases h) dX0_targetsAreRight_31
  exact loop_4 n 0 (nI 0) (by omega) rfl _ (lv_sub hl [2, 3, 1, 0] rfl)

/-- whether the head is right -/
def hrF (f ck : Nat → Int32) : Bool := if f 4 < nI 1 then false else if nI 24 < f 4 then false else if bI (trF f (f 4).toNatClampNeg 0 (nI 0)) = 0 then false else if ¬ hwF f 59 4 = pcF f ck ((f 4).toNatClampNeg * 64) 64 (-1) ^^^ (-1) then false else true

set_option maxHeartbeats 4000000 in
set_option maxRecDepth 100000 in
theorem c_X0_headIsRight (l : Launch) (dC : Nat → ClassId) (dI : Nat → Nat → Nat) (cA : ClassId) (ad : Nat → Nat) (st ck nh tp : Nat → Int32) (tl : Int32) (cb cy : Nat → Int32) (nc of wl : Int32) (wd : Int64)  : Met l yX0_headIsRight wsX0_headIsRight ({ frames := 2, cells := 0, slots := 0, locals := 46 } : Room) (va_Pc [.ref (ad 0)] (fun U => va_P (dC, dI) vwCl (wX cA ad st ck nh tp tl cb cy nc of wl wd) U.heap ∧ va_K (dC, dI) vwCl [(cA, .int)] U)) (bj_Q (some (.int (bI (hrF st ck))))) 0 0 (fun _ => False) := by
  refine Met.ofW (cc := cX0_headIsRight) (maxL := 2) (ret := (some .boolean)) (by decide) rfl ?_
  intro p e s m args below meth c s₁ B hml hv
  obtain ⟨rfl, hP, hK⟩ := hv
  have hx := B.exec
  have hb := B.bytes
  have hr := B.returns
  have hts := atoms_spec (ws := wsX0_headIsRight) B.pre
  have hown : s.vm.findClass RX0 = some m.cls := findClass_of_methodNamed B.named
  have hlocks := B.notSynchronized
  have hin : ∀ w ∈ u_ws RX0 TX0 11, w ∈ wsX0_headIsRight := by decide +kernel
  have hl := lv_entry ([.ref (ad 0)]) (n := 2) (Nat.le_of_ble_eq_true rfl)
  rw [lg_entry_eq]
  generalize (lg_sl ([.ref (ad 0)]) ++ List.replicate (2 - (lg_sl ([.ref (ad 0)])).length) Slot.unset).toArray = ls at hl ⊢
  have hl : lv_has ls 2 [(0, .ref (ad 0))] := hl
  refine lv_aload_n hx hb dX0_headIsRight_0 rfl (lv_at hl 0 rfl) ?_
  refine bj_call (v := .int (st 4)) (W.runV (As := []) (rest := []) ⟨hx, hb, hml, hown, hts⟩ (c_X0_headCount l dC dI cA ad st ck nh tp tl cb cy nc of wl wd) (cwV 0 hts gX0_headIsRight_X0_headCount rfl rfl rfl (by decide +kernel) ⟨Nat.le_of_ble_eq_true rfl, Nat.le_of_ble_eq_true rfl⟩) ⟨fun a U g mk q => by obtain ⟨q0, qP, qK⟩ := q; exact ⟨q0, qP, va_K.moved (u := U) (U := U.calling g mk a) (Vm.Alike.refl U.vm) qK⟩, va_recv hK hP (ci := 0) (q0 := 0) rfl rfl, fun U hU hW => ⟨rfl, by rw [hU]; exact hP, va_K.moved hW.alike hK⟩⟩ rfl rfl hl.1 rfl (lv_room (Nat.le_of_ble_eq_true rfl)) dX0_headIsRight_1 ⟨Nat.le_of_ble_eq_true rfl, Nat.le_of_ble_eq_true rfl⟩) ?_
  refine lv_istore_n (lv' := [(1, .int (st 4)), (0, .ref (ad 0))]) hx hb dX0_headIsRight_4 rfl hl (by decide) rfl (fun ls hl => ?_)
  refine lv_iload_n hx hb dX0_headIsRight_5 rfl (lv_at hl 0 rfl) ?_
  refine lv_iconst (v := nI 1) hx hb dX0_headIsRight_6 (by decide) ?_
  refine lv_icmp_lt (tgt := 42) hx hb dX0_headIsRight_7 (by decide) (fun c_7 => ?_) (fun c_7 => ?_)
  · refine lv_iconst (v := nI 0) hx hb dX0_headIsRight_42 (by decide) ?_
    have hres : nI 0 = bI (hrF st ck) := by rw [hrF, if_pos c_7]; rfl
    exact W.zret (v := nI 0) (ty := .boolean) hx hb hr rfl (fun t ht _ => ⟨congrArg (fun z : Int32 => Outcome.returned (some (Value.int z))) hres, ht⟩) (fun _ h => by cases h) dX0_headIsRight_43
  · refine lv_iload_n hx hb dX0_headIsRight_10 rfl (lv_at hl 0 rfl) ?_
    refine lv_bipush (v := nI 24) hx hb dX0_headIsRight_11 (by decide) ?_
    refine lv_icmp_gt (tgt := 42) hx hb dX0_headIsRight_13 (by decide) (fun c_13 => ?_) (fun c_13 => ?_)
    · refine lv_iconst (v := nI 0) hx hb dX0_headIsRight_42 (by decide) ?_
      have hres : nI 0 = bI (hrF st ck) := by rw [hrF, if_neg c_7, if_pos c_13]; rfl
      exact W.zret (v := nI 0) (ty := .boolean) hx hb hr rfl (fun t ht _ => ⟨congrArg (fun z : Int32 => Outcome.returned (some (Value.int z))) hres, ht⟩) (fun _ h => by cases h) dX0_headIsRight_43
    · obtain ⟨n, hn, en⟩ : ∃ n : Nat, n ≤ 24 ∧ st 4 = nI n := nI_of2 (M := nI 24) (by decide) (fun h => c_7 (Int32.lt_trans h (by decide))) (Int32.not_lt.mp c_13)
      have hcl : (st 4).toNatClampNeg = n := by rw [en]; exact nI_clamp (by omega)
      rw [en] at hl
      refine lv_aload_n hx hb dX0_headIsRight_16 rfl (lv_at hl 1 rfl) ?_
      refine lv_iload_n hx hb dX0_headIsRight_17 rfl (lv_at hl 0 rfl) ?_
      refine bj_call (v := .int (bI (trF st n 0 (nI 0)))) (W.runV (As := [.int (nI n)]) (rest := []) ⟨hx, hb, hml, hown, hts⟩ (c_X0_targetsAreRight l dC dI cA ad st ck nh tp tl cb cy nc of wl wd n (by omega)) (cwV 1 hts gX0_headIsRight_X0_targetsAreRight rfl rfl rfl (by decide +kernel) ⟨Nat.le_of_ble_eq_true rfl, Nat.le_of_ble_eq_true rfl⟩) ⟨fun a U g mk q => by obtain ⟨q0, qP, qK⟩ := q; exact ⟨q0, qP, va_K.moved (u := U) (U := U.calling g mk a) (Vm.Alike.refl U.vm) qK⟩, va_recv hK hP (ci := 0) (q0 := 0) rfl rfl, fun U hU hW => ⟨rfl, by rw [hU]; exact hP, va_K.moved hW.alike hK⟩⟩ rfl rfl hl.1 rfl (lv_room (Nat.le_of_ble_eq_true rfl)) dX0_headIsRight_18 ⟨Nat.le_of_ble_eq_true rfl, Nat.le_of_ble_eq_true rfl⟩) ?_
      refine lv_if_eq (tgt := 42) hx hb dX0_headIsRight_21 (by decide) (fun c_21 => ?_) (fun c_21 => ?_)
      · refine lv_iconst (v := nI 0) hx hb dX0_headIsRight_42 (by decide) ?_
        have hres : nI 0 = bI (hrF st ck) := by rw [hrF, if_neg c_7, if_neg c_13, hcl, if_pos c_21]; rfl
        exact W.zret (v := nI 0) (ty := .boolean) hx hb hr rfl (fun t ht _ => ⟨congrArg (fun z : Int32 => Outcome.returned (some (Value.int z))) hres, ht⟩) (fun _ h => by cases h) dX0_headIsRight_43
      · refine lv_aload_n hx hb dX0_headIsRight_24 rfl (lv_at hl 1 rfl) ?_
        refine lv_bipush (v := nI 59) hx hb dX0_headIsRight_25 (by decide) ?_
        refine bj_call (v := .int (hwF st 59 4)) (W.runV (As := [.int (nI 59)]) (rest := []) ⟨hx, hb, hml, hown, hts⟩ (c_X0_headWord l dC dI cA ad st ck nh tp tl cb cy nc of wl wd 59 (by decide)) (cwV 1 hts gX0_headIsRight_X0_headWord rfl rfl rfl (by decide +kernel) ⟨Nat.le_of_ble_eq_true rfl, Nat.le_of_ble_eq_true rfl⟩) ⟨fun a U g mk q => by obtain ⟨q0, qP, qK⟩ := q; exact ⟨q0, qP, va_K.moved (u := U) (U := U.calling g mk a) (Vm.Alike.refl U.vm) qK⟩, va_recv hK hP (ci := 0) (q0 := 0) rfl rfl, fun U hU hW => ⟨rfl, by rw [hU]; exact hP, va_K.moved hW.alike hK⟩⟩ rfl rfl hl.1 rfl (lv_room (Nat.le_of_ble_eq_true rfl)) dX0_headIsRight_27 ⟨Nat.le_of_ble_eq_true rfl, Nat.le_of_ble_eq_true rfl⟩) ?_
        refine lv_aload_n hx hb dX0_headIsRight_30 rfl (lv_at hl 1 rfl) ?_
        refine lv_iload_n hx hb dX0_headIsRight_31 rfl (lv_at hl 0 rfl) ?_
        refine bj_call (v := .int (pcF st ck (n * 64) 64 (-1) ^^^ (-1))) (W.runV (As := [.int (nI n)]) (rest := [.int (hwF st 59 4)]) ⟨hx, hb, hml, hown, hts⟩ (c_X0_payloadCheck l dC dI cA ad st ck nh tp tl cb cy nc of wl wd n (by omega)) (cwV 1 hts gX0_headIsRight_X0_payloadCheck rfl rfl rfl (by decide +kernel) ⟨Nat.le_of_ble_eq_true rfl, Nat.le_of_ble_eq_true rfl⟩) ⟨fun a U g mk q => by obtain ⟨q0, qP, qK⟩ := q; exact ⟨q0, qP, va_K.moved (u := U) (U := U.calling g mk a) (Vm.Alike.refl U.vm) qK⟩, va_recv hK hP (ci := 0) (q0 := 0) rfl rfl, fun U hU hW => ⟨rfl, by rw [hU]; exact hP, va_K.moved hW.alike hK⟩⟩ rfl rfl hl.1 rfl (lv_room (Nat.le_of_ble_eq_true rfl)) dX0_headIsRight_32 ⟨Nat.le_of_ble_eq_true rfl, Nat.le_of_ble_eq_true rfl⟩) ?_
        refine lv_icmp_ne (tgt := 42) hx hb dX0_headIsRight_35 (by decide) (fun c_35 => ?_) (fun c_35 => ?_)
        · refine lv_iconst (v := nI 0) hx hb dX0_headIsRight_42 (by decide) ?_
          have hres : nI 0 = bI (hrF st ck) := by rw [hrF, if_neg c_7, if_neg c_13, hcl, if_neg c_21, if_pos c_35]; rfl
          exact W.zret (v := nI 0) (ty := .boolean) hx hb hr rfl (fun t ht _ => ⟨congrArg (fun z : Int32 => Outcome.returned (some (Value.int z))) hres, ht⟩) (fun _ h => by cases h) dX0_headIsRight_43
        · refine lv_iconst (v := nI 1) hx hb dX0_headIsRight_38 (by decide) ?_
          refine lv_goto (tgt := 43) hx hb dX0_headIsRight_39 (by decide) ?_
          have hres : nI 1 = bI (hrF st ck) := by rw [hrF, if_neg c_7, if_neg c_13, hcl, if_neg c_21, if_neg (not_not_intro c_35)]; rfl
          exact W.zret (v := nI 1) (ty := .boolean) hx hb hr rfl (fun t ht _ => ⟨congrArg (fun z : Int32 => Outcome.returned (some (Value.int z))) hres, ht⟩) (fun _ h => by cases h) dX0_headIsRight_43

/-- what a BlockJournal holds, but for its addresses and its row of check steps -/
abbrev XS : Type := (Nat → Int32) × (Nat → Int32) × (Nat → Int32) × Int32 × (Nat → Int32) × (Nat → Int32) × Int32 × Int32 × Int32 × Int64
abbrev wXu (cA : ClassId) (ad : Nat → Nat) (ck : Nat → Int32) (u : XS) : va_W := wX cA ad u.1 ck u.2.1 u.2.2.1 u.2.2.2.1 u.2.2.2.2.1 u.2.2.2.2.2.1 u.2.2.2.2.2.2.1 u.2.2.2.2.2.2.2.1 u.2.2.2.2.2.2.2.2.1 u.2.2.2.2.2.2.2.2.2
abbrev aX (dC : Nat → ClassId) (dI : Nat → Nat → Nat) (cA : ClassId) (ad : Nat → Nat) (ck : Nat → Int32) (A : Nat → Prop) (u : XS) (t : State) : Prop :=
  va_P (dC, dI) vwCl (wXu cA ad ck u) t.heap ∧ va_K (dC, dI) vwCl [(cA, .int)] t ∧ va_D A (wXu cA ad ck u)
abbrev FS : Type := Nat → Int32
/-- a row whose first i places hold v -/
def fiF (f : Nat → Int32) (v : Int32) (i : Nat) : Nat → Int32 := fun j => if j < i then v else f j
theorem fiF_0 (f : Nat → Int32) (v : Int32) : fiF f v 0 = f := by funext j; simp [fiF]
theorem fiF_up (f : Nat → Int32) (v : Int32) (i : Nat) : upd (fiF f v i) i v = fiF f v (i + 1) := by
  funext j
  simp only [upd, fiF]
  by_cases h : j = i
  · rw [if_pos h, if_pos (by omega)]
  · rw [if_neg h]
    by_cases h2 : j < i
    · rw [if_pos h2, if_pos (by omega)]
    · rw [if_neg h2, if_neg (by omega)]
/-- a write of 64 places of F from q on into block b -/
def wrS (F st : Nat → Int32) (wl : Int32) (q b : Nat) : Nat → Int32 := if ¬ wl = 0 then va_cpy F st q (b * 64) 64 else st
def wrO (of wl : Int32) : Int32 := if ¬ wl = 0 then of else nI 1
def wrL (wl : Int32) : Int32 := if ¬ wl = 0 then (if wl ≤ 0 then wl else wl - nI 1) else wl
def wrD (wl : Int32) (wd : Int64) : Int64 := if ¬ wl = 0 then wd + 1 else wd
/-- i bytes of a word, lowest first, from place p on -/
def swF (f : Nat → Int32) (p : Nat) (w : Int32) : Nat → Nat → Int32
  | 0 => f
  | i + 1 => upd (swF f p w i) (p + i) ((w.toUInt32 >>> ((nI (8 * i)).toUInt32 &&& Int32.toUInt32 31)).toInt32 &&& nI 255)
/-- i targets -/
def tgF (f cb : Nat → Int32) : Nat → Nat → Int32
  | 0 => f
  | i + 1 => upd (upd (tgF f cb i) (5 + 2 * i) (cb i &&& nI 255)) (5 + 2 * i + 1) (((cb i).toUInt32 >>> ((nI 8).toUInt32 &&& Int32.toUInt32 31)).toInt32)
/-- the row of an empty head, of a full one -/
def ehF (nh : Nat → Int32) (w : Int32) : Nat → Int32 := swF (fiF nh (nI 0) 64) 0 w 4
def fhF (st ck nh cb : Nat → Int32) (n : Nat) (w : Int32) : Nat → Int32 := swF (tgF (upd (ehF nh w) 4 (nI n)) cb n) 59 (pcF st ck (n * 64) 64 (-1) ^^^ (-1)) 4

set_option maxHeartbeats 4000000 in
set_option maxRecDepth 100000 in
theorem c_fill (l : Launch) (dC : Nat → ClassId) (dI : Nat → Nat → Nat) (cA : ClassId) (ad : Nat → Nat) (sz : Nat) (a n : Nat) (f : Nat → Int32) (v : Int32) (hn : n < 2 ^ 31) : Met l yJ7_fill_53178 wsJ7_fill_53178 ({ frames := 0, cells := 0, slots := 0, locals := 0 } : Room) (va_Pc [.ref a, .int v] (fun U => U.heap.size = sz ∧ va_P (dC, dI) vwCl ([(a, .inl (cA, n, .inl f))]) U.heap ∧ va_K (dC, dI) vwCl [(cA, .int)] U ∧ va_D (fun _ => True) ([(a, .inl (cA, n, .inl f))]))) (va_Qv (fun g : FS => g = fiF f v n) (fun (g : FS) (t : State) => va_P (dC, dI) vwCl [(a, .inl (cA, n, .inl g))] t.heap ∧ va_K (dC, dI) vwCl [(cA, .int)] t ∧ va_D (va_A ([(a, .inl (cA, n, .inl f))]) sz) [(a, .inl (cA, n, .inl g))]) (va_A ([(a, .inl (cA, n, .inl f))]) sz)) 0 0 (va_A ([(a, .inl (cA, n, .inl f))]) sz) := by
  refine Met.ofW (cc := cJ7_fill_53178) (maxL := 4) (ret := none) (by decide) rfl ?_
  intro p e s m args below meth c s₁ B hml hv
  obtain ⟨rfl, hsz, hP, hK, hD0⟩ := hv
  have hx := B.exec
  have hb := B.bytes
  have hr := B.returns
  have hts := atoms_spec (ws := wsJ7_fill_53178) B.pre
  have hown : s.vm.findClass RJ7 = some m.cls := findClass_of_methodNamed B.named
  have hlocks := B.notSynchronized
  subst hsz
  have hD := hD0.self (sz := s.heap.size)
  generalize hAe : va_A ([(a, .inl (cA, n, .inl f))]) s.heap.size = A at hD ⊢
  have hA : ∀ q : Nat, s.heap.size ≤ q → A q := fun q h => by rw [← hAe]; exact Or.inr h
  obtain ⟨H, locs, hH, hlo, hS⟩ : ∃ (H : Heap) (locs : List Loc), H = s.heap ∧ locs = [] ∧ va_S A s.heap H locs := ⟨s.heap, [], rfl, rfl, va_S.rf⟩
  rw [← hH] at hP
  have hP : va_P (dC, dI) vwCl ([(a, .inl (cA, n, .inl f))]) H := hP
  have hl := lv_entry ([.ref a, .int v]) (n := 4) (Nat.le_of_ble_eq_true rfl)
  rw [lg_entry_eq]
  generalize (lg_sl ([.ref a, .int v]) ++ List.replicate (4 - (lg_sl ([.ref a, .int v])).length) Slot.unset).toArray = ls at hl ⊢
  have goal : W p l e (headSpec wsJ7_fill_53178 ({ frames := 0, cells := 0, slots := 0, locals := 0 } : Room)).room s m ([.ref a, .int v] : List Value).toArray below meth c H locs 0 0 (MQ below (va_Qv (fun g : FS => g = fiF f v n) (fun (g : FS) (t : State) => va_P (dC, dI) vwCl [(a, .inl (cA, n, .inl g))] t.heap ∧ va_K (dC, dI) vwCl [(cA, .int)] t ∧ va_D A [(a, .inl (cA, n, .inl g))]) A) ([.ref a, .int v] : List Value).toArray s 0 0 A) (F0 m 0 ls []) := by
    clear hH hlo
    have hl : lv_has ls 4 [(0, .ref a), (1, .int v)] := hl
    refine lv_iconst (v := nI 0) hx hb dJ7_fill_53178_0 (by decide) ?_
    refine lv_istore_n (lv' := [(2, .int (nI 0)), (0, .ref a), (1, .int v)]) hx hb dJ7_fill_53178_1 rfl hl (by decide) rfl (fun ls hl => ?_)
    refine lv_aload_n hx hb dJ7_fill_53178_2 rfl (lv_at hl 1 rfl) ?_
    refine va_alen (D := (dC, dI)) hx hb hK hP 0 0 (cA := cA) rfl rfl (v := nI n) rfl dJ7_fill_53178_3 ?_
    rw [← fiF_0 f v] at hP hD
    refine lv_istore_n (lv' := [(3, .int (nI n)), (2, .int (nI 0)), (0, .ref a), (1, .int v)]) hx hb dJ7_fill_53178_4 rfl hl (by decide) rfl (fun ls hl => ?_)
    have loop_5 : ∀ (k : Nat) (i : Nat), i + k = n → ∀ (H : Heap) (locs : List Loc) (ls : Array Slot), va_P (dC, dI) vwCl ([(a, .inl (cA, n, .inl (fiF f v i)))]) H → va_D A ([(a, .inl (cA, n, .inl (fiF f v i)))]) → va_S A s.heap H locs → lv_has ls 4 [(0, .ref a), (1, .int v), (2, .int (nI i)), (3, .int (nI n))] → W p l e (headSpec wsJ7_fill_53178 ({ frames := 0, cells := 0, slots := 0, locals := 0 } : Room)).room s m ([.ref a, .int v] : List Value).toArray below meth c H locs 0 0 (MQ below (va_Qv (fun g : FS => g = fiF f v n) (fun (g : FS) (t : State) => va_P (dC, dI) vwCl [(a, .inl (cA, n, .inl g))] t.heap ∧ va_K (dC, dI) vwCl [(cA, .int)] t ∧ va_D A [(a, .inl (cA, n, .inl g))]) A) ([.ref a, .int v] : List Value).toArray s 0 0 A) (F0 m 5 ls []) := by
      intro k
      induction k with
      | zero =>
        intro i hk H locs ls hP hD hS hl
        refine lv_iload_n hx hb dJ7_fill_53178_5 rfl (lv_at hl 2 rfl) ?_
        refine lv_iload_n hx hb dJ7_fill_53178_6 rfl (lv_at hl 3 rfl) ?_
        refine lv_icmp_ge (tgt := 20) hx hb dJ7_fill_53178_7 (by decide) (fun c_7 => ?_) (fun c_7 => ?_)
        · have n_7 : n ≤ i := (nI_leI (by omega) (by omega)).mp c_7
          have hpost : (fiF f v i : FS) = fiF f v n := by rw [show i = n by omega]
          exact W.vret hx hb hr (fun t ht hW => ⟨⟨fiF f v i, rfl, hpost, by rw [ht]; exact hP, va_K.moved hW.alike hK, hD⟩, hS.F ht⟩) hS.2.2 dJ7_fill_53178_20
        · have n_7 : ¬ n ≤ i := fun h => c_7 ((nI_leI (by omega) (by omega)).mpr h)
          exfalso; omega
      | succ k ih =>
        intro i hk H locs ls hP hD hS hl
        refine lv_iload_n hx hb dJ7_fill_53178_5 rfl (lv_at hl 2 rfl) ?_
        refine lv_iload_n hx hb dJ7_fill_53178_6 rfl (lv_at hl 3 rfl) ?_
        refine lv_icmp_ge (tgt := 20) hx hb dJ7_fill_53178_7 (by decide) (fun c_7 => ?_) (fun c_7 => ?_)
        · have n_7 : n ≤ i := (nI_leI (by omega) (by omega)).mp c_7
          exfalso; omega
        · have n_7 : ¬ n ≤ i := fun h => c_7 ((nI_leI (by omega) (by omega)).mpr h)
          refine lv_aload_n hx hb dJ7_fill_53178_10 rfl (lv_at hl 0 rfl) ?_
          refine lv_iload_n hx hb dJ7_fill_53178_11 rfl (lv_at hl 2 rfl) ?_
          refine lv_iload_n hx hb dJ7_fill_53178_12 rfl (lv_at hl 1 rfl) ?_
          refine va_iast (D := (dC, dI)) hx hb hK hP hD hS 0 0 (cA := cA) (n := n) (f := (fiF f v i)) rfl rfl (i := (nI i)) (vp_in_nI (by omega) (by omega)) dJ7_fill_53178_13 (fun H locs hP hD hS => ?_)
          rw [nI_clamp (n := i) (by omega)] at hP hD
          have hP : va_P (dC, dI) vwCl ([(a, .inl (cA, n, .inl (upd (fiF f v i) i v)))]) H := hP
          have hD : va_D A ([(a, .inl (cA, n, .inl (upd (fiF f v i) i v)))]) := hD
          rw [fiF_up] at hP hD
          have hP : va_P (dC, dI) vwCl ([(a, .inl (cA, n, .inl (fiF f v (i + 1))))]) H := hP
          have hD : va_D A ([(a, .inl (cA, n, .inl (fiF f v (i + 1))))]) := hD
          refine lv_iinc (v := nI (i + 1)) (lv' := [(2, .int (nI (i + 1))), (0, .ref a), (1, .int v), (3, .int (nI n))]) hx hb dJ7_fill_53178_14 hl (k := 2) rfl (nI_add i 1) (by decide) rfl (fun ls hl => ?_)
          refine lv_goto (tgt := 5) hx hb dJ7_fill_53178_17 (by decide) ?_
          exact ih (i + 1) (by omega) _ _ _ hP hD hS (lv_sub hl [1, 2, 0, 3] rfl)
    exact loop_5 n 0 (by omega) _ _ _ hP hD hS (lv_sub hl [2, 3, 1, 0] rfl)
  rw [hH, hlo] at goal
  exact goal

set_option maxHeartbeats 4000000 in
set_option maxRecDepth 100000 in
theorem c_X0_write_1 (l : Launch) (dC : Nat → ClassId) (dI : Nat → Nat → Nat) (cA : ClassId) (ad : Nat → Nat) (sz : Nat) (st ck nh tp : Nat → Int32) (tl : Int32) (cb cy : Nat → Int32) (nc of wl : Int32) (wd : Int64) (b q : Nat) (hb9 : b < 96) (hq : q + 64 ≤ 6144) : Met l yX0_write wsX0_write ({ frames := 1, cells := 0, slots := 0, locals := 60 } : Room) (va_Pc [.ref (ad 0), .int (nI b), .ref (ad 1), .int (nI q)] (fun U => U.heap.size = sz ∧ va_P (dC, dI) vwCl (wX cA ad st ck nh tp tl cb cy nc of wl wd) U.heap ∧ va_K (dC, dI) vwCl [(cA, .int)] U ∧ va_D (fun _ => True) (wX cA ad st ck nh tp tl cb cy nc of wl wd))) (va_Qv (fun u : XS => u = (wrS st st wl q b, nh, tp, tl, cb, cy, nc, wrO of wl, wrL wl, wrD wl wd)) (aX dC dI cA ad ck (va_A (wX cA ad st ck nh tp tl cb cy nc of wl wd) sz)) (va_A (wX cA ad st ck nh tp tl cb cy nc of wl wd) sz)) 0 0 (va_A (wX cA ad st ck nh tp tl cb cy nc of wl wd) sz) := by
  refine Met.ofW (cc := cX0_write) (maxL := 4) (ret := none) (by decide) rfl ?_
  intro p e s m args below meth c s₁ B hml hv
  obtain ⟨rfl, hsz, hP, hK, hD0⟩ := hv
  have hx := B.exec
  have hb := B.bytes
  have hr := B.returns
  have hts := atoms_spec (ws := wsX0_write) B.pre
  have hown : s.vm.findClass RX0 = some m.cls := findClass_of_methodNamed B.named
  have hlocks := B.notSynchronized
  have hin : ∀ w ∈ u_ws RX0 TX0 11, w ∈ wsX0_write := by decide +kernel
  subst hsz
  have hD := hD0.self (sz := s.heap.size)
  generalize hAe : va_A (wX cA ad st ck nh tp tl cb cy nc of wl wd) s.heap.size = A at hD ⊢
  have hA : ∀ q : Nat, s.heap.size ≤ q → A q := fun q h => by rw [← hAe]; exact Or.inr h
  obtain ⟨H, locs, hH, hlo, hS⟩ : ∃ (H : Heap) (locs : List Loc), H = s.heap ∧ locs = [] ∧ va_S A s.heap H locs := ⟨s.heap, [], rfl, rfl, va_S.rf⟩
  rw [← hH] at hP
  have hP : va_P (dC, dI) vwCl (wX cA ad st ck nh tp tl cb cy nc of wl wd) H := hP
  have hl := lv_entry ([.ref (ad 0), .int (nI b), .ref (ad 1), .int (nI q)]) (n := 4) (Nat.le_of_ble_eq_true rfl)
  rw [lg_entry_eq]
  generalize (lg_sl ([.ref (ad 0), .int (nI b), .ref (ad 1), .int (nI q)]) ++ List.replicate (4 - (lg_sl ([.ref (ad 0), .int (nI b), .ref (ad 1), .int (nI q)])).length) Slot.unset).toArray = ls at hl ⊢
  have goal : W p l e (headSpec wsX0_write ({ frames := 1, cells := 0, slots := 0, locals := 60 } : Room)).room s m ([.ref (ad 0), .int (nI b), .ref (ad 1), .int (nI q)] : List Value).toArray below meth c H locs 0 0 (MQ below (va_Qv (fun u : XS => u = (wrS st st wl q b, nh, tp, tl, cb, cy, nc, wrO of wl, wrL wl, wrD wl wd)) (aX dC dI cA ad ck A) A) ([.ref (ad 0), .int (nI b), .ref (ad 1), .int (nI q)] : List Value).toArray s 0 0 A) (F0 m 0 ls []) := by
    clear hH hlo
    have hl : lv_has ls 4 [(0, .ref (ad 0)), (1, .int (nI b)), (2, .ref (ad 1)), (3, .int (nI q))] := hl
    refine lv_aload_n hx hb dX0_write_0 rfl (lv_at hl 0 rfl) ?_
    refine va_get (D := (dC, dI)) (ci := 0) (v := .int wl) (C := RX0) (T := TX0) (N := 11) hx hb hts hin hown hK hP 0 rfl rfl 9 (by decide) (hts (.fieldLink RX0 28 "BlockJournal" "writesLeft" "I") (by decide +kernel)) (fun _ h9 => h9) rfl dX0_write_1 ?_
    refine lv_if_ne (tgt := 13) hx hb dX0_write_4 (by decide) (fun c_4 => ?_) (fun c_4 => ?_)
    · refine lv_aload_n hx hb dX0_write_13 rfl (lv_at hl 0 rfl) ?_
      refine va_get (D := (dC, dI)) (ci := 0) (v := .int wl) (C := RX0) (T := TX0) (N := 11) hx hb hts hin hown hK hP 0 rfl rfl 9 (by decide) (hts (.fieldLink RX0 28 "BlockJournal" "writesLeft" "I") (by decide +kernel)) (fun _ h9 => h9) rfl dX0_write_14 ?_
      refine lv_if_le (tgt := 30) hx hb dX0_write_17 (by decide) (fun c_17 => ?_) (fun c_17 => ?_)
      · refine lv_aload_n hx hb dX0_write_30 rfl (lv_at hl 2 rfl) ?_
        refine lv_iload_n hx hb dX0_write_31 rfl (lv_at hl 3 rfl) ?_
        refine lv_aload_n hx hb dX0_write_32 rfl (lv_at hl 0 rfl) ?_
        refine va_get (D := (dC, dI)) (ci := 0) (v := .ref (ad 1)) (C := RX0) (T := TX0) (N := 11) hx hb hts hin hown hK hP 0 rfl rfl 0 (by decide) (hts (.fieldLink RX0 9 "BlockJournal" "store" "[I") (by decide +kernel)) (fun _ h9 => h9) rfl dX0_write_33 ?_
        refine lv_iload_n hx hb dX0_write_36 rfl (lv_at hl 1 rfl) ?_
        refine lv_bipush (v := nI 64) hx hb dX0_write_37 (by decide) ?_
        refine lv_imul hx hb dX0_write_39 ?_
        refine bj_i (pk_mul b 64) ?_
        refine lv_bipush (v := nI 64) hx hb dX0_write_40 (by decide) ?_
        refine va_copyi (D := (dC, dI)) hx hb (hml.trans hl.1.symm) hown (hts (.methodLink RX0 73 arraycopyName) (by decide +kernel)) (hts (.native arraycopyName) (by decide +kernel)) (hts (.static arraycopyName) (by decide +kernel)) (hts (.initialized "java/lang/System") (by decide +kernel)) hK hP hD hS 1 1 0 0 (c0 := cA) (c1 := cA) (n0 := 6144) (n1 := 6144) (f := st) (g := st) (ty := .int) rfl rfl rfl rfl rfl (sp := nI q) (dp := nI (b * 64)) (n := nI 64) (nI_pos (by omega)) (nI_pos (by omega)) (nI_pos (by omega)) (by rw [nI_clamp (by omega), nI_clamp (by omega)]; omega) (by rw [nI_clamp (by omega), nI_clamp (by omega)]; omega) (fun _ _ => rfl) (Nat.le_of_ble_eq_true rfl) (Nat.le_of_ble_eq_true rfl) dX0_write_42 (fun H locs hP hD hS => ?_)
        rw [nI_clamp (n := q) (by omega), nI_clamp (n := b * 64) (by omega), nI_clamp (n := 64) (by omega)] at hP hD
        have hP : va_P (dC, dI) vwCl (wX cA ad (va_cpy st st q (b * 64) 64) ck nh tp tl cb cy nc of wl wd) H := hP
        have hD : va_D A (wX cA ad (va_cpy st st q (b * 64) 64) ck nh tp tl cb cy nc of wl wd) := hD
        refine lv_aload_n hx hb dX0_write_45 rfl (lv_at hl 0 rfl) ?_
        refine lv_dup hx hb dX0_write_46 rfl ?_
        refine va_get (D := (dC, dI)) (ci := 0) (v := .long wd) (C := RX0) (T := TX0) (N := 11) hx hb hts hin hown hK hP 0 rfl rfl 10 (by decide) (hts (.fieldLink RX0 132 "BlockJournal" "writesDone" "J") (by decide +kernel)) (fun _ h9 => h9) rfl dX0_write_47 ?_
        refine lv_lconst (v := 1) hx hb dX0_write_50 (by decide) ?_
        refine lv_ladd hx hb dX0_write_51 ?_
        refine va_put (D := (dC, dI)) (ci := 0) (v := .long (wd + 1)) (ty := .long) (C := RX0) (T := TX0) (N := 11) hx hb hts hin tyX0 tyX0_ok nmX0 hown hK hP hD hS 0 rfl rfl 10 (by decide) (hts (.fieldLink RX0 132 "BlockJournal" "writesDone" "J") (by decide +kernel)) (fun _ h9 => h9) rfl (by decide +kernel) rfl rfl (Nat.le_of_ble_eq_true rfl) dX0_write_52 (fun H locs hP hD hS => ?_)
        have hP : va_P (dC, dI) vwCl (wX cA ad (va_cpy st st q (b * 64) 64) ck nh tp tl cb cy nc of wl (wd + 1)) H := hP
        have hD : va_D A (wX cA ad (va_cpy st st q (b * 64) 64) ck nh tp tl cb cy nc of wl (wd + 1)) := hD
        have hpost : ((va_cpy st st q (b * 64) 64, nh, tp, tl, cb, cy, nc, of, wl, wd + 1) : XS) = (wrS st st wl q b, nh, tp, tl, cb, cy, nc, wrO of wl, wrL wl, wrD wl wd) := by simp only [wrS, wrO, wrL, wrD, if_pos c_4, if_pos c_17]
        exact W.vret hx hb hr (fun t ht hW => ⟨⟨(va_cpy st st q (b * 64) 64, nh, tp, tl, cb, cy, nc, of, wl, wd + 1), rfl, hpost, by rw [ht]; exact hP, va_K.moved hW.alike hK, hD⟩, hS.F ht⟩) hS.2.2 dX0_write_55
      · refine lv_aload_n hx hb dX0_write_20 rfl (lv_at hl 0 rfl) ?_
        refine lv_dup hx hb dX0_write_21 rfl ?_
        refine va_get (D := (dC, dI)) (ci := 0) (v := .int wl) (C := RX0) (T := TX0) (N := 11) hx hb hts hin hown hK hP 0 rfl rfl 9 (by decide) (hts (.fieldLink RX0 28 "BlockJournal" "writesLeft" "I") (by decide +kernel)) (fun _ h9 => h9) rfl dX0_write_22 ?_
        refine lv_iconst (v := nI 1) hx hb dX0_write_25 (by decide) ?_
        refine lv_isub hx hb dX0_write_26 ?_
        refine va_put (D := (dC, dI)) (ci := 0) (v := .int (wl - (nI 1))) (ty := .int) (C := RX0) (T := TX0) (N := 11) hx hb hts hin tyX0 tyX0_ok nmX0 hown hK hP hD hS 0 rfl rfl 9 (by decide) (hts (.fieldLink RX0 28 "BlockJournal" "writesLeft" "I") (by decide +kernel)) (fun _ h9 => h9) rfl (by decide +kernel) rfl rfl (Nat.le_of_ble_eq_true rfl) dX0_write_27 (fun H locs hP hD hS => ?_)
        have hP : va_P (dC, dI) vwCl (wX cA ad st ck nh tp tl cb cy nc of (wl - (nI 1)) wd) H := hP
        have hD : va_D A (wX cA ad st ck nh tp tl cb cy nc of (wl - (nI 1)) wd) := hD
        refine lv_aload_n hx hb dX0_write_30 rfl (lv_at hl 2 rfl) ?_
        refine lv_iload_n hx hb dX0_write_31 rfl (lv_at hl 3 rfl) ?_
        refine lv_aload_n hx hb dX0_write_32 rfl (lv_at hl 0 rfl) ?_
        refine va_get (D := (dC, dI)) (ci := 0) (v := .ref (ad 1)) (C := RX0) (T := TX0) (N := 11) hx hb hts hin hown hK hP 0 rfl rfl 0 (by decide) (hts (.fieldLink RX0 9 "BlockJournal" "store" "[I") (by decide +kernel)) (fun _ h9 => h9) rfl dX0_write_33 ?_
        refine lv_iload_n hx hb dX0_write_36 rfl (lv_at hl 1 rfl) ?_
        refine lv_bipush (v := nI 64) hx hb dX0_write_37 (by decide) ?_
        refine lv_imul hx hb dX0_write_39 ?_
        refine bj_i (pk_mul b 64) ?_
        refine lv_bipush (v := nI 64) hx hb dX0_write_40 (by decide) ?_
        refine va_copyi (D := (dC, dI)) hx hb (hml.trans hl.1.symm) hown (hts (.methodLink RX0 73 arraycopyName) (by decide +kernel)) (hts (.native arraycopyName) (by decide +kernel)) (hts (.static arraycopyName) (by decide +kernel)) (hts (.initialized "java/lang/System") (by decide +kernel)) hK hP hD hS 1 1 0 0 (c0 := cA) (c1 := cA) (n0 := 6144) (n1 := 6144) (f := st) (g := st) (ty := .int) rfl rfl rfl rfl rfl (sp := nI q) (dp := nI (b * 64)) (n := nI 64) (nI_pos (by omega)) (nI_pos (by omega)) (nI_pos (by omega)) (by rw [nI_clamp (by omega), nI_clamp (by omega)]; omega) (by rw [nI_clamp (by omega), nI_clamp (by omega)]; omega) (fun _ _ => rfl) (Nat.le_of_ble_eq_true rfl) (Nat.le_of_ble_eq_true rfl) dX0_write_42 (fun H locs hP hD hS => ?_)
        rw [nI_clamp (n := q) (by omega), nI_clamp (n := b * 64) (by omega), nI_clamp (n := 64) (by omega)] at hP hD
        have hP : va_P (dC, dI) vwCl (wX cA ad (va_cpy st st q (b * 64) 64) ck nh tp tl cb cy nc of (wl - (nI 1)) wd) H := hP
        have hD : va_D A (wX cA ad (va_cpy st st q (b * 64) 64) ck nh tp tl cb cy nc of (wl - (nI 1)) wd) := hD
        refine lv_aload_n hx hb dX0_write_45 rfl (lv_at hl 0 rfl) ?_
        refine lv_dup hx hb dX0_write_46 rfl ?_
        refine va_get (D := (dC, dI)) (ci := 0) (v := .long wd) (C := RX0) (T := TX0) (N := 11) hx hb hts hin hown hK hP 0 rfl rfl 10 (by decide) (hts (.fieldLink RX0 132 "BlockJournal" "writesDone" "J") (by decide +kernel)) (fun _ h9 => h9) rfl dX0_write_47 ?_
        refine lv_lconst (v := 1) hx hb dX0_write_50 (by decide) ?_
        refine lv_ladd hx hb dX0_write_51 ?_
        refine va_put (D := (dC, dI)) (ci := 0) (v := .long (wd + 1)) (ty := .long) (C := RX0) (T := TX0) (N := 11) hx hb hts hin tyX0 tyX0_ok nmX0 hown hK hP hD hS 0 rfl rfl 10 (by decide) (hts (.fieldLink RX0 132 "BlockJournal" "writesDone" "J") (by decide +kernel)) (fun _ h9 => h9) rfl (by decide +kernel) rfl rfl (Nat.le_of_ble_eq_true rfl) dX0_write_52 (fun H locs hP hD hS => ?_)
        have hP : va_P (dC, dI) vwCl (wX cA ad (va_cpy st st q (b * 64) 64) ck nh tp tl cb cy nc of (wl - (nI 1)) (wd + 1)) H := hP
        have hD : va_D A (wX cA ad (va_cpy st st q (b * 64) 64) ck nh tp tl cb cy nc of (wl - (nI 1)) (wd + 1)) := hD
        have hpost : ((va_cpy st st q (b * 64) 64, nh, tp, tl, cb, cy, nc, of, wl - (nI 1), wd + 1) : XS) = (wrS st st wl q b, nh, tp, tl, cb, cy, nc, wrO of wl, wrL wl, wrD wl wd) := by simp only [wrS, wrO, wrL, wrD, if_pos c_4, if_neg c_17]
        exact W.vret hx hb hr (fun t ht hW => ⟨⟨(va_cpy st st q (b * 64) 64, nh, tp, tl, cb, cy, nc, of, wl - (nI 1), wd + 1), rfl, hpost, by rw [ht]; exact hP, va_K.moved hW.alike hK, hD⟩, hS.F ht⟩) hS.2.2 dX0_write_55
    · refine lv_aload_n hx hb dX0_write_7 rfl (lv_at hl 0 rfl) ?_
      refine lv_iconst (v := nI 1) hx hb dX0_write_8 (by decide) ?_
      refine va_put (D := (dC, dI)) (ci := 0) (v := .int (nI 1)) (ty := .boolean) (C := RX0) (T := TX0) (N := 11) hx hb hts hin tyX0 tyX0_ok nmX0 hown hK hP hD hS 0 rfl rfl 8 (by decide) (hts (.fieldLink RX0 85 "BlockJournal" "off" "Z") (by decide +kernel)) (fun _ h9 => h9) rfl (by decide +kernel) rfl rfl (Nat.le_of_ble_eq_true rfl) dX0_write_9 (fun H locs hP hD hS => ?_)
      have hP : va_P (dC, dI) vwCl (wX cA ad st ck nh tp tl cb cy nc (nI 1) wl wd) H := hP
      have hD : va_D A (wX cA ad st ck nh tp tl cb cy nc (nI 1) wl wd) := hD
      have hpost : ((st, nh, tp, tl, cb, cy, nc, nI 1, wl, wd) : XS) = (wrS st st wl q b, nh, tp, tl, cb, cy, nc, wrO of wl, wrL wl, wrD wl wd) := by simp only [wrS, wrO, wrL, wrD, if_neg (not_not_intro c_4)]
      exact W.vret hx hb hr (fun t ht hW => ⟨⟨(st, nh, tp, tl, cb, cy, nc, nI 1, wl, wd), rfl, hpost, by rw [ht]; exact hP, va_K.moved hW.alike hK, hD⟩, hS.F ht⟩) hS.2.2 dX0_write_12
  rw [hH, hlo] at goal
  exact goal

set_option maxHeartbeats 4000000 in
set_option maxRecDepth 100000 in
theorem c_X0_write_3 (l : Launch) (dC : Nat → ClassId) (dI : Nat → Nat → Nat) (cA : ClassId) (ad : Nat → Nat) (sz : Nat) (st ck nh tp : Nat → Int32) (tl : Int32) (cb cy : Nat → Int32) (nc of wl : Int32) (wd : Int64) (b q : Nat) (hb9 : b < 96) (hq : q + 64 ≤ 64) : Met l yX0_write wsX0_write ({ frames := 1, cells := 0, slots := 0, locals := 60 } : Room) (va_Pc [.ref (ad 0), .int (nI b), .ref (ad 3), .int (nI q)] (fun U => U.heap.size = sz ∧ va_P (dC, dI) vwCl (wX cA ad st ck nh tp tl cb cy nc of wl wd) U.heap ∧ va_K (dC, dI) vwCl [(cA, .int)] U ∧ va_D (fun _ => True) (wX cA ad st ck nh tp tl cb cy nc of wl wd))) (va_Qv (fun u : XS => u = (wrS nh st wl q b, nh, tp, tl, cb, cy, nc, wrO of wl, wrL wl, wrD wl wd)) (aX dC dI cA ad ck (va_A (wX cA ad st ck nh tp tl cb cy nc of wl wd) sz)) (va_A (wX cA ad st ck nh tp tl cb cy nc of wl wd) sz)) 0 0 (va_A (wX cA ad st ck nh tp tl cb cy nc of wl wd) sz) := by
  refine Met.ofW (cc := cX0_write) (maxL := 4) (ret := none) (by decide) rfl ?_
  intro p e s m args below meth c s₁ B hml hv
  obtain ⟨rfl, hsz, hP, hK, hD0⟩ := hv
  have hx := B.exec
  have hb := B.bytes
  have hr := B.returns
  have hts := atoms_spec (ws := wsX0_write) B.pre
  have hown : s.vm.findClass RX0 = some m.cls := findClass_of_methodNamed B.named
  have hlocks := B.notSynchronized
  have hin : ∀ w ∈ u_ws RX0 TX0 11, w ∈ wsX0_write := by decide +kernel
  subst hsz
  have hD := hD0.self (sz := s.heap.size)
  generalize hAe : va_A (wX cA ad st ck nh tp tl cb cy nc of wl wd) s.heap.size = A at hD ⊢
  have hA : ∀ q : Nat, s.heap.size ≤ q → A q := fun q h => by rw [← hAe]; exact Or.inr h
  obtain ⟨H, locs, hH, hlo, hS⟩ : ∃ (H : Heap) (locs : List Loc), H = s.heap ∧ locs = [] ∧ va_S A s.heap H locs := ⟨s.heap, [], rfl, rfl, va_S.rf⟩
  rw [← hH] at hP
  have hP : va_P (dC, dI) vwCl (wX cA ad st ck nh tp tl cb cy nc of wl wd) H := hP
  have hl := lv_entry ([.ref (ad 0), .int (nI b), .ref (ad 3), .int (nI q)]) (n := 4) (Nat.le_of_ble_eq_true rfl)
  rw [lg_entry_eq]
  generalize (lg_sl ([.ref (ad 0), .int (nI b), .ref (ad 3), .int (nI q)]) ++ List.replicate (4 - (lg_sl ([.ref (ad 0), .int (nI b), .ref (ad 3), .int (nI q)])).length) Slot.unset).toArray = ls at hl ⊢
  have goal : W p l e (headSpec wsX0_write ({ frames := 1, cells := 0, slots := 0, locals := 60 } : Room)).room s m ([.ref (ad 0), .int (nI b), .ref (ad 3), .int (nI q)] : List Value).toArray below meth c H locs 0 0 (MQ below (va_Qv (fun u : XS => u = (wrS nh st wl q b, nh, tp, tl, cb, cy, nc, wrO of wl, wrL wl, wrD wl wd)) (aX dC dI cA ad ck A) A) ([.ref (ad 0), .int (nI b), .ref (ad 3), .int (nI q)] : List Value).toArray s 0 0 A) (F0 m 0 ls []) := by
    clear hH hlo
    have hl : lv_has ls 4 [(0, .ref (ad 0)), (1, .int (nI b)), (2, .ref (ad 3)), (3, .int (nI q))] := hl
    refine lv_aload_n hx hb dX0_write_0 rfl (lv_at hl 0 rfl) ?_
    refine va_get (D := (dC, dI)) (ci := 0) (v := .int wl) (C := RX0) (T := TX0) (N := 11) hx hb hts hin hown hK hP 0 rfl rfl 9 (by decide) (hts (.fieldLink RX0 28 "BlockJournal" "writesLeft" "I") (by decide +kernel)) (fun _ h9 => h9) rfl dX0_write_1 ?_
    refine lv_if_ne (tgt := 13) hx hb dX0_write_4 (by decide) (fun c_4 => ?_) (fun c_4 => ?_)
    · refine lv_aload_n hx hb dX0_write_13 rfl (lv_at hl 0 rfl) ?_
      refine va_get (D := (dC, dI)) (ci := 0) (v := .int wl) (C := RX0) (T := TX0) (N := 11) hx hb hts hin hown hK hP 0 rfl rfl 9 (by decide) (hts (.fieldLink RX0 28 "BlockJournal" "writesLeft" "I") (by decide +kernel)) (fun _ h9 => h9) rfl dX0_write_14 ?_
      refine lv_if_le (tgt := 30) hx hb dX0_write_17 (by decide) (fun c_17 => ?_) (fun c_17 => ?_)
      · refine lv_aload_n hx hb dX0_write_30 rfl (lv_at hl 2 rfl) ?_
        refine lv_iload_n hx hb dX0_write_31 rfl (lv_at hl 3 rfl) ?_
        refine lv_aload_n hx hb dX0_write_32 rfl (lv_at hl 0 rfl) ?_
        refine va_get (D := (dC, dI)) (ci := 0) (v := .ref (ad 1)) (C := RX0) (T := TX0) (N := 11) hx hb hts hin hown hK hP 0 rfl rfl 0 (by decide) (hts (.fieldLink RX0 9 "BlockJournal" "store" "[I") (by decide +kernel)) (fun _ h9 => h9) rfl dX0_write_33 ?_
        refine lv_iload_n hx hb dX0_write_36 rfl (lv_at hl 1 rfl) ?_
        refine lv_bipush (v := nI 64) hx hb dX0_write_37 (by decide) ?_
        refine lv_imul hx hb dX0_write_39 ?_
        refine bj_i (pk_mul b 64) ?_
        refine lv_bipush (v := nI 64) hx hb dX0_write_40 (by decide) ?_
        refine va_copyi (D := (dC, dI)) hx hb (hml.trans hl.1.symm) hown (hts (.methodLink RX0 73 arraycopyName) (by decide +kernel)) (hts (.native arraycopyName) (by decide +kernel)) (hts (.static arraycopyName) (by decide +kernel)) (hts (.initialized "java/lang/System") (by decide +kernel)) hK hP hD hS 3 1 0 0 (c0 := cA) (c1 := cA) (n0 := 64) (n1 := 6144) (f := nh) (g := st) (ty := .int) rfl rfl rfl rfl rfl (sp := nI q) (dp := nI (b * 64)) (n := nI 64) (nI_pos (by omega)) (nI_pos (by omega)) (nI_pos (by omega)) (by rw [nI_clamp (by omega), nI_clamp (by omega)]; omega) (by rw [nI_clamp (by omega), nI_clamp (by omega)]; omega) (fun _ _ => rfl) (Nat.le_of_ble_eq_true rfl) (Nat.le_of_ble_eq_true rfl) dX0_write_42 (fun H locs hP hD hS => ?_)
        rw [nI_clamp (n := q) (by omega), nI_clamp (n := b * 64) (by omega), nI_clamp (n := 64) (by omega)] at hP hD
        have hP : va_P (dC, dI) vwCl (wX cA ad (va_cpy nh st q (b * 64) 64) ck nh tp tl cb cy nc of wl wd) H := hP
        have hD : va_D A (wX cA ad (va_cpy nh st q (b * 64) 64) ck nh tp tl cb cy nc of wl wd) := hD
        refine lv_aload_n hx hb dX0_write_45 rfl (lv_at hl 0 rfl) ?_
        refine lv_dup hx hb dX0_write_46 rfl ?_
        refine va_get (D := (dC, dI)) (ci := 0) (v := .long wd) (C := RX0) (T := TX0) (N := 11) hx hb hts hin hown hK hP 0 rfl rfl 10 (by decide) (hts (.fieldLink RX0 132 "BlockJournal" "writesDone" "J") (by decide +kernel)) (fun _ h9 => h9) rfl dX0_write_47 ?_
        refine lv_lconst (v := 1) hx hb dX0_write_50 (by decide) ?_
        refine lv_ladd hx hb dX0_write_51 ?_
        refine va_put (D := (dC, dI)) (ci := 0) (v := .long (wd + 1)) (ty := .long) (C := RX0) (T := TX0) (N := 11) hx hb hts hin tyX0 tyX0_ok nmX0 hown hK hP hD hS 0 rfl rfl 10 (by decide) (hts (.fieldLink RX0 132 "BlockJournal" "writesDone" "J") (by decide +kernel)) (fun _ h9 => h9) rfl (by decide +kernel) rfl rfl (Nat.le_of_ble_eq_true rfl) dX0_write_52 (fun H locs hP hD hS => ?_)
        have hP : va_P (dC, dI) vwCl (wX cA ad (va_cpy nh st q (b * 64) 64) ck nh tp tl cb cy nc of wl (wd + 1)) H := hP
        have hD : va_D A (wX cA ad (va_cpy nh st q (b * 64) 64) ck nh tp tl cb cy nc of wl (wd + 1)) := hD
        have hpost : ((va_cpy nh st q (b * 64) 64, nh, tp, tl, cb, cy, nc, of, wl, wd + 1) : XS) = (wrS nh st wl q b, nh, tp, tl, cb, cy, nc, wrO of wl, wrL wl, wrD wl wd) := by simp only [wrS, wrO, wrL, wrD, if_pos c_4, if_pos c_17]
        exact W.vret hx hb hr (fun t ht hW => ⟨⟨(va_cpy nh st q (b * 64) 64, nh, tp, tl, cb, cy, nc, of, wl, wd + 1), rfl, hpost, by rw [ht]; exact hP, va_K.moved hW.alike hK, hD⟩, hS.F ht⟩) hS.2.2 dX0_write_55
      · refine lv_aload_n hx hb dX0_write_20 rfl (lv_at hl 0 rfl) ?_
        refine lv_dup hx hb dX0_write_21 rfl ?_
        refine va_get (D := (dC, dI)) (ci := 0) (v := .int wl) (C := RX0) (T := TX0) (N := 11) hx hb hts hin hown hK hP 0 rfl rfl 9 (by decide) (hts (.fieldLink RX0 28 "BlockJournal" "writesLeft" "I") (by decide +kernel)) (fun _ h9 => h9) rfl dX0_write_22 ?_
        refine lv_iconst (v := nI 1) hx hb dX0_write_25 (by decide) ?_
        refine lv_isub hx hb dX0_write_26 ?_
        refine va_put (D := (dC, dI)) (ci := 0) (v := .int (wl - (nI 1))) (ty := .int) (C := RX0) (T := TX0) (N := 11) hx hb hts hin tyX0 tyX0_ok nmX0 hown hK hP hD hS 0 rfl rfl 9 (by decide) (hts (.fieldLink RX0 28 "BlockJournal" "writesLeft" "I") (by decide +kernel)) (fun _ h9 => h9) rfl (by decide +kernel) rfl rfl (Nat.le_of_ble_eq_true rfl) dX0_write_27 (fun H locs hP hD hS => ?_)
        have hP : va_P (dC, dI) vwCl (wX cA ad st ck nh tp tl cb cy nc of (wl - (nI 1)) wd) H := hP
        have hD : va_D A (wX cA ad st ck nh tp tl cb cy nc of (wl - (nI 1)) wd) := hD
        refine lv_aload_n hx hb dX0_write_30 rfl (lv_at hl 2 rfl) ?_
        refine lv_iload_n hx hb dX0_write_31 rfl (lv_at hl 3 rfl) ?_
        refine lv_aload_n hx hb dX0_write_32 rfl (lv_at hl 0 rfl) ?_
        refine va_get (D := (dC, dI)) (ci := 0) (v := .ref (ad 1)) (C := RX0) (T := TX0) (N := 11) hx hb hts hin hown hK hP 0 rfl rfl 0 (by decide) (hts (.fieldLink RX0 9 "BlockJournal" "store" "[I") (by decide +kernel)) (fun _ h9 => h9) rfl dX0_write_33 ?_
        refine lv_iload_n hx hb dX0_write_36 rfl (lv_at hl 1 rfl) ?_
        refine lv_bipush (v := nI 64) hx hb dX0_write_37 (by decide) ?_
        refine lv_imul hx hb dX0_write_39 ?_
        refine bj_i (pk_mul b 64) ?_
        refine lv_bipush (v := nI 64) hx hb dX0_write_40 (by decide) ?_
        refine va_copyi (D := (dC, dI)) hx hb (hml.trans hl.1.symm) hown (hts (.methodLink RX0 73 arraycopyName) (by decide +kernel)) (hts (.native arraycopyName) (by decide +kernel)) (hts (.static arraycopyName) (by decide +kernel)) (hts (.initialized "java/lang/System") (by decide +kernel)) hK hP hD hS 3 1 0 0 (c0 := cA) (c1 := cA) (n0 := 64) (n1 := 6144) (f := nh) (g := st) (ty := .int) rfl rfl rfl rfl rfl (sp := nI q) (dp := nI (b * 64)) (n := nI 64) (nI_pos (by omega)) (nI_pos (by omega)) (nI_pos (by omega)) (by rw [nI_clamp (by omega), nI_clamp (by omega)]; omega) (by rw [nI_clamp (by omega), nI_clamp (by omega)]; omega) (fun _ _ => rfl) (Nat.le_of_ble_eq_true rfl) (Nat.le_of_ble_eq_true rfl) dX0_write_42 (fun H locs hP hD hS => ?_)
        rw [nI_clamp (n := q) (by omega), nI_clamp (n := b * 64) (by omega), nI_clamp (n := 64) (by omega)] at hP hD
        have hP : va_P (dC, dI) vwCl (wX cA ad (va_cpy nh st q (b * 64) 64) ck nh tp tl cb cy nc of (wl - (nI 1)) wd) H := hP
        have hD : va_D A (wX cA ad (va_cpy nh st q (b * 64) 64) ck nh tp tl cb cy nc of (wl - (nI 1)) wd) := hD
        refine lv_aload_n hx hb dX0_write_45 rfl (lv_at hl 0 rfl) ?_
        refine lv_dup hx hb dX0_write_46 rfl ?_
        refine va_get (D := (dC, dI)) (ci := 0) (v := .long wd) (C := RX0) (T := TX0) (N := 11) hx hb hts hin hown hK hP 0 rfl rfl 10 (by decide) (hts (.fieldLink RX0 132 "BlockJournal" "writesDone" "J") (by decide +kernel)) (fun _ h9 => h9) rfl dX0_write_47 ?_
        refine lv_lconst (v := 1) hx hb dX0_write_50 (by decide) ?_
        refine lv_ladd hx hb dX0_write_51 ?_
        refine va_put (D := (dC, dI)) (ci := 0) (v := .long (wd + 1)) (ty := .long) (C := RX0) (T := TX0) (N := 11) hx hb hts hin tyX0 tyX0_ok nmX0 hown hK hP hD hS 0 rfl rfl 10 (by decide) (hts (.fieldLink RX0 132 "BlockJournal" "writesDone" "J") (by decide +kernel)) (fun _ h9 => h9) rfl (by decide +kernel) rfl rfl (Nat.le_of_ble_eq_true rfl) dX0_write_52 (fun H locs hP hD hS => ?_)
        have hP : va_P (dC, dI) vwCl (wX cA ad (va_cpy nh st q (b * 64) 64) ck nh tp tl cb cy nc of (wl - (nI 1)) (wd + 1)) H := hP
        have hD : va_D A (wX cA ad (va_cpy nh st q (b * 64) 64) ck nh tp tl cb cy nc of (wl - (nI 1)) (wd + 1)) := hD
        have hpost : ((va_cpy nh st q (b * 64) 64, nh, tp, tl, cb, cy, nc, of, wl - (nI 1), wd + 1) : XS) = (wrS nh st wl q b, nh, tp, tl, cb, cy, nc, wrO of wl, wrL wl, wrD wl wd) := by simp only [wrS, wrO, wrL, wrD, if_pos c_4, if_neg c_17]
        exact W.vret hx hb hr (fun t ht hW => ⟨⟨(va_cpy nh st q (b * 64) 64, nh, tp, tl, cb, cy, nc, of, wl - (nI 1), wd + 1), rfl, hpost, by rw [ht]; exact hP, va_K.moved hW.alike hK, hD⟩, hS.F ht⟩) hS.2.2 dX0_write_55
    · refine lv_aload_n hx hb dX0_write_7 rfl (lv_at hl 0 rfl) ?_
      refine lv_iconst (v := nI 1) hx hb dX0_write_8 (by decide) ?_
      refine va_put (D := (dC, dI)) (ci := 0) (v := .int (nI 1)) (ty := .boolean) (C := RX0) (T := TX0) (N := 11) hx hb hts hin tyX0 tyX0_ok nmX0 hown hK hP hD hS 0 rfl rfl 8 (by decide) (hts (.fieldLink RX0 85 "BlockJournal" "off" "Z") (by decide +kernel)) (fun _ h9 => h9) rfl (by decide +kernel) rfl rfl (Nat.le_of_ble_eq_true rfl) dX0_write_9 (fun H locs hP hD hS => ?_)
      have hP : va_P (dC, dI) vwCl (wX cA ad st ck nh tp tl cb cy nc (nI 1) wl wd) H := hP
      have hD : va_D A (wX cA ad st ck nh tp tl cb cy nc (nI 1) wl wd) := hD
      have hpost : ((st, nh, tp, tl, cb, cy, nc, nI 1, wl, wd) : XS) = (wrS nh st wl q b, nh, tp, tl, cb, cy, nc, wrO of wl, wrL wl, wrD wl wd) := by simp only [wrS, wrO, wrL, wrD, if_neg (not_not_intro c_4)]
      exact W.vret hx hb hr (fun t ht hW => ⟨⟨(st, nh, tp, tl, cb, cy, nc, nI 1, wl, wd), rfl, hpost, by rw [ht]; exact hP, va_K.moved hW.alike hK, hD⟩, hS.F ht⟩) hS.2.2 dX0_write_12
  rw [hH, hlo] at goal
  exact goal

set_option maxHeartbeats 4000000 in
set_option maxRecDepth 100000 in
theorem c_X0_write_6 (l : Launch) (dC : Nat → ClassId) (dI : Nat → Nat → Nat) (cA : ClassId) (ad : Nat → Nat) (sz : Nat) (st ck nh tp : Nat → Int32) (tl : Int32) (cb cy : Nat → Int32) (nc of wl : Int32) (wd : Int64) (b q : Nat) (hb9 : b < 96) (hq : q + 64 ≤ 1536) : Met l yX0_write wsX0_write ({ frames := 1, cells := 0, slots := 0, locals := 60 } : Room) (va_Pc [.ref (ad 0), .int (nI b), .ref (ad 6), .int (nI q)] (fun U => U.heap.size = sz ∧ va_P (dC, dI) vwCl (wX cA ad st ck nh tp tl cb cy nc of wl wd) U.heap ∧ va_K (dC, dI) vwCl [(cA, .int)] U ∧ va_D (fun _ => True) (wX cA ad st ck nh tp tl cb cy nc of wl wd))) (va_Qv (fun u : XS => u = (wrS cy st wl q b, nh, tp, tl, cb, cy, nc, wrO of wl, wrL wl, wrD wl wd)) (aX dC dI cA ad ck (va_A (wX cA ad st ck nh tp tl cb cy nc of wl wd) sz)) (va_A (wX cA ad st ck nh tp tl cb cy nc of wl wd) sz)) 0 0 (va_A (wX cA ad st ck nh tp tl cb cy nc of wl wd) sz) := by
  refine Met.ofW (cc := cX0_write) (maxL := 4) (ret := none) (by decide) rfl ?_
  intro p e s m args below meth c s₁ B hml hv
  obtain ⟨rfl, hsz, hP, hK, hD0⟩ := hv
  have hx := B.exec
  have hb := B.bytes
  have hr := B.returns
  have hts := atoms_spec (ws := wsX0_write) B.pre
  have hown : s.vm.findClass RX0 = some m.cls := findClass_of_methodNamed B.named
  have hlocks := B.notSynchronized
  have hin : ∀ w ∈ u_ws RX0 TX0 11, w ∈ wsX0_write := by decide +kernel
  subst hsz
  have hD := hD0.self (sz := s.heap.size)
  generalize hAe : va_A (wX cA ad st ck nh tp tl cb cy nc of wl wd) s.heap.size = A at hD ⊢
  have hA : ∀ q : Nat, s.heap.size ≤ q → A q := fun q h => by rw [← hAe]; exact Or.inr h
  obtain ⟨H, locs, hH, hlo, hS⟩ : ∃ (H : Heap) (locs : List Loc), H = s.heap ∧ locs = [] ∧ va_S A s.heap H locs := ⟨s.heap, [], rfl, rfl, va_S.rf⟩
  rw [← hH] at hP
  have hP : va_P (dC, dI) vwCl (wX cA ad st ck nh tp tl cb cy nc of wl wd) H := hP
  have hl := lv_entry ([.ref (ad 0), .int (nI b), .ref (ad 6), .int (nI q)]) (n := 4) (Nat.le_of_ble_eq_true rfl)
  rw [lg_entry_eq]
  generalize (lg_sl ([.ref (ad 0), .int (nI b), .ref (ad 6), .int (nI q)]) ++ List.replicate (4 - (lg_sl ([.ref (ad 0), .int (nI b), .ref (ad 6), .int (nI q)])).length) Slot.unset).toArray = ls at hl ⊢
  have goal : W p l e (headSpec wsX0_write ({ frames := 1, cells := 0, slots := 0, locals := 60 } : Room)).room s m ([.ref (ad 0), .int (nI b), .ref (ad 6), .int (nI q)] : List Value).toArray below meth c H locs 0 0 (MQ below (va_Qv (fun u : XS => u = (wrS cy st wl q b, nh, tp, tl, cb, cy, nc, wrO of wl, wrL wl, wrD wl wd)) (aX dC dI cA ad ck A) A) ([.ref (ad 0), .int (nI b), .ref (ad 6), .int (nI q)] : List Value).toArray s 0 0 A) (F0 m 0 ls []) := by
    clear hH hlo
    have hl : lv_has ls 4 [(0, .ref (ad 0)), (1, .int (nI b)), (2, .ref (ad 6)), (3, .int (nI q))] := hl
    refine lv_aload_n hx hb dX0_write_0 rfl (lv_at hl 0 rfl) ?_
    refine va_get (D := (dC, dI)) (ci := 0) (v := .int wl) (C := RX0) (T := TX0) (N := 11) hx hb hts hin hown hK hP 0 rfl rfl 9 (by decide) (hts (.fieldLink RX0 28 "BlockJournal" "writesLeft" "I") (by decide +kernel)) (fun _ h9 => h9) rfl dX0_write_1 ?_
    refine lv_if_ne (tgt := 13) hx hb dX0_write_4 (by decide) (fun c_4 => ?_) (fun c_4 => ?_)
    · refine lv_aload_n hx hb dX0_write_13 rfl (lv_at hl 0 rfl) ?_
      refine va_get (D := (dC, dI)) (ci := 0) (v := .int wl) (C := RX0) (T := TX0) (N := 11) hx hb hts hin hown hK hP 0 rfl rfl 9 (by decide) (hts (.fieldLink RX0 28 "BlockJournal" "writesLeft" "I") (by decide +kernel)) (fun _ h9 => h9) rfl dX0_write_14 ?_
      refine lv_if_le (tgt := 30) hx hb dX0_write_17 (by decide) (fun c_17 => ?_) (fun c_17 => ?_)
      · refine lv_aload_n hx hb dX0_write_30 rfl (lv_at hl 2 rfl) ?_
        refine lv_iload_n hx hb dX0_write_31 rfl (lv_at hl 3 rfl) ?_
        refine lv_aload_n hx hb dX0_write_32 rfl (lv_at hl 0 rfl) ?_
        refine va_get (D := (dC, dI)) (ci := 0) (v := .ref (ad 1)) (C := RX0) (T := TX0) (N := 11) hx hb hts hin hown hK hP 0 rfl rfl 0 (by decide) (hts (.fieldLink RX0 9 "BlockJournal" "store" "[I") (by decide +kernel)) (fun _ h9 => h9) rfl dX0_write_33 ?_
        refine lv_iload_n hx hb dX0_write_36 rfl (lv_at hl 1 rfl) ?_
        refine lv_bipush (v := nI 64) hx hb dX0_write_37 (by decide) ?_
        refine lv_imul hx hb dX0_write_39 ?_
        refine bj_i (pk_mul b 64) ?_
        refine lv_bipush (v := nI 64) hx hb dX0_write_40 (by decide) ?_
        refine va_copyi (D := (dC, dI)) hx hb (hml.trans hl.1.symm) hown (hts (.methodLink RX0 73 arraycopyName) (by decide +kernel)) (hts (.native arraycopyName) (by decide +kernel)) (hts (.static arraycopyName) (by decide +kernel)) (hts (.initialized "java/lang/System") (by decide +kernel)) hK hP hD hS 6 1 0 0 (c0 := cA) (c1 := cA) (n0 := 1536) (n1 := 6144) (f := cy) (g := st) (ty := .int) rfl rfl rfl rfl rfl (sp := nI q) (dp := nI (b * 64)) (n := nI 64) (nI_pos (by omega)) (nI_pos (by omega)) (nI_pos (by omega)) (by rw [nI_clamp (by omega), nI_clamp (by omega)]; omega) (by rw [nI_clamp (by omega), nI_clamp (by omega)]; omega) (fun _ _ => rfl) (Nat.le_of_ble_eq_true rfl) (Nat.le_of_ble_eq_true rfl) dX0_write_42 (fun H locs hP hD hS => ?_)
        rw [nI_clamp (n := q) (by omega), nI_clamp (n := b * 64) (by omega), nI_clamp (n := 64) (by omega)] at hP hD
        have hP : va_P (dC, dI) vwCl (wX cA ad (va_cpy cy st q (b * 64) 64) ck nh tp tl cb cy nc of wl wd) H := hP
        have hD : va_D A (wX cA ad (va_cpy cy st q (b * 64) 64) ck nh tp tl cb cy nc of wl wd) := hD
        refine lv_aload_n hx hb dX0_write_45 rfl (lv_at hl 0 rfl) ?_
        refine lv_dup hx hb dX0_write_46 rfl ?_
        refine va_get (D := (dC, dI)) (ci := 0) (v := .long wd) (C := RX0) (T := TX0) (N := 11) hx hb hts hin hown hK hP 0 rfl rfl 10 (by decide) (hts (.fieldLink RX0 132 "BlockJournal" "writesDone" "J") (by decide +kernel)) (fun _ h9 => h9) rfl dX0_write_47 ?_
        refine lv_lconst (v := 1) hx hb dX0_write_50 (by decide) ?_
        refine lv_ladd hx hb dX0_write_51 ?_
        refine va_put (D := (dC, dI)) (ci := 0) (v := .long (wd + 1)) (ty := .long) (C := RX0) (T := TX0) (N := 11) hx hb hts hin tyX0 tyX0_ok nmX0 hown hK hP hD hS 0 rfl rfl 10 (by decide) (hts (.fieldLink RX0 132 "BlockJournal" "writesDone" "J") (by decide +kernel)) (fun _ h9 => h9) rfl (by decide +kernel) rfl rfl (Nat.le_of_ble_eq_true rfl) dX0_write_52 (fun H locs hP hD hS => ?_)
        have hP : va_P (dC, dI) vwCl (wX cA ad (va_cpy cy st q (b * 64) 64) ck nh tp tl cb cy nc of wl (wd + 1)) H := hP
        have hD : va_D A (wX cA ad (va_cpy cy st q (b * 64) 64) ck nh tp tl cb cy nc of wl (wd + 1)) := hD
        have hpost : ((va_cpy cy st q (b * 64) 64, nh, tp, tl, cb, cy, nc, of, wl, wd + 1) : XS) = (wrS cy st wl q b, nh, tp, tl, cb, cy, nc, wrO of wl, wrL wl, wrD wl wd) := by simp only [wrS, wrO, wrL, wrD, if_pos c_4, if_pos c_17]
        exact W.vret hx hb hr (fun t ht hW => ⟨⟨(va_cpy cy st q (b * 64) 64, nh, tp, tl, cb, cy, nc, of, wl, wd + 1), rfl, hpost, by rw [ht]; exact hP, va_K.moved hW.alike hK, hD⟩, hS.F ht⟩) hS.2.2 dX0_write_55
      · refine lv_aload_n hx hb dX0_write_20 rfl (lv_at hl 0 rfl) ?_
        refine lv_dup hx hb dX0_write_21 rfl ?_
        refine va_get (D := (dC, dI)) (ci := 0) (v := .int wl) (C := RX0) (T := TX0) (N := 11) hx hb hts hin hown hK hP 0 rfl rfl 9 (by decide) (hts (.fieldLink RX0 28 "BlockJournal" "writesLeft" "I") (by decide +kernel)) (fun _ h9 => h9) rfl dX0_write_22 ?_
        refine lv_iconst (v := nI 1) hx hb dX0_write_25 (by decide) ?_
        refine lv_isub hx hb dX0_write_26 ?_
        refine va_put (D := (dC, dI)) (ci := 0) (v := .int (wl - (nI 1))) (ty := .int) (C := RX0) (T := TX0) (N := 11) hx hb hts hin tyX0 tyX0_ok nmX0 hown hK hP hD hS 0 rfl rfl 9 (by decide) (hts (.fieldLink RX0 28 "BlockJournal" "writesLeft" "I") (by decide +kernel)) (fun _ h9 => h9) rfl (by decide +kernel) rfl rfl (Nat.le_of_ble_eq_true rfl) dX0_write_27 (fun H locs hP hD hS => ?_)
        have hP : va_P (dC, dI) vwCl (wX cA ad st ck nh tp tl cb cy nc of (wl - (nI 1)) wd) H := hP
        have hD : va_D A (wX cA ad st ck nh tp tl cb cy nc of (wl - (nI 1)) wd) := hD
        refine lv_aload_n hx hb dX0_write_30 rfl (lv_at hl 2 rfl) ?_
        refine lv_iload_n hx hb dX0_write_31 rfl (lv_at hl 3 rfl) ?_
        refine lv_aload_n hx hb dX0_write_32 rfl (lv_at hl 0 rfl) ?_
        refine va_get (D := (dC, dI)) (ci := 0) (v := .ref (ad 1)) (C := RX0) (T := TX0) (N := 11) hx hb hts hin hown hK hP 0 rfl rfl 0 (by decide) (hts (.fieldLink RX0 9 "BlockJournal" "store" "[I") (by decide +kernel)) (fun _ h9 => h9) rfl dX0_write_33 ?_
        refine lv_iload_n hx hb dX0_write_36 rfl (lv_at hl 1 rfl) ?_
        refine lv_bipush (v := nI 64) hx hb dX0_write_37 (by decide) ?_
        refine lv_imul hx hb dX0_write_39 ?_
        refine bj_i (pk_mul b 64) ?_
        refine lv_bipush (v := nI 64) hx hb dX0_write_40 (by decide) ?_
        refine va_copyi (D := (dC, dI)) hx hb (hml.trans hl.1.symm) hown (hts (.methodLink RX0 73 arraycopyName) (by decide +kernel)) (hts (.native arraycopyName) (by decide +kernel)) (hts (.static arraycopyName) (by decide +kernel)) (hts (.initialized "java/lang/System") (by decide +kernel)) hK hP hD hS 6 1 0 0 (c0 := cA) (c1 := cA) (n0 := 1536) (n1 := 6144) (f := cy) (g := st) (ty := .int) rfl rfl rfl rfl rfl (sp := nI q) (dp := nI (b * 64)) (n := nI 64) (nI_pos (by omega)) (nI_pos (by omega)) (nI_pos (by omega)) (by rw [nI_clamp (by omega), nI_clamp (by omega)]; omega) (by rw [nI_clamp (by omega), nI_clamp (by omega)]; omega) (fun _ _ => rfl) (Nat.le_of_ble_eq_true rfl) (Nat.le_of_ble_eq_true rfl) dX0_write_42 (fun H locs hP hD hS => ?_)
        rw [nI_clamp (n := q) (by omega), nI_clamp (n := b * 64) (by omega), nI_clamp (n := 64) (by omega)] at hP hD
        have hP : va_P (dC, dI) vwCl (wX cA ad (va_cpy cy st q (b * 64) 64) ck nh tp tl cb cy nc of (wl - (nI 1)) wd) H := hP
        have hD : va_D A (wX cA ad (va_cpy cy st q (b * 64) 64) ck nh tp tl cb cy nc of (wl - (nI 1)) wd) := hD
        refine lv_aload_n hx hb dX0_write_45 rfl (lv_at hl 0 rfl) ?_
        refine lv_dup hx hb dX0_write_46 rfl ?_
        refine va_get (D := (dC, dI)) (ci := 0) (v := .long wd) (C := RX0) (T := TX0) (N := 11) hx hb hts hin hown hK hP 0 rfl rfl 10 (by decide) (hts (.fieldLink RX0 132 "BlockJournal" "writesDone" "J") (by decide +kernel)) (fun _ h9 => h9) rfl dX0_write_47 ?_
        refine lv_lconst (v := 1) hx hb dX0_write_50 (by decide) ?_
        refine lv_ladd hx hb dX0_write_51 ?_
        refine va_put (D := (dC, dI)) (ci := 0) (v := .long (wd + 1)) (ty := .long) (C := RX0) (T := TX0) (N := 11) hx hb hts hin tyX0 tyX0_ok nmX0 hown hK hP hD hS 0 rfl rfl 10 (by decide) (hts (.fieldLink RX0 132 "BlockJournal" "writesDone" "J") (by decide +kernel)) (fun _ h9 => h9) rfl (by decide +kernel) rfl rfl (Nat.le_of_ble_eq_true rfl) dX0_write_52 (fun H locs hP hD hS => ?_)
        have hP : va_P (dC, dI) vwCl (wX cA ad (va_cpy cy st q (b * 64) 64) ck nh tp tl cb cy nc of (wl - (nI 1)) (wd + 1)) H := hP
        have hD : va_D A (wX cA ad (va_cpy cy st q (b * 64) 64) ck nh tp tl cb cy nc of (wl - (nI 1)) (wd + 1)) := hD
        have hpost : ((va_cpy cy st q (b * 64) 64, nh, tp, tl, cb, cy, nc, of, wl - (nI 1), wd + 1) : XS) = (wrS cy st wl q b, nh, tp, tl, cb, cy, nc, wrO of wl, wrL wl, wrD wl wd) := by simp only [wrS, wrO, wrL, wrD, if_pos c_4, if_neg c_17]
        exact W.vret hx hb hr (fun t ht hW => ⟨⟨(va_cpy cy st q (b * 64) 64, nh, tp, tl, cb, cy, nc, of, wl - (nI 1), wd + 1), rfl, hpost, by rw [ht]; exact hP, va_K.moved hW.alike hK, hD⟩, hS.F ht⟩) hS.2.2 dX0_write_55
    · refine lv_aload_n hx hb dX0_write_7 rfl (lv_at hl 0 rfl) ?_
      refine lv_iconst (v := nI 1) hx hb dX0_write_8 (by decide) ?_
      refine va_put (D := (dC, dI)) (ci := 0) (v := .int (nI 1)) (ty := .boolean) (C := RX0) (T := TX0) (N := 11) hx hb hts hin tyX0 tyX0_ok nmX0 hown hK hP hD hS 0 rfl rfl 8 (by decide) (hts (.fieldLink RX0 85 "BlockJournal" "off" "Z") (by decide +kernel)) (fun _ h9 => h9) rfl (by decide +kernel) rfl rfl (Nat.le_of_ble_eq_true rfl) dX0_write_9 (fun H locs hP hD hS => ?_)
      have hP : va_P (dC, dI) vwCl (wX cA ad st ck nh tp tl cb cy nc (nI 1) wl wd) H := hP
      have hD : va_D A (wX cA ad st ck nh tp tl cb cy nc (nI 1) wl wd) := hD
      have hpost : ((st, nh, tp, tl, cb, cy, nc, nI 1, wl, wd) : XS) = (wrS cy st wl q b, nh, tp, tl, cb, cy, nc, wrO of wl, wrL wl, wrD wl wd) := by simp only [wrS, wrO, wrL, wrD, if_neg (not_not_intro c_4)]
      exact W.vret hx hb hr (fun t ht hW => ⟨⟨(st, nh, tp, tl, cb, cy, nc, nI 1, wl, wd), rfl, hpost, by rw [ht]; exact hP, va_K.moved hW.alike hK, hD⟩, hS.F ht⟩) hS.2.2 dX0_write_12
  rw [hH, hlo] at goal
  exact goal

set_option maxHeartbeats 4000000 in
set_option maxRecDepth 100000 in
theorem c_X0_setWord (l : Launch) (dC : Nat → ClassId) (dI : Nat → Nat → Nat) (cA : ClassId) (ad : Nat → Nat) (sz : Nat) (st ck nh tp : Nat → Int32) (tl : Int32) (cb cy : Nat → Int32) (nc of wl : Int32) (wd : Int64) (q : Nat) (w : Int32) (hq : q ≤ 60) : Met l yX0_setWord wsX0_setWord ({ frames := 0, cells := 0, slots := 0, locals := 0 } : Room) (va_Pc [.ref (ad 0), .int (nI q), .int w] (fun U => U.heap.size = sz ∧ va_P (dC, dI) vwCl (wX cA ad st ck nh tp tl cb cy nc of wl wd) U.heap ∧ va_K (dC, dI) vwCl [(cA, .int)] U ∧ va_D (fun _ => True) (wX cA ad st ck nh tp tl cb cy nc of wl wd))) (va_Qv (fun u : XS => u = (st, swF nh q w 4, tp, tl, cb, cy, nc, of, wl, wd)) (aX dC dI cA ad ck (va_A (wX cA ad st ck nh tp tl cb cy nc of wl wd) sz)) (va_A (wX cA ad st ck nh tp tl cb cy nc of wl wd) sz)) 0 0 (va_A (wX cA ad st ck nh tp tl cb cy nc of wl wd) sz) := by
  refine Met.ofW (cc := cX0_setWord) (maxL := 4) (ret := none) (by decide) rfl ?_
  intro p e s m args below meth c s₁ B hml hv
  obtain ⟨rfl, hsz, hP, hK, hD0⟩ := hv
  have hx := B.exec
  have hb := B.bytes
  have hr := B.returns
  have hts := atoms_spec (ws := wsX0_setWord) B.pre
  have hown : s.vm.findClass RX0 = some m.cls := findClass_of_methodNamed B.named
  have hlocks := B.notSynchronized
  have hin : ∀ w ∈ u_ws RX0 TX0 11, w ∈ wsX0_setWord := by decide +kernel
  subst hsz
  have hD := hD0.self (sz := s.heap.size)
  generalize hAe : va_A (wX cA ad st ck nh tp tl cb cy nc of wl wd) s.heap.size = A at hD ⊢
  have hA : ∀ q : Nat, s.heap.size ≤ q → A q := fun q h => by rw [← hAe]; exact Or.inr h
  obtain ⟨H, locs, hH, hlo, hS⟩ : ∃ (H : Heap) (locs : List Loc), H = s.heap ∧ locs = [] ∧ va_S A s.heap H locs := ⟨s.heap, [], rfl, rfl, va_S.rf⟩
  rw [← hH] at hP
  have hP : va_P (dC, dI) vwCl (wX cA ad st ck nh tp tl cb cy nc of wl wd) H := hP
  have hl := lv_entry ([.ref (ad 0), .int (nI q), .int w]) (n := 4) (Nat.le_of_ble_eq_true rfl)
  rw [lg_entry_eq]
  generalize (lg_sl ([.ref (ad 0), .int (nI q), .int w]) ++ List.replicate (4 - (lg_sl ([.ref (ad 0), .int (nI q), .int w])).length) Slot.unset).toArray = ls at hl ⊢
  have goal : W p l e (headSpec wsX0_setWord ({ frames := 0, cells := 0, slots := 0, locals := 0 } : Room)).room s m ([.ref (ad 0), .int (nI q), .int w] : List Value).toArray below meth c H locs 0 0 (MQ below (va_Qv (fun u : XS => u = (st, swF nh q w 4, tp, tl, cb, cy, nc, of, wl, wd)) (aX dC dI cA ad ck A) A) ([.ref (ad 0), .int (nI q), .int w] : List Value).toArray s 0 0 A) (F0 m 0 ls []) := by
    clear hH hlo
    have hl : lv_has ls 4 [(0, .ref (ad 0)), (1, .int (nI q)), (2, .int w)] := hl
    refine lv_iconst (v := nI 0) hx hb dX0_setWord_0 (by decide) ?_
    refine lv_istore_n (lv' := [(3, .int (nI 0)), (0, .ref (ad 0)), (1, .int (nI q)), (2, .int w)]) hx hb dX0_setWord_1 rfl hl (by decide) rfl (fun ls hl => ?_)
    have loop_2 : ∀ (k : Nat) (i : Nat), i + k = 4 → ∀ (H : Heap) (locs : List Loc) (ls : Array Slot), va_P (dC, dI) vwCl (wX cA ad st ck (swF nh q w i) tp tl cb cy nc of wl wd) H → va_D A (wX cA ad st ck (swF nh q w i) tp tl cb cy nc of wl wd) → va_S A s.heap H locs → lv_has ls 4 [(0, .ref (ad 0)), (1, .int (nI q)), (2, .int w), (3, .int (nI i))] → W p l e (headSpec wsX0_setWord ({ frames := 0, cells := 0, slots := 0, locals := 0 } : Room)).room s m ([.ref (ad 0), .int (nI q), .int w] : List Value).toArray below meth c H locs 0 0 (MQ below (va_Qv (fun u : XS => u = (st, swF nh q w 4, tp, tl, cb, cy, nc, of, wl, wd)) (aX dC dI cA ad ck A) A) ([.ref (ad 0), .int (nI q), .int w] : List Value).toArray s 0 0 A) (F0 m 2 ls []) := by
      intro k
      induction k with
      | zero =>
        intro i hk H locs ls hP hD hS hl
        refine lv_iload_n hx hb dX0_setWord_2 rfl (lv_at hl 3 rfl) ?_
        refine lv_iconst (v := nI 4) hx hb dX0_setWord_3 (by decide) ?_
        refine lv_icmp_ge (tgt := 31) hx hb dX0_setWord_4 (by decide) (fun c_4 => ?_) (fun c_4 => ?_)
        · have n_4 : 4 ≤ i := (nI_leI (by omega) (by omega)).mp c_4
          have hpost : ((st, swF nh q w i, tp, tl, cb, cy, nc, of, wl, wd) : XS) = (st, swF nh q w 4, tp, tl, cb, cy, nc, of, wl, wd) := by rw [show i = 4 by omega]
          exact W.vret hx hb hr (fun t ht hW => ⟨⟨(st, swF nh q w i, tp, tl, cb, cy, nc, of, wl, wd), rfl, hpost, by rw [ht]; exact hP, va_K.moved hW.alike hK, hD⟩, hS.F ht⟩) hS.2.2 dX0_setWord_31
        · have n_4 : ¬ 4 ≤ i := fun h => c_4 ((nI_leI (by omega) (by omega)).mpr h)
          exfalso; omega
      | succ k ih =>
        intro i hk H locs ls hP hD hS hl
        refine lv_iload_n hx hb dX0_setWord_2 rfl (lv_at hl 3 rfl) ?_
        refine lv_iconst (v := nI 4) hx hb dX0_setWord_3 (by decide) ?_
        refine lv_icmp_ge (tgt := 31) hx hb dX0_setWord_4 (by decide) (fun c_4 => ?_) (fun c_4 => ?_)
        · have n_4 : 4 ≤ i := (nI_leI (by omega) (by omega)).mp c_4
          exfalso; omega
        · have n_4 : ¬ 4 ≤ i := fun h => c_4 ((nI_leI (by omega) (by omega)).mpr h)
          refine lv_aload_n hx hb dX0_setWord_7 rfl (lv_at hl 0 rfl) ?_
          refine va_get (D := (dC, dI)) (ci := 0) (v := .ref (ad 3)) (C := RX0) (T := TX0) (N := 11) hx hb hts hin hown hK hP 0 rfl rfl 2 (by decide) (hts (.fieldLink RX0 16 "BlockJournal" "newHead" "[I") (by decide +kernel)) (fun _ h9 => h9) rfl dX0_setWord_8 ?_
          refine lv_iload_n hx hb dX0_setWord_11 rfl (lv_at hl 1 rfl) ?_
          refine lv_iload_n hx hb dX0_setWord_12 rfl (lv_at hl 3 rfl) ?_
          refine lv_iadd hx hb dX0_setWord_13 ?_
          refine bj_i (nI_add q i) ?_
          refine lv_iload_n hx hb dX0_setWord_14 rfl (lv_at hl 2 rfl) ?_
          refine lv_bipush (v := nI 8) hx hb dX0_setWord_15 (by decide) ?_
          refine lv_iload_n hx hb dX0_setWord_17 rfl (lv_at hl 3 rfl) ?_
          refine lv_imul hx hb dX0_setWord_18 ?_
          refine bj_i (pk_mul 8 i) ?_
          refine lv_iushr hx hb dX0_setWord_19 rfl ?_
          refine lv_sipush (v := nI 255) hx hb dX0_setWord_20 (by decide) ?_
          refine lv_iand hx hb dX0_setWord_23 ?_
          refine va_iast (D := (dC, dI)) hx hb hK hP hD hS 3 0 (cA := cA) (n := 64) (f := (swF nh q w i)) rfl rfl (i := (nI (q + i))) (vp_in_nI (by omega) (by omega)) dX0_setWord_24 (fun H locs hP hD hS => ?_)
          rw [nI_clamp (n := q + i) (by omega)] at hP hD
          have hP : va_P (dC, dI) vwCl (wX cA ad st ck (upd (swF nh q w i) (q + i) (((w.toUInt32 >>> ((nI (8 * i)).toUInt32 &&& Int32.toUInt32 31)).toInt32) &&& (nI 255))) tp tl cb cy nc of wl wd) H := hP
          have hD : va_D A (wX cA ad st ck (upd (swF nh q w i) (q + i) (((w.toUInt32 >>> ((nI (8 * i)).toUInt32 &&& Int32.toUInt32 31)).toInt32) &&& (nI 255))) tp tl cb cy nc of wl wd) := hD
          refine lv_iinc (v := nI (i + 1)) (lv' := [(3, .int (nI (i + 1))), (0, .ref (ad 0)), (1, .int (nI q)), (2, .int w)]) hx hb dX0_setWord_25 hl (k := 3) rfl (nI_add i 1) (by decide) rfl (fun ls hl => ?_)
          refine lv_goto (tgt := 2) hx hb dX0_setWord_28 (by decide) ?_
          exact ih (i + 1) (by omega) _ _ _ hP hD hS (lv_sub hl [1, 2, 3, 0] rfl)
    exact loop_2 4 0 (by omega) _ _ _ hP hD hS (lv_sub hl [1, 2, 3, 0] rfl)
  rw [hH, hlo] at goal
  exact goal

set_option maxHeartbeats 4000000 in
set_option maxRecDepth 100000 in
theorem c_X0_writeEmptyHead (l : Launch) (dC : Nat → ClassId) (dI : Nat → Nat → Nat) (cA : ClassId) (ad : Nat → Nat) (sz : Nat) (st ck nh tp : Nat → Int32) (tl : Int32) (cb cy : Nat → Int32) (nc of wl : Int32) (wd : Int64) (w : Int32)  : Met l yX0_writeEmptyHead wsX0_writeEmptyHead ({ frames := 2, cells := 0, slots := 0, locals := 83 } : Room) (va_Pc [.ref (ad 0), .int w] (fun U => U.heap.size = sz ∧ va_P (dC, dI) vwCl (wX cA ad st ck nh tp tl cb cy nc of wl wd) U.heap ∧ va_K (dC, dI) vwCl [(cA, .int)] U ∧ va_D (fun _ => True) (wX cA ad st ck nh tp tl cb cy nc of wl wd))) (va_Qv (fun u : XS => u = (wrS (ehF nh w) st wl 0 0, ehF nh w, tp, tl, cb, cy, nc, wrO of wl, wrL wl, wrD wl wd)) (aX dC dI cA ad ck (va_A (wX cA ad st ck nh tp tl cb cy nc of wl wd) sz)) (va_A (wX cA ad st ck nh tp tl cb cy nc of wl wd) sz)) 0 0 (va_A (wX cA ad st ck nh tp tl cb cy nc of wl wd) sz) := by
  refine Met.ofW (cc := cX0_writeEmptyHead) (maxL := 2) (ret := none) (by decide) rfl ?_
  intro p e s m args below meth c s₁ B hml hv
  obtain ⟨rfl, hsz, hP, hK, hD0⟩ := hv
  have hx := B.exec
  have hb := B.bytes
  have hr := B.returns
  have hts := atoms_spec (ws := wsX0_writeEmptyHead) B.pre
  have hown : s.vm.findClass RX0 = some m.cls := findClass_of_methodNamed B.named
  have hlocks := B.notSynchronized
  have hin : ∀ w ∈ u_ws RX0 TX0 11, w ∈ wsX0_writeEmptyHead := by decide +kernel
  subst hsz
  have hD := hD0.self (sz := s.heap.size)
  generalize hAe : va_A (wX cA ad st ck nh tp tl cb cy nc of wl wd) s.heap.size = A at hD ⊢
  have hA : ∀ q : Nat, s.heap.size ≤ q → A q := fun q h => by rw [← hAe]; exact Or.inr h
  obtain ⟨H, locs, hH, hlo, hS⟩ : ∃ (H : Heap) (locs : List Loc), H = s.heap ∧ locs = [] ∧ va_S A s.heap H locs := ⟨s.heap, [], rfl, rfl, va_S.rf⟩
  rw [← hH] at hP
  have hP : va_P (dC, dI) vwCl (wX cA ad st ck nh tp tl cb cy nc of wl wd) H := hP
  have hl := lv_entry ([.ref (ad 0), .int w]) (n := 2) (Nat.le_of_ble_eq_true rfl)
  rw [lg_entry_eq]
  generalize (lg_sl ([.ref (ad 0), .int w]) ++ List.replicate (2 - (lg_sl ([.ref (ad 0), .int w])).length) Slot.unset).toArray = ls at hl ⊢
  have goal : W p l e (headSpec wsX0_writeEmptyHead ({ frames := 2, cells := 0, slots := 0, locals := 83 } : Room)).room s m ([.ref (ad 0), .int w] : List Value).toArray below meth c H locs 0 0 (MQ below (va_Qv (fun u : XS => u = (wrS (ehF nh w) st wl 0 0, ehF nh w, tp, tl, cb, cy, nc, wrO of wl, wrL wl, wrD wl wd)) (aX dC dI cA ad ck A) A) ([.ref (ad 0), .int w] : List Value).toArray s 0 0 A) (F0 m 0 ls []) := by
    clear hH hlo
    have hl : lv_has ls 2 [(0, .ref (ad 0)), (1, .int w)] := hl
    refine lv_aload_n hx hb dX0_writeEmptyHead_0 rfl (lv_at hl 0 rfl) ?_
    refine va_get (D := (dC, dI)) (ci := 0) (v := .ref (ad 3)) (C := RX0) (T := TX0) (N := 11) hx hb hts hin hown hK hP 0 rfl rfl 2 (by decide) (hts (.fieldLink RX0 16 "BlockJournal" "newHead" "[I") (by decide +kernel)) (fun _ h9 => h9) rfl dX0_writeEmptyHead_1 ?_
    refine lv_iconst (v := nI 0) hx hb dX0_writeEmptyHead_4 (by decide) ?_
    have hPc := hP.sub (ws' := [(ad 3, .inl (cA, 64, .inl nh))]) [3] rfl
    have hDc := hD.sub (ws' := [(ad 3, .inl (cA, 64, .inl nh))]) [3] (by decide) rfl
    have hFc := va_free (wc := [(ad 3, .inl (cA, 64, .inl nh))]) hD hS hA [3] rfl
    refine va_callv (va_runS (As := [.ref (ad 3), .int (nI 0)]) (rest := []) ⟨hx, hb, hml, hown, hts⟩ (c_fill l dC dI cA ad H.size (ad 3) 64 nh (nI 0) (by decide)) (va_cwS 2 hts gX0_writeEmptyHead_J7_fill_53178 rfl rfl rfl (by decide +kernel) ⟨Nat.le_of_ble_eq_true rfl, Nat.le_of_ble_eq_true rfl⟩) ⟨fun a U g mk q => by obtain ⟨q0, q1, qP, qK, qD⟩ := q; exact ⟨q0, q1, qP, va_K.moved (u := U) (U := U.calling g mk a) (Vm.Alike.refl U.vm) qK, qD⟩, fun U hU hW => ⟨rfl, by rw [hU], by rw [hU]; exact hPc, va_K.moved hW.alike hK, hDc.weaken (fun _ _ _ _ => trivial)⟩⟩ rfl rfl hl.1 rfl (lv_room (Nat.le_of_ble_eq_true rfl)) dX0_writeEmptyHead_5 ⟨Nat.le_of_ble_eq_true rfl, Nat.le_of_ble_eq_true rfl⟩) hS (fun q _ h => hFc q h) hFc (fun u t H1 locs ht hvm hw hB hz1 hk1 hS => ?_)
    obtain ⟨hP1, hK1, hD1⟩ := hB
    subst hw
    rw [ht] at hP1
    obtain ⟨hP, hD⟩ := va_join (wr := [(ad 0, .inr (0, [.ref (ad 1), .ref (ad 2), .ref (ad 3), .ref (ad 4), .int tl, .ref (ad 5), .ref (ad 6), .int nc, .int of, .int wl, .long wd])), (ad 1, .inl (cA, 6144, .inl st)), (ad 2, .inl (cA, 256, .inl ck)), (ad 4, .inl (cA, 64, .inl tp)), (ad 5, .inl (cA, 24, .inl cb)), (ad 6, .inl (cA, 1536, .inl cy))]) (w1 := [(ad 3, .inl (cA, 64, .inl (fiF nh (nI 0) 64)))]) hP hD [3] [0, 1, 2, 4, 5, 6] rfl rfl (by decide) (by decide) hk1 hFc hP1 hD1
    have hP : va_P (dC, dI) vwCl (wX cA ad st ck (fiF nh (nI 0) 64) tp tl cb cy nc of wl wd) H1 := hP.sub (ws' := wX cA ad st ck (fiF nh (nI 0) 64) tp tl cb cy nc of wl wd) [0, 1, 2, 6, 3, 4, 5] rfl
    have hD : va_D A (wX cA ad st ck (fiF nh (nI 0) 64) tp tl cb cy nc of wl wd) := hD.sub (ws' := wX cA ad st ck (fiF nh (nI 0) 64) tp tl cb cy nc of wl wd) [0, 1, 2, 6, 3, 4, 5] (by decide) rfl
    generalize H1 = H at hP hS ⊢
    refine lv_aload_n hx hb dX0_writeEmptyHead_8 rfl (lv_at hl 0 rfl) ?_
    refine lv_iconst (v := nI 0) hx hb dX0_writeEmptyHead_9 (by decide) ?_
    refine lv_iload_n hx hb dX0_writeEmptyHead_10 rfl (lv_at hl 1 rfl) ?_
    have hFc := va_free (wc := wX cA ad st ck (fiF nh (nI 0) 64) tp tl cb cy nc of wl wd) hD hS hA [0, 1, 2, 3, 4, 5, 6] rfl
    refine va_callv (va_runV (As := [.int (nI 0), .int w]) (rest := []) ⟨hx, hb, hml, hown, hts⟩ (c_X0_setWord l dC dI cA ad H.size st ck (fiF nh (nI 0) 64) tp tl cb cy nc of wl wd 0 w (by decide)) (cwV 2 hts gX0_writeEmptyHead_X0_setWord rfl rfl rfl (by decide +kernel) ⟨Nat.le_of_ble_eq_true rfl, Nat.le_of_ble_eq_true rfl⟩) ⟨fun a U g mk q => by obtain ⟨q0, q1, qP, qK, qD⟩ := q; exact ⟨q0, q1, qP, va_K.moved (u := U) (U := U.calling g mk a) (Vm.Alike.refl U.vm) qK, qD⟩, va_recv hK hP (ci := 0) (q0 := 0) rfl rfl, fun U hU hW => ⟨rfl, by rw [hU], by rw [hU]; exact hP, va_K.moved hW.alike hK, hD.weaken (fun _ _ _ _ => trivial)⟩⟩ rfl rfl hl.1 rfl (lv_room (Nat.le_of_ble_eq_true rfl)) dX0_writeEmptyHead_11 ⟨Nat.le_of_ble_eq_true rfl, Nat.le_of_ble_eq_true rfl⟩) hS (fun q _ h => hFc q h) hFc (fun u t H1 locs ht hvm hw hB hz1 hk1 hS => ?_)
    obtain ⟨hP1, hK1, hD1⟩ := hB
    subst hw
    rw [ht] at hP1
    have hP : va_P (dC, dI) vwCl (wX cA ad st ck (swF (fiF nh (nI 0) 64) 0 w 4) tp tl cb cy nc of wl wd) H1 := hP1
    have hD : va_D A (wX cA ad st ck (swF (fiF nh (nI 0) 64) 0 w 4) tp tl cb cy nc of wl wd) := ⟨hD1.1, fun k q h => hFc _ (hD1.2 k q h)⟩
    generalize H1 = H at hP hS ⊢
    refine lv_aload_n hx hb dX0_writeEmptyHead_14 rfl (lv_at hl 0 rfl) ?_
    refine lv_iconst (v := nI 0) hx hb dX0_writeEmptyHead_15 (by decide) ?_
    refine lv_aload_n hx hb dX0_writeEmptyHead_16 rfl (lv_at hl 0 rfl) ?_
    refine va_get (D := (dC, dI)) (ci := 0) (v := .ref (ad 3)) (C := RX0) (T := TX0) (N := 11) hx hb hts hin hown hK hP 0 rfl rfl 2 (by decide) (hts (.fieldLink RX0 16 "BlockJournal" "newHead" "[I") (by decide +kernel)) (fun _ h9 => h9) rfl dX0_writeEmptyHead_17 ?_
    refine lv_iconst (v := nI 0) hx hb dX0_writeEmptyHead_20 (by decide) ?_
    have hFc := va_free (wc := wX cA ad st ck (swF (fiF nh (nI 0) 64) 0 w 4) tp tl cb cy nc of wl wd) hD hS hA [0, 1, 2, 3, 4, 5, 6] rfl
    refine va_callv (va_runV (As := [.int (nI 0), .ref (ad 3), .int (nI 0)]) (rest := []) ⟨hx, hb, hml, hown, hts⟩ (c_X0_write_3 l dC dI cA ad H.size st ck (swF (fiF nh (nI 0) 64) 0 w 4) tp tl cb cy nc of wl wd 0 0 (by omega) (by omega)) (cwV 3 hts gX0_writeEmptyHead_X0_write rfl rfl rfl (by decide +kernel) ⟨Nat.le_of_ble_eq_true rfl, Nat.le_of_ble_eq_true rfl⟩) ⟨fun a U g mk q => by obtain ⟨q0, q1, qP, qK, qD⟩ := q; exact ⟨q0, q1, qP, va_K.moved (u := U) (U := U.calling g mk a) (Vm.Alike.refl U.vm) qK, qD⟩, va_recv hK hP (ci := 0) (q0 := 0) rfl rfl, fun U hU hW => ⟨rfl, by rw [hU], by rw [hU]; exact hP, va_K.moved hW.alike hK, hD.weaken (fun _ _ _ _ => trivial)⟩⟩ rfl rfl hl.1 rfl (lv_room (Nat.le_of_ble_eq_true rfl)) dX0_writeEmptyHead_21 ⟨Nat.le_of_ble_eq_true rfl, Nat.le_of_ble_eq_true rfl⟩) hS (fun q _ h => hFc q h) hFc (fun u t H1 locs ht hvm hw hB hz1 hk1 hS => ?_)
    obtain ⟨hP1, hK1, hD1⟩ := hB
    subst hw
    rw [ht] at hP1
    have hP : va_P (dC, dI) vwCl (wX cA ad (wrS (swF (fiF nh (nI 0) 64) 0 w 4) st wl 0 0) ck (swF (fiF nh (nI 0) 64) 0 w 4) tp tl cb cy nc (wrO of wl) (wrL wl) (wrD wl wd)) H1 := hP1
    have hD : va_D A (wX cA ad (wrS (swF (fiF nh (nI 0) 64) 0 w 4) st wl 0 0) ck (swF (fiF nh (nI 0) 64) 0 w 4) tp tl cb cy nc (wrO of wl) (wrL wl) (wrD wl wd)) := ⟨hD1.1, fun k q h => hFc _ (hD1.2 k q h)⟩
    generalize H1 = H at hP hS ⊢
    have hpost : ((wrS (swF (fiF nh (nI 0) 64) 0 w 4) st wl 0 0, swF (fiF nh (nI 0) 64) 0 w 4, tp, tl, cb, cy, nc, wrO of wl, wrL wl, wrD wl wd) : XS) = (wrS (ehF nh w) st wl 0 0, ehF nh w, tp, tl, cb, cy, nc, wrO of wl, wrL wl, wrD wl wd) := rfl
    exact W.vret hx hb hr (fun t ht hW => ⟨⟨(wrS (swF (fiF nh (nI 0) 64) 0 w 4) st wl 0 0, swF (fiF nh (nI 0) 64) 0 w 4, tp, tl, cb, cy, nc, wrO of wl, wrL wl, wrD wl wd), rfl, hpost, by rw [ht]; exact hP, va_K.moved hW.alike hK, hD⟩, hS.F ht⟩) hS.2.2 dX0_writeEmptyHead_24
  rw [hH, hlo] at goal
  exact goal

set_option maxHeartbeats 4000000 in
set_option maxRecDepth 100000 in
theorem c_X0_writeFullHead (l : Launch) (dC : Nat → ClassId) (dI : Nat → Nat → Nat) (cA : ClassId) (ad : Nat → Nat) (sz : Nat) (st ck nh tp : Nat → Int32) (tl : Int32) (cb cy : Nat → Int32) (of wl : Int32) (wd : Int64) (n : Nat) (w : Int32) (hn : n ≤ 24) : Met l yX0_writeFullHead wsX0_writeFullHead ({ frames := 2, cells := 0, slots := 0, locals := 83 } : Room) (va_Pc [.ref (ad 0), .int w] (fun U => U.heap.size = sz ∧ va_P (dC, dI) vwCl (wX cA ad st ck nh tp tl cb cy (nI n) of wl wd) U.heap ∧ va_K (dC, dI) vwCl [(cA, .int)] U ∧ va_D (fun _ => True) (wX cA ad st ck nh tp tl cb cy (nI n) of wl wd))) (va_Qv (fun u : XS => u = (wrS (fhF st ck nh cb n w) st wl 0 0, fhF st ck nh cb n w, tp, tl, cb, cy, nI n, wrO of wl, wrL wl, wrD wl wd)) (aX dC dI cA ad ck (va_A (wX cA ad st ck nh tp tl cb cy (nI n) of wl wd) sz)) (va_A (wX cA ad st ck nh tp tl cb cy (nI n) of wl wd) sz)) 0 0 (va_A (wX cA ad st ck nh tp tl cb cy (nI n) of wl wd) sz) := by
  refine Met.ofW (cc := cX0_writeFullHead) (maxL := 3) (ret := none) (by decide) rfl ?_
  intro p e s m args below meth c s₁ B hml hv
  obtain ⟨rfl, hsz, hP, hK, hD0⟩ := hv
  have hx := B.exec
  have hb := B.bytes
  have hr := B.returns
  have hts := atoms_spec (ws := wsX0_writeFullHead) B.pre
  have hown : s.vm.findClass RX0 = some m.cls := findClass_of_methodNamed B.named
  have hlocks := B.notSynchronized
  have hin : ∀ w ∈ u_ws RX0 TX0 11, w ∈ wsX0_writeFullHead := by decide +kernel
  subst hsz
  have hD := hD0.self (sz := s.heap.size)
  generalize hAe : va_A (wX cA ad st ck nh tp tl cb cy (nI n) of wl wd) s.heap.size = A at hD ⊢
  have hA : ∀ q : Nat, s.heap.size ≤ q → A q := fun q h => by rw [← hAe]; exact Or.inr h
  obtain ⟨H, locs, hH, hlo, hS⟩ : ∃ (H : Heap) (locs : List Loc), H = s.heap ∧ locs = [] ∧ va_S A s.heap H locs := ⟨s.heap, [], rfl, rfl, va_S.rf⟩
  rw [← hH] at hP
  have hP : va_P (dC, dI) vwCl (wX cA ad st ck nh tp tl cb cy (nI n) of wl wd) H := hP
  have hl := lv_entry ([.ref (ad 0), .int w]) (n := 3) (Nat.le_of_ble_eq_true rfl)
  rw [lg_entry_eq]
  generalize (lg_sl ([.ref (ad 0), .int w]) ++ List.replicate (3 - (lg_sl ([.ref (ad 0), .int w])).length) Slot.unset).toArray = ls at hl ⊢
  have goal : W p l e (headSpec wsX0_writeFullHead ({ frames := 2, cells := 0, slots := 0, locals := 83 } : Room)).room s m ([.ref (ad 0), .int w] : List Value).toArray below meth c H locs 0 0 (MQ below (va_Qv (fun u : XS => u = (wrS (fhF st ck nh cb n w) st wl 0 0, fhF st ck nh cb n w, tp, tl, cb, cy, nI n, wrO of wl, wrL wl, wrD wl wd)) (aX dC dI cA ad ck A) A) ([.ref (ad 0), .int w] : List Value).toArray s 0 0 A) (F0 m 0 ls []) := by
    clear hH hlo
    have hl : lv_has ls 3 [(0, .ref (ad 0)), (1, .int w)] := hl
    refine lv_aload_n hx hb dX0_writeFullHead_0 rfl (lv_at hl 0 rfl) ?_
    refine va_get (D := (dC, dI)) (ci := 0) (v := .ref (ad 3)) (C := RX0) (T := TX0) (N := 11) hx hb hts hin hown hK hP 0 rfl rfl 2 (by decide) (hts (.fieldLink RX0 16 "BlockJournal" "newHead" "[I") (by decide +kernel)) (fun _ h9 => h9) rfl dX0_writeFullHead_1 ?_
    refine lv_iconst (v := nI 0) hx hb dX0_writeFullHead_4 (by decide) ?_
    have hPc := hP.sub (ws' := [(ad 3, .inl (cA, 64, .inl nh))]) [3] rfl
    have hDc := hD.sub (ws' := [(ad 3, .inl (cA, 64, .inl nh))]) [3] (by decide) rfl
    have hFc := va_free (wc := [(ad 3, .inl (cA, 64, .inl nh))]) hD hS hA [3] rfl
    refine va_callv (va_runS (As := [.ref (ad 3), .int (nI 0)]) (rest := []) ⟨hx, hb, hml, hown, hts⟩ (c_fill l dC dI cA ad H.size (ad 3) 64 nh (nI 0) (by decide)) (va_cwS 2 hts gX0_writeFullHead_J7_fill_53178 rfl rfl rfl (by decide +kernel) ⟨Nat.le_of_ble_eq_true rfl, Nat.le_of_ble_eq_true rfl⟩) ⟨fun a U g mk q => by obtain ⟨q0, q1, qP, qK, qD⟩ := q; exact ⟨q0, q1, qP, va_K.moved (u := U) (U := U.calling g mk a) (Vm.Alike.refl U.vm) qK, qD⟩, fun U hU hW => ⟨rfl, by rw [hU], by rw [hU]; exact hPc, va_K.moved hW.alike hK, hDc.weaken (fun _ _ _ _ => trivial)⟩⟩ rfl rfl hl.1 rfl (lv_room (Nat.le_of_ble_eq_true rfl)) dX0_writeFullHead_5 ⟨Nat.le_of_ble_eq_true rfl, Nat.le_of_ble_eq_true rfl⟩) hS (fun q _ h => hFc q h) hFc (fun u t H1 locs ht hvm hw hB hz1 hk1 hS => ?_)
    obtain ⟨hP1, hK1, hD1⟩ := hB
    subst hw
    rw [ht] at hP1
    obtain ⟨hP, hD⟩ := va_join (wr := [(ad 0, .inr (0, [.ref (ad 1), .ref (ad 2), .ref (ad 3), .ref (ad 4), .int tl, .ref (ad 5), .ref (ad 6), .int (nI n), .int of, .int wl, .long wd])), (ad 1, .inl (cA, 6144, .inl st)), (ad 2, .inl (cA, 256, .inl ck)), (ad 4, .inl (cA, 64, .inl tp)), (ad 5, .inl (cA, 24, .inl cb)), (ad 6, .inl (cA, 1536, .inl cy))]) (w1 := [(ad 3, .inl (cA, 64, .inl (fiF nh (nI 0) 64)))]) hP hD [3] [0, 1, 2, 4, 5, 6] rfl rfl (by decide) (by decide) hk1 hFc hP1 hD1
    have hP : va_P (dC, dI) vwCl (wX cA ad st ck (fiF nh (nI 0) 64) tp tl cb cy (nI n) of wl wd) H1 := hP.sub (ws' := wX cA ad st ck (fiF nh (nI 0) 64) tp tl cb cy (nI n) of wl wd) [0, 1, 2, 6, 3, 4, 5] rfl
    have hD : va_D A (wX cA ad st ck (fiF nh (nI 0) 64) tp tl cb cy (nI n) of wl wd) := hD.sub (ws' := wX cA ad st ck (fiF nh (nI 0) 64) tp tl cb cy (nI n) of wl wd) [0, 1, 2, 6, 3, 4, 5] (by decide) rfl
    generalize H1 = H at hP hS ⊢
    refine lv_aload_n hx hb dX0_writeFullHead_8 rfl (lv_at hl 0 rfl) ?_
    refine lv_iconst (v := nI 0) hx hb dX0_writeFullHead_9 (by decide) ?_
    refine lv_iload_n hx hb dX0_writeFullHead_10 rfl (lv_at hl 1 rfl) ?_
    have hFc := va_free (wc := wX cA ad st ck (fiF nh (nI 0) 64) tp tl cb cy (nI n) of wl wd) hD hS hA [0, 1, 2, 3, 4, 5, 6] rfl
    refine va_callv (va_runV (As := [.int (nI 0), .int w]) (rest := []) ⟨hx, hb, hml, hown, hts⟩ (c_X0_setWord l dC dI cA ad H.size st ck (fiF nh (nI 0) 64) tp tl cb cy (nI n) of wl wd 0 w (by decide)) (cwV 2 hts gX0_writeFullHead_X0_setWord rfl rfl rfl (by decide +kernel) ⟨Nat.le_of_ble_eq_true rfl, Nat.le_of_ble_eq_true rfl⟩) ⟨fun a U g mk q => by obtain ⟨q0, q1, qP, qK, qD⟩ := q; exact ⟨q0, q1, qP, va_K.moved (u := U) (U := U.calling g mk a) (Vm.Alike.refl U.vm) qK, qD⟩, va_recv hK hP (ci := 0) (q0 := 0) rfl rfl, fun U hU hW => ⟨rfl, by rw [hU], by rw [hU]; exact hP, va_K.moved hW.alike hK, hD.weaken (fun _ _ _ _ => trivial)⟩⟩ rfl rfl hl.1 rfl (lv_room (Nat.le_of_ble_eq_true rfl)) dX0_writeFullHead_11 ⟨Nat.le_of_ble_eq_true rfl, Nat.le_of_ble_eq_true rfl⟩) hS (fun q _ h => hFc q h) hFc (fun u t H1 locs ht hvm hw hB hz1 hk1 hS => ?_)
    obtain ⟨hP1, hK1, hD1⟩ := hB
    subst hw
    rw [ht] at hP1
    have hP : va_P (dC, dI) vwCl (wX cA ad st ck (swF (fiF nh (nI 0) 64) 0 w 4) tp tl cb cy (nI n) of wl wd) H1 := hP1
    have hD : va_D A (wX cA ad st ck (swF (fiF nh (nI 0) 64) 0 w 4) tp tl cb cy (nI n) of wl wd) := ⟨hD1.1, fun k q h => hFc _ (hD1.2 k q h)⟩
    generalize H1 = H at hP hS ⊢
    refine lv_aload_n hx hb dX0_writeFullHead_14 rfl (lv_at hl 0 rfl) ?_
    refine va_get (D := (dC, dI)) (ci := 0) (v := .ref (ad 3)) (C := RX0) (T := TX0) (N := 11) hx hb hts hin hown hK hP 0 rfl rfl 2 (by decide) (hts (.fieldLink RX0 16 "BlockJournal" "newHead" "[I") (by decide +kernel)) (fun _ h9 => h9) rfl dX0_writeFullHead_15 ?_
    refine lv_iconst (v := nI 4) hx hb dX0_writeFullHead_18 (by decide) ?_
    refine lv_aload_n hx hb dX0_writeFullHead_19 rfl (lv_at hl 0 rfl) ?_
    refine va_get (D := (dC, dI)) (ci := 0) (v := .int (nI n)) (C := RX0) (T := TX0) (N := 11) hx hb hts hin hown hK hP 0 rfl rfl 7 (by decide) (hts (.fieldLink RX0 64 "BlockJournal" "changes" "I") (by decide +kernel)) (fun _ h9 => h9) rfl dX0_writeFullHead_20 ?_
    refine va_iast (D := (dC, dI)) hx hb hK hP hD hS 3 0 (cA := cA) (n := 64) (f := (swF (fiF nh (nI 0) 64) 0 w 4)) rfl rfl (i := (nI 4)) (vp_in_nI (by omega) (by omega)) dX0_writeFullHead_23 (fun H locs hP hD hS => ?_)
    rw [nI_clamp (n := 4) (by omega)] at hP hD
    have hP : va_P (dC, dI) vwCl (wX cA ad st ck (upd (swF (fiF nh (nI 0) 64) 0 w 4) 4 (nI n)) tp tl cb cy (nI n) of wl wd) H := hP
    have hD : va_D A (wX cA ad st ck (upd (swF (fiF nh (nI 0) 64) 0 w 4) 4 (nI n)) tp tl cb cy (nI n) of wl wd) := hD
    refine lv_iconst (v := nI 0) hx hb dX0_writeFullHead_24 (by decide) ?_
    refine lv_istore_n (lv' := [(2, .int (nI 0)), (0, .ref (ad 0)), (1, .int w)]) hx hb dX0_writeFullHead_25 rfl hl (by decide) rfl (fun ls hl => ?_)
    have loop_26 : ∀ (k : Nat) (i : Nat), i + k = n → ∀ (H : Heap) (locs : List Loc) (ls : Array Slot), va_P (dC, dI) vwCl (wX cA ad st ck (tgF (upd (swF (fiF nh (nI 0) 64) 0 w 4) 4 (nI n)) cb i) tp tl cb cy (nI n) of wl wd) H → va_D A (wX cA ad st ck (tgF (upd (swF (fiF nh (nI 0) 64) 0 w 4) 4 (nI n)) cb i) tp tl cb cy (nI n) of wl wd) → va_S A s.heap H locs → lv_has ls 3 [(0, .ref (ad 0)), (1, .int w), (2, .int (nI i))] → W p l e (headSpec wsX0_writeFullHead ({ frames := 2, cells := 0, slots := 0, locals := 83 } : Room)).room s m ([.ref (ad 0), .int w] : List Value).toArray below meth c H locs 0 0 (MQ below (va_Qv (fun u : XS => u = (wrS (fhF st ck nh cb n w) st wl 0 0, fhF st ck nh cb n w, tp, tl, cb, cy, nI n, wrO of wl, wrL wl, wrD wl wd)) (aX dC dI cA ad ck A) A) ([.ref (ad 0), .int w] : List Value).toArray s 0 0 A) (F0 m 26 ls []) := by
      intro k
      induction k with
      | zero =>
        intro i hk H locs ls hP hD hS hl
        refine lv_iload_n hx hb dX0_writeFullHead_26 rfl (lv_at hl 2 rfl) ?_
        refine lv_aload_n hx hb dX0_writeFullHead_27 rfl (lv_at hl 0 rfl) ?_
        refine va_get (D := (dC, dI)) (ci := 0) (v := .int (nI n)) (C := RX0) (T := TX0) (N := 11) hx hb hts hin hown hK hP 0 rfl rfl 7 (by decide) (hts (.fieldLink RX0 64 "BlockJournal" "changes" "I") (by decide +kernel)) (fun _ h9 => h9) rfl dX0_writeFullHead_28 ?_
        refine lv_icmp_ge (tgt := 81) hx hb dX0_writeFullHead_31 (by decide) (fun c_31 => ?_) (fun c_31 => ?_)
        · have n_31 : n ≤ i := (nI_leI (by omega) (by omega)).mp c_31
          rw [show i = n by omega] at hP hD
          refine lv_aload_n hx hb dX0_writeFullHead_81 rfl (lv_at hl 0 rfl) ?_
          refine lv_bipush (v := nI 59) hx hb dX0_writeFullHead_82 (by decide) ?_
          refine lv_aload_n hx hb dX0_writeFullHead_84 rfl (lv_at hl 0 rfl) ?_
          refine lv_aload_n hx hb dX0_writeFullHead_85 rfl (lv_at hl 0 rfl) ?_
          refine va_get (D := (dC, dI)) (ci := 0) (v := .int (nI n)) (C := RX0) (T := TX0) (N := 11) hx hb hts hin hown hK hP 0 rfl rfl 7 (by decide) (hts (.fieldLink RX0 64 "BlockJournal" "changes" "I") (by decide +kernel)) (fun _ h9 => h9) rfl dX0_writeFullHead_86 ?_
          refine bj_call (v := .int (pcF st ck (n * 64) 64 (-1) ^^^ (-1))) (W.runV (As := [.int (nI n)]) (rest := [.int (nI 59), .ref (ad 0)]) ⟨hx, hb, hml, hown, hts⟩ (c_X0_payloadCheck l dC dI cA ad st ck (tgF (upd (swF (fiF nh (nI 0) 64) 0 w 4) 4 (nI n)) cb n) tp tl cb cy (nI n) of wl wd n (by omega)) (cwV 1 hts gX0_writeFullHead_X0_payloadCheck rfl rfl rfl (by decide +kernel) ⟨Nat.le_of_ble_eq_true rfl, Nat.le_of_ble_eq_true rfl⟩) ⟨fun a U g mk q => by obtain ⟨q0, qP, qK⟩ := q; exact ⟨q0, qP, va_K.moved (u := U) (U := U.calling g mk a) (Vm.Alike.refl U.vm) qK⟩, va_recv hK hP (ci := 0) (q0 := 0) rfl rfl, fun U hU hW => ⟨rfl, by rw [hU]; exact hP, va_K.moved hW.alike hK⟩⟩ rfl rfl hl.1 rfl (lv_room (Nat.le_of_ble_eq_true rfl)) dX0_writeFullHead_89 ⟨Nat.le_of_ble_eq_true rfl, Nat.le_of_ble_eq_true rfl⟩) ?_
          have hFc := va_free (wc := wX cA ad st ck (tgF (upd (swF (fiF nh (nI 0) 64) 0 w 4) 4 (nI n)) cb n) tp tl cb cy (nI n) of wl wd) hD hS hA [0, 1, 2, 3, 4, 5, 6] rfl
          refine va_callv (va_runV (As := [.int (nI 59), .int (pcF st ck (n * 64) 64 (-1) ^^^ (-1))]) (rest := []) ⟨hx, hb, hml, hown, hts⟩ (c_X0_setWord l dC dI cA ad H.size st ck (tgF (upd (swF (fiF nh (nI 0) 64) 0 w 4) 4 (nI n)) cb n) tp tl cb cy (nI n) of wl wd 59 (pcF st ck (n * 64) 64 (-1) ^^^ (-1)) (by decide)) (cwV 2 hts gX0_writeFullHead_X0_setWord rfl rfl rfl (by decide +kernel) ⟨Nat.le_of_ble_eq_true rfl, Nat.le_of_ble_eq_true rfl⟩) ⟨fun a U g mk q => by obtain ⟨q0, q1, qP, qK, qD⟩ := q; exact ⟨q0, q1, qP, va_K.moved (u := U) (U := U.calling g mk a) (Vm.Alike.refl U.vm) qK, qD⟩, va_recv hK hP (ci := 0) (q0 := 0) rfl rfl, fun U hU hW => ⟨rfl, by rw [hU], by rw [hU]; exact hP, va_K.moved hW.alike hK, hD.weaken (fun _ _ _ _ => trivial)⟩⟩ rfl rfl hl.1 rfl (lv_room (Nat.le_of_ble_eq_true rfl)) dX0_writeFullHead_92 ⟨Nat.le_of_ble_eq_true rfl, Nat.le_of_ble_eq_true rfl⟩) hS (fun q _ h => hFc q h) hFc (fun u t H1 locs ht hvm hw hB hz1 hk1 hS => ?_)
          obtain ⟨hP1, hK1, hD1⟩ := hB
          subst hw
          rw [ht] at hP1
          have hP : va_P (dC, dI) vwCl (wX cA ad st ck (swF (tgF (upd (swF (fiF nh (nI 0) 64) 0 w 4) 4 (nI n)) cb n) 59 (pcF st ck (n * 64) 64 (-1) ^^^ (-1)) 4) tp tl cb cy (nI n) of wl wd) H1 := hP1
          have hD : va_D A (wX cA ad st ck (swF (tgF (upd (swF (fiF nh (nI 0) 64) 0 w 4) 4 (nI n)) cb n) 59 (pcF st ck (n * 64) 64 (-1) ^^^ (-1)) 4) tp tl cb cy (nI n) of wl wd) := ⟨hD1.1, fun k q h => hFc _ (hD1.2 k q h)⟩
          generalize H1 = H at hP hS ⊢
          refine lv_aload_n hx hb dX0_writeFullHead_95 rfl (lv_at hl 0 rfl) ?_
          refine lv_iconst (v := nI 0) hx hb dX0_writeFullHead_96 (by decide) ?_
          refine lv_aload_n hx hb dX0_writeFullHead_97 rfl (lv_at hl 0 rfl) ?_
          refine va_get (D := (dC, dI)) (ci := 0) (v := .ref (ad 3)) (C := RX0) (T := TX0) (N := 11) hx hb hts hin hown hK hP 0 rfl rfl 2 (by decide) (hts (.fieldLink RX0 16 "BlockJournal" "newHead" "[I") (by decide +kernel)) (fun _ h9 => h9) rfl dX0_writeFullHead_98 ?_
          refine lv_iconst (v := nI 0) hx hb dX0_writeFullHead_101 (by decide) ?_
          have hFc := va_free (wc := wX cA ad st ck (swF (tgF (upd (swF (fiF nh (nI 0) 64) 0 w 4) 4 (nI n)) cb n) 59 (pcF st ck (n * 64) 64 (-1) ^^^ (-1)) 4) tp tl cb cy (nI n) of wl wd) hD hS hA [0, 1, 2, 3, 4, 5, 6] rfl
          refine va_callv (va_runV (As := [.int (nI 0), .ref (ad 3), .int (nI 0)]) (rest := []) ⟨hx, hb, hml, hown, hts⟩ (c_X0_write_3 l dC dI cA ad H.size st ck (swF (tgF (upd (swF (fiF nh (nI 0) 64) 0 w 4) 4 (nI n)) cb n) 59 (pcF st ck (n * 64) 64 (-1) ^^^ (-1)) 4) tp tl cb cy (nI n) of wl wd 0 0 (by omega) (by omega)) (cwV 3 hts gX0_writeFullHead_X0_write rfl rfl rfl (by decide +kernel) ⟨Nat.le_of_ble_eq_true rfl, Nat.le_of_ble_eq_true rfl⟩) ⟨fun a U g mk q => by obtain ⟨q0, q1, qP, qK, qD⟩ := q; exact ⟨q0, q1, qP, va_K.moved (u := U) (U := U.calling g mk a) (Vm.Alike.refl U.vm) qK, qD⟩, va_recv hK hP (ci := 0) (q0 := 0) rfl rfl, fun U hU hW => ⟨rfl, by rw [hU], by rw [hU]; exact hP, va_K.moved hW.alike hK, hD.weaken (fun _ _ _ _ => trivial)⟩⟩ rfl rfl hl.1 rfl (lv_room (Nat.le_of_ble_eq_true rfl)) dX0_writeFullHead_102 ⟨Nat.le_of_ble_eq_true rfl, Nat.le_of_ble_eq_true rfl⟩) hS (fun q _ h => hFc q h) hFc (fun u t H1 locs ht hvm hw hB hz1 hk1 hS => ?_)
          obtain ⟨hP1, hK1, hD1⟩ := hB
          subst hw
          rw [ht] at hP1
          have hP : va_P (dC, dI) vwCl (wX cA ad (wrS (swF (tgF (upd (swF (fiF nh (nI 0) 64) 0 w 4) 4 (nI n)) cb n) 59 (pcF st ck (n * 64) 64 (-1) ^^^ (-1)) 4) st wl 0 0) ck (swF (tgF (upd (swF (fiF nh (nI 0) 64) 0 w 4) 4 (nI n)) cb n) 59 (pcF st ck (n * 64) 64 (-1) ^^^ (-1)) 4) tp tl cb cy (nI n) (wrO of wl) (wrL wl) (wrD wl wd)) H1 := hP1
          have hD : va_D A (wX cA ad (wrS (swF (tgF (upd (swF (fiF nh (nI 0) 64) 0 w 4) 4 (nI n)) cb n) 59 (pcF st ck (n * 64) 64 (-1) ^^^ (-1)) 4) st wl 0 0) ck (swF (tgF (upd (swF (fiF nh (nI 0) 64) 0 w 4) 4 (nI n)) cb n) 59 (pcF st ck (n * 64) 64 (-1) ^^^ (-1)) 4) tp tl cb cy (nI n) (wrO of wl) (wrL wl) (wrD wl wd)) := ⟨hD1.1, fun k q h => hFc _ (hD1.2 k q h)⟩
          generalize H1 = H at hP hS ⊢
          have hpost : ((wrS (swF (tgF (upd (swF (fiF nh (nI 0) 64) 0 w 4) 4 (nI n)) cb n) 59 (pcF st ck (n * 64) 64 (-1) ^^^ (-1)) 4) st wl 0 0, swF (tgF (upd (swF (fiF nh (nI 0) 64) 0 w 4) 4 (nI n)) cb n) 59 (pcF st ck (n * 64) 64 (-1) ^^^ (-1)) 4, tp, tl, cb, cy, nI n, wrO of wl, wrL wl, wrD wl wd) : XS) = (wrS (fhF st ck nh cb n w) st wl 0 0, fhF st ck nh cb n w, tp, tl, cb, cy, nI n, wrO of wl, wrL wl, wrD wl wd) := rfl
          exact W.vret hx hb hr (fun t ht hW => ⟨⟨(wrS (swF (tgF (upd (swF (fiF nh (nI 0) 64) 0 w 4) 4 (nI n)) cb n) 59 (pcF st ck (n * 64) 64 (-1) ^^^ (-1)) 4) st wl 0 0, swF (tgF (upd (swF (fiF nh (nI 0) 64) 0 w 4) 4 (nI n)) cb n) 59 (pcF st ck (n * 64) 64 (-1) ^^^ (-1)) 4, tp, tl, cb, cy, nI n, wrO of wl, wrL wl, wrD wl wd), rfl, hpost, by rw [ht]; exact hP, va_K.moved hW.alike hK, hD⟩, hS.F ht⟩) hS.2.2 dX0_writeFullHead_105
        · have n_31 : ¬ n ≤ i := fun h => c_31 ((nI_leI (by omega) (by omega)).mpr h)
          exfalso; omega
      | succ k ih =>
        intro i hk H locs ls hP hD hS hl
        refine lv_iload_n hx hb dX0_writeFullHead_26 rfl (lv_at hl 2 rfl) ?_
        refine lv_aload_n hx hb dX0_writeFullHead_27 rfl (lv_at hl 0 rfl) ?_
        refine va_get (D := (dC, dI)) (ci := 0) (v := .int (nI n)) (C := RX0) (T := TX0) (N := 11) hx hb hts hin hown hK hP 0 rfl rfl 7 (by decide) (hts (.fieldLink RX0 64 "BlockJournal" "changes" "I") (by decide +kernel)) (fun _ h9 => h9) rfl dX0_writeFullHead_28 ?_
        refine lv_icmp_ge (tgt := 81) hx hb dX0_writeFullHead_31 (by decide) (fun c_31 => ?_) (fun c_31 => ?_)
        · have n_31 : n ≤ i := (nI_leI (by omega) (by omega)).mp c_31
          exfalso; omega
        · have n_31 : ¬ n ≤ i := fun h => c_31 ((nI_leI (by omega) (by omega)).mpr h)
          refine lv_aload_n hx hb dX0_writeFullHead_34 rfl (lv_at hl 0 rfl) ?_
          refine va_get (D := (dC, dI)) (ci := 0) (v := .ref (ad 3)) (C := RX0) (T := TX0) (N := 11) hx hb hts hin hown hK hP 0 rfl rfl 2 (by decide) (hts (.fieldLink RX0 16 "BlockJournal" "newHead" "[I") (by decide +kernel)) (fun _ h9 => h9) rfl dX0_writeFullHead_35 ?_
          refine lv_iconst (v := nI 5) hx hb dX0_writeFullHead_38 (by decide) ?_
          refine lv_iconst (v := nI 2) hx hb dX0_writeFullHead_39 (by decide) ?_
          refine lv_iload_n hx hb dX0_writeFullHead_40 rfl (lv_at hl 2 rfl) ?_
          refine lv_imul hx hb dX0_writeFullHead_41 ?_
          refine bj_i (pk_mul 2 i) ?_
          refine lv_iadd hx hb dX0_writeFullHead_42 ?_
          refine bj_i (nI_add 5 (2 * i)) ?_
          refine lv_aload_n hx hb dX0_writeFullHead_43 rfl (lv_at hl 0 rfl) ?_
          refine va_get (D := (dC, dI)) (ci := 0) (v := .ref (ad 5)) (C := RX0) (T := TX0) (N := 11) hx hb hts hin hown hK hP 0 rfl rfl 5 (by decide) (hts (.fieldLink RX0 22 "BlockJournal" "changeBlocks" "[I") (by decide +kernel)) (fun _ h9 => h9) rfl dX0_writeFullHead_44 ?_
          refine lv_iload_n hx hb dX0_writeFullHead_47 rfl (lv_at hl 2 rfl) ?_
          refine va_iald (D := (dC, dI)) hx hb hK hP 5 0 (cA := cA) (n := 24) (f := cb) rfl rfl (i := (nI i)) (vp_in_nI (by omega) (by omega)) dX0_writeFullHead_48 ?_
          refine bj_i (y := cb i) (congrArg cb (nI_clamp (by omega))) ?_
          refine lv_sipush (v := nI 255) hx hb dX0_writeFullHead_49 (by decide) ?_
          refine lv_iand hx hb dX0_writeFullHead_52 ?_
          refine va_iast (D := (dC, dI)) hx hb hK hP hD hS 3 0 (cA := cA) (n := 64) (f := (tgF (upd (swF (fiF nh (nI 0) 64) 0 w 4) 4 (nI n)) cb i)) rfl rfl (i := (nI (5 + (2 * i)))) (vp_in_nI (by omega) (by omega)) dX0_writeFullHead_53 (fun H locs hP hD hS => ?_)
          rw [nI_clamp (n := 5 + (2 * i)) (by omega)] at hP hD
          have hP : va_P (dC, dI) vwCl (wX cA ad st ck (upd (tgF (upd (swF (fiF nh (nI 0) 64) 0 w 4) 4 (nI n)) cb i) (5 + (2 * i)) ((cb i) &&& (nI 255))) tp tl cb cy (nI n) of wl wd) H := hP
          have hD : va_D A (wX cA ad st ck (upd (tgF (upd (swF (fiF nh (nI 0) 64) 0 w 4) 4 (nI n)) cb i) (5 + (2 * i)) ((cb i) &&& (nI 255))) tp tl cb cy (nI n) of wl wd) := hD
          refine lv_aload_n hx hb dX0_writeFullHead_54 rfl (lv_at hl 0 rfl) ?_
          refine va_get (D := (dC, dI)) (ci := 0) (v := .ref (ad 3)) (C := RX0) (T := TX0) (N := 11) hx hb hts hin hown hK hP 0 rfl rfl 2 (by decide) (hts (.fieldLink RX0 16 "BlockJournal" "newHead" "[I") (by decide +kernel)) (fun _ h9 => h9) rfl dX0_writeFullHead_55 ?_
          refine lv_iconst (v := nI 5) hx hb dX0_writeFullHead_58 (by decide) ?_
          refine lv_iconst (v := nI 2) hx hb dX0_writeFullHead_59 (by decide) ?_
          refine lv_iload_n hx hb dX0_writeFullHead_60 rfl (lv_at hl 2 rfl) ?_
          refine lv_imul hx hb dX0_writeFullHead_61 ?_
          refine bj_i (pk_mul 2 i) ?_
          refine lv_iadd hx hb dX0_writeFullHead_62 ?_
          refine bj_i (nI_add 5 (2 * i)) ?_
          refine lv_iconst (v := nI 1) hx hb dX0_writeFullHead_63 (by decide) ?_
          refine lv_iadd hx hb dX0_writeFullHead_64 ?_
          refine bj_i (nI_add (5 + (2 * i)) 1) ?_
          refine lv_aload_n hx hb dX0_writeFullHead_65 rfl (lv_at hl 0 rfl) ?_
          refine va_get (D := (dC, dI)) (ci := 0) (v := .ref (ad 5)) (C := RX0) (T := TX0) (N := 11) hx hb hts hin hown hK hP 0 rfl rfl 5 (by decide) (hts (.fieldLink RX0 22 "BlockJournal" "changeBlocks" "[I") (by decide +kernel)) (fun _ h9 => h9) rfl dX0_writeFullHead_66 ?_
          refine lv_iload_n hx hb dX0_writeFullHead_69 rfl (lv_at hl 2 rfl) ?_
          refine va_iald (D := (dC, dI)) hx hb hK hP 5 0 (cA := cA) (n := 24) (f := cb) rfl rfl (i := (nI i)) (vp_in_nI (by omega) (by omega)) dX0_writeFullHead_70 ?_
          refine bj_i (y := cb i) (congrArg cb (nI_clamp (by omega))) ?_
          refine lv_bipush (v := nI 8) hx hb dX0_writeFullHead_71 (by decide) ?_
          refine lv_iushr hx hb dX0_writeFullHead_73 rfl ?_
          refine va_iast (D := (dC, dI)) hx hb hK hP hD hS 3 0 (cA := cA) (n := 64) (f := (upd (tgF (upd (swF (fiF nh (nI 0) 64) 0 w 4) 4 (nI n)) cb i) (5 + (2 * i)) ((cb i) &&& (nI 255)))) rfl rfl (i := (nI ((5 + (2 * i)) + 1))) (vp_in_nI (by omega) (by omega)) dX0_writeFullHead_74 (fun H locs hP hD hS => ?_)
          rw [nI_clamp (n := (5 + (2 * i)) + 1) (by omega)] at hP hD
          have hP : va_P (dC, dI) vwCl (wX cA ad st ck (upd (upd (tgF (upd (swF (fiF nh (nI 0) 64) 0 w 4) 4 (nI n)) cb i) (5 + (2 * i)) ((cb i) &&& (nI 255))) ((5 + (2 * i)) + 1) (((cb i).toUInt32 >>> ((nI 8).toUInt32 &&& Int32.toUInt32 31)).toInt32)) tp tl cb cy (nI n) of wl wd) H := hP
          have hD : va_D A (wX cA ad st ck (upd (upd (tgF (upd (swF (fiF nh (nI 0) 64) 0 w 4) 4 (nI n)) cb i) (5 + (2 * i)) ((cb i) &&& (nI 255))) ((5 + (2 * i)) + 1) (((cb i).toUInt32 >>> ((nI 8).toUInt32 &&& Int32.toUInt32 31)).toInt32)) tp tl cb cy (nI n) of wl wd) := hD
          refine lv_iinc (v := nI (i + 1)) (lv' := [(2, .int (nI (i + 1))), (0, .ref (ad 0)), (1, .int w)]) hx hb dX0_writeFullHead_75 hl (k := 2) rfl (nI_add i 1) (by decide) rfl (fun ls hl => ?_)
          refine lv_goto (tgt := 26) hx hb dX0_writeFullHead_78 (by decide) ?_
          exact ih (i + 1) (by omega) _ _ _ hP hD hS (lv_sub hl [1, 2, 0] rfl)
    exact loop_26 n 0 (by omega) _ _ _ hP hD hS (lv_sub hl [1, 2, 0] rfl)
  rw [hH, hlo] at goal
  exact goal

set_option maxHeartbeats 4000000 in
set_option maxRecDepth 100000 in
theorem c_X0_openPlace (l : Launch) (dC : Nat → ClassId) (dI : Nat → Nat → Nat) (cA : ClassId) (ad : Nat → Nat) (sz : Nat) (st ck nh tp : Nat → Int32) (tl : Int32) (cb cy : Nat → Int32) (of wl : Int32) (wd : Int64) (n : Nat) (q : Nat) (b : Int32) (hn : n < 24) (hq : q ≤ n) : Met l yX0_openPlace wsX0_openPlace ({ frames := 1, cells := 0, slots := 0, locals := 60 } : Room) (va_Pc [.ref (ad 0), .int (nI q), .int b] (fun U => U.heap.size = sz ∧ va_P (dC, dI) vwCl (wX cA ad st ck nh tp tl cb cy (nI n) of wl wd) U.heap ∧ va_K (dC, dI) vwCl [(cA, .int)] U ∧ va_D (fun _ => True) (wX cA ad st ck nh tp tl cb cy (nI n) of wl wd))) (va_Qv (fun u : XS => u = (st, nh, tp, tl, upd (va_cpy cb cb q (q + 1) (n - q)) q b, va_cpy cy cy (q * 64) ((q + 1) * 64) ((n - q) * 64), nI (n + 1), of, wl, wd)) (aX dC dI cA ad ck (va_A (wX cA ad st ck nh tp tl cb cy (nI n) of wl wd) sz)) (va_A (wX cA ad st ck nh tp tl cb cy (nI n) of wl wd) sz)) 0 0 (va_A (wX cA ad st ck nh tp tl cb cy (nI n) of wl wd) sz) := by
  refine Met.ofW (cc := cX0_openPlace) (maxL := 4) (ret := none) (by decide) rfl ?_
  intro p e s m args below meth c s₁ B hml hv
  obtain ⟨rfl, hsz, hP, hK, hD0⟩ := hv
  have hx := B.exec
  have hb := B.bytes
  have hr := B.returns
  have hts := atoms_spec (ws := wsX0_openPlace) B.pre
  have hown : s.vm.findClass RX0 = some m.cls := findClass_of_methodNamed B.named
  have hlocks := B.notSynchronized
  have hin : ∀ w ∈ u_ws RX0 TX0 11, w ∈ wsX0_openPlace := by decide +kernel
  subst hsz
  have hD := hD0.self (sz := s.heap.size)
  generalize hAe : va_A (wX cA ad st ck nh tp tl cb cy (nI n) of wl wd) s.heap.size = A at hD ⊢
  have hA : ∀ q : Nat, s.heap.size ≤ q → A q := fun q h => by rw [← hAe]; exact Or.inr h
  obtain ⟨H, locs, hH, hlo, hS⟩ : ∃ (H : Heap) (locs : List Loc), H = s.heap ∧ locs = [] ∧ va_S A s.heap H locs := ⟨s.heap, [], rfl, rfl, va_S.rf⟩
  rw [← hH] at hP
  have hP : va_P (dC, dI) vwCl (wX cA ad st ck nh tp tl cb cy (nI n) of wl wd) H := hP
  have hl := lv_entry ([.ref (ad 0), .int (nI q), .int b]) (n := 4) (Nat.le_of_ble_eq_true rfl)
  rw [lg_entry_eq]
  generalize (lg_sl ([.ref (ad 0), .int (nI q), .int b]) ++ List.replicate (4 - (lg_sl ([.ref (ad 0), .int (nI q), .int b])).length) Slot.unset).toArray = ls at hl ⊢
  have goal : W p l e (headSpec wsX0_openPlace ({ frames := 1, cells := 0, slots := 0, locals := 60 } : Room)).room s m ([.ref (ad 0), .int (nI q), .int b] : List Value).toArray below meth c H locs 0 0 (MQ below (va_Qv (fun u : XS => u = (st, nh, tp, tl, upd (va_cpy cb cb q (q + 1) (n - q)) q b, va_cpy cy cy (q * 64) ((q + 1) * 64) ((n - q) * 64), nI (n + 1), of, wl, wd)) (aX dC dI cA ad ck A) A) ([.ref (ad 0), .int (nI q), .int b] : List Value).toArray s 0 0 A) (F0 m 0 ls []) := by
    clear hH hlo
    have hl : lv_has ls 4 [(0, .ref (ad 0)), (1, .int (nI q)), (2, .int b)] := hl
    refine lv_aload_n hx hb dX0_openPlace_0 rfl (lv_at hl 0 rfl) ?_
    refine va_get (D := (dC, dI)) (ci := 0) (v := .int (nI n)) (C := RX0) (T := TX0) (N := 11) hx hb hts hin hown hK hP 0 rfl rfl 7 (by decide) (hts (.fieldLink RX0 64 "BlockJournal" "changes" "I") (by decide +kernel)) (fun _ h9 => h9) rfl dX0_openPlace_1 ?_
    refine lv_iload_n hx hb dX0_openPlace_4 rfl (lv_at hl 1 rfl) ?_
    refine lv_isub hx hb dX0_openPlace_5 ?_
    refine bj_i (pk_sub (a := n) (b := q) (by omega)) ?_
    refine lv_istore_n (lv' := [(3, .int (nI (n - q))), (0, .ref (ad 0)), (1, .int (nI q)), (2, .int b)]) hx hb dX0_openPlace_6 rfl hl (by decide) rfl (fun ls hl => ?_)
    refine lv_aload_n hx hb dX0_openPlace_7 rfl (lv_at hl 1 rfl) ?_
    refine va_get (D := (dC, dI)) (ci := 0) (v := .ref (ad 5)) (C := RX0) (T := TX0) (N := 11) hx hb hts hin hown hK hP 0 rfl rfl 5 (by decide) (hts (.fieldLink RX0 22 "BlockJournal" "changeBlocks" "[I") (by decide +kernel)) (fun _ h9 => h9) rfl dX0_openPlace_8 ?_
    refine lv_iload_n hx hb dX0_openPlace_11 rfl (lv_at hl 2 rfl) ?_
    refine lv_aload_n hx hb dX0_openPlace_12 rfl (lv_at hl 1 rfl) ?_
    refine va_get (D := (dC, dI)) (ci := 0) (v := .ref (ad 5)) (C := RX0) (T := TX0) (N := 11) hx hb hts hin hown hK hP 0 rfl rfl 5 (by decide) (hts (.fieldLink RX0 22 "BlockJournal" "changeBlocks" "[I") (by decide +kernel)) (fun _ h9 => h9) rfl dX0_openPlace_13 ?_
    refine lv_iload_n hx hb dX0_openPlace_16 rfl (lv_at hl 2 rfl) ?_
    refine lv_iconst (v := nI 1) hx hb dX0_openPlace_17 (by decide) ?_
    refine lv_iadd hx hb dX0_openPlace_18 ?_
    refine bj_i (nI_add q 1) ?_
    refine lv_iload_n hx hb dX0_openPlace_19 rfl (lv_at hl 0 rfl) ?_
    refine va_copyi (D := (dC, dI)) hx hb (hml.trans hl.1.symm) hown (hts (.methodLink RX0 73 arraycopyName) (by decide +kernel)) (hts (.native arraycopyName) (by decide +kernel)) (hts (.static arraycopyName) (by decide +kernel)) (hts (.initialized "java/lang/System") (by decide +kernel)) hK hP hD hS 5 5 0 0 (c0 := cA) (c1 := cA) (n0 := 24) (n1 := 24) (f := cb) (g := cb) (ty := .int) rfl rfl rfl rfl rfl (sp := nI q) (dp := nI (q + 1)) (n := nI (n - q)) (nI_pos (by omega)) (nI_pos (by omega)) (nI_pos (by omega)) (by rw [nI_clamp (by omega), nI_clamp (by omega)]; omega) (by rw [nI_clamp (by omega), nI_clamp (by omega)]; omega) (fun _ _ => rfl) (Nat.le_of_ble_eq_true rfl) (Nat.le_of_ble_eq_true rfl) dX0_openPlace_20 (fun H locs hP hD hS => ?_)
    rw [nI_clamp (n := q) (by omega), nI_clamp (n := q + 1) (by omega), nI_clamp (n := n - q) (by omega)] at hP hD
    have hP : va_P (dC, dI) vwCl (wX cA ad st ck nh tp tl (va_cpy cb cb q (q + 1) (n - q)) cy (nI n) of wl wd) H := hP
    have hD : va_D A (wX cA ad st ck nh tp tl (va_cpy cb cb q (q + 1) (n - q)) cy (nI n) of wl wd) := hD
    refine lv_aload_n hx hb dX0_openPlace_23 rfl (lv_at hl 1 rfl) ?_
    refine va_get (D := (dC, dI)) (ci := 0) (v := .ref (ad 6)) (C := RX0) (T := TX0) (N := 11) hx hb hts hin hown hK hP 0 rfl rfl 6 (by decide) (hts (.fieldLink RX0 25 "BlockJournal" "changeBytes" "[I") (by decide +kernel)) (fun _ h9 => h9) rfl dX0_openPlace_24 ?_
    refine lv_iload_n hx hb dX0_openPlace_27 rfl (lv_at hl 2 rfl) ?_
    refine lv_bipush (v := nI 64) hx hb dX0_openPlace_28 (by decide) ?_
    refine lv_imul hx hb dX0_openPlace_30 ?_
    refine bj_i (pk_mul q 64) ?_
    refine lv_aload_n hx hb dX0_openPlace_31 rfl (lv_at hl 1 rfl) ?_
    refine va_get (D := (dC, dI)) (ci := 0) (v := .ref (ad 6)) (C := RX0) (T := TX0) (N := 11) hx hb hts hin hown hK hP 0 rfl rfl 6 (by decide) (hts (.fieldLink RX0 25 "BlockJournal" "changeBytes" "[I") (by decide +kernel)) (fun _ h9 => h9) rfl dX0_openPlace_32 ?_
    refine lv_iload_n hx hb dX0_openPlace_35 rfl (lv_at hl 2 rfl) ?_
    refine lv_iconst (v := nI 1) hx hb dX0_openPlace_36 (by decide) ?_
    refine lv_iadd hx hb dX0_openPlace_37 ?_
    refine bj_i (nI_add q 1) ?_
    refine lv_bipush (v := nI 64) hx hb dX0_openPlace_38 (by decide) ?_
    refine lv_imul hx hb dX0_openPlace_40 ?_
    refine bj_i (pk_mul (q + 1) 64) ?_
    refine lv_iload_n hx hb dX0_openPlace_41 rfl (lv_at hl 0 rfl) ?_
    refine lv_bipush (v := nI 64) hx hb dX0_openPlace_42 (by decide) ?_
    refine lv_imul hx hb dX0_openPlace_44 ?_
    refine bj_i (pk_mul (n - q) 64) ?_
    refine va_copyi (D := (dC, dI)) hx hb (hml.trans hl.1.symm) hown (hts (.methodLink RX0 73 arraycopyName) (by decide +kernel)) (hts (.native arraycopyName) (by decide +kernel)) (hts (.static arraycopyName) (by decide +kernel)) (hts (.initialized "java/lang/System") (by decide +kernel)) hK hP hD hS 6 6 0 0 (c0 := cA) (c1 := cA) (n0 := 1536) (n1 := 1536) (f := cy) (g := cy) (ty := .int) rfl rfl rfl rfl rfl (sp := nI (q * 64)) (dp := nI ((q + 1) * 64)) (n := nI ((n - q) * 64)) (nI_pos (by omega)) (nI_pos (by omega)) (nI_pos (by omega)) (by rw [nI_clamp (by omega), nI_clamp (by omega)]; omega) (by rw [nI_clamp (by omega), nI_clamp (by omega)]; omega) (fun _ _ => rfl) (Nat.le_of_ble_eq_true rfl) (Nat.le_of_ble_eq_true rfl) dX0_openPlace_45 (fun H locs hP hD hS => ?_)
    rw [nI_clamp (n := q * 64) (by omega), nI_clamp (n := (q + 1) * 64) (by omega), nI_clamp (n := (n - q) * 64) (by omega)] at hP hD
    have hP : va_P (dC, dI) vwCl (wX cA ad st ck nh tp tl (va_cpy cb cb q (q + 1) (n - q)) (va_cpy cy cy (q * 64) ((q + 1) * 64) ((n - q) * 64)) (nI n) of wl wd) H := hP
    have hD : va_D A (wX cA ad st ck nh tp tl (va_cpy cb cb q (q + 1) (n - q)) (va_cpy cy cy (q * 64) ((q + 1) * 64) ((n - q) * 64)) (nI n) of wl wd) := hD
    refine lv_aload_n hx hb dX0_openPlace_48 rfl (lv_at hl 1 rfl) ?_
    refine va_get (D := (dC, dI)) (ci := 0) (v := .ref (ad 5)) (C := RX0) (T := TX0) (N := 11) hx hb hts hin hown hK hP 0 rfl rfl 5 (by decide) (hts (.fieldLink RX0 22 "BlockJournal" "changeBlocks" "[I") (by decide +kernel)) (fun _ h9 => h9) rfl dX0_openPlace_49 ?_
    refine lv_iload_n hx hb dX0_openPlace_52 rfl (lv_at hl 2 rfl) ?_
    refine lv_iload_n hx hb dX0_openPlace_53 rfl (lv_at hl 3 rfl) ?_
    refine va_iast (D := (dC, dI)) hx hb hK hP hD hS 5 0 (cA := cA) (n := 24) (f := (va_cpy cb cb q (q + 1) (n - q))) rfl rfl (i := (nI q)) (vp_in_nI (by omega) (by omega)) dX0_openPlace_54 (fun H locs hP hD hS => ?_)
    rw [nI_clamp (n := q) (by omega)] at hP hD
    have hP : va_P (dC, dI) vwCl (wX cA ad st ck nh tp tl (upd (va_cpy cb cb q (q + 1) (n - q)) q b) (va_cpy cy cy (q * 64) ((q + 1) * 64) ((n - q) * 64)) (nI n) of wl wd) H := hP
    have hD : va_D A (wX cA ad st ck nh tp tl (upd (va_cpy cb cb q (q + 1) (n - q)) q b) (va_cpy cy cy (q * 64) ((q + 1) * 64) ((n - q) * 64)) (nI n) of wl wd) := hD
    refine lv_aload_n hx hb dX0_openPlace_55 rfl (lv_at hl 1 rfl) ?_
    refine lv_dup hx hb dX0_openPlace_56 rfl ?_
    refine va_get (D := (dC, dI)) (ci := 0) (v := .int (nI n)) (C := RX0) (T := TX0) (N := 11) hx hb hts hin hown hK hP 0 rfl rfl 7 (by decide) (hts (.fieldLink RX0 64 "BlockJournal" "changes" "I") (by decide +kernel)) (fun _ h9 => h9) rfl dX0_openPlace_57 ?_
    refine lv_iconst (v := nI 1) hx hb dX0_openPlace_60 (by decide) ?_
    refine lv_iadd hx hb dX0_openPlace_61 ?_
    refine bj_i (nI_add n 1) ?_
    refine va_put (D := (dC, dI)) (ci := 0) (v := .int (nI (n + 1))) (ty := .int) (C := RX0) (T := TX0) (N := 11) hx hb hts hin tyX0 tyX0_ok nmX0 hown hK hP hD hS 0 rfl rfl 7 (by decide) (hts (.fieldLink RX0 64 "BlockJournal" "changes" "I") (by decide +kernel)) (fun _ h9 => h9) rfl (by decide +kernel) rfl rfl (Nat.le_of_ble_eq_true rfl) dX0_openPlace_62 (fun H locs hP hD hS => ?_)
    have hP : va_P (dC, dI) vwCl (wX cA ad st ck nh tp tl (upd (va_cpy cb cb q (q + 1) (n - q)) q b) (va_cpy cy cy (q * 64) ((q + 1) * 64) ((n - q) * 64)) (nI (n + 1)) of wl wd) H := hP
    have hD : va_D A (wX cA ad st ck nh tp tl (upd (va_cpy cb cb q (q + 1) (n - q)) q b) (va_cpy cy cy (q * 64) ((q + 1) * 64) ((n - q) * 64)) (nI (n + 1)) of wl wd) := hD
    have hpost : ((st, nh, tp, tl, upd (va_cpy cb cb q (q + 1) (n - q)) q b, va_cpy cy cy (q * 64) ((q + 1) * 64) ((n - q) * 64), nI (n + 1), of, wl, wd) : XS) = (st, nh, tp, tl, upd (va_cpy cb cb q (q + 1) (n - q)) q b, va_cpy cy cy (q * 64) ((q + 1) * 64) ((n - q) * 64), nI (n + 1), of, wl, wd) := rfl
    exact W.vret hx hb hr (fun t ht hW => ⟨⟨(st, nh, tp, tl, upd (va_cpy cb cb q (q + 1) (n - q)) q b, va_cpy cy cy (q * 64) ((q + 1) * 64) ((n - q) * 64), nI (n + 1), of, wl, wd), rfl, hpost, by rw [ht]; exact hP, va_K.moved hW.alike hK, hD⟩, hS.F ht⟩) hS.2.2 dX0_openPlace_65
  rw [hH, hlo] at goal
  exact goal

set_option maxHeartbeats 4000000 in
set_option maxRecDepth 100000 in
theorem c_X0_drop (l : Launch) (dC : Nat → ClassId) (dI : Nat → Nat → Nat) (cA : ClassId) (ad : Nat → Nat) (sz : Nat) (st ck nh tp : Nat → Int32) (tl : Int32) (cb cy : Nat → Int32) (of wl : Int32) (wd : Int64) (n : Nat)  : Met l yX0_drop wsX0_drop ({ frames := 0, cells := 0, slots := 0, locals := 0 } : Room) (va_Pc [.ref (ad 0)] (fun U => U.heap.size = sz ∧ va_P (dC, dI) vwCl (wX cA ad st ck nh tp tl cb cy (nI n) of wl wd) U.heap ∧ va_K (dC, dI) vwCl [(cA, .int)] U ∧ va_D (fun _ => True) (wX cA ad st ck nh tp tl cb cy (nI n) of wl wd))) (va_Qi (fun (r : Int32) (u : XS) => r = nI n ∧ u = (st, nh, tp, tl, cb, cy, nI 0, of, wl, wd)) (aX dC dI cA ad ck (va_A (wX cA ad st ck nh tp tl cb cy (nI n) of wl wd) sz)) (va_A (wX cA ad st ck nh tp tl cb cy (nI n) of wl wd) sz)) 0 0 (va_A (wX cA ad st ck nh tp tl cb cy (nI n) of wl wd) sz) := by
  refine Met.ofW (cc := cX0_drop) (maxL := 2) (ret := (some .int)) (by decide) rfl ?_
  intro p e s m args below meth c s₁ B hml hv
  obtain ⟨rfl, hsz, hP, hK, hD0⟩ := hv
  have hx := B.exec
  have hb := B.bytes
  have hr := B.returns
  have hts := atoms_spec (ws := wsX0_drop) B.pre
  have hown : s.vm.findClass RX0 = some m.cls := findClass_of_methodNamed B.named
  have hlocks := B.notSynchronized
  have hin : ∀ w ∈ u_ws RX0 TX0 11, w ∈ wsX0_drop := by decide +kernel
  subst hsz
  have hD := hD0.self (sz := s.heap.size)
  generalize hAe : va_A (wX cA ad st ck nh tp tl cb cy (nI n) of wl wd) s.heap.size = A at hD ⊢
  have hA : ∀ q : Nat, s.heap.size ≤ q → A q := fun q h => by rw [← hAe]; exact Or.inr h
  obtain ⟨H, locs, hH, hlo, hS⟩ : ∃ (H : Heap) (locs : List Loc), H = s.heap ∧ locs = [] ∧ va_S A s.heap H locs := ⟨s.heap, [], rfl, rfl, va_S.rf⟩
  rw [← hH] at hP
  have hP : va_P (dC, dI) vwCl (wX cA ad st ck nh tp tl cb cy (nI n) of wl wd) H := hP
  have hl := lv_entry ([.ref (ad 0)]) (n := 2) (Nat.le_of_ble_eq_true rfl)
  rw [lg_entry_eq]
  generalize (lg_sl ([.ref (ad 0)]) ++ List.replicate (2 - (lg_sl ([.ref (ad 0)])).length) Slot.unset).toArray = ls at hl ⊢
  have goal : W p l e (headSpec wsX0_drop ({ frames := 0, cells := 0, slots := 0, locals := 0 } : Room)).room s m ([.ref (ad 0)] : List Value).toArray below meth c H locs 0 0 (MQ below (va_Qi (fun (r : Int32) (u : XS) => r = nI n ∧ u = (st, nh, tp, tl, cb, cy, nI 0, of, wl, wd)) (aX dC dI cA ad ck A) A) ([.ref (ad 0)] : List Value).toArray s 0 0 A) (F0 m 0 ls []) := by
    clear hH hlo
    have hl : lv_has ls 2 [(0, .ref (ad 0))] := hl
    refine lv_aload_n hx hb dX0_drop_0 rfl (lv_at hl 0 rfl) ?_
    refine va_get (D := (dC, dI)) (ci := 0) (v := .int (nI n)) (C := RX0) (T := TX0) (N := 11) hx hb hts hin hown hK hP 0 rfl rfl 7 (by decide) (hts (.fieldLink RX0 64 "BlockJournal" "changes" "I") (by decide +kernel)) (fun _ h9 => h9) rfl dX0_drop_1 ?_
    refine lv_istore_n (lv' := [(1, .int (nI n)), (0, .ref (ad 0))]) hx hb dX0_drop_4 rfl hl (by decide) rfl (fun ls hl => ?_)
    refine lv_aload_n hx hb dX0_drop_5 rfl (lv_at hl 1 rfl) ?_
    refine lv_iconst (v := nI 0) hx hb dX0_drop_6 (by decide) ?_
    refine va_put (D := (dC, dI)) (ci := 0) (v := .int (nI 0)) (ty := .int) (C := RX0) (T := TX0) (N := 11) hx hb hts hin tyX0 tyX0_ok nmX0 hown hK hP hD hS 0 rfl rfl 7 (by decide) (hts (.fieldLink RX0 64 "BlockJournal" "changes" "I") (by decide +kernel)) (fun _ h9 => h9) rfl (by decide +kernel) rfl rfl (Nat.le_of_ble_eq_true rfl) dX0_drop_7 (fun H locs hP hD hS => ?_)
    have hP : va_P (dC, dI) vwCl (wX cA ad st ck nh tp tl cb cy (nI 0) of wl wd) H := hP
    have hD : va_D A (wX cA ad st ck nh tp tl cb cy (nI 0) of wl wd) := hD
    refine lv_iload_n hx hb dX0_drop_10 rfl (lv_at hl 0 rfl) ?_
    have hpost : ((st, nh, tp, tl, cb, cy, nI 0, of, wl, wd) : XS) = (st, nh, tp, tl, cb, cy, nI 0, of, wl, wd) := rfl
    have hres : nI n = nI n := rfl
    exact W.iret (v := nI n) hx hb hr (fun t ht hW => ⟨⟨_, (st, nh, tp, tl, cb, cy, nI 0, of, wl, wd), rfl, ⟨hres, hpost⟩, by rw [ht]; exact hP, va_K.moved hW.alike hK, hD⟩, hS.F ht⟩) hS.2.2 dX0_drop_11
  rw [hH, hlo] at goal
  exact goal

set_option maxHeartbeats 4000000 in
set_option maxRecDepth 100000 in
theorem c_X0_power (l : Launch) (dC : Nat → ClassId) (dI : Nat → Nat → Nat) (cA : ClassId) (ad : Nat → Nat) (sz : Nat) (st ck nh tp : Nat → Int32) (tl : Int32) (cb cy : Nat → Int32) (nc wl : Int32) (wd : Int64) (o : Bool)  : Met l yX0_power wsX0_power ({ frames := 0, cells := 0, slots := 0, locals := 0 } : Room) (va_Pc [.ref (ad 0)] (fun U => U.heap.size = sz ∧ va_P (dC, dI) vwCl (wX cA ad st ck nh tp tl cb cy nc (bI o) wl wd) U.heap ∧ va_K (dC, dI) vwCl [(cA, .int)] U ∧ va_D (fun _ => True) (wX cA ad st ck nh tp tl cb cy nc (bI o) wl wd))) (va_Qi (fun (r : Int32) (u : XS) => r = bI o ∧ u = (st, nh, tp, tl, cb, cy, nc, nI 0, -1, wd)) (aX dC dI cA ad ck (va_A (wX cA ad st ck nh tp tl cb cy nc (bI o) wl wd) sz)) (va_A (wX cA ad st ck nh tp tl cb cy nc (bI o) wl wd) sz)) 0 0 (va_A (wX cA ad st ck nh tp tl cb cy nc (bI o) wl wd) sz) := by
  refine Met.ofW (cc := cX0_power) (maxL := 2) (ret := (some .boolean)) (by decide) rfl ?_
  intro p e s m args below meth c s₁ B hml hv
  obtain ⟨rfl, hsz, hP, hK, hD0⟩ := hv
  have hx := B.exec
  have hb := B.bytes
  have hr := B.returns
  have hts := atoms_spec (ws := wsX0_power) B.pre
  have hown : s.vm.findClass RX0 = some m.cls := findClass_of_methodNamed B.named
  have hlocks := B.notSynchronized
  have hin : ∀ w ∈ u_ws RX0 TX0 11, w ∈ wsX0_power := by decide +kernel
  subst hsz
  have hD := hD0.self (sz := s.heap.size)
  generalize hAe : va_A (wX cA ad st ck nh tp tl cb cy nc (bI o) wl wd) s.heap.size = A at hD ⊢
  have hA : ∀ q : Nat, s.heap.size ≤ q → A q := fun q h => by rw [← hAe]; exact Or.inr h
  obtain ⟨H, locs, hH, hlo, hS⟩ : ∃ (H : Heap) (locs : List Loc), H = s.heap ∧ locs = [] ∧ va_S A s.heap H locs := ⟨s.heap, [], rfl, rfl, va_S.rf⟩
  rw [← hH] at hP
  have hP : va_P (dC, dI) vwCl (wX cA ad st ck nh tp tl cb cy nc (bI o) wl wd) H := hP
  have hl := lv_entry ([.ref (ad 0)]) (n := 2) (Nat.le_of_ble_eq_true rfl)
  rw [lg_entry_eq]
  generalize (lg_sl ([.ref (ad 0)]) ++ List.replicate (2 - (lg_sl ([.ref (ad 0)])).length) Slot.unset).toArray = ls at hl ⊢
  have goal : W p l e (headSpec wsX0_power ({ frames := 0, cells := 0, slots := 0, locals := 0 } : Room)).room s m ([.ref (ad 0)] : List Value).toArray below meth c H locs 0 0 (MQ below (va_Qi (fun (r : Int32) (u : XS) => r = bI o ∧ u = (st, nh, tp, tl, cb, cy, nc, nI 0, -1, wd)) (aX dC dI cA ad ck A) A) ([.ref (ad 0)] : List Value).toArray s 0 0 A) (F0 m 0 ls []) := by
    clear hH hlo
    have hl : lv_has ls 2 [(0, .ref (ad 0))] := hl
    refine lv_aload_n hx hb dX0_power_0 rfl (lv_at hl 0 rfl) ?_
    refine va_get (D := (dC, dI)) (ci := 0) (v := .int (bI o)) (C := RX0) (T := TX0) (N := 11) hx hb hts hin hown hK hP 0 rfl rfl 8 (by decide) (hts (.fieldLink RX0 85 "BlockJournal" "off" "Z") (by decide +kernel)) (fun _ h9 => h9) rfl dX0_power_1 ?_
    refine lv_istore_n (lv' := [(1, .int (bI o)), (0, .ref (ad 0))]) hx hb dX0_power_4 rfl hl (by decide) rfl (fun ls hl => ?_)
    refine lv_aload_n hx hb dX0_power_5 rfl (lv_at hl 1 rfl) ?_
    refine lv_iconst (v := nI 0) hx hb dX0_power_6 (by decide) ?_
    refine va_put (D := (dC, dI)) (ci := 0) (v := .int (nI 0)) (ty := .boolean) (C := RX0) (T := TX0) (N := 11) hx hb hts hin tyX0 tyX0_ok nmX0 hown hK hP hD hS 0 rfl rfl 8 (by decide) (hts (.fieldLink RX0 85 "BlockJournal" "off" "Z") (by decide +kernel)) (fun _ h9 => h9) rfl (by decide +kernel) rfl rfl (Nat.le_of_ble_eq_true rfl) dX0_power_7 (fun H locs hP hD hS => ?_)
    have hP : va_P (dC, dI) vwCl (wX cA ad st ck nh tp tl cb cy nc (nI 0) wl wd) H := hP
    have hD : va_D A (wX cA ad st ck nh tp tl cb cy nc (nI 0) wl wd) := hD
    refine lv_aload_n hx hb dX0_power_10 rfl (lv_at hl 1 rfl) ?_
    refine lv_iconst (v := (-1)) hx hb dX0_power_11 (by decide) ?_
    refine va_put (D := (dC, dI)) (ci := 0) (v := .int (-1)) (ty := .int) (C := RX0) (T := TX0) (N := 11) hx hb hts hin tyX0 tyX0_ok nmX0 hown hK hP hD hS 0 rfl rfl 9 (by decide) (hts (.fieldLink RX0 28 "BlockJournal" "writesLeft" "I") (by decide +kernel)) (fun _ h9 => h9) rfl (by decide +kernel) rfl rfl (Nat.le_of_ble_eq_true rfl) dX0_power_12 (fun H locs hP hD hS => ?_)
    have hP : va_P (dC, dI) vwCl (wX cA ad st ck nh tp tl cb cy nc (nI 0) (-1) wd) H := hP
    have hD : va_D A (wX cA ad st ck nh tp tl cb cy nc (nI 0) (-1) wd) := hD
    refine lv_iload_n hx hb dX0_power_15 rfl (lv_at hl 0 rfl) ?_
    have hpost : ((st, nh, tp, tl, cb, cy, nc, nI 0, (-1), wd) : XS) = (st, nh, tp, tl, cb, cy, nc, nI 0, -1, wd) := rfl
    have hres : bI o = bI o := rfl
    exact W.zret (v := bI o) (ty := .boolean) hx hb hr (bI_n o) (fun t ht hW => ⟨⟨_, (st, nh, tp, tl, cb, cy, nc, nI 0, (-1), wd), rfl, ⟨hres, hpost⟩, by rw [ht]; exact hP, va_K.moved hW.alike hK, hD⟩, hS.F ht⟩) hS.2.2 dX0_power_16
  rw [hH, hlo] at goal
  exact goal

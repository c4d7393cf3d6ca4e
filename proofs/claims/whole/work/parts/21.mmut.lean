abbrev MS : Type := Int32 × (Nat → Int32) × (Nat → Int32) × Int32 × (Nat → Int32) × (Nat → Int32) × Int32 × Int64 × Int64 × Int32 × (Nat → Int32)
abbrev wMu (cA : ClassId) (ad : Nat → Nat) (u : MS) : va_W := wM cA ad u.1 u.2.1 u.2.2.1 u.2.2.2.1 u.2.2.2.2.1 u.2.2.2.2.2.1 u.2.2.2.2.2.2.1 u.2.2.2.2.2.2.2.1 u.2.2.2.2.2.2.2.2.1 u.2.2.2.2.2.2.2.2.2.1 u.2.2.2.2.2.2.2.2.2.2
abbrev aM (dC : Nat → ClassId) (dI : Nat → Nat → Nat) (cA : ClassId) (ad : Nat → Nat) (A : Nat → Prop) (u : MS) (t : State) : Prop :=
  va_P (dC, dI) vwCl (wMu cA ad u) t.heap ∧ va_K (dC, dI) vwCl [(cA, .int)] t ∧ va_D A (wMu cA ad u)
/-- whether a write is done -/
def mwB (of : Int32) (lf : Int64) : Bool := if ¬ of = 0 then false else if ¬ lf = 0 then true else false
def wmF (ro st : Nat → Int32) (b : Nat) : Nat → Nat → Int32
  | 0 => st
  | i + 1 => upd (wmF ro st b i) (64 * b + i) (ro i)
def mwS (ro st : Nat → Int32) (of : Int32) (lf : Int64) (b : Nat) : Nat → Int32 := if mwB of lf = true then wmF ro st b 64 else st
def mwO (of : Int32) (lf : Int64) : Int32 := if mwB of lf = true then nI 0 else nI 1
def mwL (of : Int32) (lf : Int64) : Int64 := if mwB of lf = true then lf - (if lf ≤ 0 then 0 else 1) else lf
def mwD (of : Int32) (lf dn : Int64) : Int64 := if mwB of lf = true then dn + 1 else dn
def lb0 (f : Nat → Int32) (q : Int64) : Nat → Nat → Int32
  | 0 => f
  | i + 1 => upd (lb0 f q i) i (((q >>> ((nI (8 * i)).toInt64 &&& 63)) &&& 255).toInt32)
def lb9 (f : Nat → Int32) (q : Int64) : Nat → Nat → Int32
  | 0 => f
  | i + 1 => upd (lb9 f q i) (59 + i) (((q >>> ((nI (8 * i)).toInt64 &&& 63)) &&& 255).toInt32)
def tmF (f cb : Nat → Int32) (pi : Nat → Nat) : Nat → Nat → Int32
  | 0 => f
  | i + 1 => upd (upd (tmF f cb pi i) (5 + 2 * i) (cb (pi i) &&& nI 255)) (6 + 2 * i) (cb (pi i) >>> (nI 8 &&& 31))
def meF (ro : Nat → Int32) (q : Int64) : Nat → Int32 := lb0 (fiF ro (nI 0) 64) q 4
def mfF (st ro cb : Nat → Int32) (pi : Nat → Nat) (n : Nat) (q : Int64) : Nat → Int32 := lb9 (tmF (upd (meF ro q) 4 (nI n)) cb pi n) (ckM st n) 4
def hdF (st ro cb : Nat → Int32) (pi : Nat → Nat) (n : Nat) (q : Int64) : Nat → Int32 := if ¬ nI n = 0 then mfF st ro cb pi n q else meF ro q
theorem nI_inj0 {n : Nat} (hn : n < 2 ^ 31) (h : nI n = 0) : n = 0 := by
  rcases Nat.eq_zero_or_pos n with q | q
  · exact q
  · exact absurd h (nI_ne0 q hn)

set_option maxHeartbeats 4000000 in
set_option maxRecDepth 100000 in
theorem c_X1_fails (l : Launch) (dC : Nat → ClassId) (dI : Nat → Nat → Nat) (cA : ClassId) (ad : Nat → Nat) (sz : Nat) (th : Int32) (st tp : Nat → Int32) (tl : Int32) (cb cy : Nat → Int32) (nc : Int32) (dn lf : Int64) (of : Int32) (ro : Nat → Int32) (z k : Int32) (hz : narrow .boolean (.int z) = .int z) : Met l yX1_fails wsX1_fails ({ frames := 0, cells := 0, slots := 0, locals := 0 } : Room) (va_Pc [.ref (ad 0), .int z, .int k] (fun U => U.heap.size = sz ∧ va_P (dC, dI) vwCl (wM cA ad th st tp tl cb cy nc dn lf of ro) U.heap ∧ va_K (dC, dI) vwCl [(cA, .int)] U ∧ va_D (fun _ => True) (wM cA ad th st tp tl cb cy nc dn lf of ro))) (va_Qi (fun (r : Int32) (u : MS) => r = z ∧ u = (if z = 0 then nI 0 else k, st, tp, tl, cb, cy, nc, dn, lf, of, ro)) (aM dC dI cA ad (va_A (wM cA ad th st tp tl cb cy nc dn lf of ro) sz)) (va_A (wM cA ad th st tp tl cb cy nc dn lf of ro) sz)) 0 0 (va_A (wM cA ad th st tp tl cb cy nc dn lf of ro) sz) := by
  refine Met.ofW (cc := cX1_fails) (maxL := 3) (ret := (some .boolean)) (by decide) rfl ?_
  intro p e s m args below meth c s₁ B hml hv
  obtain ⟨rfl, hsz, hP, hK, hD0⟩ := hv
  have hx := B.exec
  have hb := B.bytes
  have hr := B.returns
  have hts := atoms_spec (ws := wsX1_fails) B.pre
  have hown : s.vm.findClass RX1 = some m.cls := findClass_of_methodNamed B.named
  have hlocks := B.notSynchronized
  have hin : ∀ w ∈ u_ws RX1 TX1 11, w ∈ wsX1_fails := by decide +kernel
  subst hsz
  have hD := hD0.self (sz := s.heap.size)
  generalize hAe : va_A (wM cA ad th st tp tl cb cy nc dn lf of ro) s.heap.size = A at hD ⊢
  have hA : ∀ q : Nat, s.heap.size ≤ q → A q := fun q h => by rw [← hAe]; exact Or.inr h
  obtain ⟨H, locs, hH, hlo, hS⟩ : ∃ (H : Heap) (locs : List Loc), H = s.heap ∧ locs = [] ∧ va_S A s.heap H locs := ⟨s.heap, [], rfl, rfl, va_S.rf⟩
  rw [← hH] at hP
  have hP : va_P (dC, dI) vwCl (wM cA ad th st tp tl cb cy nc dn lf of ro) H := hP
  have hl := lv_entry ([.ref (ad 0), .int z, .int k]) (n := 3) (Nat.le_of_ble_eq_true rfl)
  rw [lg_entry_eq]
  generalize (lg_sl ([.ref (ad 0), .int z, .int k]) ++ List.replicate (3 - (lg_sl ([.ref (ad 0), .int z, .int k])).length) Slot.unset).toArray = ls at hl ⊢
  have goal : W p l e (headSpec wsX1_fails ({ frames := 0, cells := 0, slots := 0, locals := 0 } : Room)).room s m ([.ref (ad 0), .int z, .int k] : List Value).toArray below meth c H locs 0 0 (MQ below (va_Qi (fun (r : Int32) (u : MS) => r = z ∧ u = (if z = 0 then nI 0 else k, st, tp, tl, cb, cy, nc, dn, lf, of, ro)) (aM dC dI cA ad A) A) ([.ref (ad 0), .int z, .int k] : List Value).toArray s 0 0 A) (F0 m 0 ls []) := by
    clear hH hlo
    have hl : lv_has ls 3 [(0, .ref (ad 0)), (1, .int z), (2, .int k)] := hl
    refine lv_aload_n hx hb dX1_fails_0 rfl (lv_at hl 0 rfl) ?_
    refine lv_iload_n hx hb dX1_fails_1 rfl (lv_at hl 1 rfl) ?_
    refine lv_if_eq (tgt := 9) hx hb dX1_fails_2 (by decide) (fun c_2 => ?_) (fun c_2 => ?_)
    · refine lv_iconst (v := nI 0) hx hb dX1_fails_9 (by decide) ?_
      refine va_put (D := (dC, dI)) (ci := 1) (v := .int (nI 0)) (ty := .int) (C := RX1) (T := TX1) (N := 11) hx hb hts hin tyX1 tyX1_ok nmX1 hown hK hP hD hS 0 rfl rfl 0 (by decide) (hts (.fieldLink RX1 31 "BlockJournalModel" "thrown" "I") (by decide +kernel)) (fun _ h9 => h9) rfl (by decide +kernel) rfl rfl (Nat.le_of_ble_eq_true rfl) dX1_fails_10 (fun H locs hP hD hS => ?_)
      have hP : va_P (dC, dI) vwCl (wM cA ad (nI 0) st tp tl cb cy nc dn lf of ro) H := hP
      have hD : va_D A (wM cA ad (nI 0) st tp tl cb cy nc dn lf of ro) := hD
      refine lv_iload_n hx hb dX1_fails_13 rfl (lv_at hl 1 rfl) ?_
      have hpost : ((nI 0, st, tp, tl, cb, cy, nc, dn, lf, of, ro) : MS) = (if z = 0 then nI 0 else k, st, tp, tl, cb, cy, nc, dn, lf, of, ro) := by rw [if_pos c_2]
      have hres : z = z := rfl
      exact W.zret (v := z) (ty := .boolean) hx hb hr hz (fun t ht hW => ⟨⟨_, (nI 0, st, tp, tl, cb, cy, nc, dn, lf, of, ro), rfl, ⟨hres, hpost⟩, by rw [ht]; exact hP, va_K.moved hW.alike hK, hD⟩, hS.F ht⟩) hS.2.2 dX1_fails_14
    · refine lv_iload_n hx hb dX1_fails_5 rfl (lv_at hl 2 rfl) ?_
      refine lv_goto (tgt := 10) hx hb dX1_fails_6 (by decide) ?_
      refine va_put (D := (dC, dI)) (ci := 1) (v := .int k) (ty := .int) (C := RX1) (T := TX1) (N := 11) hx hb hts hin tyX1 tyX1_ok nmX1 hown hK hP hD hS 0 rfl rfl 0 (by decide) (hts (.fieldLink RX1 31 "BlockJournalModel" "thrown" "I") (by decide +kernel)) (fun _ h9 => h9) rfl (by decide +kernel) rfl rfl (Nat.le_of_ble_eq_true rfl) dX1_fails_10 (fun H locs hP hD hS => ?_)
      have hP : va_P (dC, dI) vwCl (wM cA ad k st tp tl cb cy nc dn lf of ro) H := hP
      have hD : va_D A (wM cA ad k st tp tl cb cy nc dn lf of ro) := hD
      refine lv_iload_n hx hb dX1_fails_13 rfl (lv_at hl 1 rfl) ?_
      have hpost : ((k, st, tp, tl, cb, cy, nc, dn, lf, of, ro) : MS) = (if z = 0 then nI 0 else k, st, tp, tl, cb, cy, nc, dn, lf, of, ro) := by rw [if_neg c_2]
      have hres : z = z := rfl
      exact W.zret (v := z) (ty := .boolean) hx hb hr hz (fun t ht hW => ⟨⟨_, (k, st, tp, tl, cb, cy, nc, dn, lf, of, ro), rfl, ⟨hres, hpost⟩, by rw [ht]; exact hP, va_K.moved hW.alike hK, hD⟩, hS.F ht⟩) hS.2.2 dX1_fails_14
  rw [hH, hlo] at goal
  exact goal

set_option maxHeartbeats 4000000 in
set_option maxRecDepth 100000 in
theorem c_X1_writes (l : Launch) (dC : Nat → ClassId) (dI : Nat → Nat → Nat) (cA : ClassId) (ad : Nat → Nat) (sz : Nat) (th : Int32) (st tp : Nat → Int32) (tl : Int32) (cb cy : Nat → Int32) (nc : Int32) (dn lf : Int64) (of : Int32) (ro : Nat → Int32) (b : Nat) (hb9 : b < 96) : Met l yX1_writes wsX1_writes ({ frames := 0, cells := 0, slots := 0, locals := 0 } : Room) (va_Pc [.ref (ad 0), .int (nI b)] (fun U => U.heap.size = sz ∧ va_P (dC, dI) vwCl (wM cA ad th st tp tl cb cy nc dn lf of ro) U.heap ∧ va_K (dC, dI) vwCl [(cA, .int)] U ∧ va_D (fun _ => True) (wM cA ad th st tp tl cb cy nc dn lf of ro))) (va_Qi (fun (r : Int32) (u : MS) => r = bI (mwB of lf) ∧ u = (th, mwS ro st of lf b, tp, tl, cb, cy, nc, mwD of lf dn, mwL of lf, mwO of lf, ro)) (aM dC dI cA ad (va_A (wM cA ad th st tp tl cb cy nc dn lf of ro) sz)) (va_A (wM cA ad th st tp tl cb cy nc dn lf of ro) sz)) 0 0 (va_A (wM cA ad th st tp tl cb cy nc dn lf of ro) sz) := by
  refine Met.ofW (cc := cX1_writes) (maxL := 3) (ret := (some .boolean)) (by decide) rfl ?_
  intro p e s m args below meth c s₁ B hml hv
  obtain ⟨rfl, hsz, hP, hK, hD0⟩ := hv
  have hx := B.exec
  have hb := B.bytes
  have hr := B.returns
  have hts := atoms_spec (ws := wsX1_writes) B.pre
  have hown : s.vm.findClass RX1 = some m.cls := findClass_of_methodNamed B.named
  have hlocks := B.notSynchronized
  have hin : ∀ w ∈ u_ws RX1 TX1 11, w ∈ wsX1_writes := by decide +kernel
  subst hsz
  have hD := hD0.self (sz := s.heap.size)
  generalize hAe : va_A (wM cA ad th st tp tl cb cy nc dn lf of ro) s.heap.size = A at hD ⊢
  have hA : ∀ q : Nat, s.heap.size ≤ q → A q := fun q h => by rw [← hAe]; exact Or.inr h
  obtain ⟨H, locs, hH, hlo, hS⟩ : ∃ (H : Heap) (locs : List Loc), H = s.heap ∧ locs = [] ∧ va_S A s.heap H locs := ⟨s.heap, [], rfl, rfl, va_S.rf⟩
  rw [← hH] at hP
  have hP : va_P (dC, dI) vwCl (wM cA ad th st tp tl cb cy nc dn lf of ro) H := hP
  have hl := lv_entry ([.ref (ad 0), .int (nI b)]) (n := 3) (Nat.le_of_ble_eq_true rfl)
  rw [lg_entry_eq]
  generalize (lg_sl ([.ref (ad 0), .int (nI b)]) ++ List.replicate (3 - (lg_sl ([.ref (ad 0), .int (nI b)])).length) Slot.unset).toArray = ls at hl ⊢
  have goal : W p l e (headSpec wsX1_writes ({ frames := 0, cells := 0, slots := 0, locals := 0 } : Room)).room s m ([.ref (ad 0), .int (nI b)] : List Value).toArray below meth c H locs 0 0 (MQ below (va_Qi (fun (r : Int32) (u : MS) => r = bI (mwB of lf) ∧ u = (th, mwS ro st of lf b, tp, tl, cb, cy, nc, mwD of lf dn, mwL of lf, mwO of lf, ro)) (aM dC dI cA ad A) A) ([.ref (ad 0), .int (nI b)] : List Value).toArray s 0 0 A) (F0 m 0 ls []) := by
    clear hH hlo
    have hl : lv_has ls 3 [(0, .ref (ad 0)), (1, .int (nI b))] := hl
    refine lv_aload_n hx hb dX1_writes_0 rfl (lv_at hl 0 rfl) ?_
    refine lv_aload_n hx hb dX1_writes_1 rfl (lv_at hl 0 rfl) ?_
    refine va_get (D := (dC, dI)) (ci := 1) (v := .int of) (C := RX1) (T := TX1) (N := 11) hx hb hts hin hown hK hP 0 rfl rfl 9 (by decide) (hts (.fieldLink RX1 35 "BlockJournalModel" "off" "Z") (by decide +kernel)) (fun _ h9 => h9) rfl dX1_writes_2 ?_
    refine lv_if_ne (tgt := 17) hx hb dX1_writes_5 (by decide) (fun c_5 => ?_) (fun c_5 => ?_)
    · refine lv_iconst (v := nI 1) hx hb dX1_writes_17 (by decide) ?_
      refine lv_goto (tgt := 22) hx hb dX1_writes_18 (by decide) ?_
      refine va_put (D := (dC, dI)) (ci := 1) (v := .int (nI 1)) (ty := .boolean) (C := RX1) (T := TX1) (N := 11) hx hb hts hin tyX1 tyX1_ok nmX1 hown hK hP hD hS 0 rfl rfl 9 (by decide) (hts (.fieldLink RX1 35 "BlockJournalModel" "off" "Z") (by decide +kernel)) (fun _ h9 => h9) rfl (by decide +kernel) rfl rfl (Nat.le_of_ble_eq_true rfl) dX1_writes_22 (fun H locs hP hD hS => ?_)
      have hP : va_P (dC, dI) vwCl (wM cA ad th st tp tl cb cy nc dn lf (nI 1) ro) H := hP
      have hD : va_D A (wM cA ad th st tp tl cb cy nc dn lf (nI 1) ro) := hD
      refine lv_aload_n hx hb dX1_writes_25 rfl (lv_at hl 0 rfl) ?_
      refine va_get (D := (dC, dI)) (ci := 1) (v := .int (nI 1)) (C := RX1) (T := TX1) (N := 11) hx hb hts hin hown hK hP 0 rfl rfl 9 (by decide) (hts (.fieldLink RX1 35 "BlockJournalModel" "off" "Z") (by decide +kernel)) (fun _ h9 => h9) rfl dX1_writes_26 ?_
      refine lv_if_eq (tgt := 34) hx hb dX1_writes_29 (by decide) (fun c_29 => ?_) (fun c_29 => ?_)
      · exact absurd c_29 (by decide)
      · refine lv_iconst (v := nI 0) hx hb dX1_writes_32 (by decide) ?_
        have hpost : ((th, st, tp, tl, cb, cy, nc, dn, lf, nI 1, ro) : MS) = (th, mwS ro st of lf b, tp, tl, cb, cy, nc, mwD of lf dn, mwL of lf, mwO of lf, ro) := by simp only [mwS, mwO, mwL, mwD, mwB, if_pos c_5, Bool.false_eq_true, if_false]
        have hres : nI 0 = bI (mwB of lf) := by rw [mwB, if_pos c_5]; rfl
        exact W.zret (v := nI 0) (ty := .boolean) hx hb hr rfl (fun t ht hW => ⟨⟨_, (th, st, tp, tl, cb, cy, nc, dn, lf, nI 1, ro), rfl, ⟨hres, hpost⟩, by rw [ht]; exact hP, va_K.moved hW.alike hK, hD⟩, hS.F ht⟩) hS.2.2 dX1_writes_33
    · refine lv_aload_n hx hb dX1_writes_8 rfl (lv_at hl 0 rfl) ?_
      refine va_get (D := (dC, dI)) (ci := 1) (v := .long lf) (C := RX1) (T := TX1) (N := 11) hx hb hts hin hown hK hP 0 rfl rfl 8 (by decide) (hts (.fieldLink RX1 24 "BlockJournalModel" "left" "J") (by decide +kernel)) (fun _ h9 => h9) rfl dX1_writes_9 ?_
      refine lv_lconst (v := 0) hx hb dX1_writes_12 (by decide) ?_
      refine W.lcmp hx hb dX1_writes_13 ?_
      refine lv_if_ne (tgt := 21) hx hb dX1_writes_14 (by decide) (fun c_14 => ?_) (fun c_14 => ?_)
      · have m_14 := fun h => c_14 ((lg_cmp_eq lf 0).mpr h)
        refine lv_iconst (v := nI 0) hx hb dX1_writes_21 (by decide) ?_
        refine va_put (D := (dC, dI)) (ci := 1) (v := .int (nI 0)) (ty := .boolean) (C := RX1) (T := TX1) (N := 11) hx hb hts hin tyX1 tyX1_ok nmX1 hown hK hP hD hS 0 rfl rfl 9 (by decide) (hts (.fieldLink RX1 35 "BlockJournalModel" "off" "Z") (by decide +kernel)) (fun _ h9 => h9) rfl (by decide +kernel) rfl rfl (Nat.le_of_ble_eq_true rfl) dX1_writes_22 (fun H locs hP hD hS => ?_)
        have hP : va_P (dC, dI) vwCl (wM cA ad th st tp tl cb cy nc dn lf (nI 0) ro) H := hP
        have hD : va_D A (wM cA ad th st tp tl cb cy nc dn lf (nI 0) ro) := hD
        refine lv_aload_n hx hb dX1_writes_25 rfl (lv_at hl 0 rfl) ?_
        refine va_get (D := (dC, dI)) (ci := 1) (v := .int (nI 0)) (C := RX1) (T := TX1) (N := 11) hx hb hts hin hown hK hP 0 rfl rfl 9 (by decide) (hts (.fieldLink RX1 35 "BlockJournalModel" "off" "Z") (by decide +kernel)) (fun _ h9 => h9) rfl dX1_writes_26 ?_
        refine lv_if_eq (tgt := 34) hx hb dX1_writes_29 (by decide) (fun c_29 => ?_) (fun c_29 => ?_)
        · have hmw : mwB of lf = true := by rw [mwB, if_neg (not_not_intro c_5), if_pos m_14]
          refine lv_aload_n hx hb dX1_writes_34 rfl (lv_at hl 0 rfl) ?_
          refine lv_dup hx hb dX1_writes_35 rfl ?_
          refine va_get (D := (dC, dI)) (ci := 1) (v := .long lf) (C := RX1) (T := TX1) (N := 11) hx hb hts hin hown hK hP 0 rfl rfl 8 (by decide) (hts (.fieldLink RX1 24 "BlockJournalModel" "left" "J") (by decide +kernel)) (fun _ h9 => h9) rfl dX1_writes_36 ?_
          refine lv_aload_n hx hb dX1_writes_39 rfl (lv_at hl 0 rfl) ?_
          refine va_get (D := (dC, dI)) (ci := 1) (v := .long lf) (C := RX1) (T := TX1) (N := 11) hx hb hts hin hown hK hP 0 rfl rfl 8 (by decide) (hts (.fieldLink RX1 24 "BlockJournalModel" "left" "J") (by decide +kernel)) (fun _ h9 => h9) rfl dX1_writes_40 ?_
          refine lv_lconst (v := 0) hx hb dX1_writes_43 (by decide) ?_
          refine W.lcmp hx hb dX1_writes_44 ?_
          refine lv_if_le (tgt := 52) hx hb dX1_writes_45 (by decide) (fun c_45 => ?_) (fun c_45 => ?_)
          · have m_45 := (lg_cmp_le lf 0).mp c_45
            refine lv_lconst (v := 0) hx hb dX1_writes_52 (by decide) ?_
            refine lv_lsub hx hb dX1_writes_53 ?_
            refine va_put (D := (dC, dI)) (ci := 1) (v := .long (lf - 0)) (ty := .long) (C := RX1) (T := TX1) (N := 11) hx hb hts hin tyX1 tyX1_ok nmX1 hown hK hP hD hS 0 rfl rfl 8 (by decide) (hts (.fieldLink RX1 24 "BlockJournalModel" "left" "J") (by decide +kernel)) (fun _ h9 => h9) rfl (by decide +kernel) rfl rfl (Nat.le_of_ble_eq_true rfl) dX1_writes_54 (fun H locs hP hD hS => ?_)
            have hP : va_P (dC, dI) vwCl (wM cA ad th st tp tl cb cy nc dn (lf - 0) (nI 0) ro) H := hP
            have hD : va_D A (wM cA ad th st tp tl cb cy nc dn (lf - 0) (nI 0) ro) := hD
            refine lv_aload_n hx hb dX1_writes_57 rfl (lv_at hl 0 rfl) ?_
            refine lv_dup hx hb dX1_writes_58 rfl ?_
            refine va_get (D := (dC, dI)) (ci := 1) (v := .long dn) (C := RX1) (T := TX1) (N := 11) hx hb hts hin hown hK hP 0 rfl rfl 7 (by decide) (hts (.fieldLink RX1 39 "BlockJournalModel" "done" "J") (by decide +kernel)) (fun _ h9 => h9) rfl dX1_writes_59 ?_
            refine lv_lconst (v := 1) hx hb dX1_writes_62 (by decide) ?_
            refine lv_ladd hx hb dX1_writes_63 ?_
            refine va_put (D := (dC, dI)) (ci := 1) (v := .long (dn + 1)) (ty := .long) (C := RX1) (T := TX1) (N := 11) hx hb hts hin tyX1 tyX1_ok nmX1 hown hK hP hD hS 0 rfl rfl 7 (by decide) (hts (.fieldLink RX1 39 "BlockJournalModel" "done" "J") (by decide +kernel)) (fun _ h9 => h9) rfl (by decide +kernel) rfl rfl (Nat.le_of_ble_eq_true rfl) dX1_writes_64 (fun H locs hP hD hS => ?_)
            have hP : va_P (dC, dI) vwCl (wM cA ad th st tp tl cb cy nc (dn + 1) (lf - 0) (nI 0) ro) H := hP
            have hD : va_D A (wM cA ad th st tp tl cb cy nc (dn + 1) (lf - 0) (nI 0) ro) := hD
            refine lv_iconst (v := nI 0) hx hb dX1_writes_67 (by decide) ?_
            refine lv_istore_n (lv' := [(2, .int (nI 0)), (0, .ref (ad 0)), (1, .int (nI b))]) hx hb dX1_writes_68 rfl hl (by decide) rfl (fun ls hl => ?_)
            have loop_69 : ∀ (k : Nat) (i : Nat), i + k = 64 → ∀ (H : Heap) (locs : List Loc) (ls : Array Slot), va_P (dC, dI) vwCl (wM cA ad th (wmF ro st b i) tp tl cb cy nc (dn + 1) (lf - 0) (nI 0) ro) H → va_D A (wM cA ad th (wmF ro st b i) tp tl cb cy nc (dn + 1) (lf - 0) (nI 0) ro) → va_S A s.heap H locs → lv_has ls 3 [(0, .ref (ad 0)), (1, .int (nI b)), (2, .int (nI i))] → W p l e (headSpec wsX1_writes ({ frames := 0, cells := 0, slots := 0, locals := 0 } : Room)).room s m ([.ref (ad 0), .int (nI b)] : List Value).toArray below meth c H locs 0 0 (MQ below (va_Qi (fun (r : Int32) (u : MS) => r = bI (mwB of lf) ∧ u = (th, mwS ro st of lf b, tp, tl, cb, cy, nc, mwD of lf dn, mwL of lf, mwO of lf, ro)) (aM dC dI cA ad A) A) ([.ref (ad 0), .int (nI b)] : List Value).toArray s 0 0 A) (F0 m 69 ls []) := by
              intro k
              induction k with
              | zero =>
                intro i hk H locs ls hP hD hS hl
                refine lv_iload_n hx hb dX1_writes_69 rfl (lv_at hl 2 rfl) ?_
                refine lv_bipush (v := nI 64) hx hb dX1_writes_70 (by decide) ?_
                refine lv_icmp_ge (tgt := 98) hx hb dX1_writes_72 (by decide) (fun c_72 => ?_) (fun c_72 => ?_)
                · have n_72 : 64 ≤ i := (nI_leI (by omega) (by omega)).mp c_72
                  have ei : i = 64 := by omega
                  rw [ei] at hP hD
                  refine lv_iconst (v := nI 1) hx hb dX1_writes_98 (by decide) ?_
                  have hpost : ((th, wmF ro st b 64, tp, tl, cb, cy, nc, dn + 1, lf - 0, nI 0, ro) : MS) = (th, mwS ro st of lf b, tp, tl, cb, cy, nc, mwD of lf dn, mwL of lf, mwO of lf, ro) := by simp only [mwS, mwO, mwL, mwD, hmw, if_true, if_pos m_45]
                  have hres : nI 1 = bI (mwB of lf) := by rw [hmw]; rfl
                  exact W.zret (v := nI 1) (ty := .boolean) hx hb hr rfl (fun t ht hW => ⟨⟨_, (th, wmF ro st b 64, tp, tl, cb, cy, nc, dn + 1, lf - 0, nI 0, ro), rfl, ⟨hres, hpost⟩, by rw [ht]; exact hP, va_K.moved hW.alike hK, hD⟩, hS.F ht⟩) hS.2.2 dX1_writes_99
                · have n_72 : ¬ 64 ≤ i := fun h => c_72 ((nI_leI (by omega) (by omega)).mpr h)
                  exfalso; omega
              | succ k ih =>
                intro i hk H locs ls hP hD hS hl
                refine lv_iload_n hx hb dX1_writes_69 rfl (lv_at hl 2 rfl) ?_
                refine lv_bipush (v := nI 64) hx hb dX1_writes_70 (by decide) ?_
                refine lv_icmp_ge (tgt := 98) hx hb dX1_writes_72 (by decide) (fun c_72 => ?_) (fun c_72 => ?_)
                · have n_72 : 64 ≤ i := (nI_leI (by omega) (by omega)).mp c_72
                  exfalso; omega
                · have n_72 : ¬ 64 ≤ i := fun h => c_72 ((nI_leI (by omega) (by omega)).mpr h)
                  refine lv_aload_n hx hb dX1_writes_75 rfl (lv_at hl 0 rfl) ?_
                  refine va_get (D := (dC, dI)) (ci := 1) (v := .ref (ad 1)) (C := RX1) (T := TX1) (N := 11) hx hb hts hin hown hK hP 0 rfl rfl 1 (by decide) (hts (.fieldLink RX1 7 "BlockJournalModel" "store" "[I") (by decide +kernel)) (fun _ h9 => h9) rfl dX1_writes_76 ?_
                  refine lv_bipush (v := nI 64) hx hb dX1_writes_79 (by decide) ?_
                  refine lv_iload_n hx hb dX1_writes_81 rfl (lv_at hl 1 rfl) ?_
                  refine lv_imul hx hb dX1_writes_82 ?_
                  refine bj_i (pk_mul 64 b) ?_
                  refine lv_iload_n hx hb dX1_writes_83 rfl (lv_at hl 2 rfl) ?_
                  refine lv_iadd hx hb dX1_writes_84 ?_
                  refine bj_i (nI_add (64 * b) i) ?_
                  refine lv_aload_n hx hb dX1_writes_85 rfl (lv_at hl 0 rfl) ?_
                  refine va_get (D := (dC, dI)) (ci := 1) (v := .ref (ad 5)) (C := RX1) (T := TX1) (N := 11) hx hb hts hin hown hK hP 0 rfl rfl 10 (by decide) (hts (.fieldLink RX1 28 "BlockJournalModel" "row" "[I") (by decide +kernel)) (fun _ h9 => h9) rfl dX1_writes_86 ?_
                  refine lv_iload_n hx hb dX1_writes_89 rfl (lv_at hl 2 rfl) ?_
                  refine va_iald (D := (dC, dI)) hx hb hK hP 5 0 (cA := cA) (n := 64) (f := ro) rfl rfl (i := (nI i)) (vp_in_nI (by omega) (by omega)) dX1_writes_90 ?_
                  refine bj_i (y := ro i) (congrArg ro (nI_clamp (by omega))) ?_
                  refine va_iast (D := (dC, dI)) hx hb hK hP hD hS 1 0 (cA := cA) (n := 6144) (f := (wmF ro st b i)) rfl rfl (i := (nI ((64 * b) + i))) (vp_in_nI (by omega) (by omega)) dX1_writes_91 (fun H locs hP hD hS => ?_)
                  rw [nI_clamp (n := (64 * b) + i) (by omega)] at hP hD
                  have hP : va_P (dC, dI) vwCl (wM cA ad th (upd (wmF ro st b i) ((64 * b) + i) (ro i)) tp tl cb cy nc (dn + 1) (lf - 0) (nI 0) ro) H := hP
                  have hD : va_D A (wM cA ad th (upd (wmF ro st b i) ((64 * b) + i) (ro i)) tp tl cb cy nc (dn + 1) (lf - 0) (nI 0) ro) := hD
                  refine lv_iinc (v := nI (i + 1)) (lv' := [(2, .int (nI (i + 1))), (0, .ref (ad 0)), (1, .int (nI b))]) hx hb dX1_writes_92 hl (k := 2) rfl (nI_add i 1) (by decide) rfl (fun ls hl => ?_)
                  refine lv_goto (tgt := 69) hx hb dX1_writes_95 (by decide) ?_
                  exact ih (i + 1) (by omega) _ _ _ hP hD hS (lv_sub hl [1, 2, 0] rfl)
            exact loop_69 64 0 (by omega) _ _ _ hP hD hS (lv_sub hl [1, 2, 0] rfl)
          · have m_45 := fun h => c_45 ((lg_cmp_le lf 0).mpr h)
            refine lv_lconst (v := 1) hx hb dX1_writes_48 (by decide) ?_
            refine lv_goto (tgt := 53) hx hb dX1_writes_49 (by decide) ?_
            refine lv_lsub hx hb dX1_writes_53 ?_
            refine va_put (D := (dC, dI)) (ci := 1) (v := .long (lf - 1)) (ty := .long) (C := RX1) (T := TX1) (N := 11) hx hb hts hin tyX1 tyX1_ok nmX1 hown hK hP hD hS 0 rfl rfl 8 (by decide) (hts (.fieldLink RX1 24 "BlockJournalModel" "left" "J") (by decide +kernel)) (fun _ h9 => h9) rfl (by decide +kernel) rfl rfl (Nat.le_of_ble_eq_true rfl) dX1_writes_54 (fun H locs hP hD hS => ?_)
            have hP : va_P (dC, dI) vwCl (wM cA ad th st tp tl cb cy nc dn (lf - 1) (nI 0) ro) H := hP
            have hD : va_D A (wM cA ad th st tp tl cb cy nc dn (lf - 1) (nI 0) ro) := hD
            refine lv_aload_n hx hb dX1_writes_57 rfl (lv_at hl 0 rfl) ?_
            refine lv_dup hx hb dX1_writes_58 rfl ?_
            refine va_get (D := (dC, dI)) (ci := 1) (v := .long dn) (C := RX1) (T := TX1) (N := 11) hx hb hts hin hown hK hP 0 rfl rfl 7 (by decide) (hts (.fieldLink RX1 39 "BlockJournalModel" "done" "J") (by decide +kernel)) (fun _ h9 => h9) rfl dX1_writes_59 ?_
            refine lv_lconst (v := 1) hx hb dX1_writes_62 (by decide) ?_
            refine lv_ladd hx hb dX1_writes_63 ?_
            refine va_put (D := (dC, dI)) (ci := 1) (v := .long (dn + 1)) (ty := .long) (C := RX1) (T := TX1) (N := 11) hx hb hts hin tyX1 tyX1_ok nmX1 hown hK hP hD hS 0 rfl rfl 7 (by decide) (hts (.fieldLink RX1 39 "BlockJournalModel" "done" "J") (by decide +kernel)) (fun _ h9 => h9) rfl (by decide +kernel) rfl rfl (Nat.le_of_ble_eq_true rfl) dX1_writes_64 (fun H locs hP hD hS => ?_)
            have hP : va_P (dC, dI) vwCl (wM cA ad th st tp tl cb cy nc (dn + 1) (lf - 1) (nI 0) ro) H := hP
            have hD : va_D A (wM cA ad th st tp tl cb cy nc (dn + 1) (lf - 1) (nI 0) ro) := hD
            refine lv_iconst (v := nI 0) hx hb dX1_writes_67 (by decide) ?_
            refine lv_istore_n (lv' := [(2, .int (nI 0)), (0, .ref (ad 0)), (1, .int (nI b))]) hx hb dX1_writes_68 rfl hl (by decide) rfl (fun ls hl => ?_)
            have loop_69 : ∀ (k : Nat) (i : Nat), i + k = 64 → ∀ (H : Heap) (locs : List Loc) (ls : Array Slot), va_P (dC, dI) vwCl (wM cA ad th (wmF ro st b i) tp tl cb cy nc (dn + 1) (lf - 1) (nI 0) ro) H → va_D A (wM cA ad th (wmF ro st b i) tp tl cb cy nc (dn + 1) (lf - 1) (nI 0) ro) → va_S A s.heap H locs → lv_has ls 3 [(0, .ref (ad 0)), (1, .int (nI b)), (2, .int (nI i))] → W p l e (headSpec wsX1_writes ({ frames := 0, cells := 0, slots := 0, locals := 0 } : Room)).room s m ([.ref (ad 0), .int (nI b)] : List Value).toArray below meth c H locs 0 0 (MQ below (va_Qi (fun (r : Int32) (u : MS) => r = bI (mwB of lf) ∧ u = (th, mwS ro st of lf b, tp, tl, cb, cy, nc, mwD of lf dn, mwL of lf, mwO of lf, ro)) (aM dC dI cA ad A) A) ([.ref (ad 0), .int (nI b)] : List Value).toArray s 0 0 A) (F0 m 69 ls []) := by
              intro k
              induction k with
              | zero =>
                intro i hk H locs ls hP hD hS hl
                refine lv_iload_n hx hb dX1_writes_69 rfl (lv_at hl 2 rfl) ?_
                refine lv_bipush (v := nI 64) hx hb dX1_writes_70 (by decide) ?_
                refine lv_icmp_ge (tgt := 98) hx hb dX1_writes_72 (by decide) (fun c_72 => ?_) (fun c_72 => ?_)
                · have n_72 : 64 ≤ i := (nI_leI (by omega) (by omega)).mp c_72
                  have ei : i = 64 := by omega
                  rw [ei] at hP hD
                  refine lv_iconst (v := nI 1) hx hb dX1_writes_98 (by decide) ?_
                  have hpost : ((th, wmF ro st b 64, tp, tl, cb, cy, nc, dn + 1, lf - 1, nI 0, ro) : MS) = (th, mwS ro st of lf b, tp, tl, cb, cy, nc, mwD of lf dn, mwL of lf, mwO of lf, ro) := by simp only [mwS, mwO, mwL, mwD, hmw, if_true, if_neg m_45]
                  have hres : nI 1 = bI (mwB of lf) := by rw [hmw]; rfl
                  exact W.zret (v := nI 1) (ty := .boolean) hx hb hr rfl (fun t ht hW => ⟨⟨_, (th, wmF ro st b 64, tp, tl, cb, cy, nc, dn + 1, lf - 1, nI 0, ro), rfl, ⟨hres, hpost⟩, by rw [ht]; exact hP, va_K.moved hW.alike hK, hD⟩, hS.F ht⟩) hS.2.2 dX1_writes_99
                · have n_72 : ¬ 64 ≤ i := fun h => c_72 ((nI_leI (by omega) (by omega)).mpr h)
                  exfalso; omega
              | succ k ih =>
                intro i hk H locs ls hP hD hS hl
                refine lv_iload_n hx hb dX1_writes_69 rfl (lv_at hl 2 rfl) ?_
                refine lv_bipush (v := nI 64) hx hb dX1_writes_70 (by decide) ?_
                refine lv_icmp_ge (tgt := 98) hx hb dX1_writes_72 (by decide) (fun c_72 => ?_) (fun c_72 => ?_)
                · have n_72 : 64 ≤ i := (nI_leI (by omega) (by omega)).mp c_72
                  exfalso; omega
                · have n_72 : ¬ 64 ≤ i := fun h => c_72 ((nI_leI (by omega) (by omega)).mpr h)
                  refine lv_aload_n hx hb dX1_writes_75 rfl (lv_at hl 0 rfl) ?_
                  refine va_get (D := (dC, dI)) (ci := 1) (v := .ref (ad 1)) (C := RX1) (T := TX1) (N := 11) hx hb hts hin hown hK hP 0 rfl rfl 1 (by decide) (hts (.fieldLink RX1 7 "BlockJournalModel" "store" "[I") (by decide +kernel)) (fun _ h9 => h9) rfl dX1_writes_76 ?_
                  refine lv_bipush (v := nI 64) hx hb dX1_writes_79 (by decide) ?_
                  refine lv_iload_n hx hb dX1_writes_81 rfl (lv_at hl 1 rfl) ?_
                  refine lv_imul hx hb dX1_writes_82 ?_
                  refine bj_i (pk_mul 64 b) ?_
                  refine lv_iload_n hx hb dX1_writes_83 rfl (lv_at hl 2 rfl) ?_
                  refine lv_iadd hx hb dX1_writes_84 ?_
                  refine bj_i (nI_add (64 * b) i) ?_
                  refine lv_aload_n hx hb dX1_writes_85 rfl (lv_at hl 0 rfl) ?_
                  refine va_get (D := (dC, dI)) (ci := 1) (v := .ref (ad 5)) (C := RX1) (T := TX1) (N := 11) hx hb hts hin hown hK hP 0 rfl rfl 10 (by decide) (hts (.fieldLink RX1 28 "BlockJournalModel" "row" "[I") (by decide +kernel)) (fun _ h9 => h9) rfl dX1_writes_86 ?_
                  refine lv_iload_n hx hb dX1_writes_89 rfl (lv_at hl 2 rfl) ?_
                  refine va_iald (D := (dC, dI)) hx hb hK hP 5 0 (cA := cA) (n := 64) (f := ro) rfl rfl (i := (nI i)) (vp_in_nI (by omega) (by omega)) dX1_writes_90 ?_
                  refine bj_i (y := ro i) (congrArg ro (nI_clamp (by omega))) ?_
                  refine va_iast (D := (dC, dI)) hx hb hK hP hD hS 1 0 (cA := cA) (n := 6144) (f := (wmF ro st b i)) rfl rfl (i := (nI ((64 * b) + i))) (vp_in_nI (by omega) (by omega)) dX1_writes_91 (fun H locs hP hD hS => ?_)
                  rw [nI_clamp (n := (64 * b) + i) (by omega)] at hP hD
                  have hP : va_P (dC, dI) vwCl (wM cA ad th (upd (wmF ro st b i) ((64 * b) + i) (ro i)) tp tl cb cy nc (dn + 1) (lf - 1) (nI 0) ro) H := hP
                  have hD : va_D A (wM cA ad th (upd (wmF ro st b i) ((64 * b) + i) (ro i)) tp tl cb cy nc (dn + 1) (lf - 1) (nI 0) ro) := hD
                  refine lv_iinc (v := nI (i + 1)) (lv' := [(2, .int (nI (i + 1))), (0, .ref (ad 0)), (1, .int (nI b))]) hx hb dX1_writes_92 hl (k := 2) rfl (nI_add i 1) (by decide) rfl (fun ls hl => ?_)
                  refine lv_goto (tgt := 69) hx hb dX1_writes_95 (by decide) ?_
                  exact ih (i + 1) (by omega) _ _ _ hP hD hS (lv_sub hl [1, 2, 0] rfl)
            exact loop_69 64 0 (by omega) _ _ _ hP hD hS (lv_sub hl [1, 2, 0] rfl)
        · exact absurd (by decide) c_29
      · have m_14 := (lg_cmp_eq lf 0).mp c_14
        refine lv_iconst (v := nI 1) hx hb dX1_writes_17 (by decide) ?_
        refine lv_goto (tgt := 22) hx hb dX1_writes_18 (by decide) ?_
        refine va_put (D := (dC, dI)) (ci := 1) (v := .int (nI 1)) (ty := .boolean) (C := RX1) (T := TX1) (N := 11) hx hb hts hin tyX1 tyX1_ok nmX1 hown hK hP hD hS 0 rfl rfl 9 (by decide) (hts (.fieldLink RX1 35 "BlockJournalModel" "off" "Z") (by decide +kernel)) (fun _ h9 => h9) rfl (by decide +kernel) rfl rfl (Nat.le_of_ble_eq_true rfl) dX1_writes_22 (fun H locs hP hD hS => ?_)
        have hP : va_P (dC, dI) vwCl (wM cA ad th st tp tl cb cy nc dn lf (nI 1) ro) H := hP
        have hD : va_D A (wM cA ad th st tp tl cb cy nc dn lf (nI 1) ro) := hD
        refine lv_aload_n hx hb dX1_writes_25 rfl (lv_at hl 0 rfl) ?_
        refine va_get (D := (dC, dI)) (ci := 1) (v := .int (nI 1)) (C := RX1) (T := TX1) (N := 11) hx hb hts hin hown hK hP 0 rfl rfl 9 (by decide) (hts (.fieldLink RX1 35 "BlockJournalModel" "off" "Z") (by decide +kernel)) (fun _ h9 => h9) rfl dX1_writes_26 ?_
        refine lv_if_eq (tgt := 34) hx hb dX1_writes_29 (by decide) (fun c_29 => ?_) (fun c_29 => ?_)
        · exact absurd c_29 (by decide)
        · refine lv_iconst (v := nI 0) hx hb dX1_writes_32 (by decide) ?_
          have hpost : ((th, st, tp, tl, cb, cy, nc, dn, lf, nI 1, ro) : MS) = (th, mwS ro st of lf b, tp, tl, cb, cy, nc, mwD of lf dn, mwL of lf, mwO of lf, ro) := by simp only [mwS, mwO, mwL, mwD, mwB, if_neg (not_not_intro c_5), if_neg (not_not_intro m_14), Bool.false_eq_true, if_false]
          have hres : nI 0 = bI (mwB of lf) := by rw [mwB, if_neg (not_not_intro c_5), if_neg (not_not_intro m_14)]; rfl
          exact W.zret (v := nI 0) (ty := .boolean) hx hb hr rfl (fun t ht hW => ⟨⟨_, (th, st, tp, tl, cb, cy, nc, dn, lf, nI 1, ro), rfl, ⟨hres, hpost⟩, by rw [ht]; exact hP, va_K.moved hW.alike hK, hD⟩, hS.F ht⟩) hS.2.2 dX1_writes_33
  rw [hH, hlo] at goal
  exact goal

set_option maxHeartbeats 4000000 in
set_option maxRecDepth 100000 in
theorem c_X1_headed (l : Launch) (dC : Nat → ClassId) (dI : Nat → Nat → Nat) (cA : ClassId) (ad : Nat → Nat) (sz : Nat) (th : Int32) (st tp : Nat → Int32) (tl : Int32) (cb cy : Nat → Int32) (dn lf : Int64) (of : Int32) (ro : Nat → Int32) (N n : Nat) (q : Int64) (pi : Nat → Nat) (hN : N ≤ 24) (hn : n ≤ 24) (hpi : ∀ i, i < n → pi i < 24 ∧ raF cb N i N 0 = nI (pi i)) : Met l yX1_headed wsX1_headed ({ frames := 1, cells := 0, slots := 0, locals := 28 } : Room) (va_Pc [.ref (ad 0), .long q, .int (nI n)] (fun U => U.heap.size = sz ∧ va_P (dC, dI) vwCl (wM cA ad th st tp tl cb cy (nI N) dn lf of ro) U.heap ∧ va_K (dC, dI) vwCl [(cA, .int)] U ∧ va_D (fun _ => True) (wM cA ad th st tp tl cb cy (nI N) dn lf of ro))) (va_Qv (fun u : MS => u = (th, st, tp, tl, cb, cy, nI N, dn, lf, of, hdF st ro cb pi n q)) (aM dC dI cA ad (va_A (wM cA ad th st tp tl cb cy (nI N) dn lf of ro) sz)) (va_A (wM cA ad th st tp tl cb cy (nI N) dn lf of ro) sz)) 0 0 (va_A (wM cA ad th st tp tl cb cy (nI N) dn lf of ro) sz) := by
  refine Met.ofW (cc := cX1_headed) (maxL := 7) (ret := none) (by decide) rfl ?_
  intro p e s m args below meth c s₁ B hml hv
  obtain ⟨rfl, hsz, hP, hK, hD0⟩ := hv
  have hx := B.exec
  have hb := B.bytes
  have hr := B.returns
  have hts := atoms_spec (ws := wsX1_headed) B.pre
  have hown : s.vm.findClass RX1 = some m.cls := findClass_of_methodNamed B.named
  have hlocks := B.notSynchronized
  have hin : ∀ w ∈ u_ws RX1 TX1 11, w ∈ wsX1_headed := by decide +kernel
  subst hsz
  have hD := hD0.self (sz := s.heap.size)
  generalize hAe : va_A (wM cA ad th st tp tl cb cy (nI N) dn lf of ro) s.heap.size = A at hD ⊢
  have hA : ∀ q : Nat, s.heap.size ≤ q → A q := fun q h => by rw [← hAe]; exact Or.inr h
  obtain ⟨H, locs, hH, hlo, hS⟩ : ∃ (H : Heap) (locs : List Loc), H = s.heap ∧ locs = [] ∧ va_S A s.heap H locs := ⟨s.heap, [], rfl, rfl, va_S.rf⟩
  rw [← hH] at hP
  have hP : va_P (dC, dI) vwCl (wM cA ad th st tp tl cb cy (nI N) dn lf of ro) H := hP
  have hl := lv_entry ([.ref (ad 0), .long q, .int (nI n)]) (n := 7) (Nat.le_of_ble_eq_true rfl)
  rw [lg_entry_eq]
  generalize (lg_sl ([.ref (ad 0), .long q, .int (nI n)]) ++ List.replicate (7 - (lg_sl ([.ref (ad 0), .long q, .int (nI n)])).length) Slot.unset).toArray = ls at hl ⊢
  have goal : W p l e (headSpec wsX1_headed ({ frames := 1, cells := 0, slots := 0, locals := 28 } : Room)).room s m ([.ref (ad 0), .long q, .int (nI n)] : List Value).toArray below meth c H locs 0 0 (MQ below (va_Qv (fun u : MS => u = (th, st, tp, tl, cb, cy, nI N, dn, lf, of, hdF st ro cb pi n q)) (aM dC dI cA ad A) A) ([.ref (ad 0), .long q, .int (nI n)] : List Value).toArray s 0 0 A) (F0 m 0 ls []) := by
    clear hH hlo
    have hl : lv_has ls 7 [(0, .ref (ad 0)), (1, .long q), (3, .int (nI n))] := hl
    refine lv_iconst (v := nI 0) hx hb dX1_headed_0 (by decide) ?_
    refine lv_istore (lv' := [(4, .int (nI 0)), (0, .ref (ad 0)), (1, .long q), (3, .int (nI n))]) hx hb dX1_headed_1 hl (by decide) rfl (fun ls hl => ?_)
    have hP : va_P (dC, dI) vwCl (wM cA ad th st tp tl cb cy (nI N) dn lf of (fiF ro (nI 0) 0)) H := by rw [fiF_0]; exact hP
    have hD : va_D A (wM cA ad th st tp tl cb cy (nI N) dn lf of (fiF ro (nI 0) 0)) := by rw [fiF_0]; exact hD
    have loop_3 : ∀ (k : Nat) (i : Nat), i + k = 64 → ∀ (H : Heap) (locs : List Loc) (ls : Array Slot), va_P (dC, dI) vwCl (wM cA ad th st tp tl cb cy (nI N) dn lf of (fiF ro (nI 0) i)) H → va_D A (wM cA ad th st tp tl cb cy (nI N) dn lf of (fiF ro (nI 0) i)) → va_S A s.heap H locs → lv_has ls 7 [(0, .ref (ad 0)), (1, .long q), (3, .int (nI n)), (4, .int (nI i))] → W p l e (headSpec wsX1_headed ({ frames := 1, cells := 0, slots := 0, locals := 28 } : Room)).room s m ([.ref (ad 0), .long q, .int (nI n)] : List Value).toArray below meth c H locs 0 0 (MQ below (va_Qv (fun u : MS => u = (th, st, tp, tl, cb, cy, nI N, dn, lf, of, hdF st ro cb pi n q)) (aM dC dI cA ad A) A) ([.ref (ad 0), .long q, .int (nI n)] : List Value).toArray s 0 0 A) (F0 m 3 ls []) := by
      intro k
      induction k with
      | zero =>
        intro i hk H locs ls hP hD hS hl
        refine lv_iload hx hb dX1_headed_3 (lv_at hl 3 rfl) ?_
        refine lv_bipush (v := nI 64) hx hb dX1_headed_5 (by decide) ?_
        refine lv_icmp_ge (tgt := 24) hx hb dX1_headed_7 (by decide) (fun c_7 => ?_) (fun c_7 => ?_)
        · have n_7 : 64 ≤ i := (nI_leI (by omega) (by omega)).mp c_7
          have ei : i = 64 := by omega
          rw [ei] at hP hD
          refine lv_iconst (v := nI 0) hx hb dX1_headed_24 (by decide) ?_
          refine lv_istore (lv' := [(4, .int (nI 0)), (0, .ref (ad 0)), (1, .long q), (3, .int (nI n))]) hx hb dX1_headed_25 hl (by decide) rfl (fun ls hl => ?_)
          have loop_27 : ∀ (k : Nat) (i : Nat), i + k = 4 → ∀ (H : Heap) (locs : List Loc) (ls : Array Slot), va_P (dC, dI) vwCl (wM cA ad th st tp tl cb cy (nI N) dn lf of (lb0 (fiF ro (nI 0) 64) q i)) H → va_D A (wM cA ad th st tp tl cb cy (nI N) dn lf of (lb0 (fiF ro (nI 0) 64) q i)) → va_S A s.heap H locs → lv_has ls 7 [(0, .ref (ad 0)), (1, .long q), (3, .int (nI n)), (4, .int (nI i))] → W p l e (headSpec wsX1_headed ({ frames := 1, cells := 0, slots := 0, locals := 28 } : Room)).room s m ([.ref (ad 0), .long q, .int (nI n)] : List Value).toArray below meth c H locs 0 0 (MQ below (va_Qv (fun u : MS => u = (th, st, tp, tl, cb, cy, nI N, dn, lf, of, hdF st ro cb pi n q)) (aM dC dI cA ad A) A) ([.ref (ad 0), .long q, .int (nI n)] : List Value).toArray s 0 0 A) (F0 m 27 ls []) := by
            intro k
            induction k with
            | zero =>
              intro i hk H locs ls hP hD hS hl
              refine lv_iload hx hb dX1_headed_27 (lv_at hl 3 rfl) ?_
              refine lv_iconst (v := nI 4) hx hb dX1_headed_29 (by decide) ?_
              refine lv_icmp_ge (tgt := 58) hx hb dX1_headed_30 (by decide) (fun c_30 => ?_) (fun c_30 => ?_)
              · have n_30 : 4 ≤ i := (nI_leI (by omega) (by omega)).mp c_30
                have ei2 : i = 4 := by omega
                rw [ei2] at hP hD
                have hP : va_P (dC, dI) vwCl (wM cA ad th st tp tl cb cy (nI N) dn lf of (meF ro q)) H := hP
                have hD : va_D A (wM cA ad th st tp tl cb cy (nI N) dn lf of (meF ro q)) := hD
                refine lv_iload_n hx hb dX1_headed_58 rfl (lv_at hl 2 rfl) ?_
                refine lv_if_ne (tgt := 63) hx hb dX1_headed_59 (by decide) (fun c_59 => ?_) (fun c_59 => ?_)
                · refine lv_aload_n hx hb dX1_headed_63 rfl (lv_at hl 0 rfl) ?_
                  refine va_get (D := (dC, dI)) (ci := 1) (v := .ref (ad 5)) (C := RX1) (T := TX1) (N := 11) hx hb hts hin hown hK hP 0 rfl rfl 10 (by decide) (hts (.fieldLink RX1 28 "BlockJournalModel" "row" "[I") (by decide +kernel)) (fun _ h9 => h9) rfl dX1_headed_64 ?_
                  refine lv_iconst (v := nI 4) hx hb dX1_headed_67 (by decide) ?_
                  refine lv_iload_n hx hb dX1_headed_68 rfl (lv_at hl 2 rfl) ?_
                  refine va_iast (D := (dC, dI)) hx hb hK hP hD hS 5 0 (cA := cA) (n := 64) (f := (meF ro q)) rfl rfl (i := (nI 4)) (vp_in_nI (by omega) (by omega)) dX1_headed_69 (fun H locs hP hD hS => ?_)
                  rw [nI_clamp (n := 4) (by omega)] at hP hD
                  have hP : va_P (dC, dI) vwCl (wM cA ad th st tp tl cb cy (nI N) dn lf of (upd (meF ro q) 4 (nI n))) H := hP
                  have hD : va_D A (wM cA ad th st tp tl cb cy (nI N) dn lf of (upd (meF ro q) 4 (nI n))) := hD
                  refine lv_aload_n hx hb dX1_headed_70 rfl (lv_at hl 0 rfl) ?_
                  refine lv_iload_n hx hb dX1_headed_71 rfl (lv_at hl 2 rfl) ?_
                  refine bj_call (v := .long (ckM st n)) (W.runV (As := [.int (nI n)]) (rest := []) ⟨hx, hb, hml, hown, hts⟩ (c_X1_check l dC dI cA ad th st tp tl cb cy (nI N) dn lf of (upd (meF ro q) 4 (nI n)) n (by omega)) (cwV 1 hts gX1_headed_X1_check rfl rfl rfl (by decide +kernel) ⟨Nat.le_of_ble_eq_true rfl, Nat.le_of_ble_eq_true rfl⟩) ⟨fun a U g mk q => by obtain ⟨q0, qP, qK⟩ := q; exact ⟨q0, qP, va_K.moved (u := U) (U := U.calling g mk a) (Vm.Alike.refl U.vm) qK⟩, va_recv hK hP (ci := 1) (q0 := 0) rfl rfl, fun U hU hW => ⟨rfl, by rw [hU]; exact hP, va_K.moved hW.alike hK⟩⟩ rfl rfl hl.1 rfl (lv_room (Nat.le_of_ble_eq_true rfl)) dX1_headed_72 ⟨Nat.le_of_ble_eq_true rfl, Nat.le_of_ble_eq_true rfl⟩) ?_
                  refine lv_lstore (lv' := [(4, .long (ckM st n)), (0, .ref (ad 0)), (1, .long q), (3, .int (nI n))]) hx hb dX1_headed_75 hl (by decide) rfl (fun ls hl => ?_)
                  refine lv_iconst (v := nI 0) hx hb dX1_headed_77 (by decide) ?_
                  refine lv_istore (lv' := [(6, .int (nI 0)), (4, .long (ckM st n)), (0, .ref (ad 0)), (1, .long q), (3, .int (nI n))]) hx hb dX1_headed_78 hl (by decide) rfl (fun ls hl => ?_)
                  have loop_80 : ∀ (k : Nat) (i : Nat), i + k = n → ∀ (H : Heap) (locs : List Loc) (ls : Array Slot), va_P (dC, dI) vwCl (wM cA ad th st tp tl cb cy (nI N) dn lf of (tmF (upd (meF ro q) 4 (nI n)) cb pi i)) H → va_D A (wM cA ad th st tp tl cb cy (nI N) dn lf of (tmF (upd (meF ro q) 4 (nI n)) cb pi i)) → va_S A s.heap H locs → lv_has ls 7 [(0, .ref (ad 0)), (1, .long q), (3, .int (nI n)), (4, .long (ckM st n)), (6, .int (nI i))] → W p l e (headSpec wsX1_headed ({ frames := 1, cells := 0, slots := 0, locals := 28 } : Room)).room s m ([.ref (ad 0), .long q, .int (nI n)] : List Value).toArray below meth c H locs 0 0 (MQ below (va_Qv (fun u : MS => u = (th, st, tp, tl, cb, cy, nI N, dn, lf, of, hdF st ro cb pi n q)) (aM dC dI cA ad A) A) ([.ref (ad 0), .long q, .int (nI n)] : List Value).toArray s 0 0 A) (F0 m 80 ls []) := by
                    intro k
                    induction k with
                    | zero =>
                      intro i hk H locs ls hP hD hS hl
                      refine lv_iload hx hb dX1_headed_80 (lv_at hl 4 rfl) ?_
                      refine lv_iload_n hx hb dX1_headed_82 rfl (lv_at hl 2 rfl) ?_
                      refine lv_icmp_ge (tgt := 144) hx hb dX1_headed_83 (by decide) (fun c_83 => ?_) (fun c_83 => ?_)
                      · have n_83 : n ≤ i := (nI_leI (by omega) (by omega)).mp c_83
                        have ei3 : i = n := by omega
                        rw [ei3] at hP hD
                        refine lv_iconst (v := nI 0) hx hb dX1_headed_144 (by decide) ?_
                        refine lv_istore (lv' := [(6, .int (nI 0)), (0, .ref (ad 0)), (1, .long q), (3, .int (nI n)), (4, .long (ckM st n))]) hx hb dX1_headed_145 hl (by decide) rfl (fun ls hl => ?_)
                        have loop_147 : ∀ (k : Nat) (i : Nat), i + k = 4 → ∀ (H : Heap) (locs : List Loc) (ls : Array Slot), va_P (dC, dI) vwCl (wM cA ad th st tp tl cb cy (nI N) dn lf of (lb9 (tmF (upd (meF ro q) 4 (nI n)) cb pi n) (ckM st n) i)) H → va_D A (wM cA ad th st tp tl cb cy (nI N) dn lf of (lb9 (tmF (upd (meF ro q) 4 (nI n)) cb pi n) (ckM st n) i)) → va_S A s.heap H locs → lv_has ls 7 [(0, .ref (ad 0)), (1, .long q), (3, .int (nI n)), (4, .long (ckM st n)), (6, .int (nI i))] → W p l e (headSpec wsX1_headed ({ frames := 1, cells := 0, slots := 0, locals := 28 } : Room)).room s m ([.ref (ad 0), .long q, .int (nI n)] : List Value).toArray below meth c H locs 0 0 (MQ below (va_Qv (fun u : MS => u = (th, st, tp, tl, cb, cy, nI N, dn, lf, of, hdF st ro cb pi n q)) (aM dC dI cA ad A) A) ([.ref (ad 0), .long q, .int (nI n)] : List Value).toArray s 0 0 A) (F0 m 147 ls []) := by
                          intro k
                          induction k with
                          | zero =>
                            intro i hk H locs ls hP hD hS hl
                            refine lv_iload hx hb dX1_headed_147 (lv_at hl 4 rfl) ?_
                            refine lv_iconst (v := nI 4) hx hb dX1_headed_149 (by decide) ?_
                            refine lv_icmp_ge (tgt := 182) hx hb dX1_headed_150 (by decide) (fun c_150 => ?_) (fun c_150 => ?_)
                            · have n_150 : 4 ≤ i := (nI_leI (by omega) (by omega)).mp c_150
                              have ei4 : i = 4 := by omega
                              rw [ei4] at hP hD
                              have hP : va_P (dC, dI) vwCl (wM cA ad th st tp tl cb cy (nI N) dn lf of (mfF st ro cb pi n q)) H := hP
                              have hD : va_D A (wM cA ad th st tp tl cb cy (nI N) dn lf of (mfF st ro cb pi n q)) := hD
                              have hpost : ((th, st, tp, tl, cb, cy, nI N, dn, lf, of, mfF st ro cb pi n q) : MS) = (th, st, tp, tl, cb, cy, nI N, dn, lf, of, hdF st ro cb pi n q) := by simp only [hdF, if_pos c_59]
                              exact W.vret hx hb hr (fun t ht hW => ⟨⟨(th, st, tp, tl, cb, cy, nI N, dn, lf, of, mfF st ro cb pi n q), rfl, hpost, by rw [ht]; exact hP, va_K.moved hW.alike hK, hD⟩, hS.F ht⟩) hS.2.2 dX1_headed_182
                            · have n_150 : ¬ 4 ≤ i := fun h => c_150 ((nI_leI (by omega) (by omega)).mpr h)
                              exfalso; omega
                          | succ k ih =>
                            intro i hk H locs ls hP hD hS hl
                            refine lv_iload hx hb dX1_headed_147 (lv_at hl 4 rfl) ?_
                            refine lv_iconst (v := nI 4) hx hb dX1_headed_149 (by decide) ?_
                            refine lv_icmp_ge (tgt := 182) hx hb dX1_headed_150 (by decide) (fun c_150 => ?_) (fun c_150 => ?_)
                            · have n_150 : 4 ≤ i := (nI_leI (by omega) (by omega)).mp c_150
                              exfalso; omega
                            · have n_150 : ¬ 4 ≤ i := fun h => c_150 ((nI_leI (by omega) (by omega)).mpr h)
                              refine lv_aload_n hx hb dX1_headed_153 rfl (lv_at hl 0 rfl) ?_
                              refine va_get (D := (dC, dI)) (ci := 1) (v := .ref (ad 5)) (C := RX1) (T := TX1) (N := 11) hx hb hts hin hown hK hP 0 rfl rfl 10 (by decide) (hts (.fieldLink RX1 28 "BlockJournalModel" "row" "[I") (by decide +kernel)) (fun _ h9 => h9) rfl dX1_headed_154 ?_
                              refine lv_bipush (v := nI 59) hx hb dX1_headed_157 (by decide) ?_
                              refine lv_iload hx hb dX1_headed_159 (lv_at hl 4 rfl) ?_
                              refine lv_iadd hx hb dX1_headed_161 ?_
                              refine bj_i (nI_add 59 i) ?_
                              refine lv_lload hx hb dX1_headed_162 (lv_at hl 3 rfl) ?_
                              refine lv_bipush (v := nI 8) hx hb dX1_headed_164 (by decide) ?_
                              refine lv_iload hx hb dX1_headed_166 (lv_at hl 4 rfl) ?_
                              refine lv_imul hx hb dX1_headed_168 ?_
                              refine bj_i (pk_mul 8 i) ?_
                              refine lv_lshr hx hb dX1_headed_169 rfl ?_
                              refine lv_ldc2 hx hb hown (hts (.constantLong RX1 79 (255)) (by decide +kernel)) dX1_headed_170 ?_
                              refine lv_land hx hb dX1_headed_173 ?_
                              refine lv_l2i hx hb dX1_headed_174 rfl ?_
                              refine va_iast (D := (dC, dI)) hx hb hK hP hD hS 5 0 (cA := cA) (n := 64) (f := (lb9 (tmF (upd (meF ro q) 4 (nI n)) cb pi n) (ckM st n) i)) rfl rfl (i := (nI (59 + i))) (vp_in_nI (by omega) (by omega)) dX1_headed_175 (fun H locs hP hD hS => ?_)
                              rw [nI_clamp (n := 59 + i) (by omega)] at hP hD
                              have hP : va_P (dC, dI) vwCl (wM cA ad th st tp tl cb cy (nI N) dn lf of (upd (lb9 (tmF (upd (meF ro q) 4 (nI n)) cb pi n) (ckM st n) i) (59 + i) ((((ckM st n) >>> ((nI (8 * i)).toInt64 &&& 63)) &&& (255)).toInt32))) H := hP
                              have hD : va_D A (wM cA ad th st tp tl cb cy (nI N) dn lf of (upd (lb9 (tmF (upd (meF ro q) 4 (nI n)) cb pi n) (ckM st n) i) (59 + i) ((((ckM st n) >>> ((nI (8 * i)).toInt64 &&& 63)) &&& (255)).toInt32))) := hD
                              refine lv_iinc (v := nI (i + 1)) (lv' := [(6, .int (nI (i + 1))), (0, .ref (ad 0)), (1, .long q), (3, .int (nI n)), (4, .long (ckM st n))]) hx hb dX1_headed_176 hl (k := 4) rfl (nI_add i 1) (by decide) rfl (fun ls hl => ?_)
                              refine lv_goto (tgt := 147) hx hb dX1_headed_179 (by decide) ?_
                              exact ih (i + 1) (by omega) _ _ _ hP hD hS (lv_sub hl [1, 2, 3, 4, 0] rfl)
                        exact loop_147 4 0 (by omega) _ _ _ hP hD hS (lv_sub hl [1, 2, 3, 4, 0] rfl)
                      · have n_83 : ¬ n ≤ i := fun h => c_83 ((nI_leI (by omega) (by omega)).mpr h)
                        exfalso; omega
                    | succ k ih =>
                      intro i hk H locs ls hP hD hS hl
                      refine lv_iload hx hb dX1_headed_80 (lv_at hl 4 rfl) ?_
                      refine lv_iload_n hx hb dX1_headed_82 rfl (lv_at hl 2 rfl) ?_
                      refine lv_icmp_ge (tgt := 144) hx hb dX1_headed_83 (by decide) (fun c_83 => ?_) (fun c_83 => ?_)
                      · have n_83 : n ≤ i := (nI_leI (by omega) (by omega)).mp c_83
                        exfalso; omega
                      · have n_83 : ¬ n ≤ i := fun h => c_83 ((nI_leI (by omega) (by omega)).mpr h)
                        refine lv_aload_n hx hb dX1_headed_86 rfl (lv_at hl 0 rfl) ?_
                        refine va_get (D := (dC, dI)) (ci := 1) (v := .ref (ad 5)) (C := RX1) (T := TX1) (N := 11) hx hb hts hin hown hK hP 0 rfl rfl 10 (by decide) (hts (.fieldLink RX1 28 "BlockJournalModel" "row" "[I") (by decide +kernel)) (fun _ h9 => h9) rfl dX1_headed_87 ?_
                        refine lv_iconst (v := nI 5) hx hb dX1_headed_90 (by decide) ?_
                        refine lv_iconst (v := nI 2) hx hb dX1_headed_91 (by decide) ?_
                        refine lv_iload hx hb dX1_headed_92 (lv_at hl 4 rfl) ?_
                        refine lv_imul hx hb dX1_headed_94 ?_
                        refine bj_i (pk_mul 2 i) ?_
                        refine lv_iadd hx hb dX1_headed_95 ?_
                        refine bj_i (nI_add 5 (2 * i)) ?_
                        refine lv_aload_n hx hb dX1_headed_96 rfl (lv_at hl 0 rfl) ?_
                        refine va_get (D := (dC, dI)) (ci := 1) (v := .ref (ad 3)) (C := RX1) (T := TX1) (N := 11) hx hb hts hin hown hK hP 0 rfl rfl 4 (by decide) (hts (.fieldLink RX1 16 "BlockJournalModel" "change" "[I") (by decide +kernel)) (fun _ h9 => h9) rfl dX1_headed_97 ?_
                        refine lv_aload_n hx hb dX1_headed_100 rfl (lv_at hl 0 rfl) ?_
                        refine lv_iload hx hb dX1_headed_101 (lv_at hl 4 rfl) ?_
                        refine bj_call (v := .int (raF cb N i N 0)) (W.runV (As := [.int (nI i)]) (rest := [.ref (ad 3), .int (nI (5 + (2 * i))), .ref (ad 5)]) ⟨hx, hb, hml, hown, hts⟩ (c_X1_ranked l dC dI cA ad th st tp tl cb cy dn lf of (tmF (upd (meF ro q) 4 (nI n)) cb pi i) N i (by omega) (by omega)) (cwV 1 hts gX1_headed_X1_ranked rfl rfl rfl (by decide +kernel) ⟨Nat.le_of_ble_eq_true rfl, Nat.le_of_ble_eq_true rfl⟩) ⟨fun a U g mk q => by obtain ⟨q0, qP, qK⟩ := q; exact ⟨q0, qP, va_K.moved (u := U) (U := U.calling g mk a) (Vm.Alike.refl U.vm) qK⟩, va_recv hK hP (ci := 1) (q0 := 0) rfl rfl, fun U hU hW => ⟨rfl, by rw [hU]; exact hP, va_K.moved hW.alike hK⟩⟩ rfl rfl hl.1 rfl (lv_room (Nat.le_of_ble_eq_true rfl)) dX1_headed_103 ⟨Nat.le_of_ble_eq_true rfl, Nat.le_of_ble_eq_true rfl⟩) ?_
                        obtain ⟨hp_106, ep_106⟩ := hpi i (by omega)
                        refine bj_i (y := nI (pi i)) (ep_106) ?_
                        refine va_iald (D := (dC, dI)) hx hb hK hP 3 0 (cA := cA) (n := 24) (f := cb) rfl rfl (i := (nI (pi i))) (vp_in_nI (by omega) (by omega)) dX1_headed_106 ?_
                        refine bj_i (y := cb (pi i)) (congrArg cb (nI_clamp (by omega))) ?_
                        refine lv_sipush (v := nI 255) hx hb dX1_headed_107 (by decide) ?_
                        refine lv_iand hx hb dX1_headed_110 ?_
                        refine va_iast (D := (dC, dI)) hx hb hK hP hD hS 5 0 (cA := cA) (n := 64) (f := (tmF (upd (meF ro q) 4 (nI n)) cb pi i)) rfl rfl (i := (nI (5 + (2 * i)))) (vp_in_nI (by omega) (by omega)) dX1_headed_111 (fun H locs hP hD hS => ?_)
                        rw [nI_clamp (n := 5 + (2 * i)) (by omega)] at hP hD
                        have hP : va_P (dC, dI) vwCl (wM cA ad th st tp tl cb cy (nI N) dn lf of (upd (tmF (upd (meF ro q) 4 (nI n)) cb pi i) (5 + (2 * i)) ((cb (pi i)) &&& (nI 255)))) H := hP
                        have hD : va_D A (wM cA ad th st tp tl cb cy (nI N) dn lf of (upd (tmF (upd (meF ro q) 4 (nI n)) cb pi i) (5 + (2 * i)) ((cb (pi i)) &&& (nI 255)))) := hD
                        refine lv_aload_n hx hb dX1_headed_112 rfl (lv_at hl 0 rfl) ?_
                        refine va_get (D := (dC, dI)) (ci := 1) (v := .ref (ad 5)) (C := RX1) (T := TX1) (N := 11) hx hb hts hin hown hK hP 0 rfl rfl 10 (by decide) (hts (.fieldLink RX1 28 "BlockJournalModel" "row" "[I") (by decide +kernel)) (fun _ h9 => h9) rfl dX1_headed_113 ?_
                        refine lv_bipush (v := nI 6) hx hb dX1_headed_116 (by decide) ?_
                        refine lv_iconst (v := nI 2) hx hb dX1_headed_118 (by decide) ?_
                        refine lv_iload hx hb dX1_headed_119 (lv_at hl 4 rfl) ?_
                        refine lv_imul hx hb dX1_headed_121 ?_
                        refine bj_i (pk_mul 2 i) ?_
                        refine lv_iadd hx hb dX1_headed_122 ?_
                        refine bj_i (nI_add 6 (2 * i)) ?_
                        refine lv_aload_n hx hb dX1_headed_123 rfl (lv_at hl 0 rfl) ?_
                        refine va_get (D := (dC, dI)) (ci := 1) (v := .ref (ad 3)) (C := RX1) (T := TX1) (N := 11) hx hb hts hin hown hK hP 0 rfl rfl 4 (by decide) (hts (.fieldLink RX1 16 "BlockJournalModel" "change" "[I") (by decide +kernel)) (fun _ h9 => h9) rfl dX1_headed_124 ?_
                        refine lv_aload_n hx hb dX1_headed_127 rfl (lv_at hl 0 rfl) ?_
                        refine lv_iload hx hb dX1_headed_128 (lv_at hl 4 rfl) ?_
                        refine bj_call (v := .int (raF cb N i N 0)) (W.runV (As := [.int (nI i)]) (rest := [.ref (ad 3), .int (nI (6 + (2 * i))), .ref (ad 5)]) ⟨hx, hb, hml, hown, hts⟩ (c_X1_ranked l dC dI cA ad th st tp tl cb cy dn lf of (upd (tmF (upd (meF ro q) 4 (nI n)) cb pi i) (5 + (2 * i)) ((cb (pi i)) &&& (nI 255))) N i (by omega) (by omega)) (cwV 1 hts gX1_headed_X1_ranked rfl rfl rfl (by decide +kernel) ⟨Nat.le_of_ble_eq_true rfl, Nat.le_of_ble_eq_true rfl⟩) ⟨fun a U g mk q => by obtain ⟨q0, qP, qK⟩ := q; exact ⟨q0, qP, va_K.moved (u := U) (U := U.calling g mk a) (Vm.Alike.refl U.vm) qK⟩, va_recv hK hP (ci := 1) (q0 := 0) rfl rfl, fun U hU hW => ⟨rfl, by rw [hU]; exact hP, va_K.moved hW.alike hK⟩⟩ rfl rfl hl.1 rfl (lv_room (Nat.le_of_ble_eq_true rfl)) dX1_headed_130 ⟨Nat.le_of_ble_eq_true rfl, Nat.le_of_ble_eq_true rfl⟩) ?_
                        obtain ⟨hp_133, ep_133⟩ := hpi i (by omega)
                        refine bj_i (y := nI (pi i)) (ep_133) ?_
                        refine va_iald (D := (dC, dI)) hx hb hK hP 3 0 (cA := cA) (n := 24) (f := cb) rfl rfl (i := (nI (pi i))) (vp_in_nI (by omega) (by omega)) dX1_headed_133 ?_
                        refine bj_i (y := cb (pi i)) (congrArg cb (nI_clamp (by omega))) ?_
                        refine lv_bipush (v := nI 8) hx hb dX1_headed_134 (by decide) ?_
                        refine lv_ishr hx hb dX1_headed_136 ?_
                        refine va_iast (D := (dC, dI)) hx hb hK hP hD hS 5 0 (cA := cA) (n := 64) (f := (upd (tmF (upd (meF ro q) 4 (nI n)) cb pi i) (5 + (2 * i)) ((cb (pi i)) &&& (nI 255)))) rfl rfl (i := (nI (6 + (2 * i)))) (vp_in_nI (by omega) (by omega)) dX1_headed_137 (fun H locs hP hD hS => ?_)
                        rw [nI_clamp (n := 6 + (2 * i)) (by omega)] at hP hD
                        have hP : va_P (dC, dI) vwCl (wM cA ad th st tp tl cb cy (nI N) dn lf of (upd (upd (tmF (upd (meF ro q) 4 (nI n)) cb pi i) (5 + (2 * i)) ((cb (pi i)) &&& (nI 255))) (6 + (2 * i)) ((cb (pi i)) >>> ((nI 8) &&& 31)))) H := hP
                        have hD : va_D A (wM cA ad th st tp tl cb cy (nI N) dn lf of (upd (upd (tmF (upd (meF ro q) 4 (nI n)) cb pi i) (5 + (2 * i)) ((cb (pi i)) &&& (nI 255))) (6 + (2 * i)) ((cb (pi i)) >>> ((nI 8) &&& 31)))) := hD
                        refine lv_iinc (v := nI (i + 1)) (lv' := [(6, .int (nI (i + 1))), (0, .ref (ad 0)), (1, .long q), (3, .int (nI n)), (4, .long (ckM st n))]) hx hb dX1_headed_138 hl (k := 4) rfl (nI_add i 1) (by decide) rfl (fun ls hl => ?_)
                        refine lv_goto (tgt := 80) hx hb dX1_headed_141 (by decide) ?_
                        exact ih (i + 1) (by omega) _ _ _ hP hD hS (lv_sub hl [1, 2, 3, 4, 0] rfl)
                  exact loop_80 n 0 (by omega) _ _ _ hP hD hS (lv_sub hl [2, 3, 4, 1, 0] rfl)
                · have hpost : ((th, st, tp, tl, cb, cy, nI N, dn, lf, of, meF ro q) : MS) = (th, st, tp, tl, cb, cy, nI N, dn, lf, of, hdF st ro cb pi n q) := by simp only [hdF, if_neg (not_not_intro c_59)]
                  exact W.vret hx hb hr (fun t ht hW => ⟨⟨(th, st, tp, tl, cb, cy, nI N, dn, lf, of, meF ro q), rfl, hpost, by rw [ht]; exact hP, va_K.moved hW.alike hK, hD⟩, hS.F ht⟩) hS.2.2 dX1_headed_62
              · have n_30 : ¬ 4 ≤ i := fun h => c_30 ((nI_leI (by omega) (by omega)).mpr h)
                exfalso; omega
            | succ k ih =>
              intro i hk H locs ls hP hD hS hl
              refine lv_iload hx hb dX1_headed_27 (lv_at hl 3 rfl) ?_
              refine lv_iconst (v := nI 4) hx hb dX1_headed_29 (by decide) ?_
              refine lv_icmp_ge (tgt := 58) hx hb dX1_headed_30 (by decide) (fun c_30 => ?_) (fun c_30 => ?_)
              · have n_30 : 4 ≤ i := (nI_leI (by omega) (by omega)).mp c_30
                exfalso; omega
              · have n_30 : ¬ 4 ≤ i := fun h => c_30 ((nI_leI (by omega) (by omega)).mpr h)
                refine lv_aload_n hx hb dX1_headed_33 rfl (lv_at hl 0 rfl) ?_
                refine va_get (D := (dC, dI)) (ci := 1) (v := .ref (ad 5)) (C := RX1) (T := TX1) (N := 11) hx hb hts hin hown hK hP 0 rfl rfl 10 (by decide) (hts (.fieldLink RX1 28 "BlockJournalModel" "row" "[I") (by decide +kernel)) (fun _ h9 => h9) rfl dX1_headed_34 ?_
                refine lv_iload hx hb dX1_headed_37 (lv_at hl 3 rfl) ?_
                refine lv_lload_n hx hb dX1_headed_39 rfl (lv_at hl 1 rfl) ?_
                refine lv_bipush (v := nI 8) hx hb dX1_headed_40 (by decide) ?_
                refine lv_iload hx hb dX1_headed_42 (lv_at hl 3 rfl) ?_
                refine lv_imul hx hb dX1_headed_44 ?_
                refine bj_i (pk_mul 8 i) ?_
                refine lv_lshr hx hb dX1_headed_45 rfl ?_
                refine lv_ldc2 hx hb hown (hts (.constantLong RX1 79 (255)) (by decide +kernel)) dX1_headed_46 ?_
                refine lv_land hx hb dX1_headed_49 ?_
                refine lv_l2i hx hb dX1_headed_50 rfl ?_
                refine va_iast (D := (dC, dI)) hx hb hK hP hD hS 5 0 (cA := cA) (n := 64) (f := (lb0 (fiF ro (nI 0) 64) q i)) rfl rfl (i := (nI i)) (vp_in_nI (by omega) (by omega)) dX1_headed_51 (fun H locs hP hD hS => ?_)
                rw [nI_clamp (n := i) (by omega)] at hP hD
                have hP : va_P (dC, dI) vwCl (wM cA ad th st tp tl cb cy (nI N) dn lf of (upd (lb0 (fiF ro (nI 0) 64) q i) i (((q >>> ((nI (8 * i)).toInt64 &&& 63)) &&& (255)).toInt32))) H := hP
                have hD : va_D A (wM cA ad th st tp tl cb cy (nI N) dn lf of (upd (lb0 (fiF ro (nI 0) 64) q i) i (((q >>> ((nI (8 * i)).toInt64 &&& 63)) &&& (255)).toInt32))) := hD
                refine lv_iinc (v := nI (i + 1)) (lv' := [(4, .int (nI (i + 1))), (0, .ref (ad 0)), (1, .long q), (3, .int (nI n))]) hx hb dX1_headed_52 hl (k := 3) rfl (nI_add i 1) (by decide) rfl (fun ls hl => ?_)
                refine lv_goto (tgt := 27) hx hb dX1_headed_55 (by decide) ?_
                exact ih (i + 1) (by omega) _ _ _ hP hD hS (lv_sub hl [1, 2, 3, 0] rfl)
          exact loop_27 4 0 (by omega) _ _ _ hP hD hS (lv_sub hl [1, 2, 3, 0] rfl)
        · have n_7 : ¬ 64 ≤ i := fun h => c_7 ((nI_leI (by omega) (by omega)).mpr h)
          exfalso; omega
      | succ k ih =>
        intro i hk H locs ls hP hD hS hl
        refine lv_iload hx hb dX1_headed_3 (lv_at hl 3 rfl) ?_
        refine lv_bipush (v := nI 64) hx hb dX1_headed_5 (by decide) ?_
        refine lv_icmp_ge (tgt := 24) hx hb dX1_headed_7 (by decide) (fun c_7 => ?_) (fun c_7 => ?_)
        · have n_7 : 64 ≤ i := (nI_leI (by omega) (by omega)).mp c_7
          exfalso; omega
        · have n_7 : ¬ 64 ≤ i := fun h => c_7 ((nI_leI (by omega) (by omega)).mpr h)
          refine lv_aload_n hx hb dX1_headed_10 rfl (lv_at hl 0 rfl) ?_
          refine va_get (D := (dC, dI)) (ci := 1) (v := .ref (ad 5)) (C := RX1) (T := TX1) (N := 11) hx hb hts hin hown hK hP 0 rfl rfl 10 (by decide) (hts (.fieldLink RX1 28 "BlockJournalModel" "row" "[I") (by decide +kernel)) (fun _ h9 => h9) rfl dX1_headed_11 ?_
          refine lv_iload hx hb dX1_headed_14 (lv_at hl 3 rfl) ?_
          refine lv_iconst (v := nI 0) hx hb dX1_headed_16 (by decide) ?_
          refine va_iast (D := (dC, dI)) hx hb hK hP hD hS 5 0 (cA := cA) (n := 64) (f := (fiF ro (nI 0) i)) rfl rfl (i := (nI i)) (vp_in_nI (by omega) (by omega)) dX1_headed_17 (fun H locs hP hD hS => ?_)
          rw [nI_clamp (n := i) (by omega)] at hP hD
          have hP : va_P (dC, dI) vwCl (wM cA ad th st tp tl cb cy (nI N) dn lf of (upd (fiF ro (nI 0) i) i (nI 0))) H := hP
          have hD : va_D A (wM cA ad th st tp tl cb cy (nI N) dn lf of (upd (fiF ro (nI 0) i) i (nI 0))) := hD
          rw [fiF_up] at hP hD
          refine lv_iinc (v := nI (i + 1)) (lv' := [(4, .int (nI (i + 1))), (0, .ref (ad 0)), (1, .long q), (3, .int (nI n))]) hx hb dX1_headed_18 hl (k := 3) rfl (nI_add i 1) (by decide) rfl (fun ls hl => ?_)
          refine lv_goto (tgt := 3) hx hb dX1_headed_21 (by decide) ?_
          exact ih (i + 1) (by omega) _ _ _ hP hD hS (lv_sub hl [1, 2, 3, 0] rfl)
    exact loop_3 64 0 (by omega) _ _ _ hP hD hS (lv_sub hl [1, 2, 3, 0] rfl)
  rw [hH, hlo] at goal
  exact goal

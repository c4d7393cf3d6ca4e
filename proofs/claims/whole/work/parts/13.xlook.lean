theorem sw_out {x : Int32} {n : Nat} (hn : n < 2 ^ 31) (h : ∀ v, v ≤ n → ¬ x = nI v) : x.toInt < 0 ∨ (n : Int) < x.toInt := by
  by_cases a : x < 0
  · left; exact Int32.lt_iff_toInt_lt.mp a
  · obtain ⟨j, hj, e⟩ := nI_of a
    right
    rw [e, nI_toInt hj]
    rcases Nat.lt_or_ge n j with q | q
    · exact Int.ofNat_lt.mpr q
    · exact absurd e (h j q)
def chK (i : Int32) (n : Nat) : Nat := if i < 0 then 1 else if i < nI n then 0 else 1
def lkK (w : Int32) : Nat := if w = nI 0 then 0 else if w = nI 1 then 0 else if w = nI 2 then 0 else if w = nI 3 then 0 else if w = nI 4 then 0 else if w = nI 5 then 0 else if w = nI 6 then 0 else 1
def lkR (w : Int32) (st ck : Nat → Int32) (nc : Int32) (o : Bool) (wl : Int32) (wd : Int64) : Int64 := if w = nI 0 then (hwF st 0 4).toInt64 &&& 4294967295 else if w = nI 1 then (st 4).toInt64 else if w = nI 2 then (if bI (hrF st ck) = 0 then 0 else 1) else if w = nI 3 then nc.toInt64 else if w = nI 4 then wd else if w = nI 5 then (if bI o = 0 then 0 else 1) else if w = nI 6 then wl.toInt64 else 0

set_option maxHeartbeats 4000000 in
set_option maxRecDepth 100000 in
theorem c_X0_change (l : Launch) (h9 : l.stackTraces = false) (dC : Nat → ClassId) (dI : Nat → Nat → Nat) (cA : ClassId) (ad : Nat → Nat) (sz : Nat) (st ck nh tp : Nat → Int32) (tl : Int32) (cb cy : Nat → Int32) (of wl : Int32) (wd : Int64) (n : Nat) (i : Int32) (hn : n ≤ 24) : vx_Met l yX0_change wsX0_change ({ frames := 6, cells := 1, slots := 6, locals := 82 } : Room) (va_Pc [.ref (ad 0), .int i] (fun U => U.heap.size = sz ∧ va_P (dC, dI) vwCl (wX cA ad st ck nh tp tl cb cy (nI n) of wl wd) U.heap ∧ va_K (dC, dI) vwCl [(cA, .int)] U ∧ va_D (fun _ => True) (wX cA ad st ck nh tp tl cb cy (nI n) of wl wd) ∧ bjE (va_A (wX cA ad st ck nh tp tl cb cy (nI n) of wl wd) sz) U U.heap)) (va_Qi (fun (r : Int32) (u : XS) => chK i n = 0 ∧ r = cb i.toNatClampNeg ∧ u = (st, nh, tp, tl, cb, cy, nI n, of, wl, wd)) (aX dC dI cA ad ck (va_A (wX cA ad st ck nh tp tl cb cy (nI n) of wl wd) sz)) (va_A (wX cA ad st ck nh tp tl cb cy (nI n) of wl wd) sz)) (vx_X (fun _ : Unit => True) (fun E _ t => ((chK i n = 1 ∧ E = "java/util/NoSuchElementException")) ∧ aX dC dI cA ad ck (va_A (wX cA ad st ck nh tp tl cb cy (nI n) of wl wd) sz) (st, nh, tp, tl, cb, cy, nI n, of, wl, wd) t) (va_A (wX cA ad st ck nh tp tl cb cy (nI n) of wl wd) sz)) 1 6 (va_A (wX cA ad st ck nh tp tl cb cy (nI n) of wl wd) sz) := by
  refine vx_ofW (cc := cX0_change) (maxL := 2) (ret := (some .int)) (by decide) rfl ?_
  intro p e s m args below meth c s₁ B hml hnt hv
  obtain ⟨rfl, hsz, hP, hK, hD0, hE⟩ := hv
  have hx := B.exec
  have hb := B.bytes
  have hr := B.returns
  have hts := atoms_spec (ws := wsX0_change) B.pre
  have hown : s.vm.findClass RX0 = some m.cls := findClass_of_methodNamed B.named
  have hlocks := B.notSynchronized
  have hin : ∀ w ∈ u_ws RX0 TX0 11, w ∈ wsX0_change := by decide +kernel
  subst hsz
  have hD := hD0.self (sz := s.heap.size)
  generalize hAe : va_A (wX cA ad st ck nh tp tl cb cy (nI n) of wl wd) s.heap.size = A at hD hE ⊢
  have hA : ∀ q : Nat, s.heap.size ≤ q → A q := fun q h => by rw [← hAe]; exact Or.inr h
  obtain ⟨H, locs, hH, hlo, hS⟩ : ∃ (H : Heap) (locs : List Loc), H = s.heap ∧ locs = [] ∧ va_S A s.heap H locs := ⟨s.heap, [], rfl, rfl, va_S.rf⟩
  rw [← hH] at hP
  have hP : va_P (dC, dI) vwCl (wX cA ad st ck nh tp tl cb cy (nI n) of wl wd) H := hP
  have hl := lv_entry ([.ref (ad 0), .int i]) (n := 2) (Nat.le_of_ble_eq_true rfl)
  rw [lg_entry_eq]
  generalize (lg_sl ([.ref (ad 0), .int i]) ++ List.replicate (2 - (lg_sl ([.ref (ad 0), .int i])).length) Slot.unset).toArray = ls at hl ⊢
  have goal : W p l e (headSpec wsX0_change ({ frames := 6, cells := 1, slots := 6, locals := 82 } : Room)).room s m ([.ref (ad 0), .int i] : List Value).toArray below meth c H locs 0 0 (vx_MQ below (va_Qi (fun (r : Int32) (u : XS) => chK i n = 0 ∧ r = cb i.toNatClampNeg ∧ u = (st, nh, tp, tl, cb, cy, nI n, of, wl, wd)) (aX dC dI cA ad ck A) A) (vx_X (fun _ : Unit => True) (fun E _ t => ((chK i n = 1 ∧ E = "java/util/NoSuchElementException")) ∧ aX dC dI cA ad ck A (st, nh, tp, tl, cb, cy, nI n, of, wl, wd) t) A) ([.ref (ad 0), .int i] : List Value).toArray s 1 6 A) (F0 m 0 ls []) := by
    clear hH hlo
    have hl : lv_has ls 2 [(0, .ref (ad 0)), (1, .int i)] := hl
    refine lv_iload_n hx hb dX0_change_0 rfl (lv_at hl 1 rfl) ?_
    refine lv_if_lt (tgt := 12) hx hb dX0_change_1 (by decide) (fun c_1 => ?_) (fun c_1 => ?_)
    · obtain ⟨sa, hsa⟩ := hE.2.2.2 (127, "there is no such change") (by decide +kernel)
      have hgd : ∀ w ∈ (bx_atN RX0 129).filter goodWord, w ∈ wsX0_change := by decide +kernel
      exact bx_throwN (own := RX0) (text := "there is no such change") hx hb h9 hown (hts (.classLink RX0 125 "java/util/NoSuchElementException") (by decide +kernel)) (hts (.initialized "java/util/NoSuchElementException") (by decide +kernel)) hsa (vx_hat (B := bjB) (fun w h => hts w (hgd w h)) (by decide +kernel) (fun w h => va_any (by revert w; decide +kernel) (hE.2.2.1 w h))) (by decide +kernel) hE.1 hE.2.1 hS (hl.1.trans hml.symm) dX0_change_12 dX0_change_15 dX0_change_16 dX0_change_18 dX0_change_21 (fun x hx9 => (hnt x hx9).elim) (Nat.le_of_ble_eq_true rfl) (Nat.le_of_ble_eq_true rfl) (Nat.le_of_ble_eq_true rfl) (Nat.le_of_ble_eq_true rfl) hlocks (fun t hal hz hk => ⟨(), trivial, ⟨⟨by rw [chK, if_pos c_1], rfl⟩, (bj_thr hP hK hD hS hal hz hk).1⟩, (bj_thr hP hK hD hS hal hz hk).2⟩) hS.2.2 (Nat.le_of_ble_eq_true rfl) (Nat.le_of_ble_eq_true rfl)
    · refine lv_iload_n hx hb dX0_change_4 rfl (lv_at hl 1 rfl) ?_
      refine lv_aload_n hx hb dX0_change_5 rfl (lv_at hl 0 rfl) ?_
      refine va_get (D := (dC, dI)) (ci := 0) (v := .int (nI n)) (C := RX0) (T := TX0) (N := 11) hx hb hts hin hown hK hP 0 rfl rfl 7 (by decide) (hts (.fieldLink RX0 64 "BlockJournal" "changes" "I") (by decide +kernel)) (fun _ h9 => h9) rfl dX0_change_6 ?_
      refine lv_icmp_lt (tgt := 22) hx hb dX0_change_9 (by decide) (fun c_9 => ?_) (fun c_9 => ?_)
      · obtain ⟨j, hj, ej⟩ := nI_of c_1
        have hjn : j < n := by
          rw [ej] at c_9
          exact (nI_ltI hj (by omega)).mp c_9
        have hcl : i.toNatClampNeg = j := by rw [ej]; exact nI_clamp hj
        rw [ej] at hl
        refine lv_aload_n hx hb dX0_change_22 rfl (lv_at hl 0 rfl) ?_
        refine va_get (D := (dC, dI)) (ci := 0) (v := .ref (ad 5)) (C := RX0) (T := TX0) (N := 11) hx hb hts hin hown hK hP 0 rfl rfl 5 (by decide) (hts (.fieldLink RX0 22 "BlockJournal" "changeBlocks" "[I") (by decide +kernel)) (fun _ h9 => h9) rfl dX0_change_23 ?_
        refine lv_iload_n hx hb dX0_change_26 rfl (lv_at hl 1 rfl) ?_
        refine va_iald (D := (dC, dI)) hx hb hK hP 5 0 (cA := cA) (n := 24) (f := cb) rfl rfl (i := (nI j)) (vp_in_nI (by omega) (by omega)) dX0_change_27 ?_
        refine bj_i (y := cb j) (congrArg cb (nI_clamp (by omega))) ?_
        have hcode : chK i n = 0 := by rw [chK, if_neg c_1, if_pos c_9]
        have hpost : ((st, nh, tp, tl, cb, cy, nI n, of, wl, wd) : XS) = (st, nh, tp, tl, cb, cy, nI n, of, wl, wd) := rfl
        refine W.widen (k := 1) (n := 6) (Nat.zero_le _) (Nat.zero_le _) ?_
        refine vx_ret ?_
        have hres : cb j = cb i.toNatClampNeg := by rw [hcl]
        exact W.iret (v := cb j) hx hb hr (fun t ht hW => ⟨⟨_, (st, nh, tp, tl, cb, cy, nI n, of, wl, wd), rfl, ⟨hcode, hres, hpost⟩, by rw [ht]; exact hP, va_K.moved hW.alike hK, hD⟩, hS.F ht⟩) hS.2.2 dX0_change_28
      · obtain ⟨sa, hsa⟩ := hE.2.2.2 (127, "there is no such change") (by decide +kernel)
        have hgd : ∀ w ∈ (bx_atN RX0 129).filter goodWord, w ∈ wsX0_change := by decide +kernel
        exact bx_throwN (own := RX0) (text := "there is no such change") hx hb h9 hown (hts (.classLink RX0 125 "java/util/NoSuchElementException") (by decide +kernel)) (hts (.initialized "java/util/NoSuchElementException") (by decide +kernel)) hsa (vx_hat (B := bjB) (fun w h => hts w (hgd w h)) (by decide +kernel) (fun w h => va_any (by revert w; decide +kernel) (hE.2.2.1 w h))) (by decide +kernel) hE.1 hE.2.1 hS (hl.1.trans hml.symm) dX0_change_12 dX0_change_15 dX0_change_16 dX0_change_18 dX0_change_21 (fun x hx9 => (hnt x hx9).elim) (Nat.le_of_ble_eq_true rfl) (Nat.le_of_ble_eq_true rfl) (Nat.le_of_ble_eq_true rfl) (Nat.le_of_ble_eq_true rfl) hlocks (fun t hal hz hk => ⟨(), trivial, ⟨⟨by rw [chK, if_neg c_1, if_neg c_9], rfl⟩, (bj_thr hP hK hD hS hal hz hk).1⟩, (bj_thr hP hK hD hS hal hz hk).2⟩) hS.2.2 (Nat.le_of_ble_eq_true rfl) (Nat.le_of_ble_eq_true rfl)
  rw [hH, hlo] at goal
  exact goal

set_option maxHeartbeats 4000000 in
set_option maxRecDepth 100000 in
theorem c_X0_look (l : Launch) (h9 : l.stackTraces = false) (dC : Nat → ClassId) (dI : Nat → Nat → Nat) (cA : ClassId) (ad : Nat → Nat) (sz : Nat) (st ck nh tp : Nat → Int32) (tl : Int32) (cb cy : Nat → Int32) (nc wl : Int32) (wd : Int64) (o : Bool) (w : Int32)  : vx_Met l yX0_look wsX0_look ({ frames := 6, cells := 1, slots := 6, locals := 82 } : Room) (va_Pc [.ref (ad 0), .int w] (fun U => U.heap.size = sz ∧ va_P (dC, dI) vwCl (wX cA ad st ck nh tp tl cb cy nc (bI o) wl wd) U.heap ∧ va_K (dC, dI) vwCl [(cA, .int)] U ∧ va_D (fun _ => True) (wX cA ad st ck nh tp tl cb cy nc (bI o) wl wd) ∧ bjE (va_A (wX cA ad st ck nh tp tl cb cy nc (bI o) wl wd) sz) U U.heap)) (va_Ql (fun (r : Int64) (u : XS) => lkK w = 0 ∧ r = lkR w st ck nc o wl wd ∧ u = (st, nh, tp, tl, cb, cy, nc, bI o, wl, wd)) (aX dC dI cA ad ck (va_A (wX cA ad st ck nh tp tl cb cy nc (bI o) wl wd) sz)) (va_A (wX cA ad st ck nh tp tl cb cy nc (bI o) wl wd) sz)) (vx_X (fun _ : Unit => True) (fun E _ t => ((lkK w = 1 ∧ E = "java/util/NoSuchElementException")) ∧ aX dC dI cA ad ck (va_A (wX cA ad st ck nh tp tl cb cy nc (bI o) wl wd) sz) (st, nh, tp, tl, cb, cy, nc, bI o, wl, wd) t) (va_A (wX cA ad st ck nh tp tl cb cy nc (bI o) wl wd) sz)) 1 6 (va_A (wX cA ad st ck nh tp tl cb cy nc (bI o) wl wd) sz) := by
  refine vx_ofW (cc := cX0_look) (maxL := 2) (ret := (some .long)) (by decide) rfl ?_
  intro p e s m args below meth c s₁ B hml hnt hv
  obtain ⟨rfl, hsz, hP, hK, hD0, hE⟩ := hv
  have hx := B.exec
  have hb := B.bytes
  have hr := B.returns
  have hts := atoms_spec (ws := wsX0_look) B.pre
  have hown : s.vm.findClass RX0 = some m.cls := findClass_of_methodNamed B.named
  have hlocks := B.notSynchronized
  have hin : ∀ w ∈ u_ws RX0 TX0 11, w ∈ wsX0_look := by decide +kernel
  subst hsz
  have hD := hD0.self (sz := s.heap.size)
  generalize hAe : va_A (wX cA ad st ck nh tp tl cb cy nc (bI o) wl wd) s.heap.size = A at hD hE ⊢
  have hA : ∀ q : Nat, s.heap.size ≤ q → A q := fun q h => by rw [← hAe]; exact Or.inr h
  obtain ⟨H, locs, hH, hlo, hS⟩ : ∃ (H : Heap) (locs : List Loc), H = s.heap ∧ locs = [] ∧ va_S A s.heap H locs := ⟨s.heap, [], rfl, rfl, va_S.rf⟩
  rw [← hH] at hP
  have hP : va_P (dC, dI) vwCl (wX cA ad st ck nh tp tl cb cy nc (bI o) wl wd) H := hP
  have hl := lv_entry ([.ref (ad 0), .int w]) (n := 2) (Nat.le_of_ble_eq_true rfl)
  rw [lg_entry_eq]
  generalize (lg_sl ([.ref (ad 0), .int w]) ++ List.replicate (2 - (lg_sl ([.ref (ad 0), .int w])).length) Slot.unset).toArray = ls at hl ⊢
  have goal : W p l e (headSpec wsX0_look ({ frames := 6, cells := 1, slots := 6, locals := 82 } : Room)).room s m ([.ref (ad 0), .int w] : List Value).toArray below meth c H locs 0 0 (vx_MQ below (va_Ql (fun (r : Int64) (u : XS) => lkK w = 0 ∧ r = lkR w st ck nc o wl wd ∧ u = (st, nh, tp, tl, cb, cy, nc, bI o, wl, wd)) (aX dC dI cA ad ck A) A) (vx_X (fun _ : Unit => True) (fun E _ t => ((lkK w = 1 ∧ E = "java/util/NoSuchElementException")) ∧ aX dC dI cA ad ck A (st, nh, tp, tl, cb, cy, nc, bI o, wl, wd) t) A) ([.ref (ad 0), .int w] : List Value).toArray s 1 6 A) (F0 m 0 ls []) := by
    clear hH hlo
    have hl : lv_has ls 2 [(0, .ref (ad 0)), (1, .int w)] := hl
    refine lv_iload_n hx hb dX0_look_0 rfl (lv_at hl 1 rfl) ?_
    by_cases e_0 : w = nI 0
    · refine lv_tableIn (off := 43) (tgt := 44) hx hb dX0_look_1 (by rw [e_0]; decide) (by rw [e_0]; decide) (by rw [e_0]; rfl) (by decide) ?_
      refine lv_aload_n hx hb dX0_look_44 rfl (lv_at hl 0 rfl) ?_
      refine lv_iconst (v := nI 0) hx hb dX0_look_45 (by decide) ?_
      refine bj_call (v := .int (hwF st 0 4)) (W.runV (As := [.int (nI 0)]) (rest := []) ⟨hx, hb, hml, hown, hts⟩ (c_X0_headWord l dC dI cA ad st ck nh tp tl cb cy nc (bI o) wl wd 0 (by decide)) (cwV 1 hts gX0_look_X0_headWord rfl rfl rfl (by decide +kernel) ⟨Nat.le_of_ble_eq_true rfl, Nat.le_of_ble_eq_true rfl⟩) ⟨fun a U g mk q => by obtain ⟨q0, qP, qK⟩ := q; exact ⟨q0, qP, va_K.moved (u := U) (U := U.calling g mk a) (Vm.Alike.refl U.vm) qK⟩, va_recv hK hP (ci := 0) (q0 := 0) rfl rfl, fun U hU hW => ⟨rfl, by rw [hU]; exact hP, va_K.moved hW.alike hK⟩⟩ rfl rfl hl.1 rfl (lv_room (Nat.le_of_ble_eq_true rfl)) dX0_look_46 ⟨Nat.le_of_ble_eq_true rfl, Nat.le_of_ble_eq_true rfl⟩) ?_
      refine lv_i2l hx hb dX0_look_49 rfl ?_
      refine lv_ldc2 hx hb hown (hts (.constantLong RX0 130 (4294967295)) (by decide +kernel)) dX0_look_50 ?_
      refine lv_land hx hb dX0_look_53 ?_
      have hcode : lkK w = 0 := by rw [lkK, if_pos e_0]
      have hpost : ((st, nh, tp, tl, cb, cy, nc, bI o, wl, wd) : XS) = (st, nh, tp, tl, cb, cy, nc, bI o, wl, wd) := rfl
      refine W.widen (k := 1) (n := 6) (Nat.zero_le _) (Nat.zero_le _) ?_
      refine vx_ret ?_
      have hres : ((hwF st 0 4).toInt64) &&& (4294967295) = lkR w st ck nc o wl wd := by rw [lkR, if_pos e_0]
      exact W.lret (v := ((hwF st 0 4).toInt64) &&& (4294967295)) hx hb hr (fun t ht hW => ⟨⟨_, (st, nh, tp, tl, cb, cy, nc, bI o, wl, wd), rfl, ⟨hcode, hres, hpost⟩, by rw [ht]; exact hP, va_K.moved hW.alike hK, hD⟩, hS.F ht⟩) hS.2.2 dX0_look_54
    · by_cases e_1 : w = nI 1
      · refine lv_tableIn (off := 54) (tgt := 55) hx hb dX0_look_1 (by rw [e_1]; decide) (by rw [e_1]; decide) (by rw [e_1]; rfl) (by decide) ?_
        refine lv_aload_n hx hb dX0_look_55 rfl (lv_at hl 0 rfl) ?_
        refine bj_call (v := .int (st 4)) (W.runV (As := []) (rest := []) ⟨hx, hb, hml, hown, hts⟩ (c_X0_headCount l dC dI cA ad st ck nh tp tl cb cy nc (bI o) wl wd) (cwV 0 hts gX0_look_X0_headCount rfl rfl rfl (by decide +kernel) ⟨Nat.le_of_ble_eq_true rfl, Nat.le_of_ble_eq_true rfl⟩) ⟨fun a U g mk q => by obtain ⟨q0, qP, qK⟩ := q; exact ⟨q0, qP, va_K.moved (u := U) (U := U.calling g mk a) (Vm.Alike.refl U.vm) qK⟩, va_recv hK hP (ci := 0) (q0 := 0) rfl rfl, fun U hU hW => ⟨rfl, by rw [hU]; exact hP, va_K.moved hW.alike hK⟩⟩ rfl rfl hl.1 rfl (lv_room (Nat.le_of_ble_eq_true rfl)) dX0_look_56 ⟨Nat.le_of_ble_eq_true rfl, Nat.le_of_ble_eq_true rfl⟩) ?_
        refine lv_i2l hx hb dX0_look_59 rfl ?_
        have hcode : lkK w = 0 := by rw [lkK, if_neg e_0, if_pos e_1]
        have hpost : ((st, nh, tp, tl, cb, cy, nc, bI o, wl, wd) : XS) = (st, nh, tp, tl, cb, cy, nc, bI o, wl, wd) := rfl
        refine W.widen (k := 1) (n := 6) (Nat.zero_le _) (Nat.zero_le _) ?_
        refine vx_ret ?_
        have hres : (st 4).toInt64 = lkR w st ck nc o wl wd := by rw [lkR, if_neg e_0, if_pos e_1]
        exact W.lret (v := (st 4).toInt64) hx hb hr (fun t ht hW => ⟨⟨_, (st, nh, tp, tl, cb, cy, nc, bI o, wl, wd), rfl, ⟨hcode, hres, hpost⟩, by rw [ht]; exact hP, va_K.moved hW.alike hK, hD⟩, hS.F ht⟩) hS.2.2 dX0_look_60
      · by_cases e_2 : w = nI 2
        · refine lv_tableIn (off := 60) (tgt := 61) hx hb dX0_look_1 (by rw [e_2]; decide) (by rw [e_2]; decide) (by rw [e_2]; rfl) (by decide) ?_
          refine lv_aload_n hx hb dX0_look_61 rfl (lv_at hl 0 rfl) ?_
          refine bj_call (v := .int (bI (hrF st ck))) (W.runV (As := []) (rest := []) ⟨hx, hb, hml, hown, hts⟩ (c_X0_headIsRight l dC dI cA ad st ck nh tp tl cb cy nc (bI o) wl wd) (cwV 0 hts gX0_look_X0_headIsRight rfl rfl rfl (by decide +kernel) ⟨Nat.le_of_ble_eq_true rfl, Nat.le_of_ble_eq_true rfl⟩) ⟨fun a U g mk q => by obtain ⟨q0, qP, qK⟩ := q; exact ⟨q0, qP, va_K.moved (u := U) (U := U.calling g mk a) (Vm.Alike.refl U.vm) qK⟩, va_recv hK hP (ci := 0) (q0 := 0) rfl rfl, fun U hU hW => ⟨rfl, by rw [hU]; exact hP, va_K.moved hW.alike hK⟩⟩ rfl rfl hl.1 rfl (lv_room (Nat.le_of_ble_eq_true rfl)) dX0_look_62 ⟨Nat.le_of_ble_eq_true rfl, Nat.le_of_ble_eq_true rfl⟩) ?_
          refine lv_if_eq (tgt := 72) hx hb dX0_look_65 (by decide) (fun c_65 => ?_) (fun c_65 => ?_)
          · refine lv_lconst (v := 0) hx hb dX0_look_72 (by decide) ?_
            have hcode : lkK w = 0 := by rw [lkK, if_neg e_0, if_neg e_1, if_pos e_2]
            have hpost : ((st, nh, tp, tl, cb, cy, nc, bI o, wl, wd) : XS) = (st, nh, tp, tl, cb, cy, nc, bI o, wl, wd) := rfl
            refine W.widen (k := 1) (n := 6) (Nat.zero_le _) (Nat.zero_le _) ?_
            refine vx_ret ?_
            have hres : 0 = lkR w st ck nc o wl wd := by rw [lkR, if_neg e_0, if_neg e_1, if_pos e_2, if_pos c_65]
            exact W.lret (v := 0) hx hb hr (fun t ht hW => ⟨⟨_, (st, nh, tp, tl, cb, cy, nc, bI o, wl, wd), rfl, ⟨hcode, hres, hpost⟩, by rw [ht]; exact hP, va_K.moved hW.alike hK, hD⟩, hS.F ht⟩) hS.2.2 dX0_look_73
          · refine lv_lconst (v := 1) hx hb dX0_look_68 (by decide) ?_
            refine lv_goto (tgt := 73) hx hb dX0_look_69 (by decide) ?_
            have hcode : lkK w = 0 := by rw [lkK, if_neg e_0, if_neg e_1, if_pos e_2]
            have hpost : ((st, nh, tp, tl, cb, cy, nc, bI o, wl, wd) : XS) = (st, nh, tp, tl, cb, cy, nc, bI o, wl, wd) := rfl
            refine W.widen (k := 1) (n := 6) (Nat.zero_le _) (Nat.zero_le _) ?_
            refine vx_ret ?_
            have hres : 1 = lkR w st ck nc o wl wd := by rw [lkR, if_neg e_0, if_neg e_1, if_pos e_2, if_neg c_65]
            exact W.lret (v := 1) hx hb hr (fun t ht hW => ⟨⟨_, (st, nh, tp, tl, cb, cy, nc, bI o, wl, wd), rfl, ⟨hcode, hres, hpost⟩, by rw [ht]; exact hP, va_K.moved hW.alike hK, hD⟩, hS.F ht⟩) hS.2.2 dX0_look_73
        · by_cases e_3 : w = nI 3
          · refine lv_tableIn (off := 73) (tgt := 74) hx hb dX0_look_1 (by rw [e_3]; decide) (by rw [e_3]; decide) (by rw [e_3]; rfl) (by decide) ?_
            refine lv_aload_n hx hb dX0_look_74 rfl (lv_at hl 0 rfl) ?_
            refine va_get (D := (dC, dI)) (ci := 0) (v := .int nc) (C := RX0) (T := TX0) (N := 11) hx hb hts hin hown hK hP 0 rfl rfl 7 (by decide) (hts (.fieldLink RX0 64 "BlockJournal" "changes" "I") (by decide +kernel)) (fun _ h9 => h9) rfl dX0_look_75 ?_
            refine lv_i2l hx hb dX0_look_78 rfl ?_
            have hcode : lkK w = 0 := by rw [lkK, if_neg e_0, if_neg e_1, if_neg e_2, if_pos e_3]
            have hpost : ((st, nh, tp, tl, cb, cy, nc, bI o, wl, wd) : XS) = (st, nh, tp, tl, cb, cy, nc, bI o, wl, wd) := rfl
            refine W.widen (k := 1) (n := 6) (Nat.zero_le _) (Nat.zero_le _) ?_
            refine vx_ret ?_
            have hres : nc.toInt64 = lkR w st ck nc o wl wd := by rw [lkR, if_neg e_0, if_neg e_1, if_neg e_2, if_pos e_3]
            exact W.lret (v := nc.toInt64) hx hb hr (fun t ht hW => ⟨⟨_, (st, nh, tp, tl, cb, cy, nc, bI o, wl, wd), rfl, ⟨hcode, hres, hpost⟩, by rw [ht]; exact hP, va_K.moved hW.alike hK, hD⟩, hS.F ht⟩) hS.2.2 dX0_look_79
          · by_cases e_4 : w = nI 4
            · refine lv_tableIn (off := 79) (tgt := 80) hx hb dX0_look_1 (by rw [e_4]; decide) (by rw [e_4]; decide) (by rw [e_4]; rfl) (by decide) ?_
              refine lv_aload_n hx hb dX0_look_80 rfl (lv_at hl 0 rfl) ?_
              refine va_get (D := (dC, dI)) (ci := 0) (v := .long wd) (C := RX0) (T := TX0) (N := 11) hx hb hts hin hown hK hP 0 rfl rfl 10 (by decide) (hts (.fieldLink RX0 132 "BlockJournal" "writesDone" "J") (by decide +kernel)) (fun _ h9 => h9) rfl dX0_look_81 ?_
              have hcode : lkK w = 0 := by rw [lkK, if_neg e_0, if_neg e_1, if_neg e_2, if_neg e_3, if_pos e_4]
              have hpost : ((st, nh, tp, tl, cb, cy, nc, bI o, wl, wd) : XS) = (st, nh, tp, tl, cb, cy, nc, bI o, wl, wd) := rfl
              refine W.widen (k := 1) (n := 6) (Nat.zero_le _) (Nat.zero_le _) ?_
              refine vx_ret ?_
              have hres : wd = lkR w st ck nc o wl wd := by rw [lkR, if_neg e_0, if_neg e_1, if_neg e_2, if_neg e_3, if_pos e_4]
              exact W.lret (v := wd) hx hb hr (fun t ht hW => ⟨⟨_, (st, nh, tp, tl, cb, cy, nc, bI o, wl, wd), rfl, ⟨hcode, hres, hpost⟩, by rw [ht]; exact hP, va_K.moved hW.alike hK, hD⟩, hS.F ht⟩) hS.2.2 dX0_look_84
            · by_cases e_5 : w = nI 5
              · refine lv_tableIn (off := 84) (tgt := 85) hx hb dX0_look_1 (by rw [e_5]; decide) (by rw [e_5]; decide) (by rw [e_5]; rfl) (by decide) ?_
                refine lv_aload_n hx hb dX0_look_85 rfl (lv_at hl 0 rfl) ?_
                refine va_get (D := (dC, dI)) (ci := 0) (v := .int (bI o)) (C := RX0) (T := TX0) (N := 11) hx hb hts hin hown hK hP 0 rfl rfl 8 (by decide) (hts (.fieldLink RX0 85 "BlockJournal" "off" "Z") (by decide +kernel)) (fun _ h9 => h9) rfl dX0_look_86 ?_
                refine lv_if_eq (tgt := 96) hx hb dX0_look_89 (by decide) (fun c_89 => ?_) (fun c_89 => ?_)
                · refine lv_lconst (v := 0) hx hb dX0_look_96 (by decide) ?_
                  have hcode : lkK w = 0 := by rw [lkK, if_neg e_0, if_neg e_1, if_neg e_2, if_neg e_3, if_neg e_4, if_pos e_5]
                  have hpost : ((st, nh, tp, tl, cb, cy, nc, bI o, wl, wd) : XS) = (st, nh, tp, tl, cb, cy, nc, bI o, wl, wd) := rfl
                  refine W.widen (k := 1) (n := 6) (Nat.zero_le _) (Nat.zero_le _) ?_
                  refine vx_ret ?_
                  have hres : 0 = lkR w st ck nc o wl wd := by rw [lkR, if_neg e_0, if_neg e_1, if_neg e_2, if_neg e_3, if_neg e_4, if_pos e_5, if_pos c_89]
                  exact W.lret (v := 0) hx hb hr (fun t ht hW => ⟨⟨_, (st, nh, tp, tl, cb, cy, nc, bI o, wl, wd), rfl, ⟨hcode, hres, hpost⟩, by rw [ht]; exact hP, va_K.moved hW.alike hK, hD⟩, hS.F ht⟩) hS.2.2 dX0_look_97
                · refine lv_lconst (v := 1) hx hb dX0_look_92 (by decide) ?_
                  refine lv_goto (tgt := 97) hx hb dX0_look_93 (by decide) ?_
                  have hcode : lkK w = 0 := by rw [lkK, if_neg e_0, if_neg e_1, if_neg e_2, if_neg e_3, if_neg e_4, if_pos e_5]
                  have hpost : ((st, nh, tp, tl, cb, cy, nc, bI o, wl, wd) : XS) = (st, nh, tp, tl, cb, cy, nc, bI o, wl, wd) := rfl
                  refine W.widen (k := 1) (n := 6) (Nat.zero_le _) (Nat.zero_le _) ?_
                  refine vx_ret ?_
                  have hres : 1 = lkR w st ck nc o wl wd := by rw [lkR, if_neg e_0, if_neg e_1, if_neg e_2, if_neg e_3, if_neg e_4, if_pos e_5, if_neg c_89]
                  exact W.lret (v := 1) hx hb hr (fun t ht hW => ⟨⟨_, (st, nh, tp, tl, cb, cy, nc, bI o, wl, wd), rfl, ⟨hcode, hres, hpost⟩, by rw [ht]; exact hP, va_K.moved hW.alike hK, hD⟩, hS.F ht⟩) hS.2.2 dX0_look_97
              · by_cases e_6 : w = nI 6
                · refine lv_tableIn (off := 97) (tgt := 98) hx hb dX0_look_1 (by rw [e_6]; decide) (by rw [e_6]; decide) (by rw [e_6]; rfl) (by decide) ?_
                  refine lv_aload_n hx hb dX0_look_98 rfl (lv_at hl 0 rfl) ?_
                  refine va_get (D := (dC, dI)) (ci := 0) (v := .int wl) (C := RX0) (T := TX0) (N := 11) hx hb hts hin hown hK hP 0 rfl rfl 9 (by decide) (hts (.fieldLink RX0 28 "BlockJournal" "writesLeft" "I") (by decide +kernel)) (fun _ h9 => h9) rfl dX0_look_99 ?_
                  refine lv_i2l hx hb dX0_look_102 rfl ?_
                  have hcode : lkK w = 0 := by rw [lkK, if_neg e_0, if_neg e_1, if_neg e_2, if_neg e_3, if_neg e_4, if_neg e_5, if_pos e_6]
                  have hpost : ((st, nh, tp, tl, cb, cy, nc, bI o, wl, wd) : XS) = (st, nh, tp, tl, cb, cy, nc, bI o, wl, wd) := rfl
                  refine W.widen (k := 1) (n := 6) (Nat.zero_le _) (Nat.zero_le _) ?_
                  refine vx_ret ?_
                  have hres : wl.toInt64 = lkR w st ck nc o wl wd := by rw [lkR, if_neg e_0, if_neg e_1, if_neg e_2, if_neg e_3, if_neg e_4, if_neg e_5, if_pos e_6]
                  exact W.lret (v := wl.toInt64) hx hb hr (fun t ht hW => ⟨⟨_, (st, nh, tp, tl, cb, cy, nc, bI o, wl, wd), rfl, ⟨hcode, hres, hpost⟩, by rw [ht]; exact hP, va_K.moved hW.alike hK, hD⟩, hS.F ht⟩) hS.2.2 dX0_look_103
                · have hsw : ∀ v, v ≤ 6 → ¬ w = nI v := by
                    intro v hv
                    match v, hv with
                    | 0, _ => exact e_0
                    | 1, _ => exact e_1
                    | 2, _ => exact e_2
                    | 3, _ => exact e_3
                    | 4, _ => exact e_4
                    | 5, _ => exact e_5
                    | 6, _ => exact e_6
                    | _ + 7, hv => exact absurd hv (by omega)
                  refine lv_tableOut (tgt := 104) hx hb dX0_look_1 (sw_out (by decide) hsw) (by decide) ?_
                  obtain ⟨sa, hsa⟩ := hE.2.2.2 (136, "what is not 0 .. 6") (by decide +kernel)
                  have hgd : ∀ w ∈ (bx_atN RX0 129).filter goodWord, w ∈ wsX0_look := by decide +kernel
                  exact bx_throwN (own := RX0) (text := "what is not 0 .. 6") hx hb h9 hown (hts (.classLink RX0 125 "java/util/NoSuchElementException") (by decide +kernel)) (hts (.initialized "java/util/NoSuchElementException") (by decide +kernel)) hsa (vx_hat (B := bjB) (fun w h => hts w (hgd w h)) (by decide +kernel) (fun w h => va_any (by revert w; decide +kernel) (hE.2.2.1 w h))) (by decide +kernel) hE.1 hE.2.1 hS (hl.1.trans hml.symm) dX0_look_104 dX0_look_107 dX0_look_108 dX0_look_110 dX0_look_113 (fun x hx9 => (hnt x hx9).elim) (Nat.le_of_ble_eq_true rfl) (Nat.le_of_ble_eq_true rfl) (Nat.le_of_ble_eq_true rfl) (Nat.le_of_ble_eq_true rfl) hlocks (fun t hal hz hk => ⟨(), trivial, ⟨⟨by rw [lkK, if_neg e_0, if_neg e_1, if_neg e_2, if_neg e_3, if_neg e_4, if_neg e_5, if_neg e_6], rfl⟩, (bj_thr hP hK hD hS hal hz hk).1⟩, (bj_thr hP hK hD hS hal hz hk).2⟩) hS.2.2 (Nat.le_of_ble_eq_true rfl) (Nat.le_of_ble_eq_true rfl)
  rw [hH, hlo] at goal
  exact goal

set_option maxHeartbeats 4000000 in
set_option maxRecDepth 100000 in
theorem c_L_feed (l : Launch) (h9 : l.stackTraces = false) (dC : Nat → ClassId) (dI : Nat → Nat → Nat) (cA : ClassId) (ad : Nat → Nat) (cL : ClassId) (oa : Nat) (fo : Nat → Int64) (sz : Nat) (st ck nh tp : Nat → Int32) (cb cy : Nat → Int32) (nc of wl : Int32) (wd : Int64) (T : Nat) (n : Int32) (v : Int64) (hT : T ≤ 64) : Met l yL_feed wsL_feed ({ frames := 7, cells := 1, slots := 6, locals := 106 } : Room) (va_Pc [.ref (ad 0), .int n, .long v, .ref oa] (fun U => U.heap.size = sz ∧ va_P (dC, dI) vwCl (wX cA ad st ck nh tp (nI T) cb cy nc of wl wd ++ [(oa, .inl (cL, 1, .inr (.inl fo)))]) U.heap ∧ va_K (dC, dI) vwCl [(cA, .int), (cL, .long)] U ∧ va_D (fun _ => True) (wX cA ad st ck nh tp (nI T) cb cy nc of wl wd ++ [(oa, .inl (cL, 1, .inr (.inl fo)))]) ∧ bjE (va_A (wX cA ad st ck nh tp (nI T) cb cy nc of wl wd ++ [(oa, .inl (cL, 1, .inr (.inl fo)))]) sz) U U.heap ∧ va_Nc "java/lang/IllegalStateException" "java/lang/IllegalArgumentException" U)) (va_Qi (fun (r : Int32) (u : XS × (Nat → Int64)) => r = nI (feK n T) ∧ u.1 = (if feK n T = 0 then (st, nh, fdF tp T v n.toNatClampNeg, nI (T + n.toNatClampNeg), cb, cy, nc, of, wl, wd) else (st, nh, tp, nI T, cb, cy, nc, of, wl, wd) : XS) ∧ (feK n T = 0 → u.2 0 = (nI (T + n.toNatClampNeg)).toInt64)) (fun u t => va_P (dC, dI) vwCl (wXu cA ad ck u.1 ++ [(oa, .inl (cL, 1, .inr (.inl u.2)))]) t.heap ∧ va_K (dC, dI) vwCl [(cA, .int), (cL, .long)] t ∧ va_D (va_A (wX cA ad st ck nh tp (nI T) cb cy nc of wl wd ++ [(oa, .inl (cL, 1, .inr (.inl fo)))]) sz) (wXu cA ad ck u.1 ++ [(oa, .inl (cL, 1, .inr (.inl u.2)))])) (va_A (wX cA ad st ck nh tp (nI T) cb cy nc of wl wd ++ [(oa, .inl (cL, 1, .inr (.inl fo)))]) sz)) 1 6 (va_A (wX cA ad st ck nh tp (nI T) cb cy nc of wl wd ++ [(oa, .inl (cL, 1, .inr (.inl fo)))]) sz) := by
  refine bx_ofWH (cc := cL_feed) (maxL := 6) (ret := (some .int)) (hh := [(0, 11, 14, 13), (0, 11, 18, 15)]) (by decide) rfl ?_
  intro p e s m args below meth c s₁ B hml hv
  obtain ⟨rfl, hsz, hP, hK, hD0, hE, hNc⟩ := hv
  have hx := B.exec
  have hb := B.bytes
  have hr := B.returns
  have hts := atoms_spec (ws := wsL_feed) B.pre
  have hown : s.vm.findClass RL = some m.cls := findClass_of_methodNamed B.named
  have hlocks := B.notSynchronized
  have htab : c.exceptionTable.toList = ([⟨0, 11, 14, 13⟩, ⟨0, 11, 18, 15⟩] : List ExceptionTableEntry) := vx_table (x := yL_feed) B (hts _ List.mem_cons_self)
  subst hsz
  have hD := hD0.self (sz := s.heap.size)
  generalize hAe : va_A (wX cA ad st ck nh tp (nI T) cb cy nc of wl wd ++ [(oa, .inl (cL, 1, .inr (.inl fo)))]) s.heap.size = A at hD hE ⊢
  have hA : ∀ q : Nat, s.heap.size ≤ q → A q := fun q h => by rw [← hAe]; exact Or.inr h
  have hS : va_S A s.heap s.heap [] := va_S.rf
  have hP : va_P (dC, dI) vwCl (wX cA ad st ck nh tp (nI T) cb cy nc of wl wd ++ [(oa, .inl (cL, 1, .inr (.inl fo)))]) s.heap := hP
  have hl := lv_entry ([.ref (ad 0), .int n, .long v, .ref oa]) (n := 6) (Nat.le_of_ble_eq_true rfl)
  rw [lg_entry_eq]
  generalize (lg_sl ([.ref (ad 0), .int n, .long v, .ref oa]) ++ List.replicate (6 - (lg_sl ([.ref (ad 0), .int n, .long v, .ref oa])).length) Slot.unset).toArray = ls at hl ⊢
  have hl : lv_has ls 6 [(0, .ref (ad 0)), (1, .int n), (2, .long v), (4, .ref oa)] := hl
  refine lv_aload hx hb dL_feed_0 (lv_at hl 3 rfl) ?_
  refine lv_iconst (v := nI 0) hx hb dL_feed_2 (by decide) ?_
  refine lv_aload_n hx hb dL_feed_3 rfl (lv_at hl 0 rfl) ?_
  refine lv_iload_n hx hb dL_feed_4 rfl (lv_at hl 1 rfl) ?_
  refine lv_lload_n hx hb dL_feed_5 rfl (lv_at hl 2 rfl) ?_
  have hPc := hP.sub (ws' := wX cA ad st ck nh tp (nI T) cb cy nc of wl wd) [0, 1, 2, 3, 4, 5, 6] rfl
  have hDc := hD.sub (ws' := wX cA ad st ck nh tp (nI T) cb cy nc of wl wd) [0, 1, 2, 3, 4, 5, 6] (by decide) rfl
  have hKc := hK.sub (tys' := [(cA, .int)]) [0] rfl
  have hFc := va_free (wc := wX cA ad st ck nh tp (nI T) cb cy nc of wl wd) hD hS hA [0, 1, 2, 3, 4, 5, 6] rfl
  refine vx_calli (vx_runV (As := [.int n, .long v]) (rest := [.int (nI 0), .ref oa]) ⟨hx, hb, hml, hown, hts⟩ (c_X0_feed l h9 dC dI cA ad s.heap.size st ck nh tp cb cy nc of wl wd T n v hT) (cwV 2 hts gL_feed_X0_feed rfl rfl rfl (by decide +kernel) ⟨Nat.le_of_ble_eq_true rfl, Nat.le_of_ble_eq_true rfl⟩) ⟨fun a U g mk q => by obtain ⟨q0, q1, qP, qK, qD, qE⟩ := q; exact ⟨q0, q1, qP, va_K.moved (u := U) (U := U.calling g mk a) (Vm.Alike.refl U.vm) qK, qD, bjE_calling qE⟩, va_recv hKc hPc (ci := 0) (q0 := 0) rfl rfl, fun U hU hW => ⟨rfl, by rw [hU], by rw [hU]; exact hPc, va_K.moved hW.alike hKc, hDc.weaken (fun _ _ _ _ => trivial), bjE_at hE hS hW hU hFc⟩⟩ rfl rfl hl.1 rfl (lv_room (Nat.le_of_ble_eq_true rfl)) dL_feed_6 ⟨Nat.le_of_ble_eq_true rfl, Nat.le_of_ble_eq_true rfl⟩) hS (fun q _ h => hFc q h) hFc (fun q _ h => hFc q h) (fun E ce q9 u t H1 locs ht hvm hw hB hz1 hk1 hS hq9 hcv hcl => ?_) (fun r u t H1 locs ht hvm hw hB hz1 hk1 hS => ?_)
  · obtain ⟨hcond, hP1, hK1, hD1⟩ := hB
    rw [ht] at hP1
    obtain ⟨hP, hD⟩ := va_join (wr := [(oa, .inl (cL, 1, .inr (.inl fo)))]) (w1 := wX cA ad st ck nh tp (nI T) cb cy nc of wl wd) hP hD [0, 1, 2, 3, 4, 5, 6] [7] rfl rfl (by decide) (by decide) hk1 hFc hP1 hD1
    have hP : va_P (dC, dI) vwCl (wX cA ad st ck nh tp (nI T) cb cy nc of wl wd ++ [(oa, .inl (cL, 1, .inr (.inl fo)))]) H1 := hP.sub (ws' := wX cA ad st ck nh tp (nI T) cb cy nc of wl wd ++ [(oa, .inl (cL, 1, .inr (.inl fo)))]) [1, 2, 3, 4, 5, 6, 7, 0] rfl
    have hD : va_D A (wX cA ad st ck nh tp (nI T) cb cy nc of wl wd ++ [(oa, .inl (cL, 1, .inr (.inl fo)))]) := hD.sub (ws' := wX cA ad st ck nh tp (nI T) cb cy nc of wl wd ++ [(oa, .inl (cL, 1, .inr (.inl fo)))]) [1, 2, 3, 4, 5, 6, 7, 0] (by decide) rfl
    generalize H1 = H at hP hS hq9 ⊢
    rcases hcond with ⟨hk, rfl⟩ | ⟨hk, rfl⟩
    · refine bx_catch (own := RL) (name := "java/lang/IllegalArgumentException") hown [] ⟨0, 11, 14, 13⟩ [⟨0, 11, 18, 15⟩] htab (fun z hz => nomatch hz) (by decide) (by decide) (hts (.classLink RL 13 "java/lang/IllegalArgumentException") (by decide +kernel)) (va_any rfl (hE.2.2.1 (.castable "java/lang/IllegalArgumentException" "java/lang/IllegalArgumentException") (by decide +kernel))) hq9 hcv hcl ?_
      refine lv_astore (lv' := [(5, .ref q9), (0, .ref (ad 0)), (1, .int n), (2, .long v), (4, .ref oa)]) hx hb dL_feed_14 hl (by decide) rfl (fun ls hl => ?_)
      refine lv_iconst (v := nI 1) hx hb dL_feed_16 (by decide) ?_
      exact W.iret (v := nI 1) hx hb hr (fun t ht hW => ⟨⟨_, ((st, nh, tp, nI T, cb, cy, nc, of, wl, wd), fo), rfl, ⟨by rw [hk], by rw [hk]; rfl, fun h => by rw [hk] at h; cases h⟩, by rw [ht]; exact hP, va_K.moved hW.alike hK, hD⟩, hS.F ht⟩) hS.2.2 dL_feed_17
    · refine bx_catch (own := RL) (name := "java/lang/IllegalStateException") hown [⟨0, 11, 14, 13⟩] ⟨0, 11, 18, 15⟩ [] htab (fun z hz => by
          obtain rfl := List.mem_singleton.mp hz
          exact Or.inr ⟨by decide, "java/lang/IllegalArgumentException", hts (.classLink RL 13 "java/lang/IllegalArgumentException") (by decide +kernel), hNc⟩) (by decide) (by decide) (hts (.classLink RL 15 "java/lang/IllegalStateException") (by decide +kernel)) (va_any rfl (hE.2.2.1 (.castable "java/lang/IllegalStateException" "java/lang/IllegalStateException") (by decide +kernel))) hq9 hcv hcl ?_
      refine lv_astore (lv' := [(5, .ref q9), (0, .ref (ad 0)), (1, .int n), (2, .long v), (4, .ref oa)]) hx hb dL_feed_18 hl (by decide) rfl (fun ls hl => ?_)
      refine lv_iconst (v := nI 2) hx hb dL_feed_20 (by decide) ?_
      exact W.iret (v := nI 2) hx hb hr (fun t ht hW => ⟨⟨_, ((st, nh, tp, nI T, cb, cy, nc, of, wl, wd), fo), rfl, ⟨by rw [hk], by rw [hk]; rfl, fun h => by rw [hk] at h; cases h⟩, by rw [ht]; exact hP, va_K.moved hW.alike hK, hD⟩, hS.F ht⟩) hS.2.2 dL_feed_21
  · obtain ⟨hP1, hK1, hD1⟩ := hB
    rw [ht] at hP1
    obtain ⟨hk, hres, rfl⟩ := hw
    have hP1 : va_P (dC, dI) vwCl (wX cA ad st ck nh (fdF tp T v n.toNatClampNeg) (nI (T + n.toNatClampNeg)) cb cy nc of wl wd) H1 := hP1
    have hD1 : va_D (va_A (wX cA ad st ck nh tp (nI T) cb cy nc of wl wd) s.heap.size) (wX cA ad st ck nh (fdF tp T v n.toNatClampNeg) (nI (T + n.toNatClampNeg)) cb cy nc of wl wd) := hD1
    obtain ⟨hP, hD⟩ := va_join (wr := [(oa, .inl (cL, 1, .inr (.inl fo)))]) (w1 := wX cA ad st ck nh (fdF tp T v n.toNatClampNeg) (nI (T + n.toNatClampNeg)) cb cy nc of wl wd) hP hD [0, 1, 2, 3, 4, 5, 6] [7] rfl rfl (by decide) (by decide) hk1 hFc hP1 hD1
    have hP : va_P (dC, dI) vwCl (wX cA ad st ck nh (fdF tp T v n.toNatClampNeg) (nI (T + n.toNatClampNeg)) cb cy nc of wl wd ++ [(oa, .inl (cL, 1, .inr (.inl fo)))]) H1 := hP.sub (ws' := wX cA ad st ck nh (fdF tp T v n.toNatClampNeg) (nI (T + n.toNatClampNeg)) cb cy nc of wl wd ++ [(oa, .inl (cL, 1, .inr (.inl fo)))]) [1, 2, 3, 4, 5, 6, 7, 0] rfl
    have hD : va_D A (wX cA ad st ck nh (fdF tp T v n.toNatClampNeg) (nI (T + n.toNatClampNeg)) cb cy nc of wl wd ++ [(oa, .inl (cL, 1, .inr (.inl fo)))]) := hD.sub (ws' := wX cA ad st ck nh (fdF tp T v n.toNatClampNeg) (nI (T + n.toNatClampNeg)) cb cy nc of wl wd ++ [(oa, .inl (cL, 1, .inr (.inl fo)))]) [1, 2, 3, 4, 5, 6, 7, 0] (by decide) rfl
    generalize H1 = H at hP hS ⊢
    refine lv_i2l hx hb dL_feed_9 rfl ?_
    refine va_last (D := (dC, dI)) hx hb hK hP hD hS 7 1 (cA := cL) (n := 1) (f := fo) rfl rfl (i := nI 0) (vp_in_nI (by decide) (by decide)) dL_feed_10 (fun H locs hP hD hS => ?_)
    have hP : va_P (dC, dI) vwCl (wX cA ad st ck nh (fdF tp T v n.toNatClampNeg) (nI (T + n.toNatClampNeg)) cb cy nc of wl wd ++ [(oa, .inl (cL, 1, .inr (.inl (vp_updL fo 0 (r.toInt64)))))]) H := hP
    have hD : va_D A (wX cA ad st ck nh (fdF tp T v n.toNatClampNeg) (nI (T + n.toNatClampNeg)) cb cy nc of wl wd ++ [(oa, .inl (cL, 1, .inr (.inl (vp_updL fo 0 (r.toInt64)))))]) := hD
    refine lv_goto (tgt := 22) hx hb dL_feed_11 (by decide) ?_
    refine lv_iconst (v := nI 0) hx hb dL_feed_22 (by decide) ?_
    exact W.iret (v := nI 0) hx hb hr (fun t ht hW => ⟨⟨_, ((st, nh, fdF tp T v n.toNatClampNeg, nI (T + n.toNatClampNeg), cb, cy, nc, of, wl, wd), vp_updL fo 0 (r.toInt64)), rfl, ⟨by rw [hk], by rw [hk]; rfl, fun _ => by rw [← hres]; show vp_updL fo 0 (r.toInt64) 0 = _; exact pk_uLs⟩, by rw [ht]; exact hP, va_K.moved hW.alike hK, hD⟩, hS.F ht⟩) hS.2.2 dL_feed_23

set_option maxHeartbeats 4000000 in
set_option maxRecDepth 100000 in
theorem c_L_put (l : Launch) (h9 : l.stackTraces = false) (dC : Nat → ClassId) (dI : Nat → Nat → Nat) (cA : ClassId) (ad : Nat → Nat) (cL : ClassId) (oa : Nat) (fo : Nat → Int64) (sz : Nat) (st ck nh tp : Nat → Int32) (tl : Int32) (cb cy : Nat → Int32) (of wl : Int32) (wd : Int64) (n : Nat) (b : Int32) (hn : n ≤ 24) : Met l yL_put wsL_put ({ frames := 7, cells := 1, slots := 6, locals := 105 } : Room) (va_Pc [.ref (ad 0), .int b, .ref oa] (fun U => U.heap.size = sz ∧ va_P (dC, dI) vwCl (wX cA ad st ck nh tp tl cb cy (nI n) of wl wd ++ [(oa, .inl (cL, 1, .inr (.inl fo)))]) U.heap ∧ va_K (dC, dI) vwCl [(cA, .int), (cL, .long)] U ∧ va_D (fun _ => True) (wX cA ad st ck nh tp tl cb cy (nI n) of wl wd ++ [(oa, .inl (cL, 1, .inr (.inl fo)))]) ∧ bjE (va_A (wX cA ad st ck nh tp tl cb cy (nI n) of wl wd ++ [(oa, .inl (cL, 1, .inr (.inl fo)))]) sz) U U.heap ∧ va_Nc "java/lang/IllegalStateException" "java/lang/IllegalArgumentException" U)) (va_Qi (fun (r : Int32) (u : XS × (Nat → Int64)) => r = nI (puK cb n b) ∧ u.1 = (if puK cb n b = 0 then (st, nh, fiF tp (nI 0) 64, nI 0, puB cb n b, puY cb cy tp n b, nI (puN cb n b), of, wl, wd) else (st, nh, tp, tl, cb, cy, nI n, of, wl, wd) : XS) ∧ (puK cb n b = 0 → u.2 0 = (nI (puN cb n b)).toInt64)) (fun u t => va_P (dC, dI) vwCl (wXu cA ad ck u.1 ++ [(oa, .inl (cL, 1, .inr (.inl u.2)))]) t.heap ∧ va_K (dC, dI) vwCl [(cA, .int), (cL, .long)] t ∧ va_D (va_A (wX cA ad st ck nh tp tl cb cy (nI n) of wl wd ++ [(oa, .inl (cL, 1, .inr (.inl fo)))]) sz) (wXu cA ad ck u.1 ++ [(oa, .inl (cL, 1, .inr (.inl u.2)))])) (va_A (wX cA ad st ck nh tp tl cb cy (nI n) of wl wd ++ [(oa, .inl (cL, 1, .inr (.inl fo)))]) sz)) 1 6 (va_A (wX cA ad st ck nh tp tl cb cy (nI n) of wl wd ++ [(oa, .inl (cL, 1, .inr (.inl fo)))]) sz) := by
  refine bx_ofWH (cc := cL_put) (maxL := 4) (ret := (some .int)) (hh := [(0, 9, 12, 13), (0, 9, 15, 15)]) (by decide) rfl ?_
  intro p e s m args below meth c s₁ B hml hv
  obtain ⟨rfl, hsz, hP, hK, hD0, hE, hNc⟩ := hv
  have hx := B.exec
  have hb := B.bytes
  have hr := B.returns
  have hts := atoms_spec (ws := wsL_put) B.pre
  have hown : s.vm.findClass RL = some m.cls := findClass_of_methodNamed B.named
  have hlocks := B.notSynchronized
  have htab : c.exceptionTable.toList = ([⟨0, 9, 12, 13⟩, ⟨0, 9, 15, 15⟩] : List ExceptionTableEntry) := vx_table (x := yL_put) B (hts _ List.mem_cons_self)
  subst hsz
  have hD := hD0.self (sz := s.heap.size)
  generalize hAe : va_A (wX cA ad st ck nh tp tl cb cy (nI n) of wl wd ++ [(oa, .inl (cL, 1, .inr (.inl fo)))]) s.heap.size = A at hD hE ⊢
  have hA : ∀ q : Nat, s.heap.size ≤ q → A q := fun q h => by rw [← hAe]; exact Or.inr h
  have hS : va_S A s.heap s.heap [] := va_S.rf
  have hP : va_P (dC, dI) vwCl (wX cA ad st ck nh tp tl cb cy (nI n) of wl wd ++ [(oa, .inl (cL, 1, .inr (.inl fo)))]) s.heap := hP
  have hl := lv_entry ([.ref (ad 0), .int b, .ref oa]) (n := 4) (Nat.le_of_ble_eq_true rfl)
  rw [lg_entry_eq]
  generalize (lg_sl ([.ref (ad 0), .int b, .ref oa]) ++ List.replicate (4 - (lg_sl ([.ref (ad 0), .int b, .ref oa])).length) Slot.unset).toArray = ls at hl ⊢
  have hl : lv_has ls 4 [(0, .ref (ad 0)), (1, .int b), (2, .ref oa)] := hl
  refine lv_aload_n hx hb dL_put_0 rfl (lv_at hl 2 rfl) ?_
  refine lv_iconst (v := nI 0) hx hb dL_put_1 (by decide) ?_
  refine lv_aload_n hx hb dL_put_2 rfl (lv_at hl 0 rfl) ?_
  refine lv_iload_n hx hb dL_put_3 rfl (lv_at hl 1 rfl) ?_
  have hPc := hP.sub (ws' := wX cA ad st ck nh tp tl cb cy (nI n) of wl wd) [0, 1, 2, 3, 4, 5, 6] rfl
  have hDc := hD.sub (ws' := wX cA ad st ck nh tp tl cb cy (nI n) of wl wd) [0, 1, 2, 3, 4, 5, 6] (by decide) rfl
  have hKc := hK.sub (tys' := [(cA, .int)]) [0] rfl
  have hFc := va_free (wc := wX cA ad st ck nh tp tl cb cy (nI n) of wl wd) hD hS hA [0, 1, 2, 3, 4, 5, 6] rfl
  refine vx_calli (vx_runV (As := [.int b]) (rest := [.int (nI 0), .ref oa]) ⟨hx, hb, hml, hown, hts⟩ (c_X0_put l h9 dC dI cA ad s.heap.size st ck nh tp tl cb cy of wl wd n b hn) (cwV 1 hts gL_put_X0_put rfl rfl rfl (by decide +kernel) ⟨Nat.le_of_ble_eq_true rfl, Nat.le_of_ble_eq_true rfl⟩) ⟨fun a U g mk q => by obtain ⟨q0, q1, qP, qK, qD, qE⟩ := q; exact ⟨q0, q1, qP, va_K.moved (u := U) (U := U.calling g mk a) (Vm.Alike.refl U.vm) qK, qD, bjE_calling qE⟩, va_recv hKc hPc (ci := 0) (q0 := 0) rfl rfl, fun U hU hW => ⟨rfl, by rw [hU], by rw [hU]; exact hPc, va_K.moved hW.alike hKc, hDc.weaken (fun _ _ _ _ => trivial), bjE_at hE hS hW hU hFc⟩⟩ rfl rfl hl.1 rfl (lv_room (Nat.le_of_ble_eq_true rfl)) dL_put_4 ⟨Nat.le_of_ble_eq_true rfl, Nat.le_of_ble_eq_true rfl⟩) hS (fun q _ h => hFc q h) hFc (fun q _ h => hFc q h) (fun E ce q9 u t H1 locs ht hvm hw hB hz1 hk1 hS hq9 hcv hcl => ?_) (fun r u t H1 locs ht hvm hw hB hz1 hk1 hS => ?_)
  · obtain ⟨hcond, hP1, hK1, hD1⟩ := hB
    rw [ht] at hP1
    obtain ⟨hP, hD⟩ := va_join (wr := [(oa, .inl (cL, 1, .inr (.inl fo)))]) (w1 := wX cA ad st ck nh tp tl cb cy (nI n) of wl wd) hP hD [0, 1, 2, 3, 4, 5, 6] [7] rfl rfl (by decide) (by decide) hk1 hFc hP1 hD1
    have hP : va_P (dC, dI) vwCl (wX cA ad st ck nh tp tl cb cy (nI n) of wl wd ++ [(oa, .inl (cL, 1, .inr (.inl fo)))]) H1 := hP.sub (ws' := wX cA ad st ck nh tp tl cb cy (nI n) of wl wd ++ [(oa, .inl (cL, 1, .inr (.inl fo)))]) [1, 2, 3, 4, 5, 6, 7, 0] rfl
    have hD : va_D A (wX cA ad st ck nh tp tl cb cy (nI n) of wl wd ++ [(oa, .inl (cL, 1, .inr (.inl fo)))]) := hD.sub (ws' := wX cA ad st ck nh tp tl cb cy (nI n) of wl wd ++ [(oa, .inl (cL, 1, .inr (.inl fo)))]) [1, 2, 3, 4, 5, 6, 7, 0] (by decide) rfl
    generalize H1 = H at hP hS hq9 ⊢
    rcases hcond with ⟨hk, rfl⟩ | ⟨hk, rfl⟩
    · refine bx_catch (own := RL) (name := "java/lang/IllegalArgumentException") hown [] ⟨0, 9, 12, 13⟩ [⟨0, 9, 15, 15⟩] htab (fun z hz => nomatch hz) (by decide) (by decide) (hts (.classLink RL 13 "java/lang/IllegalArgumentException") (by decide +kernel)) (va_any rfl (hE.2.2.1 (.castable "java/lang/IllegalArgumentException" "java/lang/IllegalArgumentException") (by decide +kernel))) hq9 hcv hcl ?_
      refine lv_astore_n (lv' := [(3, .ref q9), (0, .ref (ad 0)), (1, .int b), (2, .ref oa)]) hx hb dL_put_12 rfl hl (by decide) rfl (fun ls hl => ?_)
      refine lv_iconst (v := nI 1) hx hb dL_put_13 (by decide) ?_
      exact W.iret (v := nI 1) hx hb hr (fun t ht hW => ⟨⟨_, ((st, nh, tp, tl, cb, cy, nI n, of, wl, wd), fo), rfl, ⟨by rw [hk], by rw [hk]; rfl, fun h => by rw [hk] at h; cases h⟩, by rw [ht]; exact hP, va_K.moved hW.alike hK, hD⟩, hS.F ht⟩) hS.2.2 dL_put_14
    · refine bx_catch (own := RL) (name := "java/lang/IllegalStateException") hown [⟨0, 9, 12, 13⟩] ⟨0, 9, 15, 15⟩ [] htab (fun z hz => by
          obtain rfl := List.mem_singleton.mp hz
          exact Or.inr ⟨by decide, "java/lang/IllegalArgumentException", hts (.classLink RL 13 "java/lang/IllegalArgumentException") (by decide +kernel), hNc⟩) (by decide) (by decide) (hts (.classLink RL 15 "java/lang/IllegalStateException") (by decide +kernel)) (va_any rfl (hE.2.2.1 (.castable "java/lang/IllegalStateException" "java/lang/IllegalStateException") (by decide +kernel))) hq9 hcv hcl ?_
      refine lv_astore_n (lv' := [(3, .ref q9), (0, .ref (ad 0)), (1, .int b), (2, .ref oa)]) hx hb dL_put_15 rfl hl (by decide) rfl (fun ls hl => ?_)
      refine lv_iconst (v := nI 2) hx hb dL_put_16 (by decide) ?_
      exact W.iret (v := nI 2) hx hb hr (fun t ht hW => ⟨⟨_, ((st, nh, tp, tl, cb, cy, nI n, of, wl, wd), fo), rfl, ⟨by rw [hk], by rw [hk]; rfl, fun h => by rw [hk] at h; cases h⟩, by rw [ht]; exact hP, va_K.moved hW.alike hK, hD⟩, hS.F ht⟩) hS.2.2 dL_put_17
  · obtain ⟨hP1, hK1, hD1⟩ := hB
    rw [ht] at hP1
    obtain ⟨hk, hres, rfl⟩ := hw
    have hP1 : va_P (dC, dI) vwCl (wX cA ad st ck nh (fiF tp (nI 0) 64) (nI 0) (puB cb n b) (puY cb cy tp n b) (nI (puN cb n b)) of wl wd) H1 := hP1
    have hD1 : va_D (va_A (wX cA ad st ck nh tp tl cb cy (nI n) of wl wd) s.heap.size) (wX cA ad st ck nh (fiF tp (nI 0) 64) (nI 0) (puB cb n b) (puY cb cy tp n b) (nI (puN cb n b)) of wl wd) := hD1
    obtain ⟨hP, hD⟩ := va_join (wr := [(oa, .inl (cL, 1, .inr (.inl fo)))]) (w1 := wX cA ad st ck nh (fiF tp (nI 0) 64) (nI 0) (puB cb n b) (puY cb cy tp n b) (nI (puN cb n b)) of wl wd) hP hD [0, 1, 2, 3, 4, 5, 6] [7] rfl rfl (by decide) (by decide) hk1 hFc hP1 hD1
    have hP : va_P (dC, dI) vwCl (wX cA ad st ck nh (fiF tp (nI 0) 64) (nI 0) (puB cb n b) (puY cb cy tp n b) (nI (puN cb n b)) of wl wd ++ [(oa, .inl (cL, 1, .inr (.inl fo)))]) H1 := hP.sub (ws' := wX cA ad st ck nh (fiF tp (nI 0) 64) (nI 0) (puB cb n b) (puY cb cy tp n b) (nI (puN cb n b)) of wl wd ++ [(oa, .inl (cL, 1, .inr (.inl fo)))]) [1, 2, 3, 4, 5, 6, 7, 0] rfl
    have hD : va_D A (wX cA ad st ck nh (fiF tp (nI 0) 64) (nI 0) (puB cb n b) (puY cb cy tp n b) (nI (puN cb n b)) of wl wd ++ [(oa, .inl (cL, 1, .inr (.inl fo)))]) := hD.sub (ws' := wX cA ad st ck nh (fiF tp (nI 0) 64) (nI 0) (puB cb n b) (puY cb cy tp n b) (nI (puN cb n b)) of wl wd ++ [(oa, .inl (cL, 1, .inr (.inl fo)))]) [1, 2, 3, 4, 5, 6, 7, 0] (by decide) rfl
    generalize H1 = H at hP hS ⊢
    refine lv_i2l hx hb dL_put_7 rfl ?_
    refine va_last (D := (dC, dI)) hx hb hK hP hD hS 7 1 (cA := cL) (n := 1) (f := fo) rfl rfl (i := nI 0) (vp_in_nI (by decide) (by decide)) dL_put_8 (fun H locs hP hD hS => ?_)
    have hP : va_P (dC, dI) vwCl (wX cA ad st ck nh (fiF tp (nI 0) 64) (nI 0) (puB cb n b) (puY cb cy tp n b) (nI (puN cb n b)) of wl wd ++ [(oa, .inl (cL, 1, .inr (.inl (vp_updL fo 0 (r.toInt64)))))]) H := hP
    have hD : va_D A (wX cA ad st ck nh (fiF tp (nI 0) 64) (nI 0) (puB cb n b) (puY cb cy tp n b) (nI (puN cb n b)) of wl wd ++ [(oa, .inl (cL, 1, .inr (.inl (vp_updL fo 0 (r.toInt64)))))]) := hD
    refine lv_goto (tgt := 18) hx hb dL_put_9 (by decide) ?_
    refine lv_iconst (v := nI 0) hx hb dL_put_18 (by decide) ?_
    exact W.iret (v := nI 0) hx hb hr (fun t ht hW => ⟨⟨_, ((st, nh, fiF tp (nI 0) 64, nI 0, puB cb n b, puY cb cy tp n b, nI (puN cb n b), of, wl, wd), vp_updL fo 0 (r.toInt64)), rfl, ⟨by rw [hk], by rw [hk]; rfl, fun _ => by rw [← hres]; show vp_updL fo 0 (r.toInt64) 0 = _; exact pk_uLs⟩, by rw [ht]; exact hP, va_K.moved hW.alike hK, hD⟩, hS.F ht⟩) hS.2.2 dL_put_19

set_option maxHeartbeats 4000000 in
set_option maxRecDepth 100000 in
theorem c_L_commit (l : Launch) (h9 : l.stackTraces = false) (dC : Nat → ClassId) (dI : Nat → Nat → Nat) (cA : ClassId) (ad : Nat → Nat) (cL : ClassId) (oa : Nat) (fo : Nat → Int64) (sz : Nat) (st ck nh tp : Nat → Int32) (tl : Int32) (cb cy : Nat → Int32) (wl : Int32) (wd : Int64) (n : Nat) (o : Bool) (hn : n ≤ 24) (hcb : ∀ i, i < n → ∃ b : Nat, b < 96 ∧ cb i = nI b) : Met l yL_commit wsL_commit ({ frames := 7, cells := 1, slots := 6, locals := 127 } : Room) (va_Pc [.ref (ad 0), .ref oa] (fun U => U.heap.size = sz ∧ va_P (dC, dI) vwCl (wX cA ad st ck nh tp tl cb cy (nI n) (bI o) wl wd ++ [(oa, .inl (cL, 1, .inr (.inl fo)))]) U.heap ∧ va_K (dC, dI) vwCl [(cA, .int), (cL, .long)] U ∧ va_D (fun _ => True) (wX cA ad st ck nh tp tl cb cy (nI n) (bI o) wl wd ++ [(oa, .inl (cL, 1, .inr (.inl fo)))]) ∧ bjE (va_A (wX cA ad st ck nh tp tl cb cy (nI n) (bI o) wl wd ++ [(oa, .inl (cL, 1, .inr (.inl fo)))]) sz) U U.heap ∧ va_Nc "java/lang/IllegalStateException" "java/lang/IllegalArgumentException" U)) (va_Qi (fun (r : Int32) (u : XS × (Nat → Int64)) => r = nI (cmK n o) ∧ u.1 = (if cmK n o = 0 then ((cmU st ck nh cb cy n (st, bI o, wl, wd)).1, cmH st ck nh cb cy n (st, bI o, wl, wd), tp, tl, cb, cy, nI 0, (cmU st ck nh cb cy n (st, bI o, wl, wd)).2.1, (cmU st ck nh cb cy n (st, bI o, wl, wd)).2.2.1, (cmU st ck nh cb cy n (st, bI o, wl, wd)).2.2.2) else (st, nh, tp, tl, cb, cy, nI n, bI o, wl, wd) : XS) ∧ (cmK n o = 0 → u.2 0 = (if (if ¬ (cmU st ck nh cb cy n (st, bI o, wl, wd)).2.1 = 0 then nI 0 else nI 1) = 0 then 0 else 1))) (fun u t => va_P (dC, dI) vwCl (wXu cA ad ck u.1 ++ [(oa, .inl (cL, 1, .inr (.inl u.2)))]) t.heap ∧ va_K (dC, dI) vwCl [(cA, .int), (cL, .long)] t ∧ va_D (va_A (wX cA ad st ck nh tp tl cb cy (nI n) (bI o) wl wd ++ [(oa, .inl (cL, 1, .inr (.inl fo)))]) sz) (wXu cA ad ck u.1 ++ [(oa, .inl (cL, 1, .inr (.inl u.2)))])) (va_A (wX cA ad st ck nh tp tl cb cy (nI n) (bI o) wl wd ++ [(oa, .inl (cL, 1, .inr (.inl fo)))]) sz)) 1 6 (va_A (wX cA ad st ck nh tp tl cb cy (nI n) (bI o) wl wd ++ [(oa, .inl (cL, 1, .inr (.inl fo)))]) sz) := by
  refine bx_ofWH (cc := cL_commit) (maxL := 3) (ret := (some .int)) (hh := [(0, 15, 18, 15)]) (by decide) rfl ?_
  intro p e s m args below meth c s₁ B hml hv
  obtain ⟨rfl, hsz, hP, hK, hD0, hE, hNc⟩ := hv
  have hx := B.exec
  have hb := B.bytes
  have hr := B.returns
  have hts := atoms_spec (ws := wsL_commit) B.pre
  have hown : s.vm.findClass RL = some m.cls := findClass_of_methodNamed B.named
  have hlocks := B.notSynchronized
  have htab : c.exceptionTable.toList = ([⟨0, 15, 18, 15⟩] : List ExceptionTableEntry) := vx_table (x := yL_commit) B (hts _ List.mem_cons_self)
  subst hsz
  have hD := hD0.self (sz := s.heap.size)
  generalize hAe : va_A (wX cA ad st ck nh tp tl cb cy (nI n) (bI o) wl wd ++ [(oa, .inl (cL, 1, .inr (.inl fo)))]) s.heap.size = A at hD hE ⊢
  have hA : ∀ q : Nat, s.heap.size ≤ q → A q := fun q h => by rw [← hAe]; exact Or.inr h
  have hS : va_S A s.heap s.heap [] := va_S.rf
  have hP : va_P (dC, dI) vwCl (wX cA ad st ck nh tp tl cb cy (nI n) (bI o) wl wd ++ [(oa, .inl (cL, 1, .inr (.inl fo)))]) s.heap := hP
  have hl := lv_entry ([.ref (ad 0), .ref oa]) (n := 3) (Nat.le_of_ble_eq_true rfl)
  rw [lg_entry_eq]
  generalize (lg_sl ([.ref (ad 0), .ref oa]) ++ List.replicate (3 - (lg_sl ([.ref (ad 0), .ref oa])).length) Slot.unset).toArray = ls at hl ⊢
  have hl : lv_has ls 3 [(0, .ref (ad 0)), (1, .ref oa)] := hl
  refine lv_aload_n hx hb dL_commit_0 rfl (lv_at hl 1 rfl) ?_
  refine lv_iconst (v := nI 0) hx hb dL_commit_1 (by decide) ?_
  refine lv_aload_n hx hb dL_commit_2 rfl (lv_at hl 0 rfl) ?_
  have hPc := hP.sub (ws' := wX cA ad st ck nh tp tl cb cy (nI n) (bI o) wl wd) [0, 1, 2, 3, 4, 5, 6] rfl
  have hDc := hD.sub (ws' := wX cA ad st ck nh tp tl cb cy (nI n) (bI o) wl wd) [0, 1, 2, 3, 4, 5, 6] (by decide) rfl
  have hKc := hK.sub (tys' := [(cA, .int)]) [0] rfl
  have hFc := va_free (wc := wX cA ad st ck nh tp tl cb cy (nI n) (bI o) wl wd) hD hS hA [0, 1, 2, 3, 4, 5, 6] rfl
  refine vx_calli (vx_runV (As := []) (rest := [.int (nI 0), .ref oa]) ⟨hx, hb, hml, hown, hts⟩ (c_X0_commit l h9 dC dI cA ad s.heap.size st ck nh tp tl cb cy wl wd n o hn hcb) (cwV 0 hts gL_commit_X0_commit rfl rfl rfl (by decide +kernel) ⟨Nat.le_of_ble_eq_true rfl, Nat.le_of_ble_eq_true rfl⟩) ⟨fun a U g mk q => by obtain ⟨q0, q1, qP, qK, qD, qE⟩ := q; exact ⟨q0, q1, qP, va_K.moved (u := U) (U := U.calling g mk a) (Vm.Alike.refl U.vm) qK, qD, bjE_calling qE⟩, va_recv hKc hPc (ci := 0) (q0 := 0) rfl rfl, fun U hU hW => ⟨rfl, by rw [hU], by rw [hU]; exact hPc, va_K.moved hW.alike hKc, hDc.weaken (fun _ _ _ _ => trivial), bjE_at hE hS hW hU hFc⟩⟩ rfl rfl hl.1 rfl (lv_room (Nat.le_of_ble_eq_true rfl)) dL_commit_3 ⟨Nat.le_of_ble_eq_true rfl, Nat.le_of_ble_eq_true rfl⟩) hS (fun q _ h => hFc q h) hFc (fun q _ h => hFc q h) (fun E ce q9 u t H1 locs ht hvm hw hB hz1 hk1 hS hq9 hcv hcl => ?_) (fun r u t H1 locs ht hvm hw hB hz1 hk1 hS => ?_)
  · obtain ⟨hcond, hP1, hK1, hD1⟩ := hB
    rw [ht] at hP1
    obtain ⟨hP, hD⟩ := va_join (wr := [(oa, .inl (cL, 1, .inr (.inl fo)))]) (w1 := wX cA ad st ck nh tp tl cb cy (nI n) (bI o) wl wd) hP hD [0, 1, 2, 3, 4, 5, 6] [7] rfl rfl (by decide) (by decide) hk1 hFc hP1 hD1
    have hP : va_P (dC, dI) vwCl (wX cA ad st ck nh tp tl cb cy (nI n) (bI o) wl wd ++ [(oa, .inl (cL, 1, .inr (.inl fo)))]) H1 := hP.sub (ws' := wX cA ad st ck nh tp tl cb cy (nI n) (bI o) wl wd ++ [(oa, .inl (cL, 1, .inr (.inl fo)))]) [1, 2, 3, 4, 5, 6, 7, 0] rfl
    have hD : va_D A (wX cA ad st ck nh tp tl cb cy (nI n) (bI o) wl wd ++ [(oa, .inl (cL, 1, .inr (.inl fo)))]) := hD.sub (ws' := wX cA ad st ck nh tp tl cb cy (nI n) (bI o) wl wd ++ [(oa, .inl (cL, 1, .inr (.inl fo)))]) [1, 2, 3, 4, 5, 6, 7, 0] (by decide) rfl
    generalize H1 = H at hP hS hq9 ⊢
    obtain ⟨hk, rfl⟩ := hcond
    refine bx_catch (own := RL) (name := "java/lang/IllegalStateException") hown [] ⟨0, 15, 18, 15⟩ [] htab (fun z hz => nomatch hz) (by decide) (by decide) (hts (.classLink RL 15 "java/lang/IllegalStateException") (by decide +kernel)) (va_any rfl (hE.2.2.1 (.castable "java/lang/IllegalStateException" "java/lang/IllegalStateException") (by decide +kernel))) hq9 hcv hcl ?_
    refine lv_astore_n (lv' := [(2, .ref q9), (0, .ref (ad 0)), (1, .ref oa)]) hx hb dL_commit_18 rfl hl (by decide) rfl (fun ls hl => ?_)
    refine lv_iconst (v := nI 1) hx hb dL_commit_19 (by decide) ?_
    exact W.iret (v := nI 1) hx hb hr (fun t ht hW => ⟨⟨_, ((st, nh, tp, tl, cb, cy, nI n, bI o, wl, wd), fo), rfl, ⟨by rw [hk], by rw [hk]; rfl, fun h => by rw [hk] at h; cases h⟩, by rw [ht]; exact hP, va_K.moved hW.alike hK, hD⟩, hS.F ht⟩) hS.2.2 dL_commit_20
  · obtain ⟨hP1, hK1, hD1⟩ := hB
    rw [ht] at hP1
    obtain ⟨hk, hres, rfl⟩ := hw
    have hP1 : va_P (dC, dI) vwCl (wX cA ad ((cmU st ck nh cb cy n (st, bI o, wl, wd)).1) ck (cmH st ck nh cb cy n (st, bI o, wl, wd)) tp tl cb cy (nI 0) ((cmU st ck nh cb cy n (st, bI o, wl, wd)).2.1) ((cmU st ck nh cb cy n (st, bI o, wl, wd)).2.2.1) ((cmU st ck nh cb cy n (st, bI o, wl, wd)).2.2.2)) H1 := hP1
    have hD1 : va_D (va_A (wX cA ad st ck nh tp tl cb cy (nI n) (bI o) wl wd) s.heap.size) (wX cA ad ((cmU st ck nh cb cy n (st, bI o, wl, wd)).1) ck (cmH st ck nh cb cy n (st, bI o, wl, wd)) tp tl cb cy (nI 0) ((cmU st ck nh cb cy n (st, bI o, wl, wd)).2.1) ((cmU st ck nh cb cy n (st, bI o, wl, wd)).2.2.1) ((cmU st ck nh cb cy n (st, bI o, wl, wd)).2.2.2)) := hD1
    obtain ⟨hP, hD⟩ := va_join (wr := [(oa, .inl (cL, 1, .inr (.inl fo)))]) (w1 := wX cA ad ((cmU st ck nh cb cy n (st, bI o, wl, wd)).1) ck (cmH st ck nh cb cy n (st, bI o, wl, wd)) tp tl cb cy (nI 0) ((cmU st ck nh cb cy n (st, bI o, wl, wd)).2.1) ((cmU st ck nh cb cy n (st, bI o, wl, wd)).2.2.1) ((cmU st ck nh cb cy n (st, bI o, wl, wd)).2.2.2)) hP hD [0, 1, 2, 3, 4, 5, 6] [7] rfl rfl (by decide) (by decide) hk1 hFc hP1 hD1
    have hP : va_P (dC, dI) vwCl (wX cA ad ((cmU st ck nh cb cy n (st, bI o, wl, wd)).1) ck (cmH st ck nh cb cy n (st, bI o, wl, wd)) tp tl cb cy (nI 0) ((cmU st ck nh cb cy n (st, bI o, wl, wd)).2.1) ((cmU st ck nh cb cy n (st, bI o, wl, wd)).2.2.1) ((cmU st ck nh cb cy n (st, bI o, wl, wd)).2.2.2) ++ [(oa, .inl (cL, 1, .inr (.inl fo)))]) H1 := hP.sub (ws' := wX cA ad ((cmU st ck nh cb cy n (st, bI o, wl, wd)).1) ck (cmH st ck nh cb cy n (st, bI o, wl, wd)) tp tl cb cy (nI 0) ((cmU st ck nh cb cy n (st, bI o, wl, wd)).2.1) ((cmU st ck nh cb cy n (st, bI o, wl, wd)).2.2.1) ((cmU st ck nh cb cy n (st, bI o, wl, wd)).2.2.2) ++ [(oa, .inl (cL, 1, .inr (.inl fo)))]) [1, 2, 3, 4, 5, 6, 7, 0] rfl
    have hD : va_D A (wX cA ad ((cmU st ck nh cb cy n (st, bI o, wl, wd)).1) ck (cmH st ck nh cb cy n (st, bI o, wl, wd)) tp tl cb cy (nI 0) ((cmU st ck nh cb cy n (st, bI o, wl, wd)).2.1) ((cmU st ck nh cb cy n (st, bI o, wl, wd)).2.2.1) ((cmU st ck nh cb cy n (st, bI o, wl, wd)).2.2.2) ++ [(oa, .inl (cL, 1, .inr (.inl fo)))]) := hD.sub (ws' := wX cA ad ((cmU st ck nh cb cy n (st, bI o, wl, wd)).1) ck (cmH st ck nh cb cy n (st, bI o, wl, wd)) tp tl cb cy (nI 0) ((cmU st ck nh cb cy n (st, bI o, wl, wd)).2.1) ((cmU st ck nh cb cy n (st, bI o, wl, wd)).2.2.1) ((cmU st ck nh cb cy n (st, bI o, wl, wd)).2.2.2) ++ [(oa, .inl (cL, 1, .inr (.inl fo)))]) [1, 2, 3, 4, 5, 6, 7, 0] (by decide) rfl
    generalize H1 = H at hP hS ⊢
    refine lv_if_eq (tgt := 13) hx hb dL_commit_6 (by decide) (fun c0 => ?_) (fun c0 => ?_)
    · refine lv_lconst (v := 0) hx hb dL_commit_13 (by decide) ?_
      refine va_last (D := (dC, dI)) hx hb hK hP hD hS 7 1 (cA := cL) (n := 1) (f := fo) rfl rfl (i := nI 0) (vp_in_nI (by decide) (by decide)) dL_commit_14 (fun H locs hP hD hS => ?_)
      have hP : va_P (dC, dI) vwCl (wX cA ad ((cmU st ck nh cb cy n (st, bI o, wl, wd)).1) ck (cmH st ck nh cb cy n (st, bI o, wl, wd)) tp tl cb cy (nI 0) ((cmU st ck nh cb cy n (st, bI o, wl, wd)).2.1) ((cmU st ck nh cb cy n (st, bI o, wl, wd)).2.2.1) ((cmU st ck nh cb cy n (st, bI o, wl, wd)).2.2.2) ++ [(oa, .inl (cL, 1, .inr (.inl (vp_updL fo 0 (0)))))]) H := hP
      have hD : va_D A (wX cA ad ((cmU st ck nh cb cy n (st, bI o, wl, wd)).1) ck (cmH st ck nh cb cy n (st, bI o, wl, wd)) tp tl cb cy (nI 0) ((cmU st ck nh cb cy n (st, bI o, wl, wd)).2.1) ((cmU st ck nh cb cy n (st, bI o, wl, wd)).2.2.1) ((cmU st ck nh cb cy n (st, bI o, wl, wd)).2.2.2) ++ [(oa, .inl (cL, 1, .inr (.inl (vp_updL fo 0 (0)))))]) := hD
      refine lv_goto (tgt := 21) hx hb dL_commit_15 (by decide) ?_
      refine lv_iconst (v := nI 0) hx hb dL_commit_21 (by decide) ?_
      exact W.iret (v := nI 0) hx hb hr (fun t ht hW => ⟨⟨_, (((cmU st ck nh cb cy n (st, bI o, wl, wd)).1, cmH st ck nh cb cy n (st, bI o, wl, wd), tp, tl, cb, cy, nI 0, (cmU st ck nh cb cy n (st, bI o, wl, wd)).2.1, (cmU st ck nh cb cy n (st, bI o, wl, wd)).2.2.1, (cmU st ck nh cb cy n (st, bI o, wl, wd)).2.2.2), vp_updL fo 0 (0)), rfl, ⟨by rw [hk], by rw [hk]; rfl, fun _ => by rw [← hres, if_pos c0]; show vp_updL fo 0 0 0 = _; exact pk_uLs⟩, by rw [ht]; exact hP, va_K.moved hW.alike hK, hD⟩, hS.F ht⟩) hS.2.2 dL_commit_22
    · refine lv_lconst (v := 1) hx hb dL_commit_9 (by decide) ?_
      refine lv_goto (tgt := 14) hx hb dL_commit_10 (by decide) ?_
      refine va_last (D := (dC, dI)) hx hb hK hP hD hS 7 1 (cA := cL) (n := 1) (f := fo) rfl rfl (i := nI 0) (vp_in_nI (by decide) (by decide)) dL_commit_14 (fun H locs hP hD hS => ?_)
      have hP : va_P (dC, dI) vwCl (wX cA ad ((cmU st ck nh cb cy n (st, bI o, wl, wd)).1) ck (cmH st ck nh cb cy n (st, bI o, wl, wd)) tp tl cb cy (nI 0) ((cmU st ck nh cb cy n (st, bI o, wl, wd)).2.1) ((cmU st ck nh cb cy n (st, bI o, wl, wd)).2.2.1) ((cmU st ck nh cb cy n (st, bI o, wl, wd)).2.2.2) ++ [(oa, .inl (cL, 1, .inr (.inl (vp_updL fo 0 (1)))))]) H := hP
      have hD : va_D A (wX cA ad ((cmU st ck nh cb cy n (st, bI o, wl, wd)).1) ck (cmH st ck nh cb cy n (st, bI o, wl, wd)) tp tl cb cy (nI 0) ((cmU st ck nh cb cy n (st, bI o, wl, wd)).2.1) ((cmU st ck nh cb cy n (st, bI o, wl, wd)).2.2.1) ((cmU st ck nh cb cy n (st, bI o, wl, wd)).2.2.2) ++ [(oa, .inl (cL, 1, .inr (.inl (vp_updL fo 0 (1)))))]) := hD
      refine lv_goto (tgt := 21) hx hb dL_commit_15 (by decide) ?_
      refine lv_iconst (v := nI 0) hx hb dL_commit_21 (by decide) ?_
      exact W.iret (v := nI 0) hx hb hr (fun t ht hW => ⟨⟨_, (((cmU st ck nh cb cy n (st, bI o, wl, wd)).1, cmH st ck nh cb cy n (st, bI o, wl, wd), tp, tl, cb, cy, nI 0, (cmU st ck nh cb cy n (st, bI o, wl, wd)).2.1, (cmU st ck nh cb cy n (st, bI o, wl, wd)).2.2.1, (cmU st ck nh cb cy n (st, bI o, wl, wd)).2.2.2), vp_updL fo 0 (1)), rfl, ⟨by rw [hk], by rw [hk]; rfl, fun _ => by rw [← hres, if_neg c0]; show vp_updL fo 0 1 0 = _; exact pk_uLs⟩, by rw [ht]; exact hP, va_K.moved hW.alike hK, hD⟩, hS.F ht⟩) hS.2.2 dL_commit_22

set_option maxHeartbeats 4000000 in
set_option maxRecDepth 100000 in
theorem c_L_recover (l : Launch) (h9 : l.stackTraces = false) (dC : Nat → ClassId) (dI : Nat → Nat → Nat) (cA : ClassId) (ad : Nat → Nat) (cL : ClassId) (oa : Nat) (fo : Nat → Int64) (sz : Nat) (st ck nh tp : Nat → Int32) (tl : Int32) (cb cy : Nat → Int32) (nc wl : Int32) (wd : Int64) (o : Bool)  : Met l yL_recover wsL_recover ({ frames := 7, cells := 1, slots := 6, locals := 127 } : Room) (va_Pc [.ref (ad 0), .ref oa] (fun U => U.heap.size = sz ∧ va_P (dC, dI) vwCl (wX cA ad st ck nh tp tl cb cy nc (bI o) wl wd ++ [(oa, .inl (cL, 1, .inr (.inl fo)))]) U.heap ∧ va_K (dC, dI) vwCl [(cA, .int), (cL, .long)] U ∧ va_D (fun _ => True) (wX cA ad st ck nh tp tl cb cy nc (bI o) wl wd ++ [(oa, .inl (cL, 1, .inr (.inl fo)))]) ∧ bjE (va_A (wX cA ad st ck nh tp tl cb cy nc (bI o) wl wd ++ [(oa, .inl (cL, 1, .inr (.inl fo)))]) sz) U U.heap ∧ va_Nc "java/lang/IllegalStateException" "java/lang/IllegalArgumentException" U)) (va_Qi (fun (r : Int32) (u : XS × (Nat → Int64)) => r = nI (reK o) ∧ u.1 = (if reK o = 0 then ((reU st ck nh (st, bI o, wl, wd)).1, reH st ck nh (st, bI o, wl, wd), tp, tl, cb, cy, nc, (reU st ck nh (st, bI o, wl, wd)).2.1, (reU st ck nh (st, bI o, wl, wd)).2.2.1, (reU st ck nh (st, bI o, wl, wd)).2.2.2) else (st, nh, tp, tl, cb, cy, nc, bI o, wl, wd) : XS) ∧ (reK o = 0 → u.2 0 = (reR st ck nh (st, bI o, wl, wd)).toInt64)) (fun u t => va_P (dC, dI) vwCl (wXu cA ad ck u.1 ++ [(oa, .inl (cL, 1, .inr (.inl u.2)))]) t.heap ∧ va_K (dC, dI) vwCl [(cA, .int), (cL, .long)] t ∧ va_D (va_A (wX cA ad st ck nh tp tl cb cy nc (bI o) wl wd ++ [(oa, .inl (cL, 1, .inr (.inl fo)))]) sz) (wXu cA ad ck u.1 ++ [(oa, .inl (cL, 1, .inr (.inl u.2)))])) (va_A (wX cA ad st ck nh tp tl cb cy nc (bI o) wl wd ++ [(oa, .inl (cL, 1, .inr (.inl fo)))]) sz)) 1 6 (va_A (wX cA ad st ck nh tp tl cb cy nc (bI o) wl wd ++ [(oa, .inl (cL, 1, .inr (.inl fo)))]) sz) := by
  refine bx_ofWH (cc := cL_recover) (maxL := 3) (ret := (some .int)) (hh := [(0, 8, 11, 15)]) (by decide) rfl ?_
  intro p e s m args below meth c s₁ B hml hv
  obtain ⟨rfl, hsz, hP, hK, hD0, hE, hNc⟩ := hv
  have hx := B.exec
  have hb := B.bytes
  have hr := B.returns
  have hts := atoms_spec (ws := wsL_recover) B.pre
  have hown : s.vm.findClass RL = some m.cls := findClass_of_methodNamed B.named
  have hlocks := B.notSynchronized
  have htab : c.exceptionTable.toList = ([⟨0, 8, 11, 15⟩] : List ExceptionTableEntry) := vx_table (x := yL_recover) B (hts _ List.mem_cons_self)
  subst hsz
  have hD := hD0.self (sz := s.heap.size)
  generalize hAe : va_A (wX cA ad st ck nh tp tl cb cy nc (bI o) wl wd ++ [(oa, .inl (cL, 1, .inr (.inl fo)))]) s.heap.size = A at hD hE ⊢
  have hA : ∀ q : Nat, s.heap.size ≤ q → A q := fun q h => by rw [← hAe]; exact Or.inr h
  have hS : va_S A s.heap s.heap [] := va_S.rf
  have hP : va_P (dC, dI) vwCl (wX cA ad st ck nh tp tl cb cy nc (bI o) wl wd ++ [(oa, .inl (cL, 1, .inr (.inl fo)))]) s.heap := hP
  have hl := lv_entry ([.ref (ad 0), .ref oa]) (n := 3) (Nat.le_of_ble_eq_true rfl)
  rw [lg_entry_eq]
  generalize (lg_sl ([.ref (ad 0), .ref oa]) ++ List.replicate (3 - (lg_sl ([.ref (ad 0), .ref oa])).length) Slot.unset).toArray = ls at hl ⊢
  have hl : lv_has ls 3 [(0, .ref (ad 0)), (1, .ref oa)] := hl
  refine lv_aload_n hx hb dL_recover_0 rfl (lv_at hl 1 rfl) ?_
  refine lv_iconst (v := nI 0) hx hb dL_recover_1 (by decide) ?_
  refine lv_aload_n hx hb dL_recover_2 rfl (lv_at hl 0 rfl) ?_
  have hPc := hP.sub (ws' := wX cA ad st ck nh tp tl cb cy nc (bI o) wl wd) [0, 1, 2, 3, 4, 5, 6] rfl
  have hDc := hD.sub (ws' := wX cA ad st ck nh tp tl cb cy nc (bI o) wl wd) [0, 1, 2, 3, 4, 5, 6] (by decide) rfl
  have hKc := hK.sub (tys' := [(cA, .int)]) [0] rfl
  have hFc := va_free (wc := wX cA ad st ck nh tp tl cb cy nc (bI o) wl wd) hD hS hA [0, 1, 2, 3, 4, 5, 6] rfl
  refine vx_calli (vx_runV (As := []) (rest := [.int (nI 0), .ref oa]) ⟨hx, hb, hml, hown, hts⟩ (c_X0_recover l h9 dC dI cA ad s.heap.size st ck nh tp tl cb cy nc wl wd o) (cwV 0 hts gL_recover_X0_recover rfl rfl rfl (by decide +kernel) ⟨Nat.le_of_ble_eq_true rfl, Nat.le_of_ble_eq_true rfl⟩) ⟨fun a U g mk q => by obtain ⟨q0, q1, qP, qK, qD, qE⟩ := q; exact ⟨q0, q1, qP, va_K.moved (u := U) (U := U.calling g mk a) (Vm.Alike.refl U.vm) qK, qD, bjE_calling qE⟩, va_recv hKc hPc (ci := 0) (q0 := 0) rfl rfl, fun U hU hW => ⟨rfl, by rw [hU], by rw [hU]; exact hPc, va_K.moved hW.alike hKc, hDc.weaken (fun _ _ _ _ => trivial), bjE_at hE hS hW hU hFc⟩⟩ rfl rfl hl.1 rfl (lv_room (Nat.le_of_ble_eq_true rfl)) dL_recover_3 ⟨Nat.le_of_ble_eq_true rfl, Nat.le_of_ble_eq_true rfl⟩) hS (fun q _ h => hFc q h) hFc (fun q _ h => hFc q h) (fun E ce q9 u t H1 locs ht hvm hw hB hz1 hk1 hS hq9 hcv hcl => ?_) (fun r u t H1 locs ht hvm hw hB hz1 hk1 hS => ?_)
  · obtain ⟨hcond, hP1, hK1, hD1⟩ := hB
    rw [ht] at hP1
    obtain ⟨hP, hD⟩ := va_join (wr := [(oa, .inl (cL, 1, .inr (.inl fo)))]) (w1 := wX cA ad st ck nh tp tl cb cy nc (bI o) wl wd) hP hD [0, 1, 2, 3, 4, 5, 6] [7] rfl rfl (by decide) (by decide) hk1 hFc hP1 hD1
    have hP : va_P (dC, dI) vwCl (wX cA ad st ck nh tp tl cb cy nc (bI o) wl wd ++ [(oa, .inl (cL, 1, .inr (.inl fo)))]) H1 := hP.sub (ws' := wX cA ad st ck nh tp tl cb cy nc (bI o) wl wd ++ [(oa, .inl (cL, 1, .inr (.inl fo)))]) [1, 2, 3, 4, 5, 6, 7, 0] rfl
    have hD : va_D A (wX cA ad st ck nh tp tl cb cy nc (bI o) wl wd ++ [(oa, .inl (cL, 1, .inr (.inl fo)))]) := hD.sub (ws' := wX cA ad st ck nh tp tl cb cy nc (bI o) wl wd ++ [(oa, .inl (cL, 1, .inr (.inl fo)))]) [1, 2, 3, 4, 5, 6, 7, 0] (by decide) rfl
    generalize H1 = H at hP hS hq9 ⊢
    obtain ⟨hk, rfl⟩ := hcond
    refine bx_catch (own := RL) (name := "java/lang/IllegalStateException") hown [] ⟨0, 8, 11, 15⟩ [] htab (fun z hz => nomatch hz) (by decide) (by decide) (hts (.classLink RL 15 "java/lang/IllegalStateException") (by decide +kernel)) (va_any rfl (hE.2.2.1 (.castable "java/lang/IllegalStateException" "java/lang/IllegalStateException") (by decide +kernel))) hq9 hcv hcl ?_
    refine lv_astore_n (lv' := [(2, .ref q9), (0, .ref (ad 0)), (1, .ref oa)]) hx hb dL_recover_11 rfl hl (by decide) rfl (fun ls hl => ?_)
    refine lv_iconst (v := nI 1) hx hb dL_recover_12 (by decide) ?_
    exact W.iret (v := nI 1) hx hb hr (fun t ht hW => ⟨⟨_, ((st, nh, tp, tl, cb, cy, nc, bI o, wl, wd), fo), rfl, ⟨by rw [hk], by rw [hk]; rfl, fun h => by rw [hk] at h; cases h⟩, by rw [ht]; exact hP, va_K.moved hW.alike hK, hD⟩, hS.F ht⟩) hS.2.2 dL_recover_13
  · obtain ⟨hP1, hK1, hD1⟩ := hB
    rw [ht] at hP1
    obtain ⟨hk, hres, rfl⟩ := hw
    have hP1 : va_P (dC, dI) vwCl (wX cA ad ((reU st ck nh (st, bI o, wl, wd)).1) ck (reH st ck nh (st, bI o, wl, wd)) tp tl cb cy nc ((reU st ck nh (st, bI o, wl, wd)).2.1) ((reU st ck nh (st, bI o, wl, wd)).2.2.1) ((reU st ck nh (st, bI o, wl, wd)).2.2.2)) H1 := hP1
    have hD1 : va_D (va_A (wX cA ad st ck nh tp tl cb cy nc (bI o) wl wd) s.heap.size) (wX cA ad ((reU st ck nh (st, bI o, wl, wd)).1) ck (reH st ck nh (st, bI o, wl, wd)) tp tl cb cy nc ((reU st ck nh (st, bI o, wl, wd)).2.1) ((reU st ck nh (st, bI o, wl, wd)).2.2.1) ((reU st ck nh (st, bI o, wl, wd)).2.2.2)) := hD1
    obtain ⟨hP, hD⟩ := va_join (wr := [(oa, .inl (cL, 1, .inr (.inl fo)))]) (w1 := wX cA ad ((reU st ck nh (st, bI o, wl, wd)).1) ck (reH st ck nh (st, bI o, wl, wd)) tp tl cb cy nc ((reU st ck nh (st, bI o, wl, wd)).2.1) ((reU st ck nh (st, bI o, wl, wd)).2.2.1) ((reU st ck nh (st, bI o, wl, wd)).2.2.2)) hP hD [0, 1, 2, 3, 4, 5, 6] [7] rfl rfl (by decide) (by decide) hk1 hFc hP1 hD1
    have hP : va_P (dC, dI) vwCl (wX cA ad ((reU st ck nh (st, bI o, wl, wd)).1) ck (reH st ck nh (st, bI o, wl, wd)) tp tl cb cy nc ((reU st ck nh (st, bI o, wl, wd)).2.1) ((reU st ck nh (st, bI o, wl, wd)).2.2.1) ((reU st ck nh (st, bI o, wl, wd)).2.2.2) ++ [(oa, .inl (cL, 1, .inr (.inl fo)))]) H1 := hP.sub (ws' := wX cA ad ((reU st ck nh (st, bI o, wl, wd)).1) ck (reH st ck nh (st, bI o, wl, wd)) tp tl cb cy nc ((reU st ck nh (st, bI o, wl, wd)).2.1) ((reU st ck nh (st, bI o, wl, wd)).2.2.1) ((reU st ck nh (st, bI o, wl, wd)).2.2.2) ++ [(oa, .inl (cL, 1, .inr (.inl fo)))]) [1, 2, 3, 4, 5, 6, 7, 0] rfl
    have hD : va_D A (wX cA ad ((reU st ck nh (st, bI o, wl, wd)).1) ck (reH st ck nh (st, bI o, wl, wd)) tp tl cb cy nc ((reU st ck nh (st, bI o, wl, wd)).2.1) ((reU st ck nh (st, bI o, wl, wd)).2.2.1) ((reU st ck nh (st, bI o, wl, wd)).2.2.2) ++ [(oa, .inl (cL, 1, .inr (.inl fo)))]) := hD.sub (ws' := wX cA ad ((reU st ck nh (st, bI o, wl, wd)).1) ck (reH st ck nh (st, bI o, wl, wd)) tp tl cb cy nc ((reU st ck nh (st, bI o, wl, wd)).2.1) ((reU st ck nh (st, bI o, wl, wd)).2.2.1) ((reU st ck nh (st, bI o, wl, wd)).2.2.2) ++ [(oa, .inl (cL, 1, .inr (.inl fo)))]) [1, 2, 3, 4, 5, 6, 7, 0] (by decide) rfl
    generalize H1 = H at hP hS ⊢
    refine lv_i2l hx hb dL_recover_6 rfl ?_
    refine va_last (D := (dC, dI)) hx hb hK hP hD hS 7 1 (cA := cL) (n := 1) (f := fo) rfl rfl (i := nI 0) (vp_in_nI (by decide) (by decide)) dL_recover_7 (fun H locs hP hD hS => ?_)
    have hP : va_P (dC, dI) vwCl (wX cA ad ((reU st ck nh (st, bI o, wl, wd)).1) ck (reH st ck nh (st, bI o, wl, wd)) tp tl cb cy nc ((reU st ck nh (st, bI o, wl, wd)).2.1) ((reU st ck nh (st, bI o, wl, wd)).2.2.1) ((reU st ck nh (st, bI o, wl, wd)).2.2.2) ++ [(oa, .inl (cL, 1, .inr (.inl (vp_updL fo 0 (r.toInt64)))))]) H := hP
    have hD : va_D A (wX cA ad ((reU st ck nh (st, bI o, wl, wd)).1) ck (reH st ck nh (st, bI o, wl, wd)) tp tl cb cy nc ((reU st ck nh (st, bI o, wl, wd)).2.1) ((reU st ck nh (st, bI o, wl, wd)).2.2.1) ((reU st ck nh (st, bI o, wl, wd)).2.2.2) ++ [(oa, .inl (cL, 1, .inr (.inl (vp_updL fo 0 (r.toInt64)))))]) := hD
    refine lv_goto (tgt := 14) hx hb dL_recover_8 (by decide) ?_
    refine lv_iconst (v := nI 0) hx hb dL_recover_14 (by decide) ?_
    exact W.iret (v := nI 0) hx hb hr (fun t ht hW => ⟨⟨_, (((reU st ck nh (st, bI o, wl, wd)).1, reH st ck nh (st, bI o, wl, wd), tp, tl, cb, cy, nc, (reU st ck nh (st, bI o, wl, wd)).2.1, (reU st ck nh (st, bI o, wl, wd)).2.2.1, (reU st ck nh (st, bI o, wl, wd)).2.2.2), vp_updL fo 0 (r.toInt64)), rfl, ⟨by rw [hk], by rw [hk]; rfl, fun _ => by rw [← hres]; show vp_updL fo 0 (r.toInt64) 0 = _; exact pk_uLs⟩, by rw [ht]; exact hP, va_K.moved hW.alike hK, hD⟩, hS.F ht⟩) hS.2.2 dL_recover_15

set_option maxHeartbeats 4000000 in
set_option maxRecDepth 100000 in
theorem c_L_lose (l : Launch) (h9 : l.stackTraces = false) (dC : Nat → ClassId) (dI : Nat → Nat → Nat) (cA : ClassId) (ad : Nat → Nat) (sz : Nat) (st ck nh tp : Nat → Int32) (tl : Int32) (cb cy : Nat → Int32) (nc wl : Int32) (wd : Int64) (o : Bool) (n : Int32)  : Met l yL_lose wsL_lose ({ frames := 7, cells := 1, slots := 6, locals := 103 } : Room) (va_Pc [.ref (ad 0), .int n] (fun U => U.heap.size = sz ∧ va_P (dC, dI) vwCl (wX cA ad st ck nh tp tl cb cy nc (bI o) wl wd) U.heap ∧ va_K (dC, dI) vwCl [(cA, .int)] U ∧ va_D (fun _ => True) (wX cA ad st ck nh tp tl cb cy nc (bI o) wl wd) ∧ bjE (va_A (wX cA ad st ck nh tp tl cb cy nc (bI o) wl wd) sz) U U.heap ∧ va_Nc "java/lang/IllegalStateException" "java/lang/IllegalArgumentException" U)) (va_Qi (fun (r : Int32) (u : XS) => r = nI (loK n o) ∧ u = (if loK n o = 0 then (st, nh, tp, tl, cb, cy, nc, bI o, n - nI 1, wd) else (st, nh, tp, tl, cb, cy, nc, bI o, wl, wd) : XS)) (fun u t => va_P (dC, dI) vwCl (wXu cA ad ck u) t.heap ∧ va_K (dC, dI) vwCl [(cA, .int)] t ∧ va_D (va_A (wX cA ad st ck nh tp tl cb cy nc (bI o) wl wd) sz) (wXu cA ad ck u)) (va_A (wX cA ad st ck nh tp tl cb cy nc (bI o) wl wd) sz)) 1 6 (va_A (wX cA ad st ck nh tp tl cb cy nc (bI o) wl wd) sz) := by
  refine bx_ofWH (cc := cL_lose) (maxL := 3) (ret := (some .int)) (hh := [(0, 5, 8, 13), (0, 5, 11, 15)]) (by decide) rfl ?_
  intro p e s m args below meth c s₁ B hml hv
  obtain ⟨rfl, hsz, hP, hK, hD0, hE, hNc⟩ := hv
  have hx := B.exec
  have hb := B.bytes
  have hr := B.returns
  have hts := atoms_spec (ws := wsL_lose) B.pre
  have hown : s.vm.findClass RL = some m.cls := findClass_of_methodNamed B.named
  have hlocks := B.notSynchronized
  have htab : c.exceptionTable.toList = ([⟨0, 5, 8, 13⟩, ⟨0, 5, 11, 15⟩] : List ExceptionTableEntry) := vx_table (x := yL_lose) B (hts _ List.mem_cons_self)
  subst hsz
  have hD := hD0.self (sz := s.heap.size)
  generalize hAe : va_A (wX cA ad st ck nh tp tl cb cy nc (bI o) wl wd) s.heap.size = A at hD hE ⊢
  have hA : ∀ q : Nat, s.heap.size ≤ q → A q := fun q h => by rw [← hAe]; exact Or.inr h
  have hS : va_S A s.heap s.heap [] := va_S.rf
  have hP : va_P (dC, dI) vwCl (wX cA ad st ck nh tp tl cb cy nc (bI o) wl wd) s.heap := hP
  have hl := lv_entry ([.ref (ad 0), .int n]) (n := 3) (Nat.le_of_ble_eq_true rfl)
  rw [lg_entry_eq]
  generalize (lg_sl ([.ref (ad 0), .int n]) ++ List.replicate (3 - (lg_sl ([.ref (ad 0), .int n])).length) Slot.unset).toArray = ls at hl ⊢
  have hl : lv_has ls 3 [(0, .ref (ad 0)), (1, .int n)] := hl
  refine lv_aload_n hx hb dL_lose_0 rfl (lv_at hl 0 rfl) ?_
  refine lv_iload_n hx hb dL_lose_1 rfl (lv_at hl 1 rfl) ?_
  have hPc := hP.sub (ws' := wX cA ad st ck nh tp tl cb cy nc (bI o) wl wd) [0, 1, 2, 3, 4, 5, 6] rfl
  have hDc := hD.sub (ws' := wX cA ad st ck nh tp tl cb cy nc (bI o) wl wd) [0, 1, 2, 3, 4, 5, 6] (by decide) rfl
  have hKc := hK.sub (tys' := [(cA, .int)]) [0] rfl
  have hFc := va_free (wc := wX cA ad st ck nh tp tl cb cy nc (bI o) wl wd) hD hS hA [0, 1, 2, 3, 4, 5, 6] rfl
  refine vx_callv (vx_runV (As := [.int n]) (rest := []) ⟨hx, hb, hml, hown, hts⟩ (c_X0_lose l h9 dC dI cA ad s.heap.size st ck nh tp tl cb cy nc wl wd o n) (cwV 1 hts gL_lose_X0_lose rfl rfl rfl (by decide +kernel) ⟨Nat.le_of_ble_eq_true rfl, Nat.le_of_ble_eq_true rfl⟩) ⟨fun a U g mk q => by obtain ⟨q0, q1, qP, qK, qD, qE⟩ := q; exact ⟨q0, q1, qP, va_K.moved (u := U) (U := U.calling g mk a) (Vm.Alike.refl U.vm) qK, qD, bjE_calling qE⟩, va_recv hKc hPc (ci := 0) (q0 := 0) rfl rfl, fun U hU hW => ⟨rfl, by rw [hU], by rw [hU]; exact hPc, va_K.moved hW.alike hKc, hDc.weaken (fun _ _ _ _ => trivial), bjE_at hE hS hW hU hFc⟩⟩ rfl rfl hl.1 rfl (lv_room (Nat.le_of_ble_eq_true rfl)) dL_lose_2 ⟨Nat.le_of_ble_eq_true rfl, Nat.le_of_ble_eq_true rfl⟩) hS (fun q _ h => hFc q h) hFc (fun q _ h => hFc q h) (fun E ce q9 u t H1 locs ht hvm hw hB hz1 hk1 hS hq9 hcv hcl => ?_) (fun u t H1 locs ht hvm hw hB hz1 hk1 hS => ?_)
  · obtain ⟨hcond, hP1, hK1, hD1⟩ := hB
    rw [ht] at hP1
    have hP : va_P (dC, dI) vwCl (wX cA ad st ck nh tp tl cb cy nc (bI o) wl wd) H1 := hP1
    have hD : va_D A (wX cA ad st ck nh tp tl cb cy nc (bI o) wl wd) := ⟨hD1.1, fun k q h => hFc _ (hD1.2 k q h)⟩
    generalize H1 = H at hP hS hq9 ⊢
    rcases hcond with ⟨hk, rfl⟩ | ⟨hk, rfl⟩
    · refine bx_catch (own := RL) (name := "java/lang/IllegalArgumentException") hown [] ⟨0, 5, 8, 13⟩ [⟨0, 5, 11, 15⟩] htab (fun z hz => nomatch hz) (by decide) (by decide) (hts (.classLink RL 13 "java/lang/IllegalArgumentException") (by decide +kernel)) (va_any rfl (hE.2.2.1 (.castable "java/lang/IllegalArgumentException" "java/lang/IllegalArgumentException") (by decide +kernel))) hq9 hcv hcl ?_
      refine lv_astore_n (lv' := [(2, .ref q9), (0, .ref (ad 0)), (1, .int n)]) hx hb dL_lose_8 rfl hl (by decide) rfl (fun ls hl => ?_)
      refine lv_iconst (v := nI 1) hx hb dL_lose_9 (by decide) ?_
      exact W.iret (v := nI 1) hx hb hr (fun t ht hW => ⟨⟨_, (st, nh, tp, tl, cb, cy, nc, bI o, wl, wd), rfl, ⟨by rw [hk], by rw [hk]; rfl⟩, by rw [ht]; exact hP, va_K.moved hW.alike hK, hD⟩, hS.F ht⟩) hS.2.2 dL_lose_10
    · refine bx_catch (own := RL) (name := "java/lang/IllegalStateException") hown [⟨0, 5, 8, 13⟩] ⟨0, 5, 11, 15⟩ [] htab (fun z hz => by
          obtain rfl := List.mem_singleton.mp hz
          exact Or.inr ⟨by decide, "java/lang/IllegalArgumentException", hts (.classLink RL 13 "java/lang/IllegalArgumentException") (by decide +kernel), hNc⟩) (by decide) (by decide) (hts (.classLink RL 15 "java/lang/IllegalStateException") (by decide +kernel)) (va_any rfl (hE.2.2.1 (.castable "java/lang/IllegalStateException" "java/lang/IllegalStateException") (by decide +kernel))) hq9 hcv hcl ?_
      refine lv_astore_n (lv' := [(2, .ref q9), (0, .ref (ad 0)), (1, .int n)]) hx hb dL_lose_11 rfl hl (by decide) rfl (fun ls hl => ?_)
      refine lv_iconst (v := nI 2) hx hb dL_lose_12 (by decide) ?_
      exact W.iret (v := nI 2) hx hb hr (fun t ht hW => ⟨⟨_, (st, nh, tp, tl, cb, cy, nc, bI o, wl, wd), rfl, ⟨by rw [hk], by rw [hk]; rfl⟩, by rw [ht]; exact hP, va_K.moved hW.alike hK, hD⟩, hS.F ht⟩) hS.2.2 dL_lose_13
  · obtain ⟨hP1, hK1, hD1⟩ := hB
    rw [ht] at hP1
    obtain ⟨hk, rfl⟩ := hw
    have hP1 : va_P (dC, dI) vwCl (wX cA ad st ck nh tp tl cb cy nc (bI o) (n - nI 1) wd) H1 := hP1
    have hD1 : va_D (va_A (wX cA ad st ck nh tp tl cb cy nc (bI o) wl wd) s.heap.size) (wX cA ad st ck nh tp tl cb cy nc (bI o) (n - nI 1) wd) := hD1
    have hP : va_P (dC, dI) vwCl (wX cA ad st ck nh tp tl cb cy nc (bI o) (n - nI 1) wd) H1 := hP1
    have hD : va_D A (wX cA ad st ck nh tp tl cb cy nc (bI o) (n - nI 1) wd) := ⟨hD1.1, fun k q h => hFc _ (hD1.2 k q h)⟩
    generalize H1 = H at hP hS ⊢
    refine lv_goto (tgt := 14) hx hb dL_lose_5 (by decide) ?_
    refine lv_iconst (v := nI 0) hx hb dL_lose_14 (by decide) ?_
    exact W.iret (v := nI 0) hx hb hr (fun t ht hW => ⟨⟨_, (st, nh, tp, tl, cb, cy, nc, bI o, n - nI 1, wd), rfl, ⟨by rw [hk], by rw [hk]; rfl⟩, by rw [ht]; exact hP, va_K.moved hW.alike hK, hD⟩, hS.F ht⟩) hS.2.2 dL_lose_15

set_option maxHeartbeats 4000000 in
set_option maxRecDepth 100000 in
theorem c_L_spoil (l : Launch) (h9 : l.stackTraces = false) (dC : Nat → ClassId) (dI : Nat → Nat → Nat) (cA : ClassId) (ad : Nat → Nat) (cL : ClassId) (oa : Nat) (fo : Nat → Int64) (sz : Nat) (st ck nh tp : Nat → Int32) (tl : Int32) (cb cy : Nat → Int32) (nc of wl : Int32) (wd : Int64) (b k v : Int32)  : Met l yL_spoil wsL_spoil ({ frames := 7, cells := 1, slots := 6, locals := 106 } : Room) (va_Pc [.ref (ad 0), .int b, .int k, .int v, .ref oa] (fun U => U.heap.size = sz ∧ va_P (dC, dI) vwCl (wX cA ad st ck nh tp tl cb cy nc of wl wd ++ [(oa, .inl (cL, 1, .inr (.inl fo)))]) U.heap ∧ va_K (dC, dI) vwCl [(cA, .int), (cL, .long)] U ∧ va_D (fun _ => True) (wX cA ad st ck nh tp tl cb cy nc of wl wd ++ [(oa, .inl (cL, 1, .inr (.inl fo)))]) ∧ bjE (va_A (wX cA ad st ck nh tp tl cb cy nc of wl wd ++ [(oa, .inl (cL, 1, .inr (.inl fo)))]) sz) U U.heap ∧ va_Nc "java/lang/IllegalStateException" "java/lang/IllegalArgumentException" U)) (va_Qi (fun (r : Int32) (u : XS × (Nat → Int64)) => r = nI (atK b k) ∧ u.1 = (if atK b k = 0 then (upd st (b.toNatClampNeg * 64 + k.toNatClampNeg) (v &&& nI 255), nh, tp, tl, cb, cy, nc, of, wl, wd) else (st, nh, tp, tl, cb, cy, nc, of, wl, wd) : XS) ∧ (atK b k = 0 → u.2 0 = (st (b.toNatClampNeg * 64 + k.toNatClampNeg)).toInt64)) (fun u t => va_P (dC, dI) vwCl (wXu cA ad ck u.1 ++ [(oa, .inl (cL, 1, .inr (.inl u.2)))]) t.heap ∧ va_K (dC, dI) vwCl [(cA, .int), (cL, .long)] t ∧ va_D (va_A (wX cA ad st ck nh tp tl cb cy nc of wl wd ++ [(oa, .inl (cL, 1, .inr (.inl fo)))]) sz) (wXu cA ad ck u.1 ++ [(oa, .inl (cL, 1, .inr (.inl u.2)))])) (va_A (wX cA ad st ck nh tp tl cb cy nc of wl wd ++ [(oa, .inl (cL, 1, .inr (.inl fo)))]) sz)) 1 6 (va_A (wX cA ad st ck nh tp tl cb cy nc of wl wd ++ [(oa, .inl (cL, 1, .inr (.inl fo)))]) sz) := by
  refine bx_ofWH (cc := cL_spoil) (maxL := 6) (ret := (some .int)) (hh := [(0, 12, 15, 13)]) (by decide) rfl ?_
  intro p e s m args below meth c s₁ B hml hv
  obtain ⟨rfl, hsz, hP, hK, hD0, hE, hNc⟩ := hv
  have hx := B.exec
  have hb := B.bytes
  have hr := B.returns
  have hts := atoms_spec (ws := wsL_spoil) B.pre
  have hown : s.vm.findClass RL = some m.cls := findClass_of_methodNamed B.named
  have hlocks := B.notSynchronized
  have htab : c.exceptionTable.toList = ([⟨0, 12, 15, 13⟩] : List ExceptionTableEntry) := vx_table (x := yL_spoil) B (hts _ List.mem_cons_self)
  subst hsz
  have hD := hD0.self (sz := s.heap.size)
  generalize hAe : va_A (wX cA ad st ck nh tp tl cb cy nc of wl wd ++ [(oa, .inl (cL, 1, .inr (.inl fo)))]) s.heap.size = A at hD hE ⊢
  have hA : ∀ q : Nat, s.heap.size ≤ q → A q := fun q h => by rw [← hAe]; exact Or.inr h
  have hS : va_S A s.heap s.heap [] := va_S.rf
  have hP : va_P (dC, dI) vwCl (wX cA ad st ck nh tp tl cb cy nc of wl wd ++ [(oa, .inl (cL, 1, .inr (.inl fo)))]) s.heap := hP
  have hl := lv_entry ([.ref (ad 0), .int b, .int k, .int v, .ref oa]) (n := 6) (Nat.le_of_ble_eq_true rfl)
  rw [lg_entry_eq]
  generalize (lg_sl ([.ref (ad 0), .int b, .int k, .int v, .ref oa]) ++ List.replicate (6 - (lg_sl ([.ref (ad 0), .int b, .int k, .int v, .ref oa])).length) Slot.unset).toArray = ls at hl ⊢
  have hl : lv_has ls 6 [(0, .ref (ad 0)), (1, .int b), (2, .int k), (3, .int v), (4, .ref oa)] := hl
  refine lv_aload hx hb dL_spoil_0 (lv_at hl 4 rfl) ?_
  refine lv_iconst (v := nI 0) hx hb dL_spoil_2 (by decide) ?_
  refine lv_aload_n hx hb dL_spoil_3 rfl (lv_at hl 0 rfl) ?_
  refine lv_iload_n hx hb dL_spoil_4 rfl (lv_at hl 1 rfl) ?_
  refine lv_iload_n hx hb dL_spoil_5 rfl (lv_at hl 2 rfl) ?_
  refine lv_iload_n hx hb dL_spoil_6 rfl (lv_at hl 3 rfl) ?_
  have hPc := hP.sub (ws' := wX cA ad st ck nh tp tl cb cy nc of wl wd) [0, 1, 2, 3, 4, 5, 6] rfl
  have hDc := hD.sub (ws' := wX cA ad st ck nh tp tl cb cy nc of wl wd) [0, 1, 2, 3, 4, 5, 6] (by decide) rfl
  have hKc := hK.sub (tys' := [(cA, .int)]) [0] rfl
  have hFc := va_free (wc := wX cA ad st ck nh tp tl cb cy nc of wl wd) hD hS hA [0, 1, 2, 3, 4, 5, 6] rfl
  refine vx_calli (vx_runV (As := [.int b, .int k, .int v]) (rest := [.int (nI 0), .ref oa]) ⟨hx, hb, hml, hown, hts⟩ (c_X0_spoil l h9 dC dI cA ad s.heap.size st ck nh tp tl cb cy nc of wl wd b k v) (cwV 3 hts gL_spoil_X0_spoil rfl rfl rfl (by decide +kernel) ⟨Nat.le_of_ble_eq_true rfl, Nat.le_of_ble_eq_true rfl⟩) ⟨fun a U g mk q => by obtain ⟨q0, q1, qP, qK, qD, qE⟩ := q; exact ⟨q0, q1, qP, va_K.moved (u := U) (U := U.calling g mk a) (Vm.Alike.refl U.vm) qK, qD, bjE_calling qE⟩, va_recv hKc hPc (ci := 0) (q0 := 0) rfl rfl, fun U hU hW => ⟨rfl, by rw [hU], by rw [hU]; exact hPc, va_K.moved hW.alike hKc, hDc.weaken (fun _ _ _ _ => trivial), bjE_at hE hS hW hU hFc⟩⟩ rfl rfl hl.1 rfl (lv_room (Nat.le_of_ble_eq_true rfl)) dL_spoil_7 ⟨Nat.le_of_ble_eq_true rfl, Nat.le_of_ble_eq_true rfl⟩) hS (fun q _ h => hFc q h) hFc (fun q _ h => hFc q h) (fun E ce q9 u t H1 locs ht hvm hw hB hz1 hk1 hS hq9 hcv hcl => ?_) (fun r u t H1 locs ht hvm hw hB hz1 hk1 hS => ?_)
  · obtain ⟨hcond, hP1, hK1, hD1⟩ := hB
    rw [ht] at hP1
    obtain ⟨hP, hD⟩ := va_join (wr := [(oa, .inl (cL, 1, .inr (.inl fo)))]) (w1 := wX cA ad st ck nh tp tl cb cy nc of wl wd) hP hD [0, 1, 2, 3, 4, 5, 6] [7] rfl rfl (by decide) (by decide) hk1 hFc hP1 hD1
    have hP : va_P (dC, dI) vwCl (wX cA ad st ck nh tp tl cb cy nc of wl wd ++ [(oa, .inl (cL, 1, .inr (.inl fo)))]) H1 := hP.sub (ws' := wX cA ad st ck nh tp tl cb cy nc of wl wd ++ [(oa, .inl (cL, 1, .inr (.inl fo)))]) [1, 2, 3, 4, 5, 6, 7, 0] rfl
    have hD : va_D A (wX cA ad st ck nh tp tl cb cy nc of wl wd ++ [(oa, .inl (cL, 1, .inr (.inl fo)))]) := hD.sub (ws' := wX cA ad st ck nh tp tl cb cy nc of wl wd ++ [(oa, .inl (cL, 1, .inr (.inl fo)))]) [1, 2, 3, 4, 5, 6, 7, 0] (by decide) rfl
    generalize H1 = H at hP hS hq9 ⊢
    obtain ⟨hk, rfl⟩ := hcond
    refine bx_catch (own := RL) (name := "java/lang/IllegalArgumentException") hown [] ⟨0, 12, 15, 13⟩ [] htab (fun z hz => nomatch hz) (by decide) (by decide) (hts (.classLink RL 13 "java/lang/IllegalArgumentException") (by decide +kernel)) (va_any rfl (hE.2.2.1 (.castable "java/lang/IllegalArgumentException" "java/lang/IllegalArgumentException") (by decide +kernel))) hq9 hcv hcl ?_
    refine lv_astore (lv' := [(5, .ref q9), (0, .ref (ad 0)), (1, .int b), (2, .int k), (3, .int v), (4, .ref oa)]) hx hb dL_spoil_15 hl (by decide) rfl (fun ls hl => ?_)
    refine lv_iconst (v := nI 1) hx hb dL_spoil_17 (by decide) ?_
    exact W.iret (v := nI 1) hx hb hr (fun t ht hW => ⟨⟨_, ((st, nh, tp, tl, cb, cy, nc, of, wl, wd), fo), rfl, ⟨by rw [hk], by rw [hk]; rfl, fun h => by rw [hk] at h; cases h⟩, by rw [ht]; exact hP, va_K.moved hW.alike hK, hD⟩, hS.F ht⟩) hS.2.2 dL_spoil_18
  · obtain ⟨hP1, hK1, hD1⟩ := hB
    rw [ht] at hP1
    obtain ⟨hk, hres, rfl⟩ := hw
    have hP1 : va_P (dC, dI) vwCl (wX cA ad (upd st (b.toNatClampNeg * 64 + k.toNatClampNeg) (v &&& nI 255)) ck nh tp tl cb cy nc of wl wd) H1 := hP1
    have hD1 : va_D (va_A (wX cA ad st ck nh tp tl cb cy nc of wl wd) s.heap.size) (wX cA ad (upd st (b.toNatClampNeg * 64 + k.toNatClampNeg) (v &&& nI 255)) ck nh tp tl cb cy nc of wl wd) := hD1
    obtain ⟨hP, hD⟩ := va_join (wr := [(oa, .inl (cL, 1, .inr (.inl fo)))]) (w1 := wX cA ad (upd st (b.toNatClampNeg * 64 + k.toNatClampNeg) (v &&& nI 255)) ck nh tp tl cb cy nc of wl wd) hP hD [0, 1, 2, 3, 4, 5, 6] [7] rfl rfl (by decide) (by decide) hk1 hFc hP1 hD1
    have hP : va_P (dC, dI) vwCl (wX cA ad (upd st (b.toNatClampNeg * 64 + k.toNatClampNeg) (v &&& nI 255)) ck nh tp tl cb cy nc of wl wd ++ [(oa, .inl (cL, 1, .inr (.inl fo)))]) H1 := hP.sub (ws' := wX cA ad (upd st (b.toNatClampNeg * 64 + k.toNatClampNeg) (v &&& nI 255)) ck nh tp tl cb cy nc of wl wd ++ [(oa, .inl (cL, 1, .inr (.inl fo)))]) [1, 2, 3, 4, 5, 6, 7, 0] rfl
    have hD : va_D A (wX cA ad (upd st (b.toNatClampNeg * 64 + k.toNatClampNeg) (v &&& nI 255)) ck nh tp tl cb cy nc of wl wd ++ [(oa, .inl (cL, 1, .inr (.inl fo)))]) := hD.sub (ws' := wX cA ad (upd st (b.toNatClampNeg * 64 + k.toNatClampNeg) (v &&& nI 255)) ck nh tp tl cb cy nc of wl wd ++ [(oa, .inl (cL, 1, .inr (.inl fo)))]) [1, 2, 3, 4, 5, 6, 7, 0] (by decide) rfl
    generalize H1 = H at hP hS ⊢
    refine lv_i2l hx hb dL_spoil_10 rfl ?_
    refine va_last (D := (dC, dI)) hx hb hK hP hD hS 7 1 (cA := cL) (n := 1) (f := fo) rfl rfl (i := nI 0) (vp_in_nI (by decide) (by decide)) dL_spoil_11 (fun H locs hP hD hS => ?_)
    have hP : va_P (dC, dI) vwCl (wX cA ad (upd st (b.toNatClampNeg * 64 + k.toNatClampNeg) (v &&& nI 255)) ck nh tp tl cb cy nc of wl wd ++ [(oa, .inl (cL, 1, .inr (.inl (vp_updL fo 0 (r.toInt64)))))]) H := hP
    have hD : va_D A (wX cA ad (upd st (b.toNatClampNeg * 64 + k.toNatClampNeg) (v &&& nI 255)) ck nh tp tl cb cy nc of wl wd ++ [(oa, .inl (cL, 1, .inr (.inl (vp_updL fo 0 (r.toInt64)))))]) := hD
    refine lv_goto (tgt := 19) hx hb dL_spoil_12 (by decide) ?_
    refine lv_iconst (v := nI 0) hx hb dL_spoil_19 (by decide) ?_
    exact W.iret (v := nI 0) hx hb hr (fun t ht hW => ⟨⟨_, ((upd st (b.toNatClampNeg * 64 + k.toNatClampNeg) (v &&& nI 255), nh, tp, tl, cb, cy, nc, of, wl, wd), vp_updL fo 0 (r.toInt64)), rfl, ⟨by rw [hk], by rw [hk]; rfl, fun _ => by rw [← hres]; show vp_updL fo 0 (r.toInt64) 0 = _; exact pk_uLs⟩, by rw [ht]; exact hP, va_K.moved hW.alike hK, hD⟩, hS.F ht⟩) hS.2.2 dL_spoil_20

set_option maxHeartbeats 4000000 in
set_option maxRecDepth 100000 in
theorem c_L_at (l : Launch) (h9 : l.stackTraces = false) (dC : Nat → ClassId) (dI : Nat → Nat → Nat) (cA : ClassId) (ad : Nat → Nat) (cL : ClassId) (oa : Nat) (fo : Nat → Int64) (sz : Nat) (st ck nh tp : Nat → Int32) (tl : Int32) (cb cy : Nat → Int32) (nc of wl : Int32) (wd : Int64) (b k : Int32)  : Met l yL_at wsL_at ({ frames := 7, cells := 1, slots := 6, locals := 104 } : Room) (va_Pc [.ref (ad 0), .int b, .int k, .ref oa] (fun U => U.heap.size = sz ∧ va_P (dC, dI) vwCl (wX cA ad st ck nh tp tl cb cy nc of wl wd ++ [(oa, .inl (cL, 1, .inr (.inl fo)))]) U.heap ∧ va_K (dC, dI) vwCl [(cA, .int), (cL, .long)] U ∧ va_D (fun _ => True) (wX cA ad st ck nh tp tl cb cy nc of wl wd ++ [(oa, .inl (cL, 1, .inr (.inl fo)))]) ∧ bjE (va_A (wX cA ad st ck nh tp tl cb cy nc of wl wd ++ [(oa, .inl (cL, 1, .inr (.inl fo)))]) sz) U U.heap ∧ va_Nc "java/lang/IllegalStateException" "java/lang/IllegalArgumentException" U)) (va_Qi (fun (r : Int32) (u : XS × (Nat → Int64)) => r = nI (atK b k) ∧ u.1 = (if atK b k = 0 then (st, nh, tp, tl, cb, cy, nc, of, wl, wd) else (st, nh, tp, tl, cb, cy, nc, of, wl, wd) : XS) ∧ (atK b k = 0 → u.2 0 = (st (b.toNatClampNeg * 64 + k.toNatClampNeg)).toInt64)) (fun u t => va_P (dC, dI) vwCl (wXu cA ad ck u.1 ++ [(oa, .inl (cL, 1, .inr (.inl u.2)))]) t.heap ∧ va_K (dC, dI) vwCl [(cA, .int), (cL, .long)] t ∧ va_D (va_A (wX cA ad st ck nh tp tl cb cy nc of wl wd ++ [(oa, .inl (cL, 1, .inr (.inl fo)))]) sz) (wXu cA ad ck u.1 ++ [(oa, .inl (cL, 1, .inr (.inl u.2)))])) (va_A (wX cA ad st ck nh tp tl cb cy nc of wl wd ++ [(oa, .inl (cL, 1, .inr (.inl fo)))]) sz)) 1 6 (va_A (wX cA ad st ck nh tp tl cb cy nc of wl wd ++ [(oa, .inl (cL, 1, .inr (.inl fo)))]) sz) := by
  refine bx_ofWH (cc := cL_at) (maxL := 5) (ret := (some .int)) (hh := [(0, 10, 13, 13)]) (by decide) rfl ?_
  intro p e s m args below meth c s₁ B hml hv
  obtain ⟨rfl, hsz, hP, hK, hD0, hE, hNc⟩ := hv
  have hx := B.exec
  have hb := B.bytes
  have hr := B.returns
  have hts := atoms_spec (ws := wsL_at) B.pre
  have hown : s.vm.findClass RL = some m.cls := findClass_of_methodNamed B.named
  have hlocks := B.notSynchronized
  have htab : c.exceptionTable.toList = ([⟨0, 10, 13, 13⟩] : List ExceptionTableEntry) := vx_table (x := yL_at) B (hts _ List.mem_cons_self)
  subst hsz
  have hD := hD0.self (sz := s.heap.size)
  generalize hAe : va_A (wX cA ad st ck nh tp tl cb cy nc of wl wd ++ [(oa, .inl (cL, 1, .inr (.inl fo)))]) s.heap.size = A at hD hE ⊢
  have hA : ∀ q : Nat, s.heap.size ≤ q → A q := fun q h => by rw [← hAe]; exact Or.inr h
  have hS : va_S A s.heap s.heap [] := va_S.rf
  have hP : va_P (dC, dI) vwCl (wX cA ad st ck nh tp tl cb cy nc of wl wd ++ [(oa, .inl (cL, 1, .inr (.inl fo)))]) s.heap := hP
  have hl := lv_entry ([.ref (ad 0), .int b, .int k, .ref oa]) (n := 5) (Nat.le_of_ble_eq_true rfl)
  rw [lg_entry_eq]
  generalize (lg_sl ([.ref (ad 0), .int b, .int k, .ref oa]) ++ List.replicate (5 - (lg_sl ([.ref (ad 0), .int b, .int k, .ref oa])).length) Slot.unset).toArray = ls at hl ⊢
  have hl : lv_has ls 5 [(0, .ref (ad 0)), (1, .int b), (2, .int k), (3, .ref oa)] := hl
  refine lv_aload_n hx hb dL_at_0 rfl (lv_at hl 3 rfl) ?_
  refine lv_iconst (v := nI 0) hx hb dL_at_1 (by decide) ?_
  refine lv_aload_n hx hb dL_at_2 rfl (lv_at hl 0 rfl) ?_
  refine lv_iload_n hx hb dL_at_3 rfl (lv_at hl 1 rfl) ?_
  refine lv_iload_n hx hb dL_at_4 rfl (lv_at hl 2 rfl) ?_
  have hPc := hP.sub (ws' := wX cA ad st ck nh tp tl cb cy nc of wl wd) [0, 1, 2, 3, 4, 5, 6] rfl
  have hDc := hD.sub (ws' := wX cA ad st ck nh tp tl cb cy nc of wl wd) [0, 1, 2, 3, 4, 5, 6] (by decide) rfl
  have hKc := hK.sub (tys' := [(cA, .int)]) [0] rfl
  have hFc := va_free (wc := wX cA ad st ck nh tp tl cb cy nc of wl wd) hD hS hA [0, 1, 2, 3, 4, 5, 6] rfl
  refine vx_calli (vx_runV (As := [.int b, .int k]) (rest := [.int (nI 0), .ref oa]) ⟨hx, hb, hml, hown, hts⟩ (c_X0_at l h9 dC dI cA ad s.heap.size st ck nh tp tl cb cy nc of wl wd b k) (cwV 2 hts gL_at_X0_at rfl rfl rfl (by decide +kernel) ⟨Nat.le_of_ble_eq_true rfl, Nat.le_of_ble_eq_true rfl⟩) ⟨fun a U g mk q => by obtain ⟨q0, q1, qP, qK, qD, qE⟩ := q; exact ⟨q0, q1, qP, va_K.moved (u := U) (U := U.calling g mk a) (Vm.Alike.refl U.vm) qK, qD, bjE_calling qE⟩, va_recv hKc hPc (ci := 0) (q0 := 0) rfl rfl, fun U hU hW => ⟨rfl, by rw [hU], by rw [hU]; exact hPc, va_K.moved hW.alike hKc, hDc.weaken (fun _ _ _ _ => trivial), bjE_at hE hS hW hU hFc⟩⟩ rfl rfl hl.1 rfl (lv_room (Nat.le_of_ble_eq_true rfl)) dL_at_5 ⟨Nat.le_of_ble_eq_true rfl, Nat.le_of_ble_eq_true rfl⟩) hS (fun q _ h => hFc q h) hFc (fun q _ h => hFc q h) (fun E ce q9 u t H1 locs ht hvm hw hB hz1 hk1 hS hq9 hcv hcl => ?_) (fun r u t H1 locs ht hvm hw hB hz1 hk1 hS => ?_)
  · obtain ⟨hcond, hP1, hK1, hD1⟩ := hB
    rw [ht] at hP1
    obtain ⟨hP, hD⟩ := va_join (wr := [(oa, .inl (cL, 1, .inr (.inl fo)))]) (w1 := wX cA ad st ck nh tp tl cb cy nc of wl wd) hP hD [0, 1, 2, 3, 4, 5, 6] [7] rfl rfl (by decide) (by decide) hk1 hFc hP1 hD1
    have hP : va_P (dC, dI) vwCl (wX cA ad st ck nh tp tl cb cy nc of wl wd ++ [(oa, .inl (cL, 1, .inr (.inl fo)))]) H1 := hP.sub (ws' := wX cA ad st ck nh tp tl cb cy nc of wl wd ++ [(oa, .inl (cL, 1, .inr (.inl fo)))]) [1, 2, 3, 4, 5, 6, 7, 0] rfl
    have hD : va_D A (wX cA ad st ck nh tp tl cb cy nc of wl wd ++ [(oa, .inl (cL, 1, .inr (.inl fo)))]) := hD.sub (ws' := wX cA ad st ck nh tp tl cb cy nc of wl wd ++ [(oa, .inl (cL, 1, .inr (.inl fo)))]) [1, 2, 3, 4, 5, 6, 7, 0] (by decide) rfl
    generalize H1 = H at hP hS hq9 ⊢
    obtain ⟨hk, rfl⟩ := hcond
    refine bx_catch (own := RL) (name := "java/lang/IllegalArgumentException") hown [] ⟨0, 10, 13, 13⟩ [] htab (fun z hz => nomatch hz) (by decide) (by decide) (hts (.classLink RL 13 "java/lang/IllegalArgumentException") (by decide +kernel)) (va_any rfl (hE.2.2.1 (.castable "java/lang/IllegalArgumentException" "java/lang/IllegalArgumentException") (by decide +kernel))) hq9 hcv hcl ?_
    refine lv_astore (lv' := [(4, .ref q9), (0, .ref (ad 0)), (1, .int b), (2, .int k), (3, .ref oa)]) hx hb dL_at_13 hl (by decide) rfl (fun ls hl => ?_)
    refine lv_iconst (v := nI 1) hx hb dL_at_15 (by decide) ?_
    exact W.iret (v := nI 1) hx hb hr (fun t ht hW => ⟨⟨_, ((st, nh, tp, tl, cb, cy, nc, of, wl, wd), fo), rfl, ⟨by rw [hk], by rw [hk]; rfl, fun h => by rw [hk] at h; cases h⟩, by rw [ht]; exact hP, va_K.moved hW.alike hK, hD⟩, hS.F ht⟩) hS.2.2 dL_at_16
  · obtain ⟨hP1, hK1, hD1⟩ := hB
    rw [ht] at hP1
    obtain ⟨hk, hres, rfl⟩ := hw
    have hP1 : va_P (dC, dI) vwCl (wX cA ad st ck nh tp tl cb cy nc of wl wd) H1 := hP1
    have hD1 : va_D (va_A (wX cA ad st ck nh tp tl cb cy nc of wl wd) s.heap.size) (wX cA ad st ck nh tp tl cb cy nc of wl wd) := hD1
    obtain ⟨hP, hD⟩ := va_join (wr := [(oa, .inl (cL, 1, .inr (.inl fo)))]) (w1 := wX cA ad st ck nh tp tl cb cy nc of wl wd) hP hD [0, 1, 2, 3, 4, 5, 6] [7] rfl rfl (by decide) (by decide) hk1 hFc hP1 hD1
    have hP : va_P (dC, dI) vwCl (wX cA ad st ck nh tp tl cb cy nc of wl wd ++ [(oa, .inl (cL, 1, .inr (.inl fo)))]) H1 := hP.sub (ws' := wX cA ad st ck nh tp tl cb cy nc of wl wd ++ [(oa, .inl (cL, 1, .inr (.inl fo)))]) [1, 2, 3, 4, 5, 6, 7, 0] rfl
    have hD : va_D A (wX cA ad st ck nh tp tl cb cy nc of wl wd ++ [(oa, .inl (cL, 1, .inr (.inl fo)))]) := hD.sub (ws' := wX cA ad st ck nh tp tl cb cy nc of wl wd ++ [(oa, .inl (cL, 1, .inr (.inl fo)))]) [1, 2, 3, 4, 5, 6, 7, 0] (by decide) rfl
    generalize H1 = H at hP hS ⊢
    refine lv_i2l hx hb dL_at_8 rfl ?_
    refine va_last (D := (dC, dI)) hx hb hK hP hD hS 7 1 (cA := cL) (n := 1) (f := fo) rfl rfl (i := nI 0) (vp_in_nI (by decide) (by decide)) dL_at_9 (fun H locs hP hD hS => ?_)
    have hP : va_P (dC, dI) vwCl (wX cA ad st ck nh tp tl cb cy nc of wl wd ++ [(oa, .inl (cL, 1, .inr (.inl (vp_updL fo 0 (r.toInt64)))))]) H := hP
    have hD : va_D A (wX cA ad st ck nh tp tl cb cy nc of wl wd ++ [(oa, .inl (cL, 1, .inr (.inl (vp_updL fo 0 (r.toInt64)))))]) := hD
    refine lv_goto (tgt := 17) hx hb dL_at_10 (by decide) ?_
    refine lv_iconst (v := nI 0) hx hb dL_at_17 (by decide) ?_
    exact W.iret (v := nI 0) hx hb hr (fun t ht hW => ⟨⟨_, ((st, nh, tp, tl, cb, cy, nc, of, wl, wd), vp_updL fo 0 (r.toInt64)), rfl, ⟨by rw [hk], by rw [hk]; rfl, fun _ => by rw [← hres]; show vp_updL fo 0 (r.toInt64) 0 = _; exact pk_uLs⟩, by rw [ht]; exact hP, va_K.moved hW.alike hK, hD⟩, hS.F ht⟩) hS.2.2 dL_at_18

set_option maxHeartbeats 4000000 in
set_option maxRecDepth 100000 in
theorem c_L_change (l : Launch) (h9 : l.stackTraces = false) (dC : Nat → ClassId) (dI : Nat → Nat → Nat) (cA : ClassId) (ad : Nat → Nat) (cL : ClassId) (oa : Nat) (fo : Nat → Int64) (sz : Nat) (st ck nh tp : Nat → Int32) (tl : Int32) (cb cy : Nat → Int32) (of wl : Int32) (wd : Int64) (n : Nat) (i : Int32) (hn : n ≤ 24) : Met l yL_change wsL_change ({ frames := 7, cells := 1, slots := 6, locals := 103 } : Room) (va_Pc [.ref (ad 0), .int i, .ref oa] (fun U => U.heap.size = sz ∧ va_P (dC, dI) vwCl (wX cA ad st ck nh tp tl cb cy (nI n) of wl wd ++ [(oa, .inl (cL, 1, .inr (.inl fo)))]) U.heap ∧ va_K (dC, dI) vwCl [(cA, .int), (cL, .long)] U ∧ va_D (fun _ => True) (wX cA ad st ck nh tp tl cb cy (nI n) of wl wd ++ [(oa, .inl (cL, 1, .inr (.inl fo)))]) ∧ bjE (va_A (wX cA ad st ck nh tp tl cb cy (nI n) of wl wd ++ [(oa, .inl (cL, 1, .inr (.inl fo)))]) sz) U U.heap ∧ va_Nc "java/lang/IllegalStateException" "java/lang/IllegalArgumentException" U)) (va_Qi (fun (r : Int32) (u : XS × (Nat → Int64)) => r = nI (chK i n) ∧ u.1 = (if chK i n = 0 then (st, nh, tp, tl, cb, cy, nI n, of, wl, wd) else (st, nh, tp, tl, cb, cy, nI n, of, wl, wd) : XS) ∧ (chK i n = 0 → u.2 0 = (cb i.toNatClampNeg).toInt64)) (fun u t => va_P (dC, dI) vwCl (wXu cA ad ck u.1 ++ [(oa, .inl (cL, 1, .inr (.inl u.2)))]) t.heap ∧ va_K (dC, dI) vwCl [(cA, .int), (cL, .long)] t ∧ va_D (va_A (wX cA ad st ck nh tp tl cb cy (nI n) of wl wd ++ [(oa, .inl (cL, 1, .inr (.inl fo)))]) sz) (wXu cA ad ck u.1 ++ [(oa, .inl (cL, 1, .inr (.inl u.2)))])) (va_A (wX cA ad st ck nh tp tl cb cy (nI n) of wl wd ++ [(oa, .inl (cL, 1, .inr (.inl fo)))]) sz)) 1 6 (va_A (wX cA ad st ck nh tp tl cb cy (nI n) of wl wd ++ [(oa, .inl (cL, 1, .inr (.inl fo)))]) sz) := by
  refine bx_ofWH (cc := cL_change) (maxL := 4) (ret := (some .int)) (hh := [(0, 9, 12, 44)]) (by decide) rfl ?_
  intro p e s m args below meth c s₁ B hml hv
  obtain ⟨rfl, hsz, hP, hK, hD0, hE, hNc⟩ := hv
  have hx := B.exec
  have hb := B.bytes
  have hr := B.returns
  have hts := atoms_spec (ws := wsL_change) B.pre
  have hown : s.vm.findClass RL = some m.cls := findClass_of_methodNamed B.named
  have hlocks := B.notSynchronized
  have htab : c.exceptionTable.toList = ([⟨0, 9, 12, 44⟩] : List ExceptionTableEntry) := vx_table (x := yL_change) B (hts _ List.mem_cons_self)
  subst hsz
  have hD := hD0.self (sz := s.heap.size)
  generalize hAe : va_A (wX cA ad st ck nh tp tl cb cy (nI n) of wl wd ++ [(oa, .inl (cL, 1, .inr (.inl fo)))]) s.heap.size = A at hD hE ⊢
  have hA : ∀ q : Nat, s.heap.size ≤ q → A q := fun q h => by rw [← hAe]; exact Or.inr h
  have hS : va_S A s.heap s.heap [] := va_S.rf
  have hP : va_P (dC, dI) vwCl (wX cA ad st ck nh tp tl cb cy (nI n) of wl wd ++ [(oa, .inl (cL, 1, .inr (.inl fo)))]) s.heap := hP
  have hl := lv_entry ([.ref (ad 0), .int i, .ref oa]) (n := 4) (Nat.le_of_ble_eq_true rfl)
  rw [lg_entry_eq]
  generalize (lg_sl ([.ref (ad 0), .int i, .ref oa]) ++ List.replicate (4 - (lg_sl ([.ref (ad 0), .int i, .ref oa])).length) Slot.unset).toArray = ls at hl ⊢
  have hl : lv_has ls 4 [(0, .ref (ad 0)), (1, .int i), (2, .ref oa)] := hl
  refine lv_aload_n hx hb dL_change_0 rfl (lv_at hl 2 rfl) ?_
  refine lv_iconst (v := nI 0) hx hb dL_change_1 (by decide) ?_
  refine lv_aload_n hx hb dL_change_2 rfl (lv_at hl 0 rfl) ?_
  refine lv_iload_n hx hb dL_change_3 rfl (lv_at hl 1 rfl) ?_
  have hPc := hP.sub (ws' := wX cA ad st ck nh tp tl cb cy (nI n) of wl wd) [0, 1, 2, 3, 4, 5, 6] rfl
  have hDc := hD.sub (ws' := wX cA ad st ck nh tp tl cb cy (nI n) of wl wd) [0, 1, 2, 3, 4, 5, 6] (by decide) rfl
  have hKc := hK.sub (tys' := [(cA, .int)]) [0] rfl
  have hFc := va_free (wc := wX cA ad st ck nh tp tl cb cy (nI n) of wl wd) hD hS hA [0, 1, 2, 3, 4, 5, 6] rfl
  refine vx_calli (vx_runV (As := [.int i]) (rest := [.int (nI 0), .ref oa]) ⟨hx, hb, hml, hown, hts⟩ (c_X0_change l h9 dC dI cA ad s.heap.size st ck nh tp tl cb cy of wl wd n i hn) (cwV 1 hts gL_change_X0_change rfl rfl rfl (by decide +kernel) ⟨Nat.le_of_ble_eq_true rfl, Nat.le_of_ble_eq_true rfl⟩) ⟨fun a U g mk q => by obtain ⟨q0, q1, qP, qK, qD, qE⟩ := q; exact ⟨q0, q1, qP, va_K.moved (u := U) (U := U.calling g mk a) (Vm.Alike.refl U.vm) qK, qD, bjE_calling qE⟩, va_recv hKc hPc (ci := 0) (q0 := 0) rfl rfl, fun U hU hW => ⟨rfl, by rw [hU], by rw [hU]; exact hPc, va_K.moved hW.alike hKc, hDc.weaken (fun _ _ _ _ => trivial), bjE_at hE hS hW hU hFc⟩⟩ rfl rfl hl.1 rfl (lv_room (Nat.le_of_ble_eq_true rfl)) dL_change_4 ⟨Nat.le_of_ble_eq_true rfl, Nat.le_of_ble_eq_true rfl⟩) hS (fun q _ h => hFc q h) hFc (fun q _ h => hFc q h) (fun E ce q9 u t H1 locs ht hvm hw hB hz1 hk1 hS hq9 hcv hcl => ?_) (fun r u t H1 locs ht hvm hw hB hz1 hk1 hS => ?_)
  · obtain ⟨hcond, hP1, hK1, hD1⟩ := hB
    rw [ht] at hP1
    obtain ⟨hP, hD⟩ := va_join (wr := [(oa, .inl (cL, 1, .inr (.inl fo)))]) (w1 := wX cA ad st ck nh tp tl cb cy (nI n) of wl wd) hP hD [0, 1, 2, 3, 4, 5, 6] [7] rfl rfl (by decide) (by decide) hk1 hFc hP1 hD1
    have hP : va_P (dC, dI) vwCl (wX cA ad st ck nh tp tl cb cy (nI n) of wl wd ++ [(oa, .inl (cL, 1, .inr (.inl fo)))]) H1 := hP.sub (ws' := wX cA ad st ck nh tp tl cb cy (nI n) of wl wd ++ [(oa, .inl (cL, 1, .inr (.inl fo)))]) [1, 2, 3, 4, 5, 6, 7, 0] rfl
    have hD : va_D A (wX cA ad st ck nh tp tl cb cy (nI n) of wl wd ++ [(oa, .inl (cL, 1, .inr (.inl fo)))]) := hD.sub (ws' := wX cA ad st ck nh tp tl cb cy (nI n) of wl wd ++ [(oa, .inl (cL, 1, .inr (.inl fo)))]) [1, 2, 3, 4, 5, 6, 7, 0] (by decide) rfl
    generalize H1 = H at hP hS hq9 ⊢
    obtain ⟨hk, rfl⟩ := hcond
    refine bx_catch (own := RL) (name := "java/util/NoSuchElementException") hown [] ⟨0, 9, 12, 44⟩ [] htab (fun z hz => nomatch hz) (by decide) (by decide) (hts (.classLink RL 44 "java/util/NoSuchElementException") (by decide +kernel)) (va_any rfl (hE.2.2.1 (.castable "java/util/NoSuchElementException" "java/util/NoSuchElementException") (by decide +kernel))) hq9 hcv hcl ?_
    refine lv_astore_n (lv' := [(3, .ref q9), (0, .ref (ad 0)), (1, .int i), (2, .ref oa)]) hx hb dL_change_12 rfl hl (by decide) rfl (fun ls hl => ?_)
    refine lv_iconst (v := nI 1) hx hb dL_change_13 (by decide) ?_
    exact W.iret (v := nI 1) hx hb hr (fun t ht hW => ⟨⟨_, ((st, nh, tp, tl, cb, cy, nI n, of, wl, wd), fo), rfl, ⟨by rw [hk], by rw [hk]; rfl, fun h => by rw [hk] at h; cases h⟩, by rw [ht]; exact hP, va_K.moved hW.alike hK, hD⟩, hS.F ht⟩) hS.2.2 dL_change_14
  · obtain ⟨hP1, hK1, hD1⟩ := hB
    rw [ht] at hP1
    obtain ⟨hk, hres, rfl⟩ := hw
    have hP1 : va_P (dC, dI) vwCl (wX cA ad st ck nh tp tl cb cy (nI n) of wl wd) H1 := hP1
    have hD1 : va_D (va_A (wX cA ad st ck nh tp tl cb cy (nI n) of wl wd) s.heap.size) (wX cA ad st ck nh tp tl cb cy (nI n) of wl wd) := hD1
    obtain ⟨hP, hD⟩ := va_join (wr := [(oa, .inl (cL, 1, .inr (.inl fo)))]) (w1 := wX cA ad st ck nh tp tl cb cy (nI n) of wl wd) hP hD [0, 1, 2, 3, 4, 5, 6] [7] rfl rfl (by decide) (by decide) hk1 hFc hP1 hD1
    have hP : va_P (dC, dI) vwCl (wX cA ad st ck nh tp tl cb cy (nI n) of wl wd ++ [(oa, .inl (cL, 1, .inr (.inl fo)))]) H1 := hP.sub (ws' := wX cA ad st ck nh tp tl cb cy (nI n) of wl wd ++ [(oa, .inl (cL, 1, .inr (.inl fo)))]) [1, 2, 3, 4, 5, 6, 7, 0] rfl
    have hD : va_D A (wX cA ad st ck nh tp tl cb cy (nI n) of wl wd ++ [(oa, .inl (cL, 1, .inr (.inl fo)))]) := hD.sub (ws' := wX cA ad st ck nh tp tl cb cy (nI n) of wl wd ++ [(oa, .inl (cL, 1, .inr (.inl fo)))]) [1, 2, 3, 4, 5, 6, 7, 0] (by decide) rfl
    generalize H1 = H at hP hS ⊢
    refine lv_i2l hx hb dL_change_7 rfl ?_
    refine va_last (D := (dC, dI)) hx hb hK hP hD hS 7 1 (cA := cL) (n := 1) (f := fo) rfl rfl (i := nI 0) (vp_in_nI (by decide) (by decide)) dL_change_8 (fun H locs hP hD hS => ?_)
    have hP : va_P (dC, dI) vwCl (wX cA ad st ck nh tp tl cb cy (nI n) of wl wd ++ [(oa, .inl (cL, 1, .inr (.inl (vp_updL fo 0 (r.toInt64)))))]) H := hP
    have hD : va_D A (wX cA ad st ck nh tp tl cb cy (nI n) of wl wd ++ [(oa, .inl (cL, 1, .inr (.inl (vp_updL fo 0 (r.toInt64)))))]) := hD
    refine lv_goto (tgt := 15) hx hb dL_change_9 (by decide) ?_
    refine lv_iconst (v := nI 0) hx hb dL_change_15 (by decide) ?_
    exact W.iret (v := nI 0) hx hb hr (fun t ht hW => ⟨⟨_, ((st, nh, tp, tl, cb, cy, nI n, of, wl, wd), vp_updL fo 0 (r.toInt64)), rfl, ⟨by rw [hk], by rw [hk]; rfl, fun _ => by rw [← hres]; show vp_updL fo 0 (r.toInt64) 0 = _; exact pk_uLs⟩, by rw [ht]; exact hP, va_K.moved hW.alike hK, hD⟩, hS.F ht⟩) hS.2.2 dL_change_16

set_option maxHeartbeats 4000000 in
set_option maxRecDepth 100000 in
theorem c_L_look (l : Launch) (h9 : l.stackTraces = false) (dC : Nat → ClassId) (dI : Nat → Nat → Nat) (cA : ClassId) (ad : Nat → Nat) (cL : ClassId) (oa : Nat) (fo : Nat → Int64) (sz : Nat) (st ck nh tp : Nat → Int32) (tl : Int32) (cb cy : Nat → Int32) (nc wl : Int32) (wd : Int64) (o : Bool) (w : Int32)  : Met l yL_look wsL_look ({ frames := 7, cells := 1, slots := 6, locals := 103 } : Room) (va_Pc [.ref (ad 0), .int w, .ref oa] (fun U => U.heap.size = sz ∧ va_P (dC, dI) vwCl (wX cA ad st ck nh tp tl cb cy nc (bI o) wl wd ++ [(oa, .inl (cL, 1, .inr (.inl fo)))]) U.heap ∧ va_K (dC, dI) vwCl [(cA, .int), (cL, .long)] U ∧ va_D (fun _ => True) (wX cA ad st ck nh tp tl cb cy nc (bI o) wl wd ++ [(oa, .inl (cL, 1, .inr (.inl fo)))]) ∧ bjE (va_A (wX cA ad st ck nh tp tl cb cy nc (bI o) wl wd ++ [(oa, .inl (cL, 1, .inr (.inl fo)))]) sz) U U.heap ∧ va_Nc "java/lang/IllegalStateException" "java/lang/IllegalArgumentException" U)) (va_Qi (fun (r : Int32) (u : XS × (Nat → Int64)) => r = nI (lkK w) ∧ u.1 = (if lkK w = 0 then (st, nh, tp, tl, cb, cy, nc, bI o, wl, wd) else (st, nh, tp, tl, cb, cy, nc, bI o, wl, wd) : XS) ∧ (lkK w = 0 → u.2 0 = lkR w st ck nc o wl wd)) (fun u t => va_P (dC, dI) vwCl (wXu cA ad ck u.1 ++ [(oa, .inl (cL, 1, .inr (.inl u.2)))]) t.heap ∧ va_K (dC, dI) vwCl [(cA, .int), (cL, .long)] t ∧ va_D (va_A (wX cA ad st ck nh tp tl cb cy nc (bI o) wl wd ++ [(oa, .inl (cL, 1, .inr (.inl fo)))]) sz) (wXu cA ad ck u.1 ++ [(oa, .inl (cL, 1, .inr (.inl u.2)))])) (va_A (wX cA ad st ck nh tp tl cb cy nc (bI o) wl wd ++ [(oa, .inl (cL, 1, .inr (.inl fo)))]) sz)) 1 6 (va_A (wX cA ad st ck nh tp tl cb cy nc (bI o) wl wd ++ [(oa, .inl (cL, 1, .inr (.inl fo)))]) sz) := by
  refine bx_ofWH (cc := cL_look) (maxL := 4) (ret := (some .int)) (hh := [(0, 8, 11, 44)]) (by decide) rfl ?_
  intro p e s m args below meth c s₁ B hml hv
  obtain ⟨rfl, hsz, hP, hK, hD0, hE, hNc⟩ := hv
  have hx := B.exec
  have hb := B.bytes
  have hr := B.returns
  have hts := atoms_spec (ws := wsL_look) B.pre
  have hown : s.vm.findClass RL = some m.cls := findClass_of_methodNamed B.named
  have hlocks := B.notSynchronized
  have htab : c.exceptionTable.toList = ([⟨0, 8, 11, 44⟩] : List ExceptionTableEntry) := vx_table (x := yL_look) B (hts _ List.mem_cons_self)
  subst hsz
  have hD := hD0.self (sz := s.heap.size)
  generalize hAe : va_A (wX cA ad st ck nh tp tl cb cy nc (bI o) wl wd ++ [(oa, .inl (cL, 1, .inr (.inl fo)))]) s.heap.size = A at hD hE ⊢
  have hA : ∀ q : Nat, s.heap.size ≤ q → A q := fun q h => by rw [← hAe]; exact Or.inr h
  have hS : va_S A s.heap s.heap [] := va_S.rf
  have hP : va_P (dC, dI) vwCl (wX cA ad st ck nh tp tl cb cy nc (bI o) wl wd ++ [(oa, .inl (cL, 1, .inr (.inl fo)))]) s.heap := hP
  have hl := lv_entry ([.ref (ad 0), .int w, .ref oa]) (n := 4) (Nat.le_of_ble_eq_true rfl)
  rw [lg_entry_eq]
  generalize (lg_sl ([.ref (ad 0), .int w, .ref oa]) ++ List.replicate (4 - (lg_sl ([.ref (ad 0), .int w, .ref oa])).length) Slot.unset).toArray = ls at hl ⊢
  have hl : lv_has ls 4 [(0, .ref (ad 0)), (1, .int w), (2, .ref oa)] := hl
  refine lv_aload_n hx hb dL_look_0 rfl (lv_at hl 2 rfl) ?_
  refine lv_iconst (v := nI 0) hx hb dL_look_1 (by decide) ?_
  refine lv_aload_n hx hb dL_look_2 rfl (lv_at hl 0 rfl) ?_
  refine lv_iload_n hx hb dL_look_3 rfl (lv_at hl 1 rfl) ?_
  have hPc := hP.sub (ws' := wX cA ad st ck nh tp tl cb cy nc (bI o) wl wd) [0, 1, 2, 3, 4, 5, 6] rfl
  have hDc := hD.sub (ws' := wX cA ad st ck nh tp tl cb cy nc (bI o) wl wd) [0, 1, 2, 3, 4, 5, 6] (by decide) rfl
  have hKc := hK.sub (tys' := [(cA, .int)]) [0] rfl
  have hFc := va_free (wc := wX cA ad st ck nh tp tl cb cy nc (bI o) wl wd) hD hS hA [0, 1, 2, 3, 4, 5, 6] rfl
  refine vx_calll (vx_runV (As := [.int w]) (rest := [.int (nI 0), .ref oa]) ⟨hx, hb, hml, hown, hts⟩ (c_X0_look l h9 dC dI cA ad s.heap.size st ck nh tp tl cb cy nc wl wd o w) (cwV 1 hts gL_look_X0_look rfl rfl rfl (by decide +kernel) ⟨Nat.le_of_ble_eq_true rfl, Nat.le_of_ble_eq_true rfl⟩) ⟨fun a U g mk q => by obtain ⟨q0, q1, qP, qK, qD, qE⟩ := q; exact ⟨q0, q1, qP, va_K.moved (u := U) (U := U.calling g mk a) (Vm.Alike.refl U.vm) qK, qD, bjE_calling qE⟩, va_recv hKc hPc (ci := 0) (q0 := 0) rfl rfl, fun U hU hW => ⟨rfl, by rw [hU], by rw [hU]; exact hPc, va_K.moved hW.alike hKc, hDc.weaken (fun _ _ _ _ => trivial), bjE_at hE hS hW hU hFc⟩⟩ rfl rfl hl.1 rfl (lv_room (Nat.le_of_ble_eq_true rfl)) dL_look_4 ⟨Nat.le_of_ble_eq_true rfl, Nat.le_of_ble_eq_true rfl⟩) hS (fun q _ h => hFc q h) hFc (fun q _ h => hFc q h) (fun E ce q9 u t H1 locs ht hvm hw hB hz1 hk1 hS hq9 hcv hcl => ?_) (fun r u t H1 locs ht hvm hw hB hz1 hk1 hS => ?_)
  · obtain ⟨hcond, hP1, hK1, hD1⟩ := hB
    rw [ht] at hP1
    obtain ⟨hP, hD⟩ := va_join (wr := [(oa, .inl (cL, 1, .inr (.inl fo)))]) (w1 := wX cA ad st ck nh tp tl cb cy nc (bI o) wl wd) hP hD [0, 1, 2, 3, 4, 5, 6] [7] rfl rfl (by decide) (by decide) hk1 hFc hP1 hD1
    have hP : va_P (dC, dI) vwCl (wX cA ad st ck nh tp tl cb cy nc (bI o) wl wd ++ [(oa, .inl (cL, 1, .inr (.inl fo)))]) H1 := hP.sub (ws' := wX cA ad st ck nh tp tl cb cy nc (bI o) wl wd ++ [(oa, .inl (cL, 1, .inr (.inl fo)))]) [1, 2, 3, 4, 5, 6, 7, 0] rfl
    have hD : va_D A (wX cA ad st ck nh tp tl cb cy nc (bI o) wl wd ++ [(oa, .inl (cL, 1, .inr (.inl fo)))]) := hD.sub (ws' := wX cA ad st ck nh tp tl cb cy nc (bI o) wl wd ++ [(oa, .inl (cL, 1, .inr (.inl fo)))]) [1, 2, 3, 4, 5, 6, 7, 0] (by decide) rfl
    generalize H1 = H at hP hS hq9 ⊢
    obtain ⟨hk, rfl⟩ := hcond
    refine bx_catch (own := RL) (name := "java/util/NoSuchElementException") hown [] ⟨0, 8, 11, 44⟩ [] htab (fun z hz => nomatch hz) (by decide) (by decide) (hts (.classLink RL 44 "java/util/NoSuchElementException") (by decide +kernel)) (va_any rfl (hE.2.2.1 (.castable "java/util/NoSuchElementException" "java/util/NoSuchElementException") (by decide +kernel))) hq9 hcv hcl ?_
    refine lv_astore_n (lv' := [(3, .ref q9), (0, .ref (ad 0)), (1, .int w), (2, .ref oa)]) hx hb dL_look_11 rfl hl (by decide) rfl (fun ls hl => ?_)
    refine lv_iconst (v := nI 1) hx hb dL_look_12 (by decide) ?_
    exact W.iret (v := nI 1) hx hb hr (fun t ht hW => ⟨⟨_, ((st, nh, tp, tl, cb, cy, nc, bI o, wl, wd), fo), rfl, ⟨by rw [hk], by rw [hk]; rfl, fun h => by rw [hk] at h; cases h⟩, by rw [ht]; exact hP, va_K.moved hW.alike hK, hD⟩, hS.F ht⟩) hS.2.2 dL_look_13
  · obtain ⟨hP1, hK1, hD1⟩ := hB
    rw [ht] at hP1
    obtain ⟨hk, hres, rfl⟩ := hw
    have hP1 : va_P (dC, dI) vwCl (wX cA ad st ck nh tp tl cb cy nc (bI o) wl wd) H1 := hP1
    have hD1 : va_D (va_A (wX cA ad st ck nh tp tl cb cy nc (bI o) wl wd) s.heap.size) (wX cA ad st ck nh tp tl cb cy nc (bI o) wl wd) := hD1
    obtain ⟨hP, hD⟩ := va_join (wr := [(oa, .inl (cL, 1, .inr (.inl fo)))]) (w1 := wX cA ad st ck nh tp tl cb cy nc (bI o) wl wd) hP hD [0, 1, 2, 3, 4, 5, 6] [7] rfl rfl (by decide) (by decide) hk1 hFc hP1 hD1
    have hP : va_P (dC, dI) vwCl (wX cA ad st ck nh tp tl cb cy nc (bI o) wl wd ++ [(oa, .inl (cL, 1, .inr (.inl fo)))]) H1 := hP.sub (ws' := wX cA ad st ck nh tp tl cb cy nc (bI o) wl wd ++ [(oa, .inl (cL, 1, .inr (.inl fo)))]) [1, 2, 3, 4, 5, 6, 7, 0] rfl
    have hD : va_D A (wX cA ad st ck nh tp tl cb cy nc (bI o) wl wd ++ [(oa, .inl (cL, 1, .inr (.inl fo)))]) := hD.sub (ws' := wX cA ad st ck nh tp tl cb cy nc (bI o) wl wd ++ [(oa, .inl (cL, 1, .inr (.inl fo)))]) [1, 2, 3, 4, 5, 6, 7, 0] (by decide) rfl
    generalize H1 = H at hP hS ⊢
    refine va_last (D := (dC, dI)) hx hb hK hP hD hS 7 1 (cA := cL) (n := 1) (f := fo) rfl rfl (i := nI 0) (vp_in_nI (by decide) (by decide)) dL_look_7 (fun H locs hP hD hS => ?_)
    have hP : va_P (dC, dI) vwCl (wX cA ad st ck nh tp tl cb cy nc (bI o) wl wd ++ [(oa, .inl (cL, 1, .inr (.inl (vp_updL fo 0 (r)))))]) H := hP
    have hD : va_D A (wX cA ad st ck nh tp tl cb cy nc (bI o) wl wd ++ [(oa, .inl (cL, 1, .inr (.inl (vp_updL fo 0 (r)))))]) := hD
    refine lv_goto (tgt := 14) hx hb dL_look_8 (by decide) ?_
    refine lv_iconst (v := nI 0) hx hb dL_look_14 (by decide) ?_
    exact W.iret (v := nI 0) hx hb hr (fun t ht hW => ⟨⟨_, ((st, nh, tp, tl, cb, cy, nc, bI o, wl, wd), vp_updL fo 0 (r)), rfl, ⟨by rw [hk], by rw [hk]; rfl, fun _ => by rw [← hres]; show vp_updL fo 0 r 0 = _; exact pk_uLs⟩, by rw [ht]; exact hP, va_K.moved hW.alike hK, hD⟩, hS.F ht⟩) hS.2.2 dL_look_15

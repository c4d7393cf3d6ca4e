theorem wbF_s {cy cb : Nat → Int32} {i b : Nat} {u : W4} (h : cb i = nI b) (hb : b < 96) : wbF cy cb (i + 1) u = w4 cy (i * 64) b (wbF cy cb i u) := by
  rw [wbF, h, nI_clamp (by omega)]

set_option maxHeartbeats 4000000 in
set_option maxRecDepth 100000 in
theorem c_X0_commit (l : Launch) (h9 : l.stackTraces = false) (dC : Nat → ClassId) (dI : Nat → Nat → Nat) (cA : ClassId) (ad : Nat → Nat) (sz : Nat) (st ck nh tp : Nat → Int32) (tl : Int32) (cb cy : Nat → Int32) (wl : Int32) (wd : Int64) (n : Nat) (o : Bool) (hn : n ≤ 24) (hcb : ∀ i, i < n → ∃ b : Nat, b < 96 ∧ cb i = nI b) : vx_Met l yX0_commit wsX0_commit ({ frames := 6, cells := 1, slots := 6, locals := 105 } : Room) (va_Pc [.ref (ad 0)] (fun U => U.heap.size = sz ∧ va_P (dC, dI) vwCl (wX cA ad st ck nh tp tl cb cy (nI n) (bI o) wl wd) U.heap ∧ va_K (dC, dI) vwCl [(cA, .int)] U ∧ va_D (fun _ => True) (wX cA ad st ck nh tp tl cb cy (nI n) (bI o) wl wd) ∧ bjE (va_A (wX cA ad st ck nh tp tl cb cy (nI n) (bI o) wl wd) sz) U U.heap)) (va_Qi (fun (r : Int32) (u : XS) => cmK n o = 0 ∧ r = (if ¬ (cmU st ck nh cb cy n (st, bI o, wl, wd)).2.1 = 0 then nI 0 else nI 1) ∧ u = ((cmU st ck nh cb cy n (st, bI o, wl, wd)).1, cmH st ck nh cb cy n (st, bI o, wl, wd), tp, tl, cb, cy, nI 0, (cmU st ck nh cb cy n (st, bI o, wl, wd)).2.1, (cmU st ck nh cb cy n (st, bI o, wl, wd)).2.2.1, (cmU st ck nh cb cy n (st, bI o, wl, wd)).2.2.2)) (aX dC dI cA ad ck (va_A (wX cA ad st ck nh tp tl cb cy (nI n) (bI o) wl wd) sz)) (va_A (wX cA ad st ck nh tp tl cb cy (nI n) (bI o) wl wd) sz)) (vx_X (fun _ : Unit => True) (fun E _ t => ((cmK n o = 1 ∧ E = "java/lang/IllegalStateException")) ∧ aX dC dI cA ad ck (va_A (wX cA ad st ck nh tp tl cb cy (nI n) (bI o) wl wd) sz) (st, nh, tp, tl, cb, cy, nI n, bI o, wl, wd) t) (va_A (wX cA ad st ck nh tp tl cb cy (nI n) (bI o) wl wd) sz)) 1 6 (va_A (wX cA ad st ck nh tp tl cb cy (nI n) (bI o) wl wd) sz) := by
  refine vx_ofW (cc := cX0_commit) (maxL := 3) (ret := (some .boolean)) (by decide) rfl ?_
  intro p e s m args below meth c s₁ B hml hnt hv
  obtain ⟨rfl, hsz, hP, hK, hD0, hE⟩ := hv
  have hx := B.exec
  have hb := B.bytes
  have hr := B.returns
  have hts := atoms_spec (ws := wsX0_commit) B.pre
  have hown : s.vm.findClass RX0 = some m.cls := findClass_of_methodNamed B.named
  have hlocks := B.notSynchronized
  have hin : ∀ w ∈ u_ws RX0 TX0 11, w ∈ wsX0_commit := by decide +kernel
  subst hsz
  have hD := hD0.self (sz := s.heap.size)
  generalize hAe : va_A (wX cA ad st ck nh tp tl cb cy (nI n) (bI o) wl wd) s.heap.size = A at hD hE ⊢
  have hA : ∀ q : Nat, s.heap.size ≤ q → A q := fun q h => by rw [← hAe]; exact Or.inr h
  obtain ⟨H, locs, hH, hlo, hS⟩ : ∃ (H : Heap) (locs : List Loc), H = s.heap ∧ locs = [] ∧ va_S A s.heap H locs := ⟨s.heap, [], rfl, rfl, va_S.rf⟩
  rw [← hH] at hP
  have hP : va_P (dC, dI) vwCl (wX cA ad st ck nh tp tl cb cy (nI n) (bI o) wl wd) H := hP
  have hl := lv_entry ([.ref (ad 0)]) (n := 3) (Nat.le_of_ble_eq_true rfl)
  rw [lg_entry_eq]
  generalize (lg_sl ([.ref (ad 0)]) ++ List.replicate (3 - (lg_sl ([.ref (ad 0)])).length) Slot.unset).toArray = ls at hl ⊢
  have goal : W p l e (headSpec wsX0_commit ({ frames := 6, cells := 1, slots := 6, locals := 105 } : Room)).room s m ([.ref (ad 0)] : List Value).toArray below meth c H locs 0 0 (vx_MQ below (va_Qi (fun (r : Int32) (u : XS) => cmK n o = 0 ∧ r = (if ¬ (cmU st ck nh cb cy n (st, bI o, wl, wd)).2.1 = 0 then nI 0 else nI 1) ∧ u = ((cmU st ck nh cb cy n (st, bI o, wl, wd)).1, cmH st ck nh cb cy n (st, bI o, wl, wd), tp, tl, cb, cy, nI 0, (cmU st ck nh cb cy n (st, bI o, wl, wd)).2.1, (cmU st ck nh cb cy n (st, bI o, wl, wd)).2.2.1, (cmU st ck nh cb cy n (st, bI o, wl, wd)).2.2.2)) (aX dC dI cA ad ck A) A) (vx_X (fun _ : Unit => True) (fun E _ t => ((cmK n o = 1 ∧ E = "java/lang/IllegalStateException")) ∧ aX dC dI cA ad ck A (st, nh, tp, tl, cb, cy, nI n, bI o, wl, wd) t) A) ([.ref (ad 0)] : List Value).toArray s 1 6 A) (F0 m 0 ls []) := by
    clear hH hlo
    have hl : lv_has ls 3 [(0, .ref (ad 0))] := hl
    refine lv_aload_n hx hb dX0_commit_0 rfl (lv_at hl 0 rfl) ?_
    refine va_get (D := (dC, dI)) (ci := 0) (v := .int (nI n)) (C := RX0) (T := TX0) (N := 11) hx hb hts hin hown hK hP 0 rfl rfl 7 (by decide) (hts (.fieldLink RX0 64 "BlockJournal" "changes" "I") (by decide +kernel)) (fun _ h9 => h9) rfl dX0_commit_1 ?_
    refine lv_if_eq (tgt := 14) hx hb dX0_commit_4 (by decide) (fun c_4 => ?_) (fun c_4 => ?_)
    · obtain ⟨sa, hsa⟩ := hE.2.2.2 (89, "there are no changes, or the power is off") (by decide +kernel)
      have hgd : ∀ w ∈ (vx_atS RX0 50 "java/lang/IllegalStateException" ["java/lang/RuntimeException", "java/lang/Exception"]).filter goodWord, w ∈ wsX0_commit := by decide +kernel
      exact vx_throwS (own := RX0) (cls := "java/lang/IllegalStateException") (text := "there are no changes, or the power is off") (names := ["java/lang/RuntimeException", "java/lang/Exception"]) hx hb h9 hown (by decide) (by decide) (hts (.classLink RX0 46 "java/lang/IllegalStateException") (by decide +kernel)) (hts (.initialized "java/lang/IllegalStateException") (by decide +kernel)) hsa (vx_hat (B := bjB) (fun w h => hts w (hgd w h)) (by decide +kernel) (fun w h => va_any (by revert w; decide +kernel) (hE.2.2.1 w h))) (by decide +kernel) hE.1 hE.2.1 hS (hl.1.trans hml.symm) dX0_commit_14 dX0_commit_17 dX0_commit_18 dX0_commit_20 dX0_commit_23 (fun x hx9 => (hnt x hx9).elim) (Nat.le_of_ble_eq_true rfl) (Nat.le_of_ble_eq_true rfl) (Nat.le_of_ble_eq_true rfl) (Nat.le_of_ble_eq_true rfl) hlocks (fun t hal hz hk => ⟨(), trivial, ⟨⟨by rw [cmK, if_pos c_4], rfl⟩, (bj_thr hP hK hD hS hal hz hk).1⟩, (bj_thr hP hK hD hS hal hz hk).2⟩) hS.2.2 (Nat.le_of_ble_eq_true rfl) (Nat.le_of_ble_eq_true rfl)
    · refine lv_aload_n hx hb dX0_commit_7 rfl (lv_at hl 0 rfl) ?_
      refine va_get (D := (dC, dI)) (ci := 0) (v := .int (bI o)) (C := RX0) (T := TX0) (N := 11) hx hb hts hin hown hK hP 0 rfl rfl 8 (by decide) (hts (.fieldLink RX0 85 "BlockJournal" "off" "Z") (by decide +kernel)) (fun _ h9 => h9) rfl dX0_commit_8 ?_
      refine lv_if_eq (tgt := 24) hx hb dX0_commit_11 (by decide) (fun c_11 => ?_) (fun c_11 => ?_)
      · refine lv_aload_n hx hb dX0_commit_24 rfl (lv_at hl 0 rfl) ?_
        refine lv_iconst (v := nI 0) hx hb dX0_commit_25 (by decide) ?_
        refine bj_call (v := .int (hwF st 0 4)) (W.runV (As := [.int (nI 0)]) (rest := []) ⟨hx, hb, hml, hown, hts⟩ (c_X0_headWord l dC dI cA ad st ck nh tp tl cb cy (nI n) (bI o) wl wd 0 (by decide)) (cwV 1 hts gX0_commit_X0_headWord rfl rfl rfl (by decide +kernel) ⟨Nat.le_of_ble_eq_true rfl, Nat.le_of_ble_eq_true rfl⟩) ⟨fun a U g mk q => by obtain ⟨q0, qP, qK⟩ := q; exact ⟨q0, qP, va_K.moved (u := U) (U := U.calling g mk a) (Vm.Alike.refl U.vm) qK⟩, va_recv hK hP (ci := 0) (q0 := 0) rfl rfl, fun U hU hW => ⟨rfl, by rw [hU]; exact hP, va_K.moved hW.alike hK⟩⟩ rfl rfl hl.1 rfl (lv_room (Nat.le_of_ble_eq_true rfl)) dX0_commit_26 ⟨Nat.le_of_ble_eq_true rfl, Nat.le_of_ble_eq_true rfl⟩) ?_
        refine lv_istore_n (lv' := [(1, .int (hwF st 0 4)), (0, .ref (ad 0))]) hx hb dX0_commit_29 rfl hl (by decide) rfl (fun ls hl => ?_)
        refine lv_iconst (v := nI 0) hx hb dX0_commit_30 (by decide) ?_
        refine lv_istore_n (lv' := [(2, .int (nI 0)), (1, .int (hwF st 0 4)), (0, .ref (ad 0))]) hx hb dX0_commit_31 rfl hl (by decide) rfl (fun ls hl => ?_)
        have loop_32 : ∀ (k : Nat) (i : Nat), i + k = n → ∀ (H : Heap) (locs : List Loc) (ls : Array Slot), va_P (dC, dI) vwCl (wX cA ad ((wpF cy i (st, bI o, wl, wd)).1) ck nh tp tl cb cy (nI n) ((wpF cy i (st, bI o, wl, wd)).2.1) ((wpF cy i (st, bI o, wl, wd)).2.2.1) ((wpF cy i (st, bI o, wl, wd)).2.2.2)) H → va_D A (wX cA ad ((wpF cy i (st, bI o, wl, wd)).1) ck nh tp tl cb cy (nI n) ((wpF cy i (st, bI o, wl, wd)).2.1) ((wpF cy i (st, bI o, wl, wd)).2.2.1) ((wpF cy i (st, bI o, wl, wd)).2.2.2)) → va_S A s.heap H locs → lv_has ls 3 [(0, .ref (ad 0)), (1, .int (hwF st 0 4)), (2, .int (nI i))] → W p l e (headSpec wsX0_commit ({ frames := 6, cells := 1, slots := 6, locals := 105 } : Room)).room s m ([.ref (ad 0)] : List Value).toArray below meth c H locs 0 0 (vx_MQ below (va_Qi (fun (r : Int32) (u : XS) => cmK n o = 0 ∧ r = (if ¬ (cmU st ck nh cb cy n (st, bI o, wl, wd)).2.1 = 0 then nI 0 else nI 1) ∧ u = ((cmU st ck nh cb cy n (st, bI o, wl, wd)).1, cmH st ck nh cb cy n (st, bI o, wl, wd), tp, tl, cb, cy, nI 0, (cmU st ck nh cb cy n (st, bI o, wl, wd)).2.1, (cmU st ck nh cb cy n (st, bI o, wl, wd)).2.2.1, (cmU st ck nh cb cy n (st, bI o, wl, wd)).2.2.2)) (aX dC dI cA ad ck A) A) (vx_X (fun _ : Unit => True) (fun E _ t => ((cmK n o = 1 ∧ E = "java/lang/IllegalStateException")) ∧ aX dC dI cA ad ck A (st, nh, tp, tl, cb, cy, nI n, bI o, wl, wd) t) A) ([.ref (ad 0)] : List Value).toArray s 1 6 A) (F0 m 32 ls []) := by
          intro k
          induction k with
          | zero =>
            intro i hk H locs ls hP hD hS hl
            refine lv_iload_n hx hb dX0_commit_32 rfl (lv_at hl 2 rfl) ?_
            refine lv_aload_n hx hb dX0_commit_33 rfl (lv_at hl 0 rfl) ?_
            refine va_get (D := (dC, dI)) (ci := 0) (v := .int (nI n)) (C := RX0) (T := TX0) (N := 11) hx hb hts hin hown hK hP 0 rfl rfl 7 (by decide) (hts (.fieldLink RX0 64 "BlockJournal" "changes" "I") (by decide +kernel)) (fun _ h9 => h9) rfl dX0_commit_34 ?_
            refine lv_icmp_ge (tgt := 61) hx hb dX0_commit_37 (by decide) (fun c_37 => ?_) (fun c_37 => ?_)
            · have n_37 : n ≤ i := (nI_leI (by omega) (by omega)).mp c_37
              have ei : i = n := by omega
              rw [ei] at hP hD
              have hP : va_P (dC, dI) vwCl (wX cA ad ((wpF cy n (st, bI o, wl, wd)).1) ck nh tp tl cb cy (nI n) ((wpF cy n (st, bI o, wl, wd)).2.1) ((wpF cy n (st, bI o, wl, wd)).2.2.1) ((wpF cy n (st, bI o, wl, wd)).2.2.2)) H := hP
              have hD : va_D A (wX cA ad ((wpF cy n (st, bI o, wl, wd)).1) ck nh tp tl cb cy (nI n) ((wpF cy n (st, bI o, wl, wd)).2.1) ((wpF cy n (st, bI o, wl, wd)).2.2.1) ((wpF cy n (st, bI o, wl, wd)).2.2.2)) := hD
              refine lv_aload_n hx hb dX0_commit_61 rfl (lv_at hl 0 rfl) ?_
              refine lv_iload_n hx hb dX0_commit_62 rfl (lv_at hl 1 rfl) ?_
              have hFc := va_free (wc := wX cA ad ((wpF cy n (st, bI o, wl, wd)).1) ck nh tp tl cb cy (nI n) ((wpF cy n (st, bI o, wl, wd)).2.1) ((wpF cy n (st, bI o, wl, wd)).2.2.1) ((wpF cy n (st, bI o, wl, wd)).2.2.2)) hD hS hA [0, 1, 2, 3, 4, 5, 6] rfl
              refine va_callv (va_runV (As := [.int (hwF st 0 4)]) (rest := []) ⟨hx, hb, hml, hown, hts⟩ (c_X0_writeFullHead l dC dI cA ad H.size ((wpF cy n (st, bI o, wl, wd)).1) ck nh tp tl cb cy ((wpF cy n (st, bI o, wl, wd)).2.1) ((wpF cy n (st, bI o, wl, wd)).2.2.1) ((wpF cy n (st, bI o, wl, wd)).2.2.2) n (hwF st 0 4) hn) (cwV 1 hts gX0_commit_X0_writeFullHead rfl rfl rfl (by decide +kernel) ⟨Nat.le_of_ble_eq_true rfl, Nat.le_of_ble_eq_true rfl⟩) ⟨fun a U g mk q => by obtain ⟨q0, q1, qP, qK, qD⟩ := q; exact ⟨q0, q1, qP, va_K.moved (u := U) (U := U.calling g mk a) (Vm.Alike.refl U.vm) qK, qD⟩, va_recv hK hP (ci := 0) (q0 := 0) rfl rfl, fun U hU hW => ⟨rfl, by rw [hU], by rw [hU]; exact hP, va_K.moved hW.alike hK, hD.weaken (fun _ _ _ _ => trivial)⟩⟩ rfl rfl hl.1 rfl (lv_room (Nat.le_of_ble_eq_true rfl)) dX0_commit_63 ⟨Nat.le_of_ble_eq_true rfl, Nat.le_of_ble_eq_true rfl⟩) hS (fun q _ h => hFc q h) hFc (fun u t H1 locs ht hvm hw hB hz1 hk1 hS => ?_)
              obtain ⟨hP1, hK1, hD1⟩ := hB
              subst hw
              rw [ht] at hP1
              have hP : va_P (dC, dI) vwCl (wX cA ad ((cm2 st ck nh cb cy n (st, bI o, wl, wd)).1) ck (fhF (wpF cy n (st, bI o, wl, wd)).1 ck nh cb n (hwF st 0 4)) tp tl cb cy (nI n) ((cm2 st ck nh cb cy n (st, bI o, wl, wd)).2.1) ((cm2 st ck nh cb cy n (st, bI o, wl, wd)).2.2.1) ((cm2 st ck nh cb cy n (st, bI o, wl, wd)).2.2.2)) H1 := hP1
              have hD : va_D A (wX cA ad ((cm2 st ck nh cb cy n (st, bI o, wl, wd)).1) ck (fhF (wpF cy n (st, bI o, wl, wd)).1 ck nh cb n (hwF st 0 4)) tp tl cb cy (nI n) ((cm2 st ck nh cb cy n (st, bI o, wl, wd)).2.1) ((cm2 st ck nh cb cy n (st, bI o, wl, wd)).2.2.1) ((cm2 st ck nh cb cy n (st, bI o, wl, wd)).2.2.2)) := ⟨hD1.1, fun k q h => hFc _ (hD1.2 k q h)⟩
              generalize H1 = H at hP hS ⊢
              refine lv_iconst (v := nI 0) hx hb dX0_commit_66 (by decide) ?_
              refine lv_istore_n (lv' := [(2, .int (nI 0)), (0, .ref (ad 0)), (1, .int (hwF st 0 4))]) hx hb dX0_commit_67 rfl hl (by decide) rfl (fun ls hl => ?_)
              have loop_68 : ∀ (k : Nat) (i : Nat), i + k = n → ∀ (H : Heap) (locs : List Loc) (ls : Array Slot), va_P (dC, dI) vwCl (wX cA ad ((wbF cy cb i (cm2 st ck nh cb cy n (st, bI o, wl, wd))).1) ck (fhF (wpF cy n (st, bI o, wl, wd)).1 ck nh cb n (hwF st 0 4)) tp tl cb cy (nI n) ((wbF cy cb i (cm2 st ck nh cb cy n (st, bI o, wl, wd))).2.1) ((wbF cy cb i (cm2 st ck nh cb cy n (st, bI o, wl, wd))).2.2.1) ((wbF cy cb i (cm2 st ck nh cb cy n (st, bI o, wl, wd))).2.2.2)) H → va_D A (wX cA ad ((wbF cy cb i (cm2 st ck nh cb cy n (st, bI o, wl, wd))).1) ck (fhF (wpF cy n (st, bI o, wl, wd)).1 ck nh cb n (hwF st 0 4)) tp tl cb cy (nI n) ((wbF cy cb i (cm2 st ck nh cb cy n (st, bI o, wl, wd))).2.1) ((wbF cy cb i (cm2 st ck nh cb cy n (st, bI o, wl, wd))).2.2.1) ((wbF cy cb i (cm2 st ck nh cb cy n (st, bI o, wl, wd))).2.2.2)) → va_S A s.heap H locs → lv_has ls 3 [(0, .ref (ad 0)), (1, .int (hwF st 0 4)), (2, .int (nI i))] → W p l e (headSpec wsX0_commit ({ frames := 6, cells := 1, slots := 6, locals := 105 } : Room)).room s m ([.ref (ad 0)] : List Value).toArray below meth c H locs 0 0 (vx_MQ below (va_Qi (fun (r : Int32) (u : XS) => cmK n o = 0 ∧ r = (if ¬ (cmU st ck nh cb cy n (st, bI o, wl, wd)).2.1 = 0 then nI 0 else nI 1) ∧ u = ((cmU st ck nh cb cy n (st, bI o, wl, wd)).1, cmH st ck nh cb cy n (st, bI o, wl, wd), tp, tl, cb, cy, nI 0, (cmU st ck nh cb cy n (st, bI o, wl, wd)).2.1, (cmU st ck nh cb cy n (st, bI o, wl, wd)).2.2.1, (cmU st ck nh cb cy n (st, bI o, wl, wd)).2.2.2)) (aX dC dI cA ad ck A) A) (vx_X (fun _ : Unit => True) (fun E _ t => ((cmK n o = 1 ∧ E = "java/lang/IllegalStateException")) ∧ aX dC dI cA ad ck A (st, nh, tp, tl, cb, cy, nI n, bI o, wl, wd) t) A) ([.ref (ad 0)] : List Value).toArray s 1 6 A) (F0 m 68 ls []) := by
                intro k
                induction k with
                | zero =>
                  intro i hk H locs ls hP hD hS hl
                  refine lv_iload_n hx hb dX0_commit_68 rfl (lv_at hl 2 rfl) ?_
                  refine lv_aload_n hx hb dX0_commit_69 rfl (lv_at hl 0 rfl) ?_
                  refine va_get (D := (dC, dI)) (ci := 0) (v := .int (nI n)) (C := RX0) (T := TX0) (N := 11) hx hb hts hin hown hK hP 0 rfl rfl 7 (by decide) (hts (.fieldLink RX0 64 "BlockJournal" "changes" "I") (by decide +kernel)) (fun _ h9 => h9) rfl dX0_commit_70 ?_
                  refine lv_icmp_ge (tgt := 100) hx hb dX0_commit_73 (by decide) (fun c_73 => ?_) (fun c_73 => ?_)
                  · have n_73 : n ≤ i := (nI_leI (by omega) (by omega)).mp c_73
                    have ei2 : i = n := by omega
                    rw [ei2] at hP hD
                    have hP : va_P (dC, dI) vwCl (wX cA ad ((wbF cy cb n (cm2 st ck nh cb cy n (st, bI o, wl, wd))).1) ck (fhF (wpF cy n (st, bI o, wl, wd)).1 ck nh cb n (hwF st 0 4)) tp tl cb cy (nI n) ((wbF cy cb n (cm2 st ck nh cb cy n (st, bI o, wl, wd))).2.1) ((wbF cy cb n (cm2 st ck nh cb cy n (st, bI o, wl, wd))).2.2.1) ((wbF cy cb n (cm2 st ck nh cb cy n (st, bI o, wl, wd))).2.2.2)) H := hP
                    have hD : va_D A (wX cA ad ((wbF cy cb n (cm2 st ck nh cb cy n (st, bI o, wl, wd))).1) ck (fhF (wpF cy n (st, bI o, wl, wd)).1 ck nh cb n (hwF st 0 4)) tp tl cb cy (nI n) ((wbF cy cb n (cm2 st ck nh cb cy n (st, bI o, wl, wd))).2.1) ((wbF cy cb n (cm2 st ck nh cb cy n (st, bI o, wl, wd))).2.2.1) ((wbF cy cb n (cm2 st ck nh cb cy n (st, bI o, wl, wd))).2.2.2)) := hD
                    refine lv_aload_n hx hb dX0_commit_100 rfl (lv_at hl 0 rfl) ?_
                    refine lv_iload_n hx hb dX0_commit_101 rfl (lv_at hl 1 rfl) ?_
                    refine lv_iconst (v := nI 1) hx hb dX0_commit_102 (by decide) ?_
                    refine lv_iadd hx hb dX0_commit_103 ?_
                    have hFc := va_free (wc := wX cA ad ((wbF cy cb n (cm2 st ck nh cb cy n (st, bI o, wl, wd))).1) ck (fhF (wpF cy n (st, bI o, wl, wd)).1 ck nh cb n (hwF st 0 4)) tp tl cb cy (nI n) ((wbF cy cb n (cm2 st ck nh cb cy n (st, bI o, wl, wd))).2.1) ((wbF cy cb n (cm2 st ck nh cb cy n (st, bI o, wl, wd))).2.2.1) ((wbF cy cb n (cm2 st ck nh cb cy n (st, bI o, wl, wd))).2.2.2)) hD hS hA [0, 1, 2, 3, 4, 5, 6] rfl
                    refine va_callv (va_runV (As := [.int ((hwF st 0 4) + (nI 1))]) (rest := []) ⟨hx, hb, hml, hown, hts⟩ (c_X0_writeEmptyHead l dC dI cA ad H.size ((wbF cy cb n (cm2 st ck nh cb cy n (st, bI o, wl, wd))).1) ck (fhF (wpF cy n (st, bI o, wl, wd)).1 ck nh cb n (hwF st 0 4)) tp tl cb cy (nI n) ((wbF cy cb n (cm2 st ck nh cb cy n (st, bI o, wl, wd))).2.1) ((wbF cy cb n (cm2 st ck nh cb cy n (st, bI o, wl, wd))).2.2.1) ((wbF cy cb n (cm2 st ck nh cb cy n (st, bI o, wl, wd))).2.2.2) ((hwF st 0 4) + (nI 1))) (cwV 1 hts gX0_commit_X0_writeEmptyHead rfl rfl rfl (by decide +kernel) ⟨Nat.le_of_ble_eq_true rfl, Nat.le_of_ble_eq_true rfl⟩) ⟨fun a U g mk q => by obtain ⟨q0, q1, qP, qK, qD⟩ := q; exact ⟨q0, q1, qP, va_K.moved (u := U) (U := U.calling g mk a) (Vm.Alike.refl U.vm) qK, qD⟩, va_recv hK hP (ci := 0) (q0 := 0) rfl rfl, fun U hU hW => ⟨rfl, by rw [hU], by rw [hU]; exact hP, va_K.moved hW.alike hK, hD.weaken (fun _ _ _ _ => trivial)⟩⟩ rfl rfl hl.1 rfl (lv_room (Nat.le_of_ble_eq_true rfl)) dX0_commit_104 ⟨Nat.le_of_ble_eq_true rfl, Nat.le_of_ble_eq_true rfl⟩) hS (fun q _ h => hFc q h) hFc (fun u t H1 locs ht hvm hw hB hz1 hk1 hS => ?_)
                    obtain ⟨hP1, hK1, hD1⟩ := hB
                    subst hw
                    rw [ht] at hP1
                    have hP : va_P (dC, dI) vwCl (wX cA ad ((cmU st ck nh cb cy n (st, bI o, wl, wd)).1) ck (cmH st ck nh cb cy n (st, bI o, wl, wd)) tp tl cb cy (nI n) ((cmU st ck nh cb cy n (st, bI o, wl, wd)).2.1) ((cmU st ck nh cb cy n (st, bI o, wl, wd)).2.2.1) ((cmU st ck nh cb cy n (st, bI o, wl, wd)).2.2.2)) H1 := hP1
                    have hD : va_D A (wX cA ad ((cmU st ck nh cb cy n (st, bI o, wl, wd)).1) ck (cmH st ck nh cb cy n (st, bI o, wl, wd)) tp tl cb cy (nI n) ((cmU st ck nh cb cy n (st, bI o, wl, wd)).2.1) ((cmU st ck nh cb cy n (st, bI o, wl, wd)).2.2.1) ((cmU st ck nh cb cy n (st, bI o, wl, wd)).2.2.2)) := ⟨hD1.1, fun k q h => hFc _ (hD1.2 k q h)⟩
                    generalize H1 = H at hP hS ⊢
                    refine lv_aload_n hx hb dX0_commit_107 rfl (lv_at hl 0 rfl) ?_
                    refine lv_iconst (v := nI 0) hx hb dX0_commit_108 (by decide) ?_
                    refine va_put (D := (dC, dI)) (ci := 0) (v := .int (nI 0)) (ty := .int) (C := RX0) (T := TX0) (N := 11) hx hb hts hin tyX0 tyX0_ok nmX0 hown hK hP hD hS 0 rfl rfl 7 (by decide) (hts (.fieldLink RX0 64 "BlockJournal" "changes" "I") (by decide +kernel)) (fun _ h9 => h9) rfl (by decide +kernel) rfl rfl (Nat.le_of_ble_eq_true rfl) dX0_commit_109 (fun H locs hP hD hS => ?_)
                    have hP : va_P (dC, dI) vwCl (wX cA ad ((cmU st ck nh cb cy n (st, bI o, wl, wd)).1) ck (cmH st ck nh cb cy n (st, bI o, wl, wd)) tp tl cb cy (nI 0) ((cmU st ck nh cb cy n (st, bI o, wl, wd)).2.1) ((cmU st ck nh cb cy n (st, bI o, wl, wd)).2.2.1) ((cmU st ck nh cb cy n (st, bI o, wl, wd)).2.2.2)) H := hP
                    have hD : va_D A (wX cA ad ((cmU st ck nh cb cy n (st, bI o, wl, wd)).1) ck (cmH st ck nh cb cy n (st, bI o, wl, wd)) tp tl cb cy (nI 0) ((cmU st ck nh cb cy n (st, bI o, wl, wd)).2.1) ((cmU st ck nh cb cy n (st, bI o, wl, wd)).2.2.1) ((cmU st ck nh cb cy n (st, bI o, wl, wd)).2.2.2)) := hD
                    refine lv_aload_n hx hb dX0_commit_112 rfl (lv_at hl 0 rfl) ?_
                    refine va_get (D := (dC, dI)) (ci := 0) (v := .int ((cmU st ck nh cb cy n (st, bI o, wl, wd)).2.1)) (C := RX0) (T := TX0) (N := 11) hx hb hts hin hown hK hP 0 rfl rfl 8 (by decide) (hts (.fieldLink RX0 85 "BlockJournal" "off" "Z") (by decide +kernel)) (fun _ h9 => h9) rfl dX0_commit_113 ?_
                    refine lv_if_ne (tgt := 123) hx hb dX0_commit_116 (by decide) (fun c_116 => ?_) (fun c_116 => ?_)
                    · refine lv_iconst (v := nI 0) hx hb dX0_commit_123 (by decide) ?_
                      have hcode : cmK n o = 0 := by rw [cmK, if_neg c_4, if_pos c_11]
                      have hpost : (((cmU st ck nh cb cy n (st, bI o, wl, wd)).1, cmH st ck nh cb cy n (st, bI o, wl, wd), tp, tl, cb, cy, nI 0, (cmU st ck nh cb cy n (st, bI o, wl, wd)).2.1, (cmU st ck nh cb cy n (st, bI o, wl, wd)).2.2.1, (cmU st ck nh cb cy n (st, bI o, wl, wd)).2.2.2) : XS) = ((cmU st ck nh cb cy n (st, bI o, wl, wd)).1, cmH st ck nh cb cy n (st, bI o, wl, wd), tp, tl, cb, cy, nI 0, (cmU st ck nh cb cy n (st, bI o, wl, wd)).2.1, (cmU st ck nh cb cy n (st, bI o, wl, wd)).2.2.1, (cmU st ck nh cb cy n (st, bI o, wl, wd)).2.2.2) := rfl
                      refine W.widen (k := 1) (n := 6) (Nat.zero_le _) (Nat.zero_le _) ?_
                      refine vx_ret ?_
                      have hres : nI 0 = (if ¬ (cmU st ck nh cb cy n (st, bI o, wl, wd)).2.1 = 0 then nI 0 else nI 1) := by rw [if_pos c_116]
                      exact W.zret (v := nI 0) (ty := .boolean) hx hb hr rfl (fun t ht hW => ⟨⟨_, ((cmU st ck nh cb cy n (st, bI o, wl, wd)).1, cmH st ck nh cb cy n (st, bI o, wl, wd), tp, tl, cb, cy, nI 0, (cmU st ck nh cb cy n (st, bI o, wl, wd)).2.1, (cmU st ck nh cb cy n (st, bI o, wl, wd)).2.2.1, (cmU st ck nh cb cy n (st, bI o, wl, wd)).2.2.2), rfl, ⟨hcode, hres, hpost⟩, by rw [ht]; exact hP, va_K.moved hW.alike hK, hD⟩, hS.F ht⟩) hS.2.2 dX0_commit_124
                    · refine lv_iconst (v := nI 1) hx hb dX0_commit_119 (by decide) ?_
                      refine lv_goto (tgt := 124) hx hb dX0_commit_120 (by decide) ?_
                      have hcode : cmK n o = 0 := by rw [cmK, if_neg c_4, if_pos c_11]
                      have hpost : (((cmU st ck nh cb cy n (st, bI o, wl, wd)).1, cmH st ck nh cb cy n (st, bI o, wl, wd), tp, tl, cb, cy, nI 0, (cmU st ck nh cb cy n (st, bI o, wl, wd)).2.1, (cmU st ck nh cb cy n (st, bI o, wl, wd)).2.2.1, (cmU st ck nh cb cy n (st, bI o, wl, wd)).2.2.2) : XS) = ((cmU st ck nh cb cy n (st, bI o, wl, wd)).1, cmH st ck nh cb cy n (st, bI o, wl, wd), tp, tl, cb, cy, nI 0, (cmU st ck nh cb cy n (st, bI o, wl, wd)).2.1, (cmU st ck nh cb cy n (st, bI o, wl, wd)).2.2.1, (cmU st ck nh cb cy n (st, bI o, wl, wd)).2.2.2) := rfl
                      refine W.widen (k := 1) (n := 6) (Nat.zero_le _) (Nat.zero_le _) ?_
                      refine vx_ret ?_
                      have hres : nI 1 = (if ¬ (cmU st ck nh cb cy n (st, bI o, wl, wd)).2.1 = 0 then nI 0 else nI 1) := by rw [if_neg (not_not_intro c_116)]
                      exact W.zret (v := nI 1) (ty := .boolean) hx hb hr rfl (fun t ht hW => ⟨⟨_, ((cmU st ck nh cb cy n (st, bI o, wl, wd)).1, cmH st ck nh cb cy n (st, bI o, wl, wd), tp, tl, cb, cy, nI 0, (cmU st ck nh cb cy n (st, bI o, wl, wd)).2.1, (cmU st ck nh cb cy n (st, bI o, wl, wd)).2.2.1, (cmU st ck nh cb cy n (st, bI o, wl, wd)).2.2.2), rfl, ⟨hcode, hres, hpost⟩, by rw [ht]; exact hP, va_K.moved hW.alike hK, hD⟩, hS.F ht⟩) hS.2.2 dX0_commit_124
                  · have n_73 : ¬ n ≤ i := fun h => c_73 ((nI_leI (by omega) (by omega)).mpr h)
                    exfalso; omega
                | succ k ih =>
                  intro i hk H locs ls hP hD hS hl
                  refine lv_iload_n hx hb dX0_commit_68 rfl (lv_at hl 2 rfl) ?_
                  refine lv_aload_n hx hb dX0_commit_69 rfl (lv_at hl 0 rfl) ?_
                  refine va_get (D := (dC, dI)) (ci := 0) (v := .int (nI n)) (C := RX0) (T := TX0) (N := 11) hx hb hts hin hown hK hP 0 rfl rfl 7 (by decide) (hts (.fieldLink RX0 64 "BlockJournal" "changes" "I") (by decide +kernel)) (fun _ h9 => h9) rfl dX0_commit_70 ?_
                  refine lv_icmp_ge (tgt := 100) hx hb dX0_commit_73 (by decide) (fun c_73 => ?_) (fun c_73 => ?_)
                  · have n_73 : n ≤ i := (nI_leI (by omega) (by omega)).mp c_73
                    exfalso; omega
                  · have n_73 : ¬ n ≤ i := fun h => c_73 ((nI_leI (by omega) (by omega)).mpr h)
                    refine lv_aload_n hx hb dX0_commit_76 rfl (lv_at hl 0 rfl) ?_
                    refine lv_aload_n hx hb dX0_commit_77 rfl (lv_at hl 0 rfl) ?_
                    refine va_get (D := (dC, dI)) (ci := 0) (v := .ref (ad 5)) (C := RX0) (T := TX0) (N := 11) hx hb hts hin hown hK hP 0 rfl rfl 5 (by decide) (hts (.fieldLink RX0 22 "BlockJournal" "changeBlocks" "[I") (by decide +kernel)) (fun _ h9 => h9) rfl dX0_commit_78 ?_
                    refine lv_iload_n hx hb dX0_commit_81 rfl (lv_at hl 2 rfl) ?_
                    refine va_iald (D := (dC, dI)) hx hb hK hP 5 0 (cA := cA) (n := 24) (f := cb) rfl rfl (i := (nI i)) (vp_in_nI (by omega) (by omega)) dX0_commit_82 ?_
                    refine bj_i (y := cb i) (congrArg cb (nI_clamp (by omega))) ?_
                    obtain ⟨b, hb9, eb⟩ := hcb i (by omega)
                    refine bj_i (y := nI b) (eb) ?_
                    refine lv_aload_n hx hb dX0_commit_83 rfl (lv_at hl 0 rfl) ?_
                    refine va_get (D := (dC, dI)) (ci := 0) (v := .ref (ad 6)) (C := RX0) (T := TX0) (N := 11) hx hb hts hin hown hK hP 0 rfl rfl 6 (by decide) (hts (.fieldLink RX0 25 "BlockJournal" "changeBytes" "[I") (by decide +kernel)) (fun _ h9 => h9) rfl dX0_commit_84 ?_
                    refine lv_iload_n hx hb dX0_commit_87 rfl (lv_at hl 2 rfl) ?_
                    refine lv_bipush (v := nI 64) hx hb dX0_commit_88 (by decide) ?_
                    refine lv_imul hx hb dX0_commit_90 ?_
                    refine bj_i (pk_mul i 64) ?_
                    have hFc := va_free (wc := wX cA ad ((wbF cy cb i (cm2 st ck nh cb cy n (st, bI o, wl, wd))).1) ck (fhF (wpF cy n (st, bI o, wl, wd)).1 ck nh cb n (hwF st 0 4)) tp tl cb cy (nI n) ((wbF cy cb i (cm2 st ck nh cb cy n (st, bI o, wl, wd))).2.1) ((wbF cy cb i (cm2 st ck nh cb cy n (st, bI o, wl, wd))).2.2.1) ((wbF cy cb i (cm2 st ck nh cb cy n (st, bI o, wl, wd))).2.2.2)) hD hS hA [0, 1, 2, 3, 4, 5, 6] rfl
                    refine va_callv (va_runV (As := [.int (nI b), .ref (ad 6), .int (nI (i * 64))]) (rest := []) ⟨hx, hb, hml, hown, hts⟩ (c_X0_write_6 l dC dI cA ad H.size ((wbF cy cb i (cm2 st ck nh cb cy n (st, bI o, wl, wd))).1) ck (fhF (wpF cy n (st, bI o, wl, wd)).1 ck nh cb n (hwF st 0 4)) tp tl cb cy (nI n) ((wbF cy cb i (cm2 st ck nh cb cy n (st, bI o, wl, wd))).2.1) ((wbF cy cb i (cm2 st ck nh cb cy n (st, bI o, wl, wd))).2.2.1) ((wbF cy cb i (cm2 st ck nh cb cy n (st, bI o, wl, wd))).2.2.2) b (i * 64) (by omega) (by omega)) (cwV 3 hts gX0_commit_X0_write rfl rfl rfl (by decide +kernel) ⟨Nat.le_of_ble_eq_true rfl, Nat.le_of_ble_eq_true rfl⟩) ⟨fun a U g mk q => by obtain ⟨q0, q1, qP, qK, qD⟩ := q; exact ⟨q0, q1, qP, va_K.moved (u := U) (U := U.calling g mk a) (Vm.Alike.refl U.vm) qK, qD⟩, va_recv hK hP (ci := 0) (q0 := 0) rfl rfl, fun U hU hW => ⟨rfl, by rw [hU], by rw [hU]; exact hP, va_K.moved hW.alike hK, hD.weaken (fun _ _ _ _ => trivial)⟩⟩ rfl rfl hl.1 rfl (lv_room (Nat.le_of_ble_eq_true rfl)) dX0_commit_91 ⟨Nat.le_of_ble_eq_true rfl, Nat.le_of_ble_eq_true rfl⟩) hS (fun q _ h => hFc q h) hFc (fun u t H1 locs ht hvm hw hB hz1 hk1 hS => ?_)
                    obtain ⟨hP1, hK1, hD1⟩ := hB
                    subst hw
                    rw [ht] at hP1
                    have hP : va_P (dC, dI) vwCl (wX cA ad (wrS cy ((wbF cy cb i (cm2 st ck nh cb cy n (st, bI o, wl, wd))).1) ((wbF cy cb i (cm2 st ck nh cb cy n (st, bI o, wl, wd))).2.2.1) (i * 64) b) ck (fhF (wpF cy n (st, bI o, wl, wd)).1 ck nh cb n (hwF st 0 4)) tp tl cb cy (nI n) (wrO ((wbF cy cb i (cm2 st ck nh cb cy n (st, bI o, wl, wd))).2.1) ((wbF cy cb i (cm2 st ck nh cb cy n (st, bI o, wl, wd))).2.2.1)) (wrL ((wbF cy cb i (cm2 st ck nh cb cy n (st, bI o, wl, wd))).2.2.1)) (wrD ((wbF cy cb i (cm2 st ck nh cb cy n (st, bI o, wl, wd))).2.2.1) ((wbF cy cb i (cm2 st ck nh cb cy n (st, bI o, wl, wd))).2.2.2))) H1 := hP1
                    have hD : va_D A (wX cA ad (wrS cy ((wbF cy cb i (cm2 st ck nh cb cy n (st, bI o, wl, wd))).1) ((wbF cy cb i (cm2 st ck nh cb cy n (st, bI o, wl, wd))).2.2.1) (i * 64) b) ck (fhF (wpF cy n (st, bI o, wl, wd)).1 ck nh cb n (hwF st 0 4)) tp tl cb cy (nI n) (wrO ((wbF cy cb i (cm2 st ck nh cb cy n (st, bI o, wl, wd))).2.1) ((wbF cy cb i (cm2 st ck nh cb cy n (st, bI o, wl, wd))).2.2.1)) (wrL ((wbF cy cb i (cm2 st ck nh cb cy n (st, bI o, wl, wd))).2.2.1)) (wrD ((wbF cy cb i (cm2 st ck nh cb cy n (st, bI o, wl, wd))).2.2.1) ((wbF cy cb i (cm2 st ck nh cb cy n (st, bI o, wl, wd))).2.2.2))) := ⟨hD1.1, fun k q h => hFc _ (hD1.2 k q h)⟩
                    generalize H1 = H at hP hS ⊢
                    have e94 := wbF_s (cy := cy) (u := cm2 st ck nh cb cy n (st, bI o, wl, wd)) eb hb9
                    have hP : va_P (dC, dI) vwCl (wX cA ad ((wbF cy cb (i + 1) (cm2 st ck nh cb cy n (st, bI o, wl, wd))).1) ck (fhF (wpF cy n (st, bI o, wl, wd)).1 ck nh cb n (hwF st 0 4)) tp tl cb cy (nI n) ((wbF cy cb (i + 1) (cm2 st ck nh cb cy n (st, bI o, wl, wd))).2.1) ((wbF cy cb (i + 1) (cm2 st ck nh cb cy n (st, bI o, wl, wd))).2.2.1) ((wbF cy cb (i + 1) (cm2 st ck nh cb cy n (st, bI o, wl, wd))).2.2.2)) H := by rw [e94]; exact hP
                    have hD : va_D A (wX cA ad ((wbF cy cb (i + 1) (cm2 st ck nh cb cy n (st, bI o, wl, wd))).1) ck (fhF (wpF cy n (st, bI o, wl, wd)).1 ck nh cb n (hwF st 0 4)) tp tl cb cy (nI n) ((wbF cy cb (i + 1) (cm2 st ck nh cb cy n (st, bI o, wl, wd))).2.1) ((wbF cy cb (i + 1) (cm2 st ck nh cb cy n (st, bI o, wl, wd))).2.2.1) ((wbF cy cb (i + 1) (cm2 st ck nh cb cy n (st, bI o, wl, wd))).2.2.2)) := by rw [e94]; exact hD
                    refine lv_iinc (v := nI (i + 1)) (lv' := [(2, .int (nI (i + 1))), (0, .ref (ad 0)), (1, .int (hwF st 0 4))]) hx hb dX0_commit_94 hl (k := 2) rfl (nI_add i 1) (by decide) rfl (fun ls hl => ?_)
                    refine lv_goto (tgt := 68) hx hb dX0_commit_97 (by decide) ?_
                    exact ih (i + 1) (by omega) _ _ _ hP hD hS (lv_sub hl [1, 2, 0] rfl)
              exact loop_68 n 0 (by omega) _ _ _ hP hD hS (lv_sub hl [1, 2, 0] rfl)
            · have n_37 : ¬ n ≤ i := fun h => c_37 ((nI_leI (by omega) (by omega)).mpr h)
              exfalso; omega
          | succ k ih =>
            intro i hk H locs ls hP hD hS hl
            refine lv_iload_n hx hb dX0_commit_32 rfl (lv_at hl 2 rfl) ?_
            refine lv_aload_n hx hb dX0_commit_33 rfl (lv_at hl 0 rfl) ?_
            refine va_get (D := (dC, dI)) (ci := 0) (v := .int (nI n)) (C := RX0) (T := TX0) (N := 11) hx hb hts hin hown hK hP 0 rfl rfl 7 (by decide) (hts (.fieldLink RX0 64 "BlockJournal" "changes" "I") (by decide +kernel)) (fun _ h9 => h9) rfl dX0_commit_34 ?_
            refine lv_icmp_ge (tgt := 61) hx hb dX0_commit_37 (by decide) (fun c_37 => ?_) (fun c_37 => ?_)
            · have n_37 : n ≤ i := (nI_leI (by omega) (by omega)).mp c_37
              exfalso; omega
            · have n_37 : ¬ n ≤ i := fun h => c_37 ((nI_leI (by omega) (by omega)).mpr h)
              refine lv_aload_n hx hb dX0_commit_40 rfl (lv_at hl 0 rfl) ?_
              refine lv_iconst (v := nI 1) hx hb dX0_commit_41 (by decide) ?_
              refine lv_iload_n hx hb dX0_commit_42 rfl (lv_at hl 2 rfl) ?_
              refine lv_iadd hx hb dX0_commit_43 ?_
              refine bj_i (nI_add 1 i) ?_
              refine lv_aload_n hx hb dX0_commit_44 rfl (lv_at hl 0 rfl) ?_
              refine va_get (D := (dC, dI)) (ci := 0) (v := .ref (ad 6)) (C := RX0) (T := TX0) (N := 11) hx hb hts hin hown hK hP 0 rfl rfl 6 (by decide) (hts (.fieldLink RX0 25 "BlockJournal" "changeBytes" "[I") (by decide +kernel)) (fun _ h9 => h9) rfl dX0_commit_45 ?_
              refine lv_iload_n hx hb dX0_commit_48 rfl (lv_at hl 2 rfl) ?_
              refine lv_bipush (v := nI 64) hx hb dX0_commit_49 (by decide) ?_
              refine lv_imul hx hb dX0_commit_51 ?_
              refine bj_i (pk_mul i 64) ?_
              have hFc := va_free (wc := wX cA ad ((wpF cy i (st, bI o, wl, wd)).1) ck nh tp tl cb cy (nI n) ((wpF cy i (st, bI o, wl, wd)).2.1) ((wpF cy i (st, bI o, wl, wd)).2.2.1) ((wpF cy i (st, bI o, wl, wd)).2.2.2)) hD hS hA [0, 1, 2, 3, 4, 5, 6] rfl
              refine va_callv (va_runV (As := [.int (nI (1 + i)), .ref (ad 6), .int (nI (i * 64))]) (rest := []) ⟨hx, hb, hml, hown, hts⟩ (c_X0_write_6 l dC dI cA ad H.size ((wpF cy i (st, bI o, wl, wd)).1) ck nh tp tl cb cy (nI n) ((wpF cy i (st, bI o, wl, wd)).2.1) ((wpF cy i (st, bI o, wl, wd)).2.2.1) ((wpF cy i (st, bI o, wl, wd)).2.2.2) (1 + i) (i * 64) (by omega) (by omega)) (cwV 3 hts gX0_commit_X0_write rfl rfl rfl (by decide +kernel) ⟨Nat.le_of_ble_eq_true rfl, Nat.le_of_ble_eq_true rfl⟩) ⟨fun a U g mk q => by obtain ⟨q0, q1, qP, qK, qD⟩ := q; exact ⟨q0, q1, qP, va_K.moved (u := U) (U := U.calling g mk a) (Vm.Alike.refl U.vm) qK, qD⟩, va_recv hK hP (ci := 0) (q0 := 0) rfl rfl, fun U hU hW => ⟨rfl, by rw [hU], by rw [hU]; exact hP, va_K.moved hW.alike hK, hD.weaken (fun _ _ _ _ => trivial)⟩⟩ rfl rfl hl.1 rfl (lv_room (Nat.le_of_ble_eq_true rfl)) dX0_commit_52 ⟨Nat.le_of_ble_eq_true rfl, Nat.le_of_ble_eq_true rfl⟩) hS (fun q _ h => hFc q h) hFc (fun u t H1 locs ht hvm hw hB hz1 hk1 hS => ?_)
              obtain ⟨hP1, hK1, hD1⟩ := hB
              subst hw
              rw [ht] at hP1
              have hP : va_P (dC, dI) vwCl (wX cA ad (wrS cy ((wpF cy i (st, bI o, wl, wd)).1) ((wpF cy i (st, bI o, wl, wd)).2.2.1) (i * 64) (1 + i)) ck nh tp tl cb cy (nI n) (wrO ((wpF cy i (st, bI o, wl, wd)).2.1) ((wpF cy i (st, bI o, wl, wd)).2.2.1)) (wrL ((wpF cy i (st, bI o, wl, wd)).2.2.1)) (wrD ((wpF cy i (st, bI o, wl, wd)).2.2.1) ((wpF cy i (st, bI o, wl, wd)).2.2.2))) H1 := hP1
              have hD : va_D A (wX cA ad (wrS cy ((wpF cy i (st, bI o, wl, wd)).1) ((wpF cy i (st, bI o, wl, wd)).2.2.1) (i * 64) (1 + i)) ck nh tp tl cb cy (nI n) (wrO ((wpF cy i (st, bI o, wl, wd)).2.1) ((wpF cy i (st, bI o, wl, wd)).2.2.1)) (wrL ((wpF cy i (st, bI o, wl, wd)).2.2.1)) (wrD ((wpF cy i (st, bI o, wl, wd)).2.2.1) ((wpF cy i (st, bI o, wl, wd)).2.2.2))) := ⟨hD1.1, fun k q h => hFc _ (hD1.2 k q h)⟩
              generalize H1 = H at hP hS ⊢
              refine lv_iinc (v := nI (i + 1)) (lv' := [(2, .int (nI (i + 1))), (0, .ref (ad 0)), (1, .int (hwF st 0 4))]) hx hb dX0_commit_55 hl (k := 2) rfl (nI_add i 1) (by decide) rfl (fun ls hl => ?_)
              refine lv_goto (tgt := 32) hx hb dX0_commit_58 (by decide) ?_
              exact ih (i + 1) (by omega) _ _ _ hP hD hS (lv_sub hl [1, 2, 0] rfl)
        exact loop_32 n 0 (by omega) _ _ _ hP hD hS (lv_sub hl [2, 1, 0] rfl)
      · obtain ⟨sa, hsa⟩ := hE.2.2.2 (89, "there are no changes, or the power is off") (by decide +kernel)
        have hgd : ∀ w ∈ (vx_atS RX0 50 "java/lang/IllegalStateException" ["java/lang/RuntimeException", "java/lang/Exception"]).filter goodWord, w ∈ wsX0_commit := by decide +kernel
        exact vx_throwS (own := RX0) (cls := "java/lang/IllegalStateException") (text := "there are no changes, or the power is off") (names := ["java/lang/RuntimeException", "java/lang/Exception"]) hx hb h9 hown (by decide) (by decide) (hts (.classLink RX0 46 "java/lang/IllegalStateException") (by decide +kernel)) (hts (.initialized "java/lang/IllegalStateException") (by decide +kernel)) hsa (vx_hat (B := bjB) (fun w h => hts w (hgd w h)) (by decide +kernel) (fun w h => va_any (by revert w; decide +kernel) (hE.2.2.1 w h))) (by decide +kernel) hE.1 hE.2.1 hS (hl.1.trans hml.symm) dX0_commit_14 dX0_commit_17 dX0_commit_18 dX0_commit_20 dX0_commit_23 (fun x hx9 => (hnt x hx9).elim) (Nat.le_of_ble_eq_true rfl) (Nat.le_of_ble_eq_true rfl) (Nat.le_of_ble_eq_true rfl) (Nat.le_of_ble_eq_true rfl) hlocks (fun t hal hz hk => ⟨(), trivial, ⟨⟨by rw [cmK, if_neg c_4, if_neg c_11], rfl⟩, (bj_thr hP hK hD hS hal hz hk).1⟩, (bj_thr hP hK hD hS hal hz hk).2⟩) hS.2.2 (Nat.le_of_ble_eq_true rfl) (Nat.le_of_ble_eq_true rfl)
  rw [hH, hlo] at goal
  exact goal

set_option maxHeartbeats 4000000 in
set_option maxRecDepth 100000 in
theorem c_X0_recover (l : Launch) (h9 : l.stackTraces = false) (dC : Nat → ClassId) (dI : Nat → Nat → Nat) (cA : ClassId) (ad : Nat → Nat) (sz : Nat) (st ck nh tp : Nat → Int32) (tl : Int32) (cb cy : Nat → Int32) (nc wl : Int32) (wd : Int64) (o : Bool)  : vx_Met l yX0_recover wsX0_recover ({ frames := 6, cells := 1, slots := 6, locals := 105 } : Room) (va_Pc [.ref (ad 0)] (fun U => U.heap.size = sz ∧ va_P (dC, dI) vwCl (wX cA ad st ck nh tp tl cb cy nc (bI o) wl wd) U.heap ∧ va_K (dC, dI) vwCl [(cA, .int)] U ∧ va_D (fun _ => True) (wX cA ad st ck nh tp tl cb cy nc (bI o) wl wd) ∧ bjE (va_A (wX cA ad st ck nh tp tl cb cy nc (bI o) wl wd) sz) U U.heap)) (va_Qi (fun (r : Int32) (u : XS) => reK o = 0 ∧ r = reR st ck nh (st, bI o, wl, wd) ∧ u = ((reU st ck nh (st, bI o, wl, wd)).1, reH st ck nh (st, bI o, wl, wd), tp, tl, cb, cy, nc, (reU st ck nh (st, bI o, wl, wd)).2.1, (reU st ck nh (st, bI o, wl, wd)).2.2.1, (reU st ck nh (st, bI o, wl, wd)).2.2.2)) (aX dC dI cA ad ck (va_A (wX cA ad st ck nh tp tl cb cy nc (bI o) wl wd) sz)) (va_A (wX cA ad st ck nh tp tl cb cy nc (bI o) wl wd) sz)) (vx_X (fun _ : Unit => True) (fun E _ t => ((reK o = 1 ∧ E = "java/lang/IllegalStateException")) ∧ aX dC dI cA ad ck (va_A (wX cA ad st ck nh tp tl cb cy nc (bI o) wl wd) sz) (st, nh, tp, tl, cb, cy, nc, bI o, wl, wd) t) (va_A (wX cA ad st ck nh tp tl cb cy nc (bI o) wl wd) sz)) 1 6 (va_A (wX cA ad st ck nh tp tl cb cy nc (bI o) wl wd) sz) := by
  refine vx_ofW (cc := cX0_recover) (maxL := 3) (ret := (some .int)) (by decide) rfl ?_
  intro p e s m args below meth c s₁ B hml hnt hv
  obtain ⟨rfl, hsz, hP, hK, hD0, hE⟩ := hv
  have hx := B.exec
  have hb := B.bytes
  have hr := B.returns
  have hts := atoms_spec (ws := wsX0_recover) B.pre
  have hown : s.vm.findClass RX0 = some m.cls := findClass_of_methodNamed B.named
  have hlocks := B.notSynchronized
  have hin : ∀ w ∈ u_ws RX0 TX0 11, w ∈ wsX0_recover := by decide +kernel
  subst hsz
  have hD := hD0.self (sz := s.heap.size)
  generalize hAe : va_A (wX cA ad st ck nh tp tl cb cy nc (bI o) wl wd) s.heap.size = A at hD hE ⊢
  have hA : ∀ q : Nat, s.heap.size ≤ q → A q := fun q h => by rw [← hAe]; exact Or.inr h
  obtain ⟨H, locs, hH, hlo, hS⟩ : ∃ (H : Heap) (locs : List Loc), H = s.heap ∧ locs = [] ∧ va_S A s.heap H locs := ⟨s.heap, [], rfl, rfl, va_S.rf⟩
  rw [← hH] at hP
  have hP : va_P (dC, dI) vwCl (wX cA ad st ck nh tp tl cb cy nc (bI o) wl wd) H := hP
  have hl := lv_entry ([.ref (ad 0)]) (n := 3) (Nat.le_of_ble_eq_true rfl)
  rw [lg_entry_eq]
  generalize (lg_sl ([.ref (ad 0)]) ++ List.replicate (3 - (lg_sl ([.ref (ad 0)])).length) Slot.unset).toArray = ls at hl ⊢
  have goal : W p l e (headSpec wsX0_recover ({ frames := 6, cells := 1, slots := 6, locals := 105 } : Room)).room s m ([.ref (ad 0)] : List Value).toArray below meth c H locs 0 0 (vx_MQ below (va_Qi (fun (r : Int32) (u : XS) => reK o = 0 ∧ r = reR st ck nh (st, bI o, wl, wd) ∧ u = ((reU st ck nh (st, bI o, wl, wd)).1, reH st ck nh (st, bI o, wl, wd), tp, tl, cb, cy, nc, (reU st ck nh (st, bI o, wl, wd)).2.1, (reU st ck nh (st, bI o, wl, wd)).2.2.1, (reU st ck nh (st, bI o, wl, wd)).2.2.2)) (aX dC dI cA ad ck A) A) (vx_X (fun _ : Unit => True) (fun E _ t => ((reK o = 1 ∧ E = "java/lang/IllegalStateException")) ∧ aX dC dI cA ad ck A (st, nh, tp, tl, cb, cy, nc, bI o, wl, wd) t) A) ([.ref (ad 0)] : List Value).toArray s 1 6 A) (F0 m 0 ls []) := by
    clear hH hlo
    have hl : lv_has ls 3 [(0, .ref (ad 0))] := hl
    refine lv_aload_n hx hb dX0_recover_0 rfl (lv_at hl 0 rfl) ?_
    refine va_get (D := (dC, dI)) (ci := 0) (v := .int (bI o)) (C := RX0) (T := TX0) (N := 11) hx hb hts hin hown hK hP 0 rfl rfl 8 (by decide) (hts (.fieldLink RX0 85 "BlockJournal" "off" "Z") (by decide +kernel)) (fun _ h9 => h9) rfl dX0_recover_1 ?_
    refine lv_if_eq (tgt := 17) hx hb dX0_recover_4 (by decide) (fun c_4 => ?_) (fun c_4 => ?_)
    · refine lv_aload_n hx hb dX0_recover_17 rfl (lv_at hl 0 rfl) ?_
      refine bj_call (v := .int (bI (hrF st ck))) (W.runV (As := []) (rest := []) ⟨hx, hb, hml, hown, hts⟩ (c_X0_headIsRight l dC dI cA ad st ck nh tp tl cb cy nc (bI o) wl wd) (cwV 0 hts gX0_recover_X0_headIsRight rfl rfl rfl (by decide +kernel) ⟨Nat.le_of_ble_eq_true rfl, Nat.le_of_ble_eq_true rfl⟩) ⟨fun a U g mk q => by obtain ⟨q0, qP, qK⟩ := q; exact ⟨q0, qP, va_K.moved (u := U) (U := U.calling g mk a) (Vm.Alike.refl U.vm) qK⟩, va_recv hK hP (ci := 0) (q0 := 0) rfl rfl, fun U hU hW => ⟨rfl, by rw [hU]; exact hP, va_K.moved hW.alike hK⟩⟩ rfl rfl hl.1 rfl (lv_room (Nat.le_of_ble_eq_true rfl)) dX0_recover_18 ⟨Nat.le_of_ble_eq_true rfl, Nat.le_of_ble_eq_true rfl⟩) ?_
      refine lv_if_ne (tgt := 26) hx hb dX0_recover_21 (by decide) (fun c_21 => ?_) (fun c_21 => ?_)
      · obtain ⟨n, hn1, hn, en, htg⟩ := hrF_nat c_21
        have hcl : (st 4).toNatClampNeg = n := by rw [en]; exact nI_clamp (by omega)
        refine lv_aload_n hx hb dX0_recover_26 rfl (lv_at hl 0 rfl) ?_
        refine bj_call (v := .int (st 4)) (W.runV (As := []) (rest := []) ⟨hx, hb, hml, hown, hts⟩ (c_X0_headCount l dC dI cA ad st ck nh tp tl cb cy nc (bI o) wl wd) (cwV 0 hts gX0_recover_X0_headCount rfl rfl rfl (by decide +kernel) ⟨Nat.le_of_ble_eq_true rfl, Nat.le_of_ble_eq_true rfl⟩) ⟨fun a U g mk q => by obtain ⟨q0, qP, qK⟩ := q; exact ⟨q0, qP, va_K.moved (u := U) (U := U.calling g mk a) (Vm.Alike.refl U.vm) qK⟩, va_recv hK hP (ci := 0) (q0 := 0) rfl rfl, fun U hU hW => ⟨rfl, by rw [hU]; exact hP, va_K.moved hW.alike hK⟩⟩ rfl rfl hl.1 rfl (lv_room (Nat.le_of_ble_eq_true rfl)) dX0_recover_27 ⟨Nat.le_of_ble_eq_true rfl, Nat.le_of_ble_eq_true rfl⟩) ?_
        refine lv_istore_n (lv' := [(1, .int (st 4)), (0, .ref (ad 0))]) hx hb dX0_recover_30 rfl hl (by decide) rfl (fun ls hl => ?_)
        rw [en] at hl
        refine lv_iconst (v := nI 0) hx hb dX0_recover_31 (by decide) ?_
        refine lv_istore_n (lv' := [(2, .int (nI 0)), (1, .int (nI n)), (0, .ref (ad 0))]) hx hb dX0_recover_32 rfl hl (by decide) rfl (fun ls hl => ?_)
        have loop_33 : ∀ (k : Nat) (i : Nat), i + k = n → ∀ (H : Heap) (locs : List Loc) (ls : Array Slot), va_P (dC, dI) vwCl (wX cA ad ((wvF i (st, bI o, wl, wd)).1) ck nh tp tl cb cy nc ((wvF i (st, bI o, wl, wd)).2.1) ((wvF i (st, bI o, wl, wd)).2.2.1) ((wvF i (st, bI o, wl, wd)).2.2.2)) H → va_D A (wX cA ad ((wvF i (st, bI o, wl, wd)).1) ck nh tp tl cb cy nc ((wvF i (st, bI o, wl, wd)).2.1) ((wvF i (st, bI o, wl, wd)).2.2.1) ((wvF i (st, bI o, wl, wd)).2.2.2)) → va_S A s.heap H locs → lv_has ls 3 [(0, .ref (ad 0)), (1, .int (nI n)), (2, .int (nI i))] → W p l e (headSpec wsX0_recover ({ frames := 6, cells := 1, slots := 6, locals := 105 } : Room)).room s m ([.ref (ad 0)] : List Value).toArray below meth c H locs 0 0 (vx_MQ below (va_Qi (fun (r : Int32) (u : XS) => reK o = 0 ∧ r = reR st ck nh (st, bI o, wl, wd) ∧ u = ((reU st ck nh (st, bI o, wl, wd)).1, reH st ck nh (st, bI o, wl, wd), tp, tl, cb, cy, nc, (reU st ck nh (st, bI o, wl, wd)).2.1, (reU st ck nh (st, bI o, wl, wd)).2.2.1, (reU st ck nh (st, bI o, wl, wd)).2.2.2)) (aX dC dI cA ad ck A) A) (vx_X (fun _ : Unit => True) (fun E _ t => ((reK o = 1 ∧ E = "java/lang/IllegalStateException")) ∧ aX dC dI cA ad ck A (st, nh, tp, tl, cb, cy, nc, bI o, wl, wd) t) A) ([.ref (ad 0)] : List Value).toArray s 1 6 A) (F0 m 33 ls []) := by
          intro k
          induction k with
          | zero =>
            intro i hk H locs ls hP hD hS hl
            refine lv_iload_n hx hb dX0_recover_33 rfl (lv_at hl 2 rfl) ?_
            refine lv_iload_n hx hb dX0_recover_34 rfl (lv_at hl 1 rfl) ?_
            refine lv_icmp_ge (tgt := 63) hx hb dX0_recover_35 (by decide) (fun c_35 => ?_) (fun c_35 => ?_)
            · have n_35 : n ≤ i := (nI_leI (by omega) (by omega)).mp c_35
              have ei : i = n := by omega
              rw [ei] at hP hD
              have hP : va_P (dC, dI) vwCl (wX cA ad ((wvF n (st, bI o, wl, wd)).1) ck nh tp tl cb cy nc ((wvF n (st, bI o, wl, wd)).2.1) ((wvF n (st, bI o, wl, wd)).2.2.1) ((wvF n (st, bI o, wl, wd)).2.2.2)) H := hP
              have hD : va_D A (wX cA ad ((wvF n (st, bI o, wl, wd)).1) ck nh tp tl cb cy nc ((wvF n (st, bI o, wl, wd)).2.1) ((wvF n (st, bI o, wl, wd)).2.2.1) ((wvF n (st, bI o, wl, wd)).2.2.2)) := hD
              refine lv_aload_n hx hb dX0_recover_63 rfl (lv_at hl 0 rfl) ?_
              refine lv_aload_n hx hb dX0_recover_64 rfl (lv_at hl 0 rfl) ?_
              refine lv_iconst (v := nI 0) hx hb dX0_recover_65 (by decide) ?_
              refine bj_call (v := .int (hwF (wvF n (st, bI o, wl, wd)).1 0 4)) (W.runV (As := [.int (nI 0)]) (rest := [.ref (ad 0)]) ⟨hx, hb, hml, hown, hts⟩ (c_X0_headWord l dC dI cA ad ((wvF n (st, bI o, wl, wd)).1) ck nh tp tl cb cy nc ((wvF n (st, bI o, wl, wd)).2.1) ((wvF n (st, bI o, wl, wd)).2.2.1) ((wvF n (st, bI o, wl, wd)).2.2.2) 0 (by decide)) (cwV 1 hts gX0_recover_X0_headWord rfl rfl rfl (by decide +kernel) ⟨Nat.le_of_ble_eq_true rfl, Nat.le_of_ble_eq_true rfl⟩) ⟨fun a U g mk q => by obtain ⟨q0, qP, qK⟩ := q; exact ⟨q0, qP, va_K.moved (u := U) (U := U.calling g mk a) (Vm.Alike.refl U.vm) qK⟩, va_recv hK hP (ci := 0) (q0 := 0) rfl rfl, fun U hU hW => ⟨rfl, by rw [hU]; exact hP, va_K.moved hW.alike hK⟩⟩ rfl rfl hl.1 rfl (lv_room (Nat.le_of_ble_eq_true rfl)) dX0_recover_66 ⟨Nat.le_of_ble_eq_true rfl, Nat.le_of_ble_eq_true rfl⟩) ?_
              refine lv_iconst (v := nI 1) hx hb dX0_recover_69 (by decide) ?_
              refine lv_iadd hx hb dX0_recover_70 ?_
              have hFc := va_free (wc := wX cA ad ((wvF n (st, bI o, wl, wd)).1) ck nh tp tl cb cy nc ((wvF n (st, bI o, wl, wd)).2.1) ((wvF n (st, bI o, wl, wd)).2.2.1) ((wvF n (st, bI o, wl, wd)).2.2.2)) hD hS hA [0, 1, 2, 3, 4, 5, 6] rfl
              refine va_callv (va_runV (As := [.int ((hwF (wvF n (st, bI o, wl, wd)).1 0 4) + (nI 1))]) (rest := []) ⟨hx, hb, hml, hown, hts⟩ (c_X0_writeEmptyHead l dC dI cA ad H.size ((wvF n (st, bI o, wl, wd)).1) ck nh tp tl cb cy nc ((wvF n (st, bI o, wl, wd)).2.1) ((wvF n (st, bI o, wl, wd)).2.2.1) ((wvF n (st, bI o, wl, wd)).2.2.2) ((hwF (wvF n (st, bI o, wl, wd)).1 0 4) + (nI 1))) (cwV 1 hts gX0_recover_X0_writeEmptyHead rfl rfl rfl (by decide +kernel) ⟨Nat.le_of_ble_eq_true rfl, Nat.le_of_ble_eq_true rfl⟩) ⟨fun a U g mk q => by obtain ⟨q0, q1, qP, qK, qD⟩ := q; exact ⟨q0, q1, qP, va_K.moved (u := U) (U := U.calling g mk a) (Vm.Alike.refl U.vm) qK, qD⟩, va_recv hK hP (ci := 0) (q0 := 0) rfl rfl, fun U hU hW => ⟨rfl, by rw [hU], by rw [hU]; exact hP, va_K.moved hW.alike hK, hD.weaken (fun _ _ _ _ => trivial)⟩⟩ rfl rfl hl.1 rfl (lv_room (Nat.le_of_ble_eq_true rfl)) dX0_recover_71 ⟨Nat.le_of_ble_eq_true rfl, Nat.le_of_ble_eq_true rfl⟩) hS (fun q _ h => hFc q h) hFc (fun u t H1 locs ht hvm hw hB hz1 hk1 hS => ?_)
              obtain ⟨hP1, hK1, hD1⟩ := hB
              subst hw
              rw [ht] at hP1
              have hP : va_P (dC, dI) vwCl (wX cA ad ((rvU nh n (st, bI o, wl, wd)).1) ck (rvH nh n (st, bI o, wl, wd)) tp tl cb cy nc ((rvU nh n (st, bI o, wl, wd)).2.1) ((rvU nh n (st, bI o, wl, wd)).2.2.1) ((rvU nh n (st, bI o, wl, wd)).2.2.2)) H1 := hP1
              have hD : va_D A (wX cA ad ((rvU nh n (st, bI o, wl, wd)).1) ck (rvH nh n (st, bI o, wl, wd)) tp tl cb cy nc ((rvU nh n (st, bI o, wl, wd)).2.1) ((rvU nh n (st, bI o, wl, wd)).2.2.1) ((rvU nh n (st, bI o, wl, wd)).2.2.2)) := ⟨hD1.1, fun k q h => hFc _ (hD1.2 k q h)⟩
              generalize H1 = H at hP hS ⊢
              refine lv_aload_n hx hb dX0_recover_74 rfl (lv_at hl 0 rfl) ?_
              refine va_get (D := (dC, dI)) (ci := 0) (v := .int ((rvU nh n (st, bI o, wl, wd)).2.1)) (C := RX0) (T := TX0) (N := 11) hx hb hts hin hown hK hP 0 rfl rfl 8 (by decide) (hts (.fieldLink RX0 85 "BlockJournal" "off" "Z") (by decide +kernel)) (fun _ h9 => h9) rfl dX0_recover_75 ?_
              refine lv_if_eq (tgt := 85) hx hb dX0_recover_78 (by decide) (fun c_78 => ?_) (fun c_78 => ?_)
              · refine lv_iload_n hx hb dX0_recover_85 rfl (lv_at hl 1 rfl) ?_
                have hcode : reK o = 0 := by rw [reK, if_pos c_4]
                have hpost : (((rvU nh n (st, bI o, wl, wd)).1, rvH nh n (st, bI o, wl, wd), tp, tl, cb, cy, nc, (rvU nh n (st, bI o, wl, wd)).2.1, (rvU nh n (st, bI o, wl, wd)).2.2.1, (rvU nh n (st, bI o, wl, wd)).2.2.2) : XS) = ((reU st ck nh (st, bI o, wl, wd)).1, reH st ck nh (st, bI o, wl, wd), tp, tl, cb, cy, nc, (reU st ck nh (st, bI o, wl, wd)).2.1, (reU st ck nh (st, bI o, wl, wd)).2.2.1, (reU st ck nh (st, bI o, wl, wd)).2.2.2) := by simp only [reU, reH, if_pos c_21, hcl]
                refine W.widen (k := 1) (n := 6) (Nat.zero_le _) (Nat.zero_le _) ?_
                refine vx_ret ?_
                have hres : nI n = reR st ck nh (st, bI o, wl, wd) := by rw [reR, if_pos c_21, hcl, if_pos c_78, en]
                exact W.iret (v := nI n) hx hb hr (fun t ht hW => ⟨⟨_, ((rvU nh n (st, bI o, wl, wd)).1, rvH nh n (st, bI o, wl, wd), tp, tl, cb, cy, nc, (rvU nh n (st, bI o, wl, wd)).2.1, (rvU nh n (st, bI o, wl, wd)).2.2.1, (rvU nh n (st, bI o, wl, wd)).2.2.2), rfl, ⟨hcode, hres, hpost⟩, by rw [ht]; exact hP, va_K.moved hW.alike hK, hD⟩, hS.F ht⟩) hS.2.2 dX0_recover_86
              · refine lv_iconst (v := (-1)) hx hb dX0_recover_81 (by decide) ?_
                refine lv_goto (tgt := 86) hx hb dX0_recover_82 (by decide) ?_
                have hcode : reK o = 0 := by rw [reK, if_pos c_4]
                have hpost : (((rvU nh n (st, bI o, wl, wd)).1, rvH nh n (st, bI o, wl, wd), tp, tl, cb, cy, nc, (rvU nh n (st, bI o, wl, wd)).2.1, (rvU nh n (st, bI o, wl, wd)).2.2.1, (rvU nh n (st, bI o, wl, wd)).2.2.2) : XS) = ((reU st ck nh (st, bI o, wl, wd)).1, reH st ck nh (st, bI o, wl, wd), tp, tl, cb, cy, nc, (reU st ck nh (st, bI o, wl, wd)).2.1, (reU st ck nh (st, bI o, wl, wd)).2.2.1, (reU st ck nh (st, bI o, wl, wd)).2.2.2) := by simp only [reU, reH, if_pos c_21, hcl]
                refine W.widen (k := 1) (n := 6) (Nat.zero_le _) (Nat.zero_le _) ?_
                refine vx_ret ?_
                have hres : (-1) = reR st ck nh (st, bI o, wl, wd) := by rw [reR, if_pos c_21, hcl, if_neg c_78]
                exact W.iret (v := (-1)) hx hb hr (fun t ht hW => ⟨⟨_, ((rvU nh n (st, bI o, wl, wd)).1, rvH nh n (st, bI o, wl, wd), tp, tl, cb, cy, nc, (rvU nh n (st, bI o, wl, wd)).2.1, (rvU nh n (st, bI o, wl, wd)).2.2.1, (rvU nh n (st, bI o, wl, wd)).2.2.2), rfl, ⟨hcode, hres, hpost⟩, by rw [ht]; exact hP, va_K.moved hW.alike hK, hD⟩, hS.F ht⟩) hS.2.2 dX0_recover_86
            · have n_35 : ¬ n ≤ i := fun h => c_35 ((nI_leI (by omega) (by omega)).mpr h)
              exfalso; omega
          | succ k ih =>
            intro i hk H locs ls hP hD hS hl
            refine lv_iload_n hx hb dX0_recover_33 rfl (lv_at hl 2 rfl) ?_
            refine lv_iload_n hx hb dX0_recover_34 rfl (lv_at hl 1 rfl) ?_
            refine lv_icmp_ge (tgt := 63) hx hb dX0_recover_35 (by decide) (fun c_35 => ?_) (fun c_35 => ?_)
            · have n_35 : n ≤ i := (nI_leI (by omega) (by omega)).mp c_35
              exfalso; omega
            · have n_35 : ¬ n ≤ i := fun h => c_35 ((nI_leI (by omega) (by omega)).mpr h)
              refine lv_aload_n hx hb dX0_recover_38 rfl (lv_at hl 0 rfl) ?_
              refine lv_aload_n hx hb dX0_recover_39 rfl (lv_at hl 0 rfl) ?_
              refine lv_iload_n hx hb dX0_recover_40 rfl (lv_at hl 2 rfl) ?_
              refine bj_call (v := .int (htF (wvF i (st, bI o, wl, wd)).1 i)) (W.runV (As := [.int (nI i)]) (rest := [.ref (ad 0)]) ⟨hx, hb, hml, hown, hts⟩ (c_X0_headTarget l dC dI cA ad ((wvF i (st, bI o, wl, wd)).1) ck nh tp tl cb cy nc ((wvF i (st, bI o, wl, wd)).2.1) ((wvF i (st, bI o, wl, wd)).2.2.1) ((wvF i (st, bI o, wl, wd)).2.2.2) i (by omega)) (cwV 1 hts gX0_recover_X0_headTarget rfl rfl rfl (by decide +kernel) ⟨Nat.le_of_ble_eq_true rfl, Nat.le_of_ble_eq_true rfl⟩) ⟨fun a U g mk q => by obtain ⟨q0, qP, qK⟩ := q; exact ⟨q0, qP, va_K.moved (u := U) (U := U.calling g mk a) (Vm.Alike.refl U.vm) qK⟩, va_recv hK hP (ci := 0) (q0 := 0) rfl rfl, fun U hU hW => ⟨rfl, by rw [hU]; exact hP, va_K.moved hW.alike hK⟩⟩ rfl rfl hl.1 rfl (lv_room (Nat.le_of_ble_eq_true rfl)) dX0_recover_41 ⟨Nat.le_of_ble_eq_true rfl, Nat.le_of_ble_eq_true rfl⟩) ?_
              obtain ⟨b, hb9, eb, e57⟩ := wvF_tgt (u := (st, bI o, wl, wd)) hn htg (i := i) (by omega)
              refine bj_i (y := nI b) (eb) ?_
              refine lv_aload_n hx hb dX0_recover_44 rfl (lv_at hl 0 rfl) ?_
              refine va_get (D := (dC, dI)) (ci := 0) (v := .ref (ad 1)) (C := RX0) (T := TX0) (N := 11) hx hb hts hin hown hK hP 0 rfl rfl 0 (by decide) (hts (.fieldLink RX0 9 "BlockJournal" "store" "[I") (by decide +kernel)) (fun _ h9 => h9) rfl dX0_recover_45 ?_
              refine lv_iconst (v := nI 1) hx hb dX0_recover_48 (by decide) ?_
              refine lv_iload_n hx hb dX0_recover_49 rfl (lv_at hl 2 rfl) ?_
              refine lv_iadd hx hb dX0_recover_50 ?_
              refine bj_i (nI_add 1 i) ?_
              refine lv_bipush (v := nI 64) hx hb dX0_recover_51 (by decide) ?_
              refine lv_imul hx hb dX0_recover_53 ?_
              refine bj_i (pk_mul (1 + i) 64) ?_
              have hFc := va_free (wc := wX cA ad ((wvF i (st, bI o, wl, wd)).1) ck nh tp tl cb cy nc ((wvF i (st, bI o, wl, wd)).2.1) ((wvF i (st, bI o, wl, wd)).2.2.1) ((wvF i (st, bI o, wl, wd)).2.2.2)) hD hS hA [0, 1, 2, 3, 4, 5, 6] rfl
              refine va_callv (va_runV (As := [.int (nI b), .ref (ad 1), .int (nI ((1 + i) * 64))]) (rest := []) ⟨hx, hb, hml, hown, hts⟩ (c_X0_write_1 l dC dI cA ad H.size ((wvF i (st, bI o, wl, wd)).1) ck nh tp tl cb cy nc ((wvF i (st, bI o, wl, wd)).2.1) ((wvF i (st, bI o, wl, wd)).2.2.1) ((wvF i (st, bI o, wl, wd)).2.2.2) b ((1 + i) * 64) (by omega) (by omega)) (cwV 3 hts gX0_recover_X0_write rfl rfl rfl (by decide +kernel) ⟨Nat.le_of_ble_eq_true rfl, Nat.le_of_ble_eq_true rfl⟩) ⟨fun a U g mk q => by obtain ⟨q0, q1, qP, qK, qD⟩ := q; exact ⟨q0, q1, qP, va_K.moved (u := U) (U := U.calling g mk a) (Vm.Alike.refl U.vm) qK, qD⟩, va_recv hK hP (ci := 0) (q0 := 0) rfl rfl, fun U hU hW => ⟨rfl, by rw [hU], by rw [hU]; exact hP, va_K.moved hW.alike hK, hD.weaken (fun _ _ _ _ => trivial)⟩⟩ rfl rfl hl.1 rfl (lv_room (Nat.le_of_ble_eq_true rfl)) dX0_recover_54 ⟨Nat.le_of_ble_eq_true rfl, Nat.le_of_ble_eq_true rfl⟩) hS (fun q _ h => hFc q h) hFc (fun u t H1 locs ht hvm hw hB hz1 hk1 hS => ?_)
              obtain ⟨hP1, hK1, hD1⟩ := hB
              subst hw
              rw [ht] at hP1
              have hP : va_P (dC, dI) vwCl (wX cA ad (wrS ((wvF i (st, bI o, wl, wd)).1) ((wvF i (st, bI o, wl, wd)).1) ((wvF i (st, bI o, wl, wd)).2.2.1) ((1 + i) * 64) b) ck nh tp tl cb cy nc (wrO ((wvF i (st, bI o, wl, wd)).2.1) ((wvF i (st, bI o, wl, wd)).2.2.1)) (wrL ((wvF i (st, bI o, wl, wd)).2.2.1)) (wrD ((wvF i (st, bI o, wl, wd)).2.2.1) ((wvF i (st, bI o, wl, wd)).2.2.2))) H1 := hP1
              have hD : va_D A (wX cA ad (wrS ((wvF i (st, bI o, wl, wd)).1) ((wvF i (st, bI o, wl, wd)).1) ((wvF i (st, bI o, wl, wd)).2.2.1) ((1 + i) * 64) b) ck nh tp tl cb cy nc (wrO ((wvF i (st, bI o, wl, wd)).2.1) ((wvF i (st, bI o, wl, wd)).2.2.1)) (wrL ((wvF i (st, bI o, wl, wd)).2.2.1)) (wrD ((wvF i (st, bI o, wl, wd)).2.2.1) ((wvF i (st, bI o, wl, wd)).2.2.2))) := ⟨hD1.1, fun k q h => hFc _ (hD1.2 k q h)⟩
              generalize H1 = H at hP hS ⊢
              have hP : va_P (dC, dI) vwCl (wX cA ad ((wvF (i + 1) (st, bI o, wl, wd)).1) ck nh tp tl cb cy nc ((wvF (i + 1) (st, bI o, wl, wd)).2.1) ((wvF (i + 1) (st, bI o, wl, wd)).2.2.1) ((wvF (i + 1) (st, bI o, wl, wd)).2.2.2)) H := by rw [e57]; exact hP
              have hD : va_D A (wX cA ad ((wvF (i + 1) (st, bI o, wl, wd)).1) ck nh tp tl cb cy nc ((wvF (i + 1) (st, bI o, wl, wd)).2.1) ((wvF (i + 1) (st, bI o, wl, wd)).2.2.1) ((wvF (i + 1) (st, bI o, wl, wd)).2.2.2)) := by rw [e57]; exact hD
              refine lv_iinc (v := nI (i + 1)) (lv' := [(2, .int (nI (i + 1))), (0, .ref (ad 0)), (1, .int (nI n))]) hx hb dX0_recover_57 hl (k := 2) rfl (nI_add i 1) (by decide) rfl (fun ls hl => ?_)
              refine lv_goto (tgt := 33) hx hb dX0_recover_60 (by decide) ?_
              exact ih (i + 1) (by omega) _ _ _ hP hD hS (lv_sub hl [1, 2, 0] rfl)
        exact loop_33 n 0 (by omega) _ _ _ hP hD hS (lv_sub hl [2, 1, 0] rfl)
      · refine lv_iconst (v := nI 0) hx hb dX0_recover_24 (by decide) ?_
        have hcode : reK o = 0 := by rw [reK, if_pos c_4]
        have hpost : ((st, nh, tp, tl, cb, cy, nc, bI o, wl, wd) : XS) = ((reU st ck nh (st, bI o, wl, wd)).1, reH st ck nh (st, bI o, wl, wd), tp, tl, cb, cy, nc, (reU st ck nh (st, bI o, wl, wd)).2.1, (reU st ck nh (st, bI o, wl, wd)).2.2.1, (reU st ck nh (st, bI o, wl, wd)).2.2.2) := by simp only [reU, reH, if_neg (not_not_intro c_21)]
        refine W.widen (k := 1) (n := 6) (Nat.zero_le _) (Nat.zero_le _) ?_
        refine vx_ret ?_
        have hres : nI 0 = reR st ck nh (st, bI o, wl, wd) := by rw [reR, if_neg (not_not_intro c_21)]
        exact W.iret (v := nI 0) hx hb hr (fun t ht hW => ⟨⟨_, (st, nh, tp, tl, cb, cy, nc, bI o, wl, wd), rfl, ⟨hcode, hres, hpost⟩, by rw [ht]; exact hP, va_K.moved hW.alike hK, hD⟩, hS.F ht⟩) hS.2.2 dX0_recover_25
    · obtain ⟨sa, hsa⟩ := hE.2.2.2 (105, "the power is off") (by decide +kernel)
      have hgd : ∀ w ∈ (vx_atS RX0 50 "java/lang/IllegalStateException" ["java/lang/RuntimeException", "java/lang/Exception"]).filter goodWord, w ∈ wsX0_recover := by decide +kernel
      exact vx_throwS (own := RX0) (cls := "java/lang/IllegalStateException") (text := "the power is off") (names := ["java/lang/RuntimeException", "java/lang/Exception"]) hx hb h9 hown (by decide) (by decide) (hts (.classLink RX0 46 "java/lang/IllegalStateException") (by decide +kernel)) (hts (.initialized "java/lang/IllegalStateException") (by decide +kernel)) hsa (vx_hat (B := bjB) (fun w h => hts w (hgd w h)) (by decide +kernel) (fun w h => va_any (by revert w; decide +kernel) (hE.2.2.1 w h))) (by decide +kernel) hE.1 hE.2.1 hS (hl.1.trans hml.symm) dX0_recover_7 dX0_recover_10 dX0_recover_11 dX0_recover_13 dX0_recover_16 (fun x hx9 => (hnt x hx9).elim) (Nat.le_of_ble_eq_true rfl) (Nat.le_of_ble_eq_true rfl) (Nat.le_of_ble_eq_true rfl) (Nat.le_of_ble_eq_true rfl) hlocks (fun t hal hz hk => ⟨(), trivial, ⟨⟨by rw [reK, if_neg c_4], rfl⟩, (bj_thr hP hK hD hS hal hz hk).1⟩, (bj_thr hP hK hD hS hal hz hk).2⟩) hS.2.2 (Nat.le_of_ble_eq_true rfl) (Nat.le_of_ble_eq_true rfl)
  rw [hH, hlo] at goal
  exact goal

set_option maxHeartbeats 4000000 in
set_option maxRecDepth 100000 in
theorem c_X1_commit (l : Launch) (dC : Nat → ClassId) (dI : Nat → Nat → Nat) (cA : ClassId) (ad : Nat → Nat) (sz : Nat) (th : Int32) (st tp : Nat → Int32) (tl : Int32) (cb cy : Nat → Int32) (dn lf : Int64) (ro : Nat → Int32) (n : Nat) (o : Bool) (pi : Nat → Nat) (hn : n ≤ 24) (hpi : ∀ j, j < n → pi j < 24 ∧ raF cb n j n 0 = nI (pi j)) (hcb : ∀ j, j < n → ∃ b : Nat, b < 96 ∧ cb (pi j) = nI b) : Met l yX1_commit wsX1_commit ({ frames := 3, cells := 0, slots := 0, locals := 80 } : Room) (va_Pc [.ref (ad 0)] (fun U => U.heap.size = sz ∧ va_P (dC, dI) vwCl (wM cA ad th st tp tl cb cy (nI n) dn lf (bI o) ro) U.heap ∧ va_K (dC, dI) vwCl [(cA, .int)] U ∧ va_D (fun _ => True) (wM cA ad th st tp tl cb cy (nI n) dn lf (bI o) ro))) (va_Qi (fun (r : Int32) (u : MS) => r = (if cmK n o = 0 then (mcL cb cy pi n (nuF st 0 4 0) (2 * n + 2) 0 (nI 1) (ro, st, bI o, lf, dn)).2 else nI 0) ∧ u = (nI (cmK n o), if cmK n o = 0 then (mcL cb cy pi n (nuF st 0 4 0) (2 * n + 2) 0 (nI 1) (ro, st, bI o, lf, dn)).1.2.1 else st, tp, tl, cb, cy, if cmK n o = 0 then nI 0 else nI n, if cmK n o = 0 then (mcL cb cy pi n (nuF st 0 4 0) (2 * n + 2) 0 (nI 1) (ro, st, bI o, lf, dn)).1.2.2.2.2 else dn, if cmK n o = 0 then (mcL cb cy pi n (nuF st 0 4 0) (2 * n + 2) 0 (nI 1) (ro, st, bI o, lf, dn)).1.2.2.2.1 else lf, if cmK n o = 0 then (mcL cb cy pi n (nuF st 0 4 0) (2 * n + 2) 0 (nI 1) (ro, st, bI o, lf, dn)).1.2.2.1 else bI o, if cmK n o = 0 then (mcL cb cy pi n (nuF st 0 4 0) (2 * n + 2) 0 (nI 1) (ro, st, bI o, lf, dn)).1.1 else ro)) (aM dC dI cA ad (va_A (wM cA ad th st tp tl cb cy (nI n) dn lf (bI o) ro) sz)) (va_A (wM cA ad th st tp tl cb cy (nI n) dn lf (bI o) ro) sz)) 0 0 (va_A (wM cA ad th st tp tl cb cy (nI n) dn lf (bI o) ro) sz) := by
  refine Met.ofW (cc := cX1_commit) (maxL := 5) (ret := (some .boolean)) (by decide) rfl ?_
  intro p e s m args below meth c s₁ B hml hv
  obtain ⟨rfl, hsz, hP, hK, hD0⟩ := hv
  have hx := B.exec
  have hb := B.bytes
  have hr := B.returns
  have hts := atoms_spec (ws := wsX1_commit) B.pre
  have hown : s.vm.findClass RX1 = some m.cls := findClass_of_methodNamed B.named
  have hlocks := B.notSynchronized
  have hin : ∀ w ∈ u_ws RX1 TX1 11, w ∈ wsX1_commit := by decide +kernel
  subst hsz
  have hD := hD0.self (sz := s.heap.size)
  generalize hAe : va_A (wM cA ad th st tp tl cb cy (nI n) dn lf (bI o) ro) s.heap.size = A at hD ⊢
  have hA : ∀ q : Nat, s.heap.size ≤ q → A q := fun q h => by rw [← hAe]; exact Or.inr h
  obtain ⟨H, locs, hH, hlo, hS⟩ : ∃ (H : Heap) (locs : List Loc), H = s.heap ∧ locs = [] ∧ va_S A s.heap H locs := ⟨s.heap, [], rfl, rfl, va_S.rf⟩
  rw [← hH] at hP
  have hP : va_P (dC, dI) vwCl (wM cA ad th st tp tl cb cy (nI n) dn lf (bI o) ro) H := hP
  have hl := lv_entry ([.ref (ad 0)]) (n := 5) (Nat.le_of_ble_eq_true rfl)
  rw [lg_entry_eq]
  generalize (lg_sl ([.ref (ad 0)]) ++ List.replicate (5 - (lg_sl ([.ref (ad 0)])).length) Slot.unset).toArray = ls at hl ⊢
  have goal : W p l e (headSpec wsX1_commit ({ frames := 3, cells := 0, slots := 0, locals := 80 } : Room)).room s m ([.ref (ad 0)] : List Value).toArray below meth c H locs 0 0 (MQ below (va_Qi (fun (r : Int32) (u : MS) => r = (if cmK n o = 0 then (mcL cb cy pi n (nuF st 0 4 0) (2 * n + 2) 0 (nI 1) (ro, st, bI o, lf, dn)).2 else nI 0) ∧ u = (nI (cmK n o), if cmK n o = 0 then (mcL cb cy pi n (nuF st 0 4 0) (2 * n + 2) 0 (nI 1) (ro, st, bI o, lf, dn)).1.2.1 else st, tp, tl, cb, cy, if cmK n o = 0 then nI 0 else nI n, if cmK n o = 0 then (mcL cb cy pi n (nuF st 0 4 0) (2 * n + 2) 0 (nI 1) (ro, st, bI o, lf, dn)).1.2.2.2.2 else dn, if cmK n o = 0 then (mcL cb cy pi n (nuF st 0 4 0) (2 * n + 2) 0 (nI 1) (ro, st, bI o, lf, dn)).1.2.2.2.1 else lf, if cmK n o = 0 then (mcL cb cy pi n (nuF st 0 4 0) (2 * n + 2) 0 (nI 1) (ro, st, bI o, lf, dn)).1.2.2.1 else bI o, if cmK n o = 0 then (mcL cb cy pi n (nuF st 0 4 0) (2 * n + 2) 0 (nI 1) (ro, st, bI o, lf, dn)).1.1 else ro)) (aM dC dI cA ad A) A) ([.ref (ad 0)] : List Value).toArray s 0 0 A) (F0 m 0 ls []) := by
    clear hH hlo
    have hl : lv_has ls 5 [(0, .ref (ad 0))] := hl
    refine lv_aload_n hx hb dX1_commit_0 rfl (lv_at hl 0 rfl) ?_
    refine lv_aload_n hx hb dX1_commit_1 rfl (lv_at hl 0 rfl) ?_
    refine va_get (D := (dC, dI)) (ci := 1) (v := .int (nI n)) (C := RX1) (T := TX1) (N := 11) hx hb hts hin hown hK hP 0 rfl rfl 6 (by decide) (hts (.fieldLink RX1 81 "BlockJournalModel" "changes" "I") (by decide +kernel)) (fun _ h9 => h9) rfl dX1_commit_2 ?_
    refine lv_if_eq (tgt := 15) hx hb dX1_commit_5 (by decide) (fun c_5 => ?_) (fun c_5 => ?_)
    · refine lv_iconst (v := nI 1) hx hb dX1_commit_15 (by decide) ?_
      refine lv_goto (tgt := 20) hx hb dX1_commit_16 (by decide) ?_
      refine lv_iconst (v := nI 1) hx hb dX1_commit_20 (by decide) ?_
      have hFc := va_free (wc := wM cA ad th st tp tl cb cy (nI n) dn lf (bI o) ro) hD hS hA [0, 1, 2, 3, 4, 5] rfl
      refine va_calli (va_runV (As := [.int (nI 1), .int (nI 1)]) (rest := []) ⟨hx, hb, hml, hown, hts⟩ (c_X1_fails l dC dI cA ad H.size th st tp tl cb cy (nI n) dn lf (bI o) ro (nI 1) (nI 1) rfl) (cwV 2 hts gX1_commit_X1_fails rfl rfl rfl (by decide +kernel) ⟨Nat.le_of_ble_eq_true rfl, Nat.le_of_ble_eq_true rfl⟩) ⟨fun a U g mk q => by obtain ⟨q0, q1, qP, qK, qD⟩ := q; exact ⟨q0, q1, qP, va_K.moved (u := U) (U := U.calling g mk a) (Vm.Alike.refl U.vm) qK, qD⟩, va_recv hK hP (ci := 1) (q0 := 0) rfl rfl, fun U hU hW => ⟨rfl, by rw [hU], by rw [hU]; exact hP, va_K.moved hW.alike hK, hD.weaken (fun _ _ _ _ => trivial)⟩⟩ rfl rfl hl.1 rfl (lv_room (Nat.le_of_ble_eq_true rfl)) dX1_commit_21 ⟨Nat.le_of_ble_eq_true rfl, Nat.le_of_ble_eq_true rfl⟩) hS (fun q _ h => hFc q h) hFc (fun r_21 u t H1 locs ht hvm hw hB hz1 hk1 hS => ?_)
      obtain ⟨hP1, hK1, hD1⟩ := hB
      obtain ⟨e_21, rfl⟩ := hw
      rw [ht] at hP1
      have hP : va_P (dC, dI) vwCl (wM cA ad (nI 1) st tp tl cb cy (nI n) dn lf (bI o) ro) H1 := hP1
      have hD : va_D A (wM cA ad (nI 1) st tp tl cb cy (nI n) dn lf (bI o) ro) := ⟨hD1.1, fun k q h => hFc _ (hD1.2 k q h)⟩
      generalize H1 = H at hP hS ⊢
      subst e_21
      refine lv_if_eq (tgt := 29) hx hb dX1_commit_24 (by decide) (fun c_24 => ?_) (fun c_24 => ?_)
      · exact absurd c_24 (by decide)
      · refine lv_iconst (v := nI 0) hx hb dX1_commit_27 (by decide) ?_
        have hpost : ((nI 1, st, tp, tl, cb, cy, nI n, dn, lf, bI o, ro) : MS) = (nI (cmK n o), if cmK n o = 0 then (mcL cb cy pi n (nuF st 0 4 0) (2 * n + 2) 0 (nI 1) (ro, st, bI o, lf, dn)).1.2.1 else st, tp, tl, cb, cy, if cmK n o = 0 then nI 0 else nI n, if cmK n o = 0 then (mcL cb cy pi n (nuF st 0 4 0) (2 * n + 2) 0 (nI 1) (ro, st, bI o, lf, dn)).1.2.2.2.2 else dn, if cmK n o = 0 then (mcL cb cy pi n (nuF st 0 4 0) (2 * n + 2) 0 (nI 1) (ro, st, bI o, lf, dn)).1.2.2.2.1 else lf, if cmK n o = 0 then (mcL cb cy pi n (nuF st 0 4 0) (2 * n + 2) 0 (nI 1) (ro, st, bI o, lf, dn)).1.2.2.1 else bI o, if cmK n o = 0 then (mcL cb cy pi n (nuF st 0 4 0) (2 * n + 2) 0 (nI 1) (ro, st, bI o, lf, dn)).1.1 else ro) := by rw [show cmK n o = 1 by rw [cmK, if_pos c_5]]; rfl
        have hres : nI 0 = (if cmK n o = 0 then (mcL cb cy pi n (nuF st 0 4 0) (2 * n + 2) 0 (nI 1) (ro, st, bI o, lf, dn)).2 else nI 0) := by rw [show cmK n o = 1 by rw [cmK, if_pos c_5]]; rfl
        exact W.zret (v := nI 0) (ty := .boolean) hx hb hr rfl (fun t ht hW => ⟨⟨_, (nI 1, st, tp, tl, cb, cy, nI n, dn, lf, bI o, ro), rfl, ⟨hres, hpost⟩, by rw [ht]; exact hP, va_K.moved hW.alike hK, hD⟩, hS.F ht⟩) hS.2.2 dX1_commit_28
    · refine lv_aload_n hx hb dX1_commit_8 rfl (lv_at hl 0 rfl) ?_
      refine va_get (D := (dC, dI)) (ci := 1) (v := .int (bI o)) (C := RX1) (T := TX1) (N := 11) hx hb hts hin hown hK hP 0 rfl rfl 9 (by decide) (hts (.fieldLink RX1 35 "BlockJournalModel" "off" "Z") (by decide +kernel)) (fun _ h9 => h9) rfl dX1_commit_9 ?_
      refine lv_if_eq (tgt := 19) hx hb dX1_commit_12 (by decide) (fun c_12 => ?_) (fun c_12 => ?_)
      · refine lv_iconst (v := nI 0) hx hb dX1_commit_19 (by decide) ?_
        refine lv_iconst (v := nI 1) hx hb dX1_commit_20 (by decide) ?_
        have hFc := va_free (wc := wM cA ad th st tp tl cb cy (nI n) dn lf (bI o) ro) hD hS hA [0, 1, 2, 3, 4, 5] rfl
        refine va_calli (va_runV (As := [.int (nI 0), .int (nI 1)]) (rest := []) ⟨hx, hb, hml, hown, hts⟩ (c_X1_fails l dC dI cA ad H.size th st tp tl cb cy (nI n) dn lf (bI o) ro (nI 0) (nI 1) rfl) (cwV 2 hts gX1_commit_X1_fails rfl rfl rfl (by decide +kernel) ⟨Nat.le_of_ble_eq_true rfl, Nat.le_of_ble_eq_true rfl⟩) ⟨fun a U g mk q => by obtain ⟨q0, q1, qP, qK, qD⟩ := q; exact ⟨q0, q1, qP, va_K.moved (u := U) (U := U.calling g mk a) (Vm.Alike.refl U.vm) qK, qD⟩, va_recv hK hP (ci := 1) (q0 := 0) rfl rfl, fun U hU hW => ⟨rfl, by rw [hU], by rw [hU]; exact hP, va_K.moved hW.alike hK, hD.weaken (fun _ _ _ _ => trivial)⟩⟩ rfl rfl hl.1 rfl (lv_room (Nat.le_of_ble_eq_true rfl)) dX1_commit_21 ⟨Nat.le_of_ble_eq_true rfl, Nat.le_of_ble_eq_true rfl⟩) hS (fun q _ h => hFc q h) hFc (fun r_21 u t H1 locs ht hvm hw hB hz1 hk1 hS => ?_)
        obtain ⟨hP1, hK1, hD1⟩ := hB
        obtain ⟨e_21, rfl⟩ := hw
        rw [ht] at hP1
        have hP : va_P (dC, dI) vwCl (wM cA ad (nI 0) st tp tl cb cy (nI n) dn lf (bI o) ro) H1 := hP1
        have hD : va_D A (wM cA ad (nI 0) st tp tl cb cy (nI n) dn lf (bI o) ro) := ⟨hD1.1, fun k q h => hFc _ (hD1.2 k q h)⟩
        generalize H1 = H at hP hS ⊢
        subst e_21
        refine lv_if_eq (tgt := 29) hx hb dX1_commit_24 (by decide) (fun c_24 => ?_) (fun c_24 => ?_)
        · refine lv_aload_n hx hb dX1_commit_29 rfl (lv_at hl 0 rfl) ?_
          refine lv_iconst (v := nI 0) hx hb dX1_commit_30 (by decide) ?_
          refine lv_iconst (v := nI 4) hx hb dX1_commit_31 (by decide) ?_
          refine bj_call (v := .long (nuF st 0 4 0)) (W.runV (As := [.int (nI 0), .int (nI 4)]) (rest := []) ⟨hx, hb, hml, hown, hts⟩ (c_X1_number l dC dI cA ad (nI 0) st tp tl cb cy (nI n) dn lf (bI o) ro 0 4 (by decide) (by decide)) (cwV 2 hts gX1_commit_X1_number rfl rfl rfl (by decide +kernel) ⟨Nat.le_of_ble_eq_true rfl, Nat.le_of_ble_eq_true rfl⟩) ⟨fun a U g mk q => by obtain ⟨q0, qP, qK⟩ := q; exact ⟨q0, qP, va_K.moved (u := U) (U := U.calling g mk a) (Vm.Alike.refl U.vm) qK⟩, va_recv hK hP (ci := 1) (q0 := 0) rfl rfl, fun U hU hW => ⟨rfl, by rw [hU]; exact hP, va_K.moved hW.alike hK⟩⟩ rfl rfl hl.1 rfl (lv_room (Nat.le_of_ble_eq_true rfl)) dX1_commit_32 ⟨Nat.le_of_ble_eq_true rfl, Nat.le_of_ble_eq_true rfl⟩) ?_
          refine lv_lstore_n (lv' := [(1, .long (nuF st 0 4 0)), (0, .ref (ad 0))]) hx hb dX1_commit_35 rfl hl (by decide) rfl (fun ls hl => ?_)
          refine lv_iconst (v := nI 1) hx hb dX1_commit_36 (by decide) ?_
          refine lv_istore_n (lv' := [(3, .int (nI 1)), (1, .long (nuF st 0 4 0)), (0, .ref (ad 0))]) hx hb dX1_commit_37 rfl hl (by decide) rfl (fun ls hl => ?_)
          refine lv_iconst (v := nI 0) hx hb dX1_commit_38 (by decide) ?_
          refine lv_istore (lv' := [(4, .int (nI 0)), (3, .int (nI 1)), (1, .long (nuF st 0 4 0)), (0, .ref (ad 0))]) hx hb dX1_commit_39 hl (by decide) rfl (fun ls hl => ?_)
          have loop_41 : ∀ (k : Nat) (i : Nat) (g : Int32) (u : M5), i + k = 2 * n + 2 → narrow .boolean (.int g) = .int g → mcL cb cy pi n (nuF st 0 4 0) (2 * n + 2) 0 (nI 1) (ro, st, bI o, lf, dn) = mcL cb cy pi n (nuF st 0 4 0) k i g u → ∀ (H : Heap) (locs : List Loc) (ls : Array Slot), va_P (dC, dI) vwCl (wM cA ad (nI 0) u.2.1 tp tl cb cy (nI n) u.2.2.2.2 u.2.2.2.1 u.2.2.1 u.1) H → va_D A (wM cA ad (nI 0) u.2.1 tp tl cb cy (nI n) u.2.2.2.2 u.2.2.2.1 u.2.2.1 u.1) → va_S A s.heap H locs → lv_has ls 5 [(0, .ref (ad 0)), (1, .long (nuF st 0 4 0)), (3, .int g), (4, .int (nI i))] → W p l e (headSpec wsX1_commit ({ frames := 3, cells := 0, slots := 0, locals := 80 } : Room)).room s m ([.ref (ad 0)] : List Value).toArray below meth c H locs 0 0 (MQ below (va_Qi (fun (r : Int32) (u : MS) => r = (if cmK n o = 0 then (mcL cb cy pi n (nuF st 0 4 0) (2 * n + 2) 0 (nI 1) (ro, st, bI o, lf, dn)).2 else nI 0) ∧ u = (nI (cmK n o), if cmK n o = 0 then (mcL cb cy pi n (nuF st 0 4 0) (2 * n + 2) 0 (nI 1) (ro, st, bI o, lf, dn)).1.2.1 else st, tp, tl, cb, cy, if cmK n o = 0 then nI 0 else nI n, if cmK n o = 0 then (mcL cb cy pi n (nuF st 0 4 0) (2 * n + 2) 0 (nI 1) (ro, st, bI o, lf, dn)).1.2.2.2.2 else dn, if cmK n o = 0 then (mcL cb cy pi n (nuF st 0 4 0) (2 * n + 2) 0 (nI 1) (ro, st, bI o, lf, dn)).1.2.2.2.1 else lf, if cmK n o = 0 then (mcL cb cy pi n (nuF st 0 4 0) (2 * n + 2) 0 (nI 1) (ro, st, bI o, lf, dn)).1.2.2.1 else bI o, if cmK n o = 0 then (mcL cb cy pi n (nuF st 0 4 0) (2 * n + 2) 0 (nI 1) (ro, st, bI o, lf, dn)).1.1 else ro)) (aM dC dI cA ad A) A) ([.ref (ad 0)] : List Value).toArray s 0 0 A) (F0 m 41 ls []) := by
            intro k
            induction k with
            | zero =>
              intro i g u hk hg hR H locs ls hP hD hS hl
              refine lv_iload hx hb dX1_commit_41 (lv_at hl 3 rfl) ?_
              refine lv_iconst (v := nI 2) hx hb dX1_commit_43 (by decide) ?_
              refine lv_aload_n hx hb dX1_commit_44 rfl (lv_at hl 0 rfl) ?_
              refine va_get (D := (dC, dI)) (ci := 1) (v := .int (nI n)) (C := RX1) (T := TX1) (N := 11) hx hb hts hin hown hK hP 0 rfl rfl 6 (by decide) (hts (.fieldLink RX1 81 "BlockJournalModel" "changes" "I") (by decide +kernel)) (fun _ h9 => h9) rfl dX1_commit_45 ?_
              refine lv_imul hx hb dX1_commit_48 ?_
              refine bj_i (pk_mul 2 n) ?_
              refine lv_iconst (v := nI 2) hx hb dX1_commit_49 (by decide) ?_
              refine lv_iadd hx hb dX1_commit_50 ?_
              refine bj_i (nI_add (2 * n) 2) ?_
              refine lv_icmp_ge (tgt := 76) hx hb dX1_commit_51 (by decide) (fun c_51 => ?_) (fun c_51 => ?_)
              · have n_51 : (2 * n) + 2 ≤ i := (nI_leI (by omega) (by omega)).mp c_51
                have hE : mcL cb cy pi n (nuF st 0 4 0) (2 * n + 2) 0 (nI 1) (ro, st, bI o, lf, dn) = (u, g) := by rw [hR]; rfl
                refine lv_aload_n hx hb dX1_commit_76 rfl (lv_at hl 0 rfl) ?_
                refine lv_iconst (v := nI 0) hx hb dX1_commit_77 (by decide) ?_
                refine va_put (D := (dC, dI)) (ci := 1) (v := .int (nI 0)) (ty := .int) (C := RX1) (T := TX1) (N := 11) hx hb hts hin tyX1 tyX1_ok nmX1 hown hK hP hD hS 0 rfl rfl 6 (by decide) (hts (.fieldLink RX1 81 "BlockJournalModel" "changes" "I") (by decide +kernel)) (fun _ h9 => h9) rfl (by decide +kernel) rfl rfl (Nat.le_of_ble_eq_true rfl) dX1_commit_78 (fun H locs hP hD hS => ?_)
                have hP : va_P (dC, dI) vwCl (wM cA ad (nI 0) u.2.1 tp tl cb cy (nI 0) u.2.2.2.2 u.2.2.2.1 u.2.2.1 u.1) H := hP
                have hD : va_D A (wM cA ad (nI 0) u.2.1 tp tl cb cy (nI 0) u.2.2.2.2 u.2.2.2.1 u.2.2.1 u.1) := hD
                refine lv_iload_n hx hb dX1_commit_81 rfl (lv_at hl 2 rfl) ?_
                have hpost : ((nI 0, u.2.1, tp, tl, cb, cy, nI 0, u.2.2.2.2, u.2.2.2.1, u.2.2.1, u.1) : MS) = (nI (cmK n o), if cmK n o = 0 then (mcL cb cy pi n (nuF st 0 4 0) (2 * n + 2) 0 (nI 1) (ro, st, bI o, lf, dn)).1.2.1 else st, tp, tl, cb, cy, if cmK n o = 0 then nI 0 else nI n, if cmK n o = 0 then (mcL cb cy pi n (nuF st 0 4 0) (2 * n + 2) 0 (nI 1) (ro, st, bI o, lf, dn)).1.2.2.2.2 else dn, if cmK n o = 0 then (mcL cb cy pi n (nuF st 0 4 0) (2 * n + 2) 0 (nI 1) (ro, st, bI o, lf, dn)).1.2.2.2.1 else lf, if cmK n o = 0 then (mcL cb cy pi n (nuF st 0 4 0) (2 * n + 2) 0 (nI 1) (ro, st, bI o, lf, dn)).1.2.2.1 else bI o, if cmK n o = 0 then (mcL cb cy pi n (nuF st 0 4 0) (2 * n + 2) 0 (nI 1) (ro, st, bI o, lf, dn)).1.1 else ro) := by rw [show cmK n o = 0 by rw [cmK, if_neg c_5, if_pos c_12], hE]; rfl
                have hres : g = (if cmK n o = 0 then (mcL cb cy pi n (nuF st 0 4 0) (2 * n + 2) 0 (nI 1) (ro, st, bI o, lf, dn)).2 else nI 0) := by rw [show cmK n o = 0 by rw [cmK, if_neg c_5, if_pos c_12], hE]; rfl
                exact W.zret (v := g) (ty := .boolean) hx hb hr hg (fun t ht hW => ⟨⟨_, (nI 0, u.2.1, tp, tl, cb, cy, nI 0, u.2.2.2.2, u.2.2.2.1, u.2.2.1, u.1), rfl, ⟨hres, hpost⟩, by rw [ht]; exact hP, va_K.moved hW.alike hK, hD⟩, hS.F ht⟩) hS.2.2 dX1_commit_82
              · have n_51 : ¬ ((2 * n) + 2) ≤ i := fun h => c_51 ((nI_leI (by omega) (by omega)).mpr h)
                exfalso; omega
            | succ k ih =>
              intro i g u hk hg hR H locs ls hP hD hS hl
              refine lv_iload hx hb dX1_commit_41 (lv_at hl 3 rfl) ?_
              refine lv_iconst (v := nI 2) hx hb dX1_commit_43 (by decide) ?_
              refine lv_aload_n hx hb dX1_commit_44 rfl (lv_at hl 0 rfl) ?_
              refine va_get (D := (dC, dI)) (ci := 1) (v := .int (nI n)) (C := RX1) (T := TX1) (N := 11) hx hb hts hin hown hK hP 0 rfl rfl 6 (by decide) (hts (.fieldLink RX1 81 "BlockJournalModel" "changes" "I") (by decide +kernel)) (fun _ h9 => h9) rfl dX1_commit_45 ?_
              refine lv_imul hx hb dX1_commit_48 ?_
              refine bj_i (pk_mul 2 n) ?_
              refine lv_iconst (v := nI 2) hx hb dX1_commit_49 (by decide) ?_
              refine lv_iadd hx hb dX1_commit_50 ?_
              refine bj_i (nI_add (2 * n) 2) ?_
              refine lv_icmp_ge (tgt := 76) hx hb dX1_commit_51 (by decide) (fun c_51 => ?_) (fun c_51 => ?_)
              · have n_51 : (2 * n) + 2 ≤ i := (nI_leI (by omega) (by omega)).mp c_51
                exfalso; omega
              · have n_51 : ¬ ((2 * n) + 2) ≤ i := fun h => c_51 ((nI_leI (by omega) (by omega)).mpr h)
                refine lv_iload_n hx hb dX1_commit_54 rfl (lv_at hl 2 rfl) ?_
                refine lv_if_eq (tgt := 76) hx hb dX1_commit_55 (by decide) (fun c_55 => ?_) (fun c_55 => ?_)
                · have hE : mcL cb cy pi n (nuF st 0 4 0) (2 * n + 2) 0 (nI 1) (ro, st, bI o, lf, dn) = (u, g) := by rw [hR, mcL, if_pos c_55]
                  refine lv_aload_n hx hb dX1_commit_76 rfl (lv_at hl 0 rfl) ?_
                  refine lv_iconst (v := nI 0) hx hb dX1_commit_77 (by decide) ?_
                  refine va_put (D := (dC, dI)) (ci := 1) (v := .int (nI 0)) (ty := .int) (C := RX1) (T := TX1) (N := 11) hx hb hts hin tyX1 tyX1_ok nmX1 hown hK hP hD hS 0 rfl rfl 6 (by decide) (hts (.fieldLink RX1 81 "BlockJournalModel" "changes" "I") (by decide +kernel)) (fun _ h9 => h9) rfl (by decide +kernel) rfl rfl (Nat.le_of_ble_eq_true rfl) dX1_commit_78 (fun H locs hP hD hS => ?_)
                  have hP : va_P (dC, dI) vwCl (wM cA ad (nI 0) u.2.1 tp tl cb cy (nI 0) u.2.2.2.2 u.2.2.2.1 u.2.2.1 u.1) H := hP
                  have hD : va_D A (wM cA ad (nI 0) u.2.1 tp tl cb cy (nI 0) u.2.2.2.2 u.2.2.2.1 u.2.2.1 u.1) := hD
                  refine lv_iload_n hx hb dX1_commit_81 rfl (lv_at hl 2 rfl) ?_
                  have hpost : ((nI 0, u.2.1, tp, tl, cb, cy, nI 0, u.2.2.2.2, u.2.2.2.1, u.2.2.1, u.1) : MS) = (nI (cmK n o), if cmK n o = 0 then (mcL cb cy pi n (nuF st 0 4 0) (2 * n + 2) 0 (nI 1) (ro, st, bI o, lf, dn)).1.2.1 else st, tp, tl, cb, cy, if cmK n o = 0 then nI 0 else nI n, if cmK n o = 0 then (mcL cb cy pi n (nuF st 0 4 0) (2 * n + 2) 0 (nI 1) (ro, st, bI o, lf, dn)).1.2.2.2.2 else dn, if cmK n o = 0 then (mcL cb cy pi n (nuF st 0 4 0) (2 * n + 2) 0 (nI 1) (ro, st, bI o, lf, dn)).1.2.2.2.1 else lf, if cmK n o = 0 then (mcL cb cy pi n (nuF st 0 4 0) (2 * n + 2) 0 (nI 1) (ro, st, bI o, lf, dn)).1.2.2.1 else bI o, if cmK n o = 0 then (mcL cb cy pi n (nuF st 0 4 0) (2 * n + 2) 0 (nI 1) (ro, st, bI o, lf, dn)).1.1 else ro) := by rw [show cmK n o = 0 by rw [cmK, if_neg c_5, if_pos c_12], hE]; rfl
                  have hres : g = (if cmK n o = 0 then (mcL cb cy pi n (nuF st 0 4 0) (2 * n + 2) 0 (nI 1) (ro, st, bI o, lf, dn)).2 else nI 0) := by rw [show cmK n o = 0 by rw [cmK, if_neg c_5, if_pos c_12], hE]; rfl
                  exact W.zret (v := g) (ty := .boolean) hx hb hr hg (fun t ht hW => ⟨⟨_, (nI 0, u.2.1, tp, tl, cb, cy, nI 0, u.2.2.2.2, u.2.2.2.1, u.2.2.1, u.1), rfl, ⟨hres, hpost⟩, by rw [ht]; exact hP, va_K.moved hW.alike hK, hD⟩, hS.F ht⟩) hS.2.2 dX1_commit_82
                · refine lv_aload_n hx hb dX1_commit_58 rfl (lv_at hl 0 rfl) ?_
                  refine lv_iload hx hb dX1_commit_59 (lv_at hl 3 rfl) ?_
                  refine lv_aload_n hx hb dX1_commit_61 rfl (lv_at hl 0 rfl) ?_
                  refine va_get (D := (dC, dI)) (ci := 1) (v := .int (nI n)) (C := RX1) (T := TX1) (N := 11) hx hb hts hin hown hK hP 0 rfl rfl 6 (by decide) (hts (.fieldLink RX1 81 "BlockJournalModel" "changes" "I") (by decide +kernel)) (fun _ h9 => h9) rfl dX1_commit_62 ?_
                  refine lv_lload_n hx hb dX1_commit_65 rfl (lv_at hl 1 rfl) ?_
                  have hFc := va_free (wc := wM cA ad (nI 0) u.2.1 tp tl cb cy (nI n) u.2.2.2.2 u.2.2.2.1 u.2.2.1 u.1) hD hS hA [0, 1, 2, 3, 4, 5] rfl
                  refine va_calli (va_runV (As := [.int (nI i), .int (nI n), .long (nuF st 0 4 0)]) (rest := []) ⟨hx, hb, hml, hown, hts⟩ (c_X1_commits l dC dI cA ad H.size (nI 0) u.2.1 tp tl cb cy u.2.2.2.2 u.2.2.2.1 u.2.2.1 u.1 n i (nuF st 0 4 0) pi hn (by omega) hpi hcb) (cwV 3 hts gX1_commit_X1_commits rfl rfl rfl (by decide +kernel) ⟨Nat.le_of_ble_eq_true rfl, Nat.le_of_ble_eq_true rfl⟩) ⟨fun a U g mk q => by obtain ⟨q0, q1, qP, qK, qD⟩ := q; exact ⟨q0, q1, qP, va_K.moved (u := U) (U := U.calling g mk a) (Vm.Alike.refl U.vm) qK, qD⟩, va_recv hK hP (ci := 1) (q0 := 0) rfl rfl, fun U hU hW => ⟨rfl, by rw [hU], by rw [hU]; exact hP, va_K.moved hW.alike hK, hD.weaken (fun _ _ _ _ => trivial)⟩⟩ rfl rfl hl.1 rfl (lv_room (Nat.le_of_ble_eq_true rfl)) dX1_commit_66 ⟨Nat.le_of_ble_eq_true rfl, Nat.le_of_ble_eq_true rfl⟩) hS (fun q _ h => hFc q h) hFc (fun r_66 u t H1 locs ht hvm hw hB hz1 hk1 hS => ?_)
                  obtain ⟨hP1, hK1, hD1⟩ := hB
                  obtain ⟨e_66, rfl⟩ := hw
                  rw [ht] at hP1
                  have hP : va_P (dC, dI) vwCl (wM cA ad (nI 0) ((m5 (crF u.2.1 u.1 cb cy pi n i (nuF st 0 4 0)) (crB cb pi n i) u).2.1) tp tl cb cy (nI n) ((m5 (crF u.2.1 u.1 cb cy pi n i (nuF st 0 4 0)) (crB cb pi n i) u).2.2.2.2) ((m5 (crF u.2.1 u.1 cb cy pi n i (nuF st 0 4 0)) (crB cb pi n i) u).2.2.2.1) ((m5 (crF u.2.1 u.1 cb cy pi n i (nuF st 0 4 0)) (crB cb pi n i) u).2.2.1) ((m5 (crF u.2.1 u.1 cb cy pi n i (nuF st 0 4 0)) (crB cb pi n i) u).1)) H1 := hP1
                  have hD : va_D A (wM cA ad (nI 0) ((m5 (crF u.2.1 u.1 cb cy pi n i (nuF st 0 4 0)) (crB cb pi n i) u).2.1) tp tl cb cy (nI n) ((m5 (crF u.2.1 u.1 cb cy pi n i (nuF st 0 4 0)) (crB cb pi n i) u).2.2.2.2) ((m5 (crF u.2.1 u.1 cb cy pi n i (nuF st 0 4 0)) (crB cb pi n i) u).2.2.2.1) ((m5 (crF u.2.1 u.1 cb cy pi n i (nuF st 0 4 0)) (crB cb pi n i) u).2.2.1) ((m5 (crF u.2.1 u.1 cb cy pi n i (nuF st 0 4 0)) (crB cb pi n i) u).1)) := ⟨hD1.1, fun k q h => hFc _ (hD1.2 k q h)⟩
                  generalize H1 = H at hP hS ⊢
                  subst e_66
                  refine lv_istore_n (lv' := [(3, .int (bI (mwB u.2.2.1 u.2.2.2.1))), (0, .ref (ad 0)), (1, .long (nuF st 0 4 0)), (4, .int (nI i))]) hx hb dX1_commit_69 rfl hl (by decide) rfl (fun ls hl => ?_)
                  refine lv_iinc (v := nI (i + 1)) (lv' := [(4, .int (nI (i + 1))), (3, .int (bI (mwB u.2.2.1 u.2.2.2.1))), (0, .ref (ad 0)), (1, .long (nuF st 0 4 0))]) hx hb dX1_commit_70 hl (k := 3) rfl (nI_add i 1) (by decide) rfl (fun ls hl => ?_)
                  refine lv_goto (tgt := 41) hx hb dX1_commit_73 (by decide) ?_
                  exact ih (i + 1) _ (m5 (crF u.2.1 u.1 cb cy pi n i (nuF st 0 4 0)) (crB cb pi n i) u) (by omega) (bI_n _) (by rw [hR, mcL, if_neg c_55]) _ _ _ hP hD hS (lv_sub hl [2, 3, 1, 0] rfl)
          exact loop_41 (2 * n + 2) 0 (nI 1) (ro, st, bI o, lf, dn) (by omega) rfl rfl _ _ _ hP hD hS (lv_sub hl [3, 2, 1, 0] rfl)
        · exact absurd (by decide) c_24
      · refine lv_iconst (v := nI 1) hx hb dX1_commit_15 (by decide) ?_
        refine lv_goto (tgt := 20) hx hb dX1_commit_16 (by decide) ?_
        refine lv_iconst (v := nI 1) hx hb dX1_commit_20 (by decide) ?_
        have hFc := va_free (wc := wM cA ad th st tp tl cb cy (nI n) dn lf (bI o) ro) hD hS hA [0, 1, 2, 3, 4, 5] rfl
        refine va_calli (va_runV (As := [.int (nI 1), .int (nI 1)]) (rest := []) ⟨hx, hb, hml, hown, hts⟩ (c_X1_fails l dC dI cA ad H.size th st tp tl cb cy (nI n) dn lf (bI o) ro (nI 1) (nI 1) rfl) (cwV 2 hts gX1_commit_X1_fails rfl rfl rfl (by decide +kernel) ⟨Nat.le_of_ble_eq_true rfl, Nat.le_of_ble_eq_true rfl⟩) ⟨fun a U g mk q => by obtain ⟨q0, q1, qP, qK, qD⟩ := q; exact ⟨q0, q1, qP, va_K.moved (u := U) (U := U.calling g mk a) (Vm.Alike.refl U.vm) qK, qD⟩, va_recv hK hP (ci := 1) (q0 := 0) rfl rfl, fun U hU hW => ⟨rfl, by rw [hU], by rw [hU]; exact hP, va_K.moved hW.alike hK, hD.weaken (fun _ _ _ _ => trivial)⟩⟩ rfl rfl hl.1 rfl (lv_room (Nat.le_of_ble_eq_true rfl)) dX1_commit_21 ⟨Nat.le_of_ble_eq_true rfl, Nat.le_of_ble_eq_true rfl⟩) hS (fun q _ h => hFc q h) hFc (fun r_21 u t H1 locs ht hvm hw hB hz1 hk1 hS => ?_)
        obtain ⟨hP1, hK1, hD1⟩ := hB
        obtain ⟨e_21, rfl⟩ := hw
        rw [ht] at hP1
        have hP : va_P (dC, dI) vwCl (wM cA ad (nI 1) st tp tl cb cy (nI n) dn lf (bI o) ro) H1 := hP1
        have hD : va_D A (wM cA ad (nI 1) st tp tl cb cy (nI n) dn lf (bI o) ro) := ⟨hD1.1, fun k q h => hFc _ (hD1.2 k q h)⟩
        generalize H1 = H at hP hS ⊢
        subst e_21
        refine lv_if_eq (tgt := 29) hx hb dX1_commit_24 (by decide) (fun c_24 => ?_) (fun c_24 => ?_)
        · exact absurd c_24 (by decide)
        · refine lv_iconst (v := nI 0) hx hb dX1_commit_27 (by decide) ?_
          have hpost : ((nI 1, st, tp, tl, cb, cy, nI n, dn, lf, bI o, ro) : MS) = (nI (cmK n o), if cmK n o = 0 then (mcL cb cy pi n (nuF st 0 4 0) (2 * n + 2) 0 (nI 1) (ro, st, bI o, lf, dn)).1.2.1 else st, tp, tl, cb, cy, if cmK n o = 0 then nI 0 else nI n, if cmK n o = 0 then (mcL cb cy pi n (nuF st 0 4 0) (2 * n + 2) 0 (nI 1) (ro, st, bI o, lf, dn)).1.2.2.2.2 else dn, if cmK n o = 0 then (mcL cb cy pi n (nuF st 0 4 0) (2 * n + 2) 0 (nI 1) (ro, st, bI o, lf, dn)).1.2.2.2.1 else lf, if cmK n o = 0 then (mcL cb cy pi n (nuF st 0 4 0) (2 * n + 2) 0 (nI 1) (ro, st, bI o, lf, dn)).1.2.2.1 else bI o, if cmK n o = 0 then (mcL cb cy pi n (nuF st 0 4 0) (2 * n + 2) 0 (nI 1) (ro, st, bI o, lf, dn)).1.1 else ro) := by rw [show cmK n o = 1 by rw [cmK, if_neg c_5, if_neg c_12]]; rfl
          have hres : nI 0 = (if cmK n o = 0 then (mcL cb cy pi n (nuF st 0 4 0) (2 * n + 2) 0 (nI 1) (ro, st, bI o, lf, dn)).2 else nI 0) := by rw [show cmK n o = 1 by rw [cmK, if_neg c_5, if_neg c_12]]; rfl
          exact W.zret (v := nI 0) (ty := .boolean) hx hb hr rfl (fun t ht hW => ⟨⟨_, (nI 1, st, tp, tl, cb, cy, nI n, dn, lf, bI o, ro), rfl, ⟨hres, hpost⟩, by rw [ht]; exact hP, va_K.moved hW.alike hK, hD⟩, hS.F ht⟩) hS.2.2 dX1_commit_28
  rw [hH, hlo] at goal
  exact goal

theorem irF_0 (f : Nat → Int32) : ∀ k i, irF f k i (nI 0) = nI 0 := by
  intro k
  induction k with
  | zero => intro i; rfl
  | succ k ih => intro i; rw [irF, if_pos (by decide)]; exact ih (i + 1)
theorem irF_all (f : Nat → Int32) : ∀ k i r, ¬ irF f k i r = 0 → ∀ j, i ≤ j → j < i + k → ¬ bI (wiF (tgM f j).toInt64 25 95) = 0 := by
  intro k
  induction k with
  | zero => intro i r _ j h1 h2; exfalso; omega
  | succ k ih =>
    intro i r h j h1 h2
    rw [irF] at h
    by_cases a1 : r = 0
    · rw [if_pos a1, irF_0] at h; exact absurd (by decide) h
    rw [if_neg a1] at h
    by_cases a2 : bI (wiF (tgM f i).toInt64 25 95) = 0
    · rw [if_pos a2, irF_0] at h; exact absurd (by decide) h
    by_cases e : j = i
    · rw [e]; exact a2
    · exact ih (i + 1) _ h j (by omega) (by omega)
theorem mrF_nat {f : Nat → Int32} (h : ¬ bI (mrF f) = 0) : ∃ n : Nat, 1 ≤ n ∧ n ≤ 24 ∧ f 4 = nI n ∧ ∀ i, i < n → ∃ b : Nat, 25 ≤ b ∧ b < 96 ∧ tgM f i = nI b := by
  have h := bI_ne h
  unfold mrF at h
  by_cases a1 : ¬ bI (wiF (f 4).toInt64 1 24) = 0
  · rw [if_pos a1] at h
    obtain ⟨n, h1, h2, en⟩ := wiF_nat (b := 1) (c := 24) (by decide) (by decide) rfl a1
    have hcl : (f 4).toNatClampNeg = n := by rw [en]; exact nI_clamp (by omega)
    rw [hcl] at h
    by_cases a2 : irF f n 0 (nI 1) = 0
    · rw [if_pos a2] at h; cases h
    refine ⟨n, h1, h2, en, fun i hi => ?_⟩
    obtain ⟨b, b1, b2, eb⟩ := wiF_nat (b := 25) (c := 95) (by decide) (by decide) rfl (irF_all f n 0 (nI 1) a2 i (Nat.zero_le _) (by omega))
    exact ⟨b, b1, by omega, eb⟩
  · rw [if_neg a1] at h; cases h
theorem tgM_eq {f g : Nat → Int32} {i : Nat} (hi : i < 24) (h : ∀ j, j < 64 → f j = g j) : tgM f i = tgM g i := by
  unfold tgM
  rw [nuF, nuF, nuF, nuF, nuF, nuF, h _ (by omega), h _ (by omega)]
theorem wmF_low (ro st : Nat → Int32) (b : Nat) : ∀ i j, j < 64 * b → wmF ro st b i j = st j := by
  intro i
  induction i with
  | zero => intro j _; rfl
  | succ i ih => intro j h; rw [wmF, pk_un (by omega)]; exact ih j h
theorem mwS_low {ro st : Nat → Int32} {of : Int32} {lf : Int64} {b j : Nat} (h : j < 64 * b) : mwS ro st of lf b j = st j := by
  unfold mwS
  by_cases a : mwB of lf = true
  · rw [if_pos a]; exact wmF_low ro st b 64 j h
  · rw [if_neg a]
/-- 64 bytes of the payload into the row -/
def prR (st ro : Nat → Int32) (i : Nat) : Nat → Nat → Int32
  | 0 => ro
  | k + 1 => upd (prR st ro i k) k (st (64 * (1 + i) + k))
/-- targets i, i + 1 .. of a recovery, until one is not written -/
def mvL : Nat → Nat → M5 → M5 × Bool
  | 0, _, u => (u, true)
  | k + 1, i, u => if ¬ bI (mwB u.2.2.1 u.2.2.2.1) = 0 then mvL k (i + 1) (m5 (prR u.2.1 u.1 i 64) (tgM u.2.1 i).toNatClampNeg u) else (m5 (prR u.2.1 u.1 i 64) (tgM u.2.1 i).toNatClampNeg u, false)
/-- a recovery whose head is right -/
def mvE (q : Int64) (cb : Nat → Int32) (n : Nat) (u : M5) : M5 × Int32 := if (mvL n 0 u).2 = true then (m5 (hdF (mvL n 0 u).1.2.1 (mvL n 0 u).1.1 cb (fun j => j) 0 (q + 1)) 0 (mvL n 0 u).1, if bI (mwB (mvL n 0 u).1.2.2.1 (mvL n 0 u).1.2.2.2.1) = 0 then -1 else nI n) else ((mvL n 0 u).1, -1)
def mvR (st cb : Nat → Int32) (o : Bool) (u : M5) : M5 × Int32 := if bI o = 0 then (if ¬ bI (mrF st) = 0 then mvE (nuF st 0 4 0) cb (st 4).toNatClampNeg u else (u, nI 0)) else (u, nI 0)

set_option maxHeartbeats 4000000 in
set_option maxRecDepth 100000 in
theorem c_X1_recover (l : Launch) (dC : Nat → ClassId) (dI : Nat → Nat → Nat) (cA : ClassId) (ad : Nat → Nat) (sz : Nat) (th : Int32) (st tp : Nat → Int32) (tl : Int32) (cb cy : Nat → Int32) (dn lf : Int64) (ro : Nat → Int32) (n : Nat) (o : Bool) (hn9 : n ≤ 24) : Met l yX1_recover wsX1_recover ({ frames := 3, cells := 0, slots := 0, locals := 81 } : Room) (va_Pc [.ref (ad 0)] (fun U => U.heap.size = sz ∧ va_P (dC, dI) vwCl (wM cA ad th st tp tl cb cy (nI n) dn lf (bI o) ro) U.heap ∧ va_K (dC, dI) vwCl [(cA, .int)] U ∧ va_D (fun _ => True) (wM cA ad th st tp tl cb cy (nI n) dn lf (bI o) ro))) (va_Qi (fun (r : Int32) (u : MS) => r = (mvR st cb o (ro, st, bI o, lf, dn)).2 ∧ u = (nI (reK o), (mvR st cb o (ro, st, bI o, lf, dn)).1.2.1, tp, tl, cb, cy, nI n, (mvR st cb o (ro, st, bI o, lf, dn)).1.2.2.2.2, (mvR st cb o (ro, st, bI o, lf, dn)).1.2.2.2.1, (mvR st cb o (ro, st, bI o, lf, dn)).1.2.2.1, (mvR st cb o (ro, st, bI o, lf, dn)).1.1)) (aM dC dI cA ad (va_A (wM cA ad th st tp tl cb cy (nI n) dn lf (bI o) ro) sz)) (va_A (wM cA ad th st tp tl cb cy (nI n) dn lf (bI o) ro) sz)) 0 0 (va_A (wM cA ad th st tp tl cb cy (nI n) dn lf (bI o) ro) sz) := by
  refine Met.ofW (cc := cX1_recover) (maxL := 6) (ret := (some .int)) (by decide) rfl ?_
  intro p e s m args below meth c s₁ B hml hv
  obtain ⟨rfl, hsz, hP, hK, hD0⟩ := hv
  have hx := B.exec
  have hb := B.bytes
  have hr := B.returns
  have hts := atoms_spec (ws := wsX1_recover) B.pre
  have hown : s.vm.findClass RX1 = some m.cls := findClass_of_methodNamed B.named
  have hlocks := B.notSynchronized
  have hin : ∀ w ∈ u_ws RX1 TX1 11, w ∈ wsX1_recover := by decide +kernel
  subst hsz
  have hD := hD0.self (sz := s.heap.size)
  generalize hAe : va_A (wM cA ad th st tp tl cb cy (nI n) dn lf (bI o) ro) s.heap.size = A at hD ⊢
  have hA : ∀ q : Nat, s.heap.size ≤ q → A q := fun q h => by rw [← hAe]; exact Or.inr h
  obtain ⟨H, locs, hH, hlo, hS⟩ : ∃ (H : Heap) (locs : List Loc), H = s.heap ∧ locs = [] ∧ va_S A s.heap H locs := ⟨s.heap, [], rfl, rfl, va_S.rf⟩
  rw [← hH] at hP
  have hP : va_P (dC, dI) vwCl (wM cA ad th st tp tl cb cy (nI n) dn lf (bI o) ro) H := hP
  have hl := lv_entry ([.ref (ad 0)]) (n := 6) (Nat.le_of_ble_eq_true rfl)
  rw [lg_entry_eq]
  generalize (lg_sl ([.ref (ad 0)]) ++ List.replicate (6 - (lg_sl ([.ref (ad 0)])).length) Slot.unset).toArray = ls at hl ⊢
  have goal : W p l e (headSpec wsX1_recover ({ frames := 3, cells := 0, slots := 0, locals := 81 } : Room)).room s m ([.ref (ad 0)] : List Value).toArray below meth c H locs 0 0 (MQ below (va_Qi (fun (r : Int32) (u : MS) => r = (mvR st cb o (ro, st, bI o, lf, dn)).2 ∧ u = (nI (reK o), (mvR st cb o (ro, st, bI o, lf, dn)).1.2.1, tp, tl, cb, cy, nI n, (mvR st cb o (ro, st, bI o, lf, dn)).1.2.2.2.2, (mvR st cb o (ro, st, bI o, lf, dn)).1.2.2.2.1, (mvR st cb o (ro, st, bI o, lf, dn)).1.2.2.1, (mvR st cb o (ro, st, bI o, lf, dn)).1.1)) (aM dC dI cA ad A) A) ([.ref (ad 0)] : List Value).toArray s 0 0 A) (F0 m 0 ls []) := by
    clear hH hlo
    have hl : lv_has ls 6 [(0, .ref (ad 0))] := hl
    refine lv_aload_n hx hb dX1_recover_0 rfl (lv_at hl 0 rfl) ?_
    refine lv_aload_n hx hb dX1_recover_1 rfl (lv_at hl 0 rfl) ?_
    refine va_get (D := (dC, dI)) (ci := 1) (v := .int (bI o)) (C := RX1) (T := TX1) (N := 11) hx hb hts hin hown hK hP 0 rfl rfl 9 (by decide) (hts (.fieldLink RX1 35 "BlockJournalModel" "off" "Z") (by decide +kernel)) (fun _ h9 => h9) rfl dX1_recover_2 ?_
    refine lv_iconst (v := nI 1) hx hb dX1_recover_5 (by decide) ?_
    have hFc := va_free (wc := wM cA ad th st tp tl cb cy (nI n) dn lf (bI o) ro) hD hS hA [0, 1, 2, 3, 4, 5] rfl
    refine va_calli (va_runV (As := [.int (bI o), .int (nI 1)]) (rest := []) ⟨hx, hb, hml, hown, hts⟩ (c_X1_fails l dC dI cA ad H.size th st tp tl cb cy (nI n) dn lf (bI o) ro (bI o) (nI 1) (bI_n o)) (cwV 2 hts gX1_recover_X1_fails rfl rfl rfl (by decide +kernel) ⟨Nat.le_of_ble_eq_true rfl, Nat.le_of_ble_eq_true rfl⟩) ⟨fun a U g mk q => by obtain ⟨q0, q1, qP, qK, qD⟩ := q; exact ⟨q0, q1, qP, va_K.moved (u := U) (U := U.calling g mk a) (Vm.Alike.refl U.vm) qK, qD⟩, va_recv hK hP (ci := 1) (q0 := 0) rfl rfl, fun U hU hW => ⟨rfl, by rw [hU], by rw [hU]; exact hP, va_K.moved hW.alike hK, hD.weaken (fun _ _ _ _ => trivial)⟩⟩ rfl rfl hl.1 rfl (lv_room (Nat.le_of_ble_eq_true rfl)) dX1_recover_6 ⟨Nat.le_of_ble_eq_true rfl, Nat.le_of_ble_eq_true rfl⟩) hS (fun q _ h => hFc q h) hFc (fun r_6 u t H1 locs ht hvm hw hB hz1 hk1 hS => ?_)
    obtain ⟨hP1, hK1, hD1⟩ := hB
    obtain ⟨e_6, rfl⟩ := hw
    rw [ht] at hP1
    have hP : va_P (dC, dI) vwCl (wM cA ad (if bI o = 0 then nI 0 else nI 1) st tp tl cb cy (nI n) dn lf (bI o) ro) H1 := hP1
    have hD : va_D A (wM cA ad (if bI o = 0 then nI 0 else nI 1) st tp tl cb cy (nI n) dn lf (bI o) ro) := ⟨hD1.1, fun k q h => hFc _ (hD1.2 k q h)⟩
    generalize H1 = H at hP hS ⊢
    subst e_6
    refine lv_if_eq (tgt := 14) hx hb dX1_recover_9 (by decide) (fun c_9 => ?_) (fun c_9 => ?_)
    · refine lv_aload_n hx hb dX1_recover_14 rfl (lv_at hl 0 rfl) ?_
      refine bj_call (v := .int (bI (mrF st))) (W.runV (As := []) (rest := []) ⟨hx, hb, hml, hown, hts⟩ (c_X1_isRight l dC dI cA ad (if bI o = 0 then nI 0 else nI 1) st tp tl cb cy (nI n) dn lf (bI o) ro) (cwV 0 hts gX1_recover_X1_isRight rfl rfl rfl (by decide +kernel) ⟨Nat.le_of_ble_eq_true rfl, Nat.le_of_ble_eq_true rfl⟩) ⟨fun a U g mk q => by obtain ⟨q0, qP, qK⟩ := q; exact ⟨q0, qP, va_K.moved (u := U) (U := U.calling g mk a) (Vm.Alike.refl U.vm) qK⟩, va_recv hK hP (ci := 1) (q0 := 0) rfl rfl, fun U hU hW => ⟨rfl, by rw [hU]; exact hP, va_K.moved hW.alike hK⟩⟩ rfl rfl hl.1 rfl (lv_room (Nat.le_of_ble_eq_true rfl)) dX1_recover_15 ⟨Nat.le_of_ble_eq_true rfl, Nat.le_of_ble_eq_true rfl⟩) ?_
      refine lv_if_ne (tgt := 23) hx hb dX1_recover_18 (by decide) (fun c_18 => ?_) (fun c_18 => ?_)
      · obtain ⟨k9, hn1, hn, en, htg⟩ := mrF_nat c_18
        have hcl : (st 4).toNatClampNeg = k9 := by rw [en]; exact nI_clamp (by omega)
        refine lv_aload_n hx hb dX1_recover_23 rfl (lv_at hl 0 rfl) ?_
        refine va_get (D := (dC, dI)) (ci := 1) (v := .ref (ad 1)) (C := RX1) (T := TX1) (N := 11) hx hb hts hin hown hK hP 0 rfl rfl 1 (by decide) (hts (.fieldLink RX1 7 "BlockJournalModel" "store" "[I") (by decide +kernel)) (fun _ h9 => h9) rfl dX1_recover_24 ?_
        refine lv_iconst (v := nI 4) hx hb dX1_recover_27 (by decide) ?_
        refine va_iald (D := (dC, dI)) hx hb hK hP 1 0 (cA := cA) (n := 6144) (f := st) rfl rfl (i := (nI 4)) (vp_in_nI (by omega) (by omega)) dX1_recover_28 ?_
        refine bj_i (y := st 4) (congrArg st (nI_clamp (by omega))) ?_
        refine bj_i (y := nI k9) (en) ?_
        refine lv_istore_n (lv' := [(1, .int (nI k9)), (0, .ref (ad 0))]) hx hb dX1_recover_29 rfl hl (by decide) rfl (fun ls hl => ?_)
        refine lv_aload_n hx hb dX1_recover_30 rfl (lv_at hl 1 rfl) ?_
        refine lv_iconst (v := nI 0) hx hb dX1_recover_31 (by decide) ?_
        refine lv_iconst (v := nI 4) hx hb dX1_recover_32 (by decide) ?_
        refine bj_call (v := .long (nuF st 0 4 0)) (W.runV (As := [.int (nI 0), .int (nI 4)]) (rest := []) ⟨hx, hb, hml, hown, hts⟩ (c_X1_number l dC dI cA ad (if bI o = 0 then nI 0 else nI 1) st tp tl cb cy (nI n) dn lf (bI o) ro 0 4 (by decide) (by decide)) (cwV 2 hts gX1_recover_X1_number rfl rfl rfl (by decide +kernel) ⟨Nat.le_of_ble_eq_true rfl, Nat.le_of_ble_eq_true rfl⟩) ⟨fun a U g mk q => by obtain ⟨q0, qP, qK⟩ := q; exact ⟨q0, qP, va_K.moved (u := U) (U := U.calling g mk a) (Vm.Alike.refl U.vm) qK⟩, va_recv hK hP (ci := 1) (q0 := 0) rfl rfl, fun U hU hW => ⟨rfl, by rw [hU]; exact hP, va_K.moved hW.alike hK⟩⟩ rfl rfl hl.1 rfl (lv_room (Nat.le_of_ble_eq_true rfl)) dX1_recover_33 ⟨Nat.le_of_ble_eq_true rfl, Nat.le_of_ble_eq_true rfl⟩) ?_
        refine lv_lstore_n (lv' := [(2, .long (nuF st 0 4 0)), (1, .int (nI k9)), (0, .ref (ad 0))]) hx hb dX1_recover_36 rfl hl (by decide) rfl (fun ls hl => ?_)
        refine lv_iconst (v := nI 0) hx hb dX1_recover_37 (by decide) ?_
        refine lv_istore (lv' := [(4, .int (nI 0)), (2, .long (nuF st 0 4 0)), (1, .int (nI k9)), (0, .ref (ad 0))]) hx hb dX1_recover_38 hl (by decide) rfl (fun ls hl => ?_)
        have loop_40 : ∀ (k : Nat) (i : Nat) (u : M5), i + k = k9 → (∀ j, j < 1600 → u.2.1 j = st j) → mvL k9 0 (ro, st, bI o, lf, dn) = mvL k i u → ∀ (H : Heap) (locs : List Loc) (ls : Array Slot), va_P (dC, dI) vwCl (wM cA ad (if bI o = 0 then nI 0 else nI 1) u.2.1 tp tl cb cy (nI n) u.2.2.2.2 u.2.2.2.1 u.2.2.1 u.1) H → va_D A (wM cA ad (if bI o = 0 then nI 0 else nI 1) u.2.1 tp tl cb cy (nI n) u.2.2.2.2 u.2.2.2.1 u.2.2.1 u.1) → va_S A s.heap H locs → lv_has ls 6 [(0, .ref (ad 0)), (1, .int (nI k9)), (2, .long (nuF st 0 4 0)), (4, .int (nI i))] → W p l e (headSpec wsX1_recover ({ frames := 3, cells := 0, slots := 0, locals := 81 } : Room)).room s m ([.ref (ad 0)] : List Value).toArray below meth c H locs 0 0 (MQ below (va_Qi (fun (r : Int32) (u : MS) => r = (mvR st cb o (ro, st, bI o, lf, dn)).2 ∧ u = (nI (reK o), (mvR st cb o (ro, st, bI o, lf, dn)).1.2.1, tp, tl, cb, cy, nI n, (mvR st cb o (ro, st, bI o, lf, dn)).1.2.2.2.2, (mvR st cb o (ro, st, bI o, lf, dn)).1.2.2.2.1, (mvR st cb o (ro, st, bI o, lf, dn)).1.2.2.1, (mvR st cb o (ro, st, bI o, lf, dn)).1.1)) (aM dC dI cA ad A) A) ([.ref (ad 0)] : List Value).toArray s 0 0 A) (F0 m 40 ls []) := by
          intro k
          induction k with
          | zero =>
            intro i u hk hlow hR H locs ls hP hD hS hl
            refine lv_iload hx hb dX1_recover_40 (lv_at hl 3 rfl) ?_
            refine lv_iload_n hx hb dX1_recover_42 rfl (lv_at hl 1 rfl) ?_
            refine lv_icmp_ge (tgt := 105) hx hb dX1_recover_43 (by decide) (fun c_43 => ?_) (fun c_43 => ?_)
            · have n_43 : k9 ≤ i := (nI_leI (by omega) (by omega)).mp c_43
              have hE : mvL k9 0 (ro, st, bI o, lf, dn) = (u, true) := hR
              refine lv_aload_n hx hb dX1_recover_105 rfl (lv_at hl 0 rfl) ?_
              refine lv_lload_n hx hb dX1_recover_106 rfl (lv_at hl 2 rfl) ?_
              refine lv_lconst (v := 1) hx hb dX1_recover_107 (by decide) ?_
              refine lv_ladd hx hb dX1_recover_108 ?_
              refine lv_iconst (v := nI 0) hx hb dX1_recover_109 (by decide) ?_
              have hFc := va_free (wc := wM cA ad (if bI o = 0 then nI 0 else nI 1) u.2.1 tp tl cb cy (nI n) u.2.2.2.2 u.2.2.2.1 u.2.2.1 u.1) hD hS hA [0, 1, 2, 3, 4, 5] rfl
              refine va_callv (va_runV (As := [.long ((nuF st 0 4 0) + 1), .int (nI 0)]) (rest := []) ⟨hx, hb, hml, hown, hts⟩ (c_X1_headed l dC dI cA ad H.size (if bI o = 0 then nI 0 else nI 1) u.2.1 tp tl cb cy u.2.2.2.2 u.2.2.2.1 u.2.2.1 u.1 n 0 (nuF st 0 4 0 + 1) (fun j => j) hn9 (by omega) (fun i hi => absurd hi (Nat.not_lt_zero i))) (cwV 2 hts gX1_recover_X1_headed rfl rfl rfl (by decide +kernel) ⟨Nat.le_of_ble_eq_true rfl, Nat.le_of_ble_eq_true rfl⟩) ⟨fun a U g mk q => by obtain ⟨q0, q1, qP, qK, qD⟩ := q; exact ⟨q0, q1, qP, va_K.moved (u := U) (U := U.calling g mk a) (Vm.Alike.refl U.vm) qK, qD⟩, va_recv hK hP (ci := 1) (q0 := 0) rfl rfl, fun U hU hW => ⟨rfl, by rw [hU], by rw [hU]; exact hP, va_K.moved hW.alike hK, hD.weaken (fun _ _ _ _ => trivial)⟩⟩ rfl rfl hl.1 rfl (lv_room (Nat.le_of_ble_eq_true rfl)) dX1_recover_110 ⟨Nat.le_of_ble_eq_true rfl, Nat.le_of_ble_eq_true rfl⟩) hS (fun q _ h => hFc q h) hFc (fun u t H1 locs ht hvm hw hB hz1 hk1 hS => ?_)
              obtain ⟨hP1, hK1, hD1⟩ := hB
              subst hw
              rw [ht] at hP1
              have hP : va_P (dC, dI) vwCl (wM cA ad (if bI o = 0 then nI 0 else nI 1) u.2.1 tp tl cb cy (nI n) u.2.2.2.2 u.2.2.2.1 u.2.2.1 (hdF u.2.1 u.1 cb (fun j => j) 0 (nuF st 0 4 0 + 1))) H1 := hP1
              have hD : va_D A (wM cA ad (if bI o = 0 then nI 0 else nI 1) u.2.1 tp tl cb cy (nI n) u.2.2.2.2 u.2.2.2.1 u.2.2.1 (hdF u.2.1 u.1 cb (fun j => j) 0 (nuF st 0 4 0 + 1))) := ⟨hD1.1, fun k q h => hFc _ (hD1.2 k q h)⟩
              generalize H1 = H at hP hS ⊢
              refine lv_aload_n hx hb dX1_recover_113 rfl (lv_at hl 0 rfl) ?_
              refine lv_iconst (v := nI 0) hx hb dX1_recover_114 (by decide) ?_
              have hFc := va_free (wc := wM cA ad (if bI o = 0 then nI 0 else nI 1) u.2.1 tp tl cb cy (nI n) u.2.2.2.2 u.2.2.2.1 u.2.2.1 (hdF u.2.1 u.1 cb (fun j => j) 0 (nuF st 0 4 0 + 1))) hD hS hA [0, 1, 2, 3, 4, 5] rfl
              refine va_calli (va_runV (As := [.int (nI 0)]) (rest := []) ⟨hx, hb, hml, hown, hts⟩ (c_X1_writes l dC dI cA ad H.size (if bI o = 0 then nI 0 else nI 1) u.2.1 tp tl cb cy (nI n) u.2.2.2.2 u.2.2.2.1 u.2.2.1 (hdF u.2.1 u.1 cb (fun j => j) 0 (nuF st 0 4 0 + 1)) 0 (by decide)) (cwV 1 hts gX1_recover_X1_writes rfl rfl rfl (by decide +kernel) ⟨Nat.le_of_ble_eq_true rfl, Nat.le_of_ble_eq_true rfl⟩) ⟨fun a U g mk q => by obtain ⟨q0, q1, qP, qK, qD⟩ := q; exact ⟨q0, q1, qP, va_K.moved (u := U) (U := U.calling g mk a) (Vm.Alike.refl U.vm) qK, qD⟩, va_recv hK hP (ci := 1) (q0 := 0) rfl rfl, fun U hU hW => ⟨rfl, by rw [hU], by rw [hU]; exact hP, va_K.moved hW.alike hK, hD.weaken (fun _ _ _ _ => trivial)⟩⟩ rfl rfl hl.1 rfl (lv_room (Nat.le_of_ble_eq_true rfl)) dX1_recover_115 ⟨Nat.le_of_ble_eq_true rfl, Nat.le_of_ble_eq_true rfl⟩) hS (fun q _ h => hFc q h) hFc (fun r_115 u t H1 locs ht hvm hw hB hz1 hk1 hS => ?_)
              obtain ⟨hP1, hK1, hD1⟩ := hB
              obtain ⟨e_115, rfl⟩ := hw
              rw [ht] at hP1
              have hP : va_P (dC, dI) vwCl (wM cA ad (if bI o = 0 then nI 0 else nI 1) (mwS (hdF u.2.1 u.1 cb (fun j => j) 0 (nuF st 0 4 0 + 1)) u.2.1 u.2.2.1 u.2.2.2.1 0) tp tl cb cy (nI n) (mwD u.2.2.1 u.2.2.2.1 u.2.2.2.2) (mwL u.2.2.1 u.2.2.2.1) (mwO u.2.2.1 u.2.2.2.1) (hdF u.2.1 u.1 cb (fun j => j) 0 (nuF st 0 4 0 + 1))) H1 := hP1
              have hD : va_D A (wM cA ad (if bI o = 0 then nI 0 else nI 1) (mwS (hdF u.2.1 u.1 cb (fun j => j) 0 (nuF st 0 4 0 + 1)) u.2.1 u.2.2.1 u.2.2.2.1 0) tp tl cb cy (nI n) (mwD u.2.2.1 u.2.2.2.1 u.2.2.2.2) (mwL u.2.2.1 u.2.2.2.1) (mwO u.2.2.1 u.2.2.2.1) (hdF u.2.1 u.1 cb (fun j => j) 0 (nuF st 0 4 0 + 1))) := ⟨hD1.1, fun k q h => hFc _ (hD1.2 k q h)⟩
              generalize H1 = H at hP hS ⊢
              subst e_115
              refine lv_if_eq (tgt := 125) hx hb dX1_recover_118 (by decide) (fun c_118 => ?_) (fun c_118 => ?_)
              · refine lv_iconst (v := (-1)) hx hb dX1_recover_125 (by decide) ?_
                have hpost : ((if bI o = 0 then nI 0 else nI 1, mwS (hdF u.2.1 u.1 cb (fun j => j) 0 (nuF st 0 4 0 + 1)) u.2.1 u.2.2.1 u.2.2.2.1 0, tp, tl, cb, cy, nI n, mwD u.2.2.1 u.2.2.2.1 u.2.2.2.2, mwL u.2.2.1 u.2.2.2.1, mwO u.2.2.1 u.2.2.2.1, hdF u.2.1 u.1 cb (fun j => j) 0 (nuF st 0 4 0 + 1)) : MS) = (nI (reK o), (mvR st cb o (ro, st, bI o, lf, dn)).1.2.1, tp, tl, cb, cy, nI n, (mvR st cb o (ro, st, bI o, lf, dn)).1.2.2.2.2, (mvR st cb o (ro, st, bI o, lf, dn)).1.2.2.2.1, (mvR st cb o (ro, st, bI o, lf, dn)).1.2.2.1, (mvR st cb o (ro, st, bI o, lf, dn)).1.1) := by simp only [mvR, reK, if_pos c_9, if_pos c_18, hcl, mvE, hE]; rfl
                have hres : (-1) = (mvR st cb o (ro, st, bI o, lf, dn)).2 := by simp only [mvR, if_pos c_9, if_pos c_18, hcl, mvE, hE, if_true, if_pos c_118]
                exact W.iret (v := (-1)) hx hb hr (fun t ht hW => ⟨⟨_, (if bI o = 0 then nI 0 else nI 1, mwS (hdF u.2.1 u.1 cb (fun j => j) 0 (nuF st 0 4 0 + 1)) u.2.1 u.2.2.1 u.2.2.2.1 0, tp, tl, cb, cy, nI n, mwD u.2.2.1 u.2.2.2.1 u.2.2.2.2, mwL u.2.2.1 u.2.2.2.1, mwO u.2.2.1 u.2.2.2.1, hdF u.2.1 u.1 cb (fun j => j) 0 (nuF st 0 4 0 + 1)), rfl, ⟨hres, hpost⟩, by rw [ht]; exact hP, va_K.moved hW.alike hK, hD⟩, hS.F ht⟩) hS.2.2 dX1_recover_126
              · refine lv_iload_n hx hb dX1_recover_121 rfl (lv_at hl 1 rfl) ?_
                refine lv_goto (tgt := 126) hx hb dX1_recover_122 (by decide) ?_
                have hpost : ((if bI o = 0 then nI 0 else nI 1, mwS (hdF u.2.1 u.1 cb (fun j => j) 0 (nuF st 0 4 0 + 1)) u.2.1 u.2.2.1 u.2.2.2.1 0, tp, tl, cb, cy, nI n, mwD u.2.2.1 u.2.2.2.1 u.2.2.2.2, mwL u.2.2.1 u.2.2.2.1, mwO u.2.2.1 u.2.2.2.1, hdF u.2.1 u.1 cb (fun j => j) 0 (nuF st 0 4 0 + 1)) : MS) = (nI (reK o), (mvR st cb o (ro, st, bI o, lf, dn)).1.2.1, tp, tl, cb, cy, nI n, (mvR st cb o (ro, st, bI o, lf, dn)).1.2.2.2.2, (mvR st cb o (ro, st, bI o, lf, dn)).1.2.2.2.1, (mvR st cb o (ro, st, bI o, lf, dn)).1.2.2.1, (mvR st cb o (ro, st, bI o, lf, dn)).1.1) := by simp only [mvR, reK, if_pos c_9, if_pos c_18, hcl, mvE, hE]; rfl
                have hres : nI k9 = (mvR st cb o (ro, st, bI o, lf, dn)).2 := by simp only [mvR, if_pos c_9, if_pos c_18, hcl, mvE, hE, if_true, if_neg c_118]
                exact W.iret (v := nI k9) hx hb hr (fun t ht hW => ⟨⟨_, (if bI o = 0 then nI 0 else nI 1, mwS (hdF u.2.1 u.1 cb (fun j => j) 0 (nuF st 0 4 0 + 1)) u.2.1 u.2.2.1 u.2.2.2.1 0, tp, tl, cb, cy, nI n, mwD u.2.2.1 u.2.2.2.1 u.2.2.2.2, mwL u.2.2.1 u.2.2.2.1, mwO u.2.2.1 u.2.2.2.1, hdF u.2.1 u.1 cb (fun j => j) 0 (nuF st 0 4 0 + 1)), rfl, ⟨hres, hpost⟩, by rw [ht]; exact hP, va_K.moved hW.alike hK, hD⟩, hS.F ht⟩) hS.2.2 dX1_recover_126
            · have n_43 : ¬ k9 ≤ i := fun h => c_43 ((nI_leI (by omega) (by omega)).mpr h)
              exfalso; omega
          | succ k ih =>
            intro i u hk hlow hR H locs ls hP hD hS hl
            refine lv_iload hx hb dX1_recover_40 (lv_at hl 3 rfl) ?_
            refine lv_iload_n hx hb dX1_recover_42 rfl (lv_at hl 1 rfl) ?_
            refine lv_icmp_ge (tgt := 105) hx hb dX1_recover_43 (by decide) (fun c_43 => ?_) (fun c_43 => ?_)
            · have n_43 : k9 ≤ i := (nI_leI (by omega) (by omega)).mp c_43
              exfalso; omega
            · have n_43 : ¬ k9 ≤ i := fun h => c_43 ((nI_leI (by omega) (by omega)).mpr h)
              refine lv_iconst (v := nI 0) hx hb dX1_recover_46 (by decide) ?_
              refine lv_istore (lv' := [(5, .int (nI 0)), (0, .ref (ad 0)), (1, .int (nI k9)), (2, .long (nuF st 0 4 0)), (4, .int (nI i))]) hx hb dX1_recover_47 hl (by decide) rfl (fun ls hl => ?_)
              have loop_49 : ∀ (k : Nat) (k8 : Nat), k8 + k = 64 → ∀ (H : Heap) (locs : List Loc) (ls : Array Slot), va_P (dC, dI) vwCl (wM cA ad (if bI o = 0 then nI 0 else nI 1) u.2.1 tp tl cb cy (nI n) u.2.2.2.2 u.2.2.2.1 u.2.2.1 (prR u.2.1 u.1 i k8)) H → va_D A (wM cA ad (if bI o = 0 then nI 0 else nI 1) u.2.1 tp tl cb cy (nI n) u.2.2.2.2 u.2.2.2.1 u.2.2.1 (prR u.2.1 u.1 i k8)) → va_S A s.heap H locs → lv_has ls 6 [(0, .ref (ad 0)), (1, .int (nI k9)), (2, .long (nuF st 0 4 0)), (4, .int (nI i)), (5, .int (nI k8))] → W p l e (headSpec wsX1_recover ({ frames := 3, cells := 0, slots := 0, locals := 81 } : Room)).room s m ([.ref (ad 0)] : List Value).toArray below meth c H locs 0 0 (MQ below (va_Qi (fun (r : Int32) (u : MS) => r = (mvR st cb o (ro, st, bI o, lf, dn)).2 ∧ u = (nI (reK o), (mvR st cb o (ro, st, bI o, lf, dn)).1.2.1, tp, tl, cb, cy, nI n, (mvR st cb o (ro, st, bI o, lf, dn)).1.2.2.2.2, (mvR st cb o (ro, st, bI o, lf, dn)).1.2.2.2.1, (mvR st cb o (ro, st, bI o, lf, dn)).1.2.2.1, (mvR st cb o (ro, st, bI o, lf, dn)).1.1)) (aM dC dI cA ad A) A) ([.ref (ad 0)] : List Value).toArray s 0 0 A) (F0 m 49 ls []) := by
                intro k
                induction k with
                | zero =>
                  intro k8 hk8 H locs ls hP hD hS hl
                  refine lv_iload hx hb dX1_recover_49 (lv_at hl 4 rfl) ?_
                  refine lv_bipush (v := nI 64) hx hb dX1_recover_51 (by decide) ?_
                  refine lv_icmp_ge (tgt := 84) hx hb dX1_recover_53 (by decide) (fun c_53 => ?_) (fun c_53 => ?_)
                  · have n_53 : 64 ≤ k8 := (nI_leI (by omega) (by omega)).mp c_53
                    have ek8 : k8 = 64 := by omega
                    rw [ek8] at hP hD
                    refine lv_aload_n hx hb dX1_recover_84 rfl (lv_at hl 0 rfl) ?_
                    refine lv_aload_n hx hb dX1_recover_85 rfl (lv_at hl 0 rfl) ?_
                    refine lv_iload hx hb dX1_recover_86 (lv_at hl 3 rfl) ?_
                    refine bj_call (v := .int (tgM u.2.1 i)) (W.runV (As := [.int (nI i)]) (rest := [.ref (ad 0)]) ⟨hx, hb, hml, hown, hts⟩ (c_X1_target l dC dI cA ad (if bI o = 0 then nI 0 else nI 1) u.2.1 tp tl cb cy (nI n) u.2.2.2.2 u.2.2.2.1 u.2.2.1 (prR u.2.1 u.1 i 64) i (by omega)) (cwV 1 hts gX1_recover_X1_target rfl rfl rfl (by decide +kernel) ⟨Nat.le_of_ble_eq_true rfl, Nat.le_of_ble_eq_true rfl⟩) ⟨fun a U g mk q => by obtain ⟨q0, qP, qK⟩ := q; exact ⟨q0, qP, va_K.moved (u := U) (U := U.calling g mk a) (Vm.Alike.refl U.vm) qK⟩, va_recv hK hP (ci := 1) (q0 := 0) rfl rfl, fun U hU hW => ⟨rfl, by rw [hU]; exact hP, va_K.moved hW.alike hK⟩⟩ rfl rfl hl.1 rfl (lv_room (Nat.le_of_ble_eq_true rfl)) dX1_recover_88 ⟨Nat.le_of_ble_eq_true rfl, Nat.le_of_ble_eq_true rfl⟩) ?_
                    obtain ⟨b, hb1, hb9, eb⟩ := htg i (by omega)
                    have eb2 : tgM u.2.1 i = nI b := by rw [tgM_eq (by omega) (fun j hj => hlow j (by omega))]; exact eb
                    have ecl : (tgM u.2.1 i).toNatClampNeg = b := by rw [eb2]; exact nI_clamp (by omega)
                    refine bj_i (y := nI b) (eb2) ?_
                    have hFc := va_free (wc := wM cA ad (if bI o = 0 then nI 0 else nI 1) u.2.1 tp tl cb cy (nI n) u.2.2.2.2 u.2.2.2.1 u.2.2.1 (prR u.2.1 u.1 i 64)) hD hS hA [0, 1, 2, 3, 4, 5] rfl
                    refine va_calli (va_runV (As := [.int (nI b)]) (rest := []) ⟨hx, hb, hml, hown, hts⟩ (c_X1_writes l dC dI cA ad H.size (if bI o = 0 then nI 0 else nI 1) u.2.1 tp tl cb cy (nI n) u.2.2.2.2 u.2.2.2.1 u.2.2.1 (prR u.2.1 u.1 i 64) b hb9) (cwV 1 hts gX1_recover_X1_writes rfl rfl rfl (by decide +kernel) ⟨Nat.le_of_ble_eq_true rfl, Nat.le_of_ble_eq_true rfl⟩) ⟨fun a U g mk q => by obtain ⟨q0, q1, qP, qK, qD⟩ := q; exact ⟨q0, q1, qP, va_K.moved (u := U) (U := U.calling g mk a) (Vm.Alike.refl U.vm) qK, qD⟩, va_recv hK hP (ci := 1) (q0 := 0) rfl rfl, fun U hU hW => ⟨rfl, by rw [hU], by rw [hU]; exact hP, va_K.moved hW.alike hK, hD.weaken (fun _ _ _ _ => trivial)⟩⟩ rfl rfl hl.1 rfl (lv_room (Nat.le_of_ble_eq_true rfl)) dX1_recover_91 ⟨Nat.le_of_ble_eq_true rfl, Nat.le_of_ble_eq_true rfl⟩) hS (fun q _ h => hFc q h) hFc (fun r_91 u t H1 locs ht hvm hw hB hz1 hk1 hS => ?_)
                    obtain ⟨hP1, hK1, hD1⟩ := hB
                    obtain ⟨e_91, rfl⟩ := hw
                    rw [ht] at hP1
                    have hP : va_P (dC, dI) vwCl (wM cA ad (if bI o = 0 then nI 0 else nI 1) (mwS (prR u.2.1 u.1 i 64) u.2.1 u.2.2.1 u.2.2.2.1 b) tp tl cb cy (nI n) (mwD u.2.2.1 u.2.2.2.1 u.2.2.2.2) (mwL u.2.2.1 u.2.2.2.1) (mwO u.2.2.1 u.2.2.2.1) (prR u.2.1 u.1 i 64)) H1 := hP1
                    have hD : va_D A (wM cA ad (if bI o = 0 then nI 0 else nI 1) (mwS (prR u.2.1 u.1 i 64) u.2.1 u.2.2.1 u.2.2.2.1 b) tp tl cb cy (nI n) (mwD u.2.2.1 u.2.2.2.1 u.2.2.2.2) (mwL u.2.2.1 u.2.2.2.1) (mwO u.2.2.1 u.2.2.2.1) (prR u.2.1 u.1 i 64)) := ⟨hD1.1, fun k q h => hFc _ (hD1.2 k q h)⟩
                    generalize H1 = H at hP hS ⊢
                    subst e_91
                    have hP : va_P (dC, dI) vwCl (wM cA ad (if bI o = 0 then nI 0 else nI 1) ((m5 (prR u.2.1 u.1 i 64) (tgM u.2.1 i).toNatClampNeg u).2.1) tp tl cb cy (nI n) ((m5 (prR u.2.1 u.1 i 64) (tgM u.2.1 i).toNatClampNeg u).2.2.2.2) ((m5 (prR u.2.1 u.1 i 64) (tgM u.2.1 i).toNatClampNeg u).2.2.2.1) ((m5 (prR u.2.1 u.1 i 64) (tgM u.2.1 i).toNatClampNeg u).2.2.1) ((m5 (prR u.2.1 u.1 i 64) (tgM u.2.1 i).toNatClampNeg u).1)) H := by rw [ecl]; exact hP
                    have hD : va_D A (wM cA ad (if bI o = 0 then nI 0 else nI 1) ((m5 (prR u.2.1 u.1 i 64) (tgM u.2.1 i).toNatClampNeg u).2.1) tp tl cb cy (nI n) ((m5 (prR u.2.1 u.1 i 64) (tgM u.2.1 i).toNatClampNeg u).2.2.2.2) ((m5 (prR u.2.1 u.1 i 64) (tgM u.2.1 i).toNatClampNeg u).2.2.2.1) ((m5 (prR u.2.1 u.1 i 64) (tgM u.2.1 i).toNatClampNeg u).2.2.1) ((m5 (prR u.2.1 u.1 i 64) (tgM u.2.1 i).toNatClampNeg u).1)) := by rw [ecl]; exact hD
                    refine lv_if_ne (tgt := 99) hx hb dX1_recover_94 (by decide) (fun c_94 => ?_) (fun c_94 => ?_)
                    · refine lv_iinc (v := nI (i + 1)) (lv' := [(4, .int (nI (i + 1))), (0, .ref (ad 0)), (1, .int (nI k9)), (2, .long (nuF st 0 4 0)), (5, .int (nI k8))]) hx hb dX1_recover_99 hl (k := 3) rfl (nI_add i 1) (by decide) rfl (fun ls hl => ?_)
                      refine lv_goto (tgt := 40) hx hb dX1_recover_102 (by decide) ?_
                      exact ih (i + 1) (m5 (prR u.2.1 u.1 i 64) (tgM u.2.1 i).toNatClampNeg u) (by omega) (fun j hj => by show mwS _ _ _ _ _ j = _; rw [ecl, mwS_low (by omega)]; exact hlow j hj) (by rw [hR, mvL, if_pos c_94]) _ _ _ hP hD hS (lv_sub hl [1, 2, 3, 0] rfl)
                    · have hE : mvL k9 0 (ro, st, bI o, lf, dn) = (m5 (prR u.2.1 u.1 i 64) (tgM u.2.1 i).toNatClampNeg u, false) := by rw [hR, mvL, if_neg (not_not_intro c_94)]
                      refine lv_iconst (v := (-1)) hx hb dX1_recover_97 (by decide) ?_
                      have hpost : ((if bI o = 0 then nI 0 else nI 1, (m5 (prR u.2.1 u.1 i 64) (tgM u.2.1 i).toNatClampNeg u).2.1, tp, tl, cb, cy, nI n, (m5 (prR u.2.1 u.1 i 64) (tgM u.2.1 i).toNatClampNeg u).2.2.2.2, (m5 (prR u.2.1 u.1 i 64) (tgM u.2.1 i).toNatClampNeg u).2.2.2.1, (m5 (prR u.2.1 u.1 i 64) (tgM u.2.1 i).toNatClampNeg u).2.2.1, (m5 (prR u.2.1 u.1 i 64) (tgM u.2.1 i).toNatClampNeg u).1) : MS) = (nI (reK o), (mvR st cb o (ro, st, bI o, lf, dn)).1.2.1, tp, tl, cb, cy, nI n, (mvR st cb o (ro, st, bI o, lf, dn)).1.2.2.2.2, (mvR st cb o (ro, st, bI o, lf, dn)).1.2.2.2.1, (mvR st cb o (ro, st, bI o, lf, dn)).1.2.2.1, (mvR st cb o (ro, st, bI o, lf, dn)).1.1) := by simp only [mvR, reK, if_pos c_9, if_pos c_18, hcl, mvE, hE]; rfl
                      have hres : (-1) = (mvR st cb o (ro, st, bI o, lf, dn)).2 := by simp only [mvR, if_pos c_9, if_pos c_18, hcl, mvE, hE]; rfl
                      exact W.iret (v := (-1)) hx hb hr (fun t ht hW => ⟨⟨_, (if bI o = 0 then nI 0 else nI 1, (m5 (prR u.2.1 u.1 i 64) (tgM u.2.1 i).toNatClampNeg u).2.1, tp, tl, cb, cy, nI n, (m5 (prR u.2.1 u.1 i 64) (tgM u.2.1 i).toNatClampNeg u).2.2.2.2, (m5 (prR u.2.1 u.1 i 64) (tgM u.2.1 i).toNatClampNeg u).2.2.2.1, (m5 (prR u.2.1 u.1 i 64) (tgM u.2.1 i).toNatClampNeg u).2.2.1, (m5 (prR u.2.1 u.1 i 64) (tgM u.2.1 i).toNatClampNeg u).1), rfl, ⟨hres, hpost⟩, by rw [ht]; exact hP, va_K.moved hW.alike hK, hD⟩, hS.F ht⟩) hS.2.2 dX1_recover_98
                  · have n_53 : ¬ 64 ≤ k8 := fun h => c_53 ((nI_leI (by omega) (by omega)).mpr h)
                    exfalso; omega
                | succ k ih =>
                  intro k8 hk8 H locs ls hP hD hS hl
                  refine lv_iload hx hb dX1_recover_49 (lv_at hl 4 rfl) ?_
                  refine lv_bipush (v := nI 64) hx hb dX1_recover_51 (by decide) ?_
                  refine lv_icmp_ge (tgt := 84) hx hb dX1_recover_53 (by decide) (fun c_53 => ?_) (fun c_53 => ?_)
                  · have n_53 : 64 ≤ k8 := (nI_leI (by omega) (by omega)).mp c_53
                    exfalso; omega
                  · have n_53 : ¬ 64 ≤ k8 := fun h => c_53 ((nI_leI (by omega) (by omega)).mpr h)
                    refine lv_aload_n hx hb dX1_recover_56 rfl (lv_at hl 0 rfl) ?_
                    refine va_get (D := (dC, dI)) (ci := 1) (v := .ref (ad 5)) (C := RX1) (T := TX1) (N := 11) hx hb hts hin hown hK hP 0 rfl rfl 10 (by decide) (hts (.fieldLink RX1 28 "BlockJournalModel" "row" "[I") (by decide +kernel)) (fun _ h9 => h9) rfl dX1_recover_57 ?_
                    refine lv_iload hx hb dX1_recover_60 (lv_at hl 4 rfl) ?_
                    refine lv_aload_n hx hb dX1_recover_62 rfl (lv_at hl 0 rfl) ?_
                    refine va_get (D := (dC, dI)) (ci := 1) (v := .ref (ad 1)) (C := RX1) (T := TX1) (N := 11) hx hb hts hin hown hK hP 0 rfl rfl 1 (by decide) (hts (.fieldLink RX1 7 "BlockJournalModel" "store" "[I") (by decide +kernel)) (fun _ h9 => h9) rfl dX1_recover_63 ?_
                    refine lv_bipush (v := nI 64) hx hb dX1_recover_66 (by decide) ?_
                    refine lv_iconst (v := nI 1) hx hb dX1_recover_68 (by decide) ?_
                    refine lv_iload hx hb dX1_recover_69 (lv_at hl 3 rfl) ?_
                    refine lv_iadd hx hb dX1_recover_71 ?_
                    refine bj_i (nI_add 1 i) ?_
                    refine lv_imul hx hb dX1_recover_72 ?_
                    refine bj_i (pk_mul 64 (1 + i)) ?_
                    refine lv_iload hx hb dX1_recover_73 (lv_at hl 4 rfl) ?_
                    refine lv_iadd hx hb dX1_recover_75 ?_
                    refine bj_i (nI_add (64 * (1 + i)) k8) ?_
                    refine va_iald (D := (dC, dI)) hx hb hK hP 1 0 (cA := cA) (n := 6144) (f := u.2.1) rfl rfl (i := (nI ((64 * (1 + i)) + k8))) (vp_in_nI (by omega) (by omega)) dX1_recover_76 ?_
                    refine bj_i (y := u.2.1 ((64 * (1 + i)) + k8)) (congrArg u.2.1 (nI_clamp (by omega))) ?_
                    refine va_iast (D := (dC, dI)) hx hb hK hP hD hS 5 0 (cA := cA) (n := 64) (f := (prR u.2.1 u.1 i k8)) rfl rfl (i := (nI k8)) (vp_in_nI (by omega) (by omega)) dX1_recover_77 (fun H locs hP hD hS => ?_)
                    rw [nI_clamp (n := k8) (by omega)] at hP hD
                    have hP : va_P (dC, dI) vwCl (wM cA ad (if bI o = 0 then nI 0 else nI 1) u.2.1 tp tl cb cy (nI n) u.2.2.2.2 u.2.2.2.1 u.2.2.1 (upd (prR u.2.1 u.1 i k8) k8 (u.2.1 ((64 * (1 + i)) + k8)))) H := hP
                    have hD : va_D A (wM cA ad (if bI o = 0 then nI 0 else nI 1) u.2.1 tp tl cb cy (nI n) u.2.2.2.2 u.2.2.2.1 u.2.2.1 (upd (prR u.2.1 u.1 i k8) k8 (u.2.1 ((64 * (1 + i)) + k8)))) := hD
                    refine lv_iinc (v := nI (k8 + 1)) (lv' := [(5, .int (nI (k8 + 1))), (0, .ref (ad 0)), (1, .int (nI k9)), (2, .long (nuF st 0 4 0)), (4, .int (nI i))]) hx hb dX1_recover_78 hl (k := 4) rfl (nI_add k8 1) (by decide) rfl (fun ls hl => ?_)
                    refine lv_goto (tgt := 49) hx hb dX1_recover_81 (by decide) ?_
                    exact ih (k8 + 1) (by omega) _ _ _ hP hD hS (lv_sub hl [1, 2, 3, 4, 0] rfl)
              exact loop_49 64 0 (by omega) _ _ _ hP hD hS (lv_sub hl [1, 2, 3, 4, 0] rfl)
        exact loop_40 k9 0 (ro, st, bI o, lf, dn) (by omega) (fun _ _ => rfl) rfl _ _ _ hP hD hS (lv_sub hl [3, 2, 1, 0] rfl)
      · refine lv_iconst (v := nI 0) hx hb dX1_recover_21 (by decide) ?_
        have hpost : ((if bI o = 0 then nI 0 else nI 1, st, tp, tl, cb, cy, nI n, dn, lf, bI o, ro) : MS) = (nI (reK o), (mvR st cb o (ro, st, bI o, lf, dn)).1.2.1, tp, tl, cb, cy, nI n, (mvR st cb o (ro, st, bI o, lf, dn)).1.2.2.2.2, (mvR st cb o (ro, st, bI o, lf, dn)).1.2.2.2.1, (mvR st cb o (ro, st, bI o, lf, dn)).1.2.2.1, (mvR st cb o (ro, st, bI o, lf, dn)).1.1) := by simp only [mvR, reK, if_pos c_9, if_neg (not_not_intro c_18)]
        have hres : nI 0 = (mvR st cb o (ro, st, bI o, lf, dn)).2 := by simp only [mvR, if_pos c_9, if_neg (not_not_intro c_18)]
        exact W.iret (v := nI 0) hx hb hr (fun t ht hW => ⟨⟨_, (if bI o = 0 then nI 0 else nI 1, st, tp, tl, cb, cy, nI n, dn, lf, bI o, ro), rfl, ⟨hres, hpost⟩, by rw [ht]; exact hP, va_K.moved hW.alike hK, hD⟩, hS.F ht⟩) hS.2.2 dX1_recover_22
    · refine lv_iconst (v := nI 0) hx hb dX1_recover_12 (by decide) ?_
      have hpost : ((if bI o = 0 then nI 0 else nI 1, st, tp, tl, cb, cy, nI n, dn, lf, bI o, ro) : MS) = (nI (reK o), (mvR st cb o (ro, st, bI o, lf, dn)).1.2.1, tp, tl, cb, cy, nI n, (mvR st cb o (ro, st, bI o, lf, dn)).1.2.2.2.2, (mvR st cb o (ro, st, bI o, lf, dn)).1.2.2.2.1, (mvR st cb o (ro, st, bI o, lf, dn)).1.2.2.1, (mvR st cb o (ro, st, bI o, lf, dn)).1.1) := by simp only [mvR, reK, if_neg c_9]
      have hres : nI 0 = (mvR st cb o (ro, st, bI o, lf, dn)).2 := by simp only [mvR, if_neg c_9]
      exact W.iret (v := nI 0) hx hb hr (fun t ht hW => ⟨⟨_, (if bI o = 0 then nI 0 else nI 1, st, tp, tl, cb, cy, nI n, dn, lf, bI o, ro), rfl, ⟨hres, hpost⟩, by rw [ht]; exact hP, va_K.moved hW.alike hK, hD⟩, hS.F ht⟩) hS.2.2 dX1_recover_13
  rw [hH, hlo] at goal
  exact goal

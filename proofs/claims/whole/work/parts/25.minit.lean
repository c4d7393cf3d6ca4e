set_option maxHeartbeats 4000000 in
set_option maxRecDepth 100000 in
theorem c_X1_init (l : Launch) (dC : Nat → ClassId) (dI : Nat → Nat → Nat) (cA : ClassId) (x sz : Nat) : Met l yX1_init wsX1_init ({ frames := 1, cells := 5, slots := 7832, locals := 22 } : Room) (va_Pc [.ref x] (fun U => U.heap.size = sz ∧ va_P (dC, dI) vwCl [(x, .inr (1, [.int 0, .null, .null, .int 0, .null, .null, .int 0, .long 0, .long 0, .int 0, .null]))] U.heap ∧ va_K (dC, dI) vwCl [(cA, .int)] U ∧ va_D (fun _ => True) [(x, .inr (1, [.int 0, .null, .null, .int 0, .null, .null, .int 0, .long 0, .long 0, .int 0, .null]))])) (va_Qv (fun u : Nat → Nat => u 0 = x) (fun u t => va_P (dC, dI) vwCl (wM cA u (nI 0) (fun _ => 0) (fun _ => 0) (nI 0) (fun _ => 0) (fun _ => 0) (nI 0) 0 (-1) (nI 0) (fun _ => 0)) t.heap ∧ va_K (dC, dI) vwCl [(cA, .int)] t ∧ va_D (va_A [(x, .inr (1, [.int 0, .null, .null, .int 0, .null, .null, .int 0, .long 0, .long 0, .int 0, .null]))] sz) (wM cA u (nI 0) (fun _ => 0) (fun _ => 0) (nI 0) (fun _ => 0) (fun _ => 0) (nI 0) 0 (-1) (nI 0) (fun _ => 0))) (va_A [(x, .inr (1, [.int 0, .null, .null, .int 0, .null, .null, .int 0, .long 0, .long 0, .int 0, .null]))] sz)) 5 7832 (va_A [(x, .inr (1, [.int 0, .null, .null, .int 0, .null, .null, .int 0, .long 0, .long 0, .int 0, .null]))] sz) := by
  refine Met.ofW (cc := cX1_init) (maxL := 1) (ret := none) (by decide) rfl ?_
  intro p e s m args below meth c s₁ B hml hv
  obtain ⟨rfl, hsz, hP, hK, hD0⟩ := hv
  have hx := B.exec
  have hb := B.bytes
  have hr := B.returns
  have hts := atoms_spec (ws := wsX1_init) B.pre
  have hown : s.vm.findClass RX1 = some m.cls := findClass_of_methodNamed B.named
  have hlocks := B.notSynchronized
  have hin9 : meth.name = "<init>" := (name_of_methodNamed B.named B.method).1
  have hin : ∀ w ∈ u_ws RX1 TX1 11, w ∈ wsX1_init := by decide +kernel
  subst hsz
  have hD := hD0.self (sz := s.heap.size)
  generalize hAe : va_A [(x, .inr (1, [.int 0, .null, .null, .int 0, .null, .null, .int 0, .long 0, .long 0, .int 0, .null]))] s.heap.size = A at hD ⊢
  have hA : ∀ q : Nat, s.heap.size ≤ q → A q := fun q h => by rw [← hAe]; exact Or.inr h
  have hS : va_S A s.heap s.heap [] := va_S.rf
  have hP : va_P (dC, dI) vwCl [(x, .inr (1, [.int 0, .null, .null, .int 0, .null, .null, .int 0, .long 0, .long 0, .int 0, .null]))] s.heap := hP
  have hl := lv_entry ([.ref x]) (n := 1) (Nat.le_of_ble_eq_true rfl)
  rw [lg_entry_eq]
  generalize (lg_sl ([.ref x]) ++ List.replicate (1 - (lg_sl ([.ref x])).length) Slot.unset).toArray = ls at hl ⊢
  have hl : lv_has ls 1 [(0, .ref x)] := hl
  refine lv_aload_n hx hb dX1_init_0 rfl (lv_at hl 0 rfl) ?_
  refine W.objInit hx hb hown (hts (.methodLink RX1 1 objectInit) (by decide +kernel)) (hts (.instanceMethod objectInit) (by decide +kernel)) (hts (.code objectInit ⟨#[0xb1]⟩ 1 none) (by decide +kernel)) rfl (by rw [hml]; exact hl.1) rfl dX1_init_1 (Nat.le_of_ble_eq_true rfl) (Nat.le_of_ble_eq_true rfl) ?_
  refine W.eq (g2 := F0 m 4 ls []) rfl ?_
  refine lv_aload_n hx hb dX1_init_4 rfl (lv_at hl 0 rfl) ?_
  refine lv_sipush (v := nI 6144) hx hb dX1_init_5 (by decide) ?_
  refine va_newa (D := (dC, dI)) (atype := .int) hx hb (hts (.arrayClass .int) (by decide +kernel)) (ty := .int) rfl hK hP hD hS hA (n := nI 6144) (N' := 6144) (a0 := (6144, .inl (fun _ => 0))) (bj_new0 6144) (nI_pos (by decide)) (nI_clamp (by decide)) (by decide) (Nat.le_of_ble_eq_true rfl) (Nat.le_of_ble_eq_true rfl) dX1_init_8 (fun q1 cB H hK1 hP hD hS => ?_)
  have ecB := cA_one (by intro C h; cases h) hK1
  subst ecB
  have hP : va_P (dC, dI) vwCl [(x, .inr (1, [.int 0, .null, .null, .int 0, .null, .null, .int 0, .long 0, .long 0, .int 0, .null])), (q1, .inl (cA, 6144, .inl (fun _ => 0)))] H := hP
  have hD : va_D A [(x, .inr (1, [.int 0, .null, .null, .int 0, .null, .null, .int 0, .long 0, .long 0, .int 0, .null])), (q1, .inl (cA, 6144, .inl (fun _ => 0)))] := hD
  refine va_putF (D := (dC, dI)) (ci := 1) (v := .ref q1) (ty := .array .int) (C := RX1) (T := TX1) (N := 11) hx hb hts hin tyX1 tyX1_ok nmX1 hown hK hP hD hS 0 rfl rfl 1 (by decide) (hts (.fieldLink RX1 7 "BlockJournalModel" "store" "[I") (by decide +kernel)) (fun _ h9 => h9) rfl hin9 rfl (by decide +kernel) rfl rfl (Nat.le_of_ble_eq_true rfl) dX1_init_10 (fun H locs hP hD hS => ?_)
  have hP : va_P (dC, dI) vwCl [(x, .inr (1, [.int 0, .ref q1, .null, .int 0, .null, .null, .int 0, .long 0, .long 0, .int 0, .null])), (q1, .inl (cA, 6144, .inl (fun _ => 0)))] H := hP
  have hD : va_D A [(x, .inr (1, [.int 0, .ref q1, .null, .int 0, .null, .null, .int 0, .long 0, .long 0, .int 0, .null])), (q1, .inl (cA, 6144, .inl (fun _ => 0)))] := hD
  refine lv_aload_n hx hb dX1_init_13 rfl (lv_at hl 0 rfl) ?_
  refine lv_bipush (v := nI 64) hx hb dX1_init_14 (by decide) ?_
  refine va_newa (D := (dC, dI)) (atype := .int) hx hb (hts (.arrayClass .int) (by decide +kernel)) (ty := .int) rfl hK hP hD hS hA (n := nI 64) (N' := 64) (a0 := (64, .inl (fun _ => 0))) (bj_new0 64) (nI_pos (by decide)) (nI_clamp (by decide)) (by decide) (Nat.le_of_ble_eq_true rfl) (Nat.le_of_ble_eq_true rfl) dX1_init_16 (fun q2 cB H hK1 hP hD hS => ?_)
  have ecB := cA_one (by intro C h; cases h) hK1
  subst ecB
  have hP : va_P (dC, dI) vwCl [(x, .inr (1, [.int 0, .ref q1, .null, .int 0, .null, .null, .int 0, .long 0, .long 0, .int 0, .null])), (q1, .inl (cA, 6144, .inl (fun _ => 0))), (q2, .inl (cA, 64, .inl (fun _ => 0)))] H := hP
  have hD : va_D A [(x, .inr (1, [.int 0, .ref q1, .null, .int 0, .null, .null, .int 0, .long 0, .long 0, .int 0, .null])), (q1, .inl (cA, 6144, .inl (fun _ => 0))), (q2, .inl (cA, 64, .inl (fun _ => 0)))] := hD
  refine va_putF (D := (dC, dI)) (ci := 1) (v := .ref q2) (ty := .array .int) (C := RX1) (T := TX1) (N := 11) hx hb hts hin tyX1 tyX1_ok nmX1 hown hK hP hD hS 0 rfl rfl 2 (by decide) (hts (.fieldLink RX1 13 "BlockJournalModel" "tape" "[I") (by decide +kernel)) (fun _ h9 => h9) rfl hin9 rfl (by decide +kernel) rfl rfl (Nat.le_of_ble_eq_true rfl) dX1_init_18 (fun H locs hP hD hS => ?_)
  have hP : va_P (dC, dI) vwCl [(x, .inr (1, [.int 0, .ref q1, .ref q2, .int 0, .null, .null, .int 0, .long 0, .long 0, .int 0, .null])), (q1, .inl (cA, 6144, .inl (fun _ => 0))), (q2, .inl (cA, 64, .inl (fun _ => 0)))] H := hP
  have hD : va_D A [(x, .inr (1, [.int 0, .ref q1, .ref q2, .int 0, .null, .null, .int 0, .long 0, .long 0, .int 0, .null])), (q1, .inl (cA, 6144, .inl (fun _ => 0))), (q2, .inl (cA, 64, .inl (fun _ => 0)))] := hD
  refine lv_aload_n hx hb dX1_init_21 rfl (lv_at hl 0 rfl) ?_
  refine lv_bipush (v := nI 24) hx hb dX1_init_22 (by decide) ?_
  refine va_newa (D := (dC, dI)) (atype := .int) hx hb (hts (.arrayClass .int) (by decide +kernel)) (ty := .int) rfl hK hP hD hS hA (n := nI 24) (N' := 24) (a0 := (24, .inl (fun _ => 0))) (bj_new0 24) (nI_pos (by decide)) (nI_clamp (by decide)) (by decide) (Nat.le_of_ble_eq_true rfl) (Nat.le_of_ble_eq_true rfl) dX1_init_24 (fun q3 cB H hK1 hP hD hS => ?_)
  have ecB := cA_one (by intro C h; cases h) hK1
  subst ecB
  have hP : va_P (dC, dI) vwCl [(x, .inr (1, [.int 0, .ref q1, .ref q2, .int 0, .null, .null, .int 0, .long 0, .long 0, .int 0, .null])), (q1, .inl (cA, 6144, .inl (fun _ => 0))), (q2, .inl (cA, 64, .inl (fun _ => 0))), (q3, .inl (cA, 24, .inl (fun _ => 0)))] H := hP
  have hD : va_D A [(x, .inr (1, [.int 0, .ref q1, .ref q2, .int 0, .null, .null, .int 0, .long 0, .long 0, .int 0, .null])), (q1, .inl (cA, 6144, .inl (fun _ => 0))), (q2, .inl (cA, 64, .inl (fun _ => 0))), (q3, .inl (cA, 24, .inl (fun _ => 0)))] := hD
  refine va_putF (D := (dC, dI)) (ci := 1) (v := .ref q3) (ty := .array .int) (C := RX1) (T := TX1) (N := 11) hx hb hts hin tyX1 tyX1_ok nmX1 hown hK hP hD hS 0 rfl rfl 4 (by decide) (hts (.fieldLink RX1 16 "BlockJournalModel" "change" "[I") (by decide +kernel)) (fun _ h9 => h9) rfl hin9 rfl (by decide +kernel) rfl rfl (Nat.le_of_ble_eq_true rfl) dX1_init_26 (fun H locs hP hD hS => ?_)
  have hP : va_P (dC, dI) vwCl [(x, .inr (1, [.int 0, .ref q1, .ref q2, .int 0, .ref q3, .null, .int 0, .long 0, .long 0, .int 0, .null])), (q1, .inl (cA, 6144, .inl (fun _ => 0))), (q2, .inl (cA, 64, .inl (fun _ => 0))), (q3, .inl (cA, 24, .inl (fun _ => 0)))] H := hP
  have hD : va_D A [(x, .inr (1, [.int 0, .ref q1, .ref q2, .int 0, .ref q3, .null, .int 0, .long 0, .long 0, .int 0, .null])), (q1, .inl (cA, 6144, .inl (fun _ => 0))), (q2, .inl (cA, 64, .inl (fun _ => 0))), (q3, .inl (cA, 24, .inl (fun _ => 0)))] := hD
  refine lv_aload_n hx hb dX1_init_29 rfl (lv_at hl 0 rfl) ?_
  refine lv_sipush (v := nI 1536) hx hb dX1_init_30 (by decide) ?_
  refine va_newa (D := (dC, dI)) (atype := .int) hx hb (hts (.arrayClass .int) (by decide +kernel)) (ty := .int) rfl hK hP hD hS hA (n := nI 1536) (N' := 1536) (a0 := (1536, .inl (fun _ => 0))) (bj_new0 1536) (nI_pos (by decide)) (nI_clamp (by decide)) (by decide) (Nat.le_of_ble_eq_true rfl) (Nat.le_of_ble_eq_true rfl) dX1_init_33 (fun q4 cB H hK1 hP hD hS => ?_)
  have ecB := cA_one (by intro C h; cases h) hK1
  subst ecB
  have hP : va_P (dC, dI) vwCl [(x, .inr (1, [.int 0, .ref q1, .ref q2, .int 0, .ref q3, .null, .int 0, .long 0, .long 0, .int 0, .null])), (q1, .inl (cA, 6144, .inl (fun _ => 0))), (q2, .inl (cA, 64, .inl (fun _ => 0))), (q3, .inl (cA, 24, .inl (fun _ => 0))), (q4, .inl (cA, 1536, .inl (fun _ => 0)))] H := hP
  have hD : va_D A [(x, .inr (1, [.int 0, .ref q1, .ref q2, .int 0, .ref q3, .null, .int 0, .long 0, .long 0, .int 0, .null])), (q1, .inl (cA, 6144, .inl (fun _ => 0))), (q2, .inl (cA, 64, .inl (fun _ => 0))), (q3, .inl (cA, 24, .inl (fun _ => 0))), (q4, .inl (cA, 1536, .inl (fun _ => 0)))] := hD
  refine va_putF (D := (dC, dI)) (ci := 1) (v := .ref q4) (ty := .array .int) (C := RX1) (T := TX1) (N := 11) hx hb hts hin tyX1 tyX1_ok nmX1 hown hK hP hD hS 0 rfl rfl 5 (by decide) (hts (.fieldLink RX1 19 "BlockJournalModel" "fresh" "[I") (by decide +kernel)) (fun _ h9 => h9) rfl hin9 rfl (by decide +kernel) rfl rfl (Nat.le_of_ble_eq_true rfl) dX1_init_35 (fun H locs hP hD hS => ?_)
  have hP : va_P (dC, dI) vwCl [(x, .inr (1, [.int 0, .ref q1, .ref q2, .int 0, .ref q3, .ref q4, .int 0, .long 0, .long 0, .int 0, .null])), (q1, .inl (cA, 6144, .inl (fun _ => 0))), (q2, .inl (cA, 64, .inl (fun _ => 0))), (q3, .inl (cA, 24, .inl (fun _ => 0))), (q4, .inl (cA, 1536, .inl (fun _ => 0)))] H := hP
  have hD : va_D A [(x, .inr (1, [.int 0, .ref q1, .ref q2, .int 0, .ref q3, .ref q4, .int 0, .long 0, .long 0, .int 0, .null])), (q1, .inl (cA, 6144, .inl (fun _ => 0))), (q2, .inl (cA, 64, .inl (fun _ => 0))), (q3, .inl (cA, 24, .inl (fun _ => 0))), (q4, .inl (cA, 1536, .inl (fun _ => 0)))] := hD
  refine lv_aload_n hx hb dX1_init_38 rfl (lv_at hl 0 rfl) ?_
  refine lv_ldc2 hx hb hown (hts (.constantLong RX1 22 (-1)) (by decide +kernel)) dX1_init_39 ?_
  refine va_put (D := (dC, dI)) (ci := 1) (v := .long (-1)) (ty := .long) (C := RX1) (T := TX1) (N := 11) hx hb hts hin tyX1 tyX1_ok nmX1 hown hK hP hD hS 0 rfl rfl 8 (by decide) (hts (.fieldLink RX1 24 "BlockJournalModel" "left" "J") (by decide +kernel)) (fun _ h9 => h9) rfl (by decide +kernel) rfl rfl (Nat.le_of_ble_eq_true rfl) dX1_init_42 (fun H locs hP hD hS => ?_)
  have hP : va_P (dC, dI) vwCl [(x, .inr (1, [.int 0, .ref q1, .ref q2, .int 0, .ref q3, .ref q4, .int 0, .long 0, .long (-1), .int 0, .null])), (q1, .inl (cA, 6144, .inl (fun _ => 0))), (q2, .inl (cA, 64, .inl (fun _ => 0))), (q3, .inl (cA, 24, .inl (fun _ => 0))), (q4, .inl (cA, 1536, .inl (fun _ => 0)))] H := hP
  have hD : va_D A [(x, .inr (1, [.int 0, .ref q1, .ref q2, .int 0, .ref q3, .ref q4, .int 0, .long 0, .long (-1), .int 0, .null])), (q1, .inl (cA, 6144, .inl (fun _ => 0))), (q2, .inl (cA, 64, .inl (fun _ => 0))), (q3, .inl (cA, 24, .inl (fun _ => 0))), (q4, .inl (cA, 1536, .inl (fun _ => 0)))] := hD
  refine lv_aload_n hx hb dX1_init_45 rfl (lv_at hl 0 rfl) ?_
  refine lv_bipush (v := nI 64) hx hb dX1_init_46 (by decide) ?_
  refine va_newa (D := (dC, dI)) (atype := .int) hx hb (hts (.arrayClass .int) (by decide +kernel)) (ty := .int) rfl hK hP hD hS hA (n := nI 64) (N' := 64) (a0 := (64, .inl (fun _ => 0))) (bj_new0 64) (nI_pos (by decide)) (nI_clamp (by decide)) (by decide) (Nat.le_of_ble_eq_true rfl) (Nat.le_of_ble_eq_true rfl) dX1_init_48 (fun q5 cB H hK1 hP hD hS => ?_)
  have ecB := cA_one (by intro C h; cases h) hK1
  subst ecB
  have hP : va_P (dC, dI) vwCl [(x, .inr (1, [.int 0, .ref q1, .ref q2, .int 0, .ref q3, .ref q4, .int 0, .long 0, .long (-1), .int 0, .null])), (q1, .inl (cA, 6144, .inl (fun _ => 0))), (q2, .inl (cA, 64, .inl (fun _ => 0))), (q3, .inl (cA, 24, .inl (fun _ => 0))), (q4, .inl (cA, 1536, .inl (fun _ => 0))), (q5, .inl (cA, 64, .inl (fun _ => 0)))] H := hP
  have hD : va_D A [(x, .inr (1, [.int 0, .ref q1, .ref q2, .int 0, .ref q3, .ref q4, .int 0, .long 0, .long (-1), .int 0, .null])), (q1, .inl (cA, 6144, .inl (fun _ => 0))), (q2, .inl (cA, 64, .inl (fun _ => 0))), (q3, .inl (cA, 24, .inl (fun _ => 0))), (q4, .inl (cA, 1536, .inl (fun _ => 0))), (q5, .inl (cA, 64, .inl (fun _ => 0)))] := hD
  refine va_putF (D := (dC, dI)) (ci := 1) (v := .ref q5) (ty := .array .int) (C := RX1) (T := TX1) (N := 11) hx hb hts hin tyX1 tyX1_ok nmX1 hown hK hP hD hS 0 rfl rfl 10 (by decide) (hts (.fieldLink RX1 28 "BlockJournalModel" "row" "[I") (by decide +kernel)) (fun _ h9 => h9) rfl hin9 rfl (by decide +kernel) rfl rfl (Nat.le_of_ble_eq_true rfl) dX1_init_50 (fun H locs hP hD hS => ?_)
  have hP : va_P (dC, dI) vwCl [(x, .inr (1, [.int 0, .ref q1, .ref q2, .int 0, .ref q3, .ref q4, .int 0, .long 0, .long (-1), .int 0, .ref q5])), (q1, .inl (cA, 6144, .inl (fun _ => 0))), (q2, .inl (cA, 64, .inl (fun _ => 0))), (q3, .inl (cA, 24, .inl (fun _ => 0))), (q4, .inl (cA, 1536, .inl (fun _ => 0))), (q5, .inl (cA, 64, .inl (fun _ => 0)))] H := hP
  have hD : va_D A [(x, .inr (1, [.int 0, .ref q1, .ref q2, .int 0, .ref q3, .ref q4, .int 0, .long 0, .long (-1), .int 0, .ref q5])), (q1, .inl (cA, 6144, .inl (fun _ => 0))), (q2, .inl (cA, 64, .inl (fun _ => 0))), (q3, .inl (cA, 24, .inl (fun _ => 0))), (q4, .inl (cA, 1536, .inl (fun _ => 0))), (q5, .inl (cA, 64, .inl (fun _ => 0)))] := hD
  refine W.widen (k := 5) (n := 7832) (by decide) (by decide) ?_
  obtain ⟨ad, had⟩ : ∃ ad, ad = adF x q1 q2 q3 q4 q5 0 := ⟨_, rfl⟩
  have e0 : x = ad 0 := by rw [had]; rfl
  have hP : va_P (dC, dI) vwCl (wM cA ad (nI 0) (fun _ => 0) (fun _ => 0) (nI 0) (fun _ => 0) (fun _ => 0) (nI 0) 0 (-1) (nI 0) (fun _ => 0)) H := by rw [had]; exact hP
  have hD : va_D A (wM cA ad (nI 0) (fun _ => 0) (fun _ => 0) (nI 0) (fun _ => 0) (fun _ => 0) (nI 0) 0 (-1) (nI 0) (fun _ => 0)) := by rw [had]; exact hD
  rw [e0] at hl
  exact W.vret hx hb hr (fun t ht hW => ⟨⟨ad, rfl, e0.symm, by rw [ht]; exact hP, va_K.moved hW.alike hK, hD⟩, hS.F ht⟩) hS.2.2 dX1_init_53

/-- seven addresses -/
def adF (x q1 q2 q3 q4 q5 q6 : Nat) : Nat → Nat := fun k => match k with
  | 0 => x
  | 1 => q1
  | 2 => q2
  | 3 => q3
  | 4 => q4
  | 5 => q5
  | _ => q6
theorem bj_new0 (N : Nat) (cA : ClassId) : vp_cell cA (N, .inl (fun _ => 0)) = arrV cA N (fun _ => defaultValue .int) := rfl
/-- the row of check steps, its first i places -/
def ckF (i : Nat) : Nat → Int32 := fun j => if j < i then cnF 8 (nI j) else 0
theorem ckF_0 : ckF 0 = fun _ => 0 := by funext j; simp [ckF]
theorem ckF_up (i : Nat) : upd (ckF i) i (cnF 8 (nI i)) = ckF (i + 1) := by
  funext j
  simp only [upd, ckF]
  by_cases h : j = i
  · rw [if_pos h, if_pos (by omega), h]
  · rw [if_neg h]
    by_cases h2 : j < i
    · rw [if_pos h2, if_pos (by omega)]
    · rw [if_neg h2, if_neg (by omega)]
theorem cA_one {D : va_G} {cl : List vw_C} {cA cB : ClassId} {ty : FieldType} {s : State} (hp : ∀ C, ty ≠ .object C) (h : va_K D cl ([(cA, ty)] ++ [(cB, ty)]) s) : cA = cB := by
  have h1 := (h.2 0 (cA, ty) rfl).2
  have h2 := (h.2 1 (cB, ty) rfl).2
  cases ty with
  | object C => exact absurd rfl (hp C)
  | _ => exact Option.some.inj (h1.symm.trans h2)

set_option maxHeartbeats 4000000 in
set_option maxRecDepth 100000 in
theorem c_X0_init (l : Launch) (dC : Nat → ClassId) (dI : Nat → Nat → Nat) (cA : ClassId) (x sz : Nat) : Met l yX0_init wsX0_init ({ frames := 1, cells := 6, slots := 8088, locals := 22 } : Room) (va_Pc [.ref x] (fun U => U.heap.size = sz ∧ va_P (dC, dI) vwCl [(x, .inr (0, [.null, .null, .null, .null, .int 0, .null, .null, .int 0, .int 0, .int 0, .long 0]))] U.heap ∧ va_K (dC, dI) vwCl [(cA, .int)] U ∧ va_D (fun _ => True) [(x, .inr (0, [.null, .null, .null, .null, .int 0, .null, .null, .int 0, .int 0, .int 0, .long 0]))])) (va_Qv (fun u : Nat → Nat => u 0 = x) (fun u t => va_P (dC, dI) vwCl (wX cA u (fun _ => 0) (ckF 256) (fun _ => 0) (fun _ => 0) (nI 0) (fun _ => 0) (fun _ => 0) (nI 0) (nI 0) (-1) 0) t.heap ∧ va_K (dC, dI) vwCl [(cA, .int)] t ∧ va_D (va_A [(x, .inr (0, [.null, .null, .null, .null, .int 0, .null, .null, .int 0, .int 0, .int 0, .long 0]))] sz) (wX cA u (fun _ => 0) (ckF 256) (fun _ => 0) (fun _ => 0) (nI 0) (fun _ => 0) (fun _ => 0) (nI 0) (nI 0) (-1) 0)) (va_A [(x, .inr (0, [.null, .null, .null, .null, .int 0, .null, .null, .int 0, .int 0, .int 0, .long 0]))] sz)) 6 8088 (va_A [(x, .inr (0, [.null, .null, .null, .null, .int 0, .null, .null, .int 0, .int 0, .int 0, .long 0]))] sz) := by
  refine Met.ofW (cc := cX0_init) (maxL := 2) (ret := none) (by decide) rfl ?_
  intro p e s m args below meth c s₁ B hml hv
  obtain ⟨rfl, hsz, hP, hK, hD0⟩ := hv
  have hx := B.exec
  have hb := B.bytes
  have hr := B.returns
  have hts := atoms_spec (ws := wsX0_init) B.pre
  have hown : s.vm.findClass RX0 = some m.cls := findClass_of_methodNamed B.named
  have hlocks := B.notSynchronized
  have hin9 : meth.name = "<init>" := (name_of_methodNamed B.named B.method).1
  have hin : ∀ w ∈ u_ws RX0 TX0 11, w ∈ wsX0_init := by decide +kernel
  subst hsz
  have hD := hD0.self (sz := s.heap.size)
  generalize hAe : va_A [(x, .inr (0, [.null, .null, .null, .null, .int 0, .null, .null, .int 0, .int 0, .int 0, .long 0]))] s.heap.size = A at hD ⊢
  have hA : ∀ q : Nat, s.heap.size ≤ q → A q := fun q h => by rw [← hAe]; exact Or.inr h
  have hS : va_S A s.heap s.heap [] := va_S.rf
  have hP : va_P (dC, dI) vwCl [(x, .inr (0, [.null, .null, .null, .null, .int 0, .null, .null, .int 0, .int 0, .int 0, .long 0]))] s.heap := hP
  have hl := lv_entry ([.ref x]) (n := 2) (Nat.le_of_ble_eq_true rfl)
  rw [lg_entry_eq]
  generalize (lg_sl ([.ref x]) ++ List.replicate (2 - (lg_sl ([.ref x])).length) Slot.unset).toArray = ls at hl ⊢
  have hl : lv_has ls 2 [(0, .ref x)] := hl
  refine lv_aload_n hx hb dX0_init_0 rfl (lv_at hl 0 rfl) ?_
  refine W.objInit hx hb hown (hts (.methodLink RX0 1 objectInit) (by decide +kernel)) (hts (.instanceMethod objectInit) (by decide +kernel)) (hts (.code objectInit ⟨#[0xb1]⟩ 1 none) (by decide +kernel)) rfl (by rw [hml]; exact hl.1) rfl dX0_init_1 (Nat.le_of_ble_eq_true rfl) (Nat.le_of_ble_eq_true rfl) ?_
  refine W.eq (g2 := F0 m 4 ls []) rfl ?_
  refine lv_aload_n hx hb dX0_init_4 rfl (lv_at hl 0 rfl) ?_
  refine lv_sipush (v := nI 6144) hx hb dX0_init_5 (by decide) ?_
  refine va_newa (D := (dC, dI)) (atype := .int) hx hb (hts (.arrayClass .int) (by decide +kernel)) (ty := .int) rfl hK hP hD hS hA (n := nI 6144) (N' := 6144) (a0 := (6144, .inl (fun _ => 0))) (bj_new0 6144) (nI_pos (by decide)) (nI_clamp (by decide)) (by decide) (Nat.le_of_ble_eq_true rfl) (Nat.le_of_ble_eq_true rfl) dX0_init_8 (fun q1 cB H hK1 hP hD hS => ?_)
  have ecB := cA_one (by intro C h; cases h) hK1
  subst ecB
  have hP : va_P (dC, dI) vwCl [(x, .inr (0, [.null, .null, .null, .null, .int 0, .null, .null, .int 0, .int 0, .int 0, .long 0])), (q1, .inl (cA, 6144, .inl (fun _ => 0)))] H := hP
  have hD : va_D A [(x, .inr (0, [.null, .null, .null, .null, .int 0, .null, .null, .int 0, .int 0, .int 0, .long 0])), (q1, .inl (cA, 6144, .inl (fun _ => 0)))] := hD
  refine va_putF (D := (dC, dI)) (ci := 0) (v := .ref q1) (ty := .array .int) (C := RX0) (T := TX0) (N := 11) hx hb hts hin tyX0 tyX0_ok nmX0 hown hK hP hD hS 0 rfl rfl 0 (by decide) (hts (.fieldLink RX0 9 "BlockJournal" "store" "[I") (by decide +kernel)) (fun _ h9 => h9) rfl hin9 rfl (by decide +kernel) rfl rfl (Nat.le_of_ble_eq_true rfl) dX0_init_10 (fun H locs hP hD hS => ?_)
  have hP : va_P (dC, dI) vwCl [(x, .inr (0, [.ref q1, .null, .null, .null, .int 0, .null, .null, .int 0, .int 0, .int 0, .long 0])), (q1, .inl (cA, 6144, .inl (fun _ => 0)))] H := hP
  have hD : va_D A [(x, .inr (0, [.ref q1, .null, .null, .null, .int 0, .null, .null, .int 0, .int 0, .int 0, .long 0])), (q1, .inl (cA, 6144, .inl (fun _ => 0)))] := hD
  refine lv_aload_n hx hb dX0_init_13 rfl (lv_at hl 0 rfl) ?_
  refine lv_sipush (v := nI 256) hx hb dX0_init_14 (by decide) ?_
  refine va_newa (D := (dC, dI)) (atype := .int) hx hb (hts (.arrayClass .int) (by decide +kernel)) (ty := .int) rfl hK hP hD hS hA (n := nI 256) (N' := 256) (a0 := (256, .inl (fun _ => 0))) (bj_new0 256) (nI_pos (by decide)) (nI_clamp (by decide)) (by decide) (Nat.le_of_ble_eq_true rfl) (Nat.le_of_ble_eq_true rfl) dX0_init_17 (fun q2 cB H hK1 hP hD hS => ?_)
  have ecB := cA_one (by intro C h; cases h) hK1
  subst ecB
  have hP : va_P (dC, dI) vwCl [(x, .inr (0, [.ref q1, .null, .null, .null, .int 0, .null, .null, .int 0, .int 0, .int 0, .long 0])), (q1, .inl (cA, 6144, .inl (fun _ => 0))), (q2, .inl (cA, 256, .inl (fun _ => 0)))] H := hP
  have hD : va_D A [(x, .inr (0, [.ref q1, .null, .null, .null, .int 0, .null, .null, .int 0, .int 0, .int 0, .long 0])), (q1, .inl (cA, 6144, .inl (fun _ => 0))), (q2, .inl (cA, 256, .inl (fun _ => 0)))] := hD
  refine va_putF (D := (dC, dI)) (ci := 0) (v := .ref q2) (ty := .array .int) (C := RX0) (T := TX0) (N := 11) hx hb hts hin tyX0 tyX0_ok nmX0 hown hK hP hD hS 0 rfl rfl 1 (by decide) (hts (.fieldLink RX0 13 "BlockJournal" "checkSteps" "[I") (by decide +kernel)) (fun _ h9 => h9) rfl hin9 rfl (by decide +kernel) rfl rfl (Nat.le_of_ble_eq_true rfl) dX0_init_19 (fun H locs hP hD hS => ?_)
  have hP : va_P (dC, dI) vwCl [(x, .inr (0, [.ref q1, .ref q2, .null, .null, .int 0, .null, .null, .int 0, .int 0, .int 0, .long 0])), (q1, .inl (cA, 6144, .inl (fun _ => 0))), (q2, .inl (cA, 256, .inl (fun _ => 0)))] H := hP
  have hD : va_D A [(x, .inr (0, [.ref q1, .ref q2, .null, .null, .int 0, .null, .null, .int 0, .int 0, .int 0, .long 0])), (q1, .inl (cA, 6144, .inl (fun _ => 0))), (q2, .inl (cA, 256, .inl (fun _ => 0)))] := hD
  refine lv_aload_n hx hb dX0_init_22 rfl (lv_at hl 0 rfl) ?_
  refine lv_bipush (v := nI 64) hx hb dX0_init_23 (by decide) ?_
  refine va_newa (D := (dC, dI)) (atype := .int) hx hb (hts (.arrayClass .int) (by decide +kernel)) (ty := .int) rfl hK hP hD hS hA (n := nI 64) (N' := 64) (a0 := (64, .inl (fun _ => 0))) (bj_new0 64) (nI_pos (by decide)) (nI_clamp (by decide)) (by decide) (Nat.le_of_ble_eq_true rfl) (Nat.le_of_ble_eq_true rfl) dX0_init_25 (fun q3 cB H hK1 hP hD hS => ?_)
  have ecB := cA_one (by intro C h; cases h) hK1
  subst ecB
  have hP : va_P (dC, dI) vwCl [(x, .inr (0, [.ref q1, .ref q2, .null, .null, .int 0, .null, .null, .int 0, .int 0, .int 0, .long 0])), (q1, .inl (cA, 6144, .inl (fun _ => 0))), (q2, .inl (cA, 256, .inl (fun _ => 0))), (q3, .inl (cA, 64, .inl (fun _ => 0)))] H := hP
  have hD : va_D A [(x, .inr (0, [.ref q1, .ref q2, .null, .null, .int 0, .null, .null, .int 0, .int 0, .int 0, .long 0])), (q1, .inl (cA, 6144, .inl (fun _ => 0))), (q2, .inl (cA, 256, .inl (fun _ => 0))), (q3, .inl (cA, 64, .inl (fun _ => 0)))] := hD
  refine va_putF (D := (dC, dI)) (ci := 0) (v := .ref q3) (ty := .array .int) (C := RX0) (T := TX0) (N := 11) hx hb hts hin tyX0 tyX0_ok nmX0 hown hK hP hD hS 0 rfl rfl 2 (by decide) (hts (.fieldLink RX0 16 "BlockJournal" "newHead" "[I") (by decide +kernel)) (fun _ h9 => h9) rfl hin9 rfl (by decide +kernel) rfl rfl (Nat.le_of_ble_eq_true rfl) dX0_init_27 (fun H locs hP hD hS => ?_)
  have hP : va_P (dC, dI) vwCl [(x, .inr (0, [.ref q1, .ref q2, .ref q3, .null, .int 0, .null, .null, .int 0, .int 0, .int 0, .long 0])), (q1, .inl (cA, 6144, .inl (fun _ => 0))), (q2, .inl (cA, 256, .inl (fun _ => 0))), (q3, .inl (cA, 64, .inl (fun _ => 0)))] H := hP
  have hD : va_D A [(x, .inr (0, [.ref q1, .ref q2, .ref q3, .null, .int 0, .null, .null, .int 0, .int 0, .int 0, .long 0])), (q1, .inl (cA, 6144, .inl (fun _ => 0))), (q2, .inl (cA, 256, .inl (fun _ => 0))), (q3, .inl (cA, 64, .inl (fun _ => 0)))] := hD
  refine lv_aload_n hx hb dX0_init_30 rfl (lv_at hl 0 rfl) ?_
  refine lv_bipush (v := nI 64) hx hb dX0_init_31 (by decide) ?_
  refine va_newa (D := (dC, dI)) (atype := .int) hx hb (hts (.arrayClass .int) (by decide +kernel)) (ty := .int) rfl hK hP hD hS hA (n := nI 64) (N' := 64) (a0 := (64, .inl (fun _ => 0))) (bj_new0 64) (nI_pos (by decide)) (nI_clamp (by decide)) (by decide) (Nat.le_of_ble_eq_true rfl) (Nat.le_of_ble_eq_true rfl) dX0_init_33 (fun q4 cB H hK1 hP hD hS => ?_)
  have ecB := cA_one (by intro C h; cases h) hK1
  subst ecB
  have hP : va_P (dC, dI) vwCl [(x, .inr (0, [.ref q1, .ref q2, .ref q3, .null, .int 0, .null, .null, .int 0, .int 0, .int 0, .long 0])), (q1, .inl (cA, 6144, .inl (fun _ => 0))), (q2, .inl (cA, 256, .inl (fun _ => 0))), (q3, .inl (cA, 64, .inl (fun _ => 0))), (q4, .inl (cA, 64, .inl (fun _ => 0)))] H := hP
  have hD : va_D A [(x, .inr (0, [.ref q1, .ref q2, .ref q3, .null, .int 0, .null, .null, .int 0, .int 0, .int 0, .long 0])), (q1, .inl (cA, 6144, .inl (fun _ => 0))), (q2, .inl (cA, 256, .inl (fun _ => 0))), (q3, .inl (cA, 64, .inl (fun _ => 0))), (q4, .inl (cA, 64, .inl (fun _ => 0)))] := hD
  refine va_putF (D := (dC, dI)) (ci := 0) (v := .ref q4) (ty := .array .int) (C := RX0) (T := TX0) (N := 11) hx hb hts hin tyX0 tyX0_ok nmX0 hown hK hP hD hS 0 rfl rfl 3 (by decide) (hts (.fieldLink RX0 19 "BlockJournal" "tape" "[I") (by decide +kernel)) (fun _ h9 => h9) rfl hin9 rfl (by decide +kernel) rfl rfl (Nat.le_of_ble_eq_true rfl) dX0_init_35 (fun H locs hP hD hS => ?_)
  have hP : va_P (dC, dI) vwCl [(x, .inr (0, [.ref q1, .ref q2, .ref q3, .ref q4, .int 0, .null, .null, .int 0, .int 0, .int 0, .long 0])), (q1, .inl (cA, 6144, .inl (fun _ => 0))), (q2, .inl (cA, 256, .inl (fun _ => 0))), (q3, .inl (cA, 64, .inl (fun _ => 0))), (q4, .inl (cA, 64, .inl (fun _ => 0)))] H := hP
  have hD : va_D A [(x, .inr (0, [.ref q1, .ref q2, .ref q3, .ref q4, .int 0, .null, .null, .int 0, .int 0, .int 0, .long 0])), (q1, .inl (cA, 6144, .inl (fun _ => 0))), (q2, .inl (cA, 256, .inl (fun _ => 0))), (q3, .inl (cA, 64, .inl (fun _ => 0))), (q4, .inl (cA, 64, .inl (fun _ => 0)))] := hD
  refine lv_aload_n hx hb dX0_init_38 rfl (lv_at hl 0 rfl) ?_
  refine lv_bipush (v := nI 24) hx hb dX0_init_39 (by decide) ?_
  refine va_newa (D := (dC, dI)) (atype := .int) hx hb (hts (.arrayClass .int) (by decide +kernel)) (ty := .int) rfl hK hP hD hS hA (n := nI 24) (N' := 24) (a0 := (24, .inl (fun _ => 0))) (bj_new0 24) (nI_pos (by decide)) (nI_clamp (by decide)) (by decide) (Nat.le_of_ble_eq_true rfl) (Nat.le_of_ble_eq_true rfl) dX0_init_41 (fun q5 cB H hK1 hP hD hS => ?_)
  have ecB := cA_one (by intro C h; cases h) hK1
  subst ecB
  have hP : va_P (dC, dI) vwCl [(x, .inr (0, [.ref q1, .ref q2, .ref q3, .ref q4, .int 0, .null, .null, .int 0, .int 0, .int 0, .long 0])), (q1, .inl (cA, 6144, .inl (fun _ => 0))), (q2, .inl (cA, 256, .inl (fun _ => 0))), (q3, .inl (cA, 64, .inl (fun _ => 0))), (q4, .inl (cA, 64, .inl (fun _ => 0))), (q5, .inl (cA, 24, .inl (fun _ => 0)))] H := hP
  have hD : va_D A [(x, .inr (0, [.ref q1, .ref q2, .ref q3, .ref q4, .int 0, .null, .null, .int 0, .int 0, .int 0, .long 0])), (q1, .inl (cA, 6144, .inl (fun _ => 0))), (q2, .inl (cA, 256, .inl (fun _ => 0))), (q3, .inl (cA, 64, .inl (fun _ => 0))), (q4, .inl (cA, 64, .inl (fun _ => 0))), (q5, .inl (cA, 24, .inl (fun _ => 0)))] := hD
  refine va_putF (D := (dC, dI)) (ci := 0) (v := .ref q5) (ty := .array .int) (C := RX0) (T := TX0) (N := 11) hx hb hts hin tyX0 tyX0_ok nmX0 hown hK hP hD hS 0 rfl rfl 5 (by decide) (hts (.fieldLink RX0 22 "BlockJournal" "changeBlocks" "[I") (by decide +kernel)) (fun _ h9 => h9) rfl hin9 rfl (by decide +kernel) rfl rfl (Nat.le_of_ble_eq_true rfl) dX0_init_43 (fun H locs hP hD hS => ?_)
  have hP : va_P (dC, dI) vwCl [(x, .inr (0, [.ref q1, .ref q2, .ref q3, .ref q4, .int 0, .ref q5, .null, .int 0, .int 0, .int 0, .long 0])), (q1, .inl (cA, 6144, .inl (fun _ => 0))), (q2, .inl (cA, 256, .inl (fun _ => 0))), (q3, .inl (cA, 64, .inl (fun _ => 0))), (q4, .inl (cA, 64, .inl (fun _ => 0))), (q5, .inl (cA, 24, .inl (fun _ => 0)))] H := hP
  have hD : va_D A [(x, .inr (0, [.ref q1, .ref q2, .ref q3, .ref q4, .int 0, .ref q5, .null, .int 0, .int 0, .int 0, .long 0])), (q1, .inl (cA, 6144, .inl (fun _ => 0))), (q2, .inl (cA, 256, .inl (fun _ => 0))), (q3, .inl (cA, 64, .inl (fun _ => 0))), (q4, .inl (cA, 64, .inl (fun _ => 0))), (q5, .inl (cA, 24, .inl (fun _ => 0)))] := hD
  refine lv_aload_n hx hb dX0_init_46 rfl (lv_at hl 0 rfl) ?_
  refine lv_sipush (v := nI 1536) hx hb dX0_init_47 (by decide) ?_
  refine va_newa (D := (dC, dI)) (atype := .int) hx hb (hts (.arrayClass .int) (by decide +kernel)) (ty := .int) rfl hK hP hD hS hA (n := nI 1536) (N' := 1536) (a0 := (1536, .inl (fun _ => 0))) (bj_new0 1536) (nI_pos (by decide)) (nI_clamp (by decide)) (by decide) (Nat.le_of_ble_eq_true rfl) (Nat.le_of_ble_eq_true rfl) dX0_init_50 (fun q6 cB H hK1 hP hD hS => ?_)
  have ecB := cA_one (by intro C h; cases h) hK1
  subst ecB
  have hP : va_P (dC, dI) vwCl [(x, .inr (0, [.ref q1, .ref q2, .ref q3, .ref q4, .int 0, .ref q5, .null, .int 0, .int 0, .int 0, .long 0])), (q1, .inl (cA, 6144, .inl (fun _ => 0))), (q2, .inl (cA, 256, .inl (fun _ => 0))), (q3, .inl (cA, 64, .inl (fun _ => 0))), (q4, .inl (cA, 64, .inl (fun _ => 0))), (q5, .inl (cA, 24, .inl (fun _ => 0))), (q6, .inl (cA, 1536, .inl (fun _ => 0)))] H := hP
  have hD : va_D A [(x, .inr (0, [.ref q1, .ref q2, .ref q3, .ref q4, .int 0, .ref q5, .null, .int 0, .int 0, .int 0, .long 0])), (q1, .inl (cA, 6144, .inl (fun _ => 0))), (q2, .inl (cA, 256, .inl (fun _ => 0))), (q3, .inl (cA, 64, .inl (fun _ => 0))), (q4, .inl (cA, 64, .inl (fun _ => 0))), (q5, .inl (cA, 24, .inl (fun _ => 0))), (q6, .inl (cA, 1536, .inl (fun _ => 0)))] := hD
  refine va_putF (D := (dC, dI)) (ci := 0) (v := .ref q6) (ty := .array .int) (C := RX0) (T := TX0) (N := 11) hx hb hts hin tyX0 tyX0_ok nmX0 hown hK hP hD hS 0 rfl rfl 6 (by decide) (hts (.fieldLink RX0 25 "BlockJournal" "changeBytes" "[I") (by decide +kernel)) (fun _ h9 => h9) rfl hin9 rfl (by decide +kernel) rfl rfl (Nat.le_of_ble_eq_true rfl) dX0_init_52 (fun H locs hP hD hS => ?_)
  have hP : va_P (dC, dI) vwCl [(x, .inr (0, [.ref q1, .ref q2, .ref q3, .ref q4, .int 0, .ref q5, .ref q6, .int 0, .int 0, .int 0, .long 0])), (q1, .inl (cA, 6144, .inl (fun _ => 0))), (q2, .inl (cA, 256, .inl (fun _ => 0))), (q3, .inl (cA, 64, .inl (fun _ => 0))), (q4, .inl (cA, 64, .inl (fun _ => 0))), (q5, .inl (cA, 24, .inl (fun _ => 0))), (q6, .inl (cA, 1536, .inl (fun _ => 0)))] H := hP
  have hD : va_D A [(x, .inr (0, [.ref q1, .ref q2, .ref q3, .ref q4, .int 0, .ref q5, .ref q6, .int 0, .int 0, .int 0, .long 0])), (q1, .inl (cA, 6144, .inl (fun _ => 0))), (q2, .inl (cA, 256, .inl (fun _ => 0))), (q3, .inl (cA, 64, .inl (fun _ => 0))), (q4, .inl (cA, 64, .inl (fun _ => 0))), (q5, .inl (cA, 24, .inl (fun _ => 0))), (q6, .inl (cA, 1536, .inl (fun _ => 0)))] := hD
  refine lv_aload_n hx hb dX0_init_55 rfl (lv_at hl 0 rfl) ?_
  refine lv_iconst (v := (-1)) hx hb dX0_init_56 (by decide) ?_
  refine va_put (D := (dC, dI)) (ci := 0) (v := .int (-1)) (ty := .int) (C := RX0) (T := TX0) (N := 11) hx hb hts hin tyX0 tyX0_ok nmX0 hown hK hP hD hS 0 rfl rfl 9 (by decide) (hts (.fieldLink RX0 28 "BlockJournal" "writesLeft" "I") (by decide +kernel)) (fun _ h9 => h9) rfl (by decide +kernel) rfl rfl (Nat.le_of_ble_eq_true rfl) dX0_init_57 (fun H locs hP hD hS => ?_)
  have hP : va_P (dC, dI) vwCl [(x, .inr (0, [.ref q1, .ref q2, .ref q3, .ref q4, .int 0, .ref q5, .ref q6, .int 0, .int 0, .int (-1), .long 0])), (q1, .inl (cA, 6144, .inl (fun _ => 0))), (q2, .inl (cA, 256, .inl (fun _ => 0))), (q3, .inl (cA, 64, .inl (fun _ => 0))), (q4, .inl (cA, 64, .inl (fun _ => 0))), (q5, .inl (cA, 24, .inl (fun _ => 0))), (q6, .inl (cA, 1536, .inl (fun _ => 0)))] H := hP
  have hD : va_D A [(x, .inr (0, [.ref q1, .ref q2, .ref q3, .ref q4, .int 0, .ref q5, .ref q6, .int 0, .int 0, .int (-1), .long 0])), (q1, .inl (cA, 6144, .inl (fun _ => 0))), (q2, .inl (cA, 256, .inl (fun _ => 0))), (q3, .inl (cA, 64, .inl (fun _ => 0))), (q4, .inl (cA, 64, .inl (fun _ => 0))), (q5, .inl (cA, 24, .inl (fun _ => 0))), (q6, .inl (cA, 1536, .inl (fun _ => 0)))] := hD
  refine W.widen (k := 6) (n := 8088) (by decide) (by decide) ?_
  obtain ⟨ad, had⟩ : ∃ ad, ad = adF x q1 q2 q3 q4 q5 q6 := ⟨_, rfl⟩
  have e0 : x = ad 0 := by rw [had]; rfl
  have hP : va_P (dC, dI) vwCl (wX cA ad (fun _ => 0) (fun _ => 0) (fun _ => 0) (fun _ => 0) (nI 0) (fun _ => 0) (fun _ => 0) (nI 0) (nI 0) (-1) 0) H := by rw [had]; exact hP
  have hD : va_D A (wX cA ad (fun _ => 0) (fun _ => 0) (fun _ => 0) (fun _ => 0) (nI 0) (fun _ => 0) (fun _ => 0) (nI 0) (nI 0) (-1) 0) := by rw [had]; exact hD
  rw [e0] at hl
  refine lv_iconst (v := nI 0) hx hb dX0_init_60 (by decide) ?_
  refine lv_istore_n (lv' := [(1, .int (nI 0)), (0, .ref (ad 0))]) hx hb dX0_init_61 rfl hl (by decide) rfl (fun ls hl => ?_)
  have hP : va_P (dC, dI) vwCl (wX cA ad (fun _ => 0) (ckF 0) (fun _ => 0) (fun _ => 0) (nI 0) (fun _ => 0) (fun _ => 0) (nI 0) (nI 0) (-1) 0) H := by rw [ckF_0]; exact hP
  have hD : va_D A (wX cA ad (fun _ => 0) (ckF 0) (fun _ => 0) (fun _ => 0) (nI 0) (fun _ => 0) (fun _ => 0) (nI 0) (nI 0) (-1) 0) := by rw [ckF_0]; exact hD
  have loop_62 : ∀ (k : Nat) (i : Nat), i + k = 256 → ∀ (H : Heap) (locs : List Loc) (ls : Array Slot), va_P (dC, dI) vwCl (wX cA ad (fun _ => 0) (ckF i) (fun _ => 0) (fun _ => 0) (nI 0) (fun _ => 0) (fun _ => 0) (nI 0) (nI 0) (-1) 0) H → va_D A (wX cA ad (fun _ => 0) (ckF i) (fun _ => 0) (fun _ => 0) (nI 0) (fun _ => 0) (fun _ => 0) (nI 0) (nI 0) (-1) 0) → va_S A s.heap H locs → lv_has ls 2 [(0, .ref (ad 0)), (1, .int (nI i))] → W p l e (headSpec wsX0_init ({ frames := 1, cells := 6, slots := 8088, locals := 22 } : Room)).room s m ([.ref x] : List Value).toArray below meth c H locs 6 8088 (MQ below (va_Qv (fun u : Nat → Nat => u 0 = x) (fun u t => va_P (dC, dI) vwCl (wX cA u (fun _ => 0) (ckF 256) (fun _ => 0) (fun _ => 0) (nI 0) (fun _ => 0) (fun _ => 0) (nI 0) (nI 0) (-1) 0) t.heap ∧ va_K (dC, dI) vwCl [(cA, .int)] t ∧ va_D A (wX cA u (fun _ => 0) (ckF 256) (fun _ => 0) (fun _ => 0) (nI 0) (fun _ => 0) (fun _ => 0) (nI 0) (nI 0) (-1) 0)) A) ([.ref x] : List Value).toArray s 6 8088 A) (F0 m 62 ls []) := by
    intro k
    induction k with
    | zero =>
      intro i hk H locs ls hP hD hS hl
      refine lv_iload_n hx hb dX0_init_62 rfl (lv_at hl 1 rfl) ?_
      refine lv_sipush (v := nI 255) hx hb dX0_init_63 (by decide) ?_
      refine lv_icmp_gt (tgt := 85) hx hb dX0_init_66 (by decide) (fun c_66 => ?_) (fun c_66 => ?_)
      · have n_66 : 255 < i := (nI_ltI (by omega) (by omega)).mp c_66
        have ei : i = 256 := by omega
        rw [ei] at hP hD
        exact W.vret hx hb hr (fun t ht hW => ⟨⟨ad, rfl, e0.symm, by rw [ht]; exact hP, va_K.moved hW.alike hK, hD⟩, hS.F ht⟩) hS.2.2 dX0_init_85
      · have n_66 : ¬ 255 < i := fun h => c_66 ((nI_ltI (by omega) (by omega)).mpr h)
        exfalso; omega
    | succ k ih =>
      intro i hk H locs ls hP hD hS hl
      refine lv_iload_n hx hb dX0_init_62 rfl (lv_at hl 1 rfl) ?_
      refine lv_sipush (v := nI 255) hx hb dX0_init_63 (by decide) ?_
      refine lv_icmp_gt (tgt := 85) hx hb dX0_init_66 (by decide) (fun c_66 => ?_) (fun c_66 => ?_)
      · have n_66 : 255 < i := (nI_ltI (by omega) (by omega)).mp c_66
        exfalso; omega
      · have n_66 : ¬ 255 < i := fun h => c_66 ((nI_ltI (by omega) (by omega)).mpr h)
        refine lv_aload_n hx hb dX0_init_69 rfl (lv_at hl 0 rfl) ?_
        refine va_get (D := (dC, dI)) (ci := 0) (v := .ref (ad 2)) (C := RX0) (T := TX0) (N := 11) hx hb hts hin hown hK hP 0 rfl rfl 1 (by decide) (hts (.fieldLink RX0 13 "BlockJournal" "checkSteps" "[I") (by decide +kernel)) (fun _ h9 => h9) rfl dX0_init_70 ?_
        refine lv_iload_n hx hb dX0_init_73 rfl (lv_at hl 1 rfl) ?_
        refine lv_iload_n hx hb dX0_init_74 rfl (lv_at hl 1 rfl) ?_
        refine bj_call (v := .int (cnF 8 (nI i))) (W.runS (As := [.int (nI i)]) (rest := [.int (nI i), .ref (ad 2)]) ⟨hx, hb, hml, hown, hts⟩ (c_X0_eightSteps l (nI i)) (va_cwS 1 hts gX0_init_X0_eightSteps rfl rfl rfl (by decide +kernel) ⟨Nat.le_of_ble_eq_true rfl, Nat.le_of_ble_eq_true rfl⟩) ⟨fun _ _ _ _ q => q, fun _ _ _ => ⟨rfl, trivial⟩⟩ rfl rfl hl.1 rfl (lv_room (Nat.le_of_ble_eq_true rfl)) dX0_init_75 ⟨Nat.le_of_ble_eq_true rfl, Nat.le_of_ble_eq_true rfl⟩) ?_
        refine va_iast (D := (dC, dI)) hx hb hK hP hD hS 2 0 (cA := cA) (n := 256) (f := (ckF i)) rfl rfl (i := (nI i)) (vp_in_nI (by omega) (by omega)) dX0_init_78 (fun H locs hP hD hS => ?_)
        rw [nI_clamp (n := i) (by omega)] at hP hD
        have hP : va_P (dC, dI) vwCl (wX cA ad (fun _ => 0) (upd (ckF i) i (cnF 8 (nI i))) (fun _ => 0) (fun _ => 0) (nI 0) (fun _ => 0) (fun _ => 0) (nI 0) (nI 0) (-1) 0) H := hP
        have hD : va_D A (wX cA ad (fun _ => 0) (upd (ckF i) i (cnF 8 (nI i))) (fun _ => 0) (fun _ => 0) (nI 0) (fun _ => 0) (fun _ => 0) (nI 0) (nI 0) (-1) 0) := hD
        rw [ckF_up] at hP hD
        have hP : va_P (dC, dI) vwCl (wX cA ad (fun _ => 0) (ckF (i + 1)) (fun _ => 0) (fun _ => 0) (nI 0) (fun _ => 0) (fun _ => 0) (nI 0) (nI 0) (-1) 0) H := hP
        have hD : va_D A (wX cA ad (fun _ => 0) (ckF (i + 1)) (fun _ => 0) (fun _ => 0) (nI 0) (fun _ => 0) (fun _ => 0) (nI 0) (nI 0) (-1) 0) := hD
        refine lv_iinc (v := nI (i + 1)) (lv' := [(1, .int (nI (i + 1))), (0, .ref (ad 0))]) hx hb dX0_init_79 hl (k := 1) rfl (nI_add i 1) (by decide) rfl (fun ls hl => ?_)
        refine lv_goto (tgt := 62) hx hb dX0_init_82 (by decide) ?_
        exact ih (i + 1) (by omega) _ _ _ hP hD hS (lv_sub hl [1, 0] rfl)
  exact loop_62 256 0 (by omega) _ _ _ hP hD hS (lv_sub hl [1, 0] rfl)

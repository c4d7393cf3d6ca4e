theorem plF_le (f : Nat → Int32) (b : Int32) : ∀ k i, plF f b k i ≤ i + k := by
  intro k
  induction k with
  | zero => intro i; exact Nat.le_refl _
  | succ k ih =>
    intro i
    rw [plF]
    by_cases h : b ≤ f i
    · rw [if_pos h]; omega
    · rw [if_neg h]; have := ih (i + 1); omega
theorem isT_nat {b : Int32} (h : isT b = true) : ∃ k : Nat, 25 ≤ k ∧ k < 96 ∧ b = nI k := by
  unfold isT at h
  by_cases a1 : b < nI 25
  · rw [if_pos a1] at h; cases h
  rw [if_neg a1] at h
  by_cases a2 : nI 96 ≤ b
  · rw [if_pos a2] at h; cases h
  obtain ⟨k, hk, e⟩ := nI_of (x := b) (fun q => a1 (Int32.lt_trans q (by decide)))
  refine ⟨k, ?_, ?_, e⟩
  · rcases Nat.lt_or_ge k 25 with q | q
    · exact absurd (by rw [e]; exact nI_lt q (by omega)) a1
    · exact q
  · rcases Nat.lt_or_ge k 96 with q | q
    · exact q
    · exact absurd (by rw [e]; exact nI_le q hk) a2
theorem bI_ne {x : Bool} (h : ¬ bI x = 0) : x = true := by
  cases x
  · exact absurd (by decide) h
  · rfl
theorem trF_all (f : Nat → Int32) : ∀ k i b, trF f k i b = true → ∀ j, i ≤ j → j < i + k → isT (htF f j) = true := by
  intro k
  induction k with
  | zero => intro i b _ j h1 h2; exfalso; omega
  | succ k ih =>
    intro i b h j h1 h2
    rw [trF] at h
    by_cases a1 : bI (isT (htF f i)) = 0
    · rw [if_pos a1] at h; cases h
    rw [if_neg a1] at h
    by_cases a2 : b < htF f i
    · rw [if_pos a2] at h
      by_cases e : j = i
      · rw [e]; exact bI_ne a1
      · exact ih (i + 1) _ h j (by omega) (by omega)
    · rw [if_neg a2] at h; cases h
/-- a right head: its count, its targets -/
theorem hrF_nat {f ck : Nat → Int32} (h : ¬ bI (hrF f ck) = 0) : ∃ n : Nat, 1 ≤ n ∧ n ≤ 24 ∧ f 4 = nI n ∧ ∀ i, i < n → ∃ b : Nat, 25 ≤ b ∧ b < 96 ∧ htF f i = nI b := by
  have h := bI_ne h
  unfold hrF at h
  by_cases a1 : f 4 < nI 1
  · rw [if_pos a1] at h; cases h
  rw [if_neg a1] at h
  by_cases a2 : nI 24 < f 4
  · rw [if_pos a2] at h; cases h
  rw [if_neg a2] at h
  obtain ⟨n, hn, en⟩ := nI_of2 (x := f 4) (M := nI 24) (n := 24) (by decide) (fun q => a1 (Int32.lt_trans q (by decide))) (Int32.not_lt.mp a2)
  have hcl : (f 4).toNatClampNeg = n := by rw [en]; exact nI_clamp (by omega)
  rw [hcl] at h
  by_cases a3 : bI (trF f n 0 (nI 0)) = 0
  · rw [if_pos a3] at h; cases h
  have h1 : 1 ≤ n := by
    rcases Nat.lt_or_ge n 1 with q | q
    · exact absurd (by rw [en]; exact nI_lt q (by omega)) a1
    · exact q
  exact ⟨n, h1, hn, en, fun i hi => isT_nat (trF_all f n 0 (nI 0) (bI_ne a3) i (Nat.zero_le _) (by omega))⟩
/-- the store, the power, what is left of it, the writes -/
abbrev W4 : Type := (Nat → Int32) × Int32 × Int32 × Int64
def w4 (F : Nat → Int32) (q b : Nat) (u : W4) : W4 := (wrS F u.1 u.2.2.1 q b, wrO u.2.1 u.2.2.1, wrL u.2.2.1, wrD u.2.2.1 u.2.2.2)
/-- i payload blocks are written; i changes; i targets out of the payload -/
def wpF (cy : Nat → Int32) : Nat → W4 → W4
  | 0, u => u
  | i + 1, u => w4 cy (i * 64) (1 + i) (wpF cy i u)
def wbF (cy cb : Nat → Int32) : Nat → W4 → W4
  | 0, u => u
  | i + 1, u => w4 cy (i * 64) (cb i).toNatClampNeg (wbF cy cb i u)
def wvF : Nat → W4 → W4
  | 0, u => u
  | i + 1, u => w4 (wvF i u).1 ((1 + i) * 64) (htF (wvF i u).1 i).toNatClampNeg (wvF i u)
theorem wrS_low {F st : Nat → Int32} {wl : Int32} {q b j : Nat} (h : j < b * 64 ∨ b * 64 + 64 ≤ j) : wrS F st wl q b j = st j := by
  unfold wrS
  by_cases a : ¬ wl = 0
  · rw [if_pos a]; exact pk_cpy_out h
  · rw [if_neg a]
theorem htF_eq {f g : Nat → Int32} {i : Nat} (hi : i < 24) (h : ∀ j, j < 64 → f j = g j) : htF f i = htF g i := by
  unfold htF
  rw [h _ (by omega), h _ (by omega)]
theorem wvF_low {n : Nat} {u : W4} (hn : n ≤ 24) (h : ∀ i, i < n → ∃ b : Nat, 25 ≤ b ∧ b < 96 ∧ htF u.1 i = nI b) : ∀ i, i ≤ n → ∀ j, j < 1600 → (wvF i u).1 j = u.1 j := by
  intro i
  induction i with
  | zero => intro _ j _; rfl
  | succ i ih =>
    intro hi j hj
    have h0 := ih (by omega)
    obtain ⟨b, b1, b2, eb⟩ := h i (by omega)
    have e : (htF (wvF i u).1 i).toNatClampNeg = b := by
      rw [htF_eq (by omega) (fun j hj => h0 j (by omega)), eb]; exact nI_clamp (by omega)
    show wrS (wvF i u).1 (wvF i u).1 (wvF i u).2.2.1 ((1 + i) * 64) (htF (wvF i u).1 i).toNatClampNeg j = u.1 j
    rw [e, wrS_low (by omega)]
    exact h0 j hj
theorem wvF_tgt {n : Nat} {u : W4} (hn : n ≤ 24) (h : ∀ i, i < n → ∃ b : Nat, 25 ≤ b ∧ b < 96 ∧ htF u.1 i = nI b) {i : Nat} (hi : i < n) : ∃ b : Nat, b < 96 ∧ htF (wvF i u).1 i = nI b ∧ wvF (i + 1) u = w4 (wvF i u).1 ((1 + i) * 64) b (wvF i u) := by
  obtain ⟨b, b1, b2, eb⟩ := h i hi
  have e : htF (wvF i u).1 i = nI b := by
    rw [htF_eq (by omega) (fun j hj => wvF_low hn h i (by omega) j (by omega)), eb]
  exact ⟨b, b2, e, by rw [wvF, e, nI_clamp (by omega)]⟩
def puK (cb : Nat → Int32) (n : Nat) (b : Int32) : Nat := if ¬ bI (isT b) = 0 then (if ¬ bI (icF cb n (plF cb b n 0) b) = 0 then 0 else if n < 24 then 0 else 2) else 1
/-- the changes behind a put of the bytes tp -/
def puB (cb : Nat → Int32) (n : Nat) (b : Int32) : Nat → Int32 := if ¬ bI (icF cb n (plF cb b n 0) b) = 0 then cb else upd (va_cpy cb cb (plF cb b n 0) (plF cb b n 0 + 1) (n - plF cb b n 0)) (plF cb b n 0) b
def puY (cb cy tp : Nat → Int32) (n : Nat) (b : Int32) : Nat → Int32 := va_cpy tp (if ¬ bI (icF cb n (plF cb b n 0) b) = 0 then cy else va_cpy cy cy (plF cb b n 0 * 64) ((plF cb b n 0 + 1) * 64) ((n - plF cb b n 0) * 64)) 0 (plF cb b n 0 * 64) 64
def puN (cb : Nat → Int32) (n : Nat) (b : Int32) : Nat := if ¬ bI (icF cb n (plF cb b n 0) b) = 0 then n else n + 1
def cmK (n : Nat) (o : Bool) : Nat := if nI n = 0 then 1 else if bI o = 0 then 0 else 1
/-- a commit: the row of its last head, what it leaves -/
def cm2 (st ck nh cb cy : Nat → Int32) (n : Nat) (u : W4) : W4 := w4 (fhF (wpF cy n u).1 ck nh cb n (hwF st 0 4)) 0 0 (wpF cy n u)
def cmH (st ck nh cb cy : Nat → Int32) (n : Nat) (u : W4) : Nat → Int32 := ehF (fhF (wpF cy n u).1 ck nh cb n (hwF st 0 4)) (hwF st 0 4 + nI 1)
def cmU (st ck nh cb cy : Nat → Int32) (n : Nat) (u : W4) : W4 := w4 (cmH st ck nh cb cy n u) 0 0 (wbF cy cb n (cm2 st ck nh cb cy n u))
def reK (o : Bool) : Nat := if bI o = 0 then 0 else 1
/-- a recovery -/
def rvH (nh : Nat → Int32) (n : Nat) (u : W4) : Nat → Int32 := ehF nh (hwF (wvF n u).1 0 4 + nI 1)
def rvU (nh : Nat → Int32) (n : Nat) (u : W4) : W4 := w4 (rvH nh n u) 0 0 (wvF n u)
def reU (st ck nh : Nat → Int32) (u : W4) : W4 := if ¬ bI (hrF st ck) = 0 then rvU nh (st 4).toNatClampNeg u else u
def reH (st ck nh : Nat → Int32) (u : W4) : Nat → Int32 := if ¬ bI (hrF st ck) = 0 then rvH nh (st 4).toNatClampNeg u else nh
def reR (st ck nh : Nat → Int32) (u : W4) : Int32 := if ¬ bI (hrF st ck) = 0 then (if (rvU nh (st 4).toNatClampNeg u).2.1 = 0 then st 4 else -1) else nI 0

set_option maxHeartbeats 4000000 in
set_option maxRecDepth 100000 in
theorem c_X0_put (l : Launch) (h9 : l.stackTraces = false) (dC : Nat → ClassId) (dI : Nat → Nat → Nat) (cA : ClassId) (ad : Nat → Nat) (sz : Nat) (st ck nh tp : Nat → Int32) (tl : Int32) (cb cy : Nat → Int32) (of wl : Int32) (wd : Int64) (n : Nat) (b : Int32) (hn : n ≤ 24) : vx_Met l yX0_put wsX0_put ({ frames := 6, cells := 1, slots := 6, locals := 83 } : Room) (va_Pc [.ref (ad 0), .int b] (fun U => U.heap.size = sz ∧ va_P (dC, dI) vwCl (wX cA ad st ck nh tp tl cb cy (nI n) of wl wd) U.heap ∧ va_K (dC, dI) vwCl [(cA, .int)] U ∧ va_D (fun _ => True) (wX cA ad st ck nh tp tl cb cy (nI n) of wl wd) ∧ bjE (va_A (wX cA ad st ck nh tp tl cb cy (nI n) of wl wd) sz) U U.heap)) (va_Qi (fun (r : Int32) (u : XS) => puK cb n b = 0 ∧ r = nI (puN cb n b) ∧ u = (st, nh, fiF tp (nI 0) 64, nI 0, puB cb n b, puY cb cy tp n b, nI (puN cb n b), of, wl, wd)) (aX dC dI cA ad ck (va_A (wX cA ad st ck nh tp tl cb cy (nI n) of wl wd) sz)) (va_A (wX cA ad st ck nh tp tl cb cy (nI n) of wl wd) sz)) (vx_X (fun _ : Unit => True) (fun E _ t => ((puK cb n b = 1 ∧ E = "java/lang/IllegalArgumentException") ∨ (puK cb n b = 2 ∧ E = "java/lang/IllegalStateException")) ∧ aX dC dI cA ad ck (va_A (wX cA ad st ck nh tp tl cb cy (nI n) of wl wd) sz) (st, nh, tp, tl, cb, cy, nI n, of, wl, wd) t) (va_A (wX cA ad st ck nh tp tl cb cy (nI n) of wl wd) sz)) 1 6 (va_A (wX cA ad st ck nh tp tl cb cy (nI n) of wl wd) sz) := by
  refine vx_ofW (cc := cX0_put) (maxL := 3) (ret := (some .int)) (by decide) rfl ?_
  intro p e s m args below meth c s₁ B hml hnt hv
  obtain ⟨rfl, hsz, hP, hK, hD0, hE⟩ := hv
  have hx := B.exec
  have hb := B.bytes
  have hr := B.returns
  have hts := atoms_spec (ws := wsX0_put) B.pre
  have hown : s.vm.findClass RX0 = some m.cls := findClass_of_methodNamed B.named
  have hlocks := B.notSynchronized
  have hin : ∀ w ∈ u_ws RX0 TX0 11, w ∈ wsX0_put := by decide +kernel
  subst hsz
  have hD := hD0.self (sz := s.heap.size)
  generalize hAe : va_A (wX cA ad st ck nh tp tl cb cy (nI n) of wl wd) s.heap.size = A at hD hE ⊢
  have hA : ∀ q : Nat, s.heap.size ≤ q → A q := fun q h => by rw [← hAe]; exact Or.inr h
  obtain ⟨H, locs, hH, hlo, hS⟩ : ∃ (H : Heap) (locs : List Loc), H = s.heap ∧ locs = [] ∧ va_S A s.heap H locs := ⟨s.heap, [], rfl, rfl, va_S.rf⟩
  rw [← hH] at hP
  have hP : va_P (dC, dI) vwCl (wX cA ad st ck nh tp tl cb cy (nI n) of wl wd) H := hP
  have hl := lv_entry ([.ref (ad 0), .int b]) (n := 3) (Nat.le_of_ble_eq_true rfl)
  rw [lg_entry_eq]
  generalize (lg_sl ([.ref (ad 0), .int b]) ++ List.replicate (3 - (lg_sl ([.ref (ad 0), .int b])).length) Slot.unset).toArray = ls at hl ⊢
  have goal : W p l e (headSpec wsX0_put ({ frames := 6, cells := 1, slots := 6, locals := 83 } : Room)).room s m ([.ref (ad 0), .int b] : List Value).toArray below meth c H locs 0 0 (vx_MQ below (va_Qi (fun (r : Int32) (u : XS) => puK cb n b = 0 ∧ r = nI (puN cb n b) ∧ u = (st, nh, fiF tp (nI 0) 64, nI 0, puB cb n b, puY cb cy tp n b, nI (puN cb n b), of, wl, wd)) (aX dC dI cA ad ck A) A) (vx_X (fun _ : Unit => True) (fun E _ t => ((puK cb n b = 1 ∧ E = "java/lang/IllegalArgumentException") ∨ (puK cb n b = 2 ∧ E = "java/lang/IllegalStateException")) ∧ aX dC dI cA ad ck A (st, nh, tp, tl, cb, cy, nI n, of, wl, wd) t) A) ([.ref (ad 0), .int b] : List Value).toArray s 1 6 A) (F0 m 0 ls []) := by
    clear hH hlo
    have hl : lv_has ls 3 [(0, .ref (ad 0)), (1, .int b)] := hl
    refine lv_iload_n hx hb dX0_put_0 rfl (lv_at hl 1 rfl) ?_
    refine bj_call (v := .int (bI (isT b))) (W.runS (As := [.int b]) (rest := []) ⟨hx, hb, hml, hown, hts⟩ (c_X0_isTarget l b) (va_cwS 1 hts gX0_put_X0_isTarget rfl rfl rfl (by decide +kernel) ⟨Nat.le_of_ble_eq_true rfl, Nat.le_of_ble_eq_true rfl⟩) ⟨fun _ _ _ _ q => q, fun _ _ _ => ⟨rfl, trivial⟩⟩ rfl rfl hl.1 rfl (lv_room (Nat.le_of_ble_eq_true rfl)) dX0_put_1 ⟨Nat.le_of_ble_eq_true rfl, Nat.le_of_ble_eq_true rfl⟩) ?_
    refine lv_if_ne (tgt := 17) hx hb dX0_put_4 (by decide) (fun c_4 => ?_) (fun c_4 => ?_)
    · refine lv_aload_n hx hb dX0_put_17 rfl (lv_at hl 0 rfl) ?_
      refine lv_iload_n hx hb dX0_put_18 rfl (lv_at hl 1 rfl) ?_
      refine bj_call (v := .int (nI (plF cb b n 0))) (W.runV (As := [.int b]) (rest := []) ⟨hx, hb, hml, hown, hts⟩ (c_X0_placeOf l dC dI cA ad st ck nh tp tl cb cy of wl wd n b hn) (cwV 1 hts gX0_put_X0_placeOf rfl rfl rfl (by decide +kernel) ⟨Nat.le_of_ble_eq_true rfl, Nat.le_of_ble_eq_true rfl⟩) ⟨fun a U g mk q => by obtain ⟨q0, qP, qK⟩ := q; exact ⟨q0, qP, va_K.moved (u := U) (U := U.calling g mk a) (Vm.Alike.refl U.vm) qK⟩, va_recv hK hP (ci := 0) (q0 := 0) rfl rfl, fun U hU hW => ⟨rfl, by rw [hU]; exact hP, va_K.moved hW.alike hK⟩⟩ rfl rfl hl.1 rfl (lv_room (Nat.le_of_ble_eq_true rfl)) dX0_put_19 ⟨Nat.le_of_ble_eq_true rfl, Nat.le_of_ble_eq_true rfl⟩) ?_
      refine lv_istore_n (lv' := [(2, .int (nI (plF cb b n 0))), (0, .ref (ad 0)), (1, .int b)]) hx hb dX0_put_22 rfl hl (by decide) rfl (fun ls hl => ?_)
      obtain ⟨q, hq9⟩ : ∃ q, q = plF cb b n 0 := ⟨_, rfl⟩
      have hql : q ≤ n := by rw [hq9]; have := plF_le cb b n 0; omega
      rw [← hq9] at hl
      refine lv_aload_n hx hb dX0_put_23 rfl (lv_at hl 1 rfl) ?_
      refine lv_iload_n hx hb dX0_put_24 rfl (lv_at hl 0 rfl) ?_
      refine lv_iload_n hx hb dX0_put_25 rfl (lv_at hl 2 rfl) ?_
      refine bj_call (v := .int (bI (icF cb n q b))) (W.runV (As := [.int (nI q), .int b]) (rest := []) ⟨hx, hb, hml, hown, hts⟩ (c_X0_isChangeOf l dC dI cA ad st ck nh tp tl cb cy of wl wd n q b hn (by omega)) (cwV 2 hts gX0_put_X0_isChangeOf rfl rfl rfl (by decide +kernel) ⟨Nat.le_of_ble_eq_true rfl, Nat.le_of_ble_eq_true rfl⟩) ⟨fun a U g mk q => by obtain ⟨q0, qP, qK⟩ := q; exact ⟨q0, qP, va_K.moved (u := U) (U := U.calling g mk a) (Vm.Alike.refl U.vm) qK⟩, va_recv hK hP (ci := 0) (q0 := 0) rfl rfl, fun U hU hW => ⟨rfl, by rw [hU]; exact hP, va_K.moved hW.alike hK⟩⟩ rfl rfl hl.1 rfl (lv_room (Nat.le_of_ble_eq_true rfl)) dX0_put_26 ⟨Nat.le_of_ble_eq_true rfl, Nat.le_of_ble_eq_true rfl⟩) ?_
      refine lv_if_ne (tgt := 57) hx hb dX0_put_29 (by decide) (fun c_29 => ?_) (fun c_29 => ?_)
      · have hq24 : q < 24 := by
          have hic := bI_ne c_29
          unfold icF at hic
          by_cases a9 : n ≤ q
          · rw [if_pos a9] at hic; cases hic
          · omega
        refine lv_aload_n hx hb dX0_put_57 rfl (lv_at hl 1 rfl) ?_
        refine va_get (D := (dC, dI)) (ci := 0) (v := .ref (ad 4)) (C := RX0) (T := TX0) (N := 11) hx hb hts hin hown hK hP 0 rfl rfl 3 (by decide) (hts (.fieldLink RX0 19 "BlockJournal" "tape" "[I") (by decide +kernel)) (fun _ h9 => h9) rfl dX0_put_58 ?_
        refine lv_iconst (v := nI 0) hx hb dX0_put_61 (by decide) ?_
        refine lv_aload_n hx hb dX0_put_62 rfl (lv_at hl 1 rfl) ?_
        refine va_get (D := (dC, dI)) (ci := 0) (v := .ref (ad 6)) (C := RX0) (T := TX0) (N := 11) hx hb hts hin hown hK hP 0 rfl rfl 6 (by decide) (hts (.fieldLink RX0 25 "BlockJournal" "changeBytes" "[I") (by decide +kernel)) (fun _ h9 => h9) rfl dX0_put_63 ?_
        refine lv_iload_n hx hb dX0_put_66 rfl (lv_at hl 0 rfl) ?_
        refine lv_bipush (v := nI 64) hx hb dX0_put_67 (by decide) ?_
        refine lv_imul hx hb dX0_put_69 ?_
        refine bj_i (pk_mul q 64) ?_
        refine lv_bipush (v := nI 64) hx hb dX0_put_70 (by decide) ?_
        refine va_copyi (D := (dC, dI)) hx hb (hml.trans hl.1.symm) hown (hts (.methodLink RX0 73 arraycopyName) (by decide +kernel)) (hts (.native arraycopyName) (by decide +kernel)) (hts (.static arraycopyName) (by decide +kernel)) (hts (.initialized "java/lang/System") (by decide +kernel)) hK hP hD hS 4 6 0 0 (c0 := cA) (c1 := cA) (n0 := 64) (n1 := 1536) (f := tp) (g := cy) (ty := .int) rfl rfl rfl rfl rfl (sp := nI 0) (dp := nI (q * 64)) (n := nI 64) (nI_pos (by omega)) (nI_pos (by omega)) (nI_pos (by omega)) (by rw [nI_clamp (by omega), nI_clamp (by omega)]; omega) (by rw [nI_clamp (by omega), nI_clamp (by omega)]; omega) (fun _ _ => rfl) (Nat.le_of_ble_eq_true rfl) (Nat.le_of_ble_eq_true rfl) dX0_put_72 (fun H locs hP hD hS => ?_)
        rw [nI_clamp (n := 0) (by omega), nI_clamp (n := q * 64) (by omega), nI_clamp (n := 64) (by omega)] at hP hD
        have hP : va_P (dC, dI) vwCl (wX cA ad st ck nh tp tl cb (va_cpy tp cy 0 (q * 64) 64) (nI n) of wl wd) H := hP
        have hD : va_D A (wX cA ad st ck nh tp tl cb (va_cpy tp cy 0 (q * 64) 64) (nI n) of wl wd) := hD
        refine lv_aload_n hx hb dX0_put_75 rfl (lv_at hl 1 rfl) ?_
        refine va_get (D := (dC, dI)) (ci := 0) (v := .ref (ad 4)) (C := RX0) (T := TX0) (N := 11) hx hb hts hin hown hK hP 0 rfl rfl 3 (by decide) (hts (.fieldLink RX0 19 "BlockJournal" "tape" "[I") (by decide +kernel)) (fun _ h9 => h9) rfl dX0_put_76 ?_
        refine lv_iconst (v := nI 0) hx hb dX0_put_79 (by decide) ?_
        have hPc := hP.sub (ws' := [(ad 4, .inl (cA, 64, .inl tp))]) [4] rfl
        have hDc := hD.sub (ws' := [(ad 4, .inl (cA, 64, .inl tp))]) [4] (by decide) rfl
        have hFc := va_free (wc := [(ad 4, .inl (cA, 64, .inl tp))]) hD hS hA [4] rfl
        refine va_callv (va_runS (As := [.ref (ad 4), .int (nI 0)]) (rest := []) ⟨hx, hb, hml, hown, hts⟩ (c_fill l dC dI cA ad H.size (ad 4) 64 tp (nI 0) (by decide)) (va_cwS 2 hts gX0_put_J7_fill_53178 rfl rfl rfl (by decide +kernel) ⟨Nat.le_of_ble_eq_true rfl, Nat.le_of_ble_eq_true rfl⟩) ⟨fun a U g mk q => by obtain ⟨q0, q1, qP, qK, qD⟩ := q; exact ⟨q0, q1, qP, va_K.moved (u := U) (U := U.calling g mk a) (Vm.Alike.refl U.vm) qK, qD⟩, fun U hU hW => ⟨rfl, by rw [hU], by rw [hU]; exact hPc, va_K.moved hW.alike hK, hDc.weaken (fun _ _ _ _ => trivial)⟩⟩ rfl rfl hl.1 rfl (lv_room (Nat.le_of_ble_eq_true rfl)) dX0_put_80 ⟨Nat.le_of_ble_eq_true rfl, Nat.le_of_ble_eq_true rfl⟩) hS (fun q _ h => hFc q h) hFc (fun u t H1 locs ht hvm hw hB hz1 hk1 hS => ?_)
        obtain ⟨hP1, hK1, hD1⟩ := hB
        subst hw
        rw [ht] at hP1
        obtain ⟨hP, hD⟩ := va_join (wr := [(ad 0, .inr (0, [.ref (ad 1), .ref (ad 2), .ref (ad 3), .ref (ad 4), .int tl, .ref (ad 5), .ref (ad 6), .int (nI n), .int of, .int wl, .long wd])), (ad 1, .inl (cA, 6144, .inl st)), (ad 2, .inl (cA, 256, .inl ck)), (ad 3, .inl (cA, 64, .inl nh)), (ad 5, .inl (cA, 24, .inl cb)), (ad 6, .inl (cA, 1536, .inl (va_cpy tp cy 0 (q * 64) 64)))]) (w1 := [(ad 4, .inl (cA, 64, .inl (fiF tp (nI 0) 64)))]) hP hD [4] [0, 1, 2, 3, 5, 6] rfl rfl (by decide) (by decide) hk1 hFc hP1 hD1
        have hP : va_P (dC, dI) vwCl (wX cA ad st ck nh (fiF tp (nI 0) 64) tl cb (va_cpy tp cy 0 (q * 64) 64) (nI n) of wl wd) H1 := hP.sub (ws' := wX cA ad st ck nh (fiF tp (nI 0) 64) tl cb (va_cpy tp cy 0 (q * 64) 64) (nI n) of wl wd) [0, 1, 2, 3, 6, 4, 5] rfl
        have hD : va_D A (wX cA ad st ck nh (fiF tp (nI 0) 64) tl cb (va_cpy tp cy 0 (q * 64) 64) (nI n) of wl wd) := hD.sub (ws' := wX cA ad st ck nh (fiF tp (nI 0) 64) tl cb (va_cpy tp cy 0 (q * 64) 64) (nI n) of wl wd) [0, 1, 2, 3, 6, 4, 5] (by decide) rfl
        generalize H1 = H at hP hS ⊢
        refine lv_aload_n hx hb dX0_put_83 rfl (lv_at hl 1 rfl) ?_
        refine lv_iconst (v := nI 0) hx hb dX0_put_84 (by decide) ?_
        refine va_put (D := (dC, dI)) (ci := 0) (v := .int (nI 0)) (ty := .int) (C := RX0) (T := TX0) (N := 11) hx hb hts hin tyX0 tyX0_ok nmX0 hown hK hP hD hS 0 rfl rfl 4 (by decide) (hts (.fieldLink RX0 43 "BlockJournal" "tapeLength" "I") (by decide +kernel)) (fun _ h9 => h9) rfl (by decide +kernel) rfl rfl (Nat.le_of_ble_eq_true rfl) dX0_put_85 (fun H locs hP hD hS => ?_)
        have hP : va_P (dC, dI) vwCl (wX cA ad st ck nh (fiF tp (nI 0) 64) (nI 0) cb (va_cpy tp cy 0 (q * 64) 64) (nI n) of wl wd) H := hP
        have hD : va_D A (wX cA ad st ck nh (fiF tp (nI 0) 64) (nI 0) cb (va_cpy tp cy 0 (q * 64) 64) (nI n) of wl wd) := hD
        refine lv_aload_n hx hb dX0_put_88 rfl (lv_at hl 1 rfl) ?_
        refine va_get (D := (dC, dI)) (ci := 0) (v := .int (nI n)) (C := RX0) (T := TX0) (N := 11) hx hb hts hin hown hK hP 0 rfl rfl 7 (by decide) (hts (.fieldLink RX0 64 "BlockJournal" "changes" "I") (by decide +kernel)) (fun _ h9 => h9) rfl dX0_put_89 ?_
        have hcode : puK cb n b = 0 := by rw [puK, if_pos c_4, ← hq9, if_pos c_29]
        have hpost : ((st, nh, fiF tp (nI 0) 64, nI 0, cb, va_cpy tp cy 0 (q * 64) 64, nI n, of, wl, wd) : XS) = (st, nh, fiF tp (nI 0) 64, nI 0, puB cb n b, puY cb cy tp n b, nI (puN cb n b), of, wl, wd) := by simp only [puB, puY, puN, ← hq9, if_pos c_29]
        refine W.widen (k := 1) (n := 6) (Nat.zero_le _) (Nat.zero_le _) ?_
        refine vx_ret ?_
        have hres : nI n = nI (puN cb n b) := by simp only [puN, ← hq9, if_pos c_29]
        exact W.iret (v := nI n) hx hb hr (fun t ht hW => ⟨⟨_, (st, nh, fiF tp (nI 0) 64, nI 0, cb, va_cpy tp cy 0 (q * 64) 64, nI n, of, wl, wd), rfl, ⟨hcode, hres, hpost⟩, by rw [ht]; exact hP, va_K.moved hW.alike hK, hD⟩, hS.F ht⟩) hS.2.2 dX0_put_92
      · refine lv_aload_n hx hb dX0_put_32 rfl (lv_at hl 1 rfl) ?_
        refine va_get (D := (dC, dI)) (ci := 0) (v := .int (nI n)) (C := RX0) (T := TX0) (N := 11) hx hb hts hin hown hK hP 0 rfl rfl 7 (by decide) (hts (.fieldLink RX0 64 "BlockJournal" "changes" "I") (by decide +kernel)) (fun _ h9 => h9) rfl dX0_put_33 ?_
        refine lv_bipush (v := nI 24) hx hb dX0_put_36 (by decide) ?_
        refine lv_icmp_lt (tgt := 51) hx hb dX0_put_38 (by decide) (fun c_38 => ?_) (fun c_38 => ?_)
        · have n_38 : n < 24 := (nI_ltI (by omega) (by omega)).mp c_38
          refine lv_aload_n hx hb dX0_put_51 rfl (lv_at hl 1 rfl) ?_
          refine lv_iload_n hx hb dX0_put_52 rfl (lv_at hl 0 rfl) ?_
          refine lv_iload_n hx hb dX0_put_53 rfl (lv_at hl 2 rfl) ?_
          have hFc := va_free (wc := wX cA ad st ck nh tp tl cb cy (nI n) of wl wd) hD hS hA [0, 1, 2, 3, 4, 5, 6] rfl
          refine va_callv (va_runV (As := [.int (nI q), .int b]) (rest := []) ⟨hx, hb, hml, hown, hts⟩ (c_X0_openPlace l dC dI cA ad H.size st ck nh tp tl cb cy of wl wd n q b (by omega) (by omega)) (cwV 2 hts gX0_put_X0_openPlace rfl rfl rfl (by decide +kernel) ⟨Nat.le_of_ble_eq_true rfl, Nat.le_of_ble_eq_true rfl⟩) ⟨fun a U g mk q => by obtain ⟨q0, q1, qP, qK, qD⟩ := q; exact ⟨q0, q1, qP, va_K.moved (u := U) (U := U.calling g mk a) (Vm.Alike.refl U.vm) qK, qD⟩, va_recv hK hP (ci := 0) (q0 := 0) rfl rfl, fun U hU hW => ⟨rfl, by rw [hU], by rw [hU]; exact hP, va_K.moved hW.alike hK, hD.weaken (fun _ _ _ _ => trivial)⟩⟩ rfl rfl hl.1 rfl (lv_room (Nat.le_of_ble_eq_true rfl)) dX0_put_54 ⟨Nat.le_of_ble_eq_true rfl, Nat.le_of_ble_eq_true rfl⟩) hS (fun q _ h => hFc q h) hFc (fun u t H1 locs ht hvm hw hB hz1 hk1 hS => ?_)
          obtain ⟨hP1, hK1, hD1⟩ := hB
          subst hw
          rw [ht] at hP1
          have hP : va_P (dC, dI) vwCl (wX cA ad st ck nh tp tl (upd (va_cpy cb cb q (q + 1) (n - q)) q b) (va_cpy cy cy (q * 64) ((q + 1) * 64) ((n - q) * 64)) (nI (n + 1)) of wl wd) H1 := hP1
          have hD : va_D A (wX cA ad st ck nh tp tl (upd (va_cpy cb cb q (q + 1) (n - q)) q b) (va_cpy cy cy (q * 64) ((q + 1) * 64) ((n - q) * 64)) (nI (n + 1)) of wl wd) := ⟨hD1.1, fun k q h => hFc _ (hD1.2 k q h)⟩
          generalize H1 = H at hP hS ⊢
          have hq24 : q < 24 := by omega
          refine lv_aload_n hx hb dX0_put_57 rfl (lv_at hl 1 rfl) ?_
          refine va_get (D := (dC, dI)) (ci := 0) (v := .ref (ad 4)) (C := RX0) (T := TX0) (N := 11) hx hb hts hin hown hK hP 0 rfl rfl 3 (by decide) (hts (.fieldLink RX0 19 "BlockJournal" "tape" "[I") (by decide +kernel)) (fun _ h9 => h9) rfl dX0_put_58 ?_
          refine lv_iconst (v := nI 0) hx hb dX0_put_61 (by decide) ?_
          refine lv_aload_n hx hb dX0_put_62 rfl (lv_at hl 1 rfl) ?_
          refine va_get (D := (dC, dI)) (ci := 0) (v := .ref (ad 6)) (C := RX0) (T := TX0) (N := 11) hx hb hts hin hown hK hP 0 rfl rfl 6 (by decide) (hts (.fieldLink RX0 25 "BlockJournal" "changeBytes" "[I") (by decide +kernel)) (fun _ h9 => h9) rfl dX0_put_63 ?_
          refine lv_iload_n hx hb dX0_put_66 rfl (lv_at hl 0 rfl) ?_
          refine lv_bipush (v := nI 64) hx hb dX0_put_67 (by decide) ?_
          refine lv_imul hx hb dX0_put_69 ?_
          refine bj_i (pk_mul q 64) ?_
          refine lv_bipush (v := nI 64) hx hb dX0_put_70 (by decide) ?_
          refine va_copyi (D := (dC, dI)) hx hb (hml.trans hl.1.symm) hown (hts (.methodLink RX0 73 arraycopyName) (by decide +kernel)) (hts (.native arraycopyName) (by decide +kernel)) (hts (.static arraycopyName) (by decide +kernel)) (hts (.initialized "java/lang/System") (by decide +kernel)) hK hP hD hS 4 6 0 0 (c0 := cA) (c1 := cA) (n0 := 64) (n1 := 1536) (f := tp) (g := (va_cpy cy cy (q * 64) ((q + 1) * 64) ((n - q) * 64))) (ty := .int) rfl rfl rfl rfl rfl (sp := nI 0) (dp := nI (q * 64)) (n := nI 64) (nI_pos (by omega)) (nI_pos (by omega)) (nI_pos (by omega)) (by rw [nI_clamp (by omega), nI_clamp (by omega)]; omega) (by rw [nI_clamp (by omega), nI_clamp (by omega)]; omega) (fun _ _ => rfl) (Nat.le_of_ble_eq_true rfl) (Nat.le_of_ble_eq_true rfl) dX0_put_72 (fun H locs hP hD hS => ?_)
          rw [nI_clamp (n := 0) (by omega), nI_clamp (n := q * 64) (by omega), nI_clamp (n := 64) (by omega)] at hP hD
          have hP : va_P (dC, dI) vwCl (wX cA ad st ck nh tp tl (upd (va_cpy cb cb q (q + 1) (n - q)) q b) (va_cpy tp (va_cpy cy cy (q * 64) ((q + 1) * 64) ((n - q) * 64)) 0 (q * 64) 64) (nI (n + 1)) of wl wd) H := hP
          have hD : va_D A (wX cA ad st ck nh tp tl (upd (va_cpy cb cb q (q + 1) (n - q)) q b) (va_cpy tp (va_cpy cy cy (q * 64) ((q + 1) * 64) ((n - q) * 64)) 0 (q * 64) 64) (nI (n + 1)) of wl wd) := hD
          refine lv_aload_n hx hb dX0_put_75 rfl (lv_at hl 1 rfl) ?_
          refine va_get (D := (dC, dI)) (ci := 0) (v := .ref (ad 4)) (C := RX0) (T := TX0) (N := 11) hx hb hts hin hown hK hP 0 rfl rfl 3 (by decide) (hts (.fieldLink RX0 19 "BlockJournal" "tape" "[I") (by decide +kernel)) (fun _ h9 => h9) rfl dX0_put_76 ?_
          refine lv_iconst (v := nI 0) hx hb dX0_put_79 (by decide) ?_
          have hPc := hP.sub (ws' := [(ad 4, .inl (cA, 64, .inl tp))]) [4] rfl
          have hDc := hD.sub (ws' := [(ad 4, .inl (cA, 64, .inl tp))]) [4] (by decide) rfl
          have hFc := va_free (wc := [(ad 4, .inl (cA, 64, .inl tp))]) hD hS hA [4] rfl
          refine va_callv (va_runS (As := [.ref (ad 4), .int (nI 0)]) (rest := []) ⟨hx, hb, hml, hown, hts⟩ (c_fill l dC dI cA ad H.size (ad 4) 64 tp (nI 0) (by decide)) (va_cwS 2 hts gX0_put_J7_fill_53178 rfl rfl rfl (by decide +kernel) ⟨Nat.le_of_ble_eq_true rfl, Nat.le_of_ble_eq_true rfl⟩) ⟨fun a U g mk q => by obtain ⟨q0, q1, qP, qK, qD⟩ := q; exact ⟨q0, q1, qP, va_K.moved (u := U) (U := U.calling g mk a) (Vm.Alike.refl U.vm) qK, qD⟩, fun U hU hW => ⟨rfl, by rw [hU], by rw [hU]; exact hPc, va_K.moved hW.alike hK, hDc.weaken (fun _ _ _ _ => trivial)⟩⟩ rfl rfl hl.1 rfl (lv_room (Nat.le_of_ble_eq_true rfl)) dX0_put_80 ⟨Nat.le_of_ble_eq_true rfl, Nat.le_of_ble_eq_true rfl⟩) hS (fun q _ h => hFc q h) hFc (fun u t H1 locs ht hvm hw hB hz1 hk1 hS => ?_)
          obtain ⟨hP1, hK1, hD1⟩ := hB
          subst hw
          rw [ht] at hP1
          obtain ⟨hP, hD⟩ := va_join (wr := [(ad 0, .inr (0, [.ref (ad 1), .ref (ad 2), .ref (ad 3), .ref (ad 4), .int tl, .ref (ad 5), .ref (ad 6), .int (nI (n + 1)), .int of, .int wl, .long wd])), (ad 1, .inl (cA, 6144, .inl st)), (ad 2, .inl (cA, 256, .inl ck)), (ad 3, .inl (cA, 64, .inl nh)), (ad 5, .inl (cA, 24, .inl (upd (va_cpy cb cb q (q + 1) (n - q)) q b))), (ad 6, .inl (cA, 1536, .inl (va_cpy tp (va_cpy cy cy (q * 64) ((q + 1) * 64) ((n - q) * 64)) 0 (q * 64) 64)))]) (w1 := [(ad 4, .inl (cA, 64, .inl (fiF tp (nI 0) 64)))]) hP hD [4] [0, 1, 2, 3, 5, 6] rfl rfl (by decide) (by decide) hk1 hFc hP1 hD1
          have hP : va_P (dC, dI) vwCl (wX cA ad st ck nh (fiF tp (nI 0) 64) tl (upd (va_cpy cb cb q (q + 1) (n - q)) q b) (va_cpy tp (va_cpy cy cy (q * 64) ((q + 1) * 64) ((n - q) * 64)) 0 (q * 64) 64) (nI (n + 1)) of wl wd) H1 := hP.sub (ws' := wX cA ad st ck nh (fiF tp (nI 0) 64) tl (upd (va_cpy cb cb q (q + 1) (n - q)) q b) (va_cpy tp (va_cpy cy cy (q * 64) ((q + 1) * 64) ((n - q) * 64)) 0 (q * 64) 64) (nI (n + 1)) of wl wd) [0, 1, 2, 3, 6, 4, 5] rfl
          have hD : va_D A (wX cA ad st ck nh (fiF tp (nI 0) 64) tl (upd (va_cpy cb cb q (q + 1) (n - q)) q b) (va_cpy tp (va_cpy cy cy (q * 64) ((q + 1) * 64) ((n - q) * 64)) 0 (q * 64) 64) (nI (n + 1)) of wl wd) := hD.sub (ws' := wX cA ad st ck nh (fiF tp (nI 0) 64) tl (upd (va_cpy cb cb q (q + 1) (n - q)) q b) (va_cpy tp (va_cpy cy cy (q * 64) ((q + 1) * 64) ((n - q) * 64)) 0 (q * 64) 64) (nI (n + 1)) of wl wd) [0, 1, 2, 3, 6, 4, 5] (by decide) rfl
          generalize H1 = H at hP hS ⊢
          refine lv_aload_n hx hb dX0_put_83 rfl (lv_at hl 1 rfl) ?_
          refine lv_iconst (v := nI 0) hx hb dX0_put_84 (by decide) ?_
          refine va_put (D := (dC, dI)) (ci := 0) (v := .int (nI 0)) (ty := .int) (C := RX0) (T := TX0) (N := 11) hx hb hts hin tyX0 tyX0_ok nmX0 hown hK hP hD hS 0 rfl rfl 4 (by decide) (hts (.fieldLink RX0 43 "BlockJournal" "tapeLength" "I") (by decide +kernel)) (fun _ h9 => h9) rfl (by decide +kernel) rfl rfl (Nat.le_of_ble_eq_true rfl) dX0_put_85 (fun H locs hP hD hS => ?_)
          have hP : va_P (dC, dI) vwCl (wX cA ad st ck nh (fiF tp (nI 0) 64) (nI 0) (upd (va_cpy cb cb q (q + 1) (n - q)) q b) (va_cpy tp (va_cpy cy cy (q * 64) ((q + 1) * 64) ((n - q) * 64)) 0 (q * 64) 64) (nI (n + 1)) of wl wd) H := hP
          have hD : va_D A (wX cA ad st ck nh (fiF tp (nI 0) 64) (nI 0) (upd (va_cpy cb cb q (q + 1) (n - q)) q b) (va_cpy tp (va_cpy cy cy (q * 64) ((q + 1) * 64) ((n - q) * 64)) 0 (q * 64) 64) (nI (n + 1)) of wl wd) := hD
          refine lv_aload_n hx hb dX0_put_88 rfl (lv_at hl 1 rfl) ?_
          refine va_get (D := (dC, dI)) (ci := 0) (v := .int (nI (n + 1))) (C := RX0) (T := TX0) (N := 11) hx hb hts hin hown hK hP 0 rfl rfl 7 (by decide) (hts (.fieldLink RX0 64 "BlockJournal" "changes" "I") (by decide +kernel)) (fun _ h9 => h9) rfl dX0_put_89 ?_
          have hcode : puK cb n b = 0 := by rw [puK, if_pos c_4, ← hq9, if_neg (not_not_intro c_29), if_pos n_38]
          have hpost : ((st, nh, fiF tp (nI 0) 64, nI 0, upd (va_cpy cb cb q (q + 1) (n - q)) q b, va_cpy tp (va_cpy cy cy (q * 64) ((q + 1) * 64) ((n - q) * 64)) 0 (q * 64) 64, nI (n + 1), of, wl, wd) : XS) = (st, nh, fiF tp (nI 0) 64, nI 0, puB cb n b, puY cb cy tp n b, nI (puN cb n b), of, wl, wd) := by simp only [puB, puY, puN, ← hq9, if_neg (not_not_intro c_29)]
          refine W.widen (k := 1) (n := 6) (Nat.zero_le _) (Nat.zero_le _) ?_
          refine vx_ret ?_
          have hres : nI (n + 1) = nI (puN cb n b) := by simp only [puN, ← hq9, if_neg (not_not_intro c_29)]
          exact W.iret (v := nI (n + 1)) hx hb hr (fun t ht hW => ⟨⟨_, (st, nh, fiF tp (nI 0) 64, nI 0, upd (va_cpy cb cb q (q + 1) (n - q)) q b, va_cpy tp (va_cpy cy cy (q * 64) ((q + 1) * 64) ((n - q) * 64)) 0 (q * 64) 64, nI (n + 1), of, wl, wd), rfl, ⟨hcode, hres, hpost⟩, by rw [ht]; exact hP, va_K.moved hW.alike hK, hD⟩, hS.F ht⟩) hS.2.2 dX0_put_92
        · have n_38 : ¬ n < 24 := fun h => c_38 ((nI_ltI (by omega) (by omega)).mpr h)
          obtain ⟨sa, hsa⟩ := hE.2.2.2 (67, "there are 24 changes of other blocks") (by decide +kernel)
          have hgd : ∀ w ∈ (vx_atS RX0 50 "java/lang/IllegalStateException" ["java/lang/RuntimeException", "java/lang/Exception"]).filter goodWord, w ∈ wsX0_put := by decide +kernel
          exact vx_throwS (own := RX0) (cls := "java/lang/IllegalStateException") (text := "there are 24 changes of other blocks") (names := ["java/lang/RuntimeException", "java/lang/Exception"]) hx hb h9 hown (by decide) (by decide) (hts (.classLink RX0 46 "java/lang/IllegalStateException") (by decide +kernel)) (hts (.initialized "java/lang/IllegalStateException") (by decide +kernel)) hsa (vx_hat (B := bjB) (fun w h => hts w (hgd w h)) (by decide +kernel) (fun w h => va_any (by revert w; decide +kernel) (hE.2.2.1 w h))) (by decide +kernel) hE.1 hE.2.1 hS (hl.1.trans hml.symm) dX0_put_41 dX0_put_44 dX0_put_45 dX0_put_47 dX0_put_50 (fun x hx9 => (hnt x hx9).elim) (Nat.le_of_ble_eq_true rfl) (Nat.le_of_ble_eq_true rfl) (Nat.le_of_ble_eq_true rfl) (Nat.le_of_ble_eq_true rfl) hlocks (fun t hal hz hk => ⟨(), trivial, ⟨Or.inr ⟨by rw [puK, if_pos c_4, ← hq9, if_neg (not_not_intro c_29), if_neg n_38], rfl⟩, (bj_thr hP hK hD hS hal hz hk).1⟩, (bj_thr hP hK hD hS hal hz hk).2⟩) hS.2.2 (Nat.le_of_ble_eq_true rfl) (Nat.le_of_ble_eq_true rfl)
    · obtain ⟨sa, hsa⟩ := hE.2.2.2 (55, "the block is not 25 .. 95") (by decide +kernel)
      have hgd : ∀ w ∈ (vx_atS RX0 40 "java/lang/IllegalArgumentException" ["java/lang/RuntimeException", "java/lang/Exception"]).filter goodWord, w ∈ wsX0_put := by decide +kernel
      exact vx_throwS (own := RX0) (cls := "java/lang/IllegalArgumentException") (text := "the block is not 25 .. 95") (names := ["java/lang/RuntimeException", "java/lang/Exception"]) hx hb h9 hown (by decide) (by decide) (hts (.classLink RX0 36 "java/lang/IllegalArgumentException") (by decide +kernel)) (hts (.initialized "java/lang/IllegalArgumentException") (by decide +kernel)) hsa (vx_hat (B := bjB) (fun w h => hts w (hgd w h)) (by decide +kernel) (fun w h => va_any (by revert w; decide +kernel) (hE.2.2.1 w h))) (by decide +kernel) hE.1 hE.2.1 hS (hl.1.trans hml.symm) dX0_put_7 dX0_put_10 dX0_put_11 dX0_put_13 dX0_put_16 (fun x hx9 => (hnt x hx9).elim) (Nat.le_of_ble_eq_true rfl) (Nat.le_of_ble_eq_true rfl) (Nat.le_of_ble_eq_true rfl) (Nat.le_of_ble_eq_true rfl) hlocks (fun t hal hz hk => ⟨(), trivial, ⟨Or.inl ⟨by rw [puK, if_neg (not_not_intro c_4)], rfl⟩, (bj_thr hP hK hD hS hal hz hk).1⟩, (bj_thr hP hK hD hS hal hz hk).2⟩) hS.2.2 (Nat.le_of_ble_eq_true rfl) (Nat.le_of_ble_eq_true rfl)
  rw [hH, hlo] at goal
  exact goal

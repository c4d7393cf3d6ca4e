/-- what feed does: 0 it returns, 1 and 2 its exceptions -/
def feK (n : Int32) (T : Nat) : Nat := if n < nI 1 then 1 else if n ≤ nI 8 then (if T + n.toNatClampNeg ≤ 64 then 0 else 2) else 1
/-- the tape with i bytes of v behind its T -/
def fdF (tp : Nat → Int32) (T : Nat) (v : Int64) : Nat → Nat → Int32
  | 0 => tp
  | i + 1 => upd (fdF tp T v i) (T + i) ((v.toUInt64 >>> ((nI (8 * i)).toInt64.toUInt64 &&& Int64.toUInt64 63)).toInt64.toInt32 &&& nI 255)

set_option maxHeartbeats 4000000 in
set_option maxRecDepth 100000 in
theorem c_X0_feed (l : Launch) (h9 : l.stackTraces = false) (dC : Nat → ClassId) (dI : Nat → Nat → Nat) (cA : ClassId) (ad : Nat → Nat) (sz : Nat) (st ck nh tp : Nat → Int32) (cb cy : Nat → Int32) (nc of wl : Int32) (wd : Int64) (T : Nat) (n : Int32) (v : Int64) (hT : T ≤ 64) : vx_Met l yX0_feed wsX0_feed ({ frames := 6, cells := 1, slots := 6, locals := 82 } : Room) (va_Pc [.ref (ad 0), .int n, .long v] (fun U => U.heap.size = sz ∧ va_P (dC, dI) vwCl (wX cA ad st ck nh tp (nI T) cb cy nc of wl wd) U.heap ∧ va_K (dC, dI) vwCl [(cA, .int)] U ∧ va_D (fun _ => True) (wX cA ad st ck nh tp (nI T) cb cy nc of wl wd) ∧ bjE (va_A (wX cA ad st ck nh tp (nI T) cb cy nc of wl wd) sz) U U.heap)) (va_Qi (fun (r : Int32) (u : XS) => feK n T = 0 ∧ r = nI (T + n.toNatClampNeg) ∧ u = (st, nh, fdF tp T v n.toNatClampNeg, nI (T + n.toNatClampNeg), cb, cy, nc, of, wl, wd)) (aX dC dI cA ad ck (va_A (wX cA ad st ck nh tp (nI T) cb cy nc of wl wd) sz)) (va_A (wX cA ad st ck nh tp (nI T) cb cy nc of wl wd) sz)) (vx_X (fun _ : Unit => True) (fun E _ t => ((feK n T = 1 ∧ E = "java/lang/IllegalArgumentException") ∨ (feK n T = 2 ∧ E = "java/lang/IllegalStateException")) ∧ aX dC dI cA ad ck (va_A (wX cA ad st ck nh tp (nI T) cb cy nc of wl wd) sz) (st, nh, tp, nI T, cb, cy, nc, of, wl, wd) t) (va_A (wX cA ad st ck nh tp (nI T) cb cy nc of wl wd) sz)) 1 6 (va_A (wX cA ad st ck nh tp (nI T) cb cy nc of wl wd) sz) := by
  refine vx_ofW (cc := cX0_feed) (maxL := 5) (ret := (some .int)) (by decide) rfl ?_
  intro p e s m args below meth c s₁ B hml hnt hv
  obtain ⟨rfl, hsz, hP, hK, hD0, hE⟩ := hv
  have hx := B.exec
  have hb := B.bytes
  have hr := B.returns
  have hts := atoms_spec (ws := wsX0_feed) B.pre
  have hown : s.vm.findClass RX0 = some m.cls := findClass_of_methodNamed B.named
  have hlocks := B.notSynchronized
  have hin : ∀ w ∈ u_ws RX0 TX0 11, w ∈ wsX0_feed := by decide +kernel
  subst hsz
  have hD := hD0.self (sz := s.heap.size)
  generalize hAe : va_A (wX cA ad st ck nh tp (nI T) cb cy nc of wl wd) s.heap.size = A at hD hE ⊢
  have hA : ∀ q : Nat, s.heap.size ≤ q → A q := fun q h => by rw [← hAe]; exact Or.inr h
  obtain ⟨H, locs, hH, hlo, hS⟩ : ∃ (H : Heap) (locs : List Loc), H = s.heap ∧ locs = [] ∧ va_S A s.heap H locs := ⟨s.heap, [], rfl, rfl, va_S.rf⟩
  rw [← hH] at hP
  have hP : va_P (dC, dI) vwCl (wX cA ad st ck nh tp (nI T) cb cy nc of wl wd) H := hP
  have hl := lv_entry ([.ref (ad 0), .int n, .long v]) (n := 5) (Nat.le_of_ble_eq_true rfl)
  rw [lg_entry_eq]
  generalize (lg_sl ([.ref (ad 0), .int n, .long v]) ++ List.replicate (5 - (lg_sl ([.ref (ad 0), .int n, .long v])).length) Slot.unset).toArray = ls at hl ⊢
  have goal : W p l e (headSpec wsX0_feed ({ frames := 6, cells := 1, slots := 6, locals := 82 } : Room)).room s m ([.ref (ad 0), .int n, .long v] : List Value).toArray below meth c H locs 0 0 (vx_MQ below (va_Qi (fun (r : Int32) (u : XS) => feK n T = 0 ∧ r = nI (T + n.toNatClampNeg) ∧ u = (st, nh, fdF tp T v n.toNatClampNeg, nI (T + n.toNatClampNeg), cb, cy, nc, of, wl, wd)) (aX dC dI cA ad ck A) A) (vx_X (fun _ : Unit => True) (fun E _ t => ((feK n T = 1 ∧ E = "java/lang/IllegalArgumentException") ∨ (feK n T = 2 ∧ E = "java/lang/IllegalStateException")) ∧ aX dC dI cA ad ck A (st, nh, tp, nI T, cb, cy, nc, of, wl, wd) t) A) ([.ref (ad 0), .int n, .long v] : List Value).toArray s 1 6 A) (F0 m 0 ls []) := by
    clear hH hlo
    have hl : lv_has ls 5 [(0, .ref (ad 0)), (1, .int n), (2, .long v)] := hl
    refine lv_iload_n hx hb dX0_feed_0 rfl (lv_at hl 1 rfl) ?_
    refine lv_iconst (v := nI 1) hx hb dX0_feed_1 (by decide) ?_
    refine lv_icmp_lt (tgt := 11) hx hb dX0_feed_2 (by decide) (fun c_2 => ?_) (fun c_2 => ?_)
    · obtain ⟨sa, hsa⟩ := hE.2.2.2 (38, "n is not 1 .. 8") (by decide +kernel)
      have hgd : ∀ w ∈ (vx_atS RX0 40 "java/lang/IllegalArgumentException" ["java/lang/RuntimeException", "java/lang/Exception"]).filter goodWord, w ∈ wsX0_feed := by decide +kernel
      exact vx_throwS (own := RX0) (cls := "java/lang/IllegalArgumentException") (text := "n is not 1 .. 8") (names := ["java/lang/RuntimeException", "java/lang/Exception"]) hx hb h9 hown (by decide) (by decide) (hts (.classLink RX0 36 "java/lang/IllegalArgumentException") (by decide +kernel)) (hts (.initialized "java/lang/IllegalArgumentException") (by decide +kernel)) hsa (vx_hat (B := bjB) (fun w h => hts w (hgd w h)) (by decide +kernel) (fun w h => va_any (by revert w; decide +kernel) (hE.2.2.1 w h))) (by decide +kernel) hE.1 hE.2.1 hS (hl.1.trans hml.symm) dX0_feed_11 dX0_feed_14 dX0_feed_15 dX0_feed_17 dX0_feed_20 (fun x hx9 => (hnt x hx9).elim) (Nat.le_of_ble_eq_true rfl) (Nat.le_of_ble_eq_true rfl) (Nat.le_of_ble_eq_true rfl) (Nat.le_of_ble_eq_true rfl) hlocks (fun t hal hz hk => ⟨(), trivial, ⟨Or.inl ⟨by rw [feK, if_pos c_2], rfl⟩, (bj_thr hP hK hD hS hal hz hk).1⟩, (bj_thr hP hK hD hS hal hz hk).2⟩) hS.2.2 (Nat.le_of_ble_eq_true rfl) (Nat.le_of_ble_eq_true rfl)
    · refine lv_iload_n hx hb dX0_feed_5 rfl (lv_at hl 1 rfl) ?_
      refine lv_bipush (v := nI 8) hx hb dX0_feed_6 (by decide) ?_
      refine lv_icmp_le (tgt := 21) hx hb dX0_feed_8 (by decide) (fun c_8 => ?_) (fun c_8 => ?_)
      · obtain ⟨kk, h8, en⟩ : ∃ kk : Nat, kk ≤ 8 ∧ n = nI kk := nI_of2 (M := nI 8) (by decide) (fun h => c_2 (Int32.lt_trans h (by decide))) c_8
        have hcl : n.toNatClampNeg = kk := by rw [en]; exact nI_clamp (by omega)
        rw [en] at hl
        refine lv_aload_n hx hb dX0_feed_21 rfl (lv_at hl 0 rfl) ?_
        refine va_get (D := (dC, dI)) (ci := 0) (v := .int (nI T)) (C := RX0) (T := TX0) (N := 11) hx hb hts hin hown hK hP 0 rfl rfl 4 (by decide) (hts (.fieldLink RX0 43 "BlockJournal" "tapeLength" "I") (by decide +kernel)) (fun _ h9 => h9) rfl dX0_feed_22 ?_
        refine lv_iload_n hx hb dX0_feed_25 rfl (lv_at hl 1 rfl) ?_
        refine lv_iadd hx hb dX0_feed_26 ?_
        refine bj_i (nI_add T kk) ?_
        refine lv_bipush (v := nI 64) hx hb dX0_feed_27 (by decide) ?_
        refine lv_icmp_le (tgt := 42) hx hb dX0_feed_29 (by decide) (fun c_29 => ?_) (fun c_29 => ?_)
        · have n_29 : T + kk ≤ 64 := (nI_leI (by omega) (by omega)).mp c_29
          refine lv_iconst (v := nI 0) hx hb dX0_feed_42 (by decide) ?_
          refine lv_istore (lv' := [(4, .int (nI 0)), (0, .ref (ad 0)), (1, .int (nI kk)), (2, .long v)]) hx hb dX0_feed_43 hl (by decide) rfl (fun ls hl => ?_)
          have loop_45 : ∀ (k : Nat) (i : Nat), i + k = kk → ∀ (H : Heap) (locs : List Loc) (ls : Array Slot), va_P (dC, dI) vwCl (wX cA ad st ck nh (fdF tp T v i) (nI T) cb cy nc of wl wd) H → va_D A (wX cA ad st ck nh (fdF tp T v i) (nI T) cb cy nc of wl wd) → va_S A s.heap H locs → lv_has ls 5 [(0, .ref (ad 0)), (1, .int (nI kk)), (2, .long v), (4, .int (nI i))] → W p l e (headSpec wsX0_feed ({ frames := 6, cells := 1, slots := 6, locals := 82 } : Room)).room s m ([.ref (ad 0), .int n, .long v] : List Value).toArray below meth c H locs 0 0 (vx_MQ below (va_Qi (fun (r : Int32) (u : XS) => feK n T = 0 ∧ r = nI (T + n.toNatClampNeg) ∧ u = (st, nh, fdF tp T v n.toNatClampNeg, nI (T + n.toNatClampNeg), cb, cy, nc, of, wl, wd)) (aX dC dI cA ad ck A) A) (vx_X (fun _ : Unit => True) (fun E _ t => ((feK n T = 1 ∧ E = "java/lang/IllegalArgumentException") ∨ (feK n T = 2 ∧ E = "java/lang/IllegalStateException")) ∧ aX dC dI cA ad ck A (st, nh, tp, nI T, cb, cy, nc, of, wl, wd) t) A) ([.ref (ad 0), .int n, .long v] : List Value).toArray s 1 6 A) (F0 m 45 ls []) := by
            intro k
            induction k with
            | zero =>
              intro i hk H locs ls hP hD hS hl
              refine lv_iload hx hb dX0_feed_45 (lv_at hl 3 rfl) ?_
              refine lv_iload_n hx hb dX0_feed_47 rfl (lv_at hl 1 rfl) ?_
              refine lv_icmp_ge (tgt := 81) hx hb dX0_feed_48 (by decide) (fun c_48 => ?_) (fun c_48 => ?_)
              · have n_48 : kk ≤ i := (nI_leI (by omega) (by omega)).mp c_48
                rw [show i = kk by omega] at hP hD
                refine lv_aload_n hx hb dX0_feed_81 rfl (lv_at hl 0 rfl) ?_
                refine lv_dup hx hb dX0_feed_82 rfl ?_
                refine va_get (D := (dC, dI)) (ci := 0) (v := .int (nI T)) (C := RX0) (T := TX0) (N := 11) hx hb hts hin hown hK hP 0 rfl rfl 4 (by decide) (hts (.fieldLink RX0 43 "BlockJournal" "tapeLength" "I") (by decide +kernel)) (fun _ h9 => h9) rfl dX0_feed_83 ?_
                refine lv_iload_n hx hb dX0_feed_86 rfl (lv_at hl 1 rfl) ?_
                refine lv_iadd hx hb dX0_feed_87 ?_
                refine bj_i (nI_add T kk) ?_
                refine va_put (D := (dC, dI)) (ci := 0) (v := .int (nI (T + kk))) (ty := .int) (C := RX0) (T := TX0) (N := 11) hx hb hts hin tyX0 tyX0_ok nmX0 hown hK hP hD hS 0 rfl rfl 4 (by decide) (hts (.fieldLink RX0 43 "BlockJournal" "tapeLength" "I") (by decide +kernel)) (fun _ h9 => h9) rfl (by decide +kernel) rfl rfl (Nat.le_of_ble_eq_true rfl) dX0_feed_88 (fun H locs hP hD hS => ?_)
                have hP : va_P (dC, dI) vwCl (wX cA ad st ck nh (fdF tp T v kk) (nI (T + kk)) cb cy nc of wl wd) H := hP
                have hD : va_D A (wX cA ad st ck nh (fdF tp T v kk) (nI (T + kk)) cb cy nc of wl wd) := hD
                refine lv_aload_n hx hb dX0_feed_91 rfl (lv_at hl 0 rfl) ?_
                refine va_get (D := (dC, dI)) (ci := 0) (v := .int (nI (T + kk))) (C := RX0) (T := TX0) (N := 11) hx hb hts hin hown hK hP 0 rfl rfl 4 (by decide) (hts (.fieldLink RX0 43 "BlockJournal" "tapeLength" "I") (by decide +kernel)) (fun _ h9 => h9) rfl dX0_feed_92 ?_
                have hcode : feK n T = 0 := by rw [feK, if_neg c_2, if_pos c_8, hcl, if_pos n_29]
                have hpost : ((st, nh, fdF tp T v kk, nI (T + kk), cb, cy, nc, of, wl, wd) : XS) = (st, nh, fdF tp T v n.toNatClampNeg, nI (T + n.toNatClampNeg), cb, cy, nc, of, wl, wd) := by rw [hcl]
                refine W.widen (k := 1) (n := 6) (Nat.zero_le _) (Nat.zero_le _) ?_
                refine vx_ret ?_
                have hres : nI (T + kk) = nI (T + n.toNatClampNeg) := by rw [hcl]
                exact W.iret (v := nI (T + kk)) hx hb hr (fun t ht hW => ⟨⟨_, (st, nh, fdF tp T v kk, nI (T + kk), cb, cy, nc, of, wl, wd), rfl, ⟨hcode, hres, hpost⟩, by rw [ht]; exact hP, va_K.moved hW.alike hK, hD⟩, hS.F ht⟩) hS.2.2 dX0_feed_95
              · have n_48 : ¬ kk ≤ i := fun h => c_48 ((nI_leI (by omega) (by omega)).mpr h)
                exfalso; omega
            | succ k ih =>
              intro i hk H locs ls hP hD hS hl
              refine lv_iload hx hb dX0_feed_45 (lv_at hl 3 rfl) ?_
              refine lv_iload_n hx hb dX0_feed_47 rfl (lv_at hl 1 rfl) ?_
              refine lv_icmp_ge (tgt := 81) hx hb dX0_feed_48 (by decide) (fun c_48 => ?_) (fun c_48 => ?_)
              · have n_48 : kk ≤ i := (nI_leI (by omega) (by omega)).mp c_48
                exfalso; omega
              · have n_48 : ¬ kk ≤ i := fun h => c_48 ((nI_leI (by omega) (by omega)).mpr h)
                refine lv_aload_n hx hb dX0_feed_51 rfl (lv_at hl 0 rfl) ?_
                refine va_get (D := (dC, dI)) (ci := 0) (v := .ref (ad 4)) (C := RX0) (T := TX0) (N := 11) hx hb hts hin hown hK hP 0 rfl rfl 3 (by decide) (hts (.fieldLink RX0 19 "BlockJournal" "tape" "[I") (by decide +kernel)) (fun _ h9 => h9) rfl dX0_feed_52 ?_
                refine lv_aload_n hx hb dX0_feed_55 rfl (lv_at hl 0 rfl) ?_
                refine va_get (D := (dC, dI)) (ci := 0) (v := .int (nI T)) (C := RX0) (T := TX0) (N := 11) hx hb hts hin hown hK hP 0 rfl rfl 4 (by decide) (hts (.fieldLink RX0 43 "BlockJournal" "tapeLength" "I") (by decide +kernel)) (fun _ h9 => h9) rfl dX0_feed_56 ?_
                refine lv_iload hx hb dX0_feed_59 (lv_at hl 3 rfl) ?_
                refine lv_iadd hx hb dX0_feed_61 ?_
                refine bj_i (nI_add T i) ?_
                refine lv_lload_n hx hb dX0_feed_62 rfl (lv_at hl 2 rfl) ?_
                refine lv_bipush (v := nI 8) hx hb dX0_feed_63 (by decide) ?_
                refine lv_iload hx hb dX0_feed_65 (lv_at hl 3 rfl) ?_
                refine lv_imul hx hb dX0_feed_67 ?_
                refine bj_i (pk_mul 8 i) ?_
                refine lv_lushr hx hb dX0_feed_68 rfl ?_
                refine lv_l2i hx hb dX0_feed_69 rfl ?_
                refine lv_sipush (v := nI 255) hx hb dX0_feed_70 (by decide) ?_
                refine lv_iand hx hb dX0_feed_73 ?_
                refine va_iast (D := (dC, dI)) hx hb hK hP hD hS 4 0 (cA := cA) (n := 64) (f := (fdF tp T v i)) rfl rfl (i := (nI (T + i))) (vp_in_nI (by omega) (by omega)) dX0_feed_74 (fun H locs hP hD hS => ?_)
                rw [nI_clamp (n := T + i) (by omega)] at hP hD
                have hP : va_P (dC, dI) vwCl (wX cA ad st ck nh (upd (fdF tp T v i) (T + i) ((((v.toUInt64 >>> ((nI (8 * i)).toInt64.toUInt64 &&& Int64.toUInt64 63)).toInt64).toInt32) &&& (nI 255))) (nI T) cb cy nc of wl wd) H := hP
                have hD : va_D A (wX cA ad st ck nh (upd (fdF tp T v i) (T + i) ((((v.toUInt64 >>> ((nI (8 * i)).toInt64.toUInt64 &&& Int64.toUInt64 63)).toInt64).toInt32) &&& (nI 255))) (nI T) cb cy nc of wl wd) := hD
                refine lv_iinc (v := nI (i + 1)) (lv' := [(4, .int (nI (i + 1))), (0, .ref (ad 0)), (1, .int (nI kk)), (2, .long v)]) hx hb dX0_feed_75 hl (k := 3) rfl (nI_add i 1) (by decide) rfl (fun ls hl => ?_)
                refine lv_goto (tgt := 45) hx hb dX0_feed_78 (by decide) ?_
                exact ih (i + 1) (by omega) _ _ _ hP hD hS (lv_sub hl [1, 2, 3, 0] rfl)
          exact loop_45 kk 0 (by omega) _ _ _ hP hD hS (lv_sub hl [1, 2, 3, 0] rfl)
        · have n_29 : ¬ (T + kk) ≤ 64 := fun h => c_29 ((nI_leI (by omega) (by omega)).mpr h)
          obtain ⟨sa, hsa⟩ := hE.2.2.2 (48, "the tape would have more than 64 bytes") (by decide +kernel)
          have hgd : ∀ w ∈ (vx_atS RX0 50 "java/lang/IllegalStateException" ["java/lang/RuntimeException", "java/lang/Exception"]).filter goodWord, w ∈ wsX0_feed := by decide +kernel
          exact vx_throwS (own := RX0) (cls := "java/lang/IllegalStateException") (text := "the tape would have more than 64 bytes") (names := ["java/lang/RuntimeException", "java/lang/Exception"]) hx hb h9 hown (by decide) (by decide) (hts (.classLink RX0 46 "java/lang/IllegalStateException") (by decide +kernel)) (hts (.initialized "java/lang/IllegalStateException") (by decide +kernel)) hsa (vx_hat (B := bjB) (fun w h => hts w (hgd w h)) (by decide +kernel) (fun w h => va_any (by revert w; decide +kernel) (hE.2.2.1 w h))) (by decide +kernel) hE.1 hE.2.1 hS (hl.1.trans hml.symm) dX0_feed_32 dX0_feed_35 dX0_feed_36 dX0_feed_38 dX0_feed_41 (fun x hx9 => (hnt x hx9).elim) (Nat.le_of_ble_eq_true rfl) (Nat.le_of_ble_eq_true rfl) (Nat.le_of_ble_eq_true rfl) (Nat.le_of_ble_eq_true rfl) hlocks (fun t hal hz hk => ⟨(), trivial, ⟨Or.inr ⟨by rw [feK, if_neg c_2, if_pos c_8, hcl, if_neg n_29], rfl⟩, (bj_thr hP hK hD hS hal hz hk).1⟩, (bj_thr hP hK hD hS hal hz hk).2⟩) hS.2.2 (Nat.le_of_ble_eq_true rfl) (Nat.le_of_ble_eq_true rfl)
      · obtain ⟨sa, hsa⟩ := hE.2.2.2 (38, "n is not 1 .. 8") (by decide +kernel)
        have hgd : ∀ w ∈ (vx_atS RX0 40 "java/lang/IllegalArgumentException" ["java/lang/RuntimeException", "java/lang/Exception"]).filter goodWord, w ∈ wsX0_feed := by decide +kernel
        exact vx_throwS (own := RX0) (cls := "java/lang/IllegalArgumentException") (text := "n is not 1 .. 8") (names := ["java/lang/RuntimeException", "java/lang/Exception"]) hx hb h9 hown (by decide) (by decide) (hts (.classLink RX0 36 "java/lang/IllegalArgumentException") (by decide +kernel)) (hts (.initialized "java/lang/IllegalArgumentException") (by decide +kernel)) hsa (vx_hat (B := bjB) (fun w h => hts w (hgd w h)) (by decide +kernel) (fun w h => va_any (by revert w; decide +kernel) (hE.2.2.1 w h))) (by decide +kernel) hE.1 hE.2.1 hS (hl.1.trans hml.symm) dX0_feed_11 dX0_feed_14 dX0_feed_15 dX0_feed_17 dX0_feed_20 (fun x hx9 => (hnt x hx9).elim) (Nat.le_of_ble_eq_true rfl) (Nat.le_of_ble_eq_true rfl) (Nat.le_of_ble_eq_true rfl) (Nat.le_of_ble_eq_true rfl) hlocks (fun t hal hz hk => ⟨(), trivial, ⟨Or.inl ⟨by rw [feK, if_neg c_2, if_neg c_8], rfl⟩, (bj_thr hP hK hD hS hal hz hk).1⟩, (bj_thr hP hK hD hS hal hz hk).2⟩) hS.2.2 (Nat.le_of_ble_eq_true rfl) (Nat.le_of_ble_eq_true rfl)
  rw [hH, hlo] at goal
  exact goal

def loK (n : Int32) (o : Bool) : Nat := if nI 1 ≤ n then (if bI o = 0 then 0 else 2) else 1

set_option maxHeartbeats 4000000 in
set_option maxRecDepth 100000 in
theorem c_X0_lose (l : Launch) (h9 : l.stackTraces = false) (dC : Nat → ClassId) (dI : Nat → Nat → Nat) (cA : ClassId) (ad : Nat → Nat) (sz : Nat) (st ck nh tp : Nat → Int32) (tl : Int32) (cb cy : Nat → Int32) (nc wl : Int32) (wd : Int64) (o : Bool) (n : Int32)  : vx_Met l yX0_lose wsX0_lose ({ frames := 6, cells := 1, slots := 6, locals := 82 } : Room) (va_Pc [.ref (ad 0), .int n] (fun U => U.heap.size = sz ∧ va_P (dC, dI) vwCl (wX cA ad st ck nh tp tl cb cy nc (bI o) wl wd) U.heap ∧ va_K (dC, dI) vwCl [(cA, .int)] U ∧ va_D (fun _ => True) (wX cA ad st ck nh tp tl cb cy nc (bI o) wl wd) ∧ bjE (va_A (wX cA ad st ck nh tp tl cb cy nc (bI o) wl wd) sz) U U.heap)) (va_Qv (fun u : XS => loK n o = 0 ∧ u = (st, nh, tp, tl, cb, cy, nc, bI o, n - nI 1, wd)) (aX dC dI cA ad ck (va_A (wX cA ad st ck nh tp tl cb cy nc (bI o) wl wd) sz)) (va_A (wX cA ad st ck nh tp tl cb cy nc (bI o) wl wd) sz)) (vx_X (fun _ : Unit => True) (fun E _ t => ((loK n o = 1 ∧ E = "java/lang/IllegalArgumentException") ∨ (loK n o = 2 ∧ E = "java/lang/IllegalStateException")) ∧ aX dC dI cA ad ck (va_A (wX cA ad st ck nh tp tl cb cy nc (bI o) wl wd) sz) (st, nh, tp, tl, cb, cy, nc, bI o, wl, wd) t) (va_A (wX cA ad st ck nh tp tl cb cy nc (bI o) wl wd) sz)) 1 6 (va_A (wX cA ad st ck nh tp tl cb cy nc (bI o) wl wd) sz) := by
  refine vx_ofW (cc := cX0_lose) (maxL := 2) (ret := none) (by decide) rfl ?_
  intro p e s m args below meth c s₁ B hml hnt hv
  obtain ⟨rfl, hsz, hP, hK, hD0, hE⟩ := hv
  have hx := B.exec
  have hb := B.bytes
  have hr := B.returns
  have hts := atoms_spec (ws := wsX0_lose) B.pre
  have hown : s.vm.findClass RX0 = some m.cls := findClass_of_methodNamed B.named
  have hlocks := B.notSynchronized
  have hin : ∀ w ∈ u_ws RX0 TX0 11, w ∈ wsX0_lose := by decide +kernel
  subst hsz
  have hD := hD0.self (sz := s.heap.size)
  generalize hAe : va_A (wX cA ad st ck nh tp tl cb cy nc (bI o) wl wd) s.heap.size = A at hD hE ⊢
  have hA : ∀ q : Nat, s.heap.size ≤ q → A q := fun q h => by rw [← hAe]; exact Or.inr h
  obtain ⟨H, locs, hH, hlo, hS⟩ : ∃ (H : Heap) (locs : List Loc), H = s.heap ∧ locs = [] ∧ va_S A s.heap H locs := ⟨s.heap, [], rfl, rfl, va_S.rf⟩
  rw [← hH] at hP
  have hP : va_P (dC, dI) vwCl (wX cA ad st ck nh tp tl cb cy nc (bI o) wl wd) H := hP
  have hl := lv_entry ([.ref (ad 0), .int n]) (n := 2) (Nat.le_of_ble_eq_true rfl)
  rw [lg_entry_eq]
  generalize (lg_sl ([.ref (ad 0), .int n]) ++ List.replicate (2 - (lg_sl ([.ref (ad 0), .int n])).length) Slot.unset).toArray = ls at hl ⊢
  have goal : W p l e (headSpec wsX0_lose ({ frames := 6, cells := 1, slots := 6, locals := 82 } : Room)).room s m ([.ref (ad 0), .int n] : List Value).toArray below meth c H locs 0 0 (vx_MQ below (va_Qv (fun u : XS => loK n o = 0 ∧ u = (st, nh, tp, tl, cb, cy, nc, bI o, n - nI 1, wd)) (aX dC dI cA ad ck A) A) (vx_X (fun _ : Unit => True) (fun E _ t => ((loK n o = 1 ∧ E = "java/lang/IllegalArgumentException") ∨ (loK n o = 2 ∧ E = "java/lang/IllegalStateException")) ∧ aX dC dI cA ad ck A (st, nh, tp, tl, cb, cy, nc, bI o, wl, wd) t) A) ([.ref (ad 0), .int n] : List Value).toArray s 1 6 A) (F0 m 0 ls []) := by
    clear hH hlo
    have hl : lv_has ls 2 [(0, .ref (ad 0)), (1, .int n)] := hl
    refine lv_iload_n hx hb dX0_lose_0 rfl (lv_at hl 1 rfl) ?_
    refine lv_iconst (v := nI 1) hx hb dX0_lose_1 (by decide) ?_
    refine lv_icmp_ge (tgt := 15) hx hb dX0_lose_2 (by decide) (fun c_2 => ?_) (fun c_2 => ?_)
    · refine lv_aload_n hx hb dX0_lose_15 rfl (lv_at hl 0 rfl) ?_
      refine va_get (D := (dC, dI)) (ci := 0) (v := .int (bI o)) (C := RX0) (T := TX0) (N := 11) hx hb hts hin hown hK hP 0 rfl rfl 8 (by decide) (hts (.fieldLink RX0 85 "BlockJournal" "off" "Z") (by decide +kernel)) (fun _ h9 => h9) rfl dX0_lose_16 ?_
      refine lv_if_eq (tgt := 32) hx hb dX0_lose_19 (by decide) (fun c_19 => ?_) (fun c_19 => ?_)
      · refine lv_aload_n hx hb dX0_lose_32 rfl (lv_at hl 0 rfl) ?_
        refine lv_iload_n hx hb dX0_lose_33 rfl (lv_at hl 1 rfl) ?_
        refine lv_iconst (v := nI 1) hx hb dX0_lose_34 (by decide) ?_
        refine lv_isub hx hb dX0_lose_35 ?_
        refine va_put (D := (dC, dI)) (ci := 0) (v := .int (n - (nI 1))) (ty := .int) (C := RX0) (T := TX0) (N := 11) hx hb hts hin tyX0 tyX0_ok nmX0 hown hK hP hD hS 0 rfl rfl 9 (by decide) (hts (.fieldLink RX0 28 "BlockJournal" "writesLeft" "I") (by decide +kernel)) (fun _ h9 => h9) rfl (by decide +kernel) rfl rfl (Nat.le_of_ble_eq_true rfl) dX0_lose_36 (fun H locs hP hD hS => ?_)
        have hP : va_P (dC, dI) vwCl (wX cA ad st ck nh tp tl cb cy nc (bI o) (n - (nI 1)) wd) H := hP
        have hD : va_D A (wX cA ad st ck nh tp tl cb cy nc (bI o) (n - (nI 1)) wd) := hD
        have hcode : loK n o = 0 := by rw [loK, if_pos c_2, if_pos c_19]
        have hpost : ((st, nh, tp, tl, cb, cy, nc, bI o, n - (nI 1), wd) : XS) = (st, nh, tp, tl, cb, cy, nc, bI o, n - nI 1, wd) := rfl
        refine W.widen (k := 1) (n := 6) (Nat.zero_le _) (Nat.zero_le _) ?_
        refine vx_ret ?_
        exact W.vret hx hb hr (fun t ht hW => ⟨⟨(st, nh, tp, tl, cb, cy, nc, bI o, n - (nI 1), wd), rfl, ⟨hcode, hpost⟩, by rw [ht]; exact hP, va_K.moved hW.alike hK, hD⟩, hS.F ht⟩) hS.2.2 dX0_lose_39
      · obtain ⟨sa, hsa⟩ := hE.2.2.2 (105, "the power is off") (by decide +kernel)
        have hgd : ∀ w ∈ (vx_atS RX0 50 "java/lang/IllegalStateException" ["java/lang/RuntimeException", "java/lang/Exception"]).filter goodWord, w ∈ wsX0_lose := by decide +kernel
        exact vx_throwS (own := RX0) (cls := "java/lang/IllegalStateException") (text := "the power is off") (names := ["java/lang/RuntimeException", "java/lang/Exception"]) hx hb h9 hown (by decide) (by decide) (hts (.classLink RX0 46 "java/lang/IllegalStateException") (by decide +kernel)) (hts (.initialized "java/lang/IllegalStateException") (by decide +kernel)) hsa (vx_hat (B := bjB) (fun w h => hts w (hgd w h)) (by decide +kernel) (fun w h => va_any (by revert w; decide +kernel) (hE.2.2.1 w h))) (by decide +kernel) hE.1 hE.2.1 hS (hl.1.trans hml.symm) dX0_lose_22 dX0_lose_25 dX0_lose_26 dX0_lose_28 dX0_lose_31 (fun x hx9 => (hnt x hx9).elim) (Nat.le_of_ble_eq_true rfl) (Nat.le_of_ble_eq_true rfl) (Nat.le_of_ble_eq_true rfl) (Nat.le_of_ble_eq_true rfl) hlocks (fun t hal hz hk => ⟨(), trivial, ⟨Or.inr ⟨by rw [loK, if_pos c_2, if_neg c_19], rfl⟩, (bj_thr hP hK hD hS hal hz hk).1⟩, (bj_thr hP hK hD hS hal hz hk).2⟩) hS.2.2 (Nat.le_of_ble_eq_true rfl) (Nat.le_of_ble_eq_true rfl)
    · obtain ⟨sa, hsa⟩ := hE.2.2.2 (118, "n is below 1") (by decide +kernel)
      have hgd : ∀ w ∈ (vx_atS RX0 40 "java/lang/IllegalArgumentException" ["java/lang/RuntimeException", "java/lang/Exception"]).filter goodWord, w ∈ wsX0_lose := by decide +kernel
      exact vx_throwS (own := RX0) (cls := "java/lang/IllegalArgumentException") (text := "n is below 1") (names := ["java/lang/RuntimeException", "java/lang/Exception"]) hx hb h9 hown (by decide) (by decide) (hts (.classLink RX0 36 "java/lang/IllegalArgumentException") (by decide +kernel)) (hts (.initialized "java/lang/IllegalArgumentException") (by decide +kernel)) hsa (vx_hat (B := bjB) (fun w h => hts w (hgd w h)) (by decide +kernel) (fun w h => va_any (by revert w; decide +kernel) (hE.2.2.1 w h))) (by decide +kernel) hE.1 hE.2.1 hS (hl.1.trans hml.symm) dX0_lose_5 dX0_lose_8 dX0_lose_9 dX0_lose_11 dX0_lose_14 (fun x hx9 => (hnt x hx9).elim) (Nat.le_of_ble_eq_true rfl) (Nat.le_of_ble_eq_true rfl) (Nat.le_of_ble_eq_true rfl) (Nat.le_of_ble_eq_true rfl) hlocks (fun t hal hz hk => ⟨(), trivial, ⟨Or.inl ⟨by rw [loK, if_neg c_2], rfl⟩, (bj_thr hP hK hD hS hal hz hk).1⟩, (bj_thr hP hK hD hS hal hz hk).2⟩) hS.2.2 (Nat.le_of_ble_eq_true rfl) (Nat.le_of_ble_eq_true rfl)
  rw [hH, hlo] at goal
  exact goal

def atK (b k : Int32) : Nat := if ¬ bI (isS b k) = 0 then 0 else 1
theorem isS_nat {b k : Int32} (h : ¬ bI (isS b k) = 0) : ∃ bb kk : Nat, bb < 96 ∧ kk < 64 ∧ b = nI bb ∧ k = nI kk := by
  have h1 : isS b k = true := by
    cases hs : isS b k
    · exact absurd (by rw [hs]; decide) h
    · rfl
  unfold isS at h1
  by_cases a1 : b < 0
  · rw [if_pos a1] at h1; cases h1
  rw [if_neg a1] at h1
  by_cases a2 : nI 96 ≤ b
  · rw [if_pos a2] at h1; cases h1
  rw [if_neg a2] at h1
  by_cases a3 : k < 0
  · rw [if_pos a3] at h1; cases h1
  rw [if_neg a3] at h1
  by_cases a4 : nI 64 ≤ k
  · rw [if_pos a4] at h1; cases h1
  obtain ⟨bb, hb1, e1⟩ := nI_of a1
  obtain ⟨kk, hk1, e2⟩ := nI_of a3
  refine ⟨bb, kk, ?_, ?_, e1, e2⟩
  · rcases Nat.lt_or_ge bb 96 with h | h
    · exact h
    · exact absurd (by rw [e1]; exact nI_le h hb1) a2
  · rcases Nat.lt_or_ge kk 64 with h | h
    · exact h
    · exact absurd (by rw [e2]; exact nI_le h hk1) a4

set_option maxHeartbeats 4000000 in
set_option maxRecDepth 100000 in
theorem c_X0_spoil (l : Launch) (h9 : l.stackTraces = false) (dC : Nat → ClassId) (dI : Nat → Nat → Nat) (cA : ClassId) (ad : Nat → Nat) (sz : Nat) (st ck nh tp : Nat → Int32) (tl : Int32) (cb cy : Nat → Int32) (nc of wl : Int32) (wd : Int64) (b k v : Int32)  : vx_Met l yX0_spoil wsX0_spoil ({ frames := 6, cells := 1, slots := 6, locals := 82 } : Room) (va_Pc [.ref (ad 0), .int b, .int k, .int v] (fun U => U.heap.size = sz ∧ va_P (dC, dI) vwCl (wX cA ad st ck nh tp tl cb cy nc of wl wd) U.heap ∧ va_K (dC, dI) vwCl [(cA, .int)] U ∧ va_D (fun _ => True) (wX cA ad st ck nh tp tl cb cy nc of wl wd) ∧ bjE (va_A (wX cA ad st ck nh tp tl cb cy nc of wl wd) sz) U U.heap)) (va_Qi (fun (r : Int32) (u : XS) => atK b k = 0 ∧ r = st (b.toNatClampNeg * 64 + k.toNatClampNeg) ∧ u = (upd st (b.toNatClampNeg * 64 + k.toNatClampNeg) (v &&& nI 255), nh, tp, tl, cb, cy, nc, of, wl, wd)) (aX dC dI cA ad ck (va_A (wX cA ad st ck nh tp tl cb cy nc of wl wd) sz)) (va_A (wX cA ad st ck nh tp tl cb cy nc of wl wd) sz)) (vx_X (fun _ : Unit => True) (fun E _ t => ((atK b k = 1 ∧ E = "java/lang/IllegalArgumentException")) ∧ aX dC dI cA ad ck (va_A (wX cA ad st ck nh tp tl cb cy nc of wl wd) sz) (st, nh, tp, tl, cb, cy, nc, of, wl, wd) t) (va_A (wX cA ad st ck nh tp tl cb cy nc of wl wd) sz)) 1 6 (va_A (wX cA ad st ck nh tp tl cb cy nc of wl wd) sz) := by
  refine vx_ofW (cc := cX0_spoil) (maxL := 5) (ret := (some .int)) (by decide) rfl ?_
  intro p e s m args below meth c s₁ B hml hnt hv
  obtain ⟨rfl, hsz, hP, hK, hD0, hE⟩ := hv
  have hx := B.exec
  have hb := B.bytes
  have hr := B.returns
  have hts := atoms_spec (ws := wsX0_spoil) B.pre
  have hown : s.vm.findClass RX0 = some m.cls := findClass_of_methodNamed B.named
  have hlocks := B.notSynchronized
  have hin : ∀ w ∈ u_ws RX0 TX0 11, w ∈ wsX0_spoil := by decide +kernel
  subst hsz
  have hD := hD0.self (sz := s.heap.size)
  generalize hAe : va_A (wX cA ad st ck nh tp tl cb cy nc of wl wd) s.heap.size = A at hD hE ⊢
  have hA : ∀ q : Nat, s.heap.size ≤ q → A q := fun q h => by rw [← hAe]; exact Or.inr h
  obtain ⟨H, locs, hH, hlo, hS⟩ : ∃ (H : Heap) (locs : List Loc), H = s.heap ∧ locs = [] ∧ va_S A s.heap H locs := ⟨s.heap, [], rfl, rfl, va_S.rf⟩
  rw [← hH] at hP
  have hP : va_P (dC, dI) vwCl (wX cA ad st ck nh tp tl cb cy nc of wl wd) H := hP
  have hl := lv_entry ([.ref (ad 0), .int b, .int k, .int v]) (n := 5) (Nat.le_of_ble_eq_true rfl)
  rw [lg_entry_eq]
  generalize (lg_sl ([.ref (ad 0), .int b, .int k, .int v]) ++ List.replicate (5 - (lg_sl ([.ref (ad 0), .int b, .int k, .int v])).length) Slot.unset).toArray = ls at hl ⊢
  have goal : W p l e (headSpec wsX0_spoil ({ frames := 6, cells := 1, slots := 6, locals := 82 } : Room)).room s m ([.ref (ad 0), .int b, .int k, .int v] : List Value).toArray below meth c H locs 0 0 (vx_MQ below (va_Qi (fun (r : Int32) (u : XS) => atK b k = 0 ∧ r = st (b.toNatClampNeg * 64 + k.toNatClampNeg) ∧ u = (upd st (b.toNatClampNeg * 64 + k.toNatClampNeg) (v &&& nI 255), nh, tp, tl, cb, cy, nc, of, wl, wd)) (aX dC dI cA ad ck A) A) (vx_X (fun _ : Unit => True) (fun E _ t => ((atK b k = 1 ∧ E = "java/lang/IllegalArgumentException")) ∧ aX dC dI cA ad ck A (st, nh, tp, tl, cb, cy, nc, of, wl, wd) t) A) ([.ref (ad 0), .int b, .int k, .int v] : List Value).toArray s 1 6 A) (F0 m 0 ls []) := by
    clear hH hlo
    have hl : lv_has ls 5 [(0, .ref (ad 0)), (1, .int b), (2, .int k), (3, .int v)] := hl
    refine lv_iload_n hx hb dX0_spoil_0 rfl (lv_at hl 1 rfl) ?_
    refine lv_iload_n hx hb dX0_spoil_1 rfl (lv_at hl 2 rfl) ?_
    refine bj_call (v := .int (bI (isS b k))) (W.runS (As := [.int b, .int k]) (rest := []) ⟨hx, hb, hml, hown, hts⟩ (c_X0_isInStore l b k) (va_cwS 2 hts gX0_spoil_X0_isInStore rfl rfl rfl (by decide +kernel) ⟨Nat.le_of_ble_eq_true rfl, Nat.le_of_ble_eq_true rfl⟩) ⟨fun _ _ _ _ q => q, fun _ _ _ => ⟨rfl, trivial⟩⟩ rfl rfl hl.1 rfl (lv_room (Nat.le_of_ble_eq_true rfl)) dX0_spoil_2 ⟨Nat.le_of_ble_eq_true rfl, Nat.le_of_ble_eq_true rfl⟩) ?_
    refine lv_if_ne (tgt := 18) hx hb dX0_spoil_5 (by decide) (fun c_5 => ?_) (fun c_5 => ?_)
    · obtain ⟨bb, kk, h96, h64, eb, ek⟩ := isS_nat c_5
      have hcb : b.toNatClampNeg = bb := by rw [eb]; exact nI_clamp (by omega)
      have hck : k.toNatClampNeg = kk := by rw [ek]; exact nI_clamp (by omega)
      rw [eb, ek] at hl
      refine lv_aload_n hx hb dX0_spoil_18 rfl (lv_at hl 0 rfl) ?_
      refine va_get (D := (dC, dI)) (ci := 0) (v := .ref (ad 1)) (C := RX0) (T := TX0) (N := 11) hx hb hts hin hown hK hP 0 rfl rfl 0 (by decide) (hts (.fieldLink RX0 9 "BlockJournal" "store" "[I") (by decide +kernel)) (fun _ h9 => h9) rfl dX0_spoil_19 ?_
      refine lv_iload_n hx hb dX0_spoil_22 rfl (lv_at hl 1 rfl) ?_
      refine lv_bipush (v := nI 64) hx hb dX0_spoil_23 (by decide) ?_
      refine lv_imul hx hb dX0_spoil_25 ?_
      refine bj_i (pk_mul bb 64) ?_
      refine lv_iload_n hx hb dX0_spoil_26 rfl (lv_at hl 2 rfl) ?_
      refine lv_iadd hx hb dX0_spoil_27 ?_
      refine bj_i (nI_add (bb * 64) kk) ?_
      refine va_iald (D := (dC, dI)) hx hb hK hP 1 0 (cA := cA) (n := 6144) (f := st) rfl rfl (i := (nI ((bb * 64) + kk))) (vp_in_nI (by omega) (by omega)) dX0_spoil_28 ?_
      refine bj_i (y := st ((bb * 64) + kk)) (congrArg st (nI_clamp (by omega))) ?_
      refine lv_istore (lv' := [(4, .int (st ((bb * 64) + kk))), (0, .ref (ad 0)), (1, .int (nI bb)), (2, .int (nI kk)), (3, .int v)]) hx hb dX0_spoil_29 hl (by decide) rfl (fun ls hl => ?_)
      refine lv_aload_n hx hb dX0_spoil_31 rfl (lv_at hl 1 rfl) ?_
      refine va_get (D := (dC, dI)) (ci := 0) (v := .ref (ad 1)) (C := RX0) (T := TX0) (N := 11) hx hb hts hin hown hK hP 0 rfl rfl 0 (by decide) (hts (.fieldLink RX0 9 "BlockJournal" "store" "[I") (by decide +kernel)) (fun _ h9 => h9) rfl dX0_spoil_32 ?_
      refine lv_iload_n hx hb dX0_spoil_35 rfl (lv_at hl 2 rfl) ?_
      refine lv_bipush (v := nI 64) hx hb dX0_spoil_36 (by decide) ?_
      refine lv_imul hx hb dX0_spoil_38 ?_
      refine bj_i (pk_mul bb 64) ?_
      refine lv_iload_n hx hb dX0_spoil_39 rfl (lv_at hl 3 rfl) ?_
      refine lv_iadd hx hb dX0_spoil_40 ?_
      refine bj_i (nI_add (bb * 64) kk) ?_
      refine lv_iload_n hx hb dX0_spoil_41 rfl (lv_at hl 4 rfl) ?_
      refine lv_sipush (v := nI 255) hx hb dX0_spoil_42 (by decide) ?_
      refine lv_iand hx hb dX0_spoil_45 ?_
      refine va_iast (D := (dC, dI)) hx hb hK hP hD hS 1 0 (cA := cA) (n := 6144) (f := st) rfl rfl (i := (nI ((bb * 64) + kk))) (vp_in_nI (by omega) (by omega)) dX0_spoil_46 (fun H locs hP hD hS => ?_)
      rw [nI_clamp (n := (bb * 64) + kk) (by omega)] at hP hD
      have hP : va_P (dC, dI) vwCl (wX cA ad (upd st ((bb * 64) + kk) (v &&& (nI 255))) ck nh tp tl cb cy nc of wl wd) H := hP
      have hD : va_D A (wX cA ad (upd st ((bb * 64) + kk) (v &&& (nI 255))) ck nh tp tl cb cy nc of wl wd) := hD
      refine lv_iload hx hb dX0_spoil_47 (lv_at hl 0 rfl) ?_
      have hcode : atK b k = 0 := by rw [atK, if_pos c_5]
      have hpost : ((upd st ((bb * 64) + kk) (v &&& (nI 255)), nh, tp, tl, cb, cy, nc, of, wl, wd) : XS) = (upd st (b.toNatClampNeg * 64 + k.toNatClampNeg) (v &&& nI 255), nh, tp, tl, cb, cy, nc, of, wl, wd) := by rw [hcb, hck]
      refine W.widen (k := 1) (n := 6) (Nat.zero_le _) (Nat.zero_le _) ?_
      refine vx_ret ?_
      have hres : st ((bb * 64) + kk) = st (b.toNatClampNeg * 64 + k.toNatClampNeg) := by rw [hcb, hck]
      exact W.iret (v := st ((bb * 64) + kk)) hx hb hr (fun t ht hW => ⟨⟨_, (upd st ((bb * 64) + kk) (v &&& (nI 255)), nh, tp, tl, cb, cy, nc, of, wl, wd), rfl, ⟨hcode, hres, hpost⟩, by rw [ht]; exact hP, va_K.moved hW.alike hK, hD⟩, hS.F ht⟩) hS.2.2 dX0_spoil_49
    · obtain ⟨sa, hsa⟩ := hE.2.2.2 (123, "there is no such block or byte") (by decide +kernel)
      have hgd : ∀ w ∈ (vx_atS RX0 40 "java/lang/IllegalArgumentException" ["java/lang/RuntimeException", "java/lang/Exception"]).filter goodWord, w ∈ wsX0_spoil := by decide +kernel
      exact vx_throwS (own := RX0) (cls := "java/lang/IllegalArgumentException") (text := "there is no such block or byte") (names := ["java/lang/RuntimeException", "java/lang/Exception"]) hx hb h9 hown (by decide) (by decide) (hts (.classLink RX0 36 "java/lang/IllegalArgumentException") (by decide +kernel)) (hts (.initialized "java/lang/IllegalArgumentException") (by decide +kernel)) hsa (vx_hat (B := bjB) (fun w h => hts w (hgd w h)) (by decide +kernel) (fun w h => va_any (by revert w; decide +kernel) (hE.2.2.1 w h))) (by decide +kernel) hE.1 hE.2.1 hS (hl.1.trans hml.symm) dX0_spoil_8 dX0_spoil_11 dX0_spoil_12 dX0_spoil_14 dX0_spoil_17 (fun x hx9 => (hnt x hx9).elim) (Nat.le_of_ble_eq_true rfl) (Nat.le_of_ble_eq_true rfl) (Nat.le_of_ble_eq_true rfl) (Nat.le_of_ble_eq_true rfl) hlocks (fun t hal hz hk => ⟨(), trivial, ⟨⟨by rw [atK, if_neg (not_not_intro c_5)], rfl⟩, (bj_thr hP hK hD hS hal hz hk).1⟩, (bj_thr hP hK hD hS hal hz hk).2⟩) hS.2.2 (Nat.le_of_ble_eq_true rfl) (Nat.le_of_ble_eq_true rfl)
  rw [hH, hlo] at goal
  exact goal

set_option maxHeartbeats 4000000 in
set_option maxRecDepth 100000 in
theorem c_X0_at (l : Launch) (h9 : l.stackTraces = false) (dC : Nat → ClassId) (dI : Nat → Nat → Nat) (cA : ClassId) (ad : Nat → Nat) (sz : Nat) (st ck nh tp : Nat → Int32) (tl : Int32) (cb cy : Nat → Int32) (nc of wl : Int32) (wd : Int64) (b k : Int32)  : vx_Met l yX0_at wsX0_at ({ frames := 6, cells := 1, slots := 6, locals := 82 } : Room) (va_Pc [.ref (ad 0), .int b, .int k] (fun U => U.heap.size = sz ∧ va_P (dC, dI) vwCl (wX cA ad st ck nh tp tl cb cy nc of wl wd) U.heap ∧ va_K (dC, dI) vwCl [(cA, .int)] U ∧ va_D (fun _ => True) (wX cA ad st ck nh tp tl cb cy nc of wl wd) ∧ bjE (va_A (wX cA ad st ck nh tp tl cb cy nc of wl wd) sz) U U.heap)) (va_Qi (fun (r : Int32) (u : XS) => atK b k = 0 ∧ r = st (b.toNatClampNeg * 64 + k.toNatClampNeg) ∧ u = (st, nh, tp, tl, cb, cy, nc, of, wl, wd)) (aX dC dI cA ad ck (va_A (wX cA ad st ck nh tp tl cb cy nc of wl wd) sz)) (va_A (wX cA ad st ck nh tp tl cb cy nc of wl wd) sz)) (vx_X (fun _ : Unit => True) (fun E _ t => ((atK b k = 1 ∧ E = "java/lang/IllegalArgumentException")) ∧ aX dC dI cA ad ck (va_A (wX cA ad st ck nh tp tl cb cy nc of wl wd) sz) (st, nh, tp, tl, cb, cy, nc, of, wl, wd) t) (va_A (wX cA ad st ck nh tp tl cb cy nc of wl wd) sz)) 1 6 (va_A (wX cA ad st ck nh tp tl cb cy nc of wl wd) sz) := by
  refine vx_ofW (cc := cX0_at) (maxL := 3) (ret := (some .int)) (by decide) rfl ?_
  intro p e s m args below meth c s₁ B hml hnt hv
  obtain ⟨rfl, hsz, hP, hK, hD0, hE⟩ := hv
  have hx := B.exec
  have hb := B.bytes
  have hr := B.returns
  have hts := atoms_spec (ws := wsX0_at) B.pre
  have hown : s.vm.findClass RX0 = some m.cls := findClass_of_methodNamed B.named
  have hlocks := B.notSynchronized
  have hin : ∀ w ∈ u_ws RX0 TX0 11, w ∈ wsX0_at := by decide +kernel
  subst hsz
  have hD := hD0.self (sz := s.heap.size)
  generalize hAe : va_A (wX cA ad st ck nh tp tl cb cy nc of wl wd) s.heap.size = A at hD hE ⊢
  have hA : ∀ q : Nat, s.heap.size ≤ q → A q := fun q h => by rw [← hAe]; exact Or.inr h
  obtain ⟨H, locs, hH, hlo, hS⟩ : ∃ (H : Heap) (locs : List Loc), H = s.heap ∧ locs = [] ∧ va_S A s.heap H locs := ⟨s.heap, [], rfl, rfl, va_S.rf⟩
  rw [← hH] at hP
  have hP : va_P (dC, dI) vwCl (wX cA ad st ck nh tp tl cb cy nc of wl wd) H := hP
  have hl := lv_entry ([.ref (ad 0), .int b, .int k]) (n := 3) (Nat.le_of_ble_eq_true rfl)
  rw [lg_entry_eq]
  generalize (lg_sl ([.ref (ad 0), .int b, .int k]) ++ List.replicate (3 - (lg_sl ([.ref (ad 0), .int b, .int k])).length) Slot.unset).toArray = ls at hl ⊢
  have goal : W p l e (headSpec wsX0_at ({ frames := 6, cells := 1, slots := 6, locals := 82 } : Room)).room s m ([.ref (ad 0), .int b, .int k] : List Value).toArray below meth c H locs 0 0 (vx_MQ below (va_Qi (fun (r : Int32) (u : XS) => atK b k = 0 ∧ r = st (b.toNatClampNeg * 64 + k.toNatClampNeg) ∧ u = (st, nh, tp, tl, cb, cy, nc, of, wl, wd)) (aX dC dI cA ad ck A) A) (vx_X (fun _ : Unit => True) (fun E _ t => ((atK b k = 1 ∧ E = "java/lang/IllegalArgumentException")) ∧ aX dC dI cA ad ck A (st, nh, tp, tl, cb, cy, nc, of, wl, wd) t) A) ([.ref (ad 0), .int b, .int k] : List Value).toArray s 1 6 A) (F0 m 0 ls []) := by
    clear hH hlo
    have hl : lv_has ls 3 [(0, .ref (ad 0)), (1, .int b), (2, .int k)] := hl
    refine lv_iload_n hx hb dX0_at_0 rfl (lv_at hl 1 rfl) ?_
    refine lv_iload_n hx hb dX0_at_1 rfl (lv_at hl 2 rfl) ?_
    refine bj_call (v := .int (bI (isS b k))) (W.runS (As := [.int b, .int k]) (rest := []) ⟨hx, hb, hml, hown, hts⟩ (c_X0_isInStore l b k) (va_cwS 2 hts gX0_at_X0_isInStore rfl rfl rfl (by decide +kernel) ⟨Nat.le_of_ble_eq_true rfl, Nat.le_of_ble_eq_true rfl⟩) ⟨fun _ _ _ _ q => q, fun _ _ _ => ⟨rfl, trivial⟩⟩ rfl rfl hl.1 rfl (lv_room (Nat.le_of_ble_eq_true rfl)) dX0_at_2 ⟨Nat.le_of_ble_eq_true rfl, Nat.le_of_ble_eq_true rfl⟩) ?_
    refine lv_if_ne (tgt := 18) hx hb dX0_at_5 (by decide) (fun c_5 => ?_) (fun c_5 => ?_)
    · obtain ⟨bb, kk, h96, h64, eb, ek⟩ := isS_nat c_5
      have hcb : b.toNatClampNeg = bb := by rw [eb]; exact nI_clamp (by omega)
      have hck : k.toNatClampNeg = kk := by rw [ek]; exact nI_clamp (by omega)
      rw [eb, ek] at hl
      refine lv_aload_n hx hb dX0_at_18 rfl (lv_at hl 0 rfl) ?_
      refine va_get (D := (dC, dI)) (ci := 0) (v := .ref (ad 1)) (C := RX0) (T := TX0) (N := 11) hx hb hts hin hown hK hP 0 rfl rfl 0 (by decide) (hts (.fieldLink RX0 9 "BlockJournal" "store" "[I") (by decide +kernel)) (fun _ h9 => h9) rfl dX0_at_19 ?_
      refine lv_iload_n hx hb dX0_at_22 rfl (lv_at hl 1 rfl) ?_
      refine lv_bipush (v := nI 64) hx hb dX0_at_23 (by decide) ?_
      refine lv_imul hx hb dX0_at_25 ?_
      refine bj_i (pk_mul bb 64) ?_
      refine lv_iload_n hx hb dX0_at_26 rfl (lv_at hl 2 rfl) ?_
      refine lv_iadd hx hb dX0_at_27 ?_
      refine bj_i (nI_add (bb * 64) kk) ?_
      refine va_iald (D := (dC, dI)) hx hb hK hP 1 0 (cA := cA) (n := 6144) (f := st) rfl rfl (i := (nI ((bb * 64) + kk))) (vp_in_nI (by omega) (by omega)) dX0_at_28 ?_
      refine bj_i (y := st ((bb * 64) + kk)) (congrArg st (nI_clamp (by omega))) ?_
      have hcode : atK b k = 0 := by rw [atK, if_pos c_5]
      have hpost : ((st, nh, tp, tl, cb, cy, nc, of, wl, wd) : XS) = (st, nh, tp, tl, cb, cy, nc, of, wl, wd) := rfl
      refine W.widen (k := 1) (n := 6) (Nat.zero_le _) (Nat.zero_le _) ?_
      refine vx_ret ?_
      have hres : st ((bb * 64) + kk) = st (b.toNatClampNeg * 64 + k.toNatClampNeg) := by rw [hcb, hck]
      exact W.iret (v := st ((bb * 64) + kk)) hx hb hr (fun t ht hW => ⟨⟨_, (st, nh, tp, tl, cb, cy, nc, of, wl, wd), rfl, ⟨hcode, hres, hpost⟩, by rw [ht]; exact hP, va_K.moved hW.alike hK, hD⟩, hS.F ht⟩) hS.2.2 dX0_at_29
    · obtain ⟨sa, hsa⟩ := hE.2.2.2 (123, "there is no such block or byte") (by decide +kernel)
      have hgd : ∀ w ∈ (vx_atS RX0 40 "java/lang/IllegalArgumentException" ["java/lang/RuntimeException", "java/lang/Exception"]).filter goodWord, w ∈ wsX0_at := by decide +kernel
      exact vx_throwS (own := RX0) (cls := "java/lang/IllegalArgumentException") (text := "there is no such block or byte") (names := ["java/lang/RuntimeException", "java/lang/Exception"]) hx hb h9 hown (by decide) (by decide) (hts (.classLink RX0 36 "java/lang/IllegalArgumentException") (by decide +kernel)) (hts (.initialized "java/lang/IllegalArgumentException") (by decide +kernel)) hsa (vx_hat (B := bjB) (fun w h => hts w (hgd w h)) (by decide +kernel) (fun w h => va_any (by revert w; decide +kernel) (hE.2.2.1 w h))) (by decide +kernel) hE.1 hE.2.1 hS (hl.1.trans hml.symm) dX0_at_8 dX0_at_11 dX0_at_12 dX0_at_14 dX0_at_17 (fun x hx9 => (hnt x hx9).elim) (Nat.le_of_ble_eq_true rfl) (Nat.le_of_ble_eq_true rfl) (Nat.le_of_ble_eq_true rfl) (Nat.le_of_ble_eq_true rfl) hlocks (fun t hal hz hk => ⟨(), trivial, ⟨⟨by rw [atK, if_neg (not_not_intro c_5)], rfl⟩, (bj_thr hP hK hD hS hal hz hk).1⟩, (bj_thr hP hK hD hS hal hz hk).2⟩) hS.2.2 (Nat.le_of_ble_eq_true rfl) (Nat.le_of_ble_eq_true rfl)
  rw [hH, hlo] at goal
  exact goal

def mfK (n : Int32) (T : Nat) : Nat := if ¬ bI (wiF n.toInt64 1 8) = 0 then (if T + n.toNatClampNeg ≤ 64 then 0 else 2) else 1
def fmF (tp : Nat → Int32) (T : Nat) (v : Int64) : Nat → Nat → Int32
  | 0 => tp
  | i + 1 => upd (fmF tp T v i) (T + i) (((v >>> ((nI (8 * i)).toInt64 &&& 63)) &&& 255).toInt32)
def ptF (cy tp : Nat → Int32) (T x : Nat) : Nat → Nat → Int32
  | 0 => cy
  | k + 1 => upd (ptF cy tp T x k) (64 * x + k) (if T ≤ k then nI 0 else tp k)
def mpK (cb : Nat → Int32) (n : Nat) (b : Int32) : Nat := if ¬ bI (wiF b.toInt64 25 95) = 0 then (if 0 ≤ fnF cb b n 0 then 0 else if ¬ n = 24 then 0 else 2) else 1
def mpX (cb : Nat → Int32) (n : Nat) (b : Int32) : Nat := if 0 ≤ fnF cb b n 0 then (fnF cb b n 0).toNatClampNeg else n
def mpN (cb : Nat → Int32) (n : Nat) (b : Int32) : Nat := if 0 ≤ fnF cb b n 0 then n else n + 1
theorem fnF_nat (f : Nat → Int32) (b : Int32) : ∀ k i, (fnF f b k i = -1 ∧ ∀ j, i ≤ j → j < i + k → ¬ f j = b) ∨ ∃ j, i ≤ j ∧ j < i + k ∧ fnF f b k i = nI j ∧ f j = b := by
  intro k
  induction k with
  | zero => intro i; left; exact ⟨rfl, fun j h1 h2 => by exfalso; omega⟩
  | succ k ih =>
    intro i
    rw [fnF]
    by_cases h : f i = b
    · right; exact ⟨i, by omega, by omega, by rw [if_neg (not_not_intro h)], h⟩
    · rw [if_pos h]
      rcases ih (i + 1) with ⟨e, a⟩ | ⟨j, h1, h2, e, ej⟩
      · left
        refine ⟨e, fun j h1 h2 => ?_⟩
        by_cases q : j = i
        · rw [q]; exact h
        · exact a j (by omega) (by omega)
      · right; exact ⟨j, by omega, by omega, e, ej⟩
def mlK (b k : Int32) : Nat := if bI (wiF b.toInt64 0 95) = 0 then 1 else if ¬ bI (wiF k.toInt64 0 63) = 0 then 0 else 1
def mhK (i : Int32) (n : Nat) : Nat := if ¬ bI (wiF i.toInt64 0 (nI n - nI 1).toInt64) = 0 then 0 else 1
theorem mhK_nat {i : Int32} {n : Nat} (hn : n ≤ 24) (h : ¬ bI (wiF i.toInt64 0 (nI n - nI 1).toInt64) = 0) : ∃ j : Nat, j < n ∧ i = nI j := by
  rcases Nat.eq_zero_or_pos n with q | q
  · exfalso
    rw [q] at h
    have h1 := bI_ne h
    unfold wiF at h1
    by_cases a1 : i.toInt64 < 0
    · rw [if_pos a1] at h1; cases h1
    rw [if_neg a1] at h1
    by_cases a2 : (nI 0 - nI 1).toInt64 < i.toInt64
    · rw [if_pos a2] at h1; cases h1
    have t1 := Int64.le_iff_toInt_le.mp (Int64.not_lt.mp a1)
    have t2 := Int64.le_iff_toInt_le.mp (Int64.not_lt.mp a2)
    have z1 : (0 : Int64).toInt = 0 := rfl
    have z2 : (nI 0 - nI 1).toInt64.toInt = -1 := by decide
    rw [z2] at t2
    rw [z1] at t1
    omega
  · rw [pk_sub q, nI_l (by omega)] at h
    obtain ⟨k, -, k2, e⟩ := wiF_nat (b := 0) (c := n - 1) (by decide) (by omega) rfl h
    exact ⟨k, by omega, e⟩
def mkK (w : Int32) : Nat := if ¬ bI (wiF w.toInt64 0 6) = 0 then 0 else 1
def mkR (w : Int32) (st : Nat → Int32) (nc : Int32) (o : Bool) (lf dn : Int64) : Int64 := if ¬ bI (wiF w.toInt64 0 6) = 0 then (if w = nI 0 then nuF st 0 4 0 else if w = nI 1 then (st 4).toInt64 else if w = nI 2 then (if bI (mrF st) = 0 then 0 else 1) else if w = nI 3 then nc.toInt64 else if w = nI 4 then dn else if w = nI 5 then (if bI o = 0 then 0 else 1) else (if bI o = 0 then lf else 0)) else 0

set_option maxHeartbeats 4000000 in
set_option maxRecDepth 100000 in
theorem c_X1_feed (l : Launch) (dC : Nat → ClassId) (dI : Nat → Nat → Nat) (cA : ClassId) (ad : Nat → Nat) (sz : Nat) (th : Int32) (st tp : Nat → Int32) (cb cy : Nat → Int32) (nc : Int32) (dn lf : Int64) (of : Int32) (ro : Nat → Int32) (T : Nat) (n : Int32) (v : Int64) (hT : T ≤ 64) : Met l yX1_feed wsX1_feed ({ frames := 1, cells := 0, slots := 0, locals := 25 } : Room) (va_Pc [.ref (ad 0), .int n, .long v] (fun U => U.heap.size = sz ∧ va_P (dC, dI) vwCl (wM cA ad th st tp (nI T) cb cy nc dn lf of ro) U.heap ∧ va_K (dC, dI) vwCl [(cA, .int)] U ∧ va_D (fun _ => True) (wM cA ad th st tp (nI T) cb cy nc dn lf of ro))) (va_Qi (fun (r : Int32) (u : MS) => r = (if mfK n T = 0 then nI (T + n.toNatClampNeg) else nI 0) ∧ u = (nI (mfK n T), st, if mfK n T = 0 then fmF tp T v n.toNatClampNeg else tp, if mfK n T = 0 then nI (T + n.toNatClampNeg) else nI T, cb, cy, nc, dn, lf, of, ro)) (aM dC dI cA ad (va_A (wM cA ad th st tp (nI T) cb cy nc dn lf of ro) sz)) (va_A (wM cA ad th st tp (nI T) cb cy nc dn lf of ro) sz)) 0 0 (va_A (wM cA ad th st tp (nI T) cb cy nc dn lf of ro) sz) := by
  refine Met.ofW (cc := cX1_feed) (maxL := 5) (ret := (some .int)) (by decide) rfl ?_
  intro p e s m args below meth c s₁ B hml hv
  obtain ⟨rfl, hsz, hP, hK, hD0⟩ := hv
  have hx := B.exec
  have hb := B.bytes
  have hr := B.returns
  have hts := atoms_spec (ws := wsX1_feed) B.pre
  have hown : s.vm.findClass RX1 = some m.cls := findClass_of_methodNamed B.named
  have hlocks := B.notSynchronized
  have hin : ∀ w ∈ u_ws RX1 TX1 11, w ∈ wsX1_feed := by decide +kernel
  subst hsz
  have hD := hD0.self (sz := s.heap.size)
  generalize hAe : va_A (wM cA ad th st tp (nI T) cb cy nc dn lf of ro) s.heap.size = A at hD ⊢
  have hA : ∀ q : Nat, s.heap.size ≤ q → A q := fun q h => by rw [← hAe]; exact Or.inr h
  obtain ⟨H, locs, hH, hlo, hS⟩ : ∃ (H : Heap) (locs : List Loc), H = s.heap ∧ locs = [] ∧ va_S A s.heap H locs := ⟨s.heap, [], rfl, rfl, va_S.rf⟩
  rw [← hH] at hP
  have hP : va_P (dC, dI) vwCl (wM cA ad th st tp (nI T) cb cy nc dn lf of ro) H := hP
  have hl := lv_entry ([.ref (ad 0), .int n, .long v]) (n := 5) (Nat.le_of_ble_eq_true rfl)
  rw [lg_entry_eq]
  generalize (lg_sl ([.ref (ad 0), .int n, .long v]) ++ List.replicate (5 - (lg_sl ([.ref (ad 0), .int n, .long v])).length) Slot.unset).toArray = ls at hl ⊢
  have goal : W p l e (headSpec wsX1_feed ({ frames := 1, cells := 0, slots := 0, locals := 25 } : Room)).room s m ([.ref (ad 0), .int n, .long v] : List Value).toArray below meth c H locs 0 0 (MQ below (va_Qi (fun (r : Int32) (u : MS) => r = (if mfK n T = 0 then nI (T + n.toNatClampNeg) else nI 0) ∧ u = (nI (mfK n T), st, if mfK n T = 0 then fmF tp T v n.toNatClampNeg else tp, if mfK n T = 0 then nI (T + n.toNatClampNeg) else nI T, cb, cy, nc, dn, lf, of, ro)) (aM dC dI cA ad A) A) ([.ref (ad 0), .int n, .long v] : List Value).toArray s 0 0 A) (F0 m 0 ls []) := by
    clear hH hlo
    have hl : lv_has ls 5 [(0, .ref (ad 0)), (1, .int n), (2, .long v)] := hl
    refine lv_aload_n hx hb dX1_feed_0 rfl (lv_at hl 0 rfl) ?_
    refine lv_iload_n hx hb dX1_feed_1 rfl (lv_at hl 1 rfl) ?_
    refine lv_i2l hx hb dX1_feed_2 rfl ?_
    refine lv_lconst (v := 1) hx hb dX1_feed_3 (by decide) ?_
    refine lv_ldc2 hx hb hown (hts (.constantLong RX1 70 (8)) (by decide +kernel)) dX1_feed_4 ?_
    refine bj_call (v := .int (bI (wiF n.toInt64 1 8))) (W.runS (As := [.long n.toInt64, .long 1, .long (8)]) (rest := [.ref (ad 0)]) ⟨hx, hb, hml, hown, hts⟩ (c_X1_within l n.toInt64 1 8) (va_cwS 3 hts gX1_feed_X1_within rfl rfl rfl (by decide +kernel) ⟨Nat.le_of_ble_eq_true rfl, Nat.le_of_ble_eq_true rfl⟩) ⟨fun _ _ _ _ q => q, fun _ _ _ => ⟨rfl, trivial⟩⟩ rfl rfl hl.1 rfl (lv_room (Nat.le_of_ble_eq_true rfl)) dX1_feed_7 ⟨Nat.le_of_ble_eq_true rfl, Nat.le_of_ble_eq_true rfl⟩) ?_
    refine lv_if_ne (tgt := 17) hx hb dX1_feed_10 (by decide) (fun c_10 => ?_) (fun c_10 => ?_)
    · refine lv_iconst (v := nI 0) hx hb dX1_feed_17 (by decide) ?_
      refine lv_iconst (v := nI 1) hx hb dX1_feed_18 (by decide) ?_
      have hFc := va_free (wc := wM cA ad th st tp (nI T) cb cy nc dn lf of ro) hD hS hA [0, 1, 2, 3, 4, 5] rfl
      refine va_calli (va_runV (As := [.int (nI 0), .int (nI 1)]) (rest := []) ⟨hx, hb, hml, hown, hts⟩ (c_X1_fails l dC dI cA ad H.size th st tp (nI T) cb cy nc dn lf of ro (nI 0) (nI 1) rfl) (cwV 2 hts gX1_feed_X1_fails rfl rfl rfl (by decide +kernel) ⟨Nat.le_of_ble_eq_true rfl, Nat.le_of_ble_eq_true rfl⟩) ⟨fun a U g mk q => by obtain ⟨q0, q1, qP, qK, qD⟩ := q; exact ⟨q0, q1, qP, va_K.moved (u := U) (U := U.calling g mk a) (Vm.Alike.refl U.vm) qK, qD⟩, va_recv hK hP (ci := 1) (q0 := 0) rfl rfl, fun U hU hW => ⟨rfl, by rw [hU], by rw [hU]; exact hP, va_K.moved hW.alike hK, hD.weaken (fun _ _ _ _ => trivial)⟩⟩ rfl rfl hl.1 rfl (lv_room (Nat.le_of_ble_eq_true rfl)) dX1_feed_19 ⟨Nat.le_of_ble_eq_true rfl, Nat.le_of_ble_eq_true rfl⟩) hS (fun q _ h => hFc q h) hFc (fun r_19 u t H1 locs ht hvm hw hB hz1 hk1 hS => ?_)
      obtain ⟨hP1, hK1, hD1⟩ := hB
      obtain ⟨e_19, rfl⟩ := hw
      rw [ht] at hP1
      have hP : va_P (dC, dI) vwCl (wM cA ad (nI 0) st tp (nI T) cb cy nc dn lf of ro) H1 := hP1
      have hD : va_D A (wM cA ad (nI 0) st tp (nI T) cb cy nc dn lf of ro) := ⟨hD1.1, fun k q h => hFc _ (hD1.2 k q h)⟩
      generalize H1 = H at hP hS ⊢
      subst e_19
      refine lv_if_ne (tgt := 49) hx hb dX1_feed_22 (by decide) (fun c_22 => ?_) (fun c_22 => ?_)
      · exact absurd (by decide) c_22
      · obtain ⟨kk, h1k, h8, en⟩ := wiF_nat (b := 1) (c := 8) (by decide) (by decide) rfl c_10
        have hcl : n.toNatClampNeg = kk := by rw [en]; exact nI_clamp (by omega)
        rw [en] at hl
        refine lv_aload_n hx hb dX1_feed_25 rfl (lv_at hl 0 rfl) ?_
        refine lv_aload_n hx hb dX1_feed_26 rfl (lv_at hl 0 rfl) ?_
        refine va_get (D := (dC, dI)) (ci := 1) (v := .int (nI T)) (C := RX1) (T := TX1) (N := 11) hx hb hts hin hown hK hP 0 rfl rfl 3 (by decide) (hts (.fieldLink RX1 76 "BlockJournalModel" "taped" "I") (by decide +kernel)) (fun _ h9 => h9) rfl dX1_feed_27 ?_
        refine lv_iload_n hx hb dX1_feed_30 rfl (lv_at hl 1 rfl) ?_
        refine lv_iadd hx hb dX1_feed_31 ?_
        refine bj_i (nI_add T kk) ?_
        refine lv_bipush (v := nI 64) hx hb dX1_feed_32 (by decide) ?_
        refine lv_icmp_le (tgt := 41) hx hb dX1_feed_34 (by decide) (fun c_34 => ?_) (fun c_34 => ?_)
        · have n_34 : T + kk ≤ 64 := (nI_leI (by omega) (by omega)).mp c_34
          refine lv_iconst (v := nI 0) hx hb dX1_feed_41 (by decide) ?_
          refine lv_iconst (v := nI 2) hx hb dX1_feed_42 (by decide) ?_
          have hFc := va_free (wc := wM cA ad (nI 0) st tp (nI T) cb cy nc dn lf of ro) hD hS hA [0, 1, 2, 3, 4, 5] rfl
          refine va_calli (va_runV (As := [.int (nI 0), .int (nI 2)]) (rest := []) ⟨hx, hb, hml, hown, hts⟩ (c_X1_fails l dC dI cA ad H.size (nI 0) st tp (nI T) cb cy nc dn lf of ro (nI 0) (nI 2) rfl) (cwV 2 hts gX1_feed_X1_fails rfl rfl rfl (by decide +kernel) ⟨Nat.le_of_ble_eq_true rfl, Nat.le_of_ble_eq_true rfl⟩) ⟨fun a U g mk q => by obtain ⟨q0, q1, qP, qK, qD⟩ := q; exact ⟨q0, q1, qP, va_K.moved (u := U) (U := U.calling g mk a) (Vm.Alike.refl U.vm) qK, qD⟩, va_recv hK hP (ci := 1) (q0 := 0) rfl rfl, fun U hU hW => ⟨rfl, by rw [hU], by rw [hU]; exact hP, va_K.moved hW.alike hK, hD.weaken (fun _ _ _ _ => trivial)⟩⟩ rfl rfl hl.1 rfl (lv_room (Nat.le_of_ble_eq_true rfl)) dX1_feed_43 ⟨Nat.le_of_ble_eq_true rfl, Nat.le_of_ble_eq_true rfl⟩) hS (fun q _ h => hFc q h) hFc (fun r_43 u t H1 locs ht hvm hw hB hz1 hk1 hS => ?_)
          obtain ⟨hP1, hK1, hD1⟩ := hB
          obtain ⟨e_43, rfl⟩ := hw
          rw [ht] at hP1
          have hP : va_P (dC, dI) vwCl (wM cA ad (nI 0) st tp (nI T) cb cy nc dn lf of ro) H1 := hP1
          have hD : va_D A (wM cA ad (nI 0) st tp (nI T) cb cy nc dn lf of ro) := ⟨hD1.1, fun k q h => hFc _ (hD1.2 k q h)⟩
          generalize H1 = H at hP hS ⊢
          subst e_43
          refine lv_if_eq (tgt := 51) hx hb dX1_feed_46 (by decide) (fun c_46 => ?_) (fun c_46 => ?_)
          · refine lv_iconst (v := nI 0) hx hb dX1_feed_51 (by decide) ?_
            refine lv_istore (lv' := [(4, .int (nI 0)), (0, .ref (ad 0)), (1, .int (nI kk)), (2, .long v)]) hx hb dX1_feed_52 hl (by decide) rfl (fun ls hl => ?_)
            have loop_54 : ∀ (k : Nat) (i : Nat), i + k = kk → ∀ (H : Heap) (locs : List Loc) (ls : Array Slot), va_P (dC, dI) vwCl (wM cA ad (nI 0) st (fmF tp T v i) (nI T) cb cy nc dn lf of ro) H → va_D A (wM cA ad (nI 0) st (fmF tp T v i) (nI T) cb cy nc dn lf of ro) → va_S A s.heap H locs → lv_has ls 5 [(0, .ref (ad 0)), (1, .int (nI kk)), (2, .long v), (4, .int (nI i))] → W p l e (headSpec wsX1_feed ({ frames := 1, cells := 0, slots := 0, locals := 25 } : Room)).room s m ([.ref (ad 0), .int n, .long v] : List Value).toArray below meth c H locs 0 0 (MQ below (va_Qi (fun (r : Int32) (u : MS) => r = (if mfK n T = 0 then nI (T + n.toNatClampNeg) else nI 0) ∧ u = (nI (mfK n T), st, if mfK n T = 0 then fmF tp T v n.toNatClampNeg else tp, if mfK n T = 0 then nI (T + n.toNatClampNeg) else nI T, cb, cy, nc, dn, lf, of, ro)) (aM dC dI cA ad A) A) ([.ref (ad 0), .int n, .long v] : List Value).toArray s 0 0 A) (F0 m 54 ls []) := by
              intro k
              induction k with
              | zero =>
                intro i hk H locs ls hP hD hS hl
                refine lv_iload hx hb dX1_feed_54 (lv_at hl 3 rfl) ?_
                refine lv_iload_n hx hb dX1_feed_56 rfl (lv_at hl 1 rfl) ?_
                refine lv_icmp_ge (tgt := 90) hx hb dX1_feed_57 (by decide) (fun c_57 => ?_) (fun c_57 => ?_)
                · have n_57 : kk ≤ i := (nI_leI (by omega) (by omega)).mp c_57
                  have ei : i = kk := by omega
                  rw [ei] at hP hD
                  refine lv_aload_n hx hb dX1_feed_90 rfl (lv_at hl 0 rfl) ?_
                  refine lv_dup hx hb dX1_feed_91 rfl ?_
                  refine va_get (D := (dC, dI)) (ci := 1) (v := .int (nI T)) (C := RX1) (T := TX1) (N := 11) hx hb hts hin hown hK hP 0 rfl rfl 3 (by decide) (hts (.fieldLink RX1 76 "BlockJournalModel" "taped" "I") (by decide +kernel)) (fun _ h9 => h9) rfl dX1_feed_92 ?_
                  refine lv_iload_n hx hb dX1_feed_95 rfl (lv_at hl 1 rfl) ?_
                  refine lv_iadd hx hb dX1_feed_96 ?_
                  refine bj_i (nI_add T kk) ?_
                  refine va_put (D := (dC, dI)) (ci := 1) (v := .int (nI (T + kk))) (ty := .int) (C := RX1) (T := TX1) (N := 11) hx hb hts hin tyX1 tyX1_ok nmX1 hown hK hP hD hS 0 rfl rfl 3 (by decide) (hts (.fieldLink RX1 76 "BlockJournalModel" "taped" "I") (by decide +kernel)) (fun _ h9 => h9) rfl (by decide +kernel) rfl rfl (Nat.le_of_ble_eq_true rfl) dX1_feed_97 (fun H locs hP hD hS => ?_)
                  have hP : va_P (dC, dI) vwCl (wM cA ad (nI 0) st (fmF tp T v kk) (nI (T + kk)) cb cy nc dn lf of ro) H := hP
                  have hD : va_D A (wM cA ad (nI 0) st (fmF tp T v kk) (nI (T + kk)) cb cy nc dn lf of ro) := hD
                  refine lv_aload_n hx hb dX1_feed_100 rfl (lv_at hl 0 rfl) ?_
                  refine va_get (D := (dC, dI)) (ci := 1) (v := .int (nI (T + kk))) (C := RX1) (T := TX1) (N := 11) hx hb hts hin hown hK hP 0 rfl rfl 3 (by decide) (hts (.fieldLink RX1 76 "BlockJournalModel" "taped" "I") (by decide +kernel)) (fun _ h9 => h9) rfl dX1_feed_101 ?_
                  have hpost : ((nI 0, st, fmF tp T v kk, nI (T + kk), cb, cy, nc, dn, lf, of, ro) : MS) = (nI (mfK n T), st, if mfK n T = 0 then fmF tp T v n.toNatClampNeg else tp, if mfK n T = 0 then nI (T + n.toNatClampNeg) else nI T, cb, cy, nc, dn, lf, of, ro) := by rw [show mfK n T = 0 by rw [mfK, if_pos c_10, hcl, if_pos n_34], hcl]; rfl
                  have hres : nI (T + kk) = (if mfK n T = 0 then nI (T + n.toNatClampNeg) else nI 0) := by rw [show mfK n T = 0 by rw [mfK, if_pos c_10, hcl, if_pos n_34], hcl]; rfl
                  exact W.iret (v := nI (T + kk)) hx hb hr (fun t ht hW => ⟨⟨_, (nI 0, st, fmF tp T v kk, nI (T + kk), cb, cy, nc, dn, lf, of, ro), rfl, ⟨hres, hpost⟩, by rw [ht]; exact hP, va_K.moved hW.alike hK, hD⟩, hS.F ht⟩) hS.2.2 dX1_feed_104
                · have n_57 : ¬ kk ≤ i := fun h => c_57 ((nI_leI (by omega) (by omega)).mpr h)
                  exfalso; omega
              | succ k ih =>
                intro i hk H locs ls hP hD hS hl
                refine lv_iload hx hb dX1_feed_54 (lv_at hl 3 rfl) ?_
                refine lv_iload_n hx hb dX1_feed_56 rfl (lv_at hl 1 rfl) ?_
                refine lv_icmp_ge (tgt := 90) hx hb dX1_feed_57 (by decide) (fun c_57 => ?_) (fun c_57 => ?_)
                · have n_57 : kk ≤ i := (nI_leI (by omega) (by omega)).mp c_57
                  exfalso; omega
                · have n_57 : ¬ kk ≤ i := fun h => c_57 ((nI_leI (by omega) (by omega)).mpr h)
                  refine lv_aload_n hx hb dX1_feed_60 rfl (lv_at hl 0 rfl) ?_
                  refine va_get (D := (dC, dI)) (ci := 1) (v := .ref (ad 2)) (C := RX1) (T := TX1) (N := 11) hx hb hts hin hown hK hP 0 rfl rfl 2 (by decide) (hts (.fieldLink RX1 13 "BlockJournalModel" "tape" "[I") (by decide +kernel)) (fun _ h9 => h9) rfl dX1_feed_61 ?_
                  refine lv_aload_n hx hb dX1_feed_64 rfl (lv_at hl 0 rfl) ?_
                  refine va_get (D := (dC, dI)) (ci := 1) (v := .int (nI T)) (C := RX1) (T := TX1) (N := 11) hx hb hts hin hown hK hP 0 rfl rfl 3 (by decide) (hts (.fieldLink RX1 76 "BlockJournalModel" "taped" "I") (by decide +kernel)) (fun _ h9 => h9) rfl dX1_feed_65 ?_
                  refine lv_iload hx hb dX1_feed_68 (lv_at hl 3 rfl) ?_
                  refine lv_iadd hx hb dX1_feed_70 ?_
                  refine bj_i (nI_add T i) ?_
                  refine lv_lload_n hx hb dX1_feed_71 rfl (lv_at hl 2 rfl) ?_
                  refine lv_bipush (v := nI 8) hx hb dX1_feed_72 (by decide) ?_
                  refine lv_iload hx hb dX1_feed_74 (lv_at hl 3 rfl) ?_
                  refine lv_imul hx hb dX1_feed_76 ?_
                  refine bj_i (pk_mul 8 i) ?_
                  refine lv_lshr hx hb dX1_feed_77 rfl ?_
                  refine lv_ldc2 hx hb hown (hts (.constantLong RX1 79 (255)) (by decide +kernel)) dX1_feed_78 ?_
                  refine lv_land hx hb dX1_feed_81 ?_
                  refine lv_l2i hx hb dX1_feed_82 rfl ?_
                  refine va_iast (D := (dC, dI)) hx hb hK hP hD hS 2 0 (cA := cA) (n := 64) (f := (fmF tp T v i)) rfl rfl (i := (nI (T + i))) (vp_in_nI (by omega) (by omega)) dX1_feed_83 (fun H locs hP hD hS => ?_)
                  rw [nI_clamp (n := T + i) (by omega)] at hP hD
                  have hP : va_P (dC, dI) vwCl (wM cA ad (nI 0) st (upd (fmF tp T v i) (T + i) (((v >>> ((nI (8 * i)).toInt64 &&& 63)) &&& (255)).toInt32)) (nI T) cb cy nc dn lf of ro) H := hP
                  have hD : va_D A (wM cA ad (nI 0) st (upd (fmF tp T v i) (T + i) (((v >>> ((nI (8 * i)).toInt64 &&& 63)) &&& (255)).toInt32)) (nI T) cb cy nc dn lf of ro) := hD
                  refine lv_iinc (v := nI (i + 1)) (lv' := [(4, .int (nI (i + 1))), (0, .ref (ad 0)), (1, .int (nI kk)), (2, .long v)]) hx hb dX1_feed_84 hl (k := 3) rfl (nI_add i 1) (by decide) rfl (fun ls hl => ?_)
                  refine lv_goto (tgt := 54) hx hb dX1_feed_87 (by decide) ?_
                  exact ih (i + 1) (by omega) _ _ _ hP hD hS (lv_sub hl [1, 2, 3, 0] rfl)
            exact loop_54 kk 0 (by omega) _ _ _ hP hD hS (lv_sub hl [1, 2, 3, 0] rfl)
          · exact absurd (by decide) c_46
        · have n_34 : ¬ (T + kk) ≤ 64 := fun h => c_34 ((nI_leI (by omega) (by omega)).mpr h)
          refine lv_iconst (v := nI 1) hx hb dX1_feed_37 (by decide) ?_
          refine lv_goto (tgt := 42) hx hb dX1_feed_38 (by decide) ?_
          refine lv_iconst (v := nI 2) hx hb dX1_feed_42 (by decide) ?_
          have hFc := va_free (wc := wM cA ad (nI 0) st tp (nI T) cb cy nc dn lf of ro) hD hS hA [0, 1, 2, 3, 4, 5] rfl
          refine va_calli (va_runV (As := [.int (nI 1), .int (nI 2)]) (rest := []) ⟨hx, hb, hml, hown, hts⟩ (c_X1_fails l dC dI cA ad H.size (nI 0) st tp (nI T) cb cy nc dn lf of ro (nI 1) (nI 2) rfl) (cwV 2 hts gX1_feed_X1_fails rfl rfl rfl (by decide +kernel) ⟨Nat.le_of_ble_eq_true rfl, Nat.le_of_ble_eq_true rfl⟩) ⟨fun a U g mk q => by obtain ⟨q0, q1, qP, qK, qD⟩ := q; exact ⟨q0, q1, qP, va_K.moved (u := U) (U := U.calling g mk a) (Vm.Alike.refl U.vm) qK, qD⟩, va_recv hK hP (ci := 1) (q0 := 0) rfl rfl, fun U hU hW => ⟨rfl, by rw [hU], by rw [hU]; exact hP, va_K.moved hW.alike hK, hD.weaken (fun _ _ _ _ => trivial)⟩⟩ rfl rfl hl.1 rfl (lv_room (Nat.le_of_ble_eq_true rfl)) dX1_feed_43 ⟨Nat.le_of_ble_eq_true rfl, Nat.le_of_ble_eq_true rfl⟩) hS (fun q _ h => hFc q h) hFc (fun r_43 u t H1 locs ht hvm hw hB hz1 hk1 hS => ?_)
          obtain ⟨hP1, hK1, hD1⟩ := hB
          obtain ⟨e_43, rfl⟩ := hw
          rw [ht] at hP1
          have hP : va_P (dC, dI) vwCl (wM cA ad (nI 2) st tp (nI T) cb cy nc dn lf of ro) H1 := hP1
          have hD : va_D A (wM cA ad (nI 2) st tp (nI T) cb cy nc dn lf of ro) := ⟨hD1.1, fun k q h => hFc _ (hD1.2 k q h)⟩
          generalize H1 = H at hP hS ⊢
          subst e_43
          refine lv_if_eq (tgt := 51) hx hb dX1_feed_46 (by decide) (fun c_46 => ?_) (fun c_46 => ?_)
          · exact absurd c_46 (by decide)
          · refine lv_iconst (v := nI 0) hx hb dX1_feed_49 (by decide) ?_
            have hpost : ((nI 2, st, tp, nI T, cb, cy, nc, dn, lf, of, ro) : MS) = (nI (mfK n T), st, if mfK n T = 0 then fmF tp T v n.toNatClampNeg else tp, if mfK n T = 0 then nI (T + n.toNatClampNeg) else nI T, cb, cy, nc, dn, lf, of, ro) := by rw [show mfK n T = 2 by rw [mfK, if_pos c_10, hcl, if_neg n_34]]; rfl
            have hres : nI 0 = (if mfK n T = 0 then nI (T + n.toNatClampNeg) else nI 0) := by rw [show mfK n T = 2 by rw [mfK, if_pos c_10, hcl, if_neg n_34]]; rfl
            exact W.iret (v := nI 0) hx hb hr (fun t ht hW => ⟨⟨_, (nI 2, st, tp, nI T, cb, cy, nc, dn, lf, of, ro), rfl, ⟨hres, hpost⟩, by rw [ht]; exact hP, va_K.moved hW.alike hK, hD⟩, hS.F ht⟩) hS.2.2 dX1_feed_50
    · refine lv_iconst (v := nI 1) hx hb dX1_feed_13 (by decide) ?_
      refine lv_goto (tgt := 18) hx hb dX1_feed_14 (by decide) ?_
      refine lv_iconst (v := nI 1) hx hb dX1_feed_18 (by decide) ?_
      have hFc := va_free (wc := wM cA ad th st tp (nI T) cb cy nc dn lf of ro) hD hS hA [0, 1, 2, 3, 4, 5] rfl
      refine va_calli (va_runV (As := [.int (nI 1), .int (nI 1)]) (rest := []) ⟨hx, hb, hml, hown, hts⟩ (c_X1_fails l dC dI cA ad H.size th st tp (nI T) cb cy nc dn lf of ro (nI 1) (nI 1) rfl) (cwV 2 hts gX1_feed_X1_fails rfl rfl rfl (by decide +kernel) ⟨Nat.le_of_ble_eq_true rfl, Nat.le_of_ble_eq_true rfl⟩) ⟨fun a U g mk q => by obtain ⟨q0, q1, qP, qK, qD⟩ := q; exact ⟨q0, q1, qP, va_K.moved (u := U) (U := U.calling g mk a) (Vm.Alike.refl U.vm) qK, qD⟩, va_recv hK hP (ci := 1) (q0 := 0) rfl rfl, fun U hU hW => ⟨rfl, by rw [hU], by rw [hU]; exact hP, va_K.moved hW.alike hK, hD.weaken (fun _ _ _ _ => trivial)⟩⟩ rfl rfl hl.1 rfl (lv_room (Nat.le_of_ble_eq_true rfl)) dX1_feed_19 ⟨Nat.le_of_ble_eq_true rfl, Nat.le_of_ble_eq_true rfl⟩) hS (fun q _ h => hFc q h) hFc (fun r_19 u t H1 locs ht hvm hw hB hz1 hk1 hS => ?_)
      obtain ⟨hP1, hK1, hD1⟩ := hB
      obtain ⟨e_19, rfl⟩ := hw
      rw [ht] at hP1
      have hP : va_P (dC, dI) vwCl (wM cA ad (nI 1) st tp (nI T) cb cy nc dn lf of ro) H1 := hP1
      have hD : va_D A (wM cA ad (nI 1) st tp (nI T) cb cy nc dn lf of ro) := ⟨hD1.1, fun k q h => hFc _ (hD1.2 k q h)⟩
      generalize H1 = H at hP hS ⊢
      subst e_19
      refine lv_if_ne (tgt := 49) hx hb dX1_feed_22 (by decide) (fun c_22 => ?_) (fun c_22 => ?_)
      · refine lv_iconst (v := nI 0) hx hb dX1_feed_49 (by decide) ?_
        have hpost : ((nI 1, st, tp, nI T, cb, cy, nc, dn, lf, of, ro) : MS) = (nI (mfK n T), st, if mfK n T = 0 then fmF tp T v n.toNatClampNeg else tp, if mfK n T = 0 then nI (T + n.toNatClampNeg) else nI T, cb, cy, nc, dn, lf, of, ro) := by rw [show mfK n T = 1 by rw [mfK, if_neg (not_not_intro c_10)]]; rfl
        have hres : nI 0 = (if mfK n T = 0 then nI (T + n.toNatClampNeg) else nI 0) := by rw [show mfK n T = 1 by rw [mfK, if_neg (not_not_intro c_10)]]; rfl
        exact W.iret (v := nI 0) hx hb hr (fun t ht hW => ⟨⟨_, (nI 1, st, tp, nI T, cb, cy, nc, dn, lf, of, ro), rfl, ⟨hres, hpost⟩, by rw [ht]; exact hP, va_K.moved hW.alike hK, hD⟩, hS.F ht⟩) hS.2.2 dX1_feed_50
      · exact absurd c_22 (by decide)
  rw [hH, hlo] at goal
  exact goal

set_option maxHeartbeats 4000000 in
set_option maxRecDepth 100000 in
theorem c_X1_put (l : Launch) (dC : Nat → ClassId) (dI : Nat → Nat → Nat) (cA : ClassId) (ad : Nat → Nat) (sz : Nat) (th : Int32) (st tp : Nat → Int32) (cb cy : Nat → Int32) (dn lf : Int64) (of : Int32) (ro : Nat → Int32) (n T : Nat) (b : Int32) (hn : n ≤ 24) (hT : T ≤ 64) : Met l yX1_put wsX1_put ({ frames := 1, cells := 0, slots := 0, locals := 25 } : Room) (va_Pc [.ref (ad 0), .int b] (fun U => U.heap.size = sz ∧ va_P (dC, dI) vwCl (wM cA ad th st tp (nI T) cb cy (nI n) dn lf of ro) U.heap ∧ va_K (dC, dI) vwCl [(cA, .int)] U ∧ va_D (fun _ => True) (wM cA ad th st tp (nI T) cb cy (nI n) dn lf of ro))) (va_Qi (fun (r : Int32) (u : MS) => r = (if mpK cb n b = 0 then nI (mpN cb n b) else nI 0) ∧ u = (nI (mpK cb n b), st, tp, if mpK cb n b = 0 then nI 0 else nI T, if mpK cb n b = 0 then upd cb (mpX cb n b) b else cb, if mpK cb n b = 0 then ptF cy tp T (mpX cb n b) 64 else cy, if mpK cb n b = 0 then nI (mpN cb n b) else nI n, dn, lf, of, ro)) (aM dC dI cA ad (va_A (wM cA ad th st tp (nI T) cb cy (nI n) dn lf of ro) sz)) (va_A (wM cA ad th st tp (nI T) cb cy (nI n) dn lf of ro) sz)) 0 0 (va_A (wM cA ad th st tp (nI T) cb cy (nI n) dn lf of ro) sz) := by
  refine Met.ofW (cc := cX1_put) (maxL := 4) (ret := (some .int)) (by decide) rfl ?_
  intro p e s m args below meth c s₁ B hml hv
  obtain ⟨rfl, hsz, hP, hK, hD0⟩ := hv
  have hx := B.exec
  have hb := B.bytes
  have hr := B.returns
  have hts := atoms_spec (ws := wsX1_put) B.pre
  have hown : s.vm.findClass RX1 = some m.cls := findClass_of_methodNamed B.named
  have hlocks := B.notSynchronized
  have hin : ∀ w ∈ u_ws RX1 TX1 11, w ∈ wsX1_put := by decide +kernel
  subst hsz
  have hD := hD0.self (sz := s.heap.size)
  generalize hAe : va_A (wM cA ad th st tp (nI T) cb cy (nI n) dn lf of ro) s.heap.size = A at hD ⊢
  have hA : ∀ q : Nat, s.heap.size ≤ q → A q := fun q h => by rw [← hAe]; exact Or.inr h
  obtain ⟨H, locs, hH, hlo, hS⟩ : ∃ (H : Heap) (locs : List Loc), H = s.heap ∧ locs = [] ∧ va_S A s.heap H locs := ⟨s.heap, [], rfl, rfl, va_S.rf⟩
  rw [← hH] at hP
  have hP : va_P (dC, dI) vwCl (wM cA ad th st tp (nI T) cb cy (nI n) dn lf of ro) H := hP
  have hl := lv_entry ([.ref (ad 0), .int b]) (n := 4) (Nat.le_of_ble_eq_true rfl)
  rw [lg_entry_eq]
  generalize (lg_sl ([.ref (ad 0), .int b]) ++ List.replicate (4 - (lg_sl ([.ref (ad 0), .int b])).length) Slot.unset).toArray = ls at hl ⊢
  have goal : W p l e (headSpec wsX1_put ({ frames := 1, cells := 0, slots := 0, locals := 25 } : Room)).room s m ([.ref (ad 0), .int b] : List Value).toArray below meth c H locs 0 0 (MQ below (va_Qi (fun (r : Int32) (u : MS) => r = (if mpK cb n b = 0 then nI (mpN cb n b) else nI 0) ∧ u = (nI (mpK cb n b), st, tp, if mpK cb n b = 0 then nI 0 else nI T, if mpK cb n b = 0 then upd cb (mpX cb n b) b else cb, if mpK cb n b = 0 then ptF cy tp T (mpX cb n b) 64 else cy, if mpK cb n b = 0 then nI (mpN cb n b) else nI n, dn, lf, of, ro)) (aM dC dI cA ad A) A) ([.ref (ad 0), .int b] : List Value).toArray s 0 0 A) (F0 m 0 ls []) := by
    clear hH hlo
    have hl : lv_has ls 4 [(0, .ref (ad 0)), (1, .int b)] := hl
    refine lv_aload_n hx hb dX1_put_0 rfl (lv_at hl 0 rfl) ?_
    refine lv_iload_n hx hb dX1_put_1 rfl (lv_at hl 1 rfl) ?_
    refine lv_i2l hx hb dX1_put_2 rfl ?_
    refine lv_ldc2 hx hb hown (hts (.constantLong RX1 62 (25)) (by decide +kernel)) dX1_put_3 ?_
    refine lv_ldc2 hx hb hown (hts (.constantLong RX1 64 (95)) (by decide +kernel)) dX1_put_6 ?_
    refine bj_call (v := .int (bI (wiF b.toInt64 25 95))) (W.runS (As := [.long b.toInt64, .long (25), .long (95)]) (rest := [.ref (ad 0)]) ⟨hx, hb, hml, hown, hts⟩ (c_X1_within l b.toInt64 25 95) (va_cwS 3 hts gX1_put_X1_within rfl rfl rfl (by decide +kernel) ⟨Nat.le_of_ble_eq_true rfl, Nat.le_of_ble_eq_true rfl⟩) ⟨fun _ _ _ _ q => q, fun _ _ _ => ⟨rfl, trivial⟩⟩ rfl rfl hl.1 rfl (lv_room (Nat.le_of_ble_eq_true rfl)) dX1_put_9 ⟨Nat.le_of_ble_eq_true rfl, Nat.le_of_ble_eq_true rfl⟩) ?_
    refine lv_if_ne (tgt := 19) hx hb dX1_put_12 (by decide) (fun c_12 => ?_) (fun c_12 => ?_)
    · refine lv_iconst (v := nI 0) hx hb dX1_put_19 (by decide) ?_
      refine lv_iconst (v := nI 1) hx hb dX1_put_20 (by decide) ?_
      have hFc := va_free (wc := wM cA ad th st tp (nI T) cb cy (nI n) dn lf of ro) hD hS hA [0, 1, 2, 3, 4, 5] rfl
      refine va_calli (va_runV (As := [.int (nI 0), .int (nI 1)]) (rest := []) ⟨hx, hb, hml, hown, hts⟩ (c_X1_fails l dC dI cA ad H.size th st tp (nI T) cb cy (nI n) dn lf of ro (nI 0) (nI 1) rfl) (cwV 2 hts gX1_put_X1_fails rfl rfl rfl (by decide +kernel) ⟨Nat.le_of_ble_eq_true rfl, Nat.le_of_ble_eq_true rfl⟩) ⟨fun a U g mk q => by obtain ⟨q0, q1, qP, qK, qD⟩ := q; exact ⟨q0, q1, qP, va_K.moved (u := U) (U := U.calling g mk a) (Vm.Alike.refl U.vm) qK, qD⟩, va_recv hK hP (ci := 1) (q0 := 0) rfl rfl, fun U hU hW => ⟨rfl, by rw [hU], by rw [hU]; exact hP, va_K.moved hW.alike hK, hD.weaken (fun _ _ _ _ => trivial)⟩⟩ rfl rfl hl.1 rfl (lv_room (Nat.le_of_ble_eq_true rfl)) dX1_put_21 ⟨Nat.le_of_ble_eq_true rfl, Nat.le_of_ble_eq_true rfl⟩) hS (fun q _ h => hFc q h) hFc (fun r_21 u t H1 locs ht hvm hw hB hz1 hk1 hS => ?_)
      obtain ⟨hP1, hK1, hD1⟩ := hB
      obtain ⟨e_21, rfl⟩ := hw
      rw [ht] at hP1
      have hP : va_P (dC, dI) vwCl (wM cA ad (nI 0) st tp (nI T) cb cy (nI n) dn lf of ro) H1 := hP1
      have hD : va_D A (wM cA ad (nI 0) st tp (nI T) cb cy (nI n) dn lf of ro) := ⟨hD1.1, fun k q h => hFc _ (hD1.2 k q h)⟩
      generalize H1 = H at hP hS ⊢
      subst e_21
      refine lv_if_ne (tgt := 57) hx hb dX1_put_24 (by decide) (fun c_24 => ?_) (fun c_24 => ?_)
      · exact absurd (by decide) c_24
      · refine lv_aload_n hx hb dX1_put_27 rfl (lv_at hl 0 rfl) ?_
        refine lv_aload_n hx hb dX1_put_28 rfl (lv_at hl 0 rfl) ?_
        refine lv_iload_n hx hb dX1_put_29 rfl (lv_at hl 1 rfl) ?_
        refine bj_call (v := .int (fnF cb b n 0)) (W.runV (As := [.int b]) (rest := [.ref (ad 0)]) ⟨hx, hb, hml, hown, hts⟩ (c_X1_find l dC dI cA ad (nI 0) st tp (nI T) cb cy dn lf of ro n b hn) (cwV 1 hts gX1_put_X1_find rfl rfl rfl (by decide +kernel) ⟨Nat.le_of_ble_eq_true rfl, Nat.le_of_ble_eq_true rfl⟩) ⟨fun a U g mk q => by obtain ⟨q0, qP, qK⟩ := q; exact ⟨q0, qP, va_K.moved (u := U) (U := U.calling g mk a) (Vm.Alike.refl U.vm) qK⟩, va_recv hK hP (ci := 1) (q0 := 0) rfl rfl, fun U hU hW => ⟨rfl, by rw [hU]; exact hP, va_K.moved hW.alike hK⟩⟩ rfl rfl hl.1 rfl (lv_room (Nat.le_of_ble_eq_true rfl)) dX1_put_30 ⟨Nat.le_of_ble_eq_true rfl, Nat.le_of_ble_eq_true rfl⟩) ?_
        refine lv_if_ge (tgt := 49) hx hb dX1_put_33 (by decide) (fun c_33 => ?_) (fun c_33 => ?_)
        · refine lv_iconst (v := nI 0) hx hb dX1_put_49 (by decide) ?_
          refine lv_iconst (v := nI 2) hx hb dX1_put_50 (by decide) ?_
          have hFc := va_free (wc := wM cA ad (nI 0) st tp (nI T) cb cy (nI n) dn lf of ro) hD hS hA [0, 1, 2, 3, 4, 5] rfl
          refine va_calli (va_runV (As := [.int (nI 0), .int (nI 2)]) (rest := []) ⟨hx, hb, hml, hown, hts⟩ (c_X1_fails l dC dI cA ad H.size (nI 0) st tp (nI T) cb cy (nI n) dn lf of ro (nI 0) (nI 2) rfl) (cwV 2 hts gX1_put_X1_fails rfl rfl rfl (by decide +kernel) ⟨Nat.le_of_ble_eq_true rfl, Nat.le_of_ble_eq_true rfl⟩) ⟨fun a U g mk q => by obtain ⟨q0, q1, qP, qK, qD⟩ := q; exact ⟨q0, q1, qP, va_K.moved (u := U) (U := U.calling g mk a) (Vm.Alike.refl U.vm) qK, qD⟩, va_recv hK hP (ci := 1) (q0 := 0) rfl rfl, fun U hU hW => ⟨rfl, by rw [hU], by rw [hU]; exact hP, va_K.moved hW.alike hK, hD.weaken (fun _ _ _ _ => trivial)⟩⟩ rfl rfl hl.1 rfl (lv_room (Nat.le_of_ble_eq_true rfl)) dX1_put_51 ⟨Nat.le_of_ble_eq_true rfl, Nat.le_of_ble_eq_true rfl⟩) hS (fun q _ h => hFc q h) hFc (fun r_51 u t H1 locs ht hvm hw hB hz1 hk1 hS => ?_)
          obtain ⟨hP1, hK1, hD1⟩ := hB
          obtain ⟨e_51, rfl⟩ := hw
          rw [ht] at hP1
          have hP : va_P (dC, dI) vwCl (wM cA ad (nI 0) st tp (nI T) cb cy (nI n) dn lf of ro) H1 := hP1
          have hD : va_D A (wM cA ad (nI 0) st tp (nI T) cb cy (nI n) dn lf of ro) := ⟨hD1.1, fun k q h => hFc _ (hD1.2 k q h)⟩
          generalize H1 = H at hP hS ⊢
          subst e_51
          refine lv_if_eq (tgt := 59) hx hb dX1_put_54 (by decide) (fun c_54 => ?_) (fun c_54 => ?_)
          · refine lv_aload_n hx hb dX1_put_59 rfl (lv_at hl 0 rfl) ?_
            refine lv_iload_n hx hb dX1_put_60 rfl (lv_at hl 1 rfl) ?_
            refine bj_call (v := .int (fnF cb b n 0)) (W.runV (As := [.int b]) (rest := []) ⟨hx, hb, hml, hown, hts⟩ (c_X1_find l dC dI cA ad (nI 0) st tp (nI T) cb cy dn lf of ro n b hn) (cwV 1 hts gX1_put_X1_find rfl rfl rfl (by decide +kernel) ⟨Nat.le_of_ble_eq_true rfl, Nat.le_of_ble_eq_true rfl⟩) ⟨fun a U g mk q => by obtain ⟨q0, qP, qK⟩ := q; exact ⟨q0, qP, va_K.moved (u := U) (U := U.calling g mk a) (Vm.Alike.refl U.vm) qK⟩, va_recv hK hP (ci := 1) (q0 := 0) rfl rfl, fun U hU hW => ⟨rfl, by rw [hU]; exact hP, va_K.moved hW.alike hK⟩⟩ rfl rfl hl.1 rfl (lv_room (Nat.le_of_ble_eq_true rfl)) dX1_put_61 ⟨Nat.le_of_ble_eq_true rfl, Nat.le_of_ble_eq_true rfl⟩) ?_
            refine lv_if_ge (tgt := 74) hx hb dX1_put_64 (by decide) (fun c_64 => ?_) (fun c_64 => ?_)
            · refine lv_aload_n hx hb dX1_put_74 rfl (lv_at hl 0 rfl) ?_
              refine lv_iload_n hx hb dX1_put_75 rfl (lv_at hl 1 rfl) ?_
              refine bj_call (v := .int (fnF cb b n 0)) (W.runV (As := [.int b]) (rest := []) ⟨hx, hb, hml, hown, hts⟩ (c_X1_find l dC dI cA ad (nI 0) st tp (nI T) cb cy dn lf of ro n b hn) (cwV 1 hts gX1_put_X1_find rfl rfl rfl (by decide +kernel) ⟨Nat.le_of_ble_eq_true rfl, Nat.le_of_ble_eq_true rfl⟩) ⟨fun a U g mk q => by obtain ⟨q0, qP, qK⟩ := q; exact ⟨q0, qP, va_K.moved (u := U) (U := U.calling g mk a) (Vm.Alike.refl U.vm) qK⟩, va_recv hK hP (ci := 1) (q0 := 0) rfl rfl, fun U hU hW => ⟨rfl, by rw [hU]; exact hP, va_K.moved hW.alike hK⟩⟩ rfl rfl hl.1 rfl (lv_room (Nat.le_of_ble_eq_true rfl)) dX1_put_76 ⟨Nat.le_of_ble_eq_true rfl, Nat.le_of_ble_eq_true rfl⟩) ?_
              obtain ⟨x, hx9, ex⟩ : ∃ x, x < n ∧ fnF cb b n 0 = nI x := by
                rcases fnF_nat cb b n 0 with ⟨e9, -⟩ | ⟨j, -, h2, e9, -⟩
                · exact absurd c_33 (by rw [e9]; decide)
                · exact ⟨j, by omega, e9⟩
              have hx24 : x < 24 := by omega
              have eX : mpX cb n b = x := by rw [mpX, if_pos c_33, ex]; exact nI_clamp (by omega)
              refine bj_i (y := nI x) (ex) ?_
              refine lv_istore_n (lv' := [(2, .int (nI x)), (0, .ref (ad 0)), (1, .int b)]) hx hb dX1_put_79 rfl hl (by decide) rfl (fun ls hl => ?_)
              refine lv_iload_n hx hb dX1_put_80 rfl (lv_at hl 0 rfl) ?_
              refine lv_aload_n hx hb dX1_put_81 rfl (lv_at hl 1 rfl) ?_
              refine va_get (D := (dC, dI)) (ci := 1) (v := .int (nI n)) (C := RX1) (T := TX1) (N := 11) hx hb hts hin hown hK hP 0 rfl rfl 6 (by decide) (hts (.fieldLink RX1 81 "BlockJournalModel" "changes" "I") (by decide +kernel)) (fun _ h9 => h9) rfl dX1_put_82 ?_
              refine lv_icmp_ne (tgt := 98) hx hb dX1_put_85 (by decide) (fun c_85 => ?_) (fun c_85 => ?_)
              · have n_85 : ¬ x = n := fun h => c_85 ((nI_eq (by omega) (by omega)).mpr h)
                refine lv_aload_n hx hb dX1_put_98 rfl (lv_at hl 1 rfl) ?_
                refine va_get (D := (dC, dI)) (ci := 1) (v := .ref (ad 3)) (C := RX1) (T := TX1) (N := 11) hx hb hts hin hown hK hP 0 rfl rfl 4 (by decide) (hts (.fieldLink RX1 16 "BlockJournalModel" "change" "[I") (by decide +kernel)) (fun _ h9 => h9) rfl dX1_put_99 ?_
                refine lv_iload_n hx hb dX1_put_102 rfl (lv_at hl 0 rfl) ?_
                refine lv_iload_n hx hb dX1_put_103 rfl (lv_at hl 2 rfl) ?_
                refine va_iast (D := (dC, dI)) hx hb hK hP hD hS 3 0 (cA := cA) (n := 24) (f := cb) rfl rfl (i := (nI x)) (vp_in_nI (by omega) (by omega)) dX1_put_104 (fun H locs hP hD hS => ?_)
                rw [nI_clamp (n := x) (by omega)] at hP hD
                have hP : va_P (dC, dI) vwCl (wM cA ad (nI 0) st tp (nI T) (upd cb x b) cy (nI n) dn lf of ro) H := hP
                have hD : va_D A (wM cA ad (nI 0) st tp (nI T) (upd cb x b) cy (nI n) dn lf of ro) := hD
                refine lv_iconst (v := nI 0) hx hb dX1_put_105 (by decide) ?_
                refine lv_istore_n (lv' := [(3, .int (nI 0)), (2, .int (nI x)), (0, .ref (ad 0)), (1, .int b)]) hx hb dX1_put_106 rfl hl (by decide) rfl (fun ls hl => ?_)
                have loop_107 : ∀ (k : Nat) (i : Nat), i + k = 64 → ∀ (H : Heap) (locs : List Loc) (ls : Array Slot), va_P (dC, dI) vwCl (wM cA ad (nI 0) st tp (nI T) (upd cb x b) (ptF cy tp T x i) (nI n) dn lf of ro) H → va_D A (wM cA ad (nI 0) st tp (nI T) (upd cb x b) (ptF cy tp T x i) (nI n) dn lf of ro) → va_S A s.heap H locs → lv_has ls 4 [(0, .ref (ad 0)), (1, .int b), (2, .int (nI x)), (3, .int (nI i))] → W p l e (headSpec wsX1_put ({ frames := 1, cells := 0, slots := 0, locals := 25 } : Room)).room s m ([.ref (ad 0), .int b] : List Value).toArray below meth c H locs 0 0 (MQ below (va_Qi (fun (r : Int32) (u : MS) => r = (if mpK cb n b = 0 then nI (mpN cb n b) else nI 0) ∧ u = (nI (mpK cb n b), st, tp, if mpK cb n b = 0 then nI 0 else nI T, if mpK cb n b = 0 then upd cb (mpX cb n b) b else cb, if mpK cb n b = 0 then ptF cy tp T (mpX cb n b) 64 else cy, if mpK cb n b = 0 then nI (mpN cb n b) else nI n, dn, lf, of, ro)) (aM dC dI cA ad A) A) ([.ref (ad 0), .int b] : List Value).toArray s 0 0 A) (F0 m 107 ls []) := by
                  intro k
                  induction k with
                  | zero =>
                    intro i hk H locs ls hP hD hS hl
                    refine lv_iload_n hx hb dX1_put_107 rfl (lv_at hl 3 rfl) ?_
                    refine lv_bipush (v := nI 64) hx hb dX1_put_108 (by decide) ?_
                    refine lv_icmp_ge (tgt := 148) hx hb dX1_put_110 (by decide) (fun c_110 => ?_) (fun c_110 => ?_)
                    · have n_110 : 64 ≤ i := (nI_leI (by omega) (by omega)).mp c_110
                      have ei : i = 64 := by omega
                      rw [ei] at hP hD
                      refine lv_aload_n hx hb dX1_put_148 rfl (lv_at hl 0 rfl) ?_
                      refine lv_iconst (v := nI 0) hx hb dX1_put_149 (by decide) ?_
                      refine va_put (D := (dC, dI)) (ci := 1) (v := .int (nI 0)) (ty := .int) (C := RX1) (T := TX1) (N := 11) hx hb hts hin tyX1 tyX1_ok nmX1 hown hK hP hD hS 0 rfl rfl 3 (by decide) (hts (.fieldLink RX1 76 "BlockJournalModel" "taped" "I") (by decide +kernel)) (fun _ h9 => h9) rfl (by decide +kernel) rfl rfl (Nat.le_of_ble_eq_true rfl) dX1_put_150 (fun H locs hP hD hS => ?_)
                      have hP : va_P (dC, dI) vwCl (wM cA ad (nI 0) st tp (nI 0) (upd cb x b) (ptF cy tp T x 64) (nI n) dn lf of ro) H := hP
                      have hD : va_D A (wM cA ad (nI 0) st tp (nI 0) (upd cb x b) (ptF cy tp T x 64) (nI n) dn lf of ro) := hD
                      refine lv_aload_n hx hb dX1_put_153 rfl (lv_at hl 0 rfl) ?_
                      refine va_get (D := (dC, dI)) (ci := 1) (v := .int (nI n)) (C := RX1) (T := TX1) (N := 11) hx hb hts hin hown hK hP 0 rfl rfl 6 (by decide) (hts (.fieldLink RX1 81 "BlockJournalModel" "changes" "I") (by decide +kernel)) (fun _ h9 => h9) rfl dX1_put_154 ?_
                      have hpost : ((nI 0, st, tp, nI 0, upd cb x b, ptF cy tp T x 64, nI n, dn, lf, of, ro) : MS) = (nI (mpK cb n b), st, tp, if mpK cb n b = 0 then nI 0 else nI T, if mpK cb n b = 0 then upd cb (mpX cb n b) b else cb, if mpK cb n b = 0 then ptF cy tp T (mpX cb n b) 64 else cy, if mpK cb n b = 0 then nI (mpN cb n b) else nI n, dn, lf, of, ro) := by rw [show mpK cb n b = 0 by rw [mpK, if_pos c_12, if_pos c_33], eX, show mpN cb n b = n by rw [mpN, if_pos c_33]]; rfl
                      have hres : nI n = (if mpK cb n b = 0 then nI (mpN cb n b) else nI 0) := by rw [show mpK cb n b = 0 by rw [mpK, if_pos c_12, if_pos c_33], show mpN cb n b = n by rw [mpN, if_pos c_33]]; rfl
                      exact W.iret (v := nI n) hx hb hr (fun t ht hW => ⟨⟨_, (nI 0, st, tp, nI 0, upd cb x b, ptF cy tp T x 64, nI n, dn, lf, of, ro), rfl, ⟨hres, hpost⟩, by rw [ht]; exact hP, va_K.moved hW.alike hK, hD⟩, hS.F ht⟩) hS.2.2 dX1_put_157
                    · have n_110 : ¬ 64 ≤ i := fun h => c_110 ((nI_leI (by omega) (by omega)).mpr h)
                      exfalso; omega
                  | succ k ih =>
                    intro i hk H locs ls hP hD hS hl
                    refine lv_iload_n hx hb dX1_put_107 rfl (lv_at hl 3 rfl) ?_
                    refine lv_bipush (v := nI 64) hx hb dX1_put_108 (by decide) ?_
                    refine lv_icmp_ge (tgt := 148) hx hb dX1_put_110 (by decide) (fun c_110 => ?_) (fun c_110 => ?_)
                    · have n_110 : 64 ≤ i := (nI_leI (by omega) (by omega)).mp c_110
                      exfalso; omega
                    · have n_110 : ¬ 64 ≤ i := fun h => c_110 ((nI_leI (by omega) (by omega)).mpr h)
                      refine lv_aload_n hx hb dX1_put_113 rfl (lv_at hl 0 rfl) ?_
                      refine va_get (D := (dC, dI)) (ci := 1) (v := .ref (ad 4)) (C := RX1) (T := TX1) (N := 11) hx hb hts hin hown hK hP 0 rfl rfl 5 (by decide) (hts (.fieldLink RX1 19 "BlockJournalModel" "fresh" "[I") (by decide +kernel)) (fun _ h9 => h9) rfl dX1_put_114 ?_
                      refine lv_bipush (v := nI 64) hx hb dX1_put_117 (by decide) ?_
                      refine lv_iload_n hx hb dX1_put_119 rfl (lv_at hl 2 rfl) ?_
                      refine lv_imul hx hb dX1_put_120 ?_
                      refine bj_i (pk_mul 64 x) ?_
                      refine lv_iload_n hx hb dX1_put_121 rfl (lv_at hl 3 rfl) ?_
                      refine lv_iadd hx hb dX1_put_122 ?_
                      refine bj_i (nI_add (64 * x) i) ?_
                      refine lv_iload_n hx hb dX1_put_123 rfl (lv_at hl 3 rfl) ?_
                      refine lv_aload_n hx hb dX1_put_124 rfl (lv_at hl 0 rfl) ?_
                      refine va_get (D := (dC, dI)) (ci := 1) (v := .int (nI T)) (C := RX1) (T := TX1) (N := 11) hx hb hts hin hown hK hP 0 rfl rfl 3 (by decide) (hts (.fieldLink RX1 76 "BlockJournalModel" "taped" "I") (by decide +kernel)) (fun _ h9 => h9) rfl dX1_put_125 ?_
                      refine lv_icmp_ge (tgt := 140) hx hb dX1_put_128 (by decide) (fun c_128 => ?_) (fun c_128 => ?_)
                      · have n_128 : T ≤ i := (nI_leI (by omega) (by omega)).mp c_128
                        refine lv_iconst (v := nI 0) hx hb dX1_put_140 (by decide) ?_
                        refine bj_i (y := if T ≤ i then nI 0 else tp i) (by rw [if_pos n_128]) ?_
                        refine va_iast (D := (dC, dI)) hx hb hK hP hD hS 4 0 (cA := cA) (n := 1536) (f := (ptF cy tp T x i)) rfl rfl (i := (nI ((64 * x) + i))) (vp_in_nI (by omega) (by omega)) dX1_put_141 (fun H locs hP hD hS => ?_)
                        rw [nI_clamp (n := (64 * x) + i) (by omega)] at hP hD
                        have hP : va_P (dC, dI) vwCl (wM cA ad (nI 0) st tp (nI T) (upd cb x b) (upd (ptF cy tp T x i) ((64 * x) + i) (if T ≤ i then nI 0 else tp i)) (nI n) dn lf of ro) H := hP
                        have hD : va_D A (wM cA ad (nI 0) st tp (nI T) (upd cb x b) (upd (ptF cy tp T x i) ((64 * x) + i) (if T ≤ i then nI 0 else tp i)) (nI n) dn lf of ro) := hD
                        refine lv_iinc (v := nI (i + 1)) (lv' := [(3, .int (nI (i + 1))), (0, .ref (ad 0)), (1, .int b), (2, .int (nI x))]) hx hb dX1_put_142 hl (k := 3) rfl (nI_add i 1) (by decide) rfl (fun ls hl => ?_)
                        refine lv_goto (tgt := 107) hx hb dX1_put_145 (by decide) ?_
                        exact ih (i + 1) (by omega) _ _ _ hP hD hS (lv_sub hl [1, 2, 3, 0] rfl)
                      · have n_128 : ¬ T ≤ i := fun h => c_128 ((nI_leI (by omega) (by omega)).mpr h)
                        refine lv_aload_n hx hb dX1_put_131 rfl (lv_at hl 0 rfl) ?_
                        refine va_get (D := (dC, dI)) (ci := 1) (v := .ref (ad 2)) (C := RX1) (T := TX1) (N := 11) hx hb hts hin hown hK hP 0 rfl rfl 2 (by decide) (hts (.fieldLink RX1 13 "BlockJournalModel" "tape" "[I") (by decide +kernel)) (fun _ h9 => h9) rfl dX1_put_132 ?_
                        refine lv_iload_n hx hb dX1_put_135 rfl (lv_at hl 3 rfl) ?_
                        refine va_iald (D := (dC, dI)) hx hb hK hP 2 0 (cA := cA) (n := 64) (f := tp) rfl rfl (i := (nI i)) (vp_in_nI (by omega) (by omega)) dX1_put_136 ?_
                        refine bj_i (y := tp i) (congrArg tp (nI_clamp (by omega))) ?_
                        refine lv_goto (tgt := 141) hx hb dX1_put_137 (by decide) ?_
                        refine bj_i (y := if T ≤ i then nI 0 else tp i) (by rw [if_neg n_128]) ?_
                        refine va_iast (D := (dC, dI)) hx hb hK hP hD hS 4 0 (cA := cA) (n := 1536) (f := (ptF cy tp T x i)) rfl rfl (i := (nI ((64 * x) + i))) (vp_in_nI (by omega) (by omega)) dX1_put_141 (fun H locs hP hD hS => ?_)
                        rw [nI_clamp (n := (64 * x) + i) (by omega)] at hP hD
                        have hP : va_P (dC, dI) vwCl (wM cA ad (nI 0) st tp (nI T) (upd cb x b) (upd (ptF cy tp T x i) ((64 * x) + i) (if T ≤ i then nI 0 else tp i)) (nI n) dn lf of ro) H := hP
                        have hD : va_D A (wM cA ad (nI 0) st tp (nI T) (upd cb x b) (upd (ptF cy tp T x i) ((64 * x) + i) (if T ≤ i then nI 0 else tp i)) (nI n) dn lf of ro) := hD
                        refine lv_iinc (v := nI (i + 1)) (lv' := [(3, .int (nI (i + 1))), (0, .ref (ad 0)), (1, .int b), (2, .int (nI x))]) hx hb dX1_put_142 hl (k := 3) rfl (nI_add i 1) (by decide) rfl (fun ls hl => ?_)
                        refine lv_goto (tgt := 107) hx hb dX1_put_145 (by decide) ?_
                        exact ih (i + 1) (by omega) _ _ _ hP hD hS (lv_sub hl [1, 2, 3, 0] rfl)
                exact loop_107 64 0 (by omega) _ _ _ hP hD hS (lv_sub hl [2, 3, 1, 0] rfl)
              · have n_85 : x = n := (nI_eq (by omega) (by omega)).mp c_85
                exfalso; omega
            · exact absurd c_33 c_64
          · exact absurd (by decide) c_54
        · refine lv_aload_n hx hb dX1_put_36 rfl (lv_at hl 0 rfl) ?_
          refine va_get (D := (dC, dI)) (ci := 1) (v := .int (nI n)) (C := RX1) (T := TX1) (N := 11) hx hb hts hin hown hK hP 0 rfl rfl 6 (by decide) (hts (.fieldLink RX1 81 "BlockJournalModel" "changes" "I") (by decide +kernel)) (fun _ h9 => h9) rfl dX1_put_37 ?_
          refine lv_bipush (v := nI 24) hx hb dX1_put_40 (by decide) ?_
          refine lv_icmp_ne (tgt := 49) hx hb dX1_put_42 (by decide) (fun c_42 => ?_) (fun c_42 => ?_)
          · have n_42 : ¬ n = 24 := fun h => c_42 ((nI_eq (by omega) (by omega)).mpr h)
            refine lv_iconst (v := nI 0) hx hb dX1_put_49 (by decide) ?_
            refine lv_iconst (v := nI 2) hx hb dX1_put_50 (by decide) ?_
            have hFc := va_free (wc := wM cA ad (nI 0) st tp (nI T) cb cy (nI n) dn lf of ro) hD hS hA [0, 1, 2, 3, 4, 5] rfl
            refine va_calli (va_runV (As := [.int (nI 0), .int (nI 2)]) (rest := []) ⟨hx, hb, hml, hown, hts⟩ (c_X1_fails l dC dI cA ad H.size (nI 0) st tp (nI T) cb cy (nI n) dn lf of ro (nI 0) (nI 2) rfl) (cwV 2 hts gX1_put_X1_fails rfl rfl rfl (by decide +kernel) ⟨Nat.le_of_ble_eq_true rfl, Nat.le_of_ble_eq_true rfl⟩) ⟨fun a U g mk q => by obtain ⟨q0, q1, qP, qK, qD⟩ := q; exact ⟨q0, q1, qP, va_K.moved (u := U) (U := U.calling g mk a) (Vm.Alike.refl U.vm) qK, qD⟩, va_recv hK hP (ci := 1) (q0 := 0) rfl rfl, fun U hU hW => ⟨rfl, by rw [hU], by rw [hU]; exact hP, va_K.moved hW.alike hK, hD.weaken (fun _ _ _ _ => trivial)⟩⟩ rfl rfl hl.1 rfl (lv_room (Nat.le_of_ble_eq_true rfl)) dX1_put_51 ⟨Nat.le_of_ble_eq_true rfl, Nat.le_of_ble_eq_true rfl⟩) hS (fun q _ h => hFc q h) hFc (fun r_51 u t H1 locs ht hvm hw hB hz1 hk1 hS => ?_)
            obtain ⟨hP1, hK1, hD1⟩ := hB
            obtain ⟨e_51, rfl⟩ := hw
            rw [ht] at hP1
            have hP : va_P (dC, dI) vwCl (wM cA ad (nI 0) st tp (nI T) cb cy (nI n) dn lf of ro) H1 := hP1
            have hD : va_D A (wM cA ad (nI 0) st tp (nI T) cb cy (nI n) dn lf of ro) := ⟨hD1.1, fun k q h => hFc _ (hD1.2 k q h)⟩
            generalize H1 = H at hP hS ⊢
            subst e_51
            refine lv_if_eq (tgt := 59) hx hb dX1_put_54 (by decide) (fun c_54 => ?_) (fun c_54 => ?_)
            · refine lv_aload_n hx hb dX1_put_59 rfl (lv_at hl 0 rfl) ?_
              refine lv_iload_n hx hb dX1_put_60 rfl (lv_at hl 1 rfl) ?_
              refine bj_call (v := .int (fnF cb b n 0)) (W.runV (As := [.int b]) (rest := []) ⟨hx, hb, hml, hown, hts⟩ (c_X1_find l dC dI cA ad (nI 0) st tp (nI T) cb cy dn lf of ro n b hn) (cwV 1 hts gX1_put_X1_find rfl rfl rfl (by decide +kernel) ⟨Nat.le_of_ble_eq_true rfl, Nat.le_of_ble_eq_true rfl⟩) ⟨fun a U g mk q => by obtain ⟨q0, qP, qK⟩ := q; exact ⟨q0, qP, va_K.moved (u := U) (U := U.calling g mk a) (Vm.Alike.refl U.vm) qK⟩, va_recv hK hP (ci := 1) (q0 := 0) rfl rfl, fun U hU hW => ⟨rfl, by rw [hU]; exact hP, va_K.moved hW.alike hK⟩⟩ rfl rfl hl.1 rfl (lv_room (Nat.le_of_ble_eq_true rfl)) dX1_put_61 ⟨Nat.le_of_ble_eq_true rfl, Nat.le_of_ble_eq_true rfl⟩) ?_
              refine lv_if_ge (tgt := 74) hx hb dX1_put_64 (by decide) (fun c_64 => ?_) (fun c_64 => ?_)
              · exact absurd c_64 c_33
              · refine lv_aload_n hx hb dX1_put_67 rfl (lv_at hl 0 rfl) ?_
                refine va_get (D := (dC, dI)) (ci := 1) (v := .int (nI n)) (C := RX1) (T := TX1) (N := 11) hx hb hts hin hown hK hP 0 rfl rfl 6 (by decide) (hts (.fieldLink RX1 81 "BlockJournalModel" "changes" "I") (by decide +kernel)) (fun _ h9 => h9) rfl dX1_put_68 ?_
                refine lv_goto (tgt := 79) hx hb dX1_put_71 (by decide) ?_
                obtain ⟨x, exn⟩ : ∃ x, x = n := ⟨n, rfl⟩
                have hx24 : x < 24 := by omega
                have eX : mpX cb n b = x := by rw [mpX, if_neg c_33, exn]
                refine bj_i (y := nI x) (by rw [exn]) ?_
                refine lv_istore_n (lv' := [(2, .int (nI x)), (0, .ref (ad 0)), (1, .int b)]) hx hb dX1_put_79 rfl hl (by decide) rfl (fun ls hl => ?_)
                refine lv_iload_n hx hb dX1_put_80 rfl (lv_at hl 0 rfl) ?_
                refine lv_aload_n hx hb dX1_put_81 rfl (lv_at hl 1 rfl) ?_
                refine va_get (D := (dC, dI)) (ci := 1) (v := .int (nI n)) (C := RX1) (T := TX1) (N := 11) hx hb hts hin hown hK hP 0 rfl rfl 6 (by decide) (hts (.fieldLink RX1 81 "BlockJournalModel" "changes" "I") (by decide +kernel)) (fun _ h9 => h9) rfl dX1_put_82 ?_
                refine lv_icmp_ne (tgt := 98) hx hb dX1_put_85 (by decide) (fun c_85 => ?_) (fun c_85 => ?_)
                · have n_85 : ¬ x = n := fun h => c_85 ((nI_eq (by omega) (by omega)).mpr h)
                  exfalso; omega
                · have n_85 : x = n := (nI_eq (by omega) (by omega)).mp c_85
                  refine lv_aload_n hx hb dX1_put_88 rfl (lv_at hl 1 rfl) ?_
                  refine lv_dup hx hb dX1_put_89 rfl ?_
                  refine va_get (D := (dC, dI)) (ci := 1) (v := .int (nI n)) (C := RX1) (T := TX1) (N := 11) hx hb hts hin hown hK hP 0 rfl rfl 6 (by decide) (hts (.fieldLink RX1 81 "BlockJournalModel" "changes" "I") (by decide +kernel)) (fun _ h9 => h9) rfl dX1_put_90 ?_
                  refine lv_iconst (v := nI 1) hx hb dX1_put_93 (by decide) ?_
                  refine lv_iadd hx hb dX1_put_94 ?_
                  refine bj_i (nI_add n 1) ?_
                  refine va_put (D := (dC, dI)) (ci := 1) (v := .int (nI (n + 1))) (ty := .int) (C := RX1) (T := TX1) (N := 11) hx hb hts hin tyX1 tyX1_ok nmX1 hown hK hP hD hS 0 rfl rfl 6 (by decide) (hts (.fieldLink RX1 81 "BlockJournalModel" "changes" "I") (by decide +kernel)) (fun _ h9 => h9) rfl (by decide +kernel) rfl rfl (Nat.le_of_ble_eq_true rfl) dX1_put_95 (fun H locs hP hD hS => ?_)
                  have hP : va_P (dC, dI) vwCl (wM cA ad (nI 0) st tp (nI T) cb cy (nI (n + 1)) dn lf of ro) H := hP
                  have hD : va_D A (wM cA ad (nI 0) st tp (nI T) cb cy (nI (n + 1)) dn lf of ro) := hD
                  refine lv_aload_n hx hb dX1_put_98 rfl (lv_at hl 1 rfl) ?_
                  refine va_get (D := (dC, dI)) (ci := 1) (v := .ref (ad 3)) (C := RX1) (T := TX1) (N := 11) hx hb hts hin hown hK hP 0 rfl rfl 4 (by decide) (hts (.fieldLink RX1 16 "BlockJournalModel" "change" "[I") (by decide +kernel)) (fun _ h9 => h9) rfl dX1_put_99 ?_
                  refine lv_iload_n hx hb dX1_put_102 rfl (lv_at hl 0 rfl) ?_
                  refine lv_iload_n hx hb dX1_put_103 rfl (lv_at hl 2 rfl) ?_
                  refine va_iast (D := (dC, dI)) hx hb hK hP hD hS 3 0 (cA := cA) (n := 24) (f := cb) rfl rfl (i := (nI x)) (vp_in_nI (by omega) (by omega)) dX1_put_104 (fun H locs hP hD hS => ?_)
                  rw [nI_clamp (n := x) (by omega)] at hP hD
                  have hP : va_P (dC, dI) vwCl (wM cA ad (nI 0) st tp (nI T) (upd cb x b) cy (nI (n + 1)) dn lf of ro) H := hP
                  have hD : va_D A (wM cA ad (nI 0) st tp (nI T) (upd cb x b) cy (nI (n + 1)) dn lf of ro) := hD
                  refine lv_iconst (v := nI 0) hx hb dX1_put_105 (by decide) ?_
                  refine lv_istore_n (lv' := [(3, .int (nI 0)), (2, .int (nI x)), (0, .ref (ad 0)), (1, .int b)]) hx hb dX1_put_106 rfl hl (by decide) rfl (fun ls hl => ?_)
                  have loop_107 : ∀ (k : Nat) (i : Nat), i + k = 64 → ∀ (H : Heap) (locs : List Loc) (ls : Array Slot), va_P (dC, dI) vwCl (wM cA ad (nI 0) st tp (nI T) (upd cb x b) (ptF cy tp T x i) (nI (n + 1)) dn lf of ro) H → va_D A (wM cA ad (nI 0) st tp (nI T) (upd cb x b) (ptF cy tp T x i) (nI (n + 1)) dn lf of ro) → va_S A s.heap H locs → lv_has ls 4 [(0, .ref (ad 0)), (1, .int b), (2, .int (nI x)), (3, .int (nI i))] → W p l e (headSpec wsX1_put ({ frames := 1, cells := 0, slots := 0, locals := 25 } : Room)).room s m ([.ref (ad 0), .int b] : List Value).toArray below meth c H locs 0 0 (MQ below (va_Qi (fun (r : Int32) (u : MS) => r = (if mpK cb n b = 0 then nI (mpN cb n b) else nI 0) ∧ u = (nI (mpK cb n b), st, tp, if mpK cb n b = 0 then nI 0 else nI T, if mpK cb n b = 0 then upd cb (mpX cb n b) b else cb, if mpK cb n b = 0 then ptF cy tp T (mpX cb n b) 64 else cy, if mpK cb n b = 0 then nI (mpN cb n b) else nI n, dn, lf, of, ro)) (aM dC dI cA ad A) A) ([.ref (ad 0), .int b] : List Value).toArray s 0 0 A) (F0 m 107 ls []) := by
                    intro k
                    induction k with
                    | zero =>
                      intro i hk H locs ls hP hD hS hl
                      refine lv_iload_n hx hb dX1_put_107 rfl (lv_at hl 3 rfl) ?_
                      refine lv_bipush (v := nI 64) hx hb dX1_put_108 (by decide) ?_
                      refine lv_icmp_ge (tgt := 148) hx hb dX1_put_110 (by decide) (fun c_110 => ?_) (fun c_110 => ?_)
                      · have n_110 : 64 ≤ i := (nI_leI (by omega) (by omega)).mp c_110
                        have ei : i = 64 := by omega
                        rw [ei] at hP hD
                        refine lv_aload_n hx hb dX1_put_148 rfl (lv_at hl 0 rfl) ?_
                        refine lv_iconst (v := nI 0) hx hb dX1_put_149 (by decide) ?_
                        refine va_put (D := (dC, dI)) (ci := 1) (v := .int (nI 0)) (ty := .int) (C := RX1) (T := TX1) (N := 11) hx hb hts hin tyX1 tyX1_ok nmX1 hown hK hP hD hS 0 rfl rfl 3 (by decide) (hts (.fieldLink RX1 76 "BlockJournalModel" "taped" "I") (by decide +kernel)) (fun _ h9 => h9) rfl (by decide +kernel) rfl rfl (Nat.le_of_ble_eq_true rfl) dX1_put_150 (fun H locs hP hD hS => ?_)
                        have hP : va_P (dC, dI) vwCl (wM cA ad (nI 0) st tp (nI 0) (upd cb x b) (ptF cy tp T x 64) (nI (n + 1)) dn lf of ro) H := hP
                        have hD : va_D A (wM cA ad (nI 0) st tp (nI 0) (upd cb x b) (ptF cy tp T x 64) (nI (n + 1)) dn lf of ro) := hD
                        refine lv_aload_n hx hb dX1_put_153 rfl (lv_at hl 0 rfl) ?_
                        refine va_get (D := (dC, dI)) (ci := 1) (v := .int (nI (n + 1))) (C := RX1) (T := TX1) (N := 11) hx hb hts hin hown hK hP 0 rfl rfl 6 (by decide) (hts (.fieldLink RX1 81 "BlockJournalModel" "changes" "I") (by decide +kernel)) (fun _ h9 => h9) rfl dX1_put_154 ?_
                        have hpost : ((nI 0, st, tp, nI 0, upd cb x b, ptF cy tp T x 64, nI (n + 1), dn, lf, of, ro) : MS) = (nI (mpK cb n b), st, tp, if mpK cb n b = 0 then nI 0 else nI T, if mpK cb n b = 0 then upd cb (mpX cb n b) b else cb, if mpK cb n b = 0 then ptF cy tp T (mpX cb n b) 64 else cy, if mpK cb n b = 0 then nI (mpN cb n b) else nI n, dn, lf, of, ro) := by rw [show mpK cb n b = 0 by rw [mpK, if_pos c_12, if_neg c_33, if_pos n_42], eX, show mpN cb n b = n + 1 by rw [mpN, if_neg c_33]]; rfl
                        have hres : nI (n + 1) = (if mpK cb n b = 0 then nI (mpN cb n b) else nI 0) := by rw [show mpK cb n b = 0 by rw [mpK, if_pos c_12, if_neg c_33, if_pos n_42], show mpN cb n b = n + 1 by rw [mpN, if_neg c_33]]; rfl
                        exact W.iret (v := nI (n + 1)) hx hb hr (fun t ht hW => ⟨⟨_, (nI 0, st, tp, nI 0, upd cb x b, ptF cy tp T x 64, nI (n + 1), dn, lf, of, ro), rfl, ⟨hres, hpost⟩, by rw [ht]; exact hP, va_K.moved hW.alike hK, hD⟩, hS.F ht⟩) hS.2.2 dX1_put_157
                      · have n_110 : ¬ 64 ≤ i := fun h => c_110 ((nI_leI (by omega) (by omega)).mpr h)
                        exfalso; omega
                    | succ k ih =>
                      intro i hk H locs ls hP hD hS hl
                      refine lv_iload_n hx hb dX1_put_107 rfl (lv_at hl 3 rfl) ?_
                      refine lv_bipush (v := nI 64) hx hb dX1_put_108 (by decide) ?_
                      refine lv_icmp_ge (tgt := 148) hx hb dX1_put_110 (by decide) (fun c_110 => ?_) (fun c_110 => ?_)
                      · have n_110 : 64 ≤ i := (nI_leI (by omega) (by omega)).mp c_110
                        exfalso; omega
                      · have n_110 : ¬ 64 ≤ i := fun h => c_110 ((nI_leI (by omega) (by omega)).mpr h)
                        refine lv_aload_n hx hb dX1_put_113 rfl (lv_at hl 0 rfl) ?_
                        refine va_get (D := (dC, dI)) (ci := 1) (v := .ref (ad 4)) (C := RX1) (T := TX1) (N := 11) hx hb hts hin hown hK hP 0 rfl rfl 5 (by decide) (hts (.fieldLink RX1 19 "BlockJournalModel" "fresh" "[I") (by decide +kernel)) (fun _ h9 => h9) rfl dX1_put_114 ?_
                        refine lv_bipush (v := nI 64) hx hb dX1_put_117 (by decide) ?_
                        refine lv_iload_n hx hb dX1_put_119 rfl (lv_at hl 2 rfl) ?_
                        refine lv_imul hx hb dX1_put_120 ?_
                        refine bj_i (pk_mul 64 x) ?_
                        refine lv_iload_n hx hb dX1_put_121 rfl (lv_at hl 3 rfl) ?_
                        refine lv_iadd hx hb dX1_put_122 ?_
                        refine bj_i (nI_add (64 * x) i) ?_
                        refine lv_iload_n hx hb dX1_put_123 rfl (lv_at hl 3 rfl) ?_
                        refine lv_aload_n hx hb dX1_put_124 rfl (lv_at hl 0 rfl) ?_
                        refine va_get (D := (dC, dI)) (ci := 1) (v := .int (nI T)) (C := RX1) (T := TX1) (N := 11) hx hb hts hin hown hK hP 0 rfl rfl 3 (by decide) (hts (.fieldLink RX1 76 "BlockJournalModel" "taped" "I") (by decide +kernel)) (fun _ h9 => h9) rfl dX1_put_125 ?_
                        refine lv_icmp_ge (tgt := 140) hx hb dX1_put_128 (by decide) (fun c_128 => ?_) (fun c_128 => ?_)
                        · have n_128 : T ≤ i := (nI_leI (by omega) (by omega)).mp c_128
                          refine lv_iconst (v := nI 0) hx hb dX1_put_140 (by decide) ?_
                          refine bj_i (y := if T ≤ i then nI 0 else tp i) (by rw [if_pos n_128]) ?_
                          refine va_iast (D := (dC, dI)) hx hb hK hP hD hS 4 0 (cA := cA) (n := 1536) (f := (ptF cy tp T x i)) rfl rfl (i := (nI ((64 * x) + i))) (vp_in_nI (by omega) (by omega)) dX1_put_141 (fun H locs hP hD hS => ?_)
                          rw [nI_clamp (n := (64 * x) + i) (by omega)] at hP hD
                          have hP : va_P (dC, dI) vwCl (wM cA ad (nI 0) st tp (nI T) (upd cb x b) (upd (ptF cy tp T x i) ((64 * x) + i) (if T ≤ i then nI 0 else tp i)) (nI (n + 1)) dn lf of ro) H := hP
                          have hD : va_D A (wM cA ad (nI 0) st tp (nI T) (upd cb x b) (upd (ptF cy tp T x i) ((64 * x) + i) (if T ≤ i then nI 0 else tp i)) (nI (n + 1)) dn lf of ro) := hD
                          refine lv_iinc (v := nI (i + 1)) (lv' := [(3, .int (nI (i + 1))), (0, .ref (ad 0)), (1, .int b), (2, .int (nI x))]) hx hb dX1_put_142 hl (k := 3) rfl (nI_add i 1) (by decide) rfl (fun ls hl => ?_)
                          refine lv_goto (tgt := 107) hx hb dX1_put_145 (by decide) ?_
                          exact ih (i + 1) (by omega) _ _ _ hP hD hS (lv_sub hl [1, 2, 3, 0] rfl)
                        · have n_128 : ¬ T ≤ i := fun h => c_128 ((nI_leI (by omega) (by omega)).mpr h)
                          refine lv_aload_n hx hb dX1_put_131 rfl (lv_at hl 0 rfl) ?_
                          refine va_get (D := (dC, dI)) (ci := 1) (v := .ref (ad 2)) (C := RX1) (T := TX1) (N := 11) hx hb hts hin hown hK hP 0 rfl rfl 2 (by decide) (hts (.fieldLink RX1 13 "BlockJournalModel" "tape" "[I") (by decide +kernel)) (fun _ h9 => h9) rfl dX1_put_132 ?_
                          refine lv_iload_n hx hb dX1_put_135 rfl (lv_at hl 3 rfl) ?_
                          refine va_iald (D := (dC, dI)) hx hb hK hP 2 0 (cA := cA) (n := 64) (f := tp) rfl rfl (i := (nI i)) (vp_in_nI (by omega) (by omega)) dX1_put_136 ?_
                          refine bj_i (y := tp i) (congrArg tp (nI_clamp (by omega))) ?_
                          refine lv_goto (tgt := 141) hx hb dX1_put_137 (by decide) ?_
                          refine bj_i (y := if T ≤ i then nI 0 else tp i) (by rw [if_neg n_128]) ?_
                          refine va_iast (D := (dC, dI)) hx hb hK hP hD hS 4 0 (cA := cA) (n := 1536) (f := (ptF cy tp T x i)) rfl rfl (i := (nI ((64 * x) + i))) (vp_in_nI (by omega) (by omega)) dX1_put_141 (fun H locs hP hD hS => ?_)
                          rw [nI_clamp (n := (64 * x) + i) (by omega)] at hP hD
                          have hP : va_P (dC, dI) vwCl (wM cA ad (nI 0) st tp (nI T) (upd cb x b) (upd (ptF cy tp T x i) ((64 * x) + i) (if T ≤ i then nI 0 else tp i)) (nI (n + 1)) dn lf of ro) H := hP
                          have hD : va_D A (wM cA ad (nI 0) st tp (nI T) (upd cb x b) (upd (ptF cy tp T x i) ((64 * x) + i) (if T ≤ i then nI 0 else tp i)) (nI (n + 1)) dn lf of ro) := hD
                          refine lv_iinc (v := nI (i + 1)) (lv' := [(3, .int (nI (i + 1))), (0, .ref (ad 0)), (1, .int b), (2, .int (nI x))]) hx hb dX1_put_142 hl (k := 3) rfl (nI_add i 1) (by decide) rfl (fun ls hl => ?_)
                          refine lv_goto (tgt := 107) hx hb dX1_put_145 (by decide) ?_
                          exact ih (i + 1) (by omega) _ _ _ hP hD hS (lv_sub hl [1, 2, 3, 0] rfl)
                  exact loop_107 64 0 (by omega) _ _ _ hP hD hS (lv_sub hl [2, 3, 1, 0] rfl)
            · exact absurd (by decide) c_54
          · have n_42 : n = 24 := (nI_eq (by omega) (by omega)).mp c_42
            refine lv_iconst (v := nI 1) hx hb dX1_put_45 (by decide) ?_
            refine lv_goto (tgt := 50) hx hb dX1_put_46 (by decide) ?_
            refine lv_iconst (v := nI 2) hx hb dX1_put_50 (by decide) ?_
            have hFc := va_free (wc := wM cA ad (nI 0) st tp (nI T) cb cy (nI n) dn lf of ro) hD hS hA [0, 1, 2, 3, 4, 5] rfl
            refine va_calli (va_runV (As := [.int (nI 1), .int (nI 2)]) (rest := []) ⟨hx, hb, hml, hown, hts⟩ (c_X1_fails l dC dI cA ad H.size (nI 0) st tp (nI T) cb cy (nI n) dn lf of ro (nI 1) (nI 2) rfl) (cwV 2 hts gX1_put_X1_fails rfl rfl rfl (by decide +kernel) ⟨Nat.le_of_ble_eq_true rfl, Nat.le_of_ble_eq_true rfl⟩) ⟨fun a U g mk q => by obtain ⟨q0, q1, qP, qK, qD⟩ := q; exact ⟨q0, q1, qP, va_K.moved (u := U) (U := U.calling g mk a) (Vm.Alike.refl U.vm) qK, qD⟩, va_recv hK hP (ci := 1) (q0 := 0) rfl rfl, fun U hU hW => ⟨rfl, by rw [hU], by rw [hU]; exact hP, va_K.moved hW.alike hK, hD.weaken (fun _ _ _ _ => trivial)⟩⟩ rfl rfl hl.1 rfl (lv_room (Nat.le_of_ble_eq_true rfl)) dX1_put_51 ⟨Nat.le_of_ble_eq_true rfl, Nat.le_of_ble_eq_true rfl⟩) hS (fun q _ h => hFc q h) hFc (fun r_51 u t H1 locs ht hvm hw hB hz1 hk1 hS => ?_)
            obtain ⟨hP1, hK1, hD1⟩ := hB
            obtain ⟨e_51, rfl⟩ := hw
            rw [ht] at hP1
            have hP : va_P (dC, dI) vwCl (wM cA ad (nI 2) st tp (nI T) cb cy (nI n) dn lf of ro) H1 := hP1
            have hD : va_D A (wM cA ad (nI 2) st tp (nI T) cb cy (nI n) dn lf of ro) := ⟨hD1.1, fun k q h => hFc _ (hD1.2 k q h)⟩
            generalize H1 = H at hP hS ⊢
            subst e_51
            refine lv_if_eq (tgt := 59) hx hb dX1_put_54 (by decide) (fun c_54 => ?_) (fun c_54 => ?_)
            · exact absurd c_54 (by decide)
            · refine lv_iconst (v := nI 0) hx hb dX1_put_57 (by decide) ?_
              have hpost : ((nI 2, st, tp, nI T, cb, cy, nI n, dn, lf, of, ro) : MS) = (nI (mpK cb n b), st, tp, if mpK cb n b = 0 then nI 0 else nI T, if mpK cb n b = 0 then upd cb (mpX cb n b) b else cb, if mpK cb n b = 0 then ptF cy tp T (mpX cb n b) 64 else cy, if mpK cb n b = 0 then nI (mpN cb n b) else nI n, dn, lf, of, ro) := by rw [show mpK cb n b = 2 by rw [mpK, if_pos c_12, if_neg c_33, if_neg (not_not_intro n_42)]]; rfl
              have hres : nI 0 = (if mpK cb n b = 0 then nI (mpN cb n b) else nI 0) := by rw [show mpK cb n b = 2 by rw [mpK, if_pos c_12, if_neg c_33, if_neg (not_not_intro n_42)]]; rfl
              exact W.iret (v := nI 0) hx hb hr (fun t ht hW => ⟨⟨_, (nI 2, st, tp, nI T, cb, cy, nI n, dn, lf, of, ro), rfl, ⟨hres, hpost⟩, by rw [ht]; exact hP, va_K.moved hW.alike hK, hD⟩, hS.F ht⟩) hS.2.2 dX1_put_58
    · refine lv_iconst (v := nI 1) hx hb dX1_put_15 (by decide) ?_
      refine lv_goto (tgt := 20) hx hb dX1_put_16 (by decide) ?_
      refine lv_iconst (v := nI 1) hx hb dX1_put_20 (by decide) ?_
      have hFc := va_free (wc := wM cA ad th st tp (nI T) cb cy (nI n) dn lf of ro) hD hS hA [0, 1, 2, 3, 4, 5] rfl
      refine va_calli (va_runV (As := [.int (nI 1), .int (nI 1)]) (rest := []) ⟨hx, hb, hml, hown, hts⟩ (c_X1_fails l dC dI cA ad H.size th st tp (nI T) cb cy (nI n) dn lf of ro (nI 1) (nI 1) rfl) (cwV 2 hts gX1_put_X1_fails rfl rfl rfl (by decide +kernel) ⟨Nat.le_of_ble_eq_true rfl, Nat.le_of_ble_eq_true rfl⟩) ⟨fun a U g mk q => by obtain ⟨q0, q1, qP, qK, qD⟩ := q; exact ⟨q0, q1, qP, va_K.moved (u := U) (U := U.calling g mk a) (Vm.Alike.refl U.vm) qK, qD⟩, va_recv hK hP (ci := 1) (q0 := 0) rfl rfl, fun U hU hW => ⟨rfl, by rw [hU], by rw [hU]; exact hP, va_K.moved hW.alike hK, hD.weaken (fun _ _ _ _ => trivial)⟩⟩ rfl rfl hl.1 rfl (lv_room (Nat.le_of_ble_eq_true rfl)) dX1_put_21 ⟨Nat.le_of_ble_eq_true rfl, Nat.le_of_ble_eq_true rfl⟩) hS (fun q _ h => hFc q h) hFc (fun r_21 u t H1 locs ht hvm hw hB hz1 hk1 hS => ?_)
      obtain ⟨hP1, hK1, hD1⟩ := hB
      obtain ⟨e_21, rfl⟩ := hw
      rw [ht] at hP1
      have hP : va_P (dC, dI) vwCl (wM cA ad (nI 1) st tp (nI T) cb cy (nI n) dn lf of ro) H1 := hP1
      have hD : va_D A (wM cA ad (nI 1) st tp (nI T) cb cy (nI n) dn lf of ro) := ⟨hD1.1, fun k q h => hFc _ (hD1.2 k q h)⟩
      generalize H1 = H at hP hS ⊢
      subst e_21
      refine lv_if_ne (tgt := 57) hx hb dX1_put_24 (by decide) (fun c_24 => ?_) (fun c_24 => ?_)
      · refine lv_iconst (v := nI 0) hx hb dX1_put_57 (by decide) ?_
        have hpost : ((nI 1, st, tp, nI T, cb, cy, nI n, dn, lf, of, ro) : MS) = (nI (mpK cb n b), st, tp, if mpK cb n b = 0 then nI 0 else nI T, if mpK cb n b = 0 then upd cb (mpX cb n b) b else cb, if mpK cb n b = 0 then ptF cy tp T (mpX cb n b) 64 else cy, if mpK cb n b = 0 then nI (mpN cb n b) else nI n, dn, lf, of, ro) := by rw [show mpK cb n b = 1 by rw [mpK, if_neg (not_not_intro c_12)]]; rfl
        have hres : nI 0 = (if mpK cb n b = 0 then nI (mpN cb n b) else nI 0) := by rw [show mpK cb n b = 1 by rw [mpK, if_neg (not_not_intro c_12)]]; rfl
        exact W.iret (v := nI 0) hx hb hr (fun t ht hW => ⟨⟨_, (nI 1, st, tp, nI T, cb, cy, nI n, dn, lf, of, ro), rfl, ⟨hres, hpost⟩, by rw [ht]; exact hP, va_K.moved hW.alike hK, hD⟩, hS.F ht⟩) hS.2.2 dX1_put_58
      · exact absurd c_24 (by decide)
  rw [hH, hlo] at goal
  exact goal

set_option maxHeartbeats 4000000 in
set_option maxRecDepth 100000 in
theorem c_X1_drop (l : Launch) (dC : Nat → ClassId) (dI : Nat → Nat → Nat) (cA : ClassId) (ad : Nat → Nat) (sz : Nat) (th : Int32) (st tp : Nat → Int32) (tl : Int32) (cb cy : Nat → Int32) (dn lf : Int64) (of : Int32) (ro : Nat → Int32) (n : Nat)  : Met l yX1_drop wsX1_drop ({ frames := 0, cells := 0, slots := 0, locals := 0 } : Room) (va_Pc [.ref (ad 0)] (fun U => U.heap.size = sz ∧ va_P (dC, dI) vwCl (wM cA ad th st tp tl cb cy (nI n) dn lf of ro) U.heap ∧ va_K (dC, dI) vwCl [(cA, .int)] U ∧ va_D (fun _ => True) (wM cA ad th st tp tl cb cy (nI n) dn lf of ro))) (va_Qi (fun (r : Int32) (u : MS) => r = nI n ∧ u = (nI 0, st, tp, tl, cb, cy, nI 0, dn, lf, of, ro)) (aM dC dI cA ad (va_A (wM cA ad th st tp tl cb cy (nI n) dn lf of ro) sz)) (va_A (wM cA ad th st tp tl cb cy (nI n) dn lf of ro) sz)) 0 0 (va_A (wM cA ad th st tp tl cb cy (nI n) dn lf of ro) sz) := by
  refine Met.ofW (cc := cX1_drop) (maxL := 2) (ret := (some .int)) (by decide) rfl ?_
  intro p e s m args below meth c s₁ B hml hv
  obtain ⟨rfl, hsz, hP, hK, hD0⟩ := hv
  have hx := B.exec
  have hb := B.bytes
  have hr := B.returns
  have hts := atoms_spec (ws := wsX1_drop) B.pre
  have hown : s.vm.findClass RX1 = some m.cls := findClass_of_methodNamed B.named
  have hlocks := B.notSynchronized
  have hin : ∀ w ∈ u_ws RX1 TX1 11, w ∈ wsX1_drop := by decide +kernel
  subst hsz
  have hD := hD0.self (sz := s.heap.size)
  generalize hAe : va_A (wM cA ad th st tp tl cb cy (nI n) dn lf of ro) s.heap.size = A at hD ⊢
  have hA : ∀ q : Nat, s.heap.size ≤ q → A q := fun q h => by rw [← hAe]; exact Or.inr h
  obtain ⟨H, locs, hH, hlo, hS⟩ : ∃ (H : Heap) (locs : List Loc), H = s.heap ∧ locs = [] ∧ va_S A s.heap H locs := ⟨s.heap, [], rfl, rfl, va_S.rf⟩
  rw [← hH] at hP
  have hP : va_P (dC, dI) vwCl (wM cA ad th st tp tl cb cy (nI n) dn lf of ro) H := hP
  have hl := lv_entry ([.ref (ad 0)]) (n := 2) (Nat.le_of_ble_eq_true rfl)
  rw [lg_entry_eq]
  generalize (lg_sl ([.ref (ad 0)]) ++ List.replicate (2 - (lg_sl ([.ref (ad 0)])).length) Slot.unset).toArray = ls at hl ⊢
  have goal : W p l e (headSpec wsX1_drop ({ frames := 0, cells := 0, slots := 0, locals := 0 } : Room)).room s m ([.ref (ad 0)] : List Value).toArray below meth c H locs 0 0 (MQ below (va_Qi (fun (r : Int32) (u : MS) => r = nI n ∧ u = (nI 0, st, tp, tl, cb, cy, nI 0, dn, lf, of, ro)) (aM dC dI cA ad A) A) ([.ref (ad 0)] : List Value).toArray s 0 0 A) (F0 m 0 ls []) := by
    clear hH hlo
    have hl : lv_has ls 2 [(0, .ref (ad 0))] := hl
    refine lv_aload_n hx hb dX1_drop_0 rfl (lv_at hl 0 rfl) ?_
    refine lv_iconst (v := nI 0) hx hb dX1_drop_1 (by decide) ?_
    refine va_put (D := (dC, dI)) (ci := 1) (v := .int (nI 0)) (ty := .int) (C := RX1) (T := TX1) (N := 11) hx hb hts hin tyX1 tyX1_ok nmX1 hown hK hP hD hS 0 rfl rfl 0 (by decide) (hts (.fieldLink RX1 31 "BlockJournalModel" "thrown" "I") (by decide +kernel)) (fun _ h9 => h9) rfl (by decide +kernel) rfl rfl (Nat.le_of_ble_eq_true rfl) dX1_drop_2 (fun H locs hP hD hS => ?_)
    have hP : va_P (dC, dI) vwCl (wM cA ad (nI 0) st tp tl cb cy (nI n) dn lf of ro) H := hP
    have hD : va_D A (wM cA ad (nI 0) st tp tl cb cy (nI n) dn lf of ro) := hD
    refine lv_aload_n hx hb dX1_drop_5 rfl (lv_at hl 0 rfl) ?_
    refine va_get (D := (dC, dI)) (ci := 1) (v := .int (nI n)) (C := RX1) (T := TX1) (N := 11) hx hb hts hin hown hK hP 0 rfl rfl 6 (by decide) (hts (.fieldLink RX1 81 "BlockJournalModel" "changes" "I") (by decide +kernel)) (fun _ h9 => h9) rfl dX1_drop_6 ?_
    refine lv_istore_n (lv' := [(1, .int (nI n)), (0, .ref (ad 0))]) hx hb dX1_drop_9 rfl hl (by decide) rfl (fun ls hl => ?_)
    refine lv_aload_n hx hb dX1_drop_10 rfl (lv_at hl 1 rfl) ?_
    refine lv_iconst (v := nI 0) hx hb dX1_drop_11 (by decide) ?_
    refine va_put (D := (dC, dI)) (ci := 1) (v := .int (nI 0)) (ty := .int) (C := RX1) (T := TX1) (N := 11) hx hb hts hin tyX1 tyX1_ok nmX1 hown hK hP hD hS 0 rfl rfl 6 (by decide) (hts (.fieldLink RX1 81 "BlockJournalModel" "changes" "I") (by decide +kernel)) (fun _ h9 => h9) rfl (by decide +kernel) rfl rfl (Nat.le_of_ble_eq_true rfl) dX1_drop_12 (fun H locs hP hD hS => ?_)
    have hP : va_P (dC, dI) vwCl (wM cA ad (nI 0) st tp tl cb cy (nI 0) dn lf of ro) H := hP
    have hD : va_D A (wM cA ad (nI 0) st tp tl cb cy (nI 0) dn lf of ro) := hD
    refine lv_iload_n hx hb dX1_drop_15 rfl (lv_at hl 0 rfl) ?_
    have hpost : ((nI 0, st, tp, tl, cb, cy, nI 0, dn, lf, of, ro) : MS) = (nI 0, st, tp, tl, cb, cy, nI 0, dn, lf, of, ro) := rfl
    have hres : nI n = nI n := rfl
    exact W.iret (v := nI n) hx hb hr (fun t ht hW => ⟨⟨_, (nI 0, st, tp, tl, cb, cy, nI 0, dn, lf, of, ro), rfl, ⟨hres, hpost⟩, by rw [ht]; exact hP, va_K.moved hW.alike hK, hD⟩, hS.F ht⟩) hS.2.2 dX1_drop_16
  rw [hH, hlo] at goal
  exact goal

set_option maxHeartbeats 4000000 in
set_option maxRecDepth 100000 in
theorem c_X1_power (l : Launch) (dC : Nat → ClassId) (dI : Nat → Nat → Nat) (cA : ClassId) (ad : Nat → Nat) (sz : Nat) (th : Int32) (st tp : Nat → Int32) (tl : Int32) (cb cy : Nat → Int32) (nc : Int32) (dn lf : Int64) (ro : Nat → Int32) (o : Bool)  : Met l yX1_power wsX1_power ({ frames := 0, cells := 0, slots := 0, locals := 0 } : Room) (va_Pc [.ref (ad 0)] (fun U => U.heap.size = sz ∧ va_P (dC, dI) vwCl (wM cA ad th st tp tl cb cy nc dn lf (bI o) ro) U.heap ∧ va_K (dC, dI) vwCl [(cA, .int)] U ∧ va_D (fun _ => True) (wM cA ad th st tp tl cb cy nc dn lf (bI o) ro))) (va_Qi (fun (r : Int32) (u : MS) => r = bI o ∧ u = (nI 0, st, tp, tl, cb, cy, nc, dn, -1, nI 0, ro)) (aM dC dI cA ad (va_A (wM cA ad th st tp tl cb cy nc dn lf (bI o) ro) sz)) (va_A (wM cA ad th st tp tl cb cy nc dn lf (bI o) ro) sz)) 0 0 (va_A (wM cA ad th st tp tl cb cy nc dn lf (bI o) ro) sz) := by
  refine Met.ofW (cc := cX1_power) (maxL := 2) (ret := (some .boolean)) (by decide) rfl ?_
  intro p e s m args below meth c s₁ B hml hv
  obtain ⟨rfl, hsz, hP, hK, hD0⟩ := hv
  have hx := B.exec
  have hb := B.bytes
  have hr := B.returns
  have hts := atoms_spec (ws := wsX1_power) B.pre
  have hown : s.vm.findClass RX1 = some m.cls := findClass_of_methodNamed B.named
  have hlocks := B.notSynchronized
  have hin : ∀ w ∈ u_ws RX1 TX1 11, w ∈ wsX1_power := by decide +kernel
  subst hsz
  have hD := hD0.self (sz := s.heap.size)
  generalize hAe : va_A (wM cA ad th st tp tl cb cy nc dn lf (bI o) ro) s.heap.size = A at hD ⊢
  have hA : ∀ q : Nat, s.heap.size ≤ q → A q := fun q h => by rw [← hAe]; exact Or.inr h
  obtain ⟨H, locs, hH, hlo, hS⟩ : ∃ (H : Heap) (locs : List Loc), H = s.heap ∧ locs = [] ∧ va_S A s.heap H locs := ⟨s.heap, [], rfl, rfl, va_S.rf⟩
  rw [← hH] at hP
  have hP : va_P (dC, dI) vwCl (wM cA ad th st tp tl cb cy nc dn lf (bI o) ro) H := hP
  have hl := lv_entry ([.ref (ad 0)]) (n := 2) (Nat.le_of_ble_eq_true rfl)
  rw [lg_entry_eq]
  generalize (lg_sl ([.ref (ad 0)]) ++ List.replicate (2 - (lg_sl ([.ref (ad 0)])).length) Slot.unset).toArray = ls at hl ⊢
  have goal : W p l e (headSpec wsX1_power ({ frames := 0, cells := 0, slots := 0, locals := 0 } : Room)).room s m ([.ref (ad 0)] : List Value).toArray below meth c H locs 0 0 (MQ below (va_Qi (fun (r : Int32) (u : MS) => r = bI o ∧ u = (nI 0, st, tp, tl, cb, cy, nc, dn, -1, nI 0, ro)) (aM dC dI cA ad A) A) ([.ref (ad 0)] : List Value).toArray s 0 0 A) (F0 m 0 ls []) := by
    clear hH hlo
    have hl : lv_has ls 2 [(0, .ref (ad 0))] := hl
    refine lv_aload_n hx hb dX1_power_0 rfl (lv_at hl 0 rfl) ?_
    refine lv_iconst (v := nI 0) hx hb dX1_power_1 (by decide) ?_
    refine va_put (D := (dC, dI)) (ci := 1) (v := .int (nI 0)) (ty := .int) (C := RX1) (T := TX1) (N := 11) hx hb hts hin tyX1 tyX1_ok nmX1 hown hK hP hD hS 0 rfl rfl 0 (by decide) (hts (.fieldLink RX1 31 "BlockJournalModel" "thrown" "I") (by decide +kernel)) (fun _ h9 => h9) rfl (by decide +kernel) rfl rfl (Nat.le_of_ble_eq_true rfl) dX1_power_2 (fun H locs hP hD hS => ?_)
    have hP : va_P (dC, dI) vwCl (wM cA ad (nI 0) st tp tl cb cy nc dn lf (bI o) ro) H := hP
    have hD : va_D A (wM cA ad (nI 0) st tp tl cb cy nc dn lf (bI o) ro) := hD
    refine lv_aload_n hx hb dX1_power_5 rfl (lv_at hl 0 rfl) ?_
    refine va_get (D := (dC, dI)) (ci := 1) (v := .int (bI o)) (C := RX1) (T := TX1) (N := 11) hx hb hts hin hown hK hP 0 rfl rfl 9 (by decide) (hts (.fieldLink RX1 35 "BlockJournalModel" "off" "Z") (by decide +kernel)) (fun _ h9 => h9) rfl dX1_power_6 ?_
    refine lv_istore_n (lv' := [(1, .int (bI o)), (0, .ref (ad 0))]) hx hb dX1_power_9 rfl hl (by decide) rfl (fun ls hl => ?_)
    refine lv_aload_n hx hb dX1_power_10 rfl (lv_at hl 1 rfl) ?_
    refine lv_iconst (v := nI 0) hx hb dX1_power_11 (by decide) ?_
    refine va_put (D := (dC, dI)) (ci := 1) (v := .int (nI 0)) (ty := .boolean) (C := RX1) (T := TX1) (N := 11) hx hb hts hin tyX1 tyX1_ok nmX1 hown hK hP hD hS 0 rfl rfl 9 (by decide) (hts (.fieldLink RX1 35 "BlockJournalModel" "off" "Z") (by decide +kernel)) (fun _ h9 => h9) rfl (by decide +kernel) rfl rfl (Nat.le_of_ble_eq_true rfl) dX1_power_12 (fun H locs hP hD hS => ?_)
    have hP : va_P (dC, dI) vwCl (wM cA ad (nI 0) st tp tl cb cy nc dn lf (nI 0) ro) H := hP
    have hD : va_D A (wM cA ad (nI 0) st tp tl cb cy nc dn lf (nI 0) ro) := hD
    refine lv_aload_n hx hb dX1_power_15 rfl (lv_at hl 1 rfl) ?_
    refine lv_ldc2 hx hb hown (hts (.constantLong RX1 22 (-1)) (by decide +kernel)) dX1_power_16 ?_
    refine va_put (D := (dC, dI)) (ci := 1) (v := .long (-1)) (ty := .long) (C := RX1) (T := TX1) (N := 11) hx hb hts hin tyX1 tyX1_ok nmX1 hown hK hP hD hS 0 rfl rfl 8 (by decide) (hts (.fieldLink RX1 24 "BlockJournalModel" "left" "J") (by decide +kernel)) (fun _ h9 => h9) rfl (by decide +kernel) rfl rfl (Nat.le_of_ble_eq_true rfl) dX1_power_19 (fun H locs hP hD hS => ?_)
    have hP : va_P (dC, dI) vwCl (wM cA ad (nI 0) st tp tl cb cy nc dn (-1) (nI 0) ro) H := hP
    have hD : va_D A (wM cA ad (nI 0) st tp tl cb cy nc dn (-1) (nI 0) ro) := hD
    refine lv_iload_n hx hb dX1_power_22 rfl (lv_at hl 0 rfl) ?_
    have hpost : ((nI 0, st, tp, tl, cb, cy, nc, dn, (-1), nI 0, ro) : MS) = (nI 0, st, tp, tl, cb, cy, nc, dn, -1, nI 0, ro) := rfl
    have hres : bI o = bI o := rfl
    exact W.zret (v := bI o) (ty := .boolean) hx hb hr (bI_n o) (fun t ht hW => ⟨⟨_, (nI 0, st, tp, tl, cb, cy, nc, dn, (-1), nI 0, ro), rfl, ⟨hres, hpost⟩, by rw [ht]; exact hP, va_K.moved hW.alike hK, hD⟩, hS.F ht⟩) hS.2.2 dX1_power_23
  rw [hH, hlo] at goal
  exact goal

set_option maxHeartbeats 4000000 in
set_option maxRecDepth 100000 in
theorem c_X1_lose (l : Launch) (dC : Nat → ClassId) (dI : Nat → Nat → Nat) (cA : ClassId) (ad : Nat → Nat) (sz : Nat) (th : Int32) (st tp : Nat → Int32) (tl : Int32) (cb cy : Nat → Int32) (nc : Int32) (dn lf : Int64) (ro : Nat → Int32) (o : Bool) (n : Int32)  : Met l yX1_lose wsX1_lose ({ frames := 1, cells := 0, slots := 0, locals := 22 } : Room) (va_Pc [.ref (ad 0), .int n] (fun U => U.heap.size = sz ∧ va_P (dC, dI) vwCl (wM cA ad th st tp tl cb cy nc dn lf (bI o) ro) U.heap ∧ va_K (dC, dI) vwCl [(cA, .int)] U ∧ va_D (fun _ => True) (wM cA ad th st tp tl cb cy nc dn lf (bI o) ro))) (va_Qv (fun u : MS => u = (nI (loK n o), st, tp, tl, cb, cy, nc, dn, if loK n o = 0 then n.toInt64 - 1 else lf, bI o, ro)) (aM dC dI cA ad (va_A (wM cA ad th st tp tl cb cy nc dn lf (bI o) ro) sz)) (va_A (wM cA ad th st tp tl cb cy nc dn lf (bI o) ro) sz)) 0 0 (va_A (wM cA ad th st tp tl cb cy nc dn lf (bI o) ro) sz) := by
  refine Met.ofW (cc := cX1_lose) (maxL := 2) (ret := none) (by decide) rfl ?_
  intro p e s m args below meth c s₁ B hml hv
  obtain ⟨rfl, hsz, hP, hK, hD0⟩ := hv
  have hx := B.exec
  have hb := B.bytes
  have hr := B.returns
  have hts := atoms_spec (ws := wsX1_lose) B.pre
  have hown : s.vm.findClass RX1 = some m.cls := findClass_of_methodNamed B.named
  have hlocks := B.notSynchronized
  have hin : ∀ w ∈ u_ws RX1 TX1 11, w ∈ wsX1_lose := by decide +kernel
  subst hsz
  have hD := hD0.self (sz := s.heap.size)
  generalize hAe : va_A (wM cA ad th st tp tl cb cy nc dn lf (bI o) ro) s.heap.size = A at hD ⊢
  have hA : ∀ q : Nat, s.heap.size ≤ q → A q := fun q h => by rw [← hAe]; exact Or.inr h
  obtain ⟨H, locs, hH, hlo, hS⟩ : ∃ (H : Heap) (locs : List Loc), H = s.heap ∧ locs = [] ∧ va_S A s.heap H locs := ⟨s.heap, [], rfl, rfl, va_S.rf⟩
  rw [← hH] at hP
  have hP : va_P (dC, dI) vwCl (wM cA ad th st tp tl cb cy nc dn lf (bI o) ro) H := hP
  have hl := lv_entry ([.ref (ad 0), .int n]) (n := 2) (Nat.le_of_ble_eq_true rfl)
  rw [lg_entry_eq]
  generalize (lg_sl ([.ref (ad 0), .int n]) ++ List.replicate (2 - (lg_sl ([.ref (ad 0), .int n])).length) Slot.unset).toArray = ls at hl ⊢
  have goal : W p l e (headSpec wsX1_lose ({ frames := 1, cells := 0, slots := 0, locals := 22 } : Room)).room s m ([.ref (ad 0), .int n] : List Value).toArray below meth c H locs 0 0 (MQ below (va_Qv (fun u : MS => u = (nI (loK n o), st, tp, tl, cb, cy, nc, dn, if loK n o = 0 then n.toInt64 - 1 else lf, bI o, ro)) (aM dC dI cA ad A) A) ([.ref (ad 0), .int n] : List Value).toArray s 0 0 A) (F0 m 0 ls []) := by
    clear hH hlo
    have hl : lv_has ls 2 [(0, .ref (ad 0)), (1, .int n)] := hl
    refine lv_aload_n hx hb dX1_lose_0 rfl (lv_at hl 0 rfl) ?_
    refine lv_iload_n hx hb dX1_lose_1 rfl (lv_at hl 1 rfl) ?_
    refine lv_iconst (v := nI 1) hx hb dX1_lose_2 (by decide) ?_
    refine lv_icmp_ge (tgt := 10) hx hb dX1_lose_3 (by decide) (fun c_3 => ?_) (fun c_3 => ?_)
    · refine lv_iconst (v := nI 0) hx hb dX1_lose_10 (by decide) ?_
      refine lv_iconst (v := nI 1) hx hb dX1_lose_11 (by decide) ?_
      have hFc := va_free (wc := wM cA ad th st tp tl cb cy nc dn lf (bI o) ro) hD hS hA [0, 1, 2, 3, 4, 5] rfl
      refine va_calli (va_runV (As := [.int (nI 0), .int (nI 1)]) (rest := []) ⟨hx, hb, hml, hown, hts⟩ (c_X1_fails l dC dI cA ad H.size th st tp tl cb cy nc dn lf (bI o) ro (nI 0) (nI 1) rfl) (cwV 2 hts gX1_lose_X1_fails rfl rfl rfl (by decide +kernel) ⟨Nat.le_of_ble_eq_true rfl, Nat.le_of_ble_eq_true rfl⟩) ⟨fun a U g mk q => by obtain ⟨q0, q1, qP, qK, qD⟩ := q; exact ⟨q0, q1, qP, va_K.moved (u := U) (U := U.calling g mk a) (Vm.Alike.refl U.vm) qK, qD⟩, va_recv hK hP (ci := 1) (q0 := 0) rfl rfl, fun U hU hW => ⟨rfl, by rw [hU], by rw [hU]; exact hP, va_K.moved hW.alike hK, hD.weaken (fun _ _ _ _ => trivial)⟩⟩ rfl rfl hl.1 rfl (lv_room (Nat.le_of_ble_eq_true rfl)) dX1_lose_12 ⟨Nat.le_of_ble_eq_true rfl, Nat.le_of_ble_eq_true rfl⟩) hS (fun q _ h => hFc q h) hFc (fun r_12 u t H1 locs ht hvm hw hB hz1 hk1 hS => ?_)
      obtain ⟨hP1, hK1, hD1⟩ := hB
      obtain ⟨e_12, rfl⟩ := hw
      rw [ht] at hP1
      have hP : va_P (dC, dI) vwCl (wM cA ad (nI 0) st tp tl cb cy nc dn lf (bI o) ro) H1 := hP1
      have hD : va_D A (wM cA ad (nI 0) st tp tl cb cy nc dn lf (bI o) ro) := ⟨hD1.1, fun k q h => hFc _ (hD1.2 k q h)⟩
      generalize H1 = H at hP hS ⊢
      subst e_12
      refine lv_if_ne (tgt := 30) hx hb dX1_lose_15 (by decide) (fun c_15 => ?_) (fun c_15 => ?_)
      · exact absurd (by decide) c_15
      · refine lv_aload_n hx hb dX1_lose_18 rfl (lv_at hl 0 rfl) ?_
        refine lv_aload_n hx hb dX1_lose_19 rfl (lv_at hl 0 rfl) ?_
        refine va_get (D := (dC, dI)) (ci := 1) (v := .int (bI o)) (C := RX1) (T := TX1) (N := 11) hx hb hts hin hown hK hP 0 rfl rfl 9 (by decide) (hts (.fieldLink RX1 35 "BlockJournalModel" "off" "Z") (by decide +kernel)) (fun _ h9 => h9) rfl dX1_lose_20 ?_
        refine lv_iconst (v := nI 2) hx hb dX1_lose_23 (by decide) ?_
        have hFc := va_free (wc := wM cA ad (nI 0) st tp tl cb cy nc dn lf (bI o) ro) hD hS hA [0, 1, 2, 3, 4, 5] rfl
        refine va_calli (va_runV (As := [.int (bI o), .int (nI 2)]) (rest := []) ⟨hx, hb, hml, hown, hts⟩ (c_X1_fails l dC dI cA ad H.size (nI 0) st tp tl cb cy nc dn lf (bI o) ro (bI o) (nI 2) (bI_n o)) (cwV 2 hts gX1_lose_X1_fails rfl rfl rfl (by decide +kernel) ⟨Nat.le_of_ble_eq_true rfl, Nat.le_of_ble_eq_true rfl⟩) ⟨fun a U g mk q => by obtain ⟨q0, q1, qP, qK, qD⟩ := q; exact ⟨q0, q1, qP, va_K.moved (u := U) (U := U.calling g mk a) (Vm.Alike.refl U.vm) qK, qD⟩, va_recv hK hP (ci := 1) (q0 := 0) rfl rfl, fun U hU hW => ⟨rfl, by rw [hU], by rw [hU]; exact hP, va_K.moved hW.alike hK, hD.weaken (fun _ _ _ _ => trivial)⟩⟩ rfl rfl hl.1 rfl (lv_room (Nat.le_of_ble_eq_true rfl)) dX1_lose_24 ⟨Nat.le_of_ble_eq_true rfl, Nat.le_of_ble_eq_true rfl⟩) hS (fun q _ h => hFc q h) hFc (fun r_24 u t H1 locs ht hvm hw hB hz1 hk1 hS => ?_)
        obtain ⟨hP1, hK1, hD1⟩ := hB
        obtain ⟨e_24, rfl⟩ := hw
        rw [ht] at hP1
        have hP : va_P (dC, dI) vwCl (wM cA ad (if bI o = 0 then nI 0 else nI 2) st tp tl cb cy nc dn lf (bI o) ro) H1 := hP1
        have hD : va_D A (wM cA ad (if bI o = 0 then nI 0 else nI 2) st tp tl cb cy nc dn lf (bI o) ro) := ⟨hD1.1, fun k q h => hFc _ (hD1.2 k q h)⟩
        generalize H1 = H at hP hS ⊢
        subst e_24
        refine lv_if_eq (tgt := 31) hx hb dX1_lose_27 (by decide) (fun c_27 => ?_) (fun c_27 => ?_)
        · refine lv_aload_n hx hb dX1_lose_31 rfl (lv_at hl 0 rfl) ?_
          refine lv_iload_n hx hb dX1_lose_32 rfl (lv_at hl 1 rfl) ?_
          refine lv_i2l hx hb dX1_lose_33 rfl ?_
          refine lv_lconst (v := 1) hx hb dX1_lose_34 (by decide) ?_
          refine lv_lsub hx hb dX1_lose_35 ?_
          refine va_put (D := (dC, dI)) (ci := 1) (v := .long (n.toInt64 - 1)) (ty := .long) (C := RX1) (T := TX1) (N := 11) hx hb hts hin tyX1 tyX1_ok nmX1 hown hK hP hD hS 0 rfl rfl 8 (by decide) (hts (.fieldLink RX1 24 "BlockJournalModel" "left" "J") (by decide +kernel)) (fun _ h9 => h9) rfl (by decide +kernel) rfl rfl (Nat.le_of_ble_eq_true rfl) dX1_lose_36 (fun H locs hP hD hS => ?_)
          have hP : va_P (dC, dI) vwCl (wM cA ad (if bI o = 0 then nI 0 else nI 2) st tp tl cb cy nc dn (n.toInt64 - 1) (bI o) ro) H := hP
          have hD : va_D A (wM cA ad (if bI o = 0 then nI 0 else nI 2) st tp tl cb cy nc dn (n.toInt64 - 1) (bI o) ro) := hD
          have hpost : ((if bI o = 0 then nI 0 else nI 2, st, tp, tl, cb, cy, nc, dn, n.toInt64 - 1, bI o, ro) : MS) = (nI (loK n o), st, tp, tl, cb, cy, nc, dn, if loK n o = 0 then n.toInt64 - 1 else lf, bI o, ro) := by rw [show loK n o = 0 by rw [loK, if_pos c_3, if_pos c_27], if_pos c_27]; rfl
          exact W.vret hx hb hr (fun t ht hW => ⟨⟨(if bI o = 0 then nI 0 else nI 2, st, tp, tl, cb, cy, nc, dn, n.toInt64 - 1, bI o, ro), rfl, hpost, by rw [ht]; exact hP, va_K.moved hW.alike hK, hD⟩, hS.F ht⟩) hS.2.2 dX1_lose_39
        · have hpost : ((if bI o = 0 then nI 0 else nI 2, st, tp, tl, cb, cy, nc, dn, lf, bI o, ro) : MS) = (nI (loK n o), st, tp, tl, cb, cy, nc, dn, if loK n o = 0 then n.toInt64 - 1 else lf, bI o, ro) := by rw [show loK n o = 2 by rw [loK, if_pos c_3, if_neg c_27], if_neg c_27]; rfl
          exact W.vret hx hb hr (fun t ht hW => ⟨⟨(if bI o = 0 then nI 0 else nI 2, st, tp, tl, cb, cy, nc, dn, lf, bI o, ro), rfl, hpost, by rw [ht]; exact hP, va_K.moved hW.alike hK, hD⟩, hS.F ht⟩) hS.2.2 dX1_lose_30
    · refine lv_iconst (v := nI 1) hx hb dX1_lose_6 (by decide) ?_
      refine lv_goto (tgt := 11) hx hb dX1_lose_7 (by decide) ?_
      refine lv_iconst (v := nI 1) hx hb dX1_lose_11 (by decide) ?_
      have hFc := va_free (wc := wM cA ad th st tp tl cb cy nc dn lf (bI o) ro) hD hS hA [0, 1, 2, 3, 4, 5] rfl
      refine va_calli (va_runV (As := [.int (nI 1), .int (nI 1)]) (rest := []) ⟨hx, hb, hml, hown, hts⟩ (c_X1_fails l dC dI cA ad H.size th st tp tl cb cy nc dn lf (bI o) ro (nI 1) (nI 1) rfl) (cwV 2 hts gX1_lose_X1_fails rfl rfl rfl (by decide +kernel) ⟨Nat.le_of_ble_eq_true rfl, Nat.le_of_ble_eq_true rfl⟩) ⟨fun a U g mk q => by obtain ⟨q0, q1, qP, qK, qD⟩ := q; exact ⟨q0, q1, qP, va_K.moved (u := U) (U := U.calling g mk a) (Vm.Alike.refl U.vm) qK, qD⟩, va_recv hK hP (ci := 1) (q0 := 0) rfl rfl, fun U hU hW => ⟨rfl, by rw [hU], by rw [hU]; exact hP, va_K.moved hW.alike hK, hD.weaken (fun _ _ _ _ => trivial)⟩⟩ rfl rfl hl.1 rfl (lv_room (Nat.le_of_ble_eq_true rfl)) dX1_lose_12 ⟨Nat.le_of_ble_eq_true rfl, Nat.le_of_ble_eq_true rfl⟩) hS (fun q _ h => hFc q h) hFc (fun r_12 u t H1 locs ht hvm hw hB hz1 hk1 hS => ?_)
      obtain ⟨hP1, hK1, hD1⟩ := hB
      obtain ⟨e_12, rfl⟩ := hw
      rw [ht] at hP1
      have hP : va_P (dC, dI) vwCl (wM cA ad (nI 1) st tp tl cb cy nc dn lf (bI o) ro) H1 := hP1
      have hD : va_D A (wM cA ad (nI 1) st tp tl cb cy nc dn lf (bI o) ro) := ⟨hD1.1, fun k q h => hFc _ (hD1.2 k q h)⟩
      generalize H1 = H at hP hS ⊢
      subst e_12
      refine lv_if_ne (tgt := 30) hx hb dX1_lose_15 (by decide) (fun c_15 => ?_) (fun c_15 => ?_)
      · have hpost : ((nI 1, st, tp, tl, cb, cy, nc, dn, lf, bI o, ro) : MS) = (nI (loK n o), st, tp, tl, cb, cy, nc, dn, if loK n o = 0 then n.toInt64 - 1 else lf, bI o, ro) := by rw [show loK n o = 1 by rw [loK, if_neg c_3]]; rfl
        exact W.vret hx hb hr (fun t ht hW => ⟨⟨(nI 1, st, tp, tl, cb, cy, nc, dn, lf, bI o, ro), rfl, hpost, by rw [ht]; exact hP, va_K.moved hW.alike hK, hD⟩, hS.F ht⟩) hS.2.2 dX1_lose_30
      · exact absurd c_15 (by decide)
  rw [hH, hlo] at goal
  exact goal

set_option maxHeartbeats 4000000 in
set_option maxRecDepth 100000 in
theorem c_X1_spoil (l : Launch) (dC : Nat → ClassId) (dI : Nat → Nat → Nat) (cA : ClassId) (ad : Nat → Nat) (sz : Nat) (th : Int32) (st tp : Nat → Int32) (tl : Int32) (cb cy : Nat → Int32) (nc : Int32) (dn lf : Int64) (of : Int32) (ro : Nat → Int32) (b k v : Int32)  : Met l yX1_spoil wsX1_spoil ({ frames := 1, cells := 0, slots := 0, locals := 25 } : Room) (va_Pc [.ref (ad 0), .int b, .int k, .int v] (fun U => U.heap.size = sz ∧ va_P (dC, dI) vwCl (wM cA ad th st tp tl cb cy nc dn lf of ro) U.heap ∧ va_K (dC, dI) vwCl [(cA, .int)] U ∧ va_D (fun _ => True) (wM cA ad th st tp tl cb cy nc dn lf of ro))) (va_Qi (fun (r : Int32) (u : MS) => r = (if mlK b k = 0 then st (64 * b.toNatClampNeg + k.toNatClampNeg) else nI 0) ∧ u = (nI (mlK b k), if mlK b k = 0 then upd st (64 * b.toNatClampNeg + k.toNatClampNeg) (v &&& nI 255) else st, tp, tl, cb, cy, nc, dn, lf, of, ro)) (aM dC dI cA ad (va_A (wM cA ad th st tp tl cb cy nc dn lf of ro) sz)) (va_A (wM cA ad th st tp tl cb cy nc dn lf of ro) sz)) 0 0 (va_A (wM cA ad th st tp tl cb cy nc dn lf of ro) sz) := by
  refine Met.ofW (cc := cX1_spoil) (maxL := 5) (ret := (some .int)) (by decide) rfl ?_
  intro p e s m args below meth c s₁ B hml hv
  obtain ⟨rfl, hsz, hP, hK, hD0⟩ := hv
  have hx := B.exec
  have hb := B.bytes
  have hr := B.returns
  have hts := atoms_spec (ws := wsX1_spoil) B.pre
  have hown : s.vm.findClass RX1 = some m.cls := findClass_of_methodNamed B.named
  have hlocks := B.notSynchronized
  have hin : ∀ w ∈ u_ws RX1 TX1 11, w ∈ wsX1_spoil := by decide +kernel
  subst hsz
  have hD := hD0.self (sz := s.heap.size)
  generalize hAe : va_A (wM cA ad th st tp tl cb cy nc dn lf of ro) s.heap.size = A at hD ⊢
  have hA : ∀ q : Nat, s.heap.size ≤ q → A q := fun q h => by rw [← hAe]; exact Or.inr h
  obtain ⟨H, locs, hH, hlo, hS⟩ : ∃ (H : Heap) (locs : List Loc), H = s.heap ∧ locs = [] ∧ va_S A s.heap H locs := ⟨s.heap, [], rfl, rfl, va_S.rf⟩
  rw [← hH] at hP
  have hP : va_P (dC, dI) vwCl (wM cA ad th st tp tl cb cy nc dn lf of ro) H := hP
  have hl := lv_entry ([.ref (ad 0), .int b, .int k, .int v]) (n := 5) (Nat.le_of_ble_eq_true rfl)
  rw [lg_entry_eq]
  generalize (lg_sl ([.ref (ad 0), .int b, .int k, .int v]) ++ List.replicate (5 - (lg_sl ([.ref (ad 0), .int b, .int k, .int v])).length) Slot.unset).toArray = ls at hl ⊢
  have goal : W p l e (headSpec wsX1_spoil ({ frames := 1, cells := 0, slots := 0, locals := 25 } : Room)).room s m ([.ref (ad 0), .int b, .int k, .int v] : List Value).toArray below meth c H locs 0 0 (MQ below (va_Qi (fun (r : Int32) (u : MS) => r = (if mlK b k = 0 then st (64 * b.toNatClampNeg + k.toNatClampNeg) else nI 0) ∧ u = (nI (mlK b k), if mlK b k = 0 then upd st (64 * b.toNatClampNeg + k.toNatClampNeg) (v &&& nI 255) else st, tp, tl, cb, cy, nc, dn, lf, of, ro)) (aM dC dI cA ad A) A) ([.ref (ad 0), .int b, .int k, .int v] : List Value).toArray s 0 0 A) (F0 m 0 ls []) := by
    clear hH hlo
    have hl : lv_has ls 5 [(0, .ref (ad 0)), (1, .int b), (2, .int k), (3, .int v)] := hl
    refine lv_aload_n hx hb dX1_spoil_0 rfl (lv_at hl 0 rfl) ?_
    refine lv_iload_n hx hb dX1_spoil_1 rfl (lv_at hl 1 rfl) ?_
    refine lv_i2l hx hb dX1_spoil_2 rfl ?_
    refine lv_lconst (v := 0) hx hb dX1_spoil_3 (by decide) ?_
    refine lv_ldc2 hx hb hown (hts (.constantLong RX1 64 (95)) (by decide +kernel)) dX1_spoil_4 ?_
    refine bj_call (v := .int (bI (wiF b.toInt64 0 95))) (W.runS (As := [.long b.toInt64, .long 0, .long (95)]) (rest := [.ref (ad 0)]) ⟨hx, hb, hml, hown, hts⟩ (c_X1_within l b.toInt64 0 95) (va_cwS 3 hts gX1_spoil_X1_within rfl rfl rfl (by decide +kernel) ⟨Nat.le_of_ble_eq_true rfl, Nat.le_of_ble_eq_true rfl⟩) ⟨fun _ _ _ _ q => q, fun _ _ _ => ⟨rfl, trivial⟩⟩ rfl rfl hl.1 rfl (lv_room (Nat.le_of_ble_eq_true rfl)) dX1_spoil_7 ⟨Nat.le_of_ble_eq_true rfl, Nat.le_of_ble_eq_true rfl⟩) ?_
    refine lv_if_eq (tgt := 25) hx hb dX1_spoil_10 (by decide) (fun c_10 => ?_) (fun c_10 => ?_)
    · refine lv_iconst (v := nI 1) hx hb dX1_spoil_25 (by decide) ?_
      refine lv_goto (tgt := 30) hx hb dX1_spoil_26 (by decide) ?_
      refine lv_iconst (v := nI 1) hx hb dX1_spoil_30 (by decide) ?_
      have hFc := va_free (wc := wM cA ad th st tp tl cb cy nc dn lf of ro) hD hS hA [0, 1, 2, 3, 4, 5] rfl
      refine va_calli (va_runV (As := [.int (nI 1), .int (nI 1)]) (rest := []) ⟨hx, hb, hml, hown, hts⟩ (c_X1_fails l dC dI cA ad H.size th st tp tl cb cy nc dn lf of ro (nI 1) (nI 1) rfl) (cwV 2 hts gX1_spoil_X1_fails rfl rfl rfl (by decide +kernel) ⟨Nat.le_of_ble_eq_true rfl, Nat.le_of_ble_eq_true rfl⟩) ⟨fun a U g mk q => by obtain ⟨q0, q1, qP, qK, qD⟩ := q; exact ⟨q0, q1, qP, va_K.moved (u := U) (U := U.calling g mk a) (Vm.Alike.refl U.vm) qK, qD⟩, va_recv hK hP (ci := 1) (q0 := 0) rfl rfl, fun U hU hW => ⟨rfl, by rw [hU], by rw [hU]; exact hP, va_K.moved hW.alike hK, hD.weaken (fun _ _ _ _ => trivial)⟩⟩ rfl rfl hl.1 rfl (lv_room (Nat.le_of_ble_eq_true rfl)) dX1_spoil_31 ⟨Nat.le_of_ble_eq_true rfl, Nat.le_of_ble_eq_true rfl⟩) hS (fun q _ h => hFc q h) hFc (fun r_31 u t H1 locs ht hvm hw hB hz1 hk1 hS => ?_)
      obtain ⟨hP1, hK1, hD1⟩ := hB
      obtain ⟨e_31, rfl⟩ := hw
      rw [ht] at hP1
      have hP : va_P (dC, dI) vwCl (wM cA ad (nI 1) st tp tl cb cy nc dn lf of ro) H1 := hP1
      have hD : va_D A (wM cA ad (nI 1) st tp tl cb cy nc dn lf of ro) := ⟨hD1.1, fun k q h => hFc _ (hD1.2 k q h)⟩
      generalize H1 = H at hP hS ⊢
      subst e_31
      refine lv_if_eq (tgt := 39) hx hb dX1_spoil_34 (by decide) (fun c_34 => ?_) (fun c_34 => ?_)
      · exact absurd c_34 (by decide)
      · refine lv_iconst (v := nI 0) hx hb dX1_spoil_37 (by decide) ?_
        have hpost : ((nI 1, st, tp, tl, cb, cy, nc, dn, lf, of, ro) : MS) = (nI (mlK b k), if mlK b k = 0 then upd st (64 * b.toNatClampNeg + k.toNatClampNeg) (v &&& nI 255) else st, tp, tl, cb, cy, nc, dn, lf, of, ro) := by rw [show mlK b k = 1 by rw [mlK, if_pos c_10]]; rfl
        have hres : nI 0 = (if mlK b k = 0 then st (64 * b.toNatClampNeg + k.toNatClampNeg) else nI 0) := by rw [show mlK b k = 1 by rw [mlK, if_pos c_10]]; rfl
        exact W.iret (v := nI 0) hx hb hr (fun t ht hW => ⟨⟨_, (nI 1, st, tp, tl, cb, cy, nc, dn, lf, of, ro), rfl, ⟨hres, hpost⟩, by rw [ht]; exact hP, va_K.moved hW.alike hK, hD⟩, hS.F ht⟩) hS.2.2 dX1_spoil_38
    · refine lv_iload_n hx hb dX1_spoil_13 rfl (lv_at hl 2 rfl) ?_
      refine lv_i2l hx hb dX1_spoil_14 rfl ?_
      refine lv_lconst (v := 0) hx hb dX1_spoil_15 (by decide) ?_
      refine lv_ldc2 hx hb hown (hts (.constantLong RX1 106 (63)) (by decide +kernel)) dX1_spoil_16 ?_
      refine bj_call (v := .int (bI (wiF k.toInt64 0 63))) (W.runS (As := [.long k.toInt64, .long 0, .long (63)]) (rest := [.ref (ad 0)]) ⟨hx, hb, hml, hown, hts⟩ (c_X1_within l k.toInt64 0 63) (va_cwS 3 hts gX1_spoil_X1_within rfl rfl rfl (by decide +kernel) ⟨Nat.le_of_ble_eq_true rfl, Nat.le_of_ble_eq_true rfl⟩) ⟨fun _ _ _ _ q => q, fun _ _ _ => ⟨rfl, trivial⟩⟩ rfl rfl hl.1 rfl (lv_room (Nat.le_of_ble_eq_true rfl)) dX1_spoil_19 ⟨Nat.le_of_ble_eq_true rfl, Nat.le_of_ble_eq_true rfl⟩) ?_
      refine lv_if_ne (tgt := 29) hx hb dX1_spoil_22 (by decide) (fun c_22 => ?_) (fun c_22 => ?_)
      · refine lv_iconst (v := nI 0) hx hb dX1_spoil_29 (by decide) ?_
        refine lv_iconst (v := nI 1) hx hb dX1_spoil_30 (by decide) ?_
        have hFc := va_free (wc := wM cA ad th st tp tl cb cy nc dn lf of ro) hD hS hA [0, 1, 2, 3, 4, 5] rfl
        refine va_calli (va_runV (As := [.int (nI 0), .int (nI 1)]) (rest := []) ⟨hx, hb, hml, hown, hts⟩ (c_X1_fails l dC dI cA ad H.size th st tp tl cb cy nc dn lf of ro (nI 0) (nI 1) rfl) (cwV 2 hts gX1_spoil_X1_fails rfl rfl rfl (by decide +kernel) ⟨Nat.le_of_ble_eq_true rfl, Nat.le_of_ble_eq_true rfl⟩) ⟨fun a U g mk q => by obtain ⟨q0, q1, qP, qK, qD⟩ := q; exact ⟨q0, q1, qP, va_K.moved (u := U) (U := U.calling g mk a) (Vm.Alike.refl U.vm) qK, qD⟩, va_recv hK hP (ci := 1) (q0 := 0) rfl rfl, fun U hU hW => ⟨rfl, by rw [hU], by rw [hU]; exact hP, va_K.moved hW.alike hK, hD.weaken (fun _ _ _ _ => trivial)⟩⟩ rfl rfl hl.1 rfl (lv_room (Nat.le_of_ble_eq_true rfl)) dX1_spoil_31 ⟨Nat.le_of_ble_eq_true rfl, Nat.le_of_ble_eq_true rfl⟩) hS (fun q _ h => hFc q h) hFc (fun r_31 u t H1 locs ht hvm hw hB hz1 hk1 hS => ?_)
        obtain ⟨hP1, hK1, hD1⟩ := hB
        obtain ⟨e_31, rfl⟩ := hw
        rw [ht] at hP1
        have hP : va_P (dC, dI) vwCl (wM cA ad (nI 0) st tp tl cb cy nc dn lf of ro) H1 := hP1
        have hD : va_D A (wM cA ad (nI 0) st tp tl cb cy nc dn lf of ro) := ⟨hD1.1, fun k q h => hFc _ (hD1.2 k q h)⟩
        generalize H1 = H at hP hS ⊢
        subst e_31
        refine lv_if_eq (tgt := 39) hx hb dX1_spoil_34 (by decide) (fun c_34 => ?_) (fun c_34 => ?_)
        · obtain ⟨bb, -, h95, eb⟩ := wiF_nat (b := 0) (c := 95) (by decide) (by decide) rfl c_10
          obtain ⟨kk, -, h63, ek⟩ := wiF_nat (b := 0) (c := 63) (by decide) (by decide) rfl c_22
          have hcb : b.toNatClampNeg = bb := by rw [eb]; exact nI_clamp (by omega)
          have hck : k.toNatClampNeg = kk := by rw [ek]; exact nI_clamp (by omega)
          rw [eb, ek] at hl
          refine lv_aload_n hx hb dX1_spoil_39 rfl (lv_at hl 0 rfl) ?_
          refine va_get (D := (dC, dI)) (ci := 1) (v := .ref (ad 1)) (C := RX1) (T := TX1) (N := 11) hx hb hts hin hown hK hP 0 rfl rfl 1 (by decide) (hts (.fieldLink RX1 7 "BlockJournalModel" "store" "[I") (by decide +kernel)) (fun _ h9 => h9) rfl dX1_spoil_40 ?_
          refine lv_bipush (v := nI 64) hx hb dX1_spoil_43 (by decide) ?_
          refine lv_iload_n hx hb dX1_spoil_45 rfl (lv_at hl 1 rfl) ?_
          refine lv_imul hx hb dX1_spoil_46 ?_
          refine bj_i (pk_mul 64 bb) ?_
          refine lv_iload_n hx hb dX1_spoil_47 rfl (lv_at hl 2 rfl) ?_
          refine lv_iadd hx hb dX1_spoil_48 ?_
          refine bj_i (nI_add (64 * bb) kk) ?_
          refine va_iald (D := (dC, dI)) hx hb hK hP 1 0 (cA := cA) (n := 6144) (f := st) rfl rfl (i := (nI ((64 * bb) + kk))) (vp_in_nI (by omega) (by omega)) dX1_spoil_49 ?_
          refine bj_i (y := st ((64 * bb) + kk)) (congrArg st (nI_clamp (by omega))) ?_
          refine lv_istore (lv' := [(4, .int (st ((64 * bb) + kk))), (0, .ref (ad 0)), (1, .int (nI bb)), (2, .int (nI kk)), (3, .int v)]) hx hb dX1_spoil_50 hl (by decide) rfl (fun ls hl => ?_)
          refine lv_aload_n hx hb dX1_spoil_52 rfl (lv_at hl 1 rfl) ?_
          refine va_get (D := (dC, dI)) (ci := 1) (v := .ref (ad 1)) (C := RX1) (T := TX1) (N := 11) hx hb hts hin hown hK hP 0 rfl rfl 1 (by decide) (hts (.fieldLink RX1 7 "BlockJournalModel" "store" "[I") (by decide +kernel)) (fun _ h9 => h9) rfl dX1_spoil_53 ?_
          refine lv_bipush (v := nI 64) hx hb dX1_spoil_56 (by decide) ?_
          refine lv_iload_n hx hb dX1_spoil_58 rfl (lv_at hl 2 rfl) ?_
          refine lv_imul hx hb dX1_spoil_59 ?_
          refine bj_i (pk_mul 64 bb) ?_
          refine lv_iload_n hx hb dX1_spoil_60 rfl (lv_at hl 3 rfl) ?_
          refine lv_iadd hx hb dX1_spoil_61 ?_
          refine bj_i (nI_add (64 * bb) kk) ?_
          refine lv_iload_n hx hb dX1_spoil_62 rfl (lv_at hl 4 rfl) ?_
          refine lv_sipush (v := nI 255) hx hb dX1_spoil_63 (by decide) ?_
          refine lv_iand hx hb dX1_spoil_66 ?_
          refine va_iast (D := (dC, dI)) hx hb hK hP hD hS 1 0 (cA := cA) (n := 6144) (f := st) rfl rfl (i := (nI ((64 * bb) + kk))) (vp_in_nI (by omega) (by omega)) dX1_spoil_67 (fun H locs hP hD hS => ?_)
          rw [nI_clamp (n := (64 * bb) + kk) (by omega)] at hP hD
          have hP : va_P (dC, dI) vwCl (wM cA ad (nI 0) (upd st ((64 * bb) + kk) (v &&& (nI 255))) tp tl cb cy nc dn lf of ro) H := hP
          have hD : va_D A (wM cA ad (nI 0) (upd st ((64 * bb) + kk) (v &&& (nI 255))) tp tl cb cy nc dn lf of ro) := hD
          refine lv_iload hx hb dX1_spoil_68 (lv_at hl 0 rfl) ?_
          have hpost : ((nI 0, upd st ((64 * bb) + kk) (v &&& (nI 255)), tp, tl, cb, cy, nc, dn, lf, of, ro) : MS) = (nI (mlK b k), if mlK b k = 0 then upd st (64 * b.toNatClampNeg + k.toNatClampNeg) (v &&& nI 255) else st, tp, tl, cb, cy, nc, dn, lf, of, ro) := by rw [show mlK b k = 0 by rw [mlK, if_neg c_10, if_pos c_22], hcb, hck]; rfl
          have hres : st ((64 * bb) + kk) = (if mlK b k = 0 then st (64 * b.toNatClampNeg + k.toNatClampNeg) else nI 0) := by rw [show mlK b k = 0 by rw [mlK, if_neg c_10, if_pos c_22], hcb, hck]; rfl
          exact W.iret (v := st ((64 * bb) + kk)) hx hb hr (fun t ht hW => ⟨⟨_, (nI 0, upd st ((64 * bb) + kk) (v &&& (nI 255)), tp, tl, cb, cy, nc, dn, lf, of, ro), rfl, ⟨hres, hpost⟩, by rw [ht]; exact hP, va_K.moved hW.alike hK, hD⟩, hS.F ht⟩) hS.2.2 dX1_spoil_70
        · exact absurd (by decide) c_34
      · refine lv_iconst (v := nI 1) hx hb dX1_spoil_25 (by decide) ?_
        refine lv_goto (tgt := 30) hx hb dX1_spoil_26 (by decide) ?_
        refine lv_iconst (v := nI 1) hx hb dX1_spoil_30 (by decide) ?_
        have hFc := va_free (wc := wM cA ad th st tp tl cb cy nc dn lf of ro) hD hS hA [0, 1, 2, 3, 4, 5] rfl
        refine va_calli (va_runV (As := [.int (nI 1), .int (nI 1)]) (rest := []) ⟨hx, hb, hml, hown, hts⟩ (c_X1_fails l dC dI cA ad H.size th st tp tl cb cy nc dn lf of ro (nI 1) (nI 1) rfl) (cwV 2 hts gX1_spoil_X1_fails rfl rfl rfl (by decide +kernel) ⟨Nat.le_of_ble_eq_true rfl, Nat.le_of_ble_eq_true rfl⟩) ⟨fun a U g mk q => by obtain ⟨q0, q1, qP, qK, qD⟩ := q; exact ⟨q0, q1, qP, va_K.moved (u := U) (U := U.calling g mk a) (Vm.Alike.refl U.vm) qK, qD⟩, va_recv hK hP (ci := 1) (q0 := 0) rfl rfl, fun U hU hW => ⟨rfl, by rw [hU], by rw [hU]; exact hP, va_K.moved hW.alike hK, hD.weaken (fun _ _ _ _ => trivial)⟩⟩ rfl rfl hl.1 rfl (lv_room (Nat.le_of_ble_eq_true rfl)) dX1_spoil_31 ⟨Nat.le_of_ble_eq_true rfl, Nat.le_of_ble_eq_true rfl⟩) hS (fun q _ h => hFc q h) hFc (fun r_31 u t H1 locs ht hvm hw hB hz1 hk1 hS => ?_)
        obtain ⟨hP1, hK1, hD1⟩ := hB
        obtain ⟨e_31, rfl⟩ := hw
        rw [ht] at hP1
        have hP : va_P (dC, dI) vwCl (wM cA ad (nI 1) st tp tl cb cy nc dn lf of ro) H1 := hP1
        have hD : va_D A (wM cA ad (nI 1) st tp tl cb cy nc dn lf of ro) := ⟨hD1.1, fun k q h => hFc _ (hD1.2 k q h)⟩
        generalize H1 = H at hP hS ⊢
        subst e_31
        refine lv_if_eq (tgt := 39) hx hb dX1_spoil_34 (by decide) (fun c_34 => ?_) (fun c_34 => ?_)
        · exact absurd c_34 (by decide)
        · refine lv_iconst (v := nI 0) hx hb dX1_spoil_37 (by decide) ?_
          have hpost : ((nI 1, st, tp, tl, cb, cy, nc, dn, lf, of, ro) : MS) = (nI (mlK b k), if mlK b k = 0 then upd st (64 * b.toNatClampNeg + k.toNatClampNeg) (v &&& nI 255) else st, tp, tl, cb, cy, nc, dn, lf, of, ro) := by rw [show mlK b k = 1 by rw [mlK, if_neg c_10, if_neg (not_not_intro c_22)]]; rfl
          have hres : nI 0 = (if mlK b k = 0 then st (64 * b.toNatClampNeg + k.toNatClampNeg) else nI 0) := by rw [show mlK b k = 1 by rw [mlK, if_neg c_10, if_neg (not_not_intro c_22)]]; rfl
          exact W.iret (v := nI 0) hx hb hr (fun t ht hW => ⟨⟨_, (nI 1, st, tp, tl, cb, cy, nc, dn, lf, of, ro), rfl, ⟨hres, hpost⟩, by rw [ht]; exact hP, va_K.moved hW.alike hK, hD⟩, hS.F ht⟩) hS.2.2 dX1_spoil_38
  rw [hH, hlo] at goal
  exact goal

set_option maxHeartbeats 4000000 in
set_option maxRecDepth 100000 in
theorem c_X1_at (l : Launch) (dC : Nat → ClassId) (dI : Nat → Nat → Nat) (cA : ClassId) (ad : Nat → Nat) (sz : Nat) (th : Int32) (st tp : Nat → Int32) (tl : Int32) (cb cy : Nat → Int32) (nc : Int32) (dn lf : Int64) (of : Int32) (ro : Nat → Int32) (b k : Int32)  : Met l yX1_at wsX1_at ({ frames := 1, cells := 0, slots := 0, locals := 25 } : Room) (va_Pc [.ref (ad 0), .int b, .int k] (fun U => U.heap.size = sz ∧ va_P (dC, dI) vwCl (wM cA ad th st tp tl cb cy nc dn lf of ro) U.heap ∧ va_K (dC, dI) vwCl [(cA, .int)] U ∧ va_D (fun _ => True) (wM cA ad th st tp tl cb cy nc dn lf of ro))) (va_Qi (fun (r : Int32) (u : MS) => r = (if mlK b k = 0 then st (64 * b.toNatClampNeg + k.toNatClampNeg) else nI 0) ∧ u = (nI (mlK b k), st, tp, tl, cb, cy, nc, dn, lf, of, ro)) (aM dC dI cA ad (va_A (wM cA ad th st tp tl cb cy nc dn lf of ro) sz)) (va_A (wM cA ad th st tp tl cb cy nc dn lf of ro) sz)) 0 0 (va_A (wM cA ad th st tp tl cb cy nc dn lf of ro) sz) := by
  refine Met.ofW (cc := cX1_at) (maxL := 3) (ret := (some .int)) (by decide) rfl ?_
  intro p e s m args below meth c s₁ B hml hv
  obtain ⟨rfl, hsz, hP, hK, hD0⟩ := hv
  have hx := B.exec
  have hb := B.bytes
  have hr := B.returns
  have hts := atoms_spec (ws := wsX1_at) B.pre
  have hown : s.vm.findClass RX1 = some m.cls := findClass_of_methodNamed B.named
  have hlocks := B.notSynchronized
  have hin : ∀ w ∈ u_ws RX1 TX1 11, w ∈ wsX1_at := by decide +kernel
  subst hsz
  have hD := hD0.self (sz := s.heap.size)
  generalize hAe : va_A (wM cA ad th st tp tl cb cy nc dn lf of ro) s.heap.size = A at hD ⊢
  have hA : ∀ q : Nat, s.heap.size ≤ q → A q := fun q h => by rw [← hAe]; exact Or.inr h
  obtain ⟨H, locs, hH, hlo, hS⟩ : ∃ (H : Heap) (locs : List Loc), H = s.heap ∧ locs = [] ∧ va_S A s.heap H locs := ⟨s.heap, [], rfl, rfl, va_S.rf⟩
  rw [← hH] at hP
  have hP : va_P (dC, dI) vwCl (wM cA ad th st tp tl cb cy nc dn lf of ro) H := hP
  have hl := lv_entry ([.ref (ad 0), .int b, .int k]) (n := 3) (Nat.le_of_ble_eq_true rfl)
  rw [lg_entry_eq]
  generalize (lg_sl ([.ref (ad 0), .int b, .int k]) ++ List.replicate (3 - (lg_sl ([.ref (ad 0), .int b, .int k])).length) Slot.unset).toArray = ls at hl ⊢
  have goal : W p l e (headSpec wsX1_at ({ frames := 1, cells := 0, slots := 0, locals := 25 } : Room)).room s m ([.ref (ad 0), .int b, .int k] : List Value).toArray below meth c H locs 0 0 (MQ below (va_Qi (fun (r : Int32) (u : MS) => r = (if mlK b k = 0 then st (64 * b.toNatClampNeg + k.toNatClampNeg) else nI 0) ∧ u = (nI (mlK b k), st, tp, tl, cb, cy, nc, dn, lf, of, ro)) (aM dC dI cA ad A) A) ([.ref (ad 0), .int b, .int k] : List Value).toArray s 0 0 A) (F0 m 0 ls []) := by
    clear hH hlo
    have hl : lv_has ls 3 [(0, .ref (ad 0)), (1, .int b), (2, .int k)] := hl
    refine lv_aload_n hx hb dX1_at_0 rfl (lv_at hl 0 rfl) ?_
    refine lv_iload_n hx hb dX1_at_1 rfl (lv_at hl 1 rfl) ?_
    refine lv_i2l hx hb dX1_at_2 rfl ?_
    refine lv_lconst (v := 0) hx hb dX1_at_3 (by decide) ?_
    refine lv_ldc2 hx hb hown (hts (.constantLong RX1 64 (95)) (by decide +kernel)) dX1_at_4 ?_
    refine bj_call (v := .int (bI (wiF b.toInt64 0 95))) (W.runS (As := [.long b.toInt64, .long 0, .long (95)]) (rest := [.ref (ad 0)]) ⟨hx, hb, hml, hown, hts⟩ (c_X1_within l b.toInt64 0 95) (va_cwS 3 hts gX1_at_X1_within rfl rfl rfl (by decide +kernel) ⟨Nat.le_of_ble_eq_true rfl, Nat.le_of_ble_eq_true rfl⟩) ⟨fun _ _ _ _ q => q, fun _ _ _ => ⟨rfl, trivial⟩⟩ rfl rfl hl.1 rfl (lv_room (Nat.le_of_ble_eq_true rfl)) dX1_at_7 ⟨Nat.le_of_ble_eq_true rfl, Nat.le_of_ble_eq_true rfl⟩) ?_
    refine lv_if_eq (tgt := 25) hx hb dX1_at_10 (by decide) (fun c_10 => ?_) (fun c_10 => ?_)
    · refine lv_iconst (v := nI 1) hx hb dX1_at_25 (by decide) ?_
      refine lv_goto (tgt := 30) hx hb dX1_at_26 (by decide) ?_
      refine lv_iconst (v := nI 1) hx hb dX1_at_30 (by decide) ?_
      have hFc := va_free (wc := wM cA ad th st tp tl cb cy nc dn lf of ro) hD hS hA [0, 1, 2, 3, 4, 5] rfl
      refine va_calli (va_runV (As := [.int (nI 1), .int (nI 1)]) (rest := []) ⟨hx, hb, hml, hown, hts⟩ (c_X1_fails l dC dI cA ad H.size th st tp tl cb cy nc dn lf of ro (nI 1) (nI 1) rfl) (cwV 2 hts gX1_at_X1_fails rfl rfl rfl (by decide +kernel) ⟨Nat.le_of_ble_eq_true rfl, Nat.le_of_ble_eq_true rfl⟩) ⟨fun a U g mk q => by obtain ⟨q0, q1, qP, qK, qD⟩ := q; exact ⟨q0, q1, qP, va_K.moved (u := U) (U := U.calling g mk a) (Vm.Alike.refl U.vm) qK, qD⟩, va_recv hK hP (ci := 1) (q0 := 0) rfl rfl, fun U hU hW => ⟨rfl, by rw [hU], by rw [hU]; exact hP, va_K.moved hW.alike hK, hD.weaken (fun _ _ _ _ => trivial)⟩⟩ rfl rfl hl.1 rfl (lv_room (Nat.le_of_ble_eq_true rfl)) dX1_at_31 ⟨Nat.le_of_ble_eq_true rfl, Nat.le_of_ble_eq_true rfl⟩) hS (fun q _ h => hFc q h) hFc (fun r_31 u t H1 locs ht hvm hw hB hz1 hk1 hS => ?_)
      obtain ⟨hP1, hK1, hD1⟩ := hB
      obtain ⟨e_31, rfl⟩ := hw
      rw [ht] at hP1
      have hP : va_P (dC, dI) vwCl (wM cA ad (nI 1) st tp tl cb cy nc dn lf of ro) H1 := hP1
      have hD : va_D A (wM cA ad (nI 1) st tp tl cb cy nc dn lf of ro) := ⟨hD1.1, fun k q h => hFc _ (hD1.2 k q h)⟩
      generalize H1 = H at hP hS ⊢
      subst e_31
      refine lv_if_eq (tgt := 41) hx hb dX1_at_34 (by decide) (fun c_34 => ?_) (fun c_34 => ?_)
      · exact absurd c_34 (by decide)
      · refine lv_iconst (v := nI 0) hx hb dX1_at_37 (by decide) ?_
        refine lv_goto (tgt := 52) hx hb dX1_at_38 (by decide) ?_
        have hpost : ((nI 1, st, tp, tl, cb, cy, nc, dn, lf, of, ro) : MS) = (nI (mlK b k), st, tp, tl, cb, cy, nc, dn, lf, of, ro) := by rw [show mlK b k = 1 by rw [mlK, if_pos c_10]]
        have hres : nI 0 = (if mlK b k = 0 then st (64 * b.toNatClampNeg + k.toNatClampNeg) else nI 0) := by rw [show mlK b k = 1 by rw [mlK, if_pos c_10]]; rfl
        exact W.iret (v := nI 0) hx hb hr (fun t ht hW => ⟨⟨_, (nI 1, st, tp, tl, cb, cy, nc, dn, lf, of, ro), rfl, ⟨hres, hpost⟩, by rw [ht]; exact hP, va_K.moved hW.alike hK, hD⟩, hS.F ht⟩) hS.2.2 dX1_at_52
    · refine lv_iload_n hx hb dX1_at_13 rfl (lv_at hl 2 rfl) ?_
      refine lv_i2l hx hb dX1_at_14 rfl ?_
      refine lv_lconst (v := 0) hx hb dX1_at_15 (by decide) ?_
      refine lv_ldc2 hx hb hown (hts (.constantLong RX1 106 (63)) (by decide +kernel)) dX1_at_16 ?_
      refine bj_call (v := .int (bI (wiF k.toInt64 0 63))) (W.runS (As := [.long k.toInt64, .long 0, .long (63)]) (rest := [.ref (ad 0)]) ⟨hx, hb, hml, hown, hts⟩ (c_X1_within l k.toInt64 0 63) (va_cwS 3 hts gX1_at_X1_within rfl rfl rfl (by decide +kernel) ⟨Nat.le_of_ble_eq_true rfl, Nat.le_of_ble_eq_true rfl⟩) ⟨fun _ _ _ _ q => q, fun _ _ _ => ⟨rfl, trivial⟩⟩ rfl rfl hl.1 rfl (lv_room (Nat.le_of_ble_eq_true rfl)) dX1_at_19 ⟨Nat.le_of_ble_eq_true rfl, Nat.le_of_ble_eq_true rfl⟩) ?_
      refine lv_if_ne (tgt := 29) hx hb dX1_at_22 (by decide) (fun c_22 => ?_) (fun c_22 => ?_)
      · refine lv_iconst (v := nI 0) hx hb dX1_at_29 (by decide) ?_
        refine lv_iconst (v := nI 1) hx hb dX1_at_30 (by decide) ?_
        have hFc := va_free (wc := wM cA ad th st tp tl cb cy nc dn lf of ro) hD hS hA [0, 1, 2, 3, 4, 5] rfl
        refine va_calli (va_runV (As := [.int (nI 0), .int (nI 1)]) (rest := []) ⟨hx, hb, hml, hown, hts⟩ (c_X1_fails l dC dI cA ad H.size th st tp tl cb cy nc dn lf of ro (nI 0) (nI 1) rfl) (cwV 2 hts gX1_at_X1_fails rfl rfl rfl (by decide +kernel) ⟨Nat.le_of_ble_eq_true rfl, Nat.le_of_ble_eq_true rfl⟩) ⟨fun a U g mk q => by obtain ⟨q0, q1, qP, qK, qD⟩ := q; exact ⟨q0, q1, qP, va_K.moved (u := U) (U := U.calling g mk a) (Vm.Alike.refl U.vm) qK, qD⟩, va_recv hK hP (ci := 1) (q0 := 0) rfl rfl, fun U hU hW => ⟨rfl, by rw [hU], by rw [hU]; exact hP, va_K.moved hW.alike hK, hD.weaken (fun _ _ _ _ => trivial)⟩⟩ rfl rfl hl.1 rfl (lv_room (Nat.le_of_ble_eq_true rfl)) dX1_at_31 ⟨Nat.le_of_ble_eq_true rfl, Nat.le_of_ble_eq_true rfl⟩) hS (fun q _ h => hFc q h) hFc (fun r_31 u t H1 locs ht hvm hw hB hz1 hk1 hS => ?_)
        obtain ⟨hP1, hK1, hD1⟩ := hB
        obtain ⟨e_31, rfl⟩ := hw
        rw [ht] at hP1
        have hP : va_P (dC, dI) vwCl (wM cA ad (nI 0) st tp tl cb cy nc dn lf of ro) H1 := hP1
        have hD : va_D A (wM cA ad (nI 0) st tp tl cb cy nc dn lf of ro) := ⟨hD1.1, fun k q h => hFc _ (hD1.2 k q h)⟩
        generalize H1 = H at hP hS ⊢
        subst e_31
        refine lv_if_eq (tgt := 41) hx hb dX1_at_34 (by decide) (fun c_34 => ?_) (fun c_34 => ?_)
        · obtain ⟨bb, -, h95, eb⟩ := wiF_nat (b := 0) (c := 95) (by decide) (by decide) rfl c_10
          obtain ⟨kk, -, h63, ek⟩ := wiF_nat (b := 0) (c := 63) (by decide) (by decide) rfl c_22
          have hcb : b.toNatClampNeg = bb := by rw [eb]; exact nI_clamp (by omega)
          have hck : k.toNatClampNeg = kk := by rw [ek]; exact nI_clamp (by omega)
          rw [eb, ek] at hl
          refine lv_aload_n hx hb dX1_at_41 rfl (lv_at hl 0 rfl) ?_
          refine va_get (D := (dC, dI)) (ci := 1) (v := .ref (ad 1)) (C := RX1) (T := TX1) (N := 11) hx hb hts hin hown hK hP 0 rfl rfl 1 (by decide) (hts (.fieldLink RX1 7 "BlockJournalModel" "store" "[I") (by decide +kernel)) (fun _ h9 => h9) rfl dX1_at_42 ?_
          refine lv_bipush (v := nI 64) hx hb dX1_at_45 (by decide) ?_
          refine lv_iload_n hx hb dX1_at_47 rfl (lv_at hl 1 rfl) ?_
          refine lv_imul hx hb dX1_at_48 ?_
          refine bj_i (pk_mul 64 bb) ?_
          refine lv_iload_n hx hb dX1_at_49 rfl (lv_at hl 2 rfl) ?_
          refine lv_iadd hx hb dX1_at_50 ?_
          refine bj_i (nI_add (64 * bb) kk) ?_
          refine va_iald (D := (dC, dI)) hx hb hK hP 1 0 (cA := cA) (n := 6144) (f := st) rfl rfl (i := (nI ((64 * bb) + kk))) (vp_in_nI (by omega) (by omega)) dX1_at_51 ?_
          refine bj_i (y := st ((64 * bb) + kk)) (congrArg st (nI_clamp (by omega))) ?_
          have hpost : ((nI 0, st, tp, tl, cb, cy, nc, dn, lf, of, ro) : MS) = (nI (mlK b k), st, tp, tl, cb, cy, nc, dn, lf, of, ro) := by rw [show mlK b k = 0 by rw [mlK, if_neg c_10, if_pos c_22]]
          have hres : st ((64 * bb) + kk) = (if mlK b k = 0 then st (64 * b.toNatClampNeg + k.toNatClampNeg) else nI 0) := by rw [show mlK b k = 0 by rw [mlK, if_neg c_10, if_pos c_22], hcb, hck]; rfl
          exact W.iret (v := st ((64 * bb) + kk)) hx hb hr (fun t ht hW => ⟨⟨_, (nI 0, st, tp, tl, cb, cy, nc, dn, lf, of, ro), rfl, ⟨hres, hpost⟩, by rw [ht]; exact hP, va_K.moved hW.alike hK, hD⟩, hS.F ht⟩) hS.2.2 dX1_at_52
        · exact absurd (by decide) c_34
      · refine lv_iconst (v := nI 1) hx hb dX1_at_25 (by decide) ?_
        refine lv_goto (tgt := 30) hx hb dX1_at_26 (by decide) ?_
        refine lv_iconst (v := nI 1) hx hb dX1_at_30 (by decide) ?_
        have hFc := va_free (wc := wM cA ad th st tp tl cb cy nc dn lf of ro) hD hS hA [0, 1, 2, 3, 4, 5] rfl
        refine va_calli (va_runV (As := [.int (nI 1), .int (nI 1)]) (rest := []) ⟨hx, hb, hml, hown, hts⟩ (c_X1_fails l dC dI cA ad H.size th st tp tl cb cy nc dn lf of ro (nI 1) (nI 1) rfl) (cwV 2 hts gX1_at_X1_fails rfl rfl rfl (by decide +kernel) ⟨Nat.le_of_ble_eq_true rfl, Nat.le_of_ble_eq_true rfl⟩) ⟨fun a U g mk q => by obtain ⟨q0, q1, qP, qK, qD⟩ := q; exact ⟨q0, q1, qP, va_K.moved (u := U) (U := U.calling g mk a) (Vm.Alike.refl U.vm) qK, qD⟩, va_recv hK hP (ci := 1) (q0 := 0) rfl rfl, fun U hU hW => ⟨rfl, by rw [hU], by rw [hU]; exact hP, va_K.moved hW.alike hK, hD.weaken (fun _ _ _ _ => trivial)⟩⟩ rfl rfl hl.1 rfl (lv_room (Nat.le_of_ble_eq_true rfl)) dX1_at_31 ⟨Nat.le_of_ble_eq_true rfl, Nat.le_of_ble_eq_true rfl⟩) hS (fun q _ h => hFc q h) hFc (fun r_31 u t H1 locs ht hvm hw hB hz1 hk1 hS => ?_)
        obtain ⟨hP1, hK1, hD1⟩ := hB
        obtain ⟨e_31, rfl⟩ := hw
        rw [ht] at hP1
        have hP : va_P (dC, dI) vwCl (wM cA ad (nI 1) st tp tl cb cy nc dn lf of ro) H1 := hP1
        have hD : va_D A (wM cA ad (nI 1) st tp tl cb cy nc dn lf of ro) := ⟨hD1.1, fun k q h => hFc _ (hD1.2 k q h)⟩
        generalize H1 = H at hP hS ⊢
        subst e_31
        refine lv_if_eq (tgt := 41) hx hb dX1_at_34 (by decide) (fun c_34 => ?_) (fun c_34 => ?_)
        · exact absurd c_34 (by decide)
        · refine lv_iconst (v := nI 0) hx hb dX1_at_37 (by decide) ?_
          refine lv_goto (tgt := 52) hx hb dX1_at_38 (by decide) ?_
          have hpost : ((nI 1, st, tp, tl, cb, cy, nc, dn, lf, of, ro) : MS) = (nI (mlK b k), st, tp, tl, cb, cy, nc, dn, lf, of, ro) := by rw [show mlK b k = 1 by rw [mlK, if_neg c_10, if_neg (not_not_intro c_22)]]
          have hres : nI 0 = (if mlK b k = 0 then st (64 * b.toNatClampNeg + k.toNatClampNeg) else nI 0) := by rw [show mlK b k = 1 by rw [mlK, if_neg c_10, if_neg (not_not_intro c_22)]]; rfl
          exact W.iret (v := nI 0) hx hb hr (fun t ht hW => ⟨⟨_, (nI 1, st, tp, tl, cb, cy, nc, dn, lf, of, ro), rfl, ⟨hres, hpost⟩, by rw [ht]; exact hP, va_K.moved hW.alike hK, hD⟩, hS.F ht⟩) hS.2.2 dX1_at_52
  rw [hH, hlo] at goal
  exact goal

set_option maxHeartbeats 4000000 in
set_option maxRecDepth 100000 in
theorem c_X1_change (l : Launch) (dC : Nat → ClassId) (dI : Nat → Nat → Nat) (cA : ClassId) (ad : Nat → Nat) (sz : Nat) (th : Int32) (st tp : Nat → Int32) (tl : Int32) (cb cy : Nat → Int32) (dn lf : Int64) (of : Int32) (ro : Nat → Int32) (n : Nat) (i : Int32) (pi : Nat → Nat) (hn : n ≤ 24) (hpi : ∀ j, j < n → pi j < 24 ∧ raF cb n j n 0 = nI (pi j)) : Met l yX1_change wsX1_change ({ frames := 1, cells := 0, slots := 0, locals := 25 } : Room) (va_Pc [.ref (ad 0), .int i] (fun U => U.heap.size = sz ∧ va_P (dC, dI) vwCl (wM cA ad th st tp tl cb cy (nI n) dn lf of ro) U.heap ∧ va_K (dC, dI) vwCl [(cA, .int)] U ∧ va_D (fun _ => True) (wM cA ad th st tp tl cb cy (nI n) dn lf of ro))) (va_Qi (fun (r : Int32) (u : MS) => r = (if mhK i n = 0 then cb (pi i.toNatClampNeg) else nI 0) ∧ u = (nI (mhK i n), st, tp, tl, cb, cy, nI n, dn, lf, of, ro)) (aM dC dI cA ad (va_A (wM cA ad th st tp tl cb cy (nI n) dn lf of ro) sz)) (va_A (wM cA ad th st tp tl cb cy (nI n) dn lf of ro) sz)) 0 0 (va_A (wM cA ad th st tp tl cb cy (nI n) dn lf of ro) sz) := by
  refine Met.ofW (cc := cX1_change) (maxL := 2) (ret := (some .int)) (by decide) rfl ?_
  intro p e s m args below meth c s₁ B hml hv
  obtain ⟨rfl, hsz, hP, hK, hD0⟩ := hv
  have hx := B.exec
  have hb := B.bytes
  have hr := B.returns
  have hts := atoms_spec (ws := wsX1_change) B.pre
  have hown : s.vm.findClass RX1 = some m.cls := findClass_of_methodNamed B.named
  have hlocks := B.notSynchronized
  have hin : ∀ w ∈ u_ws RX1 TX1 11, w ∈ wsX1_change := by decide +kernel
  subst hsz
  have hD := hD0.self (sz := s.heap.size)
  generalize hAe : va_A (wM cA ad th st tp tl cb cy (nI n) dn lf of ro) s.heap.size = A at hD ⊢
  have hA : ∀ q : Nat, s.heap.size ≤ q → A q := fun q h => by rw [← hAe]; exact Or.inr h
  obtain ⟨H, locs, hH, hlo, hS⟩ : ∃ (H : Heap) (locs : List Loc), H = s.heap ∧ locs = [] ∧ va_S A s.heap H locs := ⟨s.heap, [], rfl, rfl, va_S.rf⟩
  rw [← hH] at hP
  have hP : va_P (dC, dI) vwCl (wM cA ad th st tp tl cb cy (nI n) dn lf of ro) H := hP
  have hl := lv_entry ([.ref (ad 0), .int i]) (n := 2) (Nat.le_of_ble_eq_true rfl)
  rw [lg_entry_eq]
  generalize (lg_sl ([.ref (ad 0), .int i]) ++ List.replicate (2 - (lg_sl ([.ref (ad 0), .int i])).length) Slot.unset).toArray = ls at hl ⊢
  have goal : W p l e (headSpec wsX1_change ({ frames := 1, cells := 0, slots := 0, locals := 25 } : Room)).room s m ([.ref (ad 0), .int i] : List Value).toArray below meth c H locs 0 0 (MQ below (va_Qi (fun (r : Int32) (u : MS) => r = (if mhK i n = 0 then cb (pi i.toNatClampNeg) else nI 0) ∧ u = (nI (mhK i n), st, tp, tl, cb, cy, nI n, dn, lf, of, ro)) (aM dC dI cA ad A) A) ([.ref (ad 0), .int i] : List Value).toArray s 0 0 A) (F0 m 0 ls []) := by
    clear hH hlo
    have hl : lv_has ls 2 [(0, .ref (ad 0)), (1, .int i)] := hl
    refine lv_aload_n hx hb dX1_change_0 rfl (lv_at hl 0 rfl) ?_
    refine lv_iload_n hx hb dX1_change_1 rfl (lv_at hl 1 rfl) ?_
    refine lv_i2l hx hb dX1_change_2 rfl ?_
    refine lv_lconst (v := 0) hx hb dX1_change_3 (by decide) ?_
    refine lv_aload_n hx hb dX1_change_4 rfl (lv_at hl 0 rfl) ?_
    refine va_get (D := (dC, dI)) (ci := 1) (v := .int (nI n)) (C := RX1) (T := TX1) (N := 11) hx hb hts hin hown hK hP 0 rfl rfl 6 (by decide) (hts (.fieldLink RX1 81 "BlockJournalModel" "changes" "I") (by decide +kernel)) (fun _ h9 => h9) rfl dX1_change_5 ?_
    refine lv_iconst (v := nI 1) hx hb dX1_change_8 (by decide) ?_
    refine lv_isub hx hb dX1_change_9 ?_
    refine lv_i2l hx hb dX1_change_10 rfl ?_
    refine bj_call (v := .int (bI (wiF i.toInt64 0 (nI n - nI 1).toInt64))) (W.runS (As := [.long i.toInt64, .long 0, .long (((nI n) - (nI 1)).toInt64)]) (rest := [.ref (ad 0)]) ⟨hx, hb, hml, hown, hts⟩ (c_X1_within l i.toInt64 0 (nI n - nI 1).toInt64) (va_cwS 3 hts gX1_change_X1_within rfl rfl rfl (by decide +kernel) ⟨Nat.le_of_ble_eq_true rfl, Nat.le_of_ble_eq_true rfl⟩) ⟨fun _ _ _ _ q => q, fun _ _ _ => ⟨rfl, trivial⟩⟩ rfl rfl hl.1 rfl (lv_room (Nat.le_of_ble_eq_true rfl)) dX1_change_11 ⟨Nat.le_of_ble_eq_true rfl, Nat.le_of_ble_eq_true rfl⟩) ?_
    refine lv_if_ne (tgt := 21) hx hb dX1_change_14 (by decide) (fun c_14 => ?_) (fun c_14 => ?_)
    · refine lv_iconst (v := nI 0) hx hb dX1_change_21 (by decide) ?_
      refine lv_iconst (v := nI 1) hx hb dX1_change_22 (by decide) ?_
      have hFc := va_free (wc := wM cA ad th st tp tl cb cy (nI n) dn lf of ro) hD hS hA [0, 1, 2, 3, 4, 5] rfl
      refine va_calli (va_runV (As := [.int (nI 0), .int (nI 1)]) (rest := []) ⟨hx, hb, hml, hown, hts⟩ (c_X1_fails l dC dI cA ad H.size th st tp tl cb cy (nI n) dn lf of ro (nI 0) (nI 1) rfl) (cwV 2 hts gX1_change_X1_fails rfl rfl rfl (by decide +kernel) ⟨Nat.le_of_ble_eq_true rfl, Nat.le_of_ble_eq_true rfl⟩) ⟨fun a U g mk q => by obtain ⟨q0, q1, qP, qK, qD⟩ := q; exact ⟨q0, q1, qP, va_K.moved (u := U) (U := U.calling g mk a) (Vm.Alike.refl U.vm) qK, qD⟩, va_recv hK hP (ci := 1) (q0 := 0) rfl rfl, fun U hU hW => ⟨rfl, by rw [hU], by rw [hU]; exact hP, va_K.moved hW.alike hK, hD.weaken (fun _ _ _ _ => trivial)⟩⟩ rfl rfl hl.1 rfl (lv_room (Nat.le_of_ble_eq_true rfl)) dX1_change_23 ⟨Nat.le_of_ble_eq_true rfl, Nat.le_of_ble_eq_true rfl⟩) hS (fun q _ h => hFc q h) hFc (fun r_23 u t H1 locs ht hvm hw hB hz1 hk1 hS => ?_)
      obtain ⟨hP1, hK1, hD1⟩ := hB
      obtain ⟨e_23, rfl⟩ := hw
      rw [ht] at hP1
      have hP : va_P (dC, dI) vwCl (wM cA ad (nI 0) st tp tl cb cy (nI n) dn lf of ro) H1 := hP1
      have hD : va_D A (wM cA ad (nI 0) st tp tl cb cy (nI n) dn lf of ro) := ⟨hD1.1, fun k q h => hFc _ (hD1.2 k q h)⟩
      generalize H1 = H at hP hS ⊢
      subst e_23
      refine lv_if_eq (tgt := 33) hx hb dX1_change_26 (by decide) (fun c_26 => ?_) (fun c_26 => ?_)
      · obtain ⟨j, hjn, ej⟩ := mhK_nat hn c_14
        have hcl : i.toNatClampNeg = j := by rw [ej]; exact nI_clamp (by omega)
        obtain ⟨hp9, ep9⟩ := hpi j hjn
        rw [ej] at hl
        refine lv_aload_n hx hb dX1_change_33 rfl (lv_at hl 0 rfl) ?_
        refine va_get (D := (dC, dI)) (ci := 1) (v := .ref (ad 3)) (C := RX1) (T := TX1) (N := 11) hx hb hts hin hown hK hP 0 rfl rfl 4 (by decide) (hts (.fieldLink RX1 16 "BlockJournalModel" "change" "[I") (by decide +kernel)) (fun _ h9 => h9) rfl dX1_change_34 ?_
        refine lv_aload_n hx hb dX1_change_37 rfl (lv_at hl 0 rfl) ?_
        refine lv_iload_n hx hb dX1_change_38 rfl (lv_at hl 1 rfl) ?_
        refine bj_call (v := .int (raF cb n j n 0)) (W.runV (As := [.int (nI j)]) (rest := [.ref (ad 3)]) ⟨hx, hb, hml, hown, hts⟩ (c_X1_ranked l dC dI cA ad (nI 0) st tp tl cb cy dn lf of ro n j (by omega) (by omega)) (cwV 1 hts gX1_change_X1_ranked rfl rfl rfl (by decide +kernel) ⟨Nat.le_of_ble_eq_true rfl, Nat.le_of_ble_eq_true rfl⟩) ⟨fun a U g mk q => by obtain ⟨q0, qP, qK⟩ := q; exact ⟨q0, qP, va_K.moved (u := U) (U := U.calling g mk a) (Vm.Alike.refl U.vm) qK⟩, va_recv hK hP (ci := 1) (q0 := 0) rfl rfl, fun U hU hW => ⟨rfl, by rw [hU]; exact hP, va_K.moved hW.alike hK⟩⟩ rfl rfl hl.1 rfl (lv_room (Nat.le_of_ble_eq_true rfl)) dX1_change_39 ⟨Nat.le_of_ble_eq_true rfl, Nat.le_of_ble_eq_true rfl⟩) ?_
        refine bj_i (y := nI (pi j)) (ep9) ?_
        refine va_iald (D := (dC, dI)) hx hb hK hP 3 0 (cA := cA) (n := 24) (f := cb) rfl rfl (i := (nI (pi j))) (vp_in_nI (by omega) (by omega)) dX1_change_42 ?_
        refine bj_i (y := cb (pi j)) (congrArg cb (nI_clamp (by omega))) ?_
        have hpost : ((nI 0, st, tp, tl, cb, cy, nI n, dn, lf, of, ro) : MS) = (nI (mhK i n), st, tp, tl, cb, cy, nI n, dn, lf, of, ro) := by rw [show mhK i n = 0 by rw [mhK, if_pos c_14]]
        have hres : cb (pi j) = (if mhK i n = 0 then cb (pi i.toNatClampNeg) else nI 0) := by rw [show mhK i n = 0 by rw [mhK, if_pos c_14], hcl]; rfl
        exact W.iret (v := cb (pi j)) hx hb hr (fun t ht hW => ⟨⟨_, (nI 0, st, tp, tl, cb, cy, nI n, dn, lf, of, ro), rfl, ⟨hres, hpost⟩, by rw [ht]; exact hP, va_K.moved hW.alike hK, hD⟩, hS.F ht⟩) hS.2.2 dX1_change_43
      · exact absurd (by decide) c_26
    · refine lv_iconst (v := nI 1) hx hb dX1_change_17 (by decide) ?_
      refine lv_goto (tgt := 22) hx hb dX1_change_18 (by decide) ?_
      refine lv_iconst (v := nI 1) hx hb dX1_change_22 (by decide) ?_
      have hFc := va_free (wc := wM cA ad th st tp tl cb cy (nI n) dn lf of ro) hD hS hA [0, 1, 2, 3, 4, 5] rfl
      refine va_calli (va_runV (As := [.int (nI 1), .int (nI 1)]) (rest := []) ⟨hx, hb, hml, hown, hts⟩ (c_X1_fails l dC dI cA ad H.size th st tp tl cb cy (nI n) dn lf of ro (nI 1) (nI 1) rfl) (cwV 2 hts gX1_change_X1_fails rfl rfl rfl (by decide +kernel) ⟨Nat.le_of_ble_eq_true rfl, Nat.le_of_ble_eq_true rfl⟩) ⟨fun a U g mk q => by obtain ⟨q0, q1, qP, qK, qD⟩ := q; exact ⟨q0, q1, qP, va_K.moved (u := U) (U := U.calling g mk a) (Vm.Alike.refl U.vm) qK, qD⟩, va_recv hK hP (ci := 1) (q0 := 0) rfl rfl, fun U hU hW => ⟨rfl, by rw [hU], by rw [hU]; exact hP, va_K.moved hW.alike hK, hD.weaken (fun _ _ _ _ => trivial)⟩⟩ rfl rfl hl.1 rfl (lv_room (Nat.le_of_ble_eq_true rfl)) dX1_change_23 ⟨Nat.le_of_ble_eq_true rfl, Nat.le_of_ble_eq_true rfl⟩) hS (fun q _ h => hFc q h) hFc (fun r_23 u t H1 locs ht hvm hw hB hz1 hk1 hS => ?_)
      obtain ⟨hP1, hK1, hD1⟩ := hB
      obtain ⟨e_23, rfl⟩ := hw
      rw [ht] at hP1
      have hP : va_P (dC, dI) vwCl (wM cA ad (nI 1) st tp tl cb cy (nI n) dn lf of ro) H1 := hP1
      have hD : va_D A (wM cA ad (nI 1) st tp tl cb cy (nI n) dn lf of ro) := ⟨hD1.1, fun k q h => hFc _ (hD1.2 k q h)⟩
      generalize H1 = H at hP hS ⊢
      subst e_23
      refine lv_if_eq (tgt := 33) hx hb dX1_change_26 (by decide) (fun c_26 => ?_) (fun c_26 => ?_)
      · exact absurd c_26 (by decide)
      · refine lv_iconst (v := nI 0) hx hb dX1_change_29 (by decide) ?_
        refine lv_goto (tgt := 43) hx hb dX1_change_30 (by decide) ?_
        have hpost : ((nI 1, st, tp, tl, cb, cy, nI n, dn, lf, of, ro) : MS) = (nI (mhK i n), st, tp, tl, cb, cy, nI n, dn, lf, of, ro) := by rw [show mhK i n = 1 by rw [mhK, if_neg (not_not_intro c_14)]]
        have hres : nI 0 = (if mhK i n = 0 then cb (pi i.toNatClampNeg) else nI 0) := by rw [show mhK i n = 1 by rw [mhK, if_neg (not_not_intro c_14)]]; rfl
        exact W.iret (v := nI 0) hx hb hr (fun t ht hW => ⟨⟨_, (nI 1, st, tp, tl, cb, cy, nI n, dn, lf, of, ro), rfl, ⟨hres, hpost⟩, by rw [ht]; exact hP, va_K.moved hW.alike hK, hD⟩, hS.F ht⟩) hS.2.2 dX1_change_43
  rw [hH, hlo] at goal
  exact goal

set_option maxHeartbeats 4000000 in
set_option maxRecDepth 100000 in
theorem c_X1_look (l : Launch) (dC : Nat → ClassId) (dI : Nat → Nat → Nat) (cA : ClassId) (ad : Nat → Nat) (sz : Nat) (th : Int32) (st tp : Nat → Int32) (tl : Int32) (cb cy : Nat → Int32) (nc : Int32) (dn lf : Int64) (ro : Nat → Int32) (o : Bool) (w : Int32)  : Met l yX1_look wsX1_look ({ frames := 3, cells := 0, slots := 0, locals := 76 } : Room) (va_Pc [.ref (ad 0), .int w] (fun U => U.heap.size = sz ∧ va_P (dC, dI) vwCl (wM cA ad th st tp tl cb cy nc dn lf (bI o) ro) U.heap ∧ va_K (dC, dI) vwCl [(cA, .int)] U ∧ va_D (fun _ => True) (wM cA ad th st tp tl cb cy nc dn lf (bI o) ro))) (va_Ql (fun (r : Int64) (u : MS) => r = mkR w st nc o lf dn ∧ u = (nI (mkK w), st, tp, tl, cb, cy, nc, dn, lf, bI o, ro)) (aM dC dI cA ad (va_A (wM cA ad th st tp tl cb cy nc dn lf (bI o) ro) sz)) (va_A (wM cA ad th st tp tl cb cy nc dn lf (bI o) ro) sz)) 0 0 (va_A (wM cA ad th st tp tl cb cy nc dn lf (bI o) ro) sz) := by
  refine Met.ofW (cc := cX1_look) (maxL := 2) (ret := (some .long)) (by decide) rfl ?_
  intro p e s m args below meth c s₁ B hml hv
  obtain ⟨rfl, hsz, hP, hK, hD0⟩ := hv
  have hx := B.exec
  have hb := B.bytes
  have hr := B.returns
  have hts := atoms_spec (ws := wsX1_look) B.pre
  have hown : s.vm.findClass RX1 = some m.cls := findClass_of_methodNamed B.named
  have hlocks := B.notSynchronized
  have hin : ∀ w ∈ u_ws RX1 TX1 11, w ∈ wsX1_look := by decide +kernel
  subst hsz
  have hD := hD0.self (sz := s.heap.size)
  generalize hAe : va_A (wM cA ad th st tp tl cb cy nc dn lf (bI o) ro) s.heap.size = A at hD ⊢
  have hA : ∀ q : Nat, s.heap.size ≤ q → A q := fun q h => by rw [← hAe]; exact Or.inr h
  obtain ⟨H, locs, hH, hlo, hS⟩ : ∃ (H : Heap) (locs : List Loc), H = s.heap ∧ locs = [] ∧ va_S A s.heap H locs := ⟨s.heap, [], rfl, rfl, va_S.rf⟩
  rw [← hH] at hP
  have hP : va_P (dC, dI) vwCl (wM cA ad th st tp tl cb cy nc dn lf (bI o) ro) H := hP
  have hl := lv_entry ([.ref (ad 0), .int w]) (n := 2) (Nat.le_of_ble_eq_true rfl)
  rw [lg_entry_eq]
  generalize (lg_sl ([.ref (ad 0), .int w]) ++ List.replicate (2 - (lg_sl ([.ref (ad 0), .int w])).length) Slot.unset).toArray = ls at hl ⊢
  have goal : W p l e (headSpec wsX1_look ({ frames := 3, cells := 0, slots := 0, locals := 76 } : Room)).room s m ([.ref (ad 0), .int w] : List Value).toArray below meth c H locs 0 0 (MQ below (va_Ql (fun (r : Int64) (u : MS) => r = mkR w st nc o lf dn ∧ u = (nI (mkK w), st, tp, tl, cb, cy, nc, dn, lf, bI o, ro)) (aM dC dI cA ad A) A) ([.ref (ad 0), .int w] : List Value).toArray s 0 0 A) (F0 m 0 ls []) := by
    clear hH hlo
    have hl : lv_has ls 2 [(0, .ref (ad 0)), (1, .int w)] := hl
    refine lv_aload_n hx hb dX1_look_0 rfl (lv_at hl 0 rfl) ?_
    refine lv_iload_n hx hb dX1_look_1 rfl (lv_at hl 1 rfl) ?_
    refine lv_i2l hx hb dX1_look_2 rfl ?_
    refine lv_lconst (v := 0) hx hb dX1_look_3 (by decide) ?_
    refine lv_ldc2 hx hb hown (hts (.constantLong RX1 108 (6)) (by decide +kernel)) dX1_look_4 ?_
    refine bj_call (v := .int (bI (wiF w.toInt64 0 6))) (W.runS (As := [.long w.toInt64, .long 0, .long (6)]) (rest := [.ref (ad 0)]) ⟨hx, hb, hml, hown, hts⟩ (c_X1_within l w.toInt64 0 6) (va_cwS 3 hts gX1_look_X1_within rfl rfl rfl (by decide +kernel) ⟨Nat.le_of_ble_eq_true rfl, Nat.le_of_ble_eq_true rfl⟩) ⟨fun _ _ _ _ q => q, fun _ _ _ => ⟨rfl, trivial⟩⟩ rfl rfl hl.1 rfl (lv_room (Nat.le_of_ble_eq_true rfl)) dX1_look_7 ⟨Nat.le_of_ble_eq_true rfl, Nat.le_of_ble_eq_true rfl⟩) ?_
    refine lv_if_ne (tgt := 17) hx hb dX1_look_10 (by decide) (fun c_10 => ?_) (fun c_10 => ?_)
    · refine lv_iconst (v := nI 0) hx hb dX1_look_17 (by decide) ?_
      refine lv_iconst (v := nI 1) hx hb dX1_look_18 (by decide) ?_
      have hFc := va_free (wc := wM cA ad th st tp tl cb cy nc dn lf (bI o) ro) hD hS hA [0, 1, 2, 3, 4, 5] rfl
      refine va_calli (va_runV (As := [.int (nI 0), .int (nI 1)]) (rest := []) ⟨hx, hb, hml, hown, hts⟩ (c_X1_fails l dC dI cA ad H.size th st tp tl cb cy nc dn lf (bI o) ro (nI 0) (nI 1) rfl) (cwV 2 hts gX1_look_X1_fails rfl rfl rfl (by decide +kernel) ⟨Nat.le_of_ble_eq_true rfl, Nat.le_of_ble_eq_true rfl⟩) ⟨fun a U g mk q => by obtain ⟨q0, q1, qP, qK, qD⟩ := q; exact ⟨q0, q1, qP, va_K.moved (u := U) (U := U.calling g mk a) (Vm.Alike.refl U.vm) qK, qD⟩, va_recv hK hP (ci := 1) (q0 := 0) rfl rfl, fun U hU hW => ⟨rfl, by rw [hU], by rw [hU]; exact hP, va_K.moved hW.alike hK, hD.weaken (fun _ _ _ _ => trivial)⟩⟩ rfl rfl hl.1 rfl (lv_room (Nat.le_of_ble_eq_true rfl)) dX1_look_19 ⟨Nat.le_of_ble_eq_true rfl, Nat.le_of_ble_eq_true rfl⟩) hS (fun q _ h => hFc q h) hFc (fun r_19 u t H1 locs ht hvm hw hB hz1 hk1 hS => ?_)
      obtain ⟨hP1, hK1, hD1⟩ := hB
      obtain ⟨e_19, rfl⟩ := hw
      rw [ht] at hP1
      have hP : va_P (dC, dI) vwCl (wM cA ad (nI 0) st tp tl cb cy nc dn lf (bI o) ro) H1 := hP1
      have hD : va_D A (wM cA ad (nI 0) st tp tl cb cy nc dn lf (bI o) ro) := ⟨hD1.1, fun k q h => hFc _ (hD1.2 k q h)⟩
      generalize H1 = H at hP hS ⊢
      subst e_19
      refine lv_if_eq (tgt := 27) hx hb dX1_look_22 (by decide) (fun c_22 => ?_) (fun c_22 => ?_)
      · refine lv_iload_n hx hb dX1_look_27 rfl (lv_at hl 1 rfl) ?_
        by_cases e_0 : w = nI 0
        · refine lv_tableIn (off := 40) (tgt := 68) hx hb dX1_look_28 (by rw [e_0]; decide) (by rw [e_0]; decide) (by rw [e_0]; rfl) (by decide) ?_
          refine lv_aload_n hx hb dX1_look_68 rfl (lv_at hl 0 rfl) ?_
          refine lv_iconst (v := nI 0) hx hb dX1_look_69 (by decide) ?_
          refine lv_iconst (v := nI 4) hx hb dX1_look_70 (by decide) ?_
          refine bj_call (v := .long (nuF st 0 4 0)) (W.runV (As := [.int (nI 0), .int (nI 4)]) (rest := []) ⟨hx, hb, hml, hown, hts⟩ (c_X1_number l dC dI cA ad (nI 0) st tp tl cb cy nc dn lf (bI o) ro 0 4 (by decide) (by decide)) (cwV 2 hts gX1_look_X1_number rfl rfl rfl (by decide +kernel) ⟨Nat.le_of_ble_eq_true rfl, Nat.le_of_ble_eq_true rfl⟩) ⟨fun a U g mk q => by obtain ⟨q0, qP, qK⟩ := q; exact ⟨q0, qP, va_K.moved (u := U) (U := U.calling g mk a) (Vm.Alike.refl U.vm) qK⟩, va_recv hK hP (ci := 1) (q0 := 0) rfl rfl, fun U hU hW => ⟨rfl, by rw [hU]; exact hP, va_K.moved hW.alike hK⟩⟩ rfl rfl hl.1 rfl (lv_room (Nat.le_of_ble_eq_true rfl)) dX1_look_71 ⟨Nat.le_of_ble_eq_true rfl, Nat.le_of_ble_eq_true rfl⟩) ?_
          have hpost : ((nI 0, st, tp, tl, cb, cy, nc, dn, lf, bI o, ro) : MS) = (nI (mkK w), st, tp, tl, cb, cy, nc, dn, lf, bI o, ro) := by rw [show mkK w = 0 by rw [mkK, if_pos c_10]]
          have hres : nuF st 0 4 0 = mkR w st nc o lf dn := by rw [mkR, if_pos c_10, if_pos e_0]
          exact W.lret (v := nuF st 0 4 0) hx hb hr (fun t ht hW => ⟨⟨_, (nI 0, st, tp, tl, cb, cy, nc, dn, lf, bI o, ro), rfl, ⟨hres, hpost⟩, by rw [ht]; exact hP, va_K.moved hW.alike hK, hD⟩, hS.F ht⟩) hS.2.2 dX1_look_74
        · by_cases e_1 : w = nI 1
          · refine lv_tableIn (off := 47) (tgt := 75) hx hb dX1_look_28 (by rw [e_1]; decide) (by rw [e_1]; decide) (by rw [e_1]; rfl) (by decide) ?_
            refine lv_aload_n hx hb dX1_look_75 rfl (lv_at hl 0 rfl) ?_
            refine va_get (D := (dC, dI)) (ci := 1) (v := .ref (ad 1)) (C := RX1) (T := TX1) (N := 11) hx hb hts hin hown hK hP 0 rfl rfl 1 (by decide) (hts (.fieldLink RX1 7 "BlockJournalModel" "store" "[I") (by decide +kernel)) (fun _ h9 => h9) rfl dX1_look_76 ?_
            refine lv_iconst (v := nI 4) hx hb dX1_look_79 (by decide) ?_
            refine va_iald (D := (dC, dI)) hx hb hK hP 1 0 (cA := cA) (n := 6144) (f := st) rfl rfl (i := (nI 4)) (vp_in_nI (by omega) (by omega)) dX1_look_80 ?_
            refine bj_i (y := st 4) (congrArg st (nI_clamp (by omega))) ?_
            refine lv_i2l hx hb dX1_look_81 rfl ?_
            have hpost : ((nI 0, st, tp, tl, cb, cy, nc, dn, lf, bI o, ro) : MS) = (nI (mkK w), st, tp, tl, cb, cy, nc, dn, lf, bI o, ro) := by rw [show mkK w = 0 by rw [mkK, if_pos c_10]]
            have hres : (st 4).toInt64 = mkR w st nc o lf dn := by rw [mkR, if_pos c_10, if_neg e_0, if_pos e_1]
            exact W.lret (v := (st 4).toInt64) hx hb hr (fun t ht hW => ⟨⟨_, (nI 0, st, tp, tl, cb, cy, nc, dn, lf, bI o, ro), rfl, ⟨hres, hpost⟩, by rw [ht]; exact hP, va_K.moved hW.alike hK, hD⟩, hS.F ht⟩) hS.2.2 dX1_look_82
          · by_cases e_2 : w = nI 2
            · refine lv_tableIn (off := 55) (tgt := 83) hx hb dX1_look_28 (by rw [e_2]; decide) (by rw [e_2]; decide) (by rw [e_2]; rfl) (by decide) ?_
              refine lv_aload_n hx hb dX1_look_83 rfl (lv_at hl 0 rfl) ?_
              refine bj_call (v := .int (bI (mrF st))) (W.runV (As := []) (rest := []) ⟨hx, hb, hml, hown, hts⟩ (c_X1_isRight l dC dI cA ad (nI 0) st tp tl cb cy nc dn lf (bI o) ro) (cwV 0 hts gX1_look_X1_isRight rfl rfl rfl (by decide +kernel) ⟨Nat.le_of_ble_eq_true rfl, Nat.le_of_ble_eq_true rfl⟩) ⟨fun a U g mk q => by obtain ⟨q0, qP, qK⟩ := q; exact ⟨q0, qP, va_K.moved (u := U) (U := U.calling g mk a) (Vm.Alike.refl U.vm) qK⟩, va_recv hK hP (ci := 1) (q0 := 0) rfl rfl, fun U hU hW => ⟨rfl, by rw [hU]; exact hP, va_K.moved hW.alike hK⟩⟩ rfl rfl hl.1 rfl (lv_room (Nat.le_of_ble_eq_true rfl)) dX1_look_84 ⟨Nat.le_of_ble_eq_true rfl, Nat.le_of_ble_eq_true rfl⟩) ?_
              refine lv_if_eq (tgt := 94) hx hb dX1_look_87 (by decide) (fun c_87 => ?_) (fun c_87 => ?_)
              · refine lv_lconst (v := 0) hx hb dX1_look_94 (by decide) ?_
                have hpost : ((nI 0, st, tp, tl, cb, cy, nc, dn, lf, bI o, ro) : MS) = (nI (mkK w), st, tp, tl, cb, cy, nc, dn, lf, bI o, ro) := by rw [show mkK w = 0 by rw [mkK, if_pos c_10]]
                have hres : 0 = mkR w st nc o lf dn := by rw [mkR, if_pos c_10, if_neg e_0, if_neg e_1, if_pos e_2, if_pos c_87]
                exact W.lret (v := 0) hx hb hr (fun t ht hW => ⟨⟨_, (nI 0, st, tp, tl, cb, cy, nc, dn, lf, bI o, ro), rfl, ⟨hres, hpost⟩, by rw [ht]; exact hP, va_K.moved hW.alike hK, hD⟩, hS.F ht⟩) hS.2.2 dX1_look_95
              · refine lv_lconst (v := 1) hx hb dX1_look_90 (by decide) ?_
                refine lv_goto (tgt := 95) hx hb dX1_look_91 (by decide) ?_
                have hpost : ((nI 0, st, tp, tl, cb, cy, nc, dn, lf, bI o, ro) : MS) = (nI (mkK w), st, tp, tl, cb, cy, nc, dn, lf, bI o, ro) := by rw [show mkK w = 0 by rw [mkK, if_pos c_10]]
                have hres : 1 = mkR w st nc o lf dn := by rw [mkR, if_pos c_10, if_neg e_0, if_neg e_1, if_pos e_2, if_neg c_87]
                exact W.lret (v := 1) hx hb hr (fun t ht hW => ⟨⟨_, (nI 0, st, tp, tl, cb, cy, nc, dn, lf, bI o, ro), rfl, ⟨hres, hpost⟩, by rw [ht]; exact hP, va_K.moved hW.alike hK, hD⟩, hS.F ht⟩) hS.2.2 dX1_look_95
            · by_cases e_3 : w = nI 3
              · refine lv_tableIn (off := 68) (tgt := 96) hx hb dX1_look_28 (by rw [e_3]; decide) (by rw [e_3]; decide) (by rw [e_3]; rfl) (by decide) ?_
                refine lv_aload_n hx hb dX1_look_96 rfl (lv_at hl 0 rfl) ?_
                refine va_get (D := (dC, dI)) (ci := 1) (v := .int nc) (C := RX1) (T := TX1) (N := 11) hx hb hts hin hown hK hP 0 rfl rfl 6 (by decide) (hts (.fieldLink RX1 81 "BlockJournalModel" "changes" "I") (by decide +kernel)) (fun _ h9 => h9) rfl dX1_look_97 ?_
                refine lv_i2l hx hb dX1_look_100 rfl ?_
                have hpost : ((nI 0, st, tp, tl, cb, cy, nc, dn, lf, bI o, ro) : MS) = (nI (mkK w), st, tp, tl, cb, cy, nc, dn, lf, bI o, ro) := by rw [show mkK w = 0 by rw [mkK, if_pos c_10]]
                have hres : nc.toInt64 = mkR w st nc o lf dn := by rw [mkR, if_pos c_10, if_neg e_0, if_neg e_1, if_neg e_2, if_pos e_3]
                exact W.lret (v := nc.toInt64) hx hb hr (fun t ht hW => ⟨⟨_, (nI 0, st, tp, tl, cb, cy, nc, dn, lf, bI o, ro), rfl, ⟨hres, hpost⟩, by rw [ht]; exact hP, va_K.moved hW.alike hK, hD⟩, hS.F ht⟩) hS.2.2 dX1_look_101
              · by_cases e_4 : w = nI 4
                · refine lv_tableIn (off := 74) (tgt := 102) hx hb dX1_look_28 (by rw [e_4]; decide) (by rw [e_4]; decide) (by rw [e_4]; rfl) (by decide) ?_
                  refine lv_aload_n hx hb dX1_look_102 rfl (lv_at hl 0 rfl) ?_
                  refine va_get (D := (dC, dI)) (ci := 1) (v := .long dn) (C := RX1) (T := TX1) (N := 11) hx hb hts hin hown hK hP 0 rfl rfl 7 (by decide) (hts (.fieldLink RX1 39 "BlockJournalModel" "done" "J") (by decide +kernel)) (fun _ h9 => h9) rfl dX1_look_103 ?_
                  have hpost : ((nI 0, st, tp, tl, cb, cy, nc, dn, lf, bI o, ro) : MS) = (nI (mkK w), st, tp, tl, cb, cy, nc, dn, lf, bI o, ro) := by rw [show mkK w = 0 by rw [mkK, if_pos c_10]]
                  have hres : dn = mkR w st nc o lf dn := by rw [mkR, if_pos c_10, if_neg e_0, if_neg e_1, if_neg e_2, if_neg e_3, if_pos e_4]
                  exact W.lret (v := dn) hx hb hr (fun t ht hW => ⟨⟨_, (nI 0, st, tp, tl, cb, cy, nc, dn, lf, bI o, ro), rfl, ⟨hres, hpost⟩, by rw [ht]; exact hP, va_K.moved hW.alike hK, hD⟩, hS.F ht⟩) hS.2.2 dX1_look_106
                · by_cases e_5 : w = nI 5
                  · refine lv_tableIn (off := 79) (tgt := 107) hx hb dX1_look_28 (by rw [e_5]; decide) (by rw [e_5]; decide) (by rw [e_5]; rfl) (by decide) ?_
                    refine lv_aload_n hx hb dX1_look_107 rfl (lv_at hl 0 rfl) ?_
                    refine va_get (D := (dC, dI)) (ci := 1) (v := .int (bI o)) (C := RX1) (T := TX1) (N := 11) hx hb hts hin hown hK hP 0 rfl rfl 9 (by decide) (hts (.fieldLink RX1 35 "BlockJournalModel" "off" "Z") (by decide +kernel)) (fun _ h9 => h9) rfl dX1_look_108 ?_
                    refine lv_if_eq (tgt := 118) hx hb dX1_look_111 (by decide) (fun c_111 => ?_) (fun c_111 => ?_)
                    · refine lv_lconst (v := 0) hx hb dX1_look_118 (by decide) ?_
                      have hpost : ((nI 0, st, tp, tl, cb, cy, nc, dn, lf, bI o, ro) : MS) = (nI (mkK w), st, tp, tl, cb, cy, nc, dn, lf, bI o, ro) := by rw [show mkK w = 0 by rw [mkK, if_pos c_10]]
                      have hres : 0 = mkR w st nc o lf dn := by rw [mkR, if_pos c_10, if_neg e_0, if_neg e_1, if_neg e_2, if_neg e_3, if_neg e_4, if_pos e_5, if_pos c_111]
                      exact W.lret (v := 0) hx hb hr (fun t ht hW => ⟨⟨_, (nI 0, st, tp, tl, cb, cy, nc, dn, lf, bI o, ro), rfl, ⟨hres, hpost⟩, by rw [ht]; exact hP, va_K.moved hW.alike hK, hD⟩, hS.F ht⟩) hS.2.2 dX1_look_119
                    · refine lv_lconst (v := 1) hx hb dX1_look_114 (by decide) ?_
                      refine lv_goto (tgt := 119) hx hb dX1_look_115 (by decide) ?_
                      have hpost : ((nI 0, st, tp, tl, cb, cy, nc, dn, lf, bI o, ro) : MS) = (nI (mkK w), st, tp, tl, cb, cy, nc, dn, lf, bI o, ro) := by rw [show mkK w = 0 by rw [mkK, if_pos c_10]]
                      have hres : 1 = mkR w st nc o lf dn := by rw [mkR, if_pos c_10, if_neg e_0, if_neg e_1, if_neg e_2, if_neg e_3, if_neg e_4, if_pos e_5, if_neg c_111]
                      exact W.lret (v := 1) hx hb hr (fun t ht hW => ⟨⟨_, (nI 0, st, tp, tl, cb, cy, nc, dn, lf, bI o, ro), rfl, ⟨hres, hpost⟩, by rw [ht]; exact hP, va_K.moved hW.alike hK, hD⟩, hS.F ht⟩) hS.2.2 dX1_look_119
                  · have hsw : ∀ v, v ≤ 5 → ¬ w = nI v := by
                      intro v hv
                      match v, hv with
                      | 0, _ => exact e_0
                      | 1, _ => exact e_1
                      | 2, _ => exact e_2
                      | 3, _ => exact e_3
                      | 4, _ => exact e_4
                      | 5, _ => exact e_5
                      | _ + 6, hv => exact absurd hv (by omega)
                    refine lv_tableOut (tgt := 120) hx hb dX1_look_28 (sw_out (by decide) hsw) (by decide) ?_
                    refine lv_aload_n hx hb dX1_look_120 rfl (lv_at hl 0 rfl) ?_
                    refine va_get (D := (dC, dI)) (ci := 1) (v := .int (bI o)) (C := RX1) (T := TX1) (N := 11) hx hb hts hin hown hK hP 0 rfl rfl 9 (by decide) (hts (.fieldLink RX1 35 "BlockJournalModel" "off" "Z") (by decide +kernel)) (fun _ h9 => h9) rfl dX1_look_121 ?_
                    refine lv_if_eq (tgt := 131) hx hb dX1_look_124 (by decide) (fun c_124 => ?_) (fun c_124 => ?_)
                    · refine lv_aload_n hx hb dX1_look_131 rfl (lv_at hl 0 rfl) ?_
                      refine va_get (D := (dC, dI)) (ci := 1) (v := .long lf) (C := RX1) (T := TX1) (N := 11) hx hb hts hin hown hK hP 0 rfl rfl 8 (by decide) (hts (.fieldLink RX1 24 "BlockJournalModel" "left" "J") (by decide +kernel)) (fun _ h9 => h9) rfl dX1_look_132 ?_
                      have hpost : ((nI 0, st, tp, tl, cb, cy, nc, dn, lf, bI o, ro) : MS) = (nI (mkK w), st, tp, tl, cb, cy, nc, dn, lf, bI o, ro) := by rw [show mkK w = 0 by rw [mkK, if_pos c_10]]
                      have hres : lf = mkR w st nc o lf dn := by rw [mkR, if_pos c_10, if_neg e_0, if_neg e_1, if_neg e_2, if_neg e_3, if_neg e_4, if_neg e_5, if_pos c_124]
                      exact W.lret (v := lf) hx hb hr (fun t ht hW => ⟨⟨_, (nI 0, st, tp, tl, cb, cy, nc, dn, lf, bI o, ro), rfl, ⟨hres, hpost⟩, by rw [ht]; exact hP, va_K.moved hW.alike hK, hD⟩, hS.F ht⟩) hS.2.2 dX1_look_135
                    · refine lv_lconst (v := 0) hx hb dX1_look_127 (by decide) ?_
                      refine lv_goto (tgt := 135) hx hb dX1_look_128 (by decide) ?_
                      have hpost : ((nI 0, st, tp, tl, cb, cy, nc, dn, lf, bI o, ro) : MS) = (nI (mkK w), st, tp, tl, cb, cy, nc, dn, lf, bI o, ro) := by rw [show mkK w = 0 by rw [mkK, if_pos c_10]]
                      have hres : 0 = mkR w st nc o lf dn := by rw [mkR, if_pos c_10, if_neg e_0, if_neg e_1, if_neg e_2, if_neg e_3, if_neg e_4, if_neg e_5, if_neg c_124]
                      exact W.lret (v := 0) hx hb hr (fun t ht hW => ⟨⟨_, (nI 0, st, tp, tl, cb, cy, nc, dn, lf, bI o, ro), rfl, ⟨hres, hpost⟩, by rw [ht]; exact hP, va_K.moved hW.alike hK, hD⟩, hS.F ht⟩) hS.2.2 dX1_look_135
      · exact absurd (by decide) c_22
    · refine lv_iconst (v := nI 1) hx hb dX1_look_13 (by decide) ?_
      refine lv_goto (tgt := 18) hx hb dX1_look_14 (by decide) ?_
      refine lv_iconst (v := nI 1) hx hb dX1_look_18 (by decide) ?_
      have hFc := va_free (wc := wM cA ad th st tp tl cb cy nc dn lf (bI o) ro) hD hS hA [0, 1, 2, 3, 4, 5] rfl
      refine va_calli (va_runV (As := [.int (nI 1), .int (nI 1)]) (rest := []) ⟨hx, hb, hml, hown, hts⟩ (c_X1_fails l dC dI cA ad H.size th st tp tl cb cy nc dn lf (bI o) ro (nI 1) (nI 1) rfl) (cwV 2 hts gX1_look_X1_fails rfl rfl rfl (by decide +kernel) ⟨Nat.le_of_ble_eq_true rfl, Nat.le_of_ble_eq_true rfl⟩) ⟨fun a U g mk q => by obtain ⟨q0, q1, qP, qK, qD⟩ := q; exact ⟨q0, q1, qP, va_K.moved (u := U) (U := U.calling g mk a) (Vm.Alike.refl U.vm) qK, qD⟩, va_recv hK hP (ci := 1) (q0 := 0) rfl rfl, fun U hU hW => ⟨rfl, by rw [hU], by rw [hU]; exact hP, va_K.moved hW.alike hK, hD.weaken (fun _ _ _ _ => trivial)⟩⟩ rfl rfl hl.1 rfl (lv_room (Nat.le_of_ble_eq_true rfl)) dX1_look_19 ⟨Nat.le_of_ble_eq_true rfl, Nat.le_of_ble_eq_true rfl⟩) hS (fun q _ h => hFc q h) hFc (fun r_19 u t H1 locs ht hvm hw hB hz1 hk1 hS => ?_)
      obtain ⟨hP1, hK1, hD1⟩ := hB
      obtain ⟨e_19, rfl⟩ := hw
      rw [ht] at hP1
      have hP : va_P (dC, dI) vwCl (wM cA ad (nI 1) st tp tl cb cy nc dn lf (bI o) ro) H1 := hP1
      have hD : va_D A (wM cA ad (nI 1) st tp tl cb cy nc dn lf (bI o) ro) := ⟨hD1.1, fun k q h => hFc _ (hD1.2 k q h)⟩
      generalize H1 = H at hP hS ⊢
      subst e_19
      refine lv_if_eq (tgt := 27) hx hb dX1_look_22 (by decide) (fun c_22 => ?_) (fun c_22 => ?_)
      · exact absurd c_22 (by decide)
      · refine lv_lconst (v := 0) hx hb dX1_look_25 (by decide) ?_
        have hpost : ((nI 1, st, tp, tl, cb, cy, nc, dn, lf, bI o, ro) : MS) = (nI (mkK w), st, tp, tl, cb, cy, nc, dn, lf, bI o, ro) := by rw [show mkK w = 1 by rw [mkK, if_neg (not_not_intro c_10)]]
        have hres : 0 = mkR w st nc o lf dn := by rw [mkR, if_neg (not_not_intro c_10)]
        exact W.lret (v := 0) hx hb hr (fun t ht hW => ⟨⟨_, (nI 1, st, tp, tl, cb, cy, nc, dn, lf, bI o, ro), rfl, ⟨hres, hpost⟩, by rw [ht]; exact hP, va_K.moved hW.alike hK, hD⟩, hS.F ht⟩) hS.2.2 dX1_look_26
  rw [hH, hlo] at goal
  exact goal

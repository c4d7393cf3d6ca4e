/-- 64 bytes of the fresh rows into the row -/
def cpR (cy ro : Nat → Int32) (x : Nat) : Nat → Nat → Int32
  | 0 => ro
  | k + 1 => upd (cpR cy ro x k) k (cy (64 * x + k))
/-- the row of write i of a commit, and its block -/
def crF (st ro cb cy : Nat → Int32) (pi : Nat → Nat) (n i : Nat) (q : Int64) : Nat → Int32 := if i = n then hdF st ro cb pi n q else if ¬ i = 2 * n + 1 then cpR cy ro (pi (if n ≤ i then i - n - 1 else i)) 64 else hdF st ro cb pi 0 (q + 1)
def crB (cb : Nat → Int32) (pi : Nat → Nat) (n i : Nat) : Nat := if i = n then 0 else if ¬ i = 2 * n + 1 then (if n ≤ i then (cb (pi (i - n - 1))).toNatClampNeg else 1 + i) else 0
abbrev M5 : Type := (Nat → Int32) × (Nat → Int32) × Int32 × Int64 × Int64
def m5 (ro : Nat → Int32) (b : Nat) (u : M5) : M5 := (ro, mwS ro u.2.1 u.2.2.1 u.2.2.2.1 b, mwO u.2.2.1 u.2.2.2.1, mwL u.2.2.1 u.2.2.2.1, mwD u.2.2.1 u.2.2.2.1 u.2.2.2.2)
/-- writes i, i + 1 .. of a commit, until one is not done -/
def mcL (cb cy : Nat → Int32) (pi : Nat → Nat) (n : Nat) (q : Int64) : Nat → Nat → Int32 → M5 → M5 × Int32
  | 0, _, g, u => (u, g)
  | k + 1, i, g, u => if g = 0 then (u, g) else mcL cb cy pi n q k (i + 1) (bI (mwB u.2.2.1 u.2.2.2.1)) (m5 (crF u.2.1 u.1 cb cy pi n i q) (crB cb pi n i) u)

set_option maxHeartbeats 4000000 in
set_option maxRecDepth 100000 in
theorem c_X1_commits (l : Launch) (dC : Nat → ClassId) (dI : Nat → Nat → Nat) (cA : ClassId) (ad : Nat → Nat) (sz : Nat) (th : Int32) (st tp : Nat → Int32) (tl : Int32) (cb cy : Nat → Int32) (dn lf : Int64) (of : Int32) (ro : Nat → Int32) (n : Nat) (i : Nat) (q : Int64) (pi : Nat → Nat) (hn : n ≤ 24) (hi : i ≤ 2 * n + 1) (hpi : ∀ j, j < n → pi j < 24 ∧ raF cb n j n 0 = nI (pi j)) (hcb : ∀ j, j < n → ∃ b : Nat, b < 96 ∧ cb (pi j) = nI b) : Met l yX1_commits wsX1_commits ({ frames := 2, cells := 0, slots := 0, locals := 54 } : Room) (va_Pc [.ref (ad 0), .int (nI i), .int (nI n), .long q] (fun U => U.heap.size = sz ∧ va_P (dC, dI) vwCl (wM cA ad th st tp tl cb cy (nI n) dn lf of ro) U.heap ∧ va_K (dC, dI) vwCl [(cA, .int)] U ∧ va_D (fun _ => True) (wM cA ad th st tp tl cb cy (nI n) dn lf of ro))) (va_Qi (fun (r : Int32) (u : MS) => r = bI (mwB of lf) ∧ u = (th, mwS (crF st ro cb cy pi n i q) st of lf (crB cb pi n i), tp, tl, cb, cy, nI n, mwD of lf dn, mwL of lf, mwO of lf, crF st ro cb cy pi n i q)) (aM dC dI cA ad (va_A (wM cA ad th st tp tl cb cy (nI n) dn lf of ro) sz)) (va_A (wM cA ad th st tp tl cb cy (nI n) dn lf of ro) sz)) 0 0 (va_A (wM cA ad th st tp tl cb cy (nI n) dn lf of ro) sz) := by
  refine Met.ofW (cc := cX1_commits) (maxL := 7) (ret := (some .boolean)) (by decide) rfl ?_
  intro p e s m args below meth c s₁ B hml hv
  obtain ⟨rfl, hsz, hP, hK, hD0⟩ := hv
  have hx := B.exec
  have hb := B.bytes
  have hr := B.returns
  have hts := atoms_spec (ws := wsX1_commits) B.pre
  have hown : s.vm.findClass RX1 = some m.cls := findClass_of_methodNamed B.named
  have hlocks := B.notSynchronized
  have hin : ∀ w ∈ u_ws RX1 TX1 11, w ∈ wsX1_commits := by decide +kernel
  subst hsz
  have hD := hD0.self (sz := s.heap.size)
  generalize hAe : va_A (wM cA ad th st tp tl cb cy (nI n) dn lf of ro) s.heap.size = A at hD ⊢
  have hA : ∀ q : Nat, s.heap.size ≤ q → A q := fun q h => by rw [← hAe]; exact Or.inr h
  obtain ⟨H, locs, hH, hlo, hS⟩ : ∃ (H : Heap) (locs : List Loc), H = s.heap ∧ locs = [] ∧ va_S A s.heap H locs := ⟨s.heap, [], rfl, rfl, va_S.rf⟩
  rw [← hH] at hP
  have hP : va_P (dC, dI) vwCl (wM cA ad th st tp tl cb cy (nI n) dn lf of ro) H := hP
  have hl := lv_entry ([.ref (ad 0), .int (nI i), .int (nI n), .long q]) (n := 7) (Nat.le_of_ble_eq_true rfl)
  rw [lg_entry_eq]
  generalize (lg_sl ([.ref (ad 0), .int (nI i), .int (nI n), .long q]) ++ List.replicate (7 - (lg_sl ([.ref (ad 0), .int (nI i), .int (nI n), .long q])).length) Slot.unset).toArray = ls at hl ⊢
  have goal : W p l e (headSpec wsX1_commits ({ frames := 2, cells := 0, slots := 0, locals := 54 } : Room)).room s m ([.ref (ad 0), .int (nI i), .int (nI n), .long q] : List Value).toArray below meth c H locs 0 0 (MQ below (va_Qi (fun (r : Int32) (u : MS) => r = bI (mwB of lf) ∧ u = (th, mwS (crF st ro cb cy pi n i q) st of lf (crB cb pi n i), tp, tl, cb, cy, nI n, mwD of lf dn, mwL of lf, mwO of lf, crF st ro cb cy pi n i q)) (aM dC dI cA ad A) A) ([.ref (ad 0), .int (nI i), .int (nI n), .long q] : List Value).toArray s 0 0 A) (F0 m 0 ls []) := by
    clear hH hlo
    have hl : lv_has ls 7 [(0, .ref (ad 0)), (1, .int (nI i)), (2, .int (nI n)), (3, .long q)] := hl
    refine lv_iload_n hx hb dX1_commits_0 rfl (lv_at hl 1 rfl) ?_
    refine lv_iload_n hx hb dX1_commits_1 rfl (lv_at hl 2 rfl) ?_
    refine lv_icmp_eq (tgt := 14) hx hb dX1_commits_2 (by decide) (fun c_2 => ?_) (fun c_2 => ?_)
    · have n_2 : i = n := (nI_eq (by omega) (by omega)).mp c_2
      refine lv_aload_n hx hb dX1_commits_14 rfl (lv_at hl 0 rfl) ?_
      refine lv_iload_n hx hb dX1_commits_15 rfl (lv_at hl 1 rfl) ?_
      refine lv_iload_n hx hb dX1_commits_16 rfl (lv_at hl 2 rfl) ?_
      refine lv_icmp_ne (tgt := 24) hx hb dX1_commits_17 (by decide) (fun c_17 => ?_) (fun c_17 => ?_)
      · have n_17 : ¬ i = n := fun h => c_17 ((nI_eq (by omega) (by omega)).mpr h)
        exfalso; omega
      · have n_17 : i = n := (nI_eq (by omega) (by omega)).mp c_17
        refine lv_lload_n hx hb dX1_commits_20 rfl (lv_at hl 3 rfl) ?_
        refine lv_goto (tgt := 27) hx hb dX1_commits_21 (by decide) ?_
        refine lv_iload_n hx hb dX1_commits_27 rfl (lv_at hl 1 rfl) ?_
        refine lv_iload_n hx hb dX1_commits_28 rfl (lv_at hl 2 rfl) ?_
        refine lv_icmp_ne (tgt := 36) hx hb dX1_commits_29 (by decide) (fun c_29 => ?_) (fun c_29 => ?_)
        · have n_29 : ¬ i = n := fun h => c_29 ((nI_eq (by omega) (by omega)).mpr h)
          exfalso; omega
        · have n_29 : i = n := (nI_eq (by omega) (by omega)).mp c_29
          refine lv_iload_n hx hb dX1_commits_32 rfl (lv_at hl 2 rfl) ?_
          refine lv_goto (tgt := 37) hx hb dX1_commits_33 (by decide) ?_
          have hFc := va_free (wc := wM cA ad th st tp tl cb cy (nI n) dn lf of ro) hD hS hA [0, 1, 2, 3, 4, 5] rfl
          refine va_callv (va_runV (As := [.long q, .int (nI n)]) (rest := []) ⟨hx, hb, hml, hown, hts⟩ (c_X1_headed l dC dI cA ad H.size th st tp tl cb cy dn lf of ro n n q pi hn (by omega) hpi) (cwV 2 hts gX1_commits_X1_headed rfl rfl rfl (by decide +kernel) ⟨Nat.le_of_ble_eq_true rfl, Nat.le_of_ble_eq_true rfl⟩) ⟨fun a U g mk q => by obtain ⟨q0, q1, qP, qK, qD⟩ := q; exact ⟨q0, q1, qP, va_K.moved (u := U) (U := U.calling g mk a) (Vm.Alike.refl U.vm) qK, qD⟩, va_recv hK hP (ci := 1) (q0 := 0) rfl rfl, fun U hU hW => ⟨rfl, by rw [hU], by rw [hU]; exact hP, va_K.moved hW.alike hK, hD.weaken (fun _ _ _ _ => trivial)⟩⟩ rfl rfl hl.1 rfl (lv_room (Nat.le_of_ble_eq_true rfl)) dX1_commits_37 ⟨Nat.le_of_ble_eq_true rfl, Nat.le_of_ble_eq_true rfl⟩) hS (fun q _ h => hFc q h) hFc (fun u t H1 locs ht hvm hw hB hz1 hk1 hS => ?_)
          obtain ⟨hP1, hK1, hD1⟩ := hB
          subst hw
          rw [ht] at hP1
          have hP : va_P (dC, dI) vwCl (wM cA ad th st tp tl cb cy (nI n) dn lf of (hdF st ro cb pi n q)) H1 := hP1
          have hD : va_D A (wM cA ad th st tp tl cb cy (nI n) dn lf of (hdF st ro cb pi n q)) := ⟨hD1.1, fun k q h => hFc _ (hD1.2 k q h)⟩
          generalize H1 = H at hP hS ⊢
          refine lv_aload_n hx hb dX1_commits_40 rfl (lv_at hl 0 rfl) ?_
          refine lv_iconst (v := nI 0) hx hb dX1_commits_41 (by decide) ?_
          have hFc := va_free (wc := wM cA ad th st tp tl cb cy (nI n) dn lf of (hdF st ro cb pi n q)) hD hS hA [0, 1, 2, 3, 4, 5] rfl
          refine va_calli (va_runV (As := [.int (nI 0)]) (rest := []) ⟨hx, hb, hml, hown, hts⟩ (c_X1_writes l dC dI cA ad H.size th st tp tl cb cy (nI n) dn lf of (hdF st ro cb pi n q) 0 (by decide)) (cwV 1 hts gX1_commits_X1_writes rfl rfl rfl (by decide +kernel) ⟨Nat.le_of_ble_eq_true rfl, Nat.le_of_ble_eq_true rfl⟩) ⟨fun a U g mk q => by obtain ⟨q0, q1, qP, qK, qD⟩ := q; exact ⟨q0, q1, qP, va_K.moved (u := U) (U := U.calling g mk a) (Vm.Alike.refl U.vm) qK, qD⟩, va_recv hK hP (ci := 1) (q0 := 0) rfl rfl, fun U hU hW => ⟨rfl, by rw [hU], by rw [hU]; exact hP, va_K.moved hW.alike hK, hD.weaken (fun _ _ _ _ => trivial)⟩⟩ rfl rfl hl.1 rfl (lv_room (Nat.le_of_ble_eq_true rfl)) dX1_commits_42 ⟨Nat.le_of_ble_eq_true rfl, Nat.le_of_ble_eq_true rfl⟩) hS (fun q _ h => hFc q h) hFc (fun r_42 u t H1 locs ht hvm hw hB hz1 hk1 hS => ?_)
          obtain ⟨hP1, hK1, hD1⟩ := hB
          obtain ⟨e_42, rfl⟩ := hw
          rw [ht] at hP1
          have hP : va_P (dC, dI) vwCl (wM cA ad th (mwS (hdF st ro cb pi n q) st of lf 0) tp tl cb cy (nI n) (mwD of lf dn) (mwL of lf) (mwO of lf) (hdF st ro cb pi n q)) H1 := hP1
          have hD : va_D A (wM cA ad th (mwS (hdF st ro cb pi n q) st of lf 0) tp tl cb cy (nI n) (mwD of lf dn) (mwL of lf) (mwO of lf) (hdF st ro cb pi n q)) := ⟨hD1.1, fun k q h => hFc _ (hD1.2 k q h)⟩
          generalize H1 = H at hP hS ⊢
          subst e_42
          have hpost : ((th, mwS (hdF st ro cb pi n q) st of lf 0, tp, tl, cb, cy, nI n, mwD of lf dn, mwL of lf, mwO of lf, hdF st ro cb pi n q) : MS) = (th, mwS (crF st ro cb cy pi n i q) st of lf (crB cb pi n i), tp, tl, cb, cy, nI n, mwD of lf dn, mwL of lf, mwO of lf, crF st ro cb cy pi n i q) := by simp only [crF, crB, if_pos n_2]
          have hres : bI (mwB of lf) = bI (mwB of lf) := rfl
          exact W.zret (v := bI (mwB of lf)) (ty := .boolean) hx hb hr (bI_n _) (fun t ht hW => ⟨⟨_, (th, mwS (hdF st ro cb pi n q) st of lf 0, tp, tl, cb, cy, nI n, mwD of lf dn, mwL of lf, mwO of lf, hdF st ro cb pi n q), rfl, ⟨hres, hpost⟩, by rw [ht]; exact hP, va_K.moved hW.alike hK, hD⟩, hS.F ht⟩) hS.2.2 dX1_commits_45
    · have n_2 : ¬ i = n := fun h => c_2 ((nI_eq (by omega) (by omega)).mpr h)
      refine lv_iload_n hx hb dX1_commits_5 rfl (lv_at hl 1 rfl) ?_
      refine lv_iconst (v := nI 2) hx hb dX1_commits_6 (by decide) ?_
      refine lv_iload_n hx hb dX1_commits_7 rfl (lv_at hl 2 rfl) ?_
      refine lv_imul hx hb dX1_commits_8 ?_
      refine bj_i (pk_mul 2 n) ?_
      refine lv_iconst (v := nI 1) hx hb dX1_commits_9 (by decide) ?_
      refine lv_iadd hx hb dX1_commits_10 ?_
      refine bj_i (nI_add (2 * n) 1) ?_
      refine lv_icmp_ne (tgt := 46) hx hb dX1_commits_11 (by decide) (fun c_11 => ?_) (fun c_11 => ?_)
      · have n_11 : ¬ i = ((2 * n) + 1) := fun h => c_11 ((nI_eq (by omega) (by omega)).mpr h)
        refine lv_aload_n hx hb dX1_commits_46 rfl (lv_at hl 0 rfl) ?_
        refine lv_iload_n hx hb dX1_commits_47 rfl (lv_at hl 1 rfl) ?_
        refine lv_iload_n hx hb dX1_commits_48 rfl (lv_at hl 2 rfl) ?_
        refine lv_icmp_ge (tgt := 56) hx hb dX1_commits_49 (by decide) (fun c_49 => ?_) (fun c_49 => ?_)
        · have n_49 : n ≤ i := (nI_leI (by omega) (by omega)).mp c_49
          refine lv_iload_n hx hb dX1_commits_56 rfl (lv_at hl 1 rfl) ?_
          refine lv_iload_n hx hb dX1_commits_57 rfl (lv_at hl 2 rfl) ?_
          refine lv_isub hx hb dX1_commits_58 ?_
          refine bj_i (pk_sub (a := i) (b := n) (by omega)) ?_
          refine lv_iconst (v := nI 1) hx hb dX1_commits_59 (by decide) ?_
          refine lv_isub hx hb dX1_commits_60 ?_
          refine bj_i (pk_sub (a := i - n) (b := 1) (by omega)) ?_
          refine bj_call (v := .int (raF cb n (i - n - 1) n 0)) (W.runV (As := [.int (nI ((i - n) - 1))]) (rest := []) ⟨hx, hb, hml, hown, hts⟩ (c_X1_ranked l dC dI cA ad th st tp tl cb cy dn lf of ro n (i - n - 1) (by omega) (by omega)) (cwV 1 hts gX1_commits_X1_ranked rfl rfl rfl (by decide +kernel) ⟨Nat.le_of_ble_eq_true rfl, Nat.le_of_ble_eq_true rfl⟩) ⟨fun a U g mk q => by obtain ⟨q0, qP, qK⟩ := q; exact ⟨q0, qP, va_K.moved (u := U) (U := U.calling g mk a) (Vm.Alike.refl U.vm) qK⟩, va_recv hK hP (ci := 1) (q0 := 0) rfl rfl, fun U hU hW => ⟨rfl, by rw [hU]; exact hP, va_K.moved hW.alike hK⟩⟩ rfl rfl hl.1 rfl (lv_room (Nat.le_of_ble_eq_true rfl)) dX1_commits_61 ⟨Nat.le_of_ble_eq_true rfl, Nat.le_of_ble_eq_true rfl⟩) ?_
          obtain ⟨hp9, ep9⟩ := hpi (i - n - 1) (by omega)
          refine bj_i (y := nI (pi (i - n - 1))) (ep9) ?_
          refine lv_istore (lv' := [(5, .int (nI (pi (i - n - 1)))), (0, .ref (ad 0)), (1, .int (nI i)), (2, .int (nI n)), (3, .long q)]) hx hb dX1_commits_64 hl (by decide) rfl (fun ls hl => ?_)
          refine lv_iconst (v := nI 0) hx hb dX1_commits_66 (by decide) ?_
          refine lv_istore (lv' := [(6, .int (nI 0)), (5, .int (nI (pi (i - n - 1)))), (0, .ref (ad 0)), (1, .int (nI i)), (2, .int (nI n)), (3, .long q)]) hx hb dX1_commits_67 hl (by decide) rfl (fun ls hl => ?_)
          have loop_69 : ∀ (k : Nat) (k9 : Nat), k9 + k = 64 → ∀ (H : Heap) (locs : List Loc) (ls : Array Slot), va_P (dC, dI) vwCl (wM cA ad th st tp tl cb cy (nI n) dn lf of (cpR cy ro (pi (i - n - 1)) k9)) H → va_D A (wM cA ad th st tp tl cb cy (nI n) dn lf of (cpR cy ro (pi (i - n - 1)) k9)) → va_S A s.heap H locs → lv_has ls 7 [(0, .ref (ad 0)), (1, .int (nI i)), (2, .int (nI n)), (3, .long q), (5, .int (nI (pi (i - n - 1)))), (6, .int (nI k9))] → W p l e (headSpec wsX1_commits ({ frames := 2, cells := 0, slots := 0, locals := 54 } : Room)).room s m ([.ref (ad 0), .int (nI i), .int (nI n), .long q] : List Value).toArray below meth c H locs 0 0 (MQ below (va_Qi (fun (r : Int32) (u : MS) => r = bI (mwB of lf) ∧ u = (th, mwS (crF st ro cb cy pi n i q) st of lf (crB cb pi n i), tp, tl, cb, cy, nI n, mwD of lf dn, mwL of lf, mwO of lf, crF st ro cb cy pi n i q)) (aM dC dI cA ad A) A) ([.ref (ad 0), .int (nI i), .int (nI n), .long q] : List Value).toArray s 0 0 A) (F0 m 69 ls []) := by
            intro k
            induction k with
            | zero =>
              intro k9 hk H locs ls hP hD hS hl
              refine lv_iload hx hb dX1_commits_69 (lv_at hl 5 rfl) ?_
              refine lv_bipush (v := nI 64) hx hb dX1_commits_71 (by decide) ?_
              refine lv_icmp_ge (tgt := 102) hx hb dX1_commits_73 (by decide) (fun c_73 => ?_) (fun c_73 => ?_)
              · have n_73 : 64 ≤ k9 := (nI_leI (by omega) (by omega)).mp c_73
                have ek : k9 = 64 := by omega
                rw [ek] at hP hD
                refine lv_aload_n hx hb dX1_commits_102 rfl (lv_at hl 0 rfl) ?_
                refine lv_iload_n hx hb dX1_commits_103 rfl (lv_at hl 1 rfl) ?_
                refine lv_iload_n hx hb dX1_commits_104 rfl (lv_at hl 2 rfl) ?_
                refine lv_icmp_ge (tgt := 114) hx hb dX1_commits_105 (by decide) (fun c_105 => ?_) (fun c_105 => ?_)
                · have n_105 : n ≤ i := (nI_leI (by omega) (by omega)).mp c_105
                  refine lv_aload_n hx hb dX1_commits_114 rfl (lv_at hl 0 rfl) ?_
                  refine va_get (D := (dC, dI)) (ci := 1) (v := .ref (ad 3)) (C := RX1) (T := TX1) (N := 11) hx hb hts hin hown hK hP 0 rfl rfl 4 (by decide) (hts (.fieldLink RX1 16 "BlockJournalModel" "change" "[I") (by decide +kernel)) (fun _ h9 => h9) rfl dX1_commits_115 ?_
                  refine lv_iload hx hb dX1_commits_118 (lv_at hl 4 rfl) ?_
                  refine va_iald (D := (dC, dI)) hx hb hK hP 3 0 (cA := cA) (n := 24) (f := cb) rfl rfl (i := (nI (pi (i - n - 1)))) (vp_in_nI (by omega) (by omega)) dX1_commits_120 ?_
                  refine bj_i (y := cb (pi (i - n - 1))) (congrArg cb (nI_clamp (by omega))) ?_
                  obtain ⟨b, hb9, eb⟩ := hcb (i - n - 1) (by omega)
                  have ecl : (cb (pi (i - n - 1))).toNatClampNeg = b := by rw [eb]; exact nI_clamp (by omega)
                  refine bj_i (y := nI b) (eb) ?_
                  have hFc := va_free (wc := wM cA ad th st tp tl cb cy (nI n) dn lf of (cpR cy ro (pi (i - n - 1)) 64)) hD hS hA [0, 1, 2, 3, 4, 5] rfl
                  refine va_calli (va_runV (As := [.int (nI b)]) (rest := []) ⟨hx, hb, hml, hown, hts⟩ (c_X1_writes l dC dI cA ad H.size th st tp tl cb cy (nI n) dn lf of (cpR cy ro (pi (i - n - 1)) 64) b (by omega)) (cwV 1 hts gX1_commits_X1_writes rfl rfl rfl (by decide +kernel) ⟨Nat.le_of_ble_eq_true rfl, Nat.le_of_ble_eq_true rfl⟩) ⟨fun a U g mk q => by obtain ⟨q0, q1, qP, qK, qD⟩ := q; exact ⟨q0, q1, qP, va_K.moved (u := U) (U := U.calling g mk a) (Vm.Alike.refl U.vm) qK, qD⟩, va_recv hK hP (ci := 1) (q0 := 0) rfl rfl, fun U hU hW => ⟨rfl, by rw [hU], by rw [hU]; exact hP, va_K.moved hW.alike hK, hD.weaken (fun _ _ _ _ => trivial)⟩⟩ rfl rfl hl.1 rfl (lv_room (Nat.le_of_ble_eq_true rfl)) dX1_commits_121 ⟨Nat.le_of_ble_eq_true rfl, Nat.le_of_ble_eq_true rfl⟩) hS (fun q _ h => hFc q h) hFc (fun r_121 u t H1 locs ht hvm hw hB hz1 hk1 hS => ?_)
                  obtain ⟨hP1, hK1, hD1⟩ := hB
                  obtain ⟨e_121, rfl⟩ := hw
                  rw [ht] at hP1
                  have hP : va_P (dC, dI) vwCl (wM cA ad th (mwS (cpR cy ro (pi (i - n - 1)) 64) st of lf b) tp tl cb cy (nI n) (mwD of lf dn) (mwL of lf) (mwO of lf) (cpR cy ro (pi (i - n - 1)) 64)) H1 := hP1
                  have hD : va_D A (wM cA ad th (mwS (cpR cy ro (pi (i - n - 1)) 64) st of lf b) tp tl cb cy (nI n) (mwD of lf dn) (mwL of lf) (mwO of lf) (cpR cy ro (pi (i - n - 1)) 64)) := ⟨hD1.1, fun k q h => hFc _ (hD1.2 k q h)⟩
                  generalize H1 = H at hP hS ⊢
                  subst e_121
                  have hpost : ((th, mwS (cpR cy ro (pi (i - n - 1)) 64) st of lf b, tp, tl, cb, cy, nI n, mwD of lf dn, mwL of lf, mwO of lf, cpR cy ro (pi (i - n - 1)) 64) : MS) = (th, mwS (crF st ro cb cy pi n i q) st of lf (crB cb pi n i), tp, tl, cb, cy, nI n, mwD of lf dn, mwL of lf, mwO of lf, crF st ro cb cy pi n i q) := by simp only [crF, crB, if_neg n_2, if_pos n_11, if_pos n_49, ecl]
                  have hres : bI (mwB of lf) = bI (mwB of lf) := rfl
                  exact W.zret (v := bI (mwB of lf)) (ty := .boolean) hx hb hr (bI_n _) (fun t ht hW => ⟨⟨_, (th, mwS (cpR cy ro (pi (i - n - 1)) 64) st of lf b, tp, tl, cb, cy, nI n, mwD of lf dn, mwL of lf, mwO of lf, cpR cy ro (pi (i - n - 1)) 64), rfl, ⟨hres, hpost⟩, by rw [ht]; exact hP, va_K.moved hW.alike hK, hD⟩, hS.F ht⟩) hS.2.2 dX1_commits_124
                · have n_105 : ¬ n ≤ i := fun h => c_105 ((nI_leI (by omega) (by omega)).mpr h)
                  exfalso; omega
              · have n_73 : ¬ 64 ≤ k9 := fun h => c_73 ((nI_leI (by omega) (by omega)).mpr h)
                exfalso; omega
            | succ k ih =>
              intro k9 hk H locs ls hP hD hS hl
              refine lv_iload hx hb dX1_commits_69 (lv_at hl 5 rfl) ?_
              refine lv_bipush (v := nI 64) hx hb dX1_commits_71 (by decide) ?_
              refine lv_icmp_ge (tgt := 102) hx hb dX1_commits_73 (by decide) (fun c_73 => ?_) (fun c_73 => ?_)
              · have n_73 : 64 ≤ k9 := (nI_leI (by omega) (by omega)).mp c_73
                exfalso; omega
              · have n_73 : ¬ 64 ≤ k9 := fun h => c_73 ((nI_leI (by omega) (by omega)).mpr h)
                refine lv_aload_n hx hb dX1_commits_76 rfl (lv_at hl 0 rfl) ?_
                refine va_get (D := (dC, dI)) (ci := 1) (v := .ref (ad 5)) (C := RX1) (T := TX1) (N := 11) hx hb hts hin hown hK hP 0 rfl rfl 10 (by decide) (hts (.fieldLink RX1 28 "BlockJournalModel" "row" "[I") (by decide +kernel)) (fun _ h9 => h9) rfl dX1_commits_77 ?_
                refine lv_iload hx hb dX1_commits_80 (lv_at hl 5 rfl) ?_
                refine lv_aload_n hx hb dX1_commits_82 rfl (lv_at hl 0 rfl) ?_
                refine va_get (D := (dC, dI)) (ci := 1) (v := .ref (ad 4)) (C := RX1) (T := TX1) (N := 11) hx hb hts hin hown hK hP 0 rfl rfl 5 (by decide) (hts (.fieldLink RX1 19 "BlockJournalModel" "fresh" "[I") (by decide +kernel)) (fun _ h9 => h9) rfl dX1_commits_83 ?_
                refine lv_bipush (v := nI 64) hx hb dX1_commits_86 (by decide) ?_
                refine lv_iload hx hb dX1_commits_88 (lv_at hl 4 rfl) ?_
                refine lv_imul hx hb dX1_commits_90 ?_
                refine bj_i (pk_mul 64 (pi (i - n - 1))) ?_
                refine lv_iload hx hb dX1_commits_91 (lv_at hl 5 rfl) ?_
                refine lv_iadd hx hb dX1_commits_93 ?_
                refine bj_i (nI_add (64 * (pi (i - n - 1))) k9) ?_
                refine va_iald (D := (dC, dI)) hx hb hK hP 4 0 (cA := cA) (n := 1536) (f := cy) rfl rfl (i := (nI ((64 * (pi (i - n - 1))) + k9))) (vp_in_nI (by omega) (by omega)) dX1_commits_94 ?_
                refine bj_i (y := cy ((64 * (pi (i - n - 1))) + k9)) (congrArg cy (nI_clamp (by omega))) ?_
                refine va_iast (D := (dC, dI)) hx hb hK hP hD hS 5 0 (cA := cA) (n := 64) (f := (cpR cy ro (pi (i - n - 1)) k9)) rfl rfl (i := (nI k9)) (vp_in_nI (by omega) (by omega)) dX1_commits_95 (fun H locs hP hD hS => ?_)
                rw [nI_clamp (n := k9) (by omega)] at hP hD
                have hP : va_P (dC, dI) vwCl (wM cA ad th st tp tl cb cy (nI n) dn lf of (upd (cpR cy ro (pi (i - n - 1)) k9) k9 (cy ((64 * (pi (i - n - 1))) + k9)))) H := hP
                have hD : va_D A (wM cA ad th st tp tl cb cy (nI n) dn lf of (upd (cpR cy ro (pi (i - n - 1)) k9) k9 (cy ((64 * (pi (i - n - 1))) + k9)))) := hD
                refine lv_iinc (v := nI (k9 + 1)) (lv' := [(6, .int (nI (k9 + 1))), (0, .ref (ad 0)), (1, .int (nI i)), (2, .int (nI n)), (3, .long q), (5, .int (nI (pi (i - n - 1))))]) hx hb dX1_commits_96 hl (k := 5) rfl (nI_add k9 1) (by decide) rfl (fun ls hl => ?_)
                refine lv_goto (tgt := 69) hx hb dX1_commits_99 (by decide) ?_
                exact ih (k9 + 1) (by omega) _ _ _ hP hD hS (lv_sub hl [1, 2, 3, 4, 5, 0] rfl)
          exact loop_69 64 0 (by omega) _ _ _ hP hD hS (lv_sub hl [2, 3, 4, 5, 1, 0] rfl)
        · have n_49 : ¬ n ≤ i := fun h => c_49 ((nI_leI (by omega) (by omega)).mpr h)
          refine lv_iload_n hx hb dX1_commits_52 rfl (lv_at hl 1 rfl) ?_
          refine lv_goto (tgt := 61) hx hb dX1_commits_53 (by decide) ?_
          refine bj_call (v := .int (raF cb n i n 0)) (W.runV (As := [.int (nI i)]) (rest := []) ⟨hx, hb, hml, hown, hts⟩ (c_X1_ranked l dC dI cA ad th st tp tl cb cy dn lf of ro n i (by omega) (by omega)) (cwV 1 hts gX1_commits_X1_ranked rfl rfl rfl (by decide +kernel) ⟨Nat.le_of_ble_eq_true rfl, Nat.le_of_ble_eq_true rfl⟩) ⟨fun a U g mk q => by obtain ⟨q0, qP, qK⟩ := q; exact ⟨q0, qP, va_K.moved (u := U) (U := U.calling g mk a) (Vm.Alike.refl U.vm) qK⟩, va_recv hK hP (ci := 1) (q0 := 0) rfl rfl, fun U hU hW => ⟨rfl, by rw [hU]; exact hP, va_K.moved hW.alike hK⟩⟩ rfl rfl hl.1 rfl (lv_room (Nat.le_of_ble_eq_true rfl)) dX1_commits_61 ⟨Nat.le_of_ble_eq_true rfl, Nat.le_of_ble_eq_true rfl⟩) ?_
          obtain ⟨hp9, ep9⟩ := hpi (i) (by omega)
          refine bj_i (y := nI (pi (i))) (ep9) ?_
          refine lv_istore (lv' := [(5, .int (nI (pi (i)))), (0, .ref (ad 0)), (1, .int (nI i)), (2, .int (nI n)), (3, .long q)]) hx hb dX1_commits_64 hl (by decide) rfl (fun ls hl => ?_)
          refine lv_iconst (v := nI 0) hx hb dX1_commits_66 (by decide) ?_
          refine lv_istore (lv' := [(6, .int (nI 0)), (5, .int (nI (pi (i)))), (0, .ref (ad 0)), (1, .int (nI i)), (2, .int (nI n)), (3, .long q)]) hx hb dX1_commits_67 hl (by decide) rfl (fun ls hl => ?_)
          have loop_69 : ∀ (k : Nat) (k9 : Nat), k9 + k = 64 → ∀ (H : Heap) (locs : List Loc) (ls : Array Slot), va_P (dC, dI) vwCl (wM cA ad th st tp tl cb cy (nI n) dn lf of (cpR cy ro (pi (i)) k9)) H → va_D A (wM cA ad th st tp tl cb cy (nI n) dn lf of (cpR cy ro (pi (i)) k9)) → va_S A s.heap H locs → lv_has ls 7 [(0, .ref (ad 0)), (1, .int (nI i)), (2, .int (nI n)), (3, .long q), (5, .int (nI (pi (i)))), (6, .int (nI k9))] → W p l e (headSpec wsX1_commits ({ frames := 2, cells := 0, slots := 0, locals := 54 } : Room)).room s m ([.ref (ad 0), .int (nI i), .int (nI n), .long q] : List Value).toArray below meth c H locs 0 0 (MQ below (va_Qi (fun (r : Int32) (u : MS) => r = bI (mwB of lf) ∧ u = (th, mwS (crF st ro cb cy pi n i q) st of lf (crB cb pi n i), tp, tl, cb, cy, nI n, mwD of lf dn, mwL of lf, mwO of lf, crF st ro cb cy pi n i q)) (aM dC dI cA ad A) A) ([.ref (ad 0), .int (nI i), .int (nI n), .long q] : List Value).toArray s 0 0 A) (F0 m 69 ls []) := by
            intro k
            induction k with
            | zero =>
              intro k9 hk H locs ls hP hD hS hl
              refine lv_iload hx hb dX1_commits_69 (lv_at hl 5 rfl) ?_
              refine lv_bipush (v := nI 64) hx hb dX1_commits_71 (by decide) ?_
              refine lv_icmp_ge (tgt := 102) hx hb dX1_commits_73 (by decide) (fun c_73 => ?_) (fun c_73 => ?_)
              · have n_73 : 64 ≤ k9 := (nI_leI (by omega) (by omega)).mp c_73
                have ek : k9 = 64 := by omega
                rw [ek] at hP hD
                refine lv_aload_n hx hb dX1_commits_102 rfl (lv_at hl 0 rfl) ?_
                refine lv_iload_n hx hb dX1_commits_103 rfl (lv_at hl 1 rfl) ?_
                refine lv_iload_n hx hb dX1_commits_104 rfl (lv_at hl 2 rfl) ?_
                refine lv_icmp_ge (tgt := 114) hx hb dX1_commits_105 (by decide) (fun c_105 => ?_) (fun c_105 => ?_)
                · have n_105 : n ≤ i := (nI_leI (by omega) (by omega)).mp c_105
                  exfalso; omega
                · have n_105 : ¬ n ≤ i := fun h => c_105 ((nI_leI (by omega) (by omega)).mpr h)
                  refine lv_iconst (v := nI 1) hx hb dX1_commits_108 (by decide) ?_
                  refine lv_iload_n hx hb dX1_commits_109 rfl (lv_at hl 1 rfl) ?_
                  refine lv_iadd hx hb dX1_commits_110 ?_
                  refine bj_i (nI_add 1 i) ?_
                  refine lv_goto (tgt := 121) hx hb dX1_commits_111 (by decide) ?_
                  have hFc := va_free (wc := wM cA ad th st tp tl cb cy (nI n) dn lf of (cpR cy ro (pi (i)) 64)) hD hS hA [0, 1, 2, 3, 4, 5] rfl
                  refine va_calli (va_runV (As := [.int (nI (1 + i))]) (rest := []) ⟨hx, hb, hml, hown, hts⟩ (c_X1_writes l dC dI cA ad H.size th st tp tl cb cy (nI n) dn lf of (cpR cy ro (pi (i)) 64) (1 + i) (by omega)) (cwV 1 hts gX1_commits_X1_writes rfl rfl rfl (by decide +kernel) ⟨Nat.le_of_ble_eq_true rfl, Nat.le_of_ble_eq_true rfl⟩) ⟨fun a U g mk q => by obtain ⟨q0, q1, qP, qK, qD⟩ := q; exact ⟨q0, q1, qP, va_K.moved (u := U) (U := U.calling g mk a) (Vm.Alike.refl U.vm) qK, qD⟩, va_recv hK hP (ci := 1) (q0 := 0) rfl rfl, fun U hU hW => ⟨rfl, by rw [hU], by rw [hU]; exact hP, va_K.moved hW.alike hK, hD.weaken (fun _ _ _ _ => trivial)⟩⟩ rfl rfl hl.1 rfl (lv_room (Nat.le_of_ble_eq_true rfl)) dX1_commits_121 ⟨Nat.le_of_ble_eq_true rfl, Nat.le_of_ble_eq_true rfl⟩) hS (fun q _ h => hFc q h) hFc (fun r_121 u t H1 locs ht hvm hw hB hz1 hk1 hS => ?_)
                  obtain ⟨hP1, hK1, hD1⟩ := hB
                  obtain ⟨e_121, rfl⟩ := hw
                  rw [ht] at hP1
                  have hP : va_P (dC, dI) vwCl (wM cA ad th (mwS (cpR cy ro (pi (i)) 64) st of lf (1 + i)) tp tl cb cy (nI n) (mwD of lf dn) (mwL of lf) (mwO of lf) (cpR cy ro (pi (i)) 64)) H1 := hP1
                  have hD : va_D A (wM cA ad th (mwS (cpR cy ro (pi (i)) 64) st of lf (1 + i)) tp tl cb cy (nI n) (mwD of lf dn) (mwL of lf) (mwO of lf) (cpR cy ro (pi (i)) 64)) := ⟨hD1.1, fun k q h => hFc _ (hD1.2 k q h)⟩
                  generalize H1 = H at hP hS ⊢
                  subst e_121
                  have hpost : ((th, mwS (cpR cy ro (pi (i)) 64) st of lf (1 + i), tp, tl, cb, cy, nI n, mwD of lf dn, mwL of lf, mwO of lf, cpR cy ro (pi (i)) 64) : MS) = (th, mwS (crF st ro cb cy pi n i q) st of lf (crB cb pi n i), tp, tl, cb, cy, nI n, mwD of lf dn, mwL of lf, mwO of lf, crF st ro cb cy pi n i q) := by simp only [crF, crB, if_neg n_2, if_pos n_11, if_neg n_49]
                  have hres : bI (mwB of lf) = bI (mwB of lf) := rfl
                  exact W.zret (v := bI (mwB of lf)) (ty := .boolean) hx hb hr (bI_n _) (fun t ht hW => ⟨⟨_, (th, mwS (cpR cy ro (pi (i)) 64) st of lf (1 + i), tp, tl, cb, cy, nI n, mwD of lf dn, mwL of lf, mwO of lf, cpR cy ro (pi (i)) 64), rfl, ⟨hres, hpost⟩, by rw [ht]; exact hP, va_K.moved hW.alike hK, hD⟩, hS.F ht⟩) hS.2.2 dX1_commits_124
              · have n_73 : ¬ 64 ≤ k9 := fun h => c_73 ((nI_leI (by omega) (by omega)).mpr h)
                exfalso; omega
            | succ k ih =>
              intro k9 hk H locs ls hP hD hS hl
              refine lv_iload hx hb dX1_commits_69 (lv_at hl 5 rfl) ?_
              refine lv_bipush (v := nI 64) hx hb dX1_commits_71 (by decide) ?_
              refine lv_icmp_ge (tgt := 102) hx hb dX1_commits_73 (by decide) (fun c_73 => ?_) (fun c_73 => ?_)
              · have n_73 : 64 ≤ k9 := (nI_leI (by omega) (by omega)).mp c_73
                exfalso; omega
              · have n_73 : ¬ 64 ≤ k9 := fun h => c_73 ((nI_leI (by omega) (by omega)).mpr h)
                refine lv_aload_n hx hb dX1_commits_76 rfl (lv_at hl 0 rfl) ?_
                refine va_get (D := (dC, dI)) (ci := 1) (v := .ref (ad 5)) (C := RX1) (T := TX1) (N := 11) hx hb hts hin hown hK hP 0 rfl rfl 10 (by decide) (hts (.fieldLink RX1 28 "BlockJournalModel" "row" "[I") (by decide +kernel)) (fun _ h9 => h9) rfl dX1_commits_77 ?_
                refine lv_iload hx hb dX1_commits_80 (lv_at hl 5 rfl) ?_
                refine lv_aload_n hx hb dX1_commits_82 rfl (lv_at hl 0 rfl) ?_
                refine va_get (D := (dC, dI)) (ci := 1) (v := .ref (ad 4)) (C := RX1) (T := TX1) (N := 11) hx hb hts hin hown hK hP 0 rfl rfl 5 (by decide) (hts (.fieldLink RX1 19 "BlockJournalModel" "fresh" "[I") (by decide +kernel)) (fun _ h9 => h9) rfl dX1_commits_83 ?_
                refine lv_bipush (v := nI 64) hx hb dX1_commits_86 (by decide) ?_
                refine lv_iload hx hb dX1_commits_88 (lv_at hl 4 rfl) ?_
                refine lv_imul hx hb dX1_commits_90 ?_
                refine bj_i (pk_mul 64 (pi (i))) ?_
                refine lv_iload hx hb dX1_commits_91 (lv_at hl 5 rfl) ?_
                refine lv_iadd hx hb dX1_commits_93 ?_
                refine bj_i (nI_add (64 * (pi (i))) k9) ?_
                refine va_iald (D := (dC, dI)) hx hb hK hP 4 0 (cA := cA) (n := 1536) (f := cy) rfl rfl (i := (nI ((64 * (pi (i))) + k9))) (vp_in_nI (by omega) (by omega)) dX1_commits_94 ?_
                refine bj_i (y := cy ((64 * (pi (i))) + k9)) (congrArg cy (nI_clamp (by omega))) ?_
                refine va_iast (D := (dC, dI)) hx hb hK hP hD hS 5 0 (cA := cA) (n := 64) (f := (cpR cy ro (pi (i)) k9)) rfl rfl (i := (nI k9)) (vp_in_nI (by omega) (by omega)) dX1_commits_95 (fun H locs hP hD hS => ?_)
                rw [nI_clamp (n := k9) (by omega)] at hP hD
                have hP : va_P (dC, dI) vwCl (wM cA ad th st tp tl cb cy (nI n) dn lf of (upd (cpR cy ro (pi (i)) k9) k9 (cy ((64 * (pi (i))) + k9)))) H := hP
                have hD : va_D A (wM cA ad th st tp tl cb cy (nI n) dn lf of (upd (cpR cy ro (pi (i)) k9) k9 (cy ((64 * (pi (i))) + k9)))) := hD
                refine lv_iinc (v := nI (k9 + 1)) (lv' := [(6, .int (nI (k9 + 1))), (0, .ref (ad 0)), (1, .int (nI i)), (2, .int (nI n)), (3, .long q), (5, .int (nI (pi (i))))]) hx hb dX1_commits_96 hl (k := 5) rfl (nI_add k9 1) (by decide) rfl (fun ls hl => ?_)
                refine lv_goto (tgt := 69) hx hb dX1_commits_99 (by decide) ?_
                exact ih (k9 + 1) (by omega) _ _ _ hP hD hS (lv_sub hl [1, 2, 3, 4, 5, 0] rfl)
          exact loop_69 64 0 (by omega) _ _ _ hP hD hS (lv_sub hl [2, 3, 4, 5, 1, 0] rfl)
      · have n_11 : i = (2 * n) + 1 := (nI_eq (by omega) (by omega)).mp c_11
        refine lv_aload_n hx hb dX1_commits_14 rfl (lv_at hl 0 rfl) ?_
        refine lv_iload_n hx hb dX1_commits_15 rfl (lv_at hl 1 rfl) ?_
        refine lv_iload_n hx hb dX1_commits_16 rfl (lv_at hl 2 rfl) ?_
        refine lv_icmp_ne (tgt := 24) hx hb dX1_commits_17 (by decide) (fun c_17 => ?_) (fun c_17 => ?_)
        · have n_17 : ¬ i = n := fun h => c_17 ((nI_eq (by omega) (by omega)).mpr h)
          refine lv_lload_n hx hb dX1_commits_24 rfl (lv_at hl 3 rfl) ?_
          refine lv_lconst (v := 1) hx hb dX1_commits_25 (by decide) ?_
          refine lv_ladd hx hb dX1_commits_26 ?_
          refine lv_iload_n hx hb dX1_commits_27 rfl (lv_at hl 1 rfl) ?_
          refine lv_iload_n hx hb dX1_commits_28 rfl (lv_at hl 2 rfl) ?_
          refine lv_icmp_ne (tgt := 36) hx hb dX1_commits_29 (by decide) (fun c_29 => ?_) (fun c_29 => ?_)
          · have n_29 : ¬ i = n := fun h => c_29 ((nI_eq (by omega) (by omega)).mpr h)
            refine lv_iconst (v := nI 0) hx hb dX1_commits_36 (by decide) ?_
            have hFc := va_free (wc := wM cA ad th st tp tl cb cy (nI n) dn lf of ro) hD hS hA [0, 1, 2, 3, 4, 5] rfl
            refine va_callv (va_runV (As := [.long (q + 1), .int (nI 0)]) (rest := []) ⟨hx, hb, hml, hown, hts⟩ (c_X1_headed l dC dI cA ad H.size th st tp tl cb cy dn lf of ro n 0 (q + 1) pi hn (by omega) (fun i hi => absurd hi (Nat.not_lt_zero i))) (cwV 2 hts gX1_commits_X1_headed rfl rfl rfl (by decide +kernel) ⟨Nat.le_of_ble_eq_true rfl, Nat.le_of_ble_eq_true rfl⟩) ⟨fun a U g mk q => by obtain ⟨q0, q1, qP, qK, qD⟩ := q; exact ⟨q0, q1, qP, va_K.moved (u := U) (U := U.calling g mk a) (Vm.Alike.refl U.vm) qK, qD⟩, va_recv hK hP (ci := 1) (q0 := 0) rfl rfl, fun U hU hW => ⟨rfl, by rw [hU], by rw [hU]; exact hP, va_K.moved hW.alike hK, hD.weaken (fun _ _ _ _ => trivial)⟩⟩ rfl rfl hl.1 rfl (lv_room (Nat.le_of_ble_eq_true rfl)) dX1_commits_37 ⟨Nat.le_of_ble_eq_true rfl, Nat.le_of_ble_eq_true rfl⟩) hS (fun q _ h => hFc q h) hFc (fun u t H1 locs ht hvm hw hB hz1 hk1 hS => ?_)
            obtain ⟨hP1, hK1, hD1⟩ := hB
            subst hw
            rw [ht] at hP1
            have hP : va_P (dC, dI) vwCl (wM cA ad th st tp tl cb cy (nI n) dn lf of (hdF st ro cb pi 0 (q + 1))) H1 := hP1
            have hD : va_D A (wM cA ad th st tp tl cb cy (nI n) dn lf of (hdF st ro cb pi 0 (q + 1))) := ⟨hD1.1, fun k q h => hFc _ (hD1.2 k q h)⟩
            generalize H1 = H at hP hS ⊢
            refine lv_aload_n hx hb dX1_commits_40 rfl (lv_at hl 0 rfl) ?_
            refine lv_iconst (v := nI 0) hx hb dX1_commits_41 (by decide) ?_
            have hFc := va_free (wc := wM cA ad th st tp tl cb cy (nI n) dn lf of (hdF st ro cb pi 0 (q + 1))) hD hS hA [0, 1, 2, 3, 4, 5] rfl
            refine va_calli (va_runV (As := [.int (nI 0)]) (rest := []) ⟨hx, hb, hml, hown, hts⟩ (c_X1_writes l dC dI cA ad H.size th st tp tl cb cy (nI n) dn lf of (hdF st ro cb pi 0 (q + 1)) 0 (by decide)) (cwV 1 hts gX1_commits_X1_writes rfl rfl rfl (by decide +kernel) ⟨Nat.le_of_ble_eq_true rfl, Nat.le_of_ble_eq_true rfl⟩) ⟨fun a U g mk q => by obtain ⟨q0, q1, qP, qK, qD⟩ := q; exact ⟨q0, q1, qP, va_K.moved (u := U) (U := U.calling g mk a) (Vm.Alike.refl U.vm) qK, qD⟩, va_recv hK hP (ci := 1) (q0 := 0) rfl rfl, fun U hU hW => ⟨rfl, by rw [hU], by rw [hU]; exact hP, va_K.moved hW.alike hK, hD.weaken (fun _ _ _ _ => trivial)⟩⟩ rfl rfl hl.1 rfl (lv_room (Nat.le_of_ble_eq_true rfl)) dX1_commits_42 ⟨Nat.le_of_ble_eq_true rfl, Nat.le_of_ble_eq_true rfl⟩) hS (fun q _ h => hFc q h) hFc (fun r_42 u t H1 locs ht hvm hw hB hz1 hk1 hS => ?_)
            obtain ⟨hP1, hK1, hD1⟩ := hB
            obtain ⟨e_42, rfl⟩ := hw
            rw [ht] at hP1
            have hP : va_P (dC, dI) vwCl (wM cA ad th (mwS (hdF st ro cb pi 0 (q + 1)) st of lf 0) tp tl cb cy (nI n) (mwD of lf dn) (mwL of lf) (mwO of lf) (hdF st ro cb pi 0 (q + 1))) H1 := hP1
            have hD : va_D A (wM cA ad th (mwS (hdF st ro cb pi 0 (q + 1)) st of lf 0) tp tl cb cy (nI n) (mwD of lf dn) (mwL of lf) (mwO of lf) (hdF st ro cb pi 0 (q + 1))) := ⟨hD1.1, fun k q h => hFc _ (hD1.2 k q h)⟩
            generalize H1 = H at hP hS ⊢
            subst e_42
            have hpost : ((th, mwS (hdF st ro cb pi 0 (q + 1)) st of lf 0, tp, tl, cb, cy, nI n, mwD of lf dn, mwL of lf, mwO of lf, hdF st ro cb pi 0 (q + 1)) : MS) = (th, mwS (crF st ro cb cy pi n i q) st of lf (crB cb pi n i), tp, tl, cb, cy, nI n, mwD of lf dn, mwL of lf, mwO of lf, crF st ro cb cy pi n i q) := by simp only [crF, crB, if_neg n_2, if_neg (not_not_intro n_11)]
            have hres : bI (mwB of lf) = bI (mwB of lf) := rfl
            exact W.zret (v := bI (mwB of lf)) (ty := .boolean) hx hb hr (bI_n _) (fun t ht hW => ⟨⟨_, (th, mwS (hdF st ro cb pi 0 (q + 1)) st of lf 0, tp, tl, cb, cy, nI n, mwD of lf dn, mwL of lf, mwO of lf, hdF st ro cb pi 0 (q + 1)), rfl, ⟨hres, hpost⟩, by rw [ht]; exact hP, va_K.moved hW.alike hK, hD⟩, hS.F ht⟩) hS.2.2 dX1_commits_45
          · have n_29 : i = n := (nI_eq (by omega) (by omega)).mp c_29
            exfalso; omega
        · have n_17 : i = n := (nI_eq (by omega) (by omega)).mp c_17
          exfalso; omega
  rw [hH, hlo] at goal
  exact goal

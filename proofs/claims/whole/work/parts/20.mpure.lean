/-- the cells of a BlockJournalModel: itself and its five rows -/
def wM (cA : ClassId) (ad : Nat → Nat) (th : Int32) (st tp : Nat → Int32) (tl : Int32) (cb cy : Nat → Int32) (nc : Int32) (dn lf : Int64) (of : Int32) (ro : Nat → Int32) : va_W :=
  [(ad 0, .inr (1, [.int th, .ref (ad 1), .ref (ad 2), .int tl, .ref (ad 3), .ref (ad 4), .int nc, .long dn, .long lf, .int of, .ref (ad 5)])), (ad 1, .inl (cA, 6144, .inl st)), (ad 2, .inl (cA, 64, .inl tp)), (ad 3, .inl (cA, 24, .inl cb)), (ad 4, .inl (cA, 1536, .inl cy)), (ad 5, .inl (cA, 64, .inl ro))]
theorem md_dec (k : Nat) : nI k + (-1) = nI k - nI 1 := by rw [Int32.sub_eq_add_neg]; rfl
def wiF (a b c : Int64) : Bool := if a < b then false else if c < a then false else true
/-- k bytes of the store from p on as a number, the highest first -/
def nuF (f : Nat → Int32) (p : Nat) : Nat → Int64 → Int64
  | 0, v => v
  | k + 1, v => nuF f p k (v * 256 + (f (p + k)).toInt64)
/-- the check, a bit at a time -/
def m1F (x : Int32) (j : Nat) (w : Int64) : Int64 := if w >>> ((nI 31).toInt64 &&& 63) = ((x >>> (nI j &&& 31)) &&& nI 1).toInt64 then (w <<< ((nI 1).toInt64 &&& 63)) &&& 4294967295 else ((w <<< ((nI 1).toInt64 &&& 63)) &&& 4294967295) ^^^ 517762881
def m8F (x : Int32) : Nat → Nat → Int64 → Int64
  | 0, _, w => w
  | k + 1, j, w => m8F x k (j + 1) (m1F x j w)
def mcF (f : Nat → Int32) : Nat → Nat → Int64 → Int64
  | 0, _, w => w
  | k + 1, i, w => mcF f k (i + 1) (m8F (f (64 + i)) 8 0 w)
def mtF (w : Int64) : Nat → Nat → Int64 → Int64
  | 0, _, t => t
  | k + 1, j, t => mtF w k (j + 1) (t ||| (((w >>> ((nI j).toInt64 &&& 63)) &&& 1) <<< ((nI (31 - j)).toInt64 &&& 63)))
def ckM (f : Nat → Int32) (n : Nat) : Int64 := mtF (mcF f (64 * n) 0 4294967295) 32 0 0 ^^^ 4294967295
def tgM (f : Nat → Int32) (i : Nat) : Int32 := (nuF f (5 + 2 * i) 2 0).toInt32
def irF (f : Nat → Int32) : Nat → Nat → Int32 → Int32
  | 0, _, r => r
  | k + 1, i, r => irF f k (i + 1) (if r = 0 then nI 0 else if bI (wiF (tgM f i).toInt64 25 95) = 0 then nI 0 else if nI i = 0 then nI 1 else if tgM f i ≤ tgM f (i - 1) then nI 0 else nI 1)
def mrF (f : Nat → Int32) : Bool := if ¬ bI (wiF (f 4).toInt64 1 24) = 0 then (if irF f (f 4).toNatClampNeg 0 (nI 1) = 0 then false else if ¬ nuF f 59 4 0 = ckM f (f 4).toNatClampNeg then false else true) else false
def fnF (f : Nat → Int32) (b : Int32) : Nat → Nat → Int32
  | 0, _ => -1
  | k + 1, i => if ¬ f i = b then fnF f b k (i + 1) else nI i
/-- how many of the first n are below x -/
def blF (f : Nat → Int32) (x : Int32) : Nat → Nat → Nat → Nat
  | 0, _, b => b
  | k + 1, j, b => blF f x k (j + 1) (if x ≤ f j then b + 0 else b + 1)
def raF (f : Nat → Int32) (n i : Nat) : Nat → Nat → Int32
  | 0, _ => -1
  | k + 1, c => if ¬ blF f (f c) n 0 0 = i then raF f n i k (c + 1) else nI c
theorem wiF_nat {a : Int64} {x : Int32} {b c : Nat} (hb : b < 2 ^ 31) (hc : c < 2 ^ 31) (ha : a = x.toInt64) (h : ¬ bI (wiF a (lN b) (lN c)) = 0) : ∃ k : Nat, b ≤ k ∧ k ≤ c ∧ x = nI k := by
  have h1 : wiF a (lN b) (lN c) = true := by
    cases hs : wiF a (lN b) (lN c)
    · exact absurd (by rw [hs]; decide) h
    · rfl
  unfold wiF at h1
  by_cases a1 : a < lN b
  · rw [if_pos a1] at h1; cases h1
  rw [if_neg a1] at h1
  by_cases a2 : lN c < a
  · rw [if_pos a2] at h1; cases h1
  have t1 : (b : Int) ≤ x.toInt := by
    have q := Int64.not_lt.mp a1
    rw [ha, Int64.le_iff_toInt_le, lN_toInt hb, Int32.toInt_toInt64] at q
    exact q
  have t2 : x.toInt ≤ (c : Int) := by
    have q := Int64.not_lt.mp a2
    rw [ha, Int64.le_iff_toInt_le, lN_toInt hc, Int32.toInt_toInt64] at q
    exact q
  obtain ⟨k, hk, e⟩ := nI_of (x := x) (fun q => by
    have := Int32.lt_iff_toInt_lt.mp q
    have z : (0 : Int32).toInt = 0 := rfl
    omega)
  rw [e, nI_toInt hk] at t1 t2
  exact ⟨k, by omega, by omega, e⟩

set_option maxHeartbeats 4000000 in
set_option maxRecDepth 100000 in
theorem c_X1_thrown (l : Launch) (dC : Nat → ClassId) (dI : Nat → Nat → Nat) (cA : ClassId) (ad : Nat → Nat) (th : Int32) (st tp : Nat → Int32) (tl : Int32) (cb cy : Nat → Int32) (nc : Int32) (dn lf : Int64) (of : Int32) (ro : Nat → Int32)  : Met l yX1_thrown wsX1_thrown ({ frames := 0, cells := 0, slots := 0, locals := 0 } : Room) (va_Pc [.ref (ad 0)] (fun U => va_P (dC, dI) vwCl (wM cA ad th st tp tl cb cy nc dn lf of ro) U.heap ∧ va_K (dC, dI) vwCl [(cA, .int)] U)) (bj_Q (some (.int th))) 0 0 (fun _ => False) := by
  refine Met.ofW (cc := cX1_thrown) (maxL := 1) (ret := (some .int)) (by decide) rfl ?_
  intro p e s m args below meth c s₁ B hml hv
  obtain ⟨rfl, hP, hK⟩ := hv
  have hx := B.exec
  have hb := B.bytes
  have hr := B.returns
  have hts := atoms_spec (ws := wsX1_thrown) B.pre
  have hown : s.vm.findClass RX1 = some m.cls := findClass_of_methodNamed B.named
  have hlocks := B.notSynchronized
  have hin : ∀ w ∈ u_ws RX1 TX1 11, w ∈ wsX1_thrown := by decide +kernel
  have hl := lv_entry ([.ref (ad 0)]) (n := 1) (Nat.le_of_ble_eq_true rfl)
  rw [lg_entry_eq]
  generalize (lg_sl ([.ref (ad 0)]) ++ List.replicate (1 - (lg_sl ([.ref (ad 0)])).length) Slot.unset).toArray = ls at hl ⊢
  have hl : lv_has ls 1 [(0, .ref (ad 0))] := hl
  refine lv_aload_n hx hb dX1_thrown_0 rfl (lv_at hl 0 rfl) ?_
  refine va_get (D := (dC, dI)) (ci := 1) (v := .int th) (C := RX1) (T := TX1) (N := 11) hx hb hts hin hown hK hP 0 rfl rfl 0 (by decide) (hts (.fieldLink RX1 31 "BlockJournalModel" "thrown" "I") (by decide +kernel)) (fun _ h9 => h9) rfl dX1_thrown_1 ?_
  have hres : th = th := rfl
  exact W.iret (v := th) hx hb hr (fun t ht _ => ⟨congrArg (fun z : Int32 => Outcome.returned (some (Value.int z))) hres, ht⟩) (fun _ h => by cases h) dX1_thrown_4

set_option maxHeartbeats 4000000 in
set_option maxRecDepth 100000 in
theorem c_X1_within (l : Launch) (a b d : Int64)  : Met l yX1_within wsX1_within ({ frames := 0, cells := 0, slots := 0, locals := 0 } : Room) (va_Pc [.long a, .long b, .long d] (fun _ => True)) (bj_Q (some (.int (bI (wiF a b d))))) 0 0 (fun _ => False) := by
  refine Met.ofW (cc := cX1_within) (maxL := 6) (ret := (some .boolean)) (by decide) rfl ?_
  intro p e s m args below meth c s₁ B hml hv
  obtain ⟨rfl, -⟩ := hv
  have hx := B.exec
  have hb := B.bytes
  have hr := B.returns
  have hts := atoms_spec (ws := wsX1_within) B.pre
  have hown : s.vm.findClass RX1 = some m.cls := findClass_of_methodNamed B.named
  have hlocks := B.notSynchronized
  have hl := lv_entry ([.long a, .long b, .long d]) (n := 6) (Nat.le_of_ble_eq_true rfl)
  rw [lg_entry_eq]
  generalize (lg_sl ([.long a, .long b, .long d]) ++ List.replicate (6 - (lg_sl ([.long a, .long b, .long d])).length) Slot.unset).toArray = ls at hl ⊢
  have hl : lv_has ls 6 [(0, .long a), (2, .long b), (4, .long d)] := hl
  refine lv_lload_n hx hb dX1_within_0 rfl (lv_at hl 0 rfl) ?_
  refine lv_lload_n hx hb dX1_within_1 rfl (lv_at hl 1 rfl) ?_
  refine W.lcmp hx hb dX1_within_2 ?_
  refine lv_if_lt (tgt := 17) hx hb dX1_within_3 (by decide) (fun c_3 => ?_) (fun c_3 => ?_)
  · have m_3 := (lg_cmp_lt a b).mp c_3
    refine lv_iconst (v := nI 0) hx hb dX1_within_17 (by decide) ?_
    have hres : nI 0 = bI (wiF a b d) := by rw [wiF, if_pos m_3]; rfl
    exact W.zret (v := nI 0) (ty := .boolean) hx hb hr rfl (fun t ht _ => ⟨congrArg (fun z : Int32 => Outcome.returned (some (Value.int z))) hres, ht⟩) (fun _ h => by cases h) dX1_within_18
  · have m_3 := fun h => c_3 ((lg_cmp_lt a b).mpr h)
    refine lv_lload_n hx hb dX1_within_6 rfl (lv_at hl 0 rfl) ?_
    refine lv_lload hx hb dX1_within_7 (lv_at hl 2 rfl) ?_
    refine W.lcmp hx hb dX1_within_9 ?_
    refine lv_if_gt (tgt := 17) hx hb dX1_within_10 (by decide) (fun c_10 => ?_) (fun c_10 => ?_)
    · have m_10 := (lg_cmp_gt a d).mp c_10
      refine lv_iconst (v := nI 0) hx hb dX1_within_17 (by decide) ?_
      have hres : nI 0 = bI (wiF a b d) := by rw [wiF, if_neg m_3, if_pos m_10]; rfl
      exact W.zret (v := nI 0) (ty := .boolean) hx hb hr rfl (fun t ht _ => ⟨congrArg (fun z : Int32 => Outcome.returned (some (Value.int z))) hres, ht⟩) (fun _ h => by cases h) dX1_within_18
    · have m_10 := fun h => c_10 ((lg_cmp_gt a d).mpr h)
      refine lv_iconst (v := nI 1) hx hb dX1_within_13 (by decide) ?_
      refine lv_goto (tgt := 18) hx hb dX1_within_14 (by decide) ?_
      have hres : nI 1 = bI (wiF a b d) := by rw [wiF, if_neg m_3, if_neg m_10]; rfl
      exact W.zret (v := nI 1) (ty := .boolean) hx hb hr rfl (fun t ht _ => ⟨congrArg (fun z : Int32 => Outcome.returned (some (Value.int z))) hres, ht⟩) (fun _ h => by cases h) dX1_within_18

set_option maxHeartbeats 4000000 in
set_option maxRecDepth 100000 in
theorem c_X1_number (l : Launch) (dC : Nat → ClassId) (dI : Nat → Nat → Nat) (cA : ClassId) (ad : Nat → Nat) (th : Int32) (st tp : Nat → Int32) (tl : Int32) (cb cy : Nat → Int32) (nc : Int32) (dn lf : Int64) (of : Int32) (ro : Nat → Int32) (p0 n : Nat) (h1 : 1 ≤ n) (h2 : p0 + n ≤ 6144) : Met l yX1_number wsX1_number ({ frames := 0, cells := 0, slots := 0, locals := 0 } : Room) (va_Pc [.ref (ad 0), .int (nI p0), .int (nI n)] (fun U => va_P (dC, dI) vwCl (wM cA ad th st tp tl cb cy nc dn lf of ro) U.heap ∧ va_K (dC, dI) vwCl [(cA, .int)] U)) (bj_Q (some (.long (nuF st p0 n 0)))) 0 0 (fun _ => False) := by
  refine Met.ofW (cc := cX1_number) (maxL := 6) (ret := (some .long)) (by decide) rfl ?_
  intro p e s m args below meth c s₁ B hml hv
  obtain ⟨rfl, hP, hK⟩ := hv
  have hx := B.exec
  have hb := B.bytes
  have hr := B.returns
  have hts := atoms_spec (ws := wsX1_number) B.pre
  have hown : s.vm.findClass RX1 = some m.cls := findClass_of_methodNamed B.named
  have hlocks := B.notSynchronized
  have hin : ∀ w ∈ u_ws RX1 TX1 11, w ∈ wsX1_number := by decide +kernel
  have hl := lv_entry ([.ref (ad 0), .int (nI p0), .int (nI n)]) (n := 6) (Nat.le_of_ble_eq_true rfl)
  rw [lg_entry_eq]
  generalize (lg_sl ([.ref (ad 0), .int (nI p0), .int (nI n)]) ++ List.replicate (6 - (lg_sl ([.ref (ad 0), .int (nI p0), .int (nI n)])).length) Slot.unset).toArray = ls at hl ⊢
  have hl : lv_has ls 6 [(0, .ref (ad 0)), (1, .int (nI p0)), (2, .int (nI n))] := hl
  refine lv_lconst (v := 0) hx hb dX1_number_0 (by decide) ?_
  refine lv_lstore_n (lv' := [(3, .long 0), (0, .ref (ad 0)), (1, .int (nI p0)), (2, .int (nI n))]) hx hb dX1_number_1 rfl hl (by decide) rfl (fun ls hl => ?_)
  refine lv_iload_n hx hb dX1_number_2 rfl (lv_at hl 3 rfl) ?_
  refine lv_iconst (v := nI 1) hx hb dX1_number_3 (by decide) ?_
  refine lv_isub hx hb dX1_number_4 ?_
  refine lv_istore (lv' := [(5, .int ((nI n) - (nI 1))), (3, .long 0), (0, .ref (ad 0)), (1, .int (nI p0)), (2, .int (nI n))]) hx hb dX1_number_5 hl (by decide) rfl (fun ls hl => ?_)
  have loop_7 : ∀ (k : Nat) (v : Int64), k ≤ n → nuF st p0 n 0 = nuF st p0 k v → ∀ ls : Array Slot, lv_has ls 6 [(0, .ref (ad 0)), (1, .int (nI p0)), (2, .int (nI n)), (3, .long v), (5, .int (nI k - nI 1))] → W p l e (headSpec wsX1_number ({ frames := 0, cells := 0, slots := 0, locals := 0 } : Room)).room s m ([.ref (ad 0), .int (nI p0), .int (nI n)] : List Value).toArray below meth c s.heap [] 0 0 (MQ below (bj_Q (some (.long (nuF st p0 n 0)))) ([.ref (ad 0), .int (nI p0), .int (nI n)] : List Value).toArray s 0 0 (fun _ => False)) (F0 m 7 ls []) := by
    intro k
    induction k with
    | zero =>
      intro v hk hR ls hl
      refine lv_iload hx hb dX1_number_7 (lv_at hl 4 rfl) ?_
      refine lv_if_lt (tgt := 35) hx hb dX1_number_9 (by decide) (fun c_9 => ?_) (fun c_9 => ?_)
      · refine lv_lload_n hx hb dX1_number_35 rfl (lv_at hl 3 rfl) ?_
        have hres : v = nuF st p0 n 0 := hR.symm
        exact W.lret (v := v) hx hb hr (fun t ht _ => ⟨congrArg (fun z : Int64 => Outcome.returned (some (Value.long z))) hres, ht⟩) (fun _ h => by cases h) dX1_number_36
      · exact absurd (by decide) c_9
    | succ k ih =>
      intro v hk hR ls hl
      refine lv_iload hx hb dX1_number_7 (lv_at hl 4 rfl) ?_
      refine lv_if_lt (tgt := 35) hx hb dX1_number_9 (by decide) (fun c_9 => ?_) (fun c_9 => ?_)
      · exact absurd c_9 (by rw [show nI (k + 1) - nI 1 = nI k from nI_pred k]; exact nI_pos (by omega))
      · rw [show nI (k + 1) - nI 1 = nI k from nI_pred k] at hl
        refine lv_lload_n hx hb dX1_number_12 rfl (lv_at hl 3 rfl) ?_
        refine lv_ldc2 hx hb hown (hts (.constantLong RX1 42 (256)) (by decide +kernel)) dX1_number_13 ?_
        refine lv_lmul hx hb dX1_number_16 ?_
        refine lv_aload_n hx hb dX1_number_17 rfl (lv_at hl 0 rfl) ?_
        refine va_get (D := (dC, dI)) (ci := 1) (v := .ref (ad 1)) (C := RX1) (T := TX1) (N := 11) hx hb hts hin hown hK hP 0 rfl rfl 1 (by decide) (hts (.fieldLink RX1 7 "BlockJournalModel" "store" "[I") (by decide +kernel)) (fun _ h9 => h9) rfl dX1_number_18 ?_
        refine lv_iload_n hx hb dX1_number_21 rfl (lv_at hl 1 rfl) ?_
        refine lv_iload hx hb dX1_number_22 (lv_at hl 4 rfl) ?_
        refine lv_iadd hx hb dX1_number_24 ?_
        refine bj_i (nI_add p0 k) ?_
        refine va_iald (D := (dC, dI)) hx hb hK hP 1 0 (cA := cA) (n := 6144) (f := st) rfl rfl (i := (nI (p0 + k))) (vp_in_nI (by omega) (by omega)) dX1_number_25 ?_
        refine bj_i (y := st (p0 + k)) (congrArg st (nI_clamp (by omega))) ?_
        refine lv_i2l hx hb dX1_number_26 rfl ?_
        refine lv_ladd hx hb dX1_number_27 ?_
        refine lv_lstore_n (lv' := [(3, .long ((v * (256)) + ((st (p0 + k)).toInt64))), (0, .ref (ad 0)), (1, .int (nI p0)), (2, .int (nI n)), (5, .int (nI k))]) hx hb dX1_number_28 rfl hl (by decide) rfl (fun ls hl => ?_)
        refine lv_iinc (v := (nI k) + (-1)) (lv' := [(5, .int ((nI k) + (-1))), (3, .long ((v * (256)) + ((st (p0 + k)).toInt64))), (0, .ref (ad 0)), (1, .int (nI p0)), (2, .int (nI n))]) hx hb dX1_number_29 hl (k := 4) rfl rfl (by decide) rfl (fun ls hl => ?_)
        rw [md_dec] at hl
        refine lv_goto (tgt := 7) hx hb dX1_number_32 (by decide) ?_
        exact ih _ (by omega) (hR.trans rfl) _ (lv_sub hl [2, 3, 4, 1, 0] rfl)
  exact loop_7 n 0 (Nat.le_refl _) rfl _ (lv_sub hl [2, 3, 4, 1, 0] rfl)

set_option maxHeartbeats 4000000 in
set_option maxRecDepth 100000 in
theorem c_X1_check (l : Launch) (dC : Nat → ClassId) (dI : Nat → Nat → Nat) (cA : ClassId) (ad : Nat → Nat) (th : Int32) (st tp : Nat → Int32) (tl : Int32) (cb cy : Nat → Int32) (nc : Int32) (dn lf : Int64) (of : Int32) (ro : Nat → Int32) (n : Nat) (hn : n ≤ 24) : Met l yX1_check wsX1_check ({ frames := 0, cells := 0, slots := 0, locals := 0 } : Room) (va_Pc [.ref (ad 0), .int (nI n)] (fun U => va_P (dC, dI) vwCl (wM cA ad th st tp tl cb cy nc dn lf of ro) U.heap ∧ va_K (dC, dI) vwCl [(cA, .int)] U)) (bj_Q (some (.long (ckM st n)))) 0 0 (fun _ => False) := by
  refine Met.ofW (cc := cX1_check) (maxL := 9) (ret := (some .long)) (by decide) rfl ?_
  intro p e s m args below meth c s₁ B hml hv
  obtain ⟨rfl, hP, hK⟩ := hv
  have hx := B.exec
  have hb := B.bytes
  have hr := B.returns
  have hts := atoms_spec (ws := wsX1_check) B.pre
  have hown : s.vm.findClass RX1 = some m.cls := findClass_of_methodNamed B.named
  have hlocks := B.notSynchronized
  have hin : ∀ w ∈ u_ws RX1 TX1 11, w ∈ wsX1_check := by decide +kernel
  have hl := lv_entry ([.ref (ad 0), .int (nI n)]) (n := 9) (Nat.le_of_ble_eq_true rfl)
  rw [lg_entry_eq]
  generalize (lg_sl ([.ref (ad 0), .int (nI n)]) ++ List.replicate (9 - (lg_sl ([.ref (ad 0), .int (nI n)])).length) Slot.unset).toArray = ls at hl ⊢
  have hl : lv_has ls 9 [(0, .ref (ad 0)), (1, .int (nI n))] := hl
  refine lv_ldc2 hx hb hown (hts (.constantLong RX1 44 (4294967295)) (by decide +kernel)) dX1_check_0 ?_
  refine lv_lstore_n (lv' := [(2, .long (4294967295)), (0, .ref (ad 0)), (1, .int (nI n))]) hx hb dX1_check_3 rfl hl (by decide) rfl (fun ls hl => ?_)
  refine lv_iconst (v := nI 0) hx hb dX1_check_4 (by decide) ?_
  refine lv_istore (lv' := [(4, .int (nI 0)), (2, .long (4294967295)), (0, .ref (ad 0)), (1, .int (nI n))]) hx hb dX1_check_5 hl (by decide) rfl (fun ls hl => ?_)
  have loop_7 : ∀ (k : Nat) (i : Nat) (w : Int64), i + k = 64 * n → mcF st (64 * n) 0 4294967295 = mcF st k i w → ∀ ls : Array Slot, lv_has ls 9 [(0, .ref (ad 0)), (1, .int (nI n)), (2, .long w), (4, .int (nI i))] → W p l e (headSpec wsX1_check ({ frames := 0, cells := 0, slots := 0, locals := 0 } : Room)).room s m ([.ref (ad 0), .int (nI n)] : List Value).toArray below meth c s.heap [] 0 0 (MQ below (bj_Q (some (.long (ckM st n)))) ([.ref (ad 0), .int (nI n)] : List Value).toArray s 0 0 (fun _ => False)) (F0 m 7 ls []) := by
    intro k
    induction k with
    | zero =>
      intro i w hk hR ls hl
      refine lv_iload hx hb dX1_check_7 (lv_at hl 3 rfl) ?_
      refine lv_bipush (v := nI 64) hx hb dX1_check_9 (by decide) ?_
      refine lv_iload_n hx hb dX1_check_11 rfl (lv_at hl 1 rfl) ?_
      refine lv_imul hx hb dX1_check_12 ?_
      refine bj_i (pk_mul 64 n) ?_
      refine lv_icmp_ge (tgt := 92) hx hb dX1_check_13 (by decide) (fun c_13 => ?_) (fun c_13 => ?_)
      · have n_13 : 64 * n ≤ i := (nI_leI (by omega) (by omega)).mp c_13
        have e92 : w = mcF st (64 * n) 0 4294967295 := hR.symm
        rw [e92] at hl
        refine lv_lconst (v := 0) hx hb dX1_check_92 (by decide) ?_
        refine lv_lstore (lv' := [(4, .long 0), (0, .ref (ad 0)), (1, .int (nI n)), (2, .long (mcF st (64 * n) 0 4294967295))]) hx hb dX1_check_93 hl (by decide) rfl (fun ls hl => ?_)
        refine lv_iconst (v := nI 0) hx hb dX1_check_95 (by decide) ?_
        refine lv_istore (lv' := [(6, .int (nI 0)), (4, .long 0), (0, .ref (ad 0)), (1, .int (nI n)), (2, .long (mcF st (64 * n) 0 4294967295))]) hx hb dX1_check_96 hl (by decide) rfl (fun ls hl => ?_)
        have loop_98 : ∀ (k : Nat) (j : Nat) (t : Int64), j + k = 32 → mtF (mcF st (64 * n) 0 4294967295) 32 0 0 = mtF (mcF st (64 * n) 0 4294967295) k j t → ∀ ls : Array Slot, lv_has ls 9 [(0, .ref (ad 0)), (1, .int (nI n)), (2, .long (mcF st (64 * n) 0 4294967295)), (4, .long t), (6, .int (nI j))] → W p l e (headSpec wsX1_check ({ frames := 0, cells := 0, slots := 0, locals := 0 } : Room)).room s m ([.ref (ad 0), .int (nI n)] : List Value).toArray below meth c s.heap [] 0 0 (MQ below (bj_Q (some (.long (ckM st n)))) ([.ref (ad 0), .int (nI n)] : List Value).toArray s 0 0 (fun _ => False)) (F0 m 98 ls []) := by
          intro k
          induction k with
          | zero =>
            intro j t hj hT ls hl
            refine lv_iload hx hb dX1_check_98 (lv_at hl 4 rfl) ?_
            refine lv_bipush (v := nI 32) hx hb dX1_check_100 (by decide) ?_
            refine lv_icmp_ge (tgt := 128) hx hb dX1_check_102 (by decide) (fun c_102 => ?_) (fun c_102 => ?_)
            · have n_102 : 32 ≤ j := (nI_leI (by omega) (by omega)).mp c_102
              refine lv_lload hx hb dX1_check_128 (lv_at hl 3 rfl) ?_
              refine lv_ldc2 hx hb hown (hts (.constantLong RX1 44 (4294967295)) (by decide +kernel)) dX1_check_130 ?_
              refine lv_lxor hx hb dX1_check_133 ?_
              have hres : t ^^^ (4294967295) = ckM st n := by rw [ckM, hT]; rfl
              exact W.lret (v := t ^^^ (4294967295)) hx hb hr (fun t ht _ => ⟨congrArg (fun z : Int64 => Outcome.returned (some (Value.long z))) hres, ht⟩) (fun _ h => by cases h) dX1_check_134
            · have n_102 : ¬ 32 ≤ j := fun h => c_102 ((nI_leI (by omega) (by omega)).mpr h)
              exfalso; omega
          | succ k ih =>
            intro j t hj hT ls hl
            refine lv_iload hx hb dX1_check_98 (lv_at hl 4 rfl) ?_
            refine lv_bipush (v := nI 32) hx hb dX1_check_100 (by decide) ?_
            refine lv_icmp_ge (tgt := 128) hx hb dX1_check_102 (by decide) (fun c_102 => ?_) (fun c_102 => ?_)
            · have n_102 : 32 ≤ j := (nI_leI (by omega) (by omega)).mp c_102
              exfalso; omega
            · have n_102 : ¬ 32 ≤ j := fun h => c_102 ((nI_leI (by omega) (by omega)).mpr h)
              refine lv_lload hx hb dX1_check_105 (lv_at hl 3 rfl) ?_
              refine lv_lload_n hx hb dX1_check_107 rfl (lv_at hl 2 rfl) ?_
              refine lv_iload hx hb dX1_check_108 (lv_at hl 4 rfl) ?_
              refine lv_lshr hx hb dX1_check_110 rfl ?_
              refine lv_lconst (v := 1) hx hb dX1_check_111 (by decide) ?_
              refine lv_land hx hb dX1_check_112 ?_
              refine lv_bipush (v := nI 31) hx hb dX1_check_113 (by decide) ?_
              refine lv_iload hx hb dX1_check_115 (lv_at hl 4 rfl) ?_
              refine lv_isub hx hb dX1_check_117 ?_
              refine bj_i (pk_sub (a := 31) (b := j) (by omega)) ?_
              refine lv_lshl hx hb dX1_check_118 rfl ?_
              refine lv_lor hx hb dX1_check_119 ?_
              refine lv_lstore (lv' := [(4, .long (t ||| ((((mcF st (64 * n) 0 4294967295) >>> ((nI j).toInt64 &&& 63)) &&& 1) <<< ((nI (31 - j)).toInt64 &&& 63)))), (0, .ref (ad 0)), (1, .int (nI n)), (2, .long (mcF st (64 * n) 0 4294967295)), (6, .int (nI j))]) hx hb dX1_check_120 hl (by decide) rfl (fun ls hl => ?_)
              refine lv_iinc (v := nI (j + 1)) (lv' := [(6, .int (nI (j + 1))), (4, .long (t ||| ((((mcF st (64 * n) 0 4294967295) >>> ((nI j).toInt64 &&& 63)) &&& 1) <<< ((nI (31 - j)).toInt64 &&& 63)))), (0, .ref (ad 0)), (1, .int (nI n)), (2, .long (mcF st (64 * n) 0 4294967295))]) hx hb dX1_check_122 hl (k := 4) rfl (nI_add j 1) (by decide) rfl (fun ls hl => ?_)
              refine lv_goto (tgt := 98) hx hb dX1_check_125 (by decide) ?_
              exact ih (j + 1) _ (by omega) (hT.trans rfl) _ (lv_sub hl [2, 3, 4, 1, 0] rfl)
        exact loop_98 32 0 0 (by omega) rfl _ (lv_sub hl [2, 3, 4, 1, 0] rfl)
      · have n_13 : ¬ (64 * n) ≤ i := fun h => c_13 ((nI_leI (by omega) (by omega)).mpr h)
        exfalso; omega
    | succ k ih =>
      intro i w hk hR ls hl
      refine lv_iload hx hb dX1_check_7 (lv_at hl 3 rfl) ?_
      refine lv_bipush (v := nI 64) hx hb dX1_check_9 (by decide) ?_
      refine lv_iload_n hx hb dX1_check_11 rfl (lv_at hl 1 rfl) ?_
      refine lv_imul hx hb dX1_check_12 ?_
      refine bj_i (pk_mul 64 n) ?_
      refine lv_icmp_ge (tgt := 92) hx hb dX1_check_13 (by decide) (fun c_13 => ?_) (fun c_13 => ?_)
      · have n_13 : 64 * n ≤ i := (nI_leI (by omega) (by omega)).mp c_13
        exfalso; omega
      · have n_13 : ¬ (64 * n) ≤ i := fun h => c_13 ((nI_leI (by omega) (by omega)).mpr h)
        refine lv_iconst (v := nI 0) hx hb dX1_check_16 (by decide) ?_
        refine lv_istore (lv' := [(5, .int (nI 0)), (0, .ref (ad 0)), (1, .int (nI n)), (2, .long w), (4, .int (nI i))]) hx hb dX1_check_17 hl (by decide) rfl (fun ls hl => ?_)
        have loop_19 : ∀ (k : Nat) (j : Nat) (u : Int64), j + k = 8 → m8F (st (64 + i)) 8 0 w = m8F (st (64 + i)) k j u → ∀ ls : Array Slot, lv_has ls 9 [(0, .ref (ad 0)), (1, .int (nI n)), (2, .long u), (4, .int (nI i)), (5, .int (nI j))] → W p l e (headSpec wsX1_check ({ frames := 0, cells := 0, slots := 0, locals := 0 } : Room)).room s m ([.ref (ad 0), .int (nI n)] : List Value).toArray below meth c s.heap [] 0 0 (MQ below (bj_Q (some (.long (ckM st n)))) ([.ref (ad 0), .int (nI n)] : List Value).toArray s 0 0 (fun _ => False)) (F0 m 19 ls []) := by
          intro k
          induction k with
          | zero =>
            intro j u hj hU ls hl
            refine lv_iload hx hb dX1_check_19 (lv_at hl 4 rfl) ?_
            refine lv_bipush (v := nI 8) hx hb dX1_check_21 (by decide) ?_
            refine lv_icmp_ge (tgt := 86) hx hb dX1_check_23 (by decide) (fun c_23 => ?_) (fun c_23 => ?_)
            · have n_23 : 8 ≤ j := (nI_leI (by omega) (by omega)).mp c_23
              have e86 : u = m8F (st (64 + i)) 8 0 w := hU.symm
              rw [e86] at hl
              refine lv_iinc (v := nI (i + 1)) (lv' := [(4, .int (nI (i + 1))), (0, .ref (ad 0)), (1, .int (nI n)), (2, .long (m8F (st (64 + i)) 8 0 w)), (5, .int (nI j))]) hx hb dX1_check_86 hl (k := 3) rfl (nI_add i 1) (by decide) rfl (fun ls hl => ?_)
              refine lv_goto (tgt := 7) hx hb dX1_check_89 (by decide) ?_
              exact ih (i + 1) _ (by omega) (hR.trans rfl) _ (lv_sub hl [1, 2, 3, 0] rfl)
            · have n_23 : ¬ 8 ≤ j := fun h => c_23 ((nI_leI (by omega) (by omega)).mpr h)
              exfalso; omega
          | succ k ih =>
            intro j u hj hU ls hl
            refine lv_iload hx hb dX1_check_19 (lv_at hl 4 rfl) ?_
            refine lv_bipush (v := nI 8) hx hb dX1_check_21 (by decide) ?_
            refine lv_icmp_ge (tgt := 86) hx hb dX1_check_23 (by decide) (fun c_23 => ?_) (fun c_23 => ?_)
            · have n_23 : 8 ≤ j := (nI_leI (by omega) (by omega)).mp c_23
              exfalso; omega
            · have n_23 : ¬ 8 ≤ j := fun h => c_23 ((nI_leI (by omega) (by omega)).mpr h)
              refine lv_aload_n hx hb dX1_check_26 rfl (lv_at hl 0 rfl) ?_
              refine va_get (D := (dC, dI)) (ci := 1) (v := .ref (ad 1)) (C := RX1) (T := TX1) (N := 11) hx hb hts hin hown hK hP 0 rfl rfl 1 (by decide) (hts (.fieldLink RX1 7 "BlockJournalModel" "store" "[I") (by decide +kernel)) (fun _ h9 => h9) rfl dX1_check_27 ?_
              refine lv_bipush (v := nI 64) hx hb dX1_check_30 (by decide) ?_
              refine lv_iload hx hb dX1_check_32 (lv_at hl 3 rfl) ?_
              refine lv_iadd hx hb dX1_check_34 ?_
              refine bj_i (nI_add 64 i) ?_
              refine va_iald (D := (dC, dI)) hx hb hK hP 1 0 (cA := cA) (n := 6144) (f := st) rfl rfl (i := (nI (64 + i))) (vp_in_nI (by omega) (by omega)) dX1_check_35 ?_
              refine bj_i (y := st (64 + i)) (congrArg st (nI_clamp (by omega))) ?_
              refine lv_iload hx hb dX1_check_36 (lv_at hl 4 rfl) ?_
              refine lv_ishr hx hb dX1_check_38 ?_
              refine lv_iconst (v := nI 1) hx hb dX1_check_39 (by decide) ?_
              refine lv_iand hx hb dX1_check_40 ?_
              refine lv_i2l hx hb dX1_check_41 rfl ?_
              refine lv_lstore (lv' := [(6, .long ((((st (64 + i)) >>> ((nI j) &&& 31)) &&& (nI 1)).toInt64)), (0, .ref (ad 0)), (1, .int (nI n)), (2, .long u), (4, .int (nI i)), (5, .int (nI j))]) hx hb dX1_check_42 hl (by decide) rfl (fun ls hl => ?_)
              refine lv_lload_n hx hb dX1_check_44 rfl (lv_at hl 3 rfl) ?_
              refine lv_bipush (v := nI 31) hx hb dX1_check_45 (by decide) ?_
              refine lv_lshr hx hb dX1_check_47 rfl ?_
              refine lv_lload hx hb dX1_check_48 (lv_at hl 0 rfl) ?_
              refine W.lcmp hx hb dX1_check_50 ?_
              refine lv_if_eq (tgt := 58) hx hb dX1_check_51 (by decide) (fun c_51 => ?_) (fun c_51 => ?_)
              · have m_51 := (lg_cmp_eq (u >>> ((nI 31).toInt64 &&& 63)) ((((st (64 + i)) >>> ((nI j) &&& 31)) &&& (nI 1)).toInt64)).mp c_51
                refine lv_iconst (v := nI 0) hx hb dX1_check_58 (by decide) ?_
                refine lv_istore (lv' := [(8, .int (nI 0)), (6, .long ((((st (64 + i)) >>> ((nI j) &&& 31)) &&& (nI 1)).toInt64)), (0, .ref (ad 0)), (1, .int (nI n)), (2, .long u), (4, .int (nI i)), (5, .int (nI j))]) hx hb dX1_check_59 hl (by decide) rfl (fun ls hl => ?_)
                refine lv_lload_n hx hb dX1_check_61 rfl (lv_at hl 4 rfl) ?_
                refine lv_iconst (v := nI 1) hx hb dX1_check_62 (by decide) ?_
                refine lv_lshl hx hb dX1_check_63 rfl ?_
                refine lv_ldc2 hx hb hown (hts (.constantLong RX1 44 (4294967295)) (by decide +kernel)) dX1_check_64 ?_
                refine lv_land hx hb dX1_check_67 ?_
                refine lv_lstore_n (lv' := [(2, .long ((u <<< ((nI 1).toInt64 &&& 63)) &&& (4294967295))), (8, .int (nI 0)), (6, .long ((((st (64 + i)) >>> ((nI j) &&& 31)) &&& (nI 1)).toInt64)), (0, .ref (ad 0)), (1, .int (nI n)), (4, .int (nI i)), (5, .int (nI j))]) hx hb dX1_check_68 rfl hl (by decide) rfl (fun ls hl => ?_)
                refine lv_iload hx hb dX1_check_69 (lv_at hl 1 rfl) ?_
                refine lv_if_eq (tgt := 80) hx hb dX1_check_71 (by decide) (fun c_71 => ?_) (fun c_71 => ?_)
                · refine lv_iinc (v := nI (j + 1)) (lv' := [(5, .int (nI (j + 1))), (2, .long ((u <<< ((nI 1).toInt64 &&& 63)) &&& (4294967295))), (8, .int (nI 0)), (6, .long ((((st (64 + i)) >>> ((nI j) &&& 31)) &&& (nI 1)).toInt64)), (0, .ref (ad 0)), (1, .int (nI n)), (4, .int (nI i))]) hx hb dX1_check_80 hl (k := 6) rfl (nI_add j 1) (by decide) rfl (fun ls hl => ?_)
                  refine lv_goto (tgt := 19) hx hb dX1_check_83 (by decide) ?_
                  exact ih (j + 1) _ (by omega) (by rw [hU, m8F, m1F, if_pos m_51]) _ (lv_sub hl [4, 5, 1, 6, 0] rfl)
                · exact absurd (by decide) c_71
              · have m_51 := fun h => c_51 ((lg_cmp_eq (u >>> ((nI 31).toInt64 &&& 63)) ((((st (64 + i)) >>> ((nI j) &&& 31)) &&& (nI 1)).toInt64)).mpr h)
                refine lv_iconst (v := nI 1) hx hb dX1_check_54 (by decide) ?_
                refine lv_goto (tgt := 59) hx hb dX1_check_55 (by decide) ?_
                refine lv_istore (lv' := [(8, .int (nI 1)), (6, .long ((((st (64 + i)) >>> ((nI j) &&& 31)) &&& (nI 1)).toInt64)), (0, .ref (ad 0)), (1, .int (nI n)), (2, .long u), (4, .int (nI i)), (5, .int (nI j))]) hx hb dX1_check_59 hl (by decide) rfl (fun ls hl => ?_)
                refine lv_lload_n hx hb dX1_check_61 rfl (lv_at hl 4 rfl) ?_
                refine lv_iconst (v := nI 1) hx hb dX1_check_62 (by decide) ?_
                refine lv_lshl hx hb dX1_check_63 rfl ?_
                refine lv_ldc2 hx hb hown (hts (.constantLong RX1 44 (4294967295)) (by decide +kernel)) dX1_check_64 ?_
                refine lv_land hx hb dX1_check_67 ?_
                refine lv_lstore_n (lv' := [(2, .long ((u <<< ((nI 1).toInt64 &&& 63)) &&& (4294967295))), (8, .int (nI 1)), (6, .long ((((st (64 + i)) >>> ((nI j) &&& 31)) &&& (nI 1)).toInt64)), (0, .ref (ad 0)), (1, .int (nI n)), (4, .int (nI i)), (5, .int (nI j))]) hx hb dX1_check_68 rfl hl (by decide) rfl (fun ls hl => ?_)
                refine lv_iload hx hb dX1_check_69 (lv_at hl 1 rfl) ?_
                refine lv_if_eq (tgt := 80) hx hb dX1_check_71 (by decide) (fun c_71 => ?_) (fun c_71 => ?_)
                · exact absurd c_71 (by decide)
                · refine lv_lload_n hx hb dX1_check_74 rfl (lv_at hl 0 rfl) ?_
                  refine lv_ldc2 hx hb hown (hts (.constantLong RX1 46 (517762881)) (by decide +kernel)) dX1_check_75 ?_
                  refine lv_lxor hx hb dX1_check_78 ?_
                  refine lv_lstore_n (lv' := [(2, .long (((u <<< ((nI 1).toInt64 &&& 63)) &&& (4294967295)) ^^^ (517762881))), (8, .int (nI 1)), (6, .long ((((st (64 + i)) >>> ((nI j) &&& 31)) &&& (nI 1)).toInt64)), (0, .ref (ad 0)), (1, .int (nI n)), (4, .int (nI i)), (5, .int (nI j))]) hx hb dX1_check_79 rfl hl (by decide) rfl (fun ls hl => ?_)
                  refine lv_iinc (v := nI (j + 1)) (lv' := [(5, .int (nI (j + 1))), (2, .long (((u <<< ((nI 1).toInt64 &&& 63)) &&& (4294967295)) ^^^ (517762881))), (8, .int (nI 1)), (6, .long ((((st (64 + i)) >>> ((nI j) &&& 31)) &&& (nI 1)).toInt64)), (0, .ref (ad 0)), (1, .int (nI n)), (4, .int (nI i))]) hx hb dX1_check_80 hl (k := 6) rfl (nI_add j 1) (by decide) rfl (fun ls hl => ?_)
                  refine lv_goto (tgt := 19) hx hb dX1_check_83 (by decide) ?_
                  exact ih (j + 1) _ (by omega) (by rw [hU, m8F, m1F, if_neg m_51]) _ (lv_sub hl [4, 5, 1, 6, 0] rfl)
        exact loop_19 8 0 w (by omega) rfl _ (lv_sub hl [1, 2, 3, 4, 0] rfl)
  exact loop_7 (64 * n) 0 _ (by omega) rfl _ (lv_sub hl [2, 3, 1, 0] rfl)

set_option maxHeartbeats 4000000 in
set_option maxRecDepth 100000 in
theorem c_X1_target (l : Launch) (dC : Nat → ClassId) (dI : Nat → Nat → Nat) (cA : ClassId) (ad : Nat → Nat) (th : Int32) (st tp : Nat → Int32) (tl : Int32) (cb cy : Nat → Int32) (nc : Int32) (dn lf : Int64) (of : Int32) (ro : Nat → Int32) (i : Nat) (hi : i < 24) : Met l yX1_target wsX1_target ({ frames := 1, cells := 0, slots := 0, locals := 25 } : Room) (va_Pc [.ref (ad 0), .int (nI i)] (fun U => va_P (dC, dI) vwCl (wM cA ad th st tp tl cb cy nc dn lf of ro) U.heap ∧ va_K (dC, dI) vwCl [(cA, .int)] U)) (bj_Q (some (.int (tgM st i)))) 0 0 (fun _ => False) := by
  refine Met.ofW (cc := cX1_target) (maxL := 2) (ret := (some .int)) (by decide) rfl ?_
  intro p e s m args below meth c s₁ B hml hv
  obtain ⟨rfl, hP, hK⟩ := hv
  have hx := B.exec
  have hb := B.bytes
  have hr := B.returns
  have hts := atoms_spec (ws := wsX1_target) B.pre
  have hown : s.vm.findClass RX1 = some m.cls := findClass_of_methodNamed B.named
  have hlocks := B.notSynchronized
  have hin : ∀ w ∈ u_ws RX1 TX1 11, w ∈ wsX1_target := by decide +kernel
  have hl := lv_entry ([.ref (ad 0), .int (nI i)]) (n := 2) (Nat.le_of_ble_eq_true rfl)
  rw [lg_entry_eq]
  generalize (lg_sl ([.ref (ad 0), .int (nI i)]) ++ List.replicate (2 - (lg_sl ([.ref (ad 0), .int (nI i)])).length) Slot.unset).toArray = ls at hl ⊢
  have hl : lv_has ls 2 [(0, .ref (ad 0)), (1, .int (nI i))] := hl
  refine lv_aload_n hx hb dX1_target_0 rfl (lv_at hl 0 rfl) ?_
  refine lv_iconst (v := nI 5) hx hb dX1_target_1 (by decide) ?_
  refine lv_iconst (v := nI 2) hx hb dX1_target_2 (by decide) ?_
  refine lv_iload_n hx hb dX1_target_3 rfl (lv_at hl 1 rfl) ?_
  refine lv_imul hx hb dX1_target_4 ?_
  refine bj_i (pk_mul 2 i) ?_
  refine lv_iadd hx hb dX1_target_5 ?_
  refine bj_i (nI_add 5 (2 * i)) ?_
  refine lv_iconst (v := nI 2) hx hb dX1_target_6 (by decide) ?_
  refine bj_call (v := .long (nuF st (5 + 2 * i) 2 0)) (W.runV (As := [.int (nI (5 + (2 * i))), .int (nI 2)]) (rest := []) ⟨hx, hb, hml, hown, hts⟩ (c_X1_number l dC dI cA ad th st tp tl cb cy nc dn lf of ro (5 + 2 * i) 2 (by decide) (by omega)) (cwV 2 hts gX1_target_X1_number rfl rfl rfl (by decide +kernel) ⟨Nat.le_of_ble_eq_true rfl, Nat.le_of_ble_eq_true rfl⟩) ⟨fun a U g mk q => by obtain ⟨q0, qP, qK⟩ := q; exact ⟨q0, qP, va_K.moved (u := U) (U := U.calling g mk a) (Vm.Alike.refl U.vm) qK⟩, va_recv hK hP (ci := 1) (q0 := 0) rfl rfl, fun U hU hW => ⟨rfl, by rw [hU]; exact hP, va_K.moved hW.alike hK⟩⟩ rfl rfl hl.1 rfl (lv_room (Nat.le_of_ble_eq_true rfl)) dX1_target_7 ⟨Nat.le_of_ble_eq_true rfl, Nat.le_of_ble_eq_true rfl⟩) ?_
  refine lv_l2i hx hb dX1_target_10 rfl ?_
  have hres : (nuF st (5 + 2 * i) 2 0).toInt32 = tgM st i := rfl
  exact W.iret (v := (nuF st (5 + 2 * i) 2 0).toInt32) hx hb hr (fun t ht _ => ⟨congrArg (fun z : Int32 => Outcome.returned (some (Value.int z))) hres, ht⟩) (fun _ h => by cases h) dX1_target_11

set_option maxHeartbeats 4000000 in
set_option maxRecDepth 100000 in
theorem c_X1_isRight (l : Launch) (dC : Nat → ClassId) (dI : Nat → Nat → Nat) (cA : ClassId) (ad : Nat → Nat) (th : Int32) (st tp : Nat → Int32) (tl : Int32) (cb cy : Nat → Int32) (nc : Int32) (dn lf : Int64) (of : Int32) (ro : Nat → Int32)  : Met l yX1_isRight wsX1_isRight ({ frames := 2, cells := 0, slots := 0, locals := 53 } : Room) (va_Pc [.ref (ad 0)] (fun U => va_P (dC, dI) vwCl (wM cA ad th st tp tl cb cy nc dn lf of ro) U.heap ∧ va_K (dC, dI) vwCl [(cA, .int)] U)) (bj_Q (some (.int (bI (mrF st))))) 0 0 (fun _ => False) := by
  refine Met.ofW (cc := cX1_isRight) (maxL := 4) (ret := (some .boolean)) (by decide) rfl ?_
  intro p e s m args below meth c s₁ B hml hv
  obtain ⟨rfl, hP, hK⟩ := hv
  have hx := B.exec
  have hb := B.bytes
  have hr := B.returns
  have hts := atoms_spec (ws := wsX1_isRight) B.pre
  have hown : s.vm.findClass RX1 = some m.cls := findClass_of_methodNamed B.named
  have hlocks := B.notSynchronized
  have hin : ∀ w ∈ u_ws RX1 TX1 11, w ∈ wsX1_isRight := by decide +kernel
  have hl := lv_entry ([.ref (ad 0)]) (n := 4) (Nat.le_of_ble_eq_true rfl)
  rw [lg_entry_eq]
  generalize (lg_sl ([.ref (ad 0)]) ++ List.replicate (4 - (lg_sl ([.ref (ad 0)])).length) Slot.unset).toArray = ls at hl ⊢
  have hl : lv_has ls 4 [(0, .ref (ad 0))] := hl
  refine lv_aload_n hx hb dX1_isRight_0 rfl (lv_at hl 0 rfl) ?_
  refine va_get (D := (dC, dI)) (ci := 1) (v := .ref (ad 1)) (C := RX1) (T := TX1) (N := 11) hx hb hts hin hown hK hP 0 rfl rfl 1 (by decide) (hts (.fieldLink RX1 7 "BlockJournalModel" "store" "[I") (by decide +kernel)) (fun _ h9 => h9) rfl dX1_isRight_1 ?_
  refine lv_iconst (v := nI 4) hx hb dX1_isRight_4 (by decide) ?_
  refine va_iald (D := (dC, dI)) hx hb hK hP 1 0 (cA := cA) (n := 6144) (f := st) rfl rfl (i := (nI 4)) (vp_in_nI (by omega) (by omega)) dX1_isRight_5 ?_
  refine bj_i (y := st 4) (congrArg st (nI_clamp (by omega))) ?_
  refine lv_istore_n (lv' := [(1, .int (st 4)), (0, .ref (ad 0))]) hx hb dX1_isRight_6 rfl hl (by decide) rfl (fun ls hl => ?_)
  refine lv_iload_n hx hb dX1_isRight_7 rfl (lv_at hl 0 rfl) ?_
  refine lv_i2l hx hb dX1_isRight_8 rfl ?_
  refine lv_lconst (v := 1) hx hb dX1_isRight_9 (by decide) ?_
  refine lv_ldc2 hx hb hown (hts (.constantLong RX1 52 (24)) (by decide +kernel)) dX1_isRight_10 ?_
  refine bj_call (v := .int (bI (wiF (st 4).toInt64 1 24))) (W.runS (As := [.long ((st 4).toInt64), .long 1, .long (24)]) (rest := []) ⟨hx, hb, hml, hown, hts⟩ (c_X1_within l (st 4).toInt64 1 24) (va_cwS 3 hts gX1_isRight_X1_within rfl rfl rfl (by decide +kernel) ⟨Nat.le_of_ble_eq_true rfl, Nat.le_of_ble_eq_true rfl⟩) ⟨fun _ _ _ _ q => q, fun _ _ _ => ⟨rfl, trivial⟩⟩ rfl rfl hl.1 rfl (lv_room (Nat.le_of_ble_eq_true rfl)) dX1_isRight_13 ⟨Nat.le_of_ble_eq_true rfl, Nat.le_of_ble_eq_true rfl⟩) ?_
  refine lv_if_ne (tgt := 21) hx hb dX1_isRight_16 (by decide) (fun c_16 => ?_) (fun c_16 => ?_)
  · obtain ⟨n, hn1, hn, en⟩ := wiF_nat (b := 1) (c := 24) (by decide) (by decide) rfl c_16
    have hcl : (st 4).toNatClampNeg = n := by rw [en]; exact nI_clamp (by omega)
    rw [en] at hl
    refine lv_iconst (v := nI 1) hx hb dX1_isRight_21 (by decide) ?_
    refine lv_istore_n (lv' := [(2, .int (nI 1)), (1, .int (nI n)), (0, .ref (ad 0))]) hx hb dX1_isRight_22 rfl hl (by decide) rfl (fun ls hl => ?_)
    refine lv_iconst (v := nI 0) hx hb dX1_isRight_23 (by decide) ?_
    refine lv_istore_n (lv' := [(3, .int (nI 0)), (2, .int (nI 1)), (1, .int (nI n)), (0, .ref (ad 0))]) hx hb dX1_isRight_24 rfl hl (by decide) rfl (fun ls hl => ?_)
    have loop_25 : ∀ (k : Nat) (i : Nat) (r : Int32), i + k = n → irF st n 0 (nI 1) = irF st k i r → ∀ ls : Array Slot, lv_has ls 4 [(0, .ref (ad 0)), (1, .int (nI n)), (2, .int r), (3, .int (nI i))] → W p l e (headSpec wsX1_isRight ({ frames := 2, cells := 0, slots := 0, locals := 53 } : Room)).room s m ([.ref (ad 0)] : List Value).toArray below meth c s.heap [] 0 0 (MQ below (bj_Q (some (.int (bI (mrF st))))) ([.ref (ad 0)] : List Value).toArray s 0 0 (fun _ => False)) (F0 m 25 ls []) := by
      intro k
      induction k with
      | zero =>
        intro i r hk hR ls hl
        refine lv_iload_n hx hb dX1_isRight_25 rfl (lv_at hl 3 rfl) ?_
        refine lv_iload_n hx hb dX1_isRight_26 rfl (lv_at hl 1 rfl) ?_
        refine lv_icmp_ge (tgt := 83) hx hb dX1_isRight_27 (by decide) (fun c_27 => ?_) (fun c_27 => ?_)
        · have n_27 : n ≤ i := (nI_leI (by omega) (by omega)).mp c_27
          have e83 : r = irF st n 0 (nI 1) := hR.symm
          rw [e83] at hl
          refine lv_iload_n hx hb dX1_isRight_83 rfl (lv_at hl 2 rfl) ?_
          refine lv_if_eq (tgt := 107) hx hb dX1_isRight_84 (by decide) (fun c_84 => ?_) (fun c_84 => ?_)
          · refine lv_iconst (v := nI 0) hx hb dX1_isRight_107 (by decide) ?_
            have hres : nI 0 = bI (mrF st) := by rw [mrF, if_pos c_16, hcl, if_pos c_84]; rfl
            exact W.zret (v := nI 0) (ty := .boolean) hx hb hr rfl (fun t ht _ => ⟨congrArg (fun z : Int32 => Outcome.returned (some (Value.int z))) hres, ht⟩) (fun _ h => by cases h) dX1_isRight_108
          · refine lv_aload_n hx hb dX1_isRight_87 rfl (lv_at hl 0 rfl) ?_
            refine lv_bipush (v := nI 59) hx hb dX1_isRight_88 (by decide) ?_
            refine lv_iconst (v := nI 4) hx hb dX1_isRight_90 (by decide) ?_
            refine bj_call (v := .long (nuF st 59 4 0)) (W.runV (As := [.int (nI 59), .int (nI 4)]) (rest := []) ⟨hx, hb, hml, hown, hts⟩ (c_X1_number l dC dI cA ad th st tp tl cb cy nc dn lf of ro 59 4 (by decide) (by decide)) (cwV 2 hts gX1_isRight_X1_number rfl rfl rfl (by decide +kernel) ⟨Nat.le_of_ble_eq_true rfl, Nat.le_of_ble_eq_true rfl⟩) ⟨fun a U g mk q => by obtain ⟨q0, qP, qK⟩ := q; exact ⟨q0, qP, va_K.moved (u := U) (U := U.calling g mk a) (Vm.Alike.refl U.vm) qK⟩, va_recv hK hP (ci := 1) (q0 := 0) rfl rfl, fun U hU hW => ⟨rfl, by rw [hU]; exact hP, va_K.moved hW.alike hK⟩⟩ rfl rfl hl.1 rfl (lv_room (Nat.le_of_ble_eq_true rfl)) dX1_isRight_91 ⟨Nat.le_of_ble_eq_true rfl, Nat.le_of_ble_eq_true rfl⟩) ?_
            refine lv_aload_n hx hb dX1_isRight_94 rfl (lv_at hl 0 rfl) ?_
            refine lv_iload_n hx hb dX1_isRight_95 rfl (lv_at hl 1 rfl) ?_
            refine bj_call (v := .long (ckM st n)) (W.runV (As := [.int (nI n)]) (rest := [.long (nuF st 59 4 0)]) ⟨hx, hb, hml, hown, hts⟩ (c_X1_check l dC dI cA ad th st tp tl cb cy nc dn lf of ro n (by omega)) (cwV 1 hts gX1_isRight_X1_check rfl rfl rfl (by decide +kernel) ⟨Nat.le_of_ble_eq_true rfl, Nat.le_of_ble_eq_true rfl⟩) ⟨fun a U g mk q => by obtain ⟨q0, qP, qK⟩ := q; exact ⟨q0, qP, va_K.moved (u := U) (U := U.calling g mk a) (Vm.Alike.refl U.vm) qK⟩, va_recv hK hP (ci := 1) (q0 := 0) rfl rfl, fun U hU hW => ⟨rfl, by rw [hU]; exact hP, va_K.moved hW.alike hK⟩⟩ rfl rfl hl.1 rfl (lv_room (Nat.le_of_ble_eq_true rfl)) dX1_isRight_96 ⟨Nat.le_of_ble_eq_true rfl, Nat.le_of_ble_eq_true rfl⟩) ?_
            refine W.lcmp hx hb dX1_isRight_99 ?_
            refine lv_if_ne (tgt := 107) hx hb dX1_isRight_100 (by decide) (fun c_100 => ?_) (fun c_100 => ?_)
            · have m_100 := fun h => c_100 ((lg_cmp_eq (nuF st 59 4 0) (ckM st n)).mpr h)
              refine lv_iconst (v := nI 0) hx hb dX1_isRight_107 (by decide) ?_
              have hres : nI 0 = bI (mrF st) := by rw [mrF, if_pos c_16, hcl, if_neg c_84, if_pos m_100]; rfl
              exact W.zret (v := nI 0) (ty := .boolean) hx hb hr rfl (fun t ht _ => ⟨congrArg (fun z : Int32 => Outcome.returned (some (Value.int z))) hres, ht⟩) (fun _ h => by cases h) dX1_isRight_108
            · have m_100 := (lg_cmp_eq (nuF st 59 4 0) (ckM st n)).mp c_100
              refine lv_iconst (v := nI 1) hx hb dX1_isRight_103 (by decide) ?_
              refine lv_goto (tgt := 108) hx hb dX1_isRight_104 (by decide) ?_
              have hres : nI 1 = bI (mrF st) := by rw [mrF, if_pos c_16, hcl, if_neg c_84, if_neg (not_not_intro m_100)]; rfl
              exact W.zret (v := nI 1) (ty := .boolean) hx hb hr rfl (fun t ht _ => ⟨congrArg (fun z : Int32 => Outcome.returned (some (Value.int z))) hres, ht⟩) (fun _ h => by cases h) dX1_isRight_108
        · have n_27 : ¬ n ≤ i := fun h => c_27 ((nI_leI (by omega) (by omega)).mpr h)
          exfalso; omega
      | succ k ih =>
        intro i r hk hR ls hl
        refine lv_iload_n hx hb dX1_isRight_25 rfl (lv_at hl 3 rfl) ?_
        refine lv_iload_n hx hb dX1_isRight_26 rfl (lv_at hl 1 rfl) ?_
        refine lv_icmp_ge (tgt := 83) hx hb dX1_isRight_27 (by decide) (fun c_27 => ?_) (fun c_27 => ?_)
        · have n_27 : n ≤ i := (nI_leI (by omega) (by omega)).mp c_27
          exfalso; omega
        · have n_27 : ¬ n ≤ i := fun h => c_27 ((nI_leI (by omega) (by omega)).mpr h)
          refine lv_iload_n hx hb dX1_isRight_30 rfl (lv_at hl 2 rfl) ?_
          refine lv_if_eq (tgt := 75) hx hb dX1_isRight_31 (by decide) (fun c_31 => ?_) (fun c_31 => ?_)
          · refine lv_iconst (v := nI 0) hx hb dX1_isRight_75 (by decide) ?_
            refine lv_istore_n (lv' := [(2, .int (nI 0)), (0, .ref (ad 0)), (1, .int (nI n)), (3, .int (nI i))]) hx hb dX1_isRight_76 rfl hl (by decide) rfl (fun ls hl => ?_)
            refine lv_iinc (v := nI (i + 1)) (lv' := [(3, .int (nI (i + 1))), (2, .int (nI 0)), (0, .ref (ad 0)), (1, .int (nI n))]) hx hb dX1_isRight_77 hl (k := 3) rfl (nI_add i 1) (by decide) rfl (fun ls hl => ?_)
            refine lv_goto (tgt := 25) hx hb dX1_isRight_80 (by decide) ?_
            exact ih (i + 1) _ (by omega) (by rw [hR, irF, if_pos c_31]) _ (lv_sub hl [2, 3, 1, 0] rfl)
          · refine lv_aload_n hx hb dX1_isRight_34 rfl (lv_at hl 0 rfl) ?_
            refine lv_iload_n hx hb dX1_isRight_35 rfl (lv_at hl 3 rfl) ?_
            refine bj_call (v := .int (tgM st i)) (W.runV (As := [.int (nI i)]) (rest := []) ⟨hx, hb, hml, hown, hts⟩ (c_X1_target l dC dI cA ad th st tp tl cb cy nc dn lf of ro i (by omega)) (cwV 1 hts gX1_isRight_X1_target rfl rfl rfl (by decide +kernel) ⟨Nat.le_of_ble_eq_true rfl, Nat.le_of_ble_eq_true rfl⟩) ⟨fun a U g mk q => by obtain ⟨q0, qP, qK⟩ := q; exact ⟨q0, qP, va_K.moved (u := U) (U := U.calling g mk a) (Vm.Alike.refl U.vm) qK⟩, va_recv hK hP (ci := 1) (q0 := 0) rfl rfl, fun U hU hW => ⟨rfl, by rw [hU]; exact hP, va_K.moved hW.alike hK⟩⟩ rfl rfl hl.1 rfl (lv_room (Nat.le_of_ble_eq_true rfl)) dX1_isRight_36 ⟨Nat.le_of_ble_eq_true rfl, Nat.le_of_ble_eq_true rfl⟩) ?_
            refine lv_i2l hx hb dX1_isRight_39 rfl ?_
            refine lv_ldc2 hx hb hown (hts (.constantLong RX1 62 (25)) (by decide +kernel)) dX1_isRight_40 ?_
            refine lv_ldc2 hx hb hown (hts (.constantLong RX1 64 (95)) (by decide +kernel)) dX1_isRight_43 ?_
            refine bj_call (v := .int (bI (wiF (tgM st i).toInt64 25 95))) (W.runS (As := [.long ((tgM st i).toInt64), .long (25), .long (95)]) (rest := []) ⟨hx, hb, hml, hown, hts⟩ (c_X1_within l (tgM st i).toInt64 25 95) (va_cwS 3 hts gX1_isRight_X1_within rfl rfl rfl (by decide +kernel) ⟨Nat.le_of_ble_eq_true rfl, Nat.le_of_ble_eq_true rfl⟩) ⟨fun _ _ _ _ q => q, fun _ _ _ => ⟨rfl, trivial⟩⟩ rfl rfl hl.1 rfl (lv_room (Nat.le_of_ble_eq_true rfl)) dX1_isRight_46 ⟨Nat.le_of_ble_eq_true rfl, Nat.le_of_ble_eq_true rfl⟩) ?_
            refine lv_if_eq (tgt := 75) hx hb dX1_isRight_49 (by decide) (fun c_49 => ?_) (fun c_49 => ?_)
            · refine lv_iconst (v := nI 0) hx hb dX1_isRight_75 (by decide) ?_
              refine lv_istore_n (lv' := [(2, .int (nI 0)), (0, .ref (ad 0)), (1, .int (nI n)), (3, .int (nI i))]) hx hb dX1_isRight_76 rfl hl (by decide) rfl (fun ls hl => ?_)
              refine lv_iinc (v := nI (i + 1)) (lv' := [(3, .int (nI (i + 1))), (2, .int (nI 0)), (0, .ref (ad 0)), (1, .int (nI n))]) hx hb dX1_isRight_77 hl (k := 3) rfl (nI_add i 1) (by decide) rfl (fun ls hl => ?_)
              refine lv_goto (tgt := 25) hx hb dX1_isRight_80 (by decide) ?_
              exact ih (i + 1) _ (by omega) (by rw [hR, irF, if_neg c_31, if_pos c_49]) _ (lv_sub hl [2, 3, 1, 0] rfl)
            · refine lv_iload_n hx hb dX1_isRight_52 rfl (lv_at hl 3 rfl) ?_
              refine lv_if_eq (tgt := 71) hx hb dX1_isRight_53 (by decide) (fun c_53 => ?_) (fun c_53 => ?_)
              · refine lv_iconst (v := nI 1) hx hb dX1_isRight_71 (by decide) ?_
                refine lv_goto (tgt := 76) hx hb dX1_isRight_72 (by decide) ?_
                refine lv_istore_n (lv' := [(2, .int (nI 1)), (0, .ref (ad 0)), (1, .int (nI n)), (3, .int (nI i))]) hx hb dX1_isRight_76 rfl hl (by decide) rfl (fun ls hl => ?_)
                refine lv_iinc (v := nI (i + 1)) (lv' := [(3, .int (nI (i + 1))), (2, .int (nI 1)), (0, .ref (ad 0)), (1, .int (nI n))]) hx hb dX1_isRight_77 hl (k := 3) rfl (nI_add i 1) (by decide) rfl (fun ls hl => ?_)
                refine lv_goto (tgt := 25) hx hb dX1_isRight_80 (by decide) ?_
                exact ih (i + 1) _ (by omega) (by rw [hR, irF, if_neg c_31, if_neg c_49, if_pos c_53]) _ (lv_sub hl [2, 3, 1, 0] rfl)
              · refine lv_aload_n hx hb dX1_isRight_56 rfl (lv_at hl 0 rfl) ?_
                refine lv_iload_n hx hb dX1_isRight_57 rfl (lv_at hl 3 rfl) ?_
                refine bj_call (v := .int (tgM st i)) (W.runV (As := [.int (nI i)]) (rest := []) ⟨hx, hb, hml, hown, hts⟩ (c_X1_target l dC dI cA ad th st tp tl cb cy nc dn lf of ro i (by omega)) (cwV 1 hts gX1_isRight_X1_target rfl rfl rfl (by decide +kernel) ⟨Nat.le_of_ble_eq_true rfl, Nat.le_of_ble_eq_true rfl⟩) ⟨fun a U g mk q => by obtain ⟨q0, qP, qK⟩ := q; exact ⟨q0, qP, va_K.moved (u := U) (U := U.calling g mk a) (Vm.Alike.refl U.vm) qK⟩, va_recv hK hP (ci := 1) (q0 := 0) rfl rfl, fun U hU hW => ⟨rfl, by rw [hU]; exact hP, va_K.moved hW.alike hK⟩⟩ rfl rfl hl.1 rfl (lv_room (Nat.le_of_ble_eq_true rfl)) dX1_isRight_58 ⟨Nat.le_of_ble_eq_true rfl, Nat.le_of_ble_eq_true rfl⟩) ?_
                refine lv_aload_n hx hb dX1_isRight_61 rfl (lv_at hl 0 rfl) ?_
                refine lv_iload_n hx hb dX1_isRight_62 rfl (lv_at hl 3 rfl) ?_
                refine lv_iconst (v := nI 1) hx hb dX1_isRight_63 (by decide) ?_
                have hi0 : 0 < i := Nat.pos_of_ne_zero (fun h => c_53 (by rw [h]; decide))
                refine lv_isub hx hb dX1_isRight_64 ?_
                refine bj_i (pk_sub (a := i) (b := 1) (by omega)) ?_
                refine bj_call (v := .int (tgM st (i - 1))) (W.runV (As := [.int (nI (i - 1))]) (rest := [.int (tgM st i)]) ⟨hx, hb, hml, hown, hts⟩ (c_X1_target l dC dI cA ad th st tp tl cb cy nc dn lf of ro (i - 1) (by omega)) (cwV 1 hts gX1_isRight_X1_target rfl rfl rfl (by decide +kernel) ⟨Nat.le_of_ble_eq_true rfl, Nat.le_of_ble_eq_true rfl⟩) ⟨fun a U g mk q => by obtain ⟨q0, qP, qK⟩ := q; exact ⟨q0, qP, va_K.moved (u := U) (U := U.calling g mk a) (Vm.Alike.refl U.vm) qK⟩, va_recv hK hP (ci := 1) (q0 := 0) rfl rfl, fun U hU hW => ⟨rfl, by rw [hU]; exact hP, va_K.moved hW.alike hK⟩⟩ rfl rfl hl.1 rfl (lv_room (Nat.le_of_ble_eq_true rfl)) dX1_isRight_65 ⟨Nat.le_of_ble_eq_true rfl, Nat.le_of_ble_eq_true rfl⟩) ?_
                refine lv_icmp_le (tgt := 75) hx hb dX1_isRight_68 (by decide) (fun c_68 => ?_) (fun c_68 => ?_)
                · refine lv_iconst (v := nI 0) hx hb dX1_isRight_75 (by decide) ?_
                  refine lv_istore_n (lv' := [(2, .int (nI 0)), (0, .ref (ad 0)), (1, .int (nI n)), (3, .int (nI i))]) hx hb dX1_isRight_76 rfl hl (by decide) rfl (fun ls hl => ?_)
                  refine lv_iinc (v := nI (i + 1)) (lv' := [(3, .int (nI (i + 1))), (2, .int (nI 0)), (0, .ref (ad 0)), (1, .int (nI n))]) hx hb dX1_isRight_77 hl (k := 3) rfl (nI_add i 1) (by decide) rfl (fun ls hl => ?_)
                  refine lv_goto (tgt := 25) hx hb dX1_isRight_80 (by decide) ?_
                  exact ih (i + 1) _ (by omega) (by rw [hR, irF, if_neg c_31, if_neg c_49, if_neg c_53, if_pos c_68]) _ (lv_sub hl [2, 3, 1, 0] rfl)
                · refine lv_iconst (v := nI 1) hx hb dX1_isRight_71 (by decide) ?_
                  refine lv_goto (tgt := 76) hx hb dX1_isRight_72 (by decide) ?_
                  refine lv_istore_n (lv' := [(2, .int (nI 1)), (0, .ref (ad 0)), (1, .int (nI n)), (3, .int (nI i))]) hx hb dX1_isRight_76 rfl hl (by decide) rfl (fun ls hl => ?_)
                  refine lv_iinc (v := nI (i + 1)) (lv' := [(3, .int (nI (i + 1))), (2, .int (nI 1)), (0, .ref (ad 0)), (1, .int (nI n))]) hx hb dX1_isRight_77 hl (k := 3) rfl (nI_add i 1) (by decide) rfl (fun ls hl => ?_)
                  refine lv_goto (tgt := 25) hx hb dX1_isRight_80 (by decide) ?_
                  exact ih (i + 1) _ (by omega) (by rw [hR, irF, if_neg c_31, if_neg c_49, if_neg c_53, if_neg c_68]) _ (lv_sub hl [2, 3, 1, 0] rfl)
    exact loop_25 n 0 (nI 1) (by omega) rfl _ (lv_sub hl [3, 2, 1, 0] rfl)
  · refine lv_iconst (v := nI 0) hx hb dX1_isRight_19 (by decide) ?_
    have hres : nI 0 = bI (mrF st) := by rw [mrF, if_neg (not_not_intro c_16)]; rfl
    exact W.zret (v := nI 0) (ty := .boolean) hx hb hr rfl (fun t ht _ => ⟨congrArg (fun z : Int32 => Outcome.returned (some (Value.int z))) hres, ht⟩) (fun _ h => by cases h) dX1_isRight_20

set_option maxHeartbeats 4000000 in
set_option maxRecDepth 100000 in
theorem c_X1_find (l : Launch) (dC : Nat → ClassId) (dI : Nat → Nat → Nat) (cA : ClassId) (ad : Nat → Nat) (th : Int32) (st tp : Nat → Int32) (tl : Int32) (cb cy : Nat → Int32) (dn lf : Int64) (of : Int32) (ro : Nat → Int32) (n : Nat) (b : Int32) (hn : n ≤ 24) : Met l yX1_find wsX1_find ({ frames := 0, cells := 0, slots := 0, locals := 0 } : Room) (va_Pc [.ref (ad 0), .int b] (fun U => va_P (dC, dI) vwCl (wM cA ad th st tp tl cb cy (nI n) dn lf of ro) U.heap ∧ va_K (dC, dI) vwCl [(cA, .int)] U)) (bj_Q (some (.int (fnF cb b n 0)))) 0 0 (fun _ => False) := by
  refine Met.ofW (cc := cX1_find) (maxL := 3) (ret := (some .int)) (by decide) rfl ?_
  intro p e s m args below meth c s₁ B hml hv
  obtain ⟨rfl, hP, hK⟩ := hv
  have hx := B.exec
  have hb := B.bytes
  have hr := B.returns
  have hts := atoms_spec (ws := wsX1_find) B.pre
  have hown : s.vm.findClass RX1 = some m.cls := findClass_of_methodNamed B.named
  have hlocks := B.notSynchronized
  have hin : ∀ w ∈ u_ws RX1 TX1 11, w ∈ wsX1_find := by decide +kernel
  have hl := lv_entry ([.ref (ad 0), .int b]) (n := 3) (Nat.le_of_ble_eq_true rfl)
  rw [lg_entry_eq]
  generalize (lg_sl ([.ref (ad 0), .int b]) ++ List.replicate (3 - (lg_sl ([.ref (ad 0), .int b])).length) Slot.unset).toArray = ls at hl ⊢
  have hl : lv_has ls 3 [(0, .ref (ad 0)), (1, .int b)] := hl
  refine lv_iconst (v := nI 0) hx hb dX1_find_0 (by decide) ?_
  refine lv_istore_n (lv' := [(2, .int (nI 0)), (0, .ref (ad 0)), (1, .int b)]) hx hb dX1_find_1 rfl hl (by decide) rfl (fun ls hl => ?_)
  have loop_2 : ∀ (k : Nat) (i : Nat), i + k = n → fnF cb b n 0 = fnF cb b k i → ∀ ls : Array Slot, lv_has ls 3 [(0, .ref (ad 0)), (1, .int b), (2, .int (nI i))] → W p l e (headSpec wsX1_find ({ frames := 0, cells := 0, slots := 0, locals := 0 } : Room)).room s m ([.ref (ad 0), .int b] : List Value).toArray below meth c s.heap [] 0 0 (MQ below (bj_Q (some (.int (fnF cb b n 0)))) ([.ref (ad 0), .int b] : List Value).toArray s 0 0 (fun _ => False)) (F0 m 2 ls []) := by
    intro k
    induction k with
    | zero =>
      intro i hk hR ls hl
      refine lv_iload_n hx hb dX1_find_2 rfl (lv_at hl 2 rfl) ?_
      refine lv_aload_n hx hb dX1_find_3 rfl (lv_at hl 0 rfl) ?_
      refine va_get (D := (dC, dI)) (ci := 1) (v := .int (nI n)) (C := RX1) (T := TX1) (N := 11) hx hb hts hin hown hK hP 0 rfl rfl 6 (by decide) (hts (.fieldLink RX1 81 "BlockJournalModel" "changes" "I") (by decide +kernel)) (fun _ h9 => h9) rfl dX1_find_4 ?_
      refine lv_icmp_ge (tgt := 28) hx hb dX1_find_7 (by decide) (fun c_7 => ?_) (fun c_7 => ?_)
      · have n_7 : n ≤ i := (nI_leI (by omega) (by omega)).mp c_7
        refine lv_iconst (v := (-1)) hx hb dX1_find_28 (by decide) ?_
        have hres : (-1) = fnF cb b n 0 := by rw [hR, fnF]
        exact W.iret (v := (-1)) hx hb hr (fun t ht _ => ⟨congrArg (fun z : Int32 => Outcome.returned (some (Value.int z))) hres, ht⟩) (fun _ h => by cases h) dX1_find_29
      · have n_7 : ¬ n ≤ i := fun h => c_7 ((nI_leI (by omega) (by omega)).mpr h)
        exfalso; omega
    | succ k ih =>
      intro i hk hR ls hl
      refine lv_iload_n hx hb dX1_find_2 rfl (lv_at hl 2 rfl) ?_
      refine lv_aload_n hx hb dX1_find_3 rfl (lv_at hl 0 rfl) ?_
      refine va_get (D := (dC, dI)) (ci := 1) (v := .int (nI n)) (C := RX1) (T := TX1) (N := 11) hx hb hts hin hown hK hP 0 rfl rfl 6 (by decide) (hts (.fieldLink RX1 81 "BlockJournalModel" "changes" "I") (by decide +kernel)) (fun _ h9 => h9) rfl dX1_find_4 ?_
      refine lv_icmp_ge (tgt := 28) hx hb dX1_find_7 (by decide) (fun c_7 => ?_) (fun c_7 => ?_)
      · have n_7 : n ≤ i := (nI_leI (by omega) (by omega)).mp c_7
        exfalso; omega
      · have n_7 : ¬ n ≤ i := fun h => c_7 ((nI_leI (by omega) (by omega)).mpr h)
        refine lv_aload_n hx hb dX1_find_10 rfl (lv_at hl 0 rfl) ?_
        refine va_get (D := (dC, dI)) (ci := 1) (v := .ref (ad 3)) (C := RX1) (T := TX1) (N := 11) hx hb hts hin hown hK hP 0 rfl rfl 4 (by decide) (hts (.fieldLink RX1 16 "BlockJournalModel" "change" "[I") (by decide +kernel)) (fun _ h9 => h9) rfl dX1_find_11 ?_
        refine lv_iload_n hx hb dX1_find_14 rfl (lv_at hl 2 rfl) ?_
        refine va_iald (D := (dC, dI)) hx hb hK hP 3 0 (cA := cA) (n := 24) (f := cb) rfl rfl (i := (nI i)) (vp_in_nI (by omega) (by omega)) dX1_find_15 ?_
        refine bj_i (y := cb i) (congrArg cb (nI_clamp (by omega))) ?_
        refine lv_iload_n hx hb dX1_find_16 rfl (lv_at hl 1 rfl) ?_
        refine lv_icmp_ne (tgt := 22) hx hb dX1_find_17 (by decide) (fun c_17 => ?_) (fun c_17 => ?_)
        · refine lv_iinc (v := nI (i + 1)) (lv' := [(2, .int (nI (i + 1))), (0, .ref (ad 0)), (1, .int b)]) hx hb dX1_find_22 hl (k := 2) rfl (nI_add i 1) (by decide) rfl (fun ls hl => ?_)
          refine lv_goto (tgt := 2) hx hb dX1_find_25 (by decide) ?_
          exact ih (i + 1) (by omega) (by rw [hR, fnF, if_pos c_17]) _ (lv_sub hl [1, 2, 0] rfl)
        · refine lv_iload_n hx hb dX1_find_20 rfl (lv_at hl 2 rfl) ?_
          have hres : nI i = fnF cb b n 0 := by rw [hR, fnF, if_neg (not_not_intro c_17)]
          exact W.iret (v := nI i) hx hb hr (fun t ht _ => ⟨congrArg (fun z : Int32 => Outcome.returned (some (Value.int z))) hres, ht⟩) (fun _ h => by cases h) dX1_find_21
  exact loop_2 n 0 (by omega) rfl _ (lv_sub hl [1, 2, 0] rfl)

set_option maxHeartbeats 4000000 in
set_option maxRecDepth 100000 in
theorem c_X1_ranked (l : Launch) (dC : Nat → ClassId) (dI : Nat → Nat → Nat) (cA : ClassId) (ad : Nat → Nat) (th : Int32) (st tp : Nat → Int32) (tl : Int32) (cb cy : Nat → Int32) (dn lf : Int64) (of : Int32) (ro : Nat → Int32) (n : Nat) (i : Nat) (hn : n ≤ 24) (hi : i < 2 ^ 31) : Met l yX1_ranked wsX1_ranked ({ frames := 0, cells := 0, slots := 0, locals := 0 } : Room) (va_Pc [.ref (ad 0), .int (nI i)] (fun U => va_P (dC, dI) vwCl (wM cA ad th st tp tl cb cy (nI n) dn lf of ro) U.heap ∧ va_K (dC, dI) vwCl [(cA, .int)] U)) (bj_Q (some (.int (raF cb n i n 0)))) 0 0 (fun _ => False) := by
  refine Met.ofW (cc := cX1_ranked) (maxL := 5) (ret := (some .int)) (by decide) rfl ?_
  intro p e s m args below meth c s₁ B hml hv
  obtain ⟨rfl, hP, hK⟩ := hv
  have hx := B.exec
  have hb := B.bytes
  have hr := B.returns
  have hts := atoms_spec (ws := wsX1_ranked) B.pre
  have hown : s.vm.findClass RX1 = some m.cls := findClass_of_methodNamed B.named
  have hlocks := B.notSynchronized
  have hin : ∀ w ∈ u_ws RX1 TX1 11, w ∈ wsX1_ranked := by decide +kernel
  have hl := lv_entry ([.ref (ad 0), .int (nI i)]) (n := 5) (Nat.le_of_ble_eq_true rfl)
  rw [lg_entry_eq]
  generalize (lg_sl ([.ref (ad 0), .int (nI i)]) ++ List.replicate (5 - (lg_sl ([.ref (ad 0), .int (nI i)])).length) Slot.unset).toArray = ls at hl ⊢
  have hl : lv_has ls 5 [(0, .ref (ad 0)), (1, .int (nI i))] := hl
  refine lv_iconst (v := nI 0) hx hb dX1_ranked_0 (by decide) ?_
  refine lv_istore_n (lv' := [(2, .int (nI 0)), (0, .ref (ad 0)), (1, .int (nI i))]) hx hb dX1_ranked_1 rfl hl (by decide) rfl (fun ls hl => ?_)
  have loop_2 : ∀ (k : Nat) (q : Nat), q + k = n → raF cb n i n 0 = raF cb n i k q → ∀ ls : Array Slot, lv_has ls 5 [(0, .ref (ad 0)), (1, .int (nI i)), (2, .int (nI q))] → W p l e (headSpec wsX1_ranked ({ frames := 0, cells := 0, slots := 0, locals := 0 } : Room)).room s m ([.ref (ad 0), .int (nI i)] : List Value).toArray below meth c s.heap [] 0 0 (MQ below (bj_Q (some (.int (raF cb n i n 0)))) ([.ref (ad 0), .int (nI i)] : List Value).toArray s 0 0 (fun _ => False)) (F0 m 2 ls []) := by
    intro k
    induction k with
    | zero =>
      intro q hk hR ls hl
      refine lv_iload_n hx hb dX1_ranked_2 rfl (lv_at hl 2 rfl) ?_
      refine lv_aload_n hx hb dX1_ranked_3 rfl (lv_at hl 0 rfl) ?_
      refine va_get (D := (dC, dI)) (ci := 1) (v := .int (nI n)) (C := RX1) (T := TX1) (N := 11) hx hb hts hin hown hK hP 0 rfl rfl 6 (by decide) (hts (.fieldLink RX1 81 "BlockJournalModel" "changes" "I") (by decide +kernel)) (fun _ h9 => h9) rfl dX1_ranked_4 ?_
      refine lv_icmp_ge (tgt := 67) hx hb dX1_ranked_7 (by decide) (fun c_7 => ?_) (fun c_7 => ?_)
      · have n_7 : n ≤ q := (nI_leI (by omega) (by omega)).mp c_7
        refine lv_iconst (v := (-1)) hx hb dX1_ranked_67 (by decide) ?_
        have hres : (-1) = raF cb n i n 0 := by rw [hR, raF]
        exact W.iret (v := (-1)) hx hb hr (fun t ht _ => ⟨congrArg (fun z : Int32 => Outcome.returned (some (Value.int z))) hres, ht⟩) (fun _ h => by cases h) dX1_ranked_68
      · have n_7 : ¬ n ≤ q := fun h => c_7 ((nI_leI (by omega) (by omega)).mpr h)
        exfalso; omega
    | succ k ih =>
      intro q hk hR ls hl
      refine lv_iload_n hx hb dX1_ranked_2 rfl (lv_at hl 2 rfl) ?_
      refine lv_aload_n hx hb dX1_ranked_3 rfl (lv_at hl 0 rfl) ?_
      refine va_get (D := (dC, dI)) (ci := 1) (v := .int (nI n)) (C := RX1) (T := TX1) (N := 11) hx hb hts hin hown hK hP 0 rfl rfl 6 (by decide) (hts (.fieldLink RX1 81 "BlockJournalModel" "changes" "I") (by decide +kernel)) (fun _ h9 => h9) rfl dX1_ranked_4 ?_
      refine lv_icmp_ge (tgt := 67) hx hb dX1_ranked_7 (by decide) (fun c_7 => ?_) (fun c_7 => ?_)
      · have n_7 : n ≤ q := (nI_leI (by omega) (by omega)).mp c_7
        exfalso; omega
      · have n_7 : ¬ n ≤ q := fun h => c_7 ((nI_leI (by omega) (by omega)).mpr h)
        refine lv_iconst (v := nI 0) hx hb dX1_ranked_10 (by decide) ?_
        refine lv_istore_n (lv' := [(3, .int (nI 0)), (0, .ref (ad 0)), (1, .int (nI i)), (2, .int (nI q))]) hx hb dX1_ranked_11 rfl hl (by decide) rfl (fun ls hl => ?_)
        refine lv_iconst (v := nI 0) hx hb dX1_ranked_12 (by decide) ?_
        refine lv_istore (lv' := [(4, .int (nI 0)), (3, .int (nI 0)), (0, .ref (ad 0)), (1, .int (nI i)), (2, .int (nI q))]) hx hb dX1_ranked_13 hl (by decide) rfl (fun ls hl => ?_)
        have loop_15 : ∀ (k : Nat) (j : Nat) (b : Nat), j + k = n → blF cb (cb q) n 0 0 = blF cb (cb q) k j b → b ≤ j → ∀ ls : Array Slot, lv_has ls 5 [(0, .ref (ad 0)), (1, .int (nI i)), (2, .int (nI q)), (3, .int (nI b)), (4, .int (nI j))] → W p l e (headSpec wsX1_ranked ({ frames := 0, cells := 0, slots := 0, locals := 0 } : Room)).room s m ([.ref (ad 0), .int (nI i)] : List Value).toArray below meth c s.heap [] 0 0 (MQ below (bj_Q (some (.int (raF cb n i n 0)))) ([.ref (ad 0), .int (nI i)] : List Value).toArray s 0 0 (fun _ => False)) (F0 m 15 ls []) := by
          intro k
          induction k with
          | zero =>
            intro j b hj hB hb9 ls hl
            refine lv_iload hx hb dX1_ranked_15 (lv_at hl 4 rfl) ?_
            refine lv_aload_n hx hb dX1_ranked_17 rfl (lv_at hl 0 rfl) ?_
            refine va_get (D := (dC, dI)) (ci := 1) (v := .int (nI n)) (C := RX1) (T := TX1) (N := 11) hx hb hts hin hown hK hP 0 rfl rfl 6 (by decide) (hts (.fieldLink RX1 81 "BlockJournalModel" "changes" "I") (by decide +kernel)) (fun _ h9 => h9) rfl dX1_ranked_18 ?_
            refine lv_icmp_ge (tgt := 54) hx hb dX1_ranked_21 (by decide) (fun c_21 => ?_) (fun c_21 => ?_)
            · have n_21 : n ≤ j := (nI_leI (by omega) (by omega)).mp c_21
              refine lv_iload_n hx hb dX1_ranked_54 rfl (lv_at hl 3 rfl) ?_
              refine lv_iload_n hx hb dX1_ranked_55 rfl (lv_at hl 1 rfl) ?_
              refine lv_icmp_ne (tgt := 61) hx hb dX1_ranked_56 (by decide) (fun c_56 => ?_) (fun c_56 => ?_)
              · have n_56 : ¬ b = i := fun h => c_56 ((nI_eq (by omega) (by omega)).mpr h)
                refine lv_iinc (v := nI (q + 1)) (lv' := [(2, .int (nI (q + 1))), (0, .ref (ad 0)), (1, .int (nI i)), (3, .int (nI b)), (4, .int (nI j))]) hx hb dX1_ranked_61 hl (k := 2) rfl (nI_add q 1) (by decide) rfl (fun ls hl => ?_)
                refine lv_goto (tgt := 2) hx hb dX1_ranked_64 (by decide) ?_
                exact ih (q + 1) (by omega) (by rw [hR, raF, if_pos (by rw [hB]; exact n_56)]) _ (lv_sub hl [1, 2, 0] rfl)
              · have n_56 : b = i := (nI_eq (by omega) (by omega)).mp c_56
                refine lv_iload_n hx hb dX1_ranked_59 rfl (lv_at hl 2 rfl) ?_
                have hres : nI q = raF cb n i n 0 := by rw [hR, raF, if_neg (not_not_intro (by rw [hB]; exact n_56))]
                exact W.iret (v := nI q) hx hb hr (fun t ht _ => ⟨congrArg (fun z : Int32 => Outcome.returned (some (Value.int z))) hres, ht⟩) (fun _ h => by cases h) dX1_ranked_60
            · have n_21 : ¬ n ≤ j := fun h => c_21 ((nI_leI (by omega) (by omega)).mpr h)
              exfalso; omega
          | succ k ih =>
            intro j b hj hB hb9 ls hl
            refine lv_iload hx hb dX1_ranked_15 (lv_at hl 4 rfl) ?_
            refine lv_aload_n hx hb dX1_ranked_17 rfl (lv_at hl 0 rfl) ?_
            refine va_get (D := (dC, dI)) (ci := 1) (v := .int (nI n)) (C := RX1) (T := TX1) (N := 11) hx hb hts hin hown hK hP 0 rfl rfl 6 (by decide) (hts (.fieldLink RX1 81 "BlockJournalModel" "changes" "I") (by decide +kernel)) (fun _ h9 => h9) rfl dX1_ranked_18 ?_
            refine lv_icmp_ge (tgt := 54) hx hb dX1_ranked_21 (by decide) (fun c_21 => ?_) (fun c_21 => ?_)
            · have n_21 : n ≤ j := (nI_leI (by omega) (by omega)).mp c_21
              exfalso; omega
            · have n_21 : ¬ n ≤ j := fun h => c_21 ((nI_leI (by omega) (by omega)).mpr h)
              refine lv_iload_n hx hb dX1_ranked_24 rfl (lv_at hl 3 rfl) ?_
              refine lv_aload_n hx hb dX1_ranked_25 rfl (lv_at hl 0 rfl) ?_
              refine va_get (D := (dC, dI)) (ci := 1) (v := .ref (ad 3)) (C := RX1) (T := TX1) (N := 11) hx hb hts hin hown hK hP 0 rfl rfl 4 (by decide) (hts (.fieldLink RX1 16 "BlockJournalModel" "change" "[I") (by decide +kernel)) (fun _ h9 => h9) rfl dX1_ranked_26 ?_
              refine lv_iload hx hb dX1_ranked_29 (lv_at hl 4 rfl) ?_
              refine va_iald (D := (dC, dI)) hx hb hK hP 3 0 (cA := cA) (n := 24) (f := cb) rfl rfl (i := (nI j)) (vp_in_nI (by omega) (by omega)) dX1_ranked_31 ?_
              refine bj_i (y := cb j) (congrArg cb (nI_clamp (by omega))) ?_
              refine lv_aload_n hx hb dX1_ranked_32 rfl (lv_at hl 0 rfl) ?_
              refine va_get (D := (dC, dI)) (ci := 1) (v := .ref (ad 3)) (C := RX1) (T := TX1) (N := 11) hx hb hts hin hown hK hP 0 rfl rfl 4 (by decide) (hts (.fieldLink RX1 16 "BlockJournalModel" "change" "[I") (by decide +kernel)) (fun _ h9 => h9) rfl dX1_ranked_33 ?_
              refine lv_iload_n hx hb dX1_ranked_36 rfl (lv_at hl 2 rfl) ?_
              refine va_iald (D := (dC, dI)) hx hb hK hP 3 0 (cA := cA) (n := 24) (f := cb) rfl rfl (i := (nI q)) (vp_in_nI (by omega) (by omega)) dX1_ranked_37 ?_
              refine bj_i (y := cb q) (congrArg cb (nI_clamp (by omega))) ?_
              refine lv_icmp_ge (tgt := 45) hx hb dX1_ranked_38 (by decide) (fun c_38 => ?_) (fun c_38 => ?_)
              · refine lv_iconst (v := nI 0) hx hb dX1_ranked_45 (by decide) ?_
                refine lv_iadd hx hb dX1_ranked_46 ?_
                refine bj_i (nI_add b 0) ?_
                refine lv_istore_n (lv' := [(3, .int (nI (b + 0))), (0, .ref (ad 0)), (1, .int (nI i)), (2, .int (nI q)), (4, .int (nI j))]) hx hb dX1_ranked_47 rfl hl (by decide) rfl (fun ls hl => ?_)
                refine lv_iinc (v := nI (j + 1)) (lv' := [(4, .int (nI (j + 1))), (3, .int (nI (b + 0))), (0, .ref (ad 0)), (1, .int (nI i)), (2, .int (nI q))]) hx hb dX1_ranked_48 hl (k := 4) rfl (nI_add j 1) (by decide) rfl (fun ls hl => ?_)
                refine lv_goto (tgt := 15) hx hb dX1_ranked_51 (by decide) ?_
                exact ih (j + 1) _ (by omega) (by rw [hB, blF, if_pos c_38]) (by omega) _ (lv_sub hl [2, 3, 4, 1, 0] rfl)
              · refine lv_iconst (v := nI 1) hx hb dX1_ranked_41 (by decide) ?_
                refine lv_goto (tgt := 46) hx hb dX1_ranked_42 (by decide) ?_
                refine lv_iadd hx hb dX1_ranked_46 ?_
                refine bj_i (nI_add b 1) ?_
                refine lv_istore_n (lv' := [(3, .int (nI (b + 1))), (0, .ref (ad 0)), (1, .int (nI i)), (2, .int (nI q)), (4, .int (nI j))]) hx hb dX1_ranked_47 rfl hl (by decide) rfl (fun ls hl => ?_)
                refine lv_iinc (v := nI (j + 1)) (lv' := [(4, .int (nI (j + 1))), (3, .int (nI (b + 1))), (0, .ref (ad 0)), (1, .int (nI i)), (2, .int (nI q))]) hx hb dX1_ranked_48 hl (k := 4) rfl (nI_add j 1) (by decide) rfl (fun ls hl => ?_)
                refine lv_goto (tgt := 15) hx hb dX1_ranked_51 (by decide) ?_
                exact ih (j + 1) _ (by omega) (by rw [hB, blF, if_neg c_38]) (by omega) _ (lv_sub hl [2, 3, 4, 1, 0] rfl)
        exact loop_15 n 0 0 (by omega) rfl (Nat.le_refl _) _ (lv_sub hl [2, 3, 4, 1, 0] rfl)
  exact loop_2 n 0 (by omega) rfl _ (lv_sub hl [1, 2, 0] rfl)

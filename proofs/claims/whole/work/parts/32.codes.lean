/-! The two sides' tests say the same. -/
theorem lt_il {x : Int32} {b : Nat} (hb : b < 2 ^ 31) : x.toInt64 < lN b ↔ x < nI b := by
  rw [Int64.lt_iff_toInt_lt, Int32.lt_iff_toInt_lt, Int32.toInt_toInt64, lN_toInt hb, nI_toInt hb]
theorem lt_li {x : Int32} {b : Nat} (hb : b < 2 ^ 31) : lN b < x.toInt64 ↔ nI b < x := by
  rw [Int64.lt_iff_toInt_lt, Int32.lt_iff_toInt_lt, Int32.toInt_toInt64, lN_toInt hb, nI_toInt hb]
theorem wi_i (x : Int32) {b c : Nat} (hb : b < 2 ^ 31) (hc : c < 2 ^ 31) : wiF x.toInt64 (lN b) (lN c) = if x < nI b then false else if nI c < x then false else true := by
  unfold wiF
  by_cases a1 : x < nI b
  · rw [if_pos ((lt_il hb).mpr a1), if_pos a1]
  · rw [if_neg (fun h => a1 ((lt_il hb).mp h)), if_neg a1]
    by_cases a2 : nI c < x
    · rw [if_pos ((lt_li hc).mpr a2), if_pos a2]
    · rw [if_neg (fun h => a2 ((lt_li hc).mp h)), if_neg a2]
theorem bI_t0 : ¬ bI true = 0 := by decide
theorem bI_f0 : bI false = 0 := by decide
theorem fe_eq (n : Int32) (T : Nat) : mfK n T = feK n T := by
  unfold mfK feK
  rw [show (1 : Int64) = lN 1 from rfl, show (8 : Int64) = lN 8 from rfl, wi_i n (by decide) (by decide)]
  by_cases a1 : n < nI 1
  · rw [if_pos a1, if_pos a1, if_neg (not_not_intro bI_f0)]
  · rw [if_neg a1, if_neg a1]
    by_cases a2 : nI 8 < n
    · rw [if_pos a2, if_neg (not_not_intro bI_f0), if_neg (Int32.not_le.mpr a2)]
    · rw [if_neg a2, if_pos bI_t0, if_pos (Int32.not_lt.mp a2)]
theorem le_succ {x : Int32} {k : Nat} (hk : k + 1 < 2 ^ 31) : nI (k + 1) ≤ x ↔ nI k < x := by
  rw [Int32.le_iff_toInt_le, Int32.lt_iff_toInt_lt, nI_toInt hk, nI_toInt (by omega)]
  omega
theorem isT_wi (b : Int32) : wiF b.toInt64 25 95 = isT b := by
  unfold isT
  rw [show (25 : Int64) = lN 25 from rfl, show (95 : Int64) = lN 95 from rfl, wi_i b (by decide) (by decide)]
  by_cases a1 : b < nI 25
  · rw [if_pos a1, if_pos a1]
  · rw [if_neg a1, if_neg a1]
    by_cases a2 : nI 95 < b
    · rw [if_pos a2, if_pos ((le_succ (k := 95) (by decide)).mpr a2)]
    · rw [if_neg a2, if_neg (fun h => a2 ((le_succ (k := 95) (by decide)).mp h))]
theorem at_eq (b k : Int32) : mlK b k = atK b k := by
  unfold mlK atK isS
  rw [show (0 : Int64) = lN 0 from rfl, show (95 : Int64) = lN 95 from rfl, show (63 : Int64) = lN 63 from rfl, wi_i b (by decide) (by decide), wi_i k (by decide) (by decide), nI_0]
  by_cases a1 : b < 0
  · rw [if_pos a1, if_pos a1, if_pos bI_f0, if_neg (not_not_intro bI_f0)]
  · rw [if_neg a1, if_neg a1]
    by_cases a2 : nI 95 < b
    · rw [if_pos a2, if_pos bI_f0, if_pos ((le_succ (k := 95) (by decide)).mpr a2), if_neg (not_not_intro bI_f0)]
    · rw [if_neg a2, if_neg bI_t0, if_neg (fun h => a2 ((le_succ (k := 95) (by decide)).mp h))]
      by_cases a3 : k < 0
      · rw [if_pos a3, if_pos a3, if_neg (not_not_intro bI_f0)]
      · rw [if_neg a3, if_neg a3]
        by_cases a4 : nI 63 < k
        · rw [if_pos a4, if_neg (not_not_intro bI_f0), if_pos ((le_succ (k := 63) (by decide)).mpr a4), if_neg (not_not_intro bI_f0)]
        · rw [if_neg a4, if_pos bI_t0, if_neg (fun h => a4 ((le_succ (k := 63) (by decide)).mp h)), if_pos bI_t0]
theorem ch_eq (i : Int32) {n : Nat} (hn : n ≤ 24) : mhK i n = chK i n := by
  by_cases h : ¬ bI (wiF i.toInt64 0 (nI n - nI 1).toInt64) = 0
  · obtain ⟨j, hj, e⟩ := mhK_nat hn h
    rw [mhK, if_pos h, chK, if_neg (by rw [e]; exact nI_pos (by omega)), if_pos (by rw [e]; exact nI_lt hj (by omega))]
  · rw [mhK, if_neg h, chK]
    by_cases a1 : i < 0
    · rw [if_pos a1]
    · rw [if_neg a1]
      by_cases a2 : i < nI n
      · exfalso
        obtain ⟨j, hj, e⟩ := nI_of a1
        have hjn : j < n := by rw [e] at a2; exact (nI_ltI hj (by omega)).mp a2
        refine h ?_
        rw [pk_sub (by omega : 1 ≤ n), nI_l (by omega), show (0 : Int64) = lN 0 from rfl, wi_i i (by decide) (by omega), if_neg (by rw [nI_0]; exact a1), if_neg (by rw [e]; exact nI_nlt (by omega) (by omega))]
        exact bI_t0
      · rw [if_neg a2]
theorem tr_ir {f : Nat → Int32} (hf : By f) : ∀ (k i : Nat), 1 ≤ i → i + k < 2 ^ 31 → ((irF f k i (nI 1) = 0) ↔ trF f k i (htF f (i - 1)) = false) := by
  intro k
  induction k with
  | zero => intro i _ _; rw [irF, trF]; exact ⟨fun h => absurd h (by decide), fun h => by cases h⟩
  | succ k ih =>
    intro i hi hk
    rw [irF, trF, if_neg (by decide), num2 hf, isT_wi]
    by_cases a1 : bI (isT (htF f i)) = 0
    · rw [if_pos a1, if_pos a1, irF_0]; exact ⟨fun _ => rfl, fun _ => by decide⟩
    · rw [if_neg a1, if_neg a1, if_neg (nI_ne0 (by omega) (by omega)), num2 hf]
      by_cases a2 : htF f (i - 1) < htF f i
      · rw [if_neg (Int32.not_le.mpr a2), if_pos a2]
        exact ih (i + 1) (by omega) (by omega)
      · rw [if_pos (Int32.not_lt.mp a2), if_neg a2, irF_0]; exact ⟨fun _ => rfl, fun _ => by decide⟩
theorem tr_ir0 {f : Nat → Int32} (hf : By f) (k : Nat) (hk : k < 2 ^ 30) : (irF f k 0 (nI 1) = 0) ↔ trF f k 0 (nI 0) = false := by
  cases k with
  | zero => rw [irF, trF]; exact ⟨fun h => absurd h (by decide), fun h => by cases h⟩
  | succ k =>
    rw [irF, trF, if_neg (by decide), num2 hf, isT_wi]
    by_cases a1 : bI (isT (htF f 0)) = 0
    · rw [if_pos a1, if_pos a1, irF_0]; exact ⟨fun _ => rfl, fun _ => by decide⟩
    · obtain ⟨t, t1, t2, e⟩ := isT_nat (bI_ne a1)
      rw [if_neg a1, if_neg a1, if_pos (by decide), if_pos (by rw [e]; exact nI_lt (by omega) (by omega))]
      exact tr_ir hf k 1 (by omega) (by omega)
/-- the head is right on both sides or on none -/
theorem hr_eq {f : Nat → Int32} (hf : By f) : mrF f = hrF f (ckF 256) := by
  unfold mrF hrF
  rw [show (1 : Int64) = lN 1 from rfl, show (24 : Int64) = lN 24 from rfl, wi_i (f 4) (by decide) (by decide)]
  by_cases a1 : f 4 < nI 1
  · rw [if_pos a1, if_pos a1, if_neg (not_not_intro bI_f0)]
  · rw [if_neg a1, if_neg a1]
    by_cases a2 : nI 24 < f 4
    · rw [if_pos a2, if_pos a2, if_neg (not_not_intro bI_f0)]
    · rw [if_neg a2, if_neg a2, if_pos bI_t0]
      obtain ⟨n, hn, en⟩ := nI_of2 (x := f 4) (M := nI 24) (n := 24) (by decide) (fun q => a1 (Int32.lt_trans q (by decide))) (Int32.not_lt.mp a2)
      rw [en, nI_clamp (by omega)]
      by_cases a3 : irF f n 0 (nI 1) = 0
      · rw [if_pos a3, (tr_ir0 hf n (by omega)).mp a3, if_pos bI_f0]
      · have t : trF f n 0 (nI 0) = true := by
          cases q : trF f n 0 (nI 0)
          · exact absurd ((tr_ir0 hf n (by omega)).mpr q) a3
          · rfl
        rw [if_neg a3, t, if_neg bI_t0, num4 hf, check_eq hf]
        by_cases a4 : hwF f 59 4 = pcF f (ckF 256) (n * 64) 64 (-1) ^^^ (-1)
        · rw [if_neg (not_not_intro (congrArg ze a4)), if_neg (not_not_intro a4)]
        · rw [if_pos (fun h => a4 (ze_inj h)), if_pos a4]
theorem lk_in {w : Int32} (h : ¬ bI (wiF w.toInt64 0 6) = 0) : ∃ k : Nat, k ≤ 6 ∧ w = nI k := by
  obtain ⟨k, -, h2, e⟩ := wiF_nat (b := 0) (c := 6) (by decide) (by decide) rfl h
  exact ⟨k, h2, e⟩
theorem lkK_in : ∀ k, k ≤ 6 → lkK (nI k) = 0 := by decide +kernel
theorem lk_eq (w : Int32) : mkK w = lkK w := by
  by_cases h : ¬ bI (wiF w.toInt64 0 6) = 0
  · obtain ⟨k, hk, e⟩ := lk_in h
    rw [mkK, if_pos h, e, lkK_in k hk]
  · have hn : ∀ k, k ≤ 6 → ¬ w = nI k := fun k hk e => h (by
      rw [e, show (0 : Int64) = lN 0 from rfl, show (6 : Int64) = lN 6 from rfl, wi_i _ (by decide) (by decide), if_neg (nI_nlt (by omega) (by omega)), if_neg (nI_nlt (by omega) (by omega))]
      exact bI_t0)
    rw [mkK, if_neg h, lkK, if_neg (hn 0 (by omega)), if_neg (hn 1 (by omega)), if_neg (hn 2 (by omega)), if_neg (hn 3 (by omega)), if_neg (hn 4 (by omega)), if_neg (hn 5 (by omega)), if_neg (hn 6 (by omega))]
theorem lkR_eq {w : Int32} {st : Nat → Int32} (hf : By st) {nc wl : Int32} {o : Bool} {wd : Int64} (ho : o = true → wl = 0) (h : lkK w = 0) : mkR w st nc o wl.toInt64 wd = lkR w st (ckF 256) nc o wl wd := by
  have hw : ¬ bI (wiF w.toInt64 0 6) = 0 := by
    intro q
    rw [← lk_eq, mkK, if_neg (not_not_intro q)] at h
    cases h
  obtain ⟨k, hk, e⟩ := lk_in hw
  rw [mkR, if_pos hw, lkR, num4 hf, hr_eq hf]
  by_cases e0 : w = nI 0
  · rw [if_pos e0, if_pos e0]; rfl
  by_cases e1 : w = nI 1
  · rw [if_neg e0, if_neg e0, if_pos e1, if_pos e1]
  by_cases e2 : w = nI 2
  · rw [if_neg e0, if_neg e0, if_neg e1, if_neg e1, if_pos e2, if_pos e2]
  by_cases e3 : w = nI 3
  · rw [if_neg e0, if_neg e0, if_neg e1, if_neg e1, if_neg e2, if_neg e2, if_pos e3, if_pos e3]
  by_cases e4 : w = nI 4
  · rw [if_neg e0, if_neg e0, if_neg e1, if_neg e1, if_neg e2, if_neg e2, if_neg e3, if_neg e3, if_pos e4, if_pos e4]
  by_cases e5 : w = nI 5
  · rw [if_neg e0, if_neg e0, if_neg e1, if_neg e1, if_neg e2, if_neg e2, if_neg e3, if_neg e3, if_neg e4, if_neg e4, if_pos e5, if_pos e5]
  have e6 : w = nI 6 := by
    have : k = 6 := by
      rcases (show k = 0 ∨ k = 1 ∨ k = 2 ∨ k = 3 ∨ k = 4 ∨ k = 5 ∨ k = 6 by omega) with q | q | q | q | q | q | q
      · exact absurd (by rw [e, q]) e0
      · exact absurd (by rw [e, q]) e1
      · exact absurd (by rw [e, q]) e2
      · exact absurd (by rw [e, q]) e3
      · exact absurd (by rw [e, q]) e4
      · exact absurd (by rw [e, q]) e5
      · exact q
    rw [e, this]
  rw [if_neg e0, if_neg e0, if_neg e1, if_neg e1, if_neg e2, if_neg e2, if_neg e3, if_neg e3, if_neg e4, if_neg e4, if_neg e5, if_neg e5, if_pos e6]
  cases o
  · rw [if_pos (by decide)]
  · rw [if_neg (by decide), ho rfl]; rfl

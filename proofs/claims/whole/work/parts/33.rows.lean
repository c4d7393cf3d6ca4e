/-! The rows that both sides write, and one write. -/
theorem upd_c {f g : Nat → Int32} {k a : Nat} {x y : Int32} (h : f k = g k) (e : x = y) : upd f a x k = upd g a y k := by
  by_cases q : k = a
  · rw [q, pk_us, pk_us, e]
  · rw [pk_un q, pk_un q, h]
theorem sw_lb0 {f g : Nat → Int32} {w : Int32} {q : Int64} (hq : q.toInt32 = w) {k : Nat} (h : f k = g k) : ∀ i, i ≤ 4 → swF f 0 w i k = lb0 g q i k := by
  intro i
  induction i with
  | zero => intro _; exact h
  | succ i ih => intro hi; rw [swF, lb0, Nat.zero_add]; exact upd_c (ih (by omega)) (by_w hq (by omega))
theorem sw_lb9 {f g : Nat → Int32} {w : Int32} {q : Int64} (hq : q.toInt32 = w) {k : Nat} (h : f k = g k) : ∀ i, i ≤ 4 → swF f 59 w i k = lb9 g q i k := by
  intro i
  induction i with
  | zero => intro _; exact h
  | succ i ih => intro hi; rw [swF, lb9]; exact upd_c (ih (by omega)) (by_w hq (by omega))
theorem tg_tm {f g cb cb' : Nat → Int32} {pi : Nat → Nat} {n k : Nat} (h : f k = g k) (hc : ∀ i, i < n → (∃ b : Nat, b < 96 ∧ cb i = nI b) ∧ cb' (pi i) = cb i) : ∀ i, i ≤ n → tgF f cb i k = tmF g cb' pi i k := by
  intro i
  induction i with
  | zero => intro _; exact h
  | succ i ih =>
    intro hi
    obtain ⟨⟨b, hb, e⟩, e2⟩ := hc i (by omega)
    rw [tgF, tmF, e2, show 5 + 2 * i + 1 = 6 + 2 * i by omega]
    refine upd_c (upd_c (ih (by omega)) rfl) ?_
    rw [e]
    exact (by decide +kernel : ∀ b, b < 96 → ((nI b).toUInt32 >>> ((nI 8).toUInt32 &&& Int32.toUInt32 31)).toInt32 = nI b >>> (nI 8 &&& 31)) b hb
theorem eh_me (nh ro : Nat → Int32) {w : Int32} {q : Int64} (hq : q.toInt32 = w) {k : Nat} (hk : k < 64) : ehF nh w k = meF ro q k := by
  unfold ehF meF
  exact sw_lb0 hq (by unfold fiF; rw [if_pos hk, if_pos hk]) 4 (by omega)
theorem fh_mf {st nh ro cb cb' : Nat → Int32} (hf : By st) {pi : Nat → Nat} {n : Nat} {w : Int32} {q : Int64} (hq : q.toInt32 = w) (hc : ∀ i, i < n → (∃ b : Nat, b < 96 ∧ cb i = nI b) ∧ cb' (pi i) = cb i) {k : Nat} (hk : k < 64) :
    fhF st (ckF 256) nh cb n w k = mfF st ro cb' pi n q k := by
  unfold fhF mfF
  refine sw_lb9 (by rw [check_eq hf, ze_32]) ?_ 4 (by omega)
  exact tg_tm (upd_c (eh_me nh ro hq hk) rfl) hc n (Nat.le_refl _)
/-! bytes of the rows -/
def B1 (x : Int32) : Prop := ∃ b : Nat, b < 256 ∧ x = nI b
theorem B1_upd {f : Nat → Int32} {k a : Nat} {x : Int32} (h : B1 (f k)) (hx : B1 x) : B1 (upd f a x k) := by
  by_cases q : k = a
  · rw [q, pk_us]; exact hx
  · rw [pk_un q]; exact h
theorem B1_sw {f : Nat → Int32} {p : Nat} {w : Int32} {k : Nat} (h : B1 (f k)) : ∀ i, B1 (swF f p w i k) := by
  intro i
  induction i with
  | zero => exact h
  | succ i ih => rw [swF]; exact B1_upd ih (by_and _)
theorem B1_tg {f cb : Nat → Int32} {k n : Nat} (h : B1 (f k)) (hc : ∀ i, i < n → ∃ b : Nat, b < 96 ∧ cb i = nI b) : ∀ i, i ≤ n → B1 (tgF f cb i k) := by
  intro i
  induction i with
  | zero => intro _; exact h
  | succ i ih =>
    intro hi
    obtain ⟨b, hb, e⟩ := hc i (by omega)
    rw [tgF]
    refine B1_upd (B1_upd (ih (by omega)) (by_and _)) ?_
    rw [e]
    exact ⟨0, by omega, (by decide +kernel : ∀ b, b < 96 → ((nI b).toUInt32 >>> ((nI 8).toUInt32 &&& Int32.toUInt32 31)).toInt32 = nI 0) b hb⟩
theorem B1_eh (nh : Nat → Int32) (w : Int32) {k : Nat} (hk : k < 64) : B1 (ehF nh w k) := by
  unfold ehF
  exact B1_sw ⟨0, by omega, by unfold fiF; rw [if_pos hk]⟩ 4
theorem B1_fh {st ck nh cb : Nat → Int32} {n : Nat} {w : Int32} (hn : n ≤ 24) (hc : ∀ i, i < n → ∃ b : Nat, b < 96 ∧ cb i = nI b) {k : Nat} (hk : k < 64) : B1 (fhF st ck nh cb n w k) := by
  unfold fhF
  exact B1_sw (B1_tg (B1_upd (B1_eh nh w hk) ⟨n, by omega, rfl⟩) hc n (Nat.le_refl _)) 4
/-! one write -/
theorem wm_at (ro st : Nat → Int32) (b : Nat) : ∀ i j, wmF ro st b i j = if 64 * b ≤ j ∧ j < 64 * b + i then ro (j - 64 * b) else st j := by
  intro i
  induction i with
  | zero => intro j; rw [wmF, if_neg (by omega)]
  | succ i ih =>
    intro j
    rw [wmF]
    by_cases q : j = 64 * b + i
    · rw [q, pk_us, if_pos (by omega)]
      congr 1
      omega
    · rw [pk_un q, ih j]
      by_cases z : 64 * b ≤ j ∧ j < 64 * b + i
      · rw [if_pos z, if_pos (by omega)]
      · rw [if_neg z, if_neg (by omega)]
theorem wm_cpy {F ro st : Nat → Int32} {q b : Nat} (h : ∀ k, k < 64 → ro k = F (q + k)) : wmF ro st b 64 = va_cpy F st q (b * 64) 64 := by
  funext j
  rw [wm_at]
  by_cases z : 64 * b ≤ j ∧ j < 64 * b + 64
  · rw [if_pos z, h _ (by omega), pk_cpy_in (by omega) (by omega)]
    congr 1
    omega
  · rw [if_neg z, pk_cpy_out (by omega)]
/-- the class's store, power and writes, and the reference's -/
def RW (u : W4) (v : M5) : Prop := v.2.1 = u.1 ∧ v.2.2.1 = u.2.1 ∧ v.2.2.2.1 = u.2.2.1.toInt64 ∧ v.2.2.2.2 = u.2.2.2 ∧ (u.2.1 = nI 0 ∨ (u.2.1 = nI 1 ∧ u.2.2.1 = 0)) ∧ (u.2.2.1 = -1 ∨ ¬ u.2.2.1 < 0) ∧ By u.1
theorem i64_0 (x : Int32) : x.toInt64 = 0 ↔ x = 0 := by
  constructor
  · intro h
    have := congrArg Int64.toInt32 h
    rw [Int32.toInt32_toInt64] at this
    exact this
  · intro h; rw [h]; rfl
theorem i64_le (x : Int32) : x.toInt64 ≤ 0 ↔ x ≤ 0 := by
  rw [Int64.le_iff_toInt_le, Int32.le_iff_toInt_le, Int32.toInt_toInt64]
  rfl
theorem i64_pred {x : Int32} (h : ¬ x ≤ 0) : (x - nI 1).toInt64 = x.toInt64 - 1 := by
  obtain ⟨j, hj, e⟩ := nI_of (x := x) (fun q => h (Int32.le_of_lt q))
  have h1 : 1 ≤ j := by
    rcases Nat.eq_zero_or_pos j with q | q
    · exact absurd (by rw [e, q]; decide) h
    · exact q
  rw [e, pk_sub h1, nI_l (by omega), nI_l hj, show (1 : Int64) = lN 1 from rfl, lN_sub h1]
/-- a write with the power on: both sides do the same, and say so -/
theorem rw_step {u : W4} {v : M5} (h : RW u v) (hon : u.2.1 = nI 0) {F ro : Nat → Int32} {q b : Nat} (hr : ∀ k, k < 64 → ro k = F (q + k)) (hB : ∀ k, k < 64 → B1 (F (q + k))) :
    RW (w4 F q b u) (m5 ro b v) ∧ (bI (mwB v.2.2.1 v.2.2.2.1) = 0 ↔ (w4 F q b u).2.1 = nI 1) ∧ (¬ bI (mwB v.2.2.1 v.2.2.2.1) = 0 ↔ (w4 F q b u).2.1 = nI 0) := by
  obtain ⟨h1, h2, h3, h4, h5, h6, h7⟩ := h
  have z01 : ¬ (nI 1 = nI 0) := by decide
  have z0 : (nI 0 : Int32) = 0 := rfl
  by_cases a : u.2.2.1 = 0
  · have hm : mwB v.2.2.1 v.2.2.2.1 = false := by
      rw [h2, h3, hon, mwB, if_neg (not_not_intro z0), if_neg (not_not_intro ((i64_0 _).mpr a))]
    have ew : w4 F q b u = (u.1, nI 1, u.2.2.1, u.2.2.2) := by
      unfold w4 wrS wrO wrL wrD
      rw [if_neg (not_not_intro a), if_neg (not_not_intro a), if_neg (not_not_intro a), if_neg (not_not_intro a)]
    have em : m5 ro b v = (ro, v.2.1, nI 1, v.2.2.2.1, v.2.2.2.2) := by
      unfold m5 mwS mwO mwL mwD
      rw [hm, if_neg (by decide), if_neg (by decide), if_neg (by decide), if_neg (by decide)]
    rw [ew, em, hm]
    exact ⟨⟨h1, rfl, h3, h4, Or.inr ⟨rfl, a⟩, h6, h7⟩, ⟨fun _ => rfl, fun _ => by decide⟩, ⟨fun q => absurd (by decide) q, fun q => absurd q z01⟩⟩
  · have hm : mwB v.2.2.1 v.2.2.2.1 = true := by
      rw [h2, h3, hon, mwB, if_neg (not_not_intro z0), if_pos (fun q => a ((i64_0 _).mp q))]
    have ew : w4 F q b u = (va_cpy F u.1 q (b * 64) 64, u.2.1, (if u.2.2.1 ≤ 0 then u.2.2.1 else u.2.2.1 - nI 1), u.2.2.2 + 1) := by
      unfold w4 wrS wrO wrL wrD
      rw [if_pos a, if_pos a, if_pos a, if_pos a]
    have em : m5 ro b v = (ro, wmF ro v.2.1 b 64, nI 0, v.2.2.2.1 - (if v.2.2.2.1 ≤ 0 then 0 else 1), v.2.2.2.2 + 1) := by
      unfold m5 mwS mwO mwL mwD
      rw [hm, if_pos rfl, if_pos rfl, if_pos rfl, if_pos rfl]
    rw [ew, em, hm]
    refine ⟨⟨by show wmF ro v.2.1 b 64 = va_cpy F u.1 q (b * 64) 64; rw [h1]; exact wm_cpy hr, hon.symm, ?_, by show v.2.2.2.2 + 1 = u.2.2.2 + 1; rw [h4], Or.inl hon, ?_, By.cpy (fun j hj => hB j hj) h7⟩, ⟨fun q => absurd q (by decide), fun q => absurd (hon.symm.trans q) (by decide)⟩, ⟨fun _ => hon, fun _ => by decide⟩⟩
    · show v.2.2.2.1 - (if v.2.2.2.1 ≤ 0 then 0 else 1) = (if u.2.2.1 ≤ 0 then u.2.2.1 else u.2.2.1 - nI 1).toInt64
      rw [h3]
      by_cases q : u.2.2.1 ≤ 0
      · rw [if_pos q, if_pos ((i64_le _).mpr q), Int64.sub_zero]
      · rw [if_neg q, if_neg (fun z => q ((i64_le _).mp z)), i64_pred q]
    · show (if u.2.2.1 ≤ 0 then u.2.2.1 else u.2.2.1 - nI 1) = -1 ∨ ¬ (if u.2.2.1 ≤ 0 then u.2.2.1 else u.2.2.1 - nI 1) < 0
      by_cases q : u.2.2.1 ≤ 0
      · rw [if_pos q]; exact h6
      · rw [if_neg q]
        right
        obtain ⟨j, hj, e⟩ := nI_of (x := u.2.2.1) (fun z => q (Int32.le_of_lt z))
        have h1 : 1 ≤ j := by
          rcases Nat.eq_zero_or_pos j with z | z
          · exact absurd (by rw [e, z]; decide) q
          · exact z
        rw [e, pk_sub h1]
        exact nI_pos (by omega)
/-- with the power off the class's writes do nothing -/
theorem rw_off {u : W4} (h : u.2.1 = nI 1) (hl : u.2.2.1 = 0) (F : Nat → Int32) (q b : Nat) : w4 F q b u = u := by
  unfold w4 wrS wrO wrL wrD
  rw [if_neg (not_not_intro hl), if_neg (not_not_intro hl), if_neg (not_not_intro hl), if_neg (not_not_intro hl), ← h]

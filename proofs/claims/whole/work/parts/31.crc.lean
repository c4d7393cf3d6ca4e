/-! Numbers out of bytes, and the check: the class's way and the reference's way give one word. -/
theorem nx_or (a b : Nat) : nI a ||| nI b = nI (a ||| b) := by
  apply Int32.toBitVec_inj.1
  show BitVec.ofNat 32 a ||| BitVec.ofNat 32 b = BitVec.ofNat 32 (a ||| b)
  apply BitVec.eq_of_getLsbD_eq
  intro i hi
  simp [hi]
theorem bt_nI (n i : Nat) (hi : i < 32) : bt (nI n) i = n.testBit i := by
  show (BitVec.ofNat 32 n).getLsbD i = _
  rw [BitVec.getLsbD_ofNat, decide_eq_true hi, Bool.true_and]
theorem bl_lN (n i : Nat) (hi : i < 64) : bl (lN n) i = n.testBit i := by
  show (BitVec.ofNat 64 n).getLsbD i = _
  rw [BitVec.getLsbD_ofNat, decide_eq_true hi, Bool.true_and]
theorem ze_nI {n : Nat} (h : n < 2 ^ 32) : ze (nI n) = lN n := l_ext (fun i hi => by
  rw [bl_ze _ hi, bl_lN n i hi]
  by_cases q : i < 32
  · rw [decide_eq_true q, bt_nI n i q, Bool.true_and]
  · rw [decide_eq_false q, Bool.false_and, Nat.testBit_lt_two_pow (Nat.lt_of_lt_of_le h (Nat.pow_le_pow_right (by omega) (by omega)))])
theorem or_add {a b k : Nat} (h : a < 2 ^ k) : a ||| (b * 2 ^ k) = a + b * 2 ^ k := by
  rw [← Nat.shiftLeft_eq, Nat.or_comm, ← Nat.shiftLeft_add_eq_or_of_lt h, Nat.add_comm]
theorem sh_n {b i : Nat} (hb : b < 256) (hi : i < 4) : nI b <<< (nI (8 * i) &&& 31) = nI (b * 2 ^ (8 * i)) := by
  refine pk_shlN _ (8 * i) (s_l (8 * i) (by omega)) ?_
  have : 2 ^ (8 * i) ≤ 2 ^ 24 := Nat.pow_le_pow_right (by omega) (by omega)
  calc b * 2 ^ (8 * i) ≤ 255 * 2 ^ 24 := Nat.mul_le_mul (by omega) this
    _ < 2 ^ 32 := by decide
theorem hw_n {f : Nat → Int32} {p b0 b1 b2 b3 : Nat} (h0 : b0 < 256) (h1 : b1 < 256) (h2 : b2 < 256) (h3 : b3 < 256) (e0 : f p = nI b0) (e1 : f (p + 1) = nI b1) (e2 : f (p + 2) = nI b2) (e3 : f (p + 3) = nI b3) :
    hwF f p 4 = nI (b0 + b1 * 2 ^ 8 + b2 * 2 ^ 16 + b3 * 2 ^ 24) := by
  rw [hwF, hwF, hwF, hwF, hwF, Nat.add_zero, e0, e1, e2, e3, sh_n h0 (by omega), sh_n h1 (by omega), sh_n h2 (by omega), sh_n h3 (by omega), nx_or, nx_or, nx_or, nx_or, Nat.zero_or,
    show b0 * 2 ^ (8 * 0) = b0 by omega, show 8 * 1 = 8 from rfl, show 8 * 2 = 16 from rfl, show 8 * 3 = 24 from rfl, or_add (a := b0) (b := b1) (k := 8) (by omega), or_add (a := b0 + b1 * 2 ^ 8) (b := b2) (k := 16) (by omega), or_add (a := b0 + b1 * 2 ^ 8 + b2 * 2 ^ 16) (b := b3) (k := 24) (by omega)]
theorem nu_n {f : Nat → Int32} {p b0 b1 b2 b3 : Nat} (h0 : b0 < 256) (h1 : b1 < 256) (h2 : b2 < 256) (h3 : b3 < 256) (e0 : f p = nI b0) (e1 : f (p + 1) = nI b1) (e2 : f (p + 2) = nI b2) (e3 : f (p + 3) = nI b3) :
    nuF f p 4 0 = lN (b0 + b1 * 2 ^ 8 + b2 * 2 ^ 16 + b3 * 2 ^ 24) := by
  rw [nuF, nuF, nuF, nuF, nuF, Nat.add_zero p, e0, e1, e2, e3, nI_l (by omega), nI_l (by omega), nI_l (by omega), nI_l (by omega), show (0 : Int64) = lN 0 from rfl, show (256 : Int64) = lN 256 from rfl]
  simp only [lN_mul, lN_add]
  congr 1
  omega
theorem num4 {f : Nat → Int32} (h : By f) (p : Nat) : nuF f p 4 0 = ze (hwF f p 4) := by
  obtain ⟨b0, h0, e0⟩ := h p
  obtain ⟨b1, h1, e1⟩ := h (p + 1)
  obtain ⟨b2, h2, e2⟩ := h (p + 2)
  obtain ⟨b3, h3, e3⟩ := h (p + 3)
  rw [hw_n h0 h1 h2 h3 e0 e1 e2 e3, nu_n h0 h1 h2 h3 e0 e1 e2 e3, ze_nI (by omega)]
theorem num2 {f : Nat → Int32} (h : By f) (i : Nat) : tgM f i = htF f i := by
  obtain ⟨b0, h0, e0⟩ := h (5 + 2 * i)
  obtain ⟨b1, h1, e1⟩ := h (5 + 2 * i + 1)
  unfold tgM htF
  rw [nuF, nuF, nuF, Nat.add_zero (5 + 2 * i), e0, e1, nI_l (by omega), nI_l (by omega), show (0 : Int64) = lN 0 from rfl, show (256 : Int64) = lN 256 from rfl]
  simp only [lN_mul, lN_add]
  rw [lN_i, show nI 8 = nI (8 * 1) from rfl, sh_n h1 (by omega), nx_or, show 8 * 1 = 8 from rfl, or_add (by omega)]
  congr 1
  omega
/-! the steps of the check -/
theorem us1 (x : Int32) (i : Nat) : bt ((x.toUInt32 >>> ((nI 1).toUInt32 &&& Int32.toUInt32 31)).toInt32) i = bt x (1 + i) := b_ushr 1 (by omega) x i
theorem one_bt (x : Int32) : (x &&& nI 1 = nI 1) ↔ bt x 0 = true := by
  constructor
  · intro h
    have q := congrArg (fun z => bt z 0) h
    simp only [b_and] at q
    have z : bt (nI 1) 0 = true := by decide
    rw [z, Bool.and_true] at q
    exact q
  · intro h
    refine b_ext (fun i hi => ?_)
    rw [b_and]
    by_cases e : i = 0
    · rw [e, h, Bool.true_and]
    · rw [(by decide +kernel : ∀ i, i < 32 → i ≠ 0 → bt (nI 1) i = false) i hi e, Bool.and_false]
def PL : Int32 := -2097792136
theorem c1_bt (x : Int32) (i : Nat) : bt (c1F x) i = (bt x (1 + i) ^^ (bt x 0 && bt PL i)) := by
  unfold c1F
  by_cases h : x &&& nI 1 = nI 1
  · rw [if_neg (not_not_intro h), b_xor, us1, (one_bt x).mp h, Bool.true_and]; rfl
  · rw [if_pos h, us1]
    have : bt x 0 = false := by
      cases q : bt x 0
      · rfl
      · exact absurd ((one_bt x).mpr q) h
    rw [this, Bool.false_and, Bool.xor_false]
theorem c1_xor (x y : Int32) : c1F (x ^^^ y) = c1F x ^^^ c1F y := b_ext (fun i hi => by
  rw [b_xor, c1_bt, c1_bt, c1_bt, b_xor, b_xor]
  cases bt x (1 + i) <;> cases bt y (1 + i) <;> cases bt x 0 <;> cases bt y 0 <;> cases bt PL i <;> rfl)
theorem cn_xor : ∀ (k : Nat) (x y : Int32), cnF k (x ^^^ y) = cnF k x ^^^ cnF k y := by
  intro k
  induction k with
  | zero => intro x y; rfl
  | succ k ih => intro x y; rw [cnF, cnF, cnF, c1_xor]; exact ih _ _
theorem cn_hi : ∀ (k : Nat) (z : Int32), (∀ j, j < k → bt z j = false) → ∀ i, bt (cnF k z) i = bt z (k + i) := by
  intro k
  induction k with
  | zero => intro z _ i; rw [cnF, Nat.zero_add]
  | succ k ih =>
    intro z h i
    have h1 : ∀ i, bt (c1F z) i = bt z (1 + i) := fun i => by rw [c1_bt, h 0 (by omega), Bool.false_and, Bool.xor_false]
    rw [cnF, ih (c1F z) (fun j hj => by rw [h1]; exact h (1 + j) (by omega)), h1]
    congr 1
    omega
/-- a byte by the row of steps is a byte by eight steps -/
theorem tab_step {w b : Int32} (hb : ∀ i, 8 ≤ i → bt b i = false) : (w.toUInt32 >>> ((nI 8).toUInt32 &&& Int32.toUInt32 31)).toInt32 ^^^ cnF 8 ((w ^^^ b) &&& nI 255) = cnF 8 (w ^^^ b) := by
  have e : w ^^^ b = (((w ^^^ b) ^^^ ((w ^^^ b) &&& nI 255)) ^^^ ((w ^^^ b) &&& nI 255)) := b_ext (fun i hi => by
    rw [b_xor (_ ^^^ _) (_ &&& _), b_xor (w ^^^ b) (_ &&& _)]
    cases bt (w ^^^ b) i <;> cases bt ((w ^^^ b) &&& nI 255) i <;> rfl)
  have h255 : ∀ i, bt (nI 255) i = decide (i < 8) := fun i => b_255 i
  have hz : ∀ i, bt ((w ^^^ b) ^^^ ((w ^^^ b) &&& nI 255)) i = (!decide (i < 8) && bt w i) := fun i => by
    rw [b_xor, b_and, h255, b_xor]
    by_cases q : i < 8
    · rw [decide_eq_true q]; cases (bt w i ^^ bt b i) <;> rfl
    · rw [decide_eq_false q, hb i (by omega)]; cases bt w i <;> rfl
  have e2 : cnF 8 ((w ^^^ b) ^^^ ((w ^^^ b) &&& nI 255)) = (w.toUInt32 >>> ((nI 8).toUInt32 &&& Int32.toUInt32 31)).toInt32 := b_ext (fun i hi => by
    rw [cn_hi 8 _ (fun j hj => by rw [hz, decide_eq_true hj]; rfl), hz, b_ushr 8 (by omega), decide_eq_false (by omega)]; rfl)
  rw [← e2, ← cn_xor, ← e]
theorem ck_at {x : Int32} : ckF 256 (x &&& nI 255).toNatClampNeg = cnF 8 (x &&& nI 255) := by
  obtain ⟨b, hb, e⟩ := by_and x
  rw [e, nI_clamp (by omega), ckF, if_pos hb]
theorem pc_step {f : Nat → Int32} (h : By f) (i : Nat) (w : Int32) : (w.toUInt32 >>> ((nI 8).toUInt32 &&& Int32.toUInt32 31)).toInt32 ^^^ ckF 256 ((w ^^^ f i) &&& nI 255).toNatClampNeg = cnF 8 (w ^^^ f i) := by
  rw [ck_at, tab_step (fun j hj => h.top i hj)]
/-- the reference's word is the class's, read backwards -/
def Rv (w : Int32) (u : Int64) : Prop := (∀ i, i < 32 → bl u i = bt w (31 - i)) ∧ ∀ i, 32 ≤ i → i < 64 → bl u i = false
def cs1 (w : Int32) (b : Bool) : Int32 := if bt w 0 = b then (w.toUInt32 >>> ((nI 1).toUInt32 &&& Int32.toUInt32 31)).toInt32 else (w.toUInt32 >>> ((nI 1).toUInt32 &&& Int32.toUInt32 31)).toInt32 ^^^ PL
theorem cs1_bt (w : Int32) (b : Bool) (i : Nat) : bt (cs1 w b) i = (bt w (1 + i) ^^ ((bt w 0 ^^ b) && bt PL i)) := by
  unfold cs1
  by_cases h : bt w 0 = b
  · rw [if_pos h, us1, h]; cases b <;> simp
  · rw [if_neg h, b_xor, us1]
    cases q : bt w 0 <;> cases b <;> simp_all
theorem P_rev : ∀ i, i < 32 → bl 517762881 i = bt PL (31 - i) := by decide +kernel
theorem P_top : ∀ i, i < 64 → 32 ≤ i → bl 517762881 i = false := by decide +kernel
theorem m1_test {w x : Int32} {u : Int64} (h : Rv w u) {j : Nat} (hj : j < 8) : (u >>> ((nI 31).toInt64 &&& 63) = ((x >>> (nI j &&& 31)) &&& nI 1).toInt64) ↔ bt w 0 = bt x j := by
  have hl : ∀ i, i < 64 → bl (u >>> ((nI 31).toInt64 &&& 63)) i = (decide (i = 0) && bt w 0) := fun i hi => by
    rw [l_sshr 31 (by omega) u hi]
    by_cases e : i = 0
    · rw [e, if_pos (by omega), h.1 31 (by omega), decide_eq_true rfl, Bool.true_and]
    · rw [decide_eq_false e, Bool.false_and]
      by_cases q : 31 + i < 64
      · rw [if_pos q, h.2 _ (by omega) q]
      · rw [if_neg q, h.2 63 (by omega) (by omega)]
  have hb : ∀ i, i < 32 → bt ((x >>> (nI j &&& 31)) &&& nI 1) i = (decide (i = 0) && bt x j) := fun i hi => by
    rw [b_and, b_sshr j (by omega) x hi]
    by_cases e : i = 0
    · rw [e, if_pos (by omega), decide_eq_true rfl, Bool.true_and, Nat.add_zero, show bt (nI 1) 0 = true by decide, Bool.and_true]
    · rw [decide_eq_false e, Bool.false_and, (by decide +kernel : ∀ i, i < 32 → i ≠ 0 → bt (nI 1) i = false) i hi e, Bool.and_false]
  have hr : ∀ i, i < 64 → bl ((x >>> (nI j &&& 31)) &&& nI 1).toInt64 i = (decide (i = 0) && bt x j) := fun i hi => by
    rw [bl_i _ hi]
    by_cases q : i < 32
    · rw [if_pos q, hb i q]
    · rw [if_neg q, hb 31 (by omega), decide_eq_false (by omega), decide_eq_false (by omega)]
  constructor
  · intro e
    have q : bl (u >>> ((nI 31).toInt64 &&& 63)) 0 = bl ((x >>> (nI j &&& 31)) &&& nI 1).toInt64 0 := by rw [e]
    rw [hl 0 (by omega), hr 0 (by omega), decide_eq_true rfl, Bool.true_and, Bool.true_and] at q
    exact q
  · intro e
    exact l_ext (fun i hi => by rw [hl i hi, hr i hi, e])
theorem m1_rv {w x : Int32} {u : Int64} (h : Rv w u) {j : Nat} (hj : j < 8) : Rv (cs1 w (bt x j)) (m1F x j u) := by
  have base : ∀ i, i < 64 → bl ((u <<< ((nI 1).toInt64 &&& 63)) &&& 4294967295) i = (decide (i < 32) && bt w (32 - i)) := fun i hi => by
    rw [l_and, l_m32, l_shl 1 (by omega) u hi]
    by_cases q : i < 32
    · rw [decide_eq_true q, Bool.and_true, Bool.true_and]
      by_cases z : 1 ≤ i
      · rw [decide_eq_true z, Bool.true_and, h.1 _ (by omega)]
        congr 1
        omega
      · rw [decide_eq_false z, Bool.false_and, show 32 - i = 32 by omega, b_big (by omega)]
    · rw [decide_eq_false q, Bool.and_false, Bool.false_and]
  have key : ∀ i, i < 64 → bl (m1F x j u) i = (decide (i < 32) && (bt w (32 - i) ^^ ((bt w 0 ^^ bt x j) && bt PL (31 - i)))) := fun i hi => by
    unfold m1F
    by_cases t : bt w 0 = bt x j
    · rw [if_pos ((m1_test h hj).mpr t), base i hi, t]
      cases bt x j <;> simp
    · rw [if_neg (fun z => t ((m1_test h hj).mp z)), l_xor, base i hi]
      have tt : (bt w 0 ^^ bt x j) = true := by
        cases q1 : bt w 0 <;> cases q2 : bt x j <;> simp_all
      rw [tt, Bool.true_and]
      by_cases q : i < 32
      · rw [decide_eq_true q, Bool.true_and, Bool.true_and, P_rev i q]
      · rw [decide_eq_false q, Bool.false_and, Bool.false_and, P_top i hi (by omega), Bool.xor_false]
  refine ⟨fun i hi => ?_, fun i h1 h2 => ?_⟩
  · rw [key i (by omega), decide_eq_true hi, Bool.true_and, cs1_bt]
    congr 2
    omega
  · rw [key i h2, decide_eq_false (by omega), Bool.false_and]
/-- the byte's bits from j on -/
def shb (b : Int32) (j : Nat) : Int32 := (b.toUInt32 >>> ((nI j).toUInt32 &&& Int32.toUInt32 31)).toInt32
theorem shb_step (w b : Int32) {j : Nat} (hj : j < 8) : c1F (w ^^^ shb b j) = cs1 w (bt b j) ^^^ shb b (j + 1) := b_ext (fun i hi => by
  rw [c1_bt, b_xor, b_xor, b_xor, cs1_bt]
  unfold shb
  rw [b_ushr j (by omega), b_ushr j (by omega), b_ushr (j + 1) (by omega), Nat.add_zero, show j + (1 + i) = j + 1 + i by omega]
  cases bt w (1 + i) <;> cases bt b (j + 1 + i) <;> cases bt w 0 <;> cases bt b j <;> cases bt PL i <;> rfl)
theorem m8_rv {b : Int32} : ∀ (k j : Nat) (w : Int32) (u : Int64), j + k = 8 → (∀ i, 8 ≤ i → bt b i = false) → Rv w u → Rv (cnF k (w ^^^ shb b j)) (m8F b k j u) := by
  intro k
  induction k with
  | zero =>
    intro j w u hj hb h
    have : w ^^^ shb b j = w := b_ext (fun i hi => by
      rw [b_xor]
      unfold shb
      rw [b_ushr j (by omega), hb _ (by omega), Bool.xor_false])
    rw [cnF, m8F, this]
    exact h
  | succ k ih =>
    intro j w u hj hb h
    rw [cnF, m8F, shb_step w b (by omega)]
    exact ih (j + 1) _ _ (by omega) hb (m1_rv h (by omega))
theorem shb_0 (b : Int32) : shb b 0 = b := b_ext (fun i hi => by unfold shb; rw [b_ushr 0 (by omega), Nat.zero_add])
theorem mc_rv {f : Nat → Int32} (hf : By f) : ∀ (k i : Nat) (w : Int32) (u : Int64), Rv w u → Rv (pcF f (ckF 256) k (64 + i) w) (mcF f k i u) := by
  intro k
  induction k with
  | zero => intro i w u h; exact h
  | succ k ih =>
    intro i w u h
    rw [pcF, mcF, pc_step hf, show 64 + i + 1 = 64 + (i + 1) by omega]
    refine ih (i + 1) _ _ ?_
    have := m8_rv (b := f (64 + i)) 8 0 w u (by omega) (fun j hj => hf.top _ hj) h
    rw [shb_0] at this
    exact this
theorem mt_bl (u : Int64) : ∀ (k j : Nat) (t : Int64), j + k = 32 → ∀ i, i < 64 → bl (mtF u k j t) i = (bl t i || (decide (i < 32 - j) && bl u (31 - i))) := by
  intro k
  induction k with
  | zero =>
    intro j t hj i hi
    rw [mtF, decide_eq_false (by omega), Bool.false_and, Bool.or_false]
  | succ k ih =>
    intro j t hj i hi
    have hb : ∀ z, z < 64 → bl ((u >>> ((nI j).toInt64 &&& 63)) &&& 1) z = (decide (z = 0) && bl u j) := fun z hz => by
      rw [l_and, l_1, l_sshr j (by omega) u hz]
      by_cases e : z = 0
      · rw [e, if_pos (by omega), decide_eq_true rfl, Bool.and_true, Bool.true_and, Nat.add_zero]
      · rw [decide_eq_false e, Bool.and_false, Bool.false_and]
    rw [mtF, ih (j + 1) _ (by omega) i hi, l_or, l_shl (31 - j) (by omega) _ hi, hb _ (by omega)]
    by_cases e : i = 31 - j
    · rw [e, decide_eq_true (Nat.le_refl _), decide_eq_true (by omega), decide_eq_false (by omega), decide_eq_true (by omega), show 31 - (31 - j) = j by omega]
      simp
    · by_cases z : i < 32 - (j + 1)
      · rw [decide_eq_false (p := 31 - j ≤ i) (by omega), decide_eq_true z, decide_eq_true (p := i < 32 - j) (by omega)]
        simp
      · rw [decide_eq_false z, decide_eq_false (p := i < 32 - j) (by omega)]
        by_cases y : 31 - j ≤ i
        · rw [decide_eq_false (p := i - (31 - j) = 0) (by omega)]; simp
        · rw [decide_eq_false y]; simp
/-- THE CHECK: the class's word, as a number from 0 on, is the reference's -/
theorem check_eq {f : Nat → Int32} (hf : By f) (n : Nat) : ckM f n = ze (pcF f (ckF 256) (n * 64) 64 (-1) ^^^ (-1)) := by
  have h0 : Rv (-1) 4294967295 := ⟨fun i hi => by rw [l_m32, decide_eq_true hi, b_m1 _ (by omega)], fun i h1 h2 => by rw [l_m32, decide_eq_false (by omega)]⟩
  have h := mc_rv hf (64 * n) 0 (-1) 4294967295 h0
  rw [Nat.add_zero, Nat.mul_comm 64 n] at h
  unfold ckM
  rw [Nat.mul_comm 64 n]
  refine l_ext (fun i hi => ?_)
  rw [l_xor, mt_bl _ 32 0 0 (by omega) i hi, l_m32, l_0, bl_ze _ hi, b_xor]
  by_cases q : i < 32
  · rw [decide_eq_true q, b_m1 i q, h.1 (31 - i) (by omega), show 31 - (31 - i) = i by omega]
    simp [q]
  · rw [decide_eq_false q]
    simp [q]

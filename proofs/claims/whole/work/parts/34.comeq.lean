/-! A commit and a recovery on both sides. -/
def cS (ck nh nh2 cb cy : Nat → Int32) (n : Nat) (w : Int32) (i : Nat) (u : W4) : W4 := if i = n then w4 (fhF u.1 ck nh cb n w) 0 0 u else if ¬ i = 2 * n + 1 then (if n ≤ i then w4 cy ((i - n - 1) * 64) (cb (i - n - 1)).toNatClampNeg u else w4 cy (i * 64) (1 + i) u) else w4 nh2 0 0 u
def cfd (ck nh nh2 cb cy : Nat → Int32) (n : Nat) (w : Int32) : Nat → Nat → W4 → W4
  | 0, _, u => u
  | k + 1, i, u => cfd ck nh nh2 cb cy n w k (i + 1) (cS ck nh nh2 cb cy n w i u)
theorem cfd_succ (ck nh nh2 cb cy : Nat → Int32) (n : Nat) (w : Int32) : ∀ k i u, cfd ck nh nh2 cb cy n w (k + 1) i u = cS ck nh nh2 cb cy n w (i + k) (cfd ck nh nh2 cb cy n w k i u) := by
  intro k
  induction k with
  | zero => intro i u; rfl
  | succ k ih =>
    intro i u
    rw [cfd, ih (i + 1), show i + 1 + k = i + (k + 1) by omega]
    rfl
theorem cS_off (ck nh nh2 cb cy : Nat → Int32) (n : Nat) (w : Int32) (i : Nat) {u : W4} (h : u.2.1 = nI 1) (hl : u.2.2.1 = 0) : cS ck nh nh2 cb cy n w i u = u := by
  unfold cS
  rw [rw_off h hl, rw_off h hl, rw_off h hl, rw_off h hl]
  split
  · rfl
  · split
    · split <;> rfl
    · rfl
theorem cfd_off (ck nh nh2 cb cy : Nat → Int32) (n : Nat) (w : Int32) : ∀ k i (u : W4), u.2.1 = nI 1 → u.2.2.1 = 0 → cfd ck nh nh2 cb cy n w k i u = u := by
  intro k
  induction k with
  | zero => intro i u _ _; rfl
  | succ k ih => intro i u h hl; rw [cfd, cS_off ck nh nh2 cb cy n w i h hl]; exact ih _ _ h hl
theorem cpR_at (cy ro : Nat → Int32) (x : Nat) : ∀ i j, cpR cy ro x i j = if j < i then cy (64 * x + j) else ro j := by
  intro i
  induction i with
  | zero => intro j; rw [cpR, if_neg (by omega)]
  | succ i ih =>
    intro j
    rw [cpR]
    by_cases q : j = i
    · rw [q, pk_us, if_pos (by omega)]
    · rw [pk_un q, ih j]
      by_cases z : j < i
      · rw [if_pos z, if_pos (by omega)]
      · rw [if_neg z, if_neg (by omega)]
theorem prR_at (st ro : Nat → Int32) (x : Nat) : ∀ i j, prR st ro x i j = if j < i then st (64 * (1 + x) + j) else ro j := by
  intro i
  induction i with
  | zero => intro j; rw [prR, if_neg (by omega)]
  | succ i ih =>
    intro j
    rw [prR]
    by_cases q : j = i
    · rw [q, pk_us, if_pos (by omega)]
    · rw [pk_un q, ih j]
      by_cases z : j < i
      · rw [if_pos z, if_pos (by omega)]
      · rw [if_neg z, if_neg (by omega)]
/-- how the reference's changes lie beside the class's -/
def CH (cb cy cb' cy' : Nat → Int32) (pi : Nat → Nat) (n : Nat) : Prop := ∀ i, i < n → (∃ b : Nat, b < 96 ∧ cb i = nI b) ∧ cb' (pi i) = cb i ∧ ∀ k, k < 64 → cy' (64 * pi i + k) = cy (i * 64 + k)
theorem RW_on {u : W4} {v : M5} (h : RW u v) (q : ¬ u.2.1 = nI 1) : u.2.1 = nI 0 := h.2.2.2.2.1.elim id (fun z => absurd z.1 q)
theorem RW_off {u : W4} {v : M5} (h : RW u v) (q : u.2.1 = nI 1) : u.2.2.1 = 0 := h.2.2.2.2.1.elim (fun z => absurd (q.symm.trans z) (by decide)) (fun z => z.2)
/-- one write of a commit -/
theorem cs_step {nh nh2 X cb cy cb' cy' : Nat → Int32} {pi : Nat → Nat} {n : Nat} {w : Int32} (hn1 : 1 ≤ n) (hn : n ≤ 24) (hC : CH cb cy cb' cy' pi n) (hcy : By cy) (h2 : nh2 = ehF X (w + nI 1)) {u : W4} {v : M5} (h : RW u v) (hon : u.2.1 = nI 0) {i : Nat} (hi : i ≤ 2 * n + 1) :
    RW (cS (ckF 256) nh nh2 cb cy n w i u) (m5 (crF v.2.1 v.1 cb' cy' pi n i (ze w)) (crB cb' pi n i) v) ∧ (bI (mwB v.2.2.1 v.2.2.2.1) = 0 ↔ (cS (ckF 256) nh nh2 cb cy n w i u).2.1 = nI 1) ∧ (¬ bI (mwB v.2.2.1 v.2.2.2.1) = 0 ↔ (cS (ckF 256) nh nh2 cb cy n w i u).2.1 = nI 0) := by
  have hB := h.2.2.2.2.2.2
  unfold cS crF crB
  by_cases a1 : i = n
  · rw [if_pos a1, if_pos a1, if_pos a1, hdF, if_pos (nI_ne0 (by omega) (by omega))]
    refine rw_step h hon (fun k hk => ?_) (fun k hk => ?_)
    · rw [Nat.zero_add, h.1]
      exact (fh_mf hB (ze_32 w) (fun j hj => ⟨(hC j hj).1, (hC j hj).2.1⟩) hk).symm
    · rw [Nat.zero_add]; exact B1_fh hn (fun j hj => (hC j hj).1) hk
  · rw [if_neg a1, if_neg a1, if_neg a1]
    by_cases a2 : i = 2 * n + 1
    · rw [if_neg (not_not_intro a2), if_neg (not_not_intro a2), if_neg (not_not_intro a2), hdF, if_neg (by decide)]
      refine rw_step h hon (fun k hk => ?_) (fun k hk => ?_)
      · rw [Nat.zero_add, h2]
        exact (eh_me X v.1 (ze_1 w) hk).symm
      · rw [Nat.zero_add, h2]; exact B1_eh X _ hk
    · rw [if_pos a2, if_pos a2, if_pos a2]
      by_cases a3 : n ≤ i
      · obtain ⟨-, e1, e2⟩ := hC (i - n - 1) (by omega)
        rw [if_pos a3, if_pos a3, if_pos a3, e1]
        refine rw_step h hon (fun k hk => ?_) (fun k hk => hcy _)
        rw [cpR_at, if_pos hk]; exact e2 k hk
      · obtain ⟨-, e1, e2⟩ := hC i (by omega)
        rw [if_neg a3, if_neg a3, if_neg a3]
        refine rw_step h hon (fun k hk => ?_) (fun k hk => hcy _)
        rw [cpR_at, if_pos hk]; exact e2 k hk
theorem cs_loop {nh nh2 X cb cy cb' cy' : Nat → Int32} {pi : Nat → Nat} {n : Nat} {w : Int32} (hn1 : 1 ≤ n) (hn : n ≤ 24) (hC : CH cb cy cb' cy' pi n) (hcy : By cy) (h2 : nh2 = ehF X (w + nI 1)) :
    ∀ (k i : Nat) (g : Int32) (u : W4) (v : M5), i + k ≤ 2 * n + 2 → RW u v → (g = 0 ↔ u.2.1 = nI 1) →
      RW (cfd (ckF 256) nh nh2 cb cy n w k i u) (mcL cb' cy' pi n (ze w) k i g v).1 ∧ ((mcL cb' cy' pi n (ze w) k i g v).2 = 0 ↔ (cfd (ckF 256) nh nh2 cb cy n w k i u).2.1 = nI 1) := by
  intro k
  induction k with
  | zero => intro i g u v _ h hg; exact ⟨h, hg⟩
  | succ k ih =>
    intro i g u v hk h hg
    rw [mcL]
    by_cases a : g = 0
    · have ho := hg.mp a
      rw [if_pos a, cfd_off _ _ _ _ _ _ _ _ _ _ ho (RW_off h ho)]
      exact ⟨h, hg⟩
    · rw [if_neg a, cfd]
      obtain ⟨s1, s2, -⟩ := cs_step hn1 hn hC hcy h2 h (RW_on h (fun z => a (hg.mpr z))) (i := i) (by omega)
      exact ih (i + 1) _ _ _ (by omega) s1 s2
theorem cfd_cm {st ck nh cb cy : Nat → Int32} {n : Nat} {u : W4} (hn1 : 1 ≤ n) : cfd ck nh (cmH st ck nh cb cy n u) cb cy n (hwF st 0 4) (2 * n + 2) 0 u = cmU st ck nh cb cy n u := by
  have p1 : ∀ a, a ≤ n → cfd ck nh (cmH st ck nh cb cy n u) cb cy n (hwF st 0 4) a 0 u = wpF cy a u := by
    intro a
    induction a with
    | zero => intro _; rfl
    | succ a ih =>
      intro ha
      rw [cfd_succ, ih (by omega), cS, if_neg (by omega), if_pos (by omega), if_neg (by omega), Nat.zero_add]
      rfl
  have p2 : ∀ a, a ≤ n → cfd ck nh (cmH st ck nh cb cy n u) cb cy n (hwF st 0 4) (n + 1 + a) 0 u = wbF cy cb a (cm2 st ck nh cb cy n u) := by
    intro a
    induction a with
    | zero =>
      intro _
      rw [Nat.add_zero, cfd_succ, p1 n (Nat.le_refl _), cS, if_pos (by omega)]
      rfl
    | succ a ih =>
      intro ha
      rw [show n + 1 + (a + 1) = (n + 1 + a) + 1 by omega, cfd_succ, ih (by omega), cS, if_neg (by omega), if_pos (by omega), if_pos (by omega), show 0 + (n + 1 + a) - n - 1 = a by omega]
      rfl
  rw [show 2 * n + 2 = (n + 1 + n) + 1 by omega, cfd_succ, p2 n (Nat.le_refl _), cS, if_neg (by omega), if_neg (not_not_intro (by omega))]
  rfl
/-- A COMMIT: what is left, and what is said -/
theorem commit_eq {st nh cb cy cb' cy' : Nat → Int32} {pi : Nat → Nat} {n : Nat} {u : W4} {v : M5} (hn1 : 1 ≤ n) (hn : n ≤ 24) (hC : CH cb cy cb' cy' pi n) (hcy : By cy) (hst : By st) (h : RW u v) (hon : u.2.1 = nI 0) :
    RW (cmU st (ckF 256) nh cb cy n u) (mcL cb' cy' pi n (nuF st 0 4 0) (2 * n + 2) 0 (nI 1) v).1 ∧ ((mcL cb' cy' pi n (nuF st 0 4 0) (2 * n + 2) 0 (nI 1) v).2 = 0 ↔ (cmU st (ckF 256) nh cb cy n u).2.1 = nI 1) := by
  rw [num4 hst, ← cfd_cm hn1]
  exact cs_loop hn1 hn hC hcy (X := fhF (wpF cy n u).1 (ckF 256) nh cb n (hwF st 0 4)) rfl (2 * n + 2) 0 (nI 1) u v (by omega) h ⟨fun z => absurd z (by decide), fun z => absurd (hon.symm.trans z) (by decide)⟩
/-! a recovery -/
def vS (i : Nat) (u : W4) : W4 := w4 u.1 ((1 + i) * 64) (htF u.1 i).toNatClampNeg u
def vfd : Nat → Nat → W4 → W4
  | 0, _, u => u
  | k + 1, i, u => vfd k (i + 1) (vS i u)
theorem vfd_succ : ∀ k i u, vfd (k + 1) i u = vS (i + k) (vfd k i u) := by
  intro k
  induction k with
  | zero => intro i u; rfl
  | succ k ih =>
    intro i u
    rw [vfd, ih (i + 1), show i + 1 + k = i + (k + 1) by omega]
    rfl
theorem vfd_wv : ∀ k u, vfd k 0 u = wvF k u := by
  intro k
  induction k with
  | zero => intro u; rfl
  | succ k ih => intro u; rw [vfd_succ, ih, Nat.zero_add]; rfl
theorem vfd_off : ∀ k i (u : W4), u.2.1 = nI 1 → u.2.2.1 = 0 → vfd k i u = u := by
  intro k
  induction k with
  | zero => intro i u _ _; rfl
  | succ k ih => intro i u h hl; rw [vfd, vS, rw_off h hl]; exact ih _ _ h hl
theorem vs_loop : ∀ (k i : Nat) (u : W4) (v : M5), RW u v → u.2.1 = nI 0 → RW (vfd k i u) (mvL k i v).1 ∧ ((mvL k i v).2 = true → (vfd k i u).2.1 = nI 0) ∧ ((mvL k i v).2 = false → (vfd k i u).2.1 = nI 1) := by
  intro k
  induction k with
  | zero => intro i u v h hon; exact ⟨h, fun _ => hon, fun z => by cases z⟩
  | succ k ih =>
    intro i u v h hon
    have hB := h.2.2.2.2.2.2
    obtain ⟨s1, s2, s3⟩ := rw_step h hon (F := u.1) (ro := prR v.2.1 v.1 i 64) (q := (1 + i) * 64) (b := (htF u.1 i).toNatClampNeg) (fun j hj => by rw [prR_at, if_pos hj, h.1, Nat.mul_comm]) (fun j hj => hB _)
    have et : tgM v.2.1 i = htF u.1 i := by rw [h.1]; exact num2 hB i
    rw [mvL, vfd, et]
    by_cases a : bI (mwB v.2.2.1 v.2.2.2.1) = 0
    · have ho := s2.mp a
      rw [if_neg (not_not_intro a), vfd_off k (i + 1) (vS i u) ho (RW_off s1 ho)]
      exact ⟨s1, fun z => (by cases z), fun _ => ho⟩
    · rw [if_pos a]
      exact ih (i + 1) (vS i u) _ s1 (s3.mp a)
theorem hw_low {f g : Nat → Int32} (h : ∀ j, j < 64 → f j = g j) : hwF f 0 4 = hwF g 0 4 := by
  rw [hwF, hwF, hwF, hwF, hwF, hwF, hwF, hwF, hwF, hwF, h _ (by omega), h _ (by omega), h _ (by omega), h _ (by omega)]
/-- A RECOVERY with the power on: what is left, and what is said -/
theorem recover_eq {st nh cb' : Nat → Int32} {wl : Int32} {wd : Int64} {v : M5} (h : RW (st, nI 0, wl, wd) v) :
    RW (reU st (ckF 256) nh (st, nI 0, wl, wd)) (mvR st cb' false v).1 ∧ (mvR st cb' false v).2 = reR st (ckF 256) nh (st, nI 0, wl, wd) := by
  have hB : By st := h.2.2.2.2.2.2
  rw [mvR, if_pos (by decide), hr_eq hB, reU, reR]
  by_cases a : ¬ bI (hrF st (ckF 256)) = 0
  · rw [if_pos a, if_pos a, if_pos a]
    obtain ⟨n, n1, n2, en, htg⟩ := hrF_nat a
    rw [en, nI_clamp (by omega)]
    obtain ⟨s1, s2, s3⟩ := vs_loop n 0 (st, nI 0, wl, wd) v h rfl
    rw [vfd_wv] at s1 s2 s3
    have hlow := wvF_low (u := (st, nI 0, wl, wd)) n2 htg n (Nat.le_refl _)
    have ehw : hwF (wvF n (st, nI 0, wl, wd)).1 0 4 = hwF st 0 4 := hw_low (fun j hj => hlow j (by omega))
    unfold rvU rvH mvE
    rw [ehw]
    cases q : (mvL n 0 v).2
    · have ho := s3 q
      rw [rw_off ho (RW_off s1 ho), if_neg (by decide), if_neg (by rw [ho]; decide)]
      exact ⟨s1, rfl⟩
    · have ho := s2 q
      rw [if_pos rfl, hdF, if_neg (by decide)]
      obtain ⟨t1, t2, t3⟩ := rw_step s1 ho (F := ehF nh (hwF st 0 4 + nI 1)) (ro := meF (mvL n 0 v).1.1 (nuF st 0 4 0 + 1)) (q := 0) (b := 0) (fun k hk => by rw [Nat.zero_add, num4 hB]; exact (eh_me nh _ (ze_1 _) hk).symm) (fun k hk => by rw [Nat.zero_add]; exact B1_eh nh _ hk)
      refine ⟨t1, ?_⟩
      by_cases z : bI (mwB (mvL n 0 v).1.2.2.1 (mvL n 0 v).1.2.2.2.1) = 0
      · show (if bI (mwB (mvL n 0 v).1.2.2.1 (mvL n 0 v).1.2.2.2.1) = 0 then -1 else nI n) = _
        rw [if_pos z, if_neg (by rw [t2.mp z]; decide)]
      · show (if bI (mwB (mvL n 0 v).1.2.2.1 (mvL n 0 v).1.2.2.2.1) = 0 then -1 else nI n) = _
        rw [if_neg z, if_pos (by rw [t3.mp z]; decide)]
  · rw [if_neg a, if_neg a, if_neg a]
    exact ⟨h, rfl⟩

/-! One call on both sides: what held before holds behind it, codes and answers are the same. -/
def LF (st tp : Nat → Int32) (T n : Nat) (o : Bool) (cb cy : Nat → Int32) (wl : Int32) (tp' cb' cy' : Nat → Int32) (pi : Nat → Nat) : Prop :=
  By st ∧ TPr tp tp' T ∧ PI cb cy cb' cy' pi n ∧ (o = true → wl = 0) ∧ (wl = -1 ∨ ¬ wl < 0)
def LI (u : XS) (w : MS) : Prop := ∃ (st nh tp : Nat → Int32) (T n : Nat) (o : Bool) (cb cy : Nat → Int32) (wl : Int32) (wd : Int64) (th : Int32) (tp' cb' cy' ro : Nat → Int32) (pi : Nat → Nat),
  u = (st, nh, tp, nI T, cb, cy, nI n, bI o, wl, wd) ∧ w = (th, st, tp', nI T, cb', cy', nI n, wd, wl.toInt64, bI o, ro) ∧ LF st tp T n o cb cy wl tp' cb' cy' pi
def LOK (u : XS) (w : MS) (r : Int32) (a c : Int64) : Prop := LI u w ∧ w.1 = r ∧ (r = nI 0 → a = c)
theorem K0 {k : Nat} (hk : k < 2 ^ 31) (h : nI k = nI 0) : k = 0 := (nI_eq hk (by omega)).mp h
theorem feK_le (n : Int32) (T : Nat) : feK n T < 2 ^ 31 := by
  unfold feK; repeat' split
  all_goals omega
theorem puK_le (cb : Nat → Int32) (n : Nat) (b : Int32) : puK cb n b < 2 ^ 31 := by
  unfold puK; repeat' split
  all_goals omega
theorem cmK_le (n : Nat) (o : Bool) : cmK n o < 2 ^ 31 := by
  unfold cmK; repeat' split
  all_goals omega
theorem reK_le (o : Bool) : reK o < 2 ^ 31 := by
  unfold reK; repeat' split
  all_goals omega
theorem atK_le (b k : Int32) : atK b k < 2 ^ 31 := by
  unfold atK; repeat' split
  all_goals omega
theorem chK_le (i : Int32) (n : Nat) : chK i n < 2 ^ 31 := by
  unfold chK; repeat' split
  all_goals omega
theorem lkK_le (w : Int32) : lkK w < 2 ^ 31 := by
  unfold lkK; repeat' split
  all_goals omega
theorem feK_0 {x : Int32} {T : Nat} (h : feK x T = 0) : x.toNatClampNeg ≤ 8 ∧ T + x.toNatClampNeg ≤ 64 := by
  unfold feK at h
  by_cases a : x < nI 1
  · rw [if_pos a] at h; cases h
  · rw [if_neg a] at h
    by_cases b : x ≤ nI 8
    · rw [if_pos b] at h
      have b1 : x.toInt ≤ 8 := Int32.le_iff_toInt_le.mp b
      have b2 : x.toNatClampNeg = x.toInt.toNat := rfl
      by_cases c : T + x.toNatClampNeg ≤ 64
      · exact ⟨by omega, c⟩
      · rw [if_neg c] at h; cases h
    · rw [if_neg b] at h; cases h
section ST
variable {st nh tp : Nat → Int32} {T n : Nat} {o : Bool} {cb cy : Nat → Int32} {wl : Int32} {wd : Int64} {th : Int32} {tp' cb' cy' ro : Nat → Int32} {pi : Nat → Nat} {u1 : XS} {w1 : MS} {r r2 : Int32} {a : Int64}
theorem s_feed (h : LF st tp T n o cb cy wl tp' cb' cy' pi) {x : Int32} {v : Int64}
    (hw : r = nI (feK x T) ∧ u1 = (if feK x T = 0 then (st, nh, fdF tp T v x.toNatClampNeg, nI (T + x.toNatClampNeg), cb, cy, nI n, bI o, wl, wd) else (st, nh, tp, nI T, cb, cy, nI n, bI o, wl, wd) : XS) ∧ (feK x T = 0 → a = (nI (T + x.toNatClampNeg)).toInt64))
    (hw2 : r2 = (if mfK x T = 0 then nI (T + x.toNatClampNeg) else nI 0) ∧ w1 = (nI (mfK x T), st, if mfK x T = 0 then fmF tp' T v x.toNatClampNeg else tp', if mfK x T = 0 then nI (T + x.toNatClampNeg) else nI T, cb', cy', nI n, wd, wl.toInt64, bI o, ro)) : LOK u1 w1 r a r2.toInt64 := by
  obtain ⟨rfl, rfl, ha⟩ := hw
  obtain ⟨rfl, rfl⟩ := hw2
  rw [fe_eq]
  obtain ⟨h1, h2, h3, h4, h5⟩ := h
  by_cases q : feK x T = 0
  · have q8 := feK_0 q
    simp only [if_pos q]
    exact ⟨⟨_, _, _, _, _, _, _, _, _, _, _, _, _, _, _, pi, rfl, rfl, h1, feed_eq h2 v q8.1 q8.2, h3, h4, h5⟩, rfl, fun _ => ha q⟩
  · simp only [if_neg q]
    exact ⟨⟨_, _, _, _, _, _, _, _, _, _, _, _, _, _, _, pi, rfl, rfl, h1, h2, h3, h4, h5⟩, rfl, fun z => absurd (K0 (feK_le x T) z) q⟩
theorem s_put (h : LF st tp T n o cb cy wl tp' cb' cy' pi) {b : Int32}
    (hw : r = nI (puK cb n b) ∧ u1 = (if puK cb n b = 0 then (st, nh, fiF tp (nI 0) 64, nI 0, puB cb n b, puY cb cy tp n b, nI (puN cb n b), bI o, wl, wd) else (st, nh, tp, nI T, cb, cy, nI n, bI o, wl, wd) : XS) ∧ (puK cb n b = 0 → a = (nI (puN cb n b)).toInt64))
    (hw2 : r2 = (if mpK cb' n b = 0 then nI (mpN cb' n b) else nI 0) ∧ w1 = (nI (mpK cb' n b), st, tp', if mpK cb' n b = 0 then nI 0 else nI T, if mpK cb' n b = 0 then upd cb' (mpX cb' n b) b else cb', if mpK cb' n b = 0 then ptF cy' tp' T (mpX cb' n b) 64 else cy', if mpK cb' n b = 0 then nI (mpN cb' n b) else nI n, wd, wl.toInt64, bI o, ro)) : LOK u1 w1 r a r2.toInt64 := by
  obtain ⟨rfl, rfl, ha⟩ := hw
  obtain ⟨rfl, rfl⟩ := hw2
  obtain ⟨h1, h2, h3, h4, h5⟩ := h
  rw [pu_eq h3]
  by_cases q : puK cb n b = 0
  · have ha := ha q
    simp only [if_pos q]
    rcases find_eq h3 b with ⟨q1, q2, q3⟩ | ⟨q1, q3⟩
    · have e1 : icF cb n (plF cb b n 0) b = true := (ic_iff _ _ _ _).mpr ⟨q1, q2⟩
      have e2 : ¬ bI (icF cb n (plF cb b n 0) b) = 0 := by rw [e1]; exact bI_t0
      have e4 : pi (plF cb b n 0) < n := (h3.2.2.2.1 _ q1).1
      have e5 : n ≤ 24 := h3.1
      have e3 : (0 : Int32) ≤ fnF cb' b n 0 := by rw [q3]; exact nI_pos' (show pi (plF cb b n 0) < 2 ^ 31 by omega)
      have eN : mpN cb' n b = n := by unfold mpN; rw [if_pos e3]
      have eX : mpX cb' n b = pi (plF cb b n 0) := by unfold mpX; rw [if_pos e3, q3, nI_clamp (by omega)]
      have eB : puB cb n b = cb := by unfold puB; rw [if_pos e2]
      have eY : puY cb cy tp n b = va_cpy tp cy 0 (plF cb b n 0 * 64) 64 := by unfold puY; rw [if_pos e2]
      have eM : puN cb n b = n := by unfold puN; rw [if_pos e2]
      rw [eN, eX, eB, eY, eM]
      rw [eM] at ha
      exact ⟨⟨_, _, _, 0, _, _, _, _, _, _, _, _, _, _, _, pi, rfl, rfl, h1, tape_eq h2, put_found h3 h2 q1 q2, h4, h5⟩, rfl, fun _ => ha⟩
    · have e1 : icF cb n (plF cb b n 0) b = false := by
        rcases hq : icF cb n (plF cb b n 0) b with _ | _
        · rfl
        · exact absurd ((ic_iff _ _ _ _).mp hq) q1
      have e2 : ¬ ¬ bI (icF cb n (plF cb b n 0) b) = 0 := by rw [e1]; exact not_not_intro bI_f0
      have e3 : ¬ (0 : Int32) ≤ fnF cb' b n 0 := by rw [q3]; decide
      have hk := q
      unfold puK at hk
      have eT : ¬ bI (isT b) = 0 := fun z => by rw [if_neg (not_not_intro z)] at hk; cases hk
      rw [if_pos eT, if_neg e2] at hk
      have e24 : n < 24 := by
        by_cases z : n < 24
        · exact z
        · rw [if_neg z] at hk; cases hk
      obtain ⟨bb, b1, b2, b3⟩ := isT_nat (bI_ne eT)
      have eN : mpN cb' n b = n + 1 := by unfold mpN; rw [if_neg e3]
      have eX : mpX cb' n b = n := by unfold mpX; rw [if_neg e3]
      have eB : puB cb n b = upd (va_cpy cb cb (plF cb b n 0) (plF cb b n 0 + 1) (n - plF cb b n 0)) (plF cb b n 0) b := by unfold puB; rw [if_neg e2]
      have eY : puY cb cy tp n b = va_cpy tp (va_cpy cy cy (plF cb b n 0 * 64) ((plF cb b n 0 + 1) * 64) ((n - plF cb b n 0) * 64)) 0 (plF cb b n 0 * 64) 64 := by unfold puY; rw [if_neg e2]
      have eM : puN cb n b = n + 1 := by unfold puN; rw [if_neg e2]
      rw [eN, eX, eB, eY, eM]
      rw [eM] at ha
      exact ⟨⟨_, _, _, 0, _, _, _, _, _, _, _, _, _, _, _, piN pi (plF cb b n 0) n, rfl, rfl, h1, tape_eq h2, put_new h3 h2 b1 b2 b3 e24 q1, h4, h5⟩, rfl, fun _ => ha⟩
  · simp only [if_neg q]
    exact ⟨⟨_, _, _, _, _, _, _, _, _, _, _, _, _, _, _, pi, rfl, rfl, h1, h2, h3, h4, h5⟩, rfl, fun z => absurd (K0 (puK_le cb n b) z) q⟩
theorem PI.zero (h : PI cb cy cb' cy' pi n) : PI cb cy cb' cy' pi 0 := by
  obtain ⟨-, -, -, -, -, -, h7⟩ := h
  exact ⟨by omega, fun i hi => by omega, fun i j _ hj => by omega, fun i hi => by omega, fun c hc => by omega, fun x => rfl, h7⟩
theorem s_drop (h : LF st tp T n o cb cy wl tp' cb' cy' pi) : LI (st, nh, tp, nI T, cb, cy, nI 0, bI o, wl, wd) (th, st, tp', nI T, cb', cy', nI 0, wd, wl.toInt64, bI o, ro) := by
  obtain ⟨h1, h2, h3, h4, h5⟩ := h
  exact ⟨_, _, _, _, 0, _, _, _, _, _, _, _, _, _, _, pi, rfl, rfl, h1, h2, h3.zero, h4, h5⟩
theorem s_power (h : LF st tp T n o cb cy wl tp' cb' cy' pi) : LI (st, nh, tp, nI T, cb, cy, nI n, nI 0, -1, wd) (th, st, tp', nI T, cb', cy', nI n, wd, -1, nI 0, ro) := by
  obtain ⟨h1, h2, h3, h4, h5⟩ := h
  exact ⟨st, nh, tp, T, n, false, cb, cy, -1, wd, th, tp', cb', cy', ro, pi, rfl, rfl, h1, h2, h3, fun z => (by cases z), Or.inl rfl⟩
theorem RW_o {u : W4} {v : M5} (h : RW u v) : ∃ o : Bool, u.2.1 = bI o ∧ (o = true → u.2.2.1 = 0) := by
  rcases h.2.2.2.2.1 with q | ⟨q, q2⟩
  · exact ⟨false, q, fun z => (by cases z)⟩
  · exact ⟨true, q, fun _ => q2⟩
theorem LF.rw (h : LF st tp T n o cb cy wl tp' cb' cy' pi) : RW (st, bI o, wl, wd) (ro, st, bI o, wl.toInt64, wd) := by
  obtain ⟨h1, h2, h3, h4, h5⟩ := h
  refine ⟨rfl, rfl, rfl, rfl, ?_, h5, h1⟩
  cases o with
  | false => exact Or.inl rfl
  | true => exact Or.inr ⟨rfl, h4 rfl⟩
theorem bI_0 {o : Bool} (h : bI o = 0) : o = false := by
  cases o with
  | false => rfl
  | true => exact absurd h bI_t0
theorem s_commit (h : LF st tp T n o cb cy wl tp' cb' cy' pi)
    (hw : r = nI (cmK n o) ∧ u1 = (if cmK n o = 0 then ((cmU st (ckF 256) nh cb cy n (st, bI o, wl, wd)).1, cmH st (ckF 256) nh cb cy n (st, bI o, wl, wd), tp, nI T, cb, cy, nI 0, (cmU st (ckF 256) nh cb cy n (st, bI o, wl, wd)).2.1, (cmU st (ckF 256) nh cb cy n (st, bI o, wl, wd)).2.2.1, (cmU st (ckF 256) nh cb cy n (st, bI o, wl, wd)).2.2.2) else (st, nh, tp, nI T, cb, cy, nI n, bI o, wl, wd) : XS) ∧ (cmK n o = 0 → a = (if (if ¬ (cmU st (ckF 256) nh cb cy n (st, bI o, wl, wd)).2.1 = 0 then nI 0 else nI 1) = 0 then 0 else 1)))
    (hw2 : r2 = (if cmK n o = 0 then (mcL cb' cy' pi n (nuF st 0 4 0) (2 * n + 2) 0 (nI 1) (ro, st, bI o, wl.toInt64, wd)).2 else nI 0) ∧ w1 = (nI (cmK n o), if cmK n o = 0 then (mcL cb' cy' pi n (nuF st 0 4 0) (2 * n + 2) 0 (nI 1) (ro, st, bI o, wl.toInt64, wd)).1.2.1 else st, tp', nI T, cb', cy', if cmK n o = 0 then nI 0 else nI n, if cmK n o = 0 then (mcL cb' cy' pi n (nuF st 0 4 0) (2 * n + 2) 0 (nI 1) (ro, st, bI o, wl.toInt64, wd)).1.2.2.2.2 else wd, if cmK n o = 0 then (mcL cb' cy' pi n (nuF st 0 4 0) (2 * n + 2) 0 (nI 1) (ro, st, bI o, wl.toInt64, wd)).1.2.2.2.1 else wl.toInt64, if cmK n o = 0 then (mcL cb' cy' pi n (nuF st 0 4 0) (2 * n + 2) 0 (nI 1) (ro, st, bI o, wl.toInt64, wd)).1.2.2.1 else bI o, if cmK n o = 0 then (mcL cb' cy' pi n (nuF st 0 4 0) (2 * n + 2) 0 (nI 1) (ro, st, bI o, wl.toInt64, wd)).1.1 else ro)) : LOK u1 w1 r a (if r2 = 0 then 0 else 1) := by
  obtain ⟨rfl, rfl, ha⟩ := hw
  obtain ⟨rfl, rfl⟩ := hw2
  have hr := h.rw (wd := wd) (ro := ro)
  obtain ⟨h1, h2, h3, h4, h5⟩ := h
  by_cases q : cmK n o = 0
  · have ha := ha q
    have hk := q
    unfold cmK at hk
    have e1 : ¬ nI n = 0 := fun z => by rw [if_pos z] at hk; cases hk
    rw [if_neg e1] at hk
    have e2 : bI o = 0 := by
      by_cases z : bI o = 0
      · exact z
      · rw [if_neg z] at hk; cases hk
    have e3 := bI_0 e2
    have en : 1 ≤ n := by
      rcases Nat.eq_zero_or_pos n with z | z
      · exact absurd (by rw [z]; rfl) e1
      · exact z
    obtain ⟨g1, g2⟩ := commit_eq (nh := nh) en h3.1 h3.ch h3.2.2.2.2.2.2 h1 hr (by rw [e3]; rfl)
    simp only [if_pos q]
    generalize cmU st (ckF 256) nh cb cy n (st, bI o, wl, wd) = U at *
    generalize mcL cb' cy' pi n (nuF st 0 4 0) (2 * n + 2) 0 (nI 1) (ro, st, bI o, wl.toInt64, wd) = M at *
    obtain ⟨o', eo, ho⟩ := RW_o g1
    obtain ⟨r1, r2, r3, r4, r5, r6, r7⟩ := g1
    refine ⟨⟨U.1, _, tp, T, 0, o', cb, cy, U.2.2.1, U.2.2.2, _, tp', cb', cy', _, pi, by rw [eo], by rw [r1, r2, r3, r4, eo], r7, h2, h3.zero, ho, r6⟩, rfl, fun _ => ?_⟩
    rw [ha]
    by_cases z : M.2 = 0
    · rw [if_pos z, g2.mp z]; rfl
    · rw [if_neg z]
      rcases r5 with y | ⟨y, -⟩
      · rw [y]; rfl
      · exact absurd (g2.mpr y) z
  · simp only [if_neg q]
    exact ⟨⟨_, _, _, _, _, _, _, _, _, _, _, _, _, _, _, pi, rfl, rfl, h1, h2, h3, h4, h5⟩, rfl, fun z => absurd (K0 (cmK_le n o) z) q⟩
theorem s_recover (h : LF st tp T n o cb cy wl tp' cb' cy' pi)
    (hw : r = nI (reK o) ∧ u1 = (if reK o = 0 then ((reU st (ckF 256) nh (st, bI o, wl, wd)).1, reH st (ckF 256) nh (st, bI o, wl, wd), tp, nI T, cb, cy, nI n, (reU st (ckF 256) nh (st, bI o, wl, wd)).2.1, (reU st (ckF 256) nh (st, bI o, wl, wd)).2.2.1, (reU st (ckF 256) nh (st, bI o, wl, wd)).2.2.2) else (st, nh, tp, nI T, cb, cy, nI n, bI o, wl, wd) : XS) ∧ (reK o = 0 → a = (reR st (ckF 256) nh (st, bI o, wl, wd)).toInt64))
    (hw2 : r2 = (mvR st cb' o (ro, st, bI o, wl.toInt64, wd)).2 ∧ w1 = (nI (reK o), (mvR st cb' o (ro, st, bI o, wl.toInt64, wd)).1.2.1, tp', nI T, cb', cy', nI n, (mvR st cb' o (ro, st, bI o, wl.toInt64, wd)).1.2.2.2.2, (mvR st cb' o (ro, st, bI o, wl.toInt64, wd)).1.2.2.2.1, (mvR st cb' o (ro, st, bI o, wl.toInt64, wd)).1.2.2.1, (mvR st cb' o (ro, st, bI o, wl.toInt64, wd)).1.1)) : LOK u1 w1 r a r2.toInt64 := by
  obtain ⟨rfl, rfl, ha⟩ := hw
  obtain ⟨rfl, rfl⟩ := hw2
  have hr := h.rw (wd := wd) (ro := ro)
  obtain ⟨h1, h2, h3, h4, h5⟩ := h
  cases o with
  | false =>
    have q : reK false = 0 := rfl
    have ha := ha q
    obtain ⟨g1, g2⟩ := recover_eq (nh := nh) (cb' := cb') hr
    simp only [if_pos q]
    rw [show bI false = nI 0 from rfl] at ha ⊢
    rw [show bI false = nI 0 from rfl] at g1 g2
    rw [← g2] at ha
    generalize reU st (ckF 256) nh (st, nI 0, wl, wd) = U at *
    generalize mvR st cb' false (ro, st, nI 0, wl.toInt64, wd) = M at *
    obtain ⟨o', eo, ho⟩ := RW_o g1
    obtain ⟨r1, r2, r3, r4, r5, r6, r7⟩ := g1
    exact ⟨⟨U.1, _, tp, T, n, o', cb, cy, U.2.2.1, U.2.2.2, _, tp', cb', cy', _, pi, by rw [eo], by rw [r1, r2, r3, r4, eo], r7, h2, h3, ho, r6⟩, rfl, fun _ => ha⟩
  | true =>
    have q : ¬ reK true = 0 := by decide
    have e : mvR st cb' true (ro, st, bI true, wl.toInt64, wd) = ((ro, st, bI true, wl.toInt64, wd), nI 0) := by unfold mvR; rw [if_neg bI_t0]
    simp only [if_neg q, e]
    exact ⟨⟨_, _, _, _, _, true, _, _, _, _, _, _, _, _, _, pi, rfl, rfl, h1, h2, h3, h4, h5⟩, rfl, fun z => absurd (K0 (reK_le true) z) q⟩
theorem s_lose (h : LF st tp T n o cb cy wl tp' cb' cy' pi) {x : Int32}
    (hw : r = nI (loK x o) ∧ u1 = (if loK x o = 0 then (st, nh, tp, nI T, cb, cy, nI n, bI o, x - nI 1, wd) else (st, nh, tp, nI T, cb, cy, nI n, bI o, wl, wd) : XS))
    (hw2 : w1 = (nI (loK x o), st, tp', nI T, cb', cy', nI n, wd, if loK x o = 0 then x.toInt64 - 1 else wl.toInt64, bI o, ro)) : LI u1 w1 ∧ w1.1 = r := by
  obtain ⟨rfl, rfl⟩ := hw
  subst hw2
  obtain ⟨h1, h2, h3, h4, h5⟩ := h
  by_cases q : loK x o = 0
  · have hk := q
    unfold loK at hk
    have e1 : nI 1 ≤ x := by
      by_cases z : nI 1 ≤ x
      · exact z
      · rw [if_neg z] at hk; cases hk
    rw [if_pos e1] at hk
    have e2 : bI o = 0 := by
      by_cases z : bI o = 0
      · exact z
      · rw [if_neg z] at hk; cases hk
    have e3 := bI_0 e2
    have e4 : ¬ x ≤ 0 := fun z => by
      have z1 : x.toInt ≤ 0 := Int32.le_iff_toInt_le.mp z
      have z2 : (1 : Int) ≤ x.toInt := Int32.le_iff_toInt_le.mp e1
      omega
    simp only [if_pos q]
    refine ⟨⟨_, _, _, _, _, o, _, _, x - nI 1, _, _, _, _, _, _, pi, rfl, by rw [i64_pred e4], h1, h2, h3, fun z => ?_, Or.inr fun z => ?_⟩, trivial⟩
    · rw [e3] at z; cases z
    · have z1 : (x - nI 1).toInt < 0 := Int32.lt_iff_toInt_lt.mp z
      have z2 : (1 : Int) ≤ x.toInt := Int32.le_iff_toInt_le.mp e1
      have z3 : (x - nI 1).toInt = (x.toInt - 1).bmod (2 ^ 32) := Int32.toInt_sub x (nI 1)
      have z4 := x.toInt_lt
      rw [z3, Int.bmod_eq_of_le (by omega) (by omega)] at z1
      omega
  · simp only [if_neg q]
    exact ⟨⟨_, _, _, _, _, _, _, _, _, _, _, _, _, _, _, pi, rfl, rfl, h1, h2, h3, h4, h5⟩, trivial⟩
theorem s_spoil (h : LF st tp T n o cb cy wl tp' cb' cy' pi) {b k v : Int32}
    (hw : r = nI (atK b k) ∧ u1 = (if atK b k = 0 then (upd st (b.toNatClampNeg * 64 + k.toNatClampNeg) (v &&& nI 255), nh, tp, nI T, cb, cy, nI n, bI o, wl, wd) else (st, nh, tp, nI T, cb, cy, nI n, bI o, wl, wd) : XS) ∧ (atK b k = 0 → a = (st (b.toNatClampNeg * 64 + k.toNatClampNeg)).toInt64))
    (hw2 : r2 = (if mlK b k = 0 then st (64 * b.toNatClampNeg + k.toNatClampNeg) else nI 0) ∧ w1 = (nI (mlK b k), if mlK b k = 0 then upd st (64 * b.toNatClampNeg + k.toNatClampNeg) (v &&& nI 255) else st, tp', nI T, cb', cy', nI n, wd, wl.toInt64, bI o, ro)) : LOK u1 w1 r a r2.toInt64 := by
  obtain ⟨rfl, rfl, ha⟩ := hw
  obtain ⟨rfl, rfl⟩ := hw2
  obtain ⟨h1, h2, h3, h4, h5⟩ := h
  rw [at_eq, Nat.mul_comm 64 b.toNatClampNeg]
  by_cases q : atK b k = 0
  · simp only [if_pos q]
    exact ⟨⟨_, _, _, _, _, _, _, _, _, _, _, _, _, _, _, pi, rfl, rfl, h1.upd (by_and _), h2, h3, h4, h5⟩, rfl, fun _ => ha q⟩
  · simp only [if_neg q]
    exact ⟨⟨_, _, _, _, _, _, _, _, _, _, _, _, _, _, _, pi, rfl, rfl, h1, h2, h3, h4, h5⟩, rfl, fun z => absurd (K0 (atK_le b k) z) q⟩
theorem s_at (h : LF st tp T n o cb cy wl tp' cb' cy' pi) {b k : Int32}
    (hw : r = nI (atK b k) ∧ u1 = (if atK b k = 0 then (st, nh, tp, nI T, cb, cy, nI n, bI o, wl, wd) else (st, nh, tp, nI T, cb, cy, nI n, bI o, wl, wd) : XS) ∧ (atK b k = 0 → a = (st (b.toNatClampNeg * 64 + k.toNatClampNeg)).toInt64))
    (hw2 : r2 = (if mlK b k = 0 then st (64 * b.toNatClampNeg + k.toNatClampNeg) else nI 0) ∧ w1 = (nI (mlK b k), st, tp', nI T, cb', cy', nI n, wd, wl.toInt64, bI o, ro)) : LOK u1 w1 r a r2.toInt64 := by
  obtain ⟨rfl, rfl, ha⟩ := hw
  obtain ⟨rfl, rfl⟩ := hw2
  obtain ⟨h1, h2, h3, h4, h5⟩ := h
  rw [at_eq, Nat.mul_comm 64 b.toNatClampNeg, ite_self]
  refine ⟨⟨_, _, _, _, _, _, _, _, _, _, _, _, _, _, _, pi, rfl, rfl, h1, h2, h3, h4, h5⟩, rfl, fun z => ?_⟩
  have q := K0 (atK_le b k) z
  rw [if_pos q]; exact ha q
theorem s_change (h : LF st tp T n o cb cy wl tp' cb' cy' pi) {i : Int32}
    (hw : r = nI (chK i n) ∧ u1 = (if chK i n = 0 then (st, nh, tp, nI T, cb, cy, nI n, bI o, wl, wd) else (st, nh, tp, nI T, cb, cy, nI n, bI o, wl, wd) : XS) ∧ (chK i n = 0 → a = (cb i.toNatClampNeg).toInt64))
    (hw2 : r2 = (if mhK i n = 0 then cb' (pi i.toNatClampNeg) else nI 0) ∧ w1 = (nI (mhK i n), st, tp', nI T, cb', cy', nI n, wd, wl.toInt64, bI o, ro)) : LOK u1 w1 r a r2.toInt64 := by
  obtain ⟨rfl, rfl, ha⟩ := hw
  obtain ⟨rfl, rfl⟩ := hw2
  obtain ⟨h1, h2, h3, h4, h5⟩ := h
  rw [ch_eq i h3.1, ite_self]
  refine ⟨⟨_, _, _, _, _, _, _, _, _, _, _, _, _, _, _, pi, rfl, rfl, h1, h2, h3, h4, h5⟩, rfl, fun z => ?_⟩
  have q := K0 (chK_le i n) z
  rw [if_pos q, ha q]
  have hk := q
  unfold chK at hk
  have e1 : ¬ i < 0 := fun z => by rw [if_pos z] at hk; cases hk
  rw [if_neg e1] at hk
  have e2 : i < nI n := by
    by_cases z : i < nI n
    · exact z
    · rw [if_neg z] at hk; cases hk
  have hn := h3.1
  have z1 : ¬ i.toInt < 0 := fun z => e1 (Int32.lt_iff_toInt_lt.mpr z)
  have z2 : i.toInt < (nI n).toInt := Int32.lt_iff_toInt_lt.mp e2
  have z3 : (nI n).toInt = n := Int32.toInt_ofNat_of_lt (by omega)
  have z4 : i.toNatClampNeg = i.toInt.toNat := rfl
  rw [(h3.2.2.2.1 i.toNatClampNeg (by omega)).2.1]
theorem s_look (h : LF st tp T n o cb cy wl tp' cb' cy' pi) {x : Int32} {r3 : Int64}
    (hw : r = nI (lkK x) ∧ u1 = (if lkK x = 0 then (st, nh, tp, nI T, cb, cy, nI n, bI o, wl, wd) else (st, nh, tp, nI T, cb, cy, nI n, bI o, wl, wd) : XS) ∧ (lkK x = 0 → a = lkR x st (ckF 256) (nI n) o wl wd))
    (hw2 : r3 = mkR x st (nI n) o wl.toInt64 wd ∧ w1 = (nI (mkK x), st, tp', nI T, cb', cy', nI n, wd, wl.toInt64, bI o, ro)) : LOK u1 w1 r a r3 := by
  obtain ⟨rfl, rfl, ha⟩ := hw
  obtain ⟨rfl, rfl⟩ := hw2
  obtain ⟨h1, h2, h3, h4, h5⟩ := h
  rw [lk_eq, ite_self]
  refine ⟨⟨_, _, _, _, _, _, _, _, _, _, _, _, _, _, _, pi, rfl, rfl, h1, h2, h3, h4, h5⟩, rfl, fun z => ?_⟩
  have q := K0 (lkK_le x) z
  rw [ha q, lkR_eq h1 h4 q]
end ST

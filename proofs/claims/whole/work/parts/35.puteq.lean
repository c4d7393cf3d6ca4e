/-! The changes: the class holds them in their order, the reference as they came. -/
def cnt (f : Nat → Int32) (x : Int32) : Nat → Nat
  | 0 => 0
  | n + 1 => if x ≤ f n then cnt f x n + 0 else cnt f x n + 1
theorem cnt_s1 (f : Nat → Int32) (x : Int32) (n : Nat) : cnt f x (n + 1) = if x ≤ f n then cnt f x n + 0 else cnt f x n + 1 := rfl
theorem bl_cnt (f : Nat → Int32) (x : Int32) : ∀ k j, blF f x k j (cnt f x j) = cnt f x (j + k) := by
  intro k
  induction k with
  | zero => intro j; rfl
  | succ k ih => intro j; rw [blF]; exact (ih (j + 1)).trans (by rw [show j + 1 + k = j + (k + 1) by omega])
theorem bl_c (f : Nat → Int32) (x : Int32) (n : Nat) : blF f x n 0 0 = cnt f x n := by
  have := bl_cnt f x n 0
  rw [Nat.zero_add] at this
  exact this
theorem cnt_c {f g : Nat → Int32} (x : Int32) : ∀ n, (∀ j, j < n → f j = g j) → cnt f x n = cnt g x n := by
  intro n
  induction n with
  | zero => intro _; rfl
  | succ n ih => intro h; rw [cnt, cnt, h n (by omega), ih (fun j hj => h j (by omega))]
def Srt (f : Nat → Int32) (n : Nat) : Prop := ∀ i j, i < j → j < n → f i < f j
theorem cnt_lo {f : Nat → Int32} {x : Int32} : ∀ m, (∀ j, j < m → f j < x) → cnt f x m = m := by
  intro m
  induction m with
  | zero => intro _; rfl
  | succ m ih => intro h; rw [cnt, if_neg (Int32.not_le.mpr (h m (by omega))), ih (fun j hj => h j (by omega))]
theorem cnt_hi {f : Nat → Int32} {x : Int32} {i : Nat} : ∀ k, (∀ j, i ≤ j → j < i + k → x ≤ f j) → cnt f x (i + k) = cnt f x i := by
  intro k
  induction k with
  | zero => intro _; rfl
  | succ k ih => intro h; rw [show i + (k + 1) = (i + k) + 1 by omega, cnt, if_pos (h (i + k) (by omega) (by omega)), Nat.add_zero]; exact ih (fun j h1 h2 => h j h1 (by omega))
theorem Srt.le {f : Nat → Int32} {n : Nat} (h : Srt f n) {i j : Nat} (hij : i ≤ j) (hj : j < n) : f i ≤ f j := by
  rcases Nat.eq_or_lt_of_le hij with e | q
  · rw [e]; exact Int32.le_refl _
  · exact Int32.le_of_lt (h i j q hj)
theorem Srt.inj {f : Nat → Int32} {n : Nat} (h : Srt f n) {i j : Nat} (hi : i < n) (hj : j < n) (e : f i = f j) : i = j := by
  rcases Nat.lt_trichotomy i j with q | q | q
  · exact absurd (h i j q hj) (by rw [e]; exact Int32.lt_irrefl)
  · exact q
  · exact absurd (h j i q hi) (by rw [e]; exact Int32.lt_irrefl)
theorem cnt_s {f : Nat → Int32} {n : Nat} (h : Srt f n) {i : Nat} (hi : i < n) : cnt f (f i) n = i := by
  have := cnt_hi (f := f) (x := f i) (i := i) (n - i) (fun j h1 h2 => h.le h1 (by omega))
  rw [show i + (n - i) = n by omega, cnt_lo i (fun j hj => h j i hj hi)] at this
  exact this
/-- how the changes lie on the two sides -/
def PI (cb cy cb' cy' : Nat → Int32) (pi : Nat → Nat) (n : Nat) : Prop :=
  n ≤ 24 ∧ (∀ i, i < n → ∃ b : Nat, 25 ≤ b ∧ b < 96 ∧ cb i = nI b) ∧ Srt cb n ∧ (∀ i, i < n → pi i < n ∧ cb' (pi i) = cb i ∧ ∀ k, k < 64 → cy' (64 * pi i + k) = cy (i * 64 + k)) ∧ (∀ c, c < n → ∃ i, i < n ∧ pi i = c) ∧ (∀ x, cnt cb' x n = cnt cb x n) ∧ By cy
theorem PI.ch {cb cy cb' cy' : Nat → Int32} {pi : Nat → Nat} {n : Nat} (h : PI cb cy cb' cy' pi n) : CH cb cy cb' cy' pi n := fun i hi => by
  obtain ⟨-, h2, -, h4, -⟩ := h
  obtain ⟨b, -, b2, e⟩ := h2 i hi
  exact ⟨⟨b, b2, e⟩, (h4 i hi).2⟩
theorem PI.cnt_at {cb cy cb' cy' : Nat → Int32} {pi : Nat → Nat} {n : Nat} (h : PI cb cy cb' cy' pi n) {i : Nat} (hi : i < n) : blF cb' (cb' (pi i)) n 0 0 = i := by
  obtain ⟨-, -, h3, h4, -, h6, -⟩ := h
  rw [bl_c, (h4 i hi).2.1, h6, cnt_s h3 hi]
theorem ra_first {f : Nat → Int32} {n i c0 : Nat} (h0 : blF f (f c0) n 0 0 = i) (hu : ∀ c, c < c0 → ¬ blF f (f c) n 0 0 = i) : ∀ k c, c ≤ c0 → c0 < c + k → raF f n i k c = nI c0 := by
  intro k
  induction k with
  | zero => intro c h1 h2; exfalso; omega
  | succ k ih =>
    intro c h1 h2
    rw [raF]
    by_cases e : c = c0
    · rw [e, if_neg (not_not_intro h0)]
    · rw [if_pos (hu c (by omega))]; exact ih (c + 1) (by omega) (by omega)
/-- the reference's rank of each change -/
theorem PI.rk {cb cy cb' cy' : Nat → Int32} {pi : Nat → Nat} {n : Nat} (h : PI cb cy cb' cy' pi n) : ∀ j, j < n → pi j < 24 ∧ raF cb' n j n 0 = nI (pi j) := fun j hj => by
  have hp := (h.2.2.2.1 j hj).1
  have hn := h.1
  refine ⟨by omega, ra_first (h.cnt_at hj) (fun c hc q => ?_) n 0 (by omega) (by omega)⟩
  obtain ⟨i, hi, e⟩ := h.2.2.2.2.1 c (by omega)
  rw [← e, h.cnt_at hi] at q
  rw [← e, q] at hc
  omega
theorem PI.cb96 {cb cy cb' cy' : Nat → Int32} {pi : Nat → Nat} {n : Nat} (h : PI cb cy cb' cy' pi n) : ∀ j, j < n → ∃ b : Nat, b < 96 ∧ cb' (pi j) = nI b := fun j hj => by
  obtain ⟨b, -, b2, e⟩ := h.2.1 j hj
  exact ⟨b, b2, by rw [(h.2.2.2.1 j hj).2.1]; exact e⟩
theorem pl_spec (f : Nat → Int32) (b : Int32) : ∀ k i, i ≤ plF f b k i ∧ (∀ j, i ≤ j → j < plF f b k i → f j < b) ∧ (plF f b k i < i + k → b ≤ f (plF f b k i)) := by
  intro k
  induction k with
  | zero => intro i; exact ⟨Nat.le_refl _, fun j h1 h2 => by rw [plF] at h2; omega, fun h => by rw [plF] at h; omega⟩
  | succ k ih =>
    intro i
    rw [plF]
    by_cases a : b ≤ f i
    · rw [if_pos a]; exact ⟨Nat.le_refl _, fun j h1 h2 => by omega, fun _ => a⟩
    · rw [if_neg a]
      obtain ⟨h1, h2, h3⟩ := ih (i + 1)
      refine ⟨by omega, fun j j1 j2 => ?_, fun h => h3 (by omega)⟩
      by_cases e : j = i
      · rw [e]; exact Int32.not_le.mp a
      · exact h2 j (by omega) j2
theorem ic_iff (cb : Nat → Int32) (n q : Nat) (b : Int32) : icF cb n q b = true ↔ q < n ∧ cb q = b := by
  unfold icF
  by_cases a : n ≤ q
  · rw [if_pos a]; exact ⟨fun h => (by cases h), fun h => absurd h.1 (by omega)⟩
  · rw [if_neg a]
    by_cases e : cb q = b
    · rw [if_neg (not_not_intro e)]; exact ⟨fun _ => ⟨by omega, e⟩, fun _ => rfl⟩
    · rw [if_pos e]; exact ⟨fun h => (by cases h), fun h => absurd h.2 e⟩
/-- the block has a change on both sides, at matching places, or on none -/
theorem find_eq {cb cy cb' cy' : Nat → Int32} {pi : Nat → Nat} {n : Nat} (h : PI cb cy cb' cy' pi n) (b : Int32) :
    (plF cb b n 0 < n ∧ cb (plF cb b n 0) = b ∧ fnF cb' b n 0 = nI (pi (plF cb b n 0))) ∨ (¬ (plF cb b n 0 < n ∧ cb (plF cb b n 0) = b) ∧ fnF cb' b n 0 = -1) := by
  obtain ⟨hn, h2, h3, h4, h5, h6, h7⟩ := h
  obtain ⟨-, p2, p3⟩ := pl_spec cb b n 0
  rcases fnF_nat cb' b n 0 with ⟨e, a⟩ | ⟨j, -, j2, e, ej⟩
  · right
    refine ⟨fun q => ?_, e⟩
    obtain ⟨c1, c2, -⟩ := h4 _ q.1
    exact a _ (Nat.zero_le _) (by omega) (c2.trans q.2)
  · left
    obtain ⟨i, hi, ei⟩ := h5 j (by omega)
    have eb : cb i = b := by rw [← (h4 i hi).2.1, ei]; exact ej
    have hq : plF cb b n 0 = i := by
      rcases Nat.lt_trichotomy (plF cb b n 0) i with q | q | q
      · exfalso
        have l1 := p3 (by omega)
        have l2 := h3 _ i q hi
        rw [eb] at l2
        exact Int32.not_le.mpr l2 l1
      · exact q
      · exfalso
        have := p2 i (Nat.zero_le _) q
        rw [eb] at this
        exact Int32.lt_irrefl this
    rw [hq]
    exact ⟨hi, eb, by rw [e, ei]⟩
theorem pu_eq {cb cy cb' cy' : Nat → Int32} {pi : Nat → Nat} {n : Nat} (h : PI cb cy cb' cy' pi n) (b : Int32) : mpK cb' n b = puK cb n b := by
  unfold mpK puK
  rw [isT_wi]
  by_cases a : ¬ bI (isT b) = 0
  · rw [if_pos a, if_pos a]
    rcases find_eq h b with ⟨q1, q2, e⟩ | ⟨q, e⟩
    · have hp := (h.2.2.2.1 _ q1).1
      have hn := h.1
      rw [e, if_pos (nI_pos' (by omega)), (ic_iff cb n _ b).mpr ⟨q1, q2⟩, if_pos bI_t0]
    · have hf : icF cb n (plF cb b n 0) b = false := by
        cases z : icF cb n (plF cb b n 0) b
        · rfl
        · exact absurd ((ic_iff cb n _ b).mp z) q
      have hn := h.1
      rw [e, if_neg (by decide), hf, if_neg (not_not_intro bI_f0)]
      by_cases z : n = 24
      · rw [if_neg (not_not_intro z), if_neg (by omega)]
      · rw [if_pos z, if_pos (by omega)]
  · rw [if_neg a, if_neg a]
/-- the tape on both sides -/
def TPr (tp tp' : Nat → Int32) (T : Nat) : Prop := T ≤ 64 ∧ (∀ j, T ≤ j → tp j = nI 0) ∧ (∀ j, j < T → tp' j = tp j) ∧ By tp
theorem pt_at (cy tp : Nat → Int32) (T x : Nat) : ∀ i j, ptF cy tp T x i j = if 64 * x ≤ j ∧ j < 64 * x + i then (if T ≤ j - 64 * x then nI 0 else tp (j - 64 * x)) else cy j := by
  intro i
  induction i with
  | zero => intro j; rw [ptF, if_neg (by omega)]
  | succ i ih =>
    intro j
    rw [ptF]
    by_cases q : j = 64 * x + i
    · rw [q, pk_us, if_pos (c := 64 * x ≤ 64 * x + i ∧ 64 * x + i < 64 * x + (i + 1)) ⟨by omega, by omega⟩, show 64 * x + i - 64 * x = i by omega]
    · rw [pk_un q, ih j]
      by_cases z : 64 * x ≤ j ∧ j < 64 * x + i
      · rw [if_pos z, if_pos (c := 64 * x ≤ j ∧ j < 64 * x + (i + 1)) ⟨z.1, by omega⟩]
      · rw [if_neg z, if_neg (by omega)]
theorem tp_row {tp tp' : Nat → Int32} {T : Nat} (h : TPr tp tp' T) (k : Nat) : (if T ≤ k then nI 0 else tp' k) = tp k := by
  by_cases a : T ≤ k
  · rw [if_pos a, h.2.1 k a]
  · rw [if_neg a, h.2.2.1 k (by omega)]
def piN (pi : Nat → Nat) (q n : Nat) : Nat → Nat := fun i => if i < q then pi i else if i = q then n else pi (i - 1)
theorem put_found {cb cy cb' cy' tp tp' : Nat → Int32} {pi : Nat → Nat} {n T : Nat} (h : PI cb cy cb' cy' pi n) (ht : TPr tp tp' T) {b : Int32} {q : Nat} (hq : q < n) (eb : cb q = b) :
    PI cb (va_cpy tp cy 0 (q * 64) 64) (upd cb' (pi q) b) (ptF cy' tp' T (pi q) 64) pi n := by
  obtain ⟨hn, h2, h3, h4, h5, h6, h7⟩ := h
  have ecb : ∀ j, upd cb' (pi q) b j = cb' j := fun j => by
    by_cases z : j = pi q
    · rw [z, pk_us, (h4 q hq).2.1, eb]
    · rw [pk_un z]
  refine ⟨hn, h2, h3, fun i hi => ⟨(h4 i hi).1, by rw [ecb]; exact (h4 i hi).2.1, fun k hk => ?_⟩, h5, fun x => by rw [cnt_c x n (fun j _ => ecb j)]; exact h6 x, By.cpy (fun j _ => ht.2.2.2 _) h7⟩
  rw [pt_at]
  by_cases e : i = q
  · rw [e, if_pos (by omega), show 64 * pi q + k - 64 * pi q = k by omega, tp_row ht, pk_cpy_in (by omega) (by omega)]
    congr 1
    omega
  · have hne : pi i ≠ pi q := fun z => e (h3.inj hi hq (by rw [← (h4 i hi).2.1, ← (h4 q hq).2.1, z]))
    rw [if_neg (by omega), pk_cpy_out (by omega)]
    exact (h4 i hi).2.2 k hk
theorem put_new {cb cy cb' cy' tp tp' : Nat → Int32} {pi : Nat → Nat} {n T : Nat} (h : PI cb cy cb' cy' pi n) (ht : TPr tp tp' T) {b : Int32} {bb : Nat} (hb1 : 25 ≤ bb) (hb2 : bb < 96) (eb : b = nI bb) (hn24 : n < 24) (hno : ¬ (plF cb b n 0 < n ∧ cb (plF cb b n 0) = b)) :
    PI (upd (va_cpy cb cb (plF cb b n 0) (plF cb b n 0 + 1) (n - plF cb b n 0)) (plF cb b n 0) b) (va_cpy tp (va_cpy cy cy (plF cb b n 0 * 64) ((plF cb b n 0 + 1) * 64) ((n - plF cb b n 0) * 64)) 0 (plF cb b n 0 * 64) 64) (upd cb' n b) (ptF cy' tp' T n 64) (piN pi (plF cb b n 0) n) (n + 1) := by
  obtain ⟨hn, h2, h3, h4, h5, h6, h7⟩ := h
  obtain ⟨-, p2, p3⟩ := pl_spec cb b n 0
  have hql : plF cb b n 0 ≤ n := by have := plF_le cb b n 0; omega
  generalize plF cb b n 0 = q at *
  have hlow : ∀ j, j < q → cb j < b := fun j hj => p2 j (Nat.zero_le _) hj
  have hup : ∀ j, q ≤ j → j < n → b < cb j := fun j j1 j2 => by
    have l1 : b ≤ cb q := p3 (by omega)
    have l2 : b < cb q := by
      rcases Int32.le_iff_lt_or_eq.mp l1 with z | z
      · exact z
      · exact absurd ⟨by omega, z.symm⟩ hno
    exact Int32.lt_of_lt_of_le l2 (h3.le j1 j2)
  have ins : ∀ i, i ≤ n → upd (va_cpy cb cb q (q + 1) (n - q)) q b i = if i < q then cb i else if i = q then b else cb (i - 1) := fun i hi => by
    by_cases z : i = q
    · rw [z, pk_us, if_neg (by omega), if_pos rfl]
    · rw [pk_un z]
      by_cases y : i < q
      · rw [if_pos y, pk_cpy_out (by omega)]
      · rw [if_neg y, if_neg z, pk_cpy_in (by omega) (by omega)]
        congr 1
        omega
  generalize upd (va_cpy cb cb q (q + 1) (n - q)) q b = cN at ins ⊢
  have row : ∀ i k, i ≤ n → k < 64 → va_cpy tp (va_cpy cy cy (q * 64) ((q + 1) * 64) ((n - q) * 64)) 0 (q * 64) 64 (i * 64 + k) = if i < q then cy (i * 64 + k) else if i = q then tp k else cy ((i - 1) * 64 + k) := fun i k hi hk => by
    by_cases z : i = q
    · rw [if_neg (by omega), if_pos z, pk_cpy_in (by omega) (by omega)]
      congr 1
      omega
    · rw [pk_cpy_out (by omega)]
      by_cases y : i < q
      · rw [if_pos y, pk_cpy_out (by omega)]
      · rw [if_neg y, if_neg z, pk_cpy_in (by omega) (by omega)]
        congr 1
        omega
  have hBy : By (va_cpy tp (va_cpy cy cy (q * 64) ((q + 1) * 64) ((n - q) * 64)) 0 (q * 64) 64) := By.cpy (fun j _ => ht.2.2.2 _) (By.cpy (fun j _ => h7 _) h7)
  generalize va_cpy tp (va_cpy cy cy (q * 64) ((q + 1) * 64) ((n - q) * 64)) 0 (q * 64) 64 = yN at row hBy ⊢
  have hcn : ∀ x m, q ≤ m → m ≤ n → cnt cN x (m + 1) = if x ≤ b then cnt cb x m + 0 else cnt cb x m + 1 := by
    intro x m
    induction m with
    | zero =>
      intro m1 m2
      have e0 : cN 0 = b := by rw [ins 0 (by omega), if_neg (by omega), if_pos (by omega)]
      rw [cnt_s1 cN x 0, e0]
      rfl
    | succ m ih =>
      intro m1 m2
      by_cases z : q ≤ m
      · have e1 : cN (m + 1) = cb m := by rw [ins (m + 1) m2, if_neg (by omega), if_neg (by omega), show m + 1 - 1 = m by omega]
        rw [cnt_s1 cN x (m + 1), e1, ih z (by omega), cnt_s1 cb x m]
        by_cases y1 : x ≤ cb m <;> by_cases y2 : x ≤ b
        · rw [if_pos y1, if_pos y2, if_pos y2, if_pos y1]
        · rw [if_pos y1, if_neg y2, if_neg y2, if_pos y1]
        · rw [if_neg y1, if_pos y2, if_pos y2, if_neg y1]
        · rw [if_neg y1, if_neg y2, if_neg y2, if_neg y1]
      · have e1 : cN (m + 1) = b := by rw [ins (m + 1) m2, if_neg (by omega), if_pos (by omega)]
        rw [cnt_s1 cN x (m + 1), e1, cnt_c (f := cN) (g := cb) x (m + 1) (fun j hj => by rw [ins j (by omega), if_pos (by omega)])]
  refine ⟨by omega, fun i hi => ?_, fun i j hij hj => ?_, fun i hi => ?_, fun k hk => ?_, fun x => ?_, hBy⟩
  · rw [ins i (by omega)]
    by_cases y : i < q
    · rw [if_pos y]; exact h2 i (by omega)
    · rw [if_neg y]
      by_cases z : i = q
      · rw [if_pos z]; exact ⟨bb, hb1, hb2, eb⟩
      · rw [if_neg z]; exact h2 (i - 1) (by omega)
  · rw [ins i (by omega), ins j (by omega)]
    by_cases y : j < q
    · rw [if_pos (by omega), if_pos y]; exact h3 i j hij (by omega)
    · rw [if_neg y]
      by_cases z : j = q
      · rw [if_pos z, if_pos (by omega)]; exact hlow i (by omega)
      · rw [if_neg z]
        by_cases x1 : i < q
        · rw [if_pos x1]; exact Int32.lt_trans (hlow i x1) (hup (j - 1) (by omega) (by omega))
        · rw [if_neg x1]
          by_cases x2 : i = q
          · rw [if_pos x2]; exact hup (j - 1) (by omega) (by omega)
          · rw [if_neg x2]; exact h3 (i - 1) (j - 1) (by omega) (by omega)
  · rw [ins i (by omega)]
    unfold piN
    by_cases y : i < q
    · have := (h4 i (by omega))
      rw [if_pos y, if_pos y, pk_un (by omega)]
      refine ⟨by omega, this.2.1, fun k hk => ?_⟩
      rw [row i k (by omega) hk, if_pos y, pt_at, if_neg (by omega)]
      exact this.2.2 k hk
    · rw [if_neg y, if_neg y]
      by_cases z : i = q
      · rw [if_pos z, if_pos z, pk_us]
        refine ⟨by omega, rfl, fun k hk => ?_⟩
        rw [row i k (by omega) hk, if_neg y, if_pos z, pt_at, if_pos (by omega), show 64 * n + k - 64 * n = k by omega, tp_row ht]
      · have := (h4 (i - 1) (by omega))
        rw [if_neg z, if_neg z, pk_un (by omega)]
        refine ⟨by omega, this.2.1, fun k hk => ?_⟩
        rw [row i k (by omega) hk, if_neg y, if_neg z, pt_at, if_neg (by omega)]
        exact this.2.2 k hk
  · unfold piN
    by_cases z : k = n
    · exact ⟨q, by omega, by rw [if_neg (by omega), if_pos rfl]; exact z.symm⟩
    · obtain ⟨i, hi, e⟩ := h5 k (by omega)
      by_cases y : i < q
      · exact ⟨i, by omega, by rw [if_pos y]; exact e⟩
      · exact ⟨i + 1, by omega, by rw [if_neg (by omega), if_neg (by omega)]; exact e⟩
  · rw [hcn x n hql (Nat.le_refl _), cnt_s1 (upd cb' n b) x n, pk_us, cnt_c (f := upd cb' n b) (g := cb') x n (fun j hj => pk_un (by omega)), h6]
/-- feed: the tape on both sides -/
theorem feed_eq {tp tp' : Nat → Int32} {T : Nat} (h : TPr tp tp' T) (v : Int64) {k : Nat} (hk : k ≤ 8) (hT : T + k ≤ 64) : TPr (fdF tp T v k) (fmF tp' T v k) (T + k) := by
  have lo : ∀ i, i ≤ 8 → ∀ j, j < T + i → fmF tp' T v i j = fdF tp T v i j := by
    intro i
    induction i with
    | zero => intro _ j hj; exact h.2.2.1 j (by omega)
    | succ i ih =>
      intro hi j hj
      rw [fmF, fdF]
      by_cases q : j = T + i
      · rw [q, pk_us, pk_us, by_v v (by omega)]
      · rw [pk_un q, pk_un q]; exact ih (by omega) j (by omega)
  have hi : ∀ i j, T + i ≤ j → fdF tp T v i j = nI 0 := by
    intro i
    induction i with
    | zero => intro j hj; exact h.2.1 j (by omega)
    | succ i ih => intro j hj; rw [fdF, pk_un (by omega)]; exact ih j (by omega)
  have bb : ∀ i, By (fdF tp T v i) := by
    intro i
    induction i with
    | zero => exact h.2.2.2
    | succ i ih => rw [fdF]; exact ih.upd (by_and _)
  exact ⟨hT, fun j hj => hi k j hj, fun j hj => lo k hk j hj, bb k⟩
/-- the tape behind a put -/
theorem tape_eq {tp tp' : Nat → Int32} {T : Nat} (h : TPr tp tp' T) : TPr (fiF tp (nI 0) 64) tp' 0 := by
  refine ⟨by omega, fun j _ => ?_, fun j hj => by omega, fun j => ?_⟩
  · unfold fiF
    by_cases q : j < 64
    · rw [if_pos q]
    · rw [if_neg q]; exact h.2.1 j (by have := h.1; omega)
  · unfold fiF
    by_cases q : j < 64
    · rw [if_pos q]; exact ⟨0, by omega, rfl⟩
    · rw [if_neg q]; exact h.2.2.2 j

set_option maxHeartbeats 4000000 in
set_option maxRecDepth 100000 in
/-- the law's loop: with j calls done -/
theorem law_loop {p : Program} {l : Launch} {e : Env} {s : State} {m : MethodId} {below : List Frame} {meth : Method} {c : Code} {dC : Nat → ClassId} {dI : Nat → Nat → Nat} {cA cL : ClassId} {A : Nat → Prop} {b L : Nat} {xs : Nat → Int32} (h9 : l.stackTraces = false) (C : LC p s m meth c dC dI cA cL A b L xs) (hAs : ∀ q : Nat, A q → s.heap.size ≤ q) {ax am : Nat → Nat} {oa : Nat} :
    ∀ (k j : Nat), j + k = 513 → 4 * j ≤ 2048 → LK p l e s m below meth c dC dI cA cL A b ax am oa (4 * j) (14 + j) (15943 + 6 * j) 23 := by
  intro k
  induction k with
  | zero => intro j h1 h2; exfalso; omega
  | succ k ih =>
    intro j h1 h2 u w fo H locs ls hI hP hD hS hl
    obtain ⟨⟨hx, hb, hr, hml, hown, hts, hX, hbl, hlocks, hgv⟩, hK, hE, hNc, hA, hbA, hL⟩ := id C
    refine lv_iload hx hb dL_law_23 (lv_at hl 4 rfl) ?_
    refine lv_aload_n hx hb dL_law_25 rfl (lv_at hl 0 rfl) ?_
    refine va_slen hx hb hX hbl hbA hS dL_law_26 ?_
    refine lv_iconst (v := nI 4) hx hb dL_law_27 (by decide) ?_
    refine lv_isub hx hb dL_law_28 ?_
    refine lv_icmp_gt (tgt := 674) hx hb dL_law_29 (by decide) (fun c_29 => ?_) (fun c_29 => ?_)
    · refine lv_iconst (v := 1) hx hb dL_law_674 (by decide) ?_
      refine va_forget (fun q hq => hAs _ (hS.2.2 q hq)) ?_
      refine W.widen (k := 1050) (n := 24207) (by omega) (by omega) ?_
      exact lw_ret hx hb hr hlocks dL_law_675
    · have hj : 4 * j + 4 ≤ L := by
        have z1 : ¬ (nI L - nI 4).toInt < (nI (4 * j)).toInt := fun z => c_29 (Int32.lt_iff_toInt_lt.mpr z)
        rw [pk_sub_toInt (by omega) (by omega), nI_toInt (by omega)] at z1
        omega
      have kk : LK p l e s m below meth c dC dI cA cL A b ax am oa (4 * j) (14 + j + 1) (15943 + 6 * j + 6) 668 := by
        intro u w fo H locs ls hI hP hD hS hl
        refine lv_iinc (v := nI (4 * (j + 1))) (lv' := [(4, .int (nI (4 * (j + 1)))), (0, .ref b), (1, .ref (ax 0)), (2, .ref (am 0)), (3, .ref oa)]) hx hb dL_law_668 hl (k := 4) rfl (nI_add (4 * j) 4) (by decide) rfl (fun ls hl => ?_)
        refine lv_goto (tgt := 23) hx hb dL_law_671 (by decide) ?_
        exact ih (j + 1) (by omega) (by omega) u w fo _ _ ls hI hP hD hS (lv_sub hl [1, 2, 3, 4, 0] rfl)
      clear ih
      refine lv_aload_n hx hb dL_law_32 rfl (lv_at hl 0 rfl) ?_
      refine lv_iload hx hb dL_law_33 (lv_at hl 4 rfl) ?_
      refine va_sld hx hb hX hbl hbA hS (i := nI (4 * j)) (vp_in_nI (by omega) (by omega)) dL_law_35 ?_
      refine lv_bipush (v := nI 15) hx hb dL_law_36 (by decide) ?_
      refine lv_iand hx hb dL_law_38 ?_
      refine lv_topi (fun x _ => ?_)
      by_cases q_0 : x = nI 0
      · rw [q_0]
        refine lv_tableIn (tgt := 96) (off := 57) hx hb dL_law_39 (by decide) (by decide) (by decide) (by decide) ?_
        obtain ⟨st, nh, tp, T, n, o, cb, cy, wl, wd, th, tp', cb', cy', ro, pi, rfl, rfl, hF⟩ := hI
        exact lw_feed h9 C hj (by omega) (by omega) kk hF hP hD hS hl
      by_cases q_1 : x = nI 1
      · rw [q_1]
        refine lv_tableIn (tgt := 196) (off := 157) hx hb dL_law_39 (by decide) (by decide) (by decide) (by decide) ?_
        obtain ⟨st, nh, tp, T, n, o, cb, cy, wl, wd, th, tp', cb', cy', ro, pi, rfl, rfl, hF⟩ := hI
        exact lw_put h9 C hj (by omega) (by omega) kk hF hP hD hS hl
      by_cases q_2 : x = nI 2
      · rw [q_2]
        refine lv_tableIn (tgt := 252) (off := 213) hx hb dL_law_39 (by decide) (by decide) (by decide) (by decide) ?_
        obtain ⟨st, nh, tp, T, n, o, cb, cy, wl, wd, th, tp', cb', cy', ro, pi, rfl, rfl, hF⟩ := hI
        exact lw_drop h9 C hj (by omega) (by omega) kk hF hP hD hS hl
      by_cases q_3 : x = nI 3
      · rw [q_3]
        refine lv_tableIn (tgt := 265) (off := 226) hx hb dL_law_39 (by decide) (by decide) (by decide) (by decide) ?_
        obtain ⟨st, nh, tp, T, n, o, cb, cy, wl, wd, th, tp', cb', cy', ro, pi, rfl, rfl, hF⟩ := hI
        exact lw_commit h9 C hj (by omega) (by omega) kk hF hP hD hS hl
      by_cases q_4 : x = nI 4
      · rw [q_4]
        refine lv_tableIn (tgt := 316) (off := 277) hx hb dL_law_39 (by decide) (by decide) (by decide) (by decide) ?_
        obtain ⟨st, nh, tp, T, n, o, cb, cy, wl, wd, th, tp', cb', cy', ro, pi, rfl, rfl, hF⟩ := hI
        exact lw_recover h9 C hj (by omega) (by omega) kk hF hP hD hS hl
      by_cases q_5 : x = nI 5
      · rw [q_5]
        refine lv_tableIn (tgt := 360) (off := 321) hx hb dL_law_39 (by decide) (by decide) (by decide) (by decide) ?_
        obtain ⟨st, nh, tp, T, n, o, cb, cy, wl, wd, th, tp', cb', cy', ro, pi, rfl, rfl, hF⟩ := hI
        exact lw_lose h9 C hj (by omega) (by omega) kk hF hP hD hS hl
      by_cases q_6 : x = nI 6
      · rw [q_6]
        refine lv_tableIn (tgt := 396) (off := 357) hx hb dL_law_39 (by decide) (by decide) (by decide) (by decide) ?_
        obtain ⟨st, nh, tp, T, n, o, cb, cy, wl, wd, th, tp', cb', cy', ro, pi, rfl, rfl, hF⟩ := hI
        exact lw_power h9 C hj (by omega) (by omega) kk hF hP hD hS hl
      by_cases q_7 : x = nI 7
      · rw [q_7]
        refine lv_tableIn (tgt := 409) (off := 370) hx hb dL_law_39 (by decide) (by decide) (by decide) (by decide) ?_
        obtain ⟨st, nh, tp, T, n, o, cb, cy, wl, wd, th, tp', cb', cy', ro, pi, rfl, rfl, hF⟩ := hI
        exact lw_spoil h9 C hj (by omega) (by omega) kk hF hP hD hS hl
      by_cases q_8 : x = nI 8
      · rw [q_8]
        refine lv_tableIn (tgt := 489) (off := 450) hx hb dL_law_39 (by decide) (by decide) (by decide) (by decide) ?_
        obtain ⟨st, nh, tp, T, n, o, cb, cy, wl, wd, th, tp', cb', cy', ro, pi, rfl, rfl, hF⟩ := hI
        exact lw_at h9 C hj (by omega) (by omega) kk hF hP hD hS hl
      by_cases q_9 : x = nI 9
      · rw [q_9]
        refine lv_tableIn (tgt := 557) (off := 518) hx hb dL_law_39 (by decide) (by decide) (by decide) (by decide) ?_
        obtain ⟨st, nh, tp, T, n, o, cb, cy, wl, wd, th, tp', cb', cy', ro, pi, rfl, rfl, hF⟩ := hI
        exact lw_change h9 C hj (by omega) (by omega) kk hF hP hD hS hl
      by_cases q_10 : x = nI 10
      · rw [q_10]
        refine lv_tableIn (tgt := 613) (off := 574) hx hb dL_law_39 (by decide) (by decide) (by decide) (by decide) ?_
        obtain ⟨st, nh, tp, T, n, o, cb, cy, wl, wd, th, tp', cb', cy', ro, pi, rfl, rfl, hF⟩ := hI
        exact lw_look h9 C hj (by omega) (by omega) kk hF hP hD hS hl
      refine lv_tableOut (tgt := 668) hx hb dL_law_39 (sw_out (n := 10) (by decide) (fun v hv => ?_)) (by decide) ?_
      · rcases (show v = 0 ∨ v = 1 ∨ v = 2 ∨ v = 3 ∨ v = 4 ∨ v = 5 ∨ v = 6 ∨ v = 7 ∨ v = 8 ∨ v = 9 ∨ v = 10 by omega) with rfl | rfl | rfl | rfl | rfl | rfl | rfl | rfl | rfl | rfl | rfl <;> assumption
      · refine W.widen (k := 14 + j + 1) (n := 15943 + 6 * j + 6) (by omega) (by omega) ?_
        exact kk u w fo _ _ ls hI hP hD hS hl

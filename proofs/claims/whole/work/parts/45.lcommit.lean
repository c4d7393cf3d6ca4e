set_option maxHeartbeats 4000000 in
set_option maxRecDepth 100000 in
theorem lw_commit {p : Program} {l : Launch} {e : Env} {s : State} {m : MethodId} {below : List Frame} {meth : Method} {c : Code} {dC : Nat → ClassId} {dI : Nat → Nat → Nat} {cA cL : ClassId} {A : Nat → Prop} {b L : Nat} {xs : Nat → Int32} (h9 : l.stackTraces = false) (C : LC p s m meth c dC dI cA cL A b L xs) {ax am : Nat → Nat} {oa j cells slots : Nat} (hj : 4 * j + 4 ≤ L) (hc : cells + 1 ≤ 1050) (hs : slots + 6 ≤ 24207) (kk : LK p l e s m below meth c dC dI cA cL A b ax am oa (4 * j) (cells + 1) (slots + 6) 668) {st nh tp : Nat → Int32} {T n : Nat} {o : Bool} {cb cy : Nat → Int32} {wl : Int32} {wd : Int64} {th : Int32} {tp' cb' cy' ro : Nat → Int32} {pi : Nat → Nat} {fo : Nat → Int64} (hF : LF st tp T n o cb cy wl tp' cb' cy' pi) {H : Heap} {locs : List Loc} {ls : Array Slot} (hP : va_P (dC, dI) vwCl (wX cA ax st (ckF 256) nh tp (nI T) cb cy (nI n) (bI o) wl wd ++ (wM cA am th st tp' (nI T) cb' cy' (nI n) wd wl.toInt64 (bI o) ro ++ [(oa, .inl (cL, 1, .inr (.inl fo)))])) H) (hD : va_D A (wX cA ax st (ckF 256) nh tp (nI T) cb cy (nI n) (bI o) wl wd ++ (wM cA am th st tp' (nI T) cb' cy' (nI n) wd wl.toInt64 (bI o) ro ++ [(oa, .inl (cL, 1, .inr (.inl fo)))]))) (hS : va_S A s.heap H locs) (hl : lv_has ls 8 [(0, .ref b), (1, .ref (ax 0)), (2, .ref (am 0)), (3, .ref oa), (4, .int (nI (4 * j)))]) : W p l e room_1 s m #[Value.ref b] below meth c H locs cells slots (lw_Z below #[Value.ref b] s) (F0 m 265 ls []) := by
  obtain ⟨⟨hx, hb, hr, hml, hown, hts, hX, hbl, hlocks, hgv⟩, hK, hE, hNc, hA, hbA, hL⟩ := C
  have hts := fun w h => hts w (wsL_law_in w h)
  have hown : s.vm.findClass RL = some m.cls := hown
  have hT := hF.2.1.1
  have hn := hF.2.2.1.1
  refine lv_aload_n hx hb dL_law_265 rfl (lv_at hl 1 rfl) ?_
  refine lv_aload_n hx hb dL_law_266 rfl (lv_at hl 3 rfl) ?_
  have hPc := hP.sub (ws' := wX cA ax st (ckF 256) nh tp (nI T) cb cy (nI n) (bI o) wl wd ++ [(oa, .inl (cL, 1, .inr (.inl fo)))]) [0, 1, 2, 3, 4, 5, 6, 13] rfl
  have hDc := hD.sub (ws' := wX cA ax st (ckF 256) nh tp (nI T) cb cy (nI n) (bI o) wl wd ++ [(oa, .inl (cL, 1, .inr (.inl fo)))]) [0, 1, 2, 3, 4, 5, 6, 13] (by decide) rfl
  have hKc := hK.sub (tys' := [(cA, .int), (cL, .long)]) [0, 1] rfl
  have hFc := va_free (wc := wX cA ax st (ckF 256) nh tp (nI T) cb cy (nI n) (bI o) wl wd ++ [(oa, .inl (cL, 1, .inr (.inl fo)))]) hD hS hA [0, 1, 2, 3, 4, 5, 6, 13] rfl
  refine va_calli (vx_runSW (As := [.ref (ax 0), .ref oa]) (rest := []) ⟨hx, hb, hml, hown, hts⟩ (c_L_commit l h9 dC dI cA ax cL oa fo H.size st (ckF 256) nh tp (nI T) cb cy wl wd n o hn (fun i hi => (hF.2.2.1.ch i hi).1)) (vx_cwSW 2 hts gL_law_L_commit rfl rfl rfl (by decide +kernel) ⟨Nat.le_of_ble_eq_true rfl, Nat.le_of_ble_eq_true rfl⟩) ⟨fun a U g mk q => by obtain ⟨q0, q1, qP, qK, qD, qE, qN⟩ := q; exact ⟨q0, q1, qP, va_K.moved (u := U) (U := U.calling g mk a) (Vm.Alike.refl U.vm) qK, qD, bjE_calling qE, va_Nc.moved (u := U) (U := U.calling g mk a) (Vm.Alike.refl U.vm) qN⟩, fun U hU hW => ⟨rfl, by rw [hU], by rw [hU]; exact hPc, va_K.moved hW.alike hKc, hDc.weaken (fun _ _ _ _ => trivial), bjE_at hE hS hW hU hFc, va_Nc.moved hW.alike hNc⟩⟩ rfl rfl hl.1 rfl (lv_room (Nat.le_of_ble_eq_true rfl)) dL_law_267 ⟨by show _ ≤ 1050; omega, by show _ ≤ 24207; omega⟩) hS (fun q _ h => hFc q h) hFc (fun r u t H1 locs ht hvm hw hB hz1 hk1 hS => ?_)
  obtain ⟨u1, f1⟩ := u
  obtain ⟨hP1, hK1, hD1⟩ := hB
  rw [ht] at hP1
  try dsimp only at hw hP1 hD1
  obtain ⟨hP, hD⟩ := va_join (wr := wM cA am th st tp' (nI T) cb' cy' (nI n) wd wl.toInt64 (bI o) ro) (w1 := wXu cA ax (ckF 256) u1 ++ [(oa, .inl (cL, 1, .inr (.inl f1)))]) hP hD [0, 1, 2, 3, 4, 5, 6, 13] [7, 8, 9, 10, 11, 12] rfl rfl (by decide) (by decide) hk1 hFc hP1 hD1
  have hP : va_P (dC, dI) vwCl (wXu cA ax (ckF 256) u1 ++ (wM cA am th st tp' (nI T) cb' cy' (nI n) wd wl.toInt64 (bI o) ro ++ [(oa, .inl (cL, 1, .inr (.inl f1)))])) H1 := hP.sub (ws' := wXu cA ax (ckF 256) u1 ++ (wM cA am th st tp' (nI T) cb' cy' (nI n) wd wl.toInt64 (bI o) ro ++ [(oa, .inl (cL, 1, .inr (.inl f1)))])) [6, 7, 8, 9, 10, 11, 12, 0, 1, 2, 3, 4, 5, 13] rfl
  have hD : va_D A (wXu cA ax (ckF 256) u1 ++ (wM cA am th st tp' (nI T) cb' cy' (nI n) wd wl.toInt64 (bI o) ro ++ [(oa, .inl (cL, 1, .inr (.inl f1)))])) := hD.sub (ws' := wXu cA ax (ckF 256) u1 ++ (wM cA am th st tp' (nI T) cb' cy' (nI n) wd wl.toInt64 (bI o) ro ++ [(oa, .inl (cL, 1, .inr (.inl f1)))])) [6, 7, 8, 9, 10, 11, 12, 0, 1, 2, 3, 4, 5, 13] (by decide) rfl
  generalize H1 = H at hP hS ⊢
  refine lv_istore (lv' := [(5, .int r), (0, .ref b), (1, .ref (ax 0)), (2, .ref (am 0)), (3, .ref oa), (4, .int (nI (4 * j)))]) hx hb dL_law_270 hl (by decide) rfl (fun ls hl => ?_)
  refine lv_aload_n hx hb dL_law_272 rfl (lv_at hl 3 rfl) ?_
  have hPc := hP.sub (ws' := wM cA am th st tp' (nI T) cb' cy' (nI n) wd wl.toInt64 (bI o) ro) [7, 8, 9, 10, 11, 12] rfl
  have hDc := hD.sub (ws' := wM cA am th st tp' (nI T) cb' cy' (nI n) wd wl.toInt64 (bI o) ro) [7, 8, 9, 10, 11, 12] (by decide) rfl
  have hKc := hK.sub (tys' := [(cA, .int)]) [0] rfl
  have hFc := va_free (wc := wM cA am th st tp' (nI T) cb' cy' (nI n) wd wl.toInt64 (bI o) ro) hD hS hA [7, 8, 9, 10, 11, 12] rfl
  refine va_calli (va_runV (As := []) (rest := []) ⟨hx, hb, hml, hown, hts⟩ (c_X1_commit l dC dI cA am H.size th st tp' (nI T) cb' cy' wd wl.toInt64 ro n o pi hn hF.2.2.1.rk hF.2.2.1.cb96) (cwV 0 hts gL_law_X1_commit rfl rfl rfl (by decide +kernel) ⟨Nat.le_of_ble_eq_true rfl, Nat.le_of_ble_eq_true rfl⟩) ⟨fun a U g mk q => by obtain ⟨q0, q1, qP, qK, qD⟩ := q; exact ⟨q0, q1, qP, va_K.moved (u := U) (U := U.calling g mk a) (Vm.Alike.refl U.vm) qK, qD⟩, va_recv hKc hPc (ci := 1) (q0 := 0) rfl rfl, fun U hU hW => ⟨rfl, by rw [hU], by rw [hU]; exact hPc, va_K.moved hW.alike hKc, hDc.weaken (fun _ _ _ _ => trivial)⟩⟩ rfl rfl hl.1 rfl (lv_room (Nat.le_of_ble_eq_true rfl)) dL_law_273 ⟨by show _ ≤ 1050; omega, by show _ ≤ 24207; omega⟩) hS (fun q _ h => hFc q h) hFc (fun r2 w1 t H1 locs ht hvm hw2 hB hz1 hk1 hS => ?_)
  obtain ⟨hP1, hK1, hD1⟩ := hB
  rw [ht] at hP1
  obtain ⟨hP, hD⟩ := va_join (wr := wXu cA ax (ckF 256) u1 ++ [(oa, .inl (cL, 1, .inr (.inl f1)))]) (w1 := wMu cA am w1) hP hD [7, 8, 9, 10, 11, 12] [0, 1, 2, 3, 4, 5, 6, 13] rfl rfl (by decide) (by decide) hk1 hFc hP1 hD1
  have hP : va_P (dC, dI) vwCl (wXu cA ax (ckF 256) u1 ++ (wMu cA am w1 ++ [(oa, .inl (cL, 1, .inr (.inl f1)))])) H1 := hP.sub (ws' := wXu cA ax (ckF 256) u1 ++ (wMu cA am w1 ++ [(oa, .inl (cL, 1, .inr (.inl f1)))])) [0, 1, 2, 3, 4, 5, 6, 8, 9, 10, 11, 12, 13, 7] rfl
  have hD : va_D A (wXu cA ax (ckF 256) u1 ++ (wMu cA am w1 ++ [(oa, .inl (cL, 1, .inr (.inl f1)))])) := hD.sub (ws' := wXu cA ax (ckF 256) u1 ++ (wMu cA am w1 ++ [(oa, .inl (cL, 1, .inr (.inl f1)))])) [0, 1, 2, 3, 4, 5, 6, 8, 9, 10, 11, 12, 13, 7] (by decide) rfl
  generalize H1 = H at hP hS ⊢
  have hO := s_commit hF hw hw2
  refine lv_istore (lv' := [(6, .int r2), (5, .int r), (0, .ref b), (1, .ref (ax 0)), (2, .ref (am 0)), (3, .ref oa), (4, .int (nI (4 * j)))]) hx hb dL_law_276 hl (by decide) rfl (fun ls hl => ?_)
  refine lv_aload_n hx hb dL_law_278 rfl (lv_at hl 4 rfl) ?_
  have hPm := hP.sub (ws' := wMu cA am w1) [7, 8, 9, 10, 11, 12] rfl
  have hKm := hK.sub (tys' := [(cA, .int)]) [0] rfl
  refine bj_call (v := .int w1.1) (W.runV (As := []) (rest := []) ⟨hx, hb, hml, hown, hts⟩ (c_X1_thrown l dC dI cA am w1.1 w1.2.1 w1.2.2.1 w1.2.2.2.1 w1.2.2.2.2.1 w1.2.2.2.2.2.1 w1.2.2.2.2.2.2.1 w1.2.2.2.2.2.2.2.1 w1.2.2.2.2.2.2.2.2.1 w1.2.2.2.2.2.2.2.2.2.1 w1.2.2.2.2.2.2.2.2.2.2) (cwV 0 hts gL_law_X1_thrown rfl rfl rfl (by decide +kernel) ⟨Nat.le_of_ble_eq_true rfl, Nat.le_of_ble_eq_true rfl⟩) ⟨fun a U g mk q => by obtain ⟨q0, qP, qK⟩ := q; exact ⟨q0, qP, va_K.moved (u := U) (U := U.calling g mk a) (Vm.Alike.refl U.vm) qK⟩, va_recv hKm hPm (ci := 1) (q0 := 0) rfl rfl, fun U hU hW => ⟨rfl, by rw [hU]; exact hPm, va_K.moved hW.alike hKm⟩⟩ rfl rfl hl.1 rfl (lv_room (Nat.le_of_ble_eq_true rfl)) dL_law_279 ⟨by show _ ≤ 1050; omega, by show _ ≤ 24207; omega⟩) ?_
  refine lv_iload hx hb dL_law_282 (lv_at hl 1 rfl) ?_
  refine lv_icmp_eq (tgt := 289) hx hb dL_law_284 (by decide) (fun c_284 => ?_) (fun c_284 => ?_)
  · refine lv_iload hx hb dL_law_289 (lv_at hl 1 rfl) ?_
    refine lv_if_ne (tgt := 313) hx hb dL_law_291 (by decide) (fun c_291 => ?_) (fun c_291 => ?_)
    · refine lv_goto (tgt := 668) hx hb dL_law_313 (by decide) ?_
      exact kk u1 w1 f1 _ _ ls hO.1 hP hD hS (lv_sub hl [2, 3, 4, 5, 6] rfl)
    · refine lv_aload_n hx hb dL_law_294 rfl (lv_at hl 5 rfl) ?_
      refine lv_iconst (v := nI 0) hx hb dL_law_295 (by decide) ?_
      refine va_lald (D := (dC, dI)) hx hb hK hP 13 1 (cA := cL) (n := 1) (f := f1) rfl rfl (i := nI 0) (vp_in_nI (by omega) (by omega)) dL_law_296 ?_
      refine bj_l (y := f1 0) (congrArg f1 (nI_clamp (by omega))) ?_
      refine lv_iload hx hb dL_law_297 (lv_at hl 0 rfl) ?_
      refine lv_if_eq (tgt := 306) hx hb dL_law_299 (by decide) (fun c_299 => ?_) (fun c_299 => ?_)
      · refine lv_lconst (v := 0) hx hb dL_law_306 (by decide) ?_
        refine W.lcmp hx hb dL_law_307 ?_
        refine lv_if_eq (tgt := 313) hx hb dL_law_308 (by decide) (fun c_308 => ?_) (fun c_308 => ?_)
        · have m_308 := (lg_cmp_eq (f1 0) 0).mp c_308
          refine lv_goto (tgt := 668) hx hb dL_law_313 (by decide) ?_
          exact kk u1 w1 f1 _ _ ls hO.1 hP hD hS (lv_sub hl [2, 3, 4, 5, 6] rfl)
        · have m_308 := fun h => c_308 ((lg_cmp_eq (f1 0) 0).mpr h)
          exact absurd ((hO.2.2 (c_291.trans nI_0.symm)).trans (if_pos c_299)) m_308
      · refine lv_lconst (v := 1) hx hb dL_law_302 (by decide) ?_
        refine lv_goto (tgt := 307) hx hb dL_law_303 (by decide) ?_
        refine W.lcmp hx hb dL_law_307 ?_
        refine lv_if_eq (tgt := 313) hx hb dL_law_308 (by decide) (fun c_308 => ?_) (fun c_308 => ?_)
        · have m_308 := (lg_cmp_eq (f1 0) 1).mp c_308
          refine lv_goto (tgt := 668) hx hb dL_law_313 (by decide) ?_
          exact kk u1 w1 f1 _ _ ls hO.1 hP hD hS (lv_sub hl [2, 3, 4, 5, 6] rfl)
        · have m_308 := fun h => c_308 ((lg_cmp_eq (f1 0) 1).mpr h)
          exact absurd ((hO.2.2 (c_291.trans nI_0.symm)).trans (if_neg c_299)) m_308
  · exact absurd hO.2.1 c_284
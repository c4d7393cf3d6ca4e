set_option maxHeartbeats 4000000 in
set_option maxRecDepth 100000 in
theorem lw_power {p : Program} {l : Launch} {e : Env} {s : State} {m : MethodId} {below : List Frame} {meth : Method} {c : Code} {dC : Nat → ClassId} {dI : Nat → Nat → Nat} {cA cL : ClassId} {A : Nat → Prop} {b L : Nat} {xs : Nat → Int32} (h9 : l.stackTraces = false) (C : LC p s m meth c dC dI cA cL A b L xs) {ax am : Nat → Nat} {oa j cells slots : Nat} (hj : 4 * j + 4 ≤ L) (hc : cells + 1 ≤ 1050) (hs : slots + 6 ≤ 24207) (kk : LK p l e s m below meth c dC dI cA cL A b ax am oa (4 * j) (cells + 1) (slots + 6) 668) {st nh tp : Nat → Int32} {T n : Nat} {o : Bool} {cb cy : Nat → Int32} {wl : Int32} {wd : Int64} {th : Int32} {tp' cb' cy' ro : Nat → Int32} {pi : Nat → Nat} {fo : Nat → Int64} (hF : LF st tp T n o cb cy wl tp' cb' cy' pi) {H : Heap} {locs : List Loc} {ls : Array Slot} (hP : va_P (dC, dI) vwCl (wX cA ax st (ckF 256) nh tp (nI T) cb cy (nI n) (bI o) wl wd ++ (wM cA am th st tp' (nI T) cb' cy' (nI n) wd wl.toInt64 (bI o) ro ++ [(oa, .inl (cL, 1, .inr (.inl fo)))])) H) (hD : va_D A (wX cA ax st (ckF 256) nh tp (nI T) cb cy (nI n) (bI o) wl wd ++ (wM cA am th st tp' (nI T) cb' cy' (nI n) wd wl.toInt64 (bI o) ro ++ [(oa, .inl (cL, 1, .inr (.inl fo)))]))) (hS : va_S A s.heap H locs) (hl : lv_has ls 8 [(0, .ref b), (1, .ref (ax 0)), (2, .ref (am 0)), (3, .ref oa), (4, .int (nI (4 * j)))]) : W p l e room_1 s m #[Value.ref b] below meth c H locs cells slots (lw_Z below #[Value.ref b] s) (F0 m 396 ls []) := by
  obtain ⟨⟨hx, hb, hr, hml, hown, hts, hX, hbl, hlocks, hgv⟩, hK, hE, hNc, hA, hbA, hL⟩ := C
  have hts := fun w h => hts w (wsL_law_in w h)
  have hown : s.vm.findClass RL = some m.cls := hown
  have hT := hF.2.1.1
  have hn := hF.2.2.1.1
  refine lv_aload_n hx hb dL_law_396 rfl (lv_at hl 1 rfl) ?_
  have hPc := hP.sub (ws' := wX cA ax st (ckF 256) nh tp (nI T) cb cy (nI n) (bI o) wl wd) [0, 1, 2, 3, 4, 5, 6] rfl
  have hDc := hD.sub (ws' := wX cA ax st (ckF 256) nh tp (nI T) cb cy (nI n) (bI o) wl wd) [0, 1, 2, 3, 4, 5, 6] (by decide) rfl
  have hKc := hK.sub (tys' := [(cA, .int)]) [0] rfl
  have hFc := va_free (wc := wX cA ax st (ckF 256) nh tp (nI T) cb cy (nI n) (bI o) wl wd) hD hS hA [0, 1, 2, 3, 4, 5, 6] rfl
  refine va_calli (va_runV (As := []) (rest := []) ⟨hx, hb, hml, hown, hts⟩ (c_X0_power l dC dI cA ax H.size st (ckF 256) nh tp (nI T) cb cy (nI n) wl wd o) (cwV 0 hts gL_law_X0_power rfl rfl rfl (by decide +kernel) ⟨Nat.le_of_ble_eq_true rfl, Nat.le_of_ble_eq_true rfl⟩) ⟨fun a U g mk q => by obtain ⟨q0, q1, qP, qK, qD⟩ := q; exact ⟨q0, q1, qP, va_K.moved (u := U) (U := U.calling g mk a) (Vm.Alike.refl U.vm) qK, qD⟩, va_recv hKc hPc (ci := 0) (q0 := 0) rfl rfl, fun U hU hW => ⟨rfl, by rw [hU], by rw [hU]; exact hPc, va_K.moved hW.alike hKc, hDc.weaken (fun _ _ _ _ => trivial)⟩⟩ rfl rfl hl.1 rfl (lv_room (Nat.le_of_ble_eq_true rfl)) dL_law_397 ⟨by show _ ≤ 1050; omega, by show _ ≤ 24207; omega⟩) hS (fun q _ h => hFc q h) hFc (fun r u1 t H1 locs ht hvm hw hB hz1 hk1 hS => ?_)
  obtain ⟨hP1, hK1, hD1⟩ := hB
  rw [ht] at hP1
  obtain ⟨hP, hD⟩ := va_join (wr := wM cA am th st tp' (nI T) cb' cy' (nI n) wd wl.toInt64 (bI o) ro ++ [(oa, .inl (cL, 1, .inr (.inl fo)))]) (w1 := wXu cA ax (ckF 256) u1) hP hD [0, 1, 2, 3, 4, 5, 6] [7, 8, 9, 10, 11, 12, 13] rfl rfl (by decide) (by decide) hk1 hFc hP1 hD1
  have hP : va_P (dC, dI) vwCl (wXu cA ax (ckF 256) u1 ++ (wM cA am th st tp' (nI T) cb' cy' (nI n) wd wl.toInt64 (bI o) ro ++ [(oa, .inl (cL, 1, .inr (.inl fo)))])) H1 := hP.sub (ws' := wXu cA ax (ckF 256) u1 ++ (wM cA am th st tp' (nI T) cb' cy' (nI n) wd wl.toInt64 (bI o) ro ++ [(oa, .inl (cL, 1, .inr (.inl fo)))])) [7, 8, 9, 10, 11, 12, 13, 0, 1, 2, 3, 4, 5, 6] rfl
  have hD : va_D A (wXu cA ax (ckF 256) u1 ++ (wM cA am th st tp' (nI T) cb' cy' (nI n) wd wl.toInt64 (bI o) ro ++ [(oa, .inl (cL, 1, .inr (.inl fo)))])) := hD.sub (ws' := wXu cA ax (ckF 256) u1 ++ (wM cA am th st tp' (nI T) cb' cy' (nI n) wd wl.toInt64 (bI o) ro ++ [(oa, .inl (cL, 1, .inr (.inl fo)))])) [7, 8, 9, 10, 11, 12, 13, 0, 1, 2, 3, 4, 5, 6] (by decide) rfl
  generalize H1 = H at hP hS ⊢
  refine lv_aload_n hx hb dL_law_400 rfl (lv_at hl 2 rfl) ?_
  have hPc := hP.sub (ws' := wM cA am th st tp' (nI T) cb' cy' (nI n) wd wl.toInt64 (bI o) ro) [7, 8, 9, 10, 11, 12] rfl
  have hDc := hD.sub (ws' := wM cA am th st tp' (nI T) cb' cy' (nI n) wd wl.toInt64 (bI o) ro) [7, 8, 9, 10, 11, 12] (by decide) rfl
  have hKc := hK.sub (tys' := [(cA, .int)]) [0] rfl
  have hFc := va_free (wc := wM cA am th st tp' (nI T) cb' cy' (nI n) wd wl.toInt64 (bI o) ro) hD hS hA [7, 8, 9, 10, 11, 12] rfl
  refine va_calli (va_runV (As := []) (rest := [.int r]) ⟨hx, hb, hml, hown, hts⟩ (c_X1_power l dC dI cA am H.size th st tp' (nI T) cb' cy' (nI n) wd wl.toInt64 ro o) (cwV 0 hts gL_law_X1_power rfl rfl rfl (by decide +kernel) ⟨Nat.le_of_ble_eq_true rfl, Nat.le_of_ble_eq_true rfl⟩) ⟨fun a U g mk q => by obtain ⟨q0, q1, qP, qK, qD⟩ := q; exact ⟨q0, q1, qP, va_K.moved (u := U) (U := U.calling g mk a) (Vm.Alike.refl U.vm) qK, qD⟩, va_recv hKc hPc (ci := 1) (q0 := 0) rfl rfl, fun U hU hW => ⟨rfl, by rw [hU], by rw [hU]; exact hPc, va_K.moved hW.alike hKc, hDc.weaken (fun _ _ _ _ => trivial)⟩⟩ rfl rfl hl.1 rfl (lv_room (Nat.le_of_ble_eq_true rfl)) dL_law_401 ⟨by show _ ≤ 1050; omega, by show _ ≤ 24207; omega⟩) hS (fun q _ h => hFc q h) hFc (fun r2 w1 t H1 locs ht hvm hw2 hB hz1 hk1 hS => ?_)
  obtain ⟨hP1, hK1, hD1⟩ := hB
  rw [ht] at hP1
  obtain ⟨hP, hD⟩ := va_join (wr := wXu cA ax (ckF 256) u1 ++ [(oa, .inl (cL, 1, .inr (.inl fo)))]) (w1 := wMu cA am w1) hP hD [7, 8, 9, 10, 11, 12] [0, 1, 2, 3, 4, 5, 6, 13] rfl rfl (by decide) (by decide) hk1 hFc hP1 hD1
  have hP : va_P (dC, dI) vwCl (wXu cA ax (ckF 256) u1 ++ (wMu cA am w1 ++ [(oa, .inl (cL, 1, .inr (.inl fo)))])) H1 := hP.sub (ws' := wXu cA ax (ckF 256) u1 ++ (wMu cA am w1 ++ [(oa, .inl (cL, 1, .inr (.inl fo)))])) [0, 1, 2, 3, 4, 5, 6, 8, 9, 10, 11, 12, 13, 7] rfl
  have hD : va_D A (wXu cA ax (ckF 256) u1 ++ (wMu cA am w1 ++ [(oa, .inl (cL, 1, .inr (.inl fo)))])) := hD.sub (ws' := wXu cA ax (ckF 256) u1 ++ (wMu cA am w1 ++ [(oa, .inl (cL, 1, .inr (.inl fo)))])) [0, 1, 2, 3, 4, 5, 6, 8, 9, 10, 11, 12, 13, 7] (by decide) rfl
  generalize H1 = H at hP hS ⊢
  refine lv_icmp_eq (tgt := 668) hx hb dL_law_404 (by decide) (fun c_404 => ?_) (fun c_404 => ?_)
  · refine W.widen (k := cells + 1) (n := slots + 6) (by omega) (by omega) ?_
    exact kk u1 w1 fo _ _ ls (by rw [hw.2, hw2.2]; exact s_power hF) hP hD hS (lv_sub hl [0, 1, 2, 3, 4] rfl)
  · exact absurd (hw.1.trans hw2.1.symm) c_404
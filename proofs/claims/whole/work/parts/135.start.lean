set_option maxRecDepth 100000 in
set_option maxHeartbeats 8000000 in
theorem whole_start_of {p : Program} {e : Env} {s : State} {m : MethodId} {below : List Frame} {meth : Method} {c : Code} (l : Launch) (hflags : l.flags = flags0) {b L : Nat} {xs : Nat → Int32} (hL : L ≤ 384) (hpure : ∀ (A : Nat → Nat) (z : Nat), ∃ n, n ≤ 65 ∧ lp_L_law_18 L xs n 0 (S_init A z)) (C0 : lw_At p s m meth c b L xs) : W p l e room_1 s m #[Value.ref b] below meth c s.heap [] 0 0 (lw_Z below #[Value.ref b] s) (entryFrame m ([Value.ref b] : List Value).toArray 4) := by
  obtain ⟨hx, hb, hr, hml, hown, hts0, hXs, hbl, hlk, hgv⟩ := id C0
  have hts : ∀ w ∈ wT, w.before #[Value.ref b] s = true := fun w hw => hts0 w (wT_tbl w hw)
  have F : CX p m c cL_law 4 s #[Value.ref b] RL := ⟨hx, hb, hml, hown, hts⟩
  have hA : ∀ q : Nat, s.heap.size ≤ q → (fun q : Nat => s.heap.size ≤ q) q := fun _ h => h
  obtain ⟨c0, iS0, hKn0⟩ := u_known (C := RX0) (T := TX0) (N := 4) (n := 4) hts twu_RX0 (hts _ twt_RX0)
  obtain ⟨c1, iS1, hKn1⟩ := u_known (C := RX1) (T := TX1) (N := 4) (n := 4) hts twu_RX1 (hts _ twt_RX1)
  obtain ⟨c2, iS2, hKn2⟩ := u_known (C := RX2) (T := TX2) (N := 3) (n := 3) hts twu_RX2 (hts _ twt_RX2)
  obtain ⟨c3, iS3, hKn3⟩ := u_known (C := RX3) (T := TX3) (N := 5) (n := 5) hts twu_RX3 (hts _ twt_RX3)
  obtain ⟨c4, iS4, hKn4⟩ := u_known (C := RX4) (T := TX4) (N := 6) (n := 6) hts twu_RX4 (hts _ twt_RX4)
  obtain ⟨c5, iS5, hKn5⟩ := u_known (C := RX5) (T := TX5) (N := 12) (n := 12) hts twu_RX5 (hts _ twt_RX5)
  obtain ⟨c6, iS6, hKn6⟩ := u_known (C := RX6) (T := TX6) (N := 6) (n := 6) hts twu_RX6 (hts _ twt_RX6)
  obtain ⟨c7, iS7, hKn7⟩ := u_known (C := RX8) (T := TX8) (N := 11) (n := 11) hts twu_RX8 (hts _ twt_RX8)
  obtain ⟨c8, iS8, hKn8⟩ := u_known (C := RX9) (T := TX9) (N := 36) (n := 36) hts twu_RX9 (hts _ twt_RX9)
  obtain ⟨dC, dI, hKc⟩ : ∃ (dC : Nat → ClassId) (dI : Nat → Nat → Nat), ∀ (k : Nat) (q : vw_C), vwCl[k]? = some q → u_Kn s q.1 q.2.1 q.2.2 (dC k) (dI k) := by
    refine ⟨fun k => if k = 1 then c1 else if k = 2 then c2 else if k = 3 then c3 else if k = 4 then c4 else if k = 5 then c5 else if k = 6 then c6 else if k = 7 then c7 else if k = 8 then c8 else c0, fun k => if k = 1 then iS1 else if k = 2 then iS2 else if k = 3 then iS3 else if k = 4 then iS4 else if k = 5 then iS5 else if k = 6 then iS6 else if k = 7 then iS7 else if k = 8 then iS8 else iS0, ?_⟩
    intro k q hq
    match k, hq with
    | 0, hq => cases hq; exact hKn0
    | 1, hq => cases hq; exact hKn1
    | 2, hq => cases hq; exact hKn2
    | 3, hq => cases hq; exact hKn3
    | 4, hq => cases hq; exact hKn4
    | 5, hq => cases hq; exact hKn5
    | 6, hq => cases hq; exact hKn6
    | 7, hq => cases hq; exact hKn7
    | 8, hq => cases hq; exact hKn8
    | k + 9, hq => simp [vwCl] at hq
  have hS : va_S (fun q : Nat => s.heap.size ≤ q) s.heap s.heap [] := va_S.rf
  have hK : va_K (dC, dI) vwCl [] s := ⟨hKc, fun k q h => by simp at h⟩
  have hP : va_P (dC, dI) vwCl [] s.heap := fun k q h => by simp at h
  have hD : va_D (fun q : Nat => s.heap.size ≤ q) [] := ⟨fun i j p q h => by simp at h, fun k q h => by simp at h⟩
  have hs := flat_of_before _ hgv
  obtain ⟨es, hEn⟩ := va_Enof (args := #[Value.ref b]) (s := s) (E := "ClockAuctions$State") (d := "LClockAuctions$State;") (nm := ["OPEN", "ON", "OFFERED", "SOLD", "UNSOLD", "BACK"]) (F := []) (A := fun q : Nat => s.heap.size ≤ q)
    (fun i hi => by
    match i, hi with
    | 0, _ => exact hts0 _ (List.mem_of_getElem? (i := 195) (by decide +kernel))
    | 1, _ => exact hts0 _ (List.mem_of_getElem? (i := 409) (by decide +kernel))
    | 2, _ => exact hts0 _ (List.mem_of_getElem? (i := 283) (by decide +kernel))
    | 3, _ => exact hts0 _ (List.mem_of_getElem? (i := 281) (by decide +kernel))
    | 4, _ => exact hts0 _ (List.mem_of_getElem? (i := 380) (by decide +kernel))
    | 5, _ => exact hts0 _ (List.mem_of_getElem? (i := 393) (by decide +kernel))
    | i + 6, hi => exact absurd hi (by simp))
    (hts _ twn_RX7)
    (fun i hi => by
    match i, hi with
    | 0, _ => exact hs _ (by decide +kernel)
    | 1, _ => exact hs _ (by decide +kernel)
    | 2, _ => exact hs _ (by decide +kernel)
    | 3, _ => exact hs _ (by decide +kernel)
    | 4, _ => exact hs _ (by decide +kernel)
    | 5, _ => exact hs _ (by decide +kernel)
    | i + 6, hi => exact absurd hi (by simp))
    (fun q hq => by cases hq)
    (fun i j hi hj hne => by
    match i, j, hi, hj, hne with
    | 0, 0, _, _, h => exact absurd rfl h
    | 0, 1, _, _, _ => exact Or.inl (hs _ (by decide +kernel))
    | 0, 2, _, _, _ => exact Or.inl (hs _ (by decide +kernel))
    | 0, 3, _, _, _ => exact Or.inl (hs _ (by decide +kernel))
    | 0, 4, _, _, _ => exact Or.inl (hs _ (by decide +kernel))
    | 0, 5, _, _, _ => exact Or.inl (hs _ (by decide +kernel))
    | 1, 0, _, _, _ => exact Or.inr (hs _ (by decide +kernel))
    | 1, 1, _, _, h => exact absurd rfl h
    | 1, 2, _, _, _ => exact Or.inr (hs _ (by decide +kernel))
    | 1, 3, _, _, _ => exact Or.inr (hs _ (by decide +kernel))
    | 1, 4, _, _, _ => exact Or.inr (hs _ (by decide +kernel))
    | 1, 5, _, _, _ => exact Or.inr (hs _ (by decide +kernel))
    | 2, 0, _, _, _ => exact Or.inr (hs _ (by decide +kernel))
    | 2, 1, _, _, _ => exact Or.inl (hs _ (by decide +kernel))
    | 2, 2, _, _, h => exact absurd rfl h
    | 2, 3, _, _, _ => exact Or.inr (hs _ (by decide +kernel))
    | 2, 4, _, _, _ => exact Or.inl (hs _ (by decide +kernel))
    | 2, 5, _, _, _ => exact Or.inl (hs _ (by decide +kernel))
    | 3, 0, _, _, _ => exact Or.inr (hs _ (by decide +kernel))
    | 3, 1, _, _, _ => exact Or.inl (hs _ (by decide +kernel))
    | 3, 2, _, _, _ => exact Or.inl (hs _ (by decide +kernel))
    | 3, 3, _, _, h => exact absurd rfl h
    | 3, 4, _, _, _ => exact Or.inl (hs _ (by decide +kernel))
    | 3, 5, _, _, _ => exact Or.inl (hs _ (by decide +kernel))
    | 4, 0, _, _, _ => exact Or.inr (hs _ (by decide +kernel))
    | 4, 1, _, _, _ => exact Or.inl (hs _ (by decide +kernel))
    | 4, 2, _, _, _ => exact Or.inr (hs _ (by decide +kernel))
    | 4, 3, _, _, _ => exact Or.inr (hs _ (by decide +kernel))
    | 4, 4, _, _, h => exact absurd rfl h
    | 4, 5, _, _, _ => exact Or.inl (hs _ (by decide +kernel))
    | 5, 0, _, _, _ => exact Or.inr (hs _ (by decide +kernel))
    | 5, 1, _, _, _ => exact Or.inl (hs _ (by decide +kernel))
    | 5, 2, _, _, _ => exact Or.inr (hs _ (by decide +kernel))
    | 5, 3, _, _, _ => exact Or.inr (hs _ (by decide +kernel))
    | 5, 4, _, _, _ => exact Or.inr (hs _ (by decide +kernel))
    | 5, 5, _, _, h => exact absurd rfl h
    | i + 6, _, hi, _, _ => exact absurd hi (by simp)
    | 0, j + 6, _, hj, _ => exact absurd hj (by simp)
    | 1, j + 6, _, hj, _ => exact absurd hj (by simp)
    | 2, j + 6, _, hj, _ => exact absurd hj (by simp)
    | 3, j + 6, _, hj, _ => exact absurd hj (by simp)
    | 4, j + 6, _, hj, _ => exact absurd hj (by simp)
    | 5, j + 6, _, hj, _ => exact absurd hj (by simp))
    (fun a h1 h2 => Nat.not_le.mpr h1 h2)
  have hl := lv_entry ([.ref b]) (n := 4) (Nat.le_of_ble_eq_true rfl)
  rw [lg_entry_eq]
  generalize (lg_sl ([.ref b]) ++ List.replicate (4 - (lg_sl ([.ref b])).length) Slot.unset).toArray = ls at hl ⊢
  have hl : lv_has ls 4 [(0, .ref b)] := hl
  have hEClockAuctions_Lot : va_AO "ClockAuctions$Lot" s := va_AO.of (hts0 _ (List.mem_of_getElem? (i := 62) (by decide +kernel)))
  have hEClockAuctions_Buyer : va_AO "ClockAuctions$Buyer" s := va_AO.of (hts0 _ (List.mem_of_getElem? (i := 64) (by decide +kernel)))
  have hEClockAuctions_Bid : va_AO "ClockAuctions$Bid" s := va_AO.of (hts0 _ (List.mem_of_getElem? (i := 66) (by decide +kernel)))
  have hEn29 : va_Nw (.methodLinkNest RX8 29 yX4_init "ClockAuctions") s := va_Nw.of rfl (hts0 _ (List.mem_of_getElem? (i := 69) (by decide +kernel)))
  have hEClockAuctions_Entry : va_AO "ClockAuctions$Entry" s := va_AO.of (hts0 _ (List.mem_of_getElem? (i := 103) (by decide +kernel)))
  have hEn36 : va_Nw (.methodLinkNest RX8 36 yX2_init "ClockAuctions") s := va_Nw.of rfl (hts0 _ (List.mem_of_getElem? (i := 98) (by decide +kernel)))
  have hEn43 : va_Nw (.methodLinkNest RX8 43 yX6_init "ClockAuctions") s := va_Nw.of rfl (hts0 _ (List.mem_of_getElem? (i := 116) (by decide +kernel)))
  refine va_new (ci := 7) (fs := [.null, .null, .null, .null, .null, .null, .int 0, .int 0, .int 0, .long 0, .int 0]) (C := RX8) (T := TX8) (N := 11) hx hb hts twu_RX8 tyX8 tyX8_ok hown (hts _ twc_RL_7) (hts _ twt_RX8) (hts _ twn_RX8) hK hP hD hS hA rfl (fun j hj => by rcases (show j = 0 ∨ j = 1 ∨ j = 2 ∨ j = 3 ∨ j = 4 ∨ j = 5 ∨ j = 6 ∨ j = 7 ∨ j = 8 ∨ j = 9 ∨ j = 10 by omega) with rfl | rfl | rfl | rfl | rfl | rfl | rfl | rfl | rfl | rfl | rfl <;> rfl) (Nat.le_of_ble_eq_true rfl) (Nat.le_of_ble_eq_true rfl) dL_law_0 (fun q0 H hP hD hS => ?_)
  have hP : va_P (dC, dI) vwCl [(q0, .inr (7, [.null, .null, .null, .null, .null, .null, .int 0, .int 0, .int 0, .long 0, .int 0]))] H := hP
  have hD : va_D (fun q : Nat => s.heap.size ≤ q) [(q0, .inr (7, [.null, .null, .null, .null, .null, .null, .int 0, .int 0, .int 0, .long 0, .int 0]))] := hD
  refine W.widen (k := 1) (n := 11) (Nat.le_of_ble_eq_true rfl) (Nat.le_of_ble_eq_true rfl) ?_
  refine lv_dup hx hb dL_law_3 rfl ?_
  have hPc := hP.sub (ws' := [(q0, .inr (7, [.null, .null, .null, .null, .null, .null, .int 0, .int 0, .int 0, .long 0, .int 0]))]) [0] rfl
  have hDc := hD.sub (ws' := [(q0, .inr (7, [.null, .null, .null, .null, .null, .null, .int 0, .int 0, .int 0, .long 0, .int 0]))]) [0] (by decide) rfl
  have hKc2 := hK.sub (tys' := []) [] rfl
  have hFc := va_free (wc := [(q0, .inr (7, [.null, .null, .null, .null, .null, .null, .int 0, .int 0, .int 0, .long 0, .int 0]))]) hD hS hA [0] rfl
  refine va_callv (va_runI (As := []) (rest := [.ref q0]) F (mi_X8_init l dC dI q0 H.size) (cwI 0 hts (goodM two_yX8_init) rfl rfl rfl (hts _ twn_RX8) (hts _ twm_RL_9) (hts _ twi_yX8_init) rfl ⟨by decide, by decide, by decide +kernel⟩ ⟨Nat.le_of_ble_eq_true rfl, Nat.le_of_ble_eq_true rfl⟩) ⟨fun a U g mk q => by obtain ⟨q0, q1, qP, qK, qD, qE⟩ := q; exact ⟨q0, q1, qP, va_K.moved (u := U) (U := U.calling g mk a) (Vm.Alike.refl U.vm) qK, qD, ⟨(va_AO.moved (u := U) (U := U.calling g mk a) (Vm.Alike.refl U.vm) qE.1), (va_AO.moved (u := U) (U := U.calling g mk a) (Vm.Alike.refl U.vm) qE.2.1), (va_AO.moved (u := U) (U := U.calling g mk a) (Vm.Alike.refl U.vm) qE.2.2.1), (va_Nw.same rfl rfl qE.2.2.2.1), (va_AO.moved (u := U) (U := U.calling g mk a) (Vm.Alike.refl U.vm) qE.2.2.2.2.1), (va_Nw.same rfl rfl qE.2.2.2.2.2.1), (va_Nw.same rfl rfl qE.2.2.2.2.2.2.1), trivial⟩⟩, fun U hU hW => ⟨rfl, by rw [hU], by rw [hU]; exact hPc, va_K.moved hW.alike hKc2, hDc.weaken (fun _ _ _ _ => trivial), ⟨va_AO.moved hW.alike hEClockAuctions_Lot, va_AO.moved hW.alike hEClockAuctions_Buyer, va_AO.moved hW.alike hEClockAuctions_Bid, va_Nw.warmM hW hEn29, va_AO.moved hW.alike hEClockAuctions_Entry, va_Nw.warmM hW hEn36, va_Nw.warmM hW hEn43, trivial⟩⟩⟩ rfl rfl hl.1 rfl (lv_room (Nat.le_of_ble_eq_true rfl)) dL_law_4 ⟨Nat.le_of_ble_eq_true rfl, Nat.le_of_ble_eq_true rfl⟩) hS (fun q _ h => hFc q h) hFc (fun u t H1 locs ht hvm hw9 hB hz1 hk1 hS => ?_)
  unfold ati_X8_init at hB
  obtain ⟨a0, a1, a2, a3, a4, a5, a6, a7, a8, a9, ac0, ac1, ac2, ac3, ac4, ac5, ac6, hP1, hK1, hD1⟩ := hB
  rw [ht] at hP1
  have hK1 := va_K.moved hvm.symm hK1
  obtain ⟨hP, hD⟩ := va_join (wr := []) (w1 := [(q0, .inr (7, [.ref a0, .ref a1, .ref a2, .ref a3, .ref a4, .ref a6, .int 0, .int 0, .int 0, .long 0, .int 0])), (a0, .inl (ac0, (60, .inr (.inr (.inr (.inr (fun _ => none))))))), (a1, .inl (ac1, (30, .inr (.inr (.inr (.inr (fun _ => none))))))), (a2, .inl (ac2, (18, .inr (.inr (.inr (.inr (fun _ => none))))))), (a3, .inr (4, [.null, .long 0, .long 0, .long 0, .long 0, .int 0])), (a4, .inr (2, [.ref a5, .int 0, .int 1])), (a5, .inl (ac3, (240, .inr (.inr (.inr (.inr (fun _ => none))))))), (a6, .inr (6, [.ref a7, .ref a8, .ref a9, .int 0, .int 0, .long 0])), (a7, .inl (ac4, (18, .inr (.inr (.inr (.inr (fun _ => none))))))), (a8, .inl (ac5, (19, .inr (.inl (fun _ => 0))))), (a9, .inl (ac6, (30, .inr (.inl (fun _ => 0)))))]) hP hD [0] [] rfl rfl (by decide) (by decide) hk1 hFc hP1 hD1
  have hK := hK.app hK1
  generalize H1 = H at hP hS ⊢
  have hP : va_P (dC, dI) vwCl [(q0, .inr (7, [.ref a0, .ref a1, .ref a2, .ref a3, .ref a4, .ref a6, .int 0, .int 0, .int 0, .long 0, .int 0])), (a0, .inl (ac0, (60, .inr (.inr (.inr (.inr (fun _ => none))))))), (a1, .inl (ac1, (30, .inr (.inr (.inr (.inr (fun _ => none))))))), (a2, .inl (ac2, (18, .inr (.inr (.inr (.inr (fun _ => none))))))), (a3, .inr (4, [.null, .long 0, .long 0, .long 0, .long 0, .int 0])), (a4, .inr (2, [.ref a5, .int 0, .int 1])), (a5, .inl (ac3, (240, .inr (.inr (.inr (.inr (fun _ => none))))))), (a6, .inr (6, [.ref a7, .ref a8, .ref a9, .int 0, .int 0, .long 0])), (a7, .inl (ac4, (18, .inr (.inr (.inr (.inr (fun _ => none))))))), (a8, .inl (ac5, (19, .inr (.inl (fun _ => 0))))), (a9, .inl (ac6, (30, .inr (.inl (fun _ => 0)))))] H := hP
  have hD : va_D (fun q : Nat => s.heap.size ≤ q) [(q0, .inr (7, [.ref a0, .ref a1, .ref a2, .ref a3, .ref a4, .ref a6, .int 0, .int 0, .int 0, .long 0, .int 0])), (a0, .inl (ac0, (60, .inr (.inr (.inr (.inr (fun _ => none))))))), (a1, .inl (ac1, (30, .inr (.inr (.inr (.inr (fun _ => none))))))), (a2, .inl (ac2, (18, .inr (.inr (.inr (.inr (fun _ => none))))))), (a3, .inr (4, [.null, .long 0, .long 0, .long 0, .long 0, .int 0])), (a4, .inr (2, [.ref a5, .int 0, .int 1])), (a5, .inl (ac3, (240, .inr (.inr (.inr (.inr (fun _ => none))))))), (a6, .inr (6, [.ref a7, .ref a8, .ref a9, .int 0, .int 0, .long 0])), (a7, .inl (ac4, (18, .inr (.inr (.inr (.inr (fun _ => none))))))), (a8, .inl (ac5, (19, .inr (.inl (fun _ => 0))))), (a9, .inl (ac6, (30, .inr (.inl (fun _ => 0)))))] := hD
  have hK : va_K (dC, dI) vwCl [(ac0, .object "ClockAuctions$Lot"), (ac1, .object "ClockAuctions$Buyer"), (ac2, .object "ClockAuctions$Bid"), (ac3, .object "ClockAuctions$Entry"), (ac4, .object "ClockAuctions$Bid"), (ac5, .long), (ac6, .long)] s := hK
  refine W.widen (k := 11) (n := 441) (Nat.le_of_ble_eq_true rfl) (Nat.le_of_ble_eq_true rfl) ?_
  refine lv_astore_n (lv' := [(1, .ref q0), (0, .ref b)]) hx hb dL_law_7 rfl hl (by decide) rfl (fun ls hl => ?_)
  refine va_new (ci := 8) (fs := [.int 0, .null, .null, .null, .null, .null, .null, .null, .null, .null, .null, .null, .int 0, .null, .null, .null, .long 0, .int 0, .long 0, .long 0, .long 0, .long 0, .int 0, .int 0, .null, .null, .null, .int 0, .long 0, .int 0, .int 0, .null, .null, .null, .null, .null]) (C := RX9) (T := TX9) (N := 36) hx hb hts twu_RX9 tyX9 tyX9_ok hown (hts _ twc_RL_10) (hts _ twt_RX9) (hts _ twn_RX9) hK hP hD hS hA rfl (fun j hj => by rcases (show j = 0 ∨ j = 1 ∨ j = 2 ∨ j = 3 ∨ j = 4 ∨ j = 5 ∨ j = 6 ∨ j = 7 ∨ j = 8 ∨ j = 9 ∨ j = 10 ∨ j = 11 ∨ j = 12 ∨ j = 13 ∨ j = 14 ∨ j = 15 ∨ j = 16 ∨ j = 17 ∨ j = 18 ∨ j = 19 ∨ j = 20 ∨ j = 21 ∨ j = 22 ∨ j = 23 ∨ j = 24 ∨ j = 25 ∨ j = 26 ∨ j = 27 ∨ j = 28 ∨ j = 29 ∨ j = 30 ∨ j = 31 ∨ j = 32 ∨ j = 33 ∨ j = 34 ∨ j = 35 by omega) with rfl | rfl | rfl | rfl | rfl | rfl | rfl | rfl | rfl | rfl | rfl | rfl | rfl | rfl | rfl | rfl | rfl | rfl | rfl | rfl | rfl | rfl | rfl | rfl | rfl | rfl | rfl | rfl | rfl | rfl | rfl | rfl | rfl | rfl | rfl | rfl <;> rfl) (Nat.le_of_ble_eq_true rfl) (Nat.le_of_ble_eq_true rfl) dL_law_8 (fun q8 H hP hD hS => ?_)
  have hP : va_P (dC, dI) vwCl [(q0, .inr (7, [.ref a0, .ref a1, .ref a2, .ref a3, .ref a4, .ref a6, .int 0, .int 0, .int 0, .long 0, .int 0])), (a0, .inl (ac0, (60, .inr (.inr (.inr (.inr (fun _ => none))))))), (a1, .inl (ac1, (30, .inr (.inr (.inr (.inr (fun _ => none))))))), (a2, .inl (ac2, (18, .inr (.inr (.inr (.inr (fun _ => none))))))), (a3, .inr (4, [.null, .long 0, .long 0, .long 0, .long 0, .int 0])), (a4, .inr (2, [.ref a5, .int 0, .int 1])), (a5, .inl (ac3, (240, .inr (.inr (.inr (.inr (fun _ => none))))))), (a6, .inr (6, [.ref a7, .ref a8, .ref a9, .int 0, .int 0, .long 0])), (a7, .inl (ac4, (18, .inr (.inr (.inr (.inr (fun _ => none))))))), (a8, .inl (ac5, (19, .inr (.inl (fun _ => 0))))), (a9, .inl (ac6, (30, .inr (.inl (fun _ => 0))))), (q8, .inr (8, [.int 0, .null, .null, .null, .null, .null, .null, .null, .null, .null, .null, .null, .int 0, .null, .null, .null, .long 0, .int 0, .long 0, .long 0, .long 0, .long 0, .int 0, .int 0, .null, .null, .null, .int 0, .long 0, .int 0, .int 0, .null, .null, .null, .null, .null]))] H := hP
  have hD : va_D (fun q : Nat => s.heap.size ≤ q) [(q0, .inr (7, [.ref a0, .ref a1, .ref a2, .ref a3, .ref a4, .ref a6, .int 0, .int 0, .int 0, .long 0, .int 0])), (a0, .inl (ac0, (60, .inr (.inr (.inr (.inr (fun _ => none))))))), (a1, .inl (ac1, (30, .inr (.inr (.inr (.inr (fun _ => none))))))), (a2, .inl (ac2, (18, .inr (.inr (.inr (.inr (fun _ => none))))))), (a3, .inr (4, [.null, .long 0, .long 0, .long 0, .long 0, .int 0])), (a4, .inr (2, [.ref a5, .int 0, .int 1])), (a5, .inl (ac3, (240, .inr (.inr (.inr (.inr (fun _ => none))))))), (a6, .inr (6, [.ref a7, .ref a8, .ref a9, .int 0, .int 0, .long 0])), (a7, .inl (ac4, (18, .inr (.inr (.inr (.inr (fun _ => none))))))), (a8, .inl (ac5, (19, .inr (.inl (fun _ => 0))))), (a9, .inl (ac6, (30, .inr (.inl (fun _ => 0))))), (q8, .inr (8, [.int 0, .null, .null, .null, .null, .null, .null, .null, .null, .null, .null, .null, .int 0, .null, .null, .null, .long 0, .int 0, .long 0, .long 0, .long 0, .long 0, .int 0, .int 0, .null, .null, .null, .int 0, .long 0, .int 0, .int 0, .null, .null, .null, .null, .null]))] := hD
  refine W.widen (k := 12) (n := 477) (Nat.le_of_ble_eq_true rfl) (Nat.le_of_ble_eq_true rfl) ?_
  refine lv_dup hx hb dL_law_11 rfl ?_
  have hPc := hP.sub (ws' := [(q8, .inr (8, [.int 0, .null, .null, .null, .null, .null, .null, .null, .null, .null, .null, .null, .int 0, .null, .null, .null, .long 0, .int 0, .long 0, .long 0, .long 0, .long 0, .int 0, .int 0, .null, .null, .null, .int 0, .long 0, .int 0, .int 0, .null, .null, .null, .null, .null]))]) [11] rfl
  have hDc := hD.sub (ws' := [(q8, .inr (8, [.int 0, .null, .null, .null, .null, .null, .null, .null, .null, .null, .null, .null, .int 0, .null, .null, .null, .long 0, .int 0, .long 0, .long 0, .long 0, .long 0, .int 0, .int 0, .null, .null, .null, .int 0, .long 0, .int 0, .int 0, .null, .null, .null, .null, .null]))]) [11] (by decide) rfl
  have hKc2 := hK.sub (tys' := []) [] rfl
  have hFc := va_free (wc := [(q8, .inr (8, [.int 0, .null, .null, .null, .null, .null, .null, .null, .null, .null, .null, .null, .int 0, .null, .null, .null, .long 0, .int 0, .long 0, .long 0, .long 0, .long 0, .int 0, .int 0, .null, .null, .null, .int 0, .long 0, .int 0, .int 0, .null, .null, .null, .null, .null]))]) hD hS hA [11] rfl
  refine va_callv (va_runI (As := []) (rest := [.ref q8]) F (mi_X9_init l dC dI q8 H.size) (cwI 0 hts (goodM two_yX9_init) rfl rfl rfl (hts _ twn_RX9) (hts _ twm_RL_12) (hts _ twi_yX9_init) rfl ⟨by decide, by decide, by decide +kernel⟩ ⟨Nat.le_of_ble_eq_true rfl, Nat.le_of_ble_eq_true rfl⟩) ⟨fun a U g mk q => by obtain ⟨q0, q1, qP, qK, qD, qE⟩ := q; exact ⟨q0, q1, qP, va_K.moved (u := U) (U := U.calling g mk a) (Vm.Alike.refl U.vm) qK, qD, trivial⟩, fun U hU hW => ⟨rfl, by rw [hU], by rw [hU]; exact hPc, va_K.moved hW.alike hKc2, hDc.weaken (fun _ _ _ _ => trivial), trivial⟩⟩ rfl rfl hl.1 rfl (lv_room (Nat.le_of_ble_eq_true rfl)) dL_law_12 ⟨Nat.le_of_ble_eq_true rfl, Nat.le_of_ble_eq_true rfl⟩) hS (fun q _ h => hFc q h) hFc (fun u t H1 locs ht hvm hw9 hB hz1 hk1 hS => ?_)
  unfold ati_X9_init at hB
  obtain ⟨b0, b1, b2, b3, b4, b5, b6, b7, b8, b9, b10, b11, b12, b13, b14, b15, b16, b17, b18, b19, b20, b21, bc0, bc1, bc2, bc3, bc4, bc5, bc6, bc7, bc8, bc9, bc10, bc11, bc12, bc13, bc14, bc15, bc16, bc17, bc18, bc19, bc20, bc21, hP1, hK1, hD1⟩ := hB
  rw [ht] at hP1
  have hK1 := va_K.moved hvm.symm hK1
  obtain ⟨hP, hD⟩ := va_join (wr := [(q0, .inr (7, [.ref a0, .ref a1, .ref a2, .ref a3, .ref a4, .ref a6, .int 0, .int 0, .int 0, .long 0, .int 0])), (a0, .inl (ac0, (60, .inr (.inr (.inr (.inr (fun _ => none))))))), (a1, .inl (ac1, (30, .inr (.inr (.inr (.inr (fun _ => none))))))), (a2, .inl (ac2, (18, .inr (.inr (.inr (.inr (fun _ => none))))))), (a3, .inr (4, [.null, .long 0, .long 0, .long 0, .long 0, .int 0])), (a4, .inr (2, [.ref a5, .int 0, .int 1])), (a5, .inl (ac3, (240, .inr (.inr (.inr (.inr (fun _ => none))))))), (a6, .inr (6, [.ref a7, .ref a8, .ref a9, .int 0, .int 0, .long 0])), (a7, .inl (ac4, (18, .inr (.inr (.inr (.inr (fun _ => none))))))), (a8, .inl (ac5, (19, .inr (.inl (fun _ => 0))))), (a9, .inl (ac6, (30, .inr (.inl (fun _ => 0)))))]) (w1 := [(q8, .inr (8, [.int 0, .ref b0, .ref b1, .ref b2, .ref b3, .ref b4, .ref b5, .ref b6, .ref b7, .ref b8, .ref b9, .ref b10, .int 0, .ref b11, .ref b12, .ref b13, .long 0, .int (-1), .long 0, .long 0, .long 0, .long 0, .int 0, .int 0, .ref b14, .ref b15, .ref b16, .int 0, .long 0, .int 0, .int 0, .ref b17, .ref b18, .ref b19, .ref b20, .ref b21])), (b0, .inl (bc0, (60, .inl (fun _ => 0)))), (b1, .inl (bc1, (60, .inr (.inl (fun _ => 0))))), (b2, .inl (bc2, (60, .inr (.inl (fun _ => 0))))), (b3, .inl (bc3, (60, .inl (fun _ => 0)))), (b4, .inl (bc4, (60, .inl (fun _ => 0)))), (b5, .inl (bc5, (60, .inr (.inl (fun _ => 0))))), (b6, .inl (bc6, (60, .inl (fun _ => 0)))), (b7, .inl (bc7, (60, .inl (fun _ => 0)))), (b8, .inl (bc8, (60, .inl (fun _ => 0)))), (b9, .inl (bc9, (60, .inr (.inl (fun _ => 0))))), (b10, .inl (bc10, (60, .inl (fun _ => 0)))), (b11, .inl (bc11, (30, .inr (.inl (fun _ => 0))))), (b12, .inl (bc12, (30, .inr (.inl (fun _ => 0))))), (b13, .inl (bc13, (30, .inr (.inl (fun _ => 0))))), (b14, .inl (bc14, (18, .inl (fun _ => 0)))), (b15, .inl (bc15, (18, .inr (.inl (fun _ => 0))))), (b16, .inl (bc16, (18, .inr (.inl (fun _ => 0))))), (b17, .inl (bc17, (1024, .inl (fun _ => 0)))), (b18, .inl (bc18, (1024, .inl (fun _ => 0)))), (b19, .inl (bc19, (1024, .inl (fun _ => 0)))), (b20, .inl (bc20, (1024, .inr (.inl (fun _ => 0))))), (b21, .inl (bc21, (1024, .inl (fun _ => 0))))]) hP hD [11] [0, 1, 2, 3, 4, 5, 6, 7, 8, 9, 10] rfl rfl (by decide) (by decide) hk1 hFc hP1 hD1
  have hK := hK.app hK1
  generalize H1 = H at hP hS ⊢
  have hP : va_P (dC, dI) vwCl [(q0, .inr (7, [.ref a0, .ref a1, .ref a2, .ref a3, .ref a4, .ref a6, .int 0, .int 0, .int 0, .long 0, .int 0])), (a0, .inl (ac0, (60, .inr (.inr (.inr (.inr (fun _ => none))))))), (a1, .inl (ac1, (30, .inr (.inr (.inr (.inr (fun _ => none))))))), (a2, .inl (ac2, (18, .inr (.inr (.inr (.inr (fun _ => none))))))), (a3, .inr (4, [.null, .long 0, .long 0, .long 0, .long 0, .int 0])), (a4, .inr (2, [.ref a5, .int 0, .int 1])), (a5, .inl (ac3, (240, .inr (.inr (.inr (.inr (fun _ => none))))))), (a6, .inr (6, [.ref a7, .ref a8, .ref a9, .int 0, .int 0, .long 0])), (a7, .inl (ac4, (18, .inr (.inr (.inr (.inr (fun _ => none))))))), (a8, .inl (ac5, (19, .inr (.inl (fun _ => 0))))), (a9, .inl (ac6, (30, .inr (.inl (fun _ => 0))))), (q8, .inr (8, [.int 0, .ref b0, .ref b1, .ref b2, .ref b3, .ref b4, .ref b5, .ref b6, .ref b7, .ref b8, .ref b9, .ref b10, .int 0, .ref b11, .ref b12, .ref b13, .long 0, .int (-1), .long 0, .long 0, .long 0, .long 0, .int 0, .int 0, .ref b14, .ref b15, .ref b16, .int 0, .long 0, .int 0, .int 0, .ref b17, .ref b18, .ref b19, .ref b20, .ref b21])), (b0, .inl (bc0, (60, .inl (fun _ => 0)))), (b1, .inl (bc1, (60, .inr (.inl (fun _ => 0))))), (b2, .inl (bc2, (60, .inr (.inl (fun _ => 0))))), (b3, .inl (bc3, (60, .inl (fun _ => 0)))), (b4, .inl (bc4, (60, .inl (fun _ => 0)))), (b5, .inl (bc5, (60, .inr (.inl (fun _ => 0))))), (b6, .inl (bc6, (60, .inl (fun _ => 0)))), (b7, .inl (bc7, (60, .inl (fun _ => 0)))), (b8, .inl (bc8, (60, .inl (fun _ => 0)))), (b9, .inl (bc9, (60, .inr (.inl (fun _ => 0))))), (b10, .inl (bc10, (60, .inl (fun _ => 0)))), (b11, .inl (bc11, (30, .inr (.inl (fun _ => 0))))), (b12, .inl (bc12, (30, .inr (.inl (fun _ => 0))))), (b13, .inl (bc13, (30, .inr (.inl (fun _ => 0))))), (b14, .inl (bc14, (18, .inl (fun _ => 0)))), (b15, .inl (bc15, (18, .inr (.inl (fun _ => 0))))), (b16, .inl (bc16, (18, .inr (.inl (fun _ => 0))))), (b17, .inl (bc17, (1024, .inl (fun _ => 0)))), (b18, .inl (bc18, (1024, .inl (fun _ => 0)))), (b19, .inl (bc19, (1024, .inl (fun _ => 0)))), (b20, .inl (bc20, (1024, .inr (.inl (fun _ => 0))))), (b21, .inl (bc21, (1024, .inl (fun _ => 0))))] H := hP
  have hD : va_D (fun q : Nat => s.heap.size ≤ q) [(q0, .inr (7, [.ref a0, .ref a1, .ref a2, .ref a3, .ref a4, .ref a6, .int 0, .int 0, .int 0, .long 0, .int 0])), (a0, .inl (ac0, (60, .inr (.inr (.inr (.inr (fun _ => none))))))), (a1, .inl (ac1, (30, .inr (.inr (.inr (.inr (fun _ => none))))))), (a2, .inl (ac2, (18, .inr (.inr (.inr (.inr (fun _ => none))))))), (a3, .inr (4, [.null, .long 0, .long 0, .long 0, .long 0, .int 0])), (a4, .inr (2, [.ref a5, .int 0, .int 1])), (a5, .inl (ac3, (240, .inr (.inr (.inr (.inr (fun _ => none))))))), (a6, .inr (6, [.ref a7, .ref a8, .ref a9, .int 0, .int 0, .long 0])), (a7, .inl (ac4, (18, .inr (.inr (.inr (.inr (fun _ => none))))))), (a8, .inl (ac5, (19, .inr (.inl (fun _ => 0))))), (a9, .inl (ac6, (30, .inr (.inl (fun _ => 0))))), (q8, .inr (8, [.int 0, .ref b0, .ref b1, .ref b2, .ref b3, .ref b4, .ref b5, .ref b6, .ref b7, .ref b8, .ref b9, .ref b10, .int 0, .ref b11, .ref b12, .ref b13, .long 0, .int (-1), .long 0, .long 0, .long 0, .long 0, .int 0, .int 0, .ref b14, .ref b15, .ref b16, .int 0, .long 0, .int 0, .int 0, .ref b17, .ref b18, .ref b19, .ref b20, .ref b21])), (b0, .inl (bc0, (60, .inl (fun _ => 0)))), (b1, .inl (bc1, (60, .inr (.inl (fun _ => 0))))), (b2, .inl (bc2, (60, .inr (.inl (fun _ => 0))))), (b3, .inl (bc3, (60, .inl (fun _ => 0)))), (b4, .inl (bc4, (60, .inl (fun _ => 0)))), (b5, .inl (bc5, (60, .inr (.inl (fun _ => 0))))), (b6, .inl (bc6, (60, .inl (fun _ => 0)))), (b7, .inl (bc7, (60, .inl (fun _ => 0)))), (b8, .inl (bc8, (60, .inl (fun _ => 0)))), (b9, .inl (bc9, (60, .inr (.inl (fun _ => 0))))), (b10, .inl (bc10, (60, .inl (fun _ => 0)))), (b11, .inl (bc11, (30, .inr (.inl (fun _ => 0))))), (b12, .inl (bc12, (30, .inr (.inl (fun _ => 0))))), (b13, .inl (bc13, (30, .inr (.inl (fun _ => 0))))), (b14, .inl (bc14, (18, .inl (fun _ => 0)))), (b15, .inl (bc15, (18, .inr (.inl (fun _ => 0))))), (b16, .inl (bc16, (18, .inr (.inl (fun _ => 0))))), (b17, .inl (bc17, (1024, .inl (fun _ => 0)))), (b18, .inl (bc18, (1024, .inl (fun _ => 0)))), (b19, .inl (bc19, (1024, .inl (fun _ => 0)))), (b20, .inl (bc20, (1024, .inr (.inl (fun _ => 0))))), (b21, .inl (bc21, (1024, .inl (fun _ => 0))))] := hD
  have hK : va_K (dC, dI) vwCl [(ac0, .object "ClockAuctions$Lot"), (ac1, .object "ClockAuctions$Buyer"), (ac2, .object "ClockAuctions$Bid"), (ac3, .object "ClockAuctions$Entry"), (ac4, .object "ClockAuctions$Bid"), (ac5, .long), (ac6, .long), (bc0, .int), (bc1, .long), (bc2, .long), (bc3, .int), (bc4, .int), (bc5, .long), (bc6, .boolean), (bc7, .boolean), (bc8, .boolean), (bc9, .long), (bc10, .int), (bc11, .long), (bc12, .long), (bc13, .long), (bc14, .int), (bc15, .long), (bc16, .long), (bc17, .int), (bc18, .int), (bc19, .int), (bc20, .long), (bc21, .int)] s := hK
  refine W.widen (k := 34) (n := 6401) (Nat.le_of_ble_eq_true rfl) (Nat.le_of_ble_eq_true rfl) ?_
  refine lv_astore_n (lv' := [(2, .ref q8), (1, .ref q0), (0, .ref b)]) hx hb dL_law_15 rfl hl (by decide) rfl (fun ls hl => ?_)
  refine lv_iconst (v := 0) hx hb dL_law_16 (by decide) ?_
  refine lv_istore_n (lv' := [(3, .int 0), (2, .ref q8), (1, .ref q0), (0, .ref b)]) hx hb dL_law_17 rfl hl (by decide) rfl (fun ls hl => ?_)
  have hZ : ∀ j, j < 6 → va_Z "ClockAuctions$State" (stN j) "LClockAuctions$State;" (.ref (es j)) (fun q : Nat => s.heap.size ≤ q) s H := fun j hj => by
    have h := (hEn.1 j hj).1.kept (fun a h1 h2 => hS.2.1 a h1 h2)
    match j, hj, h with
    | 0, _, h => exact h
    | 1, _, h => exact h
    | 2, _, h => exact h
    | 3, _, h => exact h
    | 4, _, h => exact h
    | 5, _, h => exact h
    | j + 6, hj, _ => exact absurd hj (by omega)
  obtain ⟨cz, ecz⟩ : ∃ cz : ClassId, cz = dC 0 := ⟨_, rfl⟩
  have hPW := PW_init (cz := cz) hP hK hD rfl hS.1 (fun i j h1 h2 h => hEn.2 i j h1 h2 h) hZ
  obtain ⟨n, hn, hQ⟩ := hpure (fun k => List.getD [0, 0, a4, 0, a3, 0, a6, q0, q8, 0, a0, a1, a2, a5, a7, a8, a9, b0, b1, b2, b3, b4, b5, b6, b7, b8, b9, b10, b11, b12, b13, b14, b15, b16, b17, b18, b19, b20, b21] k 0) H.size
  have hA1 : AtO (S_init (fun k => List.getD [0, 0, a4, 0, a3, 0, a6, q0, q8, 0, a0, a1, a2, a5, a7, a8, a9, b0, b1, b2, b3, b4, b5, b6, b7, b8, b9, b10, b11, b12, b13, b14, b15, b16, b17, b18, b19, b20, b21] k 0) H.size) 7 0 q0 := ⟨Nat.one_pos, rfl⟩
  have hA2 : AtO (S_init (fun k => List.getD [0, 0, a4, 0, a3, 0, a6, q0, q8, 0, a0, a1, a2, a5, a7, a8, a9, b0, b1, b2, b3, b4, b5, b6, b7, b8, b9, b10, b11, b12, b13, b14, b15, b16, b17, b18, b19, b20, b21] k 0) H.size) 8 0 q8 := ⟨Nat.one_pos, rfl⟩
  exact law_loop C0 ((dC, dI), s.heap.size, (fun k => List.getD [cz, cz, cz, cz, cz, cz, cz, cz, cz, cz, ac0, ac1, ac2, ac3, ac4, ac5, ac6, bc0, bc1, bc2, bc3, bc4, bc5, bc6, bc7, bc8, bc9, bc10, bc11, bc12, bc13, bc14, bc15, bc16, bc17, bc18, bc19, bc20, bc21] k cz), es) rfl n 0 _ _ _ H _ ls 34 6401 hQ ⟨hPW, hS⟩ hA1 hA2 hl (by omega) (by omega)

def ati_X4_init (dC : Nat → ClassId) (dI : Nat → Nat → Nat) (A : Nat → Prop) (h0 : Nat) (t : State) : Prop := va_P (dC, dI) vwCl [(h0, .inr (4, [.null, .long 0, .long 0, .long 0, .long 0, .int 0]))] t.heap ∧ va_K (dC, dI) vwCl [] t ∧ va_D A [(h0, .inr (4, [.null, .long 0, .long 0, .long 0, .long 0, .int 0]))]
set_option maxHeartbeats 4000000 in
theorem ati_X4_init_mk {dC : Nat → ClassId} {dI : Nat → Nat → Nat} {A : Nat → Prop} {h0 : Nat} {t : State} (h1 : va_P (dC, dI) vwCl [(h0, .inr (4, [.null, .long 0, .long 0, .long 0, .long 0, .int 0]))] t.heap) (h2 : va_K (dC, dI) vwCl [] t) (h3 : va_D A [(h0, .inr (4, [.null, .long 0, .long 0, .long 0, .long 0, .int 0]))]) : ati_X4_init dC dI A h0 t := by
  unfold ati_X4_init
  exact ⟨h1, h2, h3⟩
set_option maxRecDepth 100000 in
set_option maxHeartbeats 4000000 in
theorem mi_X4_init (l : Launch) (dC : Nat → ClassId) (dI : Nat → Nat → Nat) (h0 sz : Nat) : Met l yX4_init (wM yX4_init cX4_init 1 none) ({ frames := 1, cells := 0, slots := 0, locals := 12 } : Room) (va_Pc [.ref h0] (fun U => U.heap.size = sz ∧ va_P (dC, dI) vwCl [(h0, .inr (4, [.null, .long 0, .long 0, .long 0, .long 0, .int 0]))] U.heap ∧ va_K (dC, dI) vwCl [] U ∧ va_D (fun _ => True) [(h0, .inr (4, [.null, .long 0, .long 0, .long 0, .long 0, .int 0]))] ∧ True)) (va_Qv (fun _ : Unit => True) (fun _ t => ati_X4_init dC dI (va_A [(h0, .inr (4, [.null, .long 0, .long 0, .long 0, .long 0, .int 0]))] sz) h0 t) (va_A [(h0, .inr (4, [.null, .long 0, .long 0, .long 0, .long 0, .int 0]))] sz)) 0 0 (va_A [(h0, .inr (4, [.null, .long 0, .long 0, .long 0, .long 0, .int 0]))] sz) := by
  refine Met.ofW (cc := cX4_init) (maxL := 1) (ret := none) (by decide) rfl ?_
  intro p e s m args below meth c s₁ B hml hv
  obtain ⟨rfl, hsz, hP, hK, hD0, hEX⟩ := hv
  have hts := fun w (hw : w ∈ wT) => atoms_spec (ws := wM yX4_init cX4_init 1 none) B.pre w (List.mem_cons_of_mem _ hw)
  have hown : s.vm.findClass RX4 = some m.cls := findClass_of_methodNamed B.named
  have F : CX p m c cX4_init 1 s #[.ref h0] RX4 := ⟨B.exec, B.bytes, hml, hown, hts⟩
  have hx := F.1
  have hb := F.2.1
  have hr := B.returns
  have hlk := B.notSynchronized
  have hin : meth.name = "<init>" := (name_of_methodNamed B.named B.method).1
  subst hsz
  have hD := hD0.self (sz := s.heap.size)
  generalize hAe : va_A [(h0, .inr (4, [.null, .long 0, .long 0, .long 0, .long 0, .int 0]))] s.heap.size = A at hD ⊢
  have hA : ∀ q : Nat, s.heap.size ≤ q → A q := fun q h => by rw [← hAe]; exact Or.inr h
  have hS : va_S A s.heap s.heap [] := va_S.rf
  clear hEX
  have hP : va_P (dC, dI) vwCl [(h0, .inr (4, [.null, .long 0, .long 0, .long 0, .long 0, .int 0]))] s.heap := hP
  have hl := lv_entry ([.ref h0]) (n := 1) (Nat.le_of_ble_eq_true rfl)
  rw [lg_entry_eq]
  generalize (lg_sl ([.ref h0]) ++ List.replicate (1 - (lg_sl ([.ref h0])).length) Slot.unset).toArray = ls at hl ⊢
  have hl : lv_has ls 1 [(0, .ref h0)] := hl
  refine lv_aload_n hx hb dX4_init_0 rfl (lv_at hl 0 rfl) ?_
  refine o_init F hl twm_RX4_1 dX4_init_1 (Nat.le_of_ble_eq_true rfl) (Nat.le_of_ble_eq_true rfl) ?_
  have hP9 := hP.sub (ws' := [(h0, .inr (4, [.null, .long 0, .long 0, .long 0, .long 0, .int 0]))]) [0] rfl
  have hD9 := hD.sub (ws' := [(h0, .inr (4, [.null, .long 0, .long 0, .long 0, .long 0, .int 0]))]) [0] (by decide) rfl
  refine W.widen (k := 0) (n := 0) (Nat.le_of_ble_eq_true rfl) (Nat.le_of_ble_eq_true rfl) ?_
  exact W.vret hx hb hr (fun t ht hW => ⟨⟨(), rfl, trivial, ati_X4_init_mk  (by rw [ht]; exact hP9) (va_K.moved hW.alike hK) hD9⟩, hS.F ht⟩) hS.2.2 dX4_init_4 hlk

def ati_X2_init (dC : Nat → ClassId) (dI : Nat → Nat → Nat) (A : Nat → Prop) (h0 : Nat) (t : State) : Prop := ∃ (g0 : Nat) (e0 : ClassId), va_P (dC, dI) vwCl [(h0, .inr (2, [.ref g0, .int 0, .int 1])), (g0, .inl (e0, (240, .inr (.inr (.inr (.inr (fun _ => none)))))))] t.heap ∧ va_K (dC, dI) vwCl [(e0, .object "ClockAuctions$Entry")] t ∧ va_D A [(h0, .inr (2, [.ref g0, .int 0, .int 1])), (g0, .inl (e0, (240, .inr (.inr (.inr (.inr (fun _ => none)))))))]
set_option maxHeartbeats 4000000 in
theorem ati_X2_init_mk {dC : Nat → ClassId} {dI : Nat → Nat → Nat} {A : Nat → Prop} {h0 : Nat} {t : State} (g0 : Nat) (e0 : ClassId) (h1 : va_P (dC, dI) vwCl [(h0, .inr (2, [.ref g0, .int 0, .int 1])), (g0, .inl (e0, (240, .inr (.inr (.inr (.inr (fun _ => none)))))))] t.heap) (h2 : va_K (dC, dI) vwCl [(e0, .object "ClockAuctions$Entry")] t) (h3 : va_D A [(h0, .inr (2, [.ref g0, .int 0, .int 1])), (g0, .inl (e0, (240, .inr (.inr (.inr (.inr (fun _ => none)))))))]) : ati_X2_init dC dI A h0 t := by
  unfold ati_X2_init
  refine ⟨g0, ?_⟩
  refine ⟨e0, ?_⟩
  exact ⟨h1, h2, h3⟩
set_option maxRecDepth 100000 in
set_option maxHeartbeats 4000000 in
theorem mi_X2_init (l : Launch) (dC : Nat → ClassId) (dI : Nat → Nat → Nat) (h0 sz : Nat) : Met l yX2_init (wM yX2_init cX2_init 1 none) ({ frames := 1, cells := 1, slots := 240, locals := 12 } : Room) (va_Pc [.ref h0] (fun U => U.heap.size = sz ∧ va_P (dC, dI) vwCl [(h0, .inr (2, [.null, .int 0, .int 0]))] U.heap ∧ va_K (dC, dI) vwCl [] U ∧ va_D (fun _ => True) [(h0, .inr (2, [.null, .int 0, .int 0]))] ∧ va_AO "ClockAuctions$Entry" U ∧ True)) (va_Qv (fun _ : Unit => True) (fun _ t => ati_X2_init dC dI (va_A [(h0, .inr (2, [.null, .int 0, .int 0]))] sz) h0 t) (va_A [(h0, .inr (2, [.null, .int 0, .int 0]))] sz)) 1 240 (va_A [(h0, .inr (2, [.null, .int 0, .int 0]))] sz) := by
  refine Met.ofW (cc := cX2_init) (maxL := 1) (ret := none) (by decide) rfl ?_
  intro p e s m args below meth c s₁ B hml hv
  obtain ⟨rfl, hsz, hP, hK, hD0, hEX⟩ := hv
  have hts := fun w (hw : w ∈ wT) => atoms_spec (ws := wM yX2_init cX2_init 1 none) B.pre w (List.mem_cons_of_mem _ hw)
  have hown : s.vm.findClass RX2 = some m.cls := findClass_of_methodNamed B.named
  have F : CX p m c cX2_init 1 s #[.ref h0] RX2 := ⟨B.exec, B.bytes, hml, hown, hts⟩
  have hx := F.1
  have hb := F.2.1
  have hr := B.returns
  have hlk := B.notSynchronized
  have hin : meth.name = "<init>" := (name_of_methodNamed B.named B.method).1
  subst hsz
  have hD := hD0.self (sz := s.heap.size)
  generalize hAe : va_A [(h0, .inr (2, [.null, .int 0, .int 0]))] s.heap.size = A at hD ⊢
  have hA : ∀ q : Nat, s.heap.size ≤ q → A q := fun q h => by rw [← hAe]; exact Or.inr h
  have hS : va_S A s.heap s.heap [] := va_S.rf
  obtain ⟨hEClockAuctions_Entry, -⟩ := hEX
  have hP : va_P (dC, dI) vwCl [(h0, .inr (2, [.null, .int 0, .int 0]))] s.heap := hP
  have hl := lv_entry ([.ref h0]) (n := 1) (Nat.le_of_ble_eq_true rfl)
  rw [lg_entry_eq]
  generalize (lg_sl ([.ref h0]) ++ List.replicate (1 - (lg_sl ([.ref h0])).length) Slot.unset).toArray = ls at hl ⊢
  have hl : lv_has ls 1 [(0, .ref h0)] := hl
  refine lv_aload_n hx hb dX2_init_0 rfl (lv_at hl 0 rfl) ?_
  refine o_init F hl twm_RX2_3 dX2_init_1 (Nat.le_of_ble_eq_true rfl) (Nat.le_of_ble_eq_true rfl) ?_
  refine lv_aload_n hx hb dX2_init_4 rfl (lv_at hl 0 rfl) ?_
  refine lv_sipush (v := 240) hx hb dX2_init_5 (by decide) ?_
  refine va_newq hx hb (C := "ClockAuctions$Entry") hown (hts _ twc_RX2_11) hEClockAuctions_Entry hK hP hD hS hA (by decide) (N' := 240) (by decide) (Nat.le_of_ble_eq_true rfl) (show 0 + 1 ≤ 1 from Nat.le_of_ble_eq_true rfl) (show 0 + 240 ≤ 240 from Nat.le_of_ble_eq_true rfl) dX2_init_8 (fun q8 c8 H hK hP hD hS => ?_)
  have hP : va_P (dC, dI) vwCl [(h0, .inr (2, [.null, .int 0, .int 0])), (q8, .inl (c8, (240, .inr (.inr (.inr (.inr (fun _ => none)))))))] H := hP
  have hD : va_D A [(h0, .inr (2, [.null, .int 0, .int 0])), (q8, .inl (c8, (240, .inr (.inr (.inr (.inr (fun _ => none)))))))] := hD
  have hK : va_K (dC, dI) vwCl [(c8, .object "ClockAuctions$Entry")] s := hK
  refine W.widen (k := 1) (n := 240) (Nat.le_of_ble_eq_true rfl) (Nat.le_of_ble_eq_true rfl) ?_
  refine va_putF (D := (dC, dI)) (ci := 2) (v := .ref q8) (ty := (.array (.object "ClockAuctions$Entry"))) (C := RX2) (T := TX2) (N := 3) hx hb hts twu_RX2 tyX2 tyX2_ok nmX2 hown hK hP hD hS 0 rfl rfl 0 (by decide) (hts _ twf_RX2_13) (fun _ h9 => h9) rfl hin rfl (by decide +kernel) rfl rfl (Nat.le_of_ble_eq_true rfl) dX2_init_11 (fun H locs hP hD hS => ?_)
  have hP : va_P (dC, dI) vwCl [(h0, .inr (2, [.ref q8, .int 0, .int 0])), (q8, .inl (c8, (240, .inr (.inr (.inr (.inr (fun _ => none)))))))] H := hP
  have hD : va_D A [(h0, .inr (2, [.ref q8, .int 0, .int 0])), (q8, .inl (c8, (240, .inr (.inr (.inr (.inr (fun _ => none)))))))] := hD
  refine lv_aload_n hx hb dX2_init_14 rfl (lv_at hl 0 rfl) ?_
  refine lv_iconst (v := 1) hx hb dX2_init_15 (by decide) ?_
  refine va_put (D := (dC, dI)) (ci := 2) (v := .int 1) (ty := .int) (C := RX2) (T := TX2) (N := 3) hx hb hts twu_RX2 tyX2 tyX2_ok nmX2 hown hK hP hD hS 0 rfl rfl 2 (by decide) (hts _ twf_RX2_17) (fun _ h9 => h9) rfl (by decide +kernel) rfl rfl (Nat.le_of_ble_eq_true rfl) dX2_init_16 (fun H locs hP hD hS => ?_)
  have hP : va_P (dC, dI) vwCl [(h0, .inr (2, [.ref q8, .int 0, .int 1])), (q8, .inl (c8, (240, .inr (.inr (.inr (.inr (fun _ => none)))))))] H := hP
  have hD : va_D A [(h0, .inr (2, [.ref q8, .int 0, .int 1])), (q8, .inl (c8, (240, .inr (.inr (.inr (.inr (fun _ => none)))))))] := hD
  have hP9 := hP.sub (ws' := [(h0, .inr (2, [.ref q8, .int 0, .int 1])), (q8, .inl (c8, (240, .inr (.inr (.inr (.inr (fun _ => none)))))))]) [0, 1] rfl
  have hD9 := hD.sub (ws' := [(h0, .inr (2, [.ref q8, .int 0, .int 1])), (q8, .inl (c8, (240, .inr (.inr (.inr (.inr (fun _ => none)))))))]) [0, 1] (by decide) rfl
  refine W.widen (k := 1) (n := 240) (Nat.le_of_ble_eq_true rfl) (Nat.le_of_ble_eq_true rfl) ?_
  exact W.vret hx hb hr (fun t ht hW => ⟨⟨(), rfl, trivial, ati_X2_init_mk q8 c8 (by rw [ht]; exact hP9) (va_K.moved hW.alike hK) hD9⟩, hS.F ht⟩) hS.2.2 dX2_init_19 hlk

def ati_X6_init (dC : Nat → ClassId) (dI : Nat → Nat → Nat) (A : Nat → Prop) (h0 : Nat) (t : State) : Prop := ∃ (g0 g1 g2 : Nat) (e0 e1 e2 : ClassId), va_P (dC, dI) vwCl [(h0, .inr (6, [.ref g0, .ref g1, .ref g2, .int 0, .int 0, .long 0])), (g0, .inl (e0, (18, .inr (.inr (.inr (.inr (fun _ => none))))))), (g1, .inl (e1, (19, .inr (.inl (fun _ => 0))))), (g2, .inl (e2, (30, .inr (.inl (fun _ => 0)))))] t.heap ∧ va_K (dC, dI) vwCl [(e0, .object "ClockAuctions$Bid"), (e1, .long), (e2, .long)] t ∧ va_D A [(h0, .inr (6, [.ref g0, .ref g1, .ref g2, .int 0, .int 0, .long 0])), (g0, .inl (e0, (18, .inr (.inr (.inr (.inr (fun _ => none))))))), (g1, .inl (e1, (19, .inr (.inl (fun _ => 0))))), (g2, .inl (e2, (30, .inr (.inl (fun _ => 0)))))]
set_option maxHeartbeats 4000000 in
theorem ati_X6_init_mk {dC : Nat → ClassId} {dI : Nat → Nat → Nat} {A : Nat → Prop} {h0 : Nat} {t : State} (g0 g1 g2 : Nat) (e0 e1 e2 : ClassId) (h1 : va_P (dC, dI) vwCl [(h0, .inr (6, [.ref g0, .ref g1, .ref g2, .int 0, .int 0, .long 0])), (g0, .inl (e0, (18, .inr (.inr (.inr (.inr (fun _ => none))))))), (g1, .inl (e1, (19, .inr (.inl (fun _ => 0))))), (g2, .inl (e2, (30, .inr (.inl (fun _ => 0)))))] t.heap) (h2 : va_K (dC, dI) vwCl [(e0, .object "ClockAuctions$Bid"), (e1, .long), (e2, .long)] t) (h3 : va_D A [(h0, .inr (6, [.ref g0, .ref g1, .ref g2, .int 0, .int 0, .long 0])), (g0, .inl (e0, (18, .inr (.inr (.inr (.inr (fun _ => none))))))), (g1, .inl (e1, (19, .inr (.inl (fun _ => 0))))), (g2, .inl (e2, (30, .inr (.inl (fun _ => 0)))))]) : ati_X6_init dC dI A h0 t := by
  unfold ati_X6_init
  refine ⟨g0, ?_⟩
  refine ⟨g1, ?_⟩
  refine ⟨g2, ?_⟩
  refine ⟨e0, ?_⟩
  refine ⟨e1, ?_⟩
  refine ⟨e2, ?_⟩
  exact ⟨h1, h2, h3⟩
set_option maxRecDepth 100000 in
set_option maxHeartbeats 4000000 in
theorem mi_X6_init (l : Launch) (dC : Nat → ClassId) (dI : Nat → Nat → Nat) (h0 sz : Nat) : Met l yX6_init (wM yX6_init cX6_init 1 none) ({ frames := 1, cells := 3, slots := 67, locals := 12 } : Room) (va_Pc [.ref h0] (fun U => U.heap.size = sz ∧ va_P (dC, dI) vwCl [(h0, .inr (6, [.null, .null, .null, .int 0, .int 0, .long 0]))] U.heap ∧ va_K (dC, dI) vwCl [] U ∧ va_D (fun _ => True) [(h0, .inr (6, [.null, .null, .null, .int 0, .int 0, .long 0]))] ∧ va_AO "ClockAuctions$Bid" U ∧ True)) (va_Qv (fun _ : Unit => True) (fun _ t => ati_X6_init dC dI (va_A [(h0, .inr (6, [.null, .null, .null, .int 0, .int 0, .long 0]))] sz) h0 t) (va_A [(h0, .inr (6, [.null, .null, .null, .int 0, .int 0, .long 0]))] sz)) 3 67 (va_A [(h0, .inr (6, [.null, .null, .null, .int 0, .int 0, .long 0]))] sz) := by
  refine Met.ofW (cc := cX6_init) (maxL := 1) (ret := none) (by decide) rfl ?_
  intro p e s m args below meth c s₁ B hml hv
  obtain ⟨rfl, hsz, hP, hK, hD0, hEX⟩ := hv
  have hts := fun w (hw : w ∈ wT) => atoms_spec (ws := wM yX6_init cX6_init 1 none) B.pre w (List.mem_cons_of_mem _ hw)
  have hown : s.vm.findClass RX6 = some m.cls := findClass_of_methodNamed B.named
  have F : CX p m c cX6_init 1 s #[.ref h0] RX6 := ⟨B.exec, B.bytes, hml, hown, hts⟩
  have hx := F.1
  have hb := F.2.1
  have hr := B.returns
  have hlk := B.notSynchronized
  have hin : meth.name = "<init>" := (name_of_methodNamed B.named B.method).1
  subst hsz
  have hD := hD0.self (sz := s.heap.size)
  generalize hAe : va_A [(h0, .inr (6, [.null, .null, .null, .int 0, .int 0, .long 0]))] s.heap.size = A at hD ⊢
  have hA : ∀ q : Nat, s.heap.size ≤ q → A q := fun q h => by rw [← hAe]; exact Or.inr h
  have hS : va_S A s.heap s.heap [] := va_S.rf
  obtain ⟨hEClockAuctions_Bid, -⟩ := hEX
  have hP : va_P (dC, dI) vwCl [(h0, .inr (6, [.null, .null, .null, .int 0, .int 0, .long 0]))] s.heap := hP
  have hl := lv_entry ([.ref h0]) (n := 1) (Nat.le_of_ble_eq_true rfl)
  rw [lg_entry_eq]
  generalize (lg_sl ([.ref h0]) ++ List.replicate (1 - (lg_sl ([.ref h0])).length) Slot.unset).toArray = ls at hl ⊢
  have hl : lv_has ls 1 [(0, .ref h0)] := hl
  refine lv_aload_n hx hb dX6_init_0 rfl (lv_at hl 0 rfl) ?_
  refine o_init F hl twm_RX6_3 dX6_init_1 (Nat.le_of_ble_eq_true rfl) (Nat.le_of_ble_eq_true rfl) ?_
  refine lv_aload_n hx hb dX6_init_4 rfl (lv_at hl 0 rfl) ?_
  refine lv_bipush (v := 18) hx hb dX6_init_5 (by decide) ?_
  refine va_newq hx hb (C := "ClockAuctions$Bid") hown (hts _ twc_RX6_9) hEClockAuctions_Bid hK hP hD hS hA (by decide) (N' := 18) (by decide) (Nat.le_of_ble_eq_true rfl) (show 0 + 1 ≤ 3 from Nat.le_of_ble_eq_true rfl) (show 0 + 18 ≤ 67 from Nat.le_of_ble_eq_true rfl) dX6_init_7 (fun q7 c7 H hK hP hD hS => ?_)
  have hP : va_P (dC, dI) vwCl [(h0, .inr (6, [.null, .null, .null, .int 0, .int 0, .long 0])), (q7, .inl (c7, (18, .inr (.inr (.inr (.inr (fun _ => none)))))))] H := hP
  have hD : va_D A [(h0, .inr (6, [.null, .null, .null, .int 0, .int 0, .long 0])), (q7, .inl (c7, (18, .inr (.inr (.inr (.inr (fun _ => none)))))))] := hD
  have hK : va_K (dC, dI) vwCl [(c7, .object "ClockAuctions$Bid")] s := hK
  refine W.widen (k := 1) (n := 18) (Nat.le_of_ble_eq_true rfl) (Nat.le_of_ble_eq_true rfl) ?_
  refine va_putF (D := (dC, dI)) (ci := 6) (v := .ref q7) (ty := (.array (.object "ClockAuctions$Bid"))) (C := RX6) (T := TX6) (N := 6) hx hb hts twu_RX6 tyX6 tyX6_ok nmX6 hown hK hP hD hS 0 rfl rfl 0 (by decide) (hts _ twf_RX6_11) (fun _ h9 => h9) rfl hin rfl (by decide +kernel) rfl rfl (Nat.le_of_ble_eq_true rfl) dX6_init_10 (fun H locs hP hD hS => ?_)
  have hP : va_P (dC, dI) vwCl [(h0, .inr (6, [.ref q7, .null, .null, .int 0, .int 0, .long 0])), (q7, .inl (c7, (18, .inr (.inr (.inr (.inr (fun _ => none)))))))] H := hP
  have hD : va_D A [(h0, .inr (6, [.ref q7, .null, .null, .int 0, .int 0, .long 0])), (q7, .inl (c7, (18, .inr (.inr (.inr (.inr (fun _ => none)))))))] := hD
  refine lv_aload_n hx hb dX6_init_13 rfl (lv_at hl 0 rfl) ?_
  refine lv_bipush (v := 19) hx hb dX6_init_14 (by decide) ?_
  refine va_newa (atype := .long) (ty := .long) (a0 := (19, .inr (.inl (fun _ => 0)))) hx hb (hts _ twa_long) rfl hK hP hD hS hA (fun cA => rfl) (by decide) (N' := 19) (by decide) (Nat.le_of_ble_eq_true rfl) (show 1 + 1 ≤ 3 from Nat.le_of_ble_eq_true rfl) (show 18 + 19 ≤ 67 from Nat.le_of_ble_eq_true rfl) dX6_init_16 (fun q16 c16 H hK hP hD hS => ?_)
  have hP : va_P (dC, dI) vwCl [(h0, .inr (6, [.ref q7, .null, .null, .int 0, .int 0, .long 0])), (q7, .inl (c7, (18, .inr (.inr (.inr (.inr (fun _ => none))))))), (q16, .inl (c16, (19, .inr (.inl (fun _ => 0)))))] H := hP
  have hD : va_D A [(h0, .inr (6, [.ref q7, .null, .null, .int 0, .int 0, .long 0])), (q7, .inl (c7, (18, .inr (.inr (.inr (.inr (fun _ => none))))))), (q16, .inl (c16, (19, .inr (.inl (fun _ => 0)))))] := hD
  have hK : va_K (dC, dI) vwCl [(c7, .object "ClockAuctions$Bid"), (c16, .long)] s := hK
  refine W.widen (k := 2) (n := 37) (Nat.le_of_ble_eq_true rfl) (Nat.le_of_ble_eq_true rfl) ?_
  refine va_putF (D := (dC, dI)) (ci := 6) (v := .ref q16) (ty := (.array .long)) (C := RX6) (T := TX6) (N := 6) hx hb hts twu_RX6 tyX6 tyX6_ok nmX6 hown hK hP hD hS 0 rfl rfl 1 (by decide) (hts _ twf_RX6_17) (fun _ h9 => h9) rfl hin rfl (by decide +kernel) rfl rfl (Nat.le_of_ble_eq_true rfl) dX6_init_18 (fun H locs hP hD hS => ?_)
  have hP : va_P (dC, dI) vwCl [(h0, .inr (6, [.ref q7, .ref q16, .null, .int 0, .int 0, .long 0])), (q7, .inl (c7, (18, .inr (.inr (.inr (.inr (fun _ => none))))))), (q16, .inl (c16, (19, .inr (.inl (fun _ => 0)))))] H := hP
  have hD : va_D A [(h0, .inr (6, [.ref q7, .ref q16, .null, .int 0, .int 0, .long 0])), (q7, .inl (c7, (18, .inr (.inr (.inr (.inr (fun _ => none))))))), (q16, .inl (c16, (19, .inr (.inl (fun _ => 0)))))] := hD
  refine lv_aload_n hx hb dX6_init_21 rfl (lv_at hl 0 rfl) ?_
  refine lv_bipush (v := 30) hx hb dX6_init_22 (by decide) ?_
  refine va_newa (atype := .long) (ty := .long) (a0 := (30, .inr (.inl (fun _ => 0)))) hx hb (hts _ twa_long) rfl hK hP hD hS hA (fun cA => rfl) (by decide) (N' := 30) (by decide) (Nat.le_of_ble_eq_true rfl) (show 2 + 1 ≤ 3 from Nat.le_of_ble_eq_true rfl) (show 37 + 30 ≤ 67 from Nat.le_of_ble_eq_true rfl) dX6_init_24 (fun q24 c24 H hK hP hD hS => ?_)
  have hP : va_P (dC, dI) vwCl [(h0, .inr (6, [.ref q7, .ref q16, .null, .int 0, .int 0, .long 0])), (q7, .inl (c7, (18, .inr (.inr (.inr (.inr (fun _ => none))))))), (q16, .inl (c16, (19, .inr (.inl (fun _ => 0))))), (q24, .inl (c24, (30, .inr (.inl (fun _ => 0)))))] H := hP
  have hD : va_D A [(h0, .inr (6, [.ref q7, .ref q16, .null, .int 0, .int 0, .long 0])), (q7, .inl (c7, (18, .inr (.inr (.inr (.inr (fun _ => none))))))), (q16, .inl (c16, (19, .inr (.inl (fun _ => 0))))), (q24, .inl (c24, (30, .inr (.inl (fun _ => 0)))))] := hD
  have hK : va_K (dC, dI) vwCl [(c7, .object "ClockAuctions$Bid"), (c16, .long), (c24, .long)] s := hK
  refine W.widen (k := 3) (n := 67) (Nat.le_of_ble_eq_true rfl) (Nat.le_of_ble_eq_true rfl) ?_
  refine va_putF (D := (dC, dI)) (ci := 6) (v := .ref q24) (ty := (.array .long)) (C := RX6) (T := TX6) (N := 6) hx hb hts twu_RX6 tyX6 tyX6_ok nmX6 hown hK hP hD hS 0 rfl rfl 2 (by decide) (hts _ twf_RX6_21) (fun _ h9 => h9) rfl hin rfl (by decide +kernel) rfl rfl (Nat.le_of_ble_eq_true rfl) dX6_init_26 (fun H locs hP hD hS => ?_)
  have hP : va_P (dC, dI) vwCl [(h0, .inr (6, [.ref q7, .ref q16, .ref q24, .int 0, .int 0, .long 0])), (q7, .inl (c7, (18, .inr (.inr (.inr (.inr (fun _ => none))))))), (q16, .inl (c16, (19, .inr (.inl (fun _ => 0))))), (q24, .inl (c24, (30, .inr (.inl (fun _ => 0)))))] H := hP
  have hD : va_D A [(h0, .inr (6, [.ref q7, .ref q16, .ref q24, .int 0, .int 0, .long 0])), (q7, .inl (c7, (18, .inr (.inr (.inr (.inr (fun _ => none))))))), (q16, .inl (c16, (19, .inr (.inl (fun _ => 0))))), (q24, .inl (c24, (30, .inr (.inl (fun _ => 0)))))] := hD
  have hP9 := hP.sub (ws' := [(h0, .inr (6, [.ref q7, .ref q16, .ref q24, .int 0, .int 0, .long 0])), (q7, .inl (c7, (18, .inr (.inr (.inr (.inr (fun _ => none))))))), (q16, .inl (c16, (19, .inr (.inl (fun _ => 0))))), (q24, .inl (c24, (30, .inr (.inl (fun _ => 0)))))]) [0, 1, 2, 3] rfl
  have hD9 := hD.sub (ws' := [(h0, .inr (6, [.ref q7, .ref q16, .ref q24, .int 0, .int 0, .long 0])), (q7, .inl (c7, (18, .inr (.inr (.inr (.inr (fun _ => none))))))), (q16, .inl (c16, (19, .inr (.inl (fun _ => 0))))), (q24, .inl (c24, (30, .inr (.inl (fun _ => 0)))))]) [0, 1, 2, 3] (by decide) rfl
  refine W.widen (k := 3) (n := 67) (Nat.le_of_ble_eq_true rfl) (Nat.le_of_ble_eq_true rfl) ?_
  exact W.vret hx hb hr (fun t ht hW => ⟨⟨(), rfl, trivial, ati_X6_init_mk q7 q16 q24 c7 c16 c24 (by rw [ht]; exact hP9) (va_K.moved hW.alike hK) hD9⟩, hS.F ht⟩) hS.2.2 dX6_init_29 hlk

def ati_X8_init (dC : Nat → ClassId) (dI : Nat → Nat → Nat) (A : Nat → Prop) (h0 : Nat) (t : State) : Prop := ∃ (g0 g1 g2 g3 g4 g5 g6 g7 g8 g9 : Nat) (e0 e1 e2 e3 e4 e5 e6 : ClassId), va_P (dC, dI) vwCl [(h0, .inr (7, [.ref g0, .ref g1, .ref g2, .ref g3, .ref g4, .ref g6, .int 0, .int 0, .int 0, .long 0, .int 0])), (g0, .inl (e0, (60, .inr (.inr (.inr (.inr (fun _ => none))))))), (g1, .inl (e1, (30, .inr (.inr (.inr (.inr (fun _ => none))))))), (g2, .inl (e2, (18, .inr (.inr (.inr (.inr (fun _ => none))))))), (g3, .inr (4, [.null, .long 0, .long 0, .long 0, .long 0, .int 0])), (g4, .inr (2, [.ref g5, .int 0, .int 1])), (g5, .inl (e3, (240, .inr (.inr (.inr (.inr (fun _ => none))))))), (g6, .inr (6, [.ref g7, .ref g8, .ref g9, .int 0, .int 0, .long 0])), (g7, .inl (e4, (18, .inr (.inr (.inr (.inr (fun _ => none))))))), (g8, .inl (e5, (19, .inr (.inl (fun _ => 0))))), (g9, .inl (e6, (30, .inr (.inl (fun _ => 0)))))] t.heap ∧ va_K (dC, dI) vwCl [(e0, .object "ClockAuctions$Lot"), (e1, .object "ClockAuctions$Buyer"), (e2, .object "ClockAuctions$Bid"), (e3, .object "ClockAuctions$Entry"), (e4, .object "ClockAuctions$Bid"), (e5, .long), (e6, .long)] t ∧ va_D A [(h0, .inr (7, [.ref g0, .ref g1, .ref g2, .ref g3, .ref g4, .ref g6, .int 0, .int 0, .int 0, .long 0, .int 0])), (g0, .inl (e0, (60, .inr (.inr (.inr (.inr (fun _ => none))))))), (g1, .inl (e1, (30, .inr (.inr (.inr (.inr (fun _ => none))))))), (g2, .inl (e2, (18, .inr (.inr (.inr (.inr (fun _ => none))))))), (g3, .inr (4, [.null, .long 0, .long 0, .long 0, .long 0, .int 0])), (g4, .inr (2, [.ref g5, .int 0, .int 1])), (g5, .inl (e3, (240, .inr (.inr (.inr (.inr (fun _ => none))))))), (g6, .inr (6, [.ref g7, .ref g8, .ref g9, .int 0, .int 0, .long 0])), (g7, .inl (e4, (18, .inr (.inr (.inr (.inr (fun _ => none))))))), (g8, .inl (e5, (19, .inr (.inl (fun _ => 0))))), (g9, .inl (e6, (30, .inr (.inl (fun _ => 0)))))]
set_option maxHeartbeats 4000000 in
theorem ati_X8_init_mk {dC : Nat → ClassId} {dI : Nat → Nat → Nat} {A : Nat → Prop} {h0 : Nat} {t : State} (g0 g1 g2 g3 g4 g5 g6 g7 g8 g9 : Nat) (e0 e1 e2 e3 e4 e5 e6 : ClassId) (h1 : va_P (dC, dI) vwCl [(h0, .inr (7, [.ref g0, .ref g1, .ref g2, .ref g3, .ref g4, .ref g6, .int 0, .int 0, .int 0, .long 0, .int 0])), (g0, .inl (e0, (60, .inr (.inr (.inr (.inr (fun _ => none))))))), (g1, .inl (e1, (30, .inr (.inr (.inr (.inr (fun _ => none))))))), (g2, .inl (e2, (18, .inr (.inr (.inr (.inr (fun _ => none))))))), (g3, .inr (4, [.null, .long 0, .long 0, .long 0, .long 0, .int 0])), (g4, .inr (2, [.ref g5, .int 0, .int 1])), (g5, .inl (e3, (240, .inr (.inr (.inr (.inr (fun _ => none))))))), (g6, .inr (6, [.ref g7, .ref g8, .ref g9, .int 0, .int 0, .long 0])), (g7, .inl (e4, (18, .inr (.inr (.inr (.inr (fun _ => none))))))), (g8, .inl (e5, (19, .inr (.inl (fun _ => 0))))), (g9, .inl (e6, (30, .inr (.inl (fun _ => 0)))))] t.heap) (h2 : va_K (dC, dI) vwCl [(e0, .object "ClockAuctions$Lot"), (e1, .object "ClockAuctions$Buyer"), (e2, .object "ClockAuctions$Bid"), (e3, .object "ClockAuctions$Entry"), (e4, .object "ClockAuctions$Bid"), (e5, .long), (e6, .long)] t) (h3 : va_D A [(h0, .inr (7, [.ref g0, .ref g1, .ref g2, .ref g3, .ref g4, .ref g6, .int 0, .int 0, .int 0, .long 0, .int 0])), (g0, .inl (e0, (60, .inr (.inr (.inr (.inr (fun _ => none))))))), (g1, .inl (e1, (30, .inr (.inr (.inr (.inr (fun _ => none))))))), (g2, .inl (e2, (18, .inr (.inr (.inr (.inr (fun _ => none))))))), (g3, .inr (4, [.null, .long 0, .long 0, .long 0, .long 0, .int 0])), (g4, .inr (2, [.ref g5, .int 0, .int 1])), (g5, .inl (e3, (240, .inr (.inr (.inr (.inr (fun _ => none))))))), (g6, .inr (6, [.ref g7, .ref g8, .ref g9, .int 0, .int 0, .long 0])), (g7, .inl (e4, (18, .inr (.inr (.inr (.inr (fun _ => none))))))), (g8, .inl (e5, (19, .inr (.inl (fun _ => 0))))), (g9, .inl (e6, (30, .inr (.inl (fun _ => 0)))))]) : ati_X8_init dC dI A h0 t := by
  unfold ati_X8_init
  refine ⟨g0, ?_⟩
  refine ⟨g1, ?_⟩
  refine ⟨g2, ?_⟩
  refine ⟨g3, ?_⟩
  refine ⟨g4, ?_⟩
  refine ⟨g5, ?_⟩
  refine ⟨g6, ?_⟩
  refine ⟨g7, ?_⟩
  refine ⟨g8, ?_⟩
  refine ⟨g9, ?_⟩
  refine ⟨e0, ?_⟩
  refine ⟨e1, ?_⟩
  refine ⟨e2, ?_⟩
  refine ⟨e3, ?_⟩
  refine ⟨e4, ?_⟩
  refine ⟨e5, ?_⟩
  refine ⟨e6, ?_⟩
  exact ⟨h1, h2, h3⟩
set_option maxRecDepth 100000 in
set_option maxHeartbeats 4000000 in
theorem mi_X8_init (l : Launch) (dC : Nat → ClassId) (dI : Nat → Nat → Nat) (h0 sz : Nat) : Met l yX8_init (wM yX8_init cX8_init 1 none) ({ frames := 2, cells := 10, slots := 430, locals := 32 } : Room) (va_Pc [.ref h0] (fun U => U.heap.size = sz ∧ va_P (dC, dI) vwCl [(h0, .inr (7, [.null, .null, .null, .null, .null, .null, .int 0, .int 0, .int 0, .long 0, .int 0]))] U.heap ∧ va_K (dC, dI) vwCl [] U ∧ va_D (fun _ => True) [(h0, .inr (7, [.null, .null, .null, .null, .null, .null, .int 0, .int 0, .int 0, .long 0, .int 0]))] ∧ va_AO "ClockAuctions$Lot" U ∧ va_AO "ClockAuctions$Buyer" U ∧ va_AO "ClockAuctions$Bid" U ∧ va_Nw (.methodLinkNest RX8 29 yX4_init "ClockAuctions") U ∧ va_AO "ClockAuctions$Entry" U ∧ va_Nw (.methodLinkNest RX8 36 yX2_init "ClockAuctions") U ∧ va_Nw (.methodLinkNest RX8 43 yX6_init "ClockAuctions") U ∧ True)) (va_Qv (fun _ : Unit => True) (fun _ t => ati_X8_init dC dI (va_A [(h0, .inr (7, [.null, .null, .null, .null, .null, .null, .int 0, .int 0, .int 0, .long 0, .int 0]))] sz) h0 t) (va_A [(h0, .inr (7, [.null, .null, .null, .null, .null, .null, .int 0, .int 0, .int 0, .long 0, .int 0]))] sz)) 10 430 (va_A [(h0, .inr (7, [.null, .null, .null, .null, .null, .null, .int 0, .int 0, .int 0, .long 0, .int 0]))] sz) := by
  refine Met.ofW (cc := cX8_init) (maxL := 1) (ret := none) (by decide) rfl ?_
  intro p e s m args below meth c s₁ B hml hv
  obtain ⟨rfl, hsz, hP, hK, hD0, hEX⟩ := hv
  have hts := fun w (hw : w ∈ wT) => atoms_spec (ws := wM yX8_init cX8_init 1 none) B.pre w (List.mem_cons_of_mem _ hw)
  have hown : s.vm.findClass RX8 = some m.cls := findClass_of_methodNamed B.named
  have F : CX p m c cX8_init 1 s #[.ref h0] RX8 := ⟨B.exec, B.bytes, hml, hown, hts⟩
  have hx := F.1
  have hb := F.2.1
  have hr := B.returns
  have hlk := B.notSynchronized
  have hin : meth.name = "<init>" := (name_of_methodNamed B.named B.method).1
  subst hsz
  have hD := hD0.self (sz := s.heap.size)
  generalize hAe : va_A [(h0, .inr (7, [.null, .null, .null, .null, .null, .null, .int 0, .int 0, .int 0, .long 0, .int 0]))] s.heap.size = A at hD ⊢
  have hA : ∀ q : Nat, s.heap.size ≤ q → A q := fun q h => by rw [← hAe]; exact Or.inr h
  have hS : va_S A s.heap s.heap [] := va_S.rf
  obtain ⟨hEClockAuctions_Lot, hEClockAuctions_Buyer, hEClockAuctions_Bid, hEn29, hEClockAuctions_Entry, hEn36, hEn43, -⟩ := hEX
  have hP : va_P (dC, dI) vwCl [(h0, .inr (7, [.null, .null, .null, .null, .null, .null, .int 0, .int 0, .int 0, .long 0, .int 0]))] s.heap := hP
  have hl := lv_entry ([.ref h0]) (n := 1) (Nat.le_of_ble_eq_true rfl)
  rw [lg_entry_eq]
  generalize (lg_sl ([.ref h0]) ++ List.replicate (1 - (lg_sl ([.ref h0])).length) Slot.unset).toArray = ls at hl ⊢
  have hl : lv_has ls 1 [(0, .ref h0)] := hl
  refine lv_aload_n hx hb dX8_init_0 rfl (lv_at hl 0 rfl) ?_
  refine o_init F hl twm_RX8_1 dX8_init_1 (Nat.le_of_ble_eq_true rfl) (Nat.le_of_ble_eq_true rfl) ?_
  refine lv_aload_n hx hb dX8_init_4 rfl (lv_at hl 0 rfl) ?_
  refine lv_bipush (v := 60) hx hb dX8_init_5 (by decide) ?_
  refine va_newq hx hb (C := "ClockAuctions$Lot") hown (hts _ twc_RX8_9) hEClockAuctions_Lot hK hP hD hS hA (by decide) (N' := 60) (by decide) (Nat.le_of_ble_eq_true rfl) (show 0 + 1 ≤ 10 from Nat.le_of_ble_eq_true rfl) (show 0 + 60 ≤ 430 from Nat.le_of_ble_eq_true rfl) dX8_init_7 (fun q7 c7 H hK hP hD hS => ?_)
  have hP : va_P (dC, dI) vwCl [(h0, .inr (7, [.null, .null, .null, .null, .null, .null, .int 0, .int 0, .int 0, .long 0, .int 0])), (q7, .inl (c7, (60, .inr (.inr (.inr (.inr (fun _ => none)))))))] H := hP
  have hD : va_D A [(h0, .inr (7, [.null, .null, .null, .null, .null, .null, .int 0, .int 0, .int 0, .long 0, .int 0])), (q7, .inl (c7, (60, .inr (.inr (.inr (.inr (fun _ => none)))))))] := hD
  have hK : va_K (dC, dI) vwCl [(c7, .object "ClockAuctions$Lot")] s := hK
  refine W.widen (k := 1) (n := 60) (Nat.le_of_ble_eq_true rfl) (Nat.le_of_ble_eq_true rfl) ?_
  refine va_putF (D := (dC, dI)) (ci := 7) (v := .ref q7) (ty := (.array (.object "ClockAuctions$Lot"))) (C := RX8) (T := TX8) (N := 11) hx hb hts twu_RX8 tyX8 tyX8_ok nmX8 hown hK hP hD hS 0 rfl rfl 0 (by decide) (hts _ twf_RX8_11) (fun _ h9 => h9) rfl hin rfl (by decide +kernel) rfl rfl (Nat.le_of_ble_eq_true rfl) dX8_init_10 (fun H locs hP hD hS => ?_)
  have hP : va_P (dC, dI) vwCl [(h0, .inr (7, [.ref q7, .null, .null, .null, .null, .null, .int 0, .int 0, .int 0, .long 0, .int 0])), (q7, .inl (c7, (60, .inr (.inr (.inr (.inr (fun _ => none)))))))] H := hP
  have hD : va_D A [(h0, .inr (7, [.ref q7, .null, .null, .null, .null, .null, .int 0, .int 0, .int 0, .long 0, .int 0])), (q7, .inl (c7, (60, .inr (.inr (.inr (.inr (fun _ => none)))))))] := hD
  refine lv_aload_n hx hb dX8_init_13 rfl (lv_at hl 0 rfl) ?_
  refine lv_bipush (v := 30) hx hb dX8_init_14 (by decide) ?_
  refine va_newq hx hb (C := "ClockAuctions$Buyer") hown (hts _ twc_RX8_15) hEClockAuctions_Buyer hK hP hD hS hA (by decide) (N' := 30) (by decide) (Nat.le_of_ble_eq_true rfl) (show 1 + 1 ≤ 10 from Nat.le_of_ble_eq_true rfl) (show 60 + 30 ≤ 430 from Nat.le_of_ble_eq_true rfl) dX8_init_16 (fun q16 c16 H hK hP hD hS => ?_)
  have hP : va_P (dC, dI) vwCl [(h0, .inr (7, [.ref q7, .null, .null, .null, .null, .null, .int 0, .int 0, .int 0, .long 0, .int 0])), (q7, .inl (c7, (60, .inr (.inr (.inr (.inr (fun _ => none))))))), (q16, .inl (c16, (30, .inr (.inr (.inr (.inr (fun _ => none)))))))] H := hP
  have hD : va_D A [(h0, .inr (7, [.ref q7, .null, .null, .null, .null, .null, .int 0, .int 0, .int 0, .long 0, .int 0])), (q7, .inl (c7, (60, .inr (.inr (.inr (.inr (fun _ => none))))))), (q16, .inl (c16, (30, .inr (.inr (.inr (.inr (fun _ => none)))))))] := hD
  have hK : va_K (dC, dI) vwCl [(c7, .object "ClockAuctions$Lot"), (c16, .object "ClockAuctions$Buyer")] s := hK
  refine W.widen (k := 2) (n := 90) (Nat.le_of_ble_eq_true rfl) (Nat.le_of_ble_eq_true rfl) ?_
  refine va_putF (D := (dC, dI)) (ci := 7) (v := .ref q16) (ty := (.array (.object "ClockAuctions$Buyer"))) (C := RX8) (T := TX8) (N := 11) hx hb hts twu_RX8 tyX8 tyX8_ok nmX8 hown hK hP hD hS 0 rfl rfl 1 (by decide) (hts _ twf_RX8_17) (fun _ h9 => h9) rfl hin rfl (by decide +kernel) rfl rfl (Nat.le_of_ble_eq_true rfl) dX8_init_19 (fun H locs hP hD hS => ?_)
  have hP : va_P (dC, dI) vwCl [(h0, .inr (7, [.ref q7, .ref q16, .null, .null, .null, .null, .int 0, .int 0, .int 0, .long 0, .int 0])), (q7, .inl (c7, (60, .inr (.inr (.inr (.inr (fun _ => none))))))), (q16, .inl (c16, (30, .inr (.inr (.inr (.inr (fun _ => none)))))))] H := hP
  have hD : va_D A [(h0, .inr (7, [.ref q7, .ref q16, .null, .null, .null, .null, .int 0, .int 0, .int 0, .long 0, .int 0])), (q7, .inl (c7, (60, .inr (.inr (.inr (.inr (fun _ => none))))))), (q16, .inl (c16, (30, .inr (.inr (.inr (.inr (fun _ => none)))))))] := hD
  refine lv_aload_n hx hb dX8_init_22 rfl (lv_at hl 0 rfl) ?_
  refine lv_bipush (v := 18) hx hb dX8_init_23 (by decide) ?_
  refine va_newq hx hb (C := "ClockAuctions$Bid") hown (hts _ twc_RX8_21) hEClockAuctions_Bid hK hP hD hS hA (by decide) (N' := 18) (by decide) (Nat.le_of_ble_eq_true rfl) (show 2 + 1 ≤ 10 from Nat.le_of_ble_eq_true rfl) (show 90 + 18 ≤ 430 from Nat.le_of_ble_eq_true rfl) dX8_init_25 (fun q25 c25 H hK hP hD hS => ?_)
  have hP : va_P (dC, dI) vwCl [(h0, .inr (7, [.ref q7, .ref q16, .null, .null, .null, .null, .int 0, .int 0, .int 0, .long 0, .int 0])), (q7, .inl (c7, (60, .inr (.inr (.inr (.inr (fun _ => none))))))), (q16, .inl (c16, (30, .inr (.inr (.inr (.inr (fun _ => none))))))), (q25, .inl (c25, (18, .inr (.inr (.inr (.inr (fun _ => none)))))))] H := hP
  have hD : va_D A [(h0, .inr (7, [.ref q7, .ref q16, .null, .null, .null, .null, .int 0, .int 0, .int 0, .long 0, .int 0])), (q7, .inl (c7, (60, .inr (.inr (.inr (.inr (fun _ => none))))))), (q16, .inl (c16, (30, .inr (.inr (.inr (.inr (fun _ => none))))))), (q25, .inl (c25, (18, .inr (.inr (.inr (.inr (fun _ => none)))))))] := hD
  have hK : va_K (dC, dI) vwCl [(c7, .object "ClockAuctions$Lot"), (c16, .object "ClockAuctions$Buyer"), (c25, .object "ClockAuctions$Bid")] s := hK
  refine W.widen (k := 3) (n := 108) (Nat.le_of_ble_eq_true rfl) (Nat.le_of_ble_eq_true rfl) ?_
  refine va_putF (D := (dC, dI)) (ci := 7) (v := .ref q25) (ty := (.array (.object "ClockAuctions$Bid"))) (C := RX8) (T := TX8) (N := 11) hx hb hts twu_RX8 tyX8 tyX8_ok nmX8 hown hK hP hD hS 0 rfl rfl 2 (by decide) (hts _ twf_RX8_23) (fun _ h9 => h9) rfl hin rfl (by decide +kernel) rfl rfl (Nat.le_of_ble_eq_true rfl) dX8_init_28 (fun H locs hP hD hS => ?_)
  have hP : va_P (dC, dI) vwCl [(h0, .inr (7, [.ref q7, .ref q16, .ref q25, .null, .null, .null, .int 0, .int 0, .int 0, .long 0, .int 0])), (q7, .inl (c7, (60, .inr (.inr (.inr (.inr (fun _ => none))))))), (q16, .inl (c16, (30, .inr (.inr (.inr (.inr (fun _ => none))))))), (q25, .inl (c25, (18, .inr (.inr (.inr (.inr (fun _ => none)))))))] H := hP
  have hD : va_D A [(h0, .inr (7, [.ref q7, .ref q16, .ref q25, .null, .null, .null, .int 0, .int 0, .int 0, .long 0, .int 0])), (q7, .inl (c7, (60, .inr (.inr (.inr (.inr (fun _ => none))))))), (q16, .inl (c16, (30, .inr (.inr (.inr (.inr (fun _ => none))))))), (q25, .inl (c25, (18, .inr (.inr (.inr (.inr (fun _ => none)))))))] := hD
  refine lv_aload_n hx hb dX8_init_31 rfl (lv_at hl 0 rfl) ?_
  refine va_new (ci := 4) (fs := [.null, .long 0, .long 0, .long 0, .long 0, .int 0]) (C := RX4) (T := TX4) (N := 6) hx hb hts twu_RX4 tyX4 tyX4_ok hown (hts _ twc_RX8_27) (hts _ twt_RX4) (hts _ twn_RX4) hK hP hD hS hA rfl (fun j hj => by rcases (show j = 0 ∨ j = 1 ∨ j = 2 ∨ j = 3 ∨ j = 4 ∨ j = 5 by omega) with rfl | rfl | rfl | rfl | rfl | rfl <;> rfl) (show 3 + 1 ≤ 10 from Nat.le_of_ble_eq_true rfl) (show 108 + 6 ≤ 430 from Nat.le_of_ble_eq_true rfl) dX8_init_32 (fun q32 H hP hD hS => ?_)
  have hP : va_P (dC, dI) vwCl [(h0, .inr (7, [.ref q7, .ref q16, .ref q25, .null, .null, .null, .int 0, .int 0, .int 0, .long 0, .int 0])), (q7, .inl (c7, (60, .inr (.inr (.inr (.inr (fun _ => none))))))), (q16, .inl (c16, (30, .inr (.inr (.inr (.inr (fun _ => none))))))), (q25, .inl (c25, (18, .inr (.inr (.inr (.inr (fun _ => none))))))), (q32, .inr (4, [.null, .long 0, .long 0, .long 0, .long 0, .int 0]))] H := hP
  have hD : va_D A [(h0, .inr (7, [.ref q7, .ref q16, .ref q25, .null, .null, .null, .int 0, .int 0, .int 0, .long 0, .int 0])), (q7, .inl (c7, (60, .inr (.inr (.inr (.inr (fun _ => none))))))), (q16, .inl (c16, (30, .inr (.inr (.inr (.inr (fun _ => none))))))), (q25, .inl (c25, (18, .inr (.inr (.inr (.inr (fun _ => none))))))), (q32, .inr (4, [.null, .long 0, .long 0, .long 0, .long 0, .int 0]))] := hD
  refine W.widen (k := 4) (n := 114) (Nat.le_of_ble_eq_true rfl) (Nat.le_of_ble_eq_true rfl) ?_
  refine lv_dup hx hb dX8_init_35 rfl ?_
  have hPc := hP.sub (ws' := [(q32, .inr (4, [.null, .long 0, .long 0, .long 0, .long 0, .int 0]))]) [4] rfl
  have hDc := hD.sub (ws' := [(q32, .inr (4, [.null, .long 0, .long 0, .long 0, .long 0, .int 0]))]) [4] (by decide) rfl
  have hKc := hK.sub (tys' := []) [] rfl
  have hFc := va_free (wc := [(q32, .inr (4, [.null, .long 0, .long 0, .long 0, .long 0, .int 0]))]) hD hS hA [4] rfl
  refine va_callv (va_runIN (As := []) (rest := [.ref q32, .ref h0]) F (mi_X4_init l dC dI q32 H.size) ⟨va_cnB 0 hts (goodM two_yX4_init) rfl rfl rfl hEn29 (hts _ twn_RX4) ⟨by decide, by decide, by decide +kernel⟩ ⟨Nat.le_of_ble_eq_true rfl, Nat.le_of_ble_eq_true rfl⟩, rfl, hts _ twi_yX4_init⟩ ⟨fun a U g mk q => by obtain ⟨q0, q1, qP, qK, qD, qE⟩ := q; exact ⟨q0, q1, qP, va_K.moved (u := U) (U := U.calling g mk a) (Vm.Alike.refl U.vm) qK, qD, trivial⟩, fun U hU hW => ⟨rfl, by rw [hU], by rw [hU]; exact hPc, va_K.moved hW.alike hKc, hDc.weaken (fun _ _ _ _ => trivial), trivial⟩⟩ rfl rfl hl.1 rfl (lv_room (Nat.le_of_ble_eq_true rfl)) dX8_init_36 ⟨(show 4 + 0 ≤ 10 from Nat.le_of_ble_eq_true rfl), (show 114 + 0 ≤ 430 from Nat.le_of_ble_eq_true rfl)⟩) hS (fun q _ h => hFc q h) hFc (fun u t H1 locs ht hvm hw9 hB hz1 hk1 hS => ?_)
  obtain ⟨hP1, hK1, hD1⟩ := hB
  rw [ht] at hP1
  have hK1 := va_K.moved hvm.symm hK1
  obtain ⟨hP, hD⟩ := va_join (wr := [(h0, .inr (7, [.ref q7, .ref q16, .ref q25, .null, .null, .null, .int 0, .int 0, .int 0, .long 0, .int 0])), (q7, .inl (c7, (60, .inr (.inr (.inr (.inr (fun _ => none))))))), (q16, .inl (c16, (30, .inr (.inr (.inr (.inr (fun _ => none))))))), (q25, .inl (c25, (18, .inr (.inr (.inr (.inr (fun _ => none)))))))]) (w1 := [(q32, .inr (4, [.null, .long 0, .long 0, .long 0, .long 0, .int 0]))]) hP hD [4] [0, 1, 2, 3] rfl rfl (by decide) (by decide) hk1 hFc hP1 hD1
  have hK := hK.app hK1
  generalize H1 = H at hP hS ⊢
  have hP : va_P (dC, dI) vwCl [(h0, .inr (7, [.ref q7, .ref q16, .ref q25, .null, .null, .null, .int 0, .int 0, .int 0, .long 0, .int 0])), (q7, .inl (c7, (60, .inr (.inr (.inr (.inr (fun _ => none))))))), (q16, .inl (c16, (30, .inr (.inr (.inr (.inr (fun _ => none))))))), (q25, .inl (c25, (18, .inr (.inr (.inr (.inr (fun _ => none))))))), (q32, .inr (4, [.null, .long 0, .long 0, .long 0, .long 0, .int 0]))] H := hP
  have hD : va_D A [(h0, .inr (7, [.ref q7, .ref q16, .ref q25, .null, .null, .null, .int 0, .int 0, .int 0, .long 0, .int 0])), (q7, .inl (c7, (60, .inr (.inr (.inr (.inr (fun _ => none))))))), (q16, .inl (c16, (30, .inr (.inr (.inr (.inr (fun _ => none))))))), (q25, .inl (c25, (18, .inr (.inr (.inr (.inr (fun _ => none))))))), (q32, .inr (4, [.null, .long 0, .long 0, .long 0, .long 0, .int 0]))] := hD
  have hK : va_K (dC, dI) vwCl [(c7, .object "ClockAuctions$Lot"), (c16, .object "ClockAuctions$Buyer"), (c25, .object "ClockAuctions$Bid")] s := hK
  refine va_putF (D := (dC, dI)) (ci := 7) (v := .ref q32) (ty := .object "ClockAuctions$FallingClock") (C := RX8) (T := TX8) (N := 11) hx hb hts twu_RX8 tyX8 tyX8_ok nmX8 hown hK hP hD hS 0 rfl rfl 3 (by decide) (hts _ twf_RX8_30) (fun _ h9 => h9) rfl hin rfl (by decide +kernel) rfl rfl (Nat.le_of_ble_eq_true rfl) dX8_init_39 (fun H locs hP hD hS => ?_)
  have hP : va_P (dC, dI) vwCl [(h0, .inr (7, [.ref q7, .ref q16, .ref q25, .ref q32, .null, .null, .int 0, .int 0, .int 0, .long 0, .int 0])), (q7, .inl (c7, (60, .inr (.inr (.inr (.inr (fun _ => none))))))), (q16, .inl (c16, (30, .inr (.inr (.inr (.inr (fun _ => none))))))), (q25, .inl (c25, (18, .inr (.inr (.inr (.inr (fun _ => none))))))), (q32, .inr (4, [.null, .long 0, .long 0, .long 0, .long 0, .int 0]))] H := hP
  have hD : va_D A [(h0, .inr (7, [.ref q7, .ref q16, .ref q25, .ref q32, .null, .null, .int 0, .int 0, .int 0, .long 0, .int 0])), (q7, .inl (c7, (60, .inr (.inr (.inr (.inr (fun _ => none))))))), (q16, .inl (c16, (30, .inr (.inr (.inr (.inr (fun _ => none))))))), (q25, .inl (c25, (18, .inr (.inr (.inr (.inr (fun _ => none))))))), (q32, .inr (4, [.null, .long 0, .long 0, .long 0, .long 0, .int 0]))] := hD
  refine lv_aload_n hx hb dX8_init_42 rfl (lv_at hl 0 rfl) ?_
  refine va_new (ci := 2) (fs := [.null, .int 0, .int 0]) (C := RX2) (T := TX2) (N := 3) hx hb hts twu_RX2 tyX2 tyX2_ok hown (hts _ twc_RX8_34) (hts _ twt_RX2) (hts _ twn_RX2) hK hP hD hS hA rfl (fun j hj => by rcases (show j = 0 ∨ j = 1 ∨ j = 2 by omega) with rfl | rfl | rfl <;> rfl) (show 4 + 1 ≤ 10 from Nat.le_of_ble_eq_true rfl) (show 114 + 3 ≤ 430 from Nat.le_of_ble_eq_true rfl) dX8_init_43 (fun q43 H hP hD hS => ?_)
  have hP : va_P (dC, dI) vwCl [(h0, .inr (7, [.ref q7, .ref q16, .ref q25, .ref q32, .null, .null, .int 0, .int 0, .int 0, .long 0, .int 0])), (q7, .inl (c7, (60, .inr (.inr (.inr (.inr (fun _ => none))))))), (q16, .inl (c16, (30, .inr (.inr (.inr (.inr (fun _ => none))))))), (q25, .inl (c25, (18, .inr (.inr (.inr (.inr (fun _ => none))))))), (q32, .inr (4, [.null, .long 0, .long 0, .long 0, .long 0, .int 0])), (q43, .inr (2, [.null, .int 0, .int 0]))] H := hP
  have hD : va_D A [(h0, .inr (7, [.ref q7, .ref q16, .ref q25, .ref q32, .null, .null, .int 0, .int 0, .int 0, .long 0, .int 0])), (q7, .inl (c7, (60, .inr (.inr (.inr (.inr (fun _ => none))))))), (q16, .inl (c16, (30, .inr (.inr (.inr (.inr (fun _ => none))))))), (q25, .inl (c25, (18, .inr (.inr (.inr (.inr (fun _ => none))))))), (q32, .inr (4, [.null, .long 0, .long 0, .long 0, .long 0, .int 0])), (q43, .inr (2, [.null, .int 0, .int 0]))] := hD
  refine W.widen (k := 5) (n := 117) (Nat.le_of_ble_eq_true rfl) (Nat.le_of_ble_eq_true rfl) ?_
  refine lv_dup hx hb dX8_init_46 rfl ?_
  have hPc := hP.sub (ws' := [(q43, .inr (2, [.null, .int 0, .int 0]))]) [5] rfl
  have hDc := hD.sub (ws' := [(q43, .inr (2, [.null, .int 0, .int 0]))]) [5] (by decide) rfl
  have hKc := hK.sub (tys' := []) [] rfl
  have hFc := va_free (wc := [(q43, .inr (2, [.null, .int 0, .int 0]))]) hD hS hA [5] rfl
  refine va_callv (va_runIN (As := []) (rest := [.ref q43, .ref h0]) F (mi_X2_init l dC dI q43 H.size) ⟨va_cnB 0 hts (goodM two_yX2_init) rfl rfl rfl hEn36 (hts _ twn_RX2) ⟨by decide, by decide, by decide +kernel⟩ ⟨Nat.le_of_ble_eq_true rfl, Nat.le_of_ble_eq_true rfl⟩, rfl, hts _ twi_yX2_init⟩ ⟨fun a U g mk q => by obtain ⟨q0, q1, qP, qK, qD, qE⟩ := q; exact ⟨q0, q1, qP, va_K.moved (u := U) (U := U.calling g mk a) (Vm.Alike.refl U.vm) qK, qD, ⟨(va_AO.moved (u := U) (U := U.calling g mk a) (Vm.Alike.refl U.vm) qE.1), trivial⟩⟩, fun U hU hW => ⟨rfl, by rw [hU], by rw [hU]; exact hPc, va_K.moved hW.alike hKc, hDc.weaken (fun _ _ _ _ => trivial), ⟨va_AO.moved hW.alike hEClockAuctions_Entry, trivial⟩⟩⟩ rfl rfl hl.1 rfl (lv_room (Nat.le_of_ble_eq_true rfl)) dX8_init_47 ⟨(show 5 + 1 ≤ 10 from Nat.le_of_ble_eq_true rfl), (show 117 + 240 ≤ 430 from Nat.le_of_ble_eq_true rfl)⟩) hS (fun q _ h => hFc q h) hFc (fun u t H1 locs ht hvm hw9 hB hz1 hk1 hS => ?_)
  obtain ⟨ad47_0, cl47_0, hP1, hK1, hD1⟩ := hB
  rw [ht] at hP1
  have hK1 := va_K.moved hvm.symm hK1
  obtain ⟨hP, hD⟩ := va_join (wr := [(h0, .inr (7, [.ref q7, .ref q16, .ref q25, .ref q32, .null, .null, .int 0, .int 0, .int 0, .long 0, .int 0])), (q7, .inl (c7, (60, .inr (.inr (.inr (.inr (fun _ => none))))))), (q16, .inl (c16, (30, .inr (.inr (.inr (.inr (fun _ => none))))))), (q25, .inl (c25, (18, .inr (.inr (.inr (.inr (fun _ => none))))))), (q32, .inr (4, [.null, .long 0, .long 0, .long 0, .long 0, .int 0]))]) (w1 := [(q43, .inr (2, [.ref ad47_0, .int 0, .int 1])), (ad47_0, .inl (cl47_0, (240, .inr (.inr (.inr (.inr (fun _ => none)))))))]) hP hD [5] [0, 1, 2, 3, 4] rfl rfl (by decide) (by decide) hk1 hFc hP1 hD1
  have hK := hK.app hK1
  generalize H1 = H at hP hS ⊢
  have hP : va_P (dC, dI) vwCl [(h0, .inr (7, [.ref q7, .ref q16, .ref q25, .ref q32, .null, .null, .int 0, .int 0, .int 0, .long 0, .int 0])), (q7, .inl (c7, (60, .inr (.inr (.inr (.inr (fun _ => none))))))), (q16, .inl (c16, (30, .inr (.inr (.inr (.inr (fun _ => none))))))), (q25, .inl (c25, (18, .inr (.inr (.inr (.inr (fun _ => none))))))), (q32, .inr (4, [.null, .long 0, .long 0, .long 0, .long 0, .int 0])), (q43, .inr (2, [.ref ad47_0, .int 0, .int 1])), (ad47_0, .inl (cl47_0, (240, .inr (.inr (.inr (.inr (fun _ => none)))))))] H := hP
  have hD : va_D A [(h0, .inr (7, [.ref q7, .ref q16, .ref q25, .ref q32, .null, .null, .int 0, .int 0, .int 0, .long 0, .int 0])), (q7, .inl (c7, (60, .inr (.inr (.inr (.inr (fun _ => none))))))), (q16, .inl (c16, (30, .inr (.inr (.inr (.inr (fun _ => none))))))), (q25, .inl (c25, (18, .inr (.inr (.inr (.inr (fun _ => none))))))), (q32, .inr (4, [.null, .long 0, .long 0, .long 0, .long 0, .int 0])), (q43, .inr (2, [.ref ad47_0, .int 0, .int 1])), (ad47_0, .inl (cl47_0, (240, .inr (.inr (.inr (.inr (fun _ => none)))))))] := hD
  have hK : va_K (dC, dI) vwCl [(c7, .object "ClockAuctions$Lot"), (c16, .object "ClockAuctions$Buyer"), (c25, .object "ClockAuctions$Bid"), (cl47_0, .object "ClockAuctions$Entry")] s := hK
  refine va_putF (D := (dC, dI)) (ci := 7) (v := .ref q43) (ty := .object "ClockAuctions$Chain") (C := RX8) (T := TX8) (N := 11) hx hb hts twu_RX8 tyX8 tyX8_ok nmX8 hown hK hP hD hS 0 rfl rfl 4 (by decide) (hts _ twf_RX8_37) (fun _ h9 => h9) rfl hin rfl (by decide +kernel) rfl rfl (Nat.le_of_ble_eq_true rfl) dX8_init_50 (fun H locs hP hD hS => ?_)
  have hP : va_P (dC, dI) vwCl [(h0, .inr (7, [.ref q7, .ref q16, .ref q25, .ref q32, .ref q43, .null, .int 0, .int 0, .int 0, .long 0, .int 0])), (q7, .inl (c7, (60, .inr (.inr (.inr (.inr (fun _ => none))))))), (q16, .inl (c16, (30, .inr (.inr (.inr (.inr (fun _ => none))))))), (q25, .inl (c25, (18, .inr (.inr (.inr (.inr (fun _ => none))))))), (q32, .inr (4, [.null, .long 0, .long 0, .long 0, .long 0, .int 0])), (q43, .inr (2, [.ref ad47_0, .int 0, .int 1])), (ad47_0, .inl (cl47_0, (240, .inr (.inr (.inr (.inr (fun _ => none)))))))] H := hP
  have hD : va_D A [(h0, .inr (7, [.ref q7, .ref q16, .ref q25, .ref q32, .ref q43, .null, .int 0, .int 0, .int 0, .long 0, .int 0])), (q7, .inl (c7, (60, .inr (.inr (.inr (.inr (fun _ => none))))))), (q16, .inl (c16, (30, .inr (.inr (.inr (.inr (fun _ => none))))))), (q25, .inl (c25, (18, .inr (.inr (.inr (.inr (fun _ => none))))))), (q32, .inr (4, [.null, .long 0, .long 0, .long 0, .long 0, .int 0])), (q43, .inr (2, [.ref ad47_0, .int 0, .int 1])), (ad47_0, .inl (cl47_0, (240, .inr (.inr (.inr (.inr (fun _ => none)))))))] := hD
  refine lv_aload_n hx hb dX8_init_53 rfl (lv_at hl 0 rfl) ?_
  refine va_new (ci := 6) (fs := [.null, .null, .null, .int 0, .int 0, .long 0]) (C := RX6) (T := TX6) (N := 6) hx hb hts twu_RX6 tyX6 tyX6_ok hown (hts _ twc_RX8_41) (hts _ twt_RX6) (hts _ twn_RX6) hK hP hD hS hA rfl (fun j hj => by rcases (show j = 0 ∨ j = 1 ∨ j = 2 ∨ j = 3 ∨ j = 4 ∨ j = 5 by omega) with rfl | rfl | rfl | rfl | rfl | rfl <;> rfl) (show 6 + 1 ≤ 10 from Nat.le_of_ble_eq_true rfl) (show 357 + 6 ≤ 430 from Nat.le_of_ble_eq_true rfl) dX8_init_54 (fun q54 H hP hD hS => ?_)
  have hP : va_P (dC, dI) vwCl [(h0, .inr (7, [.ref q7, .ref q16, .ref q25, .ref q32, .ref q43, .null, .int 0, .int 0, .int 0, .long 0, .int 0])), (q7, .inl (c7, (60, .inr (.inr (.inr (.inr (fun _ => none))))))), (q16, .inl (c16, (30, .inr (.inr (.inr (.inr (fun _ => none))))))), (q25, .inl (c25, (18, .inr (.inr (.inr (.inr (fun _ => none))))))), (q32, .inr (4, [.null, .long 0, .long 0, .long 0, .long 0, .int 0])), (q43, .inr (2, [.ref ad47_0, .int 0, .int 1])), (ad47_0, .inl (cl47_0, (240, .inr (.inr (.inr (.inr (fun _ => none))))))), (q54, .inr (6, [.null, .null, .null, .int 0, .int 0, .long 0]))] H := hP
  have hD : va_D A [(h0, .inr (7, [.ref q7, .ref q16, .ref q25, .ref q32, .ref q43, .null, .int 0, .int 0, .int 0, .long 0, .int 0])), (q7, .inl (c7, (60, .inr (.inr (.inr (.inr (fun _ => none))))))), (q16, .inl (c16, (30, .inr (.inr (.inr (.inr (fun _ => none))))))), (q25, .inl (c25, (18, .inr (.inr (.inr (.inr (fun _ => none))))))), (q32, .inr (4, [.null, .long 0, .long 0, .long 0, .long 0, .int 0])), (q43, .inr (2, [.ref ad47_0, .int 0, .int 1])), (ad47_0, .inl (cl47_0, (240, .inr (.inr (.inr (.inr (fun _ => none))))))), (q54, .inr (6, [.null, .null, .null, .int 0, .int 0, .long 0]))] := hD
  refine W.widen (k := 7) (n := 363) (Nat.le_of_ble_eq_true rfl) (Nat.le_of_ble_eq_true rfl) ?_
  refine lv_dup hx hb dX8_init_57 rfl ?_
  have hPc := hP.sub (ws' := [(q54, .inr (6, [.null, .null, .null, .int 0, .int 0, .long 0]))]) [7] rfl
  have hDc := hD.sub (ws' := [(q54, .inr (6, [.null, .null, .null, .int 0, .int 0, .long 0]))]) [7] (by decide) rfl
  have hKc := hK.sub (tys' := []) [] rfl
  have hFc := va_free (wc := [(q54, .inr (6, [.null, .null, .null, .int 0, .int 0, .long 0]))]) hD hS hA [7] rfl
  refine va_callv (va_runIN (As := []) (rest := [.ref q54, .ref h0]) F (mi_X6_init l dC dI q54 H.size) ⟨va_cnB 0 hts (goodM two_yX6_init) rfl rfl rfl hEn43 (hts _ twn_RX6) ⟨by decide, by decide, by decide +kernel⟩ ⟨Nat.le_of_ble_eq_true rfl, Nat.le_of_ble_eq_true rfl⟩, rfl, hts _ twi_yX6_init⟩ ⟨fun a U g mk q => by obtain ⟨q0, q1, qP, qK, qD, qE⟩ := q; exact ⟨q0, q1, qP, va_K.moved (u := U) (U := U.calling g mk a) (Vm.Alike.refl U.vm) qK, qD, ⟨(va_AO.moved (u := U) (U := U.calling g mk a) (Vm.Alike.refl U.vm) qE.1), trivial⟩⟩, fun U hU hW => ⟨rfl, by rw [hU], by rw [hU]; exact hPc, va_K.moved hW.alike hKc, hDc.weaken (fun _ _ _ _ => trivial), ⟨va_AO.moved hW.alike hEClockAuctions_Bid, trivial⟩⟩⟩ rfl rfl hl.1 rfl (lv_room (Nat.le_of_ble_eq_true rfl)) dX8_init_58 ⟨(show 7 + 3 ≤ 10 from Nat.le_of_ble_eq_true rfl), (show 363 + 67 ≤ 430 from Nat.le_of_ble_eq_true rfl)⟩) hS (fun q _ h => hFc q h) hFc (fun u t H1 locs ht hvm hw9 hB hz1 hk1 hS => ?_)
  obtain ⟨ad58_0, ad58_1, ad58_2, cl58_0, cl58_1, cl58_2, hP1, hK1, hD1⟩ := hB
  rw [ht] at hP1
  have hK1 := va_K.moved hvm.symm hK1
  obtain ⟨hP, hD⟩ := va_join (wr := [(h0, .inr (7, [.ref q7, .ref q16, .ref q25, .ref q32, .ref q43, .null, .int 0, .int 0, .int 0, .long 0, .int 0])), (q7, .inl (c7, (60, .inr (.inr (.inr (.inr (fun _ => none))))))), (q16, .inl (c16, (30, .inr (.inr (.inr (.inr (fun _ => none))))))), (q25, .inl (c25, (18, .inr (.inr (.inr (.inr (fun _ => none))))))), (q32, .inr (4, [.null, .long 0, .long 0, .long 0, .long 0, .int 0])), (q43, .inr (2, [.ref ad47_0, .int 0, .int 1])), (ad47_0, .inl (cl47_0, (240, .inr (.inr (.inr (.inr (fun _ => none)))))))]) (w1 := [(q54, .inr (6, [.ref ad58_0, .ref ad58_1, .ref ad58_2, .int 0, .int 0, .long 0])), (ad58_0, .inl (cl58_0, (18, .inr (.inr (.inr (.inr (fun _ => none))))))), (ad58_1, .inl (cl58_1, (19, .inr (.inl (fun _ => 0))))), (ad58_2, .inl (cl58_2, (30, .inr (.inl (fun _ => 0)))))]) hP hD [7] [0, 1, 2, 3, 4, 5, 6] rfl rfl (by decide) (by decide) hk1 hFc hP1 hD1
  have hK := hK.app hK1
  generalize H1 = H at hP hS ⊢
  have hP : va_P (dC, dI) vwCl [(h0, .inr (7, [.ref q7, .ref q16, .ref q25, .ref q32, .ref q43, .null, .int 0, .int 0, .int 0, .long 0, .int 0])), (q7, .inl (c7, (60, .inr (.inr (.inr (.inr (fun _ => none))))))), (q16, .inl (c16, (30, .inr (.inr (.inr (.inr (fun _ => none))))))), (q25, .inl (c25, (18, .inr (.inr (.inr (.inr (fun _ => none))))))), (q32, .inr (4, [.null, .long 0, .long 0, .long 0, .long 0, .int 0])), (q43, .inr (2, [.ref ad47_0, .int 0, .int 1])), (ad47_0, .inl (cl47_0, (240, .inr (.inr (.inr (.inr (fun _ => none))))))), (q54, .inr (6, [.ref ad58_0, .ref ad58_1, .ref ad58_2, .int 0, .int 0, .long 0])), (ad58_0, .inl (cl58_0, (18, .inr (.inr (.inr (.inr (fun _ => none))))))), (ad58_1, .inl (cl58_1, (19, .inr (.inl (fun _ => 0))))), (ad58_2, .inl (cl58_2, (30, .inr (.inl (fun _ => 0)))))] H := hP
  have hD : va_D A [(h0, .inr (7, [.ref q7, .ref q16, .ref q25, .ref q32, .ref q43, .null, .int 0, .int 0, .int 0, .long 0, .int 0])), (q7, .inl (c7, (60, .inr (.inr (.inr (.inr (fun _ => none))))))), (q16, .inl (c16, (30, .inr (.inr (.inr (.inr (fun _ => none))))))), (q25, .inl (c25, (18, .inr (.inr (.inr (.inr (fun _ => none))))))), (q32, .inr (4, [.null, .long 0, .long 0, .long 0, .long 0, .int 0])), (q43, .inr (2, [.ref ad47_0, .int 0, .int 1])), (ad47_0, .inl (cl47_0, (240, .inr (.inr (.inr (.inr (fun _ => none))))))), (q54, .inr (6, [.ref ad58_0, .ref ad58_1, .ref ad58_2, .int 0, .int 0, .long 0])), (ad58_0, .inl (cl58_0, (18, .inr (.inr (.inr (.inr (fun _ => none))))))), (ad58_1, .inl (cl58_1, (19, .inr (.inl (fun _ => 0))))), (ad58_2, .inl (cl58_2, (30, .inr (.inl (fun _ => 0)))))] := hD
  have hK : va_K (dC, dI) vwCl [(c7, .object "ClockAuctions$Lot"), (c16, .object "ClockAuctions$Buyer"), (c25, .object "ClockAuctions$Bid"), (cl47_0, .object "ClockAuctions$Entry"), (cl58_0, .object "ClockAuctions$Bid"), (cl58_1, .long), (cl58_2, .long)] s := hK
  refine va_putF (D := (dC, dI)) (ci := 7) (v := .ref q54) (ty := .object "ClockAuctions$SetSearch") (C := RX8) (T := TX8) (N := 11) hx hb hts twu_RX8 tyX8 tyX8_ok nmX8 hown hK hP hD hS 0 rfl rfl 5 (by decide) (hts _ twf_RX8_44) (fun _ h9 => h9) rfl hin rfl (by decide +kernel) rfl rfl (Nat.le_of_ble_eq_true rfl) dX8_init_61 (fun H locs hP hD hS => ?_)
  have hP : va_P (dC, dI) vwCl [(h0, .inr (7, [.ref q7, .ref q16, .ref q25, .ref q32, .ref q43, .ref q54, .int 0, .int 0, .int 0, .long 0, .int 0])), (q7, .inl (c7, (60, .inr (.inr (.inr (.inr (fun _ => none))))))), (q16, .inl (c16, (30, .inr (.inr (.inr (.inr (fun _ => none))))))), (q25, .inl (c25, (18, .inr (.inr (.inr (.inr (fun _ => none))))))), (q32, .inr (4, [.null, .long 0, .long 0, .long 0, .long 0, .int 0])), (q43, .inr (2, [.ref ad47_0, .int 0, .int 1])), (ad47_0, .inl (cl47_0, (240, .inr (.inr (.inr (.inr (fun _ => none))))))), (q54, .inr (6, [.ref ad58_0, .ref ad58_1, .ref ad58_2, .int 0, .int 0, .long 0])), (ad58_0, .inl (cl58_0, (18, .inr (.inr (.inr (.inr (fun _ => none))))))), (ad58_1, .inl (cl58_1, (19, .inr (.inl (fun _ => 0))))), (ad58_2, .inl (cl58_2, (30, .inr (.inl (fun _ => 0)))))] H := hP
  have hD : va_D A [(h0, .inr (7, [.ref q7, .ref q16, .ref q25, .ref q32, .ref q43, .ref q54, .int 0, .int 0, .int 0, .long 0, .int 0])), (q7, .inl (c7, (60, .inr (.inr (.inr (.inr (fun _ => none))))))), (q16, .inl (c16, (30, .inr (.inr (.inr (.inr (fun _ => none))))))), (q25, .inl (c25, (18, .inr (.inr (.inr (.inr (fun _ => none))))))), (q32, .inr (4, [.null, .long 0, .long 0, .long 0, .long 0, .int 0])), (q43, .inr (2, [.ref ad47_0, .int 0, .int 1])), (ad47_0, .inl (cl47_0, (240, .inr (.inr (.inr (.inr (fun _ => none))))))), (q54, .inr (6, [.ref ad58_0, .ref ad58_1, .ref ad58_2, .int 0, .int 0, .long 0])), (ad58_0, .inl (cl58_0, (18, .inr (.inr (.inr (.inr (fun _ => none))))))), (ad58_1, .inl (cl58_1, (19, .inr (.inl (fun _ => 0))))), (ad58_2, .inl (cl58_2, (30, .inr (.inl (fun _ => 0)))))] := hD
  have hP9 := hP.sub (ws' := [(h0, .inr (7, [.ref q7, .ref q16, .ref q25, .ref q32, .ref q43, .ref q54, .int 0, .int 0, .int 0, .long 0, .int 0])), (q7, .inl (c7, (60, .inr (.inr (.inr (.inr (fun _ => none))))))), (q16, .inl (c16, (30, .inr (.inr (.inr (.inr (fun _ => none))))))), (q25, .inl (c25, (18, .inr (.inr (.inr (.inr (fun _ => none))))))), (q32, .inr (4, [.null, .long 0, .long 0, .long 0, .long 0, .int 0])), (q43, .inr (2, [.ref ad47_0, .int 0, .int 1])), (ad47_0, .inl (cl47_0, (240, .inr (.inr (.inr (.inr (fun _ => none))))))), (q54, .inr (6, [.ref ad58_0, .ref ad58_1, .ref ad58_2, .int 0, .int 0, .long 0])), (ad58_0, .inl (cl58_0, (18, .inr (.inr (.inr (.inr (fun _ => none))))))), (ad58_1, .inl (cl58_1, (19, .inr (.inl (fun _ => 0))))), (ad58_2, .inl (cl58_2, (30, .inr (.inl (fun _ => 0)))))]) [0, 1, 2, 3, 4, 5, 6, 7, 8, 9, 10] rfl
  have hD9 := hD.sub (ws' := [(h0, .inr (7, [.ref q7, .ref q16, .ref q25, .ref q32, .ref q43, .ref q54, .int 0, .int 0, .int 0, .long 0, .int 0])), (q7, .inl (c7, (60, .inr (.inr (.inr (.inr (fun _ => none))))))), (q16, .inl (c16, (30, .inr (.inr (.inr (.inr (fun _ => none))))))), (q25, .inl (c25, (18, .inr (.inr (.inr (.inr (fun _ => none))))))), (q32, .inr (4, [.null, .long 0, .long 0, .long 0, .long 0, .int 0])), (q43, .inr (2, [.ref ad47_0, .int 0, .int 1])), (ad47_0, .inl (cl47_0, (240, .inr (.inr (.inr (.inr (fun _ => none))))))), (q54, .inr (6, [.ref ad58_0, .ref ad58_1, .ref ad58_2, .int 0, .int 0, .long 0])), (ad58_0, .inl (cl58_0, (18, .inr (.inr (.inr (.inr (fun _ => none))))))), (ad58_1, .inl (cl58_1, (19, .inr (.inl (fun _ => 0))))), (ad58_2, .inl (cl58_2, (30, .inr (.inl (fun _ => 0)))))]) [0, 1, 2, 3, 4, 5, 6, 7, 8, 9, 10] (by decide) rfl
  refine W.widen (k := 10) (n := 430) (Nat.le_of_ble_eq_true rfl) (Nat.le_of_ble_eq_true rfl) ?_
  exact W.vret hx hb hr (fun t ht hW => ⟨⟨(), rfl, trivial, ati_X8_init_mk q7 q16 q25 q32 q43 ad47_0 q54 ad58_0 ad58_1 ad58_2 c7 c16 c25 cl47_0 cl58_0 cl58_1 cl58_2 (by rw [ht]; exact hP9) (va_K.moved hW.alike hK) hD9⟩, hS.F ht⟩) hS.2.2 dX8_init_64 hlk

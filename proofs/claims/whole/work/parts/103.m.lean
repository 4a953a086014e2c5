-- X8_delay
def wp_X8_delay (p1 : Int32) (p2 : Int64) (S0 : St) (post : Int32 → St → Prop) : Prop :=
  wp_X8_buyerAt p1 S0 (fun r2 S1 =>
  (r2 = none →
  post (0 : Int32) S1) ∧
  (∀ j3 : Nat, r2 = some j3 →
  wp_X8_isWithin p2 (0 : Int64) (5000 : Int64) S1 (fun r5 S4 =>
  (¬ r5 = 0 →
  ∀ S6 : St, S6 = sj S4 1 j3 2 p2 →
  post (1 : Int32) S6) ∧
  (r5 = 0 →
  post (0 : Int32) S4))))
set_option maxRecDepth 100000 in
set_option maxHeartbeats 4000000 in
theorem m_X8_delay (l : Launch) (G : GT) (p1 : Int32) (p2 : Int64) (S0 : St) (a0 : Nat) (hA0 : AtO S0 7 0 a0) (post : Int32 → St → Prop) (hQ : wp_X8_delay p1 p2 S0 post) : Met l yX8_delay (wM yX8_delay cX8_delay 5 (some (FieldType.boolean))) ({ frames := 1, cells := 0, slots := 0, locals := 25 } : Room) (PC G S0 [.ref a0, .int p1, .long p2]) (QI G S0 post) 0 0 (QA G) := by
  refine mt_start RX8 (by decide) rfl (Nat.le_of_ble_eq_true rfl) ?_
  intro p e s m args below meth c ls F hr hlk hnm hw hl
  have hx := F.1
  have hb := F.2.1
  have hown := F.2.2.2.1
  have hts := F.2.2.2.2
  have hX : Ext S0 S0 := Ext.rf
  have hsz0 := hw.1.1.1
  have hl : lv_has ls 5 [(0, .ref a0), (1, .int p1), (2, .long p2)] := hl
  unfold wp_X8_delay at hQ
  refine lv_aload_n hx hb dX8_delay_0 rfl (lv_at hl 0 rfl) ?_
  refine lv_iload_n hx hb dX8_delay_1 rfl (lv_at hl 1 rfl) ?_
  refine k_X8_buyerAt F hw hl hA0 hQ twm_RX8_89 (Nat.le_of_ble_eq_true rfl) (Nat.le_of_ble_eq_true rfl) (Nat.le_of_ble_eq_true rfl) dX8_delay_2 (show 0 + 0 ≤ 0 from by omega) (show 0 + 0 ≤ 0 from by omega) (fun S1 H locs hQ hw hx1 => ?_) (fun j3 a3 S1 H locs hQ hA3 hw hx1 => ?_)
  · have hQ := hQ.1 rfl
    have hX := hX.trans hx1
    have hA0 := hA0.ext hx1
    refine lv_astoreN (lv' := [(4, .null), (0, .ref a0), (1, .int p1), (2, .long p2)]) hx hb dX8_delay_5 hl (by decide) rfl (fun ls hl => ?_)
    refine lv_aloadN hx hb dX8_delay_7 (lv_at hl 0 rfl) ?_
    refine lv_ifnullN (tgt := 23) hx hb dX8_delay_9 (by decide) ?_
    refine lv_iconst (v := 0) hx hb dX8_delay_23 (by decide) ?_
    exact rt_z F hr hlk hw hX hQ rfl (show (0 + 0) ≤ 0 from by omega) (show (0 + 0) ≤ 0 from by omega) dX8_delay_24
  · have hQ := hQ.2 j3 rfl
    have hX := hX.trans hx1
    have hA0 := hA0.ext hx1
    refine lv_astore (lv' := [(4, .ref a3), (0, .ref a0), (1, .int p1), (2, .long p2)]) hx hb dX8_delay_5 hl (by decide) rfl (fun ls hl => ?_)
    refine lv_aload hx hb dX8_delay_7 (lv_at hl 0 rfl) ?_
    refine lv_ifnull hx hb dX8_delay_9 ?_
    refine lv_lload_n hx hb dX8_delay_12 rfl (lv_at hl 3 rfl) ?_
    refine lv_lconst (v := 0) hx hb dX8_delay_13 (by decide) ?_
    refine lv_ldc2 (v := 5000) hx hb hown (hts _ twl_RX8_183) dX8_delay_14 ?_
    refine k_X8_isWithin F hw hl hQ twm_RX8_50 (Nat.le_of_ble_eq_true rfl) (Nat.le_of_ble_eq_true rfl) (Nat.le_of_ble_eq_true rfl) dX8_delay_17 (show (0 + 0) + 0 ≤ 0 from by omega) (show (0 + 0) + 0 ≤ 0 from by omega) (fun r5 S4 H locs hQ hw hx1 => ?_)
    have hX := hX.trans hx1
    have hA3 := hA3.ext hx1
    have hA0 := hA0.ext hx1
    refine lv_if_ne (tgt := 25) hx hb dX8_delay_20 (by decide) (fun hc => ?_) (fun hc => ?_)
    · have hQ := hQ.1 hc
      refine lv_aload hx hb dX8_delay_25 (lv_at hl 0 rfl) ?_
      refine lv_lload_n hx hb dX8_delay_27 rfl (lv_at hl 3 rfl) ?_
      refine p_1_2 F hw hA3 twf_RX8_185 dX8_delay_28 (fun S6 H locs eS6 hw hx1 => ?_)
      have hQ := hQ S6 eS6
      have hX := hX.trans hx1
      have hA3 := hA3.ext hx1
      have hA0 := hA0.ext hx1
      refine lv_iconst (v := 1) hx hb dX8_delay_31 (by decide) ?_
      exact rt_z F hr hlk hw hX hQ rfl (show ((0 + 0) + 0) ≤ 0 from by omega) (show ((0 + 0) + 0) ≤ 0 from by omega) dX8_delay_32
    · have hQ := hQ.2 hc
      refine lv_iconst (v := 0) hx hb dX8_delay_23 (by decide) ?_
      exact rt_z F hr hlk hw hX hQ rfl (show ((0 + 0) + 0) ≤ 0 from by omega) (show ((0 + 0) + 0) ≤ 0 from by omega) dX8_delay_24
theorem k_X8_delay {p : Program} {l : Launch} {e : Env} {R : Room} {s : State} {m : MethodId} {args : Array Value} {below : List Frame} {meth : Method} {c : Code} {H : Heap} {locs : List Loc} {cells slots : Nat} {Q : State → Prop} {cc : ByteArray} {pc nL : Nat} {ls : Array Slot} {rest : List Value} {G : GT} {S : St} {own : String} {p1 : Int32} {p2 : Int64} {post : Int32 → St → Prop} {lv : List (Nat × Value)} {idx : Nat} (F : CX p m c cc nL s args own) (hw : WW G S s H locs) (hl : lv_has ls nL lv) {a0 : Nat} (hA0 : AtO S 7 0 a0) (hQ : wp_X8_delay p1 p2 S post) (h1 : Cond.methodLink own idx yX8_delay ∈ wT) (hR1 : 1 + 1 ≤ R.frames) (hR2 : 8 + (5 + 11) + 25 ≤ R.locals) (hrest : (rest.map fun v => v.category).sum ≤ 8) (hdg : decode cc pc = .ok (.invokevirtual idx, 3)) (hf1 : cells + 0 ≤ R.cells) (hf2 : slots + 0 ≤ R.slots)
    (kk : ∀ (r : Int32) (S1 : St) (H1 : Heap) (locs1 : List Loc), post r S1 → WW G S1 s H1 locs1 → Ext S S1 → W p l e R s m args below meth c H1 locs1 (cells + 0) (slots + 0) Q (F0 m (pc + 3) ls (.int r :: rest))) : W p l e R s m args below meth c H locs cells slots Q (F0 m pc ls (.long p2 :: .int p1 :: .ref a0 :: rest)) :=
  cl_i (rn_V (n := 2) (As := [.int p1, .long p2]) (q := (RX8, TX8, 11)) F hw hl (m_X8_delay l G p1 p2 S a0 hA0 post hQ) 7 (by decide) (by decide) hA0 rfl rfl h1 twi_yX8_delay tws_yX8_delay twn_RX8 two_yX8_delay rfl rfl ⟨rfl, by decide, by decide, by decide +kernel⟩ rfl ⟨hR1, hR2⟩ rfl hrest hdg ⟨hf1, hf2⟩) hw kk
-- X1_hasPressUpTo
def wp_X1_hasPressUpTo (j0 : Nat) (p1 : Int64) (S0 : St) (post : Int32 → St → Prop) : Prop :=
  ((gj S0 1 j0 3) = (-1 : Int64) →
  post (0 : Int32) S0) ∧
  (¬ (gj S0 1 j0 3) = (-1 : Int64) →
  (p1 < (gj S0 1 j0 3) →
  post (0 : Int32) S0) ∧
  (¬ p1 < (gj S0 1 j0 3) →
  post (1 : Int32) S0))
set_option maxRecDepth 100000 in
set_option maxHeartbeats 4000000 in
theorem m_X1_hasPressUpTo (l : Launch) (G : GT) (j0 : Nat) (p1 : Int64) (S0 : St) (a0 : Nat) (hA0 : AtO S0 1 j0 a0) (post : Int32 → St → Prop) (hQ : wp_X1_hasPressUpTo j0 p1 S0 post) : Met l yX1_hasPressUpTo (wM yX1_hasPressUpTo cX1_hasPressUpTo 3 (some (FieldType.boolean))) ({ frames := 0, cells := 0, slots := 0, locals := 0 } : Room) (PC G S0 [.ref a0, .long p1]) (QI G S0 post) 0 0 (QA G) := by
  refine mt_start RX1 (by decide) rfl (Nat.le_of_ble_eq_true rfl) ?_
  intro p e s m args below meth c ls F hr hlk hnm hw hl
  have hx := F.1
  have hb := F.2.1
  have hown := F.2.2.2.1
  have hts := F.2.2.2.2
  have hX : Ext S0 S0 := Ext.rf
  have hsz0 := hw.1.1.1
  have hl : lv_has ls 3 [(0, .ref a0), (1, .long p1)] := hl
  unfold wp_X1_hasPressUpTo at hQ
  refine lv_aload_n hx hb dX1_hasPressUpTo_0 rfl (lv_at hl 0 rfl) ?_
  refine g_1_3 F hw hA0 twf_RX1_21 dX1_hasPressUpTo_1 ?_
  refine lv_ldc2 (v := -1) hx hb hown (hts _ twl_RX1_19) dX1_hasPressUpTo_4 ?_
  refine lc_eq (tgt := 24) F dX1_hasPressUpTo_7 dX1_hasPressUpTo_8 (by decide) (fun hc => ?_) (fun hc => ?_)
  · have hQ := hQ.1 hc
    refine lv_iconst (v := 0) hx hb dX1_hasPressUpTo_24 (by decide) ?_
    exact rt_z F hr hlk hw hX hQ rfl (show 0 ≤ 0 from by omega) (show 0 ≤ 0 from by omega) dX1_hasPressUpTo_25
  · have hQ := hQ.2 hc
    refine lv_aload_n hx hb dX1_hasPressUpTo_11 rfl (lv_at hl 0 rfl) ?_
    refine g_1_3 F hw hA0 twf_RX1_21 dX1_hasPressUpTo_12 ?_
    refine lv_lload_n hx hb dX1_hasPressUpTo_15 rfl (lv_at hl 1 rfl) ?_
    refine lc_gt (tgt := 24) F dX1_hasPressUpTo_16 dX1_hasPressUpTo_17 (by decide) (fun hc => ?_) (fun hc => ?_)
    · have hQ := hQ.1 hc
      refine lv_iconst (v := 0) hx hb dX1_hasPressUpTo_24 (by decide) ?_
      exact rt_z F hr hlk hw hX hQ rfl (show 0 ≤ 0 from by omega) (show 0 ≤ 0 from by omega) dX1_hasPressUpTo_25
    · have hQ := hQ.2 hc
      refine lv_iconst (v := 1) hx hb dX1_hasPressUpTo_20 (by decide) ?_
      refine lv_goto (tgt := 25) hx hb dX1_hasPressUpTo_21 (by decide) ?_
      exact rt_z F hr hlk hw hX hQ rfl (show 0 ≤ 0 from by omega) (show 0 ≤ 0 from by omega) dX1_hasPressUpTo_25
theorem k_X1_hasPressUpTo {p : Program} {l : Launch} {e : Env} {R : Room} {s : State} {m : MethodId} {args : Array Value} {below : List Frame} {meth : Method} {c : Code} {H : Heap} {locs : List Loc} {cells slots : Nat} {Q : State → Prop} {cc : ByteArray} {pc nL : Nat} {ls : Array Slot} {rest : List Value} {G : GT} {S : St} {own : String} {j0 : Nat} {p1 : Int64} {post : Int32 → St → Prop} {lv : List (Nat × Value)} {idx : Nat} (F : CX p m c cc nL s args own) (hw : WW G S s H locs) (hl : lv_has ls nL lv) {a0 : Nat} (hA0 : AtO S 1 j0 a0) (hQ : wp_X1_hasPressUpTo j0 p1 S post) (h1 : Cond.methodLink own idx yX1_hasPressUpTo ∈ wT) (hR1 : 0 + 1 ≤ R.frames) (hR2 : 8 + (3 + 11) + 0 ≤ R.locals) (hrest : (rest.map fun v => v.category).sum ≤ 8) (hdg : decode cc pc = .ok (.invokevirtual idx, 3)) (hf1 : cells + 0 ≤ R.cells) (hf2 : slots + 0 ≤ R.slots)
    (kk : ∀ (r : Int32) (S1 : St) (H1 : Heap) (locs1 : List Loc), post r S1 → WW G S1 s H1 locs1 → Ext S S1 → W p l e R s m args below meth c H1 locs1 (cells + 0) (slots + 0) Q (F0 m (pc + 3) ls (.int r :: rest))) : W p l e R s m args below meth c H locs cells slots Q (F0 m pc ls (.long p1 :: .ref a0 :: rest)) :=
  cl_i (rn_V (n := 1) (As := [.long p1]) (q := (RX1, TX1, 4)) F hw hl (m_X1_hasPressUpTo l G j0 p1 S a0 hA0 post hQ) 1 (by decide) (by decide) hA0 rfl rfl h1 twi_yX1_hasPressUpTo tws_yX1_hasPressUpTo twn_RX1 two_yX1_hasPressUpTo rfl rfl ⟨rfl, by decide, by decide, by decide +kernel⟩ rfl ⟨hR1, hR2⟩ rfl hrest hdg ⟨hf1, hf2⟩) hw kk
-- X8_press
def wp_X8_press (p1 : Int32) (p2 : Int64) (S0 : St) (post : Int32 → St → Prop) : Prop :=
  wp_X8_buyerAt p1 S0 (fun r2 S1 =>
  (r2 = none →
  post (0 : Int32) S1) ∧
  (∀ j3 : Nat, r2 = some j3 →
  (gr S1 4 0 0 = none →
  post (0 : Int32) S1) ∧
  (∀ j5 : Nat, gr S1 4 0 0 = some j5 →
  (¬ (gi S1 4 0 5) = 0 →
  post (0 : Int32) S1) ∧
  ((gi S1 4 0 5) = 0 →
  wp_X8_isWithin p2 (0 : Int64) (20000000 : Int64) S1 (fun r8 S7 =>
  (¬ r8 = 0 →
  ∀ v9 : Int64, v9 = (if (p2 - (gj S7 1 j3 2)) < (0 : Int64) then (0 : Int64) else (p2 - (gj S7 1 j3 2))) →
  ((gj S7 4 0 3) ≤ v9 →
  post (0 : Int32) S7) ∧
  (¬ (gj S7 4 0 3) ≤ v9 →
  wp_X1_hasPressUpTo j3 v9 S7 (fun r12 S11 =>
  (r12 = 0 →
  ∀ S13 : St, S13 = sj S11 1 j3 3 v9 →
  post (1 : Int32) S13) ∧
  (¬ r12 = 0 →
  post (0 : Int32) S11)))) ∧
  (r8 = 0 →
  post (0 : Int32) S7))))))
set_option maxRecDepth 100000 in
set_option maxHeartbeats 4000000 in
theorem m_X8_press (l : Launch) (G : GT) (p1 : Int32) (p2 : Int64) (S0 : St) (a0 : Nat) (hA0 : AtO S0 7 0 a0) (post : Int32 → St → Prop) (hQ : wp_X8_press p1 p2 S0 post) : Met l yX8_press (wM yX8_press cX8_press 7 (some (FieldType.boolean))) ({ frames := 1, cells := 0, slots := 0, locals := 25 } : Room) (PC G S0 [.ref a0, .int p1, .long p2]) (QI G S0 post) 0 0 (QA G) := by
  refine mt_start RX8 (by decide) rfl (Nat.le_of_ble_eq_true rfl) ?_
  intro p e s m args below meth c ls F hr hlk hnm hw hl
  have hx := F.1
  have hb := F.2.1
  have hown := F.2.2.2.1
  have hts := F.2.2.2.2
  have hX : Ext S0 S0 := Ext.rf
  have hsz0 := hw.1.1.1
  have hl : lv_has ls 7 [(0, .ref a0), (1, .int p1), (2, .long p2)] := hl
  unfold wp_X8_press at hQ
  refine lv_aload_n hx hb dX8_press_0 rfl (lv_at hl 0 rfl) ?_
  refine lv_iload_n hx hb dX8_press_1 rfl (lv_at hl 1 rfl) ?_
  refine k_X8_buyerAt F hw hl hA0 hQ twm_RX8_89 (Nat.le_of_ble_eq_true rfl) (Nat.le_of_ble_eq_true rfl) (Nat.le_of_ble_eq_true rfl) dX8_press_2 (show 0 + 0 ≤ 0 from by omega) (show 0 + 0 ≤ 0 from by omega) (fun S1 H locs hQ hw hx1 => ?_) (fun j3 a3 S1 H locs hQ hA3 hw hx1 => ?_)
  · have hQ := hQ.1 rfl
    have hX := hX.trans hx1
    have hA0 := hA0.ext hx1
    refine lv_astoreN (lv' := [(4, .null), (0, .ref a0), (1, .int p1), (2, .long p2)]) hx hb dX8_press_5 hl (by decide) rfl (fun ls hl => ?_)
    refine lv_aloadN hx hb dX8_press_7 (lv_at hl 0 rfl) ?_
    refine lv_ifnullN (tgt := 43) hx hb dX8_press_9 (by decide) ?_
    refine lv_iconst (v := 0) hx hb dX8_press_43 (by decide) ?_
    exact rt_z F hr hlk hw hX hQ rfl (show (0 + 0) ≤ 0 from by omega) (show (0 + 0) ≤ 0 from by omega) dX8_press_44
  · have hQ := hQ.2 j3 rfl
    have hX := hX.trans hx1
    have hA0 := hA0.ext hx1
    refine lv_astore (lv' := [(4, .ref a3), (0, .ref a0), (1, .int p1), (2, .long p2)]) hx hb dX8_press_5 hl (by decide) rfl (fun ls hl => ?_)
    refine lv_aload hx hb dX8_press_7 (lv_at hl 0 rfl) ?_
    refine lv_ifnull hx hb dX8_press_9 ?_
    refine lv_aload_n hx hb dX8_press_12 rfl (lv_at hl 1 rfl) ?_
    refine g_7_3 F hw hA0 twf_RX8_30 dX8_press_13 (fun a4 hA4 => ?_)
    refine g_4_0 F hw hA4 twf_RX8_164 dX8_press_16 (fun hrf => ?_) (fun j5 a5 hrf hA5 => ?_)
    · have hQ := hQ.1 hrf
      refine lv_ifnullN (tgt := 43) hx hb dX8_press_19 (by decide) ?_
      refine lv_iconst (v := 0) hx hb dX8_press_43 (by decide) ?_
      exact rt_z F hr hlk hw hX hQ rfl (show (0 + 0) ≤ 0 from by omega) (show (0 + 0) ≤ 0 from by omega) dX8_press_44
    · have hQ := hQ.2 j5 hrf
      refine lv_ifnull hx hb dX8_press_19 ?_
      refine lv_aload_n hx hb dX8_press_22 rfl (lv_at hl 1 rfl) ?_
      refine g_7_3 F hw hA0 twf_RX8_30 dX8_press_23 (fun a6 hA6 => ?_)
      refine g_4_5 F hw hA6 twf_RX8_188 dX8_press_26 ?_
      refine lv_if_ne (tgt := 43) hx hb dX8_press_29 (by decide) (fun hc => ?_) (fun hc => ?_)
      · have hQ := hQ.1 hc
        refine lv_iconst (v := 0) hx hb dX8_press_43 (by decide) ?_
        exact rt_z F hr hlk hw hX hQ rfl (show (0 + 0) ≤ 0 from by omega) (show (0 + 0) ≤ 0 from by omega) dX8_press_44
      · have hQ := hQ.2 hc
        refine lv_lload_n hx hb dX8_press_32 rfl (lv_at hl 3 rfl) ?_
        refine lv_lconst (v := 0) hx hb dX8_press_33 (by decide) ?_
        refine lv_ldc2 (v := 20000000) hx hb hown (hts _ twl_RX8_191) dX8_press_34 ?_
        refine k_X8_isWithin F hw hl hQ twm_RX8_50 (Nat.le_of_ble_eq_true rfl) (Nat.le_of_ble_eq_true rfl) (Nat.le_of_ble_eq_true rfl) dX8_press_37 (show (0 + 0) + 0 ≤ 0 from by omega) (show (0 + 0) + 0 ≤ 0 from by omega) (fun r8 S7 H locs hQ hw hx1 => ?_)
        have hX := hX.trans hx1
        have hA3 := hA3.ext hx1
        have hA0 := hA0.ext hx1
        refine lv_if_ne (tgt := 45) hx hb dX8_press_40 (by decide) (fun hc => ?_) (fun hc => ?_)
        · have hQ := hQ.1 hc
          refine lv_lconst (v := 0) hx hb dX8_press_45 (by decide) ?_
          refine lv_lload_n hx hb dX8_press_46 rfl (lv_at hl 3 rfl) ?_
          refine lv_aload hx hb dX8_press_47 (lv_at hl 0 rfl) ?_
          refine g_1_2 F hw hA3 twf_RX8_185 dX8_press_49 ?_
          refine lv_lsub hx hb dX8_press_52 ?_
          refine mx_l F hl twm_RX8_193 dX8_press_53 (Nat.le_of_ble_eq_true rfl) (Nat.le_of_ble_eq_true rfl) (show ((0 + 0) + 0) ≤ 0 from by omega) (show ((0 + 0) + 0) ≤ 0 from by omega) ?_
          refine lv_topl (fun v9 ev9 => ?_)
          have hQ := hQ v9 ev9
          refine lv_lstore (lv' := [(5, .long v9), (4, .ref a3), (0, .ref a0), (1, .int p1), (2, .long p2)]) hx hb dX8_press_56 hl (by decide) rfl (fun ls hl => ?_)
          refine lv_lload hx hb dX8_press_58 (lv_at hl 0 rfl) ?_
          refine lv_aload_n hx hb dX8_press_60 rfl (lv_at hl 2 rfl) ?_
          refine g_7_3 F hw hA0 twf_RX8_30 dX8_press_61 (fun a10 hA10 => ?_)
          refine g_4_3 F hw hA10 twf_RX8_198 dX8_press_64 ?_
          refine lc_ge (tgt := 81) F dX8_press_67 dX8_press_68 (by decide) (fun hc => ?_) (fun hc => ?_)
          · have hQ := hQ.1 hc
            refine lv_iconst (v := 0) hx hb dX8_press_81 (by decide) ?_
            exact rt_z F hr hlk hw hX hQ rfl (show ((0 + 0) + 0) ≤ 0 from by omega) (show ((0 + 0) + 0) ≤ 0 from by omega) dX8_press_82
          · have hQ := hQ.2 hc
            refine lv_aload hx hb dX8_press_71 (lv_at hl 1 rfl) ?_
            refine lv_lload hx hb dX8_press_73 (lv_at hl 0 rfl) ?_
            refine k_X1_hasPressUpTo F hw hl hA3 hQ twm_RX8_201 (Nat.le_of_ble_eq_true rfl) (Nat.le_of_ble_eq_true rfl) (Nat.le_of_ble_eq_true rfl) dX8_press_75 (show ((0 + 0) + 0) + 0 ≤ 0 from by omega) (show ((0 + 0) + 0) + 0 ≤ 0 from by omega) (fun r12 S11 H locs hQ hw hx1 => ?_)
            have hX := hX.trans hx1
            have hA3 := hA3.ext hx1
            have hA0 := hA0.ext hx1
            refine lv_if_eq (tgt := 83) hx hb dX8_press_78 (by decide) (fun hc => ?_) (fun hc => ?_)
            · have hQ := hQ.1 hc
              refine lv_aload hx hb dX8_press_83 (lv_at hl 1 rfl) ?_
              refine lv_lload hx hb dX8_press_85 (lv_at hl 0 rfl) ?_
              refine p_1_3 F hw hA3 twf_RX8_205 dX8_press_87 (fun S13 H locs eS13 hw hx1 => ?_)
              have hQ := hQ S13 eS13
              have hX := hX.trans hx1
              have hA3 := hA3.ext hx1
              have hA0 := hA0.ext hx1
              refine lv_iconst (v := 1) hx hb dX8_press_90 (by decide) ?_
              exact rt_z F hr hlk hw hX hQ rfl (show (((0 + 0) + 0) + 0) ≤ 0 from by omega) (show (((0 + 0) + 0) + 0) ≤ 0 from by omega) dX8_press_91
            · have hQ := hQ.2 hc
              refine lv_iconst (v := 0) hx hb dX8_press_81 (by decide) ?_
              exact rt_z F hr hlk hw hX hQ rfl (show (((0 + 0) + 0) + 0) ≤ 0 from by omega) (show (((0 + 0) + 0) + 0) ≤ 0 from by omega) dX8_press_82
        · have hQ := hQ.2 hc
          refine lv_iconst (v := 0) hx hb dX8_press_43 (by decide) ?_
          exact rt_z F hr hlk hw hX hQ rfl (show ((0 + 0) + 0) ≤ 0 from by omega) (show ((0 + 0) + 0) ≤ 0 from by omega) dX8_press_44
theorem k_X8_press {p : Program} {l : Launch} {e : Env} {R : Room} {s : State} {m : MethodId} {args : Array Value} {below : List Frame} {meth : Method} {c : Code} {H : Heap} {locs : List Loc} {cells slots : Nat} {Q : State → Prop} {cc : ByteArray} {pc nL : Nat} {ls : Array Slot} {rest : List Value} {G : GT} {S : St} {own : String} {p1 : Int32} {p2 : Int64} {post : Int32 → St → Prop} {lv : List (Nat × Value)} {idx : Nat} (F : CX p m c cc nL s args own) (hw : WW G S s H locs) (hl : lv_has ls nL lv) {a0 : Nat} (hA0 : AtO S 7 0 a0) (hQ : wp_X8_press p1 p2 S post) (h1 : Cond.methodLink own idx yX8_press ∈ wT) (hR1 : 1 + 1 ≤ R.frames) (hR2 : 8 + (7 + 11) + 25 ≤ R.locals) (hrest : (rest.map fun v => v.category).sum ≤ 8) (hdg : decode cc pc = .ok (.invokevirtual idx, 3)) (hf1 : cells + 0 ≤ R.cells) (hf2 : slots + 0 ≤ R.slots)
    (kk : ∀ (r : Int32) (S1 : St) (H1 : Heap) (locs1 : List Loc), post r S1 → WW G S1 s H1 locs1 → Ext S S1 → W p l e R s m args below meth c H1 locs1 (cells + 0) (slots + 0) Q (F0 m (pc + 3) ls (.int r :: rest))) : W p l e R s m args below meth c H locs cells slots Q (F0 m pc ls (.long p2 :: .int p1 :: .ref a0 :: rest)) :=
  cl_i (rn_V (n := 2) (As := [.int p1, .long p2]) (q := (RX8, TX8, 11)) F hw hl (m_X8_press l G p1 p2 S a0 hA0 post hQ) 7 (by decide) (by decide) hA0 rfl rfl h1 twi_yX8_press tws_yX8_press twn_RX8 two_yX8_press rfl rfl ⟨rfl, by decide, by decide, by decide +kernel⟩ rfl ⟨hR1, hR2⟩ rfl hrest hdg ⟨hf1, hf2⟩) hw kk
-- X4_goOn
def wp_X4_goOn (p1 : Int64) (S0 : St) (post : St → Prop) : Prop :=
  ∀ S1 : St, S1 = sj S0 4 0 4 (if (gj S0 4 0 3) < ((gj S0 4 0 4) + p1) then (gj S0 4 0 3) else ((gj S0 4 0 4) + p1)) →
  post S1
set_option maxRecDepth 100000 in
set_option maxHeartbeats 4000000 in
theorem m_X4_goOn (l : Launch) (G : GT) (p1 : Int64) (S0 : St) (a0 : Nat) (hA0 : AtO S0 4 0 a0) (post : St → Prop) (hQ : wp_X4_goOn p1 S0 post) : Met l yX4_goOn (wM yX4_goOn cX4_goOn 3 none) ({ frames := 1, cells := 0, slots := 0, locals := 17 } : Room) (PC G S0 [.ref a0, .long p1]) (QV G S0 post) 0 0 (QA G) := by
  refine mt_start RX4 (by decide) rfl (Nat.le_of_ble_eq_true rfl) ?_
  intro p e s m args below meth c ls F hr hlk hnm hw hl
  have hx := F.1
  have hb := F.2.1
  have hown := F.2.2.2.1
  have hts := F.2.2.2.2
  have hX : Ext S0 S0 := Ext.rf
  have hsz0 := hw.1.1.1
  have hl : lv_has ls 3 [(0, .ref a0), (1, .long p1)] := hl
  unfold wp_X4_goOn at hQ
  refine lv_aload_n hx hb dX4_goOn_0 rfl (lv_at hl 0 rfl) ?_
  refine lv_aload_n hx hb dX4_goOn_1 rfl (lv_at hl 0 rfl) ?_
  refine g_4_4 F hw hA0 twf_RX4_25 dX4_goOn_2 ?_
  refine lv_lload_n hx hb dX4_goOn_5 rfl (lv_at hl 1 rfl) ?_
  refine lv_ladd hx hb dX4_goOn_6 ?_
  refine lv_aload_n hx hb dX4_goOn_7 rfl (lv_at hl 0 rfl) ?_
  refine g_4_3 F hw hA0 twf_RX4_22 dX4_goOn_8 ?_
  refine mn_l F hl twm_RX4_32 dX4_goOn_11 (Nat.le_of_ble_eq_true rfl) (Nat.le_of_ble_eq_true rfl) (show 0 ≤ 0 from by omega) (show 0 ≤ 0 from by omega) ?_
  refine p_4_4 F hw hA0 twf_RX4_25 dX4_goOn_14 (fun S1 H locs eS1 hw hx1 => ?_)
  have hQ := hQ S1 eS1
  have hX := hX.trans hx1
  have hA0 := hA0.ext hx1
  exact rt_v F hr hlk hw hX hQ (show 0 ≤ 0 from by omega) (show 0 ≤ 0 from by omega) dX4_goOn_17
theorem k_X4_goOn {p : Program} {l : Launch} {e : Env} {R : Room} {s : State} {m : MethodId} {args : Array Value} {below : List Frame} {meth : Method} {c : Code} {H : Heap} {locs : List Loc} {cells slots : Nat} {Q : State → Prop} {cc : ByteArray} {pc nL : Nat} {ls : Array Slot} {rest : List Value} {G : GT} {S : St} {own : String} {p1 : Int64} {post : St → Prop} {lv : List (Nat × Value)} {idx : Nat} (F : CX p m c cc nL s args own) (hw : WW G S s H locs) (hl : lv_has ls nL lv) {a0 : Nat} (hA0 : AtO S 4 0 a0) (hQ : wp_X4_goOn p1 S post) (h1 : Cond.methodLink own idx yX4_goOn ∈ wT) (hR1 : 1 + 1 ≤ R.frames) (hR2 : 8 + (3 + 11) + 17 ≤ R.locals) (hrest : (rest.map fun v => v.category).sum ≤ 8) (hdg : decode cc pc = .ok (.invokevirtual idx, 3)) (hf1 : cells + 0 ≤ R.cells) (hf2 : slots + 0 ≤ R.slots)
    (kk : ∀ (S1 : St) (H1 : Heap) (locs1 : List Loc), post S1 → WW G S1 s H1 locs1 → Ext S S1 → W p l e R s m args below meth c H1 locs1 (cells + 0) (slots + 0) Q (F0 m (pc + 3) ls rest)) : W p l e R s m args below meth c H locs cells slots Q (F0 m pc ls (.long p1 :: .ref a0 :: rest)) :=
  cl_v (rn_V (n := 1) (As := [.long p1]) (q := (RX4, TX4, 6)) F hw hl (m_X4_goOn l G p1 S a0 hA0 post hQ) 4 (by decide) (by decide) hA0 rfl rfl h1 twi_yX4_goOn tws_yX4_goOn twn_RX4 two_yX4_goOn rfl rfl ⟨rfl, by decide, by decide, by decide +kernel⟩ rfl ⟨hR1, hR2⟩ rfl hrest hdg ⟨hf1, hf2⟩) hw kk
-- X4_priceAt
def wp_X4_priceAt (p1 : Int64) (S0 : St) (post : Int64 → St → Prop) : Prop :=
  post ((gj S0 4 0 1) - ((gj S0 4 0 2) * (p1 / (100 : Int64)))) S0
set_option maxRecDepth 100000 in
set_option maxHeartbeats 4000000 in
theorem m_X4_priceAt (l : Launch) (G : GT) (p1 : Int64) (S0 : St) (a0 : Nat) (hA0 : AtO S0 4 0 a0) (post : Int64 → St → Prop) (hQ : wp_X4_priceAt p1 S0 post) : Met l yX4_priceAt (wM yX4_priceAt cX4_priceAt 3 (some (FieldType.long))) ({ frames := 0, cells := 0, slots := 0, locals := 0 } : Room) (PC G S0 [.ref a0, .long p1]) (QJ G S0 post) 0 0 (QA G) := by
  refine mt_start RX4 (by decide) rfl (Nat.le_of_ble_eq_true rfl) ?_
  intro p e s m args below meth c ls F hr hlk hnm hw hl
  have hx := F.1
  have hb := F.2.1
  have hown := F.2.2.2.1
  have hts := F.2.2.2.2
  have hX : Ext S0 S0 := Ext.rf
  have hsz0 := hw.1.1.1
  have hl : lv_has ls 3 [(0, .ref a0), (1, .long p1)] := hl
  unfold wp_X4_priceAt at hQ
  refine lv_aload_n hx hb dX4_priceAt_0 rfl (lv_at hl 0 rfl) ?_
  refine g_4_1 F hw hA0 twf_RX4_15 dX4_priceAt_1 ?_
  refine lv_aload_n hx hb dX4_priceAt_4 rfl (lv_at hl 0 rfl) ?_
  refine g_4_2 F hw hA0 twf_RX4_19 dX4_priceAt_5 ?_
  refine lv_lload_n hx hb dX4_priceAt_8 rfl (lv_at hl 1 rfl) ?_
  refine lv_ldc2 (v := 100) hx hb hown (hts _ twl_RX4_7) dX4_priceAt_9 ?_
  refine lv_ldiv hx hb dX4_priceAt_12 (by decide) ?_
  refine lv_lmul hx hb dX4_priceAt_13 ?_
  refine lv_lsub hx hb dX4_priceAt_14 ?_
  exact rt_l F hr hlk hw hX hQ (show 0 ≤ 0 from by omega) (show 0 ≤ 0 from by omega) dX4_priceAt_15
theorem k_X4_priceAt {p : Program} {l : Launch} {e : Env} {R : Room} {s : State} {m : MethodId} {args : Array Value} {below : List Frame} {meth : Method} {c : Code} {H : Heap} {locs : List Loc} {cells slots : Nat} {Q : State → Prop} {cc : ByteArray} {pc nL : Nat} {ls : Array Slot} {rest : List Value} {G : GT} {S : St} {own : String} {p1 : Int64} {post : Int64 → St → Prop} {lv : List (Nat × Value)} {idx : Nat} (F : CX p m c cc nL s args own) (hw : WW G S s H locs) (hl : lv_has ls nL lv) {a0 : Nat} (hA0 : AtO S 4 0 a0) (hQ : wp_X4_priceAt p1 S post) (h1 : Cond.methodLink own idx yX4_priceAt ∈ wT) (hR1 : 0 + 1 ≤ R.frames) (hR2 : 8 + (3 + 11) + 0 ≤ R.locals) (hrest : (rest.map fun v => v.category).sum ≤ 8) (hdg : decode cc pc = .ok (.invokevirtual idx, 3)) (hf1 : cells + 0 ≤ R.cells) (hf2 : slots + 0 ≤ R.slots)
    (kk : ∀ (r : Int64) (S1 : St) (H1 : Heap) (locs1 : List Loc), post r S1 → WW G S1 s H1 locs1 → Ext S S1 → W p l e R s m args below meth c H1 locs1 (cells + 0) (slots + 0) Q (F0 m (pc + 3) ls (.long r :: rest))) : W p l e R s m args below meth c H locs cells slots Q (F0 m pc ls (.long p1 :: .ref a0 :: rest)) :=
  cl_l (rn_V (n := 1) (As := [.long p1]) (q := (RX4, TX4, 6)) F hw hl (m_X4_priceAt l G p1 S a0 hA0 post hQ) 4 (by decide) (by decide) hA0 rfl rfl h1 twi_yX4_priceAt tws_yX4_priceAt twn_RX4 two_yX4_priceAt rfl rfl ⟨rfl, by decide, by decide, by decide +kernel⟩ rfl ⟨hR1, hR2⟩ rfl hrest hdg ⟨hf1, hf2⟩) hw kk
-- X1_dropPress
def wp_X1_dropPress (j0 : Nat) (S0 : St) (post : St → Prop) : Prop :=
  ∀ S1 : St, S1 = sj S0 1 j0 3 (-1 : Int64) →
  post S1
set_option maxRecDepth 100000 in
set_option maxHeartbeats 4000000 in
theorem m_X1_dropPress (l : Launch) (G : GT) (j0 : Nat) (S0 : St) (a0 : Nat) (hA0 : AtO S0 1 j0 a0) (post : St → Prop) (hQ : wp_X1_dropPress j0 S0 post) : Met l yX1_dropPress (wM yX1_dropPress cX1_dropPress 1 none) ({ frames := 0, cells := 0, slots := 0, locals := 0 } : Room) (PC G S0 [.ref a0]) (QV G S0 post) 0 0 (QA G) := by
  refine mt_start RX1 (by decide) rfl (Nat.le_of_ble_eq_true rfl) ?_
  intro p e s m args below meth c ls F hr hlk hnm hw hl
  have hx := F.1
  have hb := F.2.1
  have hown := F.2.2.2.1
  have hts := F.2.2.2.2
  have hX : Ext S0 S0 := Ext.rf
  have hsz0 := hw.1.1.1
  have hl : lv_has ls 1 [(0, .ref a0)] := hl
  unfold wp_X1_dropPress at hQ
  refine lv_aload_n hx hb dX1_dropPress_0 rfl (lv_at hl 0 rfl) ?_
  refine lv_ldc2 (v := -1) hx hb hown (hts _ twl_RX1_19) dX1_dropPress_1 ?_
  refine p_1_3 F hw hA0 twf_RX1_21 dX1_dropPress_4 (fun S1 H locs eS1 hw hx1 => ?_)
  have hQ := hQ S1 eS1
  have hX := hX.trans hx1
  have hA0 := hA0.ext hx1
  exact rt_v F hr hlk hw hX hQ (show 0 ≤ 0 from by omega) (show 0 ≤ 0 from by omega) dX1_dropPress_7
theorem k_X1_dropPress {p : Program} {l : Launch} {e : Env} {R : Room} {s : State} {m : MethodId} {args : Array Value} {below : List Frame} {meth : Method} {c : Code} {H : Heap} {locs : List Loc} {cells slots : Nat} {Q : State → Prop} {cc : ByteArray} {pc nL : Nat} {ls : Array Slot} {rest : List Value} {G : GT} {S : St} {own : String} {j0 : Nat} {post : St → Prop} {lv : List (Nat × Value)} {idx : Nat} (F : CX p m c cc nL s args own) (hw : WW G S s H locs) (hl : lv_has ls nL lv) {a0 : Nat} (hA0 : AtO S 1 j0 a0) (hQ : wp_X1_dropPress j0 S post) (h1 : Cond.methodLink own idx yX1_dropPress ∈ wT) (hR1 : 0 + 1 ≤ R.frames) (hR2 : 8 + (1 + 11) + 0 ≤ R.locals) (hrest : (rest.map fun v => v.category).sum ≤ 8) (hdg : decode cc pc = .ok (.invokevirtual idx, 3)) (hf1 : cells + 0 ≤ R.cells) (hf2 : slots + 0 ≤ R.slots)
    (kk : ∀ (S1 : St) (H1 : Heap) (locs1 : List Loc), post S1 → WW G S1 s H1 locs1 → Ext S S1 → W p l e R s m args below meth c H1 locs1 (cells + 0) (slots + 0) Q (F0 m (pc + 3) ls rest)) : W p l e R s m args below meth c H locs cells slots Q (F0 m pc ls (.ref a0 :: rest)) :=
  cl_v (rn_V (n := 0) (As := []) (q := (RX1, TX1, 4)) F hw hl (m_X1_dropPress l G j0 S a0 hA0 post hQ) 1 (by decide) (by decide) hA0 rfl rfl h1 twi_yX1_dropPress tws_yX1_dropPress twn_RX1 two_yX1_dropPress rfl rfl ⟨rfl, by decide, by decide, by decide +kernel⟩ rfl ⟨hR1, hR2⟩ rfl hrest hdg ⟨hf1, hf2⟩) hw kk
-- X8_dropPressesThatCannotPay
def bd_X8_dropPressesThatCannotPay_2 (post : St → Prop) (K2 : Int32 → St → Prop) (x1_2 : Int32) (S1 : St) : Prop :=
  ((gi S1 7 0 7) ≤ x1_2 →
  post S1) ∧
  (¬ (gi S1 7 0 7) ≤ x1_2 →
  wp_X8_buyerAt x1_2 S1 (fun r3 S2 =>
  (r3 = none →
  ∀ v5 : Int32, v5 = x1_2 + (1 : Int32) →
  K2 v5 S2) ∧
  (∀ j4 : Nat, r3 = some j4 →
  wp_X1_hasPressUpTo j4 (gj S2 4 0 4) S2 (fun r8 S7 =>
  (r8 = 0 →
  ∀ v9 : Int32, v9 = x1_2 + (1 : Int32) →
  K2 v9 S7) ∧
  (¬ r8 = 0 →
  wp_X4_priceAt (gj S7 1 j4 3) S7 (fun r12 S11 =>
  wp_X8_freeOf j4 S11 (fun r14 S13 =>
  (r12 ≤ r14 →
  ∀ v15 : Int32, v15 = x1_2 + (1 : Int32) →
  K2 v15 S13) ∧
  (¬ r12 ≤ r14 →
  wp_X1_dropPress j4 S13 (fun S16 =>
  ∀ v17 : Int32, v17 = x1_2 + (1 : Int32) →
  K2 v17 S16)))))))))
def lp_X8_dropPressesThatCannotPay_2 (post : St → Prop) : Nat → Int32 → St → Prop
  | 0, _, _ => False
  | n + 1, x1_2, S1 => bd_X8_dropPressesThatCannotPay_2 post (fun x1_2 S1 => lp_X8_dropPressesThatCannotPay_2 post n x1_2 S1) x1_2 S1
def wp_X8_dropPressesThatCannotPay  (S0 : St) (post : St → Prop) : Prop :=
  ∃ n : Nat, lp_X8_dropPressesThatCannotPay_2 post n (0 : Int32) S0
set_option maxRecDepth 100000 in
set_option maxHeartbeats 4000000 in
theorem m_X8_dropPressesThatCannotPay (l : Launch) (G : GT)  (S0 : St) (a0 : Nat) (hA0 : AtO S0 7 0 a0) (post : St → Prop) (hQ : wp_X8_dropPressesThatCannotPay S0 post) : Met l yX8_dropPressesThatCannotPay (wM yX8_dropPressesThatCannotPay cX8_dropPressesThatCannotPay 3 none) ({ frames := 2, cells := 0, slots := 0, locals := 46 } : Room) (PC G S0 [.ref a0]) (QV G S0 post) 0 0 (QA G) := by
  refine mt_start RX8 (by decide) rfl (Nat.le_of_ble_eq_true rfl) ?_
  intro p e s m args below meth c ls F hr hlk hnm hw hl
  have hx := F.1
  have hb := F.2.1
  have hown := F.2.2.2.1
  have hts := F.2.2.2.2
  have hX : Ext S0 S0 := Ext.rf
  have hsz0 := hw.1.1.1
  have hl : lv_has ls 3 [(0, .ref a0)] := hl
  unfold wp_X8_dropPressesThatCannotPay at hQ
  refine lv_iconst (v := 0) hx hb dX8_dropPressesThatCannotPay_0 (by decide) ?_
  refine lv_istore_n (lv' := [(1, .int (0 : Int32)), (0, .ref a0)]) hx hb dX8_dropPressesThatCannotPay_1 rfl hl (by decide) rfl (fun ls hl => ?_)
  have hloop2 : ∀ (n2 : Nat) (x1_2 : Int32) (S1 : St) (H : Heap) (locs : List Loc) (ls : Array Slot) (cl2 sl2 : Nat), lp_X8_dropPressesThatCannotPay_2 post n2 x1_2 S1 → WW G S1 s H locs → Ext S0 S1 → AtO S1 7 0 a0 → lv_has ls 3 [(1, .int x1_2), (0, .ref a0)] → cl2 ≤ 0 + 0 → sl2 ≤ 0 + 0 → W p l e ({ frames := 2, cells := 0, slots := 0, locals := 46 } : Room) s m args below meth c H locs cl2 sl2 (MQ below (QV G S0 post) args s 0 0 (QA G)) (F0 m 2 ls []) := by
    intro n2
    induction n2 with
    | zero => intro x1_2 S1 H locs ls cl sl hQ; exact False.elim hQ
    | succ n2 ih2 =>
      intro x1_2 S1 H locs ls cl2 sl2 hQ hw hX hA0 hl hcl2 hsl2
      have hQ : bd_X8_dropPressesThatCannotPay_2 post (fun x1_2 S1 => lp_X8_dropPressesThatCannotPay_2 post n2 x1_2 S1) x1_2 S1 := hQ
      unfold bd_X8_dropPressesThatCannotPay_2 at hQ
      refine lv_iload_n hx hb dX8_dropPressesThatCannotPay_2 rfl (lv_at hl 0 rfl) ?_
      refine lv_aload_n hx hb dX8_dropPressesThatCannotPay_3 rfl (lv_at hl 1 rfl) ?_
      refine g_7_7 F hw hA0 twf_RX8_60 dX8_dropPressesThatCannotPay_4 ?_
      refine lv_icmp_ge (tgt := 64) hx hb dX8_dropPressesThatCannotPay_7 (by decide) (fun hc => ?_) (fun hc => ?_)
      · have hQ := hQ.1 hc
        exact rt_v F hr hlk hw hX hQ (show cl2 ≤ 0 from by omega) (show sl2 ≤ 0 from by omega) dX8_dropPressesThatCannotPay_64
      · have hQ := hQ.2 hc
        refine lv_aload_n hx hb dX8_dropPressesThatCannotPay_10 rfl (lv_at hl 1 rfl) ?_
        refine lv_iload_n hx hb dX8_dropPressesThatCannotPay_11 rfl (lv_at hl 0 rfl) ?_
        refine k_X8_buyerAt F hw hl hA0 hQ twm_RX8_89 (Nat.le_of_ble_eq_true rfl) (Nat.le_of_ble_eq_true rfl) (Nat.le_of_ble_eq_true rfl) dX8_dropPressesThatCannotPay_12 (show cl2 + 0 ≤ 0 from by omega) (show sl2 + 0 ≤ 0 from by omega) (fun S2 H locs hQ hw hx1 => ?_) (fun j4 a4 S2 H locs hQ hA4 hw hx1 => ?_)
        · have hQ := hQ.1 rfl
          have hX := hX.trans hx1
          have hA0 := hA0.ext hx1
          refine lv_astore_nN (lv' := [(2, .null), (1, .int x1_2), (0, .ref a0)]) hx hb dX8_dropPressesThatCannotPay_15 rfl hl (by decide) rfl (fun ls hl => ?_)
          refine lv_aload_nN hx hb dX8_dropPressesThatCannotPay_16 rfl (lv_at hl 0 rfl) ?_
          refine lv_ifnullN (tgt := 58) hx hb dX8_dropPressesThatCannotPay_17 (by decide) ?_
          obtain ⟨v5, ev5⟩ : ∃ y : Int32, y = x1_2 + (1 : Int32) := ⟨_, rfl⟩
          have hQ := hQ v5 ev5
          refine lv_iinc (v := v5) (lv' := [(1, .int v5), (2, .null), (0, .ref a0)]) hx hb dX8_dropPressesThatCannotPay_58 hl (k := 1) rfl (by rw [ev5]; rfl) (by decide) rfl (fun ls hl => ?_)
          refine lv_goto (tgt := 2) hx hb dX8_dropPressesThatCannotPay_61 (by decide) ?_
          exact ih2 v5 S2 _ _ _ _ _ hQ hw hX hA0 (lv_sub hl [0, 2] rfl) (by omega) (by omega)
        · have hQ := hQ.2 j4 rfl
          have hX := hX.trans hx1
          have hA0 := hA0.ext hx1
          refine lv_astore_n (lv' := [(2, .ref a4), (1, .int x1_2), (0, .ref a0)]) hx hb dX8_dropPressesThatCannotPay_15 rfl hl (by decide) rfl (fun ls hl => ?_)
          refine lv_aload_n hx hb dX8_dropPressesThatCannotPay_16 rfl (lv_at hl 0 rfl) ?_
          refine lv_ifnull hx hb dX8_dropPressesThatCannotPay_17 ?_
          refine lv_aload_n hx hb dX8_dropPressesThatCannotPay_20 rfl (lv_at hl 0 rfl) ?_
          refine lv_aload_n hx hb dX8_dropPressesThatCannotPay_21 rfl (lv_at hl 2 rfl) ?_
          refine g_7_3 F hw hA0 twf_RX8_30 dX8_dropPressesThatCannotPay_22 (fun a6 hA6 => ?_)
          refine g_4_4 F hw hA6 twf_RX8_218 dX8_dropPressesThatCannotPay_25 ?_
          refine k_X1_hasPressUpTo F hw hl hA4 hQ twm_RX8_201 (Nat.le_of_ble_eq_true rfl) (Nat.le_of_ble_eq_true rfl) (Nat.le_of_ble_eq_true rfl) dX8_dropPressesThatCannotPay_28 (show (cl2 + 0) + 0 ≤ 0 from by omega) (show (sl2 + 0) + 0 ≤ 0 from by omega) (fun r8 S7 H locs hQ hw hx1 => ?_)
          have hX := hX.trans hx1
          have hA4 := hA4.ext hx1
          have hA0 := hA0.ext hx1
          refine lv_if_eq (tgt := 58) hx hb dX8_dropPressesThatCannotPay_31 (by decide) (fun hc => ?_) (fun hc => ?_)
          · have hQ := hQ.1 hc
            obtain ⟨v9, ev9⟩ : ∃ y : Int32, y = x1_2 + (1 : Int32) := ⟨_, rfl⟩
            have hQ := hQ v9 ev9
            refine lv_iinc (v := v9) (lv' := [(1, .int v9), (2, .ref a4), (0, .ref a0)]) hx hb dX8_dropPressesThatCannotPay_58 hl (k := 1) rfl (by rw [ev9]; rfl) (by decide) rfl (fun ls hl => ?_)
            refine lv_goto (tgt := 2) hx hb dX8_dropPressesThatCannotPay_61 (by decide) ?_
            exact ih2 v9 S7 _ _ _ _ _ hQ hw hX hA0 (lv_sub hl [0, 2] rfl) (by omega) (by omega)
          · have hQ := hQ.2 hc
            refine lv_aload_n hx hb dX8_dropPressesThatCannotPay_34 rfl (lv_at hl 2 rfl) ?_
            refine g_7_3 F hw hA0 twf_RX8_30 dX8_dropPressesThatCannotPay_35 (fun a10 hA10 => ?_)
            refine lv_aload_n hx hb dX8_dropPressesThatCannotPay_38 rfl (lv_at hl 0 rfl) ?_
            refine g_1_3 F hw hA4 twf_RX8_205 dX8_dropPressesThatCannotPay_39 ?_
            refine k_X4_priceAt F hw hl hA10 hQ twm_RX8_228 (Nat.le_of_ble_eq_true rfl) (Nat.le_of_ble_eq_true rfl) (Nat.le_of_ble_eq_true rfl) dX8_dropPressesThatCannotPay_42 (show ((cl2 + 0) + 0) + 0 ≤ 0 from by omega) (show ((sl2 + 0) + 0) + 0 ≤ 0 from by omega) (fun r12 S11 H locs hQ hw hx1 => ?_)
            have hX := hX.trans hx1
            have hA4 := hA4.ext hx1
            have hA0 := hA0.ext hx1
            refine lv_aload_n hx hb dX8_dropPressesThatCannotPay_45 rfl (lv_at hl 2 rfl) ?_
            refine lv_aload_n hx hb dX8_dropPressesThatCannotPay_46 rfl (lv_at hl 0 rfl) ?_
            refine k_X8_freeOf F hw hl hA0 hA4 hQ twm_RX8_96 (Nat.le_of_ble_eq_true rfl) (Nat.le_of_ble_eq_true rfl) (Nat.le_of_ble_eq_true rfl) dX8_dropPressesThatCannotPay_47 (show (((cl2 + 0) + 0) + 0) + 0 ≤ 0 from by omega) (show (((sl2 + 0) + 0) + 0) + 0 ≤ 0 from by omega) (fun r14 S13 H locs hQ hw hx1 => ?_)
            have hX := hX.trans hx1
            have hA4 := hA4.ext hx1
            have hA0 := hA0.ext hx1
            refine lc_le (tgt := 58) F dX8_dropPressesThatCannotPay_50 dX8_dropPressesThatCannotPay_51 (by decide) (fun hc => ?_) (fun hc => ?_)
            · have hQ := hQ.1 hc
              obtain ⟨v15, ev15⟩ : ∃ y : Int32, y = x1_2 + (1 : Int32) := ⟨_, rfl⟩
              have hQ := hQ v15 ev15
              refine lv_iinc (v := v15) (lv' := [(1, .int v15), (2, .ref a4), (0, .ref a0)]) hx hb dX8_dropPressesThatCannotPay_58 hl (k := 1) rfl (by rw [ev15]; rfl) (by decide) rfl (fun ls hl => ?_)
              refine lv_goto (tgt := 2) hx hb dX8_dropPressesThatCannotPay_61 (by decide) ?_
              exact ih2 v15 S13 _ _ _ _ _ hQ hw hX hA0 (lv_sub hl [0, 2] rfl) (by omega) (by omega)
            · have hQ := hQ.2 hc
              refine lv_aload_n hx hb dX8_dropPressesThatCannotPay_54 rfl (lv_at hl 0 rfl) ?_
              refine k_X1_dropPress F hw hl hA4 hQ twm_RX8_384 (Nat.le_of_ble_eq_true rfl) (Nat.le_of_ble_eq_true rfl) (Nat.le_of_ble_eq_true rfl) dX8_dropPressesThatCannotPay_55 (show ((((cl2 + 0) + 0) + 0) + 0) + 0 ≤ 0 from by omega) (show ((((sl2 + 0) + 0) + 0) + 0) + 0 ≤ 0 from by omega) (fun S16 H locs hQ hw hx1 => ?_)
              have hX := hX.trans hx1
              have hA4 := hA4.ext hx1
              have hA0 := hA0.ext hx1
              obtain ⟨v17, ev17⟩ : ∃ y : Int32, y = x1_2 + (1 : Int32) := ⟨_, rfl⟩
              have hQ := hQ v17 ev17
              refine lv_iinc (v := v17) (lv' := [(1, .int v17), (2, .ref a4), (0, .ref a0)]) hx hb dX8_dropPressesThatCannotPay_58 hl (k := 1) rfl (by rw [ev17]; rfl) (by decide) rfl (fun ls hl => ?_)
              refine lv_goto (tgt := 2) hx hb dX8_dropPressesThatCannotPay_61 (by decide) ?_
              exact ih2 v17 S16 _ _ _ _ _ hQ hw hX hA0 (lv_sub hl [0, 2] rfl) (by omega) (by omega)
  obtain ⟨n, hQ⟩ := hQ
  exact hloop2 n (0 : Int32) S0 _ _ _ _ _ hQ hw hX hA0 (lv_sub hl [0, 1] rfl) (by omega) (by omega)
theorem k_X8_dropPressesThatCannotPay {p : Program} {l : Launch} {e : Env} {R : Room} {s : State} {m : MethodId} {args : Array Value} {below : List Frame} {meth : Method} {c : Code} {H : Heap} {locs : List Loc} {cells slots : Nat} {Q : State → Prop} {cc : ByteArray} {pc nL : Nat} {ls : Array Slot} {rest : List Value} {G : GT} {S : St} {own : String}  {post : St → Prop} {lv : List (Nat × Value)} {idx : Nat} (F : CX p m c cc nL s args own) (hw : WW G S s H locs) (hl : lv_has ls nL lv) {a0 : Nat} (hA0 : AtO S 7 0 a0) (hQ : wp_X8_dropPressesThatCannotPay S post) (h1 : Cond.methodLink own idx yX8_dropPressesThatCannotPay ∈ wT) (hR1 : 2 + 1 ≤ R.frames) (hR2 : 8 + (3 + 11) + 46 ≤ R.locals) (hrest : (rest.map fun v => v.category).sum ≤ 8) (hdg : decode cc pc = .ok (.invokevirtual idx, 3)) (hf1 : cells + 0 ≤ R.cells) (hf2 : slots + 0 ≤ R.slots)
    (kk : ∀ (S1 : St) (H1 : Heap) (locs1 : List Loc), post S1 → WW G S1 s H1 locs1 → Ext S S1 → W p l e R s m args below meth c H1 locs1 (cells + 0) (slots + 0) Q (F0 m (pc + 3) ls rest)) : W p l e R s m args below meth c H locs cells slots Q (F0 m pc ls (.ref a0 :: rest)) :=
  cl_v (rn_V (n := 0) (As := []) (q := (RX8, TX8, 11)) F hw hl (m_X8_dropPressesThatCannotPay l G  S a0 hA0 post hQ) 7 (by decide) (by decide) hA0 rfl rfl h1 twi_yX8_dropPressesThatCannotPay tws_yX8_dropPressesThatCannotPay twn_RX8 two_yX8_dropPressesThatCannotPay rfl rfl ⟨rfl, by decide, by decide, by decide +kernel⟩ rfl ⟨hR1, hR2⟩ rfl hrest hdg ⟨hf1, hf2⟩) hw kk
-- X8_firstDuePress
def bd_X8_firstDuePress_4 (post : Option Nat → St → Prop) (K4 : Int32 → Option Nat → St → Prop) (x2_4 : Int32) (x1_4 : Option Nat) (S1 : St) : Prop :=
  (x1_4 = none →
  ((gi S1 7 0 7) ≤ x2_4 →
  post none S1) ∧
  (¬ (gi S1 7 0 7) ≤ x2_4 →
  wp_X8_buyerAt x2_4 S1 (fun r4 S3 =>
  (r4 = none →
  ∀ v6 : Int32, v6 = x2_4 + (1 : Int32) →
  K4 v6 none S3) ∧
  (∀ j5 : Nat, r4 = some j5 →
  wp_X1_hasPressUpTo j5 (gj S3 4 0 4) S3 (fun r9 S8 =>
  (r9 = 0 →
  ∀ v10 : Int32, v10 = x2_4 + (1 : Int32) →
  K4 v10 none S8) ∧
  (¬ r9 = 0 →
  ∀ v11 : Int32, v11 = x2_4 + (1 : Int32) →
  K4 v11 (some j5) S8)))))) ∧
  (∀ j2 : Nat, x1_4 = some j2 →
  ((gi S1 7 0 7) ≤ x2_4 →
  post (some j2) S1) ∧
  (¬ (gi S1 7 0 7) ≤ x2_4 →
  wp_X8_buyerAt x2_4 S1 (fun r13 S12 =>
  (r13 = none →
  ∀ v15 : Int32, v15 = x2_4 + (1 : Int32) →
  K4 v15 (some j2) S12) ∧
  (∀ j14 : Nat, r13 = some j14 →
  wp_X1_hasPressUpTo j14 (gj S12 4 0 4) S12 (fun r18 S17 =>
  (r18 = 0 →
  ∀ v19 : Int32, v19 = x2_4 + (1 : Int32) →
  K4 v19 (some j2) S17) ∧
  (¬ r18 = 0 →
  ((gj S17 1 j2 3) ≤ (gj S17 1 j14 3) →
  ∀ v20 : Int32, v20 = x2_4 + (1 : Int32) →
  K4 v20 (some j2) S17) ∧
  (¬ (gj S17 1 j2 3) ≤ (gj S17 1 j14 3) →
  ∀ v21 : Int32, v21 = x2_4 + (1 : Int32) →
  K4 v21 (some j14) S17)))))))
def lp_X8_firstDuePress_4 (post : Option Nat → St → Prop) : Nat → Int32 → Option Nat → St → Prop
  | 0, _, _, _ => False
  | n + 1, x2_4, x1_4, S1 => bd_X8_firstDuePress_4 post (fun x2_4 x1_4 S1 => lp_X8_firstDuePress_4 post n x2_4 x1_4 S1) x2_4 x1_4 S1
def wp_X8_firstDuePress  (S0 : St) (post : Option Nat → St → Prop) : Prop :=
  ∃ n : Nat, lp_X8_firstDuePress_4 post n (0 : Int32) none S0
set_option maxRecDepth 100000 in
set_option maxHeartbeats 4000000 in
theorem m_X8_firstDuePress (l : Launch) (G : GT)  (S0 : St) (a0 : Nat) (hA0 : AtO S0 7 0 a0) (post : Option Nat → St → Prop) (hQ : wp_X8_firstDuePress S0 post) : Met l yX8_firstDuePress (wM yX8_firstDuePress cX8_firstDuePress 4 (some ((FieldType.object "ClockAuctions$Buyer")))) ({ frames := 1, cells := 0, slots := 0, locals := 22 } : Room) (PC G S0 [.ref a0]) (QR 1 G S0 post) 0 0 (QA G) := by
  refine mt_start RX8 (by decide) rfl (Nat.le_of_ble_eq_true rfl) ?_
  intro p e s m args below meth c ls F hr hlk hnm hw hl
  have hx := F.1
  have hb := F.2.1
  have hown := F.2.2.2.1
  have hts := F.2.2.2.2
  have hX : Ext S0 S0 := Ext.rf
  have hsz0 := hw.1.1.1
  have hl : lv_has ls 4 [(0, .ref a0)] := hl
  unfold wp_X8_firstDuePress at hQ
  refine lv_null hx hb dX8_firstDuePress_0 ?_
  refine lv_astore_nN (lv' := [(1, .null), (0, .ref a0)]) hx hb dX8_firstDuePress_1 rfl hl (by decide) rfl (fun ls hl => ?_)
  refine lv_iconst (v := 0) hx hb dX8_firstDuePress_2 (by decide) ?_
  refine lv_istore_n (lv' := [(2, .int (0 : Int32)), (1, .null), (0, .ref a0)]) hx hb dX8_firstDuePress_3 rfl hl (by decide) rfl (fun ls hl => ?_)
  have hloop4 : ∀ (n4 : Nat) (x2_4 : Int32) (x1_4 : Option Nat) (S1 : St) (H : Heap) (locs : List Loc) (ls : Array Slot) (cl4 sl4 : Nat), lp_X8_firstDuePress_4 post n4 x2_4 x1_4 S1 → WW G S1 s H locs → Ext S0 S1 → AtO S1 7 0 a0 → (∀ i, x1_4 = some i → i < gn S1 1) → lv_has ls 4 [(2, .int x2_4), (1, va_rf (Option.map (ga S1 1) x1_4)), (0, .ref a0)] → cl4 ≤ 0 + 0 → sl4 ≤ 0 + 0 → W p l e ({ frames := 1, cells := 0, slots := 0, locals := 22 } : Room) s m args below meth c H locs cl4 sl4 (MQ below (QR 1 G S0 post) args s 0 0 (QA G)) (F0 m 4 ls []) := by
    intro n4
    induction n4 with
    | zero => intro x2_4 x1_4 S1 H locs ls cl sl hQ; exact False.elim hQ
    | succ n4 ih4 =>
      intro x2_4 x1_4 S1 H locs ls cl4 sl4 hQ hw hX hA0 hrv hl hcl4 hsl4
      have hQ : bd_X8_firstDuePress_4 post (fun x2_4 x1_4 S1 => lp_X8_firstDuePress_4 post n4 x2_4 x1_4 S1) x2_4 x1_4 S1 := hQ
      unfold bd_X8_firstDuePress_4 at hQ
      cases x1_4 with
      | none =>
        have hQ := hQ.1 rfl
        have hl : lv_has ls 4 [(2, .int x2_4), (1, .null), (0, .ref a0)] := hl
        refine lv_iload_n hx hb dX8_firstDuePress_4 rfl (lv_at hl 0 rfl) ?_
        refine lv_aload_n hx hb dX8_firstDuePress_5 rfl (lv_at hl 2 rfl) ?_
        refine g_7_7 F hw hA0 twf_RX8_60 dX8_firstDuePress_6 ?_
        refine lv_icmp_ge (tgt := 60) hx hb dX8_firstDuePress_9 (by decide) (fun hc => ?_) (fun hc => ?_)
        · have hQ := hQ.1 hc
          refine lv_aload_nN hx hb dX8_firstDuePress_60 rfl (lv_at hl 1 rfl) ?_
          exact rt_n F hr hlk hw hX hQ (show cl4 ≤ 0 from by omega) (show sl4 ≤ 0 from by omega) dX8_firstDuePress_61
        · have hQ := hQ.2 hc
          refine lv_aload_n hx hb dX8_firstDuePress_12 rfl (lv_at hl 2 rfl) ?_
          refine lv_iload_n hx hb dX8_firstDuePress_13 rfl (lv_at hl 0 rfl) ?_
          refine k_X8_buyerAt F hw hl hA0 hQ twm_RX8_89 (Nat.le_of_ble_eq_true rfl) (Nat.le_of_ble_eq_true rfl) (Nat.le_of_ble_eq_true rfl) dX8_firstDuePress_14 (show cl4 + 0 ≤ 0 from by omega) (show sl4 + 0 ≤ 0 from by omega) (fun S3 H locs hQ hw hx1 => ?_) (fun j5 a5 S3 H locs hQ hA5 hw hx1 => ?_)
          · have hQ := hQ.1 rfl
            have hX := hX.trans hx1
            have hA0 := hA0.ext hx1
            refine lv_astore_nN (lv' := [(3, .null), (2, .int x2_4), (1, .null), (0, .ref a0)]) hx hb dX8_firstDuePress_17 rfl hl (by decide) rfl (fun ls hl => ?_)
            refine lv_aload_nN hx hb dX8_firstDuePress_18 rfl (lv_at hl 0 rfl) ?_
            refine lv_ifnullN (tgt := 54) hx hb dX8_firstDuePress_19 (by decide) ?_
            obtain ⟨v6, ev6⟩ : ∃ y : Int32, y = x2_4 + (1 : Int32) := ⟨_, rfl⟩
            have hQ := hQ v6 ev6
            refine lv_iinc (v := v6) (lv' := [(2, .int v6), (3, .null), (1, .null), (0, .ref a0)]) hx hb dX8_firstDuePress_54 hl (k := 1) rfl (by rw [ev6]; rfl) (by decide) rfl (fun ls hl => ?_)
            refine lv_goto (tgt := 4) hx hb dX8_firstDuePress_57 (by decide) ?_
            exact ih4 v6 none S3 _ _ _ _ _ hQ hw hX hA0 (fun i h => by cases h) (lv_sub hl [0, 2, 3] rfl) (by omega) (by omega)
          · have hQ := hQ.2 j5 rfl
            have hX := hX.trans hx1
            have hA0 := hA0.ext hx1
            refine lv_astore_n (lv' := [(3, .ref a5), (2, .int x2_4), (1, .null), (0, .ref a0)]) hx hb dX8_firstDuePress_17 rfl hl (by decide) rfl (fun ls hl => ?_)
            refine lv_aload_n hx hb dX8_firstDuePress_18 rfl (lv_at hl 0 rfl) ?_
            refine lv_ifnull hx hb dX8_firstDuePress_19 ?_
            refine lv_aload_n hx hb dX8_firstDuePress_22 rfl (lv_at hl 0 rfl) ?_
            refine lv_aload_n hx hb dX8_firstDuePress_23 rfl (lv_at hl 3 rfl) ?_
            refine g_7_3 F hw hA0 twf_RX8_30 dX8_firstDuePress_24 (fun a7 hA7 => ?_)
            refine g_4_4 F hw hA7 twf_RX8_218 dX8_firstDuePress_27 ?_
            refine k_X1_hasPressUpTo F hw hl hA5 hQ twm_RX8_201 (Nat.le_of_ble_eq_true rfl) (Nat.le_of_ble_eq_true rfl) (Nat.le_of_ble_eq_true rfl) dX8_firstDuePress_30 (show (cl4 + 0) + 0 ≤ 0 from by omega) (show (sl4 + 0) + 0 ≤ 0 from by omega) (fun r9 S8 H locs hQ hw hx1 => ?_)
            have hX := hX.trans hx1
            have hA5 := hA5.ext hx1
            have hA0 := hA0.ext hx1
            refine lv_if_eq (tgt := 54) hx hb dX8_firstDuePress_33 (by decide) (fun hc => ?_) (fun hc => ?_)
            · have hQ := hQ.1 hc
              obtain ⟨v10, ev10⟩ : ∃ y : Int32, y = x2_4 + (1 : Int32) := ⟨_, rfl⟩
              have hQ := hQ v10 ev10
              refine lv_iinc (v := v10) (lv' := [(2, .int v10), (3, .ref a5), (1, .null), (0, .ref a0)]) hx hb dX8_firstDuePress_54 hl (k := 1) rfl (by rw [ev10]; rfl) (by decide) rfl (fun ls hl => ?_)
              refine lv_goto (tgt := 4) hx hb dX8_firstDuePress_57 (by decide) ?_
              exact ih4 v10 none S8 _ _ _ _ _ hQ hw hX hA0 (fun i h => by cases h) (lv_sub hl [0, 2, 3] rfl) (by omega) (by omega)
            · have hQ := hQ.2 hc
              refine lv_aload_nN hx hb dX8_firstDuePress_36 rfl (lv_at hl 2 rfl) ?_
              refine lv_ifnullN (tgt := 52) hx hb dX8_firstDuePress_37 (by decide) ?_
              refine lv_aload_n hx hb dX8_firstDuePress_52 rfl (lv_at hl 0 rfl) ?_
              refine lv_astore_n (lv' := [(1, .ref a5), (3, .ref a5), (2, .int x2_4), (0, .ref a0)]) hx hb dX8_firstDuePress_53 rfl hl (by decide) rfl (fun ls hl => ?_)
              obtain ⟨v11, ev11⟩ : ∃ y : Int32, y = x2_4 + (1 : Int32) := ⟨_, rfl⟩
              have hQ := hQ v11 ev11
              refine lv_iinc (v := v11) (lv' := [(2, .int v11), (1, .ref a5), (3, .ref a5), (0, .ref a0)]) hx hb dX8_firstDuePress_54 hl (k := 2) rfl (by rw [ev11]; rfl) (by decide) rfl (fun ls hl => ?_)
              refine lv_goto (tgt := 4) hx hb dX8_firstDuePress_57 (by decide) ?_
              obtain ⟨hj5, rfl⟩ := hA5
              exact ih4 v11 (some j5) S8 _ _ _ _ _ hQ hw hX hA0 (fun i h => by cases h; exact hj5) (lv_sub hl [0, 1, 3] rfl) (by omega) (by omega)
      | some j2 =>
        have hQ := hQ.2 j2 rfl
        obtain ⟨a2, ea2⟩ : ∃ z, z = ga S1 1 j2 := ⟨_, rfl⟩
        have hA2 : AtO S1 1 j2 a2 := ⟨hrv _ rfl, ea2.symm⟩
        have hl : lv_has ls 4 [(2, .int x2_4), (1, .ref a2), (0, .ref a0)] := by rw [ea2]; exact hl
        refine lv_iload_n hx hb dX8_firstDuePress_4 rfl (lv_at hl 0 rfl) ?_
        refine lv_aload_n hx hb dX8_firstDuePress_5 rfl (lv_at hl 2 rfl) ?_
        refine g_7_7 F hw hA0 twf_RX8_60 dX8_firstDuePress_6 ?_
        refine lv_icmp_ge (tgt := 60) hx hb dX8_firstDuePress_9 (by decide) (fun hc => ?_) (fun hc => ?_)
        · have hQ := hQ.1 hc
          refine lv_aload_n hx hb dX8_firstDuePress_60 rfl (lv_at hl 1 rfl) ?_
          exact rt_a F hr hlk hw hX hA2 hQ (show cl4 ≤ 0 from by omega) (show sl4 ≤ 0 from by omega) dX8_firstDuePress_61
        · have hQ := hQ.2 hc
          refine lv_aload_n hx hb dX8_firstDuePress_12 rfl (lv_at hl 2 rfl) ?_
          refine lv_iload_n hx hb dX8_firstDuePress_13 rfl (lv_at hl 0 rfl) ?_
          refine k_X8_buyerAt F hw hl hA0 hQ twm_RX8_89 (Nat.le_of_ble_eq_true rfl) (Nat.le_of_ble_eq_true rfl) (Nat.le_of_ble_eq_true rfl) dX8_firstDuePress_14 (show cl4 + 0 ≤ 0 from by omega) (show sl4 + 0 ≤ 0 from by omega) (fun S12 H locs hQ hw hx1 => ?_) (fun j14 a14 S12 H locs hQ hA14 hw hx1 => ?_)
          · have hQ := hQ.1 rfl
            have hX := hX.trans hx1
            have hA2 := hA2.ext hx1
            have hA0 := hA0.ext hx1
            refine lv_astore_nN (lv' := [(3, .null), (2, .int x2_4), (1, .ref a2), (0, .ref a0)]) hx hb dX8_firstDuePress_17 rfl hl (by decide) rfl (fun ls hl => ?_)
            refine lv_aload_nN hx hb dX8_firstDuePress_18 rfl (lv_at hl 0 rfl) ?_
            refine lv_ifnullN (tgt := 54) hx hb dX8_firstDuePress_19 (by decide) ?_
            obtain ⟨v15, ev15⟩ : ∃ y : Int32, y = x2_4 + (1 : Int32) := ⟨_, rfl⟩
            have hQ := hQ v15 ev15
            refine lv_iinc (v := v15) (lv' := [(2, .int v15), (3, .null), (1, .ref a2), (0, .ref a0)]) hx hb dX8_firstDuePress_54 hl (k := 1) rfl (by rw [ev15]; rfl) (by decide) rfl (fun ls hl => ?_)
            refine lv_goto (tgt := 4) hx hb dX8_firstDuePress_57 (by decide) ?_
            obtain ⟨hj2, rfl⟩ := hA2
            exact ih4 v15 (some j2) S12 _ _ _ _ _ hQ hw hX hA0 (fun i h => by cases h; exact hj2) (lv_sub hl [0, 2, 3] rfl) (by omega) (by omega)
          · have hQ := hQ.2 j14 rfl
            have hX := hX.trans hx1
            have hA2 := hA2.ext hx1
            have hA0 := hA0.ext hx1
            refine lv_astore_n (lv' := [(3, .ref a14), (2, .int x2_4), (1, .ref a2), (0, .ref a0)]) hx hb dX8_firstDuePress_17 rfl hl (by decide) rfl (fun ls hl => ?_)
            refine lv_aload_n hx hb dX8_firstDuePress_18 rfl (lv_at hl 0 rfl) ?_
            refine lv_ifnull hx hb dX8_firstDuePress_19 ?_
            refine lv_aload_n hx hb dX8_firstDuePress_22 rfl (lv_at hl 0 rfl) ?_
            refine lv_aload_n hx hb dX8_firstDuePress_23 rfl (lv_at hl 3 rfl) ?_
            refine g_7_3 F hw hA0 twf_RX8_30 dX8_firstDuePress_24 (fun a16 hA16 => ?_)
            refine g_4_4 F hw hA16 twf_RX8_218 dX8_firstDuePress_27 ?_
            refine k_X1_hasPressUpTo F hw hl hA14 hQ twm_RX8_201 (Nat.le_of_ble_eq_true rfl) (Nat.le_of_ble_eq_true rfl) (Nat.le_of_ble_eq_true rfl) dX8_firstDuePress_30 (show (cl4 + 0) + 0 ≤ 0 from by omega) (show (sl4 + 0) + 0 ≤ 0 from by omega) (fun r18 S17 H locs hQ hw hx1 => ?_)
            have hX := hX.trans hx1
            have hA14 := hA14.ext hx1
            have hA2 := hA2.ext hx1
            have hA0 := hA0.ext hx1
            refine lv_if_eq (tgt := 54) hx hb dX8_firstDuePress_33 (by decide) (fun hc => ?_) (fun hc => ?_)
            · have hQ := hQ.1 hc
              obtain ⟨v19, ev19⟩ : ∃ y : Int32, y = x2_4 + (1 : Int32) := ⟨_, rfl⟩
              have hQ := hQ v19 ev19
              refine lv_iinc (v := v19) (lv' := [(2, .int v19), (3, .ref a14), (1, .ref a2), (0, .ref a0)]) hx hb dX8_firstDuePress_54 hl (k := 1) rfl (by rw [ev19]; rfl) (by decide) rfl (fun ls hl => ?_)
              refine lv_goto (tgt := 4) hx hb dX8_firstDuePress_57 (by decide) ?_
              obtain ⟨hj2, rfl⟩ := hA2
              exact ih4 v19 (some j2) S17 _ _ _ _ _ hQ hw hX hA0 (fun i h => by cases h; exact hj2) (lv_sub hl [0, 2, 3] rfl) (by omega) (by omega)
            · have hQ := hQ.2 hc
              refine lv_aload_n hx hb dX8_firstDuePress_36 rfl (lv_at hl 2 rfl) ?_
              refine lv_ifnull hx hb dX8_firstDuePress_37 ?_
              refine lv_aload_n hx hb dX8_firstDuePress_40 rfl (lv_at hl 0 rfl) ?_
              refine g_1_3 F hw hA14 twf_RX8_205 dX8_firstDuePress_41 ?_
              refine lv_aload_n hx hb dX8_firstDuePress_44 rfl (lv_at hl 2 rfl) ?_
              refine g_1_3 F hw hA2 twf_RX8_205 dX8_firstDuePress_45 ?_
              refine lc_ge (tgt := 54) F dX8_firstDuePress_48 dX8_firstDuePress_49 (by decide) (fun hc => ?_) (fun hc => ?_)
              · have hQ := hQ.1 hc
                obtain ⟨v20, ev20⟩ : ∃ y : Int32, y = x2_4 + (1 : Int32) := ⟨_, rfl⟩
                have hQ := hQ v20 ev20
                refine lv_iinc (v := v20) (lv' := [(2, .int v20), (3, .ref a14), (1, .ref a2), (0, .ref a0)]) hx hb dX8_firstDuePress_54 hl (k := 1) rfl (by rw [ev20]; rfl) (by decide) rfl (fun ls hl => ?_)
                refine lv_goto (tgt := 4) hx hb dX8_firstDuePress_57 (by decide) ?_
                obtain ⟨hj2, rfl⟩ := hA2
                exact ih4 v20 (some j2) S17 _ _ _ _ _ hQ hw hX hA0 (fun i h => by cases h; exact hj2) (lv_sub hl [0, 2, 3] rfl) (by omega) (by omega)
              · have hQ := hQ.2 hc
                refine lv_aload_n hx hb dX8_firstDuePress_52 rfl (lv_at hl 0 rfl) ?_
                refine lv_astore_n (lv' := [(1, .ref a14), (3, .ref a14), (2, .int x2_4), (0, .ref a0)]) hx hb dX8_firstDuePress_53 rfl hl (by decide) rfl (fun ls hl => ?_)
                obtain ⟨v21, ev21⟩ : ∃ y : Int32, y = x2_4 + (1 : Int32) := ⟨_, rfl⟩
                have hQ := hQ v21 ev21
                refine lv_iinc (v := v21) (lv' := [(2, .int v21), (1, .ref a14), (3, .ref a14), (0, .ref a0)]) hx hb dX8_firstDuePress_54 hl (k := 2) rfl (by rw [ev21]; rfl) (by decide) rfl (fun ls hl => ?_)
                refine lv_goto (tgt := 4) hx hb dX8_firstDuePress_57 (by decide) ?_
                obtain ⟨hj14, rfl⟩ := hA14
                exact ih4 v21 (some j14) S17 _ _ _ _ _ hQ hw hX hA0 (fun i h => by cases h; exact hj14) (lv_sub hl [0, 1, 3] rfl) (by omega) (by omega)
  obtain ⟨n, hQ⟩ := hQ
  exact hloop4 n (0 : Int32) none S0 _ _ _ _ _ hQ hw hX hA0 (fun i h => by cases h) (lv_sub hl [0, 1, 2] rfl) (by omega) (by omega)
theorem k_X8_firstDuePress {p : Program} {l : Launch} {e : Env} {R : Room} {s : State} {m : MethodId} {args : Array Value} {below : List Frame} {meth : Method} {c : Code} {H : Heap} {locs : List Loc} {cells slots : Nat} {Q : State → Prop} {cc : ByteArray} {pc nL : Nat} {ls : Array Slot} {rest : List Value} {G : GT} {S : St} {own : String}  {post : Option Nat → St → Prop} {lv : List (Nat × Value)} {idx : Nat} (F : CX p m c cc nL s args own) (hw : WW G S s H locs) (hl : lv_has ls nL lv) {a0 : Nat} (hA0 : AtO S 7 0 a0) (hQ : wp_X8_firstDuePress S post) (h1 : Cond.methodLink own idx yX8_firstDuePress ∈ wT) (hR1 : 1 + 1 ≤ R.frames) (hR2 : 8 + (4 + 11) + 22 ≤ R.locals) (hrest : (rest.map fun v => v.category).sum ≤ 8) (hdg : decode cc pc = .ok (.invokevirtual idx, 3)) (hf1 : cells + 0 ≤ R.cells) (hf2 : slots + 0 ≤ R.slots)
    (kn : ∀ (S1 : St) (H1 : Heap) (locs1 : List Loc), post none S1 → WW G S1 s H1 locs1 → Ext S S1 → W p l e R s m args below meth c H1 locs1 (cells + 0) (slots + 0) Q (F0 m (pc + 3) ls (.null :: rest))) (ks : ∀ (j2 a2 : Nat) (S1 : St) (H1 : Heap) (locs1 : List Loc), post (some j2) S1 → AtO S1 1 j2 a2 → WW G S1 s H1 locs1 → Ext S S1 → W p l e R s m args below meth c H1 locs1 (cells + 0) (slots + 0) Q (F0 m (pc + 3) ls (.ref a2 :: rest))) : W p l e R s m args below meth c H locs cells slots Q (F0 m pc ls (.ref a0 :: rest)) :=
  cl_r (rn_V (n := 0) (As := []) (q := (RX8, TX8, 11)) F hw hl (m_X8_firstDuePress l G  S a0 hA0 post hQ) 7 (by decide) (by decide) hA0 rfl rfl h1 twi_yX8_firstDuePress tws_yX8_firstDuePress twn_RX8 two_yX8_firstDuePress rfl rfl ⟨rfl, by decide, by decide, by decide +kernel⟩ rfl ⟨hR1, hR2⟩ rfl hrest hdg ⟨hf1, hf2⟩) hw kn ks

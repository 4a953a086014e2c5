-- X4_goBackTo
def wp_X4_goBackTo (p1 : Int64) (S0 : St) (post : St → Prop) : Prop :=
  ∀ S1 : St, S1 = sj S0 4 0 4 ((p1 / (100 : Int64)) * (100 : Int64)) →
  post S1
set_option maxRecDepth 100000 in
set_option maxHeartbeats 4000000 in
theorem m_X4_goBackTo (l : Launch) (G : GT) (p1 : Int64) (S0 : St) (a0 : Nat) (hA0 : AtO S0 4 0 a0) (post : St → Prop) (hQ : wp_X4_goBackTo p1 S0 post) : Met l yX4_goBackTo (wM yX4_goBackTo cX4_goBackTo 3 none) ({ frames := 0, cells := 0, slots := 0, locals := 0 } : Room) (PC G S0 [.ref a0, .long p1]) (QV G S0 post) 0 0 (QA G) := by
  refine mt_start RX4 (by decide) rfl (Nat.le_of_ble_eq_true rfl) ?_
  intro p e s m args below meth c ls F hr hlk hnm hw hl
  have hx := F.1
  have hb := F.2.1
  have hown := F.2.2.2.1
  have hts := F.2.2.2.2
  have hX : Ext S0 S0 := Ext.rf
  have hsz0 := hw.1.1.1
  have hl : lv_has ls 3 [(0, .ref a0), (1, .long p1)] := hl
  unfold wp_X4_goBackTo at hQ
  refine lv_aload_n hx hb dX4_goBackTo_0 rfl (lv_at hl 0 rfl) ?_
  refine lv_lload_n hx hb dX4_goBackTo_1 rfl (lv_at hl 1 rfl) ?_
  refine lv_ldc2 (v := 100) hx hb hown (hts _ twl_RX4_7) dX4_goBackTo_2 ?_
  refine lv_ldiv hx hb dX4_goBackTo_5 (by decide) ?_
  refine lv_ldc2 (v := 100) hx hb hown (hts _ twl_RX4_7) dX4_goBackTo_6 ?_
  refine lv_lmul hx hb dX4_goBackTo_9 ?_
  refine p_4_4 F hw hA0 twf_RX4_25 dX4_goBackTo_10 (fun S1 H locs eS1 hw hx1 => ?_)
  have hQ := hQ S1 eS1
  have hX := hX.trans hx1
  have hA0 := hA0.ext hx1
  exact rt_v F hr hlk hw hX hQ (show 0 ≤ 0 from by omega) (show 0 ≤ 0 from by omega) dX4_goBackTo_13
theorem k_X4_goBackTo {p : Program} {l : Launch} {e : Env} {R : Room} {s : State} {m : MethodId} {args : Array Value} {below : List Frame} {meth : Method} {c : Code} {H : Heap} {locs : List Loc} {cells slots : Nat} {Q : State → Prop} {cc : ByteArray} {pc nL : Nat} {ls : Array Slot} {rest : List Value} {G : GT} {S : St} {own : String} {p1 : Int64} {post : St → Prop} {lv : List (Nat × Value)} {idx : Nat} (F : CX p m c cc nL s args own) (hw : WW G S s H locs) (hl : lv_has ls nL lv) {a0 : Nat} (hA0 : AtO S 4 0 a0) (hQ : wp_X4_goBackTo p1 S post) (h1 : Cond.methodLink own idx yX4_goBackTo ∈ wT) (hR1 : 0 + 1 ≤ R.frames) (hR2 : 8 + (3 + 11) + 0 ≤ R.locals) (hrest : (rest.map fun v => v.category).sum ≤ 8) (hdg : decode cc pc = .ok (.invokevirtual idx, 3)) (hf1 : cells + 0 ≤ R.cells) (hf2 : slots + 0 ≤ R.slots)
    (kk : ∀ (S1 : St) (H1 : Heap) (locs1 : List Loc), post S1 → WW G S1 s H1 locs1 → Ext S S1 → W p l e R s m args below meth c H1 locs1 (cells + 0) (slots + 0) Q (F0 m (pc + 3) ls rest)) : W p l e R s m args below meth c H locs cells slots Q (F0 m pc ls (.long p1 :: .ref a0 :: rest)) :=
  cl_v (rn_V (n := 1) (As := [.long p1]) (q := (RX4, TX4, 6)) F hw hl (m_X4_goBackTo l G p1 S a0 hA0 post hQ) 4 (by decide) (by decide) hA0 rfl rfl h1 twi_yX4_goBackTo tws_yX4_goBackTo twn_RX4 two_yX4_goBackTo rfl rfl ⟨rfl, by decide, by decide, by decide +kernel⟩ rfl ⟨hR1, hR2⟩ rfl hrest hdg ⟨hf1, hf2⟩) hw kk
-- X8_outage
def wp_X8_outage (p1 : Int64) (p2 : Int32) (S0 : St) (post : Int32 → St → Prop) : Prop :=
  (gr S0 4 0 0 = none →
  post (0 : Int32) S0) ∧
  (∀ j2 : Nat, gr S0 4 0 0 = some j2 →
  (¬ (gi S0 4 0 5) = p2 →
  (p2 = 0 →
  wp_X8_isWithin p1 (0 : Int64) (0 : Int64) S0 (fun r5 S4 =>
  (¬ r5 = 0 →
  bz p2 ∧
  ∀ S7 : St, S7 = si S4 4 0 5 p2 →
  (p2 = 0 →
  post (1 : Int32) S7) ∧
  (¬ p2 = 0 →
  wp_X4_goBackTo ((gj S7 4 0 4) - p1) S7 (fun S10 =>
  wp_X8_dropPressesFrom (gj S10 4 0 4) S10 (fun S12 =>
  post (1 : Int32) S12)))) ∧
  (r5 = 0 →
  post (0 : Int32) S4))) ∧
  (¬ p2 = 0 →
  wp_X8_isWithin p1 (0 : Int64) (gj S0 4 0 4) S0 (fun r15 S14 =>
  (¬ r15 = 0 →
  bz p2 ∧
  ∀ S17 : St, S17 = si S14 4 0 5 p2 →
  (p2 = 0 →
  post (1 : Int32) S17) ∧
  (¬ p2 = 0 →
  wp_X4_goBackTo ((gj S17 4 0 4) - p1) S17 (fun S20 =>
  wp_X8_dropPressesFrom (gj S20 4 0 4) S20 (fun S22 =>
  post (1 : Int32) S22)))) ∧
  (r15 = 0 →
  post (0 : Int32) S14)))) ∧
  ((gi S0 4 0 5) = p2 →
  post (0 : Int32) S0))
set_option maxRecDepth 100000 in
set_option maxHeartbeats 4000000 in
theorem m_X8_outage (l : Launch) (G : GT) (p1 : Int64) (p2 : Int32) (S0 : St) (a0 : Nat) (hA0 : AtO S0 7 0 a0) (post : Int32 → St → Prop) (hQ : wp_X8_outage p1 p2 S0 post) : Met l yX8_outage (wM yX8_outage cX8_outage 4 (some (FieldType.boolean))) ({ frames := 2, cells := 0, slots := 0, locals := 45 } : Room) (PC G S0 [.ref a0, .long p1, .int p2]) (QI G S0 post) 0 0 (QA G) := by
  refine mt_start RX8 (by decide) rfl (Nat.le_of_ble_eq_true rfl) ?_
  intro p e s m args below meth c ls F hr hlk hnm hw hl
  have hx := F.1
  have hb := F.2.1
  have hown := F.2.2.2.1
  have hts := F.2.2.2.2
  have hX : Ext S0 S0 := Ext.rf
  have hsz0 := hw.1.1.1
  have hl : lv_has ls 4 [(0, .ref a0), (1, .long p1), (3, .int p2)] := hl
  unfold wp_X8_outage at hQ
  refine lv_aload_n hx hb dX8_outage_0 rfl (lv_at hl 0 rfl) ?_
  refine g_7_3 F hw hA0 twf_RX8_30 dX8_outage_1 (fun a1 hA1 => ?_)
  refine g_4_0 F hw hA1 twf_RX8_164 dX8_outage_4 (fun hrf => ?_) (fun j2 a2 hrf hA2 => ?_)
  · have hQ := hQ.1 hrf
    refine lv_ifnullN (tgt := 21) hx hb dX8_outage_7 (by decide) ?_
    refine lv_iconst (v := 0) hx hb dX8_outage_21 (by decide) ?_
    exact rt_z F hr hlk hw hX hQ rfl (show 0 ≤ 0 from by omega) (show 0 ≤ 0 from by omega) dX8_outage_22
  · have hQ := hQ.2 j2 hrf
    refine lv_ifnull hx hb dX8_outage_7 ?_
    refine lv_aload_n hx hb dX8_outage_10 rfl (lv_at hl 0 rfl) ?_
    refine g_7_3 F hw hA0 twf_RX8_30 dX8_outage_11 (fun a3 hA3 => ?_)
    refine g_4_5 F hw hA3 twf_RX8_188 dX8_outage_14 ?_
    refine lv_iload_n hx hb dX8_outage_17 rfl (lv_at hl 2 rfl) ?_
    refine lv_icmp_ne (tgt := 23) hx hb dX8_outage_18 (by decide) (fun hc => ?_) (fun hc => ?_)
    · have hQ := hQ.1 hc
      refine lv_lload_n hx hb dX8_outage_23 rfl (lv_at hl 1 rfl) ?_
      refine lv_lconst (v := 0) hx hb dX8_outage_24 (by decide) ?_
      refine lv_iload_n hx hb dX8_outage_25 rfl (lv_at hl 2 rfl) ?_
      refine lv_if_eq (tgt := 39) hx hb dX8_outage_26 (by decide) (fun hc => ?_) (fun hc => ?_)
      · have hQ := hQ.1 hc
        refine lv_lconst (v := 0) hx hb dX8_outage_39 (by decide) ?_
        refine k_X8_isWithin F hw hl hQ twm_RX8_50 (Nat.le_of_ble_eq_true rfl) (Nat.le_of_ble_eq_true rfl) (Nat.le_of_ble_eq_true rfl) dX8_outage_40 (show 0 + 0 ≤ 0 from by omega) (show 0 + 0 ≤ 0 from by omega) (fun r5 S4 H locs hQ hw hx1 => ?_)
        have hX := hX.trans hx1
        have hA0 := hA0.ext hx1
        refine lv_if_ne (tgt := 48) hx hb dX8_outage_43 (by decide) (fun hc => ?_) (fun hc => ?_)
        · have hQ := hQ.1 hc
          refine lv_aload_n hx hb dX8_outage_48 rfl (lv_at hl 0 rfl) ?_
          refine g_7_3 F hw hA0 twf_RX8_30 dX8_outage_49 (fun a6 hA6 => ?_)
          refine lv_iload_n hx hb dX8_outage_52 rfl (lv_at hl 2 rfl) ?_
          obtain ⟨hz, hQ⟩ := hQ
          refine p_4_5 F hw hA6 twf_RX8_188 hz dX8_outage_53 (fun S7 H locs eS7 hw hx1 => ?_)
          have hQ := hQ S7 eS7
          have hX := hX.trans hx1
          have hA0 := hA0.ext hx1
          refine lv_iload_n hx hb dX8_outage_56 rfl (lv_at hl 2 rfl) ?_
          refine lv_if_eq (tgt := 87) hx hb dX8_outage_57 (by decide) (fun hc => ?_) (fun hc => ?_)
          · have hQ := hQ.1 hc
            refine lv_iconst (v := 1) hx hb dX8_outage_87 (by decide) ?_
            exact rt_z F hr hlk hw hX hQ rfl (show (0 + 0) ≤ 0 from by omega) (show (0 + 0) ≤ 0 from by omega) dX8_outage_88
          · have hQ := hQ.2 hc
            refine lv_aload_n hx hb dX8_outage_60 rfl (lv_at hl 0 rfl) ?_
            refine g_7_3 F hw hA0 twf_RX8_30 dX8_outage_61 (fun a8 hA8 => ?_)
            refine lv_aload_n hx hb dX8_outage_64 rfl (lv_at hl 0 rfl) ?_
            refine g_7_3 F hw hA0 twf_RX8_30 dX8_outage_65 (fun a9 hA9 => ?_)
            refine g_4_4 F hw hA9 twf_RX8_218 dX8_outage_68 ?_
            refine lv_lload_n hx hb dX8_outage_71 rfl (lv_at hl 1 rfl) ?_
            refine lv_lsub hx hb dX8_outage_72 ?_
            refine k_X4_goBackTo F hw hl hA8 hQ twm_RX8_221 (Nat.le_of_ble_eq_true rfl) (Nat.le_of_ble_eq_true rfl) (Nat.le_of_ble_eq_true rfl) dX8_outage_73 (show (0 + 0) + 0 ≤ 0 from by omega) (show (0 + 0) + 0 ≤ 0 from by omega) (fun S10 H locs hQ hw hx1 => ?_)
            have hX := hX.trans hx1
            have hA0 := hA0.ext hx1
            refine lv_aload_n hx hb dX8_outage_76 rfl (lv_at hl 0 rfl) ?_
            refine lv_aload_n hx hb dX8_outage_77 rfl (lv_at hl 0 rfl) ?_
            refine g_7_3 F hw hA0 twf_RX8_30 dX8_outage_78 (fun a11 hA11 => ?_)
            refine g_4_4 F hw hA11 twf_RX8_218 dX8_outage_81 ?_
            refine k_X8_dropPressesFrom F hw hl hA0 hQ twm_RX8_225 (Nat.le_of_ble_eq_true rfl) (Nat.le_of_ble_eq_true rfl) (Nat.le_of_ble_eq_true rfl) dX8_outage_84 (show ((0 + 0) + 0) + 0 ≤ 0 from by omega) (show ((0 + 0) + 0) + 0 ≤ 0 from by omega) (fun S12 H locs hQ hw hx1 => ?_)
            have hX := hX.trans hx1
            have hA0 := hA0.ext hx1
            refine lv_iconst (v := 1) hx hb dX8_outage_87 (by decide) ?_
            exact rt_z F hr hlk hw hX hQ rfl (show (((0 + 0) + 0) + 0) ≤ 0 from by omega) (show (((0 + 0) + 0) + 0) ≤ 0 from by omega) dX8_outage_88
        · have hQ := hQ.2 hc
          refine lv_iconst (v := 0) hx hb dX8_outage_46 (by decide) ?_
          exact rt_z F hr hlk hw hX hQ rfl (show (0 + 0) ≤ 0 from by omega) (show (0 + 0) ≤ 0 from by omega) dX8_outage_47
      · have hQ := hQ.2 hc
        refine lv_aload_n hx hb dX8_outage_29 rfl (lv_at hl 0 rfl) ?_
        refine g_7_3 F hw hA0 twf_RX8_30 dX8_outage_30 (fun a13 hA13 => ?_)
        refine g_4_4 F hw hA13 twf_RX8_218 dX8_outage_33 ?_
        refine lv_goto (tgt := 40) hx hb dX8_outage_36 (by decide) ?_
        refine k_X8_isWithin F hw hl hQ twm_RX8_50 (Nat.le_of_ble_eq_true rfl) (Nat.le_of_ble_eq_true rfl) (Nat.le_of_ble_eq_true rfl) dX8_outage_40 (show 0 + 0 ≤ 0 from by omega) (show 0 + 0 ≤ 0 from by omega) (fun r15 S14 H locs hQ hw hx1 => ?_)
        have hX := hX.trans hx1
        have hA0 := hA0.ext hx1
        refine lv_if_ne (tgt := 48) hx hb dX8_outage_43 (by decide) (fun hc => ?_) (fun hc => ?_)
        · have hQ := hQ.1 hc
          refine lv_aload_n hx hb dX8_outage_48 rfl (lv_at hl 0 rfl) ?_
          refine g_7_3 F hw hA0 twf_RX8_30 dX8_outage_49 (fun a16 hA16 => ?_)
          refine lv_iload_n hx hb dX8_outage_52 rfl (lv_at hl 2 rfl) ?_
          obtain ⟨hz, hQ⟩ := hQ
          refine p_4_5 F hw hA16 twf_RX8_188 hz dX8_outage_53 (fun S17 H locs eS17 hw hx1 => ?_)
          have hQ := hQ S17 eS17
          have hX := hX.trans hx1
          have hA0 := hA0.ext hx1
          refine lv_iload_n hx hb dX8_outage_56 rfl (lv_at hl 2 rfl) ?_
          refine lv_if_eq (tgt := 87) hx hb dX8_outage_57 (by decide) (fun hc => ?_) (fun hc => ?_)
          · have hQ := hQ.1 hc
            refine lv_iconst (v := 1) hx hb dX8_outage_87 (by decide) ?_
            exact rt_z F hr hlk hw hX hQ rfl (show (0 + 0) ≤ 0 from by omega) (show (0 + 0) ≤ 0 from by omega) dX8_outage_88
          · have hQ := hQ.2 hc
            refine lv_aload_n hx hb dX8_outage_60 rfl (lv_at hl 0 rfl) ?_
            refine g_7_3 F hw hA0 twf_RX8_30 dX8_outage_61 (fun a18 hA18 => ?_)
            refine lv_aload_n hx hb dX8_outage_64 rfl (lv_at hl 0 rfl) ?_
            refine g_7_3 F hw hA0 twf_RX8_30 dX8_outage_65 (fun a19 hA19 => ?_)
            refine g_4_4 F hw hA19 twf_RX8_218 dX8_outage_68 ?_
            refine lv_lload_n hx hb dX8_outage_71 rfl (lv_at hl 1 rfl) ?_
            refine lv_lsub hx hb dX8_outage_72 ?_
            refine k_X4_goBackTo F hw hl hA18 hQ twm_RX8_221 (Nat.le_of_ble_eq_true rfl) (Nat.le_of_ble_eq_true rfl) (Nat.le_of_ble_eq_true rfl) dX8_outage_73 (show (0 + 0) + 0 ≤ 0 from by omega) (show (0 + 0) + 0 ≤ 0 from by omega) (fun S20 H locs hQ hw hx1 => ?_)
            have hX := hX.trans hx1
            have hA0 := hA0.ext hx1
            refine lv_aload_n hx hb dX8_outage_76 rfl (lv_at hl 0 rfl) ?_
            refine lv_aload_n hx hb dX8_outage_77 rfl (lv_at hl 0 rfl) ?_
            refine g_7_3 F hw hA0 twf_RX8_30 dX8_outage_78 (fun a21 hA21 => ?_)
            refine g_4_4 F hw hA21 twf_RX8_218 dX8_outage_81 ?_
            refine k_X8_dropPressesFrom F hw hl hA0 hQ twm_RX8_225 (Nat.le_of_ble_eq_true rfl) (Nat.le_of_ble_eq_true rfl) (Nat.le_of_ble_eq_true rfl) dX8_outage_84 (show ((0 + 0) + 0) + 0 ≤ 0 from by omega) (show ((0 + 0) + 0) + 0 ≤ 0 from by omega) (fun S22 H locs hQ hw hx1 => ?_)
            have hX := hX.trans hx1
            have hA0 := hA0.ext hx1
            refine lv_iconst (v := 1) hx hb dX8_outage_87 (by decide) ?_
            exact rt_z F hr hlk hw hX hQ rfl (show (((0 + 0) + 0) + 0) ≤ 0 from by omega) (show (((0 + 0) + 0) + 0) ≤ 0 from by omega) dX8_outage_88
        · have hQ := hQ.2 hc
          refine lv_iconst (v := 0) hx hb dX8_outage_46 (by decide) ?_
          exact rt_z F hr hlk hw hX hQ rfl (show (0 + 0) ≤ 0 from by omega) (show (0 + 0) ≤ 0 from by omega) dX8_outage_47
    · have hQ := hQ.2 hc
      refine lv_iconst (v := 0) hx hb dX8_outage_21 (by decide) ?_
      exact rt_z F hr hlk hw hX hQ rfl (show 0 ≤ 0 from by omega) (show 0 ≤ 0 from by omega) dX8_outage_22
theorem k_X8_outage {p : Program} {l : Launch} {e : Env} {R : Room} {s : State} {m : MethodId} {args : Array Value} {below : List Frame} {meth : Method} {c : Code} {H : Heap} {locs : List Loc} {cells slots : Nat} {Q : State → Prop} {cc : ByteArray} {pc nL : Nat} {ls : Array Slot} {rest : List Value} {G : GT} {S : St} {own : String} {p1 : Int64} {p2 : Int32} {post : Int32 → St → Prop} {lv : List (Nat × Value)} {idx : Nat} (F : CX p m c cc nL s args own) (hw : WW G S s H locs) (hl : lv_has ls nL lv) {a0 : Nat} (hA0 : AtO S 7 0 a0) (hQ : wp_X8_outage p1 p2 S post) (h1 : Cond.methodLink own idx yX8_outage ∈ wT) (hR1 : 2 + 1 ≤ R.frames) (hR2 : 8 + (4 + 11) + 45 ≤ R.locals) (hrest : (rest.map fun v => v.category).sum ≤ 8) (hdg : decode cc pc = .ok (.invokevirtual idx, 3)) (hf1 : cells + 0 ≤ R.cells) (hf2 : slots + 0 ≤ R.slots)
    (kk : ∀ (r : Int32) (S1 : St) (H1 : Heap) (locs1 : List Loc), post r S1 → WW G S1 s H1 locs1 → Ext S S1 → W p l e R s m args below meth c H1 locs1 (cells + 0) (slots + 0) Q (F0 m (pc + 3) ls (.int r :: rest))) : W p l e R s m args below meth c H locs cells slots Q (F0 m pc ls (.int p2 :: .long p1 :: .ref a0 :: rest)) :=
  cl_i (rn_V (n := 2) (As := [.long p1, .int p2]) (q := (RX8, TX8, 11)) F hw hl (m_X8_outage l G p1 p2 S a0 hA0 post hQ) 7 (by decide) (by decide) hA0 rfl rfl h1 twi_yX8_outage tws_yX8_outage twn_RX8 two_yX8_outage rfl rfl ⟨rfl, by decide, by decide, by decide +kernel⟩ rfl ⟨hR1, hR2⟩ rfl hrest hdg ⟨hf1, hf2⟩) hw kk
-- X8_clock
def wp_X8_clock  (S0 : St) (post : Int64 → St → Prop) : Prop :=
  (gr S0 4 0 0 = none →
  post (-1 : Int64) S0) ∧
  (∀ j2 : Nat, gr S0 4 0 0 = some j2 →
  wp_X4_priceAt (gj S0 4 0 4) S0 (fun r6 S5 =>
  post r6 S5))
set_option maxRecDepth 100000 in
set_option maxHeartbeats 4000000 in
theorem m_X8_clock (l : Launch) (G : GT)  (S0 : St) (a0 : Nat) (hA0 : AtO S0 7 0 a0) (post : Int64 → St → Prop) (hQ : wp_X8_clock S0 post) : Met l yX8_clock (wM yX8_clock cX8_clock 1 (some (FieldType.long))) ({ frames := 1, cells := 0, slots := 0, locals := 22 } : Room) (PC G S0 [.ref a0]) (QJ G S0 post) 0 0 (QA G) := by
  refine mt_start RX8 (by decide) rfl (Nat.le_of_ble_eq_true rfl) ?_
  intro p e s m args below meth c ls F hr hlk hnm hw hl
  have hx := F.1
  have hb := F.2.1
  have hown := F.2.2.2.1
  have hts := F.2.2.2.2
  have hX : Ext S0 S0 := Ext.rf
  have hsz0 := hw.1.1.1
  have hl : lv_has ls 1 [(0, .ref a0)] := hl
  unfold wp_X8_clock at hQ
  refine lv_aload_n hx hb dX8_clock_0 rfl (lv_at hl 0 rfl) ?_
  refine g_7_3 F hw hA0 twf_RX8_30 dX8_clock_1 (fun a1 hA1 => ?_)
  refine g_4_0 F hw hA1 twf_RX8_164 dX8_clock_4 (fun hrf => ?_) (fun j2 a2 hrf hA2 => ?_)
  · have hQ := hQ.1 hrf
    refine lv_ifnonnullN hx hb dX8_clock_7 ?_
    refine lv_ldc2 (v := -1) hx hb hown (hts _ twl_RX8_80) dX8_clock_10 ?_
    refine lv_goto (tgt := 30) hx hb dX8_clock_13 (by decide) ?_
    exact rt_l F hr hlk hw hX hQ (show 0 ≤ 0 from by omega) (show 0 ≤ 0 from by omega) dX8_clock_30
  · have hQ := hQ.2 j2 hrf
    refine lv_ifnonnull (tgt := 16) hx hb dX8_clock_7 (by decide) ?_
    refine lv_aload_n hx hb dX8_clock_16 rfl (lv_at hl 0 rfl) ?_
    refine g_7_3 F hw hA0 twf_RX8_30 dX8_clock_17 (fun a3 hA3 => ?_)
    refine lv_aload_n hx hb dX8_clock_20 rfl (lv_at hl 0 rfl) ?_
    refine g_7_3 F hw hA0 twf_RX8_30 dX8_clock_21 (fun a4 hA4 => ?_)
    refine g_4_4 F hw hA4 twf_RX8_218 dX8_clock_24 ?_
    refine k_X4_priceAt F hw hl hA3 hQ twm_RX8_228 (Nat.le_of_ble_eq_true rfl) (Nat.le_of_ble_eq_true rfl) (Nat.le_of_ble_eq_true rfl) dX8_clock_27 (show 0 + 0 ≤ 0 from by omega) (show 0 + 0 ≤ 0 from by omega) (fun r6 S5 H locs hQ hw hx1 => ?_)
    have hX := hX.trans hx1
    have hA0 := hA0.ext hx1
    exact rt_l F hr hlk hw hX hQ (show (0 + 0) ≤ 0 from by omega) (show (0 + 0) ≤ 0 from by omega) dX8_clock_30
theorem k_X8_clock {p : Program} {l : Launch} {e : Env} {R : Room} {s : State} {m : MethodId} {args : Array Value} {below : List Frame} {meth : Method} {c : Code} {H : Heap} {locs : List Loc} {cells slots : Nat} {Q : State → Prop} {cc : ByteArray} {pc nL : Nat} {ls : Array Slot} {rest : List Value} {G : GT} {S : St} {own : String}  {post : Int64 → St → Prop} {lv : List (Nat × Value)} {idx : Nat} (F : CX p m c cc nL s args own) (hw : WW G S s H locs) (hl : lv_has ls nL lv) {a0 : Nat} (hA0 : AtO S 7 0 a0) (hQ : wp_X8_clock S post) (h1 : Cond.methodLink own idx yX8_clock ∈ wT) (hR1 : 1 + 1 ≤ R.frames) (hR2 : 8 + (1 + 11) + 22 ≤ R.locals) (hrest : (rest.map fun v => v.category).sum ≤ 8) (hdg : decode cc pc = .ok (.invokevirtual idx, 3)) (hf1 : cells + 0 ≤ R.cells) (hf2 : slots + 0 ≤ R.slots)
    (kk : ∀ (r : Int64) (S1 : St) (H1 : Heap) (locs1 : List Loc), post r S1 → WW G S1 s H1 locs1 → Ext S S1 → W p l e R s m args below meth c H1 locs1 (cells + 0) (slots + 0) Q (F0 m (pc + 3) ls (.long r :: rest))) : W p l e R s m args below meth c H locs cells slots Q (F0 m pc ls (.ref a0 :: rest)) :=
  cl_l (rn_V (n := 0) (As := []) (q := (RX8, TX8, 11)) F hw hl (m_X8_clock l G  S a0 hA0 post hQ) 7 (by decide) (by decide) hA0 rfl rfl h1 twi_yX8_clock tws_yX8_clock twn_RX8 two_yX8_clock rfl rfl ⟨rfl, by decide, by decide, by decide +kernel⟩ rfl ⟨hR1, hR2⟩ rfl hrest hdg ⟨hf1, hf2⟩) hw kk
-- X5_isTiedWith
def wp_X5_isTiedWith (j0 : Nat) (p1 : Int32) (S0 : St) (post : Int32 → St → Prop) : Prop :=
  (p1 < 0 →
  post (0 : Int32) S0) ∧
  (¬ p1 < 0 →
  ((30 : Int32) ≤ p1 →
  post (0 : Int32) S0) ∧
  (¬ (30 : Int32) ≤ p1 →
  (((((gi S0 5 j0 11).toUInt32 >>> (p1.toUInt32 &&& Int32.toUInt32 31)).toInt32) &&& (1 : Int32)) = 0 →
  post (0 : Int32) S0) ∧
  (¬ ((((gi S0 5 j0 11).toUInt32 >>> (p1.toUInt32 &&& Int32.toUInt32 31)).toInt32) &&& (1 : Int32)) = 0 →
  post (1 : Int32) S0)))
set_option maxRecDepth 100000 in
set_option maxHeartbeats 4000000 in
theorem m_X5_isTiedWith (l : Launch) (G : GT) (j0 : Nat) (p1 : Int32) (S0 : St) (a0 : Nat) (hA0 : AtO S0 5 j0 a0) (post : Int32 → St → Prop) (hQ : wp_X5_isTiedWith j0 p1 S0 post) : Met l yX5_isTiedWith (wM yX5_isTiedWith cX5_isTiedWith 2 (some (FieldType.boolean))) ({ frames := 0, cells := 0, slots := 0, locals := 0 } : Room) (PC G S0 [.ref a0, .int p1]) (QI G S0 post) 0 0 (QA G) := by
  refine mt_start RX5 (by decide) rfl (Nat.le_of_ble_eq_true rfl) ?_
  intro p e s m args below meth c ls F hr hlk hnm hw hl
  have hx := F.1
  have hb := F.2.1
  have hown := F.2.2.2.1
  have hts := F.2.2.2.2
  have hX : Ext S0 S0 := Ext.rf
  have hsz0 := hw.1.1.1
  have hl : lv_has ls 2 [(0, .ref a0), (1, .int p1)] := hl
  unfold wp_X5_isTiedWith at hQ
  refine lv_iload_n hx hb dX5_isTiedWith_0 rfl (lv_at hl 1 rfl) ?_
  refine lv_if_lt (tgt := 25) hx hb dX5_isTiedWith_1 (by decide) (fun hc => ?_) (fun hc => ?_)
  · have hQ := hQ.1 hc
    refine lv_iconst (v := 0) hx hb dX5_isTiedWith_25 (by decide) ?_
    exact rt_z F hr hlk hw hX hQ rfl (show 0 ≤ 0 from by omega) (show 0 ≤ 0 from by omega) dX5_isTiedWith_26
  · have hQ := hQ.2 hc
    refine lv_iload_n hx hb dX5_isTiedWith_4 rfl (lv_at hl 1 rfl) ?_
    refine lv_bipush (v := 30) hx hb dX5_isTiedWith_5 (by decide) ?_
    refine lv_icmp_ge (tgt := 25) hx hb dX5_isTiedWith_7 (by decide) (fun hc => ?_) (fun hc => ?_)
    · have hQ := hQ.1 hc
      refine lv_iconst (v := 0) hx hb dX5_isTiedWith_25 (by decide) ?_
      exact rt_z F hr hlk hw hX hQ rfl (show 0 ≤ 0 from by omega) (show 0 ≤ 0 from by omega) dX5_isTiedWith_26
    · have hQ := hQ.2 hc
      refine lv_aload_n hx hb dX5_isTiedWith_10 rfl (lv_at hl 0 rfl) ?_
      refine g_5_11 F hw hA0 twf_RX5_46 dX5_isTiedWith_11 ?_
      refine lv_iload_n hx hb dX5_isTiedWith_14 rfl (lv_at hl 1 rfl) ?_
      refine lv_iushr hx hb dX5_isTiedWith_15 rfl ?_
      refine lv_iconst (v := 1) hx hb dX5_isTiedWith_16 (by decide) ?_
      refine lv_iand hx hb dX5_isTiedWith_17 ?_
      refine lv_if_eq (tgt := 25) hx hb dX5_isTiedWith_18 (by decide) (fun hc => ?_) (fun hc => ?_)
      · have hQ := hQ.1 hc
        refine lv_iconst (v := 0) hx hb dX5_isTiedWith_25 (by decide) ?_
        exact rt_z F hr hlk hw hX hQ rfl (show 0 ≤ 0 from by omega) (show 0 ≤ 0 from by omega) dX5_isTiedWith_26
      · have hQ := hQ.2 hc
        refine lv_iconst (v := 1) hx hb dX5_isTiedWith_21 (by decide) ?_
        refine lv_goto (tgt := 26) hx hb dX5_isTiedWith_22 (by decide) ?_
        exact rt_z F hr hlk hw hX hQ rfl (show 0 ≤ 0 from by omega) (show 0 ≤ 0 from by omega) dX5_isTiedWith_26
theorem k_X5_isTiedWith {p : Program} {l : Launch} {e : Env} {R : Room} {s : State} {m : MethodId} {args : Array Value} {below : List Frame} {meth : Method} {c : Code} {H : Heap} {locs : List Loc} {cells slots : Nat} {Q : State → Prop} {cc : ByteArray} {pc nL : Nat} {ls : Array Slot} {rest : List Value} {G : GT} {S : St} {own : String} {j0 : Nat} {p1 : Int32} {post : Int32 → St → Prop} {lv : List (Nat × Value)} {idx : Nat} (F : CX p m c cc nL s args own) (hw : WW G S s H locs) (hl : lv_has ls nL lv) {a0 : Nat} (hA0 : AtO S 5 j0 a0) (hQ : wp_X5_isTiedWith j0 p1 S post) (h1 : Cond.methodLink own idx yX5_isTiedWith ∈ wT) (hR1 : 0 + 1 ≤ R.frames) (hR2 : 8 + (2 + 11) + 0 ≤ R.locals) (hrest : (rest.map fun v => v.category).sum ≤ 8) (hdg : decode cc pc = .ok (.invokevirtual idx, 3)) (hf1 : cells + 0 ≤ R.cells) (hf2 : slots + 0 ≤ R.slots)
    (kk : ∀ (r : Int32) (S1 : St) (H1 : Heap) (locs1 : List Loc), post r S1 → WW G S1 s H1 locs1 → Ext S S1 → W p l e R s m args below meth c H1 locs1 (cells + 0) (slots + 0) Q (F0 m (pc + 3) ls (.int r :: rest))) : W p l e R s m args below meth c H locs cells slots Q (F0 m pc ls (.int p1 :: .ref a0 :: rest)) :=
  cl_i (rn_V (n := 1) (As := [.int p1]) (q := (RX5, TX5, 12)) F hw hl (m_X5_isTiedWith l G j0 p1 S a0 hA0 post hQ) 5 (by decide) (by decide) hA0 rfl rfl h1 twi_yX5_isTiedWith tws_yX5_isTiedWith twn_RX5 two_yX5_isTiedWith rfl rfl ⟨rfl, by decide, by decide, by decide +kernel⟩ rfl ⟨hR1, hR2⟩ rfl hrest hdg ⟨hf1, hf2⟩) hw kk
-- X8_tie
def bd_X8_tie_22 (p2 : Int32) (j3 : Nat) (post : Int32 → St → Prop) (K22 : Int32 → Int32 → St → Prop) (x5_22 : Int32) (x4_22 : Int32) (S4 : St) : Prop :=
  ((gi S4 7 0 7) ≤ x5_22 →
  post (-1 : Int32) S4) ∧
  (¬ (gi S4 7 0 7) ≤ x5_22 →
  wp_X5_isTiedWith j3 x5_22 S4 (fun r6 S5 =>
  (r6 = 0 →
  ∀ v7 : Int32, v7 = x5_22 + (1 : Int32) →
  K22 v7 x4_22 S5) ∧
  (¬ r6 = 0 →
  (¬ x4_22 = p2 →
  ∀ v8 : Int32, v8 = x4_22 + (1 : Int32) →
  ∀ v9 : Int32, v9 = x5_22 + (1 : Int32) →
  K22 v9 v8 S5) ∧
  (x4_22 = p2 →
  post x5_22 S5))))
def lp_X8_tie_22 (p2 : Int32) (j3 : Nat) (post : Int32 → St → Prop) : Nat → Int32 → Int32 → St → Prop
  | 0, _, _, _ => False
  | n + 1, x5_22, x4_22, S4 => bd_X8_tie_22 p2 j3 post (fun x5_22 x4_22 S4 => lp_X8_tie_22 p2 j3 post n x5_22 x4_22 S4) x5_22 x4_22 S4
def wp_X8_tie (p1 : Int32) (p2 : Int32) (S0 : St) (post : Int32 → St → Prop) : Prop :=
  wp_X8_lotAt p1 S0 (fun r2 S1 =>
  (r2 = none →
  post (-1 : Int32) S1) ∧
  (∀ j3 : Nat, r2 = some j3 →
  (0 ≤ p2 →
  ∃ n : Nat, lp_X8_tie_22 p2 j3 post n (0 : Int32) (0 : Int32) S1) ∧
  (¬ 0 ≤ p2 →
  post (-1 : Int32) S1)))
set_option maxRecDepth 100000 in
set_option maxHeartbeats 4000000 in
theorem m_X8_tie (l : Launch) (G : GT) (p1 : Int32) (p2 : Int32) (S0 : St) (a0 : Nat) (hA0 : AtO S0 7 0 a0) (post : Int32 → St → Prop) (hQ : wp_X8_tie p1 p2 S0 post) : Met l yX8_tie (wM yX8_tie cX8_tie 6 (some (FieldType.int))) ({ frames := 1, cells := 0, slots := 0, locals := 21 } : Room) (PC G S0 [.ref a0, .int p1, .int p2]) (QI G S0 post) 0 0 (QA G) := by
  refine mt_start RX8 (by decide) rfl (Nat.le_of_ble_eq_true rfl) ?_
  intro p e s m args below meth c ls F hr hlk hnm hw hl
  have hx := F.1
  have hb := F.2.1
  have hown := F.2.2.2.1
  have hts := F.2.2.2.2
  have hX : Ext S0 S0 := Ext.rf
  have hsz0 := hw.1.1.1
  have hl : lv_has ls 6 [(0, .ref a0), (1, .int p1), (2, .int p2)] := hl
  unfold wp_X8_tie at hQ
  refine lv_aload_n hx hb dX8_tie_0 rfl (lv_at hl 0 rfl) ?_
  refine lv_iload_n hx hb dX8_tie_1 rfl (lv_at hl 1 rfl) ?_
  refine k_X8_lotAt F hw hl hA0 hQ twm_RX8_69 (Nat.le_of_ble_eq_true rfl) (Nat.le_of_ble_eq_true rfl) (Nat.le_of_ble_eq_true rfl) dX8_tie_2 (show 0 + 0 ≤ 0 from by omega) (show 0 + 0 ≤ 0 from by omega) (fun S1 H locs hQ hw hx1 => ?_) (fun j3 a3 S1 H locs hQ hA3 hw hx1 => ?_)
  · have hQ := hQ.1 rfl
    have hX := hX.trans hx1
    have hA0 := hA0.ext hx1
    refine lv_astore_nN (lv' := [(3, .null), (0, .ref a0), (1, .int p1), (2, .int p2)]) hx hb dX8_tie_5 rfl hl (by decide) rfl (fun ls hl => ?_)
    refine lv_aload_nN hx hb dX8_tie_6 rfl (lv_at hl 0 rfl) ?_
    refine lv_ifnullN (tgt := 14) hx hb dX8_tie_7 (by decide) ?_
    refine lv_iconst (v := -1) hx hb dX8_tie_14 (by decide) ?_
    exact rt_i F hr hlk hw hX hQ (show (0 + 0) ≤ 0 from by omega) (show (0 + 0) ≤ 0 from by omega) dX8_tie_15
  · have hQ := hQ.2 j3 rfl
    have hX := hX.trans hx1
    have hA0 := hA0.ext hx1
    refine lv_astore_n (lv' := [(3, .ref a3), (0, .ref a0), (1, .int p1), (2, .int p2)]) hx hb dX8_tie_5 rfl hl (by decide) rfl (fun ls hl => ?_)
    refine lv_aload_n hx hb dX8_tie_6 rfl (lv_at hl 0 rfl) ?_
    refine lv_ifnull hx hb dX8_tie_7 ?_
    refine lv_iload_n hx hb dX8_tie_10 rfl (lv_at hl 3 rfl) ?_
    refine lv_if_ge (tgt := 16) hx hb dX8_tie_11 (by decide) (fun hc => ?_) (fun hc => ?_)
    · have hQ := hQ.1 hc
      refine lv_iconst (v := 0) hx hb dX8_tie_16 (by decide) ?_
      refine lv_istore (lv' := [(4, .int (0 : Int32)), (3, .ref a3), (0, .ref a0), (1, .int p1), (2, .int p2)]) hx hb dX8_tie_17 hl (by decide) rfl (fun ls hl => ?_)
      refine lv_iconst (v := 0) hx hb dX8_tie_19 (by decide) ?_
      refine lv_istore (lv' := [(5, .int (0 : Int32)), (4, .int (0 : Int32)), (3, .ref a3), (0, .ref a0), (1, .int p1), (2, .int p2)]) hx hb dX8_tie_20 hl (by decide) rfl (fun ls hl => ?_)
      have hloop22 : ∀ (n22 : Nat) (x5_22 : Int32) (x4_22 : Int32) (S4 : St) (H : Heap) (locs : List Loc) (ls : Array Slot) (cl22 sl22 : Nat), lp_X8_tie_22 p2 j3 post n22 x5_22 x4_22 S4 → WW G S4 s H locs → Ext S0 S4 → AtO S4 5 j3 a3 → AtO S4 7 0 a0 → lv_has ls 6 [(5, .int x5_22), (4, .int x4_22), (3, .ref a3), (0, .ref a0), (2, .int p2)] → cl22 ≤ (0 + 0) + 0 → sl22 ≤ (0 + 0) + 0 → W p l e ({ frames := 1, cells := 0, slots := 0, locals := 21 } : Room) s m args below meth c H locs cl22 sl22 (MQ below (QI G S0 post) args s 0 0 (QA G)) (F0 m 22 ls []) := by
        intro n22
        induction n22 with
        | zero => intro x5_22 x4_22 S4 H locs ls cl sl hQ; exact False.elim hQ
        | succ n22 ih22 =>
          intro x5_22 x4_22 S4 H locs ls cl22 sl22 hQ hw hX hA3 hA0 hl hcl22 hsl22
          have hQ : bd_X8_tie_22 p2 j3 post (fun x5_22 x4_22 S4 => lp_X8_tie_22 p2 j3 post n22 x5_22 x4_22 S4) x5_22 x4_22 S4 := hQ
          unfold bd_X8_tie_22 at hQ
          refine lv_iload hx hb dX8_tie_22 (lv_at hl 0 rfl) ?_
          refine lv_aload_n hx hb dX8_tie_24 rfl (lv_at hl 3 rfl) ?_
          refine g_7_7 F hw hA0 twf_RX8_60 dX8_tie_25 ?_
          refine lv_icmp_ge (tgt := 58) hx hb dX8_tie_28 (by decide) (fun hc => ?_) (fun hc => ?_)
          · have hQ := hQ.1 hc
            refine lv_iconst (v := -1) hx hb dX8_tie_58 (by decide) ?_
            exact rt_i F hr hlk hw hX hQ (show cl22 ≤ 0 from by omega) (show sl22 ≤ 0 from by omega) dX8_tie_59
          · have hQ := hQ.2 hc
            refine lv_aload_n hx hb dX8_tie_31 rfl (lv_at hl 2 rfl) ?_
            refine lv_iload hx hb dX8_tie_32 (lv_at hl 0 rfl) ?_
            refine k_X5_isTiedWith F hw hl hA3 hQ twm_RX8_232 (Nat.le_of_ble_eq_true rfl) (Nat.le_of_ble_eq_true rfl) (Nat.le_of_ble_eq_true rfl) dX8_tie_34 (show cl22 + 0 ≤ 0 from by omega) (show sl22 + 0 ≤ 0 from by omega) (fun r6 S5 H locs hQ hw hx1 => ?_)
            have hX := hX.trans hx1
            have hA3 := hA3.ext hx1
            have hA0 := hA0.ext hx1
            refine lv_if_eq (tgt := 52) hx hb dX8_tie_37 (by decide) (fun hc => ?_) (fun hc => ?_)
            · have hQ := hQ.1 hc
              obtain ⟨v7, ev7⟩ : ∃ y : Int32, y = x5_22 + (1 : Int32) := ⟨_, rfl⟩
              have hQ := hQ v7 ev7
              refine lv_iinc (v := v7) (lv' := [(5, .int v7), (4, .int x4_22), (3, .ref a3), (0, .ref a0), (2, .int p2)]) hx hb dX8_tie_52 hl (k := 0) rfl (by rw [ev7]; rfl) (by decide) rfl (fun ls hl => ?_)
              refine lv_goto (tgt := 22) hx hb dX8_tie_55 (by decide) ?_
              exact ih22 v7 x4_22 S5 _ _ _ _ _ hQ hw hX hA3 hA0 (lv_sub hl [0, 1, 2, 3, 4] rfl) (by omega) (by omega)
            · have hQ := hQ.2 hc
              refine lv_iload hx hb dX8_tie_40 (lv_at hl 1 rfl) ?_
              refine lv_iload_n hx hb dX8_tie_42 rfl (lv_at hl 4 rfl) ?_
              refine lv_icmp_ne (tgt := 49) hx hb dX8_tie_43 (by decide) (fun hc => ?_) (fun hc => ?_)
              · have hQ := hQ.1 hc
                obtain ⟨v8, ev8⟩ : ∃ y : Int32, y = x4_22 + (1 : Int32) := ⟨_, rfl⟩
                have hQ := hQ v8 ev8
                refine lv_iinc (v := v8) (lv' := [(4, .int v8), (5, .int x5_22), (3, .ref a3), (0, .ref a0), (2, .int p2)]) hx hb dX8_tie_49 hl (k := 1) rfl (by rw [ev8]; rfl) (by decide) rfl (fun ls hl => ?_)
                obtain ⟨v9, ev9⟩ : ∃ y : Int32, y = x5_22 + (1 : Int32) := ⟨_, rfl⟩
                have hQ := hQ v9 ev9
                refine lv_iinc (v := v9) (lv' := [(5, .int v9), (4, .int v8), (3, .ref a3), (0, .ref a0), (2, .int p2)]) hx hb dX8_tie_52 hl (k := 1) rfl (by rw [ev9]; rfl) (by decide) rfl (fun ls hl => ?_)
                refine lv_goto (tgt := 22) hx hb dX8_tie_55 (by decide) ?_
                exact ih22 v9 v8 S5 _ _ _ _ _ hQ hw hX hA3 hA0 (lv_sub hl [0, 1, 2, 3, 4] rfl) (by omega) (by omega)
              · have hQ := hQ.2 hc
                refine lv_iload hx hb dX8_tie_46 (lv_at hl 0 rfl) ?_
                exact rt_i F hr hlk hw hX hQ (show (cl22 + 0) ≤ 0 from by omega) (show (sl22 + 0) ≤ 0 from by omega) dX8_tie_48
      obtain ⟨n, hQ⟩ := hQ
      exact hloop22 n (0 : Int32) (0 : Int32) S1 _ _ _ _ _ hQ hw hX hA3 hA0 (lv_sub hl [0, 1, 2, 3, 5] rfl) (by omega) (by omega)
    · have hQ := hQ.2 hc
      refine lv_iconst (v := -1) hx hb dX8_tie_14 (by decide) ?_
      exact rt_i F hr hlk hw hX hQ (show (0 + 0) ≤ 0 from by omega) (show (0 + 0) ≤ 0 from by omega) dX8_tie_15
theorem k_X8_tie {p : Program} {l : Launch} {e : Env} {R : Room} {s : State} {m : MethodId} {args : Array Value} {below : List Frame} {meth : Method} {c : Code} {H : Heap} {locs : List Loc} {cells slots : Nat} {Q : State → Prop} {cc : ByteArray} {pc nL : Nat} {ls : Array Slot} {rest : List Value} {G : GT} {S : St} {own : String} {p1 : Int32} {p2 : Int32} {post : Int32 → St → Prop} {lv : List (Nat × Value)} {idx : Nat} (F : CX p m c cc nL s args own) (hw : WW G S s H locs) (hl : lv_has ls nL lv) {a0 : Nat} (hA0 : AtO S 7 0 a0) (hQ : wp_X8_tie p1 p2 S post) (h1 : Cond.methodLink own idx yX8_tie ∈ wT) (hR1 : 1 + 1 ≤ R.frames) (hR2 : 8 + (6 + 11) + 21 ≤ R.locals) (hrest : (rest.map fun v => v.category).sum ≤ 8) (hdg : decode cc pc = .ok (.invokevirtual idx, 3)) (hf1 : cells + 0 ≤ R.cells) (hf2 : slots + 0 ≤ R.slots)
    (kk : ∀ (r : Int32) (S1 : St) (H1 : Heap) (locs1 : List Loc), post r S1 → WW G S1 s H1 locs1 → Ext S S1 → W p l e R s m args below meth c H1 locs1 (cells + 0) (slots + 0) Q (F0 m (pc + 3) ls (.int r :: rest))) : W p l e R s m args below meth c H locs cells slots Q (F0 m pc ls (.int p2 :: .int p1 :: .ref a0 :: rest)) :=
  cl_i (rn_V (n := 2) (As := [.int p1, .int p2]) (q := (RX8, TX8, 11)) F hw hl (m_X8_tie l G p1 p2 S a0 hA0 post hQ) 7 (by decide) (by decide) hA0 rfl rfl h1 twi_yX8_tie tws_yX8_tie twn_RX8 two_yX8_tie rfl rfl ⟨rfl, by decide, by decide, by decide +kernel⟩ rfl ⟨hR1, hR2⟩ rfl hrest hdg ⟨hf1, hf2⟩) hw kk
-- X5_leastOffer
def wp_X5_leastOffer (j0 : Nat) (S0 : St) (post : Int64 → St → Prop) : Prop :=
  (¬ (gr S0 5 j0 4) = (some 2) →
  post (gj S0 5 j0 3) S0) ∧
  ((gr S0 5 j0 4) = (some 2) →
  post ((gj S0 5 j0 6) + (if ((gj S0 5 j0 6) / (20 : Int64)) < (1 : Int64) then (1 : Int64) else ((gj S0 5 j0 6) / (20 : Int64)))) S0)
set_option maxRecDepth 100000 in
set_option maxHeartbeats 4000000 in
theorem m_X5_leastOffer (l : Launch) (G : GT) (j0 : Nat) (S0 : St) (a0 : Nat) (hA0 : AtO S0 5 j0 a0) (post : Int64 → St → Prop) (hQ : wp_X5_leastOffer j0 S0 post) : Met l yX5_leastOffer (wM yX5_leastOffer cX5_leastOffer 1 (some (FieldType.long))) ({ frames := 1, cells := 0, slots := 0, locals := 17 } : Room) (PC G S0 [.ref a0]) (QJ G S0 post) 0 0 (QA G) := by
  refine mt_start RX5 (by decide) rfl (Nat.le_of_ble_eq_true rfl) ?_
  intro p e s m args below meth c ls F hr hlk hnm hw hl
  have hx := F.1
  have hb := F.2.1
  have hown := F.2.2.2.1
  have hts := F.2.2.2.2
  have hX : Ext S0 S0 := Ext.rf
  have hsz0 := hw.1.1.1
  have hl : lv_has ls 1 [(0, .ref a0)] := hl
  unfold wp_X5_leastOffer at hQ
  refine lv_aload_n hx hb dX5_leastOffer_0 rfl (lv_at hl 0 rfl) ?_
  have he1 := ww_es hw j0
  refine g_5_4 F hw hA0 twf_RX5_31 dX5_leastOffer_1 ?_
  refine pw_gets F hw 2 (by decide) rfl twf_RX5_40 dX5_leastOffer_4 ?_
  refine pw_acmp_ne (tgt := 30) F hw (by decide) he1 dX5_leastOffer_7 (by decide) (fun hc => ?_) (fun hc => ?_)
  · have hQ := hQ.1 hc
    refine lv_aload_n hx hb dX5_leastOffer_30 rfl (lv_at hl 0 rfl) ?_
    refine g_5_3 F hw hA0 twf_RX5_22 dX5_leastOffer_31 ?_
    exact rt_l F hr hlk hw hX hQ (show 0 ≤ 0 from by omega) (show 0 ≤ 0 from by omega) dX5_leastOffer_34
  · have hQ := hQ.2 hc
    refine lv_aload_n hx hb dX5_leastOffer_10 rfl (lv_at hl 0 rfl) ?_
    refine g_5_6 F hw hA0 twf_RX5_49 dX5_leastOffer_11 ?_
    refine lv_lconst (v := 1) hx hb dX5_leastOffer_14 (by decide) ?_
    refine lv_aload_n hx hb dX5_leastOffer_15 rfl (lv_at hl 0 rfl) ?_
    refine g_5_6 F hw hA0 twf_RX5_49 dX5_leastOffer_16 ?_
    refine lv_ldc2 (v := 20) hx hb hown (hts _ twl_RX5_52) dX5_leastOffer_19 ?_
    refine lv_ldiv hx hb dX5_leastOffer_22 (by decide) ?_
    refine mx_l F hl twm_RX5_54 dX5_leastOffer_23 (Nat.le_of_ble_eq_true rfl) (Nat.le_of_ble_eq_true rfl) (show 0 ≤ 0 from by omega) (show 0 ≤ 0 from by omega) ?_
    refine lv_ladd hx hb dX5_leastOffer_26 ?_
    refine lv_goto (tgt := 34) hx hb dX5_leastOffer_27 (by decide) ?_
    exact rt_l F hr hlk hw hX hQ (show 0 ≤ 0 from by omega) (show 0 ≤ 0 from by omega) dX5_leastOffer_34
theorem k_X5_leastOffer {p : Program} {l : Launch} {e : Env} {R : Room} {s : State} {m : MethodId} {args : Array Value} {below : List Frame} {meth : Method} {c : Code} {H : Heap} {locs : List Loc} {cells slots : Nat} {Q : State → Prop} {cc : ByteArray} {pc nL : Nat} {ls : Array Slot} {rest : List Value} {G : GT} {S : St} {own : String} {j0 : Nat} {post : Int64 → St → Prop} {lv : List (Nat × Value)} {idx : Nat} (F : CX p m c cc nL s args own) (hw : WW G S s H locs) (hl : lv_has ls nL lv) {a0 : Nat} (hA0 : AtO S 5 j0 a0) (hQ : wp_X5_leastOffer j0 S post) (h1 : Cond.methodLink own idx yX5_leastOffer ∈ wT) (hR1 : 1 + 1 ≤ R.frames) (hR2 : 8 + (1 + 11) + 17 ≤ R.locals) (hrest : (rest.map fun v => v.category).sum ≤ 8) (hdg : decode cc pc = .ok (.invokevirtual idx, 3)) (hf1 : cells + 0 ≤ R.cells) (hf2 : slots + 0 ≤ R.slots)
    (kk : ∀ (r : Int64) (S1 : St) (H1 : Heap) (locs1 : List Loc), post r S1 → WW G S1 s H1 locs1 → Ext S S1 → W p l e R s m args below meth c H1 locs1 (cells + 0) (slots + 0) Q (F0 m (pc + 3) ls (.long r :: rest))) : W p l e R s m args below meth c H locs cells slots Q (F0 m pc ls (.ref a0 :: rest)) :=
  cl_l (rn_V (n := 0) (As := []) (q := (RX5, TX5, 12)) F hw hl (m_X5_leastOffer l G j0 S a0 hA0 post hQ) 5 (by decide) (by decide) hA0 rfl rfl h1 twi_yX5_leastOffer tws_yX5_leastOffer twn_RX5 two_yX5_leastOffer rfl rfl ⟨rfl, by decide, by decide, by decide +kernel⟩ rfl ⟨hR1, hR2⟩ rfl hrest hdg ⟨hf1, hf2⟩) hw kk
-- X5_offerOf
def wp_X5_offerOf (j0 : Nat) (p1 : Int32) (S0 : St) (post : Int64 → St → Prop) : Prop :=
  (¬ (gr S0 5 j0 4) = (some 2) →
  post (0 : Int64) S0) ∧
  ((gr S0 5 j0 4) = (some 2) →
  (¬ (gi S0 5 j0 5) = p1 →
  post (0 : Int64) S0) ∧
  ((gi S0 5 j0 5) = p1 →
  post (gj S0 5 j0 6) S0))
set_option maxRecDepth 100000 in
set_option maxHeartbeats 4000000 in
theorem m_X5_offerOf (l : Launch) (G : GT) (j0 : Nat) (p1 : Int32) (S0 : St) (a0 : Nat) (hA0 : AtO S0 5 j0 a0) (post : Int64 → St → Prop) (hQ : wp_X5_offerOf j0 p1 S0 post) : Met l yX5_offerOf (wM yX5_offerOf cX5_offerOf 2 (some (FieldType.long))) ({ frames := 0, cells := 0, slots := 0, locals := 0 } : Room) (PC G S0 [.ref a0, .int p1]) (QJ G S0 post) 0 0 (QA G) := by
  refine mt_start RX5 (by decide) rfl (Nat.le_of_ble_eq_true rfl) ?_
  intro p e s m args below meth c ls F hr hlk hnm hw hl
  have hx := F.1
  have hb := F.2.1
  have hown := F.2.2.2.1
  have hts := F.2.2.2.2
  have hX : Ext S0 S0 := Ext.rf
  have hsz0 := hw.1.1.1
  have hl : lv_has ls 2 [(0, .ref a0), (1, .int p1)] := hl
  unfold wp_X5_offerOf at hQ
  refine lv_aload_n hx hb dX5_offerOf_0 rfl (lv_at hl 0 rfl) ?_
  have he1 := ww_es hw j0
  refine g_5_4 F hw hA0 twf_RX5_31 dX5_offerOf_1 ?_
  refine pw_gets F hw 2 (by decide) rfl twf_RX5_40 dX5_offerOf_4 ?_
  refine pw_acmp_ne (tgt := 25) F hw (by decide) he1 dX5_offerOf_7 (by decide) (fun hc => ?_) (fun hc => ?_)
  · have hQ := hQ.1 hc
    refine lv_lconst (v := 0) hx hb dX5_offerOf_25 (by decide) ?_
    exact rt_l F hr hlk hw hX hQ (show 0 ≤ 0 from by omega) (show 0 ≤ 0 from by omega) dX5_offerOf_26
  · have hQ := hQ.2 hc
    refine lv_aload_n hx hb dX5_offerOf_10 rfl (lv_at hl 0 rfl) ?_
    refine g_5_5 F hw hA0 twf_RX5_34 dX5_offerOf_11 ?_
    refine lv_iload_n hx hb dX5_offerOf_14 rfl (lv_at hl 1 rfl) ?_
    refine lv_icmp_ne (tgt := 25) hx hb dX5_offerOf_15 (by decide) (fun hc => ?_) (fun hc => ?_)
    · have hQ := hQ.1 hc
      refine lv_lconst (v := 0) hx hb dX5_offerOf_25 (by decide) ?_
      exact rt_l F hr hlk hw hX hQ (show 0 ≤ 0 from by omega) (show 0 ≤ 0 from by omega) dX5_offerOf_26
    · have hQ := hQ.2 hc
      refine lv_aload_n hx hb dX5_offerOf_18 rfl (lv_at hl 0 rfl) ?_
      refine g_5_6 F hw hA0 twf_RX5_49 dX5_offerOf_19 ?_
      refine lv_goto (tgt := 26) hx hb dX5_offerOf_22 (by decide) ?_
      exact rt_l F hr hlk hw hX hQ (show 0 ≤ 0 from by omega) (show 0 ≤ 0 from by omega) dX5_offerOf_26
theorem k_X5_offerOf {p : Program} {l : Launch} {e : Env} {R : Room} {s : State} {m : MethodId} {args : Array Value} {below : List Frame} {meth : Method} {c : Code} {H : Heap} {locs : List Loc} {cells slots : Nat} {Q : State → Prop} {cc : ByteArray} {pc nL : Nat} {ls : Array Slot} {rest : List Value} {G : GT} {S : St} {own : String} {j0 : Nat} {p1 : Int32} {post : Int64 → St → Prop} {lv : List (Nat × Value)} {idx : Nat} (F : CX p m c cc nL s args own) (hw : WW G S s H locs) (hl : lv_has ls nL lv) {a0 : Nat} (hA0 : AtO S 5 j0 a0) (hQ : wp_X5_offerOf j0 p1 S post) (h1 : Cond.methodLink own idx yX5_offerOf ∈ wT) (hR1 : 0 + 1 ≤ R.frames) (hR2 : 8 + (2 + 11) + 0 ≤ R.locals) (hrest : (rest.map fun v => v.category).sum ≤ 8) (hdg : decode cc pc = .ok (.invokevirtual idx, 3)) (hf1 : cells + 0 ≤ R.cells) (hf2 : slots + 0 ≤ R.slots)
    (kk : ∀ (r : Int64) (S1 : St) (H1 : Heap) (locs1 : List Loc), post r S1 → WW G S1 s H1 locs1 → Ext S S1 → W p l e R s m args below meth c H1 locs1 (cells + 0) (slots + 0) Q (F0 m (pc + 3) ls (.long r :: rest))) : W p l e R s m args below meth c H locs cells slots Q (F0 m pc ls (.int p1 :: .ref a0 :: rest)) :=
  cl_l (rn_V (n := 1) (As := [.int p1]) (q := (RX5, TX5, 12)) F hw hl (m_X5_offerOf l G j0 p1 S a0 hA0 post hQ) 5 (by decide) (by decide) hA0 rfl rfl h1 twi_yX5_offerOf tws_yX5_offerOf twn_RX5 two_yX5_offerOf rfl rfl ⟨rfl, by decide, by decide, by decide +kernel⟩ rfl ⟨hR1, hR2⟩ rfl hrest hdg ⟨hf1, hf2⟩) hw kk
-- X8_rise
def wp_X8_rise (p1 : Int32) (p2 : Int32) (p3 : Int64) (S0 : St) (post : Int32 → St → Prop) : Prop :=
  wp_X8_lotAt p1 S0 (fun r2 S1 =>
  (r2 = none →
  wp_X8_buyerAt p2 S1 (fun r5 S4 =>
  (r5 = none →
  post (1 : Int32) S4) ∧
  (∀ j6 : Nat, r5 = some j6 →
  post (1 : Int32) S4))) ∧
  (∀ j3 : Nat, r2 = some j3 →
  wp_X8_buyerAt p2 S1 (fun r8 S7 =>
  (r8 = none →
  post (1 : Int32) S7) ∧
  (∀ j9 : Nat, r8 = some j9 →
  ((gr S7 5 j3 4) = (some 0) →
  wp_X5_leastOffer j3 S7 (fun r12 S11 =>
  (r12 ≤ p3 →
  wp_X8_freeOf j9 S11 (fun r14 S13 =>
  wp_X5_offerOf j3 p2 S13 (fun r16 S15 =>
  (p3 ≤ (r14 + r16) →
  ∀ S17 : St, S17 = sr S15 5 j3 4 (some 2) →
  ∀ S18 : St, S18 = si S17 5 j3 5 p2 →
  ∀ S19 : St, S19 = sj S18 5 j3 6 p3 →
  ∀ S20 : St, S20 = sj S19 5 j3 7 (gj S19 7 0 9) →
  post (0 : Int32) S20) ∧
  (¬ p3 ≤ (r14 + r16) →
  post (4 : Int32) S15)))) ∧
  (¬ r12 ≤ p3 →
  post (3 : Int32) S11))) ∧
  (¬ (gr S7 5 j3 4) = (some 0) →
  ((gr S7 5 j3 4) = (some 2) →
  wp_X5_leastOffer j3 S7 (fun r23 S22 =>
  (r23 ≤ p3 →
  wp_X8_freeOf j9 S22 (fun r25 S24 =>
  wp_X5_offerOf j3 p2 S24 (fun r27 S26 =>
  (p3 ≤ (r25 + r27) →
  ∀ S28 : St, S28 = sr S26 5 j3 4 (some 2) →
  ∀ S29 : St, S29 = si S28 5 j3 5 p2 →
  ∀ S30 : St, S30 = sj S29 5 j3 6 p3 →
  ∀ S31 : St, S31 = sj S30 5 j3 7 (gj S30 7 0 9) →
  post (0 : Int32) S31) ∧
  (¬ p3 ≤ (r25 + r27) →
  post (4 : Int32) S26)))) ∧
  (¬ r23 ≤ p3 →
  post (3 : Int32) S22))) ∧
  (¬ (gr S7 5 j3 4) = (some 2) →
  post (2 : Int32) S7))))))
set_option maxRecDepth 100000 in
set_option maxHeartbeats 4000000 in
theorem m_X8_rise (l : Launch) (G : GT) (p1 : Int32) (p2 : Int32) (p3 : Int64) (S0 : St) (a0 : Nat) (hA0 : AtO S0 7 0 a0) (post : Int32 → St → Prop) (hQ : wp_X8_rise p1 p2 p3 S0 post) : Met l yX8_rise (wM yX8_rise cX8_rise 7 (some (FieldType.int))) ({ frames := 2, cells := 0, slots := 0, locals := 46 } : Room) (PC G S0 [.ref a0, .int p1, .int p2, .long p3]) (QI G S0 post) 0 0 (QA G) := by
  refine mt_start RX8 (by decide) rfl (Nat.le_of_ble_eq_true rfl) ?_
  intro p e s m args below meth c ls F hr hlk hnm hw hl
  have hx := F.1
  have hb := F.2.1
  have hown := F.2.2.2.1
  have hts := F.2.2.2.2
  have hX : Ext S0 S0 := Ext.rf
  have hsz0 := hw.1.1.1
  have hl : lv_has ls 7 [(0, .ref a0), (1, .int p1), (2, .int p2), (3, .long p3)] := hl
  unfold wp_X8_rise at hQ
  refine lv_aload_n hx hb dX8_rise_0 rfl (lv_at hl 0 rfl) ?_
  refine lv_iload_n hx hb dX8_rise_1 rfl (lv_at hl 1 rfl) ?_
  refine k_X8_lotAt F hw hl hA0 hQ twm_RX8_69 (Nat.le_of_ble_eq_true rfl) (Nat.le_of_ble_eq_true rfl) (Nat.le_of_ble_eq_true rfl) dX8_rise_2 (show 0 + 0 ≤ 0 from by omega) (show 0 + 0 ≤ 0 from by omega) (fun S1 H locs hQ hw hx1 => ?_) (fun j3 a3 S1 H locs hQ hA3 hw hx1 => ?_)
  · have hQ := hQ.1 rfl
    have hX := hX.trans hx1
    have hA0 := hA0.ext hx1
    refine lv_astoreN (lv' := [(5, .null), (0, .ref a0), (1, .int p1), (2, .int p2), (3, .long p3)]) hx hb dX8_rise_5 hl (by decide) rfl (fun ls hl => ?_)
    refine lv_aload_n hx hb dX8_rise_7 rfl (lv_at hl 1 rfl) ?_
    refine lv_iload_n hx hb dX8_rise_8 rfl (lv_at hl 3 rfl) ?_
    refine k_X8_buyerAt F hw hl hA0 hQ twm_RX8_89 (Nat.le_of_ble_eq_true rfl) (Nat.le_of_ble_eq_true rfl) (Nat.le_of_ble_eq_true rfl) dX8_rise_9 (show (0 + 0) + 0 ≤ 0 from by omega) (show (0 + 0) + 0 ≤ 0 from by omega) (fun S4 H locs hQ hw hx1 => ?_) (fun j6 a6 S4 H locs hQ hA6 hw hx1 => ?_)
    · have hQ := hQ.1 rfl
      have hX := hX.trans hx1
      have hA0 := hA0.ext hx1
      refine lv_astoreN (lv' := [(6, .null), (5, .null), (0, .ref a0), (1, .int p1), (2, .int p2), (3, .long p3)]) hx hb dX8_rise_12 hl (by decide) rfl (fun ls hl => ?_)
      refine lv_aloadN hx hb dX8_rise_14 (lv_at hl 1 rfl) ?_
      refine lv_ifnullN (tgt := 24) hx hb dX8_rise_16 (by decide) ?_
      refine lv_iconst (v := 1) hx hb dX8_rise_24 (by decide) ?_
      exact rt_i F hr hlk hw hX hQ (show ((0 + 0) + 0) ≤ 0 from by omega) (show ((0 + 0) + 0) ≤ 0 from by omega) dX8_rise_25
    · have hQ := hQ.2 j6 rfl
      have hX := hX.trans hx1
      have hA0 := hA0.ext hx1
      refine lv_astore (lv' := [(6, .ref a6), (5, .null), (0, .ref a0), (1, .int p1), (2, .int p2), (3, .long p3)]) hx hb dX8_rise_12 hl (by decide) rfl (fun ls hl => ?_)
      refine lv_aloadN hx hb dX8_rise_14 (lv_at hl 1 rfl) ?_
      refine lv_ifnullN (tgt := 24) hx hb dX8_rise_16 (by decide) ?_
      refine lv_iconst (v := 1) hx hb dX8_rise_24 (by decide) ?_
      exact rt_i F hr hlk hw hX hQ (show ((0 + 0) + 0) ≤ 0 from by omega) (show ((0 + 0) + 0) ≤ 0 from by omega) dX8_rise_25
  · have hQ := hQ.2 j3 rfl
    have hX := hX.trans hx1
    have hA0 := hA0.ext hx1
    refine lv_astore (lv' := [(5, .ref a3), (0, .ref a0), (1, .int p1), (2, .int p2), (3, .long p3)]) hx hb dX8_rise_5 hl (by decide) rfl (fun ls hl => ?_)
    refine lv_aload_n hx hb dX8_rise_7 rfl (lv_at hl 1 rfl) ?_
    refine lv_iload_n hx hb dX8_rise_8 rfl (lv_at hl 3 rfl) ?_
    refine k_X8_buyerAt F hw hl hA0 hQ twm_RX8_89 (Nat.le_of_ble_eq_true rfl) (Nat.le_of_ble_eq_true rfl) (Nat.le_of_ble_eq_true rfl) dX8_rise_9 (show (0 + 0) + 0 ≤ 0 from by omega) (show (0 + 0) + 0 ≤ 0 from by omega) (fun S7 H locs hQ hw hx1 => ?_) (fun j9 a9 S7 H locs hQ hA9 hw hx1 => ?_)
    · have hQ := hQ.1 rfl
      have hX := hX.trans hx1
      have hA3 := hA3.ext hx1
      have hA0 := hA0.ext hx1
      refine lv_astoreN (lv' := [(6, .null), (5, .ref a3), (0, .ref a0), (1, .int p1), (2, .int p2), (3, .long p3)]) hx hb dX8_rise_12 hl (by decide) rfl (fun ls hl => ?_)
      refine lv_aload hx hb dX8_rise_14 (lv_at hl 1 rfl) ?_
      refine lv_ifnull hx hb dX8_rise_16 ?_
      refine lv_aloadN hx hb dX8_rise_19 (lv_at hl 0 rfl) ?_
      refine lv_ifnonnullN hx hb dX8_rise_21 ?_
      refine lv_iconst (v := 1) hx hb dX8_rise_24 (by decide) ?_
      exact rt_i F hr hlk hw hX hQ (show ((0 + 0) + 0) ≤ 0 from by omega) (show ((0 + 0) + 0) ≤ 0 from by omega) dX8_rise_25
    · have hQ := hQ.2 j9 rfl
      have hX := hX.trans hx1
      have hA3 := hA3.ext hx1
      have hA0 := hA0.ext hx1
      refine lv_astore (lv' := [(6, .ref a9), (5, .ref a3), (0, .ref a0), (1, .int p1), (2, .int p2), (3, .long p3)]) hx hb dX8_rise_12 hl (by decide) rfl (fun ls hl => ?_)
      refine lv_aload hx hb dX8_rise_14 (lv_at hl 1 rfl) ?_
      refine lv_ifnull hx hb dX8_rise_16 ?_
      refine lv_aload hx hb dX8_rise_19 (lv_at hl 0 rfl) ?_
      refine lv_ifnonnull (tgt := 26) hx hb dX8_rise_21 (by decide) ?_
      refine lv_aload hx hb dX8_rise_26 (lv_at hl 1 rfl) ?_
      have he10 := ww_es hw j3
      refine g_5_4 F hw hA3 twf_RX8_100 dX8_rise_28 ?_
      refine pw_gets F hw 0 (by decide) rfl twf_RX8_155 dX8_rise_31 ?_
      refine pw_acmp_eq (tgt := 50) F hw (by decide) he10 dX8_rise_34 (by decide) (fun hc => ?_) (fun hc => ?_)
      · have hQ := hQ.1 hc
        refine lv_lload_n hx hb dX8_rise_50 rfl (lv_at hl 5 rfl) ?_
        refine lv_aload hx hb dX8_rise_51 (lv_at hl 1 rfl) ?_
        refine k_X5_leastOffer F hw hl hA3 hQ twm_RX8_238 (Nat.le_of_ble_eq_true rfl) (Nat.le_of_ble_eq_true rfl) (Nat.le_of_ble_eq_true rfl) dX8_rise_53 (show ((0 + 0) + 0) + 0 ≤ 0 from by omega) (show ((0 + 0) + 0) + 0 ≤ 0 from by omega) (fun r12 S11 H locs hQ hw hx1 => ?_)
        have hX := hX.trans hx1
        have hA9 := hA9.ext hx1
        have hA3 := hA3.ext hx1
        have hA0 := hA0.ext hx1
        refine lc_ge (tgt := 62) F dX8_rise_56 dX8_rise_57 (by decide) (fun hc => ?_) (fun hc => ?_)
        · have hQ := hQ.1 hc
          refine lv_lload_n hx hb dX8_rise_62 rfl (lv_at hl 5 rfl) ?_
          refine lv_aload_n hx hb dX8_rise_63 rfl (lv_at hl 2 rfl) ?_
          refine lv_aload hx hb dX8_rise_64 (lv_at hl 0 rfl) ?_
          refine k_X8_freeOf F hw hl hA0 hA9 hQ twm_RX8_96 (Nat.le_of_ble_eq_true rfl) (Nat.le_of_ble_eq_true rfl) (Nat.le_of_ble_eq_true rfl) dX8_rise_66 (show (((0 + 0) + 0) + 0) + 0 ≤ 0 from by omega) (show (((0 + 0) + 0) + 0) + 0 ≤ 0 from by omega) (fun r14 S13 H locs hQ hw hx1 => ?_)
          have hX := hX.trans hx1
          have hA9 := hA9.ext hx1
          have hA3 := hA3.ext hx1
          have hA0 := hA0.ext hx1
          refine lv_aload hx hb dX8_rise_69 (lv_at hl 1 rfl) ?_
          refine lv_iload_n hx hb dX8_rise_71 rfl (lv_at hl 4 rfl) ?_
          refine k_X5_offerOf F hw hl hA3 hQ twm_RX8_242 (Nat.le_of_ble_eq_true rfl) (Nat.le_of_ble_eq_true rfl) (Nat.le_of_ble_eq_true rfl) dX8_rise_72 (show ((((0 + 0) + 0) + 0) + 0) + 0 ≤ 0 from by omega) (show ((((0 + 0) + 0) + 0) + 0) + 0 ≤ 0 from by omega) (fun r16 S15 H locs hQ hw hx1 => ?_)
          have hX := hX.trans hx1
          have hA9 := hA9.ext hx1
          have hA3 := hA3.ext hx1
          have hA0 := hA0.ext hx1
          refine lv_ladd hx hb dX8_rise_75 ?_
          refine lc_le (tgt := 82) F dX8_rise_76 dX8_rise_77 (by decide) (fun hc => ?_) (fun hc => ?_)
          · have hQ := hQ.1 hc
            refine lv_aload hx hb dX8_rise_82 (lv_at hl 1 rfl) ?_
            refine pw_gets F hw 2 (by decide) rfl twf_RX8_235 dX8_rise_84 ?_
            refine p_5_4 F hw hA3 twf_RX8_100 (by decide) dX8_rise_87 (fun S17 H locs eS17 hw hx1 => ?_)
            have hQ := hQ S17 eS17
            have hX := hX.trans hx1
            have hA9 := hA9.ext hx1
            have hA3 := hA3.ext hx1
            have hA0 := hA0.ext hx1
            refine lv_aload hx hb dX8_rise_90 (lv_at hl 1 rfl) ?_
            refine lv_iload_n hx hb dX8_rise_92 rfl (lv_at hl 4 rfl) ?_
            refine p_5_5 F hw hA3 twf_RX8_77 dX8_rise_93 (fun S18 H locs eS18 hw hx1 => ?_)
            have hQ := hQ S18 eS18
            have hX := hX.trans hx1
            have hA9 := hA9.ext hx1
            have hA3 := hA3.ext hx1
            have hA0 := hA0.ext hx1
            refine lv_aload hx hb dX8_rise_96 (lv_at hl 1 rfl) ?_
            refine lv_lload_n hx hb dX8_rise_98 rfl (lv_at hl 5 rfl) ?_
            refine p_5_6 F hw hA3 twf_RX8_82 dX8_rise_99 (fun S19 H locs eS19 hw hx1 => ?_)
            have hQ := hQ S19 eS19
            have hX := hX.trans hx1
            have hA9 := hA9.ext hx1
            have hA3 := hA3.ext hx1
            have hA0 := hA0.ext hx1
            refine lv_aload hx hb dX8_rise_102 (lv_at hl 1 rfl) ?_
            refine lv_aload_n hx hb dX8_rise_104 rfl (lv_at hl 2 rfl) ?_
            refine g_7_9 F hw hA0 twf_RX8_208 dX8_rise_105 ?_
            refine p_5_7 F hw hA3 twf_RX8_246 dX8_rise_108 (fun S20 H locs eS20 hw hx1 => ?_)
            have hQ := hQ S20 eS20
            have hX := hX.trans hx1
            have hA9 := hA9.ext hx1
            have hA3 := hA3.ext hx1
            have hA0 := hA0.ext hx1
            refine lv_iconst (v := 0) hx hb dX8_rise_111 (by decide) ?_
            exact rt_i F hr hlk hw hX hQ (show (((((0 + 0) + 0) + 0) + 0) + 0) ≤ 0 from by omega) (show (((((0 + 0) + 0) + 0) + 0) + 0) ≤ 0 from by omega) dX8_rise_112
          · have hQ := hQ.2 hc
            refine lv_iconst (v := 4) hx hb dX8_rise_80 (by decide) ?_
            exact rt_i F hr hlk hw hX hQ (show (((((0 + 0) + 0) + 0) + 0) + 0) ≤ 0 from by omega) (show (((((0 + 0) + 0) + 0) + 0) + 0) ≤ 0 from by omega) dX8_rise_81
        · have hQ := hQ.2 hc
          refine lv_iconst (v := 3) hx hb dX8_rise_60 (by decide) ?_
          exact rt_i F hr hlk hw hX hQ (show (((0 + 0) + 0) + 0) ≤ 0 from by omega) (show (((0 + 0) + 0) + 0) ≤ 0 from by omega) dX8_rise_61
      · have hQ := hQ.2 hc
        refine lv_aload hx hb dX8_rise_37 (lv_at hl 1 rfl) ?_
        have he21 := ww_es hw j3
        refine g_5_4 F hw hA3 twf_RX8_100 dX8_rise_39 ?_
        refine pw_gets F hw 2 (by decide) rfl twf_RX8_235 dX8_rise_42 ?_
        refine pw_acmp_eq (tgt := 50) F hw (by decide) he21 dX8_rise_45 (by decide) (fun hc => ?_) (fun hc => ?_)
        · have hQ := hQ.1 hc
          refine lv_lload_n hx hb dX8_rise_50 rfl (lv_at hl 5 rfl) ?_
          refine lv_aload hx hb dX8_rise_51 (lv_at hl 1 rfl) ?_
          refine k_X5_leastOffer F hw hl hA3 hQ twm_RX8_238 (Nat.le_of_ble_eq_true rfl) (Nat.le_of_ble_eq_true rfl) (Nat.le_of_ble_eq_true rfl) dX8_rise_53 (show ((0 + 0) + 0) + 0 ≤ 0 from by omega) (show ((0 + 0) + 0) + 0 ≤ 0 from by omega) (fun r23 S22 H locs hQ hw hx1 => ?_)
          have hX := hX.trans hx1
          have hA9 := hA9.ext hx1
          have hA3 := hA3.ext hx1
          have hA0 := hA0.ext hx1
          refine lc_ge (tgt := 62) F dX8_rise_56 dX8_rise_57 (by decide) (fun hc => ?_) (fun hc => ?_)
          · have hQ := hQ.1 hc
            refine lv_lload_n hx hb dX8_rise_62 rfl (lv_at hl 5 rfl) ?_
            refine lv_aload_n hx hb dX8_rise_63 rfl (lv_at hl 2 rfl) ?_
            refine lv_aload hx hb dX8_rise_64 (lv_at hl 0 rfl) ?_
            refine k_X8_freeOf F hw hl hA0 hA9 hQ twm_RX8_96 (Nat.le_of_ble_eq_true rfl) (Nat.le_of_ble_eq_true rfl) (Nat.le_of_ble_eq_true rfl) dX8_rise_66 (show (((0 + 0) + 0) + 0) + 0 ≤ 0 from by omega) (show (((0 + 0) + 0) + 0) + 0 ≤ 0 from by omega) (fun r25 S24 H locs hQ hw hx1 => ?_)
            have hX := hX.trans hx1
            have hA9 := hA9.ext hx1
            have hA3 := hA3.ext hx1
            have hA0 := hA0.ext hx1
            refine lv_aload hx hb dX8_rise_69 (lv_at hl 1 rfl) ?_
            refine lv_iload_n hx hb dX8_rise_71 rfl (lv_at hl 4 rfl) ?_
            refine k_X5_offerOf F hw hl hA3 hQ twm_RX8_242 (Nat.le_of_ble_eq_true rfl) (Nat.le_of_ble_eq_true rfl) (Nat.le_of_ble_eq_true rfl) dX8_rise_72 (show ((((0 + 0) + 0) + 0) + 0) + 0 ≤ 0 from by omega) (show ((((0 + 0) + 0) + 0) + 0) + 0 ≤ 0 from by omega) (fun r27 S26 H locs hQ hw hx1 => ?_)
            have hX := hX.trans hx1
            have hA9 := hA9.ext hx1
            have hA3 := hA3.ext hx1
            have hA0 := hA0.ext hx1
            refine lv_ladd hx hb dX8_rise_75 ?_
            refine lc_le (tgt := 82) F dX8_rise_76 dX8_rise_77 (by decide) (fun hc => ?_) (fun hc => ?_)
            · have hQ := hQ.1 hc
              refine lv_aload hx hb dX8_rise_82 (lv_at hl 1 rfl) ?_
              refine pw_gets F hw 2 (by decide) rfl twf_RX8_235 dX8_rise_84 ?_
              refine p_5_4 F hw hA3 twf_RX8_100 (by decide) dX8_rise_87 (fun S28 H locs eS28 hw hx1 => ?_)
              have hQ := hQ S28 eS28
              have hX := hX.trans hx1
              have hA9 := hA9.ext hx1
              have hA3 := hA3.ext hx1
              have hA0 := hA0.ext hx1
              refine lv_aload hx hb dX8_rise_90 (lv_at hl 1 rfl) ?_
              refine lv_iload_n hx hb dX8_rise_92 rfl (lv_at hl 4 rfl) ?_
              refine p_5_5 F hw hA3 twf_RX8_77 dX8_rise_93 (fun S29 H locs eS29 hw hx1 => ?_)
              have hQ := hQ S29 eS29
              have hX := hX.trans hx1
              have hA9 := hA9.ext hx1
              have hA3 := hA3.ext hx1
              have hA0 := hA0.ext hx1
              refine lv_aload hx hb dX8_rise_96 (lv_at hl 1 rfl) ?_
              refine lv_lload_n hx hb dX8_rise_98 rfl (lv_at hl 5 rfl) ?_
              refine p_5_6 F hw hA3 twf_RX8_82 dX8_rise_99 (fun S30 H locs eS30 hw hx1 => ?_)
              have hQ := hQ S30 eS30
              have hX := hX.trans hx1
              have hA9 := hA9.ext hx1
              have hA3 := hA3.ext hx1
              have hA0 := hA0.ext hx1
              refine lv_aload hx hb dX8_rise_102 (lv_at hl 1 rfl) ?_
              refine lv_aload_n hx hb dX8_rise_104 rfl (lv_at hl 2 rfl) ?_
              refine g_7_9 F hw hA0 twf_RX8_208 dX8_rise_105 ?_
              refine p_5_7 F hw hA3 twf_RX8_246 dX8_rise_108 (fun S31 H locs eS31 hw hx1 => ?_)
              have hQ := hQ S31 eS31
              have hX := hX.trans hx1
              have hA9 := hA9.ext hx1
              have hA3 := hA3.ext hx1
              have hA0 := hA0.ext hx1
              refine lv_iconst (v := 0) hx hb dX8_rise_111 (by decide) ?_
              exact rt_i F hr hlk hw hX hQ (show (((((0 + 0) + 0) + 0) + 0) + 0) ≤ 0 from by omega) (show (((((0 + 0) + 0) + 0) + 0) + 0) ≤ 0 from by omega) dX8_rise_112
            · have hQ := hQ.2 hc
              refine lv_iconst (v := 4) hx hb dX8_rise_80 (by decide) ?_
              exact rt_i F hr hlk hw hX hQ (show (((((0 + 0) + 0) + 0) + 0) + 0) ≤ 0 from by omega) (show (((((0 + 0) + 0) + 0) + 0) + 0) ≤ 0 from by omega) dX8_rise_81
          · have hQ := hQ.2 hc
            refine lv_iconst (v := 3) hx hb dX8_rise_60 (by decide) ?_
            exact rt_i F hr hlk hw hX hQ (show (((0 + 0) + 0) + 0) ≤ 0 from by omega) (show (((0 + 0) + 0) + 0) ≤ 0 from by omega) dX8_rise_61
        · have hQ := hQ.2 hc
          refine lv_iconst (v := 2) hx hb dX8_rise_48 (by decide) ?_
          exact rt_i F hr hlk hw hX hQ (show ((0 + 0) + 0) ≤ 0 from by omega) (show ((0 + 0) + 0) ≤ 0 from by omega) dX8_rise_49
theorem k_X8_rise {p : Program} {l : Launch} {e : Env} {R : Room} {s : State} {m : MethodId} {args : Array Value} {below : List Frame} {meth : Method} {c : Code} {H : Heap} {locs : List Loc} {cells slots : Nat} {Q : State → Prop} {cc : ByteArray} {pc nL : Nat} {ls : Array Slot} {rest : List Value} {G : GT} {S : St} {own : String} {p1 : Int32} {p2 : Int32} {p3 : Int64} {post : Int32 → St → Prop} {lv : List (Nat × Value)} {idx : Nat} (F : CX p m c cc nL s args own) (hw : WW G S s H locs) (hl : lv_has ls nL lv) {a0 : Nat} (hA0 : AtO S 7 0 a0) (hQ : wp_X8_rise p1 p2 p3 S post) (h1 : Cond.methodLink own idx yX8_rise ∈ wT) (hR1 : 2 + 1 ≤ R.frames) (hR2 : 8 + (7 + 11) + 46 ≤ R.locals) (hrest : (rest.map fun v => v.category).sum ≤ 8) (hdg : decode cc pc = .ok (.invokevirtual idx, 3)) (hf1 : cells + 0 ≤ R.cells) (hf2 : slots + 0 ≤ R.slots)
    (kk : ∀ (r : Int32) (S1 : St) (H1 : Heap) (locs1 : List Loc), post r S1 → WW G S1 s H1 locs1 → Ext S S1 → W p l e R s m args below meth c H1 locs1 (cells + 0) (slots + 0) Q (F0 m (pc + 3) ls (.int r :: rest))) : W p l e R s m args below meth c H locs cells slots Q (F0 m pc ls (.long p3 :: .int p2 :: .int p1 :: .ref a0 :: rest)) :=
  cl_i (rn_V (n := 3) (As := [.int p1, .int p2, .long p3]) (q := (RX8, TX8, 11)) F hw hl (m_X8_rise l G p1 p2 p3 S a0 hA0 post hQ) 7 (by decide) (by decide) hA0 rfl rfl h1 twi_yX8_rise tws_yX8_rise twn_RX8 two_yX8_rise rfl rfl ⟨rfl, by decide, by decide, by decide +kernel⟩ rfl ⟨hR1, hR2⟩ rfl hrest hdg ⟨hf1, hf2⟩) hw kk

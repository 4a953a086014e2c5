-- X3_init
def wp_X3_init (j0 : Nat) (p1 : Int32) (p2 : Int32) (p3 : Int32) (p4 : Int64) (p5 : Int32) (S0 : St) (post : St → Prop) : Prop :=
  ∀ S1 : St, S1 = si S0 3 j0 0 p1 →
  ∀ S2 : St, S2 = si S1 3 j0 1 p2 →
  ∀ S3 : St, S3 = si S2 3 j0 2 p3 →
  ∀ S4 : St, S4 = sj S3 3 j0 3 p4 →
  ∀ S5 : St, S5 = si S4 3 j0 4 p5 →
  post S5
set_option maxRecDepth 100000 in
set_option maxHeartbeats 4000000 in
theorem m_X3_init (l : Launch) (G : GT) (j0 : Nat) (p1 : Int32) (p2 : Int32) (p3 : Int32) (p4 : Int64) (p5 : Int32) (S0 : St) (a0 : Nat) (hA0 : AtO S0 3 j0 a0) (post : St → Prop) (hQ : wp_X3_init j0 p1 p2 p3 p4 p5 S0 post) : Met l yX3_init (wM yX3_init cX3_init 7 none) ({ frames := 1, cells := 0, slots := 0, locals := 12 } : Room) (PC G S0 [.ref a0, .int p1, .int p2, .int p3, .long p4, .int p5]) (QV G S0 post) 0 0 (QA G) := by
  refine mt_start RX3 (by decide) rfl (Nat.le_of_ble_eq_true rfl) ?_
  intro p e s m args below meth c ls F hr hlk hnm hw hl
  have hx := F.1
  have hb := F.2.1
  have hown := F.2.2.2.1
  have hts := F.2.2.2.2
  have hin : meth.name = "<init>" := hnm
  have hX : Ext S0 S0 := Ext.rf
  have hsz0 := hw.1.1.1
  have hl : lv_has ls 7 [(0, .ref a0), (1, .int p1), (2, .int p2), (3, .int p3), (4, .long p4), (6, .int p5)] := hl
  unfold wp_X3_init at hQ
  refine lv_aload_n hx hb dX3_init_0 rfl (lv_at hl 0 rfl) ?_
  refine o_init F hl twm_RX3_1 dX3_init_1 (Nat.le_of_ble_eq_true rfl) (Nat.le_of_ble_eq_true rfl) ?_
  refine lv_aload_n hx hb dX3_init_4 rfl (lv_at hl 0 rfl) ?_
  refine lv_iload_n hx hb dX3_init_5 rfl (lv_at hl 1 rfl) ?_
  refine p_3_0 F hw hA0 twf_RX3_7 dX3_init_6 (fun S1 H locs eS1 hw hx1 => ?_) hin rfl
  have hQ := hQ S1 eS1
  have hX := hX.trans hx1
  have hA0 := hA0.ext hx1
  refine lv_aload_n hx hb dX3_init_9 rfl (lv_at hl 0 rfl) ?_
  refine lv_iload_n hx hb dX3_init_10 rfl (lv_at hl 2 rfl) ?_
  refine p_3_1 F hw hA0 twf_RX3_13 dX3_init_11 (fun S2 H locs eS2 hw hx1 => ?_) hin rfl
  have hQ := hQ S2 eS2
  have hX := hX.trans hx1
  have hA0 := hA0.ext hx1
  refine lv_aload_n hx hb dX3_init_14 rfl (lv_at hl 0 rfl) ?_
  refine lv_iload_n hx hb dX3_init_15 rfl (lv_at hl 3 rfl) ?_
  refine p_3_2 F hw hA0 twf_RX3_16 dX3_init_16 (fun S3 H locs eS3 hw hx1 => ?_) hin rfl
  have hQ := hQ S3 eS3
  have hX := hX.trans hx1
  have hA0 := hA0.ext hx1
  refine lv_aload_n hx hb dX3_init_19 rfl (lv_at hl 0 rfl) ?_
  refine lv_lload hx hb dX3_init_20 (lv_at hl 4 rfl) ?_
  refine p_3_3 F hw hA0 twf_RX3_19 dX3_init_22 (fun S4 H locs eS4 hw hx1 => ?_) hin rfl
  have hQ := hQ S4 eS4
  have hX := hX.trans hx1
  have hA0 := hA0.ext hx1
  refine lv_aload_n hx hb dX3_init_25 rfl (lv_at hl 0 rfl) ?_
  refine lv_iload hx hb dX3_init_26 (lv_at hl 5 rfl) ?_
  refine p_3_4 F hw hA0 twf_RX3_23 dX3_init_28 (fun S5 H locs eS5 hw hx1 => ?_) hin rfl
  have hQ := hQ S5 eS5
  have hX := hX.trans hx1
  have hA0 := hA0.ext hx1
  exact rt_v F hr hlk hw hX hQ (show 0 ≤ 0 from by omega) (show 0 ≤ 0 from by omega) dX3_init_31
theorem k_X3_init {p : Program} {l : Launch} {e : Env} {R : Room} {s : State} {m : MethodId} {args : Array Value} {below : List Frame} {meth : Method} {c : Code} {H : Heap} {locs : List Loc} {cells slots : Nat} {Q : State → Prop} {cc : ByteArray} {pc nL : Nat} {ls : Array Slot} {rest : List Value} {G : GT} {S : St} {own : String} {j0 : Nat} {p1 : Int32} {p2 : Int32} {p3 : Int32} {p4 : Int64} {p5 : Int32} {post : St → Prop} {lv : List (Nat × Value)} {idx : Nat} (F : CX p m c cc nL s args own) (hw : WW G S s H locs) (hl : lv_has ls nL lv) {a0 : Nat} (hA0 : AtO S 3 j0 a0) (hQ : wp_X3_init j0 p1 p2 p3 p4 p5 S post) (h1 : Cond.methodLink own idx yX3_init ∈ wT) (hR1 : 1 + 1 ≤ R.frames) (hR2 : 8 + (7 + 11) + 12 ≤ R.locals) (hrest : (rest.map fun v => v.category).sum ≤ 8) (hdg : decode cc pc = .ok (.invokespecial idx, 3)) (hf1 : cells + 0 ≤ R.cells) (hf2 : slots + 0 ≤ R.slots)
    (kk : ∀ (S1 : St) (H1 : Heap) (locs1 : List Loc), post S1 → WW G S1 s H1 locs1 → Ext S S1 → W p l e R s m args below meth c H1 locs1 (cells + 0) (slots + 0) Q (F0 m (pc + 3) ls rest)) : W p l e R s m args below meth c H locs cells slots Q (F0 m pc ls (.int p5 :: .long p4 :: .int p3 :: .int p2 :: .int p1 :: .ref a0 :: rest)) :=
  cl_v (rn_I (n := 5) (As := [.int p1, .int p2, .int p3, .long p4, .int p5]) F hw hl (m_X3_init l G j0 p1 p2 p3 p4 p5 S a0 hA0 post hQ) h1 twi_yX3_init twn_RX3 two_yX3_init rfl rfl rfl ⟨by decide, by decide, by decide +kernel⟩ rfl ⟨hR1, hR2⟩ rfl hrest hdg ⟨hf1, hf2⟩) hw kk
-- X2_add
def wp_X2_add (p1 : Int32) (p2 : Int32) (p3 : Int32) (p4 : Int64) (S0 : St) (post : St → Prop) : Prop :=
  ((gi S0 2 0 1) < 0 →
  post S0) ∧
  (¬ (gi S0 2 0 1) < 0 →
  ((gi S0 2 0 1) < (240 : Int32) →
  wp_X3_linkOf (gi S0 2 0 2) p1 p2 p3 p4 S0 (fun r3 S2 =>
  ∀ S4 : St, S4 = si S2 2 0 2 r3 →
  ∀ S6 : St, S6 = sn S4 3 →
  wp_X3_init (gn S4 3) p1 p2 p3 p4 (gi S6 2 0 2) S6 (fun S8 =>
  vp_in (gi S4 2 0 1) 240 ∧
  ∀ S9 : St, S9 = sr S8 13 0 (gi S4 2 0 1).toNatClampNeg (some (gn S4 3)) →
  ∀ S10 : St, S10 = si S9 2 0 1 ((gi S9 2 0 1) + (1 : Int32)) →
  post S10))) ∧
  (¬ (gi S0 2 0 1) < (240 : Int32) →
  post S0))
set_option maxRecDepth 100000 in
set_option maxHeartbeats 4000000 in
theorem m_X2_add (l : Launch) (G : GT) (p1 : Int32) (p2 : Int32) (p3 : Int32) (p4 : Int64) (S0 : St) (a0 : Nat) (hA0 : AtO S0 2 0 a0) (post : St → Prop) (hQ : wp_X2_add p1 p2 p3 p4 S0 post) : Met l yX2_add (wM yX2_add cX2_add 6 none) ({ frames := 2, cells := 1, slots := 5, locals := 38 } : Room) (PC G S0 [.ref a0, .int p1, .int p2, .int p3, .long p4]) (QV G S0 post) 1 5 (QA G) := by
  refine mt_start RX2 (by decide) rfl (Nat.le_of_ble_eq_true rfl) ?_
  intro p e s m args below meth c ls F hr hlk hnm hw hl
  have hx := F.1
  have hb := F.2.1
  have hown := F.2.2.2.1
  have hts := F.2.2.2.2
  have hX : Ext S0 S0 := Ext.rf
  have hsz0 := hw.1.1.1
  have hl : lv_has ls 6 [(0, .ref a0), (1, .int p1), (2, .int p2), (3, .int p3), (4, .long p4)] := hl
  unfold wp_X2_add at hQ
  refine lv_aload_n hx hb dX2_add_0 rfl (lv_at hl 0 rfl) ?_
  refine g_2_1 F hw hA0 twf_RX2_21 dX2_add_1 ?_
  refine lv_if_lt (tgt := 19) hx hb dX2_add_4 (by decide) (fun hc => ?_) (fun hc => ?_)
  · have hQ := hQ.1 hc
    exact rt_v F hr hlk hw hX hQ (show 0 ≤ 1 from by omega) (show 0 ≤ 5 from by omega) dX2_add_19
  · have hQ := hQ.2 hc
    refine lv_aload_n hx hb dX2_add_7 rfl (lv_at hl 0 rfl) ?_
    refine g_2_1 F hw hA0 twf_RX2_21 dX2_add_8 ?_
    refine lv_aload_n hx hb dX2_add_11 rfl (lv_at hl 0 rfl) ?_
    refine g_2_0 F hw hA0 twf_RX2_13 dX2_add_12 (fun a1 hA1 => ?_)
    refine ln_13 F hw hA1 dX2_add_15 ?_
    refine lv_icmp_lt (tgt := 20) hx hb dX2_add_16 (by decide) (fun hc => ?_) (fun hc => ?_)
    · have hQ := hQ.1 hc
      refine lv_aload_n hx hb dX2_add_20 rfl (lv_at hl 0 rfl) ?_
      refine lv_aload_n hx hb dX2_add_21 rfl (lv_at hl 0 rfl) ?_
      refine g_2_2 F hw hA0 twf_RX2_17 dX2_add_22 ?_
      refine lv_iload_n hx hb dX2_add_25 rfl (lv_at hl 1 rfl) ?_
      refine lv_iload_n hx hb dX2_add_26 rfl (lv_at hl 2 rfl) ?_
      refine lv_iload_n hx hb dX2_add_27 rfl (lv_at hl 3 rfl) ?_
      refine lv_lload hx hb dX2_add_28 (lv_at hl 4 rfl) ?_
      refine k_X3_linkOf F hw hl hQ twm_RX2_24 (Nat.le_of_ble_eq_true rfl) (Nat.le_of_ble_eq_true rfl) (Nat.le_of_ble_eq_true rfl) dX2_add_30 (show 0 + 0 ≤ 1 from by omega) (show 0 + 0 ≤ 5 from by omega) (fun r3 S2 H locs hQ hw hx1 => ?_)
      have hX := hX.trans hx1
      have hA0 := hA0.ext hx1
      refine p_2_2 F hw hA0 twf_RX2_17 dX2_add_33 (fun S4 H locs eS4 hw hx1 => ?_)
      have hQ := hQ S4 eS4
      have hX := hX.trans hx1
      have hA0 := hA0.ext hx1
      refine lv_aload_n hx hb dX2_add_36 rfl (lv_at hl 0 rfl) ?_
      refine g_2_0 F hw hA0 twf_RX2_13 dX2_add_37 (fun a5 hA5 => ?_)
      refine lv_aload_n hx hb dX2_add_40 rfl (lv_at hl 0 rfl) ?_
      refine g_2_1 F hw hA0 twf_RX2_21 dX2_add_41 ?_
      refine nw_3 F hw twc_RX2_11 (show (0 + 0) + 1 ≤ 1 from by omega) (show (0 + 0) + 5 ≤ 5 from by omega) dX2_add_44 (fun S6 a7 H eS6 hA7 hw hx1 => ?_)
      have hQ := hQ S6 eS6
      have hX := hX.trans hx1
      have hA5 := hA5.ext hx1
      have hA0 := hA0.ext hx1
      refine lv_dup hx hb dX2_add_47 rfl ?_
      refine lv_iload_n hx hb dX2_add_48 rfl (lv_at hl 1 rfl) ?_
      refine lv_iload_n hx hb dX2_add_49 rfl (lv_at hl 2 rfl) ?_
      refine lv_iload_n hx hb dX2_add_50 rfl (lv_at hl 3 rfl) ?_
      refine lv_lload hx hb dX2_add_51 (lv_at hl 4 rfl) ?_
      refine lv_aload_n hx hb dX2_add_53 rfl (lv_at hl 0 rfl) ?_
      refine g_2_2 F hw hA0 twf_RX2_17 dX2_add_54 ?_
      refine k_X3_init F hw hl hA7 hQ twm_RX2_28 (Nat.le_of_ble_eq_true rfl) (Nat.le_of_ble_eq_true rfl) (Nat.le_of_ble_eq_true rfl) dX2_add_57 (show ((0 + 0) + 1) + 0 ≤ 1 from by omega) (show ((0 + 0) + 5) + 0 ≤ 5 from by omega) (fun S8 H locs hQ hw hx1 => ?_)
      have hX := hX.trans hx1
      have hA5 := hA5.ext hx1
      have hA7 := hA7.ext hx1
      have hA0 := hA0.ext hx1
      obtain ⟨hin, hQ⟩ := hQ
      refine as_13 F hw hA5 hA7 hin dX2_add_60 (fun S9 H locs eS9 hw hx1 => ?_)
      have hQ := hQ S9 eS9
      have hX := hX.trans hx1
      have hA0 := hA0.ext hx1
      refine lv_aload_n hx hb dX2_add_61 rfl (lv_at hl 0 rfl) ?_
      refine lv_dup hx hb dX2_add_62 rfl ?_
      refine g_2_1 F hw hA0 twf_RX2_21 dX2_add_63 ?_
      refine lv_iconst (v := 1) hx hb dX2_add_66 (by decide) ?_
      refine lv_iadd hx hb dX2_add_67 ?_
      refine p_2_1 F hw hA0 twf_RX2_21 dX2_add_68 (fun S10 H locs eS10 hw hx1 => ?_)
      have hQ := hQ S10 eS10
      have hX := hX.trans hx1
      have hA0 := hA0.ext hx1
      exact rt_v F hr hlk hw hX hQ (show (((0 + 0) + 1) + 0) ≤ 1 from by omega) (show (((0 + 0) + 5) + 0) ≤ 5 from by omega) dX2_add_71
    · have hQ := hQ.2 hc
      exact rt_v F hr hlk hw hX hQ (show 0 ≤ 1 from by omega) (show 0 ≤ 5 from by omega) dX2_add_19
theorem k_X2_add {p : Program} {l : Launch} {e : Env} {R : Room} {s : State} {m : MethodId} {args : Array Value} {below : List Frame} {meth : Method} {c : Code} {H : Heap} {locs : List Loc} {cells slots : Nat} {Q : State → Prop} {cc : ByteArray} {pc nL : Nat} {ls : Array Slot} {rest : List Value} {G : GT} {S : St} {own : String} {p1 : Int32} {p2 : Int32} {p3 : Int32} {p4 : Int64} {post : St → Prop} {lv : List (Nat × Value)} {idx : Nat} (F : CX p m c cc nL s args own) (hw : WW G S s H locs) (hl : lv_has ls nL lv) {a0 : Nat} (hA0 : AtO S 2 0 a0) (hQ : wp_X2_add p1 p2 p3 p4 S post) (h1 : Cond.methodLink own idx yX2_add ∈ wT) (hR1 : 2 + 1 ≤ R.frames) (hR2 : 8 + (6 + 11) + 38 ≤ R.locals) (hrest : (rest.map fun v => v.category).sum ≤ 8) (hdg : decode cc pc = .ok (.invokevirtual idx, 3)) (hf1 : cells + 1 ≤ R.cells) (hf2 : slots + 5 ≤ R.slots)
    (kk : ∀ (S1 : St) (H1 : Heap) (locs1 : List Loc), post S1 → WW G S1 s H1 locs1 → Ext S S1 → W p l e R s m args below meth c H1 locs1 (cells + 1) (slots + 5) Q (F0 m (pc + 3) ls rest)) : W p l e R s m args below meth c H locs cells slots Q (F0 m pc ls (.long p4 :: .int p3 :: .int p2 :: .int p1 :: .ref a0 :: rest)) :=
  cl_v (rn_V (n := 4) (As := [.int p1, .int p2, .int p3, .long p4]) (q := (RX2, TX2, 3)) F hw hl (m_X2_add l G p1 p2 p3 p4 S a0 hA0 post hQ) 2 (by decide) (by decide) hA0 rfl rfl h1 twi_yX2_add tws_yX2_add twn_RX2 two_yX2_add rfl rfl ⟨rfl, by decide, by decide, by decide +kernel⟩ rfl ⟨hR1, hR2⟩ rfl hrest hdg ⟨hf1, hf2⟩) hw kk
-- X8_part
def wp_X8_part (p1 : Int32) (p2 : Int64) (S0 : St) (post : Int32 → St → Prop) : Prop :=
  wp_X8_lotAt p1 S0 (fun r2 S1 =>
  (r2 = none →
  post (-1 : Int32) S1) ∧
  (∀ j3 : Nat, r2 = some j3 →
  ((gi S1 5 j3 8) = 0 →
  post (-1 : Int32) S1) ∧
  (¬ (gi S1 5 j3 8) = 0 →
  (¬ (gi S1 5 j3 9) = 0 →
  post (-1 : Int32) S1) ∧
  ((gi S1 5 j3 9) = 0 →
  ((gi S1 7 0 6) < (60 : Int32) →
  ∀ v4 : Int64, v4 = gj S1 5 j3 2 →
  (p2 ≤ (0 : Int64) →
  post (-1 : Int32) S1) ∧
  (¬ p2 ≤ (0 : Int64) →
  (p2 < v4 →
  ∀ S5 : St, S5 = si S1 5 j3 9 (1 : Int32) →
  ∀ S6 : St, S6 = sj S5 5 j3 2 p2 →
  wp_X8_shareOf (gj S6 5 j3 6) p2 v4 S6 (fun r8 S7 =>
  ∀ S9 : St, S9 = sj S7 5 j3 6 r8 →
  wp_X2_add (5 : Int32) p1 (gi S9 5 j3 5) (gj S9 5 j3 6) S9 (fun S11 =>
  wp_X8_shareOf (gj S11 5 j3 3) (v4 - p2) v4 S11 (fun r13 S12 =>
  wp_X8_addLot (gi S11 5 j3 1) (v4 - p2) r13 S12 (fun r15 S14 =>
  post r15 S14))))) ∧
  (¬ p2 < v4 →
  post (-1 : Int32) S1))) ∧
  (¬ (gi S1 7 0 6) < (60 : Int32) →
  post (-1 : Int32) S1)))))
set_option maxRecDepth 100000 in
set_option maxHeartbeats 4000000 in
theorem m_X8_part (l : Launch) (G : GT) (p1 : Int32) (p2 : Int64) (S0 : St) (a0 : Nat) (hA0 : AtO S0 7 0 a0) (post : Int32 → St → Prop) (hQ : wp_X8_part p1 p2 S0 post) : Met l yX8_part (wM yX8_part cX8_part 7 (some (FieldType.int))) ({ frames := 3, cells := 2, slots := 17, locals := 64 } : Room) (PC G S0 [.ref a0, .int p1, .long p2]) (QI G S0 post) 2 17 (QA G) := by
  refine mt_start RX8 (by decide) rfl (Nat.le_of_ble_eq_true rfl) ?_
  intro p e s m args below meth c ls F hr hlk hnm hw hl
  have hx := F.1
  have hb := F.2.1
  have hown := F.2.2.2.1
  have hts := F.2.2.2.2
  have hX : Ext S0 S0 := Ext.rf
  have hsz0 := hw.1.1.1
  have hl : lv_has ls 7 [(0, .ref a0), (1, .int p1), (2, .long p2)] := hl
  unfold wp_X8_part at hQ
  refine lv_aload_n hx hb dX8_part_0 rfl (lv_at hl 0 rfl) ?_
  refine lv_iload_n hx hb dX8_part_1 rfl (lv_at hl 1 rfl) ?_
  refine k_X8_lotAt F hw hl hA0 hQ twm_RX8_69 (Nat.le_of_ble_eq_true rfl) (Nat.le_of_ble_eq_true rfl) (Nat.le_of_ble_eq_true rfl) dX8_part_2 (show 0 + 0 ≤ 2 from by omega) (show 0 + 0 ≤ 17 from by omega) (fun S1 H locs hQ hw hx1 => ?_) (fun j3 a3 S1 H locs hQ hA3 hw hx1 => ?_)
  · have hQ := hQ.1 rfl
    have hX := hX.trans hx1
    have hA0 := hA0.ext hx1
    refine lv_astoreN (lv' := [(4, .null), (0, .ref a0), (1, .int p1), (2, .long p2)]) hx hb dX8_part_5 hl (by decide) rfl (fun ls hl => ?_)
    refine lv_aloadN hx hb dX8_part_7 (lv_at hl 0 rfl) ?_
    refine lv_ifnullN (tgt := 37) hx hb dX8_part_9 (by decide) ?_
    refine lv_iconst (v := -1) hx hb dX8_part_37 (by decide) ?_
    exact rt_i F hr hlk hw hX hQ (show (0 + 0) ≤ 2 from by omega) (show (0 + 0) ≤ 17 from by omega) dX8_part_38
  · have hQ := hQ.2 j3 rfl
    have hX := hX.trans hx1
    have hA0 := hA0.ext hx1
    refine lv_astore (lv' := [(4, .ref a3), (0, .ref a0), (1, .int p1), (2, .long p2)]) hx hb dX8_part_5 hl (by decide) rfl (fun ls hl => ?_)
    refine lv_aload hx hb dX8_part_7 (lv_at hl 0 rfl) ?_
    refine lv_ifnull hx hb dX8_part_9 ?_
    refine lv_aload hx hb dX8_part_12 (lv_at hl 0 rfl) ?_
    refine g_5_8 F hw hA3 twf_RX8_126 dX8_part_14 ?_
    refine lv_if_eq (tgt := 37) hx hb dX8_part_17 (by decide) (fun hc => ?_) (fun hc => ?_)
    · have hQ := hQ.1 hc
      refine lv_iconst (v := -1) hx hb dX8_part_37 (by decide) ?_
      exact rt_i F hr hlk hw hX hQ (show (0 + 0) ≤ 2 from by omega) (show (0 + 0) ≤ 17 from by omega) dX8_part_38
    · have hQ := hQ.2 hc
      refine lv_aload hx hb dX8_part_20 (lv_at hl 0 rfl) ?_
      refine g_5_9 F hw hA3 twf_RX8_130 dX8_part_22 ?_
      refine lv_if_ne (tgt := 37) hx hb dX8_part_25 (by decide) (fun hc => ?_) (fun hc => ?_)
      · have hQ := hQ.1 hc
        refine lv_iconst (v := -1) hx hb dX8_part_37 (by decide) ?_
        exact rt_i F hr hlk hw hX hQ (show (0 + 0) ≤ 2 from by omega) (show (0 + 0) ≤ 17 from by omega) dX8_part_38
      · have hQ := hQ.2 hc
        refine lv_aload_n hx hb dX8_part_28 rfl (lv_at hl 1 rfl) ?_
        refine g_7_6 F hw hA0 twf_RX8_115 dX8_part_29 ?_
        refine lv_bipush (v := 60) hx hb dX8_part_32 (by decide) ?_
        refine lv_icmp_lt (tgt := 39) hx hb dX8_part_34 (by decide) (fun hc => ?_) (fun hc => ?_)
        · have hQ := hQ.1 hc
          refine lv_aload hx hb dX8_part_39 (lv_at hl 0 rfl) ?_
          refine g_5_2 F hw hA3 twf_RX8_86 dX8_part_41 ?_
          refine lv_topl (fun v4 ev4 => ?_)
          have hQ := hQ v4 ev4
          refine lv_lstore (lv' := [(5, .long v4), (4, .ref a3), (0, .ref a0), (1, .int p1), (2, .long p2)]) hx hb dX8_part_44 hl (by decide) rfl (fun ls hl => ?_)
          refine lv_lload_n hx hb dX8_part_46 rfl (lv_at hl 4 rfl) ?_
          refine lv_lconst (v := 0) hx hb dX8_part_47 (by decide) ?_
          refine lc_le (tgt := 59) F dX8_part_48 dX8_part_49 (by decide) (fun hc => ?_) (fun hc => ?_)
          · have hQ := hQ.1 hc
            refine lv_iconst (v := -1) hx hb dX8_part_59 (by decide) ?_
            exact rt_i F hr hlk hw hX hQ (show (0 + 0) ≤ 2 from by omega) (show (0 + 0) ≤ 17 from by omega) dX8_part_60
          · have hQ := hQ.2 hc
            refine lv_lload_n hx hb dX8_part_52 rfl (lv_at hl 4 rfl) ?_
            refine lv_lload hx hb dX8_part_53 (lv_at hl 0 rfl) ?_
            refine lc_lt (tgt := 61) F dX8_part_55 dX8_part_56 (by decide) (fun hc => ?_) (fun hc => ?_)
            · have hQ := hQ.1 hc
              refine lv_aload hx hb dX8_part_61 (lv_at hl 1 rfl) ?_
              refine lv_iconst (v := 1) hx hb dX8_part_63 (by decide) ?_
              refine p_5_9 F hw hA3 twf_RX8_130 (Or.inr rfl) dX8_part_64 (fun S5 H locs eS5 hw hx1 => ?_)
              have hQ := hQ S5 eS5
              have hX := hX.trans hx1
              have hA3 := hA3.ext hx1
              have hA0 := hA0.ext hx1
              refine lv_aload hx hb dX8_part_67 (lv_at hl 1 rfl) ?_
              refine lv_lload_n hx hb dX8_part_69 rfl (lv_at hl 4 rfl) ?_
              refine p_5_2 F hw hA3 twf_RX8_86 dX8_part_70 (fun S6 H locs eS6 hw hx1 => ?_)
              have hQ := hQ S6 eS6
              have hX := hX.trans hx1
              have hA3 := hA3.ext hx1
              have hA0 := hA0.ext hx1
              refine lv_aload hx hb dX8_part_73 (lv_at hl 1 rfl) ?_
              refine lv_aload hx hb dX8_part_75 (lv_at hl 1 rfl) ?_
              refine g_5_6 F hw hA3 twf_RX8_82 dX8_part_77 ?_
              refine lv_lload_n hx hb dX8_part_80 rfl (lv_at hl 4 rfl) ?_
              refine lv_lload hx hb dX8_part_81 (lv_at hl 0 rfl) ?_
              refine k_X8_shareOf F hw hl hQ twm_RX8_133 (Nat.le_of_ble_eq_true rfl) (Nat.le_of_ble_eq_true rfl) (Nat.le_of_ble_eq_true rfl) dX8_part_83 (show (0 + 0) + 0 ≤ 2 from by omega) (show (0 + 0) + 0 ≤ 17 from by omega) (fun r8 S7 H locs hQ hw hx1 => ?_)
              have hX := hX.trans hx1
              have hA3 := hA3.ext hx1
              have hA0 := hA0.ext hx1
              refine p_5_6 F hw hA3 twf_RX8_82 dX8_part_86 (fun S9 H locs eS9 hw hx1 => ?_)
              have hQ := hQ S9 eS9
              have hX := hX.trans hx1
              have hA3 := hA3.ext hx1
              have hA0 := hA0.ext hx1
              refine lv_aload_n hx hb dX8_part_89 rfl (lv_at hl 2 rfl) ?_
              refine g_7_4 F hw hA0 twf_RX8_37 dX8_part_90 (fun a10 hA10 => ?_)
              refine lv_iconst (v := 5) hx hb dX8_part_93 (by decide) ?_
              refine lv_iload_n hx hb dX8_part_94 rfl (lv_at hl 3 rfl) ?_
              refine lv_aload hx hb dX8_part_95 (lv_at hl 1 rfl) ?_
              refine g_5_5 F hw hA3 twf_RX8_77 dX8_part_97 ?_
              refine lv_aload hx hb dX8_part_100 (lv_at hl 1 rfl) ?_
              refine g_5_6 F hw hA3 twf_RX8_82 dX8_part_102 ?_
              refine k_X2_add F hw hl hA10 hQ twm_RX8_137 (Nat.le_of_ble_eq_true rfl) (Nat.le_of_ble_eq_true rfl) (Nat.le_of_ble_eq_true rfl) dX8_part_105 (show ((0 + 0) + 0) + 1 ≤ 2 from by omega) (show ((0 + 0) + 0) + 5 ≤ 17 from by omega) (fun S11 H locs hQ hw hx1 => ?_)
              have hX := hX.trans hx1
              have hA3 := hA3.ext hx1
              have hA0 := hA0.ext hx1
              refine lv_aload_n hx hb dX8_part_108 rfl (lv_at hl 2 rfl) ?_
              refine lv_aload hx hb dX8_part_109 (lv_at hl 1 rfl) ?_
              refine g_5_1 F hw hA3 twf_RX8_141 dX8_part_111 ?_
              refine lv_lload hx hb dX8_part_114 (lv_at hl 0 rfl) ?_
              refine lv_lload_n hx hb dX8_part_116 rfl (lv_at hl 4 rfl) ?_
              refine lv_lsub hx hb dX8_part_117 ?_
              refine lv_aload hx hb dX8_part_118 (lv_at hl 1 rfl) ?_
              refine g_5_3 F hw hA3 twf_RX8_144 dX8_part_120 ?_
              refine lv_lload hx hb dX8_part_123 (lv_at hl 0 rfl) ?_
              refine lv_lload_n hx hb dX8_part_125 rfl (lv_at hl 4 rfl) ?_
              refine lv_lsub hx hb dX8_part_126 ?_
              refine lv_lload hx hb dX8_part_127 (lv_at hl 0 rfl) ?_
              refine k_X8_shareOf F hw hl hQ twm_RX8_133 (Nat.le_of_ble_eq_true rfl) (Nat.le_of_ble_eq_true rfl) (Nat.le_of_ble_eq_true rfl) dX8_part_129 (show (((0 + 0) + 0) + 1) + 0 ≤ 2 from by omega) (show (((0 + 0) + 0) + 5) + 0 ≤ 17 from by omega) (fun r13 S12 H locs hQ hw hx1 => ?_)
              have hX := hX.trans hx1
              have hA0 := hA0.ext hx1
              have hA3 := hA3.ext hx1
              refine k_X8_addLot F hw hl hA0 hQ twm_RX8_56 (Nat.le_of_ble_eq_true rfl) (Nat.le_of_ble_eq_true rfl) (Nat.le_of_ble_eq_true rfl) dX8_part_132 (show ((((0 + 0) + 0) + 1) + 0) + 1 ≤ 2 from by omega) (show ((((0 + 0) + 0) + 5) + 0) + 12 ≤ 17 from by omega) (fun r15 S14 H locs hQ hw hx1 => ?_)
              have hX := hX.trans hx1
              have hA3 := hA3.ext hx1
              have hA0 := hA0.ext hx1
              exact rt_i F hr hlk hw hX hQ (show (((((0 + 0) + 0) + 1) + 0) + 1) ≤ 2 from by omega) (show (((((0 + 0) + 0) + 5) + 0) + 12) ≤ 17 from by omega) dX8_part_135
            · have hQ := hQ.2 hc
              refine lv_iconst (v := -1) hx hb dX8_part_59 (by decide) ?_
              exact rt_i F hr hlk hw hX hQ (show (0 + 0) ≤ 2 from by omega) (show (0 + 0) ≤ 17 from by omega) dX8_part_60
        · have hQ := hQ.2 hc
          refine lv_iconst (v := -1) hx hb dX8_part_37 (by decide) ?_
          exact rt_i F hr hlk hw hX hQ (show (0 + 0) ≤ 2 from by omega) (show (0 + 0) ≤ 17 from by omega) dX8_part_38
theorem k_X8_part {p : Program} {l : Launch} {e : Env} {R : Room} {s : State} {m : MethodId} {args : Array Value} {below : List Frame} {meth : Method} {c : Code} {H : Heap} {locs : List Loc} {cells slots : Nat} {Q : State → Prop} {cc : ByteArray} {pc nL : Nat} {ls : Array Slot} {rest : List Value} {G : GT} {S : St} {own : String} {p1 : Int32} {p2 : Int64} {post : Int32 → St → Prop} {lv : List (Nat × Value)} {idx : Nat} (F : CX p m c cc nL s args own) (hw : WW G S s H locs) (hl : lv_has ls nL lv) {a0 : Nat} (hA0 : AtO S 7 0 a0) (hQ : wp_X8_part p1 p2 S post) (h1 : Cond.methodLink own idx yX8_part ∈ wT) (hR1 : 3 + 1 ≤ R.frames) (hR2 : 8 + (7 + 11) + 64 ≤ R.locals) (hrest : (rest.map fun v => v.category).sum ≤ 8) (hdg : decode cc pc = .ok (.invokevirtual idx, 3)) (hf1 : cells + 2 ≤ R.cells) (hf2 : slots + 17 ≤ R.slots)
    (kk : ∀ (r : Int32) (S1 : St) (H1 : Heap) (locs1 : List Loc), post r S1 → WW G S1 s H1 locs1 → Ext S S1 → W p l e R s m args below meth c H1 locs1 (cells + 2) (slots + 17) Q (F0 m (pc + 3) ls (.int r :: rest))) : W p l e R s m args below meth c H locs cells slots Q (F0 m pc ls (.long p2 :: .int p1 :: .ref a0 :: rest)) :=
  cl_i (rn_V (n := 2) (As := [.int p1, .long p2]) (q := (RX8, TX8, 11)) F hw hl (m_X8_part l G p1 p2 S a0 hA0 post hQ) 7 (by decide) (by decide) hA0 rfl rfl h1 twi_yX8_part tws_yX8_part twn_RX8 two_yX8_part rfl rfl ⟨rfl, by decide, by decide, by decide +kernel⟩ rfl ⟨hR1, hR2⟩ rfl hrest hdg ⟨hf1, hf2⟩) hw kk
-- X8_again
def wp_X8_again (p1 : Int32) (S0 : St) (post : Int32 → St → Prop) : Prop :=
  wp_X8_lotAt p1 S0 (fun r2 S1 =>
  (r2 = none →
  post (-1 : Int32) S1) ∧
  (∀ j3 : Nat, r2 = some j3 →
  (¬ (gr S1 5 j3 4) = (some 4) →
  post (-1 : Int32) S1) ∧
  ((gr S1 5 j3 4) = (some 4) →
  ((gi S1 5 j3 10) = 0 →
  ∀ S5 : St, S5 = si S1 5 j3 10 (1 : Int32) →
  ∀ S6 : St, S6 = sj S5 5 j3 3 ((gj S5 5 j3 3) - ((gj S5 5 j3 3) / (10 : Int64))) →
  ∀ S7 : St, S7 = sr S6 5 j3 4 (some 0) →
  wp_X2_add (6 : Int32) p1 (-1 : Int32) (gj S7 5 j3 3) S7 (fun S9 =>
  post (1 : Int32) S9)) ∧
  (¬ (gi S1 5 j3 10) = 0 →
  post (-1 : Int32) S1))))
set_option maxRecDepth 100000 in
set_option maxHeartbeats 4000000 in
theorem m_X8_again (l : Launch) (G : GT) (p1 : Int32) (S0 : St) (a0 : Nat) (hA0 : AtO S0 7 0 a0) (post : Int32 → St → Prop) (hQ : wp_X8_again p1 S0 post) : Met l yX8_again (wM yX8_again cX8_again 3 (some (FieldType.int))) ({ frames := 3, cells := 1, slots := 5, locals := 63 } : Room) (PC G S0 [.ref a0, .int p1]) (QI G S0 post) 1 5 (QA G) := by
  refine mt_start RX8 (by decide) rfl (Nat.le_of_ble_eq_true rfl) ?_
  intro p e s m args below meth c ls F hr hlk hnm hw hl
  have hx := F.1
  have hb := F.2.1
  have hown := F.2.2.2.1
  have hts := F.2.2.2.2
  have hX : Ext S0 S0 := Ext.rf
  have hsz0 := hw.1.1.1
  have hl : lv_has ls 3 [(0, .ref a0), (1, .int p1)] := hl
  unfold wp_X8_again at hQ
  refine lv_aload_n hx hb dX8_again_0 rfl (lv_at hl 0 rfl) ?_
  refine lv_iload_n hx hb dX8_again_1 rfl (lv_at hl 1 rfl) ?_
  refine k_X8_lotAt F hw hl hA0 hQ twm_RX8_69 (Nat.le_of_ble_eq_true rfl) (Nat.le_of_ble_eq_true rfl) (Nat.le_of_ble_eq_true rfl) dX8_again_2 (show 0 + 0 ≤ 1 from by omega) (show 0 + 0 ≤ 5 from by omega) (fun S1 H locs hQ hw hx1 => ?_) (fun j3 a3 S1 H locs hQ hA3 hw hx1 => ?_)
  · have hQ := hQ.1 rfl
    have hX := hX.trans hx1
    have hA0 := hA0.ext hx1
    refine lv_astore_nN (lv' := [(2, .null), (0, .ref a0), (1, .int p1)]) hx hb dX8_again_5 rfl hl (by decide) rfl (fun ls hl => ?_)
    refine lv_aload_nN hx hb dX8_again_6 rfl (lv_at hl 0 rfl) ?_
    refine lv_ifnullN (tgt := 27) hx hb dX8_again_7 (by decide) ?_
    refine lv_iconst (v := -1) hx hb dX8_again_27 (by decide) ?_
    exact rt_i F hr hlk hw hX hQ (show (0 + 0) ≤ 1 from by omega) (show (0 + 0) ≤ 5 from by omega) dX8_again_28
  · have hQ := hQ.2 j3 rfl
    have hX := hX.trans hx1
    have hA0 := hA0.ext hx1
    refine lv_astore_n (lv' := [(2, .ref a3), (0, .ref a0), (1, .int p1)]) hx hb dX8_again_5 rfl hl (by decide) rfl (fun ls hl => ?_)
    refine lv_aload_n hx hb dX8_again_6 rfl (lv_at hl 0 rfl) ?_
    refine lv_ifnull hx hb dX8_again_7 ?_
    refine lv_aload_n hx hb dX8_again_10 rfl (lv_at hl 0 rfl) ?_
    have he4 := ww_es hw j3
    refine g_5_4 F hw hA3 twf_RX8_100 dX8_again_11 ?_
    refine pw_gets F hw 4 (by decide) rfl twf_RX8_147 dX8_again_14 ?_
    refine pw_acmp_ne (tgt := 27) F hw (by decide) he4 dX8_again_17 (by decide) (fun hc => ?_) (fun hc => ?_)
    · have hQ := hQ.1 hc
      refine lv_iconst (v := -1) hx hb dX8_again_27 (by decide) ?_
      exact rt_i F hr hlk hw hX hQ (show (0 + 0) ≤ 1 from by omega) (show (0 + 0) ≤ 5 from by omega) dX8_again_28
    · have hQ := hQ.2 hc
      refine lv_aload_n hx hb dX8_again_20 rfl (lv_at hl 0 rfl) ?_
      refine g_5_10 F hw hA3 twf_RX8_150 dX8_again_21 ?_
      refine lv_if_eq (tgt := 29) hx hb dX8_again_24 (by decide) (fun hc => ?_) (fun hc => ?_)
      · have hQ := hQ.1 hc
        refine lv_aload_n hx hb dX8_again_29 rfl (lv_at hl 0 rfl) ?_
        refine lv_iconst (v := 1) hx hb dX8_again_30 (by decide) ?_
        refine p_5_10 F hw hA3 twf_RX8_150 (Or.inr rfl) dX8_again_31 (fun S5 H locs eS5 hw hx1 => ?_)
        have hQ := hQ S5 eS5
        have hX := hX.trans hx1
        have hA3 := hA3.ext hx1
        have hA0 := hA0.ext hx1
        refine lv_aload_n hx hb dX8_again_34 rfl (lv_at hl 0 rfl) ?_
        refine lv_dup hx hb dX8_again_35 rfl ?_
        refine g_5_3 F hw hA3 twf_RX8_144 dX8_again_36 ?_
        refine lv_aload_n hx hb dX8_again_39 rfl (lv_at hl 0 rfl) ?_
        refine g_5_3 F hw hA3 twf_RX8_144 dX8_again_40 ?_
        refine lv_ldc2 (v := 10) hx hb hown (hts _ twl_RX8_153) dX8_again_43 ?_
        refine lv_ldiv hx hb dX8_again_46 (by decide) ?_
        refine lv_lsub hx hb dX8_again_47 ?_
        refine p_5_3 F hw hA3 twf_RX8_144 dX8_again_48 (fun S6 H locs eS6 hw hx1 => ?_)
        have hQ := hQ S6 eS6
        have hX := hX.trans hx1
        have hA3 := hA3.ext hx1
        have hA0 := hA0.ext hx1
        refine lv_aload_n hx hb dX8_again_51 rfl (lv_at hl 0 rfl) ?_
        refine pw_gets F hw 0 (by decide) rfl twf_RX8_155 dX8_again_52 ?_
        refine p_5_4 F hw hA3 twf_RX8_100 (by decide) dX8_again_55 (fun S7 H locs eS7 hw hx1 => ?_)
        have hQ := hQ S7 eS7
        have hX := hX.trans hx1
        have hA3 := hA3.ext hx1
        have hA0 := hA0.ext hx1
        refine lv_aload_n hx hb dX8_again_58 rfl (lv_at hl 1 rfl) ?_
        refine g_7_4 F hw hA0 twf_RX8_37 dX8_again_59 (fun a8 hA8 => ?_)
        refine lv_bipush (v := 6) hx hb dX8_again_62 (by decide) ?_
        refine lv_iload_n hx hb dX8_again_64 rfl (lv_at hl 2 rfl) ?_
        refine lv_iconst (v := -1) hx hb dX8_again_65 (by decide) ?_
        refine lv_aload_n hx hb dX8_again_66 rfl (lv_at hl 0 rfl) ?_
        refine g_5_3 F hw hA3 twf_RX8_144 dX8_again_67 ?_
        refine k_X2_add F hw hl hA8 hQ twm_RX8_137 (Nat.le_of_ble_eq_true rfl) (Nat.le_of_ble_eq_true rfl) (Nat.le_of_ble_eq_true rfl) dX8_again_70 (show (0 + 0) + 1 ≤ 1 from by omega) (show (0 + 0) + 5 ≤ 5 from by omega) (fun S9 H locs hQ hw hx1 => ?_)
        have hX := hX.trans hx1
        have hA3 := hA3.ext hx1
        have hA0 := hA0.ext hx1
        refine lv_iconst (v := 1) hx hb dX8_again_73 (by decide) ?_
        exact rt_i F hr hlk hw hX hQ (show ((0 + 0) + 1) ≤ 1 from by omega) (show ((0 + 0) + 5) ≤ 5 from by omega) dX8_again_74
      · have hQ := hQ.2 hc
        refine lv_iconst (v := -1) hx hb dX8_again_27 (by decide) ?_
        exact rt_i F hr hlk hw hX hQ (show (0 + 0) ≤ 1 from by omega) (show (0 + 0) ≤ 5 from by omega) dX8_again_28
theorem k_X8_again {p : Program} {l : Launch} {e : Env} {R : Room} {s : State} {m : MethodId} {args : Array Value} {below : List Frame} {meth : Method} {c : Code} {H : Heap} {locs : List Loc} {cells slots : Nat} {Q : State → Prop} {cc : ByteArray} {pc nL : Nat} {ls : Array Slot} {rest : List Value} {G : GT} {S : St} {own : String} {p1 : Int32} {post : Int32 → St → Prop} {lv : List (Nat × Value)} {idx : Nat} (F : CX p m c cc nL s args own) (hw : WW G S s H locs) (hl : lv_has ls nL lv) {a0 : Nat} (hA0 : AtO S 7 0 a0) (hQ : wp_X8_again p1 S post) (h1 : Cond.methodLink own idx yX8_again ∈ wT) (hR1 : 3 + 1 ≤ R.frames) (hR2 : 8 + (3 + 11) + 63 ≤ R.locals) (hrest : (rest.map fun v => v.category).sum ≤ 8) (hdg : decode cc pc = .ok (.invokevirtual idx, 3)) (hf1 : cells + 1 ≤ R.cells) (hf2 : slots + 5 ≤ R.slots)
    (kk : ∀ (r : Int32) (S1 : St) (H1 : Heap) (locs1 : List Loc), post r S1 → WW G S1 s H1 locs1 → Ext S S1 → W p l e R s m args below meth c H1 locs1 (cells + 1) (slots + 5) Q (F0 m (pc + 3) ls (.int r :: rest))) : W p l e R s m args below meth c H locs cells slots Q (F0 m pc ls (.int p1 :: .ref a0 :: rest)) :=
  cl_i (rn_V (n := 1) (As := [.int p1]) (q := (RX8, TX8, 11)) F hw hl (m_X8_again l G p1 S a0 hA0 post hQ) 7 (by decide) (by decide) hA0 rfl rfl h1 twi_yX8_again tws_yX8_again twn_RX8 two_yX8_again rfl rfl ⟨rfl, by decide, by decide, by decide +kernel⟩ rfl ⟨hR1, hR2⟩ rfl hrest hdg ⟨hf1, hf2⟩) hw kk
-- X5_canGoBack
def wp_X5_canGoBack (j0 : Nat) (S0 : St) (post : Int32 → St → Prop) : Prop :=
  ((gr S0 5 j0 4) = (some 0) →
  post (1 : Int32) S0) ∧
  (¬ (gr S0 5 j0 4) = (some 0) →
  ((gr S0 5 j0 4) = (some 2) →
  post (1 : Int32) S0) ∧
  (¬ (gr S0 5 j0 4) = (some 2) →
  (¬ (gr S0 5 j0 4) = (some 4) →
  post (0 : Int32) S0) ∧
  ((gr S0 5 j0 4) = (some 4) →
  post (1 : Int32) S0)))
set_option maxRecDepth 100000 in
set_option maxHeartbeats 4000000 in
theorem m_X5_canGoBack (l : Launch) (G : GT) (j0 : Nat) (S0 : St) (a0 : Nat) (hA0 : AtO S0 5 j0 a0) (post : Int32 → St → Prop) (hQ : wp_X5_canGoBack j0 S0 post) : Met l yX5_canGoBack (wM yX5_canGoBack cX5_canGoBack 1 (some (FieldType.boolean))) ({ frames := 0, cells := 0, slots := 0, locals := 0 } : Room) (PC G S0 [.ref a0]) (QI G S0 post) 0 0 (QA G) := by
  refine mt_start RX5 (by decide) rfl (Nat.le_of_ble_eq_true rfl) ?_
  intro p e s m args below meth c ls F hr hlk hnm hw hl
  have hx := F.1
  have hb := F.2.1
  have hown := F.2.2.2.1
  have hts := F.2.2.2.2
  have hX : Ext S0 S0 := Ext.rf
  have hsz0 := hw.1.1.1
  have hl : lv_has ls 1 [(0, .ref a0)] := hl
  unfold wp_X5_canGoBack at hQ
  refine lv_aload_n hx hb dX5_canGoBack_0 rfl (lv_at hl 0 rfl) ?_
  have he1 := ww_es hw j0
  refine g_5_4 F hw hA0 twf_RX5_31 dX5_canGoBack_1 ?_
  refine pw_gets F hw 0 (by decide) rfl twf_RX5_25 dX5_canGoBack_4 ?_
  refine pw_acmp_eq (tgt := 30) F hw (by decide) he1 dX5_canGoBack_7 (by decide) (fun hc => ?_) (fun hc => ?_)
  · have hQ := hQ.1 hc
    refine lv_iconst (v := 1) hx hb dX5_canGoBack_30 (by decide) ?_
    refine lv_goto (tgt := 35) hx hb dX5_canGoBack_31 (by decide) ?_
    exact rt_z F hr hlk hw hX hQ rfl (show 0 ≤ 0 from by omega) (show 0 ≤ 0 from by omega) dX5_canGoBack_35
  · have hQ := hQ.2 hc
    refine lv_aload_n hx hb dX5_canGoBack_10 rfl (lv_at hl 0 rfl) ?_
    have he2 := ww_es hw j0
    refine g_5_4 F hw hA0 twf_RX5_31 dX5_canGoBack_11 ?_
    refine pw_gets F hw 2 (by decide) rfl twf_RX5_40 dX5_canGoBack_14 ?_
    refine pw_acmp_eq (tgt := 30) F hw (by decide) he2 dX5_canGoBack_17 (by decide) (fun hc => ?_) (fun hc => ?_)
    · have hQ := hQ.1 hc
      refine lv_iconst (v := 1) hx hb dX5_canGoBack_30 (by decide) ?_
      refine lv_goto (tgt := 35) hx hb dX5_canGoBack_31 (by decide) ?_
      exact rt_z F hr hlk hw hX hQ rfl (show 0 ≤ 0 from by omega) (show 0 ≤ 0 from by omega) dX5_canGoBack_35
    · have hQ := hQ.2 hc
      refine lv_aload_n hx hb dX5_canGoBack_20 rfl (lv_at hl 0 rfl) ?_
      have he3 := ww_es hw j0
      refine g_5_4 F hw hA0 twf_RX5_31 dX5_canGoBack_21 ?_
      refine pw_gets F hw 4 (by decide) rfl twf_RX5_43 dX5_canGoBack_24 ?_
      refine pw_acmp_ne (tgt := 34) F hw (by decide) he3 dX5_canGoBack_27 (by decide) (fun hc => ?_) (fun hc => ?_)
      · have hQ := hQ.1 hc
        refine lv_iconst (v := 0) hx hb dX5_canGoBack_34 (by decide) ?_
        exact rt_z F hr hlk hw hX hQ rfl (show 0 ≤ 0 from by omega) (show 0 ≤ 0 from by omega) dX5_canGoBack_35
      · have hQ := hQ.2 hc
        refine lv_iconst (v := 1) hx hb dX5_canGoBack_30 (by decide) ?_
        refine lv_goto (tgt := 35) hx hb dX5_canGoBack_31 (by decide) ?_
        exact rt_z F hr hlk hw hX hQ rfl (show 0 ≤ 0 from by omega) (show 0 ≤ 0 from by omega) dX5_canGoBack_35
theorem k_X5_canGoBack {p : Program} {l : Launch} {e : Env} {R : Room} {s : State} {m : MethodId} {args : Array Value} {below : List Frame} {meth : Method} {c : Code} {H : Heap} {locs : List Loc} {cells slots : Nat} {Q : State → Prop} {cc : ByteArray} {pc nL : Nat} {ls : Array Slot} {rest : List Value} {G : GT} {S : St} {own : String} {j0 : Nat} {post : Int32 → St → Prop} {lv : List (Nat × Value)} {idx : Nat} (F : CX p m c cc nL s args own) (hw : WW G S s H locs) (hl : lv_has ls nL lv) {a0 : Nat} (hA0 : AtO S 5 j0 a0) (hQ : wp_X5_canGoBack j0 S post) (h1 : Cond.methodLink own idx yX5_canGoBack ∈ wT) (hR1 : 0 + 1 ≤ R.frames) (hR2 : 8 + (1 + 11) + 0 ≤ R.locals) (hrest : (rest.map fun v => v.category).sum ≤ 8) (hdg : decode cc pc = .ok (.invokevirtual idx, 3)) (hf1 : cells + 0 ≤ R.cells) (hf2 : slots + 0 ≤ R.slots)
    (kk : ∀ (r : Int32) (S1 : St) (H1 : Heap) (locs1 : List Loc), post r S1 → WW G S1 s H1 locs1 → Ext S S1 → W p l e R s m args below meth c H1 locs1 (cells + 0) (slots + 0) Q (F0 m (pc + 3) ls (.int r :: rest))) : W p l e R s m args below meth c H locs cells slots Q (F0 m pc ls (.ref a0 :: rest)) :=
  cl_i (rn_V (n := 0) (As := []) (q := (RX5, TX5, 12)) F hw hl (m_X5_canGoBack l G j0 S a0 hA0 post hQ) 5 (by decide) (by decide) hA0 rfl rfl h1 twi_yX5_canGoBack tws_yX5_canGoBack twn_RX5 two_yX5_canGoBack rfl rfl ⟨rfl, by decide, by decide, by decide +kernel⟩ rfl ⟨hR1, hR2⟩ rfl hrest hdg ⟨hf1, hf2⟩) hw kk
-- X8_back
def wp_X8_back (p1 : Int32) (S0 : St) (post : Int32 → St → Prop) : Prop :=
  wp_X8_lotAt p1 S0 (fun r2 S1 =>
  (r2 = none →
  post (-1 : Int32) S1) ∧
  (∀ j3 : Nat, r2 = some j3 →
  wp_X5_canGoBack j3 S1 (fun r5 S4 =>
  (¬ r5 = 0 →
  ∀ S6 : St, S6 = sr S4 5 j3 4 (some 5) →
  wp_X2_add (7 : Int32) p1 (-1 : Int32) (0 : Int64) S6 (fun S8 =>
  post (1 : Int32) S8)) ∧
  (r5 = 0 →
  post (-1 : Int32) S4))))
set_option maxRecDepth 100000 in
set_option maxHeartbeats 4000000 in
theorem m_X8_back (l : Launch) (G : GT) (p1 : Int32) (S0 : St) (a0 : Nat) (hA0 : AtO S0 7 0 a0) (post : Int32 → St → Prop) (hQ : wp_X8_back p1 S0 post) : Met l yX8_back (wM yX8_back cX8_back 3 (some (FieldType.int))) ({ frames := 3, cells := 1, slots := 5, locals := 63 } : Room) (PC G S0 [.ref a0, .int p1]) (QI G S0 post) 1 5 (QA G) := by
  refine mt_start RX8 (by decide) rfl (Nat.le_of_ble_eq_true rfl) ?_
  intro p e s m args below meth c ls F hr hlk hnm hw hl
  have hx := F.1
  have hb := F.2.1
  have hown := F.2.2.2.1
  have hts := F.2.2.2.2
  have hX : Ext S0 S0 := Ext.rf
  have hsz0 := hw.1.1.1
  have hl : lv_has ls 3 [(0, .ref a0), (1, .int p1)] := hl
  unfold wp_X8_back at hQ
  refine lv_aload_n hx hb dX8_back_0 rfl (lv_at hl 0 rfl) ?_
  refine lv_iload_n hx hb dX8_back_1 rfl (lv_at hl 1 rfl) ?_
  refine k_X8_lotAt F hw hl hA0 hQ twm_RX8_69 (Nat.le_of_ble_eq_true rfl) (Nat.le_of_ble_eq_true rfl) (Nat.le_of_ble_eq_true rfl) dX8_back_2 (show 0 + 0 ≤ 1 from by omega) (show 0 + 0 ≤ 5 from by omega) (fun S1 H locs hQ hw hx1 => ?_) (fun j3 a3 S1 H locs hQ hA3 hw hx1 => ?_)
  · have hQ := hQ.1 rfl
    have hX := hX.trans hx1
    have hA0 := hA0.ext hx1
    refine lv_astore_nN (lv' := [(2, .null), (0, .ref a0), (1, .int p1)]) hx hb dX8_back_5 rfl hl (by decide) rfl (fun ls hl => ?_)
    refine lv_aload_nN hx hb dX8_back_6 rfl (lv_at hl 0 rfl) ?_
    refine lv_ifnullN (tgt := 17) hx hb dX8_back_7 (by decide) ?_
    refine lv_iconst (v := -1) hx hb dX8_back_17 (by decide) ?_
    exact rt_i F hr hlk hw hX hQ (show (0 + 0) ≤ 1 from by omega) (show (0 + 0) ≤ 5 from by omega) dX8_back_18
  · have hQ := hQ.2 j3 rfl
    have hX := hX.trans hx1
    have hA0 := hA0.ext hx1
    refine lv_astore_n (lv' := [(2, .ref a3), (0, .ref a0), (1, .int p1)]) hx hb dX8_back_5 rfl hl (by decide) rfl (fun ls hl => ?_)
    refine lv_aload_n hx hb dX8_back_6 rfl (lv_at hl 0 rfl) ?_
    refine lv_ifnull hx hb dX8_back_7 ?_
    refine lv_aload_n hx hb dX8_back_10 rfl (lv_at hl 0 rfl) ?_
    refine k_X5_canGoBack F hw hl hA3 hQ twm_RX8_158 (Nat.le_of_ble_eq_true rfl) (Nat.le_of_ble_eq_true rfl) (Nat.le_of_ble_eq_true rfl) dX8_back_11 (show (0 + 0) + 0 ≤ 1 from by omega) (show (0 + 0) + 0 ≤ 5 from by omega) (fun r5 S4 H locs hQ hw hx1 => ?_)
    have hX := hX.trans hx1
    have hA3 := hA3.ext hx1
    have hA0 := hA0.ext hx1
    refine lv_if_ne (tgt := 19) hx hb dX8_back_14 (by decide) (fun hc => ?_) (fun hc => ?_)
    · have hQ := hQ.1 hc
      refine lv_aload_n hx hb dX8_back_19 rfl (lv_at hl 0 rfl) ?_
      refine pw_gets F hw 5 (by decide) rfl twf_RX8_161 dX8_back_20 ?_
      refine p_5_4 F hw hA3 twf_RX8_100 (by decide) dX8_back_23 (fun S6 H locs eS6 hw hx1 => ?_)
      have hQ := hQ S6 eS6
      have hX := hX.trans hx1
      have hA3 := hA3.ext hx1
      have hA0 := hA0.ext hx1
      refine lv_aload_n hx hb dX8_back_26 rfl (lv_at hl 1 rfl) ?_
      refine g_7_4 F hw hA0 twf_RX8_37 dX8_back_27 (fun a7 hA7 => ?_)
      refine lv_bipush (v := 7) hx hb dX8_back_30 (by decide) ?_
      refine lv_iload_n hx hb dX8_back_32 rfl (lv_at hl 2 rfl) ?_
      refine lv_iconst (v := -1) hx hb dX8_back_33 (by decide) ?_
      refine lv_lconst (v := 0) hx hb dX8_back_34 (by decide) ?_
      refine k_X2_add F hw hl hA7 hQ twm_RX8_137 (Nat.le_of_ble_eq_true rfl) (Nat.le_of_ble_eq_true rfl) (Nat.le_of_ble_eq_true rfl) dX8_back_35 (show ((0 + 0) + 0) + 1 ≤ 1 from by omega) (show ((0 + 0) + 0) + 5 ≤ 5 from by omega) (fun S8 H locs hQ hw hx1 => ?_)
      have hX := hX.trans hx1
      have hA3 := hA3.ext hx1
      have hA0 := hA0.ext hx1
      refine lv_iconst (v := 1) hx hb dX8_back_38 (by decide) ?_
      exact rt_i F hr hlk hw hX hQ (show (((0 + 0) + 0) + 1) ≤ 1 from by omega) (show (((0 + 0) + 0) + 5) ≤ 5 from by omega) dX8_back_39
    · have hQ := hQ.2 hc
      refine lv_iconst (v := -1) hx hb dX8_back_17 (by decide) ?_
      exact rt_i F hr hlk hw hX hQ (show ((0 + 0) + 0) ≤ 1 from by omega) (show ((0 + 0) + 0) ≤ 5 from by omega) dX8_back_18
theorem k_X8_back {p : Program} {l : Launch} {e : Env} {R : Room} {s : State} {m : MethodId} {args : Array Value} {below : List Frame} {meth : Method} {c : Code} {H : Heap} {locs : List Loc} {cells slots : Nat} {Q : State → Prop} {cc : ByteArray} {pc nL : Nat} {ls : Array Slot} {rest : List Value} {G : GT} {S : St} {own : String} {p1 : Int32} {post : Int32 → St → Prop} {lv : List (Nat × Value)} {idx : Nat} (F : CX p m c cc nL s args own) (hw : WW G S s H locs) (hl : lv_has ls nL lv) {a0 : Nat} (hA0 : AtO S 7 0 a0) (hQ : wp_X8_back p1 S post) (h1 : Cond.methodLink own idx yX8_back ∈ wT) (hR1 : 3 + 1 ≤ R.frames) (hR2 : 8 + (3 + 11) + 63 ≤ R.locals) (hrest : (rest.map fun v => v.category).sum ≤ 8) (hdg : decode cc pc = .ok (.invokevirtual idx, 3)) (hf1 : cells + 1 ≤ R.cells) (hf2 : slots + 5 ≤ R.slots)
    (kk : ∀ (r : Int32) (S1 : St) (H1 : Heap) (locs1 : List Loc), post r S1 → WW G S1 s H1 locs1 → Ext S S1 → W p l e R s m args below meth c H1 locs1 (cells + 1) (slots + 5) Q (F0 m (pc + 3) ls (.int r :: rest))) : W p l e R s m args below meth c H locs cells slots Q (F0 m pc ls (.int p1 :: .ref a0 :: rest)) :=
  cl_i (rn_V (n := 1) (As := [.int p1]) (q := (RX8, TX8, 11)) F hw hl (m_X8_back l G p1 S a0 hA0 post hQ) 7 (by decide) (by decide) hA0 rfl rfl h1 twi_yX8_back tws_yX8_back twn_RX8 two_yX8_back rfl rfl ⟨rfl, by decide, by decide, by decide +kernel⟩ rfl ⟨hR1, hR2⟩ rfl hrest hdg ⟨hf1, hf2⟩) hw kk
-- X4_endOf
def wp_X4_endOf (p1 : Int64) (p2 : Int64) (S0 : St) (post : Int64 → St → Prop) : Prop :=
  ((0 : Int64) < p2 →
  ¬ p2 = 0 ∧
  post (((p1 / p2) + (1 : Int64)) * (100 : Int64)) S0) ∧
  (¬ (0 : Int64) < p2 →
  post (0 : Int64) S0)
set_option maxRecDepth 100000 in
set_option maxHeartbeats 4000000 in
theorem m_X4_endOf (l : Launch) (G : GT) (p1 : Int64) (p2 : Int64) (S0 : St)  (post : Int64 → St → Prop) (hQ : wp_X4_endOf p1 p2 S0 post) : Met l yX4_endOf (wM yX4_endOf cX4_endOf 4 (some (FieldType.long))) ({ frames := 0, cells := 0, slots := 0, locals := 0 } : Room) (PC G S0 [.long p1, .long p2]) (QJ G S0 post) 0 0 (QA G) := by
  refine mt_start RX4 (by decide) rfl (Nat.le_of_ble_eq_true rfl) ?_
  intro p e s m args below meth c ls F hr hlk hnm hw hl
  have hx := F.1
  have hb := F.2.1
  have hown := F.2.2.2.1
  have hts := F.2.2.2.2
  have hX : Ext S0 S0 := Ext.rf
  have hsz0 := hw.1.1.1
  have hl : lv_has ls 4 [(0, .long p1), (2, .long p2)] := hl
  unfold wp_X4_endOf at hQ
  refine lv_lload_n hx hb dX4_endOf_0 rfl (lv_at hl 1 rfl) ?_
  refine lv_lconst (v := 0) hx hb dX4_endOf_1 (by decide) ?_
  refine lc_gt (tgt := 10) F dX4_endOf_2 dX4_endOf_3 (by decide) (fun hc => ?_) (fun hc => ?_)
  · have hQ := hQ.1 hc
    refine lv_lload_n hx hb dX4_endOf_10 rfl (lv_at hl 0 rfl) ?_
    refine lv_lload_n hx hb dX4_endOf_11 rfl (lv_at hl 1 rfl) ?_
    obtain ⟨hne, hQ⟩ := hQ
    refine lv_ldiv hx hb dX4_endOf_12 hne ?_
    refine lv_lconst (v := 1) hx hb dX4_endOf_13 (by decide) ?_
    refine lv_ladd hx hb dX4_endOf_14 ?_
    refine lv_ldc2 (v := 100) hx hb hown (hts _ twl_RX4_7) dX4_endOf_15 ?_
    refine lv_lmul hx hb dX4_endOf_18 ?_
    exact rt_l F hr hlk hw hX hQ (show 0 ≤ 0 from by omega) (show 0 ≤ 0 from by omega) dX4_endOf_19
  · have hQ := hQ.2 hc
    refine lv_lconst (v := 0) hx hb dX4_endOf_6 (by decide) ?_
    refine lv_goto (tgt := 19) hx hb dX4_endOf_7 (by decide) ?_
    exact rt_l F hr hlk hw hX hQ (show 0 ≤ 0 from by omega) (show 0 ≤ 0 from by omega) dX4_endOf_19
theorem k_X4_endOf {p : Program} {l : Launch} {e : Env} {R : Room} {s : State} {m : MethodId} {args : Array Value} {below : List Frame} {meth : Method} {c : Code} {H : Heap} {locs : List Loc} {cells slots : Nat} {Q : State → Prop} {cc : ByteArray} {pc nL : Nat} {ls : Array Slot} {rest : List Value} {G : GT} {S : St} {own : String} {p1 : Int64} {p2 : Int64} {post : Int64 → St → Prop} {lv : List (Nat × Value)} {idx : Nat} (F : CX p m c cc nL s args own) (hw : WW G S s H locs) (hl : lv_has ls nL lv)  (hQ : wp_X4_endOf p1 p2 S post) (h1 : Cond.methodLink own idx yX4_endOf ∈ wT) (hR1 : 0 + 1 ≤ R.frames) (hR2 : 8 + (4 + 11) + 0 ≤ R.locals) (hrest : (rest.map fun v => v.category).sum ≤ 8) (hdg : decode cc pc = .ok (.invokestatic idx, 3)) (hf1 : cells + 0 ≤ R.cells) (hf2 : slots + 0 ≤ R.slots)
    (kk : ∀ (r : Int64) (S1 : St) (H1 : Heap) (locs1 : List Loc), post r S1 → WW G S1 s H1 locs1 → Ext S S1 → W p l e R s m args below meth c H1 locs1 (cells + 0) (slots + 0) Q (F0 m (pc + 3) ls (.long r :: rest))) : W p l e R s m args below meth c H locs cells slots Q (F0 m pc ls (.long p2 :: .long p1 :: rest)) :=
  cl_l (rn_S (n := 2) (As := [.long p1, .long p2]) F hw hl (m_X4_endOf l G p1 p2 S  post hQ) h1 twi_yX4_endOf twn_RX4 two_yX4_endOf rfl rfl ⟨by decide, by decide, by decide +kernel⟩ rfl ⟨hR1, hR2⟩ rfl hrest hdg ⟨hf1, hf2⟩) hw kk
-- X4_begin
def wp_X4_begin (jp1 : Nat) (p2 : Int64) (p3 : Int64) (p4 : Int64) (S0 : St) (post : St → Prop) : Prop :=
  ∀ S1 : St, S1 = sr S0 4 0 0 (some jp1) →
  ∀ S2 : St, S2 = sj S1 4 0 1 p2 →
  ∀ S3 : St, S3 = sj S2 4 0 2 p3 →
  ∀ S4 : St, S4 = sj S3 4 0 3 p4 →
  ∀ S5 : St, S5 = sj S4 4 0 4 (0 : Int64) →
  ∀ S6 : St, S6 = si S5 4 0 5 (0 : Int32) →
  post S6
set_option maxRecDepth 100000 in
set_option maxHeartbeats 4000000 in
theorem m_X4_begin (l : Launch) (G : GT) (jp1 : Nat) (p2 : Int64) (p3 : Int64) (p4 : Int64) (S0 : St) (a0 : Nat) (hA0 : AtO S0 4 0 a0) (ap1 : Nat) (hAp1 : AtO S0 5 jp1 ap1) (post : St → Prop) (hQ : wp_X4_begin jp1 p2 p3 p4 S0 post) : Met l yX4_begin (wM yX4_begin cX4_begin 8 none) ({ frames := 0, cells := 0, slots := 0, locals := 0 } : Room) (PC G S0 [.ref a0, .ref ap1, .long p2, .long p3, .long p4]) (QV G S0 post) 0 0 (QA G) := by
  refine mt_start RX4 (by decide) rfl (Nat.le_of_ble_eq_true rfl) ?_
  intro p e s m args below meth c ls F hr hlk hnm hw hl
  have hx := F.1
  have hb := F.2.1
  have hown := F.2.2.2.1
  have hts := F.2.2.2.2
  have hX : Ext S0 S0 := Ext.rf
  have hsz0 := hw.1.1.1
  have hl : lv_has ls 8 [(0, .ref a0), (1, .ref ap1), (2, .long p2), (4, .long p3), (6, .long p4)] := hl
  unfold wp_X4_begin at hQ
  refine lv_aload_n hx hb dX4_begin_0 rfl (lv_at hl 0 rfl) ?_
  refine lv_aload_n hx hb dX4_begin_1 rfl (lv_at hl 1 rfl) ?_
  refine p_4_0s F hw hA0 twf_RX4_9 hAp1 dX4_begin_2 (fun S1 H locs eS1 hw hx1 => ?_)
  have hQ := hQ S1 eS1
  have hX := hX.trans hx1
  have hA0 := hA0.ext hx1
  have hAp1 := hAp1.ext hx1
  refine lv_aload_n hx hb dX4_begin_5 rfl (lv_at hl 0 rfl) ?_
  refine lv_lload_n hx hb dX4_begin_6 rfl (lv_at hl 2 rfl) ?_
  refine p_4_1 F hw hA0 twf_RX4_15 dX4_begin_7 (fun S2 H locs eS2 hw hx1 => ?_)
  have hQ := hQ S2 eS2
  have hX := hX.trans hx1
  have hA0 := hA0.ext hx1
  have hAp1 := hAp1.ext hx1
  refine lv_aload_n hx hb dX4_begin_10 rfl (lv_at hl 0 rfl) ?_
  refine lv_lload hx hb dX4_begin_11 (lv_at hl 3 rfl) ?_
  refine p_4_2 F hw hA0 twf_RX4_19 dX4_begin_13 (fun S3 H locs eS3 hw hx1 => ?_)
  have hQ := hQ S3 eS3
  have hX := hX.trans hx1
  have hA0 := hA0.ext hx1
  have hAp1 := hAp1.ext hx1
  refine lv_aload_n hx hb dX4_begin_16 rfl (lv_at hl 0 rfl) ?_
  refine lv_lload hx hb dX4_begin_17 (lv_at hl 4 rfl) ?_
  refine p_4_3 F hw hA0 twf_RX4_22 dX4_begin_19 (fun S4 H locs eS4 hw hx1 => ?_)
  have hQ := hQ S4 eS4
  have hX := hX.trans hx1
  have hA0 := hA0.ext hx1
  have hAp1 := hAp1.ext hx1
  refine lv_aload_n hx hb dX4_begin_22 rfl (lv_at hl 0 rfl) ?_
  refine lv_lconst (v := 0) hx hb dX4_begin_23 (by decide) ?_
  refine p_4_4 F hw hA0 twf_RX4_25 dX4_begin_24 (fun S5 H locs eS5 hw hx1 => ?_)
  have hQ := hQ S5 eS5
  have hX := hX.trans hx1
  have hA0 := hA0.ext hx1
  have hAp1 := hAp1.ext hx1
  refine lv_aload_n hx hb dX4_begin_27 rfl (lv_at hl 0 rfl) ?_
  refine lv_iconst (v := 0) hx hb dX4_begin_28 (by decide) ?_
  refine p_4_5 F hw hA0 twf_RX4_28 (Or.inl rfl) dX4_begin_29 (fun S6 H locs eS6 hw hx1 => ?_)
  have hQ := hQ S6 eS6
  have hX := hX.trans hx1
  have hA0 := hA0.ext hx1
  have hAp1 := hAp1.ext hx1
  exact rt_v F hr hlk hw hX hQ (show 0 ≤ 0 from by omega) (show 0 ≤ 0 from by omega) dX4_begin_32
theorem k_X4_begin {p : Program} {l : Launch} {e : Env} {R : Room} {s : State} {m : MethodId} {args : Array Value} {below : List Frame} {meth : Method} {c : Code} {H : Heap} {locs : List Loc} {cells slots : Nat} {Q : State → Prop} {cc : ByteArray} {pc nL : Nat} {ls : Array Slot} {rest : List Value} {G : GT} {S : St} {own : String} {jp1 : Nat} {p2 : Int64} {p3 : Int64} {p4 : Int64} {post : St → Prop} {lv : List (Nat × Value)} {idx : Nat} (F : CX p m c cc nL s args own) (hw : WW G S s H locs) (hl : lv_has ls nL lv) {a0 : Nat} (hA0 : AtO S 4 0 a0) {ap1 : Nat} (hAp1 : AtO S 5 jp1 ap1) (hQ : wp_X4_begin jp1 p2 p3 p4 S post) (h1 : Cond.methodLink own idx yX4_begin ∈ wT) (hR1 : 0 + 1 ≤ R.frames) (hR2 : 8 + (8 + 11) + 0 ≤ R.locals) (hrest : (rest.map fun v => v.category).sum ≤ 8) (hdg : decode cc pc = .ok (.invokevirtual idx, 3)) (hf1 : cells + 0 ≤ R.cells) (hf2 : slots + 0 ≤ R.slots)
    (kk : ∀ (S1 : St) (H1 : Heap) (locs1 : List Loc), post S1 → WW G S1 s H1 locs1 → Ext S S1 → W p l e R s m args below meth c H1 locs1 (cells + 0) (slots + 0) Q (F0 m (pc + 3) ls rest)) : W p l e R s m args below meth c H locs cells slots Q (F0 m pc ls (.long p4 :: .long p3 :: .long p2 :: .ref ap1 :: .ref a0 :: rest)) :=
  cl_v (rn_V (n := 4) (As := [.ref ap1, .long p2, .long p3, .long p4]) (q := (RX4, TX4, 6)) F hw hl (m_X4_begin l G jp1 p2 p3 p4 S a0 hA0 ap1 hAp1 post hQ) 4 (by decide) (by decide) hA0 rfl rfl h1 twi_yX4_begin tws_yX4_begin twn_RX4 two_yX4_begin rfl rfl ⟨rfl, by decide, by decide, by decide +kernel⟩ rfl ⟨hR1, hR2⟩ rfl hrest hdg ⟨hf1, hf2⟩) hw kk
-- X8_start
def wp_X8_start (p1 : Int32) (p2 : Int64) (p3 : Int64) (S0 : St) (post : Int32 → St → Prop) : Prop :=
  wp_X8_lotAt p1 S0 (fun r2 S1 =>
  (r2 = none →
  post (-1 : Int32) S1) ∧
  (∀ j3 : Nat, r2 = some j3 →
  (¬ (gr S1 5 j3 4) = (some 0) →
  post (-1 : Int32) S1) ∧
  ((gr S1 5 j3 4) = (some 0) →
  (gr S1 4 0 0 = none →
  wp_X8_isWithin p2 (gj S1 5 j3 3) (1000000000 : Int64) S1 (fun r8 S7 =>
  (r8 = 0 →
  post (-1 : Int32) S7) ∧
  (¬ r8 = 0 →
  wp_X8_isWithin p3 (1 : Int64) (1000000 : Int64) S7 (fun r10 S9 =>
  (¬ r10 = 0 →
  wp_X4_endOf (p2 - (gj S9 5 j3 3)) p3 S9 (fun r12 S11 =>
  (r12 ≤ (10000000 : Int64) →
  wp_X4_begin j3 p2 p3 r12 S11 (fun S14 =>
  ∀ S15 : St, S15 = sr S14 5 j3 4 (some 1) →
  post (r12.toInt32) S15)) ∧
  (¬ r12 ≤ (10000000 : Int64) →
  post (-1 : Int32) S11))) ∧
  (r10 = 0 →
  post (-1 : Int32) S9))))) ∧
  (∀ j6 : Nat, gr S1 4 0 0 = some j6 →
  post (-1 : Int32) S1))))
set_option maxRecDepth 100000 in
set_option maxHeartbeats 4000000 in
theorem m_X8_start (l : Launch) (G : GT) (p1 : Int32) (p2 : Int64) (p3 : Int64) (S0 : St) (a0 : Nat) (hA0 : AtO S0 7 0 a0) (post : Int32 → St → Prop) (hQ : wp_X8_start p1 p2 p3 S0 post) : Met l yX8_start (wM yX8_start cX8_start 9 (some (FieldType.int))) ({ frames := 1, cells := 0, slots := 0, locals := 27 } : Room) (PC G S0 [.ref a0, .int p1, .long p2, .long p3]) (QI G S0 post) 0 0 (QA G) := by
  refine mt_start RX8 (by decide) rfl (Nat.le_of_ble_eq_true rfl) ?_
  intro p e s m args below meth c ls F hr hlk hnm hw hl
  have hx := F.1
  have hb := F.2.1
  have hown := F.2.2.2.1
  have hts := F.2.2.2.2
  have hX : Ext S0 S0 := Ext.rf
  have hsz0 := hw.1.1.1
  have hl : lv_has ls 9 [(0, .ref a0), (1, .int p1), (2, .long p2), (4, .long p3)] := hl
  unfold wp_X8_start at hQ
  refine lv_aload_n hx hb dX8_start_0 rfl (lv_at hl 0 rfl) ?_
  refine lv_iload_n hx hb dX8_start_1 rfl (lv_at hl 1 rfl) ?_
  refine k_X8_lotAt F hw hl hA0 hQ twm_RX8_69 (Nat.le_of_ble_eq_true rfl) (Nat.le_of_ble_eq_true rfl) (Nat.le_of_ble_eq_true rfl) dX8_start_2 (show 0 + 0 ≤ 0 from by omega) (show 0 + 0 ≤ 0 from by omega) (fun S1 H locs hQ hw hx1 => ?_) (fun j3 a3 S1 H locs hQ hA3 hw hx1 => ?_)
  · have hQ := hQ.1 rfl
    have hX := hX.trans hx1
    have hA0 := hA0.ext hx1
    refine lv_astoreN (lv' := [(6, .null), (0, .ref a0), (1, .int p1), (2, .long p2), (4, .long p3)]) hx hb dX8_start_5 hl (by decide) rfl (fun ls hl => ?_)
    refine lv_aloadN hx hb dX8_start_7 (lv_at hl 0 rfl) ?_
    refine lv_ifnullN (tgt := 33) hx hb dX8_start_9 (by decide) ?_
    refine lv_iconst (v := -1) hx hb dX8_start_33 (by decide) ?_
    exact rt_i F hr hlk hw hX hQ (show (0 + 0) ≤ 0 from by omega) (show (0 + 0) ≤ 0 from by omega) dX8_start_34
  · have hQ := hQ.2 j3 rfl
    have hX := hX.trans hx1
    have hA0 := hA0.ext hx1
    refine lv_astore (lv' := [(6, .ref a3), (0, .ref a0), (1, .int p1), (2, .long p2), (4, .long p3)]) hx hb dX8_start_5 hl (by decide) rfl (fun ls hl => ?_)
    refine lv_aload hx hb dX8_start_7 (lv_at hl 0 rfl) ?_
    refine lv_ifnull hx hb dX8_start_9 ?_
    refine lv_aload hx hb dX8_start_12 (lv_at hl 0 rfl) ?_
    have he4 := ww_es hw j3
    refine g_5_4 F hw hA3 twf_RX8_100 dX8_start_14 ?_
    refine pw_gets F hw 0 (by decide) rfl twf_RX8_155 dX8_start_17 ?_
    refine pw_acmp_ne (tgt := 33) F hw (by decide) he4 dX8_start_20 (by decide) (fun hc => ?_) (fun hc => ?_)
    · have hQ := hQ.1 hc
      refine lv_iconst (v := -1) hx hb dX8_start_33 (by decide) ?_
      exact rt_i F hr hlk hw hX hQ (show (0 + 0) ≤ 0 from by omega) (show (0 + 0) ≤ 0 from by omega) dX8_start_34
    · have hQ := hQ.2 hc
      refine lv_aload_n hx hb dX8_start_23 rfl (lv_at hl 1 rfl) ?_
      refine g_7_3 F hw hA0 twf_RX8_30 dX8_start_24 (fun a5 hA5 => ?_)
      refine g_4_0 F hw hA5 twf_RX8_164 dX8_start_27 (fun hrf => ?_) (fun j6 a6 hrf hA6 => ?_)
      · have hQ := hQ.1 hrf
        refine lv_ifnullN (tgt := 35) hx hb dX8_start_30 (by decide) ?_
        refine lv_lload_n hx hb dX8_start_35 rfl (lv_at hl 3 rfl) ?_
        refine lv_aload hx hb dX8_start_36 (lv_at hl 0 rfl) ?_
        refine g_5_3 F hw hA3 twf_RX8_144 dX8_start_38 ?_
        refine lv_ldc2 (v := 1000000000) hx hb hown (hts _ twl_RX8_54) dX8_start_41 ?_
        refine k_X8_isWithin F hw hl hQ twm_RX8_50 (Nat.le_of_ble_eq_true rfl) (Nat.le_of_ble_eq_true rfl) (Nat.le_of_ble_eq_true rfl) dX8_start_44 (show (0 + 0) + 0 ≤ 0 from by omega) (show (0 + 0) + 0 ≤ 0 from by omega) (fun r8 S7 H locs hQ hw hx1 => ?_)
        have hX := hX.trans hx1
        have hA3 := hA3.ext hx1
        have hA0 := hA0.ext hx1
        refine lv_if_eq (tgt := 62) hx hb dX8_start_47 (by decide) (fun hc => ?_) (fun hc => ?_)
        · have hQ := hQ.1 hc
          refine lv_iconst (v := -1) hx hb dX8_start_62 (by decide) ?_
          exact rt_i F hr hlk hw hX hQ (show ((0 + 0) + 0) ≤ 0 from by omega) (show ((0 + 0) + 0) ≤ 0 from by omega) dX8_start_63
        · have hQ := hQ.2 hc
          refine lv_lload hx hb dX8_start_50 (lv_at hl 4 rfl) ?_
          refine lv_lconst (v := 1) hx hb dX8_start_52 (by decide) ?_
          refine lv_ldc2 (v := 1000000) hx hb hown (hts _ twl_RX8_168) dX8_start_53 ?_
          refine k_X8_isWithin F hw hl hQ twm_RX8_50 (Nat.le_of_ble_eq_true rfl) (Nat.le_of_ble_eq_true rfl) (Nat.le_of_ble_eq_true rfl) dX8_start_56 (show ((0 + 0) + 0) + 0 ≤ 0 from by omega) (show ((0 + 0) + 0) + 0 ≤ 0 from by omega) (fun r10 S9 H locs hQ hw hx1 => ?_)
          have hX := hX.trans hx1
          have hA3 := hA3.ext hx1
          have hA0 := hA0.ext hx1
          refine lv_if_ne (tgt := 64) hx hb dX8_start_59 (by decide) (fun hc => ?_) (fun hc => ?_)
          · have hQ := hQ.1 hc
            refine lv_lload_n hx hb dX8_start_64 rfl (lv_at hl 3 rfl) ?_
            refine lv_aload hx hb dX8_start_65 (lv_at hl 0 rfl) ?_
            refine g_5_3 F hw hA3 twf_RX8_144 dX8_start_67 ?_
            refine lv_lsub hx hb dX8_start_70 ?_
            refine lv_lload hx hb dX8_start_71 (lv_at hl 4 rfl) ?_
            refine k_X4_endOf F hw hl hQ twm_RX8_170 (Nat.le_of_ble_eq_true rfl) (Nat.le_of_ble_eq_true rfl) (Nat.le_of_ble_eq_true rfl) dX8_start_73 (show (((0 + 0) + 0) + 0) + 0 ≤ 0 from by omega) (show (((0 + 0) + 0) + 0) + 0 ≤ 0 from by omega) (fun r12 S11 H locs hQ hw hx1 => ?_)
            have hX := hX.trans hx1
            have hA3 := hA3.ext hx1
            have hA0 := hA0.ext hx1
            refine lv_lstore (lv' := [(7, .long r12), (6, .ref a3), (0, .ref a0), (1, .int p1), (2, .long p2), (4, .long p3)]) hx hb dX8_start_76 hl (by decide) rfl (fun ls hl => ?_)
            refine lv_lload hx hb dX8_start_78 (lv_at hl 0 rfl) ?_
            refine lv_ldc2 (v := 10000000) hx hb hown (hts _ twl_RX8_174) dX8_start_80 ?_
            refine lc_le (tgt := 89) F dX8_start_83 dX8_start_84 (by decide) (fun hc => ?_) (fun hc => ?_)
            · have hQ := hQ.1 hc
              refine lv_aload_n hx hb dX8_start_89 rfl (lv_at hl 2 rfl) ?_
              refine g_7_3 F hw hA0 twf_RX8_30 dX8_start_90 (fun a13 hA13 => ?_)
              refine lv_aload hx hb dX8_start_93 (lv_at hl 1 rfl) ?_
              refine lv_lload_n hx hb dX8_start_95 rfl (lv_at hl 4 rfl) ?_
              refine lv_lload hx hb dX8_start_96 (lv_at hl 5 rfl) ?_
              refine lv_lload hx hb dX8_start_98 (lv_at hl 0 rfl) ?_
              refine k_X4_begin F hw hl hA13 hA3 hQ twm_RX8_176 (Nat.le_of_ble_eq_true rfl) (Nat.le_of_ble_eq_true rfl) (Nat.le_of_ble_eq_true rfl) dX8_start_100 (show ((((0 + 0) + 0) + 0) + 0) + 0 ≤ 0 from by omega) (show ((((0 + 0) + 0) + 0) + 0) + 0 ≤ 0 from by omega) (fun S14 H locs hQ hw hx1 => ?_)
              have hX := hX.trans hx1
              have hA3 := hA3.ext hx1
              have hA0 := hA0.ext hx1
              refine lv_aload hx hb dX8_start_103 (lv_at hl 1 rfl) ?_
              refine pw_gets F hw 1 (by decide) rfl twf_RX8_180 dX8_start_105 ?_
              refine p_5_4 F hw hA3 twf_RX8_100 (by decide) dX8_start_108 (fun S15 H locs eS15 hw hx1 => ?_)
              have hQ := hQ S15 eS15
              have hX := hX.trans hx1
              have hA3 := hA3.ext hx1
              have hA0 := hA0.ext hx1
              refine lv_lload hx hb dX8_start_111 (lv_at hl 0 rfl) ?_
              refine lv_l2i hx hb dX8_start_113 rfl ?_
              exact rt_i F hr hlk hw hX hQ (show (((((0 + 0) + 0) + 0) + 0) + 0) ≤ 0 from by omega) (show (((((0 + 0) + 0) + 0) + 0) + 0) ≤ 0 from by omega) dX8_start_114
            · have hQ := hQ.2 hc
              refine lv_iconst (v := -1) hx hb dX8_start_87 (by decide) ?_
              exact rt_i F hr hlk hw hX hQ (show ((((0 + 0) + 0) + 0) + 0) ≤ 0 from by omega) (show ((((0 + 0) + 0) + 0) + 0) ≤ 0 from by omega) dX8_start_88
          · have hQ := hQ.2 hc
            refine lv_iconst (v := -1) hx hb dX8_start_62 (by decide) ?_
            exact rt_i F hr hlk hw hX hQ (show (((0 + 0) + 0) + 0) ≤ 0 from by omega) (show (((0 + 0) + 0) + 0) ≤ 0 from by omega) dX8_start_63
      · have hQ := hQ.2 j6 hrf
        refine lv_ifnull hx hb dX8_start_30 ?_
        refine lv_iconst (v := -1) hx hb dX8_start_33 (by decide) ?_
        exact rt_i F hr hlk hw hX hQ (show (0 + 0) ≤ 0 from by omega) (show (0 + 0) ≤ 0 from by omega) dX8_start_34
theorem k_X8_start {p : Program} {l : Launch} {e : Env} {R : Room} {s : State} {m : MethodId} {args : Array Value} {below : List Frame} {meth : Method} {c : Code} {H : Heap} {locs : List Loc} {cells slots : Nat} {Q : State → Prop} {cc : ByteArray} {pc nL : Nat} {ls : Array Slot} {rest : List Value} {G : GT} {S : St} {own : String} {p1 : Int32} {p2 : Int64} {p3 : Int64} {post : Int32 → St → Prop} {lv : List (Nat × Value)} {idx : Nat} (F : CX p m c cc nL s args own) (hw : WW G S s H locs) (hl : lv_has ls nL lv) {a0 : Nat} (hA0 : AtO S 7 0 a0) (hQ : wp_X8_start p1 p2 p3 S post) (h1 : Cond.methodLink own idx yX8_start ∈ wT) (hR1 : 1 + 1 ≤ R.frames) (hR2 : 8 + (9 + 11) + 27 ≤ R.locals) (hrest : (rest.map fun v => v.category).sum ≤ 8) (hdg : decode cc pc = .ok (.invokevirtual idx, 3)) (hf1 : cells + 0 ≤ R.cells) (hf2 : slots + 0 ≤ R.slots)
    (kk : ∀ (r : Int32) (S1 : St) (H1 : Heap) (locs1 : List Loc), post r S1 → WW G S1 s H1 locs1 → Ext S S1 → W p l e R s m args below meth c H1 locs1 (cells + 0) (slots + 0) Q (F0 m (pc + 3) ls (.int r :: rest))) : W p l e R s m args below meth c H locs cells slots Q (F0 m pc ls (.long p3 :: .long p2 :: .int p1 :: .ref a0 :: rest)) :=
  cl_i (rn_V (n := 3) (As := [.int p1, .long p2, .long p3]) (q := (RX8, TX8, 11)) F hw hl (m_X8_start l G p1 p2 p3 S a0 hA0 post hQ) 7 (by decide) (by decide) hA0 rfl rfl h1 twi_yX8_start tws_yX8_start twn_RX8 two_yX8_start rfl rfl ⟨rfl, by decide, by decide, by decide +kernel⟩ rfl ⟨hR1, hR2⟩ rfl hrest hdg ⟨hf1, hf2⟩) hw kk

-- X8_isWithin
def wp_X8_isWithin (p1 : Int64) (p2 : Int64) (p3 : Int64) (S0 : St) (post : Int32 → St → Prop) : Prop :=
  (p1 < p2 →
  post (0 : Int32) S0) ∧
  (¬ p1 < p2 →
  (p3 < p1 →
  post (0 : Int32) S0) ∧
  (¬ p3 < p1 →
  post (1 : Int32) S0))
set_option maxRecDepth 100000 in
set_option maxHeartbeats 4000000 in
theorem m_X8_isWithin (l : Launch) (G : GT) (p1 : Int64) (p2 : Int64) (p3 : Int64) (S0 : St)  (post : Int32 → St → Prop) (hQ : wp_X8_isWithin p1 p2 p3 S0 post) : Met l yX8_isWithin (wM yX8_isWithin cX8_isWithin 6 (some (FieldType.boolean))) ({ frames := 0, cells := 0, slots := 0, locals := 0 } : Room) (PC G S0 [.long p1, .long p2, .long p3]) (QI G S0 post) 0 0 (QA G) := by
  refine mt_start RX8 (by decide) rfl (Nat.le_of_ble_eq_true rfl) ?_
  intro p e s m args below meth c ls F hr hlk hnm hw hl
  have hx := F.1
  have hb := F.2.1
  have hown := F.2.2.2.1
  have hts := F.2.2.2.2
  have hX : Ext S0 S0 := Ext.rf
  have hsz0 := hw.1.1.1
  have hl : lv_has ls 6 [(0, .long p1), (2, .long p2), (4, .long p3)] := hl
  unfold wp_X8_isWithin at hQ
  refine lv_lload_n hx hb dX8_isWithin_0 rfl (lv_at hl 0 rfl) ?_
  refine lv_lload_n hx hb dX8_isWithin_1 rfl (lv_at hl 1 rfl) ?_
  refine lc_lt (tgt := 17) F dX8_isWithin_2 dX8_isWithin_3 (by decide) (fun hc => ?_) (fun hc => ?_)
  · have hQ := hQ.1 hc
    refine lv_iconst (v := 0) hx hb dX8_isWithin_17 (by decide) ?_
    exact rt_z F hr hlk hw hX hQ rfl (show 0 ≤ 0 from by omega) (show 0 ≤ 0 from by omega) dX8_isWithin_18
  · have hQ := hQ.2 hc
    refine lv_lload_n hx hb dX8_isWithin_6 rfl (lv_at hl 0 rfl) ?_
    refine lv_lload hx hb dX8_isWithin_7 (lv_at hl 2 rfl) ?_
    refine lc_gt (tgt := 17) F dX8_isWithin_9 dX8_isWithin_10 (by decide) (fun hc => ?_) (fun hc => ?_)
    · have hQ := hQ.1 hc
      refine lv_iconst (v := 0) hx hb dX8_isWithin_17 (by decide) ?_
      exact rt_z F hr hlk hw hX hQ rfl (show 0 ≤ 0 from by omega) (show 0 ≤ 0 from by omega) dX8_isWithin_18
    · have hQ := hQ.2 hc
      refine lv_iconst (v := 1) hx hb dX8_isWithin_13 (by decide) ?_
      refine lv_goto (tgt := 18) hx hb dX8_isWithin_14 (by decide) ?_
      exact rt_z F hr hlk hw hX hQ rfl (show 0 ≤ 0 from by omega) (show 0 ≤ 0 from by omega) dX8_isWithin_18
theorem k_X8_isWithin {p : Program} {l : Launch} {e : Env} {R : Room} {s : State} {m : MethodId} {args : Array Value} {below : List Frame} {meth : Method} {c : Code} {H : Heap} {locs : List Loc} {cells slots : Nat} {Q : State → Prop} {cc : ByteArray} {pc nL : Nat} {ls : Array Slot} {rest : List Value} {G : GT} {S : St} {own : String} {p1 : Int64} {p2 : Int64} {p3 : Int64} {post : Int32 → St → Prop} {lv : List (Nat × Value)} {idx : Nat} (F : CX p m c cc nL s args own) (hw : WW G S s H locs) (hl : lv_has ls nL lv)  (hQ : wp_X8_isWithin p1 p2 p3 S post) (h1 : Cond.methodLink own idx yX8_isWithin ∈ wT) (hR1 : 0 + 1 ≤ R.frames) (hR2 : 8 + (6 + 11) + 0 ≤ R.locals) (hrest : (rest.map fun v => v.category).sum ≤ 8) (hdg : decode cc pc = .ok (.invokestatic idx, 3)) (hf1 : cells + 0 ≤ R.cells) (hf2 : slots + 0 ≤ R.slots)
    (kk : ∀ (r : Int32) (S1 : St) (H1 : Heap) (locs1 : List Loc), post r S1 → WW G S1 s H1 locs1 → Ext S S1 → W p l e R s m args below meth c H1 locs1 (cells + 0) (slots + 0) Q (F0 m (pc + 3) ls (.int r :: rest))) : W p l e R s m args below meth c H locs cells slots Q (F0 m pc ls (.long p3 :: .long p2 :: .long p1 :: rest)) :=
  cl_i (rn_S (n := 3) (As := [.long p1, .long p2, .long p3]) F hw hl (m_X8_isWithin l G p1 p2 p3 S  post hQ) h1 twi_yX8_isWithin twn_RX8 two_yX8_isWithin rfl rfl ⟨by decide, by decide, by decide +kernel⟩ rfl ⟨hR1, hR2⟩ rfl hrest hdg ⟨hf1, hf2⟩) hw kk
-- X5_init
def wp_X5_init (j0 : Nat) (p1 : Int32) (p2 : Int32) (p3 : Int64) (p4 : Int64) (S0 : St) (post : St → Prop) : Prop :=
  ∀ S1 : St, S1 = si S0 5 j0 0 p1 →
  ∀ S2 : St, S2 = si S1 5 j0 1 p2 →
  ∀ S3 : St, S3 = sj S2 5 j0 2 p3 →
  ∀ S4 : St, S4 = sj S3 5 j0 3 p4 →
  ∀ S5 : St, S5 = sr S4 5 j0 4 (some 0) →
  ∀ S6 : St, S6 = si S5 5 j0 5 (-1 : Int32) →
  post S6
set_option maxRecDepth 100000 in
set_option maxHeartbeats 4000000 in
theorem m_X5_init (l : Launch) (G : GT) (j0 : Nat) (p1 : Int32) (p2 : Int32) (p3 : Int64) (p4 : Int64) (S0 : St) (a0 : Nat) (hA0 : AtO S0 5 j0 a0) (post : St → Prop) (hQ : wp_X5_init j0 p1 p2 p3 p4 S0 post) : Met l yX5_init (wM yX5_init cX5_init 7 none) ({ frames := 1, cells := 0, slots := 0, locals := 12 } : Room) (PC G S0 [.ref a0, .int p1, .int p2, .long p3, .long p4]) (QV G S0 post) 0 0 (QA G) := by
  refine mt_start RX5 (by decide) rfl (Nat.le_of_ble_eq_true rfl) ?_
  intro p e s m args below meth c ls F hr hlk hnm hw hl
  have hx := F.1
  have hb := F.2.1
  have hown := F.2.2.2.1
  have hts := F.2.2.2.2
  have hin : meth.name = "<init>" := hnm
  have hX : Ext S0 S0 := Ext.rf
  have hsz0 := hw.1.1.1
  have hl : lv_has ls 7 [(0, .ref a0), (1, .int p1), (2, .int p2), (3, .long p3), (5, .long p4)] := hl
  unfold wp_X5_init at hQ
  refine lv_aload_n hx hb dX5_init_0 rfl (lv_at hl 0 rfl) ?_
  refine o_init F hl twm_RX5_3 dX5_init_1 (Nat.le_of_ble_eq_true rfl) (Nat.le_of_ble_eq_true rfl) ?_
  refine lv_aload_n hx hb dX5_init_4 rfl (lv_at hl 0 rfl) ?_
  refine lv_iload_n hx hb dX5_init_5 rfl (lv_at hl 1 rfl) ?_
  refine p_5_0 F hw hA0 twf_RX5_9 dX5_init_6 (fun S1 H locs eS1 hw hx1 => ?_) hin rfl
  have hQ := hQ S1 eS1
  have hX := hX.trans hx1
  have hA0 := hA0.ext hx1
  refine lv_aload_n hx hb dX5_init_9 rfl (lv_at hl 0 rfl) ?_
  refine lv_iload_n hx hb dX5_init_10 rfl (lv_at hl 2 rfl) ?_
  refine p_5_1 F hw hA0 twf_RX5_15 dX5_init_11 (fun S2 H locs eS2 hw hx1 => ?_) hin rfl
  have hQ := hQ S2 eS2
  have hX := hX.trans hx1
  have hA0 := hA0.ext hx1
  refine lv_aload_n hx hb dX5_init_14 rfl (lv_at hl 0 rfl) ?_
  refine lv_lload_n hx hb dX5_init_15 rfl (lv_at hl 3 rfl) ?_
  refine p_5_2 F hw hA0 twf_RX5_18 dX5_init_16 (fun S3 H locs eS3 hw hx1 => ?_)
  have hQ := hQ S3 eS3
  have hX := hX.trans hx1
  have hA0 := hA0.ext hx1
  refine lv_aload_n hx hb dX5_init_19 rfl (lv_at hl 0 rfl) ?_
  refine lv_lload hx hb dX5_init_20 (lv_at hl 4 rfl) ?_
  refine p_5_3 F hw hA0 twf_RX5_22 dX5_init_22 (fun S4 H locs eS4 hw hx1 => ?_)
  have hQ := hQ S4 eS4
  have hX := hX.trans hx1
  have hA0 := hA0.ext hx1
  refine lv_aload_n hx hb dX5_init_25 rfl (lv_at hl 0 rfl) ?_
  refine pw_gets F hw 0 (by decide) rfl twf_RX5_25 dX5_init_26 ?_
  refine p_5_4 F hw hA0 twf_RX5_31 (by decide) dX5_init_29 (fun S5 H locs eS5 hw hx1 => ?_)
  have hQ := hQ S5 eS5
  have hX := hX.trans hx1
  have hA0 := hA0.ext hx1
  refine lv_aload_n hx hb dX5_init_32 rfl (lv_at hl 0 rfl) ?_
  refine lv_iconst (v := -1) hx hb dX5_init_33 (by decide) ?_
  refine p_5_5 F hw hA0 twf_RX5_34 dX5_init_34 (fun S6 H locs eS6 hw hx1 => ?_)
  have hQ := hQ S6 eS6
  have hX := hX.trans hx1
  have hA0 := hA0.ext hx1
  exact rt_v F hr hlk hw hX hQ (show 0 ≤ 0 from by omega) (show 0 ≤ 0 from by omega) dX5_init_37
theorem k_X5_init {p : Program} {l : Launch} {e : Env} {R : Room} {s : State} {m : MethodId} {args : Array Value} {below : List Frame} {meth : Method} {c : Code} {H : Heap} {locs : List Loc} {cells slots : Nat} {Q : State → Prop} {cc : ByteArray} {pc nL : Nat} {ls : Array Slot} {rest : List Value} {G : GT} {S : St} {own : String} {j0 : Nat} {p1 : Int32} {p2 : Int32} {p3 : Int64} {p4 : Int64} {post : St → Prop} {lv : List (Nat × Value)} {idx : Nat} (F : CX p m c cc nL s args own) (hw : WW G S s H locs) (hl : lv_has ls nL lv) {a0 : Nat} (hA0 : AtO S 5 j0 a0) (hQ : wp_X5_init j0 p1 p2 p3 p4 S post) (h1 : Cond.methodLink own idx yX5_init ∈ wT) (hR1 : 1 + 1 ≤ R.frames) (hR2 : 8 + (7 + 11) + 12 ≤ R.locals) (hrest : (rest.map fun v => v.category).sum ≤ 8) (hdg : decode cc pc = .ok (.invokespecial idx, 3)) (hf1 : cells + 0 ≤ R.cells) (hf2 : slots + 0 ≤ R.slots)
    (kk : ∀ (S1 : St) (H1 : Heap) (locs1 : List Loc), post S1 → WW G S1 s H1 locs1 → Ext S S1 → W p l e R s m args below meth c H1 locs1 (cells + 0) (slots + 0) Q (F0 m (pc + 3) ls rest)) : W p l e R s m args below meth c H locs cells slots Q (F0 m pc ls (.long p4 :: .long p3 :: .int p2 :: .int p1 :: .ref a0 :: rest)) :=
  cl_v (rn_I (n := 4) (As := [.int p1, .int p2, .long p3, .long p4]) F hw hl (m_X5_init l G j0 p1 p2 p3 p4 S a0 hA0 post hQ) h1 twi_yX5_init twn_RX5 two_yX5_init rfl rfl rfl ⟨by decide, by decide, by decide +kernel⟩ rfl ⟨hR1, hR2⟩ rfl hrest hdg ⟨hf1, hf2⟩) hw kk
-- X8_addLot
def wp_X8_addLot (p1 : Int32) (p2 : Int64) (p3 : Int64) (S0 : St) (post : Int32 → St → Prop) : Prop :=
  ∀ v1 : Int32, v1 = gi S0 7 0 6 →
  (v1 < 0 →
  post (-1 : Int32) S0) ∧
  (¬ v1 < 0 →
  (v1 < (60 : Int32) →
  ∀ S4 : St, S4 = sn S0 5 →
  wp_X5_init (gn S0 5) v1 p1 p2 p3 S4 (fun S6 =>
  vp_in v1 60 ∧
  ∀ S7 : St, S7 = sr S6 10 0 v1.toNatClampNeg (some (gn S0 5)) →
  ∀ S8 : St, S8 = si S7 7 0 6 (v1 + (1 : Int32)) →
  post v1 S8)) ∧
  (¬ v1 < (60 : Int32) →
  post (-1 : Int32) S0))
set_option maxRecDepth 100000 in
set_option maxHeartbeats 4000000 in
theorem m_X8_addLot (l : Launch) (G : GT) (p1 : Int32) (p2 : Int64) (p3 : Int64) (S0 : St) (a0 : Nat) (hA0 : AtO S0 7 0 a0) (post : Int32 → St → Prop) (hQ : wp_X8_addLot p1 p2 p3 S0 post) : Met l yX8_addLot (wM yX8_addLot cX8_addLot 7 (some (FieldType.int))) ({ frames := 2, cells := 1, slots := 12, locals := 38 } : Room) (PC G S0 [.ref a0, .int p1, .long p2, .long p3]) (QI G S0 post) 1 12 (QA G) := by
  refine mt_start RX8 (by decide) rfl (Nat.le_of_ble_eq_true rfl) ?_
  intro p e s m args below meth c ls F hr hlk hnm hw hl
  have hx := F.1
  have hb := F.2.1
  have hown := F.2.2.2.1
  have hts := F.2.2.2.2
  have hX : Ext S0 S0 := Ext.rf
  have hsz0 := hw.1.1.1
  have hl : lv_has ls 7 [(0, .ref a0), (1, .int p1), (2, .long p2), (4, .long p3)] := hl
  unfold wp_X8_addLot at hQ
  refine lv_aload_n hx hb dX8_addLot_0 rfl (lv_at hl 0 rfl) ?_
  refine g_7_6 F hw hA0 twf_RX8_115 dX8_addLot_1 ?_
  refine lv_topi (fun v1 ev1 => ?_)
  have hQ := hQ v1 ev1
  refine lv_istore (lv' := [(6, .int v1), (0, .ref a0), (1, .int p1), (2, .long p2), (4, .long p3)]) hx hb dX8_addLot_4 hl (by decide) rfl (fun ls hl => ?_)
  refine lv_iload hx hb dX8_addLot_6 (lv_at hl 0 rfl) ?_
  refine lv_if_lt (tgt := 21) hx hb dX8_addLot_8 (by decide) (fun hc => ?_) (fun hc => ?_)
  · have hQ := hQ.1 hc
    refine lv_iconst (v := -1) hx hb dX8_addLot_21 (by decide) ?_
    exact rt_i F hr hlk hw hX hQ (show 0 ≤ 1 from by omega) (show 0 ≤ 12 from by omega) dX8_addLot_22
  · have hQ := hQ.2 hc
    refine lv_iload hx hb dX8_addLot_11 (lv_at hl 0 rfl) ?_
    refine lv_aload_n hx hb dX8_addLot_13 rfl (lv_at hl 1 rfl) ?_
    refine g_7_0 F hw hA0 twf_RX8_11 dX8_addLot_14 (fun a2 hA2 => ?_)
    refine ln_10 F hw hA2 dX8_addLot_17 ?_
    refine lv_icmp_lt (tgt := 23) hx hb dX8_addLot_18 (by decide) (fun hc => ?_) (fun hc => ?_)
    · have hQ := hQ.1 hc
      refine lv_aload_n hx hb dX8_addLot_23 rfl (lv_at hl 1 rfl) ?_
      refine g_7_0 F hw hA0 twf_RX8_11 dX8_addLot_24 (fun a3 hA3 => ?_)
      refine lv_iload hx hb dX8_addLot_27 (lv_at hl 0 rfl) ?_
      refine nw_5 F hw twc_RX8_9 (show 0 + 1 ≤ 1 from by omega) (show 0 + 12 ≤ 12 from by omega) dX8_addLot_29 (fun S4 a5 H eS4 hA5 hw hx1 => ?_)
      have hQ := hQ S4 eS4
      have hX := hX.trans hx1
      have hA3 := hA3.ext hx1
      have hA0 := hA0.ext hx1
      refine lv_dup hx hb dX8_addLot_32 rfl ?_
      refine lv_iload hx hb dX8_addLot_33 (lv_at hl 0 rfl) ?_
      refine lv_iload_n hx hb dX8_addLot_35 rfl (lv_at hl 2 rfl) ?_
      refine lv_lload_n hx hb dX8_addLot_36 rfl (lv_at hl 3 rfl) ?_
      refine lv_lload hx hb dX8_addLot_37 (lv_at hl 4 rfl) ?_
      refine k_X5_init F hw hl hA5 hQ twm_RX8_356 (Nat.le_of_ble_eq_true rfl) (Nat.le_of_ble_eq_true rfl) (Nat.le_of_ble_eq_true rfl) dX8_addLot_39 (show (0 + 1) + 0 ≤ 1 from by omega) (show (0 + 12) + 0 ≤ 12 from by omega) (fun S6 H locs hQ hw hx1 => ?_)
      have hX := hX.trans hx1
      have hA3 := hA3.ext hx1
      have hA5 := hA5.ext hx1
      have hA0 := hA0.ext hx1
      obtain ⟨hin, hQ⟩ := hQ
      refine as_10 F hw hA3 hA5 hin dX8_addLot_42 (fun S7 H locs eS7 hw hx1 => ?_)
      have hQ := hQ S7 eS7
      have hX := hX.trans hx1
      have hA0 := hA0.ext hx1
      refine lv_aload_n hx hb dX8_addLot_43 rfl (lv_at hl 1 rfl) ?_
      refine lv_iload hx hb dX8_addLot_44 (lv_at hl 0 rfl) ?_
      refine lv_iconst (v := 1) hx hb dX8_addLot_46 (by decide) ?_
      refine lv_iadd hx hb dX8_addLot_47 ?_
      refine p_7_6 F hw hA0 twf_RX8_115 dX8_addLot_48 (fun S8 H locs eS8 hw hx1 => ?_)
      have hQ := hQ S8 eS8
      have hX := hX.trans hx1
      have hA0 := hA0.ext hx1
      refine lv_iload hx hb dX8_addLot_51 (lv_at hl 0 rfl) ?_
      exact rt_i F hr hlk hw hX hQ (show ((0 + 1) + 0) ≤ 1 from by omega) (show ((0 + 12) + 0) ≤ 12 from by omega) dX8_addLot_53
    · have hQ := hQ.2 hc
      refine lv_iconst (v := -1) hx hb dX8_addLot_21 (by decide) ?_
      exact rt_i F hr hlk hw hX hQ (show 0 ≤ 1 from by omega) (show 0 ≤ 12 from by omega) dX8_addLot_22
theorem k_X8_addLot {p : Program} {l : Launch} {e : Env} {R : Room} {s : State} {m : MethodId} {args : Array Value} {below : List Frame} {meth : Method} {c : Code} {H : Heap} {locs : List Loc} {cells slots : Nat} {Q : State → Prop} {cc : ByteArray} {pc nL : Nat} {ls : Array Slot} {rest : List Value} {G : GT} {S : St} {own : String} {p1 : Int32} {p2 : Int64} {p3 : Int64} {post : Int32 → St → Prop} {lv : List (Nat × Value)} {idx : Nat} (F : CX p m c cc nL s args own) (hw : WW G S s H locs) (hl : lv_has ls nL lv) {a0 : Nat} (hA0 : AtO S 7 0 a0) (hQ : wp_X8_addLot p1 p2 p3 S post) (h1 : Cond.methodLink own idx yX8_addLot ∈ wT) (hR1 : 2 + 1 ≤ R.frames) (hR2 : 8 + (7 + 11) + 38 ≤ R.locals) (hrest : (rest.map fun v => v.category).sum ≤ 8) (hdg : decode cc pc = .ok (.invokevirtual idx, 3)) (hf1 : cells + 1 ≤ R.cells) (hf2 : slots + 12 ≤ R.slots)
    (kk : ∀ (r : Int32) (S1 : St) (H1 : Heap) (locs1 : List Loc), post r S1 → WW G S1 s H1 locs1 → Ext S S1 → W p l e R s m args below meth c H1 locs1 (cells + 1) (slots + 12) Q (F0 m (pc + 3) ls (.int r :: rest))) : W p l e R s m args below meth c H locs cells slots Q (F0 m pc ls (.long p3 :: .long p2 :: .int p1 :: .ref a0 :: rest)) :=
  cl_i (rn_V (n := 3) (As := [.int p1, .long p2, .long p3]) (q := (RX8, TX8, 11)) F hw hl (m_X8_addLot l G p1 p2 p3 S a0 hA0 post hQ) 7 (by decide) (by decide) hA0 rfl rfl h1 twi_yX8_addLot tws_yX8_addLot twn_RX8 two_yX8_addLot rfl rfl ⟨rfl, by decide, by decide, by decide +kernel⟩ rfl ⟨hR1, hR2⟩ rfl hrest hdg ⟨hf1, hf2⟩) hw kk
-- X8_lot
def wp_X8_lot (p1 : Int32) (p2 : Int64) (p3 : Int64) (S0 : St) (post : Int32 → St → Prop) : Prop :=
  wp_X8_isWithin (p1.toInt64) (0 : Int64) (9 : Int64) S0 (fun r2 S1 =>
  (r2 = 0 →
  post (-1 : Int32) S1) ∧
  (¬ r2 = 0 →
  wp_X8_isWithin p2 (1 : Int64) (1000000000 : Int64) S1 (fun r4 S3 =>
  (¬ r4 = 0 →
  wp_X8_isWithin p3 (0 : Int64) (1000000000 : Int64) S3 (fun r6 S5 =>
  (¬ r6 = 0 →
  wp_X8_addLot p1 p2 p3 S5 (fun r8 S7 =>
  post r8 S7)) ∧
  (r6 = 0 →
  post (-1 : Int32) S5))) ∧
  (r4 = 0 →
  post (-1 : Int32) S3))))
set_option maxRecDepth 100000 in
set_option maxHeartbeats 4000000 in
theorem m_X8_lot (l : Launch) (G : GT) (p1 : Int32) (p2 : Int64) (p3 : Int64) (S0 : St) (a0 : Nat) (hA0 : AtO S0 7 0 a0) (post : Int32 → St → Prop) (hQ : wp_X8_lot p1 p2 p3 S0 post) : Met l yX8_lot (wM yX8_lot cX8_lot 6 (some (FieldType.int))) ({ frames := 3, cells := 1, slots := 12, locals := 64 } : Room) (PC G S0 [.ref a0, .int p1, .long p2, .long p3]) (QI G S0 post) 1 12 (QA G) := by
  refine mt_start RX8 (by decide) rfl (Nat.le_of_ble_eq_true rfl) ?_
  intro p e s m args below meth c ls F hr hlk hnm hw hl
  have hx := F.1
  have hb := F.2.1
  have hown := F.2.2.2.1
  have hts := F.2.2.2.2
  have hX : Ext S0 S0 := Ext.rf
  have hsz0 := hw.1.1.1
  have hl : lv_has ls 6 [(0, .ref a0), (1, .int p1), (2, .long p2), (4, .long p3)] := hl
  unfold wp_X8_lot at hQ
  refine lv_iload_n hx hb dX8_lot_0 rfl (lv_at hl 1 rfl) ?_
  refine lv_i2l hx hb dX8_lot_1 rfl ?_
  refine lv_lconst (v := 0) hx hb dX8_lot_2 (by decide) ?_
  refine lv_ldc2 (v := 9) hx hb hown (hts _ twl_RX8_48) dX8_lot_3 ?_
  refine k_X8_isWithin F hw hl hQ twm_RX8_50 (Nat.le_of_ble_eq_true rfl) (Nat.le_of_ble_eq_true rfl) (Nat.le_of_ble_eq_true rfl) dX8_lot_6 (show 0 + 0 ≤ 1 from by omega) (show 0 + 0 ≤ 12 from by omega) (fun r2 S1 H locs hQ hw hx1 => ?_)
  have hX := hX.trans hx1
  have hA0 := hA0.ext hx1
  refine lv_if_eq (tgt := 23) hx hb dX8_lot_9 (by decide) (fun hc => ?_) (fun hc => ?_)
  · have hQ := hQ.1 hc
    refine lv_iconst (v := -1) hx hb dX8_lot_23 (by decide) ?_
    exact rt_i F hr hlk hw hX hQ (show (0 + 0) ≤ 1 from by omega) (show (0 + 0) ≤ 12 from by omega) dX8_lot_24
  · have hQ := hQ.2 hc
    refine lv_lload_n hx hb dX8_lot_12 rfl (lv_at hl 2 rfl) ?_
    refine lv_lconst (v := 1) hx hb dX8_lot_13 (by decide) ?_
    refine lv_ldc2 (v := 1000000000) hx hb hown (hts _ twl_RX8_54) dX8_lot_14 ?_
    refine k_X8_isWithin F hw hl hQ twm_RX8_50 (Nat.le_of_ble_eq_true rfl) (Nat.le_of_ble_eq_true rfl) (Nat.le_of_ble_eq_true rfl) dX8_lot_17 (show (0 + 0) + 0 ≤ 1 from by omega) (show (0 + 0) + 0 ≤ 12 from by omega) (fun r4 S3 H locs hQ hw hx1 => ?_)
    have hX := hX.trans hx1
    have hA0 := hA0.ext hx1
    refine lv_if_ne (tgt := 25) hx hb dX8_lot_20 (by decide) (fun hc => ?_) (fun hc => ?_)
    · have hQ := hQ.1 hc
      refine lv_lload hx hb dX8_lot_25 (lv_at hl 3 rfl) ?_
      refine lv_lconst (v := 0) hx hb dX8_lot_27 (by decide) ?_
      refine lv_ldc2 (v := 1000000000) hx hb hown (hts _ twl_RX8_54) dX8_lot_28 ?_
      refine k_X8_isWithin F hw hl hQ twm_RX8_50 (Nat.le_of_ble_eq_true rfl) (Nat.le_of_ble_eq_true rfl) (Nat.le_of_ble_eq_true rfl) dX8_lot_31 (show ((0 + 0) + 0) + 0 ≤ 1 from by omega) (show ((0 + 0) + 0) + 0 ≤ 12 from by omega) (fun r6 S5 H locs hQ hw hx1 => ?_)
      have hX := hX.trans hx1
      have hA0 := hA0.ext hx1
      refine lv_if_ne (tgt := 39) hx hb dX8_lot_34 (by decide) (fun hc => ?_) (fun hc => ?_)
      · have hQ := hQ.1 hc
        refine lv_aload_n hx hb dX8_lot_39 rfl (lv_at hl 0 rfl) ?_
        refine lv_iload_n hx hb dX8_lot_40 rfl (lv_at hl 1 rfl) ?_
        refine lv_lload_n hx hb dX8_lot_41 rfl (lv_at hl 2 rfl) ?_
        refine lv_lload hx hb dX8_lot_42 (lv_at hl 3 rfl) ?_
        refine k_X8_addLot F hw hl hA0 hQ twm_RX8_56 (Nat.le_of_ble_eq_true rfl) (Nat.le_of_ble_eq_true rfl) (Nat.le_of_ble_eq_true rfl) dX8_lot_44 (show (((0 + 0) + 0) + 0) + 1 ≤ 1 from by omega) (show (((0 + 0) + 0) + 0) + 12 ≤ 12 from by omega) (fun r8 S7 H locs hQ hw hx1 => ?_)
        have hX := hX.trans hx1
        have hA0 := hA0.ext hx1
        exact rt_i F hr hlk hw hX hQ (show ((((0 + 0) + 0) + 0) + 1) ≤ 1 from by omega) (show ((((0 + 0) + 0) + 0) + 12) ≤ 12 from by omega) dX8_lot_47
      · have hQ := hQ.2 hc
        refine lv_iconst (v := -1) hx hb dX8_lot_37 (by decide) ?_
        exact rt_i F hr hlk hw hX hQ (show (((0 + 0) + 0) + 0) ≤ 1 from by omega) (show (((0 + 0) + 0) + 0) ≤ 12 from by omega) dX8_lot_38
    · have hQ := hQ.2 hc
      refine lv_iconst (v := -1) hx hb dX8_lot_23 (by decide) ?_
      exact rt_i F hr hlk hw hX hQ (show ((0 + 0) + 0) ≤ 1 from by omega) (show ((0 + 0) + 0) ≤ 12 from by omega) dX8_lot_24
theorem k_X8_lot {p : Program} {l : Launch} {e : Env} {R : Room} {s : State} {m : MethodId} {args : Array Value} {below : List Frame} {meth : Method} {c : Code} {H : Heap} {locs : List Loc} {cells slots : Nat} {Q : State → Prop} {cc : ByteArray} {pc nL : Nat} {ls : Array Slot} {rest : List Value} {G : GT} {S : St} {own : String} {p1 : Int32} {p2 : Int64} {p3 : Int64} {post : Int32 → St → Prop} {lv : List (Nat × Value)} {idx : Nat} (F : CX p m c cc nL s args own) (hw : WW G S s H locs) (hl : lv_has ls nL lv) {a0 : Nat} (hA0 : AtO S 7 0 a0) (hQ : wp_X8_lot p1 p2 p3 S post) (h1 : Cond.methodLink own idx yX8_lot ∈ wT) (hR1 : 3 + 1 ≤ R.frames) (hR2 : 8 + (6 + 11) + 64 ≤ R.locals) (hrest : (rest.map fun v => v.category).sum ≤ 8) (hdg : decode cc pc = .ok (.invokevirtual idx, 3)) (hf1 : cells + 1 ≤ R.cells) (hf2 : slots + 12 ≤ R.slots)
    (kk : ∀ (r : Int32) (S1 : St) (H1 : Heap) (locs1 : List Loc), post r S1 → WW G S1 s H1 locs1 → Ext S S1 → W p l e R s m args below meth c H1 locs1 (cells + 1) (slots + 12) Q (F0 m (pc + 3) ls (.int r :: rest))) : W p l e R s m args below meth c H locs cells slots Q (F0 m pc ls (.long p3 :: .long p2 :: .int p1 :: .ref a0 :: rest)) :=
  cl_i (rn_V (n := 3) (As := [.int p1, .long p2, .long p3]) (q := (RX8, TX8, 11)) F hw hl (m_X8_lot l G p1 p2 p3 S a0 hA0 post hQ) 7 (by decide) (by decide) hA0 rfl rfl h1 twi_yX8_lot tws_yX8_lot twn_RX8 two_yX8_lot rfl rfl ⟨rfl, by decide, by decide, by decide +kernel⟩ rfl ⟨hR1, hR2⟩ rfl hrest hdg ⟨hf1, hf2⟩) hw kk
-- X1_init
def wp_X1_init (j0 : Nat) (p1 : Int32) (p2 : Int64) (S0 : St) (post : St → Prop) : Prop :=
  ∀ S1 : St, S1 = si S0 1 j0 0 p1 →
  ∀ S2 : St, S2 = sj S1 1 j0 1 p2 →
  ∀ S3 : St, S3 = sj S2 1 j0 3 (-1 : Int64) →
  post S3
set_option maxRecDepth 100000 in
set_option maxHeartbeats 4000000 in
theorem m_X1_init (l : Launch) (G : GT) (j0 : Nat) (p1 : Int32) (p2 : Int64) (S0 : St) (a0 : Nat) (hA0 : AtO S0 1 j0 a0) (post : St → Prop) (hQ : wp_X1_init j0 p1 p2 S0 post) : Met l yX1_init (wM yX1_init cX1_init 4 none) ({ frames := 1, cells := 0, slots := 0, locals := 12 } : Room) (PC G S0 [.ref a0, .int p1, .long p2]) (QV G S0 post) 0 0 (QA G) := by
  refine mt_start RX1 (by decide) rfl (Nat.le_of_ble_eq_true rfl) ?_
  intro p e s m args below meth c ls F hr hlk hnm hw hl
  have hx := F.1
  have hb := F.2.1
  have hown := F.2.2.2.1
  have hts := F.2.2.2.2
  have hin : meth.name = "<init>" := hnm
  have hX : Ext S0 S0 := Ext.rf
  have hsz0 := hw.1.1.1
  have hl : lv_has ls 4 [(0, .ref a0), (1, .int p1), (2, .long p2)] := hl
  unfold wp_X1_init at hQ
  refine lv_aload_n hx hb dX1_init_0 rfl (lv_at hl 0 rfl) ?_
  refine o_init F hl twm_RX1_3 dX1_init_1 (Nat.le_of_ble_eq_true rfl) (Nat.le_of_ble_eq_true rfl) ?_
  refine lv_aload_n hx hb dX1_init_4 rfl (lv_at hl 0 rfl) ?_
  refine lv_iload_n hx hb dX1_init_5 rfl (lv_at hl 1 rfl) ?_
  refine p_1_0 F hw hA0 twf_RX1_9 dX1_init_6 (fun S1 H locs eS1 hw hx1 => ?_) hin rfl
  have hQ := hQ S1 eS1
  have hX := hX.trans hx1
  have hA0 := hA0.ext hx1
  refine lv_aload_n hx hb dX1_init_9 rfl (lv_at hl 0 rfl) ?_
  refine lv_lload_n hx hb dX1_init_10 rfl (lv_at hl 2 rfl) ?_
  refine p_1_1 F hw hA0 twf_RX1_15 dX1_init_11 (fun S2 H locs eS2 hw hx1 => ?_) hin rfl
  have hQ := hQ S2 eS2
  have hX := hX.trans hx1
  have hA0 := hA0.ext hx1
  refine lv_aload_n hx hb dX1_init_14 rfl (lv_at hl 0 rfl) ?_
  refine lv_ldc2 (v := -1) hx hb hown (hts _ twl_RX1_19) dX1_init_15 ?_
  refine p_1_3 F hw hA0 twf_RX1_21 dX1_init_18 (fun S3 H locs eS3 hw hx1 => ?_)
  have hQ := hQ S3 eS3
  have hX := hX.trans hx1
  have hA0 := hA0.ext hx1
  exact rt_v F hr hlk hw hX hQ (show 0 ≤ 0 from by omega) (show 0 ≤ 0 from by omega) dX1_init_21
theorem k_X1_init {p : Program} {l : Launch} {e : Env} {R : Room} {s : State} {m : MethodId} {args : Array Value} {below : List Frame} {meth : Method} {c : Code} {H : Heap} {locs : List Loc} {cells slots : Nat} {Q : State → Prop} {cc : ByteArray} {pc nL : Nat} {ls : Array Slot} {rest : List Value} {G : GT} {S : St} {own : String} {j0 : Nat} {p1 : Int32} {p2 : Int64} {post : St → Prop} {lv : List (Nat × Value)} {idx : Nat} (F : CX p m c cc nL s args own) (hw : WW G S s H locs) (hl : lv_has ls nL lv) {a0 : Nat} (hA0 : AtO S 1 j0 a0) (hQ : wp_X1_init j0 p1 p2 S post) (h1 : Cond.methodLink own idx yX1_init ∈ wT) (hR1 : 1 + 1 ≤ R.frames) (hR2 : 8 + (4 + 11) + 12 ≤ R.locals) (hrest : (rest.map fun v => v.category).sum ≤ 8) (hdg : decode cc pc = .ok (.invokespecial idx, 3)) (hf1 : cells + 0 ≤ R.cells) (hf2 : slots + 0 ≤ R.slots)
    (kk : ∀ (S1 : St) (H1 : Heap) (locs1 : List Loc), post S1 → WW G S1 s H1 locs1 → Ext S S1 → W p l e R s m args below meth c H1 locs1 (cells + 0) (slots + 0) Q (F0 m (pc + 3) ls rest)) : W p l e R s m args below meth c H locs cells slots Q (F0 m pc ls (.long p2 :: .int p1 :: .ref a0 :: rest)) :=
  cl_v (rn_I (n := 2) (As := [.int p1, .long p2]) F hw hl (m_X1_init l G j0 p1 p2 S a0 hA0 post hQ) h1 twi_yX1_init twn_RX1 two_yX1_init rfl rfl rfl ⟨by decide, by decide, by decide +kernel⟩ rfl ⟨hR1, hR2⟩ rfl hrest hdg ⟨hf1, hf2⟩) hw kk
-- X8_buyer
def wp_X8_buyer (p1 : Int64) (S0 : St) (post : Int32 → St → Prop) : Prop :=
  ∀ v1 : Int32, v1 = gi S0 7 0 7 →
  (v1 < 0 →
  post (-1 : Int32) S0) ∧
  (¬ v1 < 0 →
  ((30 : Int32) ≤ v1 →
  post (-1 : Int32) S0) ∧
  (¬ (30 : Int32) ≤ v1 →
  wp_X8_isWithin p1 (0 : Int64) (1000000000000 : Int64) S0 (fun r4 S3 =>
  (¬ r4 = 0 →
  ∀ S6 : St, S6 = sn S3 1 →
  wp_X1_init (gn S3 1) v1 p1 S6 (fun S8 =>
  vp_in v1 30 ∧
  ∀ S9 : St, S9 = sr S8 11 0 v1.toNatClampNeg (some (gn S3 1)) →
  ∀ S10 : St, S10 = si S9 7 0 7 (v1 + (1 : Int32)) →
  post v1 S10)) ∧
  (r4 = 0 →
  post (-1 : Int32) S3))))
set_option maxRecDepth 100000 in
set_option maxHeartbeats 4000000 in
theorem m_X8_buyer (l : Launch) (G : GT) (p1 : Int64) (S0 : St) (a0 : Nat) (hA0 : AtO S0 7 0 a0) (post : Int32 → St → Prop) (hQ : wp_X8_buyer p1 S0 post) : Met l yX8_buyer (wM yX8_buyer cX8_buyer 4 (some (FieldType.int))) ({ frames := 2, cells := 1, slots := 4, locals := 35 } : Room) (PC G S0 [.ref a0, .long p1]) (QI G S0 post) 1 4 (QA G) := by
  refine mt_start RX8 (by decide) rfl (Nat.le_of_ble_eq_true rfl) ?_
  intro p e s m args below meth c ls F hr hlk hnm hw hl
  have hx := F.1
  have hb := F.2.1
  have hown := F.2.2.2.1
  have hts := F.2.2.2.2
  have hX : Ext S0 S0 := Ext.rf
  have hsz0 := hw.1.1.1
  have hl : lv_has ls 4 [(0, .ref a0), (1, .long p1)] := hl
  unfold wp_X8_buyer at hQ
  refine lv_aload_n hx hb dX8_buyer_0 rfl (lv_at hl 0 rfl) ?_
  refine g_7_7 F hw hA0 twf_RX8_60 dX8_buyer_1 ?_
  refine lv_topi (fun v1 ev1 => ?_)
  have hQ := hQ v1 ev1
  refine lv_istore_n (lv' := [(3, .int v1), (0, .ref a0), (1, .long p1)]) hx hb dX8_buyer_4 rfl hl (by decide) rfl (fun ls hl => ?_)
  refine lv_iload_n hx hb dX8_buyer_5 rfl (lv_at hl 0 rfl) ?_
  refine lv_if_lt (tgt := 29) hx hb dX8_buyer_6 (by decide) (fun hc => ?_) (fun hc => ?_)
  · have hQ := hQ.1 hc
    refine lv_iconst (v := -1) hx hb dX8_buyer_29 (by decide) ?_
    exact rt_i F hr hlk hw hX hQ (show 0 ≤ 1 from by omega) (show 0 ≤ 4 from by omega) dX8_buyer_30
  · have hQ := hQ.2 hc
    refine lv_iload_n hx hb dX8_buyer_9 rfl (lv_at hl 0 rfl) ?_
    refine lv_aload_n hx hb dX8_buyer_10 rfl (lv_at hl 1 rfl) ?_
    refine g_7_1 F hw hA0 twf_RX8_17 dX8_buyer_11 (fun a2 hA2 => ?_)
    refine ln_11 F hw hA2 dX8_buyer_14 ?_
    refine lv_icmp_ge (tgt := 29) hx hb dX8_buyer_15 (by decide) (fun hc => ?_) (fun hc => ?_)
    · have hQ := hQ.1 hc
      refine lv_iconst (v := -1) hx hb dX8_buyer_29 (by decide) ?_
      exact rt_i F hr hlk hw hX hQ (show 0 ≤ 1 from by omega) (show 0 ≤ 4 from by omega) dX8_buyer_30
    · have hQ := hQ.2 hc
      refine lv_lload_n hx hb dX8_buyer_18 rfl (lv_at hl 2 rfl) ?_
      refine lv_lconst (v := 0) hx hb dX8_buyer_19 (by decide) ?_
      refine lv_ldc2 (v := 1000000000000) hx hb hown (hts _ twl_RX8_64) dX8_buyer_20 ?_
      refine k_X8_isWithin F hw hl hQ twm_RX8_50 (Nat.le_of_ble_eq_true rfl) (Nat.le_of_ble_eq_true rfl) (Nat.le_of_ble_eq_true rfl) dX8_buyer_23 (show 0 + 0 ≤ 1 from by omega) (show 0 + 0 ≤ 4 from by omega) (fun r4 S3 H locs hQ hw hx1 => ?_)
      have hX := hX.trans hx1
      have hA0 := hA0.ext hx1
      refine lv_if_ne (tgt := 31) hx hb dX8_buyer_26 (by decide) (fun hc => ?_) (fun hc => ?_)
      · have hQ := hQ.1 hc
        refine lv_aload_n hx hb dX8_buyer_31 rfl (lv_at hl 1 rfl) ?_
        refine g_7_1 F hw hA0 twf_RX8_17 dX8_buyer_32 (fun a5 hA5 => ?_)
        refine lv_iload_n hx hb dX8_buyer_35 rfl (lv_at hl 0 rfl) ?_
        refine nw_1 F hw twc_RX8_15 (show (0 + 0) + 1 ≤ 1 from by omega) (show (0 + 0) + 4 ≤ 4 from by omega) dX8_buyer_36 (fun S6 a7 H eS6 hA7 hw hx1 => ?_)
        have hQ := hQ S6 eS6
        have hX := hX.trans hx1
        have hA5 := hA5.ext hx1
        have hA0 := hA0.ext hx1
        refine lv_dup hx hb dX8_buyer_39 rfl ?_
        refine lv_iload_n hx hb dX8_buyer_40 rfl (lv_at hl 0 rfl) ?_
        refine lv_lload_n hx hb dX8_buyer_41 rfl (lv_at hl 2 rfl) ?_
        refine k_X1_init F hw hl hA7 hQ twm_RX8_66 (Nat.le_of_ble_eq_true rfl) (Nat.le_of_ble_eq_true rfl) (Nat.le_of_ble_eq_true rfl) dX8_buyer_42 (show ((0 + 0) + 1) + 0 ≤ 1 from by omega) (show ((0 + 0) + 4) + 0 ≤ 4 from by omega) (fun S8 H locs hQ hw hx1 => ?_)
        have hX := hX.trans hx1
        have hA5 := hA5.ext hx1
        have hA7 := hA7.ext hx1
        have hA0 := hA0.ext hx1
        obtain ⟨hin, hQ⟩ := hQ
        refine as_11 F hw hA5 hA7 hin dX8_buyer_45 (fun S9 H locs eS9 hw hx1 => ?_)
        have hQ := hQ S9 eS9
        have hX := hX.trans hx1
        have hA0 := hA0.ext hx1
        refine lv_aload_n hx hb dX8_buyer_46 rfl (lv_at hl 1 rfl) ?_
        refine lv_iload_n hx hb dX8_buyer_47 rfl (lv_at hl 0 rfl) ?_
        refine lv_iconst (v := 1) hx hb dX8_buyer_48 (by decide) ?_
        refine lv_iadd hx hb dX8_buyer_49 ?_
        refine p_7_7 F hw hA0 twf_RX8_60 dX8_buyer_50 (fun S10 H locs eS10 hw hx1 => ?_)
        have hQ := hQ S10 eS10
        have hX := hX.trans hx1
        have hA0 := hA0.ext hx1
        refine lv_iload_n hx hb dX8_buyer_53 rfl (lv_at hl 0 rfl) ?_
        exact rt_i F hr hlk hw hX hQ (show (((0 + 0) + 1) + 0) ≤ 1 from by omega) (show (((0 + 0) + 4) + 0) ≤ 4 from by omega) dX8_buyer_54
      · have hQ := hQ.2 hc
        refine lv_iconst (v := -1) hx hb dX8_buyer_29 (by decide) ?_
        exact rt_i F hr hlk hw hX hQ (show (0 + 0) ≤ 1 from by omega) (show (0 + 0) ≤ 4 from by omega) dX8_buyer_30
theorem k_X8_buyer {p : Program} {l : Launch} {e : Env} {R : Room} {s : State} {m : MethodId} {args : Array Value} {below : List Frame} {meth : Method} {c : Code} {H : Heap} {locs : List Loc} {cells slots : Nat} {Q : State → Prop} {cc : ByteArray} {pc nL : Nat} {ls : Array Slot} {rest : List Value} {G : GT} {S : St} {own : String} {p1 : Int64} {post : Int32 → St → Prop} {lv : List (Nat × Value)} {idx : Nat} (F : CX p m c cc nL s args own) (hw : WW G S s H locs) (hl : lv_has ls nL lv) {a0 : Nat} (hA0 : AtO S 7 0 a0) (hQ : wp_X8_buyer p1 S post) (h1 : Cond.methodLink own idx yX8_buyer ∈ wT) (hR1 : 2 + 1 ≤ R.frames) (hR2 : 8 + (4 + 11) + 35 ≤ R.locals) (hrest : (rest.map fun v => v.category).sum ≤ 8) (hdg : decode cc pc = .ok (.invokevirtual idx, 3)) (hf1 : cells + 1 ≤ R.cells) (hf2 : slots + 4 ≤ R.slots)
    (kk : ∀ (r : Int32) (S1 : St) (H1 : Heap) (locs1 : List Loc), post r S1 → WW G S1 s H1 locs1 → Ext S S1 → W p l e R s m args below meth c H1 locs1 (cells + 1) (slots + 4) Q (F0 m (pc + 3) ls (.int r :: rest))) : W p l e R s m args below meth c H locs cells slots Q (F0 m pc ls (.long p1 :: .ref a0 :: rest)) :=
  cl_i (rn_V (n := 1) (As := [.long p1]) (q := (RX8, TX8, 11)) F hw hl (m_X8_buyer l G p1 S a0 hA0 post hQ) 7 (by decide) (by decide) hA0 rfl rfl h1 twi_yX8_buyer tws_yX8_buyer twn_RX8 two_yX8_buyer rfl rfl ⟨rfl, by decide, by decide, by decide +kernel⟩ rfl ⟨hR1, hR2⟩ rfl hrest hdg ⟨hf1, hf2⟩) hw kk
-- X8_lotAt
def wp_X8_lotAt (p1 : Int32) (S0 : St) (post : Option Nat → St → Prop) : Prop :=
  (p1 < 0 →
  post none S0) ∧
  (¬ p1 < 0 →
  ((gi S0 7 0 6) ≤ p1 →
  post none S0) ∧
  (¬ (gi S0 7 0 6) ≤ p1 →
  (p1 < (60 : Int32) →
  vp_in p1 60 ∧
  (gr S0 10 0 p1.toNatClampNeg = none →
  post none S0) ∧
  (∀ j3 : Nat, gr S0 10 0 p1.toNatClampNeg = some j3 →
  post (some j3) S0)) ∧
  (¬ p1 < (60 : Int32) →
  post none S0)))
set_option maxRecDepth 100000 in
set_option maxHeartbeats 4000000 in
theorem m_X8_lotAt (l : Launch) (G : GT) (p1 : Int32) (S0 : St) (a0 : Nat) (hA0 : AtO S0 7 0 a0) (post : Option Nat → St → Prop) (hQ : wp_X8_lotAt p1 S0 post) : Met l yX8_lotAt (wM yX8_lotAt cX8_lotAt 2 (some ((FieldType.object "ClockAuctions$Lot")))) ({ frames := 0, cells := 0, slots := 0, locals := 0 } : Room) (PC G S0 [.ref a0, .int p1]) (QR 5 G S0 post) 0 0 (QA G) := by
  refine mt_start RX8 (by decide) rfl (Nat.le_of_ble_eq_true rfl) ?_
  intro p e s m args below meth c ls F hr hlk hnm hw hl
  have hx := F.1
  have hb := F.2.1
  have hown := F.2.2.2.1
  have hts := F.2.2.2.2
  have hX : Ext S0 S0 := Ext.rf
  have hsz0 := hw.1.1.1
  have hl : lv_has ls 2 [(0, .ref a0), (1, .int p1)] := hl
  unfold wp_X8_lotAt at hQ
  refine lv_iload_n hx hb dX8_lotAt_0 rfl (lv_at hl 1 rfl) ?_
  refine lv_if_lt (tgt := 21) hx hb dX8_lotAt_1 (by decide) (fun hc => ?_) (fun hc => ?_)
  · have hQ := hQ.1 hc
    refine lv_null hx hb dX8_lotAt_21 ?_
    refine lv_goto (tgt := 31) hx hb dX8_lotAt_22 (by decide) ?_
    exact rt_n F hr hlk hw hX hQ (show 0 ≤ 0 from by omega) (show 0 ≤ 0 from by omega) dX8_lotAt_31
  · have hQ := hQ.2 hc
    refine lv_iload_n hx hb dX8_lotAt_4 rfl (lv_at hl 1 rfl) ?_
    refine lv_aload_n hx hb dX8_lotAt_5 rfl (lv_at hl 0 rfl) ?_
    refine g_7_6 F hw hA0 twf_RX8_115 dX8_lotAt_6 ?_
    refine lv_icmp_ge (tgt := 21) hx hb dX8_lotAt_9 (by decide) (fun hc => ?_) (fun hc => ?_)
    · have hQ := hQ.1 hc
      refine lv_null hx hb dX8_lotAt_21 ?_
      refine lv_goto (tgt := 31) hx hb dX8_lotAt_22 (by decide) ?_
      exact rt_n F hr hlk hw hX hQ (show 0 ≤ 0 from by omega) (show 0 ≤ 0 from by omega) dX8_lotAt_31
    · have hQ := hQ.2 hc
      refine lv_iload_n hx hb dX8_lotAt_12 rfl (lv_at hl 1 rfl) ?_
      refine lv_aload_n hx hb dX8_lotAt_13 rfl (lv_at hl 0 rfl) ?_
      refine g_7_0 F hw hA0 twf_RX8_11 dX8_lotAt_14 (fun a1 hA1 => ?_)
      refine ln_10 F hw hA1 dX8_lotAt_17 ?_
      refine lv_icmp_lt (tgt := 25) hx hb dX8_lotAt_18 (by decide) (fun hc => ?_) (fun hc => ?_)
      · have hQ := hQ.1 hc
        refine lv_aload_n hx hb dX8_lotAt_25 rfl (lv_at hl 0 rfl) ?_
        refine g_7_0 F hw hA0 twf_RX8_11 dX8_lotAt_26 (fun a2 hA2 => ?_)
        refine lv_iload_n hx hb dX8_lotAt_29 rfl (lv_at hl 1 rfl) ?_
        obtain ⟨hin, hQ⟩ := hQ
        refine al_10 F hw hA2 hin dX8_lotAt_30 (fun hrf => ?_) (fun j3 a3 hrf hA3 => ?_)
        · have hQ := hQ.1 hrf
          exact rt_n F hr hlk hw hX hQ (show 0 ≤ 0 from by omega) (show 0 ≤ 0 from by omega) dX8_lotAt_31
        · have hQ := hQ.2 j3 hrf
          exact rt_a F hr hlk hw hX hA3 hQ (show 0 ≤ 0 from by omega) (show 0 ≤ 0 from by omega) dX8_lotAt_31
      · have hQ := hQ.2 hc
        refine lv_null hx hb dX8_lotAt_21 ?_
        refine lv_goto (tgt := 31) hx hb dX8_lotAt_22 (by decide) ?_
        exact rt_n F hr hlk hw hX hQ (show 0 ≤ 0 from by omega) (show 0 ≤ 0 from by omega) dX8_lotAt_31
theorem k_X8_lotAt {p : Program} {l : Launch} {e : Env} {R : Room} {s : State} {m : MethodId} {args : Array Value} {below : List Frame} {meth : Method} {c : Code} {H : Heap} {locs : List Loc} {cells slots : Nat} {Q : State → Prop} {cc : ByteArray} {pc nL : Nat} {ls : Array Slot} {rest : List Value} {G : GT} {S : St} {own : String} {p1 : Int32} {post : Option Nat → St → Prop} {lv : List (Nat × Value)} {idx : Nat} (F : CX p m c cc nL s args own) (hw : WW G S s H locs) (hl : lv_has ls nL lv) {a0 : Nat} (hA0 : AtO S 7 0 a0) (hQ : wp_X8_lotAt p1 S post) (h1 : Cond.methodLink own idx yX8_lotAt ∈ wT) (hR1 : 0 + 1 ≤ R.frames) (hR2 : 8 + (2 + 11) + 0 ≤ R.locals) (hrest : (rest.map fun v => v.category).sum ≤ 8) (hdg : decode cc pc = .ok (.invokevirtual idx, 3)) (hf1 : cells + 0 ≤ R.cells) (hf2 : slots + 0 ≤ R.slots)
    (kn : ∀ (S1 : St) (H1 : Heap) (locs1 : List Loc), post none S1 → WW G S1 s H1 locs1 → Ext S S1 → W p l e R s m args below meth c H1 locs1 (cells + 0) (slots + 0) Q (F0 m (pc + 3) ls (.null :: rest))) (ks : ∀ (j2 a2 : Nat) (S1 : St) (H1 : Heap) (locs1 : List Loc), post (some j2) S1 → AtO S1 5 j2 a2 → WW G S1 s H1 locs1 → Ext S S1 → W p l e R s m args below meth c H1 locs1 (cells + 0) (slots + 0) Q (F0 m (pc + 3) ls (.ref a2 :: rest))) : W p l e R s m args below meth c H locs cells slots Q (F0 m pc ls (.int p1 :: .ref a0 :: rest)) :=
  cl_r (rn_V (n := 1) (As := [.int p1]) (q := (RX8, TX8, 11)) F hw hl (m_X8_lotAt l G p1 S a0 hA0 post hQ) 7 (by decide) (by decide) hA0 rfl rfl h1 twi_yX8_lotAt tws_yX8_lotAt twn_RX8 two_yX8_lotAt rfl rfl ⟨rfl, by decide, by decide, by decide +kernel⟩ rfl ⟨hR1, hR2⟩ rfl hrest hdg ⟨hf1, hf2⟩) hw kn ks
-- X5_hasTaker
def wp_X5_hasTaker (j0 : Nat) (S0 : St) (post : Int32 → St → Prop) : Prop :=
  ((gr S0 5 j0 4) = (some 3) →
  post (1 : Int32) S0) ∧
  (¬ (gr S0 5 j0 4) = (some 3) →
  (¬ (gr S0 5 j0 4) = (some 2) →
  post (0 : Int32) S0) ∧
  ((gr S0 5 j0 4) = (some 2) →
  post (1 : Int32) S0))
set_option maxRecDepth 100000 in
set_option maxHeartbeats 4000000 in
theorem m_X5_hasTaker (l : Launch) (G : GT) (j0 : Nat) (S0 : St) (a0 : Nat) (hA0 : AtO S0 5 j0 a0) (post : Int32 → St → Prop) (hQ : wp_X5_hasTaker j0 S0 post) : Met l yX5_hasTaker (wM yX5_hasTaker cX5_hasTaker 1 (some (FieldType.boolean))) ({ frames := 0, cells := 0, slots := 0, locals := 0 } : Room) (PC G S0 [.ref a0]) (QI G S0 post) 0 0 (QA G) := by
  refine mt_start RX5 (by decide) rfl (Nat.le_of_ble_eq_true rfl) ?_
  intro p e s m args below meth c ls F hr hlk hnm hw hl
  have hx := F.1
  have hb := F.2.1
  have hown := F.2.2.2.1
  have hts := F.2.2.2.2
  have hX : Ext S0 S0 := Ext.rf
  have hsz0 := hw.1.1.1
  have hl : lv_has ls 1 [(0, .ref a0)] := hl
  unfold wp_X5_hasTaker at hQ
  refine lv_aload_n hx hb dX5_hasTaker_0 rfl (lv_at hl 0 rfl) ?_
  have he1 := ww_es hw j0
  refine g_5_4 F hw hA0 twf_RX5_31 dX5_hasTaker_1 ?_
  refine pw_gets F hw 3 (by decide) rfl twf_RX5_37 dX5_hasTaker_4 ?_
  refine pw_acmp_eq (tgt := 20) F hw (by decide) he1 dX5_hasTaker_7 (by decide) (fun hc => ?_) (fun hc => ?_)
  · have hQ := hQ.1 hc
    refine lv_iconst (v := 1) hx hb dX5_hasTaker_20 (by decide) ?_
    refine lv_goto (tgt := 25) hx hb dX5_hasTaker_21 (by decide) ?_
    exact rt_z F hr hlk hw hX hQ rfl (show 0 ≤ 0 from by omega) (show 0 ≤ 0 from by omega) dX5_hasTaker_25
  · have hQ := hQ.2 hc
    refine lv_aload_n hx hb dX5_hasTaker_10 rfl (lv_at hl 0 rfl) ?_
    have he2 := ww_es hw j0
    refine g_5_4 F hw hA0 twf_RX5_31 dX5_hasTaker_11 ?_
    refine pw_gets F hw 2 (by decide) rfl twf_RX5_40 dX5_hasTaker_14 ?_
    refine pw_acmp_ne (tgt := 24) F hw (by decide) he2 dX5_hasTaker_17 (by decide) (fun hc => ?_) (fun hc => ?_)
    · have hQ := hQ.1 hc
      refine lv_iconst (v := 0) hx hb dX5_hasTaker_24 (by decide) ?_
      exact rt_z F hr hlk hw hX hQ rfl (show 0 ≤ 0 from by omega) (show 0 ≤ 0 from by omega) dX5_hasTaker_25
    · have hQ := hQ.2 hc
      refine lv_iconst (v := 1) hx hb dX5_hasTaker_20 (by decide) ?_
      refine lv_goto (tgt := 25) hx hb dX5_hasTaker_21 (by decide) ?_
      exact rt_z F hr hlk hw hX hQ rfl (show 0 ≤ 0 from by omega) (show 0 ≤ 0 from by omega) dX5_hasTaker_25
theorem k_X5_hasTaker {p : Program} {l : Launch} {e : Env} {R : Room} {s : State} {m : MethodId} {args : Array Value} {below : List Frame} {meth : Method} {c : Code} {H : Heap} {locs : List Loc} {cells slots : Nat} {Q : State → Prop} {cc : ByteArray} {pc nL : Nat} {ls : Array Slot} {rest : List Value} {G : GT} {S : St} {own : String} {j0 : Nat} {post : Int32 → St → Prop} {lv : List (Nat × Value)} {idx : Nat} (F : CX p m c cc nL s args own) (hw : WW G S s H locs) (hl : lv_has ls nL lv) {a0 : Nat} (hA0 : AtO S 5 j0 a0) (hQ : wp_X5_hasTaker j0 S post) (h1 : Cond.methodLink own idx yX5_hasTaker ∈ wT) (hR1 : 0 + 1 ≤ R.frames) (hR2 : 8 + (1 + 11) + 0 ≤ R.locals) (hrest : (rest.map fun v => v.category).sum ≤ 8) (hdg : decode cc pc = .ok (.invokevirtual idx, 3)) (hf1 : cells + 0 ≤ R.cells) (hf2 : slots + 0 ≤ R.slots)
    (kk : ∀ (r : Int32) (S1 : St) (H1 : Heap) (locs1 : List Loc), post r S1 → WW G S1 s H1 locs1 → Ext S S1 → W p l e R s m args below meth c H1 locs1 (cells + 0) (slots + 0) Q (F0 m (pc + 3) ls (.int r :: rest))) : W p l e R s m args below meth c H locs cells slots Q (F0 m pc ls (.ref a0 :: rest)) :=
  cl_i (rn_V (n := 0) (As := []) (q := (RX5, TX5, 12)) F hw hl (m_X5_hasTaker l G j0 S a0 hA0 post hQ) 5 (by decide) (by decide) hA0 rfl rfl h1 twi_yX5_hasTaker tws_yX5_hasTaker twn_RX5 two_yX5_hasTaker rfl rfl ⟨rfl, by decide, by decide, by decide +kernel⟩ rfl ⟨hR1, hR2⟩ rfl hrest hdg ⟨hf1, hf2⟩) hw kk
-- X8_winner
def wp_X8_winner (p1 : Int32) (S0 : St) (post : Int32 → St → Prop) : Prop :=
  wp_X8_lotAt p1 S0 (fun r2 S1 =>
  (r2 = none →
  post (-1 : Int32) S1) ∧
  (∀ j3 : Nat, r2 = some j3 →
  wp_X5_hasTaker j3 S1 (fun r5 S4 =>
  (¬ r5 = 0 →
  post (gi S4 5 j3 5) S4) ∧
  (r5 = 0 →
  post (-1 : Int32) S4))))
set_option maxRecDepth 100000 in
set_option maxHeartbeats 4000000 in
theorem m_X8_winner (l : Launch) (G : GT) (p1 : Int32) (S0 : St) (a0 : Nat) (hA0 : AtO S0 7 0 a0) (post : Int32 → St → Prop) (hQ : wp_X8_winner p1 S0 post) : Met l yX8_winner (wM yX8_winner cX8_winner 3 (some (FieldType.int))) ({ frames := 1, cells := 0, slots := 0, locals := 21 } : Room) (PC G S0 [.ref a0, .int p1]) (QI G S0 post) 0 0 (QA G) := by
  refine mt_start RX8 (by decide) rfl (Nat.le_of_ble_eq_true rfl) ?_
  intro p e s m args below meth c ls F hr hlk hnm hw hl
  have hx := F.1
  have hb := F.2.1
  have hown := F.2.2.2.1
  have hts := F.2.2.2.2
  have hX : Ext S0 S0 := Ext.rf
  have hsz0 := hw.1.1.1
  have hl : lv_has ls 3 [(0, .ref a0), (1, .int p1)] := hl
  unfold wp_X8_winner at hQ
  refine lv_aload_n hx hb dX8_winner_0 rfl (lv_at hl 0 rfl) ?_
  refine lv_iload_n hx hb dX8_winner_1 rfl (lv_at hl 1 rfl) ?_
  refine k_X8_lotAt F hw hl hA0 hQ twm_RX8_69 (Nat.le_of_ble_eq_true rfl) (Nat.le_of_ble_eq_true rfl) (Nat.le_of_ble_eq_true rfl) dX8_winner_2 (show 0 + 0 ≤ 0 from by omega) (show 0 + 0 ≤ 0 from by omega) (fun S1 H locs hQ hw hx1 => ?_) (fun j3 a3 S1 H locs hQ hA3 hw hx1 => ?_)
  · have hQ := hQ.1 rfl
    have hX := hX.trans hx1
    have hA0 := hA0.ext hx1
    refine lv_astore_nN (lv' := [(2, .null), (0, .ref a0), (1, .int p1)]) hx hb dX8_winner_5 rfl hl (by decide) rfl (fun ls hl => ?_)
    refine lv_aload_nN hx hb dX8_winner_6 rfl (lv_at hl 0 rfl) ?_
    refine lv_ifnullN (tgt := 17) hx hb dX8_winner_7 (by decide) ?_
    refine lv_iconst (v := -1) hx hb dX8_winner_17 (by decide) ?_
    refine lv_goto (tgt := 25) hx hb dX8_winner_18 (by decide) ?_
    exact rt_i F hr hlk hw hX hQ (show (0 + 0) ≤ 0 from by omega) (show (0 + 0) ≤ 0 from by omega) dX8_winner_25
  · have hQ := hQ.2 j3 rfl
    have hX := hX.trans hx1
    have hA0 := hA0.ext hx1
    refine lv_astore_n (lv' := [(2, .ref a3), (0, .ref a0), (1, .int p1)]) hx hb dX8_winner_5 rfl hl (by decide) rfl (fun ls hl => ?_)
    refine lv_aload_n hx hb dX8_winner_6 rfl (lv_at hl 0 rfl) ?_
    refine lv_ifnull hx hb dX8_winner_7 ?_
    refine lv_aload_n hx hb dX8_winner_10 rfl (lv_at hl 0 rfl) ?_
    refine k_X5_hasTaker F hw hl hA3 hQ twm_RX8_73 (Nat.le_of_ble_eq_true rfl) (Nat.le_of_ble_eq_true rfl) (Nat.le_of_ble_eq_true rfl) dX8_winner_11 (show (0 + 0) + 0 ≤ 0 from by omega) (show (0 + 0) + 0 ≤ 0 from by omega) (fun r5 S4 H locs hQ hw hx1 => ?_)
    have hX := hX.trans hx1
    have hA3 := hA3.ext hx1
    have hA0 := hA0.ext hx1
    refine lv_if_ne (tgt := 21) hx hb dX8_winner_14 (by decide) (fun hc => ?_) (fun hc => ?_)
    · have hQ := hQ.1 hc
      refine lv_aload_n hx hb dX8_winner_21 rfl (lv_at hl 0 rfl) ?_
      refine g_5_5 F hw hA3 twf_RX8_77 dX8_winner_22 ?_
      exact rt_i F hr hlk hw hX hQ (show ((0 + 0) + 0) ≤ 0 from by omega) (show ((0 + 0) + 0) ≤ 0 from by omega) dX8_winner_25
    · have hQ := hQ.2 hc
      refine lv_iconst (v := -1) hx hb dX8_winner_17 (by decide) ?_
      refine lv_goto (tgt := 25) hx hb dX8_winner_18 (by decide) ?_
      exact rt_i F hr hlk hw hX hQ (show ((0 + 0) + 0) ≤ 0 from by omega) (show ((0 + 0) + 0) ≤ 0 from by omega) dX8_winner_25
theorem k_X8_winner {p : Program} {l : Launch} {e : Env} {R : Room} {s : State} {m : MethodId} {args : Array Value} {below : List Frame} {meth : Method} {c : Code} {H : Heap} {locs : List Loc} {cells slots : Nat} {Q : State → Prop} {cc : ByteArray} {pc nL : Nat} {ls : Array Slot} {rest : List Value} {G : GT} {S : St} {own : String} {p1 : Int32} {post : Int32 → St → Prop} {lv : List (Nat × Value)} {idx : Nat} (F : CX p m c cc nL s args own) (hw : WW G S s H locs) (hl : lv_has ls nL lv) {a0 : Nat} (hA0 : AtO S 7 0 a0) (hQ : wp_X8_winner p1 S post) (h1 : Cond.methodLink own idx yX8_winner ∈ wT) (hR1 : 1 + 1 ≤ R.frames) (hR2 : 8 + (3 + 11) + 21 ≤ R.locals) (hrest : (rest.map fun v => v.category).sum ≤ 8) (hdg : decode cc pc = .ok (.invokevirtual idx, 3)) (hf1 : cells + 0 ≤ R.cells) (hf2 : slots + 0 ≤ R.slots)
    (kk : ∀ (r : Int32) (S1 : St) (H1 : Heap) (locs1 : List Loc), post r S1 → WW G S1 s H1 locs1 → Ext S S1 → W p l e R s m args below meth c H1 locs1 (cells + 0) (slots + 0) Q (F0 m (pc + 3) ls (.int r :: rest))) : W p l e R s m args below meth c H locs cells slots Q (F0 m pc ls (.int p1 :: .ref a0 :: rest)) :=
  cl_i (rn_V (n := 1) (As := [.int p1]) (q := (RX8, TX8, 11)) F hw hl (m_X8_winner l G p1 S a0 hA0 post hQ) 7 (by decide) (by decide) hA0 rfl rfl h1 twi_yX8_winner tws_yX8_winner twn_RX8 two_yX8_winner rfl rfl ⟨rfl, by decide, by decide, by decide +kernel⟩ rfl ⟨hR1, hR2⟩ rfl hrest hdg ⟨hf1, hf2⟩) hw kk
-- X8_price
def wp_X8_price (p1 : Int32) (S0 : St) (post : Int64 → St → Prop) : Prop :=
  wp_X8_lotAt p1 S0 (fun r2 S1 =>
  (r2 = none →
  post (-1 : Int64) S1) ∧
  (∀ j3 : Nat, r2 = some j3 →
  wp_X5_hasTaker j3 S1 (fun r5 S4 =>
  (¬ r5 = 0 →
  post (gj S4 5 j3 6) S4) ∧
  (r5 = 0 →
  post (-1 : Int64) S4))))
set_option maxRecDepth 100000 in
set_option maxHeartbeats 4000000 in
theorem m_X8_price (l : Launch) (G : GT) (p1 : Int32) (S0 : St) (a0 : Nat) (hA0 : AtO S0 7 0 a0) (post : Int64 → St → Prop) (hQ : wp_X8_price p1 S0 post) : Met l yX8_price (wM yX8_price cX8_price 3 (some (FieldType.long))) ({ frames := 1, cells := 0, slots := 0, locals := 21 } : Room) (PC G S0 [.ref a0, .int p1]) (QJ G S0 post) 0 0 (QA G) := by
  refine mt_start RX8 (by decide) rfl (Nat.le_of_ble_eq_true rfl) ?_
  intro p e s m args below meth c ls F hr hlk hnm hw hl
  have hx := F.1
  have hb := F.2.1
  have hown := F.2.2.2.1
  have hts := F.2.2.2.2
  have hX : Ext S0 S0 := Ext.rf
  have hsz0 := hw.1.1.1
  have hl : lv_has ls 3 [(0, .ref a0), (1, .int p1)] := hl
  unfold wp_X8_price at hQ
  refine lv_aload_n hx hb dX8_price_0 rfl (lv_at hl 0 rfl) ?_
  refine lv_iload_n hx hb dX8_price_1 rfl (lv_at hl 1 rfl) ?_
  refine k_X8_lotAt F hw hl hA0 hQ twm_RX8_69 (Nat.le_of_ble_eq_true rfl) (Nat.le_of_ble_eq_true rfl) (Nat.le_of_ble_eq_true rfl) dX8_price_2 (show 0 + 0 ≤ 0 from by omega) (show 0 + 0 ≤ 0 from by omega) (fun S1 H locs hQ hw hx1 => ?_) (fun j3 a3 S1 H locs hQ hA3 hw hx1 => ?_)
  · have hQ := hQ.1 rfl
    have hX := hX.trans hx1
    have hA0 := hA0.ext hx1
    refine lv_astore_nN (lv' := [(2, .null), (0, .ref a0), (1, .int p1)]) hx hb dX8_price_5 rfl hl (by decide) rfl (fun ls hl => ?_)
    refine lv_aload_nN hx hb dX8_price_6 rfl (lv_at hl 0 rfl) ?_
    refine lv_ifnullN (tgt := 17) hx hb dX8_price_7 (by decide) ?_
    refine lv_ldc2 (v := -1) hx hb hown (hts _ twl_RX8_80) dX8_price_17 ?_
    refine lv_goto (tgt := 27) hx hb dX8_price_20 (by decide) ?_
    exact rt_l F hr hlk hw hX hQ (show (0 + 0) ≤ 0 from by omega) (show (0 + 0) ≤ 0 from by omega) dX8_price_27
  · have hQ := hQ.2 j3 rfl
    have hX := hX.trans hx1
    have hA0 := hA0.ext hx1
    refine lv_astore_n (lv' := [(2, .ref a3), (0, .ref a0), (1, .int p1)]) hx hb dX8_price_5 rfl hl (by decide) rfl (fun ls hl => ?_)
    refine lv_aload_n hx hb dX8_price_6 rfl (lv_at hl 0 rfl) ?_
    refine lv_ifnull hx hb dX8_price_7 ?_
    refine lv_aload_n hx hb dX8_price_10 rfl (lv_at hl 0 rfl) ?_
    refine k_X5_hasTaker F hw hl hA3 hQ twm_RX8_73 (Nat.le_of_ble_eq_true rfl) (Nat.le_of_ble_eq_true rfl) (Nat.le_of_ble_eq_true rfl) dX8_price_11 (show (0 + 0) + 0 ≤ 0 from by omega) (show (0 + 0) + 0 ≤ 0 from by omega) (fun r5 S4 H locs hQ hw hx1 => ?_)
    have hX := hX.trans hx1
    have hA3 := hA3.ext hx1
    have hA0 := hA0.ext hx1
    refine lv_if_ne (tgt := 23) hx hb dX8_price_14 (by decide) (fun hc => ?_) (fun hc => ?_)
    · have hQ := hQ.1 hc
      refine lv_aload_n hx hb dX8_price_23 rfl (lv_at hl 0 rfl) ?_
      refine g_5_6 F hw hA3 twf_RX8_82 dX8_price_24 ?_
      exact rt_l F hr hlk hw hX hQ (show ((0 + 0) + 0) ≤ 0 from by omega) (show ((0 + 0) + 0) ≤ 0 from by omega) dX8_price_27
    · have hQ := hQ.2 hc
      refine lv_ldc2 (v := -1) hx hb hown (hts _ twl_RX8_80) dX8_price_17 ?_
      refine lv_goto (tgt := 27) hx hb dX8_price_20 (by decide) ?_
      exact rt_l F hr hlk hw hX hQ (show ((0 + 0) + 0) ≤ 0 from by omega) (show ((0 + 0) + 0) ≤ 0 from by omega) dX8_price_27
theorem k_X8_price {p : Program} {l : Launch} {e : Env} {R : Room} {s : State} {m : MethodId} {args : Array Value} {below : List Frame} {meth : Method} {c : Code} {H : Heap} {locs : List Loc} {cells slots : Nat} {Q : State → Prop} {cc : ByteArray} {pc nL : Nat} {ls : Array Slot} {rest : List Value} {G : GT} {S : St} {own : String} {p1 : Int32} {post : Int64 → St → Prop} {lv : List (Nat × Value)} {idx : Nat} (F : CX p m c cc nL s args own) (hw : WW G S s H locs) (hl : lv_has ls nL lv) {a0 : Nat} (hA0 : AtO S 7 0 a0) (hQ : wp_X8_price p1 S post) (h1 : Cond.methodLink own idx yX8_price ∈ wT) (hR1 : 1 + 1 ≤ R.frames) (hR2 : 8 + (3 + 11) + 21 ≤ R.locals) (hrest : (rest.map fun v => v.category).sum ≤ 8) (hdg : decode cc pc = .ok (.invokevirtual idx, 3)) (hf1 : cells + 0 ≤ R.cells) (hf2 : slots + 0 ≤ R.slots)
    (kk : ∀ (r : Int64) (S1 : St) (H1 : Heap) (locs1 : List Loc), post r S1 → WW G S1 s H1 locs1 → Ext S S1 → W p l e R s m args below meth c H1 locs1 (cells + 0) (slots + 0) Q (F0 m (pc + 3) ls (.long r :: rest))) : W p l e R s m args below meth c H locs cells slots Q (F0 m pc ls (.int p1 :: .ref a0 :: rest)) :=
  cl_l (rn_V (n := 1) (As := [.int p1]) (q := (RX8, TX8, 11)) F hw hl (m_X8_price l G p1 S a0 hA0 post hQ) 7 (by decide) (by decide) hA0 rfl rfl h1 twi_yX8_price tws_yX8_price twn_RX8 two_yX8_price rfl rfl ⟨rfl, by decide, by decide, by decide +kernel⟩ rfl ⟨hR1, hR2⟩ rfl hrest hdg ⟨hf1, hf2⟩) hw kk
-- X8_left
def wp_X8_left (p1 : Int32) (S0 : St) (post : Int64 → St → Prop) : Prop :=
  wp_X8_lotAt p1 S0 (fun r2 S1 =>
  (r2 = none →
  post (-1 : Int64) S1) ∧
  (∀ j3 : Nat, r2 = some j3 →
  post (gj S1 5 j3 2) S1))
set_option maxRecDepth 100000 in
set_option maxHeartbeats 4000000 in
theorem m_X8_left (l : Launch) (G : GT) (p1 : Int32) (S0 : St) (a0 : Nat) (hA0 : AtO S0 7 0 a0) (post : Int64 → St → Prop) (hQ : wp_X8_left p1 S0 post) : Met l yX8_left (wM yX8_left cX8_left 3 (some (FieldType.long))) ({ frames := 1, cells := 0, slots := 0, locals := 21 } : Room) (PC G S0 [.ref a0, .int p1]) (QJ G S0 post) 0 0 (QA G) := by
  refine mt_start RX8 (by decide) rfl (Nat.le_of_ble_eq_true rfl) ?_
  intro p e s m args below meth c ls F hr hlk hnm hw hl
  have hx := F.1
  have hb := F.2.1
  have hown := F.2.2.2.1
  have hts := F.2.2.2.2
  have hX : Ext S0 S0 := Ext.rf
  have hsz0 := hw.1.1.1
  have hl : lv_has ls 3 [(0, .ref a0), (1, .int p1)] := hl
  unfold wp_X8_left at hQ
  refine lv_aload_n hx hb dX8_left_0 rfl (lv_at hl 0 rfl) ?_
  refine lv_iload_n hx hb dX8_left_1 rfl (lv_at hl 1 rfl) ?_
  refine k_X8_lotAt F hw hl hA0 hQ twm_RX8_69 (Nat.le_of_ble_eq_true rfl) (Nat.le_of_ble_eq_true rfl) (Nat.le_of_ble_eq_true rfl) dX8_left_2 (show 0 + 0 ≤ 0 from by omega) (show 0 + 0 ≤ 0 from by omega) (fun S1 H locs hQ hw hx1 => ?_) (fun j3 a3 S1 H locs hQ hA3 hw hx1 => ?_)
  · have hQ := hQ.1 rfl
    have hX := hX.trans hx1
    have hA0 := hA0.ext hx1
    refine lv_astore_nN (lv' := [(2, .null), (0, .ref a0), (1, .int p1)]) hx hb dX8_left_5 rfl hl (by decide) rfl (fun ls hl => ?_)
    refine lv_aload_nN hx hb dX8_left_6 rfl (lv_at hl 0 rfl) ?_
    refine lv_ifnonnullN hx hb dX8_left_7 ?_
    refine lv_ldc2 (v := -1) hx hb hown (hts _ twl_RX8_80) dX8_left_10 ?_
    refine lv_goto (tgt := 20) hx hb dX8_left_13 (by decide) ?_
    exact rt_l F hr hlk hw hX hQ (show (0 + 0) ≤ 0 from by omega) (show (0 + 0) ≤ 0 from by omega) dX8_left_20
  · have hQ := hQ.2 j3 rfl
    have hX := hX.trans hx1
    have hA0 := hA0.ext hx1
    refine lv_astore_n (lv' := [(2, .ref a3), (0, .ref a0), (1, .int p1)]) hx hb dX8_left_5 rfl hl (by decide) rfl (fun ls hl => ?_)
    refine lv_aload_n hx hb dX8_left_6 rfl (lv_at hl 0 rfl) ?_
    refine lv_ifnonnull (tgt := 16) hx hb dX8_left_7 (by decide) ?_
    refine lv_aload_n hx hb dX8_left_16 rfl (lv_at hl 0 rfl) ?_
    refine g_5_2 F hw hA3 twf_RX8_86 dX8_left_17 ?_
    exact rt_l F hr hlk hw hX hQ (show (0 + 0) ≤ 0 from by omega) (show (0 + 0) ≤ 0 from by omega) dX8_left_20
theorem k_X8_left {p : Program} {l : Launch} {e : Env} {R : Room} {s : State} {m : MethodId} {args : Array Value} {below : List Frame} {meth : Method} {c : Code} {H : Heap} {locs : List Loc} {cells slots : Nat} {Q : State → Prop} {cc : ByteArray} {pc nL : Nat} {ls : Array Slot} {rest : List Value} {G : GT} {S : St} {own : String} {p1 : Int32} {post : Int64 → St → Prop} {lv : List (Nat × Value)} {idx : Nat} (F : CX p m c cc nL s args own) (hw : WW G S s H locs) (hl : lv_has ls nL lv) {a0 : Nat} (hA0 : AtO S 7 0 a0) (hQ : wp_X8_left p1 S post) (h1 : Cond.methodLink own idx yX8_left ∈ wT) (hR1 : 1 + 1 ≤ R.frames) (hR2 : 8 + (3 + 11) + 21 ≤ R.locals) (hrest : (rest.map fun v => v.category).sum ≤ 8) (hdg : decode cc pc = .ok (.invokevirtual idx, 3)) (hf1 : cells + 0 ≤ R.cells) (hf2 : slots + 0 ≤ R.slots)
    (kk : ∀ (r : Int64) (S1 : St) (H1 : Heap) (locs1 : List Loc), post r S1 → WW G S1 s H1 locs1 → Ext S S1 → W p l e R s m args below meth c H1 locs1 (cells + 0) (slots + 0) Q (F0 m (pc + 3) ls (.long r :: rest))) : W p l e R s m args below meth c H locs cells slots Q (F0 m pc ls (.int p1 :: .ref a0 :: rest)) :=
  cl_l (rn_V (n := 1) (As := [.int p1]) (q := (RX8, TX8, 11)) F hw hl (m_X8_left l G p1 S a0 hA0 post hQ) 7 (by decide) (by decide) hA0 rfl rfl h1 twi_yX8_left tws_yX8_left twn_RX8 two_yX8_left rfl rfl ⟨rfl, by decide, by decide, by decide +kernel⟩ rfl ⟨hR1, hR2⟩ rfl hrest hdg ⟨hf1, hf2⟩) hw kk
-- X8_buyerAt
def wp_X8_buyerAt (p1 : Int32) (S0 : St) (post : Option Nat → St → Prop) : Prop :=
  (p1 < 0 →
  post none S0) ∧
  (¬ p1 < 0 →
  ((gi S0 7 0 7) ≤ p1 →
  post none S0) ∧
  (¬ (gi S0 7 0 7) ≤ p1 →
  (p1 < (30 : Int32) →
  vp_in p1 30 ∧
  (gr S0 11 0 p1.toNatClampNeg = none →
  post none S0) ∧
  (∀ j3 : Nat, gr S0 11 0 p1.toNatClampNeg = some j3 →
  post (some j3) S0)) ∧
  (¬ p1 < (30 : Int32) →
  post none S0)))
set_option maxRecDepth 100000 in
set_option maxHeartbeats 4000000 in
theorem m_X8_buyerAt (l : Launch) (G : GT) (p1 : Int32) (S0 : St) (a0 : Nat) (hA0 : AtO S0 7 0 a0) (post : Option Nat → St → Prop) (hQ : wp_X8_buyerAt p1 S0 post) : Met l yX8_buyerAt (wM yX8_buyerAt cX8_buyerAt 2 (some ((FieldType.object "ClockAuctions$Buyer")))) ({ frames := 0, cells := 0, slots := 0, locals := 0 } : Room) (PC G S0 [.ref a0, .int p1]) (QR 1 G S0 post) 0 0 (QA G) := by
  refine mt_start RX8 (by decide) rfl (Nat.le_of_ble_eq_true rfl) ?_
  intro p e s m args below meth c ls F hr hlk hnm hw hl
  have hx := F.1
  have hb := F.2.1
  have hown := F.2.2.2.1
  have hts := F.2.2.2.2
  have hX : Ext S0 S0 := Ext.rf
  have hsz0 := hw.1.1.1
  have hl : lv_has ls 2 [(0, .ref a0), (1, .int p1)] := hl
  unfold wp_X8_buyerAt at hQ
  refine lv_iload_n hx hb dX8_buyerAt_0 rfl (lv_at hl 1 rfl) ?_
  refine lv_if_lt (tgt := 21) hx hb dX8_buyerAt_1 (by decide) (fun hc => ?_) (fun hc => ?_)
  · have hQ := hQ.1 hc
    refine lv_null hx hb dX8_buyerAt_21 ?_
    refine lv_goto (tgt := 31) hx hb dX8_buyerAt_22 (by decide) ?_
    exact rt_n F hr hlk hw hX hQ (show 0 ≤ 0 from by omega) (show 0 ≤ 0 from by omega) dX8_buyerAt_31
  · have hQ := hQ.2 hc
    refine lv_iload_n hx hb dX8_buyerAt_4 rfl (lv_at hl 1 rfl) ?_
    refine lv_aload_n hx hb dX8_buyerAt_5 rfl (lv_at hl 0 rfl) ?_
    refine g_7_7 F hw hA0 twf_RX8_60 dX8_buyerAt_6 ?_
    refine lv_icmp_ge (tgt := 21) hx hb dX8_buyerAt_9 (by decide) (fun hc => ?_) (fun hc => ?_)
    · have hQ := hQ.1 hc
      refine lv_null hx hb dX8_buyerAt_21 ?_
      refine lv_goto (tgt := 31) hx hb dX8_buyerAt_22 (by decide) ?_
      exact rt_n F hr hlk hw hX hQ (show 0 ≤ 0 from by omega) (show 0 ≤ 0 from by omega) dX8_buyerAt_31
    · have hQ := hQ.2 hc
      refine lv_iload_n hx hb dX8_buyerAt_12 rfl (lv_at hl 1 rfl) ?_
      refine lv_aload_n hx hb dX8_buyerAt_13 rfl (lv_at hl 0 rfl) ?_
      refine g_7_1 F hw hA0 twf_RX8_17 dX8_buyerAt_14 (fun a1 hA1 => ?_)
      refine ln_11 F hw hA1 dX8_buyerAt_17 ?_
      refine lv_icmp_lt (tgt := 25) hx hb dX8_buyerAt_18 (by decide) (fun hc => ?_) (fun hc => ?_)
      · have hQ := hQ.1 hc
        refine lv_aload_n hx hb dX8_buyerAt_25 rfl (lv_at hl 0 rfl) ?_
        refine g_7_1 F hw hA0 twf_RX8_17 dX8_buyerAt_26 (fun a2 hA2 => ?_)
        refine lv_iload_n hx hb dX8_buyerAt_29 rfl (lv_at hl 1 rfl) ?_
        obtain ⟨hin, hQ⟩ := hQ
        refine al_11 F hw hA2 hin dX8_buyerAt_30 (fun hrf => ?_) (fun j3 a3 hrf hA3 => ?_)
        · have hQ := hQ.1 hrf
          exact rt_n F hr hlk hw hX hQ (show 0 ≤ 0 from by omega) (show 0 ≤ 0 from by omega) dX8_buyerAt_31
        · have hQ := hQ.2 j3 hrf
          exact rt_a F hr hlk hw hX hA3 hQ (show 0 ≤ 0 from by omega) (show 0 ≤ 0 from by omega) dX8_buyerAt_31
      · have hQ := hQ.2 hc
        refine lv_null hx hb dX8_buyerAt_21 ?_
        refine lv_goto (tgt := 31) hx hb dX8_buyerAt_22 (by decide) ?_
        exact rt_n F hr hlk hw hX hQ (show 0 ≤ 0 from by omega) (show 0 ≤ 0 from by omega) dX8_buyerAt_31
theorem k_X8_buyerAt {p : Program} {l : Launch} {e : Env} {R : Room} {s : State} {m : MethodId} {args : Array Value} {below : List Frame} {meth : Method} {c : Code} {H : Heap} {locs : List Loc} {cells slots : Nat} {Q : State → Prop} {cc : ByteArray} {pc nL : Nat} {ls : Array Slot} {rest : List Value} {G : GT} {S : St} {own : String} {p1 : Int32} {post : Option Nat → St → Prop} {lv : List (Nat × Value)} {idx : Nat} (F : CX p m c cc nL s args own) (hw : WW G S s H locs) (hl : lv_has ls nL lv) {a0 : Nat} (hA0 : AtO S 7 0 a0) (hQ : wp_X8_buyerAt p1 S post) (h1 : Cond.methodLink own idx yX8_buyerAt ∈ wT) (hR1 : 0 + 1 ≤ R.frames) (hR2 : 8 + (2 + 11) + 0 ≤ R.locals) (hrest : (rest.map fun v => v.category).sum ≤ 8) (hdg : decode cc pc = .ok (.invokevirtual idx, 3)) (hf1 : cells + 0 ≤ R.cells) (hf2 : slots + 0 ≤ R.slots)
    (kn : ∀ (S1 : St) (H1 : Heap) (locs1 : List Loc), post none S1 → WW G S1 s H1 locs1 → Ext S S1 → W p l e R s m args below meth c H1 locs1 (cells + 0) (slots + 0) Q (F0 m (pc + 3) ls (.null :: rest))) (ks : ∀ (j2 a2 : Nat) (S1 : St) (H1 : Heap) (locs1 : List Loc), post (some j2) S1 → AtO S1 1 j2 a2 → WW G S1 s H1 locs1 → Ext S S1 → W p l e R s m args below meth c H1 locs1 (cells + 0) (slots + 0) Q (F0 m (pc + 3) ls (.ref a2 :: rest))) : W p l e R s m args below meth c H locs cells slots Q (F0 m pc ls (.int p1 :: .ref a0 :: rest)) :=
  cl_r (rn_V (n := 1) (As := [.int p1]) (q := (RX8, TX8, 11)) F hw hl (m_X8_buyerAt l G p1 S a0 hA0 post hQ) 7 (by decide) (by decide) hA0 rfl rfl h1 twi_yX8_buyerAt tws_yX8_buyerAt twn_RX8 two_yX8_buyerAt rfl rfl ⟨rfl, by decide, by decide, by decide +kernel⟩ rfl ⟨hR1, hR2⟩ rfl hrest hdg ⟨hf1, hf2⟩) hw kn ks

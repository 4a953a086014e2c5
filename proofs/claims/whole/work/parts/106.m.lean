-- X0_init
def wp_X0_init (j0 : Nat) (p1 : Int32) (p2 : Int32) (p3 : Int64) (S0 : St) (post : St → Prop) : Prop :=
  ∀ S1 : St, S1 = si S0 0 j0 0 p1 →
  ∀ S2 : St, S2 = si S1 0 j0 1 p2 →
  ∀ S3 : St, S3 = sj S2 0 j0 2 p3 →
  post S3
set_option maxRecDepth 100000 in
set_option maxHeartbeats 4000000 in
theorem m_X0_init (l : Launch) (G : GT) (j0 : Nat) (p1 : Int32) (p2 : Int32) (p3 : Int64) (S0 : St) (a0 : Nat) (hA0 : AtO S0 0 j0 a0) (post : St → Prop) (hQ : wp_X0_init j0 p1 p2 p3 S0 post) : Met l yX0_init (wM yX0_init cX0_init 5 none) ({ frames := 1, cells := 0, slots := 0, locals := 12 } : Room) (PC G S0 [.ref a0, .int p1, .int p2, .long p3]) (QV G S0 post) 0 0 (QA G) := by
  refine mt_start RX0 (by decide) rfl (Nat.le_of_ble_eq_true rfl) ?_
  intro p e s m args below meth c ls F hr hlk hnm hw hl
  have hx := F.1
  have hb := F.2.1
  have hown := F.2.2.2.1
  have hts := F.2.2.2.2
  have hin : meth.name = "<init>" := hnm
  have hX : Ext S0 S0 := Ext.rf
  have hsz0 := hw.1.1.1
  have hl : lv_has ls 5 [(0, .ref a0), (1, .int p1), (2, .int p2), (3, .long p3)] := hl
  unfold wp_X0_init at hQ
  refine lv_aload_n hx hb dX0_init_0 rfl (lv_at hl 0 rfl) ?_
  refine o_init F hl twm_RX0_3 dX0_init_1 (Nat.le_of_ble_eq_true rfl) (Nat.le_of_ble_eq_true rfl) ?_
  refine lv_aload_n hx hb dX0_init_4 rfl (lv_at hl 0 rfl) ?_
  refine lv_iload_n hx hb dX0_init_5 rfl (lv_at hl 1 rfl) ?_
  refine p_0_0 F hw hA0 twf_RX0_9 dX0_init_6 (fun S1 H locs eS1 hw hx1 => ?_) hin rfl
  have hQ := hQ S1 eS1
  have hX := hX.trans hx1
  have hA0 := hA0.ext hx1
  refine lv_aload_n hx hb dX0_init_9 rfl (lv_at hl 0 rfl) ?_
  refine lv_iload_n hx hb dX0_init_10 rfl (lv_at hl 2 rfl) ?_
  refine p_0_1 F hw hA0 twf_RX0_15 dX0_init_11 (fun S2 H locs eS2 hw hx1 => ?_) hin rfl
  have hQ := hQ S2 eS2
  have hX := hX.trans hx1
  have hA0 := hA0.ext hx1
  refine lv_aload_n hx hb dX0_init_14 rfl (lv_at hl 0 rfl) ?_
  refine lv_lload_n hx hb dX0_init_15 rfl (lv_at hl 3 rfl) ?_
  refine p_0_2 F hw hA0 twf_RX0_18 dX0_init_16 (fun S3 H locs eS3 hw hx1 => ?_) hin rfl
  have hQ := hQ S3 eS3
  have hX := hX.trans hx1
  have hA0 := hA0.ext hx1
  exact rt_v F hr hlk hw hX hQ (show 0 ≤ 0 from by omega) (show 0 ≤ 0 from by omega) dX0_init_19
theorem k_X0_init {p : Program} {l : Launch} {e : Env} {R : Room} {s : State} {m : MethodId} {args : Array Value} {below : List Frame} {meth : Method} {c : Code} {H : Heap} {locs : List Loc} {cells slots : Nat} {Q : State → Prop} {cc : ByteArray} {pc nL : Nat} {ls : Array Slot} {rest : List Value} {G : GT} {S : St} {own : String} {j0 : Nat} {p1 : Int32} {p2 : Int32} {p3 : Int64} {post : St → Prop} {lv : List (Nat × Value)} {idx : Nat} (F : CX p m c cc nL s args own) (hw : WW G S s H locs) (hl : lv_has ls nL lv) {a0 : Nat} (hA0 : AtO S 0 j0 a0) (hQ : wp_X0_init j0 p1 p2 p3 S post) (h1 : Cond.methodLink own idx yX0_init ∈ wT) (hR1 : 1 + 1 ≤ R.frames) (hR2 : 8 + (5 + 11) + 12 ≤ R.locals) (hrest : (rest.map fun v => v.category).sum ≤ 8) (hdg : decode cc pc = .ok (.invokespecial idx, 3)) (hf1 : cells + 0 ≤ R.cells) (hf2 : slots + 0 ≤ R.slots)
    (kk : ∀ (S1 : St) (H1 : Heap) (locs1 : List Loc), post S1 → WW G S1 s H1 locs1 → Ext S S1 → W p l e R s m args below meth c H1 locs1 (cells + 0) (slots + 0) Q (F0 m (pc + 3) ls rest)) : W p l e R s m args below meth c H locs cells slots Q (F0 m pc ls (.long p3 :: .int p2 :: .int p1 :: .ref a0 :: rest)) :=
  cl_v (rn_I (n := 3) (As := [.int p1, .int p2, .long p3]) F hw hl (m_X0_init l G j0 p1 p2 p3 S a0 hA0 post hQ) h1 twi_yX0_init twn_RX0 two_yX0_init rfl rfl rfl ⟨by decide, by decide, by decide +kernel⟩ rfl ⟨hR1, hR2⟩ rfl hrest hdg ⟨hf1, hf2⟩) hw kk
-- X8_bid
def wp_X8_bid (p1 : Int32) (p2 : Int64) (S0 : St) (post : Int32 → St → Prop) : Prop :=
  ∀ v1 : Int32, v1 = gi S0 7 0 8 →
  wp_X8_buyerAt p1 S0 (fun r3 S2 =>
  (r3 = none →
  post (-1 : Int32) S2) ∧
  (∀ j4 : Nat, r3 = some j4 →
  (v1 < 0 →
  post (-1 : Int32) S2) ∧
  (¬ v1 < 0 →
  (v1 < (18 : Int32) →
  wp_X8_isWithin p2 (0 : Int64) (1000000000000 : Int64) S2 (fun r7 S6 =>
  (¬ r7 = 0 →
  ∀ S9 : St, S9 = sn S6 0 →
  wp_X0_init (gn S6 0) v1 p1 p2 S9 (fun S11 =>
  vp_in v1 18 ∧
  ∀ S12 : St, S12 = sr S11 12 0 v1.toNatClampNeg (some (gn S6 0)) →
  ∀ S13 : St, S13 = si S12 7 0 8 (v1 + (1 : Int32)) →
  post v1 S13)) ∧
  (r7 = 0 →
  post (-1 : Int32) S6))) ∧
  (¬ v1 < (18 : Int32) →
  post (-1 : Int32) S2))))
set_option maxRecDepth 100000 in
set_option maxHeartbeats 4000000 in
theorem m_X8_bid (l : Launch) (G : GT) (p1 : Int32) (p2 : Int64) (S0 : St) (a0 : Nat) (hA0 : AtO S0 7 0 a0) (post : Int32 → St → Prop) (hQ : wp_X8_bid p1 p2 S0 post) : Met l yX8_bid (wM yX8_bid cX8_bid 5 (some (FieldType.int))) ({ frames := 2, cells := 1, slots := 4, locals := 36 } : Room) (PC G S0 [.ref a0, .int p1, .long p2]) (QI G S0 post) 1 4 (QA G) := by
  refine mt_start RX8 (by decide) rfl (Nat.le_of_ble_eq_true rfl) ?_
  intro p e s m args below meth c ls F hr hlk hnm hw hl
  have hx := F.1
  have hb := F.2.1
  have hown := F.2.2.2.1
  have hts := F.2.2.2.2
  have hX : Ext S0 S0 := Ext.rf
  have hsz0 := hw.1.1.1
  have hl : lv_has ls 5 [(0, .ref a0), (1, .int p1), (2, .long p2)] := hl
  unfold wp_X8_bid at hQ
  refine lv_aload_n hx hb dX8_bid_0 rfl (lv_at hl 0 rfl) ?_
  refine g_7_8 F hw hA0 twf_RX8_249 dX8_bid_1 ?_
  refine lv_topi (fun v1 ev1 => ?_)
  have hQ := hQ v1 ev1
  refine lv_istore (lv' := [(4, .int v1), (0, .ref a0), (1, .int p1), (2, .long p2)]) hx hb dX8_bid_4 hl (by decide) rfl (fun ls hl => ?_)
  refine lv_aload_n hx hb dX8_bid_6 rfl (lv_at hl 1 rfl) ?_
  refine lv_iload_n hx hb dX8_bid_7 rfl (lv_at hl 2 rfl) ?_
  refine k_X8_buyerAt F hw hl hA0 hQ twm_RX8_89 (Nat.le_of_ble_eq_true rfl) (Nat.le_of_ble_eq_true rfl) (Nat.le_of_ble_eq_true rfl) dX8_bid_8 (show 0 + 0 ≤ 1 from by omega) (show 0 + 0 ≤ 4 from by omega) (fun S2 H locs hQ hw hx1 => ?_) (fun j4 a4 S2 H locs hQ hA4 hw hx1 => ?_)
  · have hQ := hQ.1 rfl
    have hX := hX.trans hx1
    have hA0 := hA0.ext hx1
    refine lv_ifnullN (tgt := 29) hx hb dX8_bid_11 (by decide) ?_
    refine lv_iconst (v := -1) hx hb dX8_bid_29 (by decide) ?_
    exact rt_i F hr hlk hw hX hQ (show (0 + 0) ≤ 1 from by omega) (show (0 + 0) ≤ 4 from by omega) dX8_bid_30
  · have hQ := hQ.2 j4 rfl
    have hX := hX.trans hx1
    have hA0 := hA0.ext hx1
    refine lv_ifnull hx hb dX8_bid_11 ?_
    refine lv_iload hx hb dX8_bid_14 (lv_at hl 0 rfl) ?_
    refine lv_if_lt (tgt := 29) hx hb dX8_bid_16 (by decide) (fun hc => ?_) (fun hc => ?_)
    · have hQ := hQ.1 hc
      refine lv_iconst (v := -1) hx hb dX8_bid_29 (by decide) ?_
      exact rt_i F hr hlk hw hX hQ (show (0 + 0) ≤ 1 from by omega) (show (0 + 0) ≤ 4 from by omega) dX8_bid_30
    · have hQ := hQ.2 hc
      refine lv_iload hx hb dX8_bid_19 (lv_at hl 0 rfl) ?_
      refine lv_aload_n hx hb dX8_bid_21 rfl (lv_at hl 1 rfl) ?_
      refine g_7_2 F hw hA0 twf_RX8_23 dX8_bid_22 (fun a5 hA5 => ?_)
      refine ln_12 F hw hA5 dX8_bid_25 ?_
      refine lv_icmp_lt (tgt := 31) hx hb dX8_bid_26 (by decide) (fun hc => ?_) (fun hc => ?_)
      · have hQ := hQ.1 hc
        refine lv_lload_n hx hb dX8_bid_31 rfl (lv_at hl 3 rfl) ?_
        refine lv_lconst (v := 0) hx hb dX8_bid_32 (by decide) ?_
        refine lv_ldc2 (v := 1000000000000) hx hb hown (hts _ twl_RX8_64) dX8_bid_33 ?_
        refine k_X8_isWithin F hw hl hQ twm_RX8_50 (Nat.le_of_ble_eq_true rfl) (Nat.le_of_ble_eq_true rfl) (Nat.le_of_ble_eq_true rfl) dX8_bid_36 (show (0 + 0) + 0 ≤ 1 from by omega) (show (0 + 0) + 0 ≤ 4 from by omega) (fun r7 S6 H locs hQ hw hx1 => ?_)
        have hX := hX.trans hx1
        have hA0 := hA0.ext hx1
        refine lv_if_ne (tgt := 44) hx hb dX8_bid_39 (by decide) (fun hc => ?_) (fun hc => ?_)
        · have hQ := hQ.1 hc
          refine lv_aload_n hx hb dX8_bid_44 rfl (lv_at hl 1 rfl) ?_
          refine g_7_2 F hw hA0 twf_RX8_23 dX8_bid_45 (fun a8 hA8 => ?_)
          refine lv_iload hx hb dX8_bid_48 (lv_at hl 0 rfl) ?_
          refine nw_0 F hw twc_RX8_21 (show ((0 + 0) + 0) + 1 ≤ 1 from by omega) (show ((0 + 0) + 0) + 4 ≤ 4 from by omega) dX8_bid_50 (fun S9 a10 H eS9 hA10 hw hx1 => ?_)
          have hQ := hQ S9 eS9
          have hX := hX.trans hx1
          have hA8 := hA8.ext hx1
          have hA0 := hA0.ext hx1
          refine lv_dup hx hb dX8_bid_53 rfl ?_
          refine lv_iload hx hb dX8_bid_54 (lv_at hl 0 rfl) ?_
          refine lv_iload_n hx hb dX8_bid_56 rfl (lv_at hl 2 rfl) ?_
          refine lv_lload_n hx hb dX8_bid_57 rfl (lv_at hl 3 rfl) ?_
          refine k_X0_init F hw hl hA10 hQ twm_RX8_252 (Nat.le_of_ble_eq_true rfl) (Nat.le_of_ble_eq_true rfl) (Nat.le_of_ble_eq_true rfl) dX8_bid_58 (show (((0 + 0) + 0) + 1) + 0 ≤ 1 from by omega) (show (((0 + 0) + 0) + 4) + 0 ≤ 4 from by omega) (fun S11 H locs hQ hw hx1 => ?_)
          have hX := hX.trans hx1
          have hA8 := hA8.ext hx1
          have hA10 := hA10.ext hx1
          have hA0 := hA0.ext hx1
          obtain ⟨hin, hQ⟩ := hQ
          refine as_12 F hw hA8 hA10 hin dX8_bid_61 (fun S12 H locs eS12 hw hx1 => ?_)
          have hQ := hQ S12 eS12
          have hX := hX.trans hx1
          have hA0 := hA0.ext hx1
          refine lv_aload_n hx hb dX8_bid_62 rfl (lv_at hl 1 rfl) ?_
          refine lv_iload hx hb dX8_bid_63 (lv_at hl 0 rfl) ?_
          refine lv_iconst (v := 1) hx hb dX8_bid_65 (by decide) ?_
          refine lv_iadd hx hb dX8_bid_66 ?_
          refine p_7_8 F hw hA0 twf_RX8_249 dX8_bid_67 (fun S13 H locs eS13 hw hx1 => ?_)
          have hQ := hQ S13 eS13
          have hX := hX.trans hx1
          have hA0 := hA0.ext hx1
          refine lv_iload hx hb dX8_bid_70 (lv_at hl 0 rfl) ?_
          exact rt_i F hr hlk hw hX hQ (show ((((0 + 0) + 0) + 1) + 0) ≤ 1 from by omega) (show ((((0 + 0) + 0) + 4) + 0) ≤ 4 from by omega) dX8_bid_72
        · have hQ := hQ.2 hc
          refine lv_iconst (v := -1) hx hb dX8_bid_42 (by decide) ?_
          exact rt_i F hr hlk hw hX hQ (show ((0 + 0) + 0) ≤ 1 from by omega) (show ((0 + 0) + 0) ≤ 4 from by omega) dX8_bid_43
      · have hQ := hQ.2 hc
        refine lv_iconst (v := -1) hx hb dX8_bid_29 (by decide) ?_
        exact rt_i F hr hlk hw hX hQ (show (0 + 0) ≤ 1 from by omega) (show (0 + 0) ≤ 4 from by omega) dX8_bid_30
theorem k_X8_bid {p : Program} {l : Launch} {e : Env} {R : Room} {s : State} {m : MethodId} {args : Array Value} {below : List Frame} {meth : Method} {c : Code} {H : Heap} {locs : List Loc} {cells slots : Nat} {Q : State → Prop} {cc : ByteArray} {pc nL : Nat} {ls : Array Slot} {rest : List Value} {G : GT} {S : St} {own : String} {p1 : Int32} {p2 : Int64} {post : Int32 → St → Prop} {lv : List (Nat × Value)} {idx : Nat} (F : CX p m c cc nL s args own) (hw : WW G S s H locs) (hl : lv_has ls nL lv) {a0 : Nat} (hA0 : AtO S 7 0 a0) (hQ : wp_X8_bid p1 p2 S post) (h1 : Cond.methodLink own idx yX8_bid ∈ wT) (hR1 : 2 + 1 ≤ R.frames) (hR2 : 8 + (5 + 11) + 36 ≤ R.locals) (hrest : (rest.map fun v => v.category).sum ≤ 8) (hdg : decode cc pc = .ok (.invokevirtual idx, 3)) (hf1 : cells + 1 ≤ R.cells) (hf2 : slots + 4 ≤ R.slots)
    (kk : ∀ (r : Int32) (S1 : St) (H1 : Heap) (locs1 : List Loc), post r S1 → WW G S1 s H1 locs1 → Ext S S1 → W p l e R s m args below meth c H1 locs1 (cells + 1) (slots + 4) Q (F0 m (pc + 3) ls (.int r :: rest))) : W p l e R s m args below meth c H locs cells slots Q (F0 m pc ls (.long p2 :: .int p1 :: .ref a0 :: rest)) :=
  cl_i (rn_V (n := 2) (As := [.int p1, .long p2]) (q := (RX8, TX8, 11)) F hw hl (m_X8_bid l G p1 p2 S a0 hA0 post hQ) 7 (by decide) (by decide) hA0 rfl rfl h1 twi_yX8_bid tws_yX8_bid twn_RX8 two_yX8_bid rfl rfl ⟨rfl, by decide, by decide, by decide +kernel⟩ rfl ⟨hR1, hR2⟩ rfl hrest hdg ⟨hf1, hf2⟩) hw kk
-- X8_bidAt
def wp_X8_bidAt (p1 : Int32) (S0 : St) (post : Option Nat → St → Prop) : Prop :=
  (p1 < 0 →
  post none S0) ∧
  (¬ p1 < 0 →
  ((gi S0 7 0 8) ≤ p1 →
  post none S0) ∧
  (¬ (gi S0 7 0 8) ≤ p1 →
  (p1 < (18 : Int32) →
  vp_in p1 18 ∧
  (gr S0 12 0 p1.toNatClampNeg = none →
  post none S0) ∧
  (∀ j3 : Nat, gr S0 12 0 p1.toNatClampNeg = some j3 →
  post (some j3) S0)) ∧
  (¬ p1 < (18 : Int32) →
  post none S0)))
set_option maxRecDepth 100000 in
set_option maxHeartbeats 4000000 in
theorem m_X8_bidAt (l : Launch) (G : GT) (p1 : Int32) (S0 : St) (a0 : Nat) (hA0 : AtO S0 7 0 a0) (post : Option Nat → St → Prop) (hQ : wp_X8_bidAt p1 S0 post) : Met l yX8_bidAt (wM yX8_bidAt cX8_bidAt 2 (some ((FieldType.object "ClockAuctions$Bid")))) ({ frames := 0, cells := 0, slots := 0, locals := 0 } : Room) (PC G S0 [.ref a0, .int p1]) (QR 0 G S0 post) 0 0 (QA G) := by
  refine mt_start RX8 (by decide) rfl (Nat.le_of_ble_eq_true rfl) ?_
  intro p e s m args below meth c ls F hr hlk hnm hw hl
  have hx := F.1
  have hb := F.2.1
  have hown := F.2.2.2.1
  have hts := F.2.2.2.2
  have hX : Ext S0 S0 := Ext.rf
  have hsz0 := hw.1.1.1
  have hl : lv_has ls 2 [(0, .ref a0), (1, .int p1)] := hl
  unfold wp_X8_bidAt at hQ
  refine lv_iload_n hx hb dX8_bidAt_0 rfl (lv_at hl 1 rfl) ?_
  refine lv_if_lt (tgt := 21) hx hb dX8_bidAt_1 (by decide) (fun hc => ?_) (fun hc => ?_)
  · have hQ := hQ.1 hc
    refine lv_null hx hb dX8_bidAt_21 ?_
    refine lv_goto (tgt := 31) hx hb dX8_bidAt_22 (by decide) ?_
    exact rt_n F hr hlk hw hX hQ (show 0 ≤ 0 from by omega) (show 0 ≤ 0 from by omega) dX8_bidAt_31
  · have hQ := hQ.2 hc
    refine lv_iload_n hx hb dX8_bidAt_4 rfl (lv_at hl 1 rfl) ?_
    refine lv_aload_n hx hb dX8_bidAt_5 rfl (lv_at hl 0 rfl) ?_
    refine g_7_8 F hw hA0 twf_RX8_249 dX8_bidAt_6 ?_
    refine lv_icmp_ge (tgt := 21) hx hb dX8_bidAt_9 (by decide) (fun hc => ?_) (fun hc => ?_)
    · have hQ := hQ.1 hc
      refine lv_null hx hb dX8_bidAt_21 ?_
      refine lv_goto (tgt := 31) hx hb dX8_bidAt_22 (by decide) ?_
      exact rt_n F hr hlk hw hX hQ (show 0 ≤ 0 from by omega) (show 0 ≤ 0 from by omega) dX8_bidAt_31
    · have hQ := hQ.2 hc
      refine lv_iload_n hx hb dX8_bidAt_12 rfl (lv_at hl 1 rfl) ?_
      refine lv_aload_n hx hb dX8_bidAt_13 rfl (lv_at hl 0 rfl) ?_
      refine g_7_2 F hw hA0 twf_RX8_23 dX8_bidAt_14 (fun a1 hA1 => ?_)
      refine ln_12 F hw hA1 dX8_bidAt_17 ?_
      refine lv_icmp_lt (tgt := 25) hx hb dX8_bidAt_18 (by decide) (fun hc => ?_) (fun hc => ?_)
      · have hQ := hQ.1 hc
        refine lv_aload_n hx hb dX8_bidAt_25 rfl (lv_at hl 0 rfl) ?_
        refine g_7_2 F hw hA0 twf_RX8_23 dX8_bidAt_26 (fun a2 hA2 => ?_)
        refine lv_iload_n hx hb dX8_bidAt_29 rfl (lv_at hl 1 rfl) ?_
        obtain ⟨hin, hQ⟩ := hQ
        refine al_12 F hw hA2 hin dX8_bidAt_30 (fun hrf => ?_) (fun j3 a3 hrf hA3 => ?_)
        · have hQ := hQ.1 hrf
          exact rt_n F hr hlk hw hX hQ (show 0 ≤ 0 from by omega) (show 0 ≤ 0 from by omega) dX8_bidAt_31
        · have hQ := hQ.2 j3 hrf
          exact rt_a F hr hlk hw hX hA3 hQ (show 0 ≤ 0 from by omega) (show 0 ≤ 0 from by omega) dX8_bidAt_31
      · have hQ := hQ.2 hc
        refine lv_null hx hb dX8_bidAt_21 ?_
        refine lv_goto (tgt := 31) hx hb dX8_bidAt_22 (by decide) ?_
        exact rt_n F hr hlk hw hX hQ (show 0 ≤ 0 from by omega) (show 0 ≤ 0 from by omega) dX8_bidAt_31
theorem k_X8_bidAt {p : Program} {l : Launch} {e : Env} {R : Room} {s : State} {m : MethodId} {args : Array Value} {below : List Frame} {meth : Method} {c : Code} {H : Heap} {locs : List Loc} {cells slots : Nat} {Q : State → Prop} {cc : ByteArray} {pc nL : Nat} {ls : Array Slot} {rest : List Value} {G : GT} {S : St} {own : String} {p1 : Int32} {post : Option Nat → St → Prop} {lv : List (Nat × Value)} {idx : Nat} (F : CX p m c cc nL s args own) (hw : WW G S s H locs) (hl : lv_has ls nL lv) {a0 : Nat} (hA0 : AtO S 7 0 a0) (hQ : wp_X8_bidAt p1 S post) (h1 : Cond.methodLink own idx yX8_bidAt ∈ wT) (hR1 : 0 + 1 ≤ R.frames) (hR2 : 8 + (2 + 11) + 0 ≤ R.locals) (hrest : (rest.map fun v => v.category).sum ≤ 8) (hdg : decode cc pc = .ok (.invokevirtual idx, 3)) (hf1 : cells + 0 ≤ R.cells) (hf2 : slots + 0 ≤ R.slots)
    (kn : ∀ (S1 : St) (H1 : Heap) (locs1 : List Loc), post none S1 → WW G S1 s H1 locs1 → Ext S S1 → W p l e R s m args below meth c H1 locs1 (cells + 0) (slots + 0) Q (F0 m (pc + 3) ls (.null :: rest))) (ks : ∀ (j2 a2 : Nat) (S1 : St) (H1 : Heap) (locs1 : List Loc), post (some j2) S1 → AtO S1 0 j2 a2 → WW G S1 s H1 locs1 → Ext S S1 → W p l e R s m args below meth c H1 locs1 (cells + 0) (slots + 0) Q (F0 m (pc + 3) ls (.ref a2 :: rest))) : W p l e R s m args below meth c H locs cells slots Q (F0 m pc ls (.int p1 :: .ref a0 :: rest)) :=
  cl_r (rn_V (n := 1) (As := [.int p1]) (q := (RX8, TX8, 11)) F hw hl (m_X8_bidAt l G p1 S a0 hA0 post hQ) 7 (by decide) (by decide) hA0 rfl rfl h1 twi_yX8_bidAt tws_yX8_bidAt twn_RX8 two_yX8_bidAt rfl rfl ⟨rfl, by decide, by decide, by decide +kernel⟩ rfl ⟨hR1, hR2⟩ rfl hrest hdg ⟨hf1, hf2⟩) hw kn ks
-- X0_isFor
def wp_X0_isFor (j0 : Nat) (p1 : Int32) (S0 : St) (post : Int32 → St → Prop) : Prop :=
  (p1 < 0 →
  post (0 : Int32) S0) ∧
  (¬ p1 < 0 →
  ((60 : Int32) ≤ p1 →
  post (0 : Int32) S0) ∧
  (¬ (60 : Int32) ≤ p1 →
  (((((gj S0 0 j0 3).toUInt64 >>> (p1.toInt64.toUInt64 &&& Int64.toUInt64 63)).toInt64) &&& (1 : Int64)) = (0 : Int64) →
  post (0 : Int32) S0) ∧
  (¬ ((((gj S0 0 j0 3).toUInt64 >>> (p1.toInt64.toUInt64 &&& Int64.toUInt64 63)).toInt64) &&& (1 : Int64)) = (0 : Int64) →
  post (1 : Int32) S0)))
set_option maxRecDepth 100000 in
set_option maxHeartbeats 4000000 in
theorem m_X0_isFor (l : Launch) (G : GT) (j0 : Nat) (p1 : Int32) (S0 : St) (a0 : Nat) (hA0 : AtO S0 0 j0 a0) (post : Int32 → St → Prop) (hQ : wp_X0_isFor j0 p1 S0 post) : Met l yX0_isFor (wM yX0_isFor cX0_isFor 2 (some (FieldType.boolean))) ({ frames := 0, cells := 0, slots := 0, locals := 0 } : Room) (PC G S0 [.ref a0, .int p1]) (QI G S0 post) 0 0 (QA G) := by
  refine mt_start RX0 (by decide) rfl (Nat.le_of_ble_eq_true rfl) ?_
  intro p e s m args below meth c ls F hr hlk hnm hw hl
  have hx := F.1
  have hb := F.2.1
  have hown := F.2.2.2.1
  have hts := F.2.2.2.2
  have hX : Ext S0 S0 := Ext.rf
  have hsz0 := hw.1.1.1
  have hl : lv_has ls 2 [(0, .ref a0), (1, .int p1)] := hl
  unfold wp_X0_isFor at hQ
  refine lv_iload_n hx hb dX0_isFor_0 rfl (lv_at hl 1 rfl) ?_
  refine lv_if_lt (tgt := 27) hx hb dX0_isFor_1 (by decide) (fun hc => ?_) (fun hc => ?_)
  · have hQ := hQ.1 hc
    refine lv_iconst (v := 0) hx hb dX0_isFor_27 (by decide) ?_
    exact rt_z F hr hlk hw hX hQ rfl (show 0 ≤ 0 from by omega) (show 0 ≤ 0 from by omega) dX0_isFor_28
  · have hQ := hQ.2 hc
    refine lv_iload_n hx hb dX0_isFor_4 rfl (lv_at hl 1 rfl) ?_
    refine lv_bipush (v := 60) hx hb dX0_isFor_5 (by decide) ?_
    refine lv_icmp_ge (tgt := 27) hx hb dX0_isFor_7 (by decide) (fun hc => ?_) (fun hc => ?_)
    · have hQ := hQ.1 hc
      refine lv_iconst (v := 0) hx hb dX0_isFor_27 (by decide) ?_
      exact rt_z F hr hlk hw hX hQ rfl (show 0 ≤ 0 from by omega) (show 0 ≤ 0 from by omega) dX0_isFor_28
    · have hQ := hQ.2 hc
      refine lv_aload_n hx hb dX0_isFor_10 rfl (lv_at hl 0 rfl) ?_
      refine g_0_3 F hw hA0 twf_RX0_22 dX0_isFor_11 ?_
      refine lv_iload_n hx hb dX0_isFor_14 rfl (lv_at hl 1 rfl) ?_
      refine lv_lushr hx hb dX0_isFor_15 rfl ?_
      refine lv_lconst (v := 1) hx hb dX0_isFor_16 (by decide) ?_
      refine lv_land hx hb dX0_isFor_17 ?_
      refine lv_lconst (v := 0) hx hb dX0_isFor_18 (by decide) ?_
      refine lc_eq (tgt := 27) F dX0_isFor_19 dX0_isFor_20 (by decide) (fun hc => ?_) (fun hc => ?_)
      · have hQ := hQ.1 hc
        refine lv_iconst (v := 0) hx hb dX0_isFor_27 (by decide) ?_
        exact rt_z F hr hlk hw hX hQ rfl (show 0 ≤ 0 from by omega) (show 0 ≤ 0 from by omega) dX0_isFor_28
      · have hQ := hQ.2 hc
        refine lv_iconst (v := 1) hx hb dX0_isFor_23 (by decide) ?_
        refine lv_goto (tgt := 28) hx hb dX0_isFor_24 (by decide) ?_
        exact rt_z F hr hlk hw hX hQ rfl (show 0 ≤ 0 from by omega) (show 0 ≤ 0 from by omega) dX0_isFor_28
theorem k_X0_isFor {p : Program} {l : Launch} {e : Env} {R : Room} {s : State} {m : MethodId} {args : Array Value} {below : List Frame} {meth : Method} {c : Code} {H : Heap} {locs : List Loc} {cells slots : Nat} {Q : State → Prop} {cc : ByteArray} {pc nL : Nat} {ls : Array Slot} {rest : List Value} {G : GT} {S : St} {own : String} {j0 : Nat} {p1 : Int32} {post : Int32 → St → Prop} {lv : List (Nat × Value)} {idx : Nat} (F : CX p m c cc nL s args own) (hw : WW G S s H locs) (hl : lv_has ls nL lv) {a0 : Nat} (hA0 : AtO S 0 j0 a0) (hQ : wp_X0_isFor j0 p1 S post) (h1 : Cond.methodLink own idx yX0_isFor ∈ wT) (hR1 : 0 + 1 ≤ R.frames) (hR2 : 8 + (2 + 11) + 0 ≤ R.locals) (hrest : (rest.map fun v => v.category).sum ≤ 8) (hdg : decode cc pc = .ok (.invokevirtual idx, 3)) (hf1 : cells + 0 ≤ R.cells) (hf2 : slots + 0 ≤ R.slots)
    (kk : ∀ (r : Int32) (S1 : St) (H1 : Heap) (locs1 : List Loc), post r S1 → WW G S1 s H1 locs1 → Ext S S1 → W p l e R s m args below meth c H1 locs1 (cells + 0) (slots + 0) Q (F0 m (pc + 3) ls (.int r :: rest))) : W p l e R s m args below meth c H locs cells slots Q (F0 m pc ls (.int p1 :: .ref a0 :: rest)) :=
  cl_i (rn_V (n := 1) (As := [.int p1]) (q := (RX0, TX0, 4)) F hw hl (m_X0_isFor l G j0 p1 S a0 hA0 post hQ) 0 (by decide) (by decide) hA0 rfl rfl h1 twi_yX0_isFor tws_yX0_isFor twn_RX0 two_yX0_isFor rfl rfl ⟨rfl, by decide, by decide, by decide +kernel⟩ rfl ⟨hR1, hR2⟩ rfl hrest hdg ⟨hf1, hf2⟩) hw kk
-- X0_addLot
def wp_X0_addLot (j0 : Nat) (p1 : Int32) (S0 : St) (post : St → Prop) : Prop :=
  (p1 < 0 →
  post S0) ∧
  (¬ p1 < 0 →
  ((60 : Int32) ≤ p1 →
  post S0) ∧
  (¬ (60 : Int32) ≤ p1 →
  ∀ S1 : St, S1 = sj S0 0 j0 3 ((gj S0 0 j0 3) ||| ((1 : Int64) <<< (p1.toInt64 &&& 63))) →
  post S1))
set_option maxRecDepth 100000 in
set_option maxHeartbeats 4000000 in
theorem m_X0_addLot (l : Launch) (G : GT) (j0 : Nat) (p1 : Int32) (S0 : St) (a0 : Nat) (hA0 : AtO S0 0 j0 a0) (post : St → Prop) (hQ : wp_X0_addLot j0 p1 S0 post) : Met l yX0_addLot (wM yX0_addLot cX0_addLot 2 none) ({ frames := 0, cells := 0, slots := 0, locals := 0 } : Room) (PC G S0 [.ref a0, .int p1]) (QV G S0 post) 0 0 (QA G) := by
  refine mt_start RX0 (by decide) rfl (Nat.le_of_ble_eq_true rfl) ?_
  intro p e s m args below meth c ls F hr hlk hnm hw hl
  have hx := F.1
  have hb := F.2.1
  have hown := F.2.2.2.1
  have hts := F.2.2.2.2
  have hX : Ext S0 S0 := Ext.rf
  have hsz0 := hw.1.1.1
  have hl : lv_has ls 2 [(0, .ref a0), (1, .int p1)] := hl
  unfold wp_X0_addLot at hQ
  refine lv_iload_n hx hb dX0_addLot_0 rfl (lv_at hl 1 rfl) ?_
  refine lv_if_lt (tgt := 22) hx hb dX0_addLot_1 (by decide) (fun hc => ?_) (fun hc => ?_)
  · have hQ := hQ.1 hc
    exact rt_v F hr hlk hw hX hQ (show 0 ≤ 0 from by omega) (show 0 ≤ 0 from by omega) dX0_addLot_22
  · have hQ := hQ.2 hc
    refine lv_iload_n hx hb dX0_addLot_4 rfl (lv_at hl 1 rfl) ?_
    refine lv_bipush (v := 60) hx hb dX0_addLot_5 (by decide) ?_
    refine lv_icmp_ge (tgt := 22) hx hb dX0_addLot_7 (by decide) (fun hc => ?_) (fun hc => ?_)
    · have hQ := hQ.1 hc
      exact rt_v F hr hlk hw hX hQ (show 0 ≤ 0 from by omega) (show 0 ≤ 0 from by omega) dX0_addLot_22
    · have hQ := hQ.2 hc
      refine lv_aload_n hx hb dX0_addLot_10 rfl (lv_at hl 0 rfl) ?_
      refine lv_dup hx hb dX0_addLot_11 rfl ?_
      refine g_0_3 F hw hA0 twf_RX0_22 dX0_addLot_12 ?_
      refine lv_lconst (v := 1) hx hb dX0_addLot_15 (by decide) ?_
      refine lv_iload_n hx hb dX0_addLot_16 rfl (lv_at hl 1 rfl) ?_
      refine lv_lshl hx hb dX0_addLot_17 rfl ?_
      refine lv_lor hx hb dX0_addLot_18 ?_
      refine p_0_3 F hw hA0 twf_RX0_22 dX0_addLot_19 (fun S1 H locs eS1 hw hx1 => ?_)
      have hQ := hQ S1 eS1
      have hX := hX.trans hx1
      have hA0 := hA0.ext hx1
      exact rt_v F hr hlk hw hX hQ (show 0 ≤ 0 from by omega) (show 0 ≤ 0 from by omega) dX0_addLot_22
theorem k_X0_addLot {p : Program} {l : Launch} {e : Env} {R : Room} {s : State} {m : MethodId} {args : Array Value} {below : List Frame} {meth : Method} {c : Code} {H : Heap} {locs : List Loc} {cells slots : Nat} {Q : State → Prop} {cc : ByteArray} {pc nL : Nat} {ls : Array Slot} {rest : List Value} {G : GT} {S : St} {own : String} {j0 : Nat} {p1 : Int32} {post : St → Prop} {lv : List (Nat × Value)} {idx : Nat} (F : CX p m c cc nL s args own) (hw : WW G S s H locs) (hl : lv_has ls nL lv) {a0 : Nat} (hA0 : AtO S 0 j0 a0) (hQ : wp_X0_addLot j0 p1 S post) (h1 : Cond.methodLink own idx yX0_addLot ∈ wT) (hR1 : 0 + 1 ≤ R.frames) (hR2 : 8 + (2 + 11) + 0 ≤ R.locals) (hrest : (rest.map fun v => v.category).sum ≤ 8) (hdg : decode cc pc = .ok (.invokevirtual idx, 3)) (hf1 : cells + 0 ≤ R.cells) (hf2 : slots + 0 ≤ R.slots)
    (kk : ∀ (S1 : St) (H1 : Heap) (locs1 : List Loc), post S1 → WW G S1 s H1 locs1 → Ext S S1 → W p l e R s m args below meth c H1 locs1 (cells + 0) (slots + 0) Q (F0 m (pc + 3) ls rest)) : W p l e R s m args below meth c H locs cells slots Q (F0 m pc ls (.int p1 :: .ref a0 :: rest)) :=
  cl_v (rn_V (n := 1) (As := [.int p1]) (q := (RX0, TX0, 4)) F hw hl (m_X0_addLot l G j0 p1 S a0 hA0 post hQ) 0 (by decide) (by decide) hA0 rfl rfl h1 twi_yX0_addLot tws_yX0_addLot twn_RX0 two_yX0_addLot rfl rfl ⟨rfl, by decide, by decide, by decide +kernel⟩ rfl ⟨hR1, hR2⟩ rfl hrest hdg ⟨hf1, hf2⟩) hw kk
-- X8_on
def wp_X8_on (p1 : Int32) (p2 : Int32) (S0 : St) (post : Int32 → St → Prop) : Prop :=
  wp_X8_bidAt p1 S0 (fun r2 S1 =>
  (r2 = none →
  wp_X8_lotAt p2 S1 (fun r5 S4 =>
  (r5 = none →
  post (0 : Int32) S4) ∧
  (∀ j6 : Nat, r5 = some j6 →
  post (0 : Int32) S4))) ∧
  (∀ j3 : Nat, r2 = some j3 →
  wp_X8_lotAt p2 S1 (fun r8 S7 =>
  (r8 = none →
  post (0 : Int32) S7) ∧
  (∀ j9 : Nat, r8 = some j9 →
  wp_X0_isFor j3 p2 S7 (fun r11 S10 =>
  (¬ r11 = 0 →
  post (0 : Int32) S10) ∧
  (r11 = 0 →
  ((gr S10 5 j9 4) = (some 0) →
  wp_X0_addLot j3 p2 S10 (fun S13 =>
  post (1 : Int32) S13)) ∧
  (¬ (gr S10 5 j9 4) = (some 0) →
  post (0 : Int32) S10)))))))
set_option maxRecDepth 100000 in
set_option maxHeartbeats 4000000 in
theorem m_X8_on (l : Launch) (G : GT) (p1 : Int32) (p2 : Int32) (S0 : St) (a0 : Nat) (hA0 : AtO S0 7 0 a0) (post : Int32 → St → Prop) (hQ : wp_X8_on p1 p2 S0 post) : Met l yX8_on (wM yX8_on cX8_on 5 (some (FieldType.boolean))) ({ frames := 1, cells := 0, slots := 0, locals := 21 } : Room) (PC G S0 [.ref a0, .int p1, .int p2]) (QI G S0 post) 0 0 (QA G) := by
  refine mt_start RX8 (by decide) rfl (Nat.le_of_ble_eq_true rfl) ?_
  intro p e s m args below meth c ls F hr hlk hnm hw hl
  have hx := F.1
  have hb := F.2.1
  have hown := F.2.2.2.1
  have hts := F.2.2.2.2
  have hX : Ext S0 S0 := Ext.rf
  have hsz0 := hw.1.1.1
  have hl : lv_has ls 5 [(0, .ref a0), (1, .int p1), (2, .int p2)] := hl
  unfold wp_X8_on at hQ
  refine lv_aload_n hx hb dX8_on_0 rfl (lv_at hl 0 rfl) ?_
  refine lv_iload_n hx hb dX8_on_1 rfl (lv_at hl 1 rfl) ?_
  refine k_X8_bidAt F hw hl hA0 hQ twm_RX8_255 (Nat.le_of_ble_eq_true rfl) (Nat.le_of_ble_eq_true rfl) (Nat.le_of_ble_eq_true rfl) dX8_on_2 (show 0 + 0 ≤ 0 from by omega) (show 0 + 0 ≤ 0 from by omega) (fun S1 H locs hQ hw hx1 => ?_) (fun j3 a3 S1 H locs hQ hA3 hw hx1 => ?_)
  · have hQ := hQ.1 rfl
    have hX := hX.trans hx1
    have hA0 := hA0.ext hx1
    refine lv_astore_nN (lv' := [(3, .null), (0, .ref a0), (1, .int p1), (2, .int p2)]) hx hb dX8_on_5 rfl hl (by decide) rfl (fun ls hl => ?_)
    refine lv_aload_n hx hb dX8_on_6 rfl (lv_at hl 1 rfl) ?_
    refine lv_iload_n hx hb dX8_on_7 rfl (lv_at hl 3 rfl) ?_
    refine k_X8_lotAt F hw hl hA0 hQ twm_RX8_69 (Nat.le_of_ble_eq_true rfl) (Nat.le_of_ble_eq_true rfl) (Nat.le_of_ble_eq_true rfl) dX8_on_8 (show (0 + 0) + 0 ≤ 0 from by omega) (show (0 + 0) + 0 ≤ 0 from by omega) (fun S4 H locs hQ hw hx1 => ?_) (fun j6 a6 S4 H locs hQ hA6 hw hx1 => ?_)
    · have hQ := hQ.1 rfl
      have hX := hX.trans hx1
      have hA0 := hA0.ext hx1
      refine lv_astoreN (lv' := [(4, .null), (3, .null), (0, .ref a0), (1, .int p1), (2, .int p2)]) hx hb dX8_on_11 hl (by decide) rfl (fun ls hl => ?_)
      refine lv_aload_nN hx hb dX8_on_13 rfl (lv_at hl 1 rfl) ?_
      refine lv_ifnullN (tgt := 41) hx hb dX8_on_14 (by decide) ?_
      refine lv_iconst (v := 0) hx hb dX8_on_41 (by decide) ?_
      exact rt_z F hr hlk hw hX hQ rfl (show ((0 + 0) + 0) ≤ 0 from by omega) (show ((0 + 0) + 0) ≤ 0 from by omega) dX8_on_42
    · have hQ := hQ.2 j6 rfl
      have hX := hX.trans hx1
      have hA0 := hA0.ext hx1
      refine lv_astore (lv' := [(4, .ref a6), (3, .null), (0, .ref a0), (1, .int p1), (2, .int p2)]) hx hb dX8_on_11 hl (by decide) rfl (fun ls hl => ?_)
      refine lv_aload_nN hx hb dX8_on_13 rfl (lv_at hl 1 rfl) ?_
      refine lv_ifnullN (tgt := 41) hx hb dX8_on_14 (by decide) ?_
      refine lv_iconst (v := 0) hx hb dX8_on_41 (by decide) ?_
      exact rt_z F hr hlk hw hX hQ rfl (show ((0 + 0) + 0) ≤ 0 from by omega) (show ((0 + 0) + 0) ≤ 0 from by omega) dX8_on_42
  · have hQ := hQ.2 j3 rfl
    have hX := hX.trans hx1
    have hA0 := hA0.ext hx1
    refine lv_astore_n (lv' := [(3, .ref a3), (0, .ref a0), (1, .int p1), (2, .int p2)]) hx hb dX8_on_5 rfl hl (by decide) rfl (fun ls hl => ?_)
    refine lv_aload_n hx hb dX8_on_6 rfl (lv_at hl 1 rfl) ?_
    refine lv_iload_n hx hb dX8_on_7 rfl (lv_at hl 3 rfl) ?_
    refine k_X8_lotAt F hw hl hA0 hQ twm_RX8_69 (Nat.le_of_ble_eq_true rfl) (Nat.le_of_ble_eq_true rfl) (Nat.le_of_ble_eq_true rfl) dX8_on_8 (show (0 + 0) + 0 ≤ 0 from by omega) (show (0 + 0) + 0 ≤ 0 from by omega) (fun S7 H locs hQ hw hx1 => ?_) (fun j9 a9 S7 H locs hQ hA9 hw hx1 => ?_)
    · have hQ := hQ.1 rfl
      have hX := hX.trans hx1
      have hA3 := hA3.ext hx1
      have hA0 := hA0.ext hx1
      refine lv_astoreN (lv' := [(4, .null), (3, .ref a3), (0, .ref a0), (1, .int p1), (2, .int p2)]) hx hb dX8_on_11 hl (by decide) rfl (fun ls hl => ?_)
      refine lv_aload_n hx hb dX8_on_13 rfl (lv_at hl 1 rfl) ?_
      refine lv_ifnull hx hb dX8_on_14 ?_
      refine lv_aloadN hx hb dX8_on_17 (lv_at hl 0 rfl) ?_
      refine lv_ifnullN (tgt := 41) hx hb dX8_on_19 (by decide) ?_
      refine lv_iconst (v := 0) hx hb dX8_on_41 (by decide) ?_
      exact rt_z F hr hlk hw hX hQ rfl (show ((0 + 0) + 0) ≤ 0 from by omega) (show ((0 + 0) + 0) ≤ 0 from by omega) dX8_on_42
    · have hQ := hQ.2 j9 rfl
      have hX := hX.trans hx1
      have hA3 := hA3.ext hx1
      have hA0 := hA0.ext hx1
      refine lv_astore (lv' := [(4, .ref a9), (3, .ref a3), (0, .ref a0), (1, .int p1), (2, .int p2)]) hx hb dX8_on_11 hl (by decide) rfl (fun ls hl => ?_)
      refine lv_aload_n hx hb dX8_on_13 rfl (lv_at hl 1 rfl) ?_
      refine lv_ifnull hx hb dX8_on_14 ?_
      refine lv_aload hx hb dX8_on_17 (lv_at hl 0 rfl) ?_
      refine lv_ifnull hx hb dX8_on_19 ?_
      refine lv_aload_n hx hb dX8_on_22 rfl (lv_at hl 1 rfl) ?_
      refine lv_iload_n hx hb dX8_on_23 rfl (lv_at hl 4 rfl) ?_
      refine k_X0_isFor F hw hl hA3 hQ twm_RX8_259 (Nat.le_of_ble_eq_true rfl) (Nat.le_of_ble_eq_true rfl) (Nat.le_of_ble_eq_true rfl) dX8_on_24 (show ((0 + 0) + 0) + 0 ≤ 0 from by omega) (show ((0 + 0) + 0) + 0 ≤ 0 from by omega) (fun r11 S10 H locs hQ hw hx1 => ?_)
      have hX := hX.trans hx1
      have hA9 := hA9.ext hx1
      have hA3 := hA3.ext hx1
      have hA0 := hA0.ext hx1
      refine lv_if_ne (tgt := 41) hx hb dX8_on_27 (by decide) (fun hc => ?_) (fun hc => ?_)
      · have hQ := hQ.1 hc
        refine lv_iconst (v := 0) hx hb dX8_on_41 (by decide) ?_
        exact rt_z F hr hlk hw hX hQ rfl (show (((0 + 0) + 0) + 0) ≤ 0 from by omega) (show (((0 + 0) + 0) + 0) ≤ 0 from by omega) dX8_on_42
      · have hQ := hQ.2 hc
        refine lv_aload hx hb dX8_on_30 (lv_at hl 0 rfl) ?_
        have he12 := ww_es hw j9
        refine g_5_4 F hw hA9 twf_RX8_100 dX8_on_32 ?_
        refine pw_gets F hw 0 (by decide) rfl twf_RX8_155 dX8_on_35 ?_
        refine pw_acmp_eq (tgt := 43) F hw (by decide) he12 dX8_on_38 (by decide) (fun hc => ?_) (fun hc => ?_)
        · have hQ := hQ.1 hc
          refine lv_aload_n hx hb dX8_on_43 rfl (lv_at hl 1 rfl) ?_
          refine lv_iload_n hx hb dX8_on_44 rfl (lv_at hl 4 rfl) ?_
          refine k_X0_addLot F hw hl hA3 hQ twm_RX8_262 (Nat.le_of_ble_eq_true rfl) (Nat.le_of_ble_eq_true rfl) (Nat.le_of_ble_eq_true rfl) dX8_on_45 (show (((0 + 0) + 0) + 0) + 0 ≤ 0 from by omega) (show (((0 + 0) + 0) + 0) + 0 ≤ 0 from by omega) (fun S13 H locs hQ hw hx1 => ?_)
          have hX := hX.trans hx1
          have hA9 := hA9.ext hx1
          have hA3 := hA3.ext hx1
          have hA0 := hA0.ext hx1
          refine lv_iconst (v := 1) hx hb dX8_on_48 (by decide) ?_
          exact rt_z F hr hlk hw hX hQ rfl (show ((((0 + 0) + 0) + 0) + 0) ≤ 0 from by omega) (show ((((0 + 0) + 0) + 0) + 0) ≤ 0 from by omega) dX8_on_49
        · have hQ := hQ.2 hc
          refine lv_iconst (v := 0) hx hb dX8_on_41 (by decide) ?_
          exact rt_z F hr hlk hw hX hQ rfl (show (((0 + 0) + 0) + 0) ≤ 0 from by omega) (show (((0 + 0) + 0) + 0) ≤ 0 from by omega) dX8_on_42
theorem k_X8_on {p : Program} {l : Launch} {e : Env} {R : Room} {s : State} {m : MethodId} {args : Array Value} {below : List Frame} {meth : Method} {c : Code} {H : Heap} {locs : List Loc} {cells slots : Nat} {Q : State → Prop} {cc : ByteArray} {pc nL : Nat} {ls : Array Slot} {rest : List Value} {G : GT} {S : St} {own : String} {p1 : Int32} {p2 : Int32} {post : Int32 → St → Prop} {lv : List (Nat × Value)} {idx : Nat} (F : CX p m c cc nL s args own) (hw : WW G S s H locs) (hl : lv_has ls nL lv) {a0 : Nat} (hA0 : AtO S 7 0 a0) (hQ : wp_X8_on p1 p2 S post) (h1 : Cond.methodLink own idx yX8_on ∈ wT) (hR1 : 1 + 1 ≤ R.frames) (hR2 : 8 + (5 + 11) + 21 ≤ R.locals) (hrest : (rest.map fun v => v.category).sum ≤ 8) (hdg : decode cc pc = .ok (.invokevirtual idx, 3)) (hf1 : cells + 0 ≤ R.cells) (hf2 : slots + 0 ≤ R.slots)
    (kk : ∀ (r : Int32) (S1 : St) (H1 : Heap) (locs1 : List Loc), post r S1 → WW G S1 s H1 locs1 → Ext S S1 → W p l e R s m args below meth c H1 locs1 (cells + 0) (slots + 0) Q (F0 m (pc + 3) ls (.int r :: rest))) : W p l e R s m args below meth c H locs cells slots Q (F0 m pc ls (.int p2 :: .int p1 :: .ref a0 :: rest)) :=
  cl_i (rn_V (n := 2) (As := [.int p1, .int p2]) (q := (RX8, TX8, 11)) F hw hl (m_X8_on l G p1 p2 S a0 hA0 post hQ) 7 (by decide) (by decide) hA0 rfl rfl h1 twi_yX8_on tws_yX8_on twn_RX8 two_yX8_on rfl rfl ⟨rfl, by decide, by decide, by decide +kernel⟩ rfl ⟨hR1, hR2⟩ rfl hrest hdg ⟨hf1, hf2⟩) hw kk
-- X6_clear
def wp_X6_clear  (S0 : St) (post : St → Prop) : Prop :=
  ∀ S1 : St, S1 = si S0 6 0 3 (0 : Int32) →
  ∀ S2 : St, S2 = si S1 6 0 4 (0 : Int32) →
  ∀ S3 : St, S3 = sj S2 6 0 5 (0 : Int64) →
  post S3
set_option maxRecDepth 100000 in
set_option maxHeartbeats 4000000 in
theorem m_X6_clear (l : Launch) (G : GT)  (S0 : St) (a0 : Nat) (hA0 : AtO S0 6 0 a0) (post : St → Prop) (hQ : wp_X6_clear S0 post) : Met l yX6_clear (wM yX6_clear cX6_clear 1 none) ({ frames := 0, cells := 0, slots := 0, locals := 0 } : Room) (PC G S0 [.ref a0]) (QV G S0 post) 0 0 (QA G) := by
  refine mt_start RX6 (by decide) rfl (Nat.le_of_ble_eq_true rfl) ?_
  intro p e s m args below meth c ls F hr hlk hnm hw hl
  have hx := F.1
  have hb := F.2.1
  have hown := F.2.2.2.1
  have hts := F.2.2.2.2
  have hX : Ext S0 S0 := Ext.rf
  have hsz0 := hw.1.1.1
  have hl : lv_has ls 1 [(0, .ref a0)] := hl
  unfold wp_X6_clear at hQ
  refine lv_aload_n hx hb dX6_clear_0 rfl (lv_at hl 0 rfl) ?_
  refine lv_iconst (v := 0) hx hb dX6_clear_1 (by decide) ?_
  refine p_6_3 F hw hA0 twf_RX6_24 dX6_clear_2 (fun S1 H locs eS1 hw hx1 => ?_)
  have hQ := hQ S1 eS1
  have hX := hX.trans hx1
  have hA0 := hA0.ext hx1
  refine lv_aload_n hx hb dX6_clear_5 rfl (lv_at hl 0 rfl) ?_
  refine lv_iconst (v := 0) hx hb dX6_clear_6 (by decide) ?_
  refine p_6_4 F hw hA0 twf_RX6_28 dX6_clear_7 (fun S2 H locs eS2 hw hx1 => ?_)
  have hQ := hQ S2 eS2
  have hX := hX.trans hx1
  have hA0 := hA0.ext hx1
  refine lv_aload_n hx hb dX6_clear_10 rfl (lv_at hl 0 rfl) ?_
  refine lv_lconst (v := 0) hx hb dX6_clear_11 (by decide) ?_
  refine p_6_5 F hw hA0 twf_RX6_31 dX6_clear_12 (fun S3 H locs eS3 hw hx1 => ?_)
  have hQ := hQ S3 eS3
  have hX := hX.trans hx1
  have hA0 := hA0.ext hx1
  exact rt_v F hr hlk hw hX hQ (show 0 ≤ 0 from by omega) (show 0 ≤ 0 from by omega) dX6_clear_15
theorem k_X6_clear {p : Program} {l : Launch} {e : Env} {R : Room} {s : State} {m : MethodId} {args : Array Value} {below : List Frame} {meth : Method} {c : Code} {H : Heap} {locs : List Loc} {cells slots : Nat} {Q : State → Prop} {cc : ByteArray} {pc nL : Nat} {ls : Array Slot} {rest : List Value} {G : GT} {S : St} {own : String}  {post : St → Prop} {lv : List (Nat × Value)} {idx : Nat} (F : CX p m c cc nL s args own) (hw : WW G S s H locs) (hl : lv_has ls nL lv) {a0 : Nat} (hA0 : AtO S 6 0 a0) (hQ : wp_X6_clear S post) (h1 : Cond.methodLink own idx yX6_clear ∈ wT) (hR1 : 0 + 1 ≤ R.frames) (hR2 : 8 + (1 + 11) + 0 ≤ R.locals) (hrest : (rest.map fun v => v.category).sum ≤ 8) (hdg : decode cc pc = .ok (.invokevirtual idx, 3)) (hf1 : cells + 0 ≤ R.cells) (hf2 : slots + 0 ≤ R.slots)
    (kk : ∀ (S1 : St) (H1 : Heap) (locs1 : List Loc), post S1 → WW G S1 s H1 locs1 → Ext S S1 → W p l e R s m args below meth c H1 locs1 (cells + 0) (slots + 0) Q (F0 m (pc + 3) ls rest)) : W p l e R s m args below meth c H locs cells slots Q (F0 m pc ls (.ref a0 :: rest)) :=
  cl_v (rn_V (n := 0) (As := []) (q := (RX6, TX6, 6)) F hw hl (m_X6_clear l G  S a0 hA0 post hQ) 6 (by decide) (by decide) hA0 rfl rfl h1 twi_yX6_clear tws_yX6_clear twn_RX6 two_yX6_clear rfl rfl ⟨rfl, by decide, by decide, by decide +kernel⟩ rfl ⟨hR1, hR2⟩ rfl hrest hdg ⟨hf1, hf2⟩) hw kk
-- X6_setPurse
def wp_X6_setPurse (p1 : Int32) (p2 : Int64) (S0 : St) (post : St → Prop) : Prop :=
  (p1 < 0 →
  post S0) ∧
  (¬ p1 < 0 →
  ((30 : Int32) ≤ p1 →
  post S0) ∧
  (¬ (30 : Int32) ≤ p1 →
  vp_in p1 30 ∧
  ∀ S3 : St, S3 = sj S0 16 0 p1.toNatClampNeg p2 →
  post S3))
set_option maxRecDepth 100000 in
set_option maxHeartbeats 4000000 in
theorem m_X6_setPurse (l : Launch) (G : GT) (p1 : Int32) (p2 : Int64) (S0 : St) (a0 : Nat) (hA0 : AtO S0 6 0 a0) (post : St → Prop) (hQ : wp_X6_setPurse p1 p2 S0 post) : Met l yX6_setPurse (wM yX6_setPurse cX6_setPurse 4 none) ({ frames := 0, cells := 0, slots := 0, locals := 0 } : Room) (PC G S0 [.ref a0, .int p1, .long p2]) (QV G S0 post) 0 0 (QA G) := by
  refine mt_start RX6 (by decide) rfl (Nat.le_of_ble_eq_true rfl) ?_
  intro p e s m args below meth c ls F hr hlk hnm hw hl
  have hx := F.1
  have hb := F.2.1
  have hown := F.2.2.2.1
  have hts := F.2.2.2.2
  have hX : Ext S0 S0 := Ext.rf
  have hsz0 := hw.1.1.1
  have hl : lv_has ls 4 [(0, .ref a0), (1, .int p1), (2, .long p2)] := hl
  unfold wp_X6_setPurse at hQ
  refine lv_iload_n hx hb dX6_setPurse_0 rfl (lv_at hl 1 rfl) ?_
  refine lv_if_lt (tgt := 20) hx hb dX6_setPurse_1 (by decide) (fun hc => ?_) (fun hc => ?_)
  · have hQ := hQ.1 hc
    exact rt_v F hr hlk hw hX hQ (show 0 ≤ 0 from by omega) (show 0 ≤ 0 from by omega) dX6_setPurse_20
  · have hQ := hQ.2 hc
    refine lv_iload_n hx hb dX6_setPurse_4 rfl (lv_at hl 1 rfl) ?_
    refine lv_aload_n hx hb dX6_setPurse_5 rfl (lv_at hl 0 rfl) ?_
    refine g_6_2 F hw hA0 twf_RX6_21 dX6_setPurse_6 (fun a1 hA1 => ?_)
    refine ln_16 F hw hA1 dX6_setPurse_9 ?_
    refine lv_icmp_ge (tgt := 20) hx hb dX6_setPurse_10 (by decide) (fun hc => ?_) (fun hc => ?_)
    · have hQ := hQ.1 hc
      exact rt_v F hr hlk hw hX hQ (show 0 ≤ 0 from by omega) (show 0 ≤ 0 from by omega) dX6_setPurse_20
    · have hQ := hQ.2 hc
      refine lv_aload_n hx hb dX6_setPurse_13 rfl (lv_at hl 0 rfl) ?_
      refine g_6_2 F hw hA0 twf_RX6_21 dX6_setPurse_14 (fun a2 hA2 => ?_)
      refine lv_iload_n hx hb dX6_setPurse_17 rfl (lv_at hl 1 rfl) ?_
      refine lv_lload_n hx hb dX6_setPurse_18 rfl (lv_at hl 2 rfl) ?_
      obtain ⟨hin, hQ⟩ := hQ
      refine as_16 F hw hA2 hin dX6_setPurse_19 (fun S3 H locs eS3 hw hx1 => ?_)
      have hQ := hQ S3 eS3
      have hX := hX.trans hx1
      have hA0 := hA0.ext hx1
      exact rt_v F hr hlk hw hX hQ (show 0 ≤ 0 from by omega) (show 0 ≤ 0 from by omega) dX6_setPurse_20
theorem k_X6_setPurse {p : Program} {l : Launch} {e : Env} {R : Room} {s : State} {m : MethodId} {args : Array Value} {below : List Frame} {meth : Method} {c : Code} {H : Heap} {locs : List Loc} {cells slots : Nat} {Q : State → Prop} {cc : ByteArray} {pc nL : Nat} {ls : Array Slot} {rest : List Value} {G : GT} {S : St} {own : String} {p1 : Int32} {p2 : Int64} {post : St → Prop} {lv : List (Nat × Value)} {idx : Nat} (F : CX p m c cc nL s args own) (hw : WW G S s H locs) (hl : lv_has ls nL lv) {a0 : Nat} (hA0 : AtO S 6 0 a0) (hQ : wp_X6_setPurse p1 p2 S post) (h1 : Cond.methodLink own idx yX6_setPurse ∈ wT) (hR1 : 0 + 1 ≤ R.frames) (hR2 : 8 + (4 + 11) + 0 ≤ R.locals) (hrest : (rest.map fun v => v.category).sum ≤ 8) (hdg : decode cc pc = .ok (.invokevirtual idx, 3)) (hf1 : cells + 0 ≤ R.cells) (hf2 : slots + 0 ≤ R.slots)
    (kk : ∀ (S1 : St) (H1 : Heap) (locs1 : List Loc), post S1 → WW G S1 s H1 locs1 → Ext S S1 → W p l e R s m args below meth c H1 locs1 (cells + 0) (slots + 0) Q (F0 m (pc + 3) ls rest)) : W p l e R s m args below meth c H locs cells slots Q (F0 m pc ls (.long p2 :: .int p1 :: .ref a0 :: rest)) :=
  cl_v (rn_V (n := 2) (As := [.int p1, .long p2]) (q := (RX6, TX6, 6)) F hw hl (m_X6_setPurse l G p1 p2 S a0 hA0 post hQ) 6 (by decide) (by decide) hA0 rfl rfl h1 twi_yX6_setPurse tws_yX6_setPurse twn_RX6 two_yX6_setPurse rfl rfl ⟨rfl, by decide, by decide, by decide +kernel⟩ rfl ⟨hR1, hR2⟩ rfl hrest hdg ⟨hf1, hf2⟩) hw kk
-- X8_isGood
def bd_X8_isGood_5 (jp1 : Nat) (post : Int32 → St → Prop) (K5 : Int32 → Int64 → St → Prop) (x4_5 : Int32) (x2_5 : Int64) (S1 : St) : Prop :=
  ((gi S1 7 0 6) ≤ x4_5 →
  ((gj S1 0 jp1 3) = (0 : Int64) →
  post (0 : Int32) S1) ∧
  (¬ (gj S1 0 jp1 3) = (0 : Int64) →
  ((gj S1 0 jp1 2) < x2_5 →
  post (0 : Int32) S1) ∧
  (¬ (gj S1 0 jp1 2) < x2_5 →
  post (1 : Int32) S1))) ∧
  (¬ (gi S1 7 0 6) ≤ x4_5 →
  wp_X8_lotAt x4_5 S1 (fun r3 S2 =>
  (r3 = none →
  ∀ v5 : Int32, v5 = x4_5 + (1 : Int32) →
  K5 v5 x2_5 S2) ∧
  (∀ j4 : Nat, r3 = some j4 →
  wp_X0_isFor jp1 x4_5 S2 (fun r7 S6 =>
  (r7 = 0 →
  ∀ v8 : Int32, v8 = x4_5 + (1 : Int32) →
  K5 v8 x2_5 S6) ∧
  (¬ r7 = 0 →
  ((gr S6 5 j4 4) = (some 0) →
  ∀ v10 : Int64, v10 = x2_5 + (gj S6 5 j4 3) →
  ∀ v11 : Int32, v11 = x4_5 + (1 : Int32) →
  K5 v11 v10 S6) ∧
  (¬ (gr S6 5 j4 4) = (some 0) →
  post (0 : Int32) S6))))))
def lp_X8_isGood_5 (jp1 : Nat) (post : Int32 → St → Prop) : Nat → Int32 → Int64 → St → Prop
  | 0, _, _, _ => False
  | n + 1, x4_5, x2_5, S1 => bd_X8_isGood_5 jp1 post (fun x4_5 x2_5 S1 => lp_X8_isGood_5 jp1 post n x4_5 x2_5 S1) x4_5 x2_5 S1
def wp_X8_isGood (jp1 : Nat) (S0 : St) (post : Int32 → St → Prop) : Prop :=
  ∃ n : Nat, lp_X8_isGood_5 jp1 post n (0 : Int32) (0 : Int64) S0
set_option maxRecDepth 100000 in
set_option maxHeartbeats 4000000 in
theorem m_X8_isGood (l : Launch) (G : GT) (jp1 : Nat) (S0 : St) (a0 : Nat) (hA0 : AtO S0 7 0 a0) (ap1 : Nat) (hAp1 : AtO S0 0 jp1 ap1) (post : Int32 → St → Prop) (hQ : wp_X8_isGood jp1 S0 post) : Met l yX8_isGood (wM yX8_isGood cX8_isGood 6 (some (FieldType.boolean))) ({ frames := 1, cells := 0, slots := 0, locals := 21 } : Room) (PC G S0 [.ref a0, .ref ap1]) (QI G S0 post) 0 0 (QA G) := by
  refine mt_start RX8 (by decide) rfl (Nat.le_of_ble_eq_true rfl) ?_
  intro p e s m args below meth c ls F hr hlk hnm hw hl
  have hx := F.1
  have hb := F.2.1
  have hown := F.2.2.2.1
  have hts := F.2.2.2.2
  have hX : Ext S0 S0 := Ext.rf
  have hsz0 := hw.1.1.1
  have hl : lv_has ls 6 [(0, .ref a0), (1, .ref ap1)] := hl
  unfold wp_X8_isGood at hQ
  refine lv_lconst (v := 0) hx hb dX8_isGood_0 (by decide) ?_
  refine lv_lstore_n (lv' := [(2, .long (0 : Int64)), (0, .ref a0), (1, .ref ap1)]) hx hb dX8_isGood_1 rfl hl (by decide) rfl (fun ls hl => ?_)
  refine lv_iconst (v := 0) hx hb dX8_isGood_2 (by decide) ?_
  refine lv_istore (lv' := [(4, .int (0 : Int32)), (2, .long (0 : Int64)), (0, .ref a0), (1, .ref ap1)]) hx hb dX8_isGood_3 hl (by decide) rfl (fun ls hl => ?_)
  have hloop5 : ∀ (n5 : Nat) (x4_5 : Int32) (x2_5 : Int64) (S1 : St) (H : Heap) (locs : List Loc) (ls : Array Slot) (cl5 sl5 : Nat), lp_X8_isGood_5 jp1 post n5 x4_5 x2_5 S1 → WW G S1 s H locs → Ext S0 S1 → AtO S1 7 0 a0 → AtO S1 0 jp1 ap1 → lv_has ls 6 [(4, .int x4_5), (2, .long x2_5), (0, .ref a0), (1, .ref ap1)] → cl5 ≤ 0 + 0 → sl5 ≤ 0 + 0 → W p l e ({ frames := 1, cells := 0, slots := 0, locals := 21 } : Room) s m args below meth c H locs cl5 sl5 (MQ below (QI G S0 post) args s 0 0 (QA G)) (F0 m 5 ls []) := by
    intro n5
    induction n5 with
    | zero => intro x4_5 x2_5 S1 H locs ls cl sl hQ; exact False.elim hQ
    | succ n5 ih5 =>
      intro x4_5 x2_5 S1 H locs ls cl5 sl5 hQ hw hX hA0 hAp1 hl hcl5 hsl5
      have hQ : bd_X8_isGood_5 jp1 post (fun x4_5 x2_5 S1 => lp_X8_isGood_5 jp1 post n5 x4_5 x2_5 S1) x4_5 x2_5 S1 := hQ
      unfold bd_X8_isGood_5 at hQ
      refine lv_iload hx hb dX8_isGood_5 (lv_at hl 0 rfl) ?_
      refine lv_aload_n hx hb dX8_isGood_7 rfl (lv_at hl 2 rfl) ?_
      refine g_7_6 F hw hA0 twf_RX8_115 dX8_isGood_8 ?_
      refine lv_icmp_ge (tgt := 63) hx hb dX8_isGood_11 (by decide) (fun hc => ?_) (fun hc => ?_)
      · have hQ := hQ.1 hc
        refine lv_aload_n hx hb dX8_isGood_63 rfl (lv_at hl 3 rfl) ?_
        refine g_0_3 F hw hAp1 twf_RX8_414 dX8_isGood_64 ?_
        refine lv_lconst (v := 0) hx hb dX8_isGood_67 (by decide) ?_
        refine lc_eq (tgt := 85) F dX8_isGood_68 dX8_isGood_69 (by decide) (fun hc => ?_) (fun hc => ?_)
        · have hQ := hQ.1 hc
          refine lv_iconst (v := 0) hx hb dX8_isGood_85 (by decide) ?_
          exact rt_z F hr hlk hw hX hQ rfl (show cl5 ≤ 0 from by omega) (show sl5 ≤ 0 from by omega) dX8_isGood_86
        · have hQ := hQ.2 hc
          refine lv_aload_n hx hb dX8_isGood_72 rfl (lv_at hl 3 rfl) ?_
          refine g_0_2 F hw hAp1 twf_RX8_417 dX8_isGood_73 ?_
          refine lv_lload_n hx hb dX8_isGood_76 rfl (lv_at hl 1 rfl) ?_
          refine lc_lt (tgt := 85) F dX8_isGood_77 dX8_isGood_78 (by decide) (fun hc => ?_) (fun hc => ?_)
          · have hQ := hQ.1 hc
            refine lv_iconst (v := 0) hx hb dX8_isGood_85 (by decide) ?_
            exact rt_z F hr hlk hw hX hQ rfl (show cl5 ≤ 0 from by omega) (show sl5 ≤ 0 from by omega) dX8_isGood_86
          · have hQ := hQ.2 hc
            refine lv_iconst (v := 1) hx hb dX8_isGood_81 (by decide) ?_
            refine lv_goto (tgt := 86) hx hb dX8_isGood_82 (by decide) ?_
            exact rt_z F hr hlk hw hX hQ rfl (show cl5 ≤ 0 from by omega) (show sl5 ≤ 0 from by omega) dX8_isGood_86
      · have hQ := hQ.2 hc
        refine lv_aload_n hx hb dX8_isGood_14 rfl (lv_at hl 2 rfl) ?_
        refine lv_iload hx hb dX8_isGood_15 (lv_at hl 0 rfl) ?_
        refine k_X8_lotAt F hw hl hA0 hQ twm_RX8_69 (Nat.le_of_ble_eq_true rfl) (Nat.le_of_ble_eq_true rfl) (Nat.le_of_ble_eq_true rfl) dX8_isGood_17 (show cl5 + 0 ≤ 0 from by omega) (show sl5 + 0 ≤ 0 from by omega) (fun S2 H locs hQ hw hx1 => ?_) (fun j4 a4 S2 H locs hQ hA4 hw hx1 => ?_)
        · have hQ := hQ.1 rfl
          have hX := hX.trans hx1
          have hA0 := hA0.ext hx1
          have hAp1 := hAp1.ext hx1
          refine lv_astoreN (lv' := [(5, .null), (4, .int x4_5), (2, .long x2_5), (0, .ref a0), (1, .ref ap1)]) hx hb dX8_isGood_20 hl (by decide) rfl (fun ls hl => ?_)
          refine lv_aloadN hx hb dX8_isGood_22 (lv_at hl 0 rfl) ?_
          refine lv_ifnullN (tgt := 57) hx hb dX8_isGood_24 (by decide) ?_
          obtain ⟨v5, ev5⟩ : ∃ y : Int32, y = x4_5 + (1 : Int32) := ⟨_, rfl⟩
          have hQ := hQ v5 ev5
          refine lv_iinc (v := v5) (lv' := [(4, .int v5), (5, .null), (2, .long x2_5), (0, .ref a0), (1, .ref ap1)]) hx hb dX8_isGood_57 hl (k := 1) rfl (by rw [ev5]; rfl) (by decide) rfl (fun ls hl => ?_)
          refine lv_goto (tgt := 5) hx hb dX8_isGood_60 (by decide) ?_
          exact ih5 v5 x2_5 S2 _ _ _ _ _ hQ hw hX hA0 hAp1 (lv_sub hl [0, 2, 3, 4] rfl) (by omega) (by omega)
        · have hQ := hQ.2 j4 rfl
          have hX := hX.trans hx1
          have hA0 := hA0.ext hx1
          have hAp1 := hAp1.ext hx1
          refine lv_astore (lv' := [(5, .ref a4), (4, .int x4_5), (2, .long x2_5), (0, .ref a0), (1, .ref ap1)]) hx hb dX8_isGood_20 hl (by decide) rfl (fun ls hl => ?_)
          refine lv_aload hx hb dX8_isGood_22 (lv_at hl 0 rfl) ?_
          refine lv_ifnull hx hb dX8_isGood_24 ?_
          refine lv_aload_n hx hb dX8_isGood_27 rfl (lv_at hl 4 rfl) ?_
          refine lv_iload hx hb dX8_isGood_28 (lv_at hl 1 rfl) ?_
          refine k_X0_isFor F hw hl hAp1 hQ twm_RX8_259 (Nat.le_of_ble_eq_true rfl) (Nat.le_of_ble_eq_true rfl) (Nat.le_of_ble_eq_true rfl) dX8_isGood_30 (show (cl5 + 0) + 0 ≤ 0 from by omega) (show (sl5 + 0) + 0 ≤ 0 from by omega) (fun r7 S6 H locs hQ hw hx1 => ?_)
          have hX := hX.trans hx1
          have hA4 := hA4.ext hx1
          have hA0 := hA0.ext hx1
          have hAp1 := hAp1.ext hx1
          refine lv_if_eq (tgt := 57) hx hb dX8_isGood_33 (by decide) (fun hc => ?_) (fun hc => ?_)
          · have hQ := hQ.1 hc
            obtain ⟨v8, ev8⟩ : ∃ y : Int32, y = x4_5 + (1 : Int32) := ⟨_, rfl⟩
            have hQ := hQ v8 ev8
            refine lv_iinc (v := v8) (lv' := [(4, .int v8), (5, .ref a4), (2, .long x2_5), (0, .ref a0), (1, .ref ap1)]) hx hb dX8_isGood_57 hl (k := 1) rfl (by rw [ev8]; rfl) (by decide) rfl (fun ls hl => ?_)
            refine lv_goto (tgt := 5) hx hb dX8_isGood_60 (by decide) ?_
            exact ih5 v8 x2_5 S6 _ _ _ _ _ hQ hw hX hA0 hAp1 (lv_sub hl [0, 2, 3, 4] rfl) (by omega) (by omega)
          · have hQ := hQ.2 hc
            refine lv_aload hx hb dX8_isGood_36 (lv_at hl 0 rfl) ?_
            have he9 := ww_es hw j4
            refine g_5_4 F hw hA4 twf_RX8_100 dX8_isGood_38 ?_
            refine pw_gets F hw 0 (by decide) rfl twf_RX8_155 dX8_isGood_41 ?_
            refine pw_acmp_eq (tgt := 49) F hw (by decide) he9 dX8_isGood_44 (by decide) (fun hc => ?_) (fun hc => ?_)
            · have hQ := hQ.1 hc
              refine lv_lload_n hx hb dX8_isGood_49 rfl (lv_at hl 2 rfl) ?_
              refine lv_aload hx hb dX8_isGood_50 (lv_at hl 0 rfl) ?_
              refine g_5_3 F hw hA4 twf_RX8_144 dX8_isGood_52 ?_
              refine lv_ladd hx hb dX8_isGood_55 ?_
              refine lv_topl (fun v10 ev10 => ?_)
              have hQ := hQ v10 ev10
              refine lv_lstore_n (lv' := [(2, .long v10), (5, .ref a4), (4, .int x4_5), (0, .ref a0), (1, .ref ap1)]) hx hb dX8_isGood_56 rfl hl (by decide) rfl (fun ls hl => ?_)
              obtain ⟨v11, ev11⟩ : ∃ y : Int32, y = x4_5 + (1 : Int32) := ⟨_, rfl⟩
              have hQ := hQ v11 ev11
              refine lv_iinc (v := v11) (lv' := [(4, .int v11), (2, .long v10), (5, .ref a4), (0, .ref a0), (1, .ref ap1)]) hx hb dX8_isGood_57 hl (k := 2) rfl (by rw [ev11]; rfl) (by decide) rfl (fun ls hl => ?_)
              refine lv_goto (tgt := 5) hx hb dX8_isGood_60 (by decide) ?_
              exact ih5 v11 v10 S6 _ _ _ _ _ hQ hw hX hA0 hAp1 (lv_sub hl [0, 1, 3, 4] rfl) (by omega) (by omega)
            · have hQ := hQ.2 hc
              refine lv_iconst (v := 0) hx hb dX8_isGood_47 (by decide) ?_
              exact rt_z F hr hlk hw hX hQ rfl (show ((cl5 + 0) + 0) ≤ 0 from by omega) (show ((sl5 + 0) + 0) ≤ 0 from by omega) dX8_isGood_48
  obtain ⟨n, hQ⟩ := hQ
  exact hloop5 n (0 : Int32) (0 : Int64) S0 _ _ _ _ _ hQ hw hX hA0 hAp1 (lv_sub hl [0, 1, 2, 3] rfl) (by omega) (by omega)
theorem k_X8_isGood {p : Program} {l : Launch} {e : Env} {R : Room} {s : State} {m : MethodId} {args : Array Value} {below : List Frame} {meth : Method} {c : Code} {H : Heap} {locs : List Loc} {cells slots : Nat} {Q : State → Prop} {cc : ByteArray} {pc nL : Nat} {ls : Array Slot} {rest : List Value} {G : GT} {S : St} {own : String} {jp1 : Nat} {post : Int32 → St → Prop} {lv : List (Nat × Value)} {idx : Nat} (F : CX p m c cc nL s args own) (hw : WW G S s H locs) (hl : lv_has ls nL lv) {a0 : Nat} (hA0 : AtO S 7 0 a0) {ap1 : Nat} (hAp1 : AtO S 0 jp1 ap1) (hQ : wp_X8_isGood jp1 S post) (h1 : Cond.methodLink own idx yX8_isGood ∈ wT) (hR1 : 1 + 1 ≤ R.frames) (hR2 : 8 + (6 + 11) + 21 ≤ R.locals) (hrest : (rest.map fun v => v.category).sum ≤ 8) (hdg : decode cc pc = .ok (.invokevirtual idx, 3)) (hf1 : cells + 0 ≤ R.cells) (hf2 : slots + 0 ≤ R.slots)
    (kk : ∀ (r : Int32) (S1 : St) (H1 : Heap) (locs1 : List Loc), post r S1 → WW G S1 s H1 locs1 → Ext S S1 → W p l e R s m args below meth c H1 locs1 (cells + 0) (slots + 0) Q (F0 m (pc + 3) ls (.int r :: rest))) : W p l e R s m args below meth c H locs cells slots Q (F0 m pc ls (.ref ap1 :: .ref a0 :: rest)) :=
  cl_i (rn_V (n := 1) (As := [.ref ap1]) (q := (RX8, TX8, 11)) F hw hl (m_X8_isGood l G jp1 S a0 hA0 ap1 hAp1 post hQ) 7 (by decide) (by decide) hA0 rfl rfl h1 twi_yX8_isGood tws_yX8_isGood twn_RX8 two_yX8_isGood rfl rfl ⟨rfl, by decide, by decide, by decide +kernel⟩ rfl ⟨hR1, hR2⟩ rfl hrest hdg ⟨hf1, hf2⟩) hw kk
-- X6_add
def wp_X6_add (jp1 : Nat) (S0 : St) (post : St → Prop) : Prop :=
  ((gi S0 6 0 3) < 0 →
  post S0) ∧
  (¬ (gi S0 6 0 3) < 0 →
  ((18 : Int32) ≤ (gi S0 6 0 3) →
  post S0) ∧
  (¬ (18 : Int32) ≤ (gi S0 6 0 3) →
  vp_in (gi S0 6 0 3) 18 ∧
  ∀ S3 : St, S3 = sr S0 14 0 (gi S0 6 0 3).toNatClampNeg (some jp1) →
  ∀ S4 : St, S4 = si S3 6 0 3 ((gi S3 6 0 3) + (1 : Int32)) →
  post S4))
set_option maxRecDepth 100000 in
set_option maxHeartbeats 4000000 in
theorem m_X6_add (l : Launch) (G : GT) (jp1 : Nat) (S0 : St) (a0 : Nat) (hA0 : AtO S0 6 0 a0) (ap1 : Nat) (hAp1 : AtO S0 0 jp1 ap1) (post : St → Prop) (hQ : wp_X6_add jp1 S0 post) : Met l yX6_add (wM yX6_add cX6_add 2 none) ({ frames := 0, cells := 0, slots := 0, locals := 0 } : Room) (PC G S0 [.ref a0, .ref ap1]) (QV G S0 post) 0 0 (QA G) := by
  refine mt_start RX6 (by decide) rfl (Nat.le_of_ble_eq_true rfl) ?_
  intro p e s m args below meth c ls F hr hlk hnm hw hl
  have hx := F.1
  have hb := F.2.1
  have hown := F.2.2.2.1
  have hts := F.2.2.2.2
  have hX : Ext S0 S0 := Ext.rf
  have hsz0 := hw.1.1.1
  have hl : lv_has ls 2 [(0, .ref a0), (1, .ref ap1)] := hl
  unfold wp_X6_add at hQ
  refine lv_aload_n hx hb dX6_add_0 rfl (lv_at hl 0 rfl) ?_
  refine g_6_3 F hw hA0 twf_RX6_24 dX6_add_1 ?_
  refine lv_if_lt (tgt := 39) hx hb dX6_add_4 (by decide) (fun hc => ?_) (fun hc => ?_)
  · have hQ := hQ.1 hc
    exact rt_v F hr hlk hw hX hQ (show 0 ≤ 0 from by omega) (show 0 ≤ 0 from by omega) dX6_add_39
  · have hQ := hQ.2 hc
    refine lv_aload_n hx hb dX6_add_7 rfl (lv_at hl 0 rfl) ?_
    refine g_6_3 F hw hA0 twf_RX6_24 dX6_add_8 ?_
    refine lv_aload_n hx hb dX6_add_11 rfl (lv_at hl 0 rfl) ?_
    refine g_6_0 F hw hA0 twf_RX6_11 dX6_add_12 (fun a1 hA1 => ?_)
    refine ln_14 F hw hA1 dX6_add_15 ?_
    refine lv_icmp_ge (tgt := 39) hx hb dX6_add_16 (by decide) (fun hc => ?_) (fun hc => ?_)
    · have hQ := hQ.1 hc
      exact rt_v F hr hlk hw hX hQ (show 0 ≤ 0 from by omega) (show 0 ≤ 0 from by omega) dX6_add_39
    · have hQ := hQ.2 hc
      refine lv_aload_n hx hb dX6_add_19 rfl (lv_at hl 0 rfl) ?_
      refine g_6_0 F hw hA0 twf_RX6_11 dX6_add_20 (fun a2 hA2 => ?_)
      refine lv_aload_n hx hb dX6_add_23 rfl (lv_at hl 0 rfl) ?_
      refine g_6_3 F hw hA0 twf_RX6_24 dX6_add_24 ?_
      refine lv_aload_n hx hb dX6_add_27 rfl (lv_at hl 1 rfl) ?_
      obtain ⟨hin, hQ⟩ := hQ
      refine as_14 F hw hA2 hAp1 hin dX6_add_28 (fun S3 H locs eS3 hw hx1 => ?_)
      have hQ := hQ S3 eS3
      have hX := hX.trans hx1
      have hA0 := hA0.ext hx1
      have hAp1 := hAp1.ext hx1
      refine lv_aload_n hx hb dX6_add_29 rfl (lv_at hl 0 rfl) ?_
      refine lv_dup hx hb dX6_add_30 rfl ?_
      refine g_6_3 F hw hA0 twf_RX6_24 dX6_add_31 ?_
      refine lv_iconst (v := 1) hx hb dX6_add_34 (by decide) ?_
      refine lv_iadd hx hb dX6_add_35 ?_
      refine p_6_3 F hw hA0 twf_RX6_24 dX6_add_36 (fun S4 H locs eS4 hw hx1 => ?_)
      have hQ := hQ S4 eS4
      have hX := hX.trans hx1
      have hA0 := hA0.ext hx1
      have hAp1 := hAp1.ext hx1
      exact rt_v F hr hlk hw hX hQ (show 0 ≤ 0 from by omega) (show 0 ≤ 0 from by omega) dX6_add_39
theorem k_X6_add {p : Program} {l : Launch} {e : Env} {R : Room} {s : State} {m : MethodId} {args : Array Value} {below : List Frame} {meth : Method} {c : Code} {H : Heap} {locs : List Loc} {cells slots : Nat} {Q : State → Prop} {cc : ByteArray} {pc nL : Nat} {ls : Array Slot} {rest : List Value} {G : GT} {S : St} {own : String} {jp1 : Nat} {post : St → Prop} {lv : List (Nat × Value)} {idx : Nat} (F : CX p m c cc nL s args own) (hw : WW G S s H locs) (hl : lv_has ls nL lv) {a0 : Nat} (hA0 : AtO S 6 0 a0) {ap1 : Nat} (hAp1 : AtO S 0 jp1 ap1) (hQ : wp_X6_add jp1 S post) (h1 : Cond.methodLink own idx yX6_add ∈ wT) (hR1 : 0 + 1 ≤ R.frames) (hR2 : 8 + (2 + 11) + 0 ≤ R.locals) (hrest : (rest.map fun v => v.category).sum ≤ 8) (hdg : decode cc pc = .ok (.invokevirtual idx, 3)) (hf1 : cells + 0 ≤ R.cells) (hf2 : slots + 0 ≤ R.slots)
    (kk : ∀ (S1 : St) (H1 : Heap) (locs1 : List Loc), post S1 → WW G S1 s H1 locs1 → Ext S S1 → W p l e R s m args below meth c H1 locs1 (cells + 0) (slots + 0) Q (F0 m (pc + 3) ls rest)) : W p l e R s m args below meth c H locs cells slots Q (F0 m pc ls (.ref ap1 :: .ref a0 :: rest)) :=
  cl_v (rn_V (n := 1) (As := [.ref ap1]) (q := (RX6, TX6, 6)) F hw hl (m_X6_add l G jp1 S a0 hA0 ap1 hAp1 post hQ) 6 (by decide) (by decide) hA0 rfl rfl h1 twi_yX6_add tws_yX6_add twn_RX6 two_yX6_add rfl rfl ⟨rfl, by decide, by decide, by decide +kernel⟩ rfl ⟨hR1, hR2⟩ rfl hrest hdg ⟨hf1, hf2⟩) hw kk

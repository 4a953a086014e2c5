-- X8_play
def bd_X8_play_32 (p2 : Int32) (S0 : St) (post : Int32 → St → Prop) (K32 : Int32 → Int64 → St → Prop) (x6_32 : Int32) (x4_32 : Int64) (S3 : St) : Prop :=
  (p2 ≤ x6_32 →
  wp_X8_soldCount S3 (fun r5 S4 =>
  post r5 S4)) ∧
  (¬ p2 ≤ x6_32 →
  ∀ v6 : Int64, v6 = x4_32 ^^^ (x4_32 <<< ((13 : Int32).toInt64 &&& 63)) →
  ∀ v7 : Int64, v7 = v6 ^^^ ((v6.toUInt64 >>> ((7 : Int32).toInt64.toUInt64 &&& Int64.toUInt64 63)).toInt64) →
  ∀ v8 : Int64, v8 = v7 ^^^ (v7 <<< ((17 : Int32).toInt64 &&& 63)) →
  wp_X8_playTurn ((v8.toUInt64 >>> ((1 : Int32).toInt64.toUInt64 &&& Int64.toUInt64 63)).toInt64) S3 (fun S9 =>
  ∀ v10 : Int32, v10 = x6_32 + (1 : Int32) →
  gn S9 99 ≤ gn S0 99 + 240 ∧ K32 v10 v8 S9))
def lp_X8_play_32 (p2 : Int32) (S0 : St) (post : Int32 → St → Prop) : Nat → Int32 → Int64 → St → Prop
  | 0, _, _, _ => False
  | n + 1, x6_32, x4_32, S3 => bd_X8_play_32 p2 S0 post (fun x6_32 x4_32 S3 => lp_X8_play_32 p2 S0 post n x6_32 x4_32 S3) x6_32 x4_32 S3
def wp_X8_play (p1 : Int64) (p2 : Int32) (S0 : St) (post : Int32 → St → Prop) : Prop :=
  wp_X8_isWithin (p2.toInt64) (1 : Int64) (200 : Int64) S0 (fun r2 S1 =>
  (¬ r2 = 0 →
  (¬ p1 = (0 : Int64) →
  ∃ n : Nat, n ≤ 201 ∧ lp_X8_play_32 p2 S0 post n (0 : Int32) p1 S1) ∧
  (p1 = (0 : Int64) →
  ∃ n : Nat, n ≤ 201 ∧ lp_X8_play_32 p2 S0 post n (0 : Int32) (88172645463325252 : Int64) S1)) ∧
  (r2 = 0 →
  post (-1 : Int32) S1))
set_option maxRecDepth 100000 in
set_option maxHeartbeats 4000000 in
theorem m_X8_play (l : Launch) (G : GT) (p1 : Int64) (p2 : Int32) (S0 : St) (a0 : Nat) (hA0 : AtO S0 7 0 a0) (post : Int32 → St → Prop) (hQ : wp_X8_play p1 p2 S0 post) : Met l yX8_play (wM yX8_play cX8_play 7 (some (FieldType.int))) ({ frames := 7, cells := 302, slots := 62310, locals := 159 } : Room) (PC G S0 [.ref a0, .long p1, .int p2]) (QI G S0 post) 302 62310 (QA G) := by
  refine mt_start RX8 (by decide) rfl (Nat.le_of_ble_eq_true rfl) ?_
  intro p e s m args below meth c ls F hr hlk hnm hw hl
  have hx := F.1
  have hb := F.2.1
  have hown := F.2.2.2.1
  have hts := F.2.2.2.2
  have hX : Ext S0 S0 := Ext.rf
  have hsz0 := hw.1.1.1
  have hl : lv_has ls 7 [(0, .ref a0), (1, .long p1), (3, .int p2)] := hl
  unfold wp_X8_play at hQ
  refine lv_iload_n hx hb dX8_play_0 rfl (lv_at hl 2 rfl) ?_
  refine lv_i2l hx hb dX8_play_1 rfl ?_
  refine lv_lconst (v := 1) hx hb dX8_play_2 (by decide) ?_
  refine lv_ldc2 (v := 200) hx hb hown (hts _ twl_RX8_306) dX8_play_3 ?_
  refine k_X8_isWithin F hw hl hQ twm_RX8_50 (Nat.le_of_ble_eq_true rfl) (Nat.le_of_ble_eq_true rfl) (Nat.le_of_ble_eq_true rfl) dX8_play_6 (show 0 + 0 ≤ 302 from by omega) (show 0 + 0 ≤ 62310 from by omega) (fun r2 S1 H locs hQ hw hx1 => ?_)
  have hX := hX.trans hx1
  have hA0 := hA0.ext hx1
  refine lv_if_ne (tgt := 14) hx hb dX8_play_9 (by decide) (fun hc => ?_) (fun hc => ?_)
  · have hQ := hQ.1 hc
    refine lv_lload_n hx hb dX8_play_14 rfl (lv_at hl 1 rfl) ?_
    refine lv_lconst (v := 0) hx hb dX8_play_15 (by decide) ?_
    refine lc_ne (tgt := 26) F dX8_play_16 dX8_play_17 (by decide) (fun hc => ?_) (fun hc => ?_)
    · have hQ := hQ.1 hc
      refine lv_lload_n hx hb dX8_play_26 rfl (lv_at hl 1 rfl) ?_
      refine lv_lstore (lv' := [(4, .long p1), (0, .ref a0), (1, .long p1), (3, .int p2)]) hx hb dX8_play_27 hl (by decide) rfl (fun ls hl => ?_)
      refine lv_iconst (v := 0) hx hb dX8_play_29 (by decide) ?_
      refine lv_istore (lv' := [(6, .int (0 : Int32)), (4, .long p1), (0, .ref a0), (1, .long p1), (3, .int p2)]) hx hb dX8_play_30 hl (by decide) rfl (fun ls hl => ?_)
      have hloop32 : ∀ (n32 : Nat) (x6_32 : Int32) (x4_32 : Int64) (S3 : St) (H : Heap) (locs : List Loc) (ls : Array Slot) (cl32 sl32 : Nat), lp_X8_play_32 p2 S0 post n32 x6_32 x4_32 S3 → WW G S3 s H locs → Ext S0 S3 → AtO S3 7 0 a0 → lv_has ls 7 [(6, .int x6_32), (4, .long x4_32), (0, .ref a0), (3, .int p2)] → cl32 ≤ 240 → sl32 + 310 * n32 ≤ (0 + 0) + 62310 → W p l e ({ frames := 7, cells := 302, slots := 62310, locals := 159 } : Room) s m args below meth c H locs cl32 sl32 (MQ below (QI G S0 post) args s 302 62310 (QA G)) (F0 m 32 ls []) := by
        intro n32
        induction n32 with
        | zero => intro x6_32 x4_32 S3 H locs ls cl sl hQ; exact False.elim hQ
        | succ n32 ih32 =>
          intro x6_32 x4_32 S3 H locs ls cl32 sl32 hQ hw hX hA0 hl hcl32 hsl32
          have hQ : bd_X8_play_32 p2 S0 post (fun x6_32 x4_32 S3 => lp_X8_play_32 p2 S0 post n32 x6_32 x4_32 S3) x6_32 x4_32 S3 := hQ
          unfold bd_X8_play_32 at hQ
          refine lv_iload hx hb dX8_play_32 (lv_at hl 0 rfl) ?_
          refine lv_iload_n hx hb dX8_play_34 rfl (lv_at hl 3 rfl) ?_
          refine lv_icmp_ge (tgt := 82) hx hb dX8_play_35 (by decide) (fun hc => ?_) (fun hc => ?_)
          · have hQ := hQ.1 hc
            refine lv_aload_n hx hb dX8_play_82 rfl (lv_at hl 2 rfl) ?_
            refine k_X8_soldCount F hw hl hA0 hQ twm_RX8_313 (Nat.le_of_ble_eq_true rfl) (Nat.le_of_ble_eq_true rfl) (Nat.le_of_ble_eq_true rfl) dX8_play_83 (show cl32 + 0 ≤ 302 from by omega) (show sl32 + 0 ≤ 62310 from by omega) (fun r5 S4 H locs hQ hw hx1 => ?_)
            have hX := hX.trans hx1
            have hA0 := hA0.ext hx1
            exact rt_i F hr hlk hw hX hQ (show (cl32 + 0) ≤ 302 from by omega) (show (sl32 + 0) ≤ 62310 from by omega) dX8_play_86
          · have hQ := hQ.2 hc
            refine lv_lload hx hb dX8_play_38 (lv_at hl 1 rfl) ?_
            refine lv_lload hx hb dX8_play_40 (lv_at hl 1 rfl) ?_
            refine lv_bipush (v := 13) hx hb dX8_play_42 (by decide) ?_
            refine lv_lshl hx hb dX8_play_44 rfl ?_
            refine lv_lxor hx hb dX8_play_45 ?_
            refine lv_topl (fun v6 ev6 => ?_)
            have hQ := hQ v6 ev6
            refine lv_lstore (lv' := [(4, .long v6), (6, .int x6_32), (0, .ref a0), (3, .int p2)]) hx hb dX8_play_46 hl (by decide) rfl (fun ls hl => ?_)
            refine lv_lload hx hb dX8_play_48 (lv_at hl 0 rfl) ?_
            refine lv_lload hx hb dX8_play_50 (lv_at hl 0 rfl) ?_
            refine lv_bipush (v := 7) hx hb dX8_play_52 (by decide) ?_
            refine lv_lushr hx hb dX8_play_54 rfl ?_
            refine lv_lxor hx hb dX8_play_55 ?_
            refine lv_topl (fun v7 ev7 => ?_)
            have hQ := hQ v7 ev7
            refine lv_lstore (lv' := [(4, .long v7), (6, .int x6_32), (0, .ref a0), (3, .int p2)]) hx hb dX8_play_56 hl (by decide) rfl (fun ls hl => ?_)
            refine lv_lload hx hb dX8_play_58 (lv_at hl 0 rfl) ?_
            refine lv_lload hx hb dX8_play_60 (lv_at hl 0 rfl) ?_
            refine lv_bipush (v := 17) hx hb dX8_play_62 (by decide) ?_
            refine lv_lshl hx hb dX8_play_64 rfl ?_
            refine lv_lxor hx hb dX8_play_65 ?_
            refine lv_topl (fun v8 ev8 => ?_)
            have hQ := hQ v8 ev8
            refine lv_lstore (lv' := [(4, .long v8), (6, .int x6_32), (0, .ref a0), (3, .int p2)]) hx hb dX8_play_66 hl (by decide) rfl (fun ls hl => ?_)
            refine lv_aload_n hx hb dX8_play_68 rfl (lv_at hl 2 rfl) ?_
            refine lv_lload hx hb dX8_play_69 (lv_at hl 0 rfl) ?_
            refine lv_iconst (v := 1) hx hb dX8_play_71 (by decide) ?_
            refine lv_lushr hx hb dX8_play_72 rfl ?_
            refine k_X8_playTurn F hw hl hA0 hQ twm_RX8_310 (Nat.le_of_ble_eq_true rfl) (Nat.le_of_ble_eq_true rfl) (Nat.le_of_ble_eq_true rfl) dX8_play_73 (show cl32 + 62 ≤ 302 from by omega) (show sl32 + 310 ≤ 62310 from by omega) (fun S9 H locs hQ hw hx1 => ?_)
            have hX := hX.trans hx1
            have hA0 := hA0.ext hx1
            obtain ⟨v10, ev10⟩ : ∃ y : Int32, y = x6_32 + (1 : Int32) := ⟨_, rfl⟩
            have hQ := hQ v10 ev10
            refine lv_iinc (v := v10) (lv' := [(6, .int v10), (4, .long v8), (0, .ref a0), (3, .int p2)]) hx hb dX8_play_76 hl (k := 1) rfl (by rw [ev10]; rfl) (by decide) rfl (fun ls hl => ?_)
            refine lv_goto (tgt := 32) hx hb dX8_play_79 (by decide) ?_
            obtain ⟨htg, hQ⟩ := hQ
            refine W.tight (k := 240) (by have h1 := hw.1.1.1; have h2 := hsz0; omega) ?_
            exact ih32 v10 v8 S9 _ _ _ _ _ hQ hw hX hA0 (lv_sub hl [0, 1, 2, 3] rfl) (by omega) (by omega)
      obtain ⟨n, hn, hQ⟩ := hQ
      exact hloop32 n (0 : Int32) p1 S1 _ _ _ _ _ hQ hw hX hA0 (lv_sub hl [0, 1, 2, 4] rfl) (by omega) (by omega)
    · have hQ := hQ.2 hc
      refine lv_ldc2 (v := 88172645463325252) hx hb hown (hts _ twl_RX8_308) dX8_play_20 ?_
      refine lv_goto (tgt := 27) hx hb dX8_play_23 (by decide) ?_
      refine lv_lstore (lv' := [(4, .long (88172645463325252 : Int64)), (0, .ref a0), (1, .long p1), (3, .int p2)]) hx hb dX8_play_27 hl (by decide) rfl (fun ls hl => ?_)
      refine lv_iconst (v := 0) hx hb dX8_play_29 (by decide) ?_
      refine lv_istore (lv' := [(6, .int (0 : Int32)), (4, .long (88172645463325252 : Int64)), (0, .ref a0), (1, .long p1), (3, .int p2)]) hx hb dX8_play_30 hl (by decide) rfl (fun ls hl => ?_)
      have hloop32 : ∀ (n32 : Nat) (x6_32 : Int32) (x4_32 : Int64) (S11 : St) (H : Heap) (locs : List Loc) (ls : Array Slot) (cl32 sl32 : Nat), lp_X8_play_32 p2 S0 post n32 x6_32 x4_32 S11 → WW G S11 s H locs → Ext S0 S11 → AtO S11 7 0 a0 → lv_has ls 7 [(6, .int x6_32), (4, .long x4_32), (0, .ref a0), (3, .int p2)] → cl32 ≤ 240 → sl32 + 310 * n32 ≤ (0 + 0) + 62310 → W p l e ({ frames := 7, cells := 302, slots := 62310, locals := 159 } : Room) s m args below meth c H locs cl32 sl32 (MQ below (QI G S0 post) args s 302 62310 (QA G)) (F0 m 32 ls []) := by
        intro n32
        induction n32 with
        | zero => intro x6_32 x4_32 S11 H locs ls cl sl hQ; exact False.elim hQ
        | succ n32 ih32 =>
          intro x6_32 x4_32 S11 H locs ls cl32 sl32 hQ hw hX hA0 hl hcl32 hsl32
          have hQ : bd_X8_play_32 p2 S0 post (fun x6_32 x4_32 S11 => lp_X8_play_32 p2 S0 post n32 x6_32 x4_32 S11) x6_32 x4_32 S11 := hQ
          unfold bd_X8_play_32 at hQ
          refine lv_iload hx hb dX8_play_32 (lv_at hl 0 rfl) ?_
          refine lv_iload_n hx hb dX8_play_34 rfl (lv_at hl 3 rfl) ?_
          refine lv_icmp_ge (tgt := 82) hx hb dX8_play_35 (by decide) (fun hc => ?_) (fun hc => ?_)
          · have hQ := hQ.1 hc
            refine lv_aload_n hx hb dX8_play_82 rfl (lv_at hl 2 rfl) ?_
            refine k_X8_soldCount F hw hl hA0 hQ twm_RX8_313 (Nat.le_of_ble_eq_true rfl) (Nat.le_of_ble_eq_true rfl) (Nat.le_of_ble_eq_true rfl) dX8_play_83 (show cl32 + 0 ≤ 302 from by omega) (show sl32 + 0 ≤ 62310 from by omega) (fun r13 S12 H locs hQ hw hx1 => ?_)
            have hX := hX.trans hx1
            have hA0 := hA0.ext hx1
            exact rt_i F hr hlk hw hX hQ (show (cl32 + 0) ≤ 302 from by omega) (show (sl32 + 0) ≤ 62310 from by omega) dX8_play_86
          · have hQ := hQ.2 hc
            refine lv_lload hx hb dX8_play_38 (lv_at hl 1 rfl) ?_
            refine lv_lload hx hb dX8_play_40 (lv_at hl 1 rfl) ?_
            refine lv_bipush (v := 13) hx hb dX8_play_42 (by decide) ?_
            refine lv_lshl hx hb dX8_play_44 rfl ?_
            refine lv_lxor hx hb dX8_play_45 ?_
            refine lv_topl (fun v14 ev14 => ?_)
            have hQ := hQ v14 ev14
            refine lv_lstore (lv' := [(4, .long v14), (6, .int x6_32), (0, .ref a0), (3, .int p2)]) hx hb dX8_play_46 hl (by decide) rfl (fun ls hl => ?_)
            refine lv_lload hx hb dX8_play_48 (lv_at hl 0 rfl) ?_
            refine lv_lload hx hb dX8_play_50 (lv_at hl 0 rfl) ?_
            refine lv_bipush (v := 7) hx hb dX8_play_52 (by decide) ?_
            refine lv_lushr hx hb dX8_play_54 rfl ?_
            refine lv_lxor hx hb dX8_play_55 ?_
            refine lv_topl (fun v15 ev15 => ?_)
            have hQ := hQ v15 ev15
            refine lv_lstore (lv' := [(4, .long v15), (6, .int x6_32), (0, .ref a0), (3, .int p2)]) hx hb dX8_play_56 hl (by decide) rfl (fun ls hl => ?_)
            refine lv_lload hx hb dX8_play_58 (lv_at hl 0 rfl) ?_
            refine lv_lload hx hb dX8_play_60 (lv_at hl 0 rfl) ?_
            refine lv_bipush (v := 17) hx hb dX8_play_62 (by decide) ?_
            refine lv_lshl hx hb dX8_play_64 rfl ?_
            refine lv_lxor hx hb dX8_play_65 ?_
            refine lv_topl (fun v16 ev16 => ?_)
            have hQ := hQ v16 ev16
            refine lv_lstore (lv' := [(4, .long v16), (6, .int x6_32), (0, .ref a0), (3, .int p2)]) hx hb dX8_play_66 hl (by decide) rfl (fun ls hl => ?_)
            refine lv_aload_n hx hb dX8_play_68 rfl (lv_at hl 2 rfl) ?_
            refine lv_lload hx hb dX8_play_69 (lv_at hl 0 rfl) ?_
            refine lv_iconst (v := 1) hx hb dX8_play_71 (by decide) ?_
            refine lv_lushr hx hb dX8_play_72 rfl ?_
            refine k_X8_playTurn F hw hl hA0 hQ twm_RX8_310 (Nat.le_of_ble_eq_true rfl) (Nat.le_of_ble_eq_true rfl) (Nat.le_of_ble_eq_true rfl) dX8_play_73 (show cl32 + 62 ≤ 302 from by omega) (show sl32 + 310 ≤ 62310 from by omega) (fun S17 H locs hQ hw hx1 => ?_)
            have hX := hX.trans hx1
            have hA0 := hA0.ext hx1
            obtain ⟨v18, ev18⟩ : ∃ y : Int32, y = x6_32 + (1 : Int32) := ⟨_, rfl⟩
            have hQ := hQ v18 ev18
            refine lv_iinc (v := v18) (lv' := [(6, .int v18), (4, .long v16), (0, .ref a0), (3, .int p2)]) hx hb dX8_play_76 hl (k := 1) rfl (by rw [ev18]; rfl) (by decide) rfl (fun ls hl => ?_)
            refine lv_goto (tgt := 32) hx hb dX8_play_79 (by decide) ?_
            obtain ⟨htg, hQ⟩ := hQ
            refine W.tight (k := 240) (by have h1 := hw.1.1.1; have h2 := hsz0; omega) ?_
            exact ih32 v18 v16 S17 _ _ _ _ _ hQ hw hX hA0 (lv_sub hl [0, 1, 2, 3] rfl) (by omega) (by omega)
      obtain ⟨n, hn, hQ⟩ := hQ
      exact hloop32 n (0 : Int32) (88172645463325252 : Int64) S1 _ _ _ _ _ hQ hw hX hA0 (lv_sub hl [0, 1, 2, 4] rfl) (by omega) (by omega)
  · have hQ := hQ.2 hc
    refine lv_iconst (v := -1) hx hb dX8_play_12 (by decide) ?_
    exact rt_i F hr hlk hw hX hQ (show (0 + 0) ≤ 302 from by omega) (show (0 + 0) ≤ 62310 from by omega) dX8_play_13
theorem k_X8_play {p : Program} {l : Launch} {e : Env} {R : Room} {s : State} {m : MethodId} {args : Array Value} {below : List Frame} {meth : Method} {c : Code} {H : Heap} {locs : List Loc} {cells slots : Nat} {Q : State → Prop} {cc : ByteArray} {pc nL : Nat} {ls : Array Slot} {rest : List Value} {G : GT} {S : St} {own : String} {p1 : Int64} {p2 : Int32} {post : Int32 → St → Prop} {lv : List (Nat × Value)} {idx : Nat} (F : CX p m c cc nL s args own) (hw : WW G S s H locs) (hl : lv_has ls nL lv) {a0 : Nat} (hA0 : AtO S 7 0 a0) (hQ : wp_X8_play p1 p2 S post) (h1 : Cond.methodLink own idx yX8_play ∈ wT) (hR1 : 7 + 1 ≤ R.frames) (hR2 : 8 + (7 + 11) + 159 ≤ R.locals) (hrest : (rest.map fun v => v.category).sum ≤ 8) (hdg : decode cc pc = .ok (.invokevirtual idx, 3)) (hf1 : cells + 302 ≤ R.cells) (hf2 : slots + 62310 ≤ R.slots)
    (kk : ∀ (r : Int32) (S1 : St) (H1 : Heap) (locs1 : List Loc), post r S1 → WW G S1 s H1 locs1 → Ext S S1 → W p l e R s m args below meth c H1 locs1 (cells + 302) (slots + 62310) Q (F0 m (pc + 3) ls (.int r :: rest))) : W p l e R s m args below meth c H locs cells slots Q (F0 m pc ls (.int p2 :: .long p1 :: .ref a0 :: rest)) :=
  cl_i (rn_V (n := 2) (As := [.long p1, .int p2]) (q := (RX8, TX8, 11)) F hw hl (m_X8_play l G p1 p2 S a0 hA0 post hQ) 7 (by decide) (by decide) hA0 rfl rfl h1 twi_yX8_play tws_yX8_play twn_RX8 two_yX8_play rfl rfl ⟨rfl, by decide, by decide, by decide +kernel⟩ rfl ⟨hR1, hR2⟩ rfl hrest hdg ⟨hf1, hf2⟩) hw kk
-- X9_isLot
def wp_X9_isLot (p1 : Int32) (S0 : St) (post : Int32 → St → Prop) : Prop :=
  (p1 < 0 →
  post (0 : Int32) S0) ∧
  (¬ p1 < 0 →
  ((gi S0 8 0 0) ≤ p1 →
  post (0 : Int32) S0) ∧
  (¬ (gi S0 8 0 0) ≤ p1 →
  post (1 : Int32) S0))
set_option maxRecDepth 100000 in
set_option maxHeartbeats 4000000 in
theorem m_X9_isLot (l : Launch) (G : GT) (p1 : Int32) (S0 : St) (a0 : Nat) (hA0 : AtO S0 8 0 a0) (post : Int32 → St → Prop) (hQ : wp_X9_isLot p1 S0 post) : Met l yX9_isLot (wM yX9_isLot cX9_isLot 2 (some (FieldType.boolean))) ({ frames := 0, cells := 0, slots := 0, locals := 0 } : Room) (PC G S0 [.ref a0, .int p1]) (QI G S0 post) 0 0 (QA G) := by
  refine mt_start RX9 (by decide) rfl (Nat.le_of_ble_eq_true rfl) ?_
  intro p e s m args below meth c ls F hr hlk hnm hw hl
  have hx := F.1
  have hb := F.2.1
  have hown := F.2.2.2.1
  have hts := F.2.2.2.2
  have hX : Ext S0 S0 := Ext.rf
  have hsz0 := hw.1.1.1
  have hl : lv_has ls 2 [(0, .ref a0), (1, .int p1)] := hl
  unfold wp_X9_isLot at hQ
  refine lv_iload_n hx hb dX9_isLot_0 rfl (lv_at hl 1 rfl) ?_
  refine lv_if_lt (tgt := 16) hx hb dX9_isLot_1 (by decide) (fun hc => ?_) (fun hc => ?_)
  · have hQ := hQ.1 hc
    refine lv_iconst (v := 0) hx hb dX9_isLot_16 (by decide) ?_
    exact rt_z F hr hlk hw hX hQ rfl (show 0 ≤ 0 from by omega) (show 0 ≤ 0 from by omega) dX9_isLot_17
  · have hQ := hQ.2 hc
    refine lv_iload_n hx hb dX9_isLot_4 rfl (lv_at hl 1 rfl) ?_
    refine lv_aload_n hx hb dX9_isLot_5 rfl (lv_at hl 0 rfl) ?_
    refine g_8_0 F hw hA0 twf_RX9_82 dX9_isLot_6 ?_
    refine lv_icmp_ge (tgt := 16) hx hb dX9_isLot_9 (by decide) (fun hc => ?_) (fun hc => ?_)
    · have hQ := hQ.1 hc
      refine lv_iconst (v := 0) hx hb dX9_isLot_16 (by decide) ?_
      exact rt_z F hr hlk hw hX hQ rfl (show 0 ≤ 0 from by omega) (show 0 ≤ 0 from by omega) dX9_isLot_17
    · have hQ := hQ.2 hc
      refine lv_iconst (v := 1) hx hb dX9_isLot_12 (by decide) ?_
      refine lv_goto (tgt := 17) hx hb dX9_isLot_13 (by decide) ?_
      exact rt_z F hr hlk hw hX hQ rfl (show 0 ≤ 0 from by omega) (show 0 ≤ 0 from by omega) dX9_isLot_17
theorem k_X9_isLot {p : Program} {l : Launch} {e : Env} {R : Room} {s : State} {m : MethodId} {args : Array Value} {below : List Frame} {meth : Method} {c : Code} {H : Heap} {locs : List Loc} {cells slots : Nat} {Q : State → Prop} {cc : ByteArray} {pc nL : Nat} {ls : Array Slot} {rest : List Value} {G : GT} {S : St} {own : String} {p1 : Int32} {post : Int32 → St → Prop} {lv : List (Nat × Value)} {idx : Nat} (F : CX p m c cc nL s args own) (hw : WW G S s H locs) (hl : lv_has ls nL lv) {a0 : Nat} (hA0 : AtO S 8 0 a0) (hQ : wp_X9_isLot p1 S post) (h1 : Cond.methodLink own idx yX9_isLot ∈ wT) (hR1 : 0 + 1 ≤ R.frames) (hR2 : 8 + (2 + 11) + 0 ≤ R.locals) (hrest : (rest.map fun v => v.category).sum ≤ 8) (hdg : decode cc pc = .ok (.invokevirtual idx, 3)) (hf1 : cells + 0 ≤ R.cells) (hf2 : slots + 0 ≤ R.slots)
    (kk : ∀ (r : Int32) (S1 : St) (H1 : Heap) (locs1 : List Loc), post r S1 → WW G S1 s H1 locs1 → Ext S S1 → W p l e R s m args below meth c H1 locs1 (cells + 0) (slots + 0) Q (F0 m (pc + 3) ls (.int r :: rest))) : W p l e R s m args below meth c H locs cells slots Q (F0 m pc ls (.int p1 :: .ref a0 :: rest)) :=
  cl_i (rn_V (n := 1) (As := [.int p1]) (q := (RX9, TX9, 36)) F hw hl (m_X9_isLot l G p1 S a0 hA0 post hQ) 8 (by decide) (by decide) hA0 rfl rfl h1 twi_yX9_isLot tws_yX9_isLot twn_RX9 two_yX9_isLot rfl rfl ⟨rfl, by decide, by decide, by decide +kernel⟩ rfl ⟨hR1, hR2⟩ rfl hrest hdg ⟨hf1, hf2⟩) hw kk
-- X9_isBuyer
def wp_X9_isBuyer (p1 : Int32) (S0 : St) (post : Int32 → St → Prop) : Prop :=
  (p1 < 0 →
  post (0 : Int32) S0) ∧
  (¬ p1 < 0 →
  ((gi S0 8 0 12) ≤ p1 →
  post (0 : Int32) S0) ∧
  (¬ (gi S0 8 0 12) ≤ p1 →
  post (1 : Int32) S0))
set_option maxRecDepth 100000 in
set_option maxHeartbeats 4000000 in
theorem m_X9_isBuyer (l : Launch) (G : GT) (p1 : Int32) (S0 : St) (a0 : Nat) (hA0 : AtO S0 8 0 a0) (post : Int32 → St → Prop) (hQ : wp_X9_isBuyer p1 S0 post) : Met l yX9_isBuyer (wM yX9_isBuyer cX9_isBuyer 2 (some (FieldType.boolean))) ({ frames := 0, cells := 0, slots := 0, locals := 0 } : Room) (PC G S0 [.ref a0, .int p1]) (QI G S0 post) 0 0 (QA G) := by
  refine mt_start RX9 (by decide) rfl (Nat.le_of_ble_eq_true rfl) ?_
  intro p e s m args below meth c ls F hr hlk hnm hw hl
  have hx := F.1
  have hb := F.2.1
  have hown := F.2.2.2.1
  have hts := F.2.2.2.2
  have hX : Ext S0 S0 := Ext.rf
  have hsz0 := hw.1.1.1
  have hl : lv_has ls 2 [(0, .ref a0), (1, .int p1)] := hl
  unfold wp_X9_isBuyer at hQ
  refine lv_iload_n hx hb dX9_isBuyer_0 rfl (lv_at hl 1 rfl) ?_
  refine lv_if_lt (tgt := 16) hx hb dX9_isBuyer_1 (by decide) (fun hc => ?_) (fun hc => ?_)
  · have hQ := hQ.1 hc
    refine lv_iconst (v := 0) hx hb dX9_isBuyer_16 (by decide) ?_
    exact rt_z F hr hlk hw hX hQ rfl (show 0 ≤ 0 from by omega) (show 0 ≤ 0 from by omega) dX9_isBuyer_17
  · have hQ := hQ.2 hc
    refine lv_iload_n hx hb dX9_isBuyer_4 rfl (lv_at hl 1 rfl) ?_
    refine lv_aload_n hx hb dX9_isBuyer_5 rfl (lv_at hl 0 rfl) ?_
    refine g_8_12 F hw hA0 twf_RX9_85 dX9_isBuyer_6 ?_
    refine lv_icmp_ge (tgt := 16) hx hb dX9_isBuyer_9 (by decide) (fun hc => ?_) (fun hc => ?_)
    · have hQ := hQ.1 hc
      refine lv_iconst (v := 0) hx hb dX9_isBuyer_16 (by decide) ?_
      exact rt_z F hr hlk hw hX hQ rfl (show 0 ≤ 0 from by omega) (show 0 ≤ 0 from by omega) dX9_isBuyer_17
    · have hQ := hQ.2 hc
      refine lv_iconst (v := 1) hx hb dX9_isBuyer_12 (by decide) ?_
      refine lv_goto (tgt := 17) hx hb dX9_isBuyer_13 (by decide) ?_
      exact rt_z F hr hlk hw hX hQ rfl (show 0 ≤ 0 from by omega) (show 0 ≤ 0 from by omega) dX9_isBuyer_17
theorem k_X9_isBuyer {p : Program} {l : Launch} {e : Env} {R : Room} {s : State} {m : MethodId} {args : Array Value} {below : List Frame} {meth : Method} {c : Code} {H : Heap} {locs : List Loc} {cells slots : Nat} {Q : State → Prop} {cc : ByteArray} {pc nL : Nat} {ls : Array Slot} {rest : List Value} {G : GT} {S : St} {own : String} {p1 : Int32} {post : Int32 → St → Prop} {lv : List (Nat × Value)} {idx : Nat} (F : CX p m c cc nL s args own) (hw : WW G S s H locs) (hl : lv_has ls nL lv) {a0 : Nat} (hA0 : AtO S 8 0 a0) (hQ : wp_X9_isBuyer p1 S post) (h1 : Cond.methodLink own idx yX9_isBuyer ∈ wT) (hR1 : 0 + 1 ≤ R.frames) (hR2 : 8 + (2 + 11) + 0 ≤ R.locals) (hrest : (rest.map fun v => v.category).sum ≤ 8) (hdg : decode cc pc = .ok (.invokevirtual idx, 3)) (hf1 : cells + 0 ≤ R.cells) (hf2 : slots + 0 ≤ R.slots)
    (kk : ∀ (r : Int32) (S1 : St) (H1 : Heap) (locs1 : List Loc), post r S1 → WW G S1 s H1 locs1 → Ext S S1 → W p l e R s m args below meth c H1 locs1 (cells + 0) (slots + 0) Q (F0 m (pc + 3) ls (.int r :: rest))) : W p l e R s m args below meth c H locs cells slots Q (F0 m pc ls (.int p1 :: .ref a0 :: rest)) :=
  cl_i (rn_V (n := 1) (As := [.int p1]) (q := (RX9, TX9, 36)) F hw hl (m_X9_isBuyer l G p1 S a0 hA0 post hQ) 8 (by decide) (by decide) hA0 rfl rfl h1 twi_yX9_isBuyer tws_yX9_isBuyer twn_RX9 two_yX9_isBuyer rfl rfl ⟨rfl, by decide, by decide, by decide +kernel⟩ rfl ⟨hR1, hR2⟩ rfl hrest hdg ⟨hf1, hf2⟩) hw kk
-- X9_next
def wp_X9_next (p1 : Int32) (p2 : Int32) (p3 : Int32) (p4 : Int32) (p5 : Int64) (S0 : St) (post : Int32 → St → Prop) : Prop :=
  post ((((((((31 : Int64) * (p1.toInt64)) + ((7 : Int64) * (p2.toInt64))) + ((5 : Int64) * (p3.toInt64))) + ((3 : Int64) * ((p4 + (1 : Int32)).toInt64))) + p5) - ((((((31 : Int64) * (p1.toInt64)) + ((7 : Int64) * (p2.toInt64))) + ((5 : Int64) * (p3.toInt64))) + ((3 : Int64) * ((p4 + (1 : Int32)).toInt64))) + p5) / (1000003 : Int64) * (1000003 : Int64)).toInt32) S0
set_option maxRecDepth 100000 in
set_option maxHeartbeats 4000000 in
theorem m_X9_next (l : Launch) (G : GT) (p1 : Int32) (p2 : Int32) (p3 : Int32) (p4 : Int32) (p5 : Int64) (S0 : St) (a0 : Nat) (hA0 : AtO S0 8 0 a0) (post : Int32 → St → Prop) (hQ : wp_X9_next p1 p2 p3 p4 p5 S0 post) : Met l yX9_next (wM yX9_next cX9_next 7 (some (FieldType.int))) ({ frames := 0, cells := 0, slots := 0, locals := 0 } : Room) (PC G S0 [.ref a0, .int p1, .int p2, .int p3, .int p4, .long p5]) (QI G S0 post) 0 0 (QA G) := by
  refine mt_start RX9 (by decide) rfl (Nat.le_of_ble_eq_true rfl) ?_
  intro p e s m args below meth c ls F hr hlk hnm hw hl
  have hx := F.1
  have hb := F.2.1
  have hown := F.2.2.2.1
  have hts := F.2.2.2.2
  have hX : Ext S0 S0 := Ext.rf
  have hsz0 := hw.1.1.1
  have hl : lv_has ls 7 [(0, .ref a0), (1, .int p1), (2, .int p2), (3, .int p3), (4, .int p4), (5, .long p5)] := hl
  unfold wp_X9_next at hQ
  refine lv_ldc2 (v := 31) hx hb hown (hts _ twl_RX9_88) dX9_next_0 ?_
  refine lv_iload_n hx hb dX9_next_3 rfl (lv_at hl 1 rfl) ?_
  refine lv_i2l hx hb dX9_next_4 rfl ?_
  refine lv_lmul hx hb dX9_next_5 ?_
  refine lv_ldc2 (v := 7) hx hb hown (hts _ twl_RX9_90) dX9_next_6 ?_
  refine lv_iload_n hx hb dX9_next_9 rfl (lv_at hl 2 rfl) ?_
  refine lv_i2l hx hb dX9_next_10 rfl ?_
  refine lv_lmul hx hb dX9_next_11 ?_
  refine lv_ladd hx hb dX9_next_12 ?_
  refine lv_ldc2 (v := 5) hx hb hown (hts _ twl_RX9_92) dX9_next_13 ?_
  refine lv_iload_n hx hb dX9_next_16 rfl (lv_at hl 3 rfl) ?_
  refine lv_i2l hx hb dX9_next_17 rfl ?_
  refine lv_lmul hx hb dX9_next_18 ?_
  refine lv_ladd hx hb dX9_next_19 ?_
  refine lv_ldc2 (v := 3) hx hb hown (hts _ twl_RX9_94) dX9_next_20 ?_
  refine lv_iload hx hb dX9_next_23 (lv_at hl 4 rfl) ?_
  refine lv_iconst (v := 1) hx hb dX9_next_25 (by decide) ?_
  refine lv_iadd hx hb dX9_next_26 ?_
  refine lv_i2l hx hb dX9_next_27 rfl ?_
  refine lv_lmul hx hb dX9_next_28 ?_
  refine lv_ladd hx hb dX9_next_29 ?_
  refine lv_lload hx hb dX9_next_30 (lv_at hl 5 rfl) ?_
  refine lv_ladd hx hb dX9_next_32 ?_
  refine lv_ldc2 (v := 1000003) hx hb hown (hts _ twl_RX9_96) dX9_next_33 ?_
  refine lv_lrem hx hb dX9_next_36 (by decide) ?_
  refine lv_l2i hx hb dX9_next_37 rfl ?_
  exact rt_i F hr hlk hw hX hQ (show 0 ≤ 0 from by omega) (show 0 ≤ 0 from by omega) dX9_next_38
theorem k_X9_next {p : Program} {l : Launch} {e : Env} {R : Room} {s : State} {m : MethodId} {args : Array Value} {below : List Frame} {meth : Method} {c : Code} {H : Heap} {locs : List Loc} {cells slots : Nat} {Q : State → Prop} {cc : ByteArray} {pc nL : Nat} {ls : Array Slot} {rest : List Value} {G : GT} {S : St} {own : String} {p1 : Int32} {p2 : Int32} {p3 : Int32} {p4 : Int32} {p5 : Int64} {post : Int32 → St → Prop} {lv : List (Nat × Value)} {idx : Nat} (F : CX p m c cc nL s args own) (hw : WW G S s H locs) (hl : lv_has ls nL lv) {a0 : Nat} (hA0 : AtO S 8 0 a0) (hQ : wp_X9_next p1 p2 p3 p4 p5 S post) (h1 : Cond.methodLink own idx yX9_next ∈ wT) (hR1 : 0 + 1 ≤ R.frames) (hR2 : 8 + (7 + 11) + 0 ≤ R.locals) (hrest : (rest.map fun v => v.category).sum ≤ 8) (hdg : decode cc pc = .ok (.invokevirtual idx, 3)) (hf1 : cells + 0 ≤ R.cells) (hf2 : slots + 0 ≤ R.slots)
    (kk : ∀ (r : Int32) (S1 : St) (H1 : Heap) (locs1 : List Loc), post r S1 → WW G S1 s H1 locs1 → Ext S S1 → W p l e R s m args below meth c H1 locs1 (cells + 0) (slots + 0) Q (F0 m (pc + 3) ls (.int r :: rest))) : W p l e R s m args below meth c H locs cells slots Q (F0 m pc ls (.long p5 :: .int p4 :: .int p3 :: .int p2 :: .int p1 :: .ref a0 :: rest)) :=
  cl_i (rn_V (n := 5) (As := [.int p1, .int p2, .int p3, .int p4, .long p5]) (q := (RX9, TX9, 36)) F hw hl (m_X9_next l G p1 p2 p3 p4 p5 S a0 hA0 post hQ) 8 (by decide) (by decide) hA0 rfl rfl h1 twi_yX9_next tws_yX9_next twn_RX9 two_yX9_next rfl rfl ⟨rfl, by decide, by decide, by decide +kernel⟩ rfl ⟨hR1, hR2⟩ rfl hrest hdg ⟨hf1, hf2⟩) hw kk
-- X9_note
def wp_X9_note (p1 : Int32) (p2 : Int32) (p3 : Int32) (p4 : Int64) (S0 : St) (post : St → Prop) : Prop :=
  vp_in (gi S0 8 0 30) 1024 ∧
  ∀ S2 : St, S2 = si S0 34 0 (gi S0 8 0 30).toNatClampNeg p1 →
  vp_in (gi S2 8 0 30) 1024 ∧
  ∀ S4 : St, S4 = si S2 35 0 (gi S2 8 0 30).toNatClampNeg p2 →
  vp_in (gi S4 8 0 30) 1024 ∧
  ∀ S6 : St, S6 = si S4 36 0 (gi S4 8 0 30).toNatClampNeg p3 →
  vp_in (gi S6 8 0 30) 1024 ∧
  ∀ S8 : St, S8 = sj S6 37 0 (gi S6 8 0 30).toNatClampNeg p4 →
  (¬ (gi S8 8 0 30) = 0 →
  vp_in ((gi S8 8 0 30) - (1 : Int32)) 1024 ∧
  wp_X9_next (gi S8 38 0 ((gi S8 8 0 30) - (1 : Int32)).toNatClampNeg) p1 p2 p3 p4 S8 (fun r12 S11 =>
  vp_in (gi S8 8 0 30) 1024 ∧
  ∀ S13 : St, S13 = si S11 38 0 (gi S8 8 0 30).toNatClampNeg r12 →
  ∀ S14 : St, S14 = si S13 8 0 30 ((gi S13 8 0 30) + (1 : Int32)) →
  post S14)) ∧
  ((gi S8 8 0 30) = 0 →
  wp_X9_next (1 : Int32) p1 p2 p3 p4 S8 (fun r16 S15 =>
  vp_in (gi S8 8 0 30) 1024 ∧
  ∀ S17 : St, S17 = si S15 38 0 (gi S8 8 0 30).toNatClampNeg r16 →
  ∀ S18 : St, S18 = si S17 8 0 30 ((gi S17 8 0 30) + (1 : Int32)) →
  post S18))
set_option maxRecDepth 100000 in
set_option maxHeartbeats 4000000 in
theorem m_X9_note (l : Launch) (G : GT) (p1 : Int32) (p2 : Int32) (p3 : Int32) (p4 : Int64) (S0 : St) (a0 : Nat) (hA0 : AtO S0 8 0 a0) (post : St → Prop) (hQ : wp_X9_note p1 p2 p3 p4 S0 post) : Met l yX9_note (wM yX9_note cX9_note 6 none) ({ frames := 1, cells := 0, slots := 0, locals := 26 } : Room) (PC G S0 [.ref a0, .int p1, .int p2, .int p3, .long p4]) (QV G S0 post) 0 0 (QA G) := by
  refine mt_start RX9 (by decide) rfl (Nat.le_of_ble_eq_true rfl) ?_
  intro p e s m args below meth c ls F hr hlk hnm hw hl
  have hx := F.1
  have hb := F.2.1
  have hown := F.2.2.2.1
  have hts := F.2.2.2.2
  have hX : Ext S0 S0 := Ext.rf
  have hsz0 := hw.1.1.1
  have hl : lv_has ls 6 [(0, .ref a0), (1, .int p1), (2, .int p2), (3, .int p3), (4, .long p4)] := hl
  unfold wp_X9_note at hQ
  refine lv_aload_n hx hb dX9_note_0 rfl (lv_at hl 0 rfl) ?_
  refine g_8_31 F hw hA0 twf_RX9_67 dX9_note_1 (fun a1 hA1 => ?_)
  refine lv_aload_n hx hb dX9_note_4 rfl (lv_at hl 0 rfl) ?_
  refine g_8_30 F hw hA0 twf_RX9_98 dX9_note_5 ?_
  refine lv_iload_n hx hb dX9_note_8 rfl (lv_at hl 1 rfl) ?_
  obtain ⟨hin, hQ⟩ := hQ
  refine as_34 F hw hA1 hin dX9_note_9 (fun S2 H locs eS2 hw hx1 => ?_)
  have hQ := hQ S2 eS2
  have hX := hX.trans hx1
  have hA0 := hA0.ext hx1
  refine lv_aload_n hx hb dX9_note_10 rfl (lv_at hl 0 rfl) ?_
  refine g_8_32 F hw hA0 twf_RX9_70 dX9_note_11 (fun a3 hA3 => ?_)
  refine lv_aload_n hx hb dX9_note_14 rfl (lv_at hl 0 rfl) ?_
  refine g_8_30 F hw hA0 twf_RX9_98 dX9_note_15 ?_
  refine lv_iload_n hx hb dX9_note_18 rfl (lv_at hl 2 rfl) ?_
  obtain ⟨hin, hQ⟩ := hQ
  refine as_35 F hw hA3 hin dX9_note_19 (fun S4 H locs eS4 hw hx1 => ?_)
  have hQ := hQ S4 eS4
  have hX := hX.trans hx1
  have hA0 := hA0.ext hx1
  refine lv_aload_n hx hb dX9_note_20 rfl (lv_at hl 0 rfl) ?_
  refine g_8_33 F hw hA0 twf_RX9_73 dX9_note_21 (fun a5 hA5 => ?_)
  refine lv_aload_n hx hb dX9_note_24 rfl (lv_at hl 0 rfl) ?_
  refine g_8_30 F hw hA0 twf_RX9_98 dX9_note_25 ?_
  refine lv_iload_n hx hb dX9_note_28 rfl (lv_at hl 3 rfl) ?_
  obtain ⟨hin, hQ⟩ := hQ
  refine as_36 F hw hA5 hin dX9_note_29 (fun S6 H locs eS6 hw hx1 => ?_)
  have hQ := hQ S6 eS6
  have hX := hX.trans hx1
  have hA0 := hA0.ext hx1
  refine lv_aload_n hx hb dX9_note_30 rfl (lv_at hl 0 rfl) ?_
  refine g_8_34 F hw hA0 twf_RX9_76 dX9_note_31 (fun a7 hA7 => ?_)
  refine lv_aload_n hx hb dX9_note_34 rfl (lv_at hl 0 rfl) ?_
  refine g_8_30 F hw hA0 twf_RX9_98 dX9_note_35 ?_
  refine lv_lload hx hb dX9_note_38 (lv_at hl 4 rfl) ?_
  obtain ⟨hin, hQ⟩ := hQ
  refine as_37 F hw hA7 hin dX9_note_40 (fun S8 H locs eS8 hw hx1 => ?_)
  have hQ := hQ S8 eS8
  have hX := hX.trans hx1
  have hA0 := hA0.ext hx1
  refine lv_aload_n hx hb dX9_note_41 rfl (lv_at hl 0 rfl) ?_
  refine g_8_35 F hw hA0 twf_RX9_79 dX9_note_42 (fun a9 hA9 => ?_)
  refine lv_aload_n hx hb dX9_note_45 rfl (lv_at hl 0 rfl) ?_
  refine g_8_30 F hw hA0 twf_RX9_98 dX9_note_46 ?_
  refine lv_aload_n hx hb dX9_note_49 rfl (lv_at hl 0 rfl) ?_
  refine lv_aload_n hx hb dX9_note_50 rfl (lv_at hl 0 rfl) ?_
  refine g_8_30 F hw hA0 twf_RX9_98 dX9_note_51 ?_
  refine lv_if_ne (tgt := 61) hx hb dX9_note_54 (by decide) (fun hc => ?_) (fun hc => ?_)
  · have hQ := hQ.1 hc
    refine lv_aload_n hx hb dX9_note_61 rfl (lv_at hl 0 rfl) ?_
    refine g_8_35 F hw hA0 twf_RX9_79 dX9_note_62 (fun a10 hA10 => ?_)
    refine lv_aload_n hx hb dX9_note_65 rfl (lv_at hl 0 rfl) ?_
    refine g_8_30 F hw hA0 twf_RX9_98 dX9_note_66 ?_
    refine lv_iconst (v := 1) hx hb dX9_note_69 (by decide) ?_
    refine lv_isub hx hb dX9_note_70 ?_
    obtain ⟨hin, hQ⟩ := hQ
    refine al_38 F hw hA10 hin dX9_note_71 ?_
    refine lv_iload_n hx hb dX9_note_72 rfl (lv_at hl 1 rfl) ?_
    refine lv_iload_n hx hb dX9_note_73 rfl (lv_at hl 2 rfl) ?_
    refine lv_iload_n hx hb dX9_note_74 rfl (lv_at hl 3 rfl) ?_
    refine lv_lload hx hb dX9_note_75 (lv_at hl 4 rfl) ?_
    refine k_X9_next F hw hl hA0 hQ twm_RX9_101 (Nat.le_of_ble_eq_true rfl) (Nat.le_of_ble_eq_true rfl) (Nat.le_of_ble_eq_true rfl) dX9_note_77 (show 0 + 0 ≤ 0 from by omega) (show 0 + 0 ≤ 0 from by omega) (fun r12 S11 H locs hQ hw hx1 => ?_)
    have hX := hX.trans hx1
    have hA9 := hA9.ext hx1
    have hA0 := hA0.ext hx1
    obtain ⟨hin, hQ⟩ := hQ
    refine as_38 F hw hA9 hin dX9_note_80 (fun S13 H locs eS13 hw hx1 => ?_)
    have hQ := hQ S13 eS13
    have hX := hX.trans hx1
    have hA0 := hA0.ext hx1
    refine lv_aload_n hx hb dX9_note_81 rfl (lv_at hl 0 rfl) ?_
    refine lv_dup hx hb dX9_note_82 rfl ?_
    refine g_8_30 F hw hA0 twf_RX9_98 dX9_note_83 ?_
    refine lv_iconst (v := 1) hx hb dX9_note_86 (by decide) ?_
    refine lv_iadd hx hb dX9_note_87 ?_
    refine p_8_30 F hw hA0 twf_RX9_98 dX9_note_88 (fun S14 H locs eS14 hw hx1 => ?_)
    have hQ := hQ S14 eS14
    have hX := hX.trans hx1
    have hA0 := hA0.ext hx1
    exact rt_v F hr hlk hw hX hQ (show (0 + 0) ≤ 0 from by omega) (show (0 + 0) ≤ 0 from by omega) dX9_note_91
  · have hQ := hQ.2 hc
    refine lv_iconst (v := 1) hx hb dX9_note_57 (by decide) ?_
    refine lv_goto (tgt := 72) hx hb dX9_note_58 (by decide) ?_
    refine lv_iload_n hx hb dX9_note_72 rfl (lv_at hl 1 rfl) ?_
    refine lv_iload_n hx hb dX9_note_73 rfl (lv_at hl 2 rfl) ?_
    refine lv_iload_n hx hb dX9_note_74 rfl (lv_at hl 3 rfl) ?_
    refine lv_lload hx hb dX9_note_75 (lv_at hl 4 rfl) ?_
    refine k_X9_next F hw hl hA0 hQ twm_RX9_101 (Nat.le_of_ble_eq_true rfl) (Nat.le_of_ble_eq_true rfl) (Nat.le_of_ble_eq_true rfl) dX9_note_77 (show 0 + 0 ≤ 0 from by omega) (show 0 + 0 ≤ 0 from by omega) (fun r16 S15 H locs hQ hw hx1 => ?_)
    have hX := hX.trans hx1
    have hA9 := hA9.ext hx1
    have hA0 := hA0.ext hx1
    obtain ⟨hin, hQ⟩ := hQ
    refine as_38 F hw hA9 hin dX9_note_80 (fun S17 H locs eS17 hw hx1 => ?_)
    have hQ := hQ S17 eS17
    have hX := hX.trans hx1
    have hA0 := hA0.ext hx1
    refine lv_aload_n hx hb dX9_note_81 rfl (lv_at hl 0 rfl) ?_
    refine lv_dup hx hb dX9_note_82 rfl ?_
    refine g_8_30 F hw hA0 twf_RX9_98 dX9_note_83 ?_
    refine lv_iconst (v := 1) hx hb dX9_note_86 (by decide) ?_
    refine lv_iadd hx hb dX9_note_87 ?_
    refine p_8_30 F hw hA0 twf_RX9_98 dX9_note_88 (fun S18 H locs eS18 hw hx1 => ?_)
    have hQ := hQ S18 eS18
    have hX := hX.trans hx1
    have hA0 := hA0.ext hx1
    exact rt_v F hr hlk hw hX hQ (show (0 + 0) ≤ 0 from by omega) (show (0 + 0) ≤ 0 from by omega) dX9_note_91
theorem k_X9_note {p : Program} {l : Launch} {e : Env} {R : Room} {s : State} {m : MethodId} {args : Array Value} {below : List Frame} {meth : Method} {c : Code} {H : Heap} {locs : List Loc} {cells slots : Nat} {Q : State → Prop} {cc : ByteArray} {pc nL : Nat} {ls : Array Slot} {rest : List Value} {G : GT} {S : St} {own : String} {p1 : Int32} {p2 : Int32} {p3 : Int32} {p4 : Int64} {post : St → Prop} {lv : List (Nat × Value)} {idx : Nat} (F : CX p m c cc nL s args own) (hw : WW G S s H locs) (hl : lv_has ls nL lv) {a0 : Nat} (hA0 : AtO S 8 0 a0) (hQ : wp_X9_note p1 p2 p3 p4 S post) (h1 : Cond.methodLink own idx yX9_note ∈ wT) (hR1 : 1 + 1 ≤ R.frames) (hR2 : 8 + (6 + 11) + 26 ≤ R.locals) (hrest : (rest.map fun v => v.category).sum ≤ 8) (hdg : decode cc pc = .ok (.invokevirtual idx, 3)) (hf1 : cells + 0 ≤ R.cells) (hf2 : slots + 0 ≤ R.slots)
    (kk : ∀ (S1 : St) (H1 : Heap) (locs1 : List Loc), post S1 → WW G S1 s H1 locs1 → Ext S S1 → W p l e R s m args below meth c H1 locs1 (cells + 0) (slots + 0) Q (F0 m (pc + 3) ls rest)) : W p l e R s m args below meth c H locs cells slots Q (F0 m pc ls (.long p4 :: .int p3 :: .int p2 :: .int p1 :: .ref a0 :: rest)) :=
  cl_v (rn_V (n := 4) (As := [.int p1, .int p2, .int p3, .long p4]) (q := (RX9, TX9, 36)) F hw hl (m_X9_note l G p1 p2 p3 p4 S a0 hA0 post hQ) 8 (by decide) (by decide) hA0 rfl rfl h1 twi_yX9_note tws_yX9_note twn_RX9 two_yX9_note rfl rfl ⟨rfl, by decide, by decide, by decide +kernel⟩ rfl ⟨hR1, hR2⟩ rfl hrest hdg ⟨hf1, hf2⟩) hw kk
-- X9_heldBy
def bd_X9_heldBy_5 (p1 : Int32) (post : Int64 → St → Prop) (K5 : Int32 → Int64 → St → Prop) (x4_5 : Int32) (x2_5 : Int64) (S1 : St) : Prop :=
  ((gi S1 8 0 0) ≤ x4_5 →
  post x2_5 S1) ∧
  (¬ (gi S1 8 0 0) ≤ x4_5 →
  vp_in x4_5 60 ∧
  ((gi S1 20 0 x4_5.toNatClampNeg) = (3 : Int32) →
  vp_in x4_5 60 ∧
  (¬ (gi S1 21 0 x4_5.toNatClampNeg) = p1 →
  ∀ v4 : Int64, v4 = x2_5 + (0 : Int64) →
  ∀ v5 : Int32, v5 = x4_5 + (1 : Int32) →
  K5 v5 v4 S1) ∧
  ((gi S1 21 0 x4_5.toNatClampNeg) = p1 →
  vp_in x4_5 60 ∧
  ∀ v7 : Int64, v7 = x2_5 + (gj S1 22 0 x4_5.toNatClampNeg) →
  ∀ v8 : Int32, v8 = x4_5 + (1 : Int32) →
  K5 v8 v7 S1)) ∧
  (¬ (gi S1 20 0 x4_5.toNatClampNeg) = (3 : Int32) →
  vp_in x4_5 60 ∧
  (¬ (gi S1 20 0 x4_5.toNatClampNeg) = (2 : Int32) →
  ∀ v10 : Int64, v10 = x2_5 + (0 : Int64) →
  ∀ v11 : Int32, v11 = x4_5 + (1 : Int32) →
  K5 v11 v10 S1) ∧
  ((gi S1 20 0 x4_5.toNatClampNeg) = (2 : Int32) →
  vp_in x4_5 60 ∧
  (¬ (gi S1 21 0 x4_5.toNatClampNeg) = p1 →
  ∀ v13 : Int64, v13 = x2_5 + (0 : Int64) →
  ∀ v14 : Int32, v14 = x4_5 + (1 : Int32) →
  K5 v14 v13 S1) ∧
  ((gi S1 21 0 x4_5.toNatClampNeg) = p1 →
  vp_in x4_5 60 ∧
  ∀ v16 : Int64, v16 = x2_5 + (gj S1 22 0 x4_5.toNatClampNeg) →
  ∀ v17 : Int32, v17 = x4_5 + (1 : Int32) →
  K5 v17 v16 S1))))
def lp_X9_heldBy_5 (p1 : Int32) (post : Int64 → St → Prop) : Nat → Int32 → Int64 → St → Prop
  | 0, _, _, _ => False
  | n + 1, x4_5, x2_5, S1 => bd_X9_heldBy_5 p1 post (fun x4_5 x2_5 S1 => lp_X9_heldBy_5 p1 post n x4_5 x2_5 S1) x4_5 x2_5 S1
def wp_X9_heldBy (p1 : Int32) (S0 : St) (post : Int64 → St → Prop) : Prop :=
  ∃ n : Nat, lp_X9_heldBy_5 p1 post n (0 : Int32) (0 : Int64) S0
set_option maxRecDepth 100000 in
set_option maxHeartbeats 4000000 in
theorem m_X9_heldBy (l : Launch) (G : GT) (p1 : Int32) (S0 : St) (a0 : Nat) (hA0 : AtO S0 8 0 a0) (post : Int64 → St → Prop) (hQ : wp_X9_heldBy p1 S0 post) : Met l yX9_heldBy (wM yX9_heldBy cX9_heldBy 5 (some (FieldType.long))) ({ frames := 0, cells := 0, slots := 0, locals := 0 } : Room) (PC G S0 [.ref a0, .int p1]) (QJ G S0 post) 0 0 (QA G) := by
  refine mt_start RX9 (by decide) rfl (Nat.le_of_ble_eq_true rfl) ?_
  intro p e s m args below meth c ls F hr hlk hnm hw hl
  have hx := F.1
  have hb := F.2.1
  have hown := F.2.2.2.1
  have hts := F.2.2.2.2
  have hX : Ext S0 S0 := Ext.rf
  have hsz0 := hw.1.1.1
  have hl : lv_has ls 5 [(0, .ref a0), (1, .int p1)] := hl
  unfold wp_X9_heldBy at hQ
  refine lv_lconst (v := 0) hx hb dX9_heldBy_0 (by decide) ?_
  refine lv_lstore_n (lv' := [(2, .long (0 : Int64)), (0, .ref a0), (1, .int p1)]) hx hb dX9_heldBy_1 rfl hl (by decide) rfl (fun ls hl => ?_)
  refine lv_iconst (v := 0) hx hb dX9_heldBy_2 (by decide) ?_
  refine lv_istore (lv' := [(4, .int (0 : Int32)), (2, .long (0 : Int64)), (0, .ref a0), (1, .int p1)]) hx hb dX9_heldBy_3 hl (by decide) rfl (fun ls hl => ?_)
  have hloop5 : ∀ (n5 : Nat) (x4_5 : Int32) (x2_5 : Int64) (S1 : St) (H : Heap) (locs : List Loc) (ls : Array Slot) (cl5 sl5 : Nat), lp_X9_heldBy_5 p1 post n5 x4_5 x2_5 S1 → WW G S1 s H locs → Ext S0 S1 → AtO S1 8 0 a0 → lv_has ls 5 [(4, .int x4_5), (2, .long x2_5), (0, .ref a0), (1, .int p1)] → cl5 ≤ 0 + 0 → sl5 ≤ 0 + 0 → W p l e ({ frames := 0, cells := 0, slots := 0, locals := 0 } : Room) s m args below meth c H locs cl5 sl5 (MQ below (QJ G S0 post) args s 0 0 (QA G)) (F0 m 5 ls []) := by
    intro n5
    induction n5 with
    | zero => intro x4_5 x2_5 S1 H locs ls cl sl hQ; exact False.elim hQ
    | succ n5 ih5 =>
      intro x4_5 x2_5 S1 H locs ls cl5 sl5 hQ hw hX hA0 hl hcl5 hsl5
      have hQ : bd_X9_heldBy_5 p1 post (fun x4_5 x2_5 S1 => lp_X9_heldBy_5 p1 post n5 x4_5 x2_5 S1) x4_5 x2_5 S1 := hQ
      unfold bd_X9_heldBy_5 at hQ
      refine lv_iload hx hb dX9_heldBy_5 (lv_at hl 0 rfl) ?_
      refine lv_aload_n hx hb dX9_heldBy_7 rfl (lv_at hl 2 rfl) ?_
      refine g_8_0 F hw hA0 twf_RX9_82 dX9_heldBy_8 ?_
      refine lv_icmp_ge (tgt := 67) hx hb dX9_heldBy_11 (by decide) (fun hc => ?_) (fun hc => ?_)
      · have hQ := hQ.1 hc
        refine lv_lload_n hx hb dX9_heldBy_67 rfl (lv_at hl 1 rfl) ?_
        exact rt_l F hr hlk hw hX hQ (show cl5 ≤ 0 from by omega) (show sl5 ≤ 0 from by omega) dX9_heldBy_68
      · have hQ := hQ.2 hc
        refine lv_lload_n hx hb dX9_heldBy_14 rfl (lv_at hl 1 rfl) ?_
        refine lv_aload_n hx hb dX9_heldBy_15 rfl (lv_at hl 2 rfl) ?_
        refine g_8_4 F hw hA0 twf_RX9_20 dX9_heldBy_16 (fun a2 hA2 => ?_)
        refine lv_iload hx hb dX9_heldBy_19 (lv_at hl 0 rfl) ?_
        obtain ⟨hin, hQ⟩ := hQ
        refine al_20 F hw hA2 hin dX9_heldBy_21 ?_
        refine lv_iconst (v := 3) hx hb dX9_heldBy_22 (by decide) ?_
        refine lv_icmp_eq (tgt := 37) hx hb dX9_heldBy_23 (by decide) (fun hc => ?_) (fun hc => ?_)
        · have hQ := hQ.1 hc
          refine lv_aload_n hx hb dX9_heldBy_37 rfl (lv_at hl 2 rfl) ?_
          refine g_8_5 F hw hA0 twf_RX9_23 dX9_heldBy_38 (fun a3 hA3 => ?_)
          refine lv_iload hx hb dX9_heldBy_41 (lv_at hl 0 rfl) ?_
          obtain ⟨hin, hQ⟩ := hQ
          refine al_21 F hw hA3 hin dX9_heldBy_43 ?_
          refine lv_iload_n hx hb dX9_heldBy_44 rfl (lv_at hl 3 rfl) ?_
          refine lv_icmp_ne (tgt := 58) hx hb dX9_heldBy_45 (by decide) (fun hc => ?_) (fun hc => ?_)
          · have hQ := hQ.1 hc
            refine lv_lconst (v := 0) hx hb dX9_heldBy_58 (by decide) ?_
            refine lv_ladd hx hb dX9_heldBy_59 ?_
            refine lv_topl (fun v4 ev4 => ?_)
            have hQ := hQ v4 ev4
            refine lv_lstore_n (lv' := [(2, .long v4), (4, .int x4_5), (0, .ref a0), (1, .int p1)]) hx hb dX9_heldBy_60 rfl hl (by decide) rfl (fun ls hl => ?_)
            obtain ⟨v5, ev5⟩ : ∃ y : Int32, y = x4_5 + (1 : Int32) := ⟨_, rfl⟩
            have hQ := hQ v5 ev5
            refine lv_iinc (v := v5) (lv' := [(4, .int v5), (2, .long v4), (0, .ref a0), (1, .int p1)]) hx hb dX9_heldBy_61 hl (k := 1) rfl (by rw [ev5]; rfl) (by decide) rfl (fun ls hl => ?_)
            refine lv_goto (tgt := 5) hx hb dX9_heldBy_64 (by decide) ?_
            exact ih5 v5 v4 S1 _ _ _ _ _ hQ hw hX hA0 (lv_sub hl [0, 1, 2, 3] rfl) (by omega) (by omega)
          · have hQ := hQ.2 hc
            refine lv_aload_n hx hb dX9_heldBy_48 rfl (lv_at hl 2 rfl) ?_
            refine g_8_6 F hw hA0 twf_RX9_26 dX9_heldBy_49 (fun a6 hA6 => ?_)
            refine lv_iload hx hb dX9_heldBy_52 (lv_at hl 0 rfl) ?_
            obtain ⟨hin, hQ⟩ := hQ
            refine al_22 F hw hA6 hin dX9_heldBy_54 ?_
            refine lv_goto (tgt := 59) hx hb dX9_heldBy_55 (by decide) ?_
            refine lv_ladd hx hb dX9_heldBy_59 ?_
            refine lv_topl (fun v7 ev7 => ?_)
            have hQ := hQ v7 ev7
            refine lv_lstore_n (lv' := [(2, .long v7), (4, .int x4_5), (0, .ref a0), (1, .int p1)]) hx hb dX9_heldBy_60 rfl hl (by decide) rfl (fun ls hl => ?_)
            obtain ⟨v8, ev8⟩ : ∃ y : Int32, y = x4_5 + (1 : Int32) := ⟨_, rfl⟩
            have hQ := hQ v8 ev8
            refine lv_iinc (v := v8) (lv' := [(4, .int v8), (2, .long v7), (0, .ref a0), (1, .int p1)]) hx hb dX9_heldBy_61 hl (k := 1) rfl (by rw [ev8]; rfl) (by decide) rfl (fun ls hl => ?_)
            refine lv_goto (tgt := 5) hx hb dX9_heldBy_64 (by decide) ?_
            exact ih5 v8 v7 S1 _ _ _ _ _ hQ hw hX hA0 (lv_sub hl [0, 1, 2, 3] rfl) (by omega) (by omega)
        · have hQ := hQ.2 hc
          refine lv_aload_n hx hb dX9_heldBy_26 rfl (lv_at hl 2 rfl) ?_
          refine g_8_4 F hw hA0 twf_RX9_20 dX9_heldBy_27 (fun a9 hA9 => ?_)
          refine lv_iload hx hb dX9_heldBy_30 (lv_at hl 0 rfl) ?_
          obtain ⟨hin, hQ⟩ := hQ
          refine al_20 F hw hA9 hin dX9_heldBy_32 ?_
          refine lv_iconst (v := 2) hx hb dX9_heldBy_33 (by decide) ?_
          refine lv_icmp_ne (tgt := 58) hx hb dX9_heldBy_34 (by decide) (fun hc => ?_) (fun hc => ?_)
          · have hQ := hQ.1 hc
            refine lv_lconst (v := 0) hx hb dX9_heldBy_58 (by decide) ?_
            refine lv_ladd hx hb dX9_heldBy_59 ?_
            refine lv_topl (fun v10 ev10 => ?_)
            have hQ := hQ v10 ev10
            refine lv_lstore_n (lv' := [(2, .long v10), (4, .int x4_5), (0, .ref a0), (1, .int p1)]) hx hb dX9_heldBy_60 rfl hl (by decide) rfl (fun ls hl => ?_)
            obtain ⟨v11, ev11⟩ : ∃ y : Int32, y = x4_5 + (1 : Int32) := ⟨_, rfl⟩
            have hQ := hQ v11 ev11
            refine lv_iinc (v := v11) (lv' := [(4, .int v11), (2, .long v10), (0, .ref a0), (1, .int p1)]) hx hb dX9_heldBy_61 hl (k := 1) rfl (by rw [ev11]; rfl) (by decide) rfl (fun ls hl => ?_)
            refine lv_goto (tgt := 5) hx hb dX9_heldBy_64 (by decide) ?_
            exact ih5 v11 v10 S1 _ _ _ _ _ hQ hw hX hA0 (lv_sub hl [0, 1, 2, 3] rfl) (by omega) (by omega)
          · have hQ := hQ.2 hc
            refine lv_aload_n hx hb dX9_heldBy_37 rfl (lv_at hl 2 rfl) ?_
            refine g_8_5 F hw hA0 twf_RX9_23 dX9_heldBy_38 (fun a12 hA12 => ?_)
            refine lv_iload hx hb dX9_heldBy_41 (lv_at hl 0 rfl) ?_
            obtain ⟨hin, hQ⟩ := hQ
            refine al_21 F hw hA12 hin dX9_heldBy_43 ?_
            refine lv_iload_n hx hb dX9_heldBy_44 rfl (lv_at hl 3 rfl) ?_
            refine lv_icmp_ne (tgt := 58) hx hb dX9_heldBy_45 (by decide) (fun hc => ?_) (fun hc => ?_)
            · have hQ := hQ.1 hc
              refine lv_lconst (v := 0) hx hb dX9_heldBy_58 (by decide) ?_
              refine lv_ladd hx hb dX9_heldBy_59 ?_
              refine lv_topl (fun v13 ev13 => ?_)
              have hQ := hQ v13 ev13
              refine lv_lstore_n (lv' := [(2, .long v13), (4, .int x4_5), (0, .ref a0), (1, .int p1)]) hx hb dX9_heldBy_60 rfl hl (by decide) rfl (fun ls hl => ?_)
              obtain ⟨v14, ev14⟩ : ∃ y : Int32, y = x4_5 + (1 : Int32) := ⟨_, rfl⟩
              have hQ := hQ v14 ev14
              refine lv_iinc (v := v14) (lv' := [(4, .int v14), (2, .long v13), (0, .ref a0), (1, .int p1)]) hx hb dX9_heldBy_61 hl (k := 1) rfl (by rw [ev14]; rfl) (by decide) rfl (fun ls hl => ?_)
              refine lv_goto (tgt := 5) hx hb dX9_heldBy_64 (by decide) ?_
              exact ih5 v14 v13 S1 _ _ _ _ _ hQ hw hX hA0 (lv_sub hl [0, 1, 2, 3] rfl) (by omega) (by omega)
            · have hQ := hQ.2 hc
              refine lv_aload_n hx hb dX9_heldBy_48 rfl (lv_at hl 2 rfl) ?_
              refine g_8_6 F hw hA0 twf_RX9_26 dX9_heldBy_49 (fun a15 hA15 => ?_)
              refine lv_iload hx hb dX9_heldBy_52 (lv_at hl 0 rfl) ?_
              obtain ⟨hin, hQ⟩ := hQ
              refine al_22 F hw hA15 hin dX9_heldBy_54 ?_
              refine lv_goto (tgt := 59) hx hb dX9_heldBy_55 (by decide) ?_
              refine lv_ladd hx hb dX9_heldBy_59 ?_
              refine lv_topl (fun v16 ev16 => ?_)
              have hQ := hQ v16 ev16
              refine lv_lstore_n (lv' := [(2, .long v16), (4, .int x4_5), (0, .ref a0), (1, .int p1)]) hx hb dX9_heldBy_60 rfl hl (by decide) rfl (fun ls hl => ?_)
              obtain ⟨v17, ev17⟩ : ∃ y : Int32, y = x4_5 + (1 : Int32) := ⟨_, rfl⟩
              have hQ := hQ v17 ev17
              refine lv_iinc (v := v17) (lv' := [(4, .int v17), (2, .long v16), (0, .ref a0), (1, .int p1)]) hx hb dX9_heldBy_61 hl (k := 1) rfl (by rw [ev17]; rfl) (by decide) rfl (fun ls hl => ?_)
              refine lv_goto (tgt := 5) hx hb dX9_heldBy_64 (by decide) ?_
              exact ih5 v17 v16 S1 _ _ _ _ _ hQ hw hX hA0 (lv_sub hl [0, 1, 2, 3] rfl) (by omega) (by omega)
  obtain ⟨n, hQ⟩ := hQ
  exact hloop5 n (0 : Int32) (0 : Int64) S0 _ _ _ _ _ hQ hw hX hA0 (lv_sub hl [0, 1, 2, 3] rfl) (by omega) (by omega)
theorem k_X9_heldBy {p : Program} {l : Launch} {e : Env} {R : Room} {s : State} {m : MethodId} {args : Array Value} {below : List Frame} {meth : Method} {c : Code} {H : Heap} {locs : List Loc} {cells slots : Nat} {Q : State → Prop} {cc : ByteArray} {pc nL : Nat} {ls : Array Slot} {rest : List Value} {G : GT} {S : St} {own : String} {p1 : Int32} {post : Int64 → St → Prop} {lv : List (Nat × Value)} {idx : Nat} (F : CX p m c cc nL s args own) (hw : WW G S s H locs) (hl : lv_has ls nL lv) {a0 : Nat} (hA0 : AtO S 8 0 a0) (hQ : wp_X9_heldBy p1 S post) (h1 : Cond.methodLink own idx yX9_heldBy ∈ wT) (hR1 : 0 + 1 ≤ R.frames) (hR2 : 8 + (5 + 11) + 0 ≤ R.locals) (hrest : (rest.map fun v => v.category).sum ≤ 8) (hdg : decode cc pc = .ok (.invokevirtual idx, 3)) (hf1 : cells + 0 ≤ R.cells) (hf2 : slots + 0 ≤ R.slots)
    (kk : ∀ (r : Int64) (S1 : St) (H1 : Heap) (locs1 : List Loc), post r S1 → WW G S1 s H1 locs1 → Ext S S1 → W p l e R s m args below meth c H1 locs1 (cells + 0) (slots + 0) Q (F0 m (pc + 3) ls (.long r :: rest))) : W p l e R s m args below meth c H locs cells slots Q (F0 m pc ls (.int p1 :: .ref a0 :: rest)) :=
  cl_l (rn_V (n := 1) (As := [.int p1]) (q := (RX9, TX9, 36)) F hw hl (m_X9_heldBy l G p1 S a0 hA0 post hQ) 8 (by decide) (by decide) hA0 rfl rfl h1 twi_yX9_heldBy tws_yX9_heldBy twn_RX9 two_yX9_heldBy rfl rfl ⟨rfl, by decide, by decide, by decide +kernel⟩ rfl ⟨hR1, hR2⟩ rfl hrest hdg ⟨hf1, hf2⟩) hw kk
-- X9_free
def wp_X9_free (p1 : Int32) (S0 : St) (post : Int64 → St → Prop) : Prop :=
  vp_in p1 30 ∧
  wp_X9_heldBy p1 S0 (fun r3 S2 =>
  post ((gj S0 28 0 p1.toNatClampNeg) - r3) S2)
set_option maxRecDepth 100000 in
set_option maxHeartbeats 4000000 in
theorem m_X9_free (l : Launch) (G : GT) (p1 : Int32) (S0 : St) (a0 : Nat) (hA0 : AtO S0 8 0 a0) (post : Int64 → St → Prop) (hQ : wp_X9_free p1 S0 post) : Met l yX9_free (wM yX9_free cX9_free 2 (some (FieldType.long))) ({ frames := 1, cells := 0, slots := 0, locals := 24 } : Room) (PC G S0 [.ref a0, .int p1]) (QJ G S0 post) 0 0 (QA G) := by
  refine mt_start RX9 (by decide) rfl (Nat.le_of_ble_eq_true rfl) ?_
  intro p e s m args below meth c ls F hr hlk hnm hw hl
  have hx := F.1
  have hb := F.2.1
  have hown := F.2.2.2.1
  have hts := F.2.2.2.2
  have hX : Ext S0 S0 := Ext.rf
  have hsz0 := hw.1.1.1
  have hl : lv_has ls 2 [(0, .ref a0), (1, .int p1)] := hl
  unfold wp_X9_free at hQ
  refine lv_aload_n hx hb dX9_free_0 rfl (lv_at hl 0 rfl) ?_
  refine g_8_13 F hw hA0 twf_RX9_45 dX9_free_1 (fun a1 hA1 => ?_)
  refine lv_iload_n hx hb dX9_free_4 rfl (lv_at hl 1 rfl) ?_
  obtain ⟨hin, hQ⟩ := hQ
  refine al_28 F hw hA1 hin dX9_free_5 ?_
  refine lv_aload_n hx hb dX9_free_6 rfl (lv_at hl 0 rfl) ?_
  refine lv_iload_n hx hb dX9_free_7 rfl (lv_at hl 1 rfl) ?_
  refine k_X9_heldBy F hw hl hA0 hQ twm_RX9_105 (Nat.le_of_ble_eq_true rfl) (Nat.le_of_ble_eq_true rfl) (Nat.le_of_ble_eq_true rfl) dX9_free_8 (show 0 + 0 ≤ 0 from by omega) (show 0 + 0 ≤ 0 from by omega) (fun r3 S2 H locs hQ hw hx1 => ?_)
  have hX := hX.trans hx1
  have hA0 := hA0.ext hx1
  refine lv_lsub hx hb dX9_free_11 ?_
  exact rt_l F hr hlk hw hX hQ (show (0 + 0) ≤ 0 from by omega) (show (0 + 0) ≤ 0 from by omega) dX9_free_12
theorem k_X9_free {p : Program} {l : Launch} {e : Env} {R : Room} {s : State} {m : MethodId} {args : Array Value} {below : List Frame} {meth : Method} {c : Code} {H : Heap} {locs : List Loc} {cells slots : Nat} {Q : State → Prop} {cc : ByteArray} {pc nL : Nat} {ls : Array Slot} {rest : List Value} {G : GT} {S : St} {own : String} {p1 : Int32} {post : Int64 → St → Prop} {lv : List (Nat × Value)} {idx : Nat} (F : CX p m c cc nL s args own) (hw : WW G S s H locs) (hl : lv_has ls nL lv) {a0 : Nat} (hA0 : AtO S 8 0 a0) (hQ : wp_X9_free p1 S post) (h1 : Cond.methodLink own idx yX9_free ∈ wT) (hR1 : 1 + 1 ≤ R.frames) (hR2 : 8 + (2 + 11) + 24 ≤ R.locals) (hrest : (rest.map fun v => v.category).sum ≤ 8) (hdg : decode cc pc = .ok (.invokevirtual idx, 3)) (hf1 : cells + 0 ≤ R.cells) (hf2 : slots + 0 ≤ R.slots)
    (kk : ∀ (r : Int64) (S1 : St) (H1 : Heap) (locs1 : List Loc), post r S1 → WW G S1 s H1 locs1 → Ext S S1 → W p l e R s m args below meth c H1 locs1 (cells + 0) (slots + 0) Q (F0 m (pc + 3) ls (.long r :: rest))) : W p l e R s m args below meth c H locs cells slots Q (F0 m pc ls (.int p1 :: .ref a0 :: rest)) :=
  cl_l (rn_V (n := 1) (As := [.int p1]) (q := (RX9, TX9, 36)) F hw hl (m_X9_free l G p1 S a0 hA0 post hQ) 8 (by decide) (by decide) hA0 rfl rfl h1 twi_yX9_free tws_yX9_free twn_RX9 two_yX9_free rfl rfl ⟨rfl, by decide, by decide, by decide +kernel⟩ rfl ⟨hR1, hR2⟩ rfl hrest hdg ⟨hf1, hf2⟩) hw kk
-- X9_up
def wp_X9_up (p1 : Int64) (p2 : Int64) (S0 : St) (post : Int64 → St → Prop) : Prop :=
  ¬ p2 = 0 ∧
  post (((p1 + p2) - (1 : Int64)) / p2) S0
set_option maxRecDepth 100000 in
set_option maxHeartbeats 4000000 in
theorem m_X9_up (l : Launch) (G : GT) (p1 : Int64) (p2 : Int64) (S0 : St)  (post : Int64 → St → Prop) (hQ : wp_X9_up p1 p2 S0 post) : Met l yX9_up (wM yX9_up cX9_up 4 (some (FieldType.long))) ({ frames := 0, cells := 0, slots := 0, locals := 0 } : Room) (PC G S0 [.long p1, .long p2]) (QJ G S0 post) 0 0 (QA G) := by
  refine mt_start RX9 (by decide) rfl (Nat.le_of_ble_eq_true rfl) ?_
  intro p e s m args below meth c ls F hr hlk hnm hw hl
  have hx := F.1
  have hb := F.2.1
  have hown := F.2.2.2.1
  have hts := F.2.2.2.2
  have hX : Ext S0 S0 := Ext.rf
  have hsz0 := hw.1.1.1
  have hl : lv_has ls 4 [(0, .long p1), (2, .long p2)] := hl
  unfold wp_X9_up at hQ
  refine lv_lload_n hx hb dX9_up_0 rfl (lv_at hl 0 rfl) ?_
  refine lv_lload_n hx hb dX9_up_1 rfl (lv_at hl 1 rfl) ?_
  refine lv_ladd hx hb dX9_up_2 ?_
  refine lv_lconst (v := 1) hx hb dX9_up_3 (by decide) ?_
  refine lv_lsub hx hb dX9_up_4 ?_
  refine lv_lload_n hx hb dX9_up_5 rfl (lv_at hl 1 rfl) ?_
  obtain ⟨hne, hQ⟩ := hQ
  refine lv_ldiv hx hb dX9_up_6 hne ?_
  exact rt_l F hr hlk hw hX hQ (show 0 ≤ 0 from by omega) (show 0 ≤ 0 from by omega) dX9_up_7
theorem k_X9_up {p : Program} {l : Launch} {e : Env} {R : Room} {s : State} {m : MethodId} {args : Array Value} {below : List Frame} {meth : Method} {c : Code} {H : Heap} {locs : List Loc} {cells slots : Nat} {Q : State → Prop} {cc : ByteArray} {pc nL : Nat} {ls : Array Slot} {rest : List Value} {G : GT} {S : St} {own : String} {p1 : Int64} {p2 : Int64} {post : Int64 → St → Prop} {lv : List (Nat × Value)} {idx : Nat} (F : CX p m c cc nL s args own) (hw : WW G S s H locs) (hl : lv_has ls nL lv)  (hQ : wp_X9_up p1 p2 S post) (h1 : Cond.methodLink own idx yX9_up ∈ wT) (hR1 : 0 + 1 ≤ R.frames) (hR2 : 8 + (4 + 11) + 0 ≤ R.locals) (hrest : (rest.map fun v => v.category).sum ≤ 8) (hdg : decode cc pc = .ok (.invokestatic idx, 3)) (hf1 : cells + 0 ≤ R.cells) (hf2 : slots + 0 ≤ R.slots)
    (kk : ∀ (r : Int64) (S1 : St) (H1 : Heap) (locs1 : List Loc), post r S1 → WW G S1 s H1 locs1 → Ext S S1 → W p l e R s m args below meth c H1 locs1 (cells + 0) (slots + 0) Q (F0 m (pc + 3) ls (.long r :: rest))) : W p l e R s m args below meth c H locs cells slots Q (F0 m pc ls (.long p2 :: .long p1 :: rest)) :=
  cl_l (rn_S (n := 2) (As := [.long p1, .long p2]) F hw hl (m_X9_up l G p1 p2 S  post hQ) h1 twi_yX9_up twn_RX9 two_yX9_up rfl rfl ⟨by decide, by decide, by decide +kernel⟩ rfl ⟨hR1, hR2⟩ rfl hrest hdg ⟨hf1, hf2⟩) hw kk

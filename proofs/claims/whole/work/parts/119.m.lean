-- X9_bid
def wp_X9_bid (p1 : Int32) (p2 : Int64) (S0 : St) (post : Int32 → St → Prop) : Prop :=
  wp_X9_isBuyer p1 S0 (fun r2 S1 =>
  (r2 = 0 →
  post (-1 : Int32) S1) ∧
  (¬ r2 = 0 →
  ((gi S1 8 0 23) = (18 : Int32) →
  post (-1 : Int32) S1) ∧
  (¬ (gi S1 8 0 23) = (18 : Int32) →
  (p2 < (0 : Int64) →
  post (-1 : Int32) S1) ∧
  (¬ p2 < (0 : Int64) →
  (p2 ≤ (1000000000000 : Int64) →
  vp_in (gi S1 8 0 23) 18 ∧
  ∀ S4 : St, S4 = si S1 31 0 (gi S1 8 0 23).toNatClampNeg p1 →
  vp_in (gi S4 8 0 23) 18 ∧
  ∀ S6 : St, S6 = sj S4 32 0 (gi S4 8 0 23).toNatClampNeg p2 →
  vp_in (gi S6 8 0 23) 18 ∧
  ∀ S8 : St, S8 = sj S6 33 0 (gi S6 8 0 23).toNatClampNeg (0 : Int64) →
  ∀ S9 : St, S9 = si S8 8 0 23 ((gi S8 8 0 23) + (1 : Int32)) →
  post ((gi S9 8 0 23) - (1 : Int32)) S9) ∧
  (¬ p2 ≤ (1000000000000 : Int64) →
  post (-1 : Int32) S1)))))
set_option maxRecDepth 100000 in
set_option maxHeartbeats 4000000 in
theorem m_X9_bid (l : Launch) (G : GT) (p1 : Int32) (p2 : Int64) (S0 : St) (a0 : Nat) (hA0 : AtO S0 8 0 a0) (post : Int32 → St → Prop) (hQ : wp_X9_bid p1 p2 S0 post) : Met l yX9_bid (wM yX9_bid cX9_bid 4 (some (FieldType.int))) ({ frames := 1, cells := 0, slots := 0, locals := 21 } : Room) (PC G S0 [.ref a0, .int p1, .long p2]) (QI G S0 post) 0 0 (QA G) := by
  refine mt_start RX9 (by decide) rfl (Nat.le_of_ble_eq_true rfl) ?_
  intro p e s m args below meth c ls F hr hlk hnm hw hl
  have hx := F.1
  have hb := F.2.1
  have hown := F.2.2.2.1
  have hts := F.2.2.2.2
  have hX : Ext S0 S0 := Ext.rf
  have hsz0 := hw.1.1.1
  have hl : lv_has ls 4 [(0, .ref a0), (1, .int p1), (2, .long p2)] := hl
  unfold wp_X9_bid at hQ
  refine lv_aload_n hx hb dX9_bid_0 rfl (lv_at hl 0 rfl) ?_
  refine lv_iload_n hx hb dX9_bid_1 rfl (lv_at hl 1 rfl) ?_
  refine k_X9_isBuyer F hw hl hA0 hQ twm_RX9_150 (Nat.le_of_ble_eq_true rfl) (Nat.le_of_ble_eq_true rfl) (Nat.le_of_ble_eq_true rfl) dX9_bid_2 (show 0 + 0 ≤ 0 from by omega) (show 0 + 0 ≤ 0 from by omega) (fun r2 S1 H locs hQ hw hx1 => ?_)
  have hX := hX.trans hx1
  have hA0 := hA0.ext hx1
  refine lv_if_eq (tgt := 31) hx hb dX9_bid_5 (by decide) (fun hc => ?_) (fun hc => ?_)
  · have hQ := hQ.1 hc
    refine lv_iconst (v := -1) hx hb dX9_bid_31 (by decide) ?_
    exact rt_i F hr hlk hw hX hQ (show (0 + 0) ≤ 0 from by omega) (show (0 + 0) ≤ 0 from by omega) dX9_bid_32
  · have hQ := hQ.2 hc
    refine lv_aload_n hx hb dX9_bid_8 rfl (lv_at hl 0 rfl) ?_
    refine g_8_23 F hw hA0 twf_RX9_196 dX9_bid_9 ?_
    refine lv_bipush (v := 18) hx hb dX9_bid_12 (by decide) ?_
    refine lv_icmp_eq (tgt := 31) hx hb dX9_bid_14 (by decide) (fun hc => ?_) (fun hc => ?_)
    · have hQ := hQ.1 hc
      refine lv_iconst (v := -1) hx hb dX9_bid_31 (by decide) ?_
      exact rt_i F hr hlk hw hX hQ (show (0 + 0) ≤ 0 from by omega) (show (0 + 0) ≤ 0 from by omega) dX9_bid_32
    · have hQ := hQ.2 hc
      refine lv_lload_n hx hb dX9_bid_17 rfl (lv_at hl 2 rfl) ?_
      refine lv_lconst (v := 0) hx hb dX9_bid_18 (by decide) ?_
      refine lc_lt (tgt := 31) F dX9_bid_19 dX9_bid_20 (by decide) (fun hc => ?_) (fun hc => ?_)
      · have hQ := hQ.1 hc
        refine lv_iconst (v := -1) hx hb dX9_bid_31 (by decide) ?_
        exact rt_i F hr hlk hw hX hQ (show (0 + 0) ≤ 0 from by omega) (show (0 + 0) ≤ 0 from by omega) dX9_bid_32
      · have hQ := hQ.2 hc
        refine lv_lload_n hx hb dX9_bid_23 rfl (lv_at hl 2 rfl) ?_
        refine lv_ldc2 (v := 1000000000000) hx hb hown (hts _ twl_RX9_115) dX9_bid_24 ?_
        refine lc_le (tgt := 33) F dX9_bid_27 dX9_bid_28 (by decide) (fun hc => ?_) (fun hc => ?_)
        · have hQ := hQ.1 hc
          refine lv_aload_n hx hb dX9_bid_33 rfl (lv_at hl 0 rfl) ?_
          refine g_8_24 F hw hA0 twf_RX9_58 dX9_bid_34 (fun a3 hA3 => ?_)
          refine lv_aload_n hx hb dX9_bid_37 rfl (lv_at hl 0 rfl) ?_
          refine g_8_23 F hw hA0 twf_RX9_196 dX9_bid_38 ?_
          refine lv_iload_n hx hb dX9_bid_41 rfl (lv_at hl 1 rfl) ?_
          obtain ⟨hin, hQ⟩ := hQ
          refine as_31 F hw hA3 hin dX9_bid_42 (fun S4 H locs eS4 hw hx1 => ?_)
          have hQ := hQ S4 eS4
          have hX := hX.trans hx1
          have hA0 := hA0.ext hx1
          refine lv_aload_n hx hb dX9_bid_43 rfl (lv_at hl 0 rfl) ?_
          refine g_8_25 F hw hA0 twf_RX9_61 dX9_bid_44 (fun a5 hA5 => ?_)
          refine lv_aload_n hx hb dX9_bid_47 rfl (lv_at hl 0 rfl) ?_
          refine g_8_23 F hw hA0 twf_RX9_196 dX9_bid_48 ?_
          refine lv_lload_n hx hb dX9_bid_51 rfl (lv_at hl 2 rfl) ?_
          obtain ⟨hin, hQ⟩ := hQ
          refine as_32 F hw hA5 hin dX9_bid_52 (fun S6 H locs eS6 hw hx1 => ?_)
          have hQ := hQ S6 eS6
          have hX := hX.trans hx1
          have hA0 := hA0.ext hx1
          refine lv_aload_n hx hb dX9_bid_53 rfl (lv_at hl 0 rfl) ?_
          refine g_8_26 F hw hA0 twf_RX9_64 dX9_bid_54 (fun a7 hA7 => ?_)
          refine lv_aload_n hx hb dX9_bid_57 rfl (lv_at hl 0 rfl) ?_
          refine g_8_23 F hw hA0 twf_RX9_196 dX9_bid_58 ?_
          refine lv_lconst (v := 0) hx hb dX9_bid_61 (by decide) ?_
          obtain ⟨hin, hQ⟩ := hQ
          refine as_33 F hw hA7 hin dX9_bid_62 (fun S8 H locs eS8 hw hx1 => ?_)
          have hQ := hQ S8 eS8
          have hX := hX.trans hx1
          have hA0 := hA0.ext hx1
          refine lv_aload_n hx hb dX9_bid_63 rfl (lv_at hl 0 rfl) ?_
          refine lv_dup hx hb dX9_bid_64 rfl ?_
          refine g_8_23 F hw hA0 twf_RX9_196 dX9_bid_65 ?_
          refine lv_iconst (v := 1) hx hb dX9_bid_68 (by decide) ?_
          refine lv_iadd hx hb dX9_bid_69 ?_
          refine p_8_23 F hw hA0 twf_RX9_196 dX9_bid_70 (fun S9 H locs eS9 hw hx1 => ?_)
          have hQ := hQ S9 eS9
          have hX := hX.trans hx1
          have hA0 := hA0.ext hx1
          refine lv_aload_n hx hb dX9_bid_73 rfl (lv_at hl 0 rfl) ?_
          refine g_8_23 F hw hA0 twf_RX9_196 dX9_bid_74 ?_
          refine lv_iconst (v := 1) hx hb dX9_bid_77 (by decide) ?_
          refine lv_isub hx hb dX9_bid_78 ?_
          exact rt_i F hr hlk hw hX hQ (show (0 + 0) ≤ 0 from by omega) (show (0 + 0) ≤ 0 from by omega) dX9_bid_79
        · have hQ := hQ.2 hc
          refine lv_iconst (v := -1) hx hb dX9_bid_31 (by decide) ?_
          exact rt_i F hr hlk hw hX hQ (show (0 + 0) ≤ 0 from by omega) (show (0 + 0) ≤ 0 from by omega) dX9_bid_32
theorem k_X9_bid {p : Program} {l : Launch} {e : Env} {R : Room} {s : State} {m : MethodId} {args : Array Value} {below : List Frame} {meth : Method} {c : Code} {H : Heap} {locs : List Loc} {cells slots : Nat} {Q : State → Prop} {cc : ByteArray} {pc nL : Nat} {ls : Array Slot} {rest : List Value} {G : GT} {S : St} {own : String} {p1 : Int32} {p2 : Int64} {post : Int32 → St → Prop} {lv : List (Nat × Value)} {idx : Nat} (F : CX p m c cc nL s args own) (hw : WW G S s H locs) (hl : lv_has ls nL lv) {a0 : Nat} (hA0 : AtO S 8 0 a0) (hQ : wp_X9_bid p1 p2 S post) (h1 : Cond.methodLink own idx yX9_bid ∈ wT) (hR1 : 1 + 1 ≤ R.frames) (hR2 : 8 + (4 + 11) + 21 ≤ R.locals) (hrest : (rest.map fun v => v.category).sum ≤ 8) (hdg : decode cc pc = .ok (.invokevirtual idx, 3)) (hf1 : cells + 0 ≤ R.cells) (hf2 : slots + 0 ≤ R.slots)
    (kk : ∀ (r : Int32) (S1 : St) (H1 : Heap) (locs1 : List Loc), post r S1 → WW G S1 s H1 locs1 → Ext S S1 → W p l e R s m args below meth c H1 locs1 (cells + 0) (slots + 0) Q (F0 m (pc + 3) ls (.int r :: rest))) : W p l e R s m args below meth c H locs cells slots Q (F0 m pc ls (.long p2 :: .int p1 :: .ref a0 :: rest)) :=
  cl_i (rn_V (n := 2) (As := [.int p1, .long p2]) (q := (RX9, TX9, 36)) F hw hl (m_X9_bid l G p1 p2 S a0 hA0 post hQ) 8 (by decide) (by decide) hA0 rfl rfl h1 twi_yX9_bid tws_yX9_bid twn_RX9 two_yX9_bid rfl rfl ⟨rfl, by decide, by decide, by decide +kernel⟩ rfl ⟨hR1, hR2⟩ rfl hrest hdg ⟨hf1, hf2⟩) hw kk
-- X9_on
def wp_X9_on (p1 : Int32) (p2 : Int32) (S0 : St) (post : Int32 → St → Prop) : Prop :=
  (p1 < 0 →
  post (0 : Int32) S0) ∧
  (¬ p1 < 0 →
  ((gi S0 8 0 23) ≤ p1 →
  post (0 : Int32) S0) ∧
  (¬ (gi S0 8 0 23) ≤ p1 →
  wp_X9_isLot p2 S0 (fun r2 S1 =>
  (r2 = 0 →
  post (0 : Int32) S1) ∧
  (¬ r2 = 0 →
  vp_in p1 18 ∧
  ((((gj S1 33 0 p1.toNatClampNeg) >>> (p2.toInt64 &&& 63)) &&& (1 : Int64)) = (1 : Int64) →
  post (0 : Int32) S1) ∧
  (¬ (((gj S1 33 0 p1.toNatClampNeg) >>> (p2.toInt64 &&& 63)) &&& (1 : Int64)) = (1 : Int64) →
  vp_in p2 60 ∧
  ((gi S1 20 0 p2.toNatClampNeg) = 0 →
  vp_in p1 18 ∧
  vp_in p1 18 ∧
  ∀ S7 : St, S7 = sj S1 33 0 p1.toNatClampNeg ((gj S1 33 0 p1.toNatClampNeg) ||| ((1 : Int64) <<< (p2.toInt64 &&& 63))) →
  post (1 : Int32) S7) ∧
  (¬ (gi S1 20 0 p2.toNatClampNeg) = 0 →
  post (0 : Int32) S1))))))
set_option maxRecDepth 100000 in
set_option maxHeartbeats 4000000 in
theorem m_X9_on (l : Launch) (G : GT) (p1 : Int32) (p2 : Int32) (S0 : St) (a0 : Nat) (hA0 : AtO S0 8 0 a0) (post : Int32 → St → Prop) (hQ : wp_X9_on p1 p2 S0 post) : Met l yX9_on (wM yX9_on cX9_on 3 (some (FieldType.boolean))) ({ frames := 1, cells := 0, slots := 0, locals := 21 } : Room) (PC G S0 [.ref a0, .int p1, .int p2]) (QI G S0 post) 0 0 (QA G) := by
  refine mt_start RX9 (by decide) rfl (Nat.le_of_ble_eq_true rfl) ?_
  intro p e s m args below meth c ls F hr hlk hnm hw hl
  have hx := F.1
  have hb := F.2.1
  have hown := F.2.2.2.1
  have hts := F.2.2.2.2
  have hX : Ext S0 S0 := Ext.rf
  have hsz0 := hw.1.1.1
  have hl : lv_has ls 3 [(0, .ref a0), (1, .int p1), (2, .int p2)] := hl
  unfold wp_X9_on at hQ
  refine lv_iload_n hx hb dX9_on_0 rfl (lv_at hl 1 rfl) ?_
  refine lv_if_lt (tgt := 44) hx hb dX9_on_1 (by decide) (fun hc => ?_) (fun hc => ?_)
  · have hQ := hQ.1 hc
    refine lv_iconst (v := 0) hx hb dX9_on_44 (by decide) ?_
    exact rt_z F hr hlk hw hX hQ rfl (show 0 ≤ 0 from by omega) (show 0 ≤ 0 from by omega) dX9_on_45
  · have hQ := hQ.2 hc
    refine lv_iload_n hx hb dX9_on_4 rfl (lv_at hl 1 rfl) ?_
    refine lv_aload_n hx hb dX9_on_5 rfl (lv_at hl 0 rfl) ?_
    refine g_8_23 F hw hA0 twf_RX9_196 dX9_on_6 ?_
    refine lv_icmp_ge (tgt := 44) hx hb dX9_on_9 (by decide) (fun hc => ?_) (fun hc => ?_)
    · have hQ := hQ.1 hc
      refine lv_iconst (v := 0) hx hb dX9_on_44 (by decide) ?_
      exact rt_z F hr hlk hw hX hQ rfl (show 0 ≤ 0 from by omega) (show 0 ≤ 0 from by omega) dX9_on_45
    · have hQ := hQ.2 hc
      refine lv_aload_n hx hb dX9_on_12 rfl (lv_at hl 0 rfl) ?_
      refine lv_iload_n hx hb dX9_on_13 rfl (lv_at hl 2 rfl) ?_
      refine k_X9_isLot F hw hl hA0 hQ twm_RX9_119 (Nat.le_of_ble_eq_true rfl) (Nat.le_of_ble_eq_true rfl) (Nat.le_of_ble_eq_true rfl) dX9_on_14 (show 0 + 0 ≤ 0 from by omega) (show 0 + 0 ≤ 0 from by omega) (fun r2 S1 H locs hQ hw hx1 => ?_)
      have hX := hX.trans hx1
      have hA0 := hA0.ext hx1
      refine lv_if_eq (tgt := 44) hx hb dX9_on_17 (by decide) (fun hc => ?_) (fun hc => ?_)
      · have hQ := hQ.1 hc
        refine lv_iconst (v := 0) hx hb dX9_on_44 (by decide) ?_
        exact rt_z F hr hlk hw hX hQ rfl (show (0 + 0) ≤ 0 from by omega) (show (0 + 0) ≤ 0 from by omega) dX9_on_45
      · have hQ := hQ.2 hc
        refine lv_aload_n hx hb dX9_on_20 rfl (lv_at hl 0 rfl) ?_
        refine g_8_26 F hw hA0 twf_RX9_64 dX9_on_21 (fun a3 hA3 => ?_)
        refine lv_iload_n hx hb dX9_on_24 rfl (lv_at hl 1 rfl) ?_
        obtain ⟨hin, hQ⟩ := hQ
        refine al_33 F hw hA3 hin dX9_on_25 ?_
        refine lv_iload_n hx hb dX9_on_26 rfl (lv_at hl 2 rfl) ?_
        refine lv_lshr hx hb dX9_on_27 rfl ?_
        refine lv_lconst (v := 1) hx hb dX9_on_28 (by decide) ?_
        refine lv_land hx hb dX9_on_29 ?_
        refine lv_lconst (v := 1) hx hb dX9_on_30 (by decide) ?_
        refine lc_eq (tgt := 44) F dX9_on_31 dX9_on_32 (by decide) (fun hc => ?_) (fun hc => ?_)
        · have hQ := hQ.1 hc
          refine lv_iconst (v := 0) hx hb dX9_on_44 (by decide) ?_
          exact rt_z F hr hlk hw hX hQ rfl (show (0 + 0) ≤ 0 from by omega) (show (0 + 0) ≤ 0 from by omega) dX9_on_45
        · have hQ := hQ.2 hc
          refine lv_aload_n hx hb dX9_on_35 rfl (lv_at hl 0 rfl) ?_
          refine g_8_4 F hw hA0 twf_RX9_20 dX9_on_36 (fun a4 hA4 => ?_)
          refine lv_iload_n hx hb dX9_on_39 rfl (lv_at hl 2 rfl) ?_
          obtain ⟨hin, hQ⟩ := hQ
          refine al_20 F hw hA4 hin dX9_on_40 ?_
          refine lv_if_eq (tgt := 46) hx hb dX9_on_41 (by decide) (fun hc => ?_) (fun hc => ?_)
          · have hQ := hQ.1 hc
            refine lv_aload_n hx hb dX9_on_46 rfl (lv_at hl 0 rfl) ?_
            refine g_8_26 F hw hA0 twf_RX9_64 dX9_on_47 (fun a5 hA5 => ?_)
            refine lv_iload_n hx hb dX9_on_50 rfl (lv_at hl 1 rfl) ?_
            refine lv_aload_n hx hb dX9_on_51 rfl (lv_at hl 0 rfl) ?_
            refine g_8_26 F hw hA0 twf_RX9_64 dX9_on_52 (fun a6 hA6 => ?_)
            refine lv_iload_n hx hb dX9_on_55 rfl (lv_at hl 1 rfl) ?_
            obtain ⟨hin, hQ⟩ := hQ
            refine al_33 F hw hA6 hin dX9_on_56 ?_
            refine lv_lconst (v := 1) hx hb dX9_on_57 (by decide) ?_
            refine lv_iload_n hx hb dX9_on_58 rfl (lv_at hl 2 rfl) ?_
            refine lv_lshl hx hb dX9_on_59 rfl ?_
            refine lv_lor hx hb dX9_on_60 ?_
            obtain ⟨hin, hQ⟩ := hQ
            refine as_33 F hw hA5 hin dX9_on_61 (fun S7 H locs eS7 hw hx1 => ?_)
            have hQ := hQ S7 eS7
            have hX := hX.trans hx1
            have hA0 := hA0.ext hx1
            refine lv_iconst (v := 1) hx hb dX9_on_62 (by decide) ?_
            exact rt_z F hr hlk hw hX hQ rfl (show (0 + 0) ≤ 0 from by omega) (show (0 + 0) ≤ 0 from by omega) dX9_on_63
          · have hQ := hQ.2 hc
            refine lv_iconst (v := 0) hx hb dX9_on_44 (by decide) ?_
            exact rt_z F hr hlk hw hX hQ rfl (show (0 + 0) ≤ 0 from by omega) (show (0 + 0) ≤ 0 from by omega) dX9_on_45
theorem k_X9_on {p : Program} {l : Launch} {e : Env} {R : Room} {s : State} {m : MethodId} {args : Array Value} {below : List Frame} {meth : Method} {c : Code} {H : Heap} {locs : List Loc} {cells slots : Nat} {Q : State → Prop} {cc : ByteArray} {pc nL : Nat} {ls : Array Slot} {rest : List Value} {G : GT} {S : St} {own : String} {p1 : Int32} {p2 : Int32} {post : Int32 → St → Prop} {lv : List (Nat × Value)} {idx : Nat} (F : CX p m c cc nL s args own) (hw : WW G S s H locs) (hl : lv_has ls nL lv) {a0 : Nat} (hA0 : AtO S 8 0 a0) (hQ : wp_X9_on p1 p2 S post) (h1 : Cond.methodLink own idx yX9_on ∈ wT) (hR1 : 1 + 1 ≤ R.frames) (hR2 : 8 + (3 + 11) + 21 ≤ R.locals) (hrest : (rest.map fun v => v.category).sum ≤ 8) (hdg : decode cc pc = .ok (.invokevirtual idx, 3)) (hf1 : cells + 0 ≤ R.cells) (hf2 : slots + 0 ≤ R.slots)
    (kk : ∀ (r : Int32) (S1 : St) (H1 : Heap) (locs1 : List Loc), post r S1 → WW G S1 s H1 locs1 → Ext S S1 → W p l e R s m args below meth c H1 locs1 (cells + 0) (slots + 0) Q (F0 m (pc + 3) ls (.int r :: rest))) : W p l e R s m args below meth c H locs cells slots Q (F0 m pc ls (.int p2 :: .int p1 :: .ref a0 :: rest)) :=
  cl_i (rn_V (n := 2) (As := [.int p1, .int p2]) (q := (RX9, TX9, 36)) F hw hl (m_X9_on l G p1 p2 S a0 hA0 post hQ) 8 (by decide) (by decide) hA0 rfl rfl h1 twi_yX9_on tws_yX9_on twn_RX9 two_yX9_on rfl rfl ⟨rfl, by decide, by decide, by decide +kernel⟩ rfl ⟨hR1, hR2⟩ rfl hrest hdg ⟨hf1, hf2⟩) hw kk
-- X9_isGood
def bd_X9_isGood_22 (p1 : Int32) (post : Int32 → St → Prop) (K22 : Int32 → Int64 → Int32 → St → Prop) (x5_22 : Int32) (x3_22 : Int64) (x2_22 : Int32) (S2 : St) : Prop :=
  ((gi S2 8 0 0) ≤ x5_22 →
  (x2_22 = 0 →
  post (0 : Int32) S2) ∧
  (¬ x2_22 = 0 →
  vp_in p1 18 ∧
  ((gj S2 32 0 p1.toNatClampNeg) < x3_22 →
  post (0 : Int32) S2) ∧
  (¬ (gj S2 32 0 p1.toNatClampNeg) < x3_22 →
  post (1 : Int32) S2))) ∧
  (¬ (gi S2 8 0 0) ≤ x5_22 →
  vp_in p1 18 ∧
  (¬ (((gj S2 33 0 p1.toNatClampNeg) >>> (x5_22.toInt64 &&& 63)) &&& (1 : Int64)) = (1 : Int64) →
  ∀ v5 : Int32, v5 = x5_22 + (1 : Int32) →
  K22 v5 x3_22 x2_22 S2) ∧
  ((((gj S2 33 0 p1.toNatClampNeg) >>> (x5_22.toInt64 &&& 63)) &&& (1 : Int64)) = (1 : Int64) →
  (x2_22 = 0 →
  vp_in x5_22 60 ∧
  ∀ v7 : Int64, v7 = x3_22 + (gj S2 19 0 x5_22.toNatClampNeg) →
  ∀ v8 : Int32, v8 = x5_22 + (1 : Int32) →
  K22 v8 v7 (0 : Int32) S2) ∧
  (¬ x2_22 = 0 →
  vp_in x5_22 60 ∧
  (¬ (gi S2 20 0 x5_22.toNatClampNeg) = 0 →
  vp_in x5_22 60 ∧
  ∀ v11 : Int64, v11 = x3_22 + (gj S2 19 0 x5_22.toNatClampNeg) →
  ∀ v12 : Int32, v12 = x5_22 + (1 : Int32) →
  K22 v12 v11 (0 : Int32) S2) ∧
  ((gi S2 20 0 x5_22.toNatClampNeg) = 0 →
  vp_in x5_22 60 ∧
  ∀ v14 : Int64, v14 = x3_22 + (gj S2 19 0 x5_22.toNatClampNeg) →
  ∀ v15 : Int32, v15 = x5_22 + (1 : Int32) →
  K22 v15 v14 (1 : Int32) S2))))
def lp_X9_isGood_22 (p1 : Int32) (post : Int32 → St → Prop) : Nat → Int32 → Int64 → Int32 → St → Prop
  | 0, _, _, _, _ => False
  | n + 1, x5_22, x3_22, x2_22, S2 => bd_X9_isGood_22 p1 post (fun x5_22 x3_22 x2_22 S2 => lp_X9_isGood_22 p1 post n x5_22 x3_22 x2_22 S2) x5_22 x3_22 x2_22 S2
def wp_X9_isGood (p1 : Int32) (S0 : St) (post : Int32 → St → Prop) : Prop :=
  vp_in p1 18 ∧
  ((gj S0 33 0 p1.toNatClampNeg) = (0 : Int64) →
  ∃ n : Nat, lp_X9_isGood_22 p1 post n (0 : Int32) (0 : Int64) (0 : Int32) S0) ∧
  (¬ (gj S0 33 0 p1.toNatClampNeg) = (0 : Int64) →
  ∃ n : Nat, lp_X9_isGood_22 p1 post n (0 : Int32) (0 : Int64) (1 : Int32) S0)
set_option maxRecDepth 100000 in
set_option maxHeartbeats 4000000 in
theorem m_X9_isGood (l : Launch) (G : GT) (p1 : Int32) (S0 : St) (a0 : Nat) (hA0 : AtO S0 8 0 a0) (post : Int32 → St → Prop) (hQ : wp_X9_isGood p1 S0 post) : Met l yX9_isGood (wM yX9_isGood cX9_isGood 6 (some (FieldType.boolean))) ({ frames := 0, cells := 0, slots := 0, locals := 0 } : Room) (PC G S0 [.ref a0, .int p1]) (QI G S0 post) 0 0 (QA G) := by
  refine mt_start RX9 (by decide) rfl (Nat.le_of_ble_eq_true rfl) ?_
  intro p e s m args below meth c ls F hr hlk hnm hw hl
  have hx := F.1
  have hb := F.2.1
  have hown := F.2.2.2.1
  have hts := F.2.2.2.2
  have hX : Ext S0 S0 := Ext.rf
  have hsz0 := hw.1.1.1
  have hl : lv_has ls 6 [(0, .ref a0), (1, .int p1)] := hl
  unfold wp_X9_isGood at hQ
  refine lv_aload_n hx hb dX9_isGood_0 rfl (lv_at hl 0 rfl) ?_
  refine g_8_26 F hw hA0 twf_RX9_64 dX9_isGood_1 (fun a1 hA1 => ?_)
  refine lv_iload_n hx hb dX9_isGood_4 rfl (lv_at hl 1 rfl) ?_
  obtain ⟨hin, hQ⟩ := hQ
  refine al_33 F hw hA1 hin dX9_isGood_5 ?_
  refine lv_lconst (v := 0) hx hb dX9_isGood_6 (by decide) ?_
  refine lc_eq (tgt := 15) F dX9_isGood_7 dX9_isGood_8 (by decide) (fun hc => ?_) (fun hc => ?_)
  · have hQ := hQ.1 hc
    refine lv_iconst (v := 0) hx hb dX9_isGood_15 (by decide) ?_
    refine lv_istore_n (lv' := [(2, .int (0 : Int32)), (0, .ref a0), (1, .int p1)]) hx hb dX9_isGood_16 rfl hl (by decide) rfl (fun ls hl => ?_)
    refine lv_lconst (v := 0) hx hb dX9_isGood_17 (by decide) ?_
    refine lv_lstore_n (lv' := [(3, .long (0 : Int64)), (2, .int (0 : Int32)), (0, .ref a0), (1, .int p1)]) hx hb dX9_isGood_18 rfl hl (by decide) rfl (fun ls hl => ?_)
    refine lv_iconst (v := 0) hx hb dX9_isGood_19 (by decide) ?_
    refine lv_istore (lv' := [(5, .int (0 : Int32)), (3, .long (0 : Int64)), (2, .int (0 : Int32)), (0, .ref a0), (1, .int p1)]) hx hb dX9_isGood_20 hl (by decide) rfl (fun ls hl => ?_)
    have hloop22 : ∀ (n22 : Nat) (x5_22 : Int32) (x3_22 : Int64) (x2_22 : Int32) (S2 : St) (H : Heap) (locs : List Loc) (ls : Array Slot) (cl22 sl22 : Nat), lp_X9_isGood_22 p1 post n22 x5_22 x3_22 x2_22 S2 → WW G S2 s H locs → Ext S0 S2 → AtO S2 8 0 a0 → lv_has ls 6 [(5, .int x5_22), (3, .long x3_22), (2, .int x2_22), (0, .ref a0), (1, .int p1)] → cl22 ≤ 0 + 0 → sl22 ≤ 0 + 0 → W p l e ({ frames := 0, cells := 0, slots := 0, locals := 0 } : Room) s m args below meth c H locs cl22 sl22 (MQ below (QI G S0 post) args s 0 0 (QA G)) (F0 m 22 ls []) := by
      intro n22
      induction n22 with
      | zero => intro x5_22 x3_22 x2_22 S2 H locs ls cl sl hQ; exact False.elim hQ
      | succ n22 ih22 =>
        intro x5_22 x3_22 x2_22 S2 H locs ls cl22 sl22 hQ hw hX hA0 hl hcl22 hsl22
        have hQ : bd_X9_isGood_22 p1 post (fun x5_22 x3_22 x2_22 S2 => lp_X9_isGood_22 p1 post n22 x5_22 x3_22 x2_22 S2) x5_22 x3_22 x2_22 S2 := hQ
        unfold bd_X9_isGood_22 at hQ
        refine lv_iload hx hb dX9_isGood_22 (lv_at hl 0 rfl) ?_
        refine lv_aload_n hx hb dX9_isGood_24 rfl (lv_at hl 3 rfl) ?_
        refine g_8_0 F hw hA0 twf_RX9_82 dX9_isGood_25 ?_
        refine lv_icmp_ge (tgt := 83) hx hb dX9_isGood_28 (by decide) (fun hc => ?_) (fun hc => ?_)
        · have hQ := hQ.1 hc
          refine lv_iload_n hx hb dX9_isGood_83 rfl (lv_at hl 2 rfl) ?_
          refine lv_if_eq (tgt := 102) hx hb dX9_isGood_84 (by decide) (fun hc => ?_) (fun hc => ?_)
          · have hQ := hQ.1 hc
            refine lv_iconst (v := 0) hx hb dX9_isGood_102 (by decide) ?_
            exact rt_z F hr hlk hw hX hQ rfl (show cl22 ≤ 0 from by omega) (show sl22 ≤ 0 from by omega) dX9_isGood_103
          · have hQ := hQ.2 hc
            refine lv_aload_n hx hb dX9_isGood_87 rfl (lv_at hl 3 rfl) ?_
            refine g_8_25 F hw hA0 twf_RX9_61 dX9_isGood_88 (fun a3 hA3 => ?_)
            refine lv_iload_n hx hb dX9_isGood_91 rfl (lv_at hl 4 rfl) ?_
            obtain ⟨hin, hQ⟩ := hQ
            refine al_32 F hw hA3 hin dX9_isGood_92 ?_
            refine lv_lload_n hx hb dX9_isGood_93 rfl (lv_at hl 1 rfl) ?_
            refine lc_lt (tgt := 102) F dX9_isGood_94 dX9_isGood_95 (by decide) (fun hc => ?_) (fun hc => ?_)
            · have hQ := hQ.1 hc
              refine lv_iconst (v := 0) hx hb dX9_isGood_102 (by decide) ?_
              exact rt_z F hr hlk hw hX hQ rfl (show cl22 ≤ 0 from by omega) (show sl22 ≤ 0 from by omega) dX9_isGood_103
            · have hQ := hQ.2 hc
              refine lv_iconst (v := 1) hx hb dX9_isGood_98 (by decide) ?_
              refine lv_goto (tgt := 103) hx hb dX9_isGood_99 (by decide) ?_
              exact rt_z F hr hlk hw hX hQ rfl (show cl22 ≤ 0 from by omega) (show sl22 ≤ 0 from by omega) dX9_isGood_103
        · have hQ := hQ.2 hc
          refine lv_aload_n hx hb dX9_isGood_31 rfl (lv_at hl 3 rfl) ?_
          refine g_8_26 F hw hA0 twf_RX9_64 dX9_isGood_32 (fun a4 hA4 => ?_)
          refine lv_iload_n hx hb dX9_isGood_35 rfl (lv_at hl 4 rfl) ?_
          obtain ⟨hin, hQ⟩ := hQ
          refine al_33 F hw hA4 hin dX9_isGood_36 ?_
          refine lv_iload hx hb dX9_isGood_37 (lv_at hl 0 rfl) ?_
          refine lv_lshr hx hb dX9_isGood_39 rfl ?_
          refine lv_lconst (v := 1) hx hb dX9_isGood_40 (by decide) ?_
          refine lv_land hx hb dX9_isGood_41 ?_
          refine lv_lconst (v := 1) hx hb dX9_isGood_42 (by decide) ?_
          refine lc_ne (tgt := 77) F dX9_isGood_43 dX9_isGood_44 (by decide) (fun hc => ?_) (fun hc => ?_)
          · have hQ := hQ.1 hc
            obtain ⟨v5, ev5⟩ : ∃ y : Int32, y = x5_22 + (1 : Int32) := ⟨_, rfl⟩
            have hQ := hQ v5 ev5
            refine lv_iinc (v := v5) (lv' := [(5, .int v5), (3, .long x3_22), (2, .int x2_22), (0, .ref a0), (1, .int p1)]) hx hb dX9_isGood_77 hl (k := 0) rfl (by rw [ev5]; rfl) (by decide) rfl (fun ls hl => ?_)
            refine lv_goto (tgt := 22) hx hb dX9_isGood_80 (by decide) ?_
            exact ih22 v5 x3_22 x2_22 S2 _ _ _ _ _ hQ hw hX hA0 (lv_sub hl [0, 1, 2, 3, 4] rfl) (by omega) (by omega)
          · have hQ := hQ.2 hc
            refine lv_iload_n hx hb dX9_isGood_47 rfl (lv_at hl 2 rfl) ?_
            refine lv_if_eq (tgt := 65) hx hb dX9_isGood_48 (by decide) (fun hc => ?_) (fun hc => ?_)
            · have hQ := hQ.1 hc
              refine lv_iconst (v := 0) hx hb dX9_isGood_65 (by decide) ?_
              refine lv_istore_n (lv' := [(2, .int (0 : Int32)), (5, .int x5_22), (3, .long x3_22), (0, .ref a0), (1, .int p1)]) hx hb dX9_isGood_66 rfl hl (by decide) rfl (fun ls hl => ?_)
              refine lv_lload_n hx hb dX9_isGood_67 rfl (lv_at hl 2 rfl) ?_
              refine lv_aload_n hx hb dX9_isGood_68 rfl (lv_at hl 3 rfl) ?_
              refine g_8_3 F hw hA0 twf_RX9_17 dX9_isGood_69 (fun a6 hA6 => ?_)
              refine lv_iload hx hb dX9_isGood_72 (lv_at hl 1 rfl) ?_
              obtain ⟨hin, hQ⟩ := hQ
              refine al_19 F hw hA6 hin dX9_isGood_74 ?_
              refine lv_ladd hx hb dX9_isGood_75 ?_
              refine lv_topl (fun v7 ev7 => ?_)
              have hQ := hQ v7 ev7
              refine lv_lstore_n (lv' := [(3, .long v7), (2, .int (0 : Int32)), (5, .int x5_22), (0, .ref a0), (1, .int p1)]) hx hb dX9_isGood_76 rfl hl (by decide) rfl (fun ls hl => ?_)
              obtain ⟨v8, ev8⟩ : ∃ y : Int32, y = x5_22 + (1 : Int32) := ⟨_, rfl⟩
              have hQ := hQ v8 ev8
              refine lv_iinc (v := v8) (lv' := [(5, .int v8), (3, .long v7), (2, .int (0 : Int32)), (0, .ref a0), (1, .int p1)]) hx hb dX9_isGood_77 hl (k := 2) rfl (by rw [ev8]; rfl) (by decide) rfl (fun ls hl => ?_)
              refine lv_goto (tgt := 22) hx hb dX9_isGood_80 (by decide) ?_
              exact ih22 v8 v7 (0 : Int32) S2 _ _ _ _ _ hQ hw hX hA0 (lv_sub hl [0, 1, 2, 3, 4] rfl) (by omega) (by omega)
            · have hQ := hQ.2 hc
              refine lv_aload_n hx hb dX9_isGood_51 rfl (lv_at hl 3 rfl) ?_
              refine g_8_4 F hw hA0 twf_RX9_20 dX9_isGood_52 (fun a9 hA9 => ?_)
              refine lv_iload hx hb dX9_isGood_55 (lv_at hl 0 rfl) ?_
              obtain ⟨hin, hQ⟩ := hQ
              refine al_20 F hw hA9 hin dX9_isGood_57 ?_
              refine lv_if_ne (tgt := 65) hx hb dX9_isGood_58 (by decide) (fun hc => ?_) (fun hc => ?_)
              · have hQ := hQ.1 hc
                refine lv_iconst (v := 0) hx hb dX9_isGood_65 (by decide) ?_
                refine lv_istore_n (lv' := [(2, .int (0 : Int32)), (5, .int x5_22), (3, .long x3_22), (0, .ref a0), (1, .int p1)]) hx hb dX9_isGood_66 rfl hl (by decide) rfl (fun ls hl => ?_)
                refine lv_lload_n hx hb dX9_isGood_67 rfl (lv_at hl 2 rfl) ?_
                refine lv_aload_n hx hb dX9_isGood_68 rfl (lv_at hl 3 rfl) ?_
                refine g_8_3 F hw hA0 twf_RX9_17 dX9_isGood_69 (fun a10 hA10 => ?_)
                refine lv_iload hx hb dX9_isGood_72 (lv_at hl 1 rfl) ?_
                obtain ⟨hin, hQ⟩ := hQ
                refine al_19 F hw hA10 hin dX9_isGood_74 ?_
                refine lv_ladd hx hb dX9_isGood_75 ?_
                refine lv_topl (fun v11 ev11 => ?_)
                have hQ := hQ v11 ev11
                refine lv_lstore_n (lv' := [(3, .long v11), (2, .int (0 : Int32)), (5, .int x5_22), (0, .ref a0), (1, .int p1)]) hx hb dX9_isGood_76 rfl hl (by decide) rfl (fun ls hl => ?_)
                obtain ⟨v12, ev12⟩ : ∃ y : Int32, y = x5_22 + (1 : Int32) := ⟨_, rfl⟩
                have hQ := hQ v12 ev12
                refine lv_iinc (v := v12) (lv' := [(5, .int v12), (3, .long v11), (2, .int (0 : Int32)), (0, .ref a0), (1, .int p1)]) hx hb dX9_isGood_77 hl (k := 2) rfl (by rw [ev12]; rfl) (by decide) rfl (fun ls hl => ?_)
                refine lv_goto (tgt := 22) hx hb dX9_isGood_80 (by decide) ?_
                exact ih22 v12 v11 (0 : Int32) S2 _ _ _ _ _ hQ hw hX hA0 (lv_sub hl [0, 1, 2, 3, 4] rfl) (by omega) (by omega)
              · have hQ := hQ.2 hc
                refine lv_iconst (v := 1) hx hb dX9_isGood_61 (by decide) ?_
                refine lv_goto (tgt := 66) hx hb dX9_isGood_62 (by decide) ?_
                refine lv_istore_n (lv' := [(2, .int (1 : Int32)), (5, .int x5_22), (3, .long x3_22), (0, .ref a0), (1, .int p1)]) hx hb dX9_isGood_66 rfl hl (by decide) rfl (fun ls hl => ?_)
                refine lv_lload_n hx hb dX9_isGood_67 rfl (lv_at hl 2 rfl) ?_
                refine lv_aload_n hx hb dX9_isGood_68 rfl (lv_at hl 3 rfl) ?_
                refine g_8_3 F hw hA0 twf_RX9_17 dX9_isGood_69 (fun a13 hA13 => ?_)
                refine lv_iload hx hb dX9_isGood_72 (lv_at hl 1 rfl) ?_
                obtain ⟨hin, hQ⟩ := hQ
                refine al_19 F hw hA13 hin dX9_isGood_74 ?_
                refine lv_ladd hx hb dX9_isGood_75 ?_
                refine lv_topl (fun v14 ev14 => ?_)
                have hQ := hQ v14 ev14
                refine lv_lstore_n (lv' := [(3, .long v14), (2, .int (1 : Int32)), (5, .int x5_22), (0, .ref a0), (1, .int p1)]) hx hb dX9_isGood_76 rfl hl (by decide) rfl (fun ls hl => ?_)
                obtain ⟨v15, ev15⟩ : ∃ y : Int32, y = x5_22 + (1 : Int32) := ⟨_, rfl⟩
                have hQ := hQ v15 ev15
                refine lv_iinc (v := v15) (lv' := [(5, .int v15), (3, .long v14), (2, .int (1 : Int32)), (0, .ref a0), (1, .int p1)]) hx hb dX9_isGood_77 hl (k := 2) rfl (by rw [ev15]; rfl) (by decide) rfl (fun ls hl => ?_)
                refine lv_goto (tgt := 22) hx hb dX9_isGood_80 (by decide) ?_
                exact ih22 v15 v14 (1 : Int32) S2 _ _ _ _ _ hQ hw hX hA0 (lv_sub hl [0, 1, 2, 3, 4] rfl) (by omega) (by omega)
    obtain ⟨n, hQ⟩ := hQ
    exact hloop22 n (0 : Int32) (0 : Int64) (0 : Int32) S0 _ _ _ _ _ hQ hw hX hA0 (lv_sub hl [0, 1, 2, 3, 4] rfl) (by omega) (by omega)
  · have hQ := hQ.2 hc
    refine lv_iconst (v := 1) hx hb dX9_isGood_11 (by decide) ?_
    refine lv_goto (tgt := 16) hx hb dX9_isGood_12 (by decide) ?_
    refine lv_istore_n (lv' := [(2, .int (1 : Int32)), (0, .ref a0), (1, .int p1)]) hx hb dX9_isGood_16 rfl hl (by decide) rfl (fun ls hl => ?_)
    refine lv_lconst (v := 0) hx hb dX9_isGood_17 (by decide) ?_
    refine lv_lstore_n (lv' := [(3, .long (0 : Int64)), (2, .int (1 : Int32)), (0, .ref a0), (1, .int p1)]) hx hb dX9_isGood_18 rfl hl (by decide) rfl (fun ls hl => ?_)
    refine lv_iconst (v := 0) hx hb dX9_isGood_19 (by decide) ?_
    refine lv_istore (lv' := [(5, .int (0 : Int32)), (3, .long (0 : Int64)), (2, .int (1 : Int32)), (0, .ref a0), (1, .int p1)]) hx hb dX9_isGood_20 hl (by decide) rfl (fun ls hl => ?_)
    have hloop22 : ∀ (n22 : Nat) (x5_22 : Int32) (x3_22 : Int64) (x2_22 : Int32) (S16 : St) (H : Heap) (locs : List Loc) (ls : Array Slot) (cl22 sl22 : Nat), lp_X9_isGood_22 p1 post n22 x5_22 x3_22 x2_22 S16 → WW G S16 s H locs → Ext S0 S16 → AtO S16 8 0 a0 → lv_has ls 6 [(5, .int x5_22), (3, .long x3_22), (2, .int x2_22), (0, .ref a0), (1, .int p1)] → cl22 ≤ 0 + 0 → sl22 ≤ 0 + 0 → W p l e ({ frames := 0, cells := 0, slots := 0, locals := 0 } : Room) s m args below meth c H locs cl22 sl22 (MQ below (QI G S0 post) args s 0 0 (QA G)) (F0 m 22 ls []) := by
      intro n22
      induction n22 with
      | zero => intro x5_22 x3_22 x2_22 S16 H locs ls cl sl hQ; exact False.elim hQ
      | succ n22 ih22 =>
        intro x5_22 x3_22 x2_22 S16 H locs ls cl22 sl22 hQ hw hX hA0 hl hcl22 hsl22
        have hQ : bd_X9_isGood_22 p1 post (fun x5_22 x3_22 x2_22 S16 => lp_X9_isGood_22 p1 post n22 x5_22 x3_22 x2_22 S16) x5_22 x3_22 x2_22 S16 := hQ
        unfold bd_X9_isGood_22 at hQ
        refine lv_iload hx hb dX9_isGood_22 (lv_at hl 0 rfl) ?_
        refine lv_aload_n hx hb dX9_isGood_24 rfl (lv_at hl 3 rfl) ?_
        refine g_8_0 F hw hA0 twf_RX9_82 dX9_isGood_25 ?_
        refine lv_icmp_ge (tgt := 83) hx hb dX9_isGood_28 (by decide) (fun hc => ?_) (fun hc => ?_)
        · have hQ := hQ.1 hc
          refine lv_iload_n hx hb dX9_isGood_83 rfl (lv_at hl 2 rfl) ?_
          refine lv_if_eq (tgt := 102) hx hb dX9_isGood_84 (by decide) (fun hc => ?_) (fun hc => ?_)
          · have hQ := hQ.1 hc
            refine lv_iconst (v := 0) hx hb dX9_isGood_102 (by decide) ?_
            exact rt_z F hr hlk hw hX hQ rfl (show cl22 ≤ 0 from by omega) (show sl22 ≤ 0 from by omega) dX9_isGood_103
          · have hQ := hQ.2 hc
            refine lv_aload_n hx hb dX9_isGood_87 rfl (lv_at hl 3 rfl) ?_
            refine g_8_25 F hw hA0 twf_RX9_61 dX9_isGood_88 (fun a17 hA17 => ?_)
            refine lv_iload_n hx hb dX9_isGood_91 rfl (lv_at hl 4 rfl) ?_
            obtain ⟨hin, hQ⟩ := hQ
            refine al_32 F hw hA17 hin dX9_isGood_92 ?_
            refine lv_lload_n hx hb dX9_isGood_93 rfl (lv_at hl 1 rfl) ?_
            refine lc_lt (tgt := 102) F dX9_isGood_94 dX9_isGood_95 (by decide) (fun hc => ?_) (fun hc => ?_)
            · have hQ := hQ.1 hc
              refine lv_iconst (v := 0) hx hb dX9_isGood_102 (by decide) ?_
              exact rt_z F hr hlk hw hX hQ rfl (show cl22 ≤ 0 from by omega) (show sl22 ≤ 0 from by omega) dX9_isGood_103
            · have hQ := hQ.2 hc
              refine lv_iconst (v := 1) hx hb dX9_isGood_98 (by decide) ?_
              refine lv_goto (tgt := 103) hx hb dX9_isGood_99 (by decide) ?_
              exact rt_z F hr hlk hw hX hQ rfl (show cl22 ≤ 0 from by omega) (show sl22 ≤ 0 from by omega) dX9_isGood_103
        · have hQ := hQ.2 hc
          refine lv_aload_n hx hb dX9_isGood_31 rfl (lv_at hl 3 rfl) ?_
          refine g_8_26 F hw hA0 twf_RX9_64 dX9_isGood_32 (fun a18 hA18 => ?_)
          refine lv_iload_n hx hb dX9_isGood_35 rfl (lv_at hl 4 rfl) ?_
          obtain ⟨hin, hQ⟩ := hQ
          refine al_33 F hw hA18 hin dX9_isGood_36 ?_
          refine lv_iload hx hb dX9_isGood_37 (lv_at hl 0 rfl) ?_
          refine lv_lshr hx hb dX9_isGood_39 rfl ?_
          refine lv_lconst (v := 1) hx hb dX9_isGood_40 (by decide) ?_
          refine lv_land hx hb dX9_isGood_41 ?_
          refine lv_lconst (v := 1) hx hb dX9_isGood_42 (by decide) ?_
          refine lc_ne (tgt := 77) F dX9_isGood_43 dX9_isGood_44 (by decide) (fun hc => ?_) (fun hc => ?_)
          · have hQ := hQ.1 hc
            obtain ⟨v19, ev19⟩ : ∃ y : Int32, y = x5_22 + (1 : Int32) := ⟨_, rfl⟩
            have hQ := hQ v19 ev19
            refine lv_iinc (v := v19) (lv' := [(5, .int v19), (3, .long x3_22), (2, .int x2_22), (0, .ref a0), (1, .int p1)]) hx hb dX9_isGood_77 hl (k := 0) rfl (by rw [ev19]; rfl) (by decide) rfl (fun ls hl => ?_)
            refine lv_goto (tgt := 22) hx hb dX9_isGood_80 (by decide) ?_
            exact ih22 v19 x3_22 x2_22 S16 _ _ _ _ _ hQ hw hX hA0 (lv_sub hl [0, 1, 2, 3, 4] rfl) (by omega) (by omega)
          · have hQ := hQ.2 hc
            refine lv_iload_n hx hb dX9_isGood_47 rfl (lv_at hl 2 rfl) ?_
            refine lv_if_eq (tgt := 65) hx hb dX9_isGood_48 (by decide) (fun hc => ?_) (fun hc => ?_)
            · have hQ := hQ.1 hc
              refine lv_iconst (v := 0) hx hb dX9_isGood_65 (by decide) ?_
              refine lv_istore_n (lv' := [(2, .int (0 : Int32)), (5, .int x5_22), (3, .long x3_22), (0, .ref a0), (1, .int p1)]) hx hb dX9_isGood_66 rfl hl (by decide) rfl (fun ls hl => ?_)
              refine lv_lload_n hx hb dX9_isGood_67 rfl (lv_at hl 2 rfl) ?_
              refine lv_aload_n hx hb dX9_isGood_68 rfl (lv_at hl 3 rfl) ?_
              refine g_8_3 F hw hA0 twf_RX9_17 dX9_isGood_69 (fun a20 hA20 => ?_)
              refine lv_iload hx hb dX9_isGood_72 (lv_at hl 1 rfl) ?_
              obtain ⟨hin, hQ⟩ := hQ
              refine al_19 F hw hA20 hin dX9_isGood_74 ?_
              refine lv_ladd hx hb dX9_isGood_75 ?_
              refine lv_topl (fun v21 ev21 => ?_)
              have hQ := hQ v21 ev21
              refine lv_lstore_n (lv' := [(3, .long v21), (2, .int (0 : Int32)), (5, .int x5_22), (0, .ref a0), (1, .int p1)]) hx hb dX9_isGood_76 rfl hl (by decide) rfl (fun ls hl => ?_)
              obtain ⟨v22, ev22⟩ : ∃ y : Int32, y = x5_22 + (1 : Int32) := ⟨_, rfl⟩
              have hQ := hQ v22 ev22
              refine lv_iinc (v := v22) (lv' := [(5, .int v22), (3, .long v21), (2, .int (0 : Int32)), (0, .ref a0), (1, .int p1)]) hx hb dX9_isGood_77 hl (k := 2) rfl (by rw [ev22]; rfl) (by decide) rfl (fun ls hl => ?_)
              refine lv_goto (tgt := 22) hx hb dX9_isGood_80 (by decide) ?_
              exact ih22 v22 v21 (0 : Int32) S16 _ _ _ _ _ hQ hw hX hA0 (lv_sub hl [0, 1, 2, 3, 4] rfl) (by omega) (by omega)
            · have hQ := hQ.2 hc
              refine lv_aload_n hx hb dX9_isGood_51 rfl (lv_at hl 3 rfl) ?_
              refine g_8_4 F hw hA0 twf_RX9_20 dX9_isGood_52 (fun a23 hA23 => ?_)
              refine lv_iload hx hb dX9_isGood_55 (lv_at hl 0 rfl) ?_
              obtain ⟨hin, hQ⟩ := hQ
              refine al_20 F hw hA23 hin dX9_isGood_57 ?_
              refine lv_if_ne (tgt := 65) hx hb dX9_isGood_58 (by decide) (fun hc => ?_) (fun hc => ?_)
              · have hQ := hQ.1 hc
                refine lv_iconst (v := 0) hx hb dX9_isGood_65 (by decide) ?_
                refine lv_istore_n (lv' := [(2, .int (0 : Int32)), (5, .int x5_22), (3, .long x3_22), (0, .ref a0), (1, .int p1)]) hx hb dX9_isGood_66 rfl hl (by decide) rfl (fun ls hl => ?_)
                refine lv_lload_n hx hb dX9_isGood_67 rfl (lv_at hl 2 rfl) ?_
                refine lv_aload_n hx hb dX9_isGood_68 rfl (lv_at hl 3 rfl) ?_
                refine g_8_3 F hw hA0 twf_RX9_17 dX9_isGood_69 (fun a24 hA24 => ?_)
                refine lv_iload hx hb dX9_isGood_72 (lv_at hl 1 rfl) ?_
                obtain ⟨hin, hQ⟩ := hQ
                refine al_19 F hw hA24 hin dX9_isGood_74 ?_
                refine lv_ladd hx hb dX9_isGood_75 ?_
                refine lv_topl (fun v25 ev25 => ?_)
                have hQ := hQ v25 ev25
                refine lv_lstore_n (lv' := [(3, .long v25), (2, .int (0 : Int32)), (5, .int x5_22), (0, .ref a0), (1, .int p1)]) hx hb dX9_isGood_76 rfl hl (by decide) rfl (fun ls hl => ?_)
                obtain ⟨v26, ev26⟩ : ∃ y : Int32, y = x5_22 + (1 : Int32) := ⟨_, rfl⟩
                have hQ := hQ v26 ev26
                refine lv_iinc (v := v26) (lv' := [(5, .int v26), (3, .long v25), (2, .int (0 : Int32)), (0, .ref a0), (1, .int p1)]) hx hb dX9_isGood_77 hl (k := 2) rfl (by rw [ev26]; rfl) (by decide) rfl (fun ls hl => ?_)
                refine lv_goto (tgt := 22) hx hb dX9_isGood_80 (by decide) ?_
                exact ih22 v26 v25 (0 : Int32) S16 _ _ _ _ _ hQ hw hX hA0 (lv_sub hl [0, 1, 2, 3, 4] rfl) (by omega) (by omega)
              · have hQ := hQ.2 hc
                refine lv_iconst (v := 1) hx hb dX9_isGood_61 (by decide) ?_
                refine lv_goto (tgt := 66) hx hb dX9_isGood_62 (by decide) ?_
                refine lv_istore_n (lv' := [(2, .int (1 : Int32)), (5, .int x5_22), (3, .long x3_22), (0, .ref a0), (1, .int p1)]) hx hb dX9_isGood_66 rfl hl (by decide) rfl (fun ls hl => ?_)
                refine lv_lload_n hx hb dX9_isGood_67 rfl (lv_at hl 2 rfl) ?_
                refine lv_aload_n hx hb dX9_isGood_68 rfl (lv_at hl 3 rfl) ?_
                refine g_8_3 F hw hA0 twf_RX9_17 dX9_isGood_69 (fun a27 hA27 => ?_)
                refine lv_iload hx hb dX9_isGood_72 (lv_at hl 1 rfl) ?_
                obtain ⟨hin, hQ⟩ := hQ
                refine al_19 F hw hA27 hin dX9_isGood_74 ?_
                refine lv_ladd hx hb dX9_isGood_75 ?_
                refine lv_topl (fun v28 ev28 => ?_)
                have hQ := hQ v28 ev28
                refine lv_lstore_n (lv' := [(3, .long v28), (2, .int (1 : Int32)), (5, .int x5_22), (0, .ref a0), (1, .int p1)]) hx hb dX9_isGood_76 rfl hl (by decide) rfl (fun ls hl => ?_)
                obtain ⟨v29, ev29⟩ : ∃ y : Int32, y = x5_22 + (1 : Int32) := ⟨_, rfl⟩
                have hQ := hQ v29 ev29
                refine lv_iinc (v := v29) (lv' := [(5, .int v29), (3, .long v28), (2, .int (1 : Int32)), (0, .ref a0), (1, .int p1)]) hx hb dX9_isGood_77 hl (k := 2) rfl (by rw [ev29]; rfl) (by decide) rfl (fun ls hl => ?_)
                refine lv_goto (tgt := 22) hx hb dX9_isGood_80 (by decide) ?_
                exact ih22 v29 v28 (1 : Int32) S16 _ _ _ _ _ hQ hw hX hA0 (lv_sub hl [0, 1, 2, 3, 4] rfl) (by omega) (by omega)
    obtain ⟨n, hQ⟩ := hQ
    exact hloop22 n (0 : Int32) (0 : Int64) (1 : Int32) S0 _ _ _ _ _ hQ hw hX hA0 (lv_sub hl [0, 1, 2, 3, 4] rfl) (by omega) (by omega)
theorem k_X9_isGood {p : Program} {l : Launch} {e : Env} {R : Room} {s : State} {m : MethodId} {args : Array Value} {below : List Frame} {meth : Method} {c : Code} {H : Heap} {locs : List Loc} {cells slots : Nat} {Q : State → Prop} {cc : ByteArray} {pc nL : Nat} {ls : Array Slot} {rest : List Value} {G : GT} {S : St} {own : String} {p1 : Int32} {post : Int32 → St → Prop} {lv : List (Nat × Value)} {idx : Nat} (F : CX p m c cc nL s args own) (hw : WW G S s H locs) (hl : lv_has ls nL lv) {a0 : Nat} (hA0 : AtO S 8 0 a0) (hQ : wp_X9_isGood p1 S post) (h1 : Cond.methodLink own idx yX9_isGood ∈ wT) (hR1 : 0 + 1 ≤ R.frames) (hR2 : 8 + (6 + 11) + 0 ≤ R.locals) (hrest : (rest.map fun v => v.category).sum ≤ 8) (hdg : decode cc pc = .ok (.invokevirtual idx, 3)) (hf1 : cells + 0 ≤ R.cells) (hf2 : slots + 0 ≤ R.slots)
    (kk : ∀ (r : Int32) (S1 : St) (H1 : Heap) (locs1 : List Loc), post r S1 → WW G S1 s H1 locs1 → Ext S S1 → W p l e R s m args below meth c H1 locs1 (cells + 0) (slots + 0) Q (F0 m (pc + 3) ls (.int r :: rest))) : W p l e R s m args below meth c H locs cells slots Q (F0 m pc ls (.int p1 :: .ref a0 :: rest)) :=
  cl_i (rn_V (n := 1) (As := [.int p1]) (q := (RX9, TX9, 36)) F hw hl (m_X9_isGood l G p1 S a0 hA0 post hQ) 8 (by decide) (by decide) hA0 rfl rfl h1 twi_yX9_isGood tws_yX9_isGood twn_RX9 two_yX9_isGood rfl rfl ⟨rfl, by decide, by decide, by decide +kernel⟩ rfl ⟨hR1, hR2⟩ rfl hrest hdg ⟨hf1, hf2⟩) hw kk

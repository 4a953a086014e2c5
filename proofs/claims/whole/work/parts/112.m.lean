-- X9_add
def wp_X9_add (p1 : Int32) (p2 : Int64) (p3 : Int64) (S0 : St) (post : Int32 → St → Prop) : Prop :=
  vp_in (gi S0 8 0 0) 60 ∧
  ∀ S2 : St, S2 = si S0 17 0 (gi S0 8 0 0).toNatClampNeg p1 →
  vp_in (gi S2 8 0 0) 60 ∧
  ∀ S4 : St, S4 = sj S2 18 0 (gi S2 8 0 0).toNatClampNeg p2 →
  vp_in (gi S4 8 0 0) 60 ∧
  ∀ S6 : St, S6 = sj S4 19 0 (gi S4 8 0 0).toNatClampNeg p3 →
  vp_in (gi S6 8 0 0) 60 ∧
  ∀ S8 : St, S8 = si S6 20 0 (gi S6 8 0 0).toNatClampNeg (0 : Int32) →
  ∀ S9 : St, S9 = si S8 8 0 0 ((gi S8 8 0 0) + (1 : Int32)) →
  post ((gi S9 8 0 0) - (1 : Int32)) S9
set_option maxRecDepth 100000 in
set_option maxHeartbeats 4000000 in
theorem m_X9_add (l : Launch) (G : GT) (p1 : Int32) (p2 : Int64) (p3 : Int64) (S0 : St) (a0 : Nat) (hA0 : AtO S0 8 0 a0) (post : Int32 → St → Prop) (hQ : wp_X9_add p1 p2 p3 S0 post) : Met l yX9_add (wM yX9_add cX9_add 6 (some (FieldType.int))) ({ frames := 0, cells := 0, slots := 0, locals := 0 } : Room) (PC G S0 [.ref a0, .int p1, .long p2, .long p3]) (QI G S0 post) 0 0 (QA G) := by
  refine mt_start RX9 (by decide) rfl (Nat.le_of_ble_eq_true rfl) ?_
  intro p e s m args below meth c ls F hr hlk hnm hw hl
  have hx := F.1
  have hb := F.2.1
  have hown := F.2.2.2.1
  have hts := F.2.2.2.2
  have hX : Ext S0 S0 := Ext.rf
  have hsz0 := hw.1.1.1
  have hl : lv_has ls 6 [(0, .ref a0), (1, .int p1), (2, .long p2), (4, .long p3)] := hl
  unfold wp_X9_add at hQ
  refine lv_aload_n hx hb dX9_add_0 rfl (lv_at hl 0 rfl) ?_
  refine g_8_1 F hw hA0 twf_RX9_7 dX9_add_1 (fun a1 hA1 => ?_)
  refine lv_aload_n hx hb dX9_add_4 rfl (lv_at hl 0 rfl) ?_
  refine g_8_0 F hw hA0 twf_RX9_82 dX9_add_5 ?_
  refine lv_iload_n hx hb dX9_add_8 rfl (lv_at hl 1 rfl) ?_
  obtain ⟨hin, hQ⟩ := hQ
  refine as_17 F hw hA1 hin dX9_add_9 (fun S2 H locs eS2 hw hx1 => ?_)
  have hQ := hQ S2 eS2
  have hX := hX.trans hx1
  have hA0 := hA0.ext hx1
  refine lv_aload_n hx hb dX9_add_10 rfl (lv_at hl 0 rfl) ?_
  refine g_8_2 F hw hA0 twf_RX9_13 dX9_add_11 (fun a3 hA3 => ?_)
  refine lv_aload_n hx hb dX9_add_14 rfl (lv_at hl 0 rfl) ?_
  refine g_8_0 F hw hA0 twf_RX9_82 dX9_add_15 ?_
  refine lv_lload_n hx hb dX9_add_18 rfl (lv_at hl 2 rfl) ?_
  obtain ⟨hin, hQ⟩ := hQ
  refine as_18 F hw hA3 hin dX9_add_19 (fun S4 H locs eS4 hw hx1 => ?_)
  have hQ := hQ S4 eS4
  have hX := hX.trans hx1
  have hA0 := hA0.ext hx1
  refine lv_aload_n hx hb dX9_add_20 rfl (lv_at hl 0 rfl) ?_
  refine g_8_3 F hw hA0 twf_RX9_17 dX9_add_21 (fun a5 hA5 => ?_)
  refine lv_aload_n hx hb dX9_add_24 rfl (lv_at hl 0 rfl) ?_
  refine g_8_0 F hw hA0 twf_RX9_82 dX9_add_25 ?_
  refine lv_lload hx hb dX9_add_28 (lv_at hl 3 rfl) ?_
  obtain ⟨hin, hQ⟩ := hQ
  refine as_19 F hw hA5 hin dX9_add_30 (fun S6 H locs eS6 hw hx1 => ?_)
  have hQ := hQ S6 eS6
  have hX := hX.trans hx1
  have hA0 := hA0.ext hx1
  refine lv_aload_n hx hb dX9_add_31 rfl (lv_at hl 0 rfl) ?_
  refine g_8_4 F hw hA0 twf_RX9_20 dX9_add_32 (fun a7 hA7 => ?_)
  refine lv_aload_n hx hb dX9_add_35 rfl (lv_at hl 0 rfl) ?_
  refine g_8_0 F hw hA0 twf_RX9_82 dX9_add_36 ?_
  refine lv_iconst (v := 0) hx hb dX9_add_39 (by decide) ?_
  obtain ⟨hin, hQ⟩ := hQ
  refine as_20 F hw hA7 hin dX9_add_40 (fun S8 H locs eS8 hw hx1 => ?_)
  have hQ := hQ S8 eS8
  have hX := hX.trans hx1
  have hA0 := hA0.ext hx1
  refine lv_aload_n hx hb dX9_add_41 rfl (lv_at hl 0 rfl) ?_
  refine lv_dup hx hb dX9_add_42 rfl ?_
  refine g_8_0 F hw hA0 twf_RX9_82 dX9_add_43 ?_
  refine lv_iconst (v := 1) hx hb dX9_add_46 (by decide) ?_
  refine lv_iadd hx hb dX9_add_47 ?_
  refine p_8_0 F hw hA0 twf_RX9_82 dX9_add_48 (fun S9 H locs eS9 hw hx1 => ?_)
  have hQ := hQ S9 eS9
  have hX := hX.trans hx1
  have hA0 := hA0.ext hx1
  refine lv_aload_n hx hb dX9_add_51 rfl (lv_at hl 0 rfl) ?_
  refine g_8_0 F hw hA0 twf_RX9_82 dX9_add_52 ?_
  refine lv_iconst (v := 1) hx hb dX9_add_55 (by decide) ?_
  refine lv_isub hx hb dX9_add_56 ?_
  exact rt_i F hr hlk hw hX hQ (show 0 ≤ 0 from by omega) (show 0 ≤ 0 from by omega) dX9_add_57
theorem k_X9_add {p : Program} {l : Launch} {e : Env} {R : Room} {s : State} {m : MethodId} {args : Array Value} {below : List Frame} {meth : Method} {c : Code} {H : Heap} {locs : List Loc} {cells slots : Nat} {Q : State → Prop} {cc : ByteArray} {pc nL : Nat} {ls : Array Slot} {rest : List Value} {G : GT} {S : St} {own : String} {p1 : Int32} {p2 : Int64} {p3 : Int64} {post : Int32 → St → Prop} {lv : List (Nat × Value)} {idx : Nat} (F : CX p m c cc nL s args own) (hw : WW G S s H locs) (hl : lv_has ls nL lv) {a0 : Nat} (hA0 : AtO S 8 0 a0) (hQ : wp_X9_add p1 p2 p3 S post) (h1 : Cond.methodLink own idx yX9_add ∈ wT) (hR1 : 0 + 1 ≤ R.frames) (hR2 : 8 + (6 + 11) + 0 ≤ R.locals) (hrest : (rest.map fun v => v.category).sum ≤ 8) (hdg : decode cc pc = .ok (.invokevirtual idx, 3)) (hf1 : cells + 0 ≤ R.cells) (hf2 : slots + 0 ≤ R.slots)
    (kk : ∀ (r : Int32) (S1 : St) (H1 : Heap) (locs1 : List Loc), post r S1 → WW G S1 s H1 locs1 → Ext S S1 → W p l e R s m args below meth c H1 locs1 (cells + 0) (slots + 0) Q (F0 m (pc + 3) ls (.int r :: rest))) : W p l e R s m args below meth c H locs cells slots Q (F0 m pc ls (.long p3 :: .long p2 :: .int p1 :: .ref a0 :: rest)) :=
  cl_i (rn_V (n := 3) (As := [.int p1, .long p2, .long p3]) (q := (RX9, TX9, 36)) F hw hl (m_X9_add l G p1 p2 p3 S a0 hA0 post hQ) 8 (by decide) (by decide) hA0 rfl rfl h1 twi_yX9_add tws_yX9_add twn_RX9 two_yX9_add rfl rfl ⟨rfl, by decide, by decide, by decide +kernel⟩ rfl ⟨hR1, hR2⟩ rfl hrest hdg ⟨hf1, hf2⟩) hw kk
-- X9_lot
def wp_X9_lot (p1 : Int32) (p2 : Int64) (p3 : Int64) (S0 : St) (post : Int32 → St → Prop) : Prop :=
  ((gi S0 8 0 0) = (60 : Int32) →
  post (-1 : Int32) S0) ∧
  (¬ (gi S0 8 0 0) = (60 : Int32) →
  (p1 < 0 →
  post (-1 : Int32) S0) ∧
  (¬ p1 < 0 →
  ((9 : Int32) < p1 →
  post (-1 : Int32) S0) ∧
  (¬ (9 : Int32) < p1 →
  (p2 < (1 : Int64) →
  post (-1 : Int32) S0) ∧
  (¬ p2 < (1 : Int64) →
  ((1000000000 : Int64) < p2 →
  post (-1 : Int32) S0) ∧
  (¬ (1000000000 : Int64) < p2 →
  (p3 < (0 : Int64) →
  post (-1 : Int32) S0) ∧
  (¬ p3 < (0 : Int64) →
  (p3 ≤ (1000000000 : Int64) →
  wp_X9_add p1 p2 p3 S0 (fun r2 S1 =>
  post r2 S1)) ∧
  (¬ p3 ≤ (1000000000 : Int64) →
  post (-1 : Int32) S0)))))))
set_option maxRecDepth 100000 in
set_option maxHeartbeats 4000000 in
theorem m_X9_lot (l : Launch) (G : GT) (p1 : Int32) (p2 : Int64) (p3 : Int64) (S0 : St) (a0 : Nat) (hA0 : AtO S0 8 0 a0) (post : Int32 → St → Prop) (hQ : wp_X9_lot p1 p2 p3 S0 post) : Met l yX9_lot (wM yX9_lot cX9_lot 6 (some (FieldType.int))) ({ frames := 1, cells := 0, slots := 0, locals := 25 } : Room) (PC G S0 [.ref a0, .int p1, .long p2, .long p3]) (QI G S0 post) 0 0 (QA G) := by
  refine mt_start RX9 (by decide) rfl (Nat.le_of_ble_eq_true rfl) ?_
  intro p e s m args below meth c ls F hr hlk hnm hw hl
  have hx := F.1
  have hb := F.2.1
  have hown := F.2.2.2.1
  have hts := F.2.2.2.2
  have hX : Ext S0 S0 := Ext.rf
  have hsz0 := hw.1.1.1
  have hl : lv_has ls 6 [(0, .ref a0), (1, .int p1), (2, .long p2), (4, .long p3)] := hl
  unfold wp_X9_lot at hQ
  refine lv_aload_n hx hb dX9_lot_0 rfl (lv_at hl 0 rfl) ?_
  refine g_8_0 F hw hA0 twf_RX9_82 dX9_lot_1 ?_
  refine lv_bipush (v := 60) hx hb dX9_lot_4 (by decide) ?_
  refine lv_icmp_eq (tgt := 49) hx hb dX9_lot_6 (by decide) (fun hc => ?_) (fun hc => ?_)
  · have hQ := hQ.1 hc
    refine lv_iconst (v := -1) hx hb dX9_lot_49 (by decide) ?_
    refine lv_goto (tgt := 61) hx hb dX9_lot_50 (by decide) ?_
    exact rt_i F hr hlk hw hX hQ (show 0 ≤ 0 from by omega) (show 0 ≤ 0 from by omega) dX9_lot_61
  · have hQ := hQ.2 hc
    refine lv_iload_n hx hb dX9_lot_9 rfl (lv_at hl 1 rfl) ?_
    refine lv_if_lt (tgt := 49) hx hb dX9_lot_10 (by decide) (fun hc => ?_) (fun hc => ?_)
    · have hQ := hQ.1 hc
      refine lv_iconst (v := -1) hx hb dX9_lot_49 (by decide) ?_
      refine lv_goto (tgt := 61) hx hb dX9_lot_50 (by decide) ?_
      exact rt_i F hr hlk hw hX hQ (show 0 ≤ 0 from by omega) (show 0 ≤ 0 from by omega) dX9_lot_61
    · have hQ := hQ.2 hc
      refine lv_iload_n hx hb dX9_lot_13 rfl (lv_at hl 1 rfl) ?_
      refine lv_bipush (v := 9) hx hb dX9_lot_14 (by decide) ?_
      refine lv_icmp_gt (tgt := 49) hx hb dX9_lot_16 (by decide) (fun hc => ?_) (fun hc => ?_)
      · have hQ := hQ.1 hc
        refine lv_iconst (v := -1) hx hb dX9_lot_49 (by decide) ?_
        refine lv_goto (tgt := 61) hx hb dX9_lot_50 (by decide) ?_
        exact rt_i F hr hlk hw hX hQ (show 0 ≤ 0 from by omega) (show 0 ≤ 0 from by omega) dX9_lot_61
      · have hQ := hQ.2 hc
        refine lv_lload_n hx hb dX9_lot_19 rfl (lv_at hl 2 rfl) ?_
        refine lv_lconst (v := 1) hx hb dX9_lot_20 (by decide) ?_
        refine lc_lt (tgt := 49) F dX9_lot_21 dX9_lot_22 (by decide) (fun hc => ?_) (fun hc => ?_)
        · have hQ := hQ.1 hc
          refine lv_iconst (v := -1) hx hb dX9_lot_49 (by decide) ?_
          refine lv_goto (tgt := 61) hx hb dX9_lot_50 (by decide) ?_
          exact rt_i F hr hlk hw hX hQ (show 0 ≤ 0 from by omega) (show 0 ≤ 0 from by omega) dX9_lot_61
        · have hQ := hQ.2 hc
          refine lv_lload_n hx hb dX9_lot_25 rfl (lv_at hl 2 rfl) ?_
          refine lv_ldc2 (v := 1000000000) hx hb hown (hts _ twl_RX9_109) dX9_lot_26 ?_
          refine lc_gt (tgt := 49) F dX9_lot_29 dX9_lot_30 (by decide) (fun hc => ?_) (fun hc => ?_)
          · have hQ := hQ.1 hc
            refine lv_iconst (v := -1) hx hb dX9_lot_49 (by decide) ?_
            refine lv_goto (tgt := 61) hx hb dX9_lot_50 (by decide) ?_
            exact rt_i F hr hlk hw hX hQ (show 0 ≤ 0 from by omega) (show 0 ≤ 0 from by omega) dX9_lot_61
          · have hQ := hQ.2 hc
            refine lv_lload hx hb dX9_lot_33 (lv_at hl 3 rfl) ?_
            refine lv_lconst (v := 0) hx hb dX9_lot_35 (by decide) ?_
            refine lc_lt (tgt := 49) F dX9_lot_36 dX9_lot_37 (by decide) (fun hc => ?_) (fun hc => ?_)
            · have hQ := hQ.1 hc
              refine lv_iconst (v := -1) hx hb dX9_lot_49 (by decide) ?_
              refine lv_goto (tgt := 61) hx hb dX9_lot_50 (by decide) ?_
              exact rt_i F hr hlk hw hX hQ (show 0 ≤ 0 from by omega) (show 0 ≤ 0 from by omega) dX9_lot_61
            · have hQ := hQ.2 hc
              refine lv_lload hx hb dX9_lot_40 (lv_at hl 3 rfl) ?_
              refine lv_ldc2 (v := 1000000000) hx hb hown (hts _ twl_RX9_109) dX9_lot_42 ?_
              refine lc_le (tgt := 53) F dX9_lot_45 dX9_lot_46 (by decide) (fun hc => ?_) (fun hc => ?_)
              · have hQ := hQ.1 hc
                refine lv_aload_n hx hb dX9_lot_53 rfl (lv_at hl 0 rfl) ?_
                refine lv_iload_n hx hb dX9_lot_54 rfl (lv_at hl 1 rfl) ?_
                refine lv_lload_n hx hb dX9_lot_55 rfl (lv_at hl 2 rfl) ?_
                refine lv_lload hx hb dX9_lot_56 (lv_at hl 3 rfl) ?_
                refine k_X9_add F hw hl hA0 hQ twm_RX9_111 (Nat.le_of_ble_eq_true rfl) (Nat.le_of_ble_eq_true rfl) (Nat.le_of_ble_eq_true rfl) dX9_lot_58 (show 0 + 0 ≤ 0 from by omega) (show 0 + 0 ≤ 0 from by omega) (fun r2 S1 H locs hQ hw hx1 => ?_)
                have hX := hX.trans hx1
                have hA0 := hA0.ext hx1
                exact rt_i F hr hlk hw hX hQ (show (0 + 0) ≤ 0 from by omega) (show (0 + 0) ≤ 0 from by omega) dX9_lot_61
              · have hQ := hQ.2 hc
                refine lv_iconst (v := -1) hx hb dX9_lot_49 (by decide) ?_
                refine lv_goto (tgt := 61) hx hb dX9_lot_50 (by decide) ?_
                exact rt_i F hr hlk hw hX hQ (show 0 ≤ 0 from by omega) (show 0 ≤ 0 from by omega) dX9_lot_61
theorem k_X9_lot {p : Program} {l : Launch} {e : Env} {R : Room} {s : State} {m : MethodId} {args : Array Value} {below : List Frame} {meth : Method} {c : Code} {H : Heap} {locs : List Loc} {cells slots : Nat} {Q : State → Prop} {cc : ByteArray} {pc nL : Nat} {ls : Array Slot} {rest : List Value} {G : GT} {S : St} {own : String} {p1 : Int32} {p2 : Int64} {p3 : Int64} {post : Int32 → St → Prop} {lv : List (Nat × Value)} {idx : Nat} (F : CX p m c cc nL s args own) (hw : WW G S s H locs) (hl : lv_has ls nL lv) {a0 : Nat} (hA0 : AtO S 8 0 a0) (hQ : wp_X9_lot p1 p2 p3 S post) (h1 : Cond.methodLink own idx yX9_lot ∈ wT) (hR1 : 1 + 1 ≤ R.frames) (hR2 : 8 + (6 + 11) + 25 ≤ R.locals) (hrest : (rest.map fun v => v.category).sum ≤ 8) (hdg : decode cc pc = .ok (.invokevirtual idx, 3)) (hf1 : cells + 0 ≤ R.cells) (hf2 : slots + 0 ≤ R.slots)
    (kk : ∀ (r : Int32) (S1 : St) (H1 : Heap) (locs1 : List Loc), post r S1 → WW G S1 s H1 locs1 → Ext S S1 → W p l e R s m args below meth c H1 locs1 (cells + 0) (slots + 0) Q (F0 m (pc + 3) ls (.int r :: rest))) : W p l e R s m args below meth c H locs cells slots Q (F0 m pc ls (.long p3 :: .long p2 :: .int p1 :: .ref a0 :: rest)) :=
  cl_i (rn_V (n := 3) (As := [.int p1, .long p2, .long p3]) (q := (RX9, TX9, 36)) F hw hl (m_X9_lot l G p1 p2 p3 S a0 hA0 post hQ) 8 (by decide) (by decide) hA0 rfl rfl h1 twi_yX9_lot tws_yX9_lot twn_RX9 two_yX9_lot rfl rfl ⟨rfl, by decide, by decide, by decide +kernel⟩ rfl ⟨hR1, hR2⟩ rfl hrest hdg ⟨hf1, hf2⟩) hw kk
-- X9_buyer
def wp_X9_buyer (p1 : Int64) (S0 : St) (post : Int32 → St → Prop) : Prop :=
  ((gi S0 8 0 12) = (30 : Int32) →
  post (-1 : Int32) S0) ∧
  (¬ (gi S0 8 0 12) = (30 : Int32) →
  (p1 < (0 : Int64) →
  post (-1 : Int32) S0) ∧
  (¬ p1 < (0 : Int64) →
  (p1 ≤ (1000000000000 : Int64) →
  vp_in (gi S0 8 0 12) 30 ∧
  ∀ S2 : St, S2 = sj S0 28 0 (gi S0 8 0 12).toNatClampNeg p1 →
  vp_in (gi S2 8 0 12) 30 ∧
  ∀ S4 : St, S4 = sj S2 30 0 (gi S2 8 0 12).toNatClampNeg (-1 : Int64) →
  ∀ S5 : St, S5 = si S4 8 0 12 ((gi S4 8 0 12) + (1 : Int32)) →
  post ((gi S5 8 0 12) - (1 : Int32)) S5) ∧
  (¬ p1 ≤ (1000000000000 : Int64) →
  post (-1 : Int32) S0)))
set_option maxRecDepth 100000 in
set_option maxHeartbeats 4000000 in
theorem m_X9_buyer (l : Launch) (G : GT) (p1 : Int64) (S0 : St) (a0 : Nat) (hA0 : AtO S0 8 0 a0) (post : Int32 → St → Prop) (hQ : wp_X9_buyer p1 S0 post) : Met l yX9_buyer (wM yX9_buyer cX9_buyer 3 (some (FieldType.int))) ({ frames := 0, cells := 0, slots := 0, locals := 0 } : Room) (PC G S0 [.ref a0, .long p1]) (QI G S0 post) 0 0 (QA G) := by
  refine mt_start RX9 (by decide) rfl (Nat.le_of_ble_eq_true rfl) ?_
  intro p e s m args below meth c ls F hr hlk hnm hw hl
  have hx := F.1
  have hb := F.2.1
  have hown := F.2.2.2.1
  have hts := F.2.2.2.2
  have hX : Ext S0 S0 := Ext.rf
  have hsz0 := hw.1.1.1
  have hl : lv_has ls 3 [(0, .ref a0), (1, .long p1)] := hl
  unfold wp_X9_buyer at hQ
  refine lv_aload_n hx hb dX9_buyer_0 rfl (lv_at hl 0 rfl) ?_
  refine g_8_12 F hw hA0 twf_RX9_85 dX9_buyer_1 ?_
  refine lv_bipush (v := 30) hx hb dX9_buyer_4 (by decide) ?_
  refine lv_icmp_eq (tgt := 23) hx hb dX9_buyer_6 (by decide) (fun hc => ?_) (fun hc => ?_)
  · have hQ := hQ.1 hc
    refine lv_iconst (v := -1) hx hb dX9_buyer_23 (by decide) ?_
    exact rt_i F hr hlk hw hX hQ (show 0 ≤ 0 from by omega) (show 0 ≤ 0 from by omega) dX9_buyer_24
  · have hQ := hQ.2 hc
    refine lv_lload_n hx hb dX9_buyer_9 rfl (lv_at hl 1 rfl) ?_
    refine lv_lconst (v := 0) hx hb dX9_buyer_10 (by decide) ?_
    refine lc_lt (tgt := 23) F dX9_buyer_11 dX9_buyer_12 (by decide) (fun hc => ?_) (fun hc => ?_)
    · have hQ := hQ.1 hc
      refine lv_iconst (v := -1) hx hb dX9_buyer_23 (by decide) ?_
      exact rt_i F hr hlk hw hX hQ (show 0 ≤ 0 from by omega) (show 0 ≤ 0 from by omega) dX9_buyer_24
    · have hQ := hQ.2 hc
      refine lv_lload_n hx hb dX9_buyer_15 rfl (lv_at hl 1 rfl) ?_
      refine lv_ldc2 (v := 1000000000000) hx hb hown (hts _ twl_RX9_115) dX9_buyer_16 ?_
      refine lc_le (tgt := 25) F dX9_buyer_19 dX9_buyer_20 (by decide) (fun hc => ?_) (fun hc => ?_)
      · have hQ := hQ.1 hc
        refine lv_aload_n hx hb dX9_buyer_25 rfl (lv_at hl 0 rfl) ?_
        refine g_8_13 F hw hA0 twf_RX9_45 dX9_buyer_26 (fun a1 hA1 => ?_)
        refine lv_aload_n hx hb dX9_buyer_29 rfl (lv_at hl 0 rfl) ?_
        refine g_8_12 F hw hA0 twf_RX9_85 dX9_buyer_30 ?_
        refine lv_lload_n hx hb dX9_buyer_33 rfl (lv_at hl 1 rfl) ?_
        obtain ⟨hin, hQ⟩ := hQ
        refine as_28 F hw hA1 hin dX9_buyer_34 (fun S2 H locs eS2 hw hx1 => ?_)
        have hQ := hQ S2 eS2
        have hX := hX.trans hx1
        have hA0 := hA0.ext hx1
        refine lv_aload_n hx hb dX9_buyer_35 rfl (lv_at hl 0 rfl) ?_
        refine g_8_15 F hw hA0 twf_RX9_51 dX9_buyer_36 (fun a3 hA3 => ?_)
        refine lv_aload_n hx hb dX9_buyer_39 rfl (lv_at hl 0 rfl) ?_
        refine g_8_12 F hw hA0 twf_RX9_85 dX9_buyer_40 ?_
        refine lv_ldc2 (v := -1) hx hb hown (hts _ twl_RX9_117) dX9_buyer_43 ?_
        obtain ⟨hin, hQ⟩ := hQ
        refine as_30 F hw hA3 hin dX9_buyer_46 (fun S4 H locs eS4 hw hx1 => ?_)
        have hQ := hQ S4 eS4
        have hX := hX.trans hx1
        have hA0 := hA0.ext hx1
        refine lv_aload_n hx hb dX9_buyer_47 rfl (lv_at hl 0 rfl) ?_
        refine lv_dup hx hb dX9_buyer_48 rfl ?_
        refine g_8_12 F hw hA0 twf_RX9_85 dX9_buyer_49 ?_
        refine lv_iconst (v := 1) hx hb dX9_buyer_52 (by decide) ?_
        refine lv_iadd hx hb dX9_buyer_53 ?_
        refine p_8_12 F hw hA0 twf_RX9_85 dX9_buyer_54 (fun S5 H locs eS5 hw hx1 => ?_)
        have hQ := hQ S5 eS5
        have hX := hX.trans hx1
        have hA0 := hA0.ext hx1
        refine lv_aload_n hx hb dX9_buyer_57 rfl (lv_at hl 0 rfl) ?_
        refine g_8_12 F hw hA0 twf_RX9_85 dX9_buyer_58 ?_
        refine lv_iconst (v := 1) hx hb dX9_buyer_61 (by decide) ?_
        refine lv_isub hx hb dX9_buyer_62 ?_
        exact rt_i F hr hlk hw hX hQ (show 0 ≤ 0 from by omega) (show 0 ≤ 0 from by omega) dX9_buyer_63
      · have hQ := hQ.2 hc
        refine lv_iconst (v := -1) hx hb dX9_buyer_23 (by decide) ?_
        exact rt_i F hr hlk hw hX hQ (show 0 ≤ 0 from by omega) (show 0 ≤ 0 from by omega) dX9_buyer_24
theorem k_X9_buyer {p : Program} {l : Launch} {e : Env} {R : Room} {s : State} {m : MethodId} {args : Array Value} {below : List Frame} {meth : Method} {c : Code} {H : Heap} {locs : List Loc} {cells slots : Nat} {Q : State → Prop} {cc : ByteArray} {pc nL : Nat} {ls : Array Slot} {rest : List Value} {G : GT} {S : St} {own : String} {p1 : Int64} {post : Int32 → St → Prop} {lv : List (Nat × Value)} {idx : Nat} (F : CX p m c cc nL s args own) (hw : WW G S s H locs) (hl : lv_has ls nL lv) {a0 : Nat} (hA0 : AtO S 8 0 a0) (hQ : wp_X9_buyer p1 S post) (h1 : Cond.methodLink own idx yX9_buyer ∈ wT) (hR1 : 0 + 1 ≤ R.frames) (hR2 : 8 + (3 + 11) + 0 ≤ R.locals) (hrest : (rest.map fun v => v.category).sum ≤ 8) (hdg : decode cc pc = .ok (.invokevirtual idx, 3)) (hf1 : cells + 0 ≤ R.cells) (hf2 : slots + 0 ≤ R.slots)
    (kk : ∀ (r : Int32) (S1 : St) (H1 : Heap) (locs1 : List Loc), post r S1 → WW G S1 s H1 locs1 → Ext S S1 → W p l e R s m args below meth c H1 locs1 (cells + 0) (slots + 0) Q (F0 m (pc + 3) ls (.int r :: rest))) : W p l e R s m args below meth c H locs cells slots Q (F0 m pc ls (.long p1 :: .ref a0 :: rest)) :=
  cl_i (rn_V (n := 1) (As := [.long p1]) (q := (RX9, TX9, 36)) F hw hl (m_X9_buyer l G p1 S a0 hA0 post hQ) 8 (by decide) (by decide) hA0 rfl rfl h1 twi_yX9_buyer tws_yX9_buyer twn_RX9 two_yX9_buyer rfl rfl ⟨rfl, by decide, by decide, by decide +kernel⟩ rfl ⟨hR1, hR2⟩ rfl hrest hdg ⟨hf1, hf2⟩) hw kk
-- X9_start
def bd_X9_start_134 (v6 : Int64) (post : Int32 → St → Prop) (K134 : Int32 → St → Prop) (x8_134 : Int32) (S15 : St) : Prop :=
  ((30 : Int32) ≤ x8_134 →
  post (v6.toInt32) S15) ∧
  (¬ (30 : Int32) ≤ x8_134 →
  vp_in x8_134 30 ∧
  ∀ S17 : St, S17 = sj S15 30 0 x8_134.toNatClampNeg (-1 : Int64) →
  ∀ v18 : Int32, v18 = x8_134 + (1 : Int32) →
  K134 v18 S17)
def lp_X9_start_134 (v6 : Int64) (post : Int32 → St → Prop) : Nat → Int32 → St → Prop
  | 0, _, _ => False
  | n + 1, x8_134, S15 => bd_X9_start_134 v6 post (fun x8_134 S15 => lp_X9_start_134 v6 post n x8_134 S15) x8_134 S15
def wp_X9_start (p1 : Int32) (p2 : Int64) (p3 : Int64) (S0 : St) (post : Int32 → St → Prop) : Prop :=
  wp_X9_isLot p1 S0 (fun r2 S1 =>
  (r2 = 0 →
  post (-1 : Int32) S1) ∧
  (¬ r2 = 0 →
  vp_in p1 60 ∧
  (¬ (gi S1 20 0 p1.toNatClampNeg) = 0 →
  post (-1 : Int32) S1) ∧
  ((gi S1 20 0 p1.toNatClampNeg) = 0 →
  (¬ (gi S1 8 0 17) = (-1 : Int32) →
  post (-1 : Int32) S1) ∧
  ((gi S1 8 0 17) = (-1 : Int32) →
  vp_in p1 60 ∧
  (p2 < (gj S1 19 0 p1.toNatClampNeg) →
  post (-1 : Int32) S1) ∧
  (¬ p2 < (gj S1 19 0 p1.toNatClampNeg) →
  ((1000000000 : Int64) < p2 →
  post (-1 : Int32) S1) ∧
  (¬ (1000000000 : Int64) < p2 →
  (p3 < (1 : Int64) →
  post (-1 : Int32) S1) ∧
  (¬ p3 < (1 : Int64) →
  (p3 ≤ (1000000 : Int64) →
  vp_in p1 60 ∧
  ¬ p3 = 0 ∧
  ∀ v6 : Int64, v6 = (100 : Int64) * (((p2 - (gj S1 19 0 p1.toNatClampNeg)) / p3) + (1 : Int64)) →
  (v6 ≤ (10000000 : Int64) →
  ∀ S7 : St, S7 = si S1 8 0 17 p1 →
  vp_in p1 60 ∧
  ∀ S9 : St, S9 = si S7 20 0 p1.toNatClampNeg (1 : Int32) →
  ∀ S10 : St, S10 = sj S9 8 0 18 (0 : Int64) →
  ∀ S11 : St, S11 = sj S10 8 0 19 v6 →
  ∀ S12 : St, S12 = sj S11 8 0 20 p2 →
  ∀ S13 : St, S13 = sj S12 8 0 21 p3 →
  ∀ S14 : St, S14 = si S13 8 0 22 (0 : Int32) →
  ∃ n : Nat, lp_X9_start_134 v6 post n (0 : Int32) S14) ∧
  (¬ v6 ≤ (10000000 : Int64) →
  post (-1 : Int32) S1)) ∧
  (¬ p3 ≤ (1000000 : Int64) →
  post (-1 : Int32) S1))))))))
set_option maxRecDepth 100000 in
set_option maxHeartbeats 4000000 in
theorem m_X9_start (l : Launch) (G : GT) (p1 : Int32) (p2 : Int64) (p3 : Int64) (S0 : St) (a0 : Nat) (hA0 : AtO S0 8 0 a0) (post : Int32 → St → Prop) (hQ : wp_X9_start p1 p2 p3 S0 post) : Met l yX9_start (wM yX9_start cX9_start 9 (some (FieldType.int))) ({ frames := 1, cells := 0, slots := 0, locals := 21 } : Room) (PC G S0 [.ref a0, .int p1, .long p2, .long p3]) (QI G S0 post) 0 0 (QA G) := by
  refine mt_start RX9 (by decide) rfl (Nat.le_of_ble_eq_true rfl) ?_
  intro p e s m args below meth c ls F hr hlk hnm hw hl
  have hx := F.1
  have hb := F.2.1
  have hown := F.2.2.2.1
  have hts := F.2.2.2.2
  have hX : Ext S0 S0 := Ext.rf
  have hsz0 := hw.1.1.1
  have hl : lv_has ls 9 [(0, .ref a0), (1, .int p1), (2, .long p2), (4, .long p3)] := hl
  unfold wp_X9_start at hQ
  refine lv_aload_n hx hb dX9_start_0 rfl (lv_at hl 0 rfl) ?_
  refine lv_iload_n hx hb dX9_start_1 rfl (lv_at hl 1 rfl) ?_
  refine k_X9_isLot F hw hl hA0 hQ twm_RX9_119 (Nat.le_of_ble_eq_true rfl) (Nat.le_of_ble_eq_true rfl) (Nat.le_of_ble_eq_true rfl) dX9_start_2 (show 0 + 0 ≤ 0 from by omega) (show 0 + 0 ≤ 0 from by omega) (fun r2 S1 H locs hQ hw hx1 => ?_)
  have hX := hX.trans hx1
  have hA0 := hA0.ext hx1
  refine lv_if_eq (tgt := 60) hx hb dX9_start_5 (by decide) (fun hc => ?_) (fun hc => ?_)
  · have hQ := hQ.1 hc
    refine lv_iconst (v := -1) hx hb dX9_start_60 (by decide) ?_
    exact rt_i F hr hlk hw hX hQ (show (0 + 0) ≤ 0 from by omega) (show (0 + 0) ≤ 0 from by omega) dX9_start_61
  · have hQ := hQ.2 hc
    refine lv_aload_n hx hb dX9_start_8 rfl (lv_at hl 0 rfl) ?_
    refine g_8_4 F hw hA0 twf_RX9_20 dX9_start_9 (fun a3 hA3 => ?_)
    refine lv_iload_n hx hb dX9_start_12 rfl (lv_at hl 1 rfl) ?_
    obtain ⟨hin, hQ⟩ := hQ
    refine al_20 F hw hA3 hin dX9_start_13 ?_
    refine lv_if_ne (tgt := 60) hx hb dX9_start_14 (by decide) (fun hc => ?_) (fun hc => ?_)
    · have hQ := hQ.1 hc
      refine lv_iconst (v := -1) hx hb dX9_start_60 (by decide) ?_
      exact rt_i F hr hlk hw hX hQ (show (0 + 0) ≤ 0 from by omega) (show (0 + 0) ≤ 0 from by omega) dX9_start_61
    · have hQ := hQ.2 hc
      refine lv_aload_n hx hb dX9_start_17 rfl (lv_at hl 0 rfl) ?_
      refine g_8_17 F hw hA0 twf_RX9_54 dX9_start_18 ?_
      refine lv_iconst (v := -1) hx hb dX9_start_21 (by decide) ?_
      refine lv_icmp_ne (tgt := 60) hx hb dX9_start_22 (by decide) (fun hc => ?_) (fun hc => ?_)
      · have hQ := hQ.1 hc
        refine lv_iconst (v := -1) hx hb dX9_start_60 (by decide) ?_
        exact rt_i F hr hlk hw hX hQ (show (0 + 0) ≤ 0 from by omega) (show (0 + 0) ≤ 0 from by omega) dX9_start_61
      · have hQ := hQ.2 hc
        refine lv_lload_n hx hb dX9_start_25 rfl (lv_at hl 2 rfl) ?_
        refine lv_aload_n hx hb dX9_start_26 rfl (lv_at hl 0 rfl) ?_
        refine g_8_3 F hw hA0 twf_RX9_17 dX9_start_27 (fun a4 hA4 => ?_)
        refine lv_iload_n hx hb dX9_start_30 rfl (lv_at hl 1 rfl) ?_
        obtain ⟨hin, hQ⟩ := hQ
        refine al_19 F hw hA4 hin dX9_start_31 ?_
        refine lc_lt (tgt := 60) F dX9_start_32 dX9_start_33 (by decide) (fun hc => ?_) (fun hc => ?_)
        · have hQ := hQ.1 hc
          refine lv_iconst (v := -1) hx hb dX9_start_60 (by decide) ?_
          exact rt_i F hr hlk hw hX hQ (show (0 + 0) ≤ 0 from by omega) (show (0 + 0) ≤ 0 from by omega) dX9_start_61
        · have hQ := hQ.2 hc
          refine lv_lload_n hx hb dX9_start_36 rfl (lv_at hl 2 rfl) ?_
          refine lv_ldc2 (v := 1000000000) hx hb hown (hts _ twl_RX9_109) dX9_start_37 ?_
          refine lc_gt (tgt := 60) F dX9_start_40 dX9_start_41 (by decide) (fun hc => ?_) (fun hc => ?_)
          · have hQ := hQ.1 hc
            refine lv_iconst (v := -1) hx hb dX9_start_60 (by decide) ?_
            exact rt_i F hr hlk hw hX hQ (show (0 + 0) ≤ 0 from by omega) (show (0 + 0) ≤ 0 from by omega) dX9_start_61
          · have hQ := hQ.2 hc
            refine lv_lload hx hb dX9_start_44 (lv_at hl 3 rfl) ?_
            refine lv_lconst (v := 1) hx hb dX9_start_46 (by decide) ?_
            refine lc_lt (tgt := 60) F dX9_start_47 dX9_start_48 (by decide) (fun hc => ?_) (fun hc => ?_)
            · have hQ := hQ.1 hc
              refine lv_iconst (v := -1) hx hb dX9_start_60 (by decide) ?_
              exact rt_i F hr hlk hw hX hQ (show (0 + 0) ≤ 0 from by omega) (show (0 + 0) ≤ 0 from by omega) dX9_start_61
            · have hQ := hQ.2 hc
              refine lv_lload hx hb dX9_start_51 (lv_at hl 3 rfl) ?_
              refine lv_ldc2 (v := 1000000) hx hb hown (hts _ twl_RX9_123) dX9_start_53 ?_
              refine lc_le (tgt := 62) F dX9_start_56 dX9_start_57 (by decide) (fun hc => ?_) (fun hc => ?_)
              · have hQ := hQ.1 hc
                refine lv_ldc2 (v := 100) hx hb hown (hts _ twl_RX9_125) dX9_start_62 ?_
                refine lv_lload_n hx hb dX9_start_65 rfl (lv_at hl 2 rfl) ?_
                refine lv_aload_n hx hb dX9_start_66 rfl (lv_at hl 0 rfl) ?_
                refine g_8_3 F hw hA0 twf_RX9_17 dX9_start_67 (fun a5 hA5 => ?_)
                refine lv_iload_n hx hb dX9_start_70 rfl (lv_at hl 1 rfl) ?_
                obtain ⟨hin, hQ⟩ := hQ
                refine al_19 F hw hA5 hin dX9_start_71 ?_
                refine lv_lsub hx hb dX9_start_72 ?_
                refine lv_lload hx hb dX9_start_73 (lv_at hl 3 rfl) ?_
                obtain ⟨hne, hQ⟩ := hQ
                refine lv_ldiv hx hb dX9_start_75 hne ?_
                refine lv_lconst (v := 1) hx hb dX9_start_76 (by decide) ?_
                refine lv_ladd hx hb dX9_start_77 ?_
                refine lv_lmul hx hb dX9_start_78 ?_
                refine lv_topl (fun v6 ev6 => ?_)
                have hQ := hQ v6 ev6
                refine lv_lstore (lv' := [(6, .long v6), (0, .ref a0), (1, .int p1), (2, .long p2), (4, .long p3)]) hx hb dX9_start_79 hl (by decide) rfl (fun ls hl => ?_)
                refine lv_lload hx hb dX9_start_81 (lv_at hl 0 rfl) ?_
                refine lv_ldc2 (v := 10000000) hx hb hown (hts _ twl_RX9_127) dX9_start_83 ?_
                refine lc_le (tgt := 92) F dX9_start_86 dX9_start_87 (by decide) (fun hc => ?_) (fun hc => ?_)
                · have hQ := hQ.1 hc
                  refine lv_aload_n hx hb dX9_start_92 rfl (lv_at hl 1 rfl) ?_
                  refine lv_iload_n hx hb dX9_start_93 rfl (lv_at hl 2 rfl) ?_
                  refine p_8_17 F hw hA0 twf_RX9_54 dX9_start_94 (fun S7 H locs eS7 hw hx1 => ?_)
                  have hQ := hQ S7 eS7
                  have hX := hX.trans hx1
                  have hA0 := hA0.ext hx1
                  refine lv_aload_n hx hb dX9_start_97 rfl (lv_at hl 1 rfl) ?_
                  refine g_8_4 F hw hA0 twf_RX9_20 dX9_start_98 (fun a8 hA8 => ?_)
                  refine lv_iload_n hx hb dX9_start_101 rfl (lv_at hl 2 rfl) ?_
                  refine lv_iconst (v := 1) hx hb dX9_start_102 (by decide) ?_
                  obtain ⟨hin, hQ⟩ := hQ
                  refine as_20 F hw hA8 hin dX9_start_103 (fun S9 H locs eS9 hw hx1 => ?_)
                  have hQ := hQ S9 eS9
                  have hX := hX.trans hx1
                  have hA0 := hA0.ext hx1
                  refine lv_aload_n hx hb dX9_start_104 rfl (lv_at hl 1 rfl) ?_
                  refine lv_lconst (v := 0) hx hb dX9_start_105 (by decide) ?_
                  refine p_8_18 F hw hA0 twf_RX9_129 dX9_start_106 (fun S10 H locs eS10 hw hx1 => ?_)
                  have hQ := hQ S10 eS10
                  have hX := hX.trans hx1
                  have hA0 := hA0.ext hx1
                  refine lv_aload_n hx hb dX9_start_109 rfl (lv_at hl 1 rfl) ?_
                  refine lv_lload hx hb dX9_start_110 (lv_at hl 0 rfl) ?_
                  refine p_8_19 F hw hA0 twf_RX9_133 dX9_start_112 (fun S11 H locs eS11 hw hx1 => ?_)
                  have hQ := hQ S11 eS11
                  have hX := hX.trans hx1
                  have hA0 := hA0.ext hx1
                  refine lv_aload_n hx hb dX9_start_115 rfl (lv_at hl 1 rfl) ?_
                  refine lv_lload_n hx hb dX9_start_116 rfl (lv_at hl 3 rfl) ?_
                  refine p_8_20 F hw hA0 twf_RX9_136 dX9_start_117 (fun S12 H locs eS12 hw hx1 => ?_)
                  have hQ := hQ S12 eS12
                  have hX := hX.trans hx1
                  have hA0 := hA0.ext hx1
                  refine lv_aload_n hx hb dX9_start_120 rfl (lv_at hl 1 rfl) ?_
                  refine lv_lload hx hb dX9_start_121 (lv_at hl 4 rfl) ?_
                  refine p_8_21 F hw hA0 twf_RX9_139 dX9_start_123 (fun S13 H locs eS13 hw hx1 => ?_)
                  have hQ := hQ S13 eS13
                  have hX := hX.trans hx1
                  have hA0 := hA0.ext hx1
                  refine lv_aload_n hx hb dX9_start_126 rfl (lv_at hl 1 rfl) ?_
                  refine lv_iconst (v := 0) hx hb dX9_start_127 (by decide) ?_
                  refine p_8_22 F hw hA0 twf_RX9_142 (Or.inl rfl) dX9_start_128 (fun S14 H locs eS14 hw hx1 => ?_)
                  have hQ := hQ S14 eS14
                  have hX := hX.trans hx1
                  have hA0 := hA0.ext hx1
                  refine lv_iconst (v := 0) hx hb dX9_start_131 (by decide) ?_
                  refine lv_istore (lv' := [(8, .int (0 : Int32)), (6, .long v6), (0, .ref a0), (1, .int p1), (2, .long p2), (4, .long p3)]) hx hb dX9_start_132 hl (by decide) rfl (fun ls hl => ?_)
                  have hloop134 : ∀ (n134 : Nat) (x8_134 : Int32) (S15 : St) (H : Heap) (locs : List Loc) (ls : Array Slot) (cl134 sl134 : Nat), lp_X9_start_134 v6 post n134 x8_134 S15 → WW G S15 s H locs → Ext S0 S15 → AtO S15 8 0 a0 → lv_has ls 9 [(8, .int x8_134), (6, .long v6), (0, .ref a0)] → cl134 ≤ (0 + 0) + 0 → sl134 ≤ (0 + 0) + 0 → W p l e ({ frames := 1, cells := 0, slots := 0, locals := 21 } : Room) s m args below meth c H locs cl134 sl134 (MQ below (QI G S0 post) args s 0 0 (QA G)) (F0 m 134 ls []) := by
                    intro n134
                    induction n134 with
                    | zero => intro x8_134 S15 H locs ls cl sl hQ; exact False.elim hQ
                    | succ n134 ih134 =>
                      intro x8_134 S15 H locs ls cl134 sl134 hQ hw hX hA0 hl hcl134 hsl134
                      have hQ : bd_X9_start_134 v6 post (fun x8_134 S15 => lp_X9_start_134 v6 post n134 x8_134 S15) x8_134 S15 := hQ
                      unfold bd_X9_start_134 at hQ
                      refine lv_iload hx hb dX9_start_134 (lv_at hl 0 rfl) ?_
                      refine lv_bipush (v := 30) hx hb dX9_start_136 (by decide) ?_
                      refine lv_icmp_ge (tgt := 157) hx hb dX9_start_138 (by decide) (fun hc => ?_) (fun hc => ?_)
                      · have hQ := hQ.1 hc
                        refine lv_lload hx hb dX9_start_157 (lv_at hl 1 rfl) ?_
                        refine lv_l2i hx hb dX9_start_159 rfl ?_
                        exact rt_i F hr hlk hw hX hQ (show cl134 ≤ 0 from by omega) (show sl134 ≤ 0 from by omega) dX9_start_160
                      · have hQ := hQ.2 hc
                        refine lv_aload_n hx hb dX9_start_141 rfl (lv_at hl 2 rfl) ?_
                        refine g_8_15 F hw hA0 twf_RX9_51 dX9_start_142 (fun a16 hA16 => ?_)
                        refine lv_iload hx hb dX9_start_145 (lv_at hl 0 rfl) ?_
                        refine lv_ldc2 (v := -1) hx hb hown (hts _ twl_RX9_117) dX9_start_147 ?_
                        obtain ⟨hin, hQ⟩ := hQ
                        refine as_30 F hw hA16 hin dX9_start_150 (fun S17 H locs eS17 hw hx1 => ?_)
                        have hQ := hQ S17 eS17
                        have hX := hX.trans hx1
                        have hA0 := hA0.ext hx1
                        obtain ⟨v18, ev18⟩ : ∃ y : Int32, y = x8_134 + (1 : Int32) := ⟨_, rfl⟩
                        have hQ := hQ v18 ev18
                        refine lv_iinc (v := v18) (lv' := [(8, .int v18), (6, .long v6), (0, .ref a0)]) hx hb dX9_start_151 hl (k := 0) rfl (by rw [ev18]; rfl) (by decide) rfl (fun ls hl => ?_)
                        refine lv_goto (tgt := 134) hx hb dX9_start_154 (by decide) ?_
                        exact ih134 v18 S17 _ _ _ _ _ hQ hw hX hA0 (lv_sub hl [0, 1, 2] rfl) (by omega) (by omega)
                  obtain ⟨n, hQ⟩ := hQ
                  exact hloop134 n (0 : Int32) S14 _ _ _ _ _ hQ hw hX hA0 (lv_sub hl [0, 1, 2] rfl) (by omega) (by omega)
                · have hQ := hQ.2 hc
                  refine lv_iconst (v := -1) hx hb dX9_start_90 (by decide) ?_
                  exact rt_i F hr hlk hw hX hQ (show (0 + 0) ≤ 0 from by omega) (show (0 + 0) ≤ 0 from by omega) dX9_start_91
              · have hQ := hQ.2 hc
                refine lv_iconst (v := -1) hx hb dX9_start_60 (by decide) ?_
                exact rt_i F hr hlk hw hX hQ (show (0 + 0) ≤ 0 from by omega) (show (0 + 0) ≤ 0 from by omega) dX9_start_61
theorem k_X9_start {p : Program} {l : Launch} {e : Env} {R : Room} {s : State} {m : MethodId} {args : Array Value} {below : List Frame} {meth : Method} {c : Code} {H : Heap} {locs : List Loc} {cells slots : Nat} {Q : State → Prop} {cc : ByteArray} {pc nL : Nat} {ls : Array Slot} {rest : List Value} {G : GT} {S : St} {own : String} {p1 : Int32} {p2 : Int64} {p3 : Int64} {post : Int32 → St → Prop} {lv : List (Nat × Value)} {idx : Nat} (F : CX p m c cc nL s args own) (hw : WW G S s H locs) (hl : lv_has ls nL lv) {a0 : Nat} (hA0 : AtO S 8 0 a0) (hQ : wp_X9_start p1 p2 p3 S post) (h1 : Cond.methodLink own idx yX9_start ∈ wT) (hR1 : 1 + 1 ≤ R.frames) (hR2 : 8 + (9 + 11) + 21 ≤ R.locals) (hrest : (rest.map fun v => v.category).sum ≤ 8) (hdg : decode cc pc = .ok (.invokevirtual idx, 3)) (hf1 : cells + 0 ≤ R.cells) (hf2 : slots + 0 ≤ R.slots)
    (kk : ∀ (r : Int32) (S1 : St) (H1 : Heap) (locs1 : List Loc), post r S1 → WW G S1 s H1 locs1 → Ext S S1 → W p l e R s m args below meth c H1 locs1 (cells + 0) (slots + 0) Q (F0 m (pc + 3) ls (.int r :: rest))) : W p l e R s m args below meth c H locs cells slots Q (F0 m pc ls (.long p3 :: .long p2 :: .int p1 :: .ref a0 :: rest)) :=
  cl_i (rn_V (n := 3) (As := [.int p1, .long p2, .long p3]) (q := (RX9, TX9, 36)) F hw hl (m_X9_start l G p1 p2 p3 S a0 hA0 post hQ) 8 (by decide) (by decide) hA0 rfl rfl h1 twi_yX9_start tws_yX9_start twn_RX9 two_yX9_start rfl rfl ⟨rfl, by decide, by decide, by decide +kernel⟩ rfl ⟨hR1, hR2⟩ rfl hrest hdg ⟨hf1, hf2⟩) hw kk
-- X9_priceAt
def wp_X9_priceAt (p1 : Int64) (S0 : St) (post : Int64 → St → Prop) : Prop :=
  post ((gj S0 8 0 20) - ((gj S0 8 0 21) * (p1 / (100 : Int64)))) S0
set_option maxRecDepth 100000 in
set_option maxHeartbeats 4000000 in
theorem m_X9_priceAt (l : Launch) (G : GT) (p1 : Int64) (S0 : St) (a0 : Nat) (hA0 : AtO S0 8 0 a0) (post : Int64 → St → Prop) (hQ : wp_X9_priceAt p1 S0 post) : Met l yX9_priceAt (wM yX9_priceAt cX9_priceAt 3 (some (FieldType.long))) ({ frames := 0, cells := 0, slots := 0, locals := 0 } : Room) (PC G S0 [.ref a0, .long p1]) (QJ G S0 post) 0 0 (QA G) := by
  refine mt_start RX9 (by decide) rfl (Nat.le_of_ble_eq_true rfl) ?_
  intro p e s m args below meth c ls F hr hlk hnm hw hl
  have hx := F.1
  have hb := F.2.1
  have hown := F.2.2.2.1
  have hts := F.2.2.2.2
  have hX : Ext S0 S0 := Ext.rf
  have hsz0 := hw.1.1.1
  have hl : lv_has ls 3 [(0, .ref a0), (1, .long p1)] := hl
  unfold wp_X9_priceAt at hQ
  refine lv_aload_n hx hb dX9_priceAt_0 rfl (lv_at hl 0 rfl) ?_
  refine g_8_20 F hw hA0 twf_RX9_136 dX9_priceAt_1 ?_
  refine lv_aload_n hx hb dX9_priceAt_4 rfl (lv_at hl 0 rfl) ?_
  refine g_8_21 F hw hA0 twf_RX9_139 dX9_priceAt_5 ?_
  refine lv_lload_n hx hb dX9_priceAt_8 rfl (lv_at hl 1 rfl) ?_
  refine lv_ldc2 (v := 100) hx hb hown (hts _ twl_RX9_125) dX9_priceAt_9 ?_
  refine lv_ldiv hx hb dX9_priceAt_12 (by decide) ?_
  refine lv_lmul hx hb dX9_priceAt_13 ?_
  refine lv_lsub hx hb dX9_priceAt_14 ?_
  exact rt_l F hr hlk hw hX hQ (show 0 ≤ 0 from by omega) (show 0 ≤ 0 from by omega) dX9_priceAt_15
theorem k_X9_priceAt {p : Program} {l : Launch} {e : Env} {R : Room} {s : State} {m : MethodId} {args : Array Value} {below : List Frame} {meth : Method} {c : Code} {H : Heap} {locs : List Loc} {cells slots : Nat} {Q : State → Prop} {cc : ByteArray} {pc nL : Nat} {ls : Array Slot} {rest : List Value} {G : GT} {S : St} {own : String} {p1 : Int64} {post : Int64 → St → Prop} {lv : List (Nat × Value)} {idx : Nat} (F : CX p m c cc nL s args own) (hw : WW G S s H locs) (hl : lv_has ls nL lv) {a0 : Nat} (hA0 : AtO S 8 0 a0) (hQ : wp_X9_priceAt p1 S post) (h1 : Cond.methodLink own idx yX9_priceAt ∈ wT) (hR1 : 0 + 1 ≤ R.frames) (hR2 : 8 + (3 + 11) + 0 ≤ R.locals) (hrest : (rest.map fun v => v.category).sum ≤ 8) (hdg : decode cc pc = .ok (.invokevirtual idx, 3)) (hf1 : cells + 0 ≤ R.cells) (hf2 : slots + 0 ≤ R.slots)
    (kk : ∀ (r : Int64) (S1 : St) (H1 : Heap) (locs1 : List Loc), post r S1 → WW G S1 s H1 locs1 → Ext S S1 → W p l e R s m args below meth c H1 locs1 (cells + 0) (slots + 0) Q (F0 m (pc + 3) ls (.long r :: rest))) : W p l e R s m args below meth c H locs cells slots Q (F0 m pc ls (.long p1 :: .ref a0 :: rest)) :=
  cl_l (rn_V (n := 1) (As := [.long p1]) (q := (RX9, TX9, 36)) F hw hl (m_X9_priceAt l G p1 S a0 hA0 post hQ) 8 (by decide) (by decide) hA0 rfl rfl h1 twi_yX9_priceAt tws_yX9_priceAt twn_RX9 two_yX9_priceAt rfl rfl ⟨rfl, by decide, by decide, by decide +kernel⟩ rfl ⟨hR1, hR2⟩ rfl hrest hdg ⟨hf1, hf2⟩) hw kk
-- X9_clock
def wp_X9_clock  (S0 : St) (post : Int64 → St → Prop) : Prop :=
  (¬ (gi S0 8 0 17) = (-1 : Int32) →
  wp_X9_priceAt (gj S0 8 0 18) S0 (fun r2 S1 =>
  post r2 S1)) ∧
  ((gi S0 8 0 17) = (-1 : Int32) →
  post (-1 : Int64) S0)
set_option maxRecDepth 100000 in
set_option maxHeartbeats 4000000 in
theorem m_X9_clock (l : Launch) (G : GT)  (S0 : St) (a0 : Nat) (hA0 : AtO S0 8 0 a0) (post : Int64 → St → Prop) (hQ : wp_X9_clock S0 post) : Met l yX9_clock (wM yX9_clock cX9_clock 1 (some (FieldType.long))) ({ frames := 1, cells := 0, slots := 0, locals := 22 } : Room) (PC G S0 [.ref a0]) (QJ G S0 post) 0 0 (QA G) := by
  refine mt_start RX9 (by decide) rfl (Nat.le_of_ble_eq_true rfl) ?_
  intro p e s m args below meth c ls F hr hlk hnm hw hl
  have hx := F.1
  have hb := F.2.1
  have hown := F.2.2.2.1
  have hts := F.2.2.2.2
  have hX : Ext S0 S0 := Ext.rf
  have hsz0 := hw.1.1.1
  have hl : lv_has ls 1 [(0, .ref a0)] := hl
  unfold wp_X9_clock at hQ
  refine lv_aload_n hx hb dX9_clock_0 rfl (lv_at hl 0 rfl) ?_
  refine g_8_17 F hw hA0 twf_RX9_54 dX9_clock_1 ?_
  refine lv_iconst (v := -1) hx hb dX9_clock_4 (by decide) ?_
  refine lv_icmp_ne (tgt := 14) hx hb dX9_clock_5 (by decide) (fun hc => ?_) (fun hc => ?_)
  · have hQ := hQ.1 hc
    refine lv_aload_n hx hb dX9_clock_14 rfl (lv_at hl 0 rfl) ?_
    refine lv_aload_n hx hb dX9_clock_15 rfl (lv_at hl 0 rfl) ?_
    refine g_8_18 F hw hA0 twf_RX9_129 dX9_clock_16 ?_
    refine k_X9_priceAt F hw hl hA0 hQ twm_RX9_146 (Nat.le_of_ble_eq_true rfl) (Nat.le_of_ble_eq_true rfl) (Nat.le_of_ble_eq_true rfl) dX9_clock_19 (show 0 + 0 ≤ 0 from by omega) (show 0 + 0 ≤ 0 from by omega) (fun r2 S1 H locs hQ hw hx1 => ?_)
    have hX := hX.trans hx1
    have hA0 := hA0.ext hx1
    exact rt_l F hr hlk hw hX hQ (show (0 + 0) ≤ 0 from by omega) (show (0 + 0) ≤ 0 from by omega) dX9_clock_22
  · have hQ := hQ.2 hc
    refine lv_ldc2 (v := -1) hx hb hown (hts _ twl_RX9_117) dX9_clock_8 ?_
    refine lv_goto (tgt := 22) hx hb dX9_clock_11 (by decide) ?_
    exact rt_l F hr hlk hw hX hQ (show 0 ≤ 0 from by omega) (show 0 ≤ 0 from by omega) dX9_clock_22
theorem k_X9_clock {p : Program} {l : Launch} {e : Env} {R : Room} {s : State} {m : MethodId} {args : Array Value} {below : List Frame} {meth : Method} {c : Code} {H : Heap} {locs : List Loc} {cells slots : Nat} {Q : State → Prop} {cc : ByteArray} {pc nL : Nat} {ls : Array Slot} {rest : List Value} {G : GT} {S : St} {own : String}  {post : Int64 → St → Prop} {lv : List (Nat × Value)} {idx : Nat} (F : CX p m c cc nL s args own) (hw : WW G S s H locs) (hl : lv_has ls nL lv) {a0 : Nat} (hA0 : AtO S 8 0 a0) (hQ : wp_X9_clock S post) (h1 : Cond.methodLink own idx yX9_clock ∈ wT) (hR1 : 1 + 1 ≤ R.frames) (hR2 : 8 + (1 + 11) + 22 ≤ R.locals) (hrest : (rest.map fun v => v.category).sum ≤ 8) (hdg : decode cc pc = .ok (.invokevirtual idx, 3)) (hf1 : cells + 0 ≤ R.cells) (hf2 : slots + 0 ≤ R.slots)
    (kk : ∀ (r : Int64) (S1 : St) (H1 : Heap) (locs1 : List Loc), post r S1 → WW G S1 s H1 locs1 → Ext S S1 → W p l e R s m args below meth c H1 locs1 (cells + 0) (slots + 0) Q (F0 m (pc + 3) ls (.long r :: rest))) : W p l e R s m args below meth c H locs cells slots Q (F0 m pc ls (.ref a0 :: rest)) :=
  cl_l (rn_V (n := 0) (As := []) (q := (RX9, TX9, 36)) F hw hl (m_X9_clock l G  S a0 hA0 post hQ) 8 (by decide) (by decide) hA0 rfl rfl h1 twi_yX9_clock tws_yX9_clock twn_RX9 two_yX9_clock rfl rfl ⟨rfl, by decide, by decide, by decide +kernel⟩ rfl ⟨hR1, hR2⟩ rfl hrest hdg ⟨hf1, hf2⟩) hw kk
-- X9_press
def wp_X9_press (p1 : Int32) (p2 : Int64) (S0 : St) (post : Int32 → St → Prop) : Prop :=
  wp_X9_isBuyer p1 S0 (fun r2 S1 =>
  (r2 = 0 →
  post (0 : Int32) S1) ∧
  (¬ r2 = 0 →
  ((gi S1 8 0 17) = (-1 : Int32) →
  post (0 : Int32) S1) ∧
  (¬ (gi S1 8 0 17) = (-1 : Int32) →
  (¬ (gi S1 8 0 22) = 0 →
  post (0 : Int32) S1) ∧
  ((gi S1 8 0 22) = 0 →
  (p2 < (0 : Int64) →
  post (0 : Int32) S1) ∧
  (¬ p2 < (0 : Int64) →
  (p2 ≤ (20000000 : Int64) →
  vp_in p1 30 ∧
  (p2 ≤ (gj S1 29 0 p1.toNatClampNeg) →
  ((gj S1 8 0 19) ≤ (0 : Int64) →
  post (0 : Int32) S1) ∧
  (¬ (gj S1 8 0 19) ≤ (0 : Int64) →
  vp_in p1 30 ∧
  ((gj S1 30 0 p1.toNatClampNeg) = (-1 : Int64) →
  vp_in p1 30 ∧
  ∀ S6 : St, S6 = sj S1 30 0 p1.toNatClampNeg (0 : Int64) →
  post (1 : Int32) S6) ∧
  (¬ (gj S1 30 0 p1.toNatClampNeg) = (-1 : Int64) →
  vp_in p1 30 ∧
  ((0 : Int64) < (gj S1 30 0 p1.toNatClampNeg) →
  vp_in p1 30 ∧
  ∀ S9 : St, S9 = sj S1 30 0 p1.toNatClampNeg (0 : Int64) →
  post (1 : Int32) S9) ∧
  (¬ (0 : Int64) < (gj S1 30 0 p1.toNatClampNeg) →
  post (0 : Int32) S1)))) ∧
  (¬ p2 ≤ (gj S1 29 0 p1.toNatClampNeg) →
  vp_in p1 30 ∧
  ∀ v11 : Int64, v11 = p2 - (gj S1 29 0 p1.toNatClampNeg) →
  ((gj S1 8 0 19) ≤ v11 →
  post (0 : Int32) S1) ∧
  (¬ (gj S1 8 0 19) ≤ v11 →
  vp_in p1 30 ∧
  ((gj S1 30 0 p1.toNatClampNeg) = (-1 : Int64) →
  vp_in p1 30 ∧
  ∀ S14 : St, S14 = sj S1 30 0 p1.toNatClampNeg v11 →
  post (1 : Int32) S14) ∧
  (¬ (gj S1 30 0 p1.toNatClampNeg) = (-1 : Int64) →
  vp_in p1 30 ∧
  (v11 < (gj S1 30 0 p1.toNatClampNeg) →
  vp_in p1 30 ∧
  ∀ S17 : St, S17 = sj S1 30 0 p1.toNatClampNeg v11 →
  post (1 : Int32) S17) ∧
  (¬ v11 < (gj S1 30 0 p1.toNatClampNeg) →
  post (0 : Int32) S1))))) ∧
  (¬ p2 ≤ (20000000 : Int64) →
  post (0 : Int32) S1))))))
set_option maxRecDepth 100000 in
set_option maxHeartbeats 4000000 in
theorem m_X9_press (l : Launch) (G : GT) (p1 : Int32) (p2 : Int64) (S0 : St) (a0 : Nat) (hA0 : AtO S0 8 0 a0) (post : Int32 → St → Prop) (hQ : wp_X9_press p1 p2 S0 post) : Met l yX9_press (wM yX9_press cX9_press 6 (some (FieldType.boolean))) ({ frames := 1, cells := 0, slots := 0, locals := 21 } : Room) (PC G S0 [.ref a0, .int p1, .long p2]) (QI G S0 post) 0 0 (QA G) := by
  refine mt_start RX9 (by decide) rfl (Nat.le_of_ble_eq_true rfl) ?_
  intro p e s m args below meth c ls F hr hlk hnm hw hl
  have hx := F.1
  have hb := F.2.1
  have hown := F.2.2.2.1
  have hts := F.2.2.2.2
  have hX : Ext S0 S0 := Ext.rf
  have hsz0 := hw.1.1.1
  have hl : lv_has ls 6 [(0, .ref a0), (1, .int p1), (2, .long p2)] := hl
  unfold wp_X9_press at hQ
  refine lv_aload_n hx hb dX9_press_0 rfl (lv_at hl 0 rfl) ?_
  refine lv_iload_n hx hb dX9_press_1 rfl (lv_at hl 1 rfl) ?_
  refine k_X9_isBuyer F hw hl hA0 hQ twm_RX9_150 (Nat.le_of_ble_eq_true rfl) (Nat.le_of_ble_eq_true rfl) (Nat.le_of_ble_eq_true rfl) dX9_press_2 (show 0 + 0 ≤ 0 from by omega) (show 0 + 0 ≤ 0 from by omega) (fun r2 S1 H locs hQ hw hx1 => ?_)
  have hX := hX.trans hx1
  have hA0 := hA0.ext hx1
  refine lv_if_eq (tgt := 37) hx hb dX9_press_5 (by decide) (fun hc => ?_) (fun hc => ?_)
  · have hQ := hQ.1 hc
    refine lv_iconst (v := 0) hx hb dX9_press_37 (by decide) ?_
    exact rt_z F hr hlk hw hX hQ rfl (show (0 + 0) ≤ 0 from by omega) (show (0 + 0) ≤ 0 from by omega) dX9_press_38
  · have hQ := hQ.2 hc
    refine lv_aload_n hx hb dX9_press_8 rfl (lv_at hl 0 rfl) ?_
    refine g_8_17 F hw hA0 twf_RX9_54 dX9_press_9 ?_
    refine lv_iconst (v := -1) hx hb dX9_press_12 (by decide) ?_
    refine lv_icmp_eq (tgt := 37) hx hb dX9_press_13 (by decide) (fun hc => ?_) (fun hc => ?_)
    · have hQ := hQ.1 hc
      refine lv_iconst (v := 0) hx hb dX9_press_37 (by decide) ?_
      exact rt_z F hr hlk hw hX hQ rfl (show (0 + 0) ≤ 0 from by omega) (show (0 + 0) ≤ 0 from by omega) dX9_press_38
    · have hQ := hQ.2 hc
      refine lv_aload_n hx hb dX9_press_16 rfl (lv_at hl 0 rfl) ?_
      refine g_8_22 F hw hA0 twf_RX9_142 dX9_press_17 ?_
      refine lv_if_ne (tgt := 37) hx hb dX9_press_20 (by decide) (fun hc => ?_) (fun hc => ?_)
      · have hQ := hQ.1 hc
        refine lv_iconst (v := 0) hx hb dX9_press_37 (by decide) ?_
        exact rt_z F hr hlk hw hX hQ rfl (show (0 + 0) ≤ 0 from by omega) (show (0 + 0) ≤ 0 from by omega) dX9_press_38
      · have hQ := hQ.2 hc
        refine lv_lload_n hx hb dX9_press_23 rfl (lv_at hl 2 rfl) ?_
        refine lv_lconst (v := 0) hx hb dX9_press_24 (by decide) ?_
        refine lc_lt (tgt := 37) F dX9_press_25 dX9_press_26 (by decide) (fun hc => ?_) (fun hc => ?_)
        · have hQ := hQ.1 hc
          refine lv_iconst (v := 0) hx hb dX9_press_37 (by decide) ?_
          exact rt_z F hr hlk hw hX hQ rfl (show (0 + 0) ≤ 0 from by omega) (show (0 + 0) ≤ 0 from by omega) dX9_press_38
        · have hQ := hQ.2 hc
          refine lv_lload_n hx hb dX9_press_29 rfl (lv_at hl 2 rfl) ?_
          refine lv_ldc2 (v := 20000000) hx hb hown (hts _ twl_RX9_153) dX9_press_30 ?_
          refine lc_le (tgt := 39) F dX9_press_33 dX9_press_34 (by decide) (fun hc => ?_) (fun hc => ?_)
          · have hQ := hQ.1 hc
            refine lv_lload_n hx hb dX9_press_39 rfl (lv_at hl 2 rfl) ?_
            refine lv_aload_n hx hb dX9_press_40 rfl (lv_at hl 0 rfl) ?_
            refine g_8_14 F hw hA0 twf_RX9_48 dX9_press_41 (fun a3 hA3 => ?_)
            refine lv_iload_n hx hb dX9_press_44 rfl (lv_at hl 1 rfl) ?_
            obtain ⟨hin, hQ⟩ := hQ
            refine al_29 F hw hA3 hin dX9_press_45 ?_
            refine lc_le (tgt := 61) F dX9_press_46 dX9_press_47 (by decide) (fun hc => ?_) (fun hc => ?_)
            · have hQ := hQ.1 hc
              refine lv_lconst (v := 0) hx hb dX9_press_61 (by decide) ?_
              refine lv_lstore (lv' := [(4, .long (0 : Int64)), (0, .ref a0), (1, .int p1), (2, .long p2)]) hx hb dX9_press_62 hl (by decide) rfl (fun ls hl => ?_)
              refine lv_lload hx hb dX9_press_64 (lv_at hl 0 rfl) ?_
              refine lv_aload_n hx hb dX9_press_66 rfl (lv_at hl 1 rfl) ?_
              refine g_8_19 F hw hA0 twf_RX9_133 dX9_press_67 ?_
              refine lc_ge (tgt := 99) F dX9_press_70 dX9_press_71 (by decide) (fun hc => ?_) (fun hc => ?_)
              · have hQ := hQ.1 hc
                refine lv_iconst (v := 0) hx hb dX9_press_99 (by decide) ?_
                exact rt_z F hr hlk hw hX hQ rfl (show (0 + 0) ≤ 0 from by omega) (show (0 + 0) ≤ 0 from by omega) dX9_press_100
              · have hQ := hQ.2 hc
                refine lv_aload_n hx hb dX9_press_74 rfl (lv_at hl 1 rfl) ?_
                refine g_8_15 F hw hA0 twf_RX9_51 dX9_press_75 (fun a4 hA4 => ?_)
                refine lv_iload_n hx hb dX9_press_78 rfl (lv_at hl 2 rfl) ?_
                obtain ⟨hin, hQ⟩ := hQ
                refine al_30 F hw hA4 hin dX9_press_79 ?_
                refine lv_ldc2 (v := -1) hx hb hown (hts _ twl_RX9_117) dX9_press_80 ?_
                refine lc_eq (tgt := 101) F dX9_press_83 dX9_press_84 (by decide) (fun hc => ?_) (fun hc => ?_)
                · have hQ := hQ.1 hc
                  refine lv_aload_n hx hb dX9_press_101 rfl (lv_at hl 1 rfl) ?_
                  refine g_8_15 F hw hA0 twf_RX9_51 dX9_press_102 (fun a5 hA5 => ?_)
                  refine lv_iload_n hx hb dX9_press_105 rfl (lv_at hl 2 rfl) ?_
                  refine lv_lload hx hb dX9_press_106 (lv_at hl 0 rfl) ?_
                  obtain ⟨hin, hQ⟩ := hQ
                  refine as_30 F hw hA5 hin dX9_press_108 (fun S6 H locs eS6 hw hx1 => ?_)
                  have hQ := hQ S6 eS6
                  have hX := hX.trans hx1
                  have hA0 := hA0.ext hx1
                  refine lv_iconst (v := 1) hx hb dX9_press_109 (by decide) ?_
                  exact rt_z F hr hlk hw hX hQ rfl (show (0 + 0) ≤ 0 from by omega) (show (0 + 0) ≤ 0 from by omega) dX9_press_110
                · have hQ := hQ.2 hc
                  refine lv_aload_n hx hb dX9_press_87 rfl (lv_at hl 1 rfl) ?_
                  refine g_8_15 F hw hA0 twf_RX9_51 dX9_press_88 (fun a7 hA7 => ?_)
                  refine lv_iload_n hx hb dX9_press_91 rfl (lv_at hl 2 rfl) ?_
                  obtain ⟨hin, hQ⟩ := hQ
                  refine al_30 F hw hA7 hin dX9_press_92 ?_
                  refine lv_lload hx hb dX9_press_93 (lv_at hl 0 rfl) ?_
                  refine lc_gt (tgt := 101) F dX9_press_95 dX9_press_96 (by decide) (fun hc => ?_) (fun hc => ?_)
                  · have hQ := hQ.1 hc
                    refine lv_aload_n hx hb dX9_press_101 rfl (lv_at hl 1 rfl) ?_
                    refine g_8_15 F hw hA0 twf_RX9_51 dX9_press_102 (fun a8 hA8 => ?_)
                    refine lv_iload_n hx hb dX9_press_105 rfl (lv_at hl 2 rfl) ?_
                    refine lv_lload hx hb dX9_press_106 (lv_at hl 0 rfl) ?_
                    obtain ⟨hin, hQ⟩ := hQ
                    refine as_30 F hw hA8 hin dX9_press_108 (fun S9 H locs eS9 hw hx1 => ?_)
                    have hQ := hQ S9 eS9
                    have hX := hX.trans hx1
                    have hA0 := hA0.ext hx1
                    refine lv_iconst (v := 1) hx hb dX9_press_109 (by decide) ?_
                    exact rt_z F hr hlk hw hX hQ rfl (show (0 + 0) ≤ 0 from by omega) (show (0 + 0) ≤ 0 from by omega) dX9_press_110
                  · have hQ := hQ.2 hc
                    refine lv_iconst (v := 0) hx hb dX9_press_99 (by decide) ?_
                    exact rt_z F hr hlk hw hX hQ rfl (show (0 + 0) ≤ 0 from by omega) (show (0 + 0) ≤ 0 from by omega) dX9_press_100
            · have hQ := hQ.2 hc
              refine lv_lload_n hx hb dX9_press_50 rfl (lv_at hl 2 rfl) ?_
              refine lv_aload_n hx hb dX9_press_51 rfl (lv_at hl 0 rfl) ?_
              refine g_8_14 F hw hA0 twf_RX9_48 dX9_press_52 (fun a10 hA10 => ?_)
              refine lv_iload_n hx hb dX9_press_55 rfl (lv_at hl 1 rfl) ?_
              obtain ⟨hin, hQ⟩ := hQ
              refine al_29 F hw hA10 hin dX9_press_56 ?_
              refine lv_lsub hx hb dX9_press_57 ?_
              refine lv_goto (tgt := 62) hx hb dX9_press_58 (by decide) ?_
              refine lv_topl (fun v11 ev11 => ?_)
              have hQ := hQ v11 ev11
              refine lv_lstore (lv' := [(4, .long v11), (0, .ref a0), (1, .int p1), (2, .long p2)]) hx hb dX9_press_62 hl (by decide) rfl (fun ls hl => ?_)
              refine lv_lload hx hb dX9_press_64 (lv_at hl 0 rfl) ?_
              refine lv_aload_n hx hb dX9_press_66 rfl (lv_at hl 1 rfl) ?_
              refine g_8_19 F hw hA0 twf_RX9_133 dX9_press_67 ?_
              refine lc_ge (tgt := 99) F dX9_press_70 dX9_press_71 (by decide) (fun hc => ?_) (fun hc => ?_)
              · have hQ := hQ.1 hc
                refine lv_iconst (v := 0) hx hb dX9_press_99 (by decide) ?_
                exact rt_z F hr hlk hw hX hQ rfl (show (0 + 0) ≤ 0 from by omega) (show (0 + 0) ≤ 0 from by omega) dX9_press_100
              · have hQ := hQ.2 hc
                refine lv_aload_n hx hb dX9_press_74 rfl (lv_at hl 1 rfl) ?_
                refine g_8_15 F hw hA0 twf_RX9_51 dX9_press_75 (fun a12 hA12 => ?_)
                refine lv_iload_n hx hb dX9_press_78 rfl (lv_at hl 2 rfl) ?_
                obtain ⟨hin, hQ⟩ := hQ
                refine al_30 F hw hA12 hin dX9_press_79 ?_
                refine lv_ldc2 (v := -1) hx hb hown (hts _ twl_RX9_117) dX9_press_80 ?_
                refine lc_eq (tgt := 101) F dX9_press_83 dX9_press_84 (by decide) (fun hc => ?_) (fun hc => ?_)
                · have hQ := hQ.1 hc
                  refine lv_aload_n hx hb dX9_press_101 rfl (lv_at hl 1 rfl) ?_
                  refine g_8_15 F hw hA0 twf_RX9_51 dX9_press_102 (fun a13 hA13 => ?_)
                  refine lv_iload_n hx hb dX9_press_105 rfl (lv_at hl 2 rfl) ?_
                  refine lv_lload hx hb dX9_press_106 (lv_at hl 0 rfl) ?_
                  obtain ⟨hin, hQ⟩ := hQ
                  refine as_30 F hw hA13 hin dX9_press_108 (fun S14 H locs eS14 hw hx1 => ?_)
                  have hQ := hQ S14 eS14
                  have hX := hX.trans hx1
                  have hA0 := hA0.ext hx1
                  refine lv_iconst (v := 1) hx hb dX9_press_109 (by decide) ?_
                  exact rt_z F hr hlk hw hX hQ rfl (show (0 + 0) ≤ 0 from by omega) (show (0 + 0) ≤ 0 from by omega) dX9_press_110
                · have hQ := hQ.2 hc
                  refine lv_aload_n hx hb dX9_press_87 rfl (lv_at hl 1 rfl) ?_
                  refine g_8_15 F hw hA0 twf_RX9_51 dX9_press_88 (fun a15 hA15 => ?_)
                  refine lv_iload_n hx hb dX9_press_91 rfl (lv_at hl 2 rfl) ?_
                  obtain ⟨hin, hQ⟩ := hQ
                  refine al_30 F hw hA15 hin dX9_press_92 ?_
                  refine lv_lload hx hb dX9_press_93 (lv_at hl 0 rfl) ?_
                  refine lc_gt (tgt := 101) F dX9_press_95 dX9_press_96 (by decide) (fun hc => ?_) (fun hc => ?_)
                  · have hQ := hQ.1 hc
                    refine lv_aload_n hx hb dX9_press_101 rfl (lv_at hl 1 rfl) ?_
                    refine g_8_15 F hw hA0 twf_RX9_51 dX9_press_102 (fun a16 hA16 => ?_)
                    refine lv_iload_n hx hb dX9_press_105 rfl (lv_at hl 2 rfl) ?_
                    refine lv_lload hx hb dX9_press_106 (lv_at hl 0 rfl) ?_
                    obtain ⟨hin, hQ⟩ := hQ
                    refine as_30 F hw hA16 hin dX9_press_108 (fun S17 H locs eS17 hw hx1 => ?_)
                    have hQ := hQ S17 eS17
                    have hX := hX.trans hx1
                    have hA0 := hA0.ext hx1
                    refine lv_iconst (v := 1) hx hb dX9_press_109 (by decide) ?_
                    exact rt_z F hr hlk hw hX hQ rfl (show (0 + 0) ≤ 0 from by omega) (show (0 + 0) ≤ 0 from by omega) dX9_press_110
                  · have hQ := hQ.2 hc
                    refine lv_iconst (v := 0) hx hb dX9_press_99 (by decide) ?_
                    exact rt_z F hr hlk hw hX hQ rfl (show (0 + 0) ≤ 0 from by omega) (show (0 + 0) ≤ 0 from by omega) dX9_press_100
          · have hQ := hQ.2 hc
            refine lv_iconst (v := 0) hx hb dX9_press_37 (by decide) ?_
            exact rt_z F hr hlk hw hX hQ rfl (show (0 + 0) ≤ 0 from by omega) (show (0 + 0) ≤ 0 from by omega) dX9_press_38
theorem k_X9_press {p : Program} {l : Launch} {e : Env} {R : Room} {s : State} {m : MethodId} {args : Array Value} {below : List Frame} {meth : Method} {c : Code} {H : Heap} {locs : List Loc} {cells slots : Nat} {Q : State → Prop} {cc : ByteArray} {pc nL : Nat} {ls : Array Slot} {rest : List Value} {G : GT} {S : St} {own : String} {p1 : Int32} {p2 : Int64} {post : Int32 → St → Prop} {lv : List (Nat × Value)} {idx : Nat} (F : CX p m c cc nL s args own) (hw : WW G S s H locs) (hl : lv_has ls nL lv) {a0 : Nat} (hA0 : AtO S 8 0 a0) (hQ : wp_X9_press p1 p2 S post) (h1 : Cond.methodLink own idx yX9_press ∈ wT) (hR1 : 1 + 1 ≤ R.frames) (hR2 : 8 + (6 + 11) + 21 ≤ R.locals) (hrest : (rest.map fun v => v.category).sum ≤ 8) (hdg : decode cc pc = .ok (.invokevirtual idx, 3)) (hf1 : cells + 0 ≤ R.cells) (hf2 : slots + 0 ≤ R.slots)
    (kk : ∀ (r : Int32) (S1 : St) (H1 : Heap) (locs1 : List Loc), post r S1 → WW G S1 s H1 locs1 → Ext S S1 → W p l e R s m args below meth c H1 locs1 (cells + 0) (slots + 0) Q (F0 m (pc + 3) ls (.int r :: rest))) : W p l e R s m args below meth c H locs cells slots Q (F0 m pc ls (.long p2 :: .int p1 :: .ref a0 :: rest)) :=
  cl_i (rn_V (n := 2) (As := [.int p1, .long p2]) (q := (RX9, TX9, 36)) F hw hl (m_X9_press l G p1 p2 S a0 hA0 post hQ) 8 (by decide) (by decide) hA0 rfl rfl h1 twi_yX9_press tws_yX9_press twn_RX9 two_yX9_press rfl rfl ⟨rfl, by decide, by decide, by decide +kernel⟩ rfl ⟨hR1, hR2⟩ rfl hrest hdg ⟨hf1, hf2⟩) hw kk

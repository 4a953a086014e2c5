-- X9_record
def wp_X9_record (p1 : Int32) (p2 : Int32) (S0 : St) (post : Int32 → St → Prop) : Prop :=
  (p1 < 0 →
  post (-1 : Int32) S0) ∧
  (¬ p1 < 0 →
  (p1 < (gi S0 8 0 30) →
  (¬ p2 = 0 →
  (¬ p2 = (1 : Int32) →
  (¬ p2 = (2 : Int32) →
  (¬ p2 = (3 : Int32) →
  (¬ p2 = (4 : Int32) →
  post (-1 : Int32) S0) ∧
  (p2 = (4 : Int32) →
  vp_in p1 1024 ∧
  post (gi S0 38 0 p1.toNatClampNeg) S0)) ∧
  (p2 = (3 : Int32) →
  vp_in p1 1024 ∧
  post (((gj S0 37 0 p1.toNatClampNeg) - (gj S0 37 0 p1.toNatClampNeg) / (1000000000 : Int64) * (1000000000 : Int64)).toInt32) S0)) ∧
  (p2 = (2 : Int32) →
  vp_in p1 1024 ∧
  post (gi S0 36 0 p1.toNatClampNeg) S0)) ∧
  (p2 = (1 : Int32) →
  vp_in p1 1024 ∧
  post (gi S0 35 0 p1.toNatClampNeg) S0)) ∧
  (p2 = 0 →
  vp_in p1 1024 ∧
  post (gi S0 34 0 p1.toNatClampNeg) S0)) ∧
  (¬ p1 < (gi S0 8 0 30) →
  post (-1 : Int32) S0))
set_option maxRecDepth 100000 in
set_option maxHeartbeats 4000000 in
theorem m_X9_record (l : Launch) (G : GT) (p1 : Int32) (p2 : Int32) (S0 : St) (a0 : Nat) (hA0 : AtO S0 8 0 a0) (post : Int32 → St → Prop) (hQ : wp_X9_record p1 p2 S0 post) : Met l yX9_record (wM yX9_record cX9_record 3 (some (FieldType.int))) ({ frames := 0, cells := 0, slots := 0, locals := 0 } : Room) (PC G S0 [.ref a0, .int p1, .int p2]) (QI G S0 post) 0 0 (QA G) := by
  refine mt_start RX9 (by decide) rfl (Nat.le_of_ble_eq_true rfl) ?_
  intro p e s m args below meth c ls F hr hlk hnm hw hl
  have hx := F.1
  have hb := F.2.1
  have hown := F.2.2.2.1
  have hts := F.2.2.2.2
  have hX : Ext S0 S0 := Ext.rf
  have hsz0 := hw.1.1.1
  have hl : lv_has ls 3 [(0, .ref a0), (1, .int p1), (2, .int p2)] := hl
  unfold wp_X9_record at hQ
  refine lv_iload_n hx hb dX9_record_0 rfl (lv_at hl 1 rfl) ?_
  refine lv_if_lt (tgt := 12) hx hb dX9_record_1 (by decide) (fun hc => ?_) (fun hc => ?_)
  · have hQ := hQ.1 hc
    refine lv_iconst (v := -1) hx hb dX9_record_12 (by decide) ?_
    exact rt_i F hr hlk hw hX hQ (show 0 ≤ 0 from by omega) (show 0 ≤ 0 from by omega) dX9_record_13
  · have hQ := hQ.2 hc
    refine lv_iload_n hx hb dX9_record_4 rfl (lv_at hl 1 rfl) ?_
    refine lv_aload_n hx hb dX9_record_5 rfl (lv_at hl 0 rfl) ?_
    refine g_8_30 F hw hA0 twf_RX9_98 dX9_record_6 ?_
    refine lv_icmp_lt (tgt := 14) hx hb dX9_record_9 (by decide) (fun hc => ?_) (fun hc => ?_)
    · have hQ := hQ.1 hc
      refine lv_iload_n hx hb dX9_record_14 rfl (lv_at hl 2 rfl) ?_
      refine lv_if_ne (tgt := 27) hx hb dX9_record_15 (by decide) (fun hc => ?_) (fun hc => ?_)
      · have hQ := hQ.1 hc
        refine lv_iload_n hx hb dX9_record_27 rfl (lv_at hl 2 rfl) ?_
        refine lv_iconst (v := 1) hx hb dX9_record_28 (by decide) ?_
        refine lv_icmp_ne (tgt := 41) hx hb dX9_record_29 (by decide) (fun hc => ?_) (fun hc => ?_)
        · have hQ := hQ.1 hc
          refine lv_iload_n hx hb dX9_record_41 rfl (lv_at hl 2 rfl) ?_
          refine lv_iconst (v := 2) hx hb dX9_record_42 (by decide) ?_
          refine lv_icmp_ne (tgt := 55) hx hb dX9_record_43 (by decide) (fun hc => ?_) (fun hc => ?_)
          · have hQ := hQ.1 hc
            refine lv_iload_n hx hb dX9_record_55 rfl (lv_at hl 2 rfl) ?_
            refine lv_iconst (v := 3) hx hb dX9_record_56 (by decide) ?_
            refine lv_icmp_ne (tgt := 74) hx hb dX9_record_57 (by decide) (fun hc => ?_) (fun hc => ?_)
            · have hQ := hQ.1 hc
              refine lv_iload_n hx hb dX9_record_74 rfl (lv_at hl 2 rfl) ?_
              refine lv_iconst (v := 4) hx hb dX9_record_75 (by decide) ?_
              refine lv_icmp_ne (tgt := 88) hx hb dX9_record_76 (by decide) (fun hc => ?_) (fun hc => ?_)
              · have hQ := hQ.1 hc
                refine lv_iconst (v := -1) hx hb dX9_record_88 (by decide) ?_
                exact rt_i F hr hlk hw hX hQ (show 0 ≤ 0 from by omega) (show 0 ≤ 0 from by omega) dX9_record_89
              · have hQ := hQ.2 hc
                refine lv_aload_n hx hb dX9_record_79 rfl (lv_at hl 0 rfl) ?_
                refine g_8_35 F hw hA0 twf_RX9_79 dX9_record_80 (fun a1 hA1 => ?_)
                refine lv_iload_n hx hb dX9_record_83 rfl (lv_at hl 1 rfl) ?_
                obtain ⟨hin, hQ⟩ := hQ
                refine al_38 F hw hA1 hin dX9_record_84 ?_
                refine lv_goto (tgt := 89) hx hb dX9_record_85 (by decide) ?_
                exact rt_i F hr hlk hw hX hQ (show 0 ≤ 0 from by omega) (show 0 ≤ 0 from by omega) dX9_record_89
            · have hQ := hQ.2 hc
              refine lv_aload_n hx hb dX9_record_60 rfl (lv_at hl 0 rfl) ?_
              refine g_8_34 F hw hA0 twf_RX9_76 dX9_record_61 (fun a2 hA2 => ?_)
              refine lv_iload_n hx hb dX9_record_64 rfl (lv_at hl 1 rfl) ?_
              obtain ⟨hin, hQ⟩ := hQ
              refine al_37 F hw hA2 hin dX9_record_65 ?_
              refine lv_ldc2 (v := 1000000000) hx hb hown (hts _ twl_RX9_109) dX9_record_66 ?_
              refine lv_lrem hx hb dX9_record_69 (by decide) ?_
              refine lv_l2i hx hb dX9_record_70 rfl ?_
              refine lv_goto (tgt := 89) hx hb dX9_record_71 (by decide) ?_
              exact rt_i F hr hlk hw hX hQ (show 0 ≤ 0 from by omega) (show 0 ≤ 0 from by omega) dX9_record_89
          · have hQ := hQ.2 hc
            refine lv_aload_n hx hb dX9_record_46 rfl (lv_at hl 0 rfl) ?_
            refine g_8_33 F hw hA0 twf_RX9_73 dX9_record_47 (fun a3 hA3 => ?_)
            refine lv_iload_n hx hb dX9_record_50 rfl (lv_at hl 1 rfl) ?_
            obtain ⟨hin, hQ⟩ := hQ
            refine al_36 F hw hA3 hin dX9_record_51 ?_
            refine lv_goto (tgt := 89) hx hb dX9_record_52 (by decide) ?_
            exact rt_i F hr hlk hw hX hQ (show 0 ≤ 0 from by omega) (show 0 ≤ 0 from by omega) dX9_record_89
        · have hQ := hQ.2 hc
          refine lv_aload_n hx hb dX9_record_32 rfl (lv_at hl 0 rfl) ?_
          refine g_8_32 F hw hA0 twf_RX9_70 dX9_record_33 (fun a4 hA4 => ?_)
          refine lv_iload_n hx hb dX9_record_36 rfl (lv_at hl 1 rfl) ?_
          obtain ⟨hin, hQ⟩ := hQ
          refine al_35 F hw hA4 hin dX9_record_37 ?_
          refine lv_goto (tgt := 89) hx hb dX9_record_38 (by decide) ?_
          exact rt_i F hr hlk hw hX hQ (show 0 ≤ 0 from by omega) (show 0 ≤ 0 from by omega) dX9_record_89
      · have hQ := hQ.2 hc
        refine lv_aload_n hx hb dX9_record_18 rfl (lv_at hl 0 rfl) ?_
        refine g_8_31 F hw hA0 twf_RX9_67 dX9_record_19 (fun a5 hA5 => ?_)
        refine lv_iload_n hx hb dX9_record_22 rfl (lv_at hl 1 rfl) ?_
        obtain ⟨hin, hQ⟩ := hQ
        refine al_34 F hw hA5 hin dX9_record_23 ?_
        refine lv_goto (tgt := 89) hx hb dX9_record_24 (by decide) ?_
        exact rt_i F hr hlk hw hX hQ (show 0 ≤ 0 from by omega) (show 0 ≤ 0 from by omega) dX9_record_89
    · have hQ := hQ.2 hc
      refine lv_iconst (v := -1) hx hb dX9_record_12 (by decide) ?_
      exact rt_i F hr hlk hw hX hQ (show 0 ≤ 0 from by omega) (show 0 ≤ 0 from by omega) dX9_record_13
theorem k_X9_record {p : Program} {l : Launch} {e : Env} {R : Room} {s : State} {m : MethodId} {args : Array Value} {below : List Frame} {meth : Method} {c : Code} {H : Heap} {locs : List Loc} {cells slots : Nat} {Q : State → Prop} {cc : ByteArray} {pc nL : Nat} {ls : Array Slot} {rest : List Value} {G : GT} {S : St} {own : String} {p1 : Int32} {p2 : Int32} {post : Int32 → St → Prop} {lv : List (Nat × Value)} {idx : Nat} (F : CX p m c cc nL s args own) (hw : WW G S s H locs) (hl : lv_has ls nL lv) {a0 : Nat} (hA0 : AtO S 8 0 a0) (hQ : wp_X9_record p1 p2 S post) (h1 : Cond.methodLink own idx yX9_record ∈ wT) (hR1 : 0 + 1 ≤ R.frames) (hR2 : 8 + (3 + 11) + 0 ≤ R.locals) (hrest : (rest.map fun v => v.category).sum ≤ 8) (hdg : decode cc pc = .ok (.invokevirtual idx, 3)) (hf1 : cells + 0 ≤ R.cells) (hf2 : slots + 0 ≤ R.slots)
    (kk : ∀ (r : Int32) (S1 : St) (H1 : Heap) (locs1 : List Loc), post r S1 → WW G S1 s H1 locs1 → Ext S S1 → W p l e R s m args below meth c H1 locs1 (cells + 0) (slots + 0) Q (F0 m (pc + 3) ls (.int r :: rest))) : W p l e R s m args below meth c H locs cells slots Q (F0 m pc ls (.int p2 :: .int p1 :: .ref a0 :: rest)) :=
  cl_i (rn_V (n := 2) (As := [.int p1, .int p2]) (q := (RX9, TX9, 36)) F hw hl (m_X9_record l G p1 p2 S a0 hA0 post hQ) 8 (by decide) (by decide) hA0 rfl rfl h1 twi_yX9_record tws_yX9_record twn_RX9 two_yX9_record rfl rfl ⟨rfl, by decide, by decide, by decide +kernel⟩ rfl ⟨hR1, hR2⟩ rfl hrest hdg ⟨hf1, hf2⟩) hw kk
-- X9_chained
def bd_X9_chained_6 (post : Int32 → St → Prop) (K6 : Int32 → Int32 → Int32 → St → Prop) (x3_6 : Int32) (x2_6 : Int32) (x1_6 : Int32) (S1 : St) : Prop :=
  ((gi S1 8 0 30) ≤ x3_6 →
  bz x1_6 ∧ post x1_6 S1) ∧
  (¬ (gi S1 8 0 30) ≤ x3_6 →
  vp_in x3_6 1024 ∧
  vp_in x3_6 1024 ∧
  vp_in x3_6 1024 ∧
  vp_in x3_6 1024 ∧
  wp_X9_next x2_6 (gi S1 34 0 x3_6.toNatClampNeg) (gi S1 35 0 x3_6.toNatClampNeg) (gi S1 36 0 x3_6.toNatClampNeg) (gj S1 37 0 x3_6.toNatClampNeg) S1 (fun r7 S6 =>
  (x1_6 = 0 →
  ∀ v8 : Int32, v8 = x3_6 + (1 : Int32) →
  K6 v8 r7 (0 : Int32) S6) ∧
  (¬ x1_6 = 0 →
  vp_in x3_6 1024 ∧
  (¬ (gi S6 38 0 x3_6.toNatClampNeg) = r7 →
  ∀ v10 : Int32, v10 = x3_6 + (1 : Int32) →
  K6 v10 r7 (0 : Int32) S6) ∧
  ((gi S6 38 0 x3_6.toNatClampNeg) = r7 →
  ∀ v11 : Int32, v11 = x3_6 + (1 : Int32) →
  K6 v11 r7 (1 : Int32) S6))))
def lp_X9_chained_6 (post : Int32 → St → Prop) : Nat → Int32 → Int32 → Int32 → St → Prop
  | 0, _, _, _, _ => False
  | n + 1, x3_6, x2_6, x1_6, S1 => bd_X9_chained_6 post (fun x3_6 x2_6 x1_6 S1 => lp_X9_chained_6 post n x3_6 x2_6 x1_6 S1) x3_6 x2_6 x1_6 S1
def wp_X9_chained  (S0 : St) (post : Int32 → St → Prop) : Prop :=
  ∃ n : Nat, lp_X9_chained_6 post n (0 : Int32) (1 : Int32) (1 : Int32) S0
set_option maxRecDepth 100000 in
set_option maxHeartbeats 4000000 in
theorem m_X9_chained (l : Launch) (G : GT)  (S0 : St) (a0 : Nat) (hA0 : AtO S0 8 0 a0) (post : Int32 → St → Prop) (hQ : wp_X9_chained S0 post) : Met l yX9_chained (wM yX9_chained cX9_chained 4 (some (FieldType.boolean))) ({ frames := 1, cells := 0, slots := 0, locals := 26 } : Room) (PC G S0 [.ref a0]) (QI G S0 post) 0 0 (QA G) := by
  refine mt_start RX9 (by decide) rfl (Nat.le_of_ble_eq_true rfl) ?_
  intro p e s m args below meth c ls F hr hlk hnm hw hl
  have hx := F.1
  have hb := F.2.1
  have hown := F.2.2.2.1
  have hts := F.2.2.2.2
  have hX : Ext S0 S0 := Ext.rf
  have hsz0 := hw.1.1.1
  have hl : lv_has ls 4 [(0, .ref a0)] := hl
  unfold wp_X9_chained at hQ
  refine lv_iconst (v := 1) hx hb dX9_chained_0 (by decide) ?_
  refine lv_istore_n (lv' := [(1, .int (1 : Int32)), (0, .ref a0)]) hx hb dX9_chained_1 rfl hl (by decide) rfl (fun ls hl => ?_)
  refine lv_iconst (v := 1) hx hb dX9_chained_2 (by decide) ?_
  refine lv_istore_n (lv' := [(2, .int (1 : Int32)), (1, .int (1 : Int32)), (0, .ref a0)]) hx hb dX9_chained_3 rfl hl (by decide) rfl (fun ls hl => ?_)
  refine lv_iconst (v := 0) hx hb dX9_chained_4 (by decide) ?_
  refine lv_istore_n (lv' := [(3, .int (0 : Int32)), (2, .int (1 : Int32)), (1, .int (1 : Int32)), (0, .ref a0)]) hx hb dX9_chained_5 rfl hl (by decide) rfl (fun ls hl => ?_)
  have hloop6 : ∀ (n6 : Nat) (x3_6 : Int32) (x2_6 : Int32) (x1_6 : Int32) (S1 : St) (H : Heap) (locs : List Loc) (ls : Array Slot) (cl6 sl6 : Nat), lp_X9_chained_6 post n6 x3_6 x2_6 x1_6 S1 → WW G S1 s H locs → Ext S0 S1 → AtO S1 8 0 a0 → lv_has ls 4 [(3, .int x3_6), (2, .int x2_6), (1, .int x1_6), (0, .ref a0)] → cl6 ≤ 0 + 0 → sl6 ≤ 0 + 0 → W p l e ({ frames := 1, cells := 0, slots := 0, locals := 26 } : Room) s m args below meth c H locs cl6 sl6 (MQ below (QI G S0 post) args s 0 0 (QA G)) (F0 m 6 ls []) := by
    intro n6
    induction n6 with
    | zero => intro x3_6 x2_6 x1_6 S1 H locs ls cl sl hQ; exact False.elim hQ
    | succ n6 ih6 =>
      intro x3_6 x2_6 x1_6 S1 H locs ls cl6 sl6 hQ hw hX hA0 hl hcl6 hsl6
      have hQ : bd_X9_chained_6 post (fun x3_6 x2_6 x1_6 S1 => lp_X9_chained_6 post n6 x3_6 x2_6 x1_6 S1) x3_6 x2_6 x1_6 S1 := hQ
      unfold bd_X9_chained_6 at hQ
      refine lv_iload_n hx hb dX9_chained_6 rfl (lv_at hl 0 rfl) ?_
      refine lv_aload_n hx hb dX9_chained_7 rfl (lv_at hl 3 rfl) ?_
      refine g_8_30 F hw hA0 twf_RX9_98 dX9_chained_8 ?_
      refine lv_icmp_ge (tgt := 70) hx hb dX9_chained_11 (by decide) (fun hc => ?_) (fun hc => ?_)
      · have hQ := hQ.1 hc
        refine lv_iload_n hx hb dX9_chained_70 rfl (lv_at hl 2 rfl) ?_
        exact rt_z F hr hlk hw hX hQ.2 (bz_nar hQ.1) (show cl6 ≤ 0 from by omega) (show sl6 ≤ 0 from by omega) dX9_chained_71
      · have hQ := hQ.2 hc
        refine lv_aload_n hx hb dX9_chained_14 rfl (lv_at hl 3 rfl) ?_
        refine lv_iload_n hx hb dX9_chained_15 rfl (lv_at hl 1 rfl) ?_
        refine lv_aload_n hx hb dX9_chained_16 rfl (lv_at hl 3 rfl) ?_
        refine g_8_31 F hw hA0 twf_RX9_67 dX9_chained_17 (fun a2 hA2 => ?_)
        refine lv_iload_n hx hb dX9_chained_20 rfl (lv_at hl 0 rfl) ?_
        obtain ⟨hin, hQ⟩ := hQ
        refine al_34 F hw hA2 hin dX9_chained_21 ?_
        refine lv_aload_n hx hb dX9_chained_22 rfl (lv_at hl 3 rfl) ?_
        refine g_8_32 F hw hA0 twf_RX9_70 dX9_chained_23 (fun a3 hA3 => ?_)
        refine lv_iload_n hx hb dX9_chained_26 rfl (lv_at hl 0 rfl) ?_
        obtain ⟨hin, hQ⟩ := hQ
        refine al_35 F hw hA3 hin dX9_chained_27 ?_
        refine lv_aload_n hx hb dX9_chained_28 rfl (lv_at hl 3 rfl) ?_
        refine g_8_33 F hw hA0 twf_RX9_73 dX9_chained_29 (fun a4 hA4 => ?_)
        refine lv_iload_n hx hb dX9_chained_32 rfl (lv_at hl 0 rfl) ?_
        obtain ⟨hin, hQ⟩ := hQ
        refine al_36 F hw hA4 hin dX9_chained_33 ?_
        refine lv_aload_n hx hb dX9_chained_34 rfl (lv_at hl 3 rfl) ?_
        refine g_8_34 F hw hA0 twf_RX9_76 dX9_chained_35 (fun a5 hA5 => ?_)
        refine lv_iload_n hx hb dX9_chained_38 rfl (lv_at hl 0 rfl) ?_
        obtain ⟨hin, hQ⟩ := hQ
        refine al_37 F hw hA5 hin dX9_chained_39 ?_
        refine k_X9_next F hw hl hA0 hQ twm_RX9_101 (Nat.le_of_ble_eq_true rfl) (Nat.le_of_ble_eq_true rfl) (Nat.le_of_ble_eq_true rfl) dX9_chained_40 (show cl6 + 0 ≤ 0 from by omega) (show sl6 + 0 ≤ 0 from by omega) (fun r7 S6 H locs hQ hw hx1 => ?_)
        have hX := hX.trans hx1
        have hA0 := hA0.ext hx1
        refine lv_istore_n (lv' := [(2, .int r7), (3, .int x3_6), (1, .int x1_6), (0, .ref a0)]) hx hb dX9_chained_43 rfl hl (by decide) rfl (fun ls hl => ?_)
        refine lv_iload_n hx hb dX9_chained_44 rfl (lv_at hl 2 rfl) ?_
        refine lv_if_eq (tgt := 62) hx hb dX9_chained_45 (by decide) (fun hc => ?_) (fun hc => ?_)
        · have hQ := hQ.1 hc
          refine lv_iconst (v := 0) hx hb dX9_chained_62 (by decide) ?_
          refine lv_istore_n (lv' := [(1, .int (0 : Int32)), (2, .int r7), (3, .int x3_6), (0, .ref a0)]) hx hb dX9_chained_63 rfl hl (by decide) rfl (fun ls hl => ?_)
          obtain ⟨v8, ev8⟩ : ∃ y : Int32, y = x3_6 + (1 : Int32) := ⟨_, rfl⟩
          have hQ := hQ v8 ev8
          refine lv_iinc (v := v8) (lv' := [(3, .int v8), (1, .int (0 : Int32)), (2, .int r7), (0, .ref a0)]) hx hb dX9_chained_64 hl (k := 2) rfl (by rw [ev8]; rfl) (by decide) rfl (fun ls hl => ?_)
          refine lv_goto (tgt := 6) hx hb dX9_chained_67 (by decide) ?_
          exact ih6 v8 r7 (0 : Int32) S6 _ _ _ _ _ hQ hw hX hA0 (lv_sub hl [0, 2, 1, 3] rfl) (by omega) (by omega)
        · have hQ := hQ.2 hc
          refine lv_aload_n hx hb dX9_chained_48 rfl (lv_at hl 3 rfl) ?_
          refine g_8_35 F hw hA0 twf_RX9_79 dX9_chained_49 (fun a9 hA9 => ?_)
          refine lv_iload_n hx hb dX9_chained_52 rfl (lv_at hl 1 rfl) ?_
          obtain ⟨hin, hQ⟩ := hQ
          refine al_38 F hw hA9 hin dX9_chained_53 ?_
          refine lv_iload_n hx hb dX9_chained_54 rfl (lv_at hl 0 rfl) ?_
          refine lv_icmp_ne (tgt := 62) hx hb dX9_chained_55 (by decide) (fun hc => ?_) (fun hc => ?_)
          · have hQ := hQ.1 hc
            refine lv_iconst (v := 0) hx hb dX9_chained_62 (by decide) ?_
            refine lv_istore_n (lv' := [(1, .int (0 : Int32)), (2, .int r7), (3, .int x3_6), (0, .ref a0)]) hx hb dX9_chained_63 rfl hl (by decide) rfl (fun ls hl => ?_)
            obtain ⟨v10, ev10⟩ : ∃ y : Int32, y = x3_6 + (1 : Int32) := ⟨_, rfl⟩
            have hQ := hQ v10 ev10
            refine lv_iinc (v := v10) (lv' := [(3, .int v10), (1, .int (0 : Int32)), (2, .int r7), (0, .ref a0)]) hx hb dX9_chained_64 hl (k := 2) rfl (by rw [ev10]; rfl) (by decide) rfl (fun ls hl => ?_)
            refine lv_goto (tgt := 6) hx hb dX9_chained_67 (by decide) ?_
            exact ih6 v10 r7 (0 : Int32) S6 _ _ _ _ _ hQ hw hX hA0 (lv_sub hl [0, 2, 1, 3] rfl) (by omega) (by omega)
          · have hQ := hQ.2 hc
            refine lv_iconst (v := 1) hx hb dX9_chained_58 (by decide) ?_
            refine lv_goto (tgt := 63) hx hb dX9_chained_59 (by decide) ?_
            refine lv_istore_n (lv' := [(1, .int (1 : Int32)), (2, .int r7), (3, .int x3_6), (0, .ref a0)]) hx hb dX9_chained_63 rfl hl (by decide) rfl (fun ls hl => ?_)
            obtain ⟨v11, ev11⟩ : ∃ y : Int32, y = x3_6 + (1 : Int32) := ⟨_, rfl⟩
            have hQ := hQ v11 ev11
            refine lv_iinc (v := v11) (lv' := [(3, .int v11), (1, .int (1 : Int32)), (2, .int r7), (0, .ref a0)]) hx hb dX9_chained_64 hl (k := 2) rfl (by rw [ev11]; rfl) (by decide) rfl (fun ls hl => ?_)
            refine lv_goto (tgt := 6) hx hb dX9_chained_67 (by decide) ?_
            exact ih6 v11 r7 (1 : Int32) S6 _ _ _ _ _ hQ hw hX hA0 (lv_sub hl [0, 2, 1, 3] rfl) (by omega) (by omega)
  obtain ⟨n, hQ⟩ := hQ
  exact hloop6 n (0 : Int32) (1 : Int32) (1 : Int32) S0 _ _ _ _ _ hQ hw hX hA0 (lv_sub hl [0, 1, 2, 3] rfl) (by omega) (by omega)
theorem k_X9_chained {p : Program} {l : Launch} {e : Env} {R : Room} {s : State} {m : MethodId} {args : Array Value} {below : List Frame} {meth : Method} {c : Code} {H : Heap} {locs : List Loc} {cells slots : Nat} {Q : State → Prop} {cc : ByteArray} {pc nL : Nat} {ls : Array Slot} {rest : List Value} {G : GT} {S : St} {own : String}  {post : Int32 → St → Prop} {lv : List (Nat × Value)} {idx : Nat} (F : CX p m c cc nL s args own) (hw : WW G S s H locs) (hl : lv_has ls nL lv) {a0 : Nat} (hA0 : AtO S 8 0 a0) (hQ : wp_X9_chained S post) (h1 : Cond.methodLink own idx yX9_chained ∈ wT) (hR1 : 1 + 1 ≤ R.frames) (hR2 : 8 + (4 + 11) + 26 ≤ R.locals) (hrest : (rest.map fun v => v.category).sum ≤ 8) (hdg : decode cc pc = .ok (.invokevirtual idx, 3)) (hf1 : cells + 0 ≤ R.cells) (hf2 : slots + 0 ≤ R.slots)
    (kk : ∀ (r : Int32) (S1 : St) (H1 : Heap) (locs1 : List Loc), post r S1 → WW G S1 s H1 locs1 → Ext S S1 → W p l e R s m args below meth c H1 locs1 (cells + 0) (slots + 0) Q (F0 m (pc + 3) ls (.int r :: rest))) : W p l e R s m args below meth c H locs cells slots Q (F0 m pc ls (.ref a0 :: rest)) :=
  cl_i (rn_V (n := 0) (As := []) (q := (RX9, TX9, 36)) F hw hl (m_X9_chained l G  S a0 hA0 post hQ) 8 (by decide) (by decide) hA0 rfl rfl h1 twi_yX9_chained tws_yX9_chained twn_RX9 two_yX9_chained rfl rfl ⟨rfl, by decide, by decide, by decide +kernel⟩ rfl ⟨hR1, hR2⟩ rfl hrest hdg ⟨hf1, hf2⟩) hw kk
-- X9_turn
def wp_X9_turn (p1 : Int64) (S0 : St) (post : St → Prop) : Prop :=
  ∀ v1 : Int32, v1 = ((p1 / (6 : Int64)) - (p1 / (6 : Int64)) / (64 : Int64) * (64 : Int64)).toInt32 →
  ∀ v2 : Int64, v2 = (p1 / (384 : Int64)) - (p1 / (384 : Int64)) / (100000 : Int64) * (100000 : Int64) →
  ∀ v3 : Int32, v3 = (p1 - p1 / (6 : Int64) * (6 : Int64)).toInt32 →
  (¬ v3 = 0 →
  (¬ v3 = (1 : Int32) →
  (¬ v3 = (2 : Int32) →
  (¬ v3 = (3 : Int32) →
  (¬ v3 = (4 : Int32) →
  wp_X9_again v1 S0 (fun r5 S4 =>
  post S4)) ∧
  (v3 = (4 : Int32) →
  wp_X9_outage (0 : Int64) (1 : Int32) S0 (fun r7 S6 =>
  (¬ r7 = 0 →
  post S6) ∧
  (r7 = 0 →
  wp_X9_outage (0 : Int64) (0 : Int32) S6 (fun r9 S8 =>
  (r9 = 0 →
  post S8) ∧
  (¬ r9 = 0 →
  post S8)))))) ∧
  (v3 = (3 : Int32) →
  wp_X9_rise v1 ((v2 - v2 / (32 : Int64) * (32 : Int64)).toInt32) v2 S0 (fun r11 S10 =>
  post S10))) ∧
  (v3 = (2 : Int32) →
  wp_X9_start v1 v2 ((1 : Int64) + ((v2 - v2 / (97 : Int64) * (97 : Int64)) * (5 : Int64))) S0 (fun r13 S12 =>
  post S12))) ∧
  (v3 = (1 : Int32) →
  wp_X9_tick ((1 : Int64) + (v2 - v2 / (500 : Int64) * (500 : Int64))) S0 (fun r15 S14 =>
  post S14))) ∧
  (v3 = 0 →
  wp_X9_press (v1 - v1 / (32 : Int32) * (32 : Int32)) (v2 - v2 / (3000 : Int64) * (3000 : Int64)) S0 (fun r17 S16 =>
  post S16))
set_option maxRecDepth 100000 in
set_option maxHeartbeats 4000000 in
theorem m_X9_turn (l : Launch) (G : GT) (p1 : Int64) (S0 : St) (a0 : Nat) (hA0 : AtO S0 8 0 a0) (post : St → Prop) (hQ : wp_X9_turn p1 S0 post) : Met l yX9_turn (wM yX9_turn cX9_turn 8 none) ({ frames := 5, cells := 0, slots := 0, locals := 125 } : Room) (PC G S0 [.ref a0, .long p1]) (QV G S0 post) 0 0 (QA G) := by
  refine mt_start RX9 (by decide) rfl (Nat.le_of_ble_eq_true rfl) ?_
  intro p e s m args below meth c ls F hr hlk hnm hw hl
  have hx := F.1
  have hb := F.2.1
  have hown := F.2.2.2.1
  have hts := F.2.2.2.2
  have hX : Ext S0 S0 := Ext.rf
  have hsz0 := hw.1.1.1
  have hl : lv_has ls 8 [(0, .ref a0), (1, .long p1)] := hl
  unfold wp_X9_turn at hQ
  refine lv_lload_n hx hb dX9_turn_0 rfl (lv_at hl 1 rfl) ?_
  refine lv_ldc2 (v := 6) hx hb hown (hts _ twl_RX9_222) dX9_turn_1 ?_
  refine lv_ldiv hx hb dX9_turn_4 (by decide) ?_
  refine lv_ldc2 (v := 64) hx hb hown (hts _ twl_RX9_224) dX9_turn_5 ?_
  refine lv_lrem hx hb dX9_turn_8 (by decide) ?_
  refine lv_l2i hx hb dX9_turn_9 rfl ?_
  refine lv_topi (fun v1 ev1 => ?_)
  have hQ := hQ v1 ev1
  refine lv_istore_n (lv' := [(3, .int v1), (0, .ref a0), (1, .long p1)]) hx hb dX9_turn_10 rfl hl (by decide) rfl (fun ls hl => ?_)
  refine lv_lload_n hx hb dX9_turn_11 rfl (lv_at hl 2 rfl) ?_
  refine lv_ldc2 (v := 384) hx hb hown (hts _ twl_RX9_226) dX9_turn_12 ?_
  refine lv_ldiv hx hb dX9_turn_15 (by decide) ?_
  refine lv_ldc2 (v := 100000) hx hb hown (hts _ twl_RX9_228) dX9_turn_16 ?_
  refine lv_lrem hx hb dX9_turn_19 (by decide) ?_
  refine lv_topl (fun v2 ev2 => ?_)
  have hQ := hQ v2 ev2
  refine lv_lstore (lv' := [(4, .long v2), (3, .int v1), (0, .ref a0), (1, .long p1)]) hx hb dX9_turn_20 hl (by decide) rfl (fun ls hl => ?_)
  refine lv_lload_n hx hb dX9_turn_22 rfl (lv_at hl 3 rfl) ?_
  refine lv_ldc2 (v := 6) hx hb hown (hts _ twl_RX9_222) dX9_turn_23 ?_
  refine lv_lrem hx hb dX9_turn_26 (by decide) ?_
  refine lv_l2i hx hb dX9_turn_27 rfl ?_
  refine lv_topi (fun v3 ev3 => ?_)
  have hQ := hQ v3 ev3
  refine lv_istore (lv' := [(6, .int v3), (4, .long v2), (3, .int v1), (0, .ref a0), (1, .long p1)]) hx hb dX9_turn_28 hl (by decide) rfl (fun ls hl => ?_)
  refine lv_iload hx hb dX9_turn_30 (lv_at hl 0 rfl) ?_
  refine lv_if_ne (tgt := 54) hx hb dX9_turn_32 (by decide) (fun hc => ?_) (fun hc => ?_)
  · have hQ := hQ.1 hc
    refine lv_iload hx hb dX9_turn_54 (lv_at hl 0 rfl) ?_
    refine lv_iconst (v := 1) hx hb dX9_turn_56 (by decide) ?_
    refine lv_icmp_ne (tgt := 77) hx hb dX9_turn_57 (by decide) (fun hc => ?_) (fun hc => ?_)
    · have hQ := hQ.1 hc
      refine lv_iload hx hb dX9_turn_77 (lv_at hl 0 rfl) ?_
      refine lv_iconst (v := 2) hx hb dX9_turn_79 (by decide) ?_
      refine lv_icmp_ne (tgt := 107) hx hb dX9_turn_80 (by decide) (fun hc => ?_) (fun hc => ?_)
      · have hQ := hQ.1 hc
        refine lv_iload hx hb dX9_turn_107 (lv_at hl 0 rfl) ?_
        refine lv_iconst (v := 3) hx hb dX9_turn_109 (by decide) ?_
        refine lv_icmp_ne (tgt := 132) hx hb dX9_turn_110 (by decide) (fun hc => ?_) (fun hc => ?_)
        · have hQ := hQ.1 hc
          refine lv_iload hx hb dX9_turn_132 (lv_at hl 0 rfl) ?_
          refine lv_iconst (v := 4) hx hb dX9_turn_134 (by decide) ?_
          refine lv_icmp_ne (tgt := 166) hx hb dX9_turn_135 (by decide) (fun hc => ?_) (fun hc => ?_)
          · have hQ := hQ.1 hc
            refine lv_aload_n hx hb dX9_turn_166 rfl (lv_at hl 3 rfl) ?_
            refine lv_iload_n hx hb dX9_turn_167 rfl (lv_at hl 2 rfl) ?_
            refine k_X9_again F hw hl hA0 hQ twm_RX9_256 (Nat.le_of_ble_eq_true rfl) (Nat.le_of_ble_eq_true rfl) (Nat.le_of_ble_eq_true rfl) dX9_turn_168 (show 0 + 0 ≤ 0 from by omega) (show 0 + 0 ≤ 0 from by omega) (fun r5 S4 H locs hQ hw hx1 => ?_)
            have hX := hX.trans hx1
            have hA0 := hA0.ext hx1
            refine lv_istore (lv' := [(7, .int r5), (6, .int v3), (4, .long v2), (3, .int v1), (0, .ref a0), (1, .long p1)]) hx hb dX9_turn_171 hl (by decide) rfl (fun ls hl => ?_)
            exact rt_v F hr hlk hw hX hQ (show (0 + 0) ≤ 0 from by omega) (show (0 + 0) ≤ 0 from by omega) dX9_turn_173
          · have hQ := hQ.2 hc
            refine lv_aload_n hx hb dX9_turn_138 rfl (lv_at hl 3 rfl) ?_
            refine lv_lconst (v := 0) hx hb dX9_turn_139 (by decide) ?_
            refine lv_iconst (v := 1) hx hb dX9_turn_140 (by decide) ?_
            refine k_X9_outage F hw hl hA0 hQ twm_RX9_252 (Nat.le_of_ble_eq_true rfl) (Nat.le_of_ble_eq_true rfl) (Nat.le_of_ble_eq_true rfl) dX9_turn_141 (show 0 + 0 ≤ 0 from by omega) (show 0 + 0 ≤ 0 from by omega) (fun r7 S6 H locs hQ hw hx1 => ?_)
            have hX := hX.trans hx1
            have hA0 := hA0.ext hx1
            refine lv_if_ne (tgt := 156) hx hb dX9_turn_144 (by decide) (fun hc => ?_) (fun hc => ?_)
            · have hQ := hQ.1 hc
              refine lv_iconst (v := 1) hx hb dX9_turn_156 (by decide) ?_
              refine lv_goto (tgt := 161) hx hb dX9_turn_157 (by decide) ?_
              refine lv_istore (lv' := [(7, .int (1 : Int32)), (6, .int v3), (4, .long v2), (3, .int v1), (0, .ref a0), (1, .long p1)]) hx hb dX9_turn_161 hl (by decide) rfl (fun ls hl => ?_)
              refine lv_goto (tgt := 173) hx hb dX9_turn_163 (by decide) ?_
              exact rt_v F hr hlk hw hX hQ (show (0 + 0) ≤ 0 from by omega) (show (0 + 0) ≤ 0 from by omega) dX9_turn_173
            · have hQ := hQ.2 hc
              refine lv_aload_n hx hb dX9_turn_147 rfl (lv_at hl 3 rfl) ?_
              refine lv_lconst (v := 0) hx hb dX9_turn_148 (by decide) ?_
              refine lv_iconst (v := 0) hx hb dX9_turn_149 (by decide) ?_
              refine k_X9_outage F hw hl hA0 hQ twm_RX9_252 (Nat.le_of_ble_eq_true rfl) (Nat.le_of_ble_eq_true rfl) (Nat.le_of_ble_eq_true rfl) dX9_turn_150 (show (0 + 0) + 0 ≤ 0 from by omega) (show (0 + 0) + 0 ≤ 0 from by omega) (fun r9 S8 H locs hQ hw hx1 => ?_)
              have hX := hX.trans hx1
              have hA0 := hA0.ext hx1
              refine lv_if_eq (tgt := 160) hx hb dX9_turn_153 (by decide) (fun hc => ?_) (fun hc => ?_)
              · have hQ := hQ.1 hc
                refine lv_iconst (v := 0) hx hb dX9_turn_160 (by decide) ?_
                refine lv_istore (lv' := [(7, .int (0 : Int32)), (6, .int v3), (4, .long v2), (3, .int v1), (0, .ref a0), (1, .long p1)]) hx hb dX9_turn_161 hl (by decide) rfl (fun ls hl => ?_)
                refine lv_goto (tgt := 173) hx hb dX9_turn_163 (by decide) ?_
                exact rt_v F hr hlk hw hX hQ (show ((0 + 0) + 0) ≤ 0 from by omega) (show ((0 + 0) + 0) ≤ 0 from by omega) dX9_turn_173
              · have hQ := hQ.2 hc
                refine lv_iconst (v := 1) hx hb dX9_turn_156 (by decide) ?_
                refine lv_goto (tgt := 161) hx hb dX9_turn_157 (by decide) ?_
                refine lv_istore (lv' := [(7, .int (1 : Int32)), (6, .int v3), (4, .long v2), (3, .int v1), (0, .ref a0), (1, .long p1)]) hx hb dX9_turn_161 hl (by decide) rfl (fun ls hl => ?_)
                refine lv_goto (tgt := 173) hx hb dX9_turn_163 (by decide) ?_
                exact rt_v F hr hlk hw hX hQ (show ((0 + 0) + 0) ≤ 0 from by omega) (show ((0 + 0) + 0) ≤ 0 from by omega) dX9_turn_173
        · have hQ := hQ.2 hc
          refine lv_aload_n hx hb dX9_turn_113 rfl (lv_at hl 3 rfl) ?_
          refine lv_iload_n hx hb dX9_turn_114 rfl (lv_at hl 2 rfl) ?_
          refine lv_lload hx hb dX9_turn_115 (lv_at hl 1 rfl) ?_
          refine lv_ldc2 (v := 32) hx hb hown (hts _ twl_RX9_246) dX9_turn_117 ?_
          refine lv_lrem hx hb dX9_turn_120 (by decide) ?_
          refine lv_l2i hx hb dX9_turn_121 rfl ?_
          refine lv_lload hx hb dX9_turn_122 (lv_at hl 1 rfl) ?_
          refine k_X9_rise F hw hl hA0 hQ twm_RX9_248 (Nat.le_of_ble_eq_true rfl) (Nat.le_of_ble_eq_true rfl) (Nat.le_of_ble_eq_true rfl) dX9_turn_124 (show 0 + 0 ≤ 0 from by omega) (show 0 + 0 ≤ 0 from by omega) (fun r11 S10 H locs hQ hw hx1 => ?_)
          have hX := hX.trans hx1
          have hA0 := hA0.ext hx1
          refine lv_istore (lv' := [(7, .int r11), (6, .int v3), (4, .long v2), (3, .int v1), (0, .ref a0), (1, .long p1)]) hx hb dX9_turn_127 hl (by decide) rfl (fun ls hl => ?_)
          refine lv_goto (tgt := 173) hx hb dX9_turn_129 (by decide) ?_
          exact rt_v F hr hlk hw hX hQ (show (0 + 0) ≤ 0 from by omega) (show (0 + 0) ≤ 0 from by omega) dX9_turn_173
      · have hQ := hQ.2 hc
        refine lv_aload_n hx hb dX9_turn_83 rfl (lv_at hl 3 rfl) ?_
        refine lv_iload_n hx hb dX9_turn_84 rfl (lv_at hl 2 rfl) ?_
        refine lv_lload hx hb dX9_turn_85 (lv_at hl 1 rfl) ?_
        refine lv_lconst (v := 1) hx hb dX9_turn_87 (by decide) ?_
        refine lv_lload hx hb dX9_turn_88 (lv_at hl 1 rfl) ?_
        refine lv_ldc2 (v := 97) hx hb hown (hts _ twl_RX9_241) dX9_turn_90 ?_
        refine lv_lrem hx hb dX9_turn_93 (by decide) ?_
        refine lv_ldc2 (v := 5) hx hb hown (hts _ twl_RX9_92) dX9_turn_94 ?_
        refine lv_lmul hx hb dX9_turn_97 ?_
        refine lv_ladd hx hb dX9_turn_98 ?_
        refine k_X9_start F hw hl hA0 hQ twm_RX9_243 (Nat.le_of_ble_eq_true rfl) (Nat.le_of_ble_eq_true rfl) (Nat.le_of_ble_eq_true rfl) dX9_turn_99 (show 0 + 0 ≤ 0 from by omega) (show 0 + 0 ≤ 0 from by omega) (fun r13 S12 H locs hQ hw hx1 => ?_)
        have hX := hX.trans hx1
        have hA0 := hA0.ext hx1
        refine lv_istore (lv' := [(7, .int r13), (6, .int v3), (4, .long v2), (3, .int v1), (0, .ref a0), (1, .long p1)]) hx hb dX9_turn_102 hl (by decide) rfl (fun ls hl => ?_)
        refine lv_goto (tgt := 173) hx hb dX9_turn_104 (by decide) ?_
        exact rt_v F hr hlk hw hX hQ (show (0 + 0) ≤ 0 from by omega) (show (0 + 0) ≤ 0 from by omega) dX9_turn_173
    · have hQ := hQ.2 hc
      refine lv_aload_n hx hb dX9_turn_60 rfl (lv_at hl 3 rfl) ?_
      refine lv_lconst (v := 1) hx hb dX9_turn_61 (by decide) ?_
      refine lv_lload hx hb dX9_turn_62 (lv_at hl 1 rfl) ?_
      refine lv_ldc2 (v := 500) hx hb hown (hts _ twl_RX9_236) dX9_turn_64 ?_
      refine lv_lrem hx hb dX9_turn_67 (by decide) ?_
      refine lv_ladd hx hb dX9_turn_68 ?_
      refine k_X9_tick F hw hl hA0 hQ twm_RX9_238 (Nat.le_of_ble_eq_true rfl) (Nat.le_of_ble_eq_true rfl) (Nat.le_of_ble_eq_true rfl) dX9_turn_69 (show 0 + 0 ≤ 0 from by omega) (show 0 + 0 ≤ 0 from by omega) (fun r15 S14 H locs hQ hw hx1 => ?_)
      have hX := hX.trans hx1
      have hA0 := hA0.ext hx1
      refine lv_istore (lv' := [(7, .int r15), (6, .int v3), (4, .long v2), (3, .int v1), (0, .ref a0), (1, .long p1)]) hx hb dX9_turn_72 hl (by decide) rfl (fun ls hl => ?_)
      refine lv_goto (tgt := 173) hx hb dX9_turn_74 (by decide) ?_
      exact rt_v F hr hlk hw hX hQ (show (0 + 0) ≤ 0 from by omega) (show (0 + 0) ≤ 0 from by omega) dX9_turn_173
  · have hQ := hQ.2 hc
    refine lv_aload_n hx hb dX9_turn_35 rfl (lv_at hl 3 rfl) ?_
    refine lv_iload_n hx hb dX9_turn_36 rfl (lv_at hl 2 rfl) ?_
    refine lv_bipush (v := 32) hx hb dX9_turn_37 (by decide) ?_
    refine lv_irem hx hb dX9_turn_39 (by decide) ?_
    refine lv_lload hx hb dX9_turn_40 (lv_at hl 1 rfl) ?_
    refine lv_ldc2 (v := 3000) hx hb hown (hts _ twl_RX9_230) dX9_turn_42 ?_
    refine lv_lrem hx hb dX9_turn_45 (by decide) ?_
    refine k_X9_press F hw hl hA0 hQ twm_RX9_232 (Nat.le_of_ble_eq_true rfl) (Nat.le_of_ble_eq_true rfl) (Nat.le_of_ble_eq_true rfl) dX9_turn_46 (show 0 + 0 ≤ 0 from by omega) (show 0 + 0 ≤ 0 from by omega) (fun r17 S16 H locs hQ hw hx1 => ?_)
    have hX := hX.trans hx1
    have hA0 := hA0.ext hx1
    refine lv_istore (lv' := [(7, .int r17), (6, .int v3), (4, .long v2), (3, .int v1), (0, .ref a0), (1, .long p1)]) hx hb dX9_turn_49 hl (by decide) rfl (fun ls hl => ?_)
    refine lv_goto (tgt := 173) hx hb dX9_turn_51 (by decide) ?_
    exact rt_v F hr hlk hw hX hQ (show (0 + 0) ≤ 0 from by omega) (show (0 + 0) ≤ 0 from by omega) dX9_turn_173
theorem k_X9_turn {p : Program} {l : Launch} {e : Env} {R : Room} {s : State} {m : MethodId} {args : Array Value} {below : List Frame} {meth : Method} {c : Code} {H : Heap} {locs : List Loc} {cells slots : Nat} {Q : State → Prop} {cc : ByteArray} {pc nL : Nat} {ls : Array Slot} {rest : List Value} {G : GT} {S : St} {own : String} {p1 : Int64} {post : St → Prop} {lv : List (Nat × Value)} {idx : Nat} (F : CX p m c cc nL s args own) (hw : WW G S s H locs) (hl : lv_has ls nL lv) {a0 : Nat} (hA0 : AtO S 8 0 a0) (hQ : wp_X9_turn p1 S post) (h1 : Cond.methodLink own idx yX9_turn ∈ wT) (hR1 : 5 + 1 ≤ R.frames) (hR2 : 8 + (8 + 11) + 125 ≤ R.locals) (hrest : (rest.map fun v => v.category).sum ≤ 8) (hdg : decode cc pc = .ok (.invokevirtual idx, 3)) (hf1 : cells + 0 ≤ R.cells) (hf2 : slots + 0 ≤ R.slots)
    (kk : ∀ (S1 : St) (H1 : Heap) (locs1 : List Loc), post S1 → WW G S1 s H1 locs1 → Ext S S1 → W p l e R s m args below meth c H1 locs1 (cells + 0) (slots + 0) Q (F0 m (pc + 3) ls rest)) : W p l e R s m args below meth c H locs cells slots Q (F0 m pc ls (.long p1 :: .ref a0 :: rest)) :=
  cl_v (rn_V (n := 1) (As := [.long p1]) (q := (RX9, TX9, 36)) F hw hl (m_X9_turn l G p1 S a0 hA0 post hQ) 8 (by decide) (by decide) hA0 rfl rfl h1 twi_yX9_turn tws_yX9_turn twn_RX9 two_yX9_turn rfl rfl ⟨rfl, by decide, by decide, by decide +kernel⟩ rfl ⟨hR1, hR2⟩ rfl hrest hdg ⟨hf1, hf2⟩) hw kk
-- X9_play
def bd_X9_play_88 (post : Int32 → St → Prop) (K88 : Int32 → Int32 → St → Prop) (x7_88 : Int32) (x6_88 : Int32) (S2 : St) : Prop :=
  ((gi S2 8 0 0) ≤ x7_88 →
  post x6_88 S2) ∧
  (¬ (gi S2 8 0 0) ≤ x7_88 →
  vp_in x7_88 60 ∧
  (¬ (gi S2 20 0 x7_88.toNatClampNeg) = (3 : Int32) →
  ∀ v4 : Int32, v4 = x6_88 + (0 : Int32) →
  ∀ v5 : Int32, v5 = x7_88 + (1 : Int32) →
  K88 v5 v4 S2) ∧
  ((gi S2 20 0 x7_88.toNatClampNeg) = (3 : Int32) →
  ∀ v6 : Int32, v6 = x6_88 + (1 : Int32) →
  ∀ v7 : Int32, v7 = x7_88 + (1 : Int32) →
  K88 v7 v6 S2))
def lp_X9_play_88 (post : Int32 → St → Prop) : Nat → Int32 → Int32 → St → Prop
  | 0, _, _, _ => False
  | n + 1, x7_88, x6_88, S2 => bd_X9_play_88 post (fun x7_88 x6_88 S2 => lp_X9_play_88 post n x7_88 x6_88 S2) x7_88 x6_88 S2
def bd_X9_play_32 (p2 : Int32) (post : Int32 → St → Prop) (K32 : Int32 → Int64 → St → Prop) (x6_32 : Int32) (x4_32 : Int64) (S1 : St) : Prop :=
  (p2 ≤ x6_32 →
  ∃ n : Nat, lp_X9_play_88 post n (0 : Int32) (0 : Int32) S1) ∧
  (¬ p2 ≤ x6_32 →
  ∀ v8 : Int64, v8 = x4_32 ^^^ (x4_32 <<< ((13 : Int32).toInt64 &&& 63)) →
  ∀ v9 : Int64, v9 = v8 ^^^ ((v8.toUInt64 >>> ((7 : Int32).toInt64.toUInt64 &&& Int64.toUInt64 63)).toInt64) →
  ∀ v10 : Int64, v10 = v9 ^^^ (v9 <<< ((17 : Int32).toInt64 &&& 63)) →
  wp_X9_turn ((v10.toUInt64 >>> ((1 : Int32).toInt64.toUInt64 &&& Int64.toUInt64 63)).toInt64) S1 (fun S11 =>
  ∀ v12 : Int32, v12 = x6_32 + (1 : Int32) →
  K32 v12 v10 S11))
def lp_X9_play_32 (p2 : Int32) (post : Int32 → St → Prop) : Nat → Int32 → Int64 → St → Prop
  | 0, _, _, _ => False
  | n + 1, x6_32, x4_32, S1 => bd_X9_play_32 p2 post (fun x6_32 x4_32 S1 => lp_X9_play_32 p2 post n x6_32 x4_32 S1) x6_32 x4_32 S1
def wp_X9_play (p1 : Int64) (p2 : Int32) (S0 : St) (post : Int32 → St → Prop) : Prop :=
  (p2 < (1 : Int32) →
  post (-1 : Int32) S0) ∧
  (¬ p2 < (1 : Int32) →
  (p2 ≤ (200 : Int32) →
  (¬ p1 = (0 : Int64) →
  ∃ n : Nat, lp_X9_play_32 p2 post n (0 : Int32) p1 S0) ∧
  (p1 = (0 : Int64) →
  ∃ n : Nat, lp_X9_play_32 p2 post n (0 : Int32) (88172645463325252 : Int64) S0)) ∧
  (¬ p2 ≤ (200 : Int32) →
  post (-1 : Int32) S0))
set_option maxRecDepth 100000 in
set_option maxHeartbeats 4000000 in
theorem m_X9_play (l : Launch) (G : GT) (p1 : Int64) (p2 : Int32) (S0 : St) (a0 : Nat) (hA0 : AtO S0 8 0 a0) (post : Int32 → St → Prop) (hQ : wp_X9_play p1 p2 S0 post) : Met l yX9_play (wM yX9_play cX9_play 8 (some (FieldType.int))) ({ frames := 6, cells := 0, slots := 0, locals := 152 } : Room) (PC G S0 [.ref a0, .long p1, .int p2]) (QI G S0 post) 0 0 (QA G) := by
  refine mt_start RX9 (by decide) rfl (Nat.le_of_ble_eq_true rfl) ?_
  intro p e s m args below meth c ls F hr hlk hnm hw hl
  have hx := F.1
  have hb := F.2.1
  have hown := F.2.2.2.1
  have hts := F.2.2.2.2
  have hX : Ext S0 S0 := Ext.rf
  have hsz0 := hw.1.1.1
  have hl : lv_has ls 8 [(0, .ref a0), (1, .long p1), (3, .int p2)] := hl
  unfold wp_X9_play at hQ
  refine lv_iload_n hx hb dX9_play_0 rfl (lv_at hl 2 rfl) ?_
  refine lv_iconst (v := 1) hx hb dX9_play_1 (by decide) ?_
  refine lv_icmp_lt (tgt := 12) hx hb dX9_play_2 (by decide) (fun hc => ?_) (fun hc => ?_)
  · have hQ := hQ.1 hc
    refine lv_iconst (v := -1) hx hb dX9_play_12 (by decide) ?_
    exact rt_i F hr hlk hw hX hQ (show 0 ≤ 0 from by omega) (show 0 ≤ 0 from by omega) dX9_play_13
  · have hQ := hQ.2 hc
    refine lv_iload_n hx hb dX9_play_5 rfl (lv_at hl 2 rfl) ?_
    refine lv_sipush (v := 200) hx hb dX9_play_6 (by decide) ?_
    refine lv_icmp_le (tgt := 14) hx hb dX9_play_9 (by decide) (fun hc => ?_) (fun hc => ?_)
    · have hQ := hQ.1 hc
      refine lv_lload_n hx hb dX9_play_14 rfl (lv_at hl 1 rfl) ?_
      refine lv_lconst (v := 0) hx hb dX9_play_15 (by decide) ?_
      refine lc_ne (tgt := 26) F dX9_play_16 dX9_play_17 (by decide) (fun hc => ?_) (fun hc => ?_)
      · have hQ := hQ.1 hc
        refine lv_lload_n hx hb dX9_play_26 rfl (lv_at hl 1 rfl) ?_
        refine lv_lstore (lv' := [(4, .long p1), (0, .ref a0), (1, .long p1), (3, .int p2)]) hx hb dX9_play_27 hl (by decide) rfl (fun ls hl => ?_)
        refine lv_iconst (v := 0) hx hb dX9_play_29 (by decide) ?_
        refine lv_istore (lv' := [(6, .int (0 : Int32)), (4, .long p1), (0, .ref a0), (1, .long p1), (3, .int p2)]) hx hb dX9_play_30 hl (by decide) rfl (fun ls hl => ?_)
        have hloop32 : ∀ (n32 : Nat) (x6_32 : Int32) (x4_32 : Int64) (S1 : St) (H : Heap) (locs : List Loc) (ls : Array Slot) (cl32 sl32 : Nat), lp_X9_play_32 p2 post n32 x6_32 x4_32 S1 → WW G S1 s H locs → Ext S0 S1 → AtO S1 8 0 a0 → lv_has ls 8 [(6, .int x6_32), (4, .long x4_32), (0, .ref a0), (3, .int p2)] → cl32 ≤ 0 + 0 → sl32 ≤ 0 + 0 → W p l e ({ frames := 6, cells := 0, slots := 0, locals := 152 } : Room) s m args below meth c H locs cl32 sl32 (MQ below (QI G S0 post) args s 0 0 (QA G)) (F0 m 32 ls []) := by
          intro n32
          induction n32 with
          | zero => intro x6_32 x4_32 S1 H locs ls cl sl hQ; exact False.elim hQ
          | succ n32 ih32 =>
            intro x6_32 x4_32 S1 H locs ls cl32 sl32 hQ hw hX hA0 hl hcl32 hsl32
            have hQ : bd_X9_play_32 p2 post (fun x6_32 x4_32 S1 => lp_X9_play_32 p2 post n32 x6_32 x4_32 S1) x6_32 x4_32 S1 := hQ
            unfold bd_X9_play_32 at hQ
            refine lv_iload hx hb dX9_play_32 (lv_at hl 0 rfl) ?_
            refine lv_iload_n hx hb dX9_play_34 rfl (lv_at hl 3 rfl) ?_
            refine lv_icmp_ge (tgt := 82) hx hb dX9_play_35 (by decide) (fun hc => ?_) (fun hc => ?_)
            · have hQ := hQ.1 hc
              refine lv_iconst (v := 0) hx hb dX9_play_82 (by decide) ?_
              refine lv_istore (lv' := [(6, .int (0 : Int32)), (4, .long x4_32), (0, .ref a0), (3, .int p2)]) hx hb dX9_play_83 hl (by decide) rfl (fun ls hl => ?_)
              refine lv_iconst (v := 0) hx hb dX9_play_85 (by decide) ?_
              refine lv_istore (lv' := [(7, .int (0 : Int32)), (6, .int (0 : Int32)), (4, .long x4_32), (0, .ref a0), (3, .int p2)]) hx hb dX9_play_86 hl (by decide) rfl (fun ls hl => ?_)
              have hloop88 : ∀ (n88 : Nat) (x7_88 : Int32) (x6_88 : Int32) (S2 : St) (H : Heap) (locs : List Loc) (ls : Array Slot) (cl88 sl88 : Nat), lp_X9_play_88 post n88 x7_88 x6_88 S2 → WW G S2 s H locs → Ext S0 S2 → AtO S2 8 0 a0 → lv_has ls 8 [(7, .int x7_88), (6, .int x6_88), (0, .ref a0)] → cl88 ≤ cl32 + 0 → sl88 ≤ sl32 + 0 → W p l e ({ frames := 6, cells := 0, slots := 0, locals := 152 } : Room) s m args below meth c H locs cl88 sl88 (MQ below (QI G S0 post) args s 0 0 (QA G)) (F0 m 88 ls []) := by
                intro n88
                induction n88 with
                | zero => intro x7_88 x6_88 S2 H locs ls cl sl hQ; exact False.elim hQ
                | succ n88 ih88 =>
                  intro x7_88 x6_88 S2 H locs ls cl88 sl88 hQ hw hX hA0 hl hcl88 hsl88
                  have hQ : bd_X9_play_88 post (fun x7_88 x6_88 S2 => lp_X9_play_88 post n88 x7_88 x6_88 S2) x7_88 x6_88 S2 := hQ
                  unfold bd_X9_play_88 at hQ
                  refine lv_iload hx hb dX9_play_88 (lv_at hl 0 rfl) ?_
                  refine lv_aload_n hx hb dX9_play_90 rfl (lv_at hl 2 rfl) ?_
                  refine g_8_0 F hw hA0 twf_RX9_82 dX9_play_91 ?_
                  refine lv_icmp_ge (tgt := 124) hx hb dX9_play_94 (by decide) (fun hc => ?_) (fun hc => ?_)
                  · have hQ := hQ.1 hc
                    refine lv_iload hx hb dX9_play_124 (lv_at hl 1 rfl) ?_
                    exact rt_i F hr hlk hw hX hQ (show cl88 ≤ 0 from by omega) (show sl88 ≤ 0 from by omega) dX9_play_126
                  · have hQ := hQ.2 hc
                    refine lv_iload hx hb dX9_play_97 (lv_at hl 1 rfl) ?_
                    refine lv_aload_n hx hb dX9_play_99 rfl (lv_at hl 2 rfl) ?_
                    refine g_8_4 F hw hA0 twf_RX9_20 dX9_play_100 (fun a3 hA3 => ?_)
                    refine lv_iload hx hb dX9_play_103 (lv_at hl 0 rfl) ?_
                    obtain ⟨hin, hQ⟩ := hQ
                    refine al_20 F hw hA3 hin dX9_play_105 ?_
                    refine lv_iconst (v := 3) hx hb dX9_play_106 (by decide) ?_
                    refine lv_icmp_ne (tgt := 114) hx hb dX9_play_107 (by decide) (fun hc => ?_) (fun hc => ?_)
                    · have hQ := hQ.1 hc
                      refine lv_iconst (v := 0) hx hb dX9_play_114 (by decide) ?_
                      refine lv_iadd hx hb dX9_play_115 ?_
                      refine lv_topi (fun v4 ev4 => ?_)
                      have hQ := hQ v4 ev4
                      refine lv_istore (lv' := [(6, .int v4), (7, .int x7_88), (0, .ref a0)]) hx hb dX9_play_116 hl (by decide) rfl (fun ls hl => ?_)
                      obtain ⟨v5, ev5⟩ : ∃ y : Int32, y = x7_88 + (1 : Int32) := ⟨_, rfl⟩
                      have hQ := hQ v5 ev5
                      refine lv_iinc (v := v5) (lv' := [(7, .int v5), (6, .int v4), (0, .ref a0)]) hx hb dX9_play_118 hl (k := 1) rfl (by rw [ev5]; rfl) (by decide) rfl (fun ls hl => ?_)
                      refine lv_goto (tgt := 88) hx hb dX9_play_121 (by decide) ?_
                      exact ih88 v5 v4 S2 _ _ _ _ _ hQ hw hX hA0 (lv_sub hl [0, 1, 2] rfl) (by omega) (by omega)
                    · have hQ := hQ.2 hc
                      refine lv_iconst (v := 1) hx hb dX9_play_110 (by decide) ?_
                      refine lv_goto (tgt := 115) hx hb dX9_play_111 (by decide) ?_
                      refine lv_iadd hx hb dX9_play_115 ?_
                      refine lv_topi (fun v6 ev6 => ?_)
                      have hQ := hQ v6 ev6
                      refine lv_istore (lv' := [(6, .int v6), (7, .int x7_88), (0, .ref a0)]) hx hb dX9_play_116 hl (by decide) rfl (fun ls hl => ?_)
                      obtain ⟨v7, ev7⟩ : ∃ y : Int32, y = x7_88 + (1 : Int32) := ⟨_, rfl⟩
                      have hQ := hQ v7 ev7
                      refine lv_iinc (v := v7) (lv' := [(7, .int v7), (6, .int v6), (0, .ref a0)]) hx hb dX9_play_118 hl (k := 1) rfl (by rw [ev7]; rfl) (by decide) rfl (fun ls hl => ?_)
                      refine lv_goto (tgt := 88) hx hb dX9_play_121 (by decide) ?_
                      exact ih88 v7 v6 S2 _ _ _ _ _ hQ hw hX hA0 (lv_sub hl [0, 1, 2] rfl) (by omega) (by omega)
              obtain ⟨n, hQ⟩ := hQ
              exact hloop88 n (0 : Int32) (0 : Int32) S1 _ _ _ _ _ hQ hw hX hA0 (lv_sub hl [0, 1, 3] rfl) (by omega) (by omega)
            · have hQ := hQ.2 hc
              refine lv_lload hx hb dX9_play_38 (lv_at hl 1 rfl) ?_
              refine lv_lload hx hb dX9_play_40 (lv_at hl 1 rfl) ?_
              refine lv_bipush (v := 13) hx hb dX9_play_42 (by decide) ?_
              refine lv_lshl hx hb dX9_play_44 rfl ?_
              refine lv_lxor hx hb dX9_play_45 ?_
              refine lv_topl (fun v8 ev8 => ?_)
              have hQ := hQ v8 ev8
              refine lv_lstore (lv' := [(4, .long v8), (6, .int x6_32), (0, .ref a0), (3, .int p2)]) hx hb dX9_play_46 hl (by decide) rfl (fun ls hl => ?_)
              refine lv_lload hx hb dX9_play_48 (lv_at hl 0 rfl) ?_
              refine lv_lload hx hb dX9_play_50 (lv_at hl 0 rfl) ?_
              refine lv_bipush (v := 7) hx hb dX9_play_52 (by decide) ?_
              refine lv_lushr hx hb dX9_play_54 rfl ?_
              refine lv_lxor hx hb dX9_play_55 ?_
              refine lv_topl (fun v9 ev9 => ?_)
              have hQ := hQ v9 ev9
              refine lv_lstore (lv' := [(4, .long v9), (6, .int x6_32), (0, .ref a0), (3, .int p2)]) hx hb dX9_play_56 hl (by decide) rfl (fun ls hl => ?_)
              refine lv_lload hx hb dX9_play_58 (lv_at hl 0 rfl) ?_
              refine lv_lload hx hb dX9_play_60 (lv_at hl 0 rfl) ?_
              refine lv_bipush (v := 17) hx hb dX9_play_62 (by decide) ?_
              refine lv_lshl hx hb dX9_play_64 rfl ?_
              refine lv_lxor hx hb dX9_play_65 ?_
              refine lv_topl (fun v10 ev10 => ?_)
              have hQ := hQ v10 ev10
              refine lv_lstore (lv' := [(4, .long v10), (6, .int x6_32), (0, .ref a0), (3, .int p2)]) hx hb dX9_play_66 hl (by decide) rfl (fun ls hl => ?_)
              refine lv_aload_n hx hb dX9_play_68 rfl (lv_at hl 2 rfl) ?_
              refine lv_lload hx hb dX9_play_69 (lv_at hl 0 rfl) ?_
              refine lv_iconst (v := 1) hx hb dX9_play_71 (by decide) ?_
              refine lv_lushr hx hb dX9_play_72 rfl ?_
              refine k_X9_turn F hw hl hA0 hQ twm_RX9_261 (Nat.le_of_ble_eq_true rfl) (Nat.le_of_ble_eq_true rfl) (Nat.le_of_ble_eq_true rfl) dX9_play_73 (show cl32 + 0 ≤ 0 from by omega) (show sl32 + 0 ≤ 0 from by omega) (fun S11 H locs hQ hw hx1 => ?_)
              have hX := hX.trans hx1
              have hA0 := hA0.ext hx1
              obtain ⟨v12, ev12⟩ : ∃ y : Int32, y = x6_32 + (1 : Int32) := ⟨_, rfl⟩
              have hQ := hQ v12 ev12
              refine lv_iinc (v := v12) (lv' := [(6, .int v12), (4, .long v10), (0, .ref a0), (3, .int p2)]) hx hb dX9_play_76 hl (k := 1) rfl (by rw [ev12]; rfl) (by decide) rfl (fun ls hl => ?_)
              refine lv_goto (tgt := 32) hx hb dX9_play_79 (by decide) ?_
              exact ih32 v12 v10 S11 _ _ _ _ _ hQ hw hX hA0 (lv_sub hl [0, 1, 2, 3] rfl) (by omega) (by omega)
        obtain ⟨n, hQ⟩ := hQ
        exact hloop32 n (0 : Int32) p1 S0 _ _ _ _ _ hQ hw hX hA0 (lv_sub hl [0, 1, 2, 4] rfl) (by omega) (by omega)
      · have hQ := hQ.2 hc
        refine lv_ldc2 (v := 88172645463325252) hx hb hown (hts _ twl_RX9_259) dX9_play_20 ?_
        refine lv_goto (tgt := 27) hx hb dX9_play_23 (by decide) ?_
        refine lv_lstore (lv' := [(4, .long (88172645463325252 : Int64)), (0, .ref a0), (1, .long p1), (3, .int p2)]) hx hb dX9_play_27 hl (by decide) rfl (fun ls hl => ?_)
        refine lv_iconst (v := 0) hx hb dX9_play_29 (by decide) ?_
        refine lv_istore (lv' := [(6, .int (0 : Int32)), (4, .long (88172645463325252 : Int64)), (0, .ref a0), (1, .long p1), (3, .int p2)]) hx hb dX9_play_30 hl (by decide) rfl (fun ls hl => ?_)
        have hloop32 : ∀ (n32 : Nat) (x6_32 : Int32) (x4_32 : Int64) (S13 : St) (H : Heap) (locs : List Loc) (ls : Array Slot) (cl32 sl32 : Nat), lp_X9_play_32 p2 post n32 x6_32 x4_32 S13 → WW G S13 s H locs → Ext S0 S13 → AtO S13 8 0 a0 → lv_has ls 8 [(6, .int x6_32), (4, .long x4_32), (0, .ref a0), (3, .int p2)] → cl32 ≤ 0 + 0 → sl32 ≤ 0 + 0 → W p l e ({ frames := 6, cells := 0, slots := 0, locals := 152 } : Room) s m args below meth c H locs cl32 sl32 (MQ below (QI G S0 post) args s 0 0 (QA G)) (F0 m 32 ls []) := by
          intro n32
          induction n32 with
          | zero => intro x6_32 x4_32 S13 H locs ls cl sl hQ; exact False.elim hQ
          | succ n32 ih32 =>
            intro x6_32 x4_32 S13 H locs ls cl32 sl32 hQ hw hX hA0 hl hcl32 hsl32
            have hQ : bd_X9_play_32 p2 post (fun x6_32 x4_32 S13 => lp_X9_play_32 p2 post n32 x6_32 x4_32 S13) x6_32 x4_32 S13 := hQ
            unfold bd_X9_play_32 at hQ
            refine lv_iload hx hb dX9_play_32 (lv_at hl 0 rfl) ?_
            refine lv_iload_n hx hb dX9_play_34 rfl (lv_at hl 3 rfl) ?_
            refine lv_icmp_ge (tgt := 82) hx hb dX9_play_35 (by decide) (fun hc => ?_) (fun hc => ?_)
            · have hQ := hQ.1 hc
              refine lv_iconst (v := 0) hx hb dX9_play_82 (by decide) ?_
              refine lv_istore (lv' := [(6, .int (0 : Int32)), (4, .long x4_32), (0, .ref a0), (3, .int p2)]) hx hb dX9_play_83 hl (by decide) rfl (fun ls hl => ?_)
              refine lv_iconst (v := 0) hx hb dX9_play_85 (by decide) ?_
              refine lv_istore (lv' := [(7, .int (0 : Int32)), (6, .int (0 : Int32)), (4, .long x4_32), (0, .ref a0), (3, .int p2)]) hx hb dX9_play_86 hl (by decide) rfl (fun ls hl => ?_)
              have hloop88 : ∀ (n88 : Nat) (x7_88 : Int32) (x6_88 : Int32) (S14 : St) (H : Heap) (locs : List Loc) (ls : Array Slot) (cl88 sl88 : Nat), lp_X9_play_88 post n88 x7_88 x6_88 S14 → WW G S14 s H locs → Ext S0 S14 → AtO S14 8 0 a0 → lv_has ls 8 [(7, .int x7_88), (6, .int x6_88), (0, .ref a0)] → cl88 ≤ cl32 + 0 → sl88 ≤ sl32 + 0 → W p l e ({ frames := 6, cells := 0, slots := 0, locals := 152 } : Room) s m args below meth c H locs cl88 sl88 (MQ below (QI G S0 post) args s 0 0 (QA G)) (F0 m 88 ls []) := by
                intro n88
                induction n88 with
                | zero => intro x7_88 x6_88 S14 H locs ls cl sl hQ; exact False.elim hQ
                | succ n88 ih88 =>
                  intro x7_88 x6_88 S14 H locs ls cl88 sl88 hQ hw hX hA0 hl hcl88 hsl88
                  have hQ : bd_X9_play_88 post (fun x7_88 x6_88 S14 => lp_X9_play_88 post n88 x7_88 x6_88 S14) x7_88 x6_88 S14 := hQ
                  unfold bd_X9_play_88 at hQ
                  refine lv_iload hx hb dX9_play_88 (lv_at hl 0 rfl) ?_
                  refine lv_aload_n hx hb dX9_play_90 rfl (lv_at hl 2 rfl) ?_
                  refine g_8_0 F hw hA0 twf_RX9_82 dX9_play_91 ?_
                  refine lv_icmp_ge (tgt := 124) hx hb dX9_play_94 (by decide) (fun hc => ?_) (fun hc => ?_)
                  · have hQ := hQ.1 hc
                    refine lv_iload hx hb dX9_play_124 (lv_at hl 1 rfl) ?_
                    exact rt_i F hr hlk hw hX hQ (show cl88 ≤ 0 from by omega) (show sl88 ≤ 0 from by omega) dX9_play_126
                  · have hQ := hQ.2 hc
                    refine lv_iload hx hb dX9_play_97 (lv_at hl 1 rfl) ?_
                    refine lv_aload_n hx hb dX9_play_99 rfl (lv_at hl 2 rfl) ?_
                    refine g_8_4 F hw hA0 twf_RX9_20 dX9_play_100 (fun a15 hA15 => ?_)
                    refine lv_iload hx hb dX9_play_103 (lv_at hl 0 rfl) ?_
                    obtain ⟨hin, hQ⟩ := hQ
                    refine al_20 F hw hA15 hin dX9_play_105 ?_
                    refine lv_iconst (v := 3) hx hb dX9_play_106 (by decide) ?_
                    refine lv_icmp_ne (tgt := 114) hx hb dX9_play_107 (by decide) (fun hc => ?_) (fun hc => ?_)
                    · have hQ := hQ.1 hc
                      refine lv_iconst (v := 0) hx hb dX9_play_114 (by decide) ?_
                      refine lv_iadd hx hb dX9_play_115 ?_
                      refine lv_topi (fun v16 ev16 => ?_)
                      have hQ := hQ v16 ev16
                      refine lv_istore (lv' := [(6, .int v16), (7, .int x7_88), (0, .ref a0)]) hx hb dX9_play_116 hl (by decide) rfl (fun ls hl => ?_)
                      obtain ⟨v17, ev17⟩ : ∃ y : Int32, y = x7_88 + (1 : Int32) := ⟨_, rfl⟩
                      have hQ := hQ v17 ev17
                      refine lv_iinc (v := v17) (lv' := [(7, .int v17), (6, .int v16), (0, .ref a0)]) hx hb dX9_play_118 hl (k := 1) rfl (by rw [ev17]; rfl) (by decide) rfl (fun ls hl => ?_)
                      refine lv_goto (tgt := 88) hx hb dX9_play_121 (by decide) ?_
                      exact ih88 v17 v16 S14 _ _ _ _ _ hQ hw hX hA0 (lv_sub hl [0, 1, 2] rfl) (by omega) (by omega)
                    · have hQ := hQ.2 hc
                      refine lv_iconst (v := 1) hx hb dX9_play_110 (by decide) ?_
                      refine lv_goto (tgt := 115) hx hb dX9_play_111 (by decide) ?_
                      refine lv_iadd hx hb dX9_play_115 ?_
                      refine lv_topi (fun v18 ev18 => ?_)
                      have hQ := hQ v18 ev18
                      refine lv_istore (lv' := [(6, .int v18), (7, .int x7_88), (0, .ref a0)]) hx hb dX9_play_116 hl (by decide) rfl (fun ls hl => ?_)
                      obtain ⟨v19, ev19⟩ : ∃ y : Int32, y = x7_88 + (1 : Int32) := ⟨_, rfl⟩
                      have hQ := hQ v19 ev19
                      refine lv_iinc (v := v19) (lv' := [(7, .int v19), (6, .int v18), (0, .ref a0)]) hx hb dX9_play_118 hl (k := 1) rfl (by rw [ev19]; rfl) (by decide) rfl (fun ls hl => ?_)
                      refine lv_goto (tgt := 88) hx hb dX9_play_121 (by decide) ?_
                      exact ih88 v19 v18 S14 _ _ _ _ _ hQ hw hX hA0 (lv_sub hl [0, 1, 2] rfl) (by omega) (by omega)
              obtain ⟨n, hQ⟩ := hQ
              exact hloop88 n (0 : Int32) (0 : Int32) S13 _ _ _ _ _ hQ hw hX hA0 (lv_sub hl [0, 1, 3] rfl) (by omega) (by omega)
            · have hQ := hQ.2 hc
              refine lv_lload hx hb dX9_play_38 (lv_at hl 1 rfl) ?_
              refine lv_lload hx hb dX9_play_40 (lv_at hl 1 rfl) ?_
              refine lv_bipush (v := 13) hx hb dX9_play_42 (by decide) ?_
              refine lv_lshl hx hb dX9_play_44 rfl ?_
              refine lv_lxor hx hb dX9_play_45 ?_
              refine lv_topl (fun v20 ev20 => ?_)
              have hQ := hQ v20 ev20
              refine lv_lstore (lv' := [(4, .long v20), (6, .int x6_32), (0, .ref a0), (3, .int p2)]) hx hb dX9_play_46 hl (by decide) rfl (fun ls hl => ?_)
              refine lv_lload hx hb dX9_play_48 (lv_at hl 0 rfl) ?_
              refine lv_lload hx hb dX9_play_50 (lv_at hl 0 rfl) ?_
              refine lv_bipush (v := 7) hx hb dX9_play_52 (by decide) ?_
              refine lv_lushr hx hb dX9_play_54 rfl ?_
              refine lv_lxor hx hb dX9_play_55 ?_
              refine lv_topl (fun v21 ev21 => ?_)
              have hQ := hQ v21 ev21
              refine lv_lstore (lv' := [(4, .long v21), (6, .int x6_32), (0, .ref a0), (3, .int p2)]) hx hb dX9_play_56 hl (by decide) rfl (fun ls hl => ?_)
              refine lv_lload hx hb dX9_play_58 (lv_at hl 0 rfl) ?_
              refine lv_lload hx hb dX9_play_60 (lv_at hl 0 rfl) ?_
              refine lv_bipush (v := 17) hx hb dX9_play_62 (by decide) ?_
              refine lv_lshl hx hb dX9_play_64 rfl ?_
              refine lv_lxor hx hb dX9_play_65 ?_
              refine lv_topl (fun v22 ev22 => ?_)
              have hQ := hQ v22 ev22
              refine lv_lstore (lv' := [(4, .long v22), (6, .int x6_32), (0, .ref a0), (3, .int p2)]) hx hb dX9_play_66 hl (by decide) rfl (fun ls hl => ?_)
              refine lv_aload_n hx hb dX9_play_68 rfl (lv_at hl 2 rfl) ?_
              refine lv_lload hx hb dX9_play_69 (lv_at hl 0 rfl) ?_
              refine lv_iconst (v := 1) hx hb dX9_play_71 (by decide) ?_
              refine lv_lushr hx hb dX9_play_72 rfl ?_
              refine k_X9_turn F hw hl hA0 hQ twm_RX9_261 (Nat.le_of_ble_eq_true rfl) (Nat.le_of_ble_eq_true rfl) (Nat.le_of_ble_eq_true rfl) dX9_play_73 (show cl32 + 0 ≤ 0 from by omega) (show sl32 + 0 ≤ 0 from by omega) (fun S23 H locs hQ hw hx1 => ?_)
              have hX := hX.trans hx1
              have hA0 := hA0.ext hx1
              obtain ⟨v24, ev24⟩ : ∃ y : Int32, y = x6_32 + (1 : Int32) := ⟨_, rfl⟩
              have hQ := hQ v24 ev24
              refine lv_iinc (v := v24) (lv' := [(6, .int v24), (4, .long v22), (0, .ref a0), (3, .int p2)]) hx hb dX9_play_76 hl (k := 1) rfl (by rw [ev24]; rfl) (by decide) rfl (fun ls hl => ?_)
              refine lv_goto (tgt := 32) hx hb dX9_play_79 (by decide) ?_
              exact ih32 v24 v22 S23 _ _ _ _ _ hQ hw hX hA0 (lv_sub hl [0, 1, 2, 3] rfl) (by omega) (by omega)
        obtain ⟨n, hQ⟩ := hQ
        exact hloop32 n (0 : Int32) (88172645463325252 : Int64) S0 _ _ _ _ _ hQ hw hX hA0 (lv_sub hl [0, 1, 2, 4] rfl) (by omega) (by omega)
    · have hQ := hQ.2 hc
      refine lv_iconst (v := -1) hx hb dX9_play_12 (by decide) ?_
      exact rt_i F hr hlk hw hX hQ (show 0 ≤ 0 from by omega) (show 0 ≤ 0 from by omega) dX9_play_13
theorem k_X9_play {p : Program} {l : Launch} {e : Env} {R : Room} {s : State} {m : MethodId} {args : Array Value} {below : List Frame} {meth : Method} {c : Code} {H : Heap} {locs : List Loc} {cells slots : Nat} {Q : State → Prop} {cc : ByteArray} {pc nL : Nat} {ls : Array Slot} {rest : List Value} {G : GT} {S : St} {own : String} {p1 : Int64} {p2 : Int32} {post : Int32 → St → Prop} {lv : List (Nat × Value)} {idx : Nat} (F : CX p m c cc nL s args own) (hw : WW G S s H locs) (hl : lv_has ls nL lv) {a0 : Nat} (hA0 : AtO S 8 0 a0) (hQ : wp_X9_play p1 p2 S post) (h1 : Cond.methodLink own idx yX9_play ∈ wT) (hR1 : 6 + 1 ≤ R.frames) (hR2 : 8 + (8 + 11) + 152 ≤ R.locals) (hrest : (rest.map fun v => v.category).sum ≤ 8) (hdg : decode cc pc = .ok (.invokevirtual idx, 3)) (hf1 : cells + 0 ≤ R.cells) (hf2 : slots + 0 ≤ R.slots)
    (kk : ∀ (r : Int32) (S1 : St) (H1 : Heap) (locs1 : List Loc), post r S1 → WW G S1 s H1 locs1 → Ext S S1 → W p l e R s m args below meth c H1 locs1 (cells + 0) (slots + 0) Q (F0 m (pc + 3) ls (.int r :: rest))) : W p l e R s m args below meth c H locs cells slots Q (F0 m pc ls (.int p2 :: .long p1 :: .ref a0 :: rest)) :=
  cl_i (rn_V (n := 2) (As := [.long p1, .int p2]) (q := (RX9, TX9, 36)) F hw hl (m_X9_play l G p1 p2 S a0 hA0 post hQ) 8 (by decide) (by decide) hA0 rfl rfl h1 twi_yX9_play tws_yX9_play twn_RX9 two_yX9_play rfl rfl ⟨rfl, by decide, by decide, by decide +kernel⟩ rfl ⟨hR1, hR2⟩ rfl hrest hdg ⟨hf1, hf2⟩) hw kk

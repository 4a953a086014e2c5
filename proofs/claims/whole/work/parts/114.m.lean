-- X9_goOn
def bd_X9_goOn_55 (post : Int32 → St → Prop) (K55 : Int32 → St → Prop) (x3_55 : Int32) (S4 : St) : Prop :=
  (x3_55 = (-1 : Int32) →
  ((gj S4 8 0 19) ≤ (gj S4 8 0 18) →
  vp_in (gi S4 8 0 17) 60 ∧
  ∀ S6 : St, S6 = si S4 20 0 (gi S4 8 0 17).toNatClampNeg (4 : Int32) →
  wp_X9_note (2 : Int32) (gi S6 8 0 17) (-1 : Int32) (0 : Int64) S6 (fun S7 =>
  ∀ S8 : St, S8 = si S7 8 0 17 (-1 : Int32) →
  post (2 : Int32) S8)) ∧
  (¬ (gj S4 8 0 19) ≤ (gj S4 8 0 18) →
  post (0 : Int32) S4)) ∧
  (¬ x3_55 = (-1 : Int32) →
  vp_in x3_55 30 ∧
  wp_X9_priceAt (gj S4 30 0 x3_55.toNatClampNeg) S4 (fun r11 S10 =>
  wp_X9_free x3_55 S10 (fun r13 S12 =>
  (r13 < r11 →
  vp_in x3_55 30 ∧
  ∀ S15 : St, S15 = sj S12 30 0 x3_55.toNatClampNeg (-1 : Int64) →
  wp_X9_earliest S15 (fun r17 S16 =>
  K55 r17 S16)) ∧
  (¬ r13 < r11 →
  wp_X9_sell x3_55 S12 (fun S18 =>
  post (1 : Int32) S18)))))
def lp_X9_goOn_55 (post : Int32 → St → Prop) : Nat → Int32 → St → Prop
  | 0, _, _ => False
  | n + 1, x3_55, S4 => bd_X9_goOn_55 post (fun x3_55 S4 => lp_X9_goOn_55 post n x3_55 S4) x3_55 S4
def wp_X9_goOn (p1 : Int64) (S0 : St) (post : Int32 → St → Prop) : Prop :=
  (¬ (gi S0 8 0 17) = (-1 : Int32) →
  ((gi S0 8 0 22) = 0 →
  ((gj S0 8 0 19) ≤ ((gj S0 8 0 18) + p1) →
  ∀ S1 : St, S1 = sj S0 8 0 18 (gj S0 8 0 19) →
  wp_X9_earliest S1 (fun r3 S2 =>
  ∃ n : Nat, lp_X9_goOn_55 post n r3 S2)) ∧
  (¬ (gj S0 8 0 19) ≤ ((gj S0 8 0 18) + p1) →
  ∀ S19 : St, S19 = sj S0 8 0 18 ((gj S0 8 0 18) + p1) →
  wp_X9_earliest S19 (fun r21 S20 =>
  ∃ n : Nat, lp_X9_goOn_55 post n r21 S20))) ∧
  (¬ (gi S0 8 0 22) = 0 →
  post (0 : Int32) S0)) ∧
  ((gi S0 8 0 17) = (-1 : Int32) →
  post (-1 : Int32) S0)
set_option maxRecDepth 100000 in
set_option maxHeartbeats 4000000 in
theorem m_X9_goOn (l : Launch) (G : GT) (p1 : Int64) (S0 : St) (a0 : Nat) (hA0 : AtO S0 8 0 a0) (post : Int32 → St → Prop) (hQ : wp_X9_goOn p1 S0 post) : Met l yX9_goOn (wM yX9_goOn cX9_goOn 4 (some (FieldType.int))) ({ frames := 3, cells := 0, slots := 0, locals := 78 } : Room) (PC G S0 [.ref a0, .long p1]) (QI G S0 post) 0 0 (QA G) := by
  refine mt_start RX9 (by decide) rfl (Nat.le_of_ble_eq_true rfl) ?_
  intro p e s m args below meth c ls F hr hlk hnm hw hl
  have hx := F.1
  have hb := F.2.1
  have hown := F.2.2.2.1
  have hts := F.2.2.2.2
  have hX : Ext S0 S0 := Ext.rf
  have hsz0 := hw.1.1.1
  have hl : lv_has ls 4 [(0, .ref a0), (1, .long p1)] := hl
  unfold wp_X9_goOn at hQ
  refine lv_aload_n hx hb dX9_goOn_0 rfl (lv_at hl 0 rfl) ?_
  refine g_8_17 F hw hA0 twf_RX9_54 dX9_goOn_1 ?_
  refine lv_iconst (v := -1) hx hb dX9_goOn_4 (by decide) ?_
  refine lv_icmp_ne (tgt := 10) hx hb dX9_goOn_5 (by decide) (fun hc => ?_) (fun hc => ?_)
  · have hQ := hQ.1 hc
    refine lv_aload_n hx hb dX9_goOn_10 rfl (lv_at hl 0 rfl) ?_
    refine g_8_22 F hw hA0 twf_RX9_142 dX9_goOn_11 ?_
    refine lv_if_eq (tgt := 19) hx hb dX9_goOn_14 (by decide) (fun hc => ?_) (fun hc => ?_)
    · have hQ := hQ.1 hc
      refine lv_aload_n hx hb dX9_goOn_19 rfl (lv_at hl 0 rfl) ?_
      refine lv_aload_n hx hb dX9_goOn_20 rfl (lv_at hl 0 rfl) ?_
      refine g_8_18 F hw hA0 twf_RX9_129 dX9_goOn_21 ?_
      refine lv_lload_n hx hb dX9_goOn_24 rfl (lv_at hl 1 rfl) ?_
      refine lv_ladd hx hb dX9_goOn_25 ?_
      refine lv_aload_n hx hb dX9_goOn_26 rfl (lv_at hl 0 rfl) ?_
      refine g_8_19 F hw hA0 twf_RX9_133 dX9_goOn_27 ?_
      refine lc_ge (tgt := 43) F dX9_goOn_30 dX9_goOn_31 (by decide) (fun hc => ?_) (fun hc => ?_)
      · have hQ := hQ.1 hc
        refine lv_aload_n hx hb dX9_goOn_43 rfl (lv_at hl 0 rfl) ?_
        refine g_8_19 F hw hA0 twf_RX9_133 dX9_goOn_44 ?_
        refine p_8_18 F hw hA0 twf_RX9_129 dX9_goOn_47 (fun S1 H locs eS1 hw hx1 => ?_)
        have hQ := hQ S1 eS1
        have hX := hX.trans hx1
        have hA0 := hA0.ext hx1
        refine lv_aload_n hx hb dX9_goOn_50 rfl (lv_at hl 0 rfl) ?_
        refine k_X9_earliest F hw hl hA0 hQ twm_RX9_164 (Nat.le_of_ble_eq_true rfl) (Nat.le_of_ble_eq_true rfl) (Nat.le_of_ble_eq_true rfl) dX9_goOn_51 (show 0 + 0 ≤ 0 from by omega) (show 0 + 0 ≤ 0 from by omega) (fun r3 S2 H locs hQ hw hx1 => ?_)
        have hX := hX.trans hx1
        have hA0 := hA0.ext hx1
        refine lv_istore_n (lv' := [(3, .int r3), (0, .ref a0), (1, .long p1)]) hx hb dX9_goOn_54 rfl hl (by decide) rfl (fun ls hl => ?_)
        have hloop55 : ∀ (n55 : Nat) (x3_55 : Int32) (S4 : St) (H : Heap) (locs : List Loc) (ls : Array Slot) (cl55 sl55 : Nat), lp_X9_goOn_55 post n55 x3_55 S4 → WW G S4 s H locs → Ext S0 S4 → AtO S4 8 0 a0 → lv_has ls 4 [(3, .int x3_55), (0, .ref a0)] → cl55 ≤ (0 + 0) + 0 → sl55 ≤ (0 + 0) + 0 → W p l e ({ frames := 3, cells := 0, slots := 0, locals := 78 } : Room) s m args below meth c H locs cl55 sl55 (MQ below (QI G S0 post) args s 0 0 (QA G)) (F0 m 55 ls []) := by
          intro n55
          induction n55 with
          | zero => intro x3_55 S4 H locs ls cl sl hQ; exact False.elim hQ
          | succ n55 ih55 =>
            intro x3_55 S4 H locs ls cl55 sl55 hQ hw hX hA0 hl hcl55 hsl55
            have hQ : bd_X9_goOn_55 post (fun x3_55 S4 => lp_X9_goOn_55 post n55 x3_55 S4) x3_55 S4 := hQ
            unfold bd_X9_goOn_55 at hQ
            refine lv_iload_n hx hb dX9_goOn_55 rfl (lv_at hl 0 rfl) ?_
            refine lv_iconst (v := -1) hx hb dX9_goOn_56 (by decide) ?_
            refine lv_icmp_eq (tgt := 103) hx hb dX9_goOn_57 (by decide) (fun hc => ?_) (fun hc => ?_)
            · have hQ := hQ.1 hc
              refine lv_aload_n hx hb dX9_goOn_103 rfl (lv_at hl 1 rfl) ?_
              refine g_8_18 F hw hA0 twf_RX9_129 dX9_goOn_104 ?_
              refine lv_aload_n hx hb dX9_goOn_107 rfl (lv_at hl 1 rfl) ?_
              refine g_8_19 F hw hA0 twf_RX9_133 dX9_goOn_108 ?_
              refine lc_ge (tgt := 117) F dX9_goOn_111 dX9_goOn_112 (by decide) (fun hc => ?_) (fun hc => ?_)
              · have hQ := hQ.1 hc
                refine lv_aload_n hx hb dX9_goOn_117 rfl (lv_at hl 1 rfl) ?_
                refine g_8_4 F hw hA0 twf_RX9_20 dX9_goOn_118 (fun a5 hA5 => ?_)
                refine lv_aload_n hx hb dX9_goOn_121 rfl (lv_at hl 1 rfl) ?_
                refine g_8_17 F hw hA0 twf_RX9_54 dX9_goOn_122 ?_
                refine lv_iconst (v := 4) hx hb dX9_goOn_125 (by decide) ?_
                obtain ⟨hin, hQ⟩ := hQ
                refine as_20 F hw hA5 hin dX9_goOn_126 (fun S6 H locs eS6 hw hx1 => ?_)
                have hQ := hQ S6 eS6
                have hX := hX.trans hx1
                have hA0 := hA0.ext hx1
                refine lv_aload_n hx hb dX9_goOn_127 rfl (lv_at hl 1 rfl) ?_
                refine lv_iconst (v := 2) hx hb dX9_goOn_128 (by decide) ?_
                refine lv_aload_n hx hb dX9_goOn_129 rfl (lv_at hl 1 rfl) ?_
                refine g_8_17 F hw hA0 twf_RX9_54 dX9_goOn_130 ?_
                refine lv_iconst (v := -1) hx hb dX9_goOn_133 (by decide) ?_
                refine lv_lconst (v := 0) hx hb dX9_goOn_134 (by decide) ?_
                refine k_X9_note F hw hl hA0 hQ twm_RX9_160 (Nat.le_of_ble_eq_true rfl) (Nat.le_of_ble_eq_true rfl) (Nat.le_of_ble_eq_true rfl) dX9_goOn_135 (show cl55 + 0 ≤ 0 from by omega) (show sl55 + 0 ≤ 0 from by omega) (fun S7 H locs hQ hw hx1 => ?_)
                have hX := hX.trans hx1
                have hA0 := hA0.ext hx1
                refine lv_aload_n hx hb dX9_goOn_138 rfl (lv_at hl 1 rfl) ?_
                refine lv_iconst (v := -1) hx hb dX9_goOn_139 (by decide) ?_
                refine p_8_17 F hw hA0 twf_RX9_54 dX9_goOn_140 (fun S8 H locs eS8 hw hx1 => ?_)
                have hQ := hQ S8 eS8
                have hX := hX.trans hx1
                have hA0 := hA0.ext hx1
                refine lv_iconst (v := 2) hx hb dX9_goOn_143 (by decide) ?_
                exact rt_i F hr hlk hw hX hQ (show (cl55 + 0) ≤ 0 from by omega) (show (sl55 + 0) ≤ 0 from by omega) dX9_goOn_144
              · have hQ := hQ.2 hc
                refine lv_iconst (v := 0) hx hb dX9_goOn_115 (by decide) ?_
                exact rt_i F hr hlk hw hX hQ (show cl55 ≤ 0 from by omega) (show sl55 ≤ 0 from by omega) dX9_goOn_116
            · have hQ := hQ.2 hc
              refine lv_aload_n hx hb dX9_goOn_60 rfl (lv_at hl 1 rfl) ?_
              refine lv_aload_n hx hb dX9_goOn_61 rfl (lv_at hl 1 rfl) ?_
              refine g_8_15 F hw hA0 twf_RX9_51 dX9_goOn_62 (fun a9 hA9 => ?_)
              refine lv_iload_n hx hb dX9_goOn_65 rfl (lv_at hl 0 rfl) ?_
              obtain ⟨hin, hQ⟩ := hQ
              refine al_30 F hw hA9 hin dX9_goOn_66 ?_
              refine k_X9_priceAt F hw hl hA0 hQ twm_RX9_146 (Nat.le_of_ble_eq_true rfl) (Nat.le_of_ble_eq_true rfl) (Nat.le_of_ble_eq_true rfl) dX9_goOn_67 (show cl55 + 0 ≤ 0 from by omega) (show sl55 + 0 ≤ 0 from by omega) (fun r11 S10 H locs hQ hw hx1 => ?_)
              have hX := hX.trans hx1
              have hA0 := hA0.ext hx1
              refine lv_aload_n hx hb dX9_goOn_70 rfl (lv_at hl 1 rfl) ?_
              refine lv_iload_n hx hb dX9_goOn_71 rfl (lv_at hl 0 rfl) ?_
              refine k_X9_free F hw hl hA0 hQ twm_RX9_157 (Nat.le_of_ble_eq_true rfl) (Nat.le_of_ble_eq_true rfl) (Nat.le_of_ble_eq_true rfl) dX9_goOn_72 (show (cl55 + 0) + 0 ≤ 0 from by omega) (show (sl55 + 0) + 0 ≤ 0 from by omega) (fun r13 S12 H locs hQ hw hx1 => ?_)
              have hX := hX.trans hx1
              have hA0 := hA0.ext hx1
              refine lc_gt (tgt := 86) F dX9_goOn_75 dX9_goOn_76 (by decide) (fun hc => ?_) (fun hc => ?_)
              · have hQ := hQ.1 hc
                refine lv_aload_n hx hb dX9_goOn_86 rfl (lv_at hl 1 rfl) ?_
                refine g_8_15 F hw hA0 twf_RX9_51 dX9_goOn_87 (fun a14 hA14 => ?_)
                refine lv_iload_n hx hb dX9_goOn_90 rfl (lv_at hl 0 rfl) ?_
                refine lv_ldc2 (v := -1) hx hb hown (hts _ twl_RX9_117) dX9_goOn_91 ?_
                obtain ⟨hin, hQ⟩ := hQ
                refine as_30 F hw hA14 hin dX9_goOn_94 (fun S15 H locs eS15 hw hx1 => ?_)
                have hQ := hQ S15 eS15
                have hX := hX.trans hx1
                have hA0 := hA0.ext hx1
                refine lv_aload_n hx hb dX9_goOn_95 rfl (lv_at hl 1 rfl) ?_
                refine k_X9_earliest F hw hl hA0 hQ twm_RX9_164 (Nat.le_of_ble_eq_true rfl) (Nat.le_of_ble_eq_true rfl) (Nat.le_of_ble_eq_true rfl) dX9_goOn_96 (show ((cl55 + 0) + 0) + 0 ≤ 0 from by omega) (show ((sl55 + 0) + 0) + 0 ≤ 0 from by omega) (fun r17 S16 H locs hQ hw hx1 => ?_)
                have hX := hX.trans hx1
                have hA0 := hA0.ext hx1
                refine lv_istore_n (lv' := [(3, .int r17), (0, .ref a0)]) hx hb dX9_goOn_99 rfl hl (by decide) rfl (fun ls hl => ?_)
                refine lv_goto (tgt := 55) hx hb dX9_goOn_100 (by decide) ?_
                exact ih55 r17 S16 _ _ _ _ _ hQ hw hX hA0 (lv_sub hl [0, 1] rfl) (by omega) (by omega)
              · have hQ := hQ.2 hc
                refine lv_aload_n hx hb dX9_goOn_79 rfl (lv_at hl 1 rfl) ?_
                refine lv_iload_n hx hb dX9_goOn_80 rfl (lv_at hl 0 rfl) ?_
                refine k_X9_sell F hw hl hA0 hQ twm_RX9_168 (Nat.le_of_ble_eq_true rfl) (Nat.le_of_ble_eq_true rfl) (Nat.le_of_ble_eq_true rfl) dX9_goOn_81 (show ((cl55 + 0) + 0) + 0 ≤ 0 from by omega) (show ((sl55 + 0) + 0) + 0 ≤ 0 from by omega) (fun S18 H locs hQ hw hx1 => ?_)
                have hX := hX.trans hx1
                have hA0 := hA0.ext hx1
                refine lv_iconst (v := 1) hx hb dX9_goOn_84 (by decide) ?_
                exact rt_i F hr hlk hw hX hQ (show (((cl55 + 0) + 0) + 0) ≤ 0 from by omega) (show (((sl55 + 0) + 0) + 0) ≤ 0 from by omega) dX9_goOn_85
        obtain ⟨n, hQ⟩ := hQ
        exact hloop55 n r3 S2 _ _ _ _ _ hQ hw hX hA0 (lv_sub hl [0, 1] rfl) (by omega) (by omega)
      · have hQ := hQ.2 hc
        refine lv_aload_n hx hb dX9_goOn_34 rfl (lv_at hl 0 rfl) ?_
        refine g_8_18 F hw hA0 twf_RX9_129 dX9_goOn_35 ?_
        refine lv_lload_n hx hb dX9_goOn_38 rfl (lv_at hl 1 rfl) ?_
        refine lv_ladd hx hb dX9_goOn_39 ?_
        refine lv_goto (tgt := 47) hx hb dX9_goOn_40 (by decide) ?_
        refine p_8_18 F hw hA0 twf_RX9_129 dX9_goOn_47 (fun S19 H locs eS19 hw hx1 => ?_)
        have hQ := hQ S19 eS19
        have hX := hX.trans hx1
        have hA0 := hA0.ext hx1
        refine lv_aload_n hx hb dX9_goOn_50 rfl (lv_at hl 0 rfl) ?_
        refine k_X9_earliest F hw hl hA0 hQ twm_RX9_164 (Nat.le_of_ble_eq_true rfl) (Nat.le_of_ble_eq_true rfl) (Nat.le_of_ble_eq_true rfl) dX9_goOn_51 (show 0 + 0 ≤ 0 from by omega) (show 0 + 0 ≤ 0 from by omega) (fun r21 S20 H locs hQ hw hx1 => ?_)
        have hX := hX.trans hx1
        have hA0 := hA0.ext hx1
        refine lv_istore_n (lv' := [(3, .int r21), (0, .ref a0), (1, .long p1)]) hx hb dX9_goOn_54 rfl hl (by decide) rfl (fun ls hl => ?_)
        have hloop55 : ∀ (n55 : Nat) (x3_55 : Int32) (S22 : St) (H : Heap) (locs : List Loc) (ls : Array Slot) (cl55 sl55 : Nat), lp_X9_goOn_55 post n55 x3_55 S22 → WW G S22 s H locs → Ext S0 S22 → AtO S22 8 0 a0 → lv_has ls 4 [(3, .int x3_55), (0, .ref a0)] → cl55 ≤ (0 + 0) + 0 → sl55 ≤ (0 + 0) + 0 → W p l e ({ frames := 3, cells := 0, slots := 0, locals := 78 } : Room) s m args below meth c H locs cl55 sl55 (MQ below (QI G S0 post) args s 0 0 (QA G)) (F0 m 55 ls []) := by
          intro n55
          induction n55 with
          | zero => intro x3_55 S22 H locs ls cl sl hQ; exact False.elim hQ
          | succ n55 ih55 =>
            intro x3_55 S22 H locs ls cl55 sl55 hQ hw hX hA0 hl hcl55 hsl55
            have hQ : bd_X9_goOn_55 post (fun x3_55 S22 => lp_X9_goOn_55 post n55 x3_55 S22) x3_55 S22 := hQ
            unfold bd_X9_goOn_55 at hQ
            refine lv_iload_n hx hb dX9_goOn_55 rfl (lv_at hl 0 rfl) ?_
            refine lv_iconst (v := -1) hx hb dX9_goOn_56 (by decide) ?_
            refine lv_icmp_eq (tgt := 103) hx hb dX9_goOn_57 (by decide) (fun hc => ?_) (fun hc => ?_)
            · have hQ := hQ.1 hc
              refine lv_aload_n hx hb dX9_goOn_103 rfl (lv_at hl 1 rfl) ?_
              refine g_8_18 F hw hA0 twf_RX9_129 dX9_goOn_104 ?_
              refine lv_aload_n hx hb dX9_goOn_107 rfl (lv_at hl 1 rfl) ?_
              refine g_8_19 F hw hA0 twf_RX9_133 dX9_goOn_108 ?_
              refine lc_ge (tgt := 117) F dX9_goOn_111 dX9_goOn_112 (by decide) (fun hc => ?_) (fun hc => ?_)
              · have hQ := hQ.1 hc
                refine lv_aload_n hx hb dX9_goOn_117 rfl (lv_at hl 1 rfl) ?_
                refine g_8_4 F hw hA0 twf_RX9_20 dX9_goOn_118 (fun a23 hA23 => ?_)
                refine lv_aload_n hx hb dX9_goOn_121 rfl (lv_at hl 1 rfl) ?_
                refine g_8_17 F hw hA0 twf_RX9_54 dX9_goOn_122 ?_
                refine lv_iconst (v := 4) hx hb dX9_goOn_125 (by decide) ?_
                obtain ⟨hin, hQ⟩ := hQ
                refine as_20 F hw hA23 hin dX9_goOn_126 (fun S24 H locs eS24 hw hx1 => ?_)
                have hQ := hQ S24 eS24
                have hX := hX.trans hx1
                have hA0 := hA0.ext hx1
                refine lv_aload_n hx hb dX9_goOn_127 rfl (lv_at hl 1 rfl) ?_
                refine lv_iconst (v := 2) hx hb dX9_goOn_128 (by decide) ?_
                refine lv_aload_n hx hb dX9_goOn_129 rfl (lv_at hl 1 rfl) ?_
                refine g_8_17 F hw hA0 twf_RX9_54 dX9_goOn_130 ?_
                refine lv_iconst (v := -1) hx hb dX9_goOn_133 (by decide) ?_
                refine lv_lconst (v := 0) hx hb dX9_goOn_134 (by decide) ?_
                refine k_X9_note F hw hl hA0 hQ twm_RX9_160 (Nat.le_of_ble_eq_true rfl) (Nat.le_of_ble_eq_true rfl) (Nat.le_of_ble_eq_true rfl) dX9_goOn_135 (show cl55 + 0 ≤ 0 from by omega) (show sl55 + 0 ≤ 0 from by omega) (fun S25 H locs hQ hw hx1 => ?_)
                have hX := hX.trans hx1
                have hA0 := hA0.ext hx1
                refine lv_aload_n hx hb dX9_goOn_138 rfl (lv_at hl 1 rfl) ?_
                refine lv_iconst (v := -1) hx hb dX9_goOn_139 (by decide) ?_
                refine p_8_17 F hw hA0 twf_RX9_54 dX9_goOn_140 (fun S26 H locs eS26 hw hx1 => ?_)
                have hQ := hQ S26 eS26
                have hX := hX.trans hx1
                have hA0 := hA0.ext hx1
                refine lv_iconst (v := 2) hx hb dX9_goOn_143 (by decide) ?_
                exact rt_i F hr hlk hw hX hQ (show (cl55 + 0) ≤ 0 from by omega) (show (sl55 + 0) ≤ 0 from by omega) dX9_goOn_144
              · have hQ := hQ.2 hc
                refine lv_iconst (v := 0) hx hb dX9_goOn_115 (by decide) ?_
                exact rt_i F hr hlk hw hX hQ (show cl55 ≤ 0 from by omega) (show sl55 ≤ 0 from by omega) dX9_goOn_116
            · have hQ := hQ.2 hc
              refine lv_aload_n hx hb dX9_goOn_60 rfl (lv_at hl 1 rfl) ?_
              refine lv_aload_n hx hb dX9_goOn_61 rfl (lv_at hl 1 rfl) ?_
              refine g_8_15 F hw hA0 twf_RX9_51 dX9_goOn_62 (fun a27 hA27 => ?_)
              refine lv_iload_n hx hb dX9_goOn_65 rfl (lv_at hl 0 rfl) ?_
              obtain ⟨hin, hQ⟩ := hQ
              refine al_30 F hw hA27 hin dX9_goOn_66 ?_
              refine k_X9_priceAt F hw hl hA0 hQ twm_RX9_146 (Nat.le_of_ble_eq_true rfl) (Nat.le_of_ble_eq_true rfl) (Nat.le_of_ble_eq_true rfl) dX9_goOn_67 (show cl55 + 0 ≤ 0 from by omega) (show sl55 + 0 ≤ 0 from by omega) (fun r29 S28 H locs hQ hw hx1 => ?_)
              have hX := hX.trans hx1
              have hA0 := hA0.ext hx1
              refine lv_aload_n hx hb dX9_goOn_70 rfl (lv_at hl 1 rfl) ?_
              refine lv_iload_n hx hb dX9_goOn_71 rfl (lv_at hl 0 rfl) ?_
              refine k_X9_free F hw hl hA0 hQ twm_RX9_157 (Nat.le_of_ble_eq_true rfl) (Nat.le_of_ble_eq_true rfl) (Nat.le_of_ble_eq_true rfl) dX9_goOn_72 (show (cl55 + 0) + 0 ≤ 0 from by omega) (show (sl55 + 0) + 0 ≤ 0 from by omega) (fun r31 S30 H locs hQ hw hx1 => ?_)
              have hX := hX.trans hx1
              have hA0 := hA0.ext hx1
              refine lc_gt (tgt := 86) F dX9_goOn_75 dX9_goOn_76 (by decide) (fun hc => ?_) (fun hc => ?_)
              · have hQ := hQ.1 hc
                refine lv_aload_n hx hb dX9_goOn_86 rfl (lv_at hl 1 rfl) ?_
                refine g_8_15 F hw hA0 twf_RX9_51 dX9_goOn_87 (fun a32 hA32 => ?_)
                refine lv_iload_n hx hb dX9_goOn_90 rfl (lv_at hl 0 rfl) ?_
                refine lv_ldc2 (v := -1) hx hb hown (hts _ twl_RX9_117) dX9_goOn_91 ?_
                obtain ⟨hin, hQ⟩ := hQ
                refine as_30 F hw hA32 hin dX9_goOn_94 (fun S33 H locs eS33 hw hx1 => ?_)
                have hQ := hQ S33 eS33
                have hX := hX.trans hx1
                have hA0 := hA0.ext hx1
                refine lv_aload_n hx hb dX9_goOn_95 rfl (lv_at hl 1 rfl) ?_
                refine k_X9_earliest F hw hl hA0 hQ twm_RX9_164 (Nat.le_of_ble_eq_true rfl) (Nat.le_of_ble_eq_true rfl) (Nat.le_of_ble_eq_true rfl) dX9_goOn_96 (show ((cl55 + 0) + 0) + 0 ≤ 0 from by omega) (show ((sl55 + 0) + 0) + 0 ≤ 0 from by omega) (fun r35 S34 H locs hQ hw hx1 => ?_)
                have hX := hX.trans hx1
                have hA0 := hA0.ext hx1
                refine lv_istore_n (lv' := [(3, .int r35), (0, .ref a0)]) hx hb dX9_goOn_99 rfl hl (by decide) rfl (fun ls hl => ?_)
                refine lv_goto (tgt := 55) hx hb dX9_goOn_100 (by decide) ?_
                exact ih55 r35 S34 _ _ _ _ _ hQ hw hX hA0 (lv_sub hl [0, 1] rfl) (by omega) (by omega)
              · have hQ := hQ.2 hc
                refine lv_aload_n hx hb dX9_goOn_79 rfl (lv_at hl 1 rfl) ?_
                refine lv_iload_n hx hb dX9_goOn_80 rfl (lv_at hl 0 rfl) ?_
                refine k_X9_sell F hw hl hA0 hQ twm_RX9_168 (Nat.le_of_ble_eq_true rfl) (Nat.le_of_ble_eq_true rfl) (Nat.le_of_ble_eq_true rfl) dX9_goOn_81 (show ((cl55 + 0) + 0) + 0 ≤ 0 from by omega) (show ((sl55 + 0) + 0) + 0 ≤ 0 from by omega) (fun S36 H locs hQ hw hx1 => ?_)
                have hX := hX.trans hx1
                have hA0 := hA0.ext hx1
                refine lv_iconst (v := 1) hx hb dX9_goOn_84 (by decide) ?_
                exact rt_i F hr hlk hw hX hQ (show (((cl55 + 0) + 0) + 0) ≤ 0 from by omega) (show (((sl55 + 0) + 0) + 0) ≤ 0 from by omega) dX9_goOn_85
        obtain ⟨n, hQ⟩ := hQ
        exact hloop55 n r21 S20 _ _ _ _ _ hQ hw hX hA0 (lv_sub hl [0, 1] rfl) (by omega) (by omega)
    · have hQ := hQ.2 hc
      refine lv_iconst (v := 0) hx hb dX9_goOn_17 (by decide) ?_
      exact rt_i F hr hlk hw hX hQ (show 0 ≤ 0 from by omega) (show 0 ≤ 0 from by omega) dX9_goOn_18
  · have hQ := hQ.2 hc
    refine lv_iconst (v := -1) hx hb dX9_goOn_8 (by decide) ?_
    exact rt_i F hr hlk hw hX hQ (show 0 ≤ 0 from by omega) (show 0 ≤ 0 from by omega) dX9_goOn_9
theorem k_X9_goOn {p : Program} {l : Launch} {e : Env} {R : Room} {s : State} {m : MethodId} {args : Array Value} {below : List Frame} {meth : Method} {c : Code} {H : Heap} {locs : List Loc} {cells slots : Nat} {Q : State → Prop} {cc : ByteArray} {pc nL : Nat} {ls : Array Slot} {rest : List Value} {G : GT} {S : St} {own : String} {p1 : Int64} {post : Int32 → St → Prop} {lv : List (Nat × Value)} {idx : Nat} (F : CX p m c cc nL s args own) (hw : WW G S s H locs) (hl : lv_has ls nL lv) {a0 : Nat} (hA0 : AtO S 8 0 a0) (hQ : wp_X9_goOn p1 S post) (h1 : Cond.methodLink own idx yX9_goOn ∈ wT) (hR1 : 3 + 1 ≤ R.frames) (hR2 : 8 + (4 + 11) + 78 ≤ R.locals) (hrest : (rest.map fun v => v.category).sum ≤ 8) (hdg : decode cc pc = .ok (.invokevirtual idx, 3)) (hf1 : cells + 0 ≤ R.cells) (hf2 : slots + 0 ≤ R.slots)
    (kk : ∀ (r : Int32) (S1 : St) (H1 : Heap) (locs1 : List Loc), post r S1 → WW G S1 s H1 locs1 → Ext S S1 → W p l e R s m args below meth c H1 locs1 (cells + 0) (slots + 0) Q (F0 m (pc + 3) ls (.int r :: rest))) : W p l e R s m args below meth c H locs cells slots Q (F0 m pc ls (.long p1 :: .ref a0 :: rest)) :=
  cl_i (rn_V (n := 1) (As := [.long p1]) (q := (RX9, TX9, 36)) F hw hl (m_X9_goOn l G p1 S a0 hA0 post hQ) 8 (by decide) (by decide) hA0 rfl rfl h1 twi_yX9_goOn tws_yX9_goOn twn_RX9 two_yX9_goOn rfl rfl ⟨rfl, by decide, by decide, by decide +kernel⟩ rfl ⟨hR1, hR2⟩ rfl hrest hdg ⟨hf1, hf2⟩) hw kk
-- X9_tick
def bd_X9_tick_35 (r3 : Int32) (post : Int32 → St → Prop) (K35 : Int32 → St → Prop) (x4_35 : Int32) (S4 : St) : Prop :=
  ((gi S4 8 0 0) ≤ x4_35 →
  post r3 S4) ∧
  (¬ (gi S4 8 0 0) ≤ x4_35 →
  vp_in x4_35 60 ∧
  (¬ (gi S4 20 0 x4_35.toNatClampNeg) = (2 : Int32) →
  ∀ v6 : Int32, v6 = x4_35 + (1 : Int32) →
  K35 v6 S4) ∧
  ((gi S4 20 0 x4_35.toNatClampNeg) = (2 : Int32) →
  vp_in x4_35 60 ∧
  (((gj S4 8 0 16) - (gj S4 26 0 x4_35.toNatClampNeg)) < (10000 : Int64) →
  ∀ v8 : Int32, v8 = x4_35 + (1 : Int32) →
  K35 v8 S4) ∧
  (¬ ((gj S4 8 0 16) - (gj S4 26 0 x4_35.toNatClampNeg)) < (10000 : Int64) →
  vp_in x4_35 60 ∧
  ∀ S10 : St, S10 = si S4 20 0 x4_35.toNatClampNeg (3 : Int32) →
  vp_in x4_35 60 ∧
  vp_in x4_35 60 ∧
  wp_X9_note (3 : Int32) x4_35 (gi S10 21 0 x4_35.toNatClampNeg) (gj S10 22 0 x4_35.toNatClampNeg) S10 (fun S13 =>
  ∀ v14 : Int32, v14 = x4_35 + (1 : Int32) →
  K35 v14 S13))))
def lp_X9_tick_35 (r3 : Int32) (post : Int32 → St → Prop) : Nat → Int32 → St → Prop
  | 0, _, _ => False
  | n + 1, x4_35, S4 => bd_X9_tick_35 r3 post (fun x4_35 S4 => lp_X9_tick_35 r3 post n x4_35 S4) x4_35 S4
def wp_X9_tick (p1 : Int64) (S0 : St) (post : Int32 → St → Prop) : Prop :=
  (p1 < (1 : Int64) →
  post (-1 : Int32) S0) ∧
  (¬ p1 < (1 : Int64) →
  (p1 ≤ (1000000 : Int64) →
  ∀ S1 : St, S1 = sj S0 8 0 16 ((gj S0 8 0 16) + p1) →
  wp_X9_goOn p1 S1 (fun r3 S2 =>
  ∃ n : Nat, lp_X9_tick_35 r3 post n (0 : Int32) S2)) ∧
  (¬ p1 ≤ (1000000 : Int64) →
  post (-1 : Int32) S0))
set_option maxRecDepth 100000 in
set_option maxHeartbeats 4000000 in
theorem m_X9_tick (l : Launch) (G : GT) (p1 : Int64) (S0 : St) (a0 : Nat) (hA0 : AtO S0 8 0 a0) (post : Int32 → St → Prop) (hQ : wp_X9_tick p1 S0 post) : Met l yX9_tick (wM yX9_tick cX9_tick 5 (some (FieldType.int))) ({ frames := 4, cells := 0, slots := 0, locals := 101 } : Room) (PC G S0 [.ref a0, .long p1]) (QI G S0 post) 0 0 (QA G) := by
  refine mt_start RX9 (by decide) rfl (Nat.le_of_ble_eq_true rfl) ?_
  intro p e s m args below meth c ls F hr hlk hnm hw hl
  have hx := F.1
  have hb := F.2.1
  have hown := F.2.2.2.1
  have hts := F.2.2.2.2
  have hX : Ext S0 S0 := Ext.rf
  have hsz0 := hw.1.1.1
  have hl : lv_has ls 5 [(0, .ref a0), (1, .long p1)] := hl
  unfold wp_X9_tick at hQ
  refine lv_lload_n hx hb dX9_tick_0 rfl (lv_at hl 1 rfl) ?_
  refine lv_lconst (v := 1) hx hb dX9_tick_1 (by decide) ?_
  refine lc_lt (tgt := 14) F dX9_tick_2 dX9_tick_3 (by decide) (fun hc => ?_) (fun hc => ?_)
  · have hQ := hQ.1 hc
    refine lv_iconst (v := -1) hx hb dX9_tick_14 (by decide) ?_
    exact rt_i F hr hlk hw hX hQ (show 0 ≤ 0 from by omega) (show 0 ≤ 0 from by omega) dX9_tick_15
  · have hQ := hQ.2 hc
    refine lv_lload_n hx hb dX9_tick_6 rfl (lv_at hl 1 rfl) ?_
    refine lv_ldc2 (v := 1000000) hx hb hown (hts _ twl_RX9_123) dX9_tick_7 ?_
    refine lc_le (tgt := 16) F dX9_tick_10 dX9_tick_11 (by decide) (fun hc => ?_) (fun hc => ?_)
    · have hQ := hQ.1 hc
      refine lv_aload_n hx hb dX9_tick_16 rfl (lv_at hl 0 rfl) ?_
      refine lv_dup hx hb dX9_tick_17 rfl ?_
      refine g_8_16 F hw hA0 twf_RX9_172 dX9_tick_18 ?_
      refine lv_lload_n hx hb dX9_tick_21 rfl (lv_at hl 1 rfl) ?_
      refine lv_ladd hx hb dX9_tick_22 ?_
      refine p_8_16 F hw hA0 twf_RX9_172 dX9_tick_23 (fun S1 H locs eS1 hw hx1 => ?_)
      have hQ := hQ S1 eS1
      have hX := hX.trans hx1
      have hA0 := hA0.ext hx1
      refine lv_aload_n hx hb dX9_tick_26 rfl (lv_at hl 0 rfl) ?_
      refine lv_lload_n hx hb dX9_tick_27 rfl (lv_at hl 1 rfl) ?_
      refine k_X9_goOn F hw hl hA0 hQ twm_RX9_175 (Nat.le_of_ble_eq_true rfl) (Nat.le_of_ble_eq_true rfl) (Nat.le_of_ble_eq_true rfl) dX9_tick_28 (show 0 + 0 ≤ 0 from by omega) (show 0 + 0 ≤ 0 from by omega) (fun r3 S2 H locs hQ hw hx1 => ?_)
      have hX := hX.trans hx1
      have hA0 := hA0.ext hx1
      refine lv_istore_n (lv' := [(3, .int r3), (0, .ref a0), (1, .long p1)]) hx hb dX9_tick_31 rfl hl (by decide) rfl (fun ls hl => ?_)
      refine lv_iconst (v := 0) hx hb dX9_tick_32 (by decide) ?_
      refine lv_istore (lv' := [(4, .int (0 : Int32)), (3, .int r3), (0, .ref a0), (1, .long p1)]) hx hb dX9_tick_33 hl (by decide) rfl (fun ls hl => ?_)
      have hloop35 : ∀ (n35 : Nat) (x4_35 : Int32) (S4 : St) (H : Heap) (locs : List Loc) (ls : Array Slot) (cl35 sl35 : Nat), lp_X9_tick_35 r3 post n35 x4_35 S4 → WW G S4 s H locs → Ext S0 S4 → AtO S4 8 0 a0 → lv_has ls 5 [(4, .int x4_35), (3, .int r3), (0, .ref a0)] → cl35 ≤ (0 + 0) + 0 → sl35 ≤ (0 + 0) + 0 → W p l e ({ frames := 4, cells := 0, slots := 0, locals := 101 } : Room) s m args below meth c H locs cl35 sl35 (MQ below (QI G S0 post) args s 0 0 (QA G)) (F0 m 35 ls []) := by
        intro n35
        induction n35 with
        | zero => intro x4_35 S4 H locs ls cl sl hQ; exact False.elim hQ
        | succ n35 ih35 =>
          intro x4_35 S4 H locs ls cl35 sl35 hQ hw hX hA0 hl hcl35 hsl35
          have hQ : bd_X9_tick_35 r3 post (fun x4_35 S4 => lp_X9_tick_35 r3 post n35 x4_35 S4) x4_35 S4 := hQ
          unfold bd_X9_tick_35 at hQ
          refine lv_iload hx hb dX9_tick_35 (lv_at hl 0 rfl) ?_
          refine lv_aload_n hx hb dX9_tick_37 rfl (lv_at hl 2 rfl) ?_
          refine g_8_0 F hw hA0 twf_RX9_82 dX9_tick_38 ?_
          refine lv_icmp_ge (tgt := 109) hx hb dX9_tick_41 (by decide) (fun hc => ?_) (fun hc => ?_)
          · have hQ := hQ.1 hc
            refine lv_iload_n hx hb dX9_tick_109 rfl (lv_at hl 1 rfl) ?_
            exact rt_i F hr hlk hw hX hQ (show cl35 ≤ 0 from by omega) (show sl35 ≤ 0 from by omega) dX9_tick_110
          · have hQ := hQ.2 hc
            refine lv_aload_n hx hb dX9_tick_44 rfl (lv_at hl 2 rfl) ?_
            refine g_8_4 F hw hA0 twf_RX9_20 dX9_tick_45 (fun a5 hA5 => ?_)
            refine lv_iload hx hb dX9_tick_48 (lv_at hl 0 rfl) ?_
            obtain ⟨hin, hQ⟩ := hQ
            refine al_20 F hw hA5 hin dX9_tick_50 ?_
            refine lv_iconst (v := 2) hx hb dX9_tick_51 (by decide) ?_
            refine lv_icmp_ne (tgt := 103) hx hb dX9_tick_52 (by decide) (fun hc => ?_) (fun hc => ?_)
            · have hQ := hQ.1 hc
              obtain ⟨v6, ev6⟩ : ∃ y : Int32, y = x4_35 + (1 : Int32) := ⟨_, rfl⟩
              have hQ := hQ v6 ev6
              refine lv_iinc (v := v6) (lv' := [(4, .int v6), (3, .int r3), (0, .ref a0)]) hx hb dX9_tick_103 hl (k := 0) rfl (by rw [ev6]; rfl) (by decide) rfl (fun ls hl => ?_)
              refine lv_goto (tgt := 35) hx hb dX9_tick_106 (by decide) ?_
              exact ih35 v6 S4 _ _ _ _ _ hQ hw hX hA0 (lv_sub hl [0, 1, 2] rfl) (by omega) (by omega)
            · have hQ := hQ.2 hc
              refine lv_aload_n hx hb dX9_tick_55 rfl (lv_at hl 2 rfl) ?_
              refine g_8_16 F hw hA0 twf_RX9_172 dX9_tick_56 ?_
              refine lv_aload_n hx hb dX9_tick_59 rfl (lv_at hl 2 rfl) ?_
              refine g_8_10 F hw hA0 twf_RX9_39 dX9_tick_60 (fun a7 hA7 => ?_)
              refine lv_iload hx hb dX9_tick_63 (lv_at hl 0 rfl) ?_
              obtain ⟨hin, hQ⟩ := hQ
              refine al_26 F hw hA7 hin dX9_tick_65 ?_
              refine lv_lsub hx hb dX9_tick_66 ?_
              refine lv_ldc2 (v := 10000) hx hb hown (hts _ twl_RX9_179) dX9_tick_67 ?_
              refine lc_lt (tgt := 103) F dX9_tick_70 dX9_tick_71 (by decide) (fun hc => ?_) (fun hc => ?_)
              · have hQ := hQ.1 hc
                obtain ⟨v8, ev8⟩ : ∃ y : Int32, y = x4_35 + (1 : Int32) := ⟨_, rfl⟩
                have hQ := hQ v8 ev8
                refine lv_iinc (v := v8) (lv' := [(4, .int v8), (3, .int r3), (0, .ref a0)]) hx hb dX9_tick_103 hl (k := 0) rfl (by rw [ev8]; rfl) (by decide) rfl (fun ls hl => ?_)
                refine lv_goto (tgt := 35) hx hb dX9_tick_106 (by decide) ?_
                exact ih35 v8 S4 _ _ _ _ _ hQ hw hX hA0 (lv_sub hl [0, 1, 2] rfl) (by omega) (by omega)
              · have hQ := hQ.2 hc
                refine lv_aload_n hx hb dX9_tick_74 rfl (lv_at hl 2 rfl) ?_
                refine g_8_4 F hw hA0 twf_RX9_20 dX9_tick_75 (fun a9 hA9 => ?_)
                refine lv_iload hx hb dX9_tick_78 (lv_at hl 0 rfl) ?_
                refine lv_iconst (v := 3) hx hb dX9_tick_80 (by decide) ?_
                obtain ⟨hin, hQ⟩ := hQ
                refine as_20 F hw hA9 hin dX9_tick_81 (fun S10 H locs eS10 hw hx1 => ?_)
                have hQ := hQ S10 eS10
                have hX := hX.trans hx1
                have hA0 := hA0.ext hx1
                refine lv_aload_n hx hb dX9_tick_82 rfl (lv_at hl 2 rfl) ?_
                refine lv_iconst (v := 3) hx hb dX9_tick_83 (by decide) ?_
                refine lv_iload hx hb dX9_tick_84 (lv_at hl 0 rfl) ?_
                refine lv_aload_n hx hb dX9_tick_86 rfl (lv_at hl 2 rfl) ?_
                refine g_8_5 F hw hA0 twf_RX9_23 dX9_tick_87 (fun a11 hA11 => ?_)
                refine lv_iload hx hb dX9_tick_90 (lv_at hl 0 rfl) ?_
                obtain ⟨hin, hQ⟩ := hQ
                refine al_21 F hw hA11 hin dX9_tick_92 ?_
                refine lv_aload_n hx hb dX9_tick_93 rfl (lv_at hl 2 rfl) ?_
                refine g_8_6 F hw hA0 twf_RX9_26 dX9_tick_94 (fun a12 hA12 => ?_)
                refine lv_iload hx hb dX9_tick_97 (lv_at hl 0 rfl) ?_
                obtain ⟨hin, hQ⟩ := hQ
                refine al_22 F hw hA12 hin dX9_tick_99 ?_
                refine k_X9_note F hw hl hA0 hQ twm_RX9_160 (Nat.le_of_ble_eq_true rfl) (Nat.le_of_ble_eq_true rfl) (Nat.le_of_ble_eq_true rfl) dX9_tick_100 (show cl35 + 0 ≤ 0 from by omega) (show sl35 + 0 ≤ 0 from by omega) (fun S13 H locs hQ hw hx1 => ?_)
                have hX := hX.trans hx1
                have hA0 := hA0.ext hx1
                obtain ⟨v14, ev14⟩ : ∃ y : Int32, y = x4_35 + (1 : Int32) := ⟨_, rfl⟩
                have hQ := hQ v14 ev14
                refine lv_iinc (v := v14) (lv' := [(4, .int v14), (3, .int r3), (0, .ref a0)]) hx hb dX9_tick_103 hl (k := 0) rfl (by rw [ev14]; rfl) (by decide) rfl (fun ls hl => ?_)
                refine lv_goto (tgt := 35) hx hb dX9_tick_106 (by decide) ?_
                exact ih35 v14 S13 _ _ _ _ _ hQ hw hX hA0 (lv_sub hl [0, 1, 2] rfl) (by omega) (by omega)
      obtain ⟨n, hQ⟩ := hQ
      exact hloop35 n (0 : Int32) S2 _ _ _ _ _ hQ hw hX hA0 (lv_sub hl [0, 1, 2] rfl) (by omega) (by omega)
    · have hQ := hQ.2 hc
      refine lv_iconst (v := -1) hx hb dX9_tick_14 (by decide) ?_
      exact rt_i F hr hlk hw hX hQ (show 0 ≤ 0 from by omega) (show 0 ≤ 0 from by omega) dX9_tick_15
theorem k_X9_tick {p : Program} {l : Launch} {e : Env} {R : Room} {s : State} {m : MethodId} {args : Array Value} {below : List Frame} {meth : Method} {c : Code} {H : Heap} {locs : List Loc} {cells slots : Nat} {Q : State → Prop} {cc : ByteArray} {pc nL : Nat} {ls : Array Slot} {rest : List Value} {G : GT} {S : St} {own : String} {p1 : Int64} {post : Int32 → St → Prop} {lv : List (Nat × Value)} {idx : Nat} (F : CX p m c cc nL s args own) (hw : WW G S s H locs) (hl : lv_has ls nL lv) {a0 : Nat} (hA0 : AtO S 8 0 a0) (hQ : wp_X9_tick p1 S post) (h1 : Cond.methodLink own idx yX9_tick ∈ wT) (hR1 : 4 + 1 ≤ R.frames) (hR2 : 8 + (5 + 11) + 101 ≤ R.locals) (hrest : (rest.map fun v => v.category).sum ≤ 8) (hdg : decode cc pc = .ok (.invokevirtual idx, 3)) (hf1 : cells + 0 ≤ R.cells) (hf2 : slots + 0 ≤ R.slots)
    (kk : ∀ (r : Int32) (S1 : St) (H1 : Heap) (locs1 : List Loc), post r S1 → WW G S1 s H1 locs1 → Ext S S1 → W p l e R s m args below meth c H1 locs1 (cells + 0) (slots + 0) Q (F0 m (pc + 3) ls (.int r :: rest))) : W p l e R s m args below meth c H locs cells slots Q (F0 m pc ls (.long p1 :: .ref a0 :: rest)) :=
  cl_i (rn_V (n := 1) (As := [.long p1]) (q := (RX9, TX9, 36)) F hw hl (m_X9_tick l G p1 S a0 hA0 post hQ) 8 (by decide) (by decide) hA0 rfl rfl h1 twi_yX9_tick tws_yX9_tick twn_RX9 two_yX9_tick rfl rfl ⟨rfl, by decide, by decide, by decide +kernel⟩ rfl ⟨hR1, hR2⟩ rfl hrest hdg ⟨hf1, hf2⟩) hw kk
-- X9_tie
def bd_X9_tie_19 (p1 : Int32) (post : Int32 → St → Prop) (K19 : Int32 → Int32 → St → Prop) (x4_19 : Int32) (x3_19 : Int32) (S3 : St) : Prop :=
  ((gi S3 8 0 12) ≤ x4_19 →
  post (-1 : Int32) S3) ∧
  (¬ (gi S3 8 0 12) ≤ x4_19 →
  vp_in p1 60 ∧
  (¬ (((gi S3 27 0 p1.toNatClampNeg) >>> (x4_19 &&& 31)) &&& (1 : Int32)) = (1 : Int32) →
  ∀ v5 : Int32, v5 = x4_19 + (1 : Int32) →
  K19 v5 x3_19 S3) ∧
  ((((gi S3 27 0 p1.toNatClampNeg) >>> (x4_19 &&& 31)) &&& (1 : Int32)) = (1 : Int32) →
  (¬ x3_19 = 0 →
  ∀ v6 : Int32, v6 = x3_19 + (-1 : Int32) →
  ∀ v7 : Int32, v7 = x4_19 + (1 : Int32) →
  K19 v7 v6 S3) ∧
  (x3_19 = 0 →
  post x4_19 S3)))
def lp_X9_tie_19 (p1 : Int32) (post : Int32 → St → Prop) : Nat → Int32 → Int32 → St → Prop
  | 0, _, _, _ => False
  | n + 1, x4_19, x3_19, S3 => bd_X9_tie_19 p1 post (fun x4_19 x3_19 S3 => lp_X9_tie_19 p1 post n x4_19 x3_19 S3) x4_19 x3_19 S3
def wp_X9_tie (p1 : Int32) (p2 : Int32) (S0 : St) (post : Int32 → St → Prop) : Prop :=
  wp_X9_isLot p1 S0 (fun r2 S1 =>
  (r2 = 0 →
  post (-1 : Int32) S1) ∧
  (¬ r2 = 0 →
  (0 ≤ p2 →
  ∃ n : Nat, lp_X9_tie_19 p1 post n (0 : Int32) p2 S1) ∧
  (¬ 0 ≤ p2 →
  post (-1 : Int32) S1)))
set_option maxRecDepth 100000 in
set_option maxHeartbeats 4000000 in
theorem m_X9_tie (l : Launch) (G : GT) (p1 : Int32) (p2 : Int32) (S0 : St) (a0 : Nat) (hA0 : AtO S0 8 0 a0) (post : Int32 → St → Prop) (hQ : wp_X9_tie p1 p2 S0 post) : Met l yX9_tie (wM yX9_tie cX9_tie 5 (some (FieldType.int))) ({ frames := 1, cells := 0, slots := 0, locals := 21 } : Room) (PC G S0 [.ref a0, .int p1, .int p2]) (QI G S0 post) 0 0 (QA G) := by
  refine mt_start RX9 (by decide) rfl (Nat.le_of_ble_eq_true rfl) ?_
  intro p e s m args below meth c ls F hr hlk hnm hw hl
  have hx := F.1
  have hb := F.2.1
  have hown := F.2.2.2.1
  have hts := F.2.2.2.2
  have hX : Ext S0 S0 := Ext.rf
  have hsz0 := hw.1.1.1
  have hl : lv_has ls 5 [(0, .ref a0), (1, .int p1), (2, .int p2)] := hl
  unfold wp_X9_tie at hQ
  refine lv_aload_n hx hb dX9_tie_0 rfl (lv_at hl 0 rfl) ?_
  refine lv_iload_n hx hb dX9_tie_1 rfl (lv_at hl 1 rfl) ?_
  refine k_X9_isLot F hw hl hA0 hQ twm_RX9_119 (Nat.le_of_ble_eq_true rfl) (Nat.le_of_ble_eq_true rfl) (Nat.le_of_ble_eq_true rfl) dX9_tie_2 (show 0 + 0 ≤ 0 from by omega) (show 0 + 0 ≤ 0 from by omega) (fun r2 S1 H locs hQ hw hx1 => ?_)
  have hX := hX.trans hx1
  have hA0 := hA0.ext hx1
  refine lv_if_eq (tgt := 12) hx hb dX9_tie_5 (by decide) (fun hc => ?_) (fun hc => ?_)
  · have hQ := hQ.1 hc
    refine lv_iconst (v := -1) hx hb dX9_tie_12 (by decide) ?_
    exact rt_i F hr hlk hw hX hQ (show (0 + 0) ≤ 0 from by omega) (show (0 + 0) ≤ 0 from by omega) dX9_tie_13
  · have hQ := hQ.2 hc
    refine lv_iload_n hx hb dX9_tie_8 rfl (lv_at hl 2 rfl) ?_
    refine lv_if_ge (tgt := 14) hx hb dX9_tie_9 (by decide) (fun hc => ?_) (fun hc => ?_)
    · have hQ := hQ.1 hc
      refine lv_iload_n hx hb dX9_tie_14 rfl (lv_at hl 2 rfl) ?_
      refine lv_istore_n (lv' := [(3, .int p2), (0, .ref a0), (1, .int p1), (2, .int p2)]) hx hb dX9_tie_15 rfl hl (by decide) rfl (fun ls hl => ?_)
      refine lv_iconst (v := 0) hx hb dX9_tie_16 (by decide) ?_
      refine lv_istore (lv' := [(4, .int (0 : Int32)), (3, .int p2), (0, .ref a0), (1, .int p1), (2, .int p2)]) hx hb dX9_tie_17 hl (by decide) rfl (fun ls hl => ?_)
      have hloop19 : ∀ (n19 : Nat) (x4_19 : Int32) (x3_19 : Int32) (S3 : St) (H : Heap) (locs : List Loc) (ls : Array Slot) (cl19 sl19 : Nat), lp_X9_tie_19 p1 post n19 x4_19 x3_19 S3 → WW G S3 s H locs → Ext S0 S3 → AtO S3 8 0 a0 → lv_has ls 5 [(4, .int x4_19), (3, .int x3_19), (0, .ref a0), (1, .int p1)] → cl19 ≤ (0 + 0) + 0 → sl19 ≤ (0 + 0) + 0 → W p l e ({ frames := 1, cells := 0, slots := 0, locals := 21 } : Room) s m args below meth c H locs cl19 sl19 (MQ below (QI G S0 post) args s 0 0 (QA G)) (F0 m 19 ls []) := by
        intro n19
        induction n19 with
        | zero => intro x4_19 x3_19 S3 H locs ls cl sl hQ; exact False.elim hQ
        | succ n19 ih19 =>
          intro x4_19 x3_19 S3 H locs ls cl19 sl19 hQ hw hX hA0 hl hcl19 hsl19
          have hQ : bd_X9_tie_19 p1 post (fun x4_19 x3_19 S3 => lp_X9_tie_19 p1 post n19 x4_19 x3_19 S3) x4_19 x3_19 S3 := hQ
          unfold bd_X9_tie_19 at hQ
          refine lv_iload hx hb dX9_tie_19 (lv_at hl 0 rfl) ?_
          refine lv_aload_n hx hb dX9_tie_21 rfl (lv_at hl 2 rfl) ?_
          refine g_8_12 F hw hA0 twf_RX9_85 dX9_tie_22 ?_
          refine lv_icmp_ge (tgt := 59) hx hb dX9_tie_25 (by decide) (fun hc => ?_) (fun hc => ?_)
          · have hQ := hQ.1 hc
            refine lv_iconst (v := -1) hx hb dX9_tie_59 (by decide) ?_
            exact rt_i F hr hlk hw hX hQ (show cl19 ≤ 0 from by omega) (show sl19 ≤ 0 from by omega) dX9_tie_60
          · have hQ := hQ.2 hc
            refine lv_aload_n hx hb dX9_tie_28 rfl (lv_at hl 2 rfl) ?_
            refine g_8_11 F hw hA0 twf_RX9_42 dX9_tie_29 (fun a4 hA4 => ?_)
            refine lv_iload_n hx hb dX9_tie_32 rfl (lv_at hl 3 rfl) ?_
            obtain ⟨hin, hQ⟩ := hQ
            refine al_27 F hw hA4 hin dX9_tie_33 ?_
            refine lv_iload hx hb dX9_tie_34 (lv_at hl 0 rfl) ?_
            refine lv_ishr hx hb dX9_tie_36 ?_
            refine lv_iconst (v := 1) hx hb dX9_tie_37 (by decide) ?_
            refine lv_iand hx hb dX9_tie_38 ?_
            refine lv_iconst (v := 1) hx hb dX9_tie_39 (by decide) ?_
            refine lv_icmp_ne (tgt := 53) hx hb dX9_tie_40 (by decide) (fun hc => ?_) (fun hc => ?_)
            · have hQ := hQ.1 hc
              obtain ⟨v5, ev5⟩ : ∃ y : Int32, y = x4_19 + (1 : Int32) := ⟨_, rfl⟩
              have hQ := hQ v5 ev5
              refine lv_iinc (v := v5) (lv' := [(4, .int v5), (3, .int x3_19), (0, .ref a0), (1, .int p1)]) hx hb dX9_tie_53 hl (k := 0) rfl (by rw [ev5]; rfl) (by decide) rfl (fun ls hl => ?_)
              refine lv_goto (tgt := 19) hx hb dX9_tie_56 (by decide) ?_
              exact ih19 v5 x3_19 S3 _ _ _ _ _ hQ hw hX hA0 (lv_sub hl [0, 1, 2, 3] rfl) (by omega) (by omega)
            · have hQ := hQ.2 hc
              refine lv_iload_n hx hb dX9_tie_43 rfl (lv_at hl 1 rfl) ?_
              refine lv_if_ne (tgt := 50) hx hb dX9_tie_44 (by decide) (fun hc => ?_) (fun hc => ?_)
              · have hQ := hQ.1 hc
                obtain ⟨v6, ev6⟩ : ∃ y : Int32, y = x3_19 + (-1 : Int32) := ⟨_, rfl⟩
                have hQ := hQ v6 ev6
                refine lv_iinc (v := v6) (lv' := [(3, .int v6), (4, .int x4_19), (0, .ref a0), (1, .int p1)]) hx hb dX9_tie_50 hl (k := 1) rfl (by rw [ev6]; rfl) (by decide) rfl (fun ls hl => ?_)
                obtain ⟨v7, ev7⟩ : ∃ y : Int32, y = x4_19 + (1 : Int32) := ⟨_, rfl⟩
                have hQ := hQ v7 ev7
                refine lv_iinc (v := v7) (lv' := [(4, .int v7), (3, .int v6), (0, .ref a0), (1, .int p1)]) hx hb dX9_tie_53 hl (k := 1) rfl (by rw [ev7]; rfl) (by decide) rfl (fun ls hl => ?_)
                refine lv_goto (tgt := 19) hx hb dX9_tie_56 (by decide) ?_
                exact ih19 v7 v6 S3 _ _ _ _ _ hQ hw hX hA0 (lv_sub hl [0, 1, 2, 3] rfl) (by omega) (by omega)
              · have hQ := hQ.2 hc
                refine lv_iload hx hb dX9_tie_47 (lv_at hl 0 rfl) ?_
                exact rt_i F hr hlk hw hX hQ (show cl19 ≤ 0 from by omega) (show sl19 ≤ 0 from by omega) dX9_tie_49
      obtain ⟨n, hQ⟩ := hQ
      exact hloop19 n (0 : Int32) p2 S1 _ _ _ _ _ hQ hw hX hA0 (lv_sub hl [0, 1, 2, 3] rfl) (by omega) (by omega)
    · have hQ := hQ.2 hc
      refine lv_iconst (v := -1) hx hb dX9_tie_12 (by decide) ?_
      exact rt_i F hr hlk hw hX hQ (show (0 + 0) ≤ 0 from by omega) (show (0 + 0) ≤ 0 from by omega) dX9_tie_13
theorem k_X9_tie {p : Program} {l : Launch} {e : Env} {R : Room} {s : State} {m : MethodId} {args : Array Value} {below : List Frame} {meth : Method} {c : Code} {H : Heap} {locs : List Loc} {cells slots : Nat} {Q : State → Prop} {cc : ByteArray} {pc nL : Nat} {ls : Array Slot} {rest : List Value} {G : GT} {S : St} {own : String} {p1 : Int32} {p2 : Int32} {post : Int32 → St → Prop} {lv : List (Nat × Value)} {idx : Nat} (F : CX p m c cc nL s args own) (hw : WW G S s H locs) (hl : lv_has ls nL lv) {a0 : Nat} (hA0 : AtO S 8 0 a0) (hQ : wp_X9_tie p1 p2 S post) (h1 : Cond.methodLink own idx yX9_tie ∈ wT) (hR1 : 1 + 1 ≤ R.frames) (hR2 : 8 + (5 + 11) + 21 ≤ R.locals) (hrest : (rest.map fun v => v.category).sum ≤ 8) (hdg : decode cc pc = .ok (.invokevirtual idx, 3)) (hf1 : cells + 0 ≤ R.cells) (hf2 : slots + 0 ≤ R.slots)
    (kk : ∀ (r : Int32) (S1 : St) (H1 : Heap) (locs1 : List Loc), post r S1 → WW G S1 s H1 locs1 → Ext S S1 → W p l e R s m args below meth c H1 locs1 (cells + 0) (slots + 0) Q (F0 m (pc + 3) ls (.int r :: rest))) : W p l e R s m args below meth c H locs cells slots Q (F0 m pc ls (.int p2 :: .int p1 :: .ref a0 :: rest)) :=
  cl_i (rn_V (n := 2) (As := [.int p1, .int p2]) (q := (RX9, TX9, 36)) F hw hl (m_X9_tie l G p1 p2 S a0 hA0 post hQ) 8 (by decide) (by decide) hA0 rfl rfl h1 twi_yX9_tie tws_yX9_tie twn_RX9 two_yX9_tie rfl rfl ⟨rfl, by decide, by decide, by decide +kernel⟩ rfl ⟨hR1, hR2⟩ rfl hrest hdg ⟨hf1, hf2⟩) hw kk
-- X9_isBought
def wp_X9_isBought (p1 : Int32) (S0 : St) (post : Int32 → St → Prop) : Prop :=
  wp_X9_isLot p1 S0 (fun r2 S1 =>
  (r2 = 0 →
  post (0 : Int32) S1) ∧
  (¬ r2 = 0 →
  vp_in p1 60 ∧
  ((gi S1 20 0 p1.toNatClampNeg) = (3 : Int32) →
  post (1 : Int32) S1) ∧
  (¬ (gi S1 20 0 p1.toNatClampNeg) = (3 : Int32) →
  vp_in p1 60 ∧
  (¬ (gi S1 20 0 p1.toNatClampNeg) = (2 : Int32) →
  post (0 : Int32) S1) ∧
  ((gi S1 20 0 p1.toNatClampNeg) = (2 : Int32) →
  post (1 : Int32) S1))))
set_option maxRecDepth 100000 in
set_option maxHeartbeats 4000000 in
theorem m_X9_isBought (l : Launch) (G : GT) (p1 : Int32) (S0 : St) (a0 : Nat) (hA0 : AtO S0 8 0 a0) (post : Int32 → St → Prop) (hQ : wp_X9_isBought p1 S0 post) : Met l yX9_isBought (wM yX9_isBought cX9_isBought 2 (some (FieldType.boolean))) ({ frames := 1, cells := 0, slots := 0, locals := 21 } : Room) (PC G S0 [.ref a0, .int p1]) (QI G S0 post) 0 0 (QA G) := by
  refine mt_start RX9 (by decide) rfl (Nat.le_of_ble_eq_true rfl) ?_
  intro p e s m args below meth c ls F hr hlk hnm hw hl
  have hx := F.1
  have hb := F.2.1
  have hown := F.2.2.2.1
  have hts := F.2.2.2.2
  have hX : Ext S0 S0 := Ext.rf
  have hsz0 := hw.1.1.1
  have hl : lv_has ls 2 [(0, .ref a0), (1, .int p1)] := hl
  unfold wp_X9_isBought at hQ
  refine lv_aload_n hx hb dX9_isBought_0 rfl (lv_at hl 0 rfl) ?_
  refine lv_iload_n hx hb dX9_isBought_1 rfl (lv_at hl 1 rfl) ?_
  refine k_X9_isLot F hw hl hA0 hQ twm_RX9_119 (Nat.le_of_ble_eq_true rfl) (Nat.le_of_ble_eq_true rfl) (Nat.le_of_ble_eq_true rfl) dX9_isBought_2 (show 0 + 0 ≤ 0 from by omega) (show 0 + 0 ≤ 0 from by omega) (fun r2 S1 H locs hQ hw hx1 => ?_)
  have hX := hX.trans hx1
  have hA0 := hA0.ext hx1
  refine lv_if_eq (tgt := 32) hx hb dX9_isBought_5 (by decide) (fun hc => ?_) (fun hc => ?_)
  · have hQ := hQ.1 hc
    refine lv_iconst (v := 0) hx hb dX9_isBought_32 (by decide) ?_
    exact rt_z F hr hlk hw hX hQ rfl (show (0 + 0) ≤ 0 from by omega) (show (0 + 0) ≤ 0 from by omega) dX9_isBought_33
  · have hQ := hQ.2 hc
    refine lv_aload_n hx hb dX9_isBought_8 rfl (lv_at hl 0 rfl) ?_
    refine g_8_4 F hw hA0 twf_RX9_20 dX9_isBought_9 (fun a3 hA3 => ?_)
    refine lv_iload_n hx hb dX9_isBought_12 rfl (lv_at hl 1 rfl) ?_
    obtain ⟨hin, hQ⟩ := hQ
    refine al_20 F hw hA3 hin dX9_isBought_13 ?_
    refine lv_iconst (v := 3) hx hb dX9_isBought_14 (by decide) ?_
    refine lv_icmp_eq (tgt := 28) hx hb dX9_isBought_15 (by decide) (fun hc => ?_) (fun hc => ?_)
    · have hQ := hQ.1 hc
      refine lv_iconst (v := 1) hx hb dX9_isBought_28 (by decide) ?_
      refine lv_goto (tgt := 33) hx hb dX9_isBought_29 (by decide) ?_
      exact rt_z F hr hlk hw hX hQ rfl (show (0 + 0) ≤ 0 from by omega) (show (0 + 0) ≤ 0 from by omega) dX9_isBought_33
    · have hQ := hQ.2 hc
      refine lv_aload_n hx hb dX9_isBought_18 rfl (lv_at hl 0 rfl) ?_
      refine g_8_4 F hw hA0 twf_RX9_20 dX9_isBought_19 (fun a4 hA4 => ?_)
      refine lv_iload_n hx hb dX9_isBought_22 rfl (lv_at hl 1 rfl) ?_
      obtain ⟨hin, hQ⟩ := hQ
      refine al_20 F hw hA4 hin dX9_isBought_23 ?_
      refine lv_iconst (v := 2) hx hb dX9_isBought_24 (by decide) ?_
      refine lv_icmp_ne (tgt := 32) hx hb dX9_isBought_25 (by decide) (fun hc => ?_) (fun hc => ?_)
      · have hQ := hQ.1 hc
        refine lv_iconst (v := 0) hx hb dX9_isBought_32 (by decide) ?_
        exact rt_z F hr hlk hw hX hQ rfl (show (0 + 0) ≤ 0 from by omega) (show (0 + 0) ≤ 0 from by omega) dX9_isBought_33
      · have hQ := hQ.2 hc
        refine lv_iconst (v := 1) hx hb dX9_isBought_28 (by decide) ?_
        refine lv_goto (tgt := 33) hx hb dX9_isBought_29 (by decide) ?_
        exact rt_z F hr hlk hw hX hQ rfl (show (0 + 0) ≤ 0 from by omega) (show (0 + 0) ≤ 0 from by omega) dX9_isBought_33
theorem k_X9_isBought {p : Program} {l : Launch} {e : Env} {R : Room} {s : State} {m : MethodId} {args : Array Value} {below : List Frame} {meth : Method} {c : Code} {H : Heap} {locs : List Loc} {cells slots : Nat} {Q : State → Prop} {cc : ByteArray} {pc nL : Nat} {ls : Array Slot} {rest : List Value} {G : GT} {S : St} {own : String} {p1 : Int32} {post : Int32 → St → Prop} {lv : List (Nat × Value)} {idx : Nat} (F : CX p m c cc nL s args own) (hw : WW G S s H locs) (hl : lv_has ls nL lv) {a0 : Nat} (hA0 : AtO S 8 0 a0) (hQ : wp_X9_isBought p1 S post) (h1 : Cond.methodLink own idx yX9_isBought ∈ wT) (hR1 : 1 + 1 ≤ R.frames) (hR2 : 8 + (2 + 11) + 21 ≤ R.locals) (hrest : (rest.map fun v => v.category).sum ≤ 8) (hdg : decode cc pc = .ok (.invokevirtual idx, 3)) (hf1 : cells + 0 ≤ R.cells) (hf2 : slots + 0 ≤ R.slots)
    (kk : ∀ (r : Int32) (S1 : St) (H1 : Heap) (locs1 : List Loc), post r S1 → WW G S1 s H1 locs1 → Ext S S1 → W p l e R s m args below meth c H1 locs1 (cells + 0) (slots + 0) Q (F0 m (pc + 3) ls (.int r :: rest))) : W p l e R s m args below meth c H locs cells slots Q (F0 m pc ls (.int p1 :: .ref a0 :: rest)) :=
  cl_i (rn_V (n := 1) (As := [.int p1]) (q := (RX9, TX9, 36)) F hw hl (m_X9_isBought l G p1 S a0 hA0 post hQ) 8 (by decide) (by decide) hA0 rfl rfl h1 twi_yX9_isBought tws_yX9_isBought twn_RX9 two_yX9_isBought rfl rfl ⟨rfl, by decide, by decide, by decide +kernel⟩ rfl ⟨hR1, hR2⟩ rfl hrest hdg ⟨hf1, hf2⟩) hw kk
-- X9_winner
def wp_X9_winner (p1 : Int32) (S0 : St) (post : Int32 → St → Prop) : Prop :=
  wp_X9_isBought p1 S0 (fun r2 S1 =>
  (r2 = 0 →
  post (-1 : Int32) S1) ∧
  (¬ r2 = 0 →
  vp_in p1 60 ∧
  post (gi S1 21 0 p1.toNatClampNeg) S1))
set_option maxRecDepth 100000 in
set_option maxHeartbeats 4000000 in
theorem m_X9_winner (l : Launch) (G : GT) (p1 : Int32) (S0 : St) (a0 : Nat) (hA0 : AtO S0 8 0 a0) (post : Int32 → St → Prop) (hQ : wp_X9_winner p1 S0 post) : Met l yX9_winner (wM yX9_winner cX9_winner 2 (some (FieldType.int))) ({ frames := 2, cells := 0, slots := 0, locals := 42 } : Room) (PC G S0 [.ref a0, .int p1]) (QI G S0 post) 0 0 (QA G) := by
  refine mt_start RX9 (by decide) rfl (Nat.le_of_ble_eq_true rfl) ?_
  intro p e s m args below meth c ls F hr hlk hnm hw hl
  have hx := F.1
  have hb := F.2.1
  have hown := F.2.2.2.1
  have hts := F.2.2.2.2
  have hX : Ext S0 S0 := Ext.rf
  have hsz0 := hw.1.1.1
  have hl : lv_has ls 2 [(0, .ref a0), (1, .int p1)] := hl
  unfold wp_X9_winner at hQ
  refine lv_aload_n hx hb dX9_winner_0 rfl (lv_at hl 0 rfl) ?_
  refine lv_iload_n hx hb dX9_winner_1 rfl (lv_at hl 1 rfl) ?_
  refine k_X9_isBought F hw hl hA0 hQ twm_RX9_181 (Nat.le_of_ble_eq_true rfl) (Nat.le_of_ble_eq_true rfl) (Nat.le_of_ble_eq_true rfl) dX9_winner_2 (show 0 + 0 ≤ 0 from by omega) (show 0 + 0 ≤ 0 from by omega) (fun r2 S1 H locs hQ hw hx1 => ?_)
  have hX := hX.trans hx1
  have hA0 := hA0.ext hx1
  refine lv_if_eq (tgt := 17) hx hb dX9_winner_5 (by decide) (fun hc => ?_) (fun hc => ?_)
  · have hQ := hQ.1 hc
    refine lv_iconst (v := -1) hx hb dX9_winner_17 (by decide) ?_
    exact rt_i F hr hlk hw hX hQ (show (0 + 0) ≤ 0 from by omega) (show (0 + 0) ≤ 0 from by omega) dX9_winner_18
  · have hQ := hQ.2 hc
    refine lv_aload_n hx hb dX9_winner_8 rfl (lv_at hl 0 rfl) ?_
    refine g_8_5 F hw hA0 twf_RX9_23 dX9_winner_9 (fun a3 hA3 => ?_)
    refine lv_iload_n hx hb dX9_winner_12 rfl (lv_at hl 1 rfl) ?_
    obtain ⟨hin, hQ⟩ := hQ
    refine al_21 F hw hA3 hin dX9_winner_13 ?_
    refine lv_goto (tgt := 18) hx hb dX9_winner_14 (by decide) ?_
    exact rt_i F hr hlk hw hX hQ (show (0 + 0) ≤ 0 from by omega) (show (0 + 0) ≤ 0 from by omega) dX9_winner_18
theorem k_X9_winner {p : Program} {l : Launch} {e : Env} {R : Room} {s : State} {m : MethodId} {args : Array Value} {below : List Frame} {meth : Method} {c : Code} {H : Heap} {locs : List Loc} {cells slots : Nat} {Q : State → Prop} {cc : ByteArray} {pc nL : Nat} {ls : Array Slot} {rest : List Value} {G : GT} {S : St} {own : String} {p1 : Int32} {post : Int32 → St → Prop} {lv : List (Nat × Value)} {idx : Nat} (F : CX p m c cc nL s args own) (hw : WW G S s H locs) (hl : lv_has ls nL lv) {a0 : Nat} (hA0 : AtO S 8 0 a0) (hQ : wp_X9_winner p1 S post) (h1 : Cond.methodLink own idx yX9_winner ∈ wT) (hR1 : 2 + 1 ≤ R.frames) (hR2 : 8 + (2 + 11) + 42 ≤ R.locals) (hrest : (rest.map fun v => v.category).sum ≤ 8) (hdg : decode cc pc = .ok (.invokevirtual idx, 3)) (hf1 : cells + 0 ≤ R.cells) (hf2 : slots + 0 ≤ R.slots)
    (kk : ∀ (r : Int32) (S1 : St) (H1 : Heap) (locs1 : List Loc), post r S1 → WW G S1 s H1 locs1 → Ext S S1 → W p l e R s m args below meth c H1 locs1 (cells + 0) (slots + 0) Q (F0 m (pc + 3) ls (.int r :: rest))) : W p l e R s m args below meth c H locs cells slots Q (F0 m pc ls (.int p1 :: .ref a0 :: rest)) :=
  cl_i (rn_V (n := 1) (As := [.int p1]) (q := (RX9, TX9, 36)) F hw hl (m_X9_winner l G p1 S a0 hA0 post hQ) 8 (by decide) (by decide) hA0 rfl rfl h1 twi_yX9_winner tws_yX9_winner twn_RX9 two_yX9_winner rfl rfl ⟨rfl, by decide, by decide, by decide +kernel⟩ rfl ⟨hR1, hR2⟩ rfl hrest hdg ⟨hf1, hf2⟩) hw kk
-- X9_price
def wp_X9_price (p1 : Int32) (S0 : St) (post : Int64 → St → Prop) : Prop :=
  wp_X9_isBought p1 S0 (fun r2 S1 =>
  (r2 = 0 →
  post (-1 : Int64) S1) ∧
  (¬ r2 = 0 →
  vp_in p1 60 ∧
  post (gj S1 22 0 p1.toNatClampNeg) S1))
set_option maxRecDepth 100000 in
set_option maxHeartbeats 4000000 in
theorem m_X9_price (l : Launch) (G : GT) (p1 : Int32) (S0 : St) (a0 : Nat) (hA0 : AtO S0 8 0 a0) (post : Int64 → St → Prop) (hQ : wp_X9_price p1 S0 post) : Met l yX9_price (wM yX9_price cX9_price 2 (some (FieldType.long))) ({ frames := 2, cells := 0, slots := 0, locals := 42 } : Room) (PC G S0 [.ref a0, .int p1]) (QJ G S0 post) 0 0 (QA G) := by
  refine mt_start RX9 (by decide) rfl (Nat.le_of_ble_eq_true rfl) ?_
  intro p e s m args below meth c ls F hr hlk hnm hw hl
  have hx := F.1
  have hb := F.2.1
  have hown := F.2.2.2.1
  have hts := F.2.2.2.2
  have hX : Ext S0 S0 := Ext.rf
  have hsz0 := hw.1.1.1
  have hl : lv_has ls 2 [(0, .ref a0), (1, .int p1)] := hl
  unfold wp_X9_price at hQ
  refine lv_aload_n hx hb dX9_price_0 rfl (lv_at hl 0 rfl) ?_
  refine lv_iload_n hx hb dX9_price_1 rfl (lv_at hl 1 rfl) ?_
  refine k_X9_isBought F hw hl hA0 hQ twm_RX9_181 (Nat.le_of_ble_eq_true rfl) (Nat.le_of_ble_eq_true rfl) (Nat.le_of_ble_eq_true rfl) dX9_price_2 (show 0 + 0 ≤ 0 from by omega) (show 0 + 0 ≤ 0 from by omega) (fun r2 S1 H locs hQ hw hx1 => ?_)
  have hX := hX.trans hx1
  have hA0 := hA0.ext hx1
  refine lv_if_eq (tgt := 17) hx hb dX9_price_5 (by decide) (fun hc => ?_) (fun hc => ?_)
  · have hQ := hQ.1 hc
    refine lv_ldc2 (v := -1) hx hb hown (hts _ twl_RX9_117) dX9_price_17 ?_
    exact rt_l F hr hlk hw hX hQ (show (0 + 0) ≤ 0 from by omega) (show (0 + 0) ≤ 0 from by omega) dX9_price_20
  · have hQ := hQ.2 hc
    refine lv_aload_n hx hb dX9_price_8 rfl (lv_at hl 0 rfl) ?_
    refine g_8_6 F hw hA0 twf_RX9_26 dX9_price_9 (fun a3 hA3 => ?_)
    refine lv_iload_n hx hb dX9_price_12 rfl (lv_at hl 1 rfl) ?_
    obtain ⟨hin, hQ⟩ := hQ
    refine al_22 F hw hA3 hin dX9_price_13 ?_
    refine lv_goto (tgt := 20) hx hb dX9_price_14 (by decide) ?_
    exact rt_l F hr hlk hw hX hQ (show (0 + 0) ≤ 0 from by omega) (show (0 + 0) ≤ 0 from by omega) dX9_price_20
theorem k_X9_price {p : Program} {l : Launch} {e : Env} {R : Room} {s : State} {m : MethodId} {args : Array Value} {below : List Frame} {meth : Method} {c : Code} {H : Heap} {locs : List Loc} {cells slots : Nat} {Q : State → Prop} {cc : ByteArray} {pc nL : Nat} {ls : Array Slot} {rest : List Value} {G : GT} {S : St} {own : String} {p1 : Int32} {post : Int64 → St → Prop} {lv : List (Nat × Value)} {idx : Nat} (F : CX p m c cc nL s args own) (hw : WW G S s H locs) (hl : lv_has ls nL lv) {a0 : Nat} (hA0 : AtO S 8 0 a0) (hQ : wp_X9_price p1 S post) (h1 : Cond.methodLink own idx yX9_price ∈ wT) (hR1 : 2 + 1 ≤ R.frames) (hR2 : 8 + (2 + 11) + 42 ≤ R.locals) (hrest : (rest.map fun v => v.category).sum ≤ 8) (hdg : decode cc pc = .ok (.invokevirtual idx, 3)) (hf1 : cells + 0 ≤ R.cells) (hf2 : slots + 0 ≤ R.slots)
    (kk : ∀ (r : Int64) (S1 : St) (H1 : Heap) (locs1 : List Loc), post r S1 → WW G S1 s H1 locs1 → Ext S S1 → W p l e R s m args below meth c H1 locs1 (cells + 0) (slots + 0) Q (F0 m (pc + 3) ls (.long r :: rest))) : W p l e R s m args below meth c H locs cells slots Q (F0 m pc ls (.int p1 :: .ref a0 :: rest)) :=
  cl_l (rn_V (n := 1) (As := [.int p1]) (q := (RX9, TX9, 36)) F hw hl (m_X9_price l G p1 S a0 hA0 post hQ) 8 (by decide) (by decide) hA0 rfl rfl h1 twi_yX9_price tws_yX9_price twn_RX9 two_yX9_price rfl rfl ⟨rfl, by decide, by decide, by decide +kernel⟩ rfl ⟨hR1, hR2⟩ rfl hrest hdg ⟨hf1, hf2⟩) hw kk

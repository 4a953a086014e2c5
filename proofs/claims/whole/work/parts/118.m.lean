-- X9_rise
def wp_X9_rise (p1 : Int32) (p2 : Int32) (p3 : Int64) (S0 : St) (post : Int32 → St → Prop) : Prop :=
  wp_X9_isLot p1 S0 (fun r2 S1 =>
  (r2 = 0 →
  post (1 : Int32) S1) ∧
  (¬ r2 = 0 →
  wp_X9_isBuyer p2 S1 (fun r4 S3 =>
  (¬ r4 = 0 →
  vp_in p1 60 ∧
  ((gi S3 20 0 p1.toNatClampNeg) = 0 →
  vp_in p1 60 ∧
  ∀ v7 : Int64, v7 = gj S3 19 0 p1.toNatClampNeg →
  vp_in p1 60 ∧
  (¬ (gi S3 20 0 p1.toNatClampNeg) = (2 : Int32) →
  (v7 ≤ p3 →
  wp_X9_free p2 S3 (fun r10 S9 =>
  (p3 ≤ (r10 + (0 : Int64)) →
  vp_in p1 60 ∧
  ∀ S12 : St, S12 = si S9 20 0 p1.toNatClampNeg (2 : Int32) →
  vp_in p1 60 ∧
  ∀ S14 : St, S14 = si S12 21 0 p1.toNatClampNeg p2 →
  vp_in p1 60 ∧
  ∀ S16 : St, S16 = sj S14 22 0 p1.toNatClampNeg p3 →
  vp_in p1 60 ∧
  ∀ S18 : St, S18 = sj S16 26 0 p1.toNatClampNeg (gj S16 8 0 16) →
  post (0 : Int32) S18) ∧
  (¬ p3 ≤ (r10 + (0 : Int64)) →
  post (4 : Int32) S9))) ∧
  (¬ v7 ≤ p3 →
  post (3 : Int32) S3)) ∧
  ((gi S3 20 0 p1.toNatClampNeg) = (2 : Int32) →
  vp_in p1 60 ∧
  ∀ v20 : Int64, v20 = (gj S3 22 0 p1.toNatClampNeg) / (20 : Int64) →
  vp_in p1 60 ∧
  ((1 : Int64) ≤ v20 →
  ∀ v22 : Int64, v22 = (gj S3 22 0 p1.toNatClampNeg) + v20 →
  vp_in p1 60 ∧
  (¬ (gi S3 21 0 p1.toNatClampNeg) = p2 →
  (v22 ≤ p3 →
  wp_X9_free p2 S3 (fun r25 S24 =>
  (p3 ≤ (r25 + (0 : Int64)) →
  vp_in p1 60 ∧
  ∀ S27 : St, S27 = si S24 20 0 p1.toNatClampNeg (2 : Int32) →
  vp_in p1 60 ∧
  ∀ S29 : St, S29 = si S27 21 0 p1.toNatClampNeg p2 →
  vp_in p1 60 ∧
  ∀ S31 : St, S31 = sj S29 22 0 p1.toNatClampNeg p3 →
  vp_in p1 60 ∧
  ∀ S33 : St, S33 = sj S31 26 0 p1.toNatClampNeg (gj S31 8 0 16) →
  post (0 : Int32) S33) ∧
  (¬ p3 ≤ (r25 + (0 : Int64)) →
  post (4 : Int32) S24))) ∧
  (¬ v22 ≤ p3 →
  post (3 : Int32) S3)) ∧
  ((gi S3 21 0 p1.toNatClampNeg) = p2 →
  vp_in p1 60 ∧
  ∀ v35 : Int64, v35 = gj S3 22 0 p1.toNatClampNeg →
  (v22 ≤ p3 →
  wp_X9_free p2 S3 (fun r37 S36 =>
  (p3 ≤ (r37 + v35) →
  vp_in p1 60 ∧
  ∀ S39 : St, S39 = si S36 20 0 p1.toNatClampNeg (2 : Int32) →
  vp_in p1 60 ∧
  ∀ S41 : St, S41 = si S39 21 0 p1.toNatClampNeg p2 →
  vp_in p1 60 ∧
  ∀ S43 : St, S43 = sj S41 22 0 p1.toNatClampNeg p3 →
  vp_in p1 60 ∧
  ∀ S45 : St, S45 = sj S43 26 0 p1.toNatClampNeg (gj S43 8 0 16) →
  post (0 : Int32) S45) ∧
  (¬ p3 ≤ (r37 + v35) →
  post (4 : Int32) S36))) ∧
  (¬ v22 ≤ p3 →
  post (3 : Int32) S3))) ∧
  (¬ (1 : Int64) ≤ v20 →
  ∀ v46 : Int64, v46 = (gj S3 22 0 p1.toNatClampNeg) + (1 : Int64) →
  vp_in p1 60 ∧
  (¬ (gi S3 21 0 p1.toNatClampNeg) = p2 →
  (v46 ≤ p3 →
  wp_X9_free p2 S3 (fun r49 S48 =>
  (p3 ≤ (r49 + (0 : Int64)) →
  vp_in p1 60 ∧
  ∀ S51 : St, S51 = si S48 20 0 p1.toNatClampNeg (2 : Int32) →
  vp_in p1 60 ∧
  ∀ S53 : St, S53 = si S51 21 0 p1.toNatClampNeg p2 →
  vp_in p1 60 ∧
  ∀ S55 : St, S55 = sj S53 22 0 p1.toNatClampNeg p3 →
  vp_in p1 60 ∧
  ∀ S57 : St, S57 = sj S55 26 0 p1.toNatClampNeg (gj S55 8 0 16) →
  post (0 : Int32) S57) ∧
  (¬ p3 ≤ (r49 + (0 : Int64)) →
  post (4 : Int32) S48))) ∧
  (¬ v46 ≤ p3 →
  post (3 : Int32) S3)) ∧
  ((gi S3 21 0 p1.toNatClampNeg) = p2 →
  vp_in p1 60 ∧
  ∀ v59 : Int64, v59 = gj S3 22 0 p1.toNatClampNeg →
  (v46 ≤ p3 →
  wp_X9_free p2 S3 (fun r61 S60 =>
  (p3 ≤ (r61 + v59) →
  vp_in p1 60 ∧
  ∀ S63 : St, S63 = si S60 20 0 p1.toNatClampNeg (2 : Int32) →
  vp_in p1 60 ∧
  ∀ S65 : St, S65 = si S63 21 0 p1.toNatClampNeg p2 →
  vp_in p1 60 ∧
  ∀ S67 : St, S67 = sj S65 22 0 p1.toNatClampNeg p3 →
  vp_in p1 60 ∧
  ∀ S69 : St, S69 = sj S67 26 0 p1.toNatClampNeg (gj S67 8 0 16) →
  post (0 : Int32) S69) ∧
  (¬ p3 ≤ (r61 + v59) →
  post (4 : Int32) S60))) ∧
  (¬ v46 ≤ p3 →
  post (3 : Int32) S3))))) ∧
  (¬ (gi S3 20 0 p1.toNatClampNeg) = 0 →
  vp_in p1 60 ∧
  ((gi S3 20 0 p1.toNatClampNeg) = (2 : Int32) →
  vp_in p1 60 ∧
  ∀ v72 : Int64, v72 = gj S3 19 0 p1.toNatClampNeg →
  vp_in p1 60 ∧
  (¬ (gi S3 20 0 p1.toNatClampNeg) = (2 : Int32) →
  (v72 ≤ p3 →
  wp_X9_free p2 S3 (fun r75 S74 =>
  (p3 ≤ (r75 + (0 : Int64)) →
  vp_in p1 60 ∧
  ∀ S77 : St, S77 = si S74 20 0 p1.toNatClampNeg (2 : Int32) →
  vp_in p1 60 ∧
  ∀ S79 : St, S79 = si S77 21 0 p1.toNatClampNeg p2 →
  vp_in p1 60 ∧
  ∀ S81 : St, S81 = sj S79 22 0 p1.toNatClampNeg p3 →
  vp_in p1 60 ∧
  ∀ S83 : St, S83 = sj S81 26 0 p1.toNatClampNeg (gj S81 8 0 16) →
  post (0 : Int32) S83) ∧
  (¬ p3 ≤ (r75 + (0 : Int64)) →
  post (4 : Int32) S74))) ∧
  (¬ v72 ≤ p3 →
  post (3 : Int32) S3)) ∧
  ((gi S3 20 0 p1.toNatClampNeg) = (2 : Int32) →
  vp_in p1 60 ∧
  ∀ v85 : Int64, v85 = (gj S3 22 0 p1.toNatClampNeg) / (20 : Int64) →
  vp_in p1 60 ∧
  ((1 : Int64) ≤ v85 →
  ∀ v87 : Int64, v87 = (gj S3 22 0 p1.toNatClampNeg) + v85 →
  vp_in p1 60 ∧
  (¬ (gi S3 21 0 p1.toNatClampNeg) = p2 →
  (v87 ≤ p3 →
  wp_X9_free p2 S3 (fun r90 S89 =>
  (p3 ≤ (r90 + (0 : Int64)) →
  vp_in p1 60 ∧
  ∀ S92 : St, S92 = si S89 20 0 p1.toNatClampNeg (2 : Int32) →
  vp_in p1 60 ∧
  ∀ S94 : St, S94 = si S92 21 0 p1.toNatClampNeg p2 →
  vp_in p1 60 ∧
  ∀ S96 : St, S96 = sj S94 22 0 p1.toNatClampNeg p3 →
  vp_in p1 60 ∧
  ∀ S98 : St, S98 = sj S96 26 0 p1.toNatClampNeg (gj S96 8 0 16) →
  post (0 : Int32) S98) ∧
  (¬ p3 ≤ (r90 + (0 : Int64)) →
  post (4 : Int32) S89))) ∧
  (¬ v87 ≤ p3 →
  post (3 : Int32) S3)) ∧
  ((gi S3 21 0 p1.toNatClampNeg) = p2 →
  vp_in p1 60 ∧
  ∀ v100 : Int64, v100 = gj S3 22 0 p1.toNatClampNeg →
  (v87 ≤ p3 →
  wp_X9_free p2 S3 (fun r102 S101 =>
  (p3 ≤ (r102 + v100) →
  vp_in p1 60 ∧
  ∀ S104 : St, S104 = si S101 20 0 p1.toNatClampNeg (2 : Int32) →
  vp_in p1 60 ∧
  ∀ S106 : St, S106 = si S104 21 0 p1.toNatClampNeg p2 →
  vp_in p1 60 ∧
  ∀ S108 : St, S108 = sj S106 22 0 p1.toNatClampNeg p3 →
  vp_in p1 60 ∧
  ∀ S110 : St, S110 = sj S108 26 0 p1.toNatClampNeg (gj S108 8 0 16) →
  post (0 : Int32) S110) ∧
  (¬ p3 ≤ (r102 + v100) →
  post (4 : Int32) S101))) ∧
  (¬ v87 ≤ p3 →
  post (3 : Int32) S3))) ∧
  (¬ (1 : Int64) ≤ v85 →
  ∀ v111 : Int64, v111 = (gj S3 22 0 p1.toNatClampNeg) + (1 : Int64) →
  vp_in p1 60 ∧
  (¬ (gi S3 21 0 p1.toNatClampNeg) = p2 →
  (v111 ≤ p3 →
  wp_X9_free p2 S3 (fun r114 S113 =>
  (p3 ≤ (r114 + (0 : Int64)) →
  vp_in p1 60 ∧
  ∀ S116 : St, S116 = si S113 20 0 p1.toNatClampNeg (2 : Int32) →
  vp_in p1 60 ∧
  ∀ S118 : St, S118 = si S116 21 0 p1.toNatClampNeg p2 →
  vp_in p1 60 ∧
  ∀ S120 : St, S120 = sj S118 22 0 p1.toNatClampNeg p3 →
  vp_in p1 60 ∧
  ∀ S122 : St, S122 = sj S120 26 0 p1.toNatClampNeg (gj S120 8 0 16) →
  post (0 : Int32) S122) ∧
  (¬ p3 ≤ (r114 + (0 : Int64)) →
  post (4 : Int32) S113))) ∧
  (¬ v111 ≤ p3 →
  post (3 : Int32) S3)) ∧
  ((gi S3 21 0 p1.toNatClampNeg) = p2 →
  vp_in p1 60 ∧
  ∀ v124 : Int64, v124 = gj S3 22 0 p1.toNatClampNeg →
  (v111 ≤ p3 →
  wp_X9_free p2 S3 (fun r126 S125 =>
  (p3 ≤ (r126 + v124) →
  vp_in p1 60 ∧
  ∀ S128 : St, S128 = si S125 20 0 p1.toNatClampNeg (2 : Int32) →
  vp_in p1 60 ∧
  ∀ S130 : St, S130 = si S128 21 0 p1.toNatClampNeg p2 →
  vp_in p1 60 ∧
  ∀ S132 : St, S132 = sj S130 22 0 p1.toNatClampNeg p3 →
  vp_in p1 60 ∧
  ∀ S134 : St, S134 = sj S132 26 0 p1.toNatClampNeg (gj S132 8 0 16) →
  post (0 : Int32) S134) ∧
  (¬ p3 ≤ (r126 + v124) →
  post (4 : Int32) S125))) ∧
  (¬ v111 ≤ p3 →
  post (3 : Int32) S3))))) ∧
  (¬ (gi S3 20 0 p1.toNatClampNeg) = (2 : Int32) →
  post (2 : Int32) S3))) ∧
  (r4 = 0 →
  post (1 : Int32) S3))))
set_option maxRecDepth 100000 in
set_option maxHeartbeats 4000000 in
theorem m_X9_rise (l : Launch) (G : GT) (p1 : Int32) (p2 : Int32) (p3 : Int64) (S0 : St) (a0 : Nat) (hA0 : AtO S0 8 0 a0) (post : Int32 → St → Prop) (hQ : wp_X9_rise p1 p2 p3 S0 post) : Met l yX9_rise (wM yX9_rise cX9_rise 11 (some (FieldType.int))) ({ frames := 2, cells := 0, slots := 0, locals := 45 } : Room) (PC G S0 [.ref a0, .int p1, .int p2, .long p3]) (QI G S0 post) 0 0 (QA G) := by
  refine mt_start RX9 (by decide) rfl (Nat.le_of_ble_eq_true rfl) ?_
  intro p e s m args below meth c ls F hr hlk hnm hw hl
  have hx := F.1
  have hb := F.2.1
  have hown := F.2.2.2.1
  have hts := F.2.2.2.2
  have hX : Ext S0 S0 := Ext.rf
  have hsz0 := hw.1.1.1
  have hl : lv_has ls 11 [(0, .ref a0), (1, .int p1), (2, .int p2), (3, .long p3)] := hl
  unfold wp_X9_rise at hQ
  refine lv_aload_n hx hb dX9_rise_0 rfl (lv_at hl 0 rfl) ?_
  refine lv_iload_n hx hb dX9_rise_1 rfl (lv_at hl 1 rfl) ?_
  refine k_X9_isLot F hw hl hA0 hQ twm_RX9_119 (Nat.le_of_ble_eq_true rfl) (Nat.le_of_ble_eq_true rfl) (Nat.le_of_ble_eq_true rfl) dX9_rise_2 (show 0 + 0 ≤ 0 from by omega) (show 0 + 0 ≤ 0 from by omega) (fun r2 S1 H locs hQ hw hx1 => ?_)
  have hX := hX.trans hx1
  have hA0 := hA0.ext hx1
  refine lv_if_eq (tgt := 16) hx hb dX9_rise_5 (by decide) (fun hc => ?_) (fun hc => ?_)
  · have hQ := hQ.1 hc
    refine lv_iconst (v := 1) hx hb dX9_rise_16 (by decide) ?_
    exact rt_i F hr hlk hw hX hQ (show (0 + 0) ≤ 0 from by omega) (show (0 + 0) ≤ 0 from by omega) dX9_rise_17
  · have hQ := hQ.2 hc
    refine lv_aload_n hx hb dX9_rise_8 rfl (lv_at hl 0 rfl) ?_
    refine lv_iload_n hx hb dX9_rise_9 rfl (lv_at hl 2 rfl) ?_
    refine k_X9_isBuyer F hw hl hA0 hQ twm_RX9_150 (Nat.le_of_ble_eq_true rfl) (Nat.le_of_ble_eq_true rfl) (Nat.le_of_ble_eq_true rfl) dX9_rise_10 (show (0 + 0) + 0 ≤ 0 from by omega) (show (0 + 0) + 0 ≤ 0 from by omega) (fun r4 S3 H locs hQ hw hx1 => ?_)
    have hX := hX.trans hx1
    have hA0 := hA0.ext hx1
    refine lv_if_ne (tgt := 18) hx hb dX9_rise_13 (by decide) (fun hc => ?_) (fun hc => ?_)
    · have hQ := hQ.1 hc
      refine lv_aload_n hx hb dX9_rise_18 rfl (lv_at hl 0 rfl) ?_
      refine g_8_4 F hw hA0 twf_RX9_20 dX9_rise_19 (fun a5 hA5 => ?_)
      refine lv_iload_n hx hb dX9_rise_22 rfl (lv_at hl 1 rfl) ?_
      obtain ⟨hin, hQ⟩ := hQ
      refine al_20 F hw hA5 hin dX9_rise_23 ?_
      refine lv_if_eq (tgt := 39) hx hb dX9_rise_24 (by decide) (fun hc => ?_) (fun hc => ?_)
      · have hQ := hQ.1 hc
        refine lv_aload_n hx hb dX9_rise_39 rfl (lv_at hl 0 rfl) ?_
        refine g_8_3 F hw hA0 twf_RX9_17 dX9_rise_40 (fun a6 hA6 => ?_)
        refine lv_iload_n hx hb dX9_rise_43 rfl (lv_at hl 1 rfl) ?_
        obtain ⟨hin, hQ⟩ := hQ
        refine al_19 F hw hA6 hin dX9_rise_44 ?_
        refine lv_topl (fun v7 ev7 => ?_)
        have hQ := hQ v7 ev7
        refine lv_lstore (lv' := [(5, .long v7), (0, .ref a0), (1, .int p1), (2, .int p2), (3, .long p3)]) hx hb dX9_rise_45 hl (by decide) rfl (fun ls hl => ?_)
        refine lv_lconst (v := 0) hx hb dX9_rise_47 (by decide) ?_
        refine lv_lstore (lv' := [(7, .long (0 : Int64)), (5, .long v7), (0, .ref a0), (1, .int p1), (2, .int p2), (3, .long p3)]) hx hb dX9_rise_48 hl (by decide) rfl (fun ls hl => ?_)
        refine lv_aload_n hx hb dX9_rise_50 rfl (lv_at hl 2 rfl) ?_
        refine g_8_4 F hw hA0 twf_RX9_20 dX9_rise_51 (fun a8 hA8 => ?_)
        refine lv_iload_n hx hb dX9_rise_54 rfl (lv_at hl 3 rfl) ?_
        obtain ⟨hin, hQ⟩ := hQ
        refine al_20 F hw hA8 hin dX9_rise_55 ?_
        refine lv_iconst (v := 2) hx hb dX9_rise_56 (by decide) ?_
        refine lv_icmp_ne (tgt := 116) hx hb dX9_rise_57 (by decide) (fun hc => ?_) (fun hc => ?_)
        · have hQ := hQ.1 hc
          refine lv_lload_n hx hb dX9_rise_116 rfl (lv_at hl 5 rfl) ?_
          refine lv_lload hx hb dX9_rise_117 (lv_at hl 1 rfl) ?_
          refine lc_ge (tgt := 125) F dX9_rise_119 dX9_rise_120 (by decide) (fun hc => ?_) (fun hc => ?_)
          · have hQ := hQ.1 hc
            refine lv_lload_n hx hb dX9_rise_125 rfl (lv_at hl 5 rfl) ?_
            refine lv_aload_n hx hb dX9_rise_126 rfl (lv_at hl 2 rfl) ?_
            refine lv_iload_n hx hb dX9_rise_127 rfl (lv_at hl 4 rfl) ?_
            refine k_X9_free F hw hl hA0 hQ twm_RX9_157 (Nat.le_of_ble_eq_true rfl) (Nat.le_of_ble_eq_true rfl) (Nat.le_of_ble_eq_true rfl) dX9_rise_128 (show ((0 + 0) + 0) + 0 ≤ 0 from by omega) (show ((0 + 0) + 0) + 0 ≤ 0 from by omega) (fun r10 S9 H locs hQ hw hx1 => ?_)
            have hX := hX.trans hx1
            have hA0 := hA0.ext hx1
            refine lv_lload hx hb dX9_rise_131 (lv_at hl 0 rfl) ?_
            refine lv_ladd hx hb dX9_rise_133 ?_
            refine lc_le (tgt := 140) F dX9_rise_134 dX9_rise_135 (by decide) (fun hc => ?_) (fun hc => ?_)
            · have hQ := hQ.1 hc
              refine lv_aload_n hx hb dX9_rise_140 rfl (lv_at hl 2 rfl) ?_
              refine g_8_4 F hw hA0 twf_RX9_20 dX9_rise_141 (fun a11 hA11 => ?_)
              refine lv_iload_n hx hb dX9_rise_144 rfl (lv_at hl 3 rfl) ?_
              refine lv_iconst (v := 2) hx hb dX9_rise_145 (by decide) ?_
              obtain ⟨hin, hQ⟩ := hQ
              refine as_20 F hw hA11 hin dX9_rise_146 (fun S12 H locs eS12 hw hx1 => ?_)
              have hQ := hQ S12 eS12
              have hX := hX.trans hx1
              have hA0 := hA0.ext hx1
              refine lv_aload_n hx hb dX9_rise_147 rfl (lv_at hl 2 rfl) ?_
              refine g_8_5 F hw hA0 twf_RX9_23 dX9_rise_148 (fun a13 hA13 => ?_)
              refine lv_iload_n hx hb dX9_rise_151 rfl (lv_at hl 3 rfl) ?_
              refine lv_iload_n hx hb dX9_rise_152 rfl (lv_at hl 4 rfl) ?_
              obtain ⟨hin, hQ⟩ := hQ
              refine as_21 F hw hA13 hin dX9_rise_153 (fun S14 H locs eS14 hw hx1 => ?_)
              have hQ := hQ S14 eS14
              have hX := hX.trans hx1
              have hA0 := hA0.ext hx1
              refine lv_aload_n hx hb dX9_rise_154 rfl (lv_at hl 2 rfl) ?_
              refine g_8_6 F hw hA0 twf_RX9_26 dX9_rise_155 (fun a15 hA15 => ?_)
              refine lv_iload_n hx hb dX9_rise_158 rfl (lv_at hl 3 rfl) ?_
              refine lv_lload_n hx hb dX9_rise_159 rfl (lv_at hl 5 rfl) ?_
              obtain ⟨hin, hQ⟩ := hQ
              refine as_22 F hw hA15 hin dX9_rise_160 (fun S16 H locs eS16 hw hx1 => ?_)
              have hQ := hQ S16 eS16
              have hX := hX.trans hx1
              have hA0 := hA0.ext hx1
              refine lv_aload_n hx hb dX9_rise_161 rfl (lv_at hl 2 rfl) ?_
              refine g_8_10 F hw hA0 twf_RX9_39 dX9_rise_162 (fun a17 hA17 => ?_)
              refine lv_iload_n hx hb dX9_rise_165 rfl (lv_at hl 3 rfl) ?_
              refine lv_aload_n hx hb dX9_rise_166 rfl (lv_at hl 2 rfl) ?_
              refine g_8_16 F hw hA0 twf_RX9_172 dX9_rise_167 ?_
              obtain ⟨hin, hQ⟩ := hQ
              refine as_26 F hw hA17 hin dX9_rise_170 (fun S18 H locs eS18 hw hx1 => ?_)
              have hQ := hQ S18 eS18
              have hX := hX.trans hx1
              have hA0 := hA0.ext hx1
              refine lv_iconst (v := 0) hx hb dX9_rise_171 (by decide) ?_
              exact rt_i F hr hlk hw hX hQ (show (((0 + 0) + 0) + 0) ≤ 0 from by omega) (show (((0 + 0) + 0) + 0) ≤ 0 from by omega) dX9_rise_172
            · have hQ := hQ.2 hc
              refine lv_iconst (v := 4) hx hb dX9_rise_138 (by decide) ?_
              exact rt_i F hr hlk hw hX hQ (show (((0 + 0) + 0) + 0) ≤ 0 from by omega) (show (((0 + 0) + 0) + 0) ≤ 0 from by omega) dX9_rise_139
          · have hQ := hQ.2 hc
            refine lv_iconst (v := 3) hx hb dX9_rise_123 (by decide) ?_
            exact rt_i F hr hlk hw hX hQ (show ((0 + 0) + 0) ≤ 0 from by omega) (show ((0 + 0) + 0) ≤ 0 from by omega) dX9_rise_124
        · have hQ := hQ.2 hc
          refine lv_aload_n hx hb dX9_rise_60 rfl (lv_at hl 2 rfl) ?_
          refine g_8_6 F hw hA0 twf_RX9_26 dX9_rise_61 (fun a19 hA19 => ?_)
          refine lv_iload_n hx hb dX9_rise_64 rfl (lv_at hl 3 rfl) ?_
          obtain ⟨hin, hQ⟩ := hQ
          refine al_22 F hw hA19 hin dX9_rise_65 ?_
          refine lv_ldc2 (v := 20) hx hb hown (hts _ twl_RX9_194) dX9_rise_66 ?_
          refine lv_ldiv hx hb dX9_rise_69 (by decide) ?_
          refine lv_topl (fun v20 ev20 => ?_)
          have hQ := hQ v20 ev20
          refine lv_lstore (lv' := [(9, .long v20), (7, .long (0 : Int64)), (5, .long v7), (0, .ref a0), (1, .int p1), (2, .int p2), (3, .long p3)]) hx hb dX9_rise_70 hl (by decide) rfl (fun ls hl => ?_)
          refine lv_aload_n hx hb dX9_rise_72 rfl (lv_at hl 3 rfl) ?_
          refine g_8_6 F hw hA0 twf_RX9_26 dX9_rise_73 (fun a21 hA21 => ?_)
          refine lv_iload_n hx hb dX9_rise_76 rfl (lv_at hl 4 rfl) ?_
          obtain ⟨hin, hQ⟩ := hQ
          refine al_22 F hw hA21 hin dX9_rise_77 ?_
          refine lv_lload hx hb dX9_rise_78 (lv_at hl 0 rfl) ?_
          refine lv_lconst (v := 1) hx hb dX9_rise_80 (by decide) ?_
          refine lc_ge (tgt := 89) F dX9_rise_81 dX9_rise_82 (by decide) (fun hc => ?_) (fun hc => ?_)
          · have hQ := hQ.1 hc
            refine lv_lload hx hb dX9_rise_89 (lv_at hl 0 rfl) ?_
            refine lv_ladd hx hb dX9_rise_91 ?_
            refine lv_topl (fun v22 ev22 => ?_)
            have hQ := hQ v22 ev22
            refine lv_lstore (lv' := [(5, .long v22), (9, .long v20), (7, .long (0 : Int64)), (0, .ref a0), (1, .int p1), (2, .int p2), (3, .long p3)]) hx hb dX9_rise_92 hl (by decide) rfl (fun ls hl => ?_)
            refine lv_aload_n hx hb dX9_rise_94 rfl (lv_at hl 3 rfl) ?_
            refine g_8_5 F hw hA0 twf_RX9_23 dX9_rise_95 (fun a23 hA23 => ?_)
            refine lv_iload_n hx hb dX9_rise_98 rfl (lv_at hl 4 rfl) ?_
            obtain ⟨hin, hQ⟩ := hQ
            refine al_21 F hw hA23 hin dX9_rise_99 ?_
            refine lv_iload_n hx hb dX9_rise_100 rfl (lv_at hl 5 rfl) ?_
            refine lv_icmp_ne (tgt := 113) hx hb dX9_rise_101 (by decide) (fun hc => ?_) (fun hc => ?_)
            · have hQ := hQ.1 hc
              refine lv_lconst (v := 0) hx hb dX9_rise_113 (by decide) ?_
              refine lv_lstore (lv' := [(7, .long (0 : Int64)), (5, .long v22), (9, .long v20), (0, .ref a0), (1, .int p1), (2, .int p2), (3, .long p3)]) hx hb dX9_rise_114 hl (by decide) rfl (fun ls hl => ?_)
              refine lv_lload_n hx hb dX9_rise_116 rfl (lv_at hl 6 rfl) ?_
              refine lv_lload hx hb dX9_rise_117 (lv_at hl 1 rfl) ?_
              refine lc_ge (tgt := 125) F dX9_rise_119 dX9_rise_120 (by decide) (fun hc => ?_) (fun hc => ?_)
              · have hQ := hQ.1 hc
                refine lv_lload_n hx hb dX9_rise_125 rfl (lv_at hl 6 rfl) ?_
                refine lv_aload_n hx hb dX9_rise_126 rfl (lv_at hl 3 rfl) ?_
                refine lv_iload_n hx hb dX9_rise_127 rfl (lv_at hl 5 rfl) ?_
                refine k_X9_free F hw hl hA0 hQ twm_RX9_157 (Nat.le_of_ble_eq_true rfl) (Nat.le_of_ble_eq_true rfl) (Nat.le_of_ble_eq_true rfl) dX9_rise_128 (show ((0 + 0) + 0) + 0 ≤ 0 from by omega) (show ((0 + 0) + 0) + 0 ≤ 0 from by omega) (fun r25 S24 H locs hQ hw hx1 => ?_)
                have hX := hX.trans hx1
                have hA0 := hA0.ext hx1
                refine lv_lload hx hb dX9_rise_131 (lv_at hl 0 rfl) ?_
                refine lv_ladd hx hb dX9_rise_133 ?_
                refine lc_le (tgt := 140) F dX9_rise_134 dX9_rise_135 (by decide) (fun hc => ?_) (fun hc => ?_)
                · have hQ := hQ.1 hc
                  refine lv_aload_n hx hb dX9_rise_140 rfl (lv_at hl 3 rfl) ?_
                  refine g_8_4 F hw hA0 twf_RX9_20 dX9_rise_141 (fun a26 hA26 => ?_)
                  refine lv_iload_n hx hb dX9_rise_144 rfl (lv_at hl 4 rfl) ?_
                  refine lv_iconst (v := 2) hx hb dX9_rise_145 (by decide) ?_
                  obtain ⟨hin, hQ⟩ := hQ
                  refine as_20 F hw hA26 hin dX9_rise_146 (fun S27 H locs eS27 hw hx1 => ?_)
                  have hQ := hQ S27 eS27
                  have hX := hX.trans hx1
                  have hA0 := hA0.ext hx1
                  refine lv_aload_n hx hb dX9_rise_147 rfl (lv_at hl 3 rfl) ?_
                  refine g_8_5 F hw hA0 twf_RX9_23 dX9_rise_148 (fun a28 hA28 => ?_)
                  refine lv_iload_n hx hb dX9_rise_151 rfl (lv_at hl 4 rfl) ?_
                  refine lv_iload_n hx hb dX9_rise_152 rfl (lv_at hl 5 rfl) ?_
                  obtain ⟨hin, hQ⟩ := hQ
                  refine as_21 F hw hA28 hin dX9_rise_153 (fun S29 H locs eS29 hw hx1 => ?_)
                  have hQ := hQ S29 eS29
                  have hX := hX.trans hx1
                  have hA0 := hA0.ext hx1
                  refine lv_aload_n hx hb dX9_rise_154 rfl (lv_at hl 3 rfl) ?_
                  refine g_8_6 F hw hA0 twf_RX9_26 dX9_rise_155 (fun a30 hA30 => ?_)
                  refine lv_iload_n hx hb dX9_rise_158 rfl (lv_at hl 4 rfl) ?_
                  refine lv_lload_n hx hb dX9_rise_159 rfl (lv_at hl 6 rfl) ?_
                  obtain ⟨hin, hQ⟩ := hQ
                  refine as_22 F hw hA30 hin dX9_rise_160 (fun S31 H locs eS31 hw hx1 => ?_)
                  have hQ := hQ S31 eS31
                  have hX := hX.trans hx1
                  have hA0 := hA0.ext hx1
                  refine lv_aload_n hx hb dX9_rise_161 rfl (lv_at hl 3 rfl) ?_
                  refine g_8_10 F hw hA0 twf_RX9_39 dX9_rise_162 (fun a32 hA32 => ?_)
                  refine lv_iload_n hx hb dX9_rise_165 rfl (lv_at hl 4 rfl) ?_
                  refine lv_aload_n hx hb dX9_rise_166 rfl (lv_at hl 3 rfl) ?_
                  refine g_8_16 F hw hA0 twf_RX9_172 dX9_rise_167 ?_
                  obtain ⟨hin, hQ⟩ := hQ
                  refine as_26 F hw hA32 hin dX9_rise_170 (fun S33 H locs eS33 hw hx1 => ?_)
                  have hQ := hQ S33 eS33
                  have hX := hX.trans hx1
                  have hA0 := hA0.ext hx1
                  refine lv_iconst (v := 0) hx hb dX9_rise_171 (by decide) ?_
                  exact rt_i F hr hlk hw hX hQ (show (((0 + 0) + 0) + 0) ≤ 0 from by omega) (show (((0 + 0) + 0) + 0) ≤ 0 from by omega) dX9_rise_172
                · have hQ := hQ.2 hc
                  refine lv_iconst (v := 4) hx hb dX9_rise_138 (by decide) ?_
                  exact rt_i F hr hlk hw hX hQ (show (((0 + 0) + 0) + 0) ≤ 0 from by omega) (show (((0 + 0) + 0) + 0) ≤ 0 from by omega) dX9_rise_139
              · have hQ := hQ.2 hc
                refine lv_iconst (v := 3) hx hb dX9_rise_123 (by decide) ?_
                exact rt_i F hr hlk hw hX hQ (show ((0 + 0) + 0) ≤ 0 from by omega) (show ((0 + 0) + 0) ≤ 0 from by omega) dX9_rise_124
            · have hQ := hQ.2 hc
              refine lv_aload_n hx hb dX9_rise_104 rfl (lv_at hl 3 rfl) ?_
              refine g_8_6 F hw hA0 twf_RX9_26 dX9_rise_105 (fun a34 hA34 => ?_)
              refine lv_iload_n hx hb dX9_rise_108 rfl (lv_at hl 4 rfl) ?_
              obtain ⟨hin, hQ⟩ := hQ
              refine al_22 F hw hA34 hin dX9_rise_109 ?_
              refine lv_goto (tgt := 114) hx hb dX9_rise_110 (by decide) ?_
              refine lv_topl (fun v35 ev35 => ?_)
              have hQ := hQ v35 ev35
              refine lv_lstore (lv' := [(7, .long v35), (5, .long v22), (9, .long v20), (0, .ref a0), (1, .int p1), (2, .int p2), (3, .long p3)]) hx hb dX9_rise_114 hl (by decide) rfl (fun ls hl => ?_)
              refine lv_lload_n hx hb dX9_rise_116 rfl (lv_at hl 6 rfl) ?_
              refine lv_lload hx hb dX9_rise_117 (lv_at hl 1 rfl) ?_
              refine lc_ge (tgt := 125) F dX9_rise_119 dX9_rise_120 (by decide) (fun hc => ?_) (fun hc => ?_)
              · have hQ := hQ.1 hc
                refine lv_lload_n hx hb dX9_rise_125 rfl (lv_at hl 6 rfl) ?_
                refine lv_aload_n hx hb dX9_rise_126 rfl (lv_at hl 3 rfl) ?_
                refine lv_iload_n hx hb dX9_rise_127 rfl (lv_at hl 5 rfl) ?_
                refine k_X9_free F hw hl hA0 hQ twm_RX9_157 (Nat.le_of_ble_eq_true rfl) (Nat.le_of_ble_eq_true rfl) (Nat.le_of_ble_eq_true rfl) dX9_rise_128 (show ((0 + 0) + 0) + 0 ≤ 0 from by omega) (show ((0 + 0) + 0) + 0 ≤ 0 from by omega) (fun r37 S36 H locs hQ hw hx1 => ?_)
                have hX := hX.trans hx1
                have hA0 := hA0.ext hx1
                refine lv_lload hx hb dX9_rise_131 (lv_at hl 0 rfl) ?_
                refine lv_ladd hx hb dX9_rise_133 ?_
                refine lc_le (tgt := 140) F dX9_rise_134 dX9_rise_135 (by decide) (fun hc => ?_) (fun hc => ?_)
                · have hQ := hQ.1 hc
                  refine lv_aload_n hx hb dX9_rise_140 rfl (lv_at hl 3 rfl) ?_
                  refine g_8_4 F hw hA0 twf_RX9_20 dX9_rise_141 (fun a38 hA38 => ?_)
                  refine lv_iload_n hx hb dX9_rise_144 rfl (lv_at hl 4 rfl) ?_
                  refine lv_iconst (v := 2) hx hb dX9_rise_145 (by decide) ?_
                  obtain ⟨hin, hQ⟩ := hQ
                  refine as_20 F hw hA38 hin dX9_rise_146 (fun S39 H locs eS39 hw hx1 => ?_)
                  have hQ := hQ S39 eS39
                  have hX := hX.trans hx1
                  have hA0 := hA0.ext hx1
                  refine lv_aload_n hx hb dX9_rise_147 rfl (lv_at hl 3 rfl) ?_
                  refine g_8_5 F hw hA0 twf_RX9_23 dX9_rise_148 (fun a40 hA40 => ?_)
                  refine lv_iload_n hx hb dX9_rise_151 rfl (lv_at hl 4 rfl) ?_
                  refine lv_iload_n hx hb dX9_rise_152 rfl (lv_at hl 5 rfl) ?_
                  obtain ⟨hin, hQ⟩ := hQ
                  refine as_21 F hw hA40 hin dX9_rise_153 (fun S41 H locs eS41 hw hx1 => ?_)
                  have hQ := hQ S41 eS41
                  have hX := hX.trans hx1
                  have hA0 := hA0.ext hx1
                  refine lv_aload_n hx hb dX9_rise_154 rfl (lv_at hl 3 rfl) ?_
                  refine g_8_6 F hw hA0 twf_RX9_26 dX9_rise_155 (fun a42 hA42 => ?_)
                  refine lv_iload_n hx hb dX9_rise_158 rfl (lv_at hl 4 rfl) ?_
                  refine lv_lload_n hx hb dX9_rise_159 rfl (lv_at hl 6 rfl) ?_
                  obtain ⟨hin, hQ⟩ := hQ
                  refine as_22 F hw hA42 hin dX9_rise_160 (fun S43 H locs eS43 hw hx1 => ?_)
                  have hQ := hQ S43 eS43
                  have hX := hX.trans hx1
                  have hA0 := hA0.ext hx1
                  refine lv_aload_n hx hb dX9_rise_161 rfl (lv_at hl 3 rfl) ?_
                  refine g_8_10 F hw hA0 twf_RX9_39 dX9_rise_162 (fun a44 hA44 => ?_)
                  refine lv_iload_n hx hb dX9_rise_165 rfl (lv_at hl 4 rfl) ?_
                  refine lv_aload_n hx hb dX9_rise_166 rfl (lv_at hl 3 rfl) ?_
                  refine g_8_16 F hw hA0 twf_RX9_172 dX9_rise_167 ?_
                  obtain ⟨hin, hQ⟩ := hQ
                  refine as_26 F hw hA44 hin dX9_rise_170 (fun S45 H locs eS45 hw hx1 => ?_)
                  have hQ := hQ S45 eS45
                  have hX := hX.trans hx1
                  have hA0 := hA0.ext hx1
                  refine lv_iconst (v := 0) hx hb dX9_rise_171 (by decide) ?_
                  exact rt_i F hr hlk hw hX hQ (show (((0 + 0) + 0) + 0) ≤ 0 from by omega) (show (((0 + 0) + 0) + 0) ≤ 0 from by omega) dX9_rise_172
                · have hQ := hQ.2 hc
                  refine lv_iconst (v := 4) hx hb dX9_rise_138 (by decide) ?_
                  exact rt_i F hr hlk hw hX hQ (show (((0 + 0) + 0) + 0) ≤ 0 from by omega) (show (((0 + 0) + 0) + 0) ≤ 0 from by omega) dX9_rise_139
              · have hQ := hQ.2 hc
                refine lv_iconst (v := 3) hx hb dX9_rise_123 (by decide) ?_
                exact rt_i F hr hlk hw hX hQ (show ((0 + 0) + 0) ≤ 0 from by omega) (show ((0 + 0) + 0) ≤ 0 from by omega) dX9_rise_124
          · have hQ := hQ.2 hc
            refine lv_lconst (v := 1) hx hb dX9_rise_85 (by decide) ?_
            refine lv_goto (tgt := 91) hx hb dX9_rise_86 (by decide) ?_
            refine lv_ladd hx hb dX9_rise_91 ?_
            refine lv_topl (fun v46 ev46 => ?_)
            have hQ := hQ v46 ev46
            refine lv_lstore (lv' := [(5, .long v46), (9, .long v20), (7, .long (0 : Int64)), (0, .ref a0), (1, .int p1), (2, .int p2), (3, .long p3)]) hx hb dX9_rise_92 hl (by decide) rfl (fun ls hl => ?_)
            refine lv_aload_n hx hb dX9_rise_94 rfl (lv_at hl 3 rfl) ?_
            refine g_8_5 F hw hA0 twf_RX9_23 dX9_rise_95 (fun a47 hA47 => ?_)
            refine lv_iload_n hx hb dX9_rise_98 rfl (lv_at hl 4 rfl) ?_
            obtain ⟨hin, hQ⟩ := hQ
            refine al_21 F hw hA47 hin dX9_rise_99 ?_
            refine lv_iload_n hx hb dX9_rise_100 rfl (lv_at hl 5 rfl) ?_
            refine lv_icmp_ne (tgt := 113) hx hb dX9_rise_101 (by decide) (fun hc => ?_) (fun hc => ?_)
            · have hQ := hQ.1 hc
              refine lv_lconst (v := 0) hx hb dX9_rise_113 (by decide) ?_
              refine lv_lstore (lv' := [(7, .long (0 : Int64)), (5, .long v46), (9, .long v20), (0, .ref a0), (1, .int p1), (2, .int p2), (3, .long p3)]) hx hb dX9_rise_114 hl (by decide) rfl (fun ls hl => ?_)
              refine lv_lload_n hx hb dX9_rise_116 rfl (lv_at hl 6 rfl) ?_
              refine lv_lload hx hb dX9_rise_117 (lv_at hl 1 rfl) ?_
              refine lc_ge (tgt := 125) F dX9_rise_119 dX9_rise_120 (by decide) (fun hc => ?_) (fun hc => ?_)
              · have hQ := hQ.1 hc
                refine lv_lload_n hx hb dX9_rise_125 rfl (lv_at hl 6 rfl) ?_
                refine lv_aload_n hx hb dX9_rise_126 rfl (lv_at hl 3 rfl) ?_
                refine lv_iload_n hx hb dX9_rise_127 rfl (lv_at hl 5 rfl) ?_
                refine k_X9_free F hw hl hA0 hQ twm_RX9_157 (Nat.le_of_ble_eq_true rfl) (Nat.le_of_ble_eq_true rfl) (Nat.le_of_ble_eq_true rfl) dX9_rise_128 (show ((0 + 0) + 0) + 0 ≤ 0 from by omega) (show ((0 + 0) + 0) + 0 ≤ 0 from by omega) (fun r49 S48 H locs hQ hw hx1 => ?_)
                have hX := hX.trans hx1
                have hA0 := hA0.ext hx1
                refine lv_lload hx hb dX9_rise_131 (lv_at hl 0 rfl) ?_
                refine lv_ladd hx hb dX9_rise_133 ?_
                refine lc_le (tgt := 140) F dX9_rise_134 dX9_rise_135 (by decide) (fun hc => ?_) (fun hc => ?_)
                · have hQ := hQ.1 hc
                  refine lv_aload_n hx hb dX9_rise_140 rfl (lv_at hl 3 rfl) ?_
                  refine g_8_4 F hw hA0 twf_RX9_20 dX9_rise_141 (fun a50 hA50 => ?_)
                  refine lv_iload_n hx hb dX9_rise_144 rfl (lv_at hl 4 rfl) ?_
                  refine lv_iconst (v := 2) hx hb dX9_rise_145 (by decide) ?_
                  obtain ⟨hin, hQ⟩ := hQ
                  refine as_20 F hw hA50 hin dX9_rise_146 (fun S51 H locs eS51 hw hx1 => ?_)
                  have hQ := hQ S51 eS51
                  have hX := hX.trans hx1
                  have hA0 := hA0.ext hx1
                  refine lv_aload_n hx hb dX9_rise_147 rfl (lv_at hl 3 rfl) ?_
                  refine g_8_5 F hw hA0 twf_RX9_23 dX9_rise_148 (fun a52 hA52 => ?_)
                  refine lv_iload_n hx hb dX9_rise_151 rfl (lv_at hl 4 rfl) ?_
                  refine lv_iload_n hx hb dX9_rise_152 rfl (lv_at hl 5 rfl) ?_
                  obtain ⟨hin, hQ⟩ := hQ
                  refine as_21 F hw hA52 hin dX9_rise_153 (fun S53 H locs eS53 hw hx1 => ?_)
                  have hQ := hQ S53 eS53
                  have hX := hX.trans hx1
                  have hA0 := hA0.ext hx1
                  refine lv_aload_n hx hb dX9_rise_154 rfl (lv_at hl 3 rfl) ?_
                  refine g_8_6 F hw hA0 twf_RX9_26 dX9_rise_155 (fun a54 hA54 => ?_)
                  refine lv_iload_n hx hb dX9_rise_158 rfl (lv_at hl 4 rfl) ?_
                  refine lv_lload_n hx hb dX9_rise_159 rfl (lv_at hl 6 rfl) ?_
                  obtain ⟨hin, hQ⟩ := hQ
                  refine as_22 F hw hA54 hin dX9_rise_160 (fun S55 H locs eS55 hw hx1 => ?_)
                  have hQ := hQ S55 eS55
                  have hX := hX.trans hx1
                  have hA0 := hA0.ext hx1
                  refine lv_aload_n hx hb dX9_rise_161 rfl (lv_at hl 3 rfl) ?_
                  refine g_8_10 F hw hA0 twf_RX9_39 dX9_rise_162 (fun a56 hA56 => ?_)
                  refine lv_iload_n hx hb dX9_rise_165 rfl (lv_at hl 4 rfl) ?_
                  refine lv_aload_n hx hb dX9_rise_166 rfl (lv_at hl 3 rfl) ?_
                  refine g_8_16 F hw hA0 twf_RX9_172 dX9_rise_167 ?_
                  obtain ⟨hin, hQ⟩ := hQ
                  refine as_26 F hw hA56 hin dX9_rise_170 (fun S57 H locs eS57 hw hx1 => ?_)
                  have hQ := hQ S57 eS57
                  have hX := hX.trans hx1
                  have hA0 := hA0.ext hx1
                  refine lv_iconst (v := 0) hx hb dX9_rise_171 (by decide) ?_
                  exact rt_i F hr hlk hw hX hQ (show (((0 + 0) + 0) + 0) ≤ 0 from by omega) (show (((0 + 0) + 0) + 0) ≤ 0 from by omega) dX9_rise_172
                · have hQ := hQ.2 hc
                  refine lv_iconst (v := 4) hx hb dX9_rise_138 (by decide) ?_
                  exact rt_i F hr hlk hw hX hQ (show (((0 + 0) + 0) + 0) ≤ 0 from by omega) (show (((0 + 0) + 0) + 0) ≤ 0 from by omega) dX9_rise_139
              · have hQ := hQ.2 hc
                refine lv_iconst (v := 3) hx hb dX9_rise_123 (by decide) ?_
                exact rt_i F hr hlk hw hX hQ (show ((0 + 0) + 0) ≤ 0 from by omega) (show ((0 + 0) + 0) ≤ 0 from by omega) dX9_rise_124
            · have hQ := hQ.2 hc
              refine lv_aload_n hx hb dX9_rise_104 rfl (lv_at hl 3 rfl) ?_
              refine g_8_6 F hw hA0 twf_RX9_26 dX9_rise_105 (fun a58 hA58 => ?_)
              refine lv_iload_n hx hb dX9_rise_108 rfl (lv_at hl 4 rfl) ?_
              obtain ⟨hin, hQ⟩ := hQ
              refine al_22 F hw hA58 hin dX9_rise_109 ?_
              refine lv_goto (tgt := 114) hx hb dX9_rise_110 (by decide) ?_
              refine lv_topl (fun v59 ev59 => ?_)
              have hQ := hQ v59 ev59
              refine lv_lstore (lv' := [(7, .long v59), (5, .long v46), (9, .long v20), (0, .ref a0), (1, .int p1), (2, .int p2), (3, .long p3)]) hx hb dX9_rise_114 hl (by decide) rfl (fun ls hl => ?_)
              refine lv_lload_n hx hb dX9_rise_116 rfl (lv_at hl 6 rfl) ?_
              refine lv_lload hx hb dX9_rise_117 (lv_at hl 1 rfl) ?_
              refine lc_ge (tgt := 125) F dX9_rise_119 dX9_rise_120 (by decide) (fun hc => ?_) (fun hc => ?_)
              · have hQ := hQ.1 hc
                refine lv_lload_n hx hb dX9_rise_125 rfl (lv_at hl 6 rfl) ?_
                refine lv_aload_n hx hb dX9_rise_126 rfl (lv_at hl 3 rfl) ?_
                refine lv_iload_n hx hb dX9_rise_127 rfl (lv_at hl 5 rfl) ?_
                refine k_X9_free F hw hl hA0 hQ twm_RX9_157 (Nat.le_of_ble_eq_true rfl) (Nat.le_of_ble_eq_true rfl) (Nat.le_of_ble_eq_true rfl) dX9_rise_128 (show ((0 + 0) + 0) + 0 ≤ 0 from by omega) (show ((0 + 0) + 0) + 0 ≤ 0 from by omega) (fun r61 S60 H locs hQ hw hx1 => ?_)
                have hX := hX.trans hx1
                have hA0 := hA0.ext hx1
                refine lv_lload hx hb dX9_rise_131 (lv_at hl 0 rfl) ?_
                refine lv_ladd hx hb dX9_rise_133 ?_
                refine lc_le (tgt := 140) F dX9_rise_134 dX9_rise_135 (by decide) (fun hc => ?_) (fun hc => ?_)
                · have hQ := hQ.1 hc
                  refine lv_aload_n hx hb dX9_rise_140 rfl (lv_at hl 3 rfl) ?_
                  refine g_8_4 F hw hA0 twf_RX9_20 dX9_rise_141 (fun a62 hA62 => ?_)
                  refine lv_iload_n hx hb dX9_rise_144 rfl (lv_at hl 4 rfl) ?_
                  refine lv_iconst (v := 2) hx hb dX9_rise_145 (by decide) ?_
                  obtain ⟨hin, hQ⟩ := hQ
                  refine as_20 F hw hA62 hin dX9_rise_146 (fun S63 H locs eS63 hw hx1 => ?_)
                  have hQ := hQ S63 eS63
                  have hX := hX.trans hx1
                  have hA0 := hA0.ext hx1
                  refine lv_aload_n hx hb dX9_rise_147 rfl (lv_at hl 3 rfl) ?_
                  refine g_8_5 F hw hA0 twf_RX9_23 dX9_rise_148 (fun a64 hA64 => ?_)
                  refine lv_iload_n hx hb dX9_rise_151 rfl (lv_at hl 4 rfl) ?_
                  refine lv_iload_n hx hb dX9_rise_152 rfl (lv_at hl 5 rfl) ?_
                  obtain ⟨hin, hQ⟩ := hQ
                  refine as_21 F hw hA64 hin dX9_rise_153 (fun S65 H locs eS65 hw hx1 => ?_)
                  have hQ := hQ S65 eS65
                  have hX := hX.trans hx1
                  have hA0 := hA0.ext hx1
                  refine lv_aload_n hx hb dX9_rise_154 rfl (lv_at hl 3 rfl) ?_
                  refine g_8_6 F hw hA0 twf_RX9_26 dX9_rise_155 (fun a66 hA66 => ?_)
                  refine lv_iload_n hx hb dX9_rise_158 rfl (lv_at hl 4 rfl) ?_
                  refine lv_lload_n hx hb dX9_rise_159 rfl (lv_at hl 6 rfl) ?_
                  obtain ⟨hin, hQ⟩ := hQ
                  refine as_22 F hw hA66 hin dX9_rise_160 (fun S67 H locs eS67 hw hx1 => ?_)
                  have hQ := hQ S67 eS67
                  have hX := hX.trans hx1
                  have hA0 := hA0.ext hx1
                  refine lv_aload_n hx hb dX9_rise_161 rfl (lv_at hl 3 rfl) ?_
                  refine g_8_10 F hw hA0 twf_RX9_39 dX9_rise_162 (fun a68 hA68 => ?_)
                  refine lv_iload_n hx hb dX9_rise_165 rfl (lv_at hl 4 rfl) ?_
                  refine lv_aload_n hx hb dX9_rise_166 rfl (lv_at hl 3 rfl) ?_
                  refine g_8_16 F hw hA0 twf_RX9_172 dX9_rise_167 ?_
                  obtain ⟨hin, hQ⟩ := hQ
                  refine as_26 F hw hA68 hin dX9_rise_170 (fun S69 H locs eS69 hw hx1 => ?_)
                  have hQ := hQ S69 eS69
                  have hX := hX.trans hx1
                  have hA0 := hA0.ext hx1
                  refine lv_iconst (v := 0) hx hb dX9_rise_171 (by decide) ?_
                  exact rt_i F hr hlk hw hX hQ (show (((0 + 0) + 0) + 0) ≤ 0 from by omega) (show (((0 + 0) + 0) + 0) ≤ 0 from by omega) dX9_rise_172
                · have hQ := hQ.2 hc
                  refine lv_iconst (v := 4) hx hb dX9_rise_138 (by decide) ?_
                  exact rt_i F hr hlk hw hX hQ (show (((0 + 0) + 0) + 0) ≤ 0 from by omega) (show (((0 + 0) + 0) + 0) ≤ 0 from by omega) dX9_rise_139
              · have hQ := hQ.2 hc
                refine lv_iconst (v := 3) hx hb dX9_rise_123 (by decide) ?_
                exact rt_i F hr hlk hw hX hQ (show ((0 + 0) + 0) ≤ 0 from by omega) (show ((0 + 0) + 0) ≤ 0 from by omega) dX9_rise_124
      · have hQ := hQ.2 hc
        refine lv_aload_n hx hb dX9_rise_27 rfl (lv_at hl 0 rfl) ?_
        refine g_8_4 F hw hA0 twf_RX9_20 dX9_rise_28 (fun a70 hA70 => ?_)
        refine lv_iload_n hx hb dX9_rise_31 rfl (lv_at hl 1 rfl) ?_
        obtain ⟨hin, hQ⟩ := hQ
        refine al_20 F hw hA70 hin dX9_rise_32 ?_
        refine lv_iconst (v := 2) hx hb dX9_rise_33 (by decide) ?_
        refine lv_icmp_eq (tgt := 39) hx hb dX9_rise_34 (by decide) (fun hc => ?_) (fun hc => ?_)
        · have hQ := hQ.1 hc
          refine lv_aload_n hx hb dX9_rise_39 rfl (lv_at hl 0 rfl) ?_
          refine g_8_3 F hw hA0 twf_RX9_17 dX9_rise_40 (fun a71 hA71 => ?_)
          refine lv_iload_n hx hb dX9_rise_43 rfl (lv_at hl 1 rfl) ?_
          obtain ⟨hin, hQ⟩ := hQ
          refine al_19 F hw hA71 hin dX9_rise_44 ?_
          refine lv_topl (fun v72 ev72 => ?_)
          have hQ := hQ v72 ev72
          refine lv_lstore (lv' := [(5, .long v72), (0, .ref a0), (1, .int p1), (2, .int p2), (3, .long p3)]) hx hb dX9_rise_45 hl (by decide) rfl (fun ls hl => ?_)
          refine lv_lconst (v := 0) hx hb dX9_rise_47 (by decide) ?_
          refine lv_lstore (lv' := [(7, .long (0 : Int64)), (5, .long v72), (0, .ref a0), (1, .int p1), (2, .int p2), (3, .long p3)]) hx hb dX9_rise_48 hl (by decide) rfl (fun ls hl => ?_)
          refine lv_aload_n hx hb dX9_rise_50 rfl (lv_at hl 2 rfl) ?_
          refine g_8_4 F hw hA0 twf_RX9_20 dX9_rise_51 (fun a73 hA73 => ?_)
          refine lv_iload_n hx hb dX9_rise_54 rfl (lv_at hl 3 rfl) ?_
          obtain ⟨hin, hQ⟩ := hQ
          refine al_20 F hw hA73 hin dX9_rise_55 ?_
          refine lv_iconst (v := 2) hx hb dX9_rise_56 (by decide) ?_
          refine lv_icmp_ne (tgt := 116) hx hb dX9_rise_57 (by decide) (fun hc => ?_) (fun hc => ?_)
          · have hQ := hQ.1 hc
            refine lv_lload_n hx hb dX9_rise_116 rfl (lv_at hl 5 rfl) ?_
            refine lv_lload hx hb dX9_rise_117 (lv_at hl 1 rfl) ?_
            refine lc_ge (tgt := 125) F dX9_rise_119 dX9_rise_120 (by decide) (fun hc => ?_) (fun hc => ?_)
            · have hQ := hQ.1 hc
              refine lv_lload_n hx hb dX9_rise_125 rfl (lv_at hl 5 rfl) ?_
              refine lv_aload_n hx hb dX9_rise_126 rfl (lv_at hl 2 rfl) ?_
              refine lv_iload_n hx hb dX9_rise_127 rfl (lv_at hl 4 rfl) ?_
              refine k_X9_free F hw hl hA0 hQ twm_RX9_157 (Nat.le_of_ble_eq_true rfl) (Nat.le_of_ble_eq_true rfl) (Nat.le_of_ble_eq_true rfl) dX9_rise_128 (show ((0 + 0) + 0) + 0 ≤ 0 from by omega) (show ((0 + 0) + 0) + 0 ≤ 0 from by omega) (fun r75 S74 H locs hQ hw hx1 => ?_)
              have hX := hX.trans hx1
              have hA0 := hA0.ext hx1
              refine lv_lload hx hb dX9_rise_131 (lv_at hl 0 rfl) ?_
              refine lv_ladd hx hb dX9_rise_133 ?_
              refine lc_le (tgt := 140) F dX9_rise_134 dX9_rise_135 (by decide) (fun hc => ?_) (fun hc => ?_)
              · have hQ := hQ.1 hc
                refine lv_aload_n hx hb dX9_rise_140 rfl (lv_at hl 2 rfl) ?_
                refine g_8_4 F hw hA0 twf_RX9_20 dX9_rise_141 (fun a76 hA76 => ?_)
                refine lv_iload_n hx hb dX9_rise_144 rfl (lv_at hl 3 rfl) ?_
                refine lv_iconst (v := 2) hx hb dX9_rise_145 (by decide) ?_
                obtain ⟨hin, hQ⟩ := hQ
                refine as_20 F hw hA76 hin dX9_rise_146 (fun S77 H locs eS77 hw hx1 => ?_)
                have hQ := hQ S77 eS77
                have hX := hX.trans hx1
                have hA0 := hA0.ext hx1
                refine lv_aload_n hx hb dX9_rise_147 rfl (lv_at hl 2 rfl) ?_
                refine g_8_5 F hw hA0 twf_RX9_23 dX9_rise_148 (fun a78 hA78 => ?_)
                refine lv_iload_n hx hb dX9_rise_151 rfl (lv_at hl 3 rfl) ?_
                refine lv_iload_n hx hb dX9_rise_152 rfl (lv_at hl 4 rfl) ?_
                obtain ⟨hin, hQ⟩ := hQ
                refine as_21 F hw hA78 hin dX9_rise_153 (fun S79 H locs eS79 hw hx1 => ?_)
                have hQ := hQ S79 eS79
                have hX := hX.trans hx1
                have hA0 := hA0.ext hx1
                refine lv_aload_n hx hb dX9_rise_154 rfl (lv_at hl 2 rfl) ?_
                refine g_8_6 F hw hA0 twf_RX9_26 dX9_rise_155 (fun a80 hA80 => ?_)
                refine lv_iload_n hx hb dX9_rise_158 rfl (lv_at hl 3 rfl) ?_
                refine lv_lload_n hx hb dX9_rise_159 rfl (lv_at hl 5 rfl) ?_
                obtain ⟨hin, hQ⟩ := hQ
                refine as_22 F hw hA80 hin dX9_rise_160 (fun S81 H locs eS81 hw hx1 => ?_)
                have hQ := hQ S81 eS81
                have hX := hX.trans hx1
                have hA0 := hA0.ext hx1
                refine lv_aload_n hx hb dX9_rise_161 rfl (lv_at hl 2 rfl) ?_
                refine g_8_10 F hw hA0 twf_RX9_39 dX9_rise_162 (fun a82 hA82 => ?_)
                refine lv_iload_n hx hb dX9_rise_165 rfl (lv_at hl 3 rfl) ?_
                refine lv_aload_n hx hb dX9_rise_166 rfl (lv_at hl 2 rfl) ?_
                refine g_8_16 F hw hA0 twf_RX9_172 dX9_rise_167 ?_
                obtain ⟨hin, hQ⟩ := hQ
                refine as_26 F hw hA82 hin dX9_rise_170 (fun S83 H locs eS83 hw hx1 => ?_)
                have hQ := hQ S83 eS83
                have hX := hX.trans hx1
                have hA0 := hA0.ext hx1
                refine lv_iconst (v := 0) hx hb dX9_rise_171 (by decide) ?_
                exact rt_i F hr hlk hw hX hQ (show (((0 + 0) + 0) + 0) ≤ 0 from by omega) (show (((0 + 0) + 0) + 0) ≤ 0 from by omega) dX9_rise_172
              · have hQ := hQ.2 hc
                refine lv_iconst (v := 4) hx hb dX9_rise_138 (by decide) ?_
                exact rt_i F hr hlk hw hX hQ (show (((0 + 0) + 0) + 0) ≤ 0 from by omega) (show (((0 + 0) + 0) + 0) ≤ 0 from by omega) dX9_rise_139
            · have hQ := hQ.2 hc
              refine lv_iconst (v := 3) hx hb dX9_rise_123 (by decide) ?_
              exact rt_i F hr hlk hw hX hQ (show ((0 + 0) + 0) ≤ 0 from by omega) (show ((0 + 0) + 0) ≤ 0 from by omega) dX9_rise_124
          · have hQ := hQ.2 hc
            refine lv_aload_n hx hb dX9_rise_60 rfl (lv_at hl 2 rfl) ?_
            refine g_8_6 F hw hA0 twf_RX9_26 dX9_rise_61 (fun a84 hA84 => ?_)
            refine lv_iload_n hx hb dX9_rise_64 rfl (lv_at hl 3 rfl) ?_
            obtain ⟨hin, hQ⟩ := hQ
            refine al_22 F hw hA84 hin dX9_rise_65 ?_
            refine lv_ldc2 (v := 20) hx hb hown (hts _ twl_RX9_194) dX9_rise_66 ?_
            refine lv_ldiv hx hb dX9_rise_69 (by decide) ?_
            refine lv_topl (fun v85 ev85 => ?_)
            have hQ := hQ v85 ev85
            refine lv_lstore (lv' := [(9, .long v85), (7, .long (0 : Int64)), (5, .long v72), (0, .ref a0), (1, .int p1), (2, .int p2), (3, .long p3)]) hx hb dX9_rise_70 hl (by decide) rfl (fun ls hl => ?_)
            refine lv_aload_n hx hb dX9_rise_72 rfl (lv_at hl 3 rfl) ?_
            refine g_8_6 F hw hA0 twf_RX9_26 dX9_rise_73 (fun a86 hA86 => ?_)
            refine lv_iload_n hx hb dX9_rise_76 rfl (lv_at hl 4 rfl) ?_
            obtain ⟨hin, hQ⟩ := hQ
            refine al_22 F hw hA86 hin dX9_rise_77 ?_
            refine lv_lload hx hb dX9_rise_78 (lv_at hl 0 rfl) ?_
            refine lv_lconst (v := 1) hx hb dX9_rise_80 (by decide) ?_
            refine lc_ge (tgt := 89) F dX9_rise_81 dX9_rise_82 (by decide) (fun hc => ?_) (fun hc => ?_)
            · have hQ := hQ.1 hc
              refine lv_lload hx hb dX9_rise_89 (lv_at hl 0 rfl) ?_
              refine lv_ladd hx hb dX9_rise_91 ?_
              refine lv_topl (fun v87 ev87 => ?_)
              have hQ := hQ v87 ev87
              refine lv_lstore (lv' := [(5, .long v87), (9, .long v85), (7, .long (0 : Int64)), (0, .ref a0), (1, .int p1), (2, .int p2), (3, .long p3)]) hx hb dX9_rise_92 hl (by decide) rfl (fun ls hl => ?_)
              refine lv_aload_n hx hb dX9_rise_94 rfl (lv_at hl 3 rfl) ?_
              refine g_8_5 F hw hA0 twf_RX9_23 dX9_rise_95 (fun a88 hA88 => ?_)
              refine lv_iload_n hx hb dX9_rise_98 rfl (lv_at hl 4 rfl) ?_
              obtain ⟨hin, hQ⟩ := hQ
              refine al_21 F hw hA88 hin dX9_rise_99 ?_
              refine lv_iload_n hx hb dX9_rise_100 rfl (lv_at hl 5 rfl) ?_
              refine lv_icmp_ne (tgt := 113) hx hb dX9_rise_101 (by decide) (fun hc => ?_) (fun hc => ?_)
              · have hQ := hQ.1 hc
                refine lv_lconst (v := 0) hx hb dX9_rise_113 (by decide) ?_
                refine lv_lstore (lv' := [(7, .long (0 : Int64)), (5, .long v87), (9, .long v85), (0, .ref a0), (1, .int p1), (2, .int p2), (3, .long p3)]) hx hb dX9_rise_114 hl (by decide) rfl (fun ls hl => ?_)
                refine lv_lload_n hx hb dX9_rise_116 rfl (lv_at hl 6 rfl) ?_
                refine lv_lload hx hb dX9_rise_117 (lv_at hl 1 rfl) ?_
                refine lc_ge (tgt := 125) F dX9_rise_119 dX9_rise_120 (by decide) (fun hc => ?_) (fun hc => ?_)
                · have hQ := hQ.1 hc
                  refine lv_lload_n hx hb dX9_rise_125 rfl (lv_at hl 6 rfl) ?_
                  refine lv_aload_n hx hb dX9_rise_126 rfl (lv_at hl 3 rfl) ?_
                  refine lv_iload_n hx hb dX9_rise_127 rfl (lv_at hl 5 rfl) ?_
                  refine k_X9_free F hw hl hA0 hQ twm_RX9_157 (Nat.le_of_ble_eq_true rfl) (Nat.le_of_ble_eq_true rfl) (Nat.le_of_ble_eq_true rfl) dX9_rise_128 (show ((0 + 0) + 0) + 0 ≤ 0 from by omega) (show ((0 + 0) + 0) + 0 ≤ 0 from by omega) (fun r90 S89 H locs hQ hw hx1 => ?_)
                  have hX := hX.trans hx1
                  have hA0 := hA0.ext hx1
                  refine lv_lload hx hb dX9_rise_131 (lv_at hl 0 rfl) ?_
                  refine lv_ladd hx hb dX9_rise_133 ?_
                  refine lc_le (tgt := 140) F dX9_rise_134 dX9_rise_135 (by decide) (fun hc => ?_) (fun hc => ?_)
                  · have hQ := hQ.1 hc
                    refine lv_aload_n hx hb dX9_rise_140 rfl (lv_at hl 3 rfl) ?_
                    refine g_8_4 F hw hA0 twf_RX9_20 dX9_rise_141 (fun a91 hA91 => ?_)
                    refine lv_iload_n hx hb dX9_rise_144 rfl (lv_at hl 4 rfl) ?_
                    refine lv_iconst (v := 2) hx hb dX9_rise_145 (by decide) ?_
                    obtain ⟨hin, hQ⟩ := hQ
                    refine as_20 F hw hA91 hin dX9_rise_146 (fun S92 H locs eS92 hw hx1 => ?_)
                    have hQ := hQ S92 eS92
                    have hX := hX.trans hx1
                    have hA0 := hA0.ext hx1
                    refine lv_aload_n hx hb dX9_rise_147 rfl (lv_at hl 3 rfl) ?_
                    refine g_8_5 F hw hA0 twf_RX9_23 dX9_rise_148 (fun a93 hA93 => ?_)
                    refine lv_iload_n hx hb dX9_rise_151 rfl (lv_at hl 4 rfl) ?_
                    refine lv_iload_n hx hb dX9_rise_152 rfl (lv_at hl 5 rfl) ?_
                    obtain ⟨hin, hQ⟩ := hQ
                    refine as_21 F hw hA93 hin dX9_rise_153 (fun S94 H locs eS94 hw hx1 => ?_)
                    have hQ := hQ S94 eS94
                    have hX := hX.trans hx1
                    have hA0 := hA0.ext hx1
                    refine lv_aload_n hx hb dX9_rise_154 rfl (lv_at hl 3 rfl) ?_
                    refine g_8_6 F hw hA0 twf_RX9_26 dX9_rise_155 (fun a95 hA95 => ?_)
                    refine lv_iload_n hx hb dX9_rise_158 rfl (lv_at hl 4 rfl) ?_
                    refine lv_lload_n hx hb dX9_rise_159 rfl (lv_at hl 6 rfl) ?_
                    obtain ⟨hin, hQ⟩ := hQ
                    refine as_22 F hw hA95 hin dX9_rise_160 (fun S96 H locs eS96 hw hx1 => ?_)
                    have hQ := hQ S96 eS96
                    have hX := hX.trans hx1
                    have hA0 := hA0.ext hx1
                    refine lv_aload_n hx hb dX9_rise_161 rfl (lv_at hl 3 rfl) ?_
                    refine g_8_10 F hw hA0 twf_RX9_39 dX9_rise_162 (fun a97 hA97 => ?_)
                    refine lv_iload_n hx hb dX9_rise_165 rfl (lv_at hl 4 rfl) ?_
                    refine lv_aload_n hx hb dX9_rise_166 rfl (lv_at hl 3 rfl) ?_
                    refine g_8_16 F hw hA0 twf_RX9_172 dX9_rise_167 ?_
                    obtain ⟨hin, hQ⟩ := hQ
                    refine as_26 F hw hA97 hin dX9_rise_170 (fun S98 H locs eS98 hw hx1 => ?_)
                    have hQ := hQ S98 eS98
                    have hX := hX.trans hx1
                    have hA0 := hA0.ext hx1
                    refine lv_iconst (v := 0) hx hb dX9_rise_171 (by decide) ?_
                    exact rt_i F hr hlk hw hX hQ (show (((0 + 0) + 0) + 0) ≤ 0 from by omega) (show (((0 + 0) + 0) + 0) ≤ 0 from by omega) dX9_rise_172
                  · have hQ := hQ.2 hc
                    refine lv_iconst (v := 4) hx hb dX9_rise_138 (by decide) ?_
                    exact rt_i F hr hlk hw hX hQ (show (((0 + 0) + 0) + 0) ≤ 0 from by omega) (show (((0 + 0) + 0) + 0) ≤ 0 from by omega) dX9_rise_139
                · have hQ := hQ.2 hc
                  refine lv_iconst (v := 3) hx hb dX9_rise_123 (by decide) ?_
                  exact rt_i F hr hlk hw hX hQ (show ((0 + 0) + 0) ≤ 0 from by omega) (show ((0 + 0) + 0) ≤ 0 from by omega) dX9_rise_124
              · have hQ := hQ.2 hc
                refine lv_aload_n hx hb dX9_rise_104 rfl (lv_at hl 3 rfl) ?_
                refine g_8_6 F hw hA0 twf_RX9_26 dX9_rise_105 (fun a99 hA99 => ?_)
                refine lv_iload_n hx hb dX9_rise_108 rfl (lv_at hl 4 rfl) ?_
                obtain ⟨hin, hQ⟩ := hQ
                refine al_22 F hw hA99 hin dX9_rise_109 ?_
                refine lv_goto (tgt := 114) hx hb dX9_rise_110 (by decide) ?_
                refine lv_topl (fun v100 ev100 => ?_)
                have hQ := hQ v100 ev100
                refine lv_lstore (lv' := [(7, .long v100), (5, .long v87), (9, .long v85), (0, .ref a0), (1, .int p1), (2, .int p2), (3, .long p3)]) hx hb dX9_rise_114 hl (by decide) rfl (fun ls hl => ?_)
                refine lv_lload_n hx hb dX9_rise_116 rfl (lv_at hl 6 rfl) ?_
                refine lv_lload hx hb dX9_rise_117 (lv_at hl 1 rfl) ?_
                refine lc_ge (tgt := 125) F dX9_rise_119 dX9_rise_120 (by decide) (fun hc => ?_) (fun hc => ?_)
                · have hQ := hQ.1 hc
                  refine lv_lload_n hx hb dX9_rise_125 rfl (lv_at hl 6 rfl) ?_
                  refine lv_aload_n hx hb dX9_rise_126 rfl (lv_at hl 3 rfl) ?_
                  refine lv_iload_n hx hb dX9_rise_127 rfl (lv_at hl 5 rfl) ?_
                  refine k_X9_free F hw hl hA0 hQ twm_RX9_157 (Nat.le_of_ble_eq_true rfl) (Nat.le_of_ble_eq_true rfl) (Nat.le_of_ble_eq_true rfl) dX9_rise_128 (show ((0 + 0) + 0) + 0 ≤ 0 from by omega) (show ((0 + 0) + 0) + 0 ≤ 0 from by omega) (fun r102 S101 H locs hQ hw hx1 => ?_)
                  have hX := hX.trans hx1
                  have hA0 := hA0.ext hx1
                  refine lv_lload hx hb dX9_rise_131 (lv_at hl 0 rfl) ?_
                  refine lv_ladd hx hb dX9_rise_133 ?_
                  refine lc_le (tgt := 140) F dX9_rise_134 dX9_rise_135 (by decide) (fun hc => ?_) (fun hc => ?_)
                  · have hQ := hQ.1 hc
                    refine lv_aload_n hx hb dX9_rise_140 rfl (lv_at hl 3 rfl) ?_
                    refine g_8_4 F hw hA0 twf_RX9_20 dX9_rise_141 (fun a103 hA103 => ?_)
                    refine lv_iload_n hx hb dX9_rise_144 rfl (lv_at hl 4 rfl) ?_
                    refine lv_iconst (v := 2) hx hb dX9_rise_145 (by decide) ?_
                    obtain ⟨hin, hQ⟩ := hQ
                    refine as_20 F hw hA103 hin dX9_rise_146 (fun S104 H locs eS104 hw hx1 => ?_)
                    have hQ := hQ S104 eS104
                    have hX := hX.trans hx1
                    have hA0 := hA0.ext hx1
                    refine lv_aload_n hx hb dX9_rise_147 rfl (lv_at hl 3 rfl) ?_
                    refine g_8_5 F hw hA0 twf_RX9_23 dX9_rise_148 (fun a105 hA105 => ?_)
                    refine lv_iload_n hx hb dX9_rise_151 rfl (lv_at hl 4 rfl) ?_
                    refine lv_iload_n hx hb dX9_rise_152 rfl (lv_at hl 5 rfl) ?_
                    obtain ⟨hin, hQ⟩ := hQ
                    refine as_21 F hw hA105 hin dX9_rise_153 (fun S106 H locs eS106 hw hx1 => ?_)
                    have hQ := hQ S106 eS106
                    have hX := hX.trans hx1
                    have hA0 := hA0.ext hx1
                    refine lv_aload_n hx hb dX9_rise_154 rfl (lv_at hl 3 rfl) ?_
                    refine g_8_6 F hw hA0 twf_RX9_26 dX9_rise_155 (fun a107 hA107 => ?_)
                    refine lv_iload_n hx hb dX9_rise_158 rfl (lv_at hl 4 rfl) ?_
                    refine lv_lload_n hx hb dX9_rise_159 rfl (lv_at hl 6 rfl) ?_
                    obtain ⟨hin, hQ⟩ := hQ
                    refine as_22 F hw hA107 hin dX9_rise_160 (fun S108 H locs eS108 hw hx1 => ?_)
                    have hQ := hQ S108 eS108
                    have hX := hX.trans hx1
                    have hA0 := hA0.ext hx1
                    refine lv_aload_n hx hb dX9_rise_161 rfl (lv_at hl 3 rfl) ?_
                    refine g_8_10 F hw hA0 twf_RX9_39 dX9_rise_162 (fun a109 hA109 => ?_)
                    refine lv_iload_n hx hb dX9_rise_165 rfl (lv_at hl 4 rfl) ?_
                    refine lv_aload_n hx hb dX9_rise_166 rfl (lv_at hl 3 rfl) ?_
                    refine g_8_16 F hw hA0 twf_RX9_172 dX9_rise_167 ?_
                    obtain ⟨hin, hQ⟩ := hQ
                    refine as_26 F hw hA109 hin dX9_rise_170 (fun S110 H locs eS110 hw hx1 => ?_)
                    have hQ := hQ S110 eS110
                    have hX := hX.trans hx1
                    have hA0 := hA0.ext hx1
                    refine lv_iconst (v := 0) hx hb dX9_rise_171 (by decide) ?_
                    exact rt_i F hr hlk hw hX hQ (show (((0 + 0) + 0) + 0) ≤ 0 from by omega) (show (((0 + 0) + 0) + 0) ≤ 0 from by omega) dX9_rise_172
                  · have hQ := hQ.2 hc
                    refine lv_iconst (v := 4) hx hb dX9_rise_138 (by decide) ?_
                    exact rt_i F hr hlk hw hX hQ (show (((0 + 0) + 0) + 0) ≤ 0 from by omega) (show (((0 + 0) + 0) + 0) ≤ 0 from by omega) dX9_rise_139
                · have hQ := hQ.2 hc
                  refine lv_iconst (v := 3) hx hb dX9_rise_123 (by decide) ?_
                  exact rt_i F hr hlk hw hX hQ (show ((0 + 0) + 0) ≤ 0 from by omega) (show ((0 + 0) + 0) ≤ 0 from by omega) dX9_rise_124
            · have hQ := hQ.2 hc
              refine lv_lconst (v := 1) hx hb dX9_rise_85 (by decide) ?_
              refine lv_goto (tgt := 91) hx hb dX9_rise_86 (by decide) ?_
              refine lv_ladd hx hb dX9_rise_91 ?_
              refine lv_topl (fun v111 ev111 => ?_)
              have hQ := hQ v111 ev111
              refine lv_lstore (lv' := [(5, .long v111), (9, .long v85), (7, .long (0 : Int64)), (0, .ref a0), (1, .int p1), (2, .int p2), (3, .long p3)]) hx hb dX9_rise_92 hl (by decide) rfl (fun ls hl => ?_)
              refine lv_aload_n hx hb dX9_rise_94 rfl (lv_at hl 3 rfl) ?_
              refine g_8_5 F hw hA0 twf_RX9_23 dX9_rise_95 (fun a112 hA112 => ?_)
              refine lv_iload_n hx hb dX9_rise_98 rfl (lv_at hl 4 rfl) ?_
              obtain ⟨hin, hQ⟩ := hQ
              refine al_21 F hw hA112 hin dX9_rise_99 ?_
              refine lv_iload_n hx hb dX9_rise_100 rfl (lv_at hl 5 rfl) ?_
              refine lv_icmp_ne (tgt := 113) hx hb dX9_rise_101 (by decide) (fun hc => ?_) (fun hc => ?_)
              · have hQ := hQ.1 hc
                refine lv_lconst (v := 0) hx hb dX9_rise_113 (by decide) ?_
                refine lv_lstore (lv' := [(7, .long (0 : Int64)), (5, .long v111), (9, .long v85), (0, .ref a0), (1, .int p1), (2, .int p2), (3, .long p3)]) hx hb dX9_rise_114 hl (by decide) rfl (fun ls hl => ?_)
                refine lv_lload_n hx hb dX9_rise_116 rfl (lv_at hl 6 rfl) ?_
                refine lv_lload hx hb dX9_rise_117 (lv_at hl 1 rfl) ?_
                refine lc_ge (tgt := 125) F dX9_rise_119 dX9_rise_120 (by decide) (fun hc => ?_) (fun hc => ?_)
                · have hQ := hQ.1 hc
                  refine lv_lload_n hx hb dX9_rise_125 rfl (lv_at hl 6 rfl) ?_
                  refine lv_aload_n hx hb dX9_rise_126 rfl (lv_at hl 3 rfl) ?_
                  refine lv_iload_n hx hb dX9_rise_127 rfl (lv_at hl 5 rfl) ?_
                  refine k_X9_free F hw hl hA0 hQ twm_RX9_157 (Nat.le_of_ble_eq_true rfl) (Nat.le_of_ble_eq_true rfl) (Nat.le_of_ble_eq_true rfl) dX9_rise_128 (show ((0 + 0) + 0) + 0 ≤ 0 from by omega) (show ((0 + 0) + 0) + 0 ≤ 0 from by omega) (fun r114 S113 H locs hQ hw hx1 => ?_)
                  have hX := hX.trans hx1
                  have hA0 := hA0.ext hx1
                  refine lv_lload hx hb dX9_rise_131 (lv_at hl 0 rfl) ?_
                  refine lv_ladd hx hb dX9_rise_133 ?_
                  refine lc_le (tgt := 140) F dX9_rise_134 dX9_rise_135 (by decide) (fun hc => ?_) (fun hc => ?_)
                  · have hQ := hQ.1 hc
                    refine lv_aload_n hx hb dX9_rise_140 rfl (lv_at hl 3 rfl) ?_
                    refine g_8_4 F hw hA0 twf_RX9_20 dX9_rise_141 (fun a115 hA115 => ?_)
                    refine lv_iload_n hx hb dX9_rise_144 rfl (lv_at hl 4 rfl) ?_
                    refine lv_iconst (v := 2) hx hb dX9_rise_145 (by decide) ?_
                    obtain ⟨hin, hQ⟩ := hQ
                    refine as_20 F hw hA115 hin dX9_rise_146 (fun S116 H locs eS116 hw hx1 => ?_)
                    have hQ := hQ S116 eS116
                    have hX := hX.trans hx1
                    have hA0 := hA0.ext hx1
                    refine lv_aload_n hx hb dX9_rise_147 rfl (lv_at hl 3 rfl) ?_
                    refine g_8_5 F hw hA0 twf_RX9_23 dX9_rise_148 (fun a117 hA117 => ?_)
                    refine lv_iload_n hx hb dX9_rise_151 rfl (lv_at hl 4 rfl) ?_
                    refine lv_iload_n hx hb dX9_rise_152 rfl (lv_at hl 5 rfl) ?_
                    obtain ⟨hin, hQ⟩ := hQ
                    refine as_21 F hw hA117 hin dX9_rise_153 (fun S118 H locs eS118 hw hx1 => ?_)
                    have hQ := hQ S118 eS118
                    have hX := hX.trans hx1
                    have hA0 := hA0.ext hx1
                    refine lv_aload_n hx hb dX9_rise_154 rfl (lv_at hl 3 rfl) ?_
                    refine g_8_6 F hw hA0 twf_RX9_26 dX9_rise_155 (fun a119 hA119 => ?_)
                    refine lv_iload_n hx hb dX9_rise_158 rfl (lv_at hl 4 rfl) ?_
                    refine lv_lload_n hx hb dX9_rise_159 rfl (lv_at hl 6 rfl) ?_
                    obtain ⟨hin, hQ⟩ := hQ
                    refine as_22 F hw hA119 hin dX9_rise_160 (fun S120 H locs eS120 hw hx1 => ?_)
                    have hQ := hQ S120 eS120
                    have hX := hX.trans hx1
                    have hA0 := hA0.ext hx1
                    refine lv_aload_n hx hb dX9_rise_161 rfl (lv_at hl 3 rfl) ?_
                    refine g_8_10 F hw hA0 twf_RX9_39 dX9_rise_162 (fun a121 hA121 => ?_)
                    refine lv_iload_n hx hb dX9_rise_165 rfl (lv_at hl 4 rfl) ?_
                    refine lv_aload_n hx hb dX9_rise_166 rfl (lv_at hl 3 rfl) ?_
                    refine g_8_16 F hw hA0 twf_RX9_172 dX9_rise_167 ?_
                    obtain ⟨hin, hQ⟩ := hQ
                    refine as_26 F hw hA121 hin dX9_rise_170 (fun S122 H locs eS122 hw hx1 => ?_)
                    have hQ := hQ S122 eS122
                    have hX := hX.trans hx1
                    have hA0 := hA0.ext hx1
                    refine lv_iconst (v := 0) hx hb dX9_rise_171 (by decide) ?_
                    exact rt_i F hr hlk hw hX hQ (show (((0 + 0) + 0) + 0) ≤ 0 from by omega) (show (((0 + 0) + 0) + 0) ≤ 0 from by omega) dX9_rise_172
                  · have hQ := hQ.2 hc
                    refine lv_iconst (v := 4) hx hb dX9_rise_138 (by decide) ?_
                    exact rt_i F hr hlk hw hX hQ (show (((0 + 0) + 0) + 0) ≤ 0 from by omega) (show (((0 + 0) + 0) + 0) ≤ 0 from by omega) dX9_rise_139
                · have hQ := hQ.2 hc
                  refine lv_iconst (v := 3) hx hb dX9_rise_123 (by decide) ?_
                  exact rt_i F hr hlk hw hX hQ (show ((0 + 0) + 0) ≤ 0 from by omega) (show ((0 + 0) + 0) ≤ 0 from by omega) dX9_rise_124
              · have hQ := hQ.2 hc
                refine lv_aload_n hx hb dX9_rise_104 rfl (lv_at hl 3 rfl) ?_
                refine g_8_6 F hw hA0 twf_RX9_26 dX9_rise_105 (fun a123 hA123 => ?_)
                refine lv_iload_n hx hb dX9_rise_108 rfl (lv_at hl 4 rfl) ?_
                obtain ⟨hin, hQ⟩ := hQ
                refine al_22 F hw hA123 hin dX9_rise_109 ?_
                refine lv_goto (tgt := 114) hx hb dX9_rise_110 (by decide) ?_
                refine lv_topl (fun v124 ev124 => ?_)
                have hQ := hQ v124 ev124
                refine lv_lstore (lv' := [(7, .long v124), (5, .long v111), (9, .long v85), (0, .ref a0), (1, .int p1), (2, .int p2), (3, .long p3)]) hx hb dX9_rise_114 hl (by decide) rfl (fun ls hl => ?_)
                refine lv_lload_n hx hb dX9_rise_116 rfl (lv_at hl 6 rfl) ?_
                refine lv_lload hx hb dX9_rise_117 (lv_at hl 1 rfl) ?_
                refine lc_ge (tgt := 125) F dX9_rise_119 dX9_rise_120 (by decide) (fun hc => ?_) (fun hc => ?_)
                · have hQ := hQ.1 hc
                  refine lv_lload_n hx hb dX9_rise_125 rfl (lv_at hl 6 rfl) ?_
                  refine lv_aload_n hx hb dX9_rise_126 rfl (lv_at hl 3 rfl) ?_
                  refine lv_iload_n hx hb dX9_rise_127 rfl (lv_at hl 5 rfl) ?_
                  refine k_X9_free F hw hl hA0 hQ twm_RX9_157 (Nat.le_of_ble_eq_true rfl) (Nat.le_of_ble_eq_true rfl) (Nat.le_of_ble_eq_true rfl) dX9_rise_128 (show ((0 + 0) + 0) + 0 ≤ 0 from by omega) (show ((0 + 0) + 0) + 0 ≤ 0 from by omega) (fun r126 S125 H locs hQ hw hx1 => ?_)
                  have hX := hX.trans hx1
                  have hA0 := hA0.ext hx1
                  refine lv_lload hx hb dX9_rise_131 (lv_at hl 0 rfl) ?_
                  refine lv_ladd hx hb dX9_rise_133 ?_
                  refine lc_le (tgt := 140) F dX9_rise_134 dX9_rise_135 (by decide) (fun hc => ?_) (fun hc => ?_)
                  · have hQ := hQ.1 hc
                    refine lv_aload_n hx hb dX9_rise_140 rfl (lv_at hl 3 rfl) ?_
                    refine g_8_4 F hw hA0 twf_RX9_20 dX9_rise_141 (fun a127 hA127 => ?_)
                    refine lv_iload_n hx hb dX9_rise_144 rfl (lv_at hl 4 rfl) ?_
                    refine lv_iconst (v := 2) hx hb dX9_rise_145 (by decide) ?_
                    obtain ⟨hin, hQ⟩ := hQ
                    refine as_20 F hw hA127 hin dX9_rise_146 (fun S128 H locs eS128 hw hx1 => ?_)
                    have hQ := hQ S128 eS128
                    have hX := hX.trans hx1
                    have hA0 := hA0.ext hx1
                    refine lv_aload_n hx hb dX9_rise_147 rfl (lv_at hl 3 rfl) ?_
                    refine g_8_5 F hw hA0 twf_RX9_23 dX9_rise_148 (fun a129 hA129 => ?_)
                    refine lv_iload_n hx hb dX9_rise_151 rfl (lv_at hl 4 rfl) ?_
                    refine lv_iload_n hx hb dX9_rise_152 rfl (lv_at hl 5 rfl) ?_
                    obtain ⟨hin, hQ⟩ := hQ
                    refine as_21 F hw hA129 hin dX9_rise_153 (fun S130 H locs eS130 hw hx1 => ?_)
                    have hQ := hQ S130 eS130
                    have hX := hX.trans hx1
                    have hA0 := hA0.ext hx1
                    refine lv_aload_n hx hb dX9_rise_154 rfl (lv_at hl 3 rfl) ?_
                    refine g_8_6 F hw hA0 twf_RX9_26 dX9_rise_155 (fun a131 hA131 => ?_)
                    refine lv_iload_n hx hb dX9_rise_158 rfl (lv_at hl 4 rfl) ?_
                    refine lv_lload_n hx hb dX9_rise_159 rfl (lv_at hl 6 rfl) ?_
                    obtain ⟨hin, hQ⟩ := hQ
                    refine as_22 F hw hA131 hin dX9_rise_160 (fun S132 H locs eS132 hw hx1 => ?_)
                    have hQ := hQ S132 eS132
                    have hX := hX.trans hx1
                    have hA0 := hA0.ext hx1
                    refine lv_aload_n hx hb dX9_rise_161 rfl (lv_at hl 3 rfl) ?_
                    refine g_8_10 F hw hA0 twf_RX9_39 dX9_rise_162 (fun a133 hA133 => ?_)
                    refine lv_iload_n hx hb dX9_rise_165 rfl (lv_at hl 4 rfl) ?_
                    refine lv_aload_n hx hb dX9_rise_166 rfl (lv_at hl 3 rfl) ?_
                    refine g_8_16 F hw hA0 twf_RX9_172 dX9_rise_167 ?_
                    obtain ⟨hin, hQ⟩ := hQ
                    refine as_26 F hw hA133 hin dX9_rise_170 (fun S134 H locs eS134 hw hx1 => ?_)
                    have hQ := hQ S134 eS134
                    have hX := hX.trans hx1
                    have hA0 := hA0.ext hx1
                    refine lv_iconst (v := 0) hx hb dX9_rise_171 (by decide) ?_
                    exact rt_i F hr hlk hw hX hQ (show (((0 + 0) + 0) + 0) ≤ 0 from by omega) (show (((0 + 0) + 0) + 0) ≤ 0 from by omega) dX9_rise_172
                  · have hQ := hQ.2 hc
                    refine lv_iconst (v := 4) hx hb dX9_rise_138 (by decide) ?_
                    exact rt_i F hr hlk hw hX hQ (show (((0 + 0) + 0) + 0) ≤ 0 from by omega) (show (((0 + 0) + 0) + 0) ≤ 0 from by omega) dX9_rise_139
                · have hQ := hQ.2 hc
                  refine lv_iconst (v := 3) hx hb dX9_rise_123 (by decide) ?_
                  exact rt_i F hr hlk hw hX hQ (show ((0 + 0) + 0) ≤ 0 from by omega) (show ((0 + 0) + 0) ≤ 0 from by omega) dX9_rise_124
        · have hQ := hQ.2 hc
          refine lv_iconst (v := 2) hx hb dX9_rise_37 (by decide) ?_
          exact rt_i F hr hlk hw hX hQ (show ((0 + 0) + 0) ≤ 0 from by omega) (show ((0 + 0) + 0) ≤ 0 from by omega) dX9_rise_38
    · have hQ := hQ.2 hc
      refine lv_iconst (v := 1) hx hb dX9_rise_16 (by decide) ?_
      exact rt_i F hr hlk hw hX hQ (show ((0 + 0) + 0) ≤ 0 from by omega) (show ((0 + 0) + 0) ≤ 0 from by omega) dX9_rise_17
theorem k_X9_rise {p : Program} {l : Launch} {e : Env} {R : Room} {s : State} {m : MethodId} {args : Array Value} {below : List Frame} {meth : Method} {c : Code} {H : Heap} {locs : List Loc} {cells slots : Nat} {Q : State → Prop} {cc : ByteArray} {pc nL : Nat} {ls : Array Slot} {rest : List Value} {G : GT} {S : St} {own : String} {p1 : Int32} {p2 : Int32} {p3 : Int64} {post : Int32 → St → Prop} {lv : List (Nat × Value)} {idx : Nat} (F : CX p m c cc nL s args own) (hw : WW G S s H locs) (hl : lv_has ls nL lv) {a0 : Nat} (hA0 : AtO S 8 0 a0) (hQ : wp_X9_rise p1 p2 p3 S post) (h1 : Cond.methodLink own idx yX9_rise ∈ wT) (hR1 : 2 + 1 ≤ R.frames) (hR2 : 8 + (11 + 11) + 45 ≤ R.locals) (hrest : (rest.map fun v => v.category).sum ≤ 8) (hdg : decode cc pc = .ok (.invokevirtual idx, 3)) (hf1 : cells + 0 ≤ R.cells) (hf2 : slots + 0 ≤ R.slots)
    (kk : ∀ (r : Int32) (S1 : St) (H1 : Heap) (locs1 : List Loc), post r S1 → WW G S1 s H1 locs1 → Ext S S1 → W p l e R s m args below meth c H1 locs1 (cells + 0) (slots + 0) Q (F0 m (pc + 3) ls (.int r :: rest))) : W p l e R s m args below meth c H locs cells slots Q (F0 m pc ls (.long p3 :: .int p2 :: .int p1 :: .ref a0 :: rest)) :=
  cl_i (rn_V (n := 3) (As := [.int p1, .int p2, .long p3]) (q := (RX9, TX9, 36)) F hw hl (m_X9_rise l G p1 p2 p3 S a0 hA0 post hQ) 8 (by decide) (by decide) hA0 rfl rfl h1 twi_yX9_rise tws_yX9_rise twn_RX9 two_yX9_rise rfl rfl ⟨rfl, by decide, by decide, by decide +kernel⟩ rfl ⟨hR1, hR2⟩ rfl hrest hdg ⟨hf1, hf2⟩) hw kk

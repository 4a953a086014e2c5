-- X6_tryFrom
def bd_X6_tryFrom (K : Int32 → Int32 → Int64 → Int64 → St → (St → Prop) → Prop) (p2 : Int32) (p3 : Int32) (p4 : Int64) (p5 : Int64) (S0 : St) (post : St → Prop) : Prop :=
  wp_X6_isBetter p5 p3 S0 (fun r2 S1 =>
  (r2 = 0 →
  wp_X6_goodAt p2 S1 (fun r4 S3 =>
  (r4 = none →
  post S3) ∧
  (∀ j5 : Nat, r4 = some j5 →
  wp_X6_restFrom p2 S3 (fun r7 S6 =>
  wp_X6_isBetter (p5 + r7) p3 S6 (fun r9 S8 =>
  (¬ r9 = 0 →
  (¬ ((gj S8 0 j5 3) &&& p4) = (0 : Int64) →
  K (p2 + (1 : Int32)) p3 p4 p5 S8 (fun S10 =>
  post S10)) ∧
  (((gj S8 0 j5 3) &&& p4) = (0 : Int64) →
  wp_X6_spend (gi S8 0 j5 1) (gj S8 0 j5 2) S8 (fun r12 S11 =>
  (r12 = 0 →
  K (p2 + (1 : Int32)) p3 p4 p5 S11 (fun S13 =>
  post S13)) ∧
  (¬ r12 = 0 →
  K (p2 + (1 : Int32)) (p3 ||| ((1 : Int32) <<< ((gi S11 0 j5 0) &&& 31))) (p4 ||| (gj S11 0 j5 3)) (p5 + (gj S11 0 j5 2)) S11 (fun S14 =>
  wp_X6_spend (gi S14 0 j5 1) (-(gj S14 0 j5 2)) S14 (fun r16 S15 =>
  K (p2 + (1 : Int32)) p3 p4 p5 S15 (fun S17 =>
  post S17))))))) ∧
  (r9 = 0 →
  post S8)))))) ∧
  (¬ r2 = 0 →
  ∀ S18 : St, S18 = sj S1 6 0 5 p5 →
  ∀ S19 : St, S19 = si S18 6 0 4 p3 →
  wp_X6_goodAt p2 S19 (fun r21 S20 =>
  (r21 = none →
  post S20) ∧
  (∀ j22 : Nat, r21 = some j22 →
  wp_X6_restFrom p2 S20 (fun r24 S23 =>
  wp_X6_isBetter (p5 + r24) p3 S23 (fun r26 S25 =>
  (¬ r26 = 0 →
  (¬ ((gj S25 0 j22 3) &&& p4) = (0 : Int64) →
  K (p2 + (1 : Int32)) p3 p4 p5 S25 (fun S27 =>
  post S27)) ∧
  (((gj S25 0 j22 3) &&& p4) = (0 : Int64) →
  wp_X6_spend (gi S25 0 j22 1) (gj S25 0 j22 2) S25 (fun r29 S28 =>
  (r29 = 0 →
  K (p2 + (1 : Int32)) p3 p4 p5 S28 (fun S30 =>
  post S30)) ∧
  (¬ r29 = 0 →
  K (p2 + (1 : Int32)) (p3 ||| ((1 : Int32) <<< ((gi S28 0 j22 0) &&& 31))) (p4 ||| (gj S28 0 j22 3)) (p5 + (gj S28 0 j22 2)) S28 (fun S31 =>
  wp_X6_spend (gi S31 0 j22 1) (-(gj S31 0 j22 2)) S31 (fun r33 S32 =>
  K (p2 + (1 : Int32)) p3 p4 p5 S32 (fun S34 =>
  post S34))))))) ∧
  (r26 = 0 →
  post S25)))))))
def wp_X6_tryFrom : Nat → Int32 → Int32 → Int64 → Int64 → St → (St → Prop) → Prop
  | 0, _, _, _, _, _, _ => False
  | n + 1, p2, p3, p4, p5, S0, post => bd_X6_tryFrom (fun p2 p3 p4 p5 S0 post => wp_X6_tryFrom n p2 p3 p4 p5 S0 post) p2 p3 p4 p5 S0 post
set_option maxRecDepth 100000 in
set_option maxHeartbeats 4000000 in
theorem m_X6_tryFrom (l : Launch) (G : GT) : ∀ (n : Nat) (p2 : Int32) (p3 : Int32) (p4 : Int64) (p5 : Int64) (S0 : St) (ap1 : Nat) (hAp1 : AtO S0 6 0 ap1) (post : St → Prop) (hQ : wp_X6_tryFrom n p2 p3 p4 p5 S0 post), Met l yX6_tryFrom (wM yX6_tryFrom cX6_tryFrom 8 none) ({ frames := 3 + n, cells := 0, slots := 0, locals := 63 + n * 27 } : Room) (PC G S0 [.ref ap1, .int p2, .int p3, .long p4, .long p5]) (QV G S0 post) 0 0 (QA G) := by
  intro n
  induction n with
  | zero => intro p2 p3 p4 p5 S0 ap1 hAp1 post hQ; exact False.elim hQ
  | succ n ih =>
    intro p2 p3 p4 p5 S0 ap1 hAp1 post hQ
    have hQ : bd_X6_tryFrom (fun p2 p3 p4 p5 S0 post => wp_X6_tryFrom n p2 p3 p4 p5 S0 post) p2 p3 p4 p5 S0 post := hQ
    refine mt_start RX6 (by decide) rfl (Nat.le_of_ble_eq_true rfl) ?_
    intro p e s m args below meth c ls F hr hlk hnm hw hl
    have hx := F.1
    have hb := F.2.1
    have hown := F.2.2.2.1
    have hts := F.2.2.2.2
    have hX : Ext S0 S0 := Ext.rf
    have hsz0 := hw.1.1.1
    have hl : lv_has ls 8 [(0, .ref ap1), (1, .int p2), (2, .int p3), (3, .long p4), (5, .long p5)] := hl
    unfold bd_X6_tryFrom at hQ
    refine lv_aload_n hx hb dX6_tryFrom_0 rfl (lv_at hl 0 rfl) ?_
    refine lv_lload hx hb dX6_tryFrom_1 (lv_at hl 4 rfl) ?_
    refine lv_iload_n hx hb dX6_tryFrom_3 rfl (lv_at hl 2 rfl) ?_
    refine k_X6_isBetter F hw hl hAp1 hQ twm_RX6_51 (show 2 + 1 ≤ 3 + (n + 1) from by omega) (show 8 + (4 + 11) + 40 ≤ 63 + (n + 1) * 27 from by omega) (Nat.le_of_ble_eq_true rfl) dX6_tryFrom_4 (show 0 + 0 ≤ 0 from by omega) (show 0 + 0 ≤ 0 from by omega) (fun r2 S1 H locs hQ hw hx1 => ?_)
    have hX := hX.trans hx1
    have hAp1 := hAp1.ext hx1
    refine lv_if_eq (tgt := 21) hx hb dX6_tryFrom_7 (by decide) (fun hc => ?_) (fun hc => ?_)
    · have hQ := hQ.1 hc
      refine lv_aload_n hx hb dX6_tryFrom_21 rfl (lv_at hl 0 rfl) ?_
      refine lv_iload_n hx hb dX6_tryFrom_22 rfl (lv_at hl 1 rfl) ?_
      refine k_X6_goodAt F hw hl hAp1 hQ twm_RX6_55 (show 0 + 1 ≤ 3 + (n + 1) from by omega) (show 8 + (2 + 11) + 0 ≤ 63 + (n + 1) * 27 from by omega) (Nat.le_of_ble_eq_true rfl) dX6_tryFrom_23 (show (0 + 0) + 0 ≤ 0 from by omega) (show (0 + 0) + 0 ≤ 0 from by omega) (fun S3 H locs hQ hw hx1 => ?_) (fun j5 a5 S3 H locs hQ hA5 hw hx1 => ?_)
      · have hQ := hQ.1 rfl
        have hX := hX.trans hx1
        have hAp1 := hAp1.ext hx1
        refine lv_astoreN (lv' := [(7, .null), (0, .ref ap1), (1, .int p2), (2, .int p3), (3, .long p4), (5, .long p5)]) hx hb dX6_tryFrom_26 hl (by decide) rfl (fun ls hl => ?_)
        refine lv_aloadN hx hb dX6_tryFrom_28 (lv_at hl 0 rfl) ?_
        refine lv_ifnullN (tgt := 49) hx hb dX6_tryFrom_30 (by decide) ?_
        exact rt_v F hr hlk hw hX hQ (show ((0 + 0) + 0) ≤ 0 from by omega) (show ((0 + 0) + 0) ≤ 0 from by omega) dX6_tryFrom_49
      · have hQ := hQ.2 j5 rfl
        have hX := hX.trans hx1
        have hAp1 := hAp1.ext hx1
        refine lv_astore (lv' := [(7, .ref a5), (0, .ref ap1), (1, .int p2), (2, .int p3), (3, .long p4), (5, .long p5)]) hx hb dX6_tryFrom_26 hl (by decide) rfl (fun ls hl => ?_)
        refine lv_aload hx hb dX6_tryFrom_28 (lv_at hl 0 rfl) ?_
        refine lv_ifnull hx hb dX6_tryFrom_30 ?_
        refine lv_aload_n hx hb dX6_tryFrom_33 rfl (lv_at hl 1 rfl) ?_
        refine lv_lload hx hb dX6_tryFrom_34 (lv_at hl 5 rfl) ?_
        refine lv_aload_n hx hb dX6_tryFrom_36 rfl (lv_at hl 1 rfl) ?_
        refine lv_iload_n hx hb dX6_tryFrom_37 rfl (lv_at hl 2 rfl) ?_
        refine k_X6_restFrom F hw hl hAp1 hQ twm_RX6_59 (show 0 + 1 ≤ 3 + (n + 1) from by omega) (show 8 + (2 + 11) + 0 ≤ 63 + (n + 1) * 27 from by omega) (Nat.le_of_ble_eq_true rfl) dX6_tryFrom_38 (show ((0 + 0) + 0) + 0 ≤ 0 from by omega) (show ((0 + 0) + 0) + 0 ≤ 0 from by omega) (fun r7 S6 H locs hQ hw hx1 => ?_)
        have hX := hX.trans hx1
        have hAp1 := hAp1.ext hx1
        have hA5 := hA5.ext hx1
        refine lv_ladd hx hb dX6_tryFrom_41 ?_
        refine lv_iload_n hx hb dX6_tryFrom_42 rfl (lv_at hl 3 rfl) ?_
        refine k_X6_isBetter F hw hl hAp1 hQ twm_RX6_51 (show 2 + 1 ≤ 3 + (n + 1) from by omega) (show 8 + (4 + 11) + 40 ≤ 63 + (n + 1) * 27 from by omega) (Nat.le_of_ble_eq_true rfl) dX6_tryFrom_43 (show (((0 + 0) + 0) + 0) + 0 ≤ 0 from by omega) (show (((0 + 0) + 0) + 0) + 0 ≤ 0 from by omega) (fun r9 S8 H locs hQ hw hx1 => ?_)
        have hX := hX.trans hx1
        have hA5 := hA5.ext hx1
        have hAp1 := hAp1.ext hx1
        refine lv_if_ne (tgt := 50) hx hb dX6_tryFrom_46 (by decide) (fun hc => ?_) (fun hc => ?_)
        · have hQ := hQ.1 hc
          refine lv_aload hx hb dX6_tryFrom_50 (lv_at hl 0 rfl) ?_
          refine g_0_3 F hw hA5 twf_RX6_63 dX6_tryFrom_52 ?_
          refine lv_lload_n hx hb dX6_tryFrom_55 rfl (lv_at hl 4 rfl) ?_
          refine lv_land hx hb dX6_tryFrom_56 ?_
          refine lv_lconst (v := 0) hx hb dX6_tryFrom_57 (by decide) ?_
          refine lc_ne (tgt := 126) F dX6_tryFrom_58 dX6_tryFrom_59 (by decide) (fun hc => ?_) (fun hc => ?_)
          · have hQ := hQ.1 hc
            refine lv_aload_n hx hb dX6_tryFrom_126 rfl (lv_at hl 1 rfl) ?_
            refine lv_iload_n hx hb dX6_tryFrom_127 rfl (lv_at hl 2 rfl) ?_
            refine lv_iconst (v := 1) hx hb dX6_tryFrom_128 (by decide) ?_
            refine lv_iadd hx hb dX6_tryFrom_129 ?_
            refine lv_iload_n hx hb dX6_tryFrom_130 rfl (lv_at hl 3 rfl) ?_
            refine lv_lload_n hx hb dX6_tryFrom_131 rfl (lv_at hl 4 rfl) ?_
            refine lv_lload hx hb dX6_tryFrom_132 (lv_at hl 5 rfl) ?_
            refine cl_v (rn_S (n := 5) (As := [.ref ap1, .int (p2 + (1 : Int32)), .int p3, .long p4, .long p5]) F hw hl (ih (p2 + (1 : Int32)) p3 p4 p5 S8 ap1 hAp1 _ hQ) twm_RX6_44 twi_yX6_tryFrom twn_RX6 two_yX6_tryFrom rfl rfl ⟨by decide, by decide, by decide +kernel⟩ rfl ⟨(show 3 + n + 1 ≤ 3 + (n + 1) from by omega), (show 8 + (8 + 11) + (63 + n * 27) ≤ 63 + (n + 1) * 27 from by omega)⟩ rfl (Nat.le_of_ble_eq_true rfl) dX6_tryFrom_134 ⟨(show ((((0 + 0) + 0) + 0) + 0) + 0 ≤ 0 from by omega), (show ((((0 + 0) + 0) + 0) + 0) + 0 ≤ 0 from by omega)⟩) hw (fun S10 H locs hQ hw hx1 => ?_)
            have hX := hX.trans hx1
            have hA5 := hA5.ext hx1
            have hAp1 := hAp1.ext hx1
            exact rt_v F hr hlk hw hX hQ (show (((((0 + 0) + 0) + 0) + 0) + 0) ≤ 0 from by omega) (show (((((0 + 0) + 0) + 0) + 0) + 0) ≤ 0 from by omega) dX6_tryFrom_137
          · have hQ := hQ.2 hc
            refine lv_aload_n hx hb dX6_tryFrom_62 rfl (lv_at hl 1 rfl) ?_
            refine lv_aload hx hb dX6_tryFrom_63 (lv_at hl 0 rfl) ?_
            refine g_0_1 F hw hA5 twf_RX6_66 dX6_tryFrom_65 ?_
            refine lv_aload hx hb dX6_tryFrom_68 (lv_at hl 0 rfl) ?_
            refine g_0_2 F hw hA5 twf_RX6_48 dX6_tryFrom_70 ?_
            refine k_X6_spend F hw hl hAp1 hQ twm_RX6_69 (show 0 + 1 ≤ 3 + (n + 1) from by omega) (show 8 + (4 + 11) + 0 ≤ 63 + (n + 1) * 27 from by omega) (Nat.le_of_ble_eq_true rfl) dX6_tryFrom_73 (show ((((0 + 0) + 0) + 0) + 0) + 0 ≤ 0 from by omega) (show ((((0 + 0) + 0) + 0) + 0) + 0 ≤ 0 from by omega) (fun r12 S11 H locs hQ hw hx1 => ?_)
            have hX := hX.trans hx1
            have hA5 := hA5.ext hx1
            have hAp1 := hAp1.ext hx1
            refine lv_if_eq (tgt := 126) hx hb dX6_tryFrom_76 (by decide) (fun hc => ?_) (fun hc => ?_)
            · have hQ := hQ.1 hc
              refine lv_aload_n hx hb dX6_tryFrom_126 rfl (lv_at hl 1 rfl) ?_
              refine lv_iload_n hx hb dX6_tryFrom_127 rfl (lv_at hl 2 rfl) ?_
              refine lv_iconst (v := 1) hx hb dX6_tryFrom_128 (by decide) ?_
              refine lv_iadd hx hb dX6_tryFrom_129 ?_
              refine lv_iload_n hx hb dX6_tryFrom_130 rfl (lv_at hl 3 rfl) ?_
              refine lv_lload_n hx hb dX6_tryFrom_131 rfl (lv_at hl 4 rfl) ?_
              refine lv_lload hx hb dX6_tryFrom_132 (lv_at hl 5 rfl) ?_
              refine cl_v (rn_S (n := 5) (As := [.ref ap1, .int (p2 + (1 : Int32)), .int p3, .long p4, .long p5]) F hw hl (ih (p2 + (1 : Int32)) p3 p4 p5 S11 ap1 hAp1 _ hQ) twm_RX6_44 twi_yX6_tryFrom twn_RX6 two_yX6_tryFrom rfl rfl ⟨by decide, by decide, by decide +kernel⟩ rfl ⟨(show 3 + n + 1 ≤ 3 + (n + 1) from by omega), (show 8 + (8 + 11) + (63 + n * 27) ≤ 63 + (n + 1) * 27 from by omega)⟩ rfl (Nat.le_of_ble_eq_true rfl) dX6_tryFrom_134 ⟨(show (((((0 + 0) + 0) + 0) + 0) + 0) + 0 ≤ 0 from by omega), (show (((((0 + 0) + 0) + 0) + 0) + 0) + 0 ≤ 0 from by omega)⟩) hw (fun S13 H locs hQ hw hx1 => ?_)
              have hX := hX.trans hx1
              have hA5 := hA5.ext hx1
              have hAp1 := hAp1.ext hx1
              exact rt_v F hr hlk hw hX hQ (show ((((((0 + 0) + 0) + 0) + 0) + 0) + 0) ≤ 0 from by omega) (show ((((((0 + 0) + 0) + 0) + 0) + 0) + 0) ≤ 0 from by omega) dX6_tryFrom_137
            · have hQ := hQ.2 hc
              refine lv_aload_n hx hb dX6_tryFrom_79 rfl (lv_at hl 1 rfl) ?_
              refine lv_iload_n hx hb dX6_tryFrom_80 rfl (lv_at hl 2 rfl) ?_
              refine lv_iconst (v := 1) hx hb dX6_tryFrom_81 (by decide) ?_
              refine lv_iadd hx hb dX6_tryFrom_82 ?_
              refine lv_iload_n hx hb dX6_tryFrom_83 rfl (lv_at hl 3 rfl) ?_
              refine lv_iconst (v := 1) hx hb dX6_tryFrom_84 (by decide) ?_
              refine lv_aload hx hb dX6_tryFrom_85 (lv_at hl 0 rfl) ?_
              refine g_0_0 F hw hA5 twf_RX6_73 dX6_tryFrom_87 ?_
              refine lv_ishl hx hb dX6_tryFrom_90 ?_
              refine lv_ior hx hb dX6_tryFrom_91 ?_
              refine lv_lload_n hx hb dX6_tryFrom_92 rfl (lv_at hl 4 rfl) ?_
              refine lv_aload hx hb dX6_tryFrom_93 (lv_at hl 0 rfl) ?_
              refine g_0_3 F hw hA5 twf_RX6_63 dX6_tryFrom_95 ?_
              refine lv_lor hx hb dX6_tryFrom_98 ?_
              refine lv_lload hx hb dX6_tryFrom_99 (lv_at hl 5 rfl) ?_
              refine lv_aload hx hb dX6_tryFrom_101 (lv_at hl 0 rfl) ?_
              refine g_0_2 F hw hA5 twf_RX6_48 dX6_tryFrom_103 ?_
              refine lv_ladd hx hb dX6_tryFrom_106 ?_
              refine cl_v (rn_S (n := 5) (As := [.ref ap1, .int (p2 + (1 : Int32)), .int (p3 ||| ((1 : Int32) <<< ((gi S11 0 j5 0) &&& 31))), .long (p4 ||| (gj S11 0 j5 3)), .long (p5 + (gj S11 0 j5 2))]) F hw hl (ih (p2 + (1 : Int32)) (p3 ||| ((1 : Int32) <<< ((gi S11 0 j5 0) &&& 31))) (p4 ||| (gj S11 0 j5 3)) (p5 + (gj S11 0 j5 2)) S11 ap1 hAp1 _ hQ) twm_RX6_44 twi_yX6_tryFrom twn_RX6 two_yX6_tryFrom rfl rfl ⟨by decide, by decide, by decide +kernel⟩ rfl ⟨(show 3 + n + 1 ≤ 3 + (n + 1) from by omega), (show 8 + (8 + 11) + (63 + n * 27) ≤ 63 + (n + 1) * 27 from by omega)⟩ rfl (Nat.le_of_ble_eq_true rfl) dX6_tryFrom_107 ⟨(show (((((0 + 0) + 0) + 0) + 0) + 0) + 0 ≤ 0 from by omega), (show (((((0 + 0) + 0) + 0) + 0) + 0) + 0 ≤ 0 from by omega)⟩) hw (fun S14 H locs hQ hw hx1 => ?_)
              have hX := hX.trans hx1
              have hA5 := hA5.ext hx1
              have hAp1 := hAp1.ext hx1
              refine lv_aload_n hx hb dX6_tryFrom_110 rfl (lv_at hl 1 rfl) ?_
              refine lv_aload hx hb dX6_tryFrom_111 (lv_at hl 0 rfl) ?_
              refine g_0_1 F hw hA5 twf_RX6_66 dX6_tryFrom_113 ?_
              refine lv_aload hx hb dX6_tryFrom_116 (lv_at hl 0 rfl) ?_
              refine g_0_2 F hw hA5 twf_RX6_48 dX6_tryFrom_118 ?_
              refine lv_lneg hx hb dX6_tryFrom_121 ?_
              refine k_X6_spend F hw hl hAp1 hQ twm_RX6_69 (show 0 + 1 ≤ 3 + (n + 1) from by omega) (show 8 + (4 + 11) + 0 ≤ 63 + (n + 1) * 27 from by omega) (Nat.le_of_ble_eq_true rfl) dX6_tryFrom_122 (show ((((((0 + 0) + 0) + 0) + 0) + 0) + 0) + 0 ≤ 0 from by omega) (show ((((((0 + 0) + 0) + 0) + 0) + 0) + 0) + 0 ≤ 0 from by omega) (fun r16 S15 H locs hQ hw hx1 => ?_)
              have hX := hX.trans hx1
              have hA5 := hA5.ext hx1
              have hAp1 := hAp1.ext hx1
              refine lv_pop hx hb dX6_tryFrom_125 rfl ?_
              refine lv_aload_n hx hb dX6_tryFrom_126 rfl (lv_at hl 1 rfl) ?_
              refine lv_iload_n hx hb dX6_tryFrom_127 rfl (lv_at hl 2 rfl) ?_
              refine lv_iconst (v := 1) hx hb dX6_tryFrom_128 (by decide) ?_
              refine lv_iadd hx hb dX6_tryFrom_129 ?_
              refine lv_iload_n hx hb dX6_tryFrom_130 rfl (lv_at hl 3 rfl) ?_
              refine lv_lload_n hx hb dX6_tryFrom_131 rfl (lv_at hl 4 rfl) ?_
              refine lv_lload hx hb dX6_tryFrom_132 (lv_at hl 5 rfl) ?_
              refine cl_v (rn_S (n := 5) (As := [.ref ap1, .int (p2 + (1 : Int32)), .int p3, .long p4, .long p5]) F hw hl (ih (p2 + (1 : Int32)) p3 p4 p5 S15 ap1 hAp1 _ hQ) twm_RX6_44 twi_yX6_tryFrom twn_RX6 two_yX6_tryFrom rfl rfl ⟨by decide, by decide, by decide +kernel⟩ rfl ⟨(show 3 + n + 1 ≤ 3 + (n + 1) from by omega), (show 8 + (8 + 11) + (63 + n * 27) ≤ 63 + (n + 1) * 27 from by omega)⟩ rfl (Nat.le_of_ble_eq_true rfl) dX6_tryFrom_134 ⟨(show (((((((0 + 0) + 0) + 0) + 0) + 0) + 0) + 0) + 0 ≤ 0 from by omega), (show (((((((0 + 0) + 0) + 0) + 0) + 0) + 0) + 0) + 0 ≤ 0 from by omega)⟩) hw (fun S17 H locs hQ hw hx1 => ?_)
              have hX := hX.trans hx1
              have hA5 := hA5.ext hx1
              have hAp1 := hAp1.ext hx1
              exact rt_v F hr hlk hw hX hQ (show ((((((((0 + 0) + 0) + 0) + 0) + 0) + 0) + 0) + 0) ≤ 0 from by omega) (show ((((((((0 + 0) + 0) + 0) + 0) + 0) + 0) + 0) + 0) ≤ 0 from by omega) dX6_tryFrom_137
        · have hQ := hQ.2 hc
          exact rt_v F hr hlk hw hX hQ (show ((((0 + 0) + 0) + 0) + 0) ≤ 0 from by omega) (show ((((0 + 0) + 0) + 0) + 0) ≤ 0 from by omega) dX6_tryFrom_49
    · have hQ := hQ.2 hc
      refine lv_aload_n hx hb dX6_tryFrom_10 rfl (lv_at hl 0 rfl) ?_
      refine lv_lload hx hb dX6_tryFrom_11 (lv_at hl 4 rfl) ?_
      refine p_6_5 F hw hAp1 twf_RX6_31 dX6_tryFrom_13 (fun S18 H locs eS18 hw hx1 => ?_)
      have hQ := hQ S18 eS18
      have hX := hX.trans hx1
      have hAp1 := hAp1.ext hx1
      refine lv_aload_n hx hb dX6_tryFrom_16 rfl (lv_at hl 0 rfl) ?_
      refine lv_iload_n hx hb dX6_tryFrom_17 rfl (lv_at hl 2 rfl) ?_
      refine p_6_4 F hw hAp1 twf_RX6_28 dX6_tryFrom_18 (fun S19 H locs eS19 hw hx1 => ?_)
      have hQ := hQ S19 eS19
      have hX := hX.trans hx1
      have hAp1 := hAp1.ext hx1
      refine lv_aload_n hx hb dX6_tryFrom_21 rfl (lv_at hl 0 rfl) ?_
      refine lv_iload_n hx hb dX6_tryFrom_22 rfl (lv_at hl 1 rfl) ?_
      refine k_X6_goodAt F hw hl hAp1 hQ twm_RX6_55 (show 0 + 1 ≤ 3 + (n + 1) from by omega) (show 8 + (2 + 11) + 0 ≤ 63 + (n + 1) * 27 from by omega) (Nat.le_of_ble_eq_true rfl) dX6_tryFrom_23 (show (0 + 0) + 0 ≤ 0 from by omega) (show (0 + 0) + 0 ≤ 0 from by omega) (fun S20 H locs hQ hw hx1 => ?_) (fun j22 a22 S20 H locs hQ hA22 hw hx1 => ?_)
      · have hQ := hQ.1 rfl
        have hX := hX.trans hx1
        have hAp1 := hAp1.ext hx1
        refine lv_astoreN (lv' := [(7, .null), (0, .ref ap1), (1, .int p2), (2, .int p3), (3, .long p4), (5, .long p5)]) hx hb dX6_tryFrom_26 hl (by decide) rfl (fun ls hl => ?_)
        refine lv_aloadN hx hb dX6_tryFrom_28 (lv_at hl 0 rfl) ?_
        refine lv_ifnullN (tgt := 49) hx hb dX6_tryFrom_30 (by decide) ?_
        exact rt_v F hr hlk hw hX hQ (show ((0 + 0) + 0) ≤ 0 from by omega) (show ((0 + 0) + 0) ≤ 0 from by omega) dX6_tryFrom_49
      · have hQ := hQ.2 j22 rfl
        have hX := hX.trans hx1
        have hAp1 := hAp1.ext hx1
        refine lv_astore (lv' := [(7, .ref a22), (0, .ref ap1), (1, .int p2), (2, .int p3), (3, .long p4), (5, .long p5)]) hx hb dX6_tryFrom_26 hl (by decide) rfl (fun ls hl => ?_)
        refine lv_aload hx hb dX6_tryFrom_28 (lv_at hl 0 rfl) ?_
        refine lv_ifnull hx hb dX6_tryFrom_30 ?_
        refine lv_aload_n hx hb dX6_tryFrom_33 rfl (lv_at hl 1 rfl) ?_
        refine lv_lload hx hb dX6_tryFrom_34 (lv_at hl 5 rfl) ?_
        refine lv_aload_n hx hb dX6_tryFrom_36 rfl (lv_at hl 1 rfl) ?_
        refine lv_iload_n hx hb dX6_tryFrom_37 rfl (lv_at hl 2 rfl) ?_
        refine k_X6_restFrom F hw hl hAp1 hQ twm_RX6_59 (show 0 + 1 ≤ 3 + (n + 1) from by omega) (show 8 + (2 + 11) + 0 ≤ 63 + (n + 1) * 27 from by omega) (Nat.le_of_ble_eq_true rfl) dX6_tryFrom_38 (show ((0 + 0) + 0) + 0 ≤ 0 from by omega) (show ((0 + 0) + 0) + 0 ≤ 0 from by omega) (fun r24 S23 H locs hQ hw hx1 => ?_)
        have hX := hX.trans hx1
        have hAp1 := hAp1.ext hx1
        have hA22 := hA22.ext hx1
        refine lv_ladd hx hb dX6_tryFrom_41 ?_
        refine lv_iload_n hx hb dX6_tryFrom_42 rfl (lv_at hl 3 rfl) ?_
        refine k_X6_isBetter F hw hl hAp1 hQ twm_RX6_51 (show 2 + 1 ≤ 3 + (n + 1) from by omega) (show 8 + (4 + 11) + 40 ≤ 63 + (n + 1) * 27 from by omega) (Nat.le_of_ble_eq_true rfl) dX6_tryFrom_43 (show (((0 + 0) + 0) + 0) + 0 ≤ 0 from by omega) (show (((0 + 0) + 0) + 0) + 0 ≤ 0 from by omega) (fun r26 S25 H locs hQ hw hx1 => ?_)
        have hX := hX.trans hx1
        have hA22 := hA22.ext hx1
        have hAp1 := hAp1.ext hx1
        refine lv_if_ne (tgt := 50) hx hb dX6_tryFrom_46 (by decide) (fun hc => ?_) (fun hc => ?_)
        · have hQ := hQ.1 hc
          refine lv_aload hx hb dX6_tryFrom_50 (lv_at hl 0 rfl) ?_
          refine g_0_3 F hw hA22 twf_RX6_63 dX6_tryFrom_52 ?_
          refine lv_lload_n hx hb dX6_tryFrom_55 rfl (lv_at hl 4 rfl) ?_
          refine lv_land hx hb dX6_tryFrom_56 ?_
          refine lv_lconst (v := 0) hx hb dX6_tryFrom_57 (by decide) ?_
          refine lc_ne (tgt := 126) F dX6_tryFrom_58 dX6_tryFrom_59 (by decide) (fun hc => ?_) (fun hc => ?_)
          · have hQ := hQ.1 hc
            refine lv_aload_n hx hb dX6_tryFrom_126 rfl (lv_at hl 1 rfl) ?_
            refine lv_iload_n hx hb dX6_tryFrom_127 rfl (lv_at hl 2 rfl) ?_
            refine lv_iconst (v := 1) hx hb dX6_tryFrom_128 (by decide) ?_
            refine lv_iadd hx hb dX6_tryFrom_129 ?_
            refine lv_iload_n hx hb dX6_tryFrom_130 rfl (lv_at hl 3 rfl) ?_
            refine lv_lload_n hx hb dX6_tryFrom_131 rfl (lv_at hl 4 rfl) ?_
            refine lv_lload hx hb dX6_tryFrom_132 (lv_at hl 5 rfl) ?_
            refine cl_v (rn_S (n := 5) (As := [.ref ap1, .int (p2 + (1 : Int32)), .int p3, .long p4, .long p5]) F hw hl (ih (p2 + (1 : Int32)) p3 p4 p5 S25 ap1 hAp1 _ hQ) twm_RX6_44 twi_yX6_tryFrom twn_RX6 two_yX6_tryFrom rfl rfl ⟨by decide, by decide, by decide +kernel⟩ rfl ⟨(show 3 + n + 1 ≤ 3 + (n + 1) from by omega), (show 8 + (8 + 11) + (63 + n * 27) ≤ 63 + (n + 1) * 27 from by omega)⟩ rfl (Nat.le_of_ble_eq_true rfl) dX6_tryFrom_134 ⟨(show ((((0 + 0) + 0) + 0) + 0) + 0 ≤ 0 from by omega), (show ((((0 + 0) + 0) + 0) + 0) + 0 ≤ 0 from by omega)⟩) hw (fun S27 H locs hQ hw hx1 => ?_)
            have hX := hX.trans hx1
            have hA22 := hA22.ext hx1
            have hAp1 := hAp1.ext hx1
            exact rt_v F hr hlk hw hX hQ (show (((((0 + 0) + 0) + 0) + 0) + 0) ≤ 0 from by omega) (show (((((0 + 0) + 0) + 0) + 0) + 0) ≤ 0 from by omega) dX6_tryFrom_137
          · have hQ := hQ.2 hc
            refine lv_aload_n hx hb dX6_tryFrom_62 rfl (lv_at hl 1 rfl) ?_
            refine lv_aload hx hb dX6_tryFrom_63 (lv_at hl 0 rfl) ?_
            refine g_0_1 F hw hA22 twf_RX6_66 dX6_tryFrom_65 ?_
            refine lv_aload hx hb dX6_tryFrom_68 (lv_at hl 0 rfl) ?_
            refine g_0_2 F hw hA22 twf_RX6_48 dX6_tryFrom_70 ?_
            refine k_X6_spend F hw hl hAp1 hQ twm_RX6_69 (show 0 + 1 ≤ 3 + (n + 1) from by omega) (show 8 + (4 + 11) + 0 ≤ 63 + (n + 1) * 27 from by omega) (Nat.le_of_ble_eq_true rfl) dX6_tryFrom_73 (show ((((0 + 0) + 0) + 0) + 0) + 0 ≤ 0 from by omega) (show ((((0 + 0) + 0) + 0) + 0) + 0 ≤ 0 from by omega) (fun r29 S28 H locs hQ hw hx1 => ?_)
            have hX := hX.trans hx1
            have hA22 := hA22.ext hx1
            have hAp1 := hAp1.ext hx1
            refine lv_if_eq (tgt := 126) hx hb dX6_tryFrom_76 (by decide) (fun hc => ?_) (fun hc => ?_)
            · have hQ := hQ.1 hc
              refine lv_aload_n hx hb dX6_tryFrom_126 rfl (lv_at hl 1 rfl) ?_
              refine lv_iload_n hx hb dX6_tryFrom_127 rfl (lv_at hl 2 rfl) ?_
              refine lv_iconst (v := 1) hx hb dX6_tryFrom_128 (by decide) ?_
              refine lv_iadd hx hb dX6_tryFrom_129 ?_
              refine lv_iload_n hx hb dX6_tryFrom_130 rfl (lv_at hl 3 rfl) ?_
              refine lv_lload_n hx hb dX6_tryFrom_131 rfl (lv_at hl 4 rfl) ?_
              refine lv_lload hx hb dX6_tryFrom_132 (lv_at hl 5 rfl) ?_
              refine cl_v (rn_S (n := 5) (As := [.ref ap1, .int (p2 + (1 : Int32)), .int p3, .long p4, .long p5]) F hw hl (ih (p2 + (1 : Int32)) p3 p4 p5 S28 ap1 hAp1 _ hQ) twm_RX6_44 twi_yX6_tryFrom twn_RX6 two_yX6_tryFrom rfl rfl ⟨by decide, by decide, by decide +kernel⟩ rfl ⟨(show 3 + n + 1 ≤ 3 + (n + 1) from by omega), (show 8 + (8 + 11) + (63 + n * 27) ≤ 63 + (n + 1) * 27 from by omega)⟩ rfl (Nat.le_of_ble_eq_true rfl) dX6_tryFrom_134 ⟨(show (((((0 + 0) + 0) + 0) + 0) + 0) + 0 ≤ 0 from by omega), (show (((((0 + 0) + 0) + 0) + 0) + 0) + 0 ≤ 0 from by omega)⟩) hw (fun S30 H locs hQ hw hx1 => ?_)
              have hX := hX.trans hx1
              have hA22 := hA22.ext hx1
              have hAp1 := hAp1.ext hx1
              exact rt_v F hr hlk hw hX hQ (show ((((((0 + 0) + 0) + 0) + 0) + 0) + 0) ≤ 0 from by omega) (show ((((((0 + 0) + 0) + 0) + 0) + 0) + 0) ≤ 0 from by omega) dX6_tryFrom_137
            · have hQ := hQ.2 hc
              refine lv_aload_n hx hb dX6_tryFrom_79 rfl (lv_at hl 1 rfl) ?_
              refine lv_iload_n hx hb dX6_tryFrom_80 rfl (lv_at hl 2 rfl) ?_
              refine lv_iconst (v := 1) hx hb dX6_tryFrom_81 (by decide) ?_
              refine lv_iadd hx hb dX6_tryFrom_82 ?_
              refine lv_iload_n hx hb dX6_tryFrom_83 rfl (lv_at hl 3 rfl) ?_
              refine lv_iconst (v := 1) hx hb dX6_tryFrom_84 (by decide) ?_
              refine lv_aload hx hb dX6_tryFrom_85 (lv_at hl 0 rfl) ?_
              refine g_0_0 F hw hA22 twf_RX6_73 dX6_tryFrom_87 ?_
              refine lv_ishl hx hb dX6_tryFrom_90 ?_
              refine lv_ior hx hb dX6_tryFrom_91 ?_
              refine lv_lload_n hx hb dX6_tryFrom_92 rfl (lv_at hl 4 rfl) ?_
              refine lv_aload hx hb dX6_tryFrom_93 (lv_at hl 0 rfl) ?_
              refine g_0_3 F hw hA22 twf_RX6_63 dX6_tryFrom_95 ?_
              refine lv_lor hx hb dX6_tryFrom_98 ?_
              refine lv_lload hx hb dX6_tryFrom_99 (lv_at hl 5 rfl) ?_
              refine lv_aload hx hb dX6_tryFrom_101 (lv_at hl 0 rfl) ?_
              refine g_0_2 F hw hA22 twf_RX6_48 dX6_tryFrom_103 ?_
              refine lv_ladd hx hb dX6_tryFrom_106 ?_
              refine cl_v (rn_S (n := 5) (As := [.ref ap1, .int (p2 + (1 : Int32)), .int (p3 ||| ((1 : Int32) <<< ((gi S28 0 j22 0) &&& 31))), .long (p4 ||| (gj S28 0 j22 3)), .long (p5 + (gj S28 0 j22 2))]) F hw hl (ih (p2 + (1 : Int32)) (p3 ||| ((1 : Int32) <<< ((gi S28 0 j22 0) &&& 31))) (p4 ||| (gj S28 0 j22 3)) (p5 + (gj S28 0 j22 2)) S28 ap1 hAp1 _ hQ) twm_RX6_44 twi_yX6_tryFrom twn_RX6 two_yX6_tryFrom rfl rfl ⟨by decide, by decide, by decide +kernel⟩ rfl ⟨(show 3 + n + 1 ≤ 3 + (n + 1) from by omega), (show 8 + (8 + 11) + (63 + n * 27) ≤ 63 + (n + 1) * 27 from by omega)⟩ rfl (Nat.le_of_ble_eq_true rfl) dX6_tryFrom_107 ⟨(show (((((0 + 0) + 0) + 0) + 0) + 0) + 0 ≤ 0 from by omega), (show (((((0 + 0) + 0) + 0) + 0) + 0) + 0 ≤ 0 from by omega)⟩) hw (fun S31 H locs hQ hw hx1 => ?_)
              have hX := hX.trans hx1
              have hA22 := hA22.ext hx1
              have hAp1 := hAp1.ext hx1
              refine lv_aload_n hx hb dX6_tryFrom_110 rfl (lv_at hl 1 rfl) ?_
              refine lv_aload hx hb dX6_tryFrom_111 (lv_at hl 0 rfl) ?_
              refine g_0_1 F hw hA22 twf_RX6_66 dX6_tryFrom_113 ?_
              refine lv_aload hx hb dX6_tryFrom_116 (lv_at hl 0 rfl) ?_
              refine g_0_2 F hw hA22 twf_RX6_48 dX6_tryFrom_118 ?_
              refine lv_lneg hx hb dX6_tryFrom_121 ?_
              refine k_X6_spend F hw hl hAp1 hQ twm_RX6_69 (show 0 + 1 ≤ 3 + (n + 1) from by omega) (show 8 + (4 + 11) + 0 ≤ 63 + (n + 1) * 27 from by omega) (Nat.le_of_ble_eq_true rfl) dX6_tryFrom_122 (show ((((((0 + 0) + 0) + 0) + 0) + 0) + 0) + 0 ≤ 0 from by omega) (show ((((((0 + 0) + 0) + 0) + 0) + 0) + 0) + 0 ≤ 0 from by omega) (fun r33 S32 H locs hQ hw hx1 => ?_)
              have hX := hX.trans hx1
              have hA22 := hA22.ext hx1
              have hAp1 := hAp1.ext hx1
              refine lv_pop hx hb dX6_tryFrom_125 rfl ?_
              refine lv_aload_n hx hb dX6_tryFrom_126 rfl (lv_at hl 1 rfl) ?_
              refine lv_iload_n hx hb dX6_tryFrom_127 rfl (lv_at hl 2 rfl) ?_
              refine lv_iconst (v := 1) hx hb dX6_tryFrom_128 (by decide) ?_
              refine lv_iadd hx hb dX6_tryFrom_129 ?_
              refine lv_iload_n hx hb dX6_tryFrom_130 rfl (lv_at hl 3 rfl) ?_
              refine lv_lload_n hx hb dX6_tryFrom_131 rfl (lv_at hl 4 rfl) ?_
              refine lv_lload hx hb dX6_tryFrom_132 (lv_at hl 5 rfl) ?_
              refine cl_v (rn_S (n := 5) (As := [.ref ap1, .int (p2 + (1 : Int32)), .int p3, .long p4, .long p5]) F hw hl (ih (p2 + (1 : Int32)) p3 p4 p5 S32 ap1 hAp1 _ hQ) twm_RX6_44 twi_yX6_tryFrom twn_RX6 two_yX6_tryFrom rfl rfl ⟨by decide, by decide, by decide +kernel⟩ rfl ⟨(show 3 + n + 1 ≤ 3 + (n + 1) from by omega), (show 8 + (8 + 11) + (63 + n * 27) ≤ 63 + (n + 1) * 27 from by omega)⟩ rfl (Nat.le_of_ble_eq_true rfl) dX6_tryFrom_134 ⟨(show (((((((0 + 0) + 0) + 0) + 0) + 0) + 0) + 0) + 0 ≤ 0 from by omega), (show (((((((0 + 0) + 0) + 0) + 0) + 0) + 0) + 0) + 0 ≤ 0 from by omega)⟩) hw (fun S34 H locs hQ hw hx1 => ?_)
              have hX := hX.trans hx1
              have hA22 := hA22.ext hx1
              have hAp1 := hAp1.ext hx1
              exact rt_v F hr hlk hw hX hQ (show ((((((((0 + 0) + 0) + 0) + 0) + 0) + 0) + 0) + 0) ≤ 0 from by omega) (show ((((((((0 + 0) + 0) + 0) + 0) + 0) + 0) + 0) + 0) ≤ 0 from by omega) dX6_tryFrom_137
        · have hQ := hQ.2 hc
          exact rt_v F hr hlk hw hX hQ (show ((((0 + 0) + 0) + 0) + 0) ≤ 0 from by omega) (show ((((0 + 0) + 0) + 0) + 0) ≤ 0 from by omega) dX6_tryFrom_49
-- X6_find
def wp_X6_find  (S0 : St) (post : St → Prop) : Prop :=
  wp_X6_addUpRests S0 (fun S1 =>
  ∃ n : Nat, n ≤ 20 ∧ wp_X6_tryFrom n (0 : Int32) (0 : Int32) (0 : Int64) (0 : Int64) S1 (fun S2 =>
  post S2))
set_option maxRecDepth 100000 in
set_option maxHeartbeats 4000000 in
theorem m_X6_find (l : Launch) (G : GT)  (S0 : St) (a0 : Nat) (hA0 : AtO S0 6 0 a0) (post : St → Prop) (hQ : wp_X6_find S0 post) : Met l yX6_find (wM yX6_find cX6_find 1 none) ({ frames := 24, cells := 0, slots := 0, locals := 630 } : Room) (PC G S0 [.ref a0]) (QV G S0 post) 0 0 (QA G) := by
  refine mt_start RX6 (by decide) rfl (Nat.le_of_ble_eq_true rfl) ?_
  intro p e s m args below meth c ls F hr hlk hnm hw hl
  have hx := F.1
  have hb := F.2.1
  have hown := F.2.2.2.1
  have hts := F.2.2.2.2
  have hX : Ext S0 S0 := Ext.rf
  have hsz0 := hw.1.1.1
  have hl : lv_has ls 1 [(0, .ref a0)] := hl
  unfold wp_X6_find at hQ
  refine lv_aload_n hx hb dX6_find_0 rfl (lv_at hl 0 rfl) ?_
  refine k_X6_addUpRests F hw hl hA0 hQ twm_RX6_41 (Nat.le_of_ble_eq_true rfl) (Nat.le_of_ble_eq_true rfl) (Nat.le_of_ble_eq_true rfl) dX6_find_1 (show 0 + 0 ≤ 0 from by omega) (show 0 + 0 ≤ 0 from by omega) (fun S1 H locs hQ hw hx1 => ?_)
  have hX := hX.trans hx1
  have hA0 := hA0.ext hx1
  refine lv_aload_n hx hb dX6_find_4 rfl (lv_at hl 0 rfl) ?_
  refine lv_iconst (v := 0) hx hb dX6_find_5 (by decide) ?_
  refine lv_iconst (v := 0) hx hb dX6_find_6 (by decide) ?_
  refine lv_lconst (v := 0) hx hb dX6_find_7 (by decide) ?_
  refine lv_lconst (v := 0) hx hb dX6_find_8 (by decide) ?_
  obtain ⟨n, hn, hQ⟩ := hQ
  refine cl_v (rn_S (n := 5) (As := [.ref a0, .int (0 : Int32), .int (0 : Int32), .long (0 : Int64), .long (0 : Int64)]) F hw hl (m_X6_tryFrom l G n (0 : Int32) (0 : Int32) (0 : Int64) (0 : Int64) S1 a0 hA0 _ hQ) twm_RX6_44 twi_yX6_tryFrom twn_RX6 two_yX6_tryFrom rfl rfl ⟨by decide, by decide, by decide +kernel⟩ rfl ⟨(show 3 + n + 1 ≤ 24 from by omega), (show 8 + (8 + 11) + (63 + n * 27) ≤ 630 from by omega)⟩ rfl (Nat.le_of_ble_eq_true rfl) dX6_find_9 ⟨(show (0 + 0) + 0 ≤ 0 from by omega), (show (0 + 0) + 0 ≤ 0 from by omega)⟩) hw (fun S2 H locs hQ hw hx1 => ?_)
  have hX := hX.trans hx1
  have hA0 := hA0.ext hx1
  exact rt_v F hr hlk hw hX hQ (show ((0 + 0) + 0) ≤ 0 from by omega) (show ((0 + 0) + 0) ≤ 0 from by omega) dX6_find_12
theorem k_X6_find {p : Program} {l : Launch} {e : Env} {R : Room} {s : State} {m : MethodId} {args : Array Value} {below : List Frame} {meth : Method} {c : Code} {H : Heap} {locs : List Loc} {cells slots : Nat} {Q : State → Prop} {cc : ByteArray} {pc nL : Nat} {ls : Array Slot} {rest : List Value} {G : GT} {S : St} {own : String}  {post : St → Prop} {lv : List (Nat × Value)} {idx : Nat} (F : CX p m c cc nL s args own) (hw : WW G S s H locs) (hl : lv_has ls nL lv) {a0 : Nat} (hA0 : AtO S 6 0 a0) (hQ : wp_X6_find S post) (h1 : Cond.methodLink own idx yX6_find ∈ wT) (hR1 : 24 + 1 ≤ R.frames) (hR2 : 8 + (1 + 11) + 630 ≤ R.locals) (hrest : (rest.map fun v => v.category).sum ≤ 8) (hdg : decode cc pc = .ok (.invokevirtual idx, 3)) (hf1 : cells + 0 ≤ R.cells) (hf2 : slots + 0 ≤ R.slots)
    (kk : ∀ (S1 : St) (H1 : Heap) (locs1 : List Loc), post S1 → WW G S1 s H1 locs1 → Ext S S1 → W p l e R s m args below meth c H1 locs1 (cells + 0) (slots + 0) Q (F0 m (pc + 3) ls rest)) : W p l e R s m args below meth c H locs cells slots Q (F0 m pc ls (.ref a0 :: rest)) :=
  cl_v (rn_V (n := 0) (As := []) (q := (RX6, TX6, 6)) F hw hl (m_X6_find l G  S a0 hA0 post hQ) 6 (by decide) (by decide) hA0 rfl rfl h1 twi_yX6_find tws_yX6_find twn_RX6 two_yX6_find rfl rfl ⟨rfl, by decide, by decide, by decide +kernel⟩ rfl ⟨hR1, hR2⟩ rfl hrest hdg ⟨hf1, hf2⟩) hw kk
-- X8_findWinners
def bd_X8_findWinners_48 (post : St → Prop) (K48 : Int32 → St → Prop) (x1_48 : Int32) (S4 : St) : Prop :=
  ((gi S4 7 0 8) ≤ x1_48 →
  wp_X6_find S4 (fun S6 =>
  post S6)) ∧
  (¬ (gi S4 7 0 8) ≤ x1_48 →
  wp_X8_bidAt x1_48 S4 (fun r8 S7 =>
  (r8 = none →
  ∀ v10 : Int32, v10 = x1_48 + (1 : Int32) →
  K48 v10 S7) ∧
  (∀ j9 : Nat, r8 = some j9 →
  wp_X8_isGood j9 S7 (fun r12 S11 =>
  (r12 = 0 →
  ∀ v13 : Int32, v13 = x1_48 + (1 : Int32) →
  K48 v13 S11) ∧
  (¬ r12 = 0 →
  wp_X6_add j9 S11 (fun S15 =>
  ∀ v16 : Int32, v16 = x1_48 + (1 : Int32) →
  K48 v16 S15))))))
def lp_X8_findWinners_48 (post : St → Prop) : Nat → Int32 → St → Prop
  | 0, _, _ => False
  | n + 1, x1_48, S4 => bd_X8_findWinners_48 post (fun x1_48 S4 => lp_X8_findWinners_48 post n x1_48 S4) x1_48 S4
def bd_X8_findWinners_9 (post : St → Prop) (K9 : Int32 → St → Prop) (x1_9 : Int32) (S3 : St) : Prop :=
  ((gi S3 7 0 7) ≤ x1_9 →
  ∃ n : Nat, lp_X8_findWinners_48 post n (0 : Int32) S3) ∧
  (¬ (gi S3 7 0 7) ≤ x1_9 →
  wp_X8_buyerAt x1_9 S3 (fun r18 S17 =>
  (r18 = none →
  ∀ v20 : Int32, v20 = x1_9 + (1 : Int32) →
  K9 v20 S17) ∧
  (∀ j19 : Nat, r18 = some j19 →
  wp_X8_freeOf j19 S17 (fun r23 S22 =>
  wp_X6_setPurse x1_9 r23 S22 (fun S24 =>
  ∀ v25 : Int32, v25 = x1_9 + (1 : Int32) →
  K9 v25 S24)))))
def lp_X8_findWinners_9 (post : St → Prop) : Nat → Int32 → St → Prop
  | 0, _, _ => False
  | n + 1, x1_9, S3 => bd_X8_findWinners_9 post (fun x1_9 S3 => lp_X8_findWinners_9 post n x1_9 S3) x1_9 S3
def wp_X8_findWinners  (S0 : St) (post : St → Prop) : Prop :=
  wp_X6_clear S0 (fun S2 =>
  ∃ n : Nat, lp_X8_findWinners_9 post n (0 : Int32) S2)
set_option maxRecDepth 100000 in
set_option maxHeartbeats 4000000 in
theorem m_X8_findWinners (l : Launch) (G : GT)  (S0 : St) (a0 : Nat) (hA0 : AtO S0 7 0 a0) (post : St → Prop) (hQ : wp_X8_findWinners S0 post) : Met l yX8_findWinners (wM yX8_findWinners cX8_findWinners 3 none) ({ frames := 25, cells := 0, slots := 0, locals := 650 } : Room) (PC G S0 [.ref a0]) (QV G S0 post) 0 0 (QA G) := by
  refine mt_start RX8 (by decide) rfl (Nat.le_of_ble_eq_true rfl) ?_
  intro p e s m args below meth c ls F hr hlk hnm hw hl
  have hx := F.1
  have hb := F.2.1
  have hown := F.2.2.2.1
  have hts := F.2.2.2.2
  have hX : Ext S0 S0 := Ext.rf
  have hsz0 := hw.1.1.1
  have hl : lv_has ls 3 [(0, .ref a0)] := hl
  unfold wp_X8_findWinners at hQ
  refine lv_aload_n hx hb dX8_findWinners_0 rfl (lv_at hl 0 rfl) ?_
  refine g_7_5 F hw hA0 twf_RX8_44 dX8_findWinners_1 (fun a1 hA1 => ?_)
  refine k_X6_clear F hw hl hA1 hQ twm_RX8_399 (Nat.le_of_ble_eq_true rfl) (Nat.le_of_ble_eq_true rfl) (Nat.le_of_ble_eq_true rfl) dX8_findWinners_4 (show 0 + 0 ≤ 0 from by omega) (show 0 + 0 ≤ 0 from by omega) (fun S2 H locs hQ hw hx1 => ?_)
  have hX := hX.trans hx1
  have hA0 := hA0.ext hx1
  refine lv_iconst (v := 0) hx hb dX8_findWinners_7 (by decide) ?_
  refine lv_istore_n (lv' := [(1, .int (0 : Int32)), (0, .ref a0)]) hx hb dX8_findWinners_8 rfl hl (by decide) rfl (fun ls hl => ?_)
  have hloop9 : ∀ (n9 : Nat) (x1_9 : Int32) (S3 : St) (H : Heap) (locs : List Loc) (ls : Array Slot) (cl9 sl9 : Nat), lp_X8_findWinners_9 post n9 x1_9 S3 → WW G S3 s H locs → Ext S0 S3 → AtO S3 7 0 a0 → lv_has ls 3 [(1, .int x1_9), (0, .ref a0)] → cl9 ≤ (0 + 0) + 0 → sl9 ≤ (0 + 0) + 0 → W p l e ({ frames := 25, cells := 0, slots := 0, locals := 650 } : Room) s m args below meth c H locs cl9 sl9 (MQ below (QV G S0 post) args s 0 0 (QA G)) (F0 m 9 ls []) := by
    intro n9
    induction n9 with
    | zero => intro x1_9 S3 H locs ls cl sl hQ; exact False.elim hQ
    | succ n9 ih9 =>
      intro x1_9 S3 H locs ls cl9 sl9 hQ hw hX hA0 hl hcl9 hsl9
      have hQ : bd_X8_findWinners_9 post (fun x1_9 S3 => lp_X8_findWinners_9 post n9 x1_9 S3) x1_9 S3 := hQ
      unfold bd_X8_findWinners_9 at hQ
      refine lv_iload_n hx hb dX8_findWinners_9 rfl (lv_at hl 0 rfl) ?_
      refine lv_aload_n hx hb dX8_findWinners_10 rfl (lv_at hl 1 rfl) ?_
      refine g_7_7 F hw hA0 twf_RX8_60 dX8_findWinners_11 ?_
      refine lv_icmp_ge (tgt := 46) hx hb dX8_findWinners_14 (by decide) (fun hc => ?_) (fun hc => ?_)
      · have hQ := hQ.1 hc
        refine lv_iconst (v := 0) hx hb dX8_findWinners_46 (by decide) ?_
        refine lv_istore_n (lv' := [(1, .int (0 : Int32)), (0, .ref a0)]) hx hb dX8_findWinners_47 rfl hl (by decide) rfl (fun ls hl => ?_)
        have hloop48 : ∀ (n48 : Nat) (x1_48 : Int32) (S4 : St) (H : Heap) (locs : List Loc) (ls : Array Slot) (cl48 sl48 : Nat), lp_X8_findWinners_48 post n48 x1_48 S4 → WW G S4 s H locs → Ext S0 S4 → AtO S4 7 0 a0 → lv_has ls 3 [(1, .int x1_48), (0, .ref a0)] → cl48 ≤ cl9 + 0 → sl48 ≤ sl9 + 0 → W p l e ({ frames := 25, cells := 0, slots := 0, locals := 650 } : Room) s m args below meth c H locs cl48 sl48 (MQ below (QV G S0 post) args s 0 0 (QA G)) (F0 m 48 ls []) := by
          intro n48
          induction n48 with
          | zero => intro x1_48 S4 H locs ls cl sl hQ; exact False.elim hQ
          | succ n48 ih48 =>
            intro x1_48 S4 H locs ls cl48 sl48 hQ hw hX hA0 hl hcl48 hsl48
            have hQ : bd_X8_findWinners_48 post (fun x1_48 S4 => lp_X8_findWinners_48 post n48 x1_48 S4) x1_48 S4 := hQ
            unfold bd_X8_findWinners_48 at hQ
            refine lv_iload_n hx hb dX8_findWinners_48 rfl (lv_at hl 0 rfl) ?_
            refine lv_aload_n hx hb dX8_findWinners_49 rfl (lv_at hl 1 rfl) ?_
            refine g_7_8 F hw hA0 twf_RX8_249 dX8_findWinners_50 ?_
            refine lv_icmp_ge (tgt := 88) hx hb dX8_findWinners_53 (by decide) (fun hc => ?_) (fun hc => ?_)
            · have hQ := hQ.1 hc
              refine lv_aload_n hx hb dX8_findWinners_88 rfl (lv_at hl 1 rfl) ?_
              refine g_7_5 F hw hA0 twf_RX8_44 dX8_findWinners_89 (fun a5 hA5 => ?_)
              refine k_X6_find F hw hl hA5 hQ twm_RX8_411 (Nat.le_of_ble_eq_true rfl) (Nat.le_of_ble_eq_true rfl) (Nat.le_of_ble_eq_true rfl) dX8_findWinners_92 (show cl48 + 0 ≤ 0 from by omega) (show sl48 + 0 ≤ 0 from by omega) (fun S6 H locs hQ hw hx1 => ?_)
              have hX := hX.trans hx1
              have hA0 := hA0.ext hx1
              exact rt_v F hr hlk hw hX hQ (show (cl48 + 0) ≤ 0 from by omega) (show (sl48 + 0) ≤ 0 from by omega) dX8_findWinners_95
            · have hQ := hQ.2 hc
              refine lv_aload_n hx hb dX8_findWinners_56 rfl (lv_at hl 1 rfl) ?_
              refine lv_iload_n hx hb dX8_findWinners_57 rfl (lv_at hl 0 rfl) ?_
              refine k_X8_bidAt F hw hl hA0 hQ twm_RX8_255 (Nat.le_of_ble_eq_true rfl) (Nat.le_of_ble_eq_true rfl) (Nat.le_of_ble_eq_true rfl) dX8_findWinners_58 (show cl48 + 0 ≤ 0 from by omega) (show sl48 + 0 ≤ 0 from by omega) (fun S7 H locs hQ hw hx1 => ?_) (fun j9 a9 S7 H locs hQ hA9 hw hx1 => ?_)
              · have hQ := hQ.1 rfl
                have hX := hX.trans hx1
                have hA0 := hA0.ext hx1
                refine lv_astore_nN (lv' := [(2, .null), (1, .int x1_48), (0, .ref a0)]) hx hb dX8_findWinners_61 rfl hl (by decide) rfl (fun ls hl => ?_)
                refine lv_aload_nN hx hb dX8_findWinners_62 rfl (lv_at hl 0 rfl) ?_
                refine lv_ifnullN (tgt := 82) hx hb dX8_findWinners_63 (by decide) ?_
                obtain ⟨v10, ev10⟩ : ∃ y : Int32, y = x1_48 + (1 : Int32) := ⟨_, rfl⟩
                have hQ := hQ v10 ev10
                refine lv_iinc (v := v10) (lv' := [(1, .int v10), (2, .null), (0, .ref a0)]) hx hb dX8_findWinners_82 hl (k := 1) rfl (by rw [ev10]; rfl) (by decide) rfl (fun ls hl => ?_)
                refine lv_goto (tgt := 48) hx hb dX8_findWinners_85 (by decide) ?_
                exact ih48 v10 S7 _ _ _ _ _ hQ hw hX hA0 (lv_sub hl [0, 2] rfl) (by omega) (by omega)
              · have hQ := hQ.2 j9 rfl
                have hX := hX.trans hx1
                have hA0 := hA0.ext hx1
                refine lv_astore_n (lv' := [(2, .ref a9), (1, .int x1_48), (0, .ref a0)]) hx hb dX8_findWinners_61 rfl hl (by decide) rfl (fun ls hl => ?_)
                refine lv_aload_n hx hb dX8_findWinners_62 rfl (lv_at hl 0 rfl) ?_
                refine lv_ifnull hx hb dX8_findWinners_63 ?_
                refine lv_aload_n hx hb dX8_findWinners_66 rfl (lv_at hl 2 rfl) ?_
                refine lv_aload_n hx hb dX8_findWinners_67 rfl (lv_at hl 0 rfl) ?_
                refine k_X8_isGood F hw hl hA0 hA9 hQ twm_RX8_405 (Nat.le_of_ble_eq_true rfl) (Nat.le_of_ble_eq_true rfl) (Nat.le_of_ble_eq_true rfl) dX8_findWinners_68 (show (cl48 + 0) + 0 ≤ 0 from by omega) (show (sl48 + 0) + 0 ≤ 0 from by omega) (fun r12 S11 H locs hQ hw hx1 => ?_)
                have hX := hX.trans hx1
                have hA9 := hA9.ext hx1
                have hA0 := hA0.ext hx1
                refine lv_if_eq (tgt := 82) hx hb dX8_findWinners_71 (by decide) (fun hc => ?_) (fun hc => ?_)
                · have hQ := hQ.1 hc
                  obtain ⟨v13, ev13⟩ : ∃ y : Int32, y = x1_48 + (1 : Int32) := ⟨_, rfl⟩
                  have hQ := hQ v13 ev13
                  refine lv_iinc (v := v13) (lv' := [(1, .int v13), (2, .ref a9), (0, .ref a0)]) hx hb dX8_findWinners_82 hl (k := 1) rfl (by rw [ev13]; rfl) (by decide) rfl (fun ls hl => ?_)
                  refine lv_goto (tgt := 48) hx hb dX8_findWinners_85 (by decide) ?_
                  exact ih48 v13 S11 _ _ _ _ _ hQ hw hX hA0 (lv_sub hl [0, 2] rfl) (by omega) (by omega)
                · have hQ := hQ.2 hc
                  refine lv_aload_n hx hb dX8_findWinners_74 rfl (lv_at hl 2 rfl) ?_
                  refine g_7_5 F hw hA0 twf_RX8_44 dX8_findWinners_75 (fun a14 hA14 => ?_)
                  refine lv_aload_n hx hb dX8_findWinners_78 rfl (lv_at hl 0 rfl) ?_
                  refine k_X6_add F hw hl hA14 hA9 hQ twm_RX8_409 (Nat.le_of_ble_eq_true rfl) (Nat.le_of_ble_eq_true rfl) (Nat.le_of_ble_eq_true rfl) dX8_findWinners_79 (show ((cl48 + 0) + 0) + 0 ≤ 0 from by omega) (show ((sl48 + 0) + 0) + 0 ≤ 0 from by omega) (fun S15 H locs hQ hw hx1 => ?_)
                  have hX := hX.trans hx1
                  have hA9 := hA9.ext hx1
                  have hA0 := hA0.ext hx1
                  obtain ⟨v16, ev16⟩ : ∃ y : Int32, y = x1_48 + (1 : Int32) := ⟨_, rfl⟩
                  have hQ := hQ v16 ev16
                  refine lv_iinc (v := v16) (lv' := [(1, .int v16), (2, .ref a9), (0, .ref a0)]) hx hb dX8_findWinners_82 hl (k := 1) rfl (by rw [ev16]; rfl) (by decide) rfl (fun ls hl => ?_)
                  refine lv_goto (tgt := 48) hx hb dX8_findWinners_85 (by decide) ?_
                  exact ih48 v16 S15 _ _ _ _ _ hQ hw hX hA0 (lv_sub hl [0, 2] rfl) (by omega) (by omega)
        obtain ⟨n, hQ⟩ := hQ
        exact hloop48 n (0 : Int32) S3 _ _ _ _ _ hQ hw hX hA0 (lv_sub hl [0, 1] rfl) (by omega) (by omega)
      · have hQ := hQ.2 hc
        refine lv_aload_n hx hb dX8_findWinners_17 rfl (lv_at hl 1 rfl) ?_
        refine lv_iload_n hx hb dX8_findWinners_18 rfl (lv_at hl 0 rfl) ?_
        refine k_X8_buyerAt F hw hl hA0 hQ twm_RX8_89 (Nat.le_of_ble_eq_true rfl) (Nat.le_of_ble_eq_true rfl) (Nat.le_of_ble_eq_true rfl) dX8_findWinners_19 (show cl9 + 0 ≤ 0 from by omega) (show sl9 + 0 ≤ 0 from by omega) (fun S17 H locs hQ hw hx1 => ?_) (fun j19 a19 S17 H locs hQ hA19 hw hx1 => ?_)
        · have hQ := hQ.1 rfl
          have hX := hX.trans hx1
          have hA0 := hA0.ext hx1
          refine lv_astore_nN (lv' := [(2, .null), (1, .int x1_9), (0, .ref a0)]) hx hb dX8_findWinners_22 rfl hl (by decide) rfl (fun ls hl => ?_)
          refine lv_aload_nN hx hb dX8_findWinners_23 rfl (lv_at hl 0 rfl) ?_
          refine lv_ifnullN (tgt := 40) hx hb dX8_findWinners_24 (by decide) ?_
          obtain ⟨v20, ev20⟩ : ∃ y : Int32, y = x1_9 + (1 : Int32) := ⟨_, rfl⟩
          have hQ := hQ v20 ev20
          refine lv_iinc (v := v20) (lv' := [(1, .int v20), (2, .null), (0, .ref a0)]) hx hb dX8_findWinners_40 hl (k := 1) rfl (by rw [ev20]; rfl) (by decide) rfl (fun ls hl => ?_)
          refine lv_goto (tgt := 9) hx hb dX8_findWinners_43 (by decide) ?_
          exact ih9 v20 S17 _ _ _ _ _ hQ hw hX hA0 (lv_sub hl [0, 2] rfl) (by omega) (by omega)
        · have hQ := hQ.2 j19 rfl
          have hX := hX.trans hx1
          have hA0 := hA0.ext hx1
          refine lv_astore_n (lv' := [(2, .ref a19), (1, .int x1_9), (0, .ref a0)]) hx hb dX8_findWinners_22 rfl hl (by decide) rfl (fun ls hl => ?_)
          refine lv_aload_n hx hb dX8_findWinners_23 rfl (lv_at hl 0 rfl) ?_
          refine lv_ifnull hx hb dX8_findWinners_24 ?_
          refine lv_aload_n hx hb dX8_findWinners_27 rfl (lv_at hl 2 rfl) ?_
          refine g_7_5 F hw hA0 twf_RX8_44 dX8_findWinners_28 (fun a21 hA21 => ?_)
          refine lv_iload_n hx hb dX8_findWinners_31 rfl (lv_at hl 1 rfl) ?_
          refine lv_aload_n hx hb dX8_findWinners_32 rfl (lv_at hl 2 rfl) ?_
          refine lv_aload_n hx hb dX8_findWinners_33 rfl (lv_at hl 0 rfl) ?_
          refine k_X8_freeOf F hw hl hA0 hA19 hQ twm_RX8_96 (Nat.le_of_ble_eq_true rfl) (Nat.le_of_ble_eq_true rfl) (Nat.le_of_ble_eq_true rfl) dX8_findWinners_34 (show (cl9 + 0) + 0 ≤ 0 from by omega) (show (sl9 + 0) + 0 ≤ 0 from by omega) (fun r23 S22 H locs hQ hw hx1 => ?_)
          have hX := hX.trans hx1
          have hA21 := hA21.ext hx1
          have hA19 := hA19.ext hx1
          have hA0 := hA0.ext hx1
          refine k_X6_setPurse F hw hl hA21 hQ twm_RX8_402 (Nat.le_of_ble_eq_true rfl) (Nat.le_of_ble_eq_true rfl) (Nat.le_of_ble_eq_true rfl) dX8_findWinners_37 (show ((cl9 + 0) + 0) + 0 ≤ 0 from by omega) (show ((sl9 + 0) + 0) + 0 ≤ 0 from by omega) (fun S24 H locs hQ hw hx1 => ?_)
          have hX := hX.trans hx1
          have hA19 := hA19.ext hx1
          have hA0 := hA0.ext hx1
          obtain ⟨v25, ev25⟩ : ∃ y : Int32, y = x1_9 + (1 : Int32) := ⟨_, rfl⟩
          have hQ := hQ v25 ev25
          refine lv_iinc (v := v25) (lv' := [(1, .int v25), (2, .ref a19), (0, .ref a0)]) hx hb dX8_findWinners_40 hl (k := 1) rfl (by rw [ev25]; rfl) (by decide) rfl (fun ls hl => ?_)
          refine lv_goto (tgt := 9) hx hb dX8_findWinners_43 (by decide) ?_
          exact ih9 v25 S24 _ _ _ _ _ hQ hw hX hA0 (lv_sub hl [0, 2] rfl) (by omega) (by omega)
  obtain ⟨n, hQ⟩ := hQ
  exact hloop9 n (0 : Int32) S2 _ _ _ _ _ hQ hw hX hA0 (lv_sub hl [0, 1] rfl) (by omega) (by omega)
theorem k_X8_findWinners {p : Program} {l : Launch} {e : Env} {R : Room} {s : State} {m : MethodId} {args : Array Value} {below : List Frame} {meth : Method} {c : Code} {H : Heap} {locs : List Loc} {cells slots : Nat} {Q : State → Prop} {cc : ByteArray} {pc nL : Nat} {ls : Array Slot} {rest : List Value} {G : GT} {S : St} {own : String}  {post : St → Prop} {lv : List (Nat × Value)} {idx : Nat} (F : CX p m c cc nL s args own) (hw : WW G S s H locs) (hl : lv_has ls nL lv) {a0 : Nat} (hA0 : AtO S 7 0 a0) (hQ : wp_X8_findWinners S post) (h1 : Cond.methodLink own idx yX8_findWinners ∈ wT) (hR1 : 25 + 1 ≤ R.frames) (hR2 : 8 + (3 + 11) + 650 ≤ R.locals) (hrest : (rest.map fun v => v.category).sum ≤ 8) (hdg : decode cc pc = .ok (.invokevirtual idx, 3)) (hf1 : cells + 0 ≤ R.cells) (hf2 : slots + 0 ≤ R.slots)
    (kk : ∀ (S1 : St) (H1 : Heap) (locs1 : List Loc), post S1 → WW G S1 s H1 locs1 → Ext S S1 → W p l e R s m args below meth c H1 locs1 (cells + 0) (slots + 0) Q (F0 m (pc + 3) ls rest)) : W p l e R s m args below meth c H locs cells slots Q (F0 m pc ls (.ref a0 :: rest)) :=
  cl_v (rn_V (n := 0) (As := []) (q := (RX8, TX8, 11)) F hw hl (m_X8_findWinners l G  S a0 hA0 post hQ) 7 (by decide) (by decide) hA0 rfl rfl h1 twi_yX8_findWinners tws_yX8_findWinners twn_RX8 two_yX8_findWinners rfl rfl ⟨rfl, by decide, by decide, by decide +kernel⟩ rfl ⟨hR1, hR2⟩ rfl hrest hdg ⟨hf1, hf2⟩) hw kk
-- X6_hasChosen
def wp_X6_hasChosen (p1 : Int32) (S0 : St) (post : Int32 → St → Prop) : Prop :=
  (p1 < 0 →
  post (0 : Int32) S0) ∧
  (¬ p1 < 0 →
  ((18 : Int32) ≤ p1 →
  post (0 : Int32) S0) ∧
  (¬ (18 : Int32) ≤ p1 →
  (((((gi S0 6 0 4).toUInt32 >>> (p1.toUInt32 &&& Int32.toUInt32 31)).toInt32) &&& (1 : Int32)) = 0 →
  post (0 : Int32) S0) ∧
  (¬ ((((gi S0 6 0 4).toUInt32 >>> (p1.toUInt32 &&& Int32.toUInt32 31)).toInt32) &&& (1 : Int32)) = 0 →
  post (1 : Int32) S0)))
set_option maxRecDepth 100000 in
set_option maxHeartbeats 4000000 in
theorem m_X6_hasChosen (l : Launch) (G : GT) (p1 : Int32) (S0 : St) (a0 : Nat) (hA0 : AtO S0 6 0 a0) (post : Int32 → St → Prop) (hQ : wp_X6_hasChosen p1 S0 post) : Met l yX6_hasChosen (wM yX6_hasChosen cX6_hasChosen 2 (some (FieldType.boolean))) ({ frames := 0, cells := 0, slots := 0, locals := 0 } : Room) (PC G S0 [.ref a0, .int p1]) (QI G S0 post) 0 0 (QA G) := by
  refine mt_start RX6 (by decide) rfl (Nat.le_of_ble_eq_true rfl) ?_
  intro p e s m args below meth c ls F hr hlk hnm hw hl
  have hx := F.1
  have hb := F.2.1
  have hown := F.2.2.2.1
  have hts := F.2.2.2.2
  have hX : Ext S0 S0 := Ext.rf
  have hsz0 := hw.1.1.1
  have hl : lv_has ls 2 [(0, .ref a0), (1, .int p1)] := hl
  unfold wp_X6_hasChosen at hQ
  refine lv_iload_n hx hb dX6_hasChosen_0 rfl (lv_at hl 1 rfl) ?_
  refine lv_if_lt (tgt := 25) hx hb dX6_hasChosen_1 (by decide) (fun hc => ?_) (fun hc => ?_)
  · have hQ := hQ.1 hc
    refine lv_iconst (v := 0) hx hb dX6_hasChosen_25 (by decide) ?_
    exact rt_z F hr hlk hw hX hQ rfl (show 0 ≤ 0 from by omega) (show 0 ≤ 0 from by omega) dX6_hasChosen_26
  · have hQ := hQ.2 hc
    refine lv_iload_n hx hb dX6_hasChosen_4 rfl (lv_at hl 1 rfl) ?_
    refine lv_bipush (v := 18) hx hb dX6_hasChosen_5 (by decide) ?_
    refine lv_icmp_ge (tgt := 25) hx hb dX6_hasChosen_7 (by decide) (fun hc => ?_) (fun hc => ?_)
    · have hQ := hQ.1 hc
      refine lv_iconst (v := 0) hx hb dX6_hasChosen_25 (by decide) ?_
      exact rt_z F hr hlk hw hX hQ rfl (show 0 ≤ 0 from by omega) (show 0 ≤ 0 from by omega) dX6_hasChosen_26
    · have hQ := hQ.2 hc
      refine lv_aload_n hx hb dX6_hasChosen_10 rfl (lv_at hl 0 rfl) ?_
      refine g_6_4 F hw hA0 twf_RX6_28 dX6_hasChosen_11 ?_
      refine lv_iload_n hx hb dX6_hasChosen_14 rfl (lv_at hl 1 rfl) ?_
      refine lv_iushr hx hb dX6_hasChosen_15 rfl ?_
      refine lv_iconst (v := 1) hx hb dX6_hasChosen_16 (by decide) ?_
      refine lv_iand hx hb dX6_hasChosen_17 ?_
      refine lv_if_eq (tgt := 25) hx hb dX6_hasChosen_18 (by decide) (fun hc => ?_) (fun hc => ?_)
      · have hQ := hQ.1 hc
        refine lv_iconst (v := 0) hx hb dX6_hasChosen_25 (by decide) ?_
        exact rt_z F hr hlk hw hX hQ rfl (show 0 ≤ 0 from by omega) (show 0 ≤ 0 from by omega) dX6_hasChosen_26
      · have hQ := hQ.2 hc
        refine lv_iconst (v := 1) hx hb dX6_hasChosen_21 (by decide) ?_
        refine lv_goto (tgt := 26) hx hb dX6_hasChosen_22 (by decide) ?_
        exact rt_z F hr hlk hw hX hQ rfl (show 0 ≤ 0 from by omega) (show 0 ≤ 0 from by omega) dX6_hasChosen_26
theorem k_X6_hasChosen {p : Program} {l : Launch} {e : Env} {R : Room} {s : State} {m : MethodId} {args : Array Value} {below : List Frame} {meth : Method} {c : Code} {H : Heap} {locs : List Loc} {cells slots : Nat} {Q : State → Prop} {cc : ByteArray} {pc nL : Nat} {ls : Array Slot} {rest : List Value} {G : GT} {S : St} {own : String} {p1 : Int32} {post : Int32 → St → Prop} {lv : List (Nat × Value)} {idx : Nat} (F : CX p m c cc nL s args own) (hw : WW G S s H locs) (hl : lv_has ls nL lv) {a0 : Nat} (hA0 : AtO S 6 0 a0) (hQ : wp_X6_hasChosen p1 S post) (h1 : Cond.methodLink own idx yX6_hasChosen ∈ wT) (hR1 : 0 + 1 ≤ R.frames) (hR2 : 8 + (2 + 11) + 0 ≤ R.locals) (hrest : (rest.map fun v => v.category).sum ≤ 8) (hdg : decode cc pc = .ok (.invokevirtual idx, 3)) (hf1 : cells + 0 ≤ R.cells) (hf2 : slots + 0 ≤ R.slots)
    (kk : ∀ (r : Int32) (S1 : St) (H1 : Heap) (locs1 : List Loc), post r S1 → WW G S1 s H1 locs1 → Ext S S1 → W p l e R s m args below meth c H1 locs1 (cells + 0) (slots + 0) Q (F0 m (pc + 3) ls (.int r :: rest))) : W p l e R s m args below meth c H locs cells slots Q (F0 m pc ls (.int p1 :: .ref a0 :: rest)) :=
  cl_i (rn_V (n := 1) (As := [.int p1]) (q := (RX6, TX6, 6)) F hw hl (m_X6_hasChosen l G p1 S a0 hA0 post hQ) 6 (by decide) (by decide) hA0 rfl rfl h1 twi_yX6_hasChosen tws_yX6_hasChosen twn_RX6 two_yX6_hasChosen rfl rfl ⟨rfl, by decide, by decide, by decide +kernel⟩ rfl ⟨hR1, hR2⟩ rfl hrest hdg ⟨hf1, hf2⟩) hw kk

-- X9_part
def wp_X9_part (p1 : Int32) (p2 : Int64) (S0 : St) (post : Int32 → St → Prop) : Prop :=
  wp_X9_isLot p1 S0 (fun r2 S1 =>
  (r2 = 0 →
  post (-1 : Int32) S1) ∧
  (¬ r2 = 0 →
  vp_in p1 60 ∧
  (¬ (gi S1 20 0 p1.toNatClampNeg) = (3 : Int32) →
  post (-1 : Int32) S1) ∧
  ((gi S1 20 0 p1.toNatClampNeg) = (3 : Int32) →
  vp_in p1 60 ∧
  ((gi S1 23 0 p1.toNatClampNeg) = 0 →
  post (-1 : Int32) S1) ∧
  (¬ (gi S1 23 0 p1.toNatClampNeg) = 0 →
  vp_in p1 60 ∧
  (¬ (gi S1 24 0 p1.toNatClampNeg) = 0 →
  post (-1 : Int32) S1) ∧
  ((gi S1 24 0 p1.toNatClampNeg) = 0 →
  (p2 < (1 : Int64) →
  post (-1 : Int32) S1) ∧
  (¬ p2 < (1 : Int64) →
  vp_in p1 60 ∧
  ((gj S1 18 0 p1.toNatClampNeg) ≤ p2 →
  post (-1 : Int32) S1) ∧
  (¬ (gj S1 18 0 p1.toNatClampNeg) ≤ p2 →
  (¬ (gi S1 8 0 0) = (60 : Int32) →
  vp_in p1 60 ∧
  ∀ v8 : Int64, v8 = gj S1 18 0 p1.toNatClampNeg →
  vp_in p1 60 ∧
  vp_in p1 60 ∧
  wp_X9_up ((gj S1 19 0 p1.toNatClampNeg) * (v8 - p2)) v8 S1 (fun r12 S11 =>
  wp_X9_add (gi S1 17 0 p1.toNatClampNeg) (v8 - p2) r12 S11 (fun r14 S13 =>
  vp_in p1 60 ∧
  wp_X9_up ((gj S13 22 0 p1.toNatClampNeg) * p2) v8 S13 (fun r18 S17 =>
  vp_in p1 60 ∧
  ∀ S19 : St, S19 = sj S17 22 0 p1.toNatClampNeg r18 →
  vp_in p1 60 ∧
  ∀ S21 : St, S21 = sj S19 18 0 p1.toNatClampNeg p2 →
  vp_in p1 60 ∧
  ∀ S23 : St, S23 = si S21 24 0 p1.toNatClampNeg (1 : Int32) →
  vp_in p1 60 ∧
  vp_in p1 60 ∧
  wp_X9_note (5 : Int32) p1 (gi S23 21 0 p1.toNatClampNeg) (gj S23 22 0 p1.toNatClampNeg) S23 (fun S26 =>
  post r14 S26))))) ∧
  ((gi S1 8 0 0) = (60 : Int32) →
  post (-1 : Int32) S1))))))))
set_option maxRecDepth 100000 in
set_option maxHeartbeats 4000000 in
theorem m_X9_part (l : Launch) (G : GT) (p1 : Int32) (p2 : Int64) (S0 : St) (a0 : Nat) (hA0 : AtO S0 8 0 a0) (post : Int32 → St → Prop) (hQ : wp_X9_part p1 p2 S0 post) : Met l yX9_part (wM yX9_part cX9_part 7 (some (FieldType.int))) ({ frames := 2, cells := 0, slots := 0, locals := 51 } : Room) (PC G S0 [.ref a0, .int p1, .long p2]) (QI G S0 post) 0 0 (QA G) := by
  refine mt_start RX9 (by decide) rfl (Nat.le_of_ble_eq_true rfl) ?_
  intro p e s m args below meth c ls F hr hlk hnm hw hl
  have hx := F.1
  have hb := F.2.1
  have hown := F.2.2.2.1
  have hts := F.2.2.2.2
  have hX : Ext S0 S0 := Ext.rf
  have hsz0 := hw.1.1.1
  have hl : lv_has ls 7 [(0, .ref a0), (1, .int p1), (2, .long p2)] := hl
  unfold wp_X9_part at hQ
  refine lv_aload_n hx hb dX9_part_0 rfl (lv_at hl 0 rfl) ?_
  refine lv_iload_n hx hb dX9_part_1 rfl (lv_at hl 1 rfl) ?_
  refine k_X9_isLot F hw hl hA0 hQ twm_RX9_119 (Nat.le_of_ble_eq_true rfl) (Nat.le_of_ble_eq_true rfl) (Nat.le_of_ble_eq_true rfl) dX9_part_2 (show 0 + 0 ≤ 0 from by omega) (show 0 + 0 ≤ 0 from by omega) (fun r2 S1 H locs hQ hw hx1 => ?_)
  have hX := hX.trans hx1
  have hA0 := hA0.ext hx1
  refine lv_if_eq (tgt := 62) hx hb dX9_part_5 (by decide) (fun hc => ?_) (fun hc => ?_)
  · have hQ := hQ.1 hc
    refine lv_iconst (v := -1) hx hb dX9_part_62 (by decide) ?_
    exact rt_i F hr hlk hw hX hQ (show (0 + 0) ≤ 0 from by omega) (show (0 + 0) ≤ 0 from by omega) dX9_part_63
  · have hQ := hQ.2 hc
    refine lv_aload_n hx hb dX9_part_8 rfl (lv_at hl 0 rfl) ?_
    refine g_8_4 F hw hA0 twf_RX9_20 dX9_part_9 (fun a3 hA3 => ?_)
    refine lv_iload_n hx hb dX9_part_12 rfl (lv_at hl 1 rfl) ?_
    obtain ⟨hin, hQ⟩ := hQ
    refine al_20 F hw hA3 hin dX9_part_13 ?_
    refine lv_iconst (v := 3) hx hb dX9_part_14 (by decide) ?_
    refine lv_icmp_ne (tgt := 62) hx hb dX9_part_15 (by decide) (fun hc => ?_) (fun hc => ?_)
    · have hQ := hQ.1 hc
      refine lv_iconst (v := -1) hx hb dX9_part_62 (by decide) ?_
      exact rt_i F hr hlk hw hX hQ (show (0 + 0) ≤ 0 from by omega) (show (0 + 0) ≤ 0 from by omega) dX9_part_63
    · have hQ := hQ.2 hc
      refine lv_aload_n hx hb dX9_part_18 rfl (lv_at hl 0 rfl) ?_
      refine g_8_7 F hw hA0 twf_RX9_29 dX9_part_19 (fun a4 hA4 => ?_)
      refine lv_iload_n hx hb dX9_part_22 rfl (lv_at hl 1 rfl) ?_
      obtain ⟨hin, hQ⟩ := hQ
      refine al_23 F hw hA4 hin dX9_part_23 ?_
      refine lv_if_eq (tgt := 62) hx hb dX9_part_24 (by decide) (fun hc => ?_) (fun hc => ?_)
      · have hQ := hQ.1 hc
        refine lv_iconst (v := -1) hx hb dX9_part_62 (by decide) ?_
        exact rt_i F hr hlk hw hX hQ (show (0 + 0) ≤ 0 from by omega) (show (0 + 0) ≤ 0 from by omega) dX9_part_63
      · have hQ := hQ.2 hc
        refine lv_aload_n hx hb dX9_part_27 rfl (lv_at hl 0 rfl) ?_
        refine g_8_8 F hw hA0 twf_RX9_33 dX9_part_28 (fun a5 hA5 => ?_)
        refine lv_iload_n hx hb dX9_part_31 rfl (lv_at hl 1 rfl) ?_
        obtain ⟨hin, hQ⟩ := hQ
        refine al_24 F hw hA5 hin dX9_part_32 ?_
        refine lv_if_ne (tgt := 62) hx hb dX9_part_33 (by decide) (fun hc => ?_) (fun hc => ?_)
        · have hQ := hQ.1 hc
          refine lv_iconst (v := -1) hx hb dX9_part_62 (by decide) ?_
          exact rt_i F hr hlk hw hX hQ (show (0 + 0) ≤ 0 from by omega) (show (0 + 0) ≤ 0 from by omega) dX9_part_63
        · have hQ := hQ.2 hc
          refine lv_lload_n hx hb dX9_part_36 rfl (lv_at hl 2 rfl) ?_
          refine lv_lconst (v := 1) hx hb dX9_part_37 (by decide) ?_
          refine lc_lt (tgt := 62) F dX9_part_38 dX9_part_39 (by decide) (fun hc => ?_) (fun hc => ?_)
          · have hQ := hQ.1 hc
            refine lv_iconst (v := -1) hx hb dX9_part_62 (by decide) ?_
            exact rt_i F hr hlk hw hX hQ (show (0 + 0) ≤ 0 from by omega) (show (0 + 0) ≤ 0 from by omega) dX9_part_63
          · have hQ := hQ.2 hc
            refine lv_lload_n hx hb dX9_part_42 rfl (lv_at hl 2 rfl) ?_
            refine lv_aload_n hx hb dX9_part_43 rfl (lv_at hl 0 rfl) ?_
            refine g_8_2 F hw hA0 twf_RX9_13 dX9_part_44 (fun a6 hA6 => ?_)
            refine lv_iload_n hx hb dX9_part_47 rfl (lv_at hl 1 rfl) ?_
            obtain ⟨hin, hQ⟩ := hQ
            refine al_18 F hw hA6 hin dX9_part_48 ?_
            refine lc_ge (tgt := 62) F dX9_part_49 dX9_part_50 (by decide) (fun hc => ?_) (fun hc => ?_)
            · have hQ := hQ.1 hc
              refine lv_iconst (v := -1) hx hb dX9_part_62 (by decide) ?_
              exact rt_i F hr hlk hw hX hQ (show (0 + 0) ≤ 0 from by omega) (show (0 + 0) ≤ 0 from by omega) dX9_part_63
            · have hQ := hQ.2 hc
              refine lv_aload_n hx hb dX9_part_53 rfl (lv_at hl 0 rfl) ?_
              refine g_8_0 F hw hA0 twf_RX9_82 dX9_part_54 ?_
              refine lv_bipush (v := 60) hx hb dX9_part_57 (by decide) ?_
              refine lv_icmp_ne (tgt := 64) hx hb dX9_part_59 (by decide) (fun hc => ?_) (fun hc => ?_)
              · have hQ := hQ.1 hc
                refine lv_aload_n hx hb dX9_part_64 rfl (lv_at hl 0 rfl) ?_
                refine g_8_2 F hw hA0 twf_RX9_13 dX9_part_65 (fun a7 hA7 => ?_)
                refine lv_iload_n hx hb dX9_part_68 rfl (lv_at hl 1 rfl) ?_
                obtain ⟨hin, hQ⟩ := hQ
                refine al_18 F hw hA7 hin dX9_part_69 ?_
                refine lv_topl (fun v8 ev8 => ?_)
                have hQ := hQ v8 ev8
                refine lv_lstore (lv' := [(4, .long v8), (0, .ref a0), (1, .int p1), (2, .long p2)]) hx hb dX9_part_70 hl (by decide) rfl (fun ls hl => ?_)
                refine lv_aload_n hx hb dX9_part_72 rfl (lv_at hl 1 rfl) ?_
                refine lv_aload_n hx hb dX9_part_73 rfl (lv_at hl 1 rfl) ?_
                refine g_8_1 F hw hA0 twf_RX9_7 dX9_part_74 (fun a9 hA9 => ?_)
                refine lv_iload_n hx hb dX9_part_77 rfl (lv_at hl 2 rfl) ?_
                obtain ⟨hin, hQ⟩ := hQ
                refine al_17 F hw hA9 hin dX9_part_78 ?_
                refine lv_lload hx hb dX9_part_79 (lv_at hl 0 rfl) ?_
                refine lv_lload_n hx hb dX9_part_81 rfl (lv_at hl 3 rfl) ?_
                refine lv_lsub hx hb dX9_part_82 ?_
                refine lv_aload_n hx hb dX9_part_83 rfl (lv_at hl 1 rfl) ?_
                refine g_8_3 F hw hA0 twf_RX9_17 dX9_part_84 (fun a10 hA10 => ?_)
                refine lv_iload_n hx hb dX9_part_87 rfl (lv_at hl 2 rfl) ?_
                obtain ⟨hin, hQ⟩ := hQ
                refine al_19 F hw hA10 hin dX9_part_88 ?_
                refine lv_lload hx hb dX9_part_89 (lv_at hl 0 rfl) ?_
                refine lv_lload_n hx hb dX9_part_91 rfl (lv_at hl 3 rfl) ?_
                refine lv_lsub hx hb dX9_part_92 ?_
                refine lv_lmul hx hb dX9_part_93 ?_
                refine lv_lload hx hb dX9_part_94 (lv_at hl 0 rfl) ?_
                refine k_X9_up F hw hl hQ twm_RX9_184 (Nat.le_of_ble_eq_true rfl) (Nat.le_of_ble_eq_true rfl) (Nat.le_of_ble_eq_true rfl) dX9_part_96 (show (0 + 0) + 0 ≤ 0 from by omega) (show (0 + 0) + 0 ≤ 0 from by omega) (fun r12 S11 H locs hQ hw hx1 => ?_)
                have hX := hX.trans hx1
                have hA0 := hA0.ext hx1
                refine k_X9_add F hw hl hA0 hQ twm_RX9_111 (Nat.le_of_ble_eq_true rfl) (Nat.le_of_ble_eq_true rfl) (Nat.le_of_ble_eq_true rfl) dX9_part_99 (show ((0 + 0) + 0) + 0 ≤ 0 from by omega) (show ((0 + 0) + 0) + 0 ≤ 0 from by omega) (fun r14 S13 H locs hQ hw hx1 => ?_)
                have hX := hX.trans hx1
                have hA0 := hA0.ext hx1
                refine lv_istore (lv' := [(6, .int r14), (4, .long v8), (0, .ref a0), (1, .int p1), (2, .long p2)]) hx hb dX9_part_102 hl (by decide) rfl (fun ls hl => ?_)
                refine lv_aload_n hx hb dX9_part_104 rfl (lv_at hl 2 rfl) ?_
                refine g_8_6 F hw hA0 twf_RX9_26 dX9_part_105 (fun a15 hA15 => ?_)
                refine lv_iload_n hx hb dX9_part_108 rfl (lv_at hl 3 rfl) ?_
                refine lv_aload_n hx hb dX9_part_109 rfl (lv_at hl 2 rfl) ?_
                refine g_8_6 F hw hA0 twf_RX9_26 dX9_part_110 (fun a16 hA16 => ?_)
                refine lv_iload_n hx hb dX9_part_113 rfl (lv_at hl 3 rfl) ?_
                obtain ⟨hin, hQ⟩ := hQ
                refine al_22 F hw hA16 hin dX9_part_114 ?_
                refine lv_lload_n hx hb dX9_part_115 rfl (lv_at hl 4 rfl) ?_
                refine lv_lmul hx hb dX9_part_116 ?_
                refine lv_lload hx hb dX9_part_117 (lv_at hl 1 rfl) ?_
                refine k_X9_up F hw hl hQ twm_RX9_184 (Nat.le_of_ble_eq_true rfl) (Nat.le_of_ble_eq_true rfl) (Nat.le_of_ble_eq_true rfl) dX9_part_119 (show (((0 + 0) + 0) + 0) + 0 ≤ 0 from by omega) (show (((0 + 0) + 0) + 0) + 0 ≤ 0 from by omega) (fun r18 S17 H locs hQ hw hx1 => ?_)
                have hX := hX.trans hx1
                have hA15 := hA15.ext hx1
                have hA0 := hA0.ext hx1
                obtain ⟨hin, hQ⟩ := hQ
                refine as_22 F hw hA15 hin dX9_part_122 (fun S19 H locs eS19 hw hx1 => ?_)
                have hQ := hQ S19 eS19
                have hX := hX.trans hx1
                have hA0 := hA0.ext hx1
                refine lv_aload_n hx hb dX9_part_123 rfl (lv_at hl 2 rfl) ?_
                refine g_8_2 F hw hA0 twf_RX9_13 dX9_part_124 (fun a20 hA20 => ?_)
                refine lv_iload_n hx hb dX9_part_127 rfl (lv_at hl 3 rfl) ?_
                refine lv_lload_n hx hb dX9_part_128 rfl (lv_at hl 4 rfl) ?_
                obtain ⟨hin, hQ⟩ := hQ
                refine as_18 F hw hA20 hin dX9_part_129 (fun S21 H locs eS21 hw hx1 => ?_)
                have hQ := hQ S21 eS21
                have hX := hX.trans hx1
                have hA0 := hA0.ext hx1
                refine lv_aload_n hx hb dX9_part_130 rfl (lv_at hl 2 rfl) ?_
                refine g_8_8 F hw hA0 twf_RX9_33 dX9_part_131 (fun a22 hA22 => ?_)
                refine lv_iload_n hx hb dX9_part_134 rfl (lv_at hl 3 rfl) ?_
                refine lv_iconst (v := 1) hx hb dX9_part_135 (by decide) ?_
                obtain ⟨hin, hQ⟩ := hQ
                refine as_24 F hw hA22 hin (Or.inr rfl) dX9_part_136 (fun S23 H locs eS23 hw hx1 => ?_)
                have hQ := hQ S23 eS23
                have hX := hX.trans hx1
                have hA0 := hA0.ext hx1
                refine lv_aload_n hx hb dX9_part_137 rfl (lv_at hl 2 rfl) ?_
                refine lv_iconst (v := 5) hx hb dX9_part_138 (by decide) ?_
                refine lv_iload_n hx hb dX9_part_139 rfl (lv_at hl 3 rfl) ?_
                refine lv_aload_n hx hb dX9_part_140 rfl (lv_at hl 2 rfl) ?_
                refine g_8_5 F hw hA0 twf_RX9_23 dX9_part_141 (fun a24 hA24 => ?_)
                refine lv_iload_n hx hb dX9_part_144 rfl (lv_at hl 3 rfl) ?_
                obtain ⟨hin, hQ⟩ := hQ
                refine al_21 F hw hA24 hin dX9_part_145 ?_
                refine lv_aload_n hx hb dX9_part_146 rfl (lv_at hl 2 rfl) ?_
                refine g_8_6 F hw hA0 twf_RX9_26 dX9_part_147 (fun a25 hA25 => ?_)
                refine lv_iload_n hx hb dX9_part_150 rfl (lv_at hl 3 rfl) ?_
                obtain ⟨hin, hQ⟩ := hQ
                refine al_22 F hw hA25 hin dX9_part_151 ?_
                refine k_X9_note F hw hl hA0 hQ twm_RX9_160 (Nat.le_of_ble_eq_true rfl) (Nat.le_of_ble_eq_true rfl) (Nat.le_of_ble_eq_true rfl) dX9_part_152 (show ((((0 + 0) + 0) + 0) + 0) + 0 ≤ 0 from by omega) (show ((((0 + 0) + 0) + 0) + 0) + 0 ≤ 0 from by omega) (fun S26 H locs hQ hw hx1 => ?_)
                have hX := hX.trans hx1
                have hA0 := hA0.ext hx1
                refine lv_iload hx hb dX9_part_155 (lv_at hl 0 rfl) ?_
                exact rt_i F hr hlk hw hX hQ (show (((((0 + 0) + 0) + 0) + 0) + 0) ≤ 0 from by omega) (show (((((0 + 0) + 0) + 0) + 0) + 0) ≤ 0 from by omega) dX9_part_157
              · have hQ := hQ.2 hc
                refine lv_iconst (v := -1) hx hb dX9_part_62 (by decide) ?_
                exact rt_i F hr hlk hw hX hQ (show (0 + 0) ≤ 0 from by omega) (show (0 + 0) ≤ 0 from by omega) dX9_part_63
theorem k_X9_part {p : Program} {l : Launch} {e : Env} {R : Room} {s : State} {m : MethodId} {args : Array Value} {below : List Frame} {meth : Method} {c : Code} {H : Heap} {locs : List Loc} {cells slots : Nat} {Q : State → Prop} {cc : ByteArray} {pc nL : Nat} {ls : Array Slot} {rest : List Value} {G : GT} {S : St} {own : String} {p1 : Int32} {p2 : Int64} {post : Int32 → St → Prop} {lv : List (Nat × Value)} {idx : Nat} (F : CX p m c cc nL s args own) (hw : WW G S s H locs) (hl : lv_has ls nL lv) {a0 : Nat} (hA0 : AtO S 8 0 a0) (hQ : wp_X9_part p1 p2 S post) (h1 : Cond.methodLink own idx yX9_part ∈ wT) (hR1 : 2 + 1 ≤ R.frames) (hR2 : 8 + (7 + 11) + 51 ≤ R.locals) (hrest : (rest.map fun v => v.category).sum ≤ 8) (hdg : decode cc pc = .ok (.invokevirtual idx, 3)) (hf1 : cells + 0 ≤ R.cells) (hf2 : slots + 0 ≤ R.slots)
    (kk : ∀ (r : Int32) (S1 : St) (H1 : Heap) (locs1 : List Loc), post r S1 → WW G S1 s H1 locs1 → Ext S S1 → W p l e R s m args below meth c H1 locs1 (cells + 0) (slots + 0) Q (F0 m (pc + 3) ls (.int r :: rest))) : W p l e R s m args below meth c H locs cells slots Q (F0 m pc ls (.long p2 :: .int p1 :: .ref a0 :: rest)) :=
  cl_i (rn_V (n := 2) (As := [.int p1, .long p2]) (q := (RX9, TX9, 36)) F hw hl (m_X9_part l G p1 p2 S a0 hA0 post hQ) 8 (by decide) (by decide) hA0 rfl rfl h1 twi_yX9_part tws_yX9_part twn_RX9 two_yX9_part rfl rfl ⟨rfl, by decide, by decide, by decide +kernel⟩ rfl ⟨hR1, hR2⟩ rfl hrest hdg ⟨hf1, hf2⟩) hw kk
-- X9_left
def wp_X9_left (p1 : Int32) (S0 : St) (post : Int64 → St → Prop) : Prop :=
  wp_X9_isLot p1 S0 (fun r2 S1 =>
  (r2 = 0 →
  post (-1 : Int64) S1) ∧
  (¬ r2 = 0 →
  vp_in p1 60 ∧
  post (gj S1 18 0 p1.toNatClampNeg) S1))
set_option maxRecDepth 100000 in
set_option maxHeartbeats 4000000 in
theorem m_X9_left (l : Launch) (G : GT) (p1 : Int32) (S0 : St) (a0 : Nat) (hA0 : AtO S0 8 0 a0) (post : Int64 → St → Prop) (hQ : wp_X9_left p1 S0 post) : Met l yX9_left (wM yX9_left cX9_left 2 (some (FieldType.long))) ({ frames := 1, cells := 0, slots := 0, locals := 21 } : Room) (PC G S0 [.ref a0, .int p1]) (QJ G S0 post) 0 0 (QA G) := by
  refine mt_start RX9 (by decide) rfl (Nat.le_of_ble_eq_true rfl) ?_
  intro p e s m args below meth c ls F hr hlk hnm hw hl
  have hx := F.1
  have hb := F.2.1
  have hown := F.2.2.2.1
  have hts := F.2.2.2.2
  have hX : Ext S0 S0 := Ext.rf
  have hsz0 := hw.1.1.1
  have hl : lv_has ls 2 [(0, .ref a0), (1, .int p1)] := hl
  unfold wp_X9_left at hQ
  refine lv_aload_n hx hb dX9_left_0 rfl (lv_at hl 0 rfl) ?_
  refine lv_iload_n hx hb dX9_left_1 rfl (lv_at hl 1 rfl) ?_
  refine k_X9_isLot F hw hl hA0 hQ twm_RX9_119 (Nat.le_of_ble_eq_true rfl) (Nat.le_of_ble_eq_true rfl) (Nat.le_of_ble_eq_true rfl) dX9_left_2 (show 0 + 0 ≤ 0 from by omega) (show 0 + 0 ≤ 0 from by omega) (fun r2 S1 H locs hQ hw hx1 => ?_)
  have hX := hX.trans hx1
  have hA0 := hA0.ext hx1
  refine lv_if_eq (tgt := 17) hx hb dX9_left_5 (by decide) (fun hc => ?_) (fun hc => ?_)
  · have hQ := hQ.1 hc
    refine lv_ldc2 (v := -1) hx hb hown (hts _ twl_RX9_117) dX9_left_17 ?_
    exact rt_l F hr hlk hw hX hQ (show (0 + 0) ≤ 0 from by omega) (show (0 + 0) ≤ 0 from by omega) dX9_left_20
  · have hQ := hQ.2 hc
    refine lv_aload_n hx hb dX9_left_8 rfl (lv_at hl 0 rfl) ?_
    refine g_8_2 F hw hA0 twf_RX9_13 dX9_left_9 (fun a3 hA3 => ?_)
    refine lv_iload_n hx hb dX9_left_12 rfl (lv_at hl 1 rfl) ?_
    obtain ⟨hin, hQ⟩ := hQ
    refine al_18 F hw hA3 hin dX9_left_13 ?_
    refine lv_goto (tgt := 20) hx hb dX9_left_14 (by decide) ?_
    exact rt_l F hr hlk hw hX hQ (show (0 + 0) ≤ 0 from by omega) (show (0 + 0) ≤ 0 from by omega) dX9_left_20
theorem k_X9_left {p : Program} {l : Launch} {e : Env} {R : Room} {s : State} {m : MethodId} {args : Array Value} {below : List Frame} {meth : Method} {c : Code} {H : Heap} {locs : List Loc} {cells slots : Nat} {Q : State → Prop} {cc : ByteArray} {pc nL : Nat} {ls : Array Slot} {rest : List Value} {G : GT} {S : St} {own : String} {p1 : Int32} {post : Int64 → St → Prop} {lv : List (Nat × Value)} {idx : Nat} (F : CX p m c cc nL s args own) (hw : WW G S s H locs) (hl : lv_has ls nL lv) {a0 : Nat} (hA0 : AtO S 8 0 a0) (hQ : wp_X9_left p1 S post) (h1 : Cond.methodLink own idx yX9_left ∈ wT) (hR1 : 1 + 1 ≤ R.frames) (hR2 : 8 + (2 + 11) + 21 ≤ R.locals) (hrest : (rest.map fun v => v.category).sum ≤ 8) (hdg : decode cc pc = .ok (.invokevirtual idx, 3)) (hf1 : cells + 0 ≤ R.cells) (hf2 : slots + 0 ≤ R.slots)
    (kk : ∀ (r : Int64) (S1 : St) (H1 : Heap) (locs1 : List Loc), post r S1 → WW G S1 s H1 locs1 → Ext S S1 → W p l e R s m args below meth c H1 locs1 (cells + 0) (slots + 0) Q (F0 m (pc + 3) ls (.long r :: rest))) : W p l e R s m args below meth c H locs cells slots Q (F0 m pc ls (.int p1 :: .ref a0 :: rest)) :=
  cl_l (rn_V (n := 1) (As := [.int p1]) (q := (RX9, TX9, 36)) F hw hl (m_X9_left l G p1 S a0 hA0 post hQ) 8 (by decide) (by decide) hA0 rfl rfl h1 twi_yX9_left tws_yX9_left twn_RX9 two_yX9_left rfl rfl ⟨rfl, by decide, by decide, by decide +kernel⟩ rfl ⟨hR1, hR2⟩ rfl hrest hdg ⟨hf1, hf2⟩) hw kk
-- X9_again
def wp_X9_again (p1 : Int32) (S0 : St) (post : Int32 → St → Prop) : Prop :=
  wp_X9_isLot p1 S0 (fun r2 S1 =>
  (r2 = 0 →
  post (-1 : Int32) S1) ∧
  (¬ r2 = 0 →
  vp_in p1 60 ∧
  (¬ (gi S1 20 0 p1.toNatClampNeg) = (4 : Int32) →
  post (-1 : Int32) S1) ∧
  ((gi S1 20 0 p1.toNatClampNeg) = (4 : Int32) →
  vp_in p1 60 ∧
  ((gi S1 25 0 p1.toNatClampNeg) = 0 →
  vp_in p1 60 ∧
  ∀ S6 : St, S6 = si S1 25 0 p1.toNatClampNeg (1 : Int32) →
  vp_in p1 60 ∧
  ∀ S8 : St, S8 = si S6 20 0 p1.toNatClampNeg (0 : Int32) →
  vp_in p1 60 ∧
  vp_in p1 60 ∧
  vp_in p1 60 ∧
  ∀ S12 : St, S12 = sj S8 19 0 p1.toNatClampNeg ((gj S8 19 0 p1.toNatClampNeg) - ((gj S8 19 0 p1.toNatClampNeg) / (10 : Int64))) →
  vp_in p1 60 ∧
  wp_X9_note (6 : Int32) p1 (-1 : Int32) (gj S12 19 0 p1.toNatClampNeg) S12 (fun S14 =>
  post (1 : Int32) S14)) ∧
  (¬ (gi S1 25 0 p1.toNatClampNeg) = 0 →
  post (-1 : Int32) S1))))
set_option maxRecDepth 100000 in
set_option maxHeartbeats 4000000 in
theorem m_X9_again (l : Launch) (G : GT) (p1 : Int32) (S0 : St) (a0 : Nat) (hA0 : AtO S0 8 0 a0) (post : Int32 → St → Prop) (hQ : wp_X9_again p1 S0 post) : Met l yX9_again (wM yX9_again cX9_again 2 (some (FieldType.int))) ({ frames := 2, cells := 0, slots := 0, locals := 51 } : Room) (PC G S0 [.ref a0, .int p1]) (QI G S0 post) 0 0 (QA G) := by
  refine mt_start RX9 (by decide) rfl (Nat.le_of_ble_eq_true rfl) ?_
  intro p e s m args below meth c ls F hr hlk hnm hw hl
  have hx := F.1
  have hb := F.2.1
  have hown := F.2.2.2.1
  have hts := F.2.2.2.2
  have hX : Ext S0 S0 := Ext.rf
  have hsz0 := hw.1.1.1
  have hl : lv_has ls 2 [(0, .ref a0), (1, .int p1)] := hl
  unfold wp_X9_again at hQ
  refine lv_aload_n hx hb dX9_again_0 rfl (lv_at hl 0 rfl) ?_
  refine lv_iload_n hx hb dX9_again_1 rfl (lv_at hl 1 rfl) ?_
  refine k_X9_isLot F hw hl hA0 hQ twm_RX9_119 (Nat.le_of_ble_eq_true rfl) (Nat.le_of_ble_eq_true rfl) (Nat.le_of_ble_eq_true rfl) dX9_again_2 (show 0 + 0 ≤ 0 from by omega) (show 0 + 0 ≤ 0 from by omega) (fun r2 S1 H locs hQ hw hx1 => ?_)
  have hX := hX.trans hx1
  have hA0 := hA0.ext hx1
  refine lv_if_eq (tgt := 27) hx hb dX9_again_5 (by decide) (fun hc => ?_) (fun hc => ?_)
  · have hQ := hQ.1 hc
    refine lv_iconst (v := -1) hx hb dX9_again_27 (by decide) ?_
    exact rt_i F hr hlk hw hX hQ (show (0 + 0) ≤ 0 from by omega) (show (0 + 0) ≤ 0 from by omega) dX9_again_28
  · have hQ := hQ.2 hc
    refine lv_aload_n hx hb dX9_again_8 rfl (lv_at hl 0 rfl) ?_
    refine g_8_4 F hw hA0 twf_RX9_20 dX9_again_9 (fun a3 hA3 => ?_)
    refine lv_iload_n hx hb dX9_again_12 rfl (lv_at hl 1 rfl) ?_
    obtain ⟨hin, hQ⟩ := hQ
    refine al_20 F hw hA3 hin dX9_again_13 ?_
    refine lv_iconst (v := 4) hx hb dX9_again_14 (by decide) ?_
    refine lv_icmp_ne (tgt := 27) hx hb dX9_again_15 (by decide) (fun hc => ?_) (fun hc => ?_)
    · have hQ := hQ.1 hc
      refine lv_iconst (v := -1) hx hb dX9_again_27 (by decide) ?_
      exact rt_i F hr hlk hw hX hQ (show (0 + 0) ≤ 0 from by omega) (show (0 + 0) ≤ 0 from by omega) dX9_again_28
    · have hQ := hQ.2 hc
      refine lv_aload_n hx hb dX9_again_18 rfl (lv_at hl 0 rfl) ?_
      refine g_8_9 F hw hA0 twf_RX9_36 dX9_again_19 (fun a4 hA4 => ?_)
      refine lv_iload_n hx hb dX9_again_22 rfl (lv_at hl 1 rfl) ?_
      obtain ⟨hin, hQ⟩ := hQ
      refine al_25 F hw hA4 hin dX9_again_23 ?_
      refine lv_if_eq (tgt := 29) hx hb dX9_again_24 (by decide) (fun hc => ?_) (fun hc => ?_)
      · have hQ := hQ.1 hc
        refine lv_aload_n hx hb dX9_again_29 rfl (lv_at hl 0 rfl) ?_
        refine g_8_9 F hw hA0 twf_RX9_36 dX9_again_30 (fun a5 hA5 => ?_)
        refine lv_iload_n hx hb dX9_again_33 rfl (lv_at hl 1 rfl) ?_
        refine lv_iconst (v := 1) hx hb dX9_again_34 (by decide) ?_
        obtain ⟨hin, hQ⟩ := hQ
        refine as_25 F hw hA5 hin (Or.inr rfl) dX9_again_35 (fun S6 H locs eS6 hw hx1 => ?_)
        have hQ := hQ S6 eS6
        have hX := hX.trans hx1
        have hA0 := hA0.ext hx1
        refine lv_aload_n hx hb dX9_again_36 rfl (lv_at hl 0 rfl) ?_
        refine g_8_4 F hw hA0 twf_RX9_20 dX9_again_37 (fun a7 hA7 => ?_)
        refine lv_iload_n hx hb dX9_again_40 rfl (lv_at hl 1 rfl) ?_
        refine lv_iconst (v := 0) hx hb dX9_again_41 (by decide) ?_
        obtain ⟨hin, hQ⟩ := hQ
        refine as_20 F hw hA7 hin dX9_again_42 (fun S8 H locs eS8 hw hx1 => ?_)
        have hQ := hQ S8 eS8
        have hX := hX.trans hx1
        have hA0 := hA0.ext hx1
        refine lv_aload_n hx hb dX9_again_43 rfl (lv_at hl 0 rfl) ?_
        refine g_8_3 F hw hA0 twf_RX9_17 dX9_again_44 (fun a9 hA9 => ?_)
        refine lv_iload_n hx hb dX9_again_47 rfl (lv_at hl 1 rfl) ?_
        refine lv_aload_n hx hb dX9_again_48 rfl (lv_at hl 0 rfl) ?_
        refine g_8_3 F hw hA0 twf_RX9_17 dX9_again_49 (fun a10 hA10 => ?_)
        refine lv_iload_n hx hb dX9_again_52 rfl (lv_at hl 1 rfl) ?_
        obtain ⟨hin, hQ⟩ := hQ
        refine al_19 F hw hA10 hin dX9_again_53 ?_
        refine lv_aload_n hx hb dX9_again_54 rfl (lv_at hl 0 rfl) ?_
        refine g_8_3 F hw hA0 twf_RX9_17 dX9_again_55 (fun a11 hA11 => ?_)
        refine lv_iload_n hx hb dX9_again_58 rfl (lv_at hl 1 rfl) ?_
        obtain ⟨hin, hQ⟩ := hQ
        refine al_19 F hw hA11 hin dX9_again_59 ?_
        refine lv_ldc2 (v := 10) hx hb hown (hts _ twl_RX9_188) dX9_again_60 ?_
        refine lv_ldiv hx hb dX9_again_63 (by decide) ?_
        refine lv_lsub hx hb dX9_again_64 ?_
        obtain ⟨hin, hQ⟩ := hQ
        refine as_19 F hw hA9 hin dX9_again_65 (fun S12 H locs eS12 hw hx1 => ?_)
        have hQ := hQ S12 eS12
        have hX := hX.trans hx1
        have hA0 := hA0.ext hx1
        refine lv_aload_n hx hb dX9_again_66 rfl (lv_at hl 0 rfl) ?_
        refine lv_bipush (v := 6) hx hb dX9_again_67 (by decide) ?_
        refine lv_iload_n hx hb dX9_again_69 rfl (lv_at hl 1 rfl) ?_
        refine lv_iconst (v := -1) hx hb dX9_again_70 (by decide) ?_
        refine lv_aload_n hx hb dX9_again_71 rfl (lv_at hl 0 rfl) ?_
        refine g_8_3 F hw hA0 twf_RX9_17 dX9_again_72 (fun a13 hA13 => ?_)
        refine lv_iload_n hx hb dX9_again_75 rfl (lv_at hl 1 rfl) ?_
        obtain ⟨hin, hQ⟩ := hQ
        refine al_19 F hw hA13 hin dX9_again_76 ?_
        refine k_X9_note F hw hl hA0 hQ twm_RX9_160 (Nat.le_of_ble_eq_true rfl) (Nat.le_of_ble_eq_true rfl) (Nat.le_of_ble_eq_true rfl) dX9_again_77 (show (0 + 0) + 0 ≤ 0 from by omega) (show (0 + 0) + 0 ≤ 0 from by omega) (fun S14 H locs hQ hw hx1 => ?_)
        have hX := hX.trans hx1
        have hA0 := hA0.ext hx1
        refine lv_iconst (v := 1) hx hb dX9_again_80 (by decide) ?_
        exact rt_i F hr hlk hw hX hQ (show ((0 + 0) + 0) ≤ 0 from by omega) (show ((0 + 0) + 0) ≤ 0 from by omega) dX9_again_81
      · have hQ := hQ.2 hc
        refine lv_iconst (v := -1) hx hb dX9_again_27 (by decide) ?_
        exact rt_i F hr hlk hw hX hQ (show (0 + 0) ≤ 0 from by omega) (show (0 + 0) ≤ 0 from by omega) dX9_again_28
theorem k_X9_again {p : Program} {l : Launch} {e : Env} {R : Room} {s : State} {m : MethodId} {args : Array Value} {below : List Frame} {meth : Method} {c : Code} {H : Heap} {locs : List Loc} {cells slots : Nat} {Q : State → Prop} {cc : ByteArray} {pc nL : Nat} {ls : Array Slot} {rest : List Value} {G : GT} {S : St} {own : String} {p1 : Int32} {post : Int32 → St → Prop} {lv : List (Nat × Value)} {idx : Nat} (F : CX p m c cc nL s args own) (hw : WW G S s H locs) (hl : lv_has ls nL lv) {a0 : Nat} (hA0 : AtO S 8 0 a0) (hQ : wp_X9_again p1 S post) (h1 : Cond.methodLink own idx yX9_again ∈ wT) (hR1 : 2 + 1 ≤ R.frames) (hR2 : 8 + (2 + 11) + 51 ≤ R.locals) (hrest : (rest.map fun v => v.category).sum ≤ 8) (hdg : decode cc pc = .ok (.invokevirtual idx, 3)) (hf1 : cells + 0 ≤ R.cells) (hf2 : slots + 0 ≤ R.slots)
    (kk : ∀ (r : Int32) (S1 : St) (H1 : Heap) (locs1 : List Loc), post r S1 → WW G S1 s H1 locs1 → Ext S S1 → W p l e R s m args below meth c H1 locs1 (cells + 0) (slots + 0) Q (F0 m (pc + 3) ls (.int r :: rest))) : W p l e R s m args below meth c H locs cells slots Q (F0 m pc ls (.int p1 :: .ref a0 :: rest)) :=
  cl_i (rn_V (n := 1) (As := [.int p1]) (q := (RX9, TX9, 36)) F hw hl (m_X9_again l G p1 S a0 hA0 post hQ) 8 (by decide) (by decide) hA0 rfl rfl h1 twi_yX9_again tws_yX9_again twn_RX9 two_yX9_again rfl rfl ⟨rfl, by decide, by decide, by decide +kernel⟩ rfl ⟨hR1, hR2⟩ rfl hrest hdg ⟨hf1, hf2⟩) hw kk
-- X9_back
def wp_X9_back (p1 : Int32) (S0 : St) (post : Int32 → St → Prop) : Prop :=
  wp_X9_isLot p1 S0 (fun r2 S1 =>
  (r2 = 0 →
  post (-1 : Int32) S1) ∧
  (¬ r2 = 0 →
  vp_in p1 60 ∧
  ((gi S1 20 0 p1.toNatClampNeg) = 0 →
  vp_in p1 60 ∧
  ∀ S5 : St, S5 = si S1 20 0 p1.toNatClampNeg (5 : Int32) →
  wp_X9_note (7 : Int32) p1 (-1 : Int32) (0 : Int64) S5 (fun S6 =>
  post (1 : Int32) S6)) ∧
  (¬ (gi S1 20 0 p1.toNatClampNeg) = 0 →
  vp_in p1 60 ∧
  ((gi S1 20 0 p1.toNatClampNeg) = (2 : Int32) →
  vp_in p1 60 ∧
  ∀ S9 : St, S9 = si S1 20 0 p1.toNatClampNeg (5 : Int32) →
  wp_X9_note (7 : Int32) p1 (-1 : Int32) (0 : Int64) S9 (fun S10 =>
  post (1 : Int32) S10)) ∧
  (¬ (gi S1 20 0 p1.toNatClampNeg) = (2 : Int32) →
  vp_in p1 60 ∧
  ((gi S1 20 0 p1.toNatClampNeg) = (4 : Int32) →
  vp_in p1 60 ∧
  ∀ S13 : St, S13 = si S1 20 0 p1.toNatClampNeg (5 : Int32) →
  wp_X9_note (7 : Int32) p1 (-1 : Int32) (0 : Int64) S13 (fun S14 =>
  post (1 : Int32) S14)) ∧
  (¬ (gi S1 20 0 p1.toNatClampNeg) = (4 : Int32) →
  post (-1 : Int32) S1)))))
set_option maxRecDepth 100000 in
set_option maxHeartbeats 4000000 in
theorem m_X9_back (l : Launch) (G : GT) (p1 : Int32) (S0 : St) (a0 : Nat) (hA0 : AtO S0 8 0 a0) (post : Int32 → St → Prop) (hQ : wp_X9_back p1 S0 post) : Met l yX9_back (wM yX9_back cX9_back 2 (some (FieldType.int))) ({ frames := 2, cells := 0, slots := 0, locals := 51 } : Room) (PC G S0 [.ref a0, .int p1]) (QI G S0 post) 0 0 (QA G) := by
  refine mt_start RX9 (by decide) rfl (Nat.le_of_ble_eq_true rfl) ?_
  intro p e s m args below meth c ls F hr hlk hnm hw hl
  have hx := F.1
  have hb := F.2.1
  have hown := F.2.2.2.1
  have hts := F.2.2.2.2
  have hX : Ext S0 S0 := Ext.rf
  have hsz0 := hw.1.1.1
  have hl : lv_has ls 2 [(0, .ref a0), (1, .int p1)] := hl
  unfold wp_X9_back at hQ
  refine lv_aload_n hx hb dX9_back_0 rfl (lv_at hl 0 rfl) ?_
  refine lv_iload_n hx hb dX9_back_1 rfl (lv_at hl 1 rfl) ?_
  refine k_X9_isLot F hw hl hA0 hQ twm_RX9_119 (Nat.le_of_ble_eq_true rfl) (Nat.le_of_ble_eq_true rfl) (Nat.le_of_ble_eq_true rfl) dX9_back_2 (show 0 + 0 ≤ 0 from by omega) (show 0 + 0 ≤ 0 from by omega) (fun r2 S1 H locs hQ hw hx1 => ?_)
  have hX := hX.trans hx1
  have hA0 := hA0.ext hx1
  refine lv_if_eq (tgt := 37) hx hb dX9_back_5 (by decide) (fun hc => ?_) (fun hc => ?_)
  · have hQ := hQ.1 hc
    refine lv_iconst (v := -1) hx hb dX9_back_37 (by decide) ?_
    exact rt_i F hr hlk hw hX hQ (show (0 + 0) ≤ 0 from by omega) (show (0 + 0) ≤ 0 from by omega) dX9_back_38
  · have hQ := hQ.2 hc
    refine lv_aload_n hx hb dX9_back_8 rfl (lv_at hl 0 rfl) ?_
    refine g_8_4 F hw hA0 twf_RX9_20 dX9_back_9 (fun a3 hA3 => ?_)
    refine lv_iload_n hx hb dX9_back_12 rfl (lv_at hl 1 rfl) ?_
    obtain ⟨hin, hQ⟩ := hQ
    refine al_20 F hw hA3 hin dX9_back_13 ?_
    refine lv_if_eq (tgt := 39) hx hb dX9_back_14 (by decide) (fun hc => ?_) (fun hc => ?_)
    · have hQ := hQ.1 hc
      refine lv_aload_n hx hb dX9_back_39 rfl (lv_at hl 0 rfl) ?_
      refine g_8_4 F hw hA0 twf_RX9_20 dX9_back_40 (fun a4 hA4 => ?_)
      refine lv_iload_n hx hb dX9_back_43 rfl (lv_at hl 1 rfl) ?_
      refine lv_iconst (v := 5) hx hb dX9_back_44 (by decide) ?_
      obtain ⟨hin, hQ⟩ := hQ
      refine as_20 F hw hA4 hin dX9_back_45 (fun S5 H locs eS5 hw hx1 => ?_)
      have hQ := hQ S5 eS5
      have hX := hX.trans hx1
      have hA0 := hA0.ext hx1
      refine lv_aload_n hx hb dX9_back_46 rfl (lv_at hl 0 rfl) ?_
      refine lv_bipush (v := 7) hx hb dX9_back_47 (by decide) ?_
      refine lv_iload_n hx hb dX9_back_49 rfl (lv_at hl 1 rfl) ?_
      refine lv_iconst (v := -1) hx hb dX9_back_50 (by decide) ?_
      refine lv_lconst (v := 0) hx hb dX9_back_51 (by decide) ?_
      refine k_X9_note F hw hl hA0 hQ twm_RX9_160 (Nat.le_of_ble_eq_true rfl) (Nat.le_of_ble_eq_true rfl) (Nat.le_of_ble_eq_true rfl) dX9_back_52 (show (0 + 0) + 0 ≤ 0 from by omega) (show (0 + 0) + 0 ≤ 0 from by omega) (fun S6 H locs hQ hw hx1 => ?_)
      have hX := hX.trans hx1
      have hA0 := hA0.ext hx1
      refine lv_iconst (v := 1) hx hb dX9_back_55 (by decide) ?_
      exact rt_i F hr hlk hw hX hQ (show ((0 + 0) + 0) ≤ 0 from by omega) (show ((0 + 0) + 0) ≤ 0 from by omega) dX9_back_56
    · have hQ := hQ.2 hc
      refine lv_aload_n hx hb dX9_back_17 rfl (lv_at hl 0 rfl) ?_
      refine g_8_4 F hw hA0 twf_RX9_20 dX9_back_18 (fun a7 hA7 => ?_)
      refine lv_iload_n hx hb dX9_back_21 rfl (lv_at hl 1 rfl) ?_
      obtain ⟨hin, hQ⟩ := hQ
      refine al_20 F hw hA7 hin dX9_back_22 ?_
      refine lv_iconst (v := 2) hx hb dX9_back_23 (by decide) ?_
      refine lv_icmp_eq (tgt := 39) hx hb dX9_back_24 (by decide) (fun hc => ?_) (fun hc => ?_)
      · have hQ := hQ.1 hc
        refine lv_aload_n hx hb dX9_back_39 rfl (lv_at hl 0 rfl) ?_
        refine g_8_4 F hw hA0 twf_RX9_20 dX9_back_40 (fun a8 hA8 => ?_)
        refine lv_iload_n hx hb dX9_back_43 rfl (lv_at hl 1 rfl) ?_
        refine lv_iconst (v := 5) hx hb dX9_back_44 (by decide) ?_
        obtain ⟨hin, hQ⟩ := hQ
        refine as_20 F hw hA8 hin dX9_back_45 (fun S9 H locs eS9 hw hx1 => ?_)
        have hQ := hQ S9 eS9
        have hX := hX.trans hx1
        have hA0 := hA0.ext hx1
        refine lv_aload_n hx hb dX9_back_46 rfl (lv_at hl 0 rfl) ?_
        refine lv_bipush (v := 7) hx hb dX9_back_47 (by decide) ?_
        refine lv_iload_n hx hb dX9_back_49 rfl (lv_at hl 1 rfl) ?_
        refine lv_iconst (v := -1) hx hb dX9_back_50 (by decide) ?_
        refine lv_lconst (v := 0) hx hb dX9_back_51 (by decide) ?_
        refine k_X9_note F hw hl hA0 hQ twm_RX9_160 (Nat.le_of_ble_eq_true rfl) (Nat.le_of_ble_eq_true rfl) (Nat.le_of_ble_eq_true rfl) dX9_back_52 (show (0 + 0) + 0 ≤ 0 from by omega) (show (0 + 0) + 0 ≤ 0 from by omega) (fun S10 H locs hQ hw hx1 => ?_)
        have hX := hX.trans hx1
        have hA0 := hA0.ext hx1
        refine lv_iconst (v := 1) hx hb dX9_back_55 (by decide) ?_
        exact rt_i F hr hlk hw hX hQ (show ((0 + 0) + 0) ≤ 0 from by omega) (show ((0 + 0) + 0) ≤ 0 from by omega) dX9_back_56
      · have hQ := hQ.2 hc
        refine lv_aload_n hx hb dX9_back_27 rfl (lv_at hl 0 rfl) ?_
        refine g_8_4 F hw hA0 twf_RX9_20 dX9_back_28 (fun a11 hA11 => ?_)
        refine lv_iload_n hx hb dX9_back_31 rfl (lv_at hl 1 rfl) ?_
        obtain ⟨hin, hQ⟩ := hQ
        refine al_20 F hw hA11 hin dX9_back_32 ?_
        refine lv_iconst (v := 4) hx hb dX9_back_33 (by decide) ?_
        refine lv_icmp_eq (tgt := 39) hx hb dX9_back_34 (by decide) (fun hc => ?_) (fun hc => ?_)
        · have hQ := hQ.1 hc
          refine lv_aload_n hx hb dX9_back_39 rfl (lv_at hl 0 rfl) ?_
          refine g_8_4 F hw hA0 twf_RX9_20 dX9_back_40 (fun a12 hA12 => ?_)
          refine lv_iload_n hx hb dX9_back_43 rfl (lv_at hl 1 rfl) ?_
          refine lv_iconst (v := 5) hx hb dX9_back_44 (by decide) ?_
          obtain ⟨hin, hQ⟩ := hQ
          refine as_20 F hw hA12 hin dX9_back_45 (fun S13 H locs eS13 hw hx1 => ?_)
          have hQ := hQ S13 eS13
          have hX := hX.trans hx1
          have hA0 := hA0.ext hx1
          refine lv_aload_n hx hb dX9_back_46 rfl (lv_at hl 0 rfl) ?_
          refine lv_bipush (v := 7) hx hb dX9_back_47 (by decide) ?_
          refine lv_iload_n hx hb dX9_back_49 rfl (lv_at hl 1 rfl) ?_
          refine lv_iconst (v := -1) hx hb dX9_back_50 (by decide) ?_
          refine lv_lconst (v := 0) hx hb dX9_back_51 (by decide) ?_
          refine k_X9_note F hw hl hA0 hQ twm_RX9_160 (Nat.le_of_ble_eq_true rfl) (Nat.le_of_ble_eq_true rfl) (Nat.le_of_ble_eq_true rfl) dX9_back_52 (show (0 + 0) + 0 ≤ 0 from by omega) (show (0 + 0) + 0 ≤ 0 from by omega) (fun S14 H locs hQ hw hx1 => ?_)
          have hX := hX.trans hx1
          have hA0 := hA0.ext hx1
          refine lv_iconst (v := 1) hx hb dX9_back_55 (by decide) ?_
          exact rt_i F hr hlk hw hX hQ (show ((0 + 0) + 0) ≤ 0 from by omega) (show ((0 + 0) + 0) ≤ 0 from by omega) dX9_back_56
        · have hQ := hQ.2 hc
          refine lv_iconst (v := -1) hx hb dX9_back_37 (by decide) ?_
          exact rt_i F hr hlk hw hX hQ (show (0 + 0) ≤ 0 from by omega) (show (0 + 0) ≤ 0 from by omega) dX9_back_38
theorem k_X9_back {p : Program} {l : Launch} {e : Env} {R : Room} {s : State} {m : MethodId} {args : Array Value} {below : List Frame} {meth : Method} {c : Code} {H : Heap} {locs : List Loc} {cells slots : Nat} {Q : State → Prop} {cc : ByteArray} {pc nL : Nat} {ls : Array Slot} {rest : List Value} {G : GT} {S : St} {own : String} {p1 : Int32} {post : Int32 → St → Prop} {lv : List (Nat × Value)} {idx : Nat} (F : CX p m c cc nL s args own) (hw : WW G S s H locs) (hl : lv_has ls nL lv) {a0 : Nat} (hA0 : AtO S 8 0 a0) (hQ : wp_X9_back p1 S post) (h1 : Cond.methodLink own idx yX9_back ∈ wT) (hR1 : 2 + 1 ≤ R.frames) (hR2 : 8 + (2 + 11) + 51 ≤ R.locals) (hrest : (rest.map fun v => v.category).sum ≤ 8) (hdg : decode cc pc = .ok (.invokevirtual idx, 3)) (hf1 : cells + 0 ≤ R.cells) (hf2 : slots + 0 ≤ R.slots)
    (kk : ∀ (r : Int32) (S1 : St) (H1 : Heap) (locs1 : List Loc), post r S1 → WW G S1 s H1 locs1 → Ext S S1 → W p l e R s m args below meth c H1 locs1 (cells + 0) (slots + 0) Q (F0 m (pc + 3) ls (.int r :: rest))) : W p l e R s m args below meth c H locs cells slots Q (F0 m pc ls (.int p1 :: .ref a0 :: rest)) :=
  cl_i (rn_V (n := 1) (As := [.int p1]) (q := (RX9, TX9, 36)) F hw hl (m_X9_back l G p1 S a0 hA0 post hQ) 8 (by decide) (by decide) hA0 rfl rfl h1 twi_yX9_back tws_yX9_back twn_RX9 two_yX9_back rfl rfl ⟨rfl, by decide, by decide, by decide +kernel⟩ rfl ⟨hR1, hR2⟩ rfl hrest hdg ⟨hf1, hf2⟩) hw kk
-- X9_fee
def wp_X9_fee (p1 : Int32) (S0 : St) (post : Int64 → St → Prop) : Prop :=
  wp_X9_isLot p1 S0 (fun r2 S1 =>
  (r2 = 0 →
  post (-1 : Int64) S1) ∧
  (¬ r2 = 0 →
  vp_in p1 60 ∧
  (¬ (gi S1 20 0 p1.toNatClampNeg) = (3 : Int32) →
  post (-1 : Int64) S1) ∧
  ((gi S1 20 0 p1.toNatClampNeg) = (3 : Int32) →
  vp_in p1 60 ∧
  wp_X9_up (gj S1 22 0 p1.toNatClampNeg) (50 : Int64) S1 (fun r6 S5 =>
  post (r6 + (30 : Int64)) S5))))
set_option maxRecDepth 100000 in
set_option maxHeartbeats 4000000 in
theorem m_X9_fee (l : Launch) (G : GT) (p1 : Int32) (S0 : St) (a0 : Nat) (hA0 : AtO S0 8 0 a0) (post : Int64 → St → Prop) (hQ : wp_X9_fee p1 S0 post) : Met l yX9_fee (wM yX9_fee cX9_fee 2 (some (FieldType.long))) ({ frames := 1, cells := 0, slots := 0, locals := 23 } : Room) (PC G S0 [.ref a0, .int p1]) (QJ G S0 post) 0 0 (QA G) := by
  refine mt_start RX9 (by decide) rfl (Nat.le_of_ble_eq_true rfl) ?_
  intro p e s m args below meth c ls F hr hlk hnm hw hl
  have hx := F.1
  have hb := F.2.1
  have hown := F.2.2.2.1
  have hts := F.2.2.2.2
  have hX : Ext S0 S0 := Ext.rf
  have hsz0 := hw.1.1.1
  have hl : lv_has ls 2 [(0, .ref a0), (1, .int p1)] := hl
  unfold wp_X9_fee at hQ
  refine lv_aload_n hx hb dX9_fee_0 rfl (lv_at hl 0 rfl) ?_
  refine lv_iload_n hx hb dX9_fee_1 rfl (lv_at hl 1 rfl) ?_
  refine k_X9_isLot F hw hl hA0 hQ twm_RX9_119 (Nat.le_of_ble_eq_true rfl) (Nat.le_of_ble_eq_true rfl) (Nat.le_of_ble_eq_true rfl) dX9_fee_2 (show 0 + 0 ≤ 0 from by omega) (show 0 + 0 ≤ 0 from by omega) (fun r2 S1 H locs hQ hw hx1 => ?_)
  have hX := hX.trans hx1
  have hA0 := hA0.ext hx1
  refine lv_if_eq (tgt := 37) hx hb dX9_fee_5 (by decide) (fun hc => ?_) (fun hc => ?_)
  · have hQ := hQ.1 hc
    refine lv_ldc2 (v := -1) hx hb hown (hts _ twl_RX9_117) dX9_fee_37 ?_
    exact rt_l F hr hlk hw hX hQ (show (0 + 0) ≤ 0 from by omega) (show (0 + 0) ≤ 0 from by omega) dX9_fee_40
  · have hQ := hQ.2 hc
    refine lv_aload_n hx hb dX9_fee_8 rfl (lv_at hl 0 rfl) ?_
    refine g_8_4 F hw hA0 twf_RX9_20 dX9_fee_9 (fun a3 hA3 => ?_)
    refine lv_iload_n hx hb dX9_fee_12 rfl (lv_at hl 1 rfl) ?_
    obtain ⟨hin, hQ⟩ := hQ
    refine al_20 F hw hA3 hin dX9_fee_13 ?_
    refine lv_iconst (v := 3) hx hb dX9_fee_14 (by decide) ?_
    refine lv_icmp_ne (tgt := 37) hx hb dX9_fee_15 (by decide) (fun hc => ?_) (fun hc => ?_)
    · have hQ := hQ.1 hc
      refine lv_ldc2 (v := -1) hx hb hown (hts _ twl_RX9_117) dX9_fee_37 ?_
      exact rt_l F hr hlk hw hX hQ (show (0 + 0) ≤ 0 from by omega) (show (0 + 0) ≤ 0 from by omega) dX9_fee_40
    · have hQ := hQ.2 hc
      refine lv_aload_n hx hb dX9_fee_18 rfl (lv_at hl 0 rfl) ?_
      refine g_8_6 F hw hA0 twf_RX9_26 dX9_fee_19 (fun a4 hA4 => ?_)
      refine lv_iload_n hx hb dX9_fee_22 rfl (lv_at hl 1 rfl) ?_
      obtain ⟨hin, hQ⟩ := hQ
      refine al_22 F hw hA4 hin dX9_fee_23 ?_
      refine lv_ldc2 (v := 50) hx hb hown (hts _ twl_RX9_190) dX9_fee_24 ?_
      refine k_X9_up F hw hl hQ twm_RX9_184 (Nat.le_of_ble_eq_true rfl) (Nat.le_of_ble_eq_true rfl) (Nat.le_of_ble_eq_true rfl) dX9_fee_27 (show (0 + 0) + 0 ≤ 0 from by omega) (show (0 + 0) + 0 ≤ 0 from by omega) (fun r6 S5 H locs hQ hw hx1 => ?_)
      have hX := hX.trans hx1
      have hA0 := hA0.ext hx1
      refine lv_ldc2 (v := 30) hx hb hown (hts _ twl_RX9_192) dX9_fee_30 ?_
      refine lv_ladd hx hb dX9_fee_33 ?_
      refine lv_goto (tgt := 40) hx hb dX9_fee_34 (by decide) ?_
      exact rt_l F hr hlk hw hX hQ (show ((0 + 0) + 0) ≤ 0 from by omega) (show ((0 + 0) + 0) ≤ 0 from by omega) dX9_fee_40
theorem k_X9_fee {p : Program} {l : Launch} {e : Env} {R : Room} {s : State} {m : MethodId} {args : Array Value} {below : List Frame} {meth : Method} {c : Code} {H : Heap} {locs : List Loc} {cells slots : Nat} {Q : State → Prop} {cc : ByteArray} {pc nL : Nat} {ls : Array Slot} {rest : List Value} {G : GT} {S : St} {own : String} {p1 : Int32} {post : Int64 → St → Prop} {lv : List (Nat × Value)} {idx : Nat} (F : CX p m c cc nL s args own) (hw : WW G S s H locs) (hl : lv_has ls nL lv) {a0 : Nat} (hA0 : AtO S 8 0 a0) (hQ : wp_X9_fee p1 S post) (h1 : Cond.methodLink own idx yX9_fee ∈ wT) (hR1 : 1 + 1 ≤ R.frames) (hR2 : 8 + (2 + 11) + 23 ≤ R.locals) (hrest : (rest.map fun v => v.category).sum ≤ 8) (hdg : decode cc pc = .ok (.invokevirtual idx, 3)) (hf1 : cells + 0 ≤ R.cells) (hf2 : slots + 0 ≤ R.slots)
    (kk : ∀ (r : Int64) (S1 : St) (H1 : Heap) (locs1 : List Loc), post r S1 → WW G S1 s H1 locs1 → Ext S S1 → W p l e R s m args below meth c H1 locs1 (cells + 0) (slots + 0) Q (F0 m (pc + 3) ls (.long r :: rest))) : W p l e R s m args below meth c H locs cells slots Q (F0 m pc ls (.int p1 :: .ref a0 :: rest)) :=
  cl_l (rn_V (n := 1) (As := [.int p1]) (q := (RX9, TX9, 36)) F hw hl (m_X9_fee l G p1 S a0 hA0 post hQ) 8 (by decide) (by decide) hA0 rfl rfl h1 twi_yX9_fee tws_yX9_fee twn_RX9 two_yX9_fee rfl rfl ⟨rfl, by decide, by decide, by decide +kernel⟩ rfl ⟨hR1, hR2⟩ rfl hrest hdg ⟨hf1, hf2⟩) hw kk

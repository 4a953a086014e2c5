-- X9_delay
def wp_X9_delay (p1 : Int32) (p2 : Int64) (S0 : St) (post : Int32 → St → Prop) : Prop :=
  wp_X9_isBuyer p1 S0 (fun r2 S1 =>
  (r2 = 0 →
  post (0 : Int32) S1) ∧
  (¬ r2 = 0 →
  (p2 < (0 : Int64) →
  post (0 : Int32) S1) ∧
  (¬ p2 < (0 : Int64) →
  (p2 ≤ (5000 : Int64) →
  vp_in p1 30 ∧
  ∀ S4 : St, S4 = sj S1 29 0 p1.toNatClampNeg p2 →
  post (1 : Int32) S4) ∧
  (¬ p2 ≤ (5000 : Int64) →
  post (0 : Int32) S1))))
set_option maxRecDepth 100000 in
set_option maxHeartbeats 4000000 in
theorem m_X9_delay (l : Launch) (G : GT) (p1 : Int32) (p2 : Int64) (S0 : St) (a0 : Nat) (hA0 : AtO S0 8 0 a0) (post : Int32 → St → Prop) (hQ : wp_X9_delay p1 p2 S0 post) : Met l yX9_delay (wM yX9_delay cX9_delay 4 (some (FieldType.boolean))) ({ frames := 1, cells := 0, slots := 0, locals := 21 } : Room) (PC G S0 [.ref a0, .int p1, .long p2]) (QI G S0 post) 0 0 (QA G) := by
  refine mt_start RX9 (by decide) rfl (Nat.le_of_ble_eq_true rfl) ?_
  intro p e s m args below meth c ls F hr hlk hnm hw hl
  have hx := F.1
  have hb := F.2.1
  have hown := F.2.2.2.1
  have hts := F.2.2.2.2
  have hX : Ext S0 S0 := Ext.rf
  have hsz0 := hw.1.1.1
  have hl : lv_has ls 4 [(0, .ref a0), (1, .int p1), (2, .long p2)] := hl
  unfold wp_X9_delay at hQ
  refine lv_aload_n hx hb dX9_delay_0 rfl (lv_at hl 0 rfl) ?_
  refine lv_iload_n hx hb dX9_delay_1 rfl (lv_at hl 1 rfl) ?_
  refine k_X9_isBuyer F hw hl hA0 hQ twm_RX9_150 (Nat.le_of_ble_eq_true rfl) (Nat.le_of_ble_eq_true rfl) (Nat.le_of_ble_eq_true rfl) dX9_delay_2 (show 0 + 0 ≤ 0 from by omega) (show 0 + 0 ≤ 0 from by omega) (fun r2 S1 H locs hQ hw hx1 => ?_)
  have hX := hX.trans hx1
  have hA0 := hA0.ext hx1
  refine lv_if_eq (tgt := 22) hx hb dX9_delay_5 (by decide) (fun hc => ?_) (fun hc => ?_)
  · have hQ := hQ.1 hc
    refine lv_iconst (v := 0) hx hb dX9_delay_22 (by decide) ?_
    exact rt_z F hr hlk hw hX hQ rfl (show (0 + 0) ≤ 0 from by omega) (show (0 + 0) ≤ 0 from by omega) dX9_delay_23
  · have hQ := hQ.2 hc
    refine lv_lload_n hx hb dX9_delay_8 rfl (lv_at hl 2 rfl) ?_
    refine lv_lconst (v := 0) hx hb dX9_delay_9 (by decide) ?_
    refine lc_lt (tgt := 22) F dX9_delay_10 dX9_delay_11 (by decide) (fun hc => ?_) (fun hc => ?_)
    · have hQ := hQ.1 hc
      refine lv_iconst (v := 0) hx hb dX9_delay_22 (by decide) ?_
      exact rt_z F hr hlk hw hX hQ rfl (show (0 + 0) ≤ 0 from by omega) (show (0 + 0) ≤ 0 from by omega) dX9_delay_23
    · have hQ := hQ.2 hc
      refine lv_lload_n hx hb dX9_delay_14 rfl (lv_at hl 2 rfl) ?_
      refine lv_ldc2 (v := 5000) hx hb hown (hts _ twl_RX9_155) dX9_delay_15 ?_
      refine lc_le (tgt := 24) F dX9_delay_18 dX9_delay_19 (by decide) (fun hc => ?_) (fun hc => ?_)
      · have hQ := hQ.1 hc
        refine lv_aload_n hx hb dX9_delay_24 rfl (lv_at hl 0 rfl) ?_
        refine g_8_14 F hw hA0 twf_RX9_48 dX9_delay_25 (fun a3 hA3 => ?_)
        refine lv_iload_n hx hb dX9_delay_28 rfl (lv_at hl 1 rfl) ?_
        refine lv_lload_n hx hb dX9_delay_29 rfl (lv_at hl 2 rfl) ?_
        obtain ⟨hin, hQ⟩ := hQ
        refine as_29 F hw hA3 hin dX9_delay_30 (fun S4 H locs eS4 hw hx1 => ?_)
        have hQ := hQ S4 eS4
        have hX := hX.trans hx1
        have hA0 := hA0.ext hx1
        refine lv_iconst (v := 1) hx hb dX9_delay_31 (by decide) ?_
        exact rt_z F hr hlk hw hX hQ rfl (show (0 + 0) ≤ 0 from by omega) (show (0 + 0) ≤ 0 from by omega) dX9_delay_32
      · have hQ := hQ.2 hc
        refine lv_iconst (v := 0) hx hb dX9_delay_22 (by decide) ?_
        exact rt_z F hr hlk hw hX hQ rfl (show (0 + 0) ≤ 0 from by omega) (show (0 + 0) ≤ 0 from by omega) dX9_delay_23
theorem k_X9_delay {p : Program} {l : Launch} {e : Env} {R : Room} {s : State} {m : MethodId} {args : Array Value} {below : List Frame} {meth : Method} {c : Code} {H : Heap} {locs : List Loc} {cells slots : Nat} {Q : State → Prop} {cc : ByteArray} {pc nL : Nat} {ls : Array Slot} {rest : List Value} {G : GT} {S : St} {own : String} {p1 : Int32} {p2 : Int64} {post : Int32 → St → Prop} {lv : List (Nat × Value)} {idx : Nat} (F : CX p m c cc nL s args own) (hw : WW G S s H locs) (hl : lv_has ls nL lv) {a0 : Nat} (hA0 : AtO S 8 0 a0) (hQ : wp_X9_delay p1 p2 S post) (h1 : Cond.methodLink own idx yX9_delay ∈ wT) (hR1 : 1 + 1 ≤ R.frames) (hR2 : 8 + (4 + 11) + 21 ≤ R.locals) (hrest : (rest.map fun v => v.category).sum ≤ 8) (hdg : decode cc pc = .ok (.invokevirtual idx, 3)) (hf1 : cells + 0 ≤ R.cells) (hf2 : slots + 0 ≤ R.slots)
    (kk : ∀ (r : Int32) (S1 : St) (H1 : Heap) (locs1 : List Loc), post r S1 → WW G S1 s H1 locs1 → Ext S S1 → W p l e R s m args below meth c H1 locs1 (cells + 0) (slots + 0) Q (F0 m (pc + 3) ls (.int r :: rest))) : W p l e R s m args below meth c H locs cells slots Q (F0 m pc ls (.long p2 :: .int p1 :: .ref a0 :: rest)) :=
  cl_i (rn_V (n := 2) (As := [.int p1, .long p2]) (q := (RX9, TX9, 36)) F hw hl (m_X9_delay l G p1 p2 S a0 hA0 post hQ) 8 (by decide) (by decide) hA0 rfl rfl h1 twi_yX9_delay tws_yX9_delay twn_RX9 two_yX9_delay rfl rfl ⟨rfl, by decide, by decide, by decide +kernel⟩ rfl ⟨hR1, hR2⟩ rfl hrest hdg ⟨hf1, hf2⟩) hw kk
-- X9_outage
def bd_X9_outage_71 (post : Int32 → St → Prop) (K71 : Int32 → St → Prop) (x4_71 : Int32) (S3 : St) : Prop :=
  ((gi S3 8 0 12) ≤ x4_71 →
  post (1 : Int32) S3) ∧
  (¬ (gi S3 8 0 12) ≤ x4_71 →
  vp_in x4_71 30 ∧
  ((gj S3 30 0 x4_71.toNatClampNeg) < (gj S3 8 0 18) →
  vp_in x4_71 30 ∧
  vp_in x4_71 30 ∧
  ∀ S7 : St, S7 = sj S3 30 0 x4_71.toNatClampNeg (gj S3 30 0 x4_71.toNatClampNeg) →
  ∀ v8 : Int32, v8 = x4_71 + (1 : Int32) →
  K71 v8 S7) ∧
  (¬ (gj S3 30 0 x4_71.toNatClampNeg) < (gj S3 8 0 18) →
  vp_in x4_71 30 ∧
  ∀ S9 : St, S9 = sj S3 30 0 x4_71.toNatClampNeg (-1 : Int64) →
  ∀ v10 : Int32, v10 = x4_71 + (1 : Int32) →
  K71 v10 S9))
def lp_X9_outage_71 (post : Int32 → St → Prop) : Nat → Int32 → St → Prop
  | 0, _, _ => False
  | n + 1, x4_71, S3 => bd_X9_outage_71 post (fun x4_71 S3 => lp_X9_outage_71 post n x4_71 S3) x4_71 S3
def wp_X9_outage (p1 : Int64) (p2 : Int32) (S0 : St) (post : Int32 → St → Prop) : Prop :=
  ((gi S0 8 0 17) = (-1 : Int32) →
  post (0 : Int32) S0) ∧
  (¬ (gi S0 8 0 17) = (-1 : Int32) →
  ((gi S0 8 0 22) = p2 →
  post (0 : Int32) S0) ∧
  (¬ (gi S0 8 0 22) = p2 →
  (p1 < (0 : Int64) →
  post (0 : Int32) S0) ∧
  (¬ p1 < (0 : Int64) →
  (p2 = 0 →
  (p1 ≤ (0 : Int64) →
  bz p2 ∧
  ∀ S1 : St, S1 = si S0 8 0 22 p2 →
  (p2 = 0 →
  post (1 : Int32) S1) ∧
  (¬ p2 = 0 →
  ∀ S2 : St, S2 = sj S1 8 0 18 ((((gj S1 8 0 18) - p1) / (100 : Int64)) * (100 : Int64)) →
  ∃ n : Nat, lp_X9_outage_71 post n (0 : Int32) S2)) ∧
  (¬ p1 ≤ (0 : Int64) →
  post (0 : Int32) S0)) ∧
  (¬ p2 = 0 →
  (p1 ≤ (gj S0 8 0 18) →
  bz p2 ∧
  ∀ S11 : St, S11 = si S0 8 0 22 p2 →
  (p2 = 0 →
  post (1 : Int32) S11) ∧
  (¬ p2 = 0 →
  ∀ S12 : St, S12 = sj S11 8 0 18 ((((gj S11 8 0 18) - p1) / (100 : Int64)) * (100 : Int64)) →
  ∃ n : Nat, lp_X9_outage_71 post n (0 : Int32) S12)) ∧
  (¬ p1 ≤ (gj S0 8 0 18) →
  post (0 : Int32) S0)))))
set_option maxRecDepth 100000 in
set_option maxHeartbeats 4000000 in
theorem m_X9_outage (l : Launch) (G : GT) (p1 : Int64) (p2 : Int32) (S0 : St) (a0 : Nat) (hA0 : AtO S0 8 0 a0) (post : Int32 → St → Prop) (hQ : wp_X9_outage p1 p2 S0 post) : Met l yX9_outage (wM yX9_outage cX9_outage 5 (some (FieldType.boolean))) ({ frames := 0, cells := 0, slots := 0, locals := 0 } : Room) (PC G S0 [.ref a0, .long p1, .int p2]) (QI G S0 post) 0 0 (QA G) := by
  refine mt_start RX9 (by decide) rfl (Nat.le_of_ble_eq_true rfl) ?_
  intro p e s m args below meth c ls F hr hlk hnm hw hl
  have hx := F.1
  have hb := F.2.1
  have hown := F.2.2.2.1
  have hts := F.2.2.2.2
  have hX : Ext S0 S0 := Ext.rf
  have hsz0 := hw.1.1.1
  have hl : lv_has ls 5 [(0, .ref a0), (1, .long p1), (3, .int p2)] := hl
  unfold wp_X9_outage at hQ
  refine lv_aload_n hx hb dX9_outage_0 rfl (lv_at hl 0 rfl) ?_
  refine g_8_17 F hw hA0 twf_RX9_54 dX9_outage_1 ?_
  refine lv_iconst (v := -1) hx hb dX9_outage_4 (by decide) ?_
  refine lv_icmp_eq (tgt := 39) hx hb dX9_outage_5 (by decide) (fun hc => ?_) (fun hc => ?_)
  · have hQ := hQ.1 hc
    refine lv_iconst (v := 0) hx hb dX9_outage_39 (by decide) ?_
    exact rt_z F hr hlk hw hX hQ rfl (show 0 ≤ 0 from by omega) (show 0 ≤ 0 from by omega) dX9_outage_40
  · have hQ := hQ.2 hc
    refine lv_aload_n hx hb dX9_outage_8 rfl (lv_at hl 0 rfl) ?_
    refine g_8_22 F hw hA0 twf_RX9_142 dX9_outage_9 ?_
    refine lv_iload_n hx hb dX9_outage_12 rfl (lv_at hl 2 rfl) ?_
    refine lv_icmp_eq (tgt := 39) hx hb dX9_outage_13 (by decide) (fun hc => ?_) (fun hc => ?_)
    · have hQ := hQ.1 hc
      refine lv_iconst (v := 0) hx hb dX9_outage_39 (by decide) ?_
      exact rt_z F hr hlk hw hX hQ rfl (show 0 ≤ 0 from by omega) (show 0 ≤ 0 from by omega) dX9_outage_40
    · have hQ := hQ.2 hc
      refine lv_lload_n hx hb dX9_outage_16 rfl (lv_at hl 1 rfl) ?_
      refine lv_lconst (v := 0) hx hb dX9_outage_17 (by decide) ?_
      refine lc_lt (tgt := 39) F dX9_outage_18 dX9_outage_19 (by decide) (fun hc => ?_) (fun hc => ?_)
      · have hQ := hQ.1 hc
        refine lv_iconst (v := 0) hx hb dX9_outage_39 (by decide) ?_
        exact rt_z F hr hlk hw hX hQ rfl (show 0 ≤ 0 from by omega) (show 0 ≤ 0 from by omega) dX9_outage_40
      · have hQ := hQ.2 hc
        refine lv_lload_n hx hb dX9_outage_22 rfl (lv_at hl 1 rfl) ?_
        refine lv_iload_n hx hb dX9_outage_23 rfl (lv_at hl 2 rfl) ?_
        refine lv_if_eq (tgt := 34) hx hb dX9_outage_24 (by decide) (fun hc => ?_) (fun hc => ?_)
        · have hQ := hQ.1 hc
          refine lv_lconst (v := 0) hx hb dX9_outage_34 (by decide) ?_
          refine lc_le (tgt := 41) F dX9_outage_35 dX9_outage_36 (by decide) (fun hc => ?_) (fun hc => ?_)
          · have hQ := hQ.1 hc
            refine lv_aload_n hx hb dX9_outage_41 rfl (lv_at hl 0 rfl) ?_
            refine lv_iload_n hx hb dX9_outage_42 rfl (lv_at hl 2 rfl) ?_
            obtain ⟨hz, hQ⟩ := hQ
            refine p_8_22 F hw hA0 twf_RX9_142 hz dX9_outage_43 (fun S1 H locs eS1 hw hx1 => ?_)
            have hQ := hQ S1 eS1
            have hX := hX.trans hx1
            have hA0 := hA0.ext hx1
            refine lv_iload_n hx hb dX9_outage_46 rfl (lv_at hl 2 rfl) ?_
            refine lv_if_eq (tgt := 121) hx hb dX9_outage_47 (by decide) (fun hc => ?_) (fun hc => ?_)
            · have hQ := hQ.1 hc
              refine lv_iconst (v := 1) hx hb dX9_outage_121 (by decide) ?_
              exact rt_z F hr hlk hw hX hQ rfl (show 0 ≤ 0 from by omega) (show 0 ≤ 0 from by omega) dX9_outage_122
            · have hQ := hQ.2 hc
              refine lv_aload_n hx hb dX9_outage_50 rfl (lv_at hl 0 rfl) ?_
              refine lv_aload_n hx hb dX9_outage_51 rfl (lv_at hl 0 rfl) ?_
              refine g_8_18 F hw hA0 twf_RX9_129 dX9_outage_52 ?_
              refine lv_lload_n hx hb dX9_outage_55 rfl (lv_at hl 1 rfl) ?_
              refine lv_lsub hx hb dX9_outage_56 ?_
              refine lv_ldc2 (v := 100) hx hb hown (hts _ twl_RX9_125) dX9_outage_57 ?_
              refine lv_ldiv hx hb dX9_outage_60 (by decide) ?_
              refine lv_ldc2 (v := 100) hx hb hown (hts _ twl_RX9_125) dX9_outage_61 ?_
              refine lv_lmul hx hb dX9_outage_64 ?_
              refine p_8_18 F hw hA0 twf_RX9_129 dX9_outage_65 (fun S2 H locs eS2 hw hx1 => ?_)
              have hQ := hQ S2 eS2
              have hX := hX.trans hx1
              have hA0 := hA0.ext hx1
              refine lv_iconst (v := 0) hx hb dX9_outage_68 (by decide) ?_
              refine lv_istore (lv' := [(4, .int (0 : Int32)), (0, .ref a0), (1, .long p1), (3, .int p2)]) hx hb dX9_outage_69 hl (by decide) rfl (fun ls hl => ?_)
              have hloop71 : ∀ (n71 : Nat) (x4_71 : Int32) (S3 : St) (H : Heap) (locs : List Loc) (ls : Array Slot) (cl71 sl71 : Nat), lp_X9_outage_71 post n71 x4_71 S3 → WW G S3 s H locs → Ext S0 S3 → AtO S3 8 0 a0 → lv_has ls 5 [(4, .int x4_71), (0, .ref a0)] → cl71 ≤ 0 + 0 → sl71 ≤ 0 + 0 → W p l e ({ frames := 0, cells := 0, slots := 0, locals := 0 } : Room) s m args below meth c H locs cl71 sl71 (MQ below (QI G S0 post) args s 0 0 (QA G)) (F0 m 71 ls []) := by
                intro n71
                induction n71 with
                | zero => intro x4_71 S3 H locs ls cl sl hQ; exact False.elim hQ
                | succ n71 ih71 =>
                  intro x4_71 S3 H locs ls cl71 sl71 hQ hw hX hA0 hl hcl71 hsl71
                  have hQ : bd_X9_outage_71 post (fun x4_71 S3 => lp_X9_outage_71 post n71 x4_71 S3) x4_71 S3 := hQ
                  unfold bd_X9_outage_71 at hQ
                  refine lv_iload hx hb dX9_outage_71 (lv_at hl 0 rfl) ?_
                  refine lv_aload_n hx hb dX9_outage_73 rfl (lv_at hl 1 rfl) ?_
                  refine g_8_12 F hw hA0 twf_RX9_85 dX9_outage_74 ?_
                  refine lv_icmp_ge (tgt := 121) hx hb dX9_outage_77 (by decide) (fun hc => ?_) (fun hc => ?_)
                  · have hQ := hQ.1 hc
                    refine lv_iconst (v := 1) hx hb dX9_outage_121 (by decide) ?_
                    exact rt_z F hr hlk hw hX hQ rfl (show cl71 ≤ 0 from by omega) (show sl71 ≤ 0 from by omega) dX9_outage_122
                  · have hQ := hQ.2 hc
                    refine lv_aload_n hx hb dX9_outage_80 rfl (lv_at hl 1 rfl) ?_
                    refine g_8_15 F hw hA0 twf_RX9_51 dX9_outage_81 (fun a4 hA4 => ?_)
                    refine lv_iload hx hb dX9_outage_84 (lv_at hl 0 rfl) ?_
                    refine lv_aload_n hx hb dX9_outage_86 rfl (lv_at hl 1 rfl) ?_
                    refine g_8_15 F hw hA0 twf_RX9_51 dX9_outage_87 (fun a5 hA5 => ?_)
                    refine lv_iload hx hb dX9_outage_90 (lv_at hl 0 rfl) ?_
                    obtain ⟨hin, hQ⟩ := hQ
                    refine al_30 F hw hA5 hin dX9_outage_92 ?_
                    refine lv_aload_n hx hb dX9_outage_93 rfl (lv_at hl 1 rfl) ?_
                    refine g_8_18 F hw hA0 twf_RX9_129 dX9_outage_94 ?_
                    refine lc_lt (tgt := 107) F dX9_outage_97 dX9_outage_98 (by decide) (fun hc => ?_) (fun hc => ?_)
                    · have hQ := hQ.1 hc
                      refine lv_aload_n hx hb dX9_outage_107 rfl (lv_at hl 1 rfl) ?_
                      refine g_8_15 F hw hA0 twf_RX9_51 dX9_outage_108 (fun a6 hA6 => ?_)
                      refine lv_iload hx hb dX9_outage_111 (lv_at hl 0 rfl) ?_
                      obtain ⟨hin, hQ⟩ := hQ
                      refine al_30 F hw hA6 hin dX9_outage_113 ?_
                      obtain ⟨hin, hQ⟩ := hQ
                      refine as_30 F hw hA4 hin dX9_outage_114 (fun S7 H locs eS7 hw hx1 => ?_)
                      have hQ := hQ S7 eS7
                      have hX := hX.trans hx1
                      have hA0 := hA0.ext hx1
                      obtain ⟨v8, ev8⟩ : ∃ y : Int32, y = x4_71 + (1 : Int32) := ⟨_, rfl⟩
                      have hQ := hQ v8 ev8
                      refine lv_iinc (v := v8) (lv' := [(4, .int v8), (0, .ref a0)]) hx hb dX9_outage_115 hl (k := 0) rfl (by rw [ev8]; rfl) (by decide) rfl (fun ls hl => ?_)
                      refine lv_goto (tgt := 71) hx hb dX9_outage_118 (by decide) ?_
                      exact ih71 v8 S7 _ _ _ _ _ hQ hw hX hA0 (lv_sub hl [0, 1] rfl) (by omega) (by omega)
                    · have hQ := hQ.2 hc
                      refine lv_ldc2 (v := -1) hx hb hown (hts _ twl_RX9_117) dX9_outage_101 ?_
                      refine lv_goto (tgt := 114) hx hb dX9_outage_104 (by decide) ?_
                      obtain ⟨hin, hQ⟩ := hQ
                      refine as_30 F hw hA4 hin dX9_outage_114 (fun S9 H locs eS9 hw hx1 => ?_)
                      have hQ := hQ S9 eS9
                      have hX := hX.trans hx1
                      have hA0 := hA0.ext hx1
                      obtain ⟨v10, ev10⟩ : ∃ y : Int32, y = x4_71 + (1 : Int32) := ⟨_, rfl⟩
                      have hQ := hQ v10 ev10
                      refine lv_iinc (v := v10) (lv' := [(4, .int v10), (0, .ref a0)]) hx hb dX9_outage_115 hl (k := 0) rfl (by rw [ev10]; rfl) (by decide) rfl (fun ls hl => ?_)
                      refine lv_goto (tgt := 71) hx hb dX9_outage_118 (by decide) ?_
                      exact ih71 v10 S9 _ _ _ _ _ hQ hw hX hA0 (lv_sub hl [0, 1] rfl) (by omega) (by omega)
              obtain ⟨n, hQ⟩ := hQ
              exact hloop71 n (0 : Int32) S2 _ _ _ _ _ hQ hw hX hA0 (lv_sub hl [0, 1] rfl) (by omega) (by omega)
          · have hQ := hQ.2 hc
            refine lv_iconst (v := 0) hx hb dX9_outage_39 (by decide) ?_
            exact rt_z F hr hlk hw hX hQ rfl (show 0 ≤ 0 from by omega) (show 0 ≤ 0 from by omega) dX9_outage_40
        · have hQ := hQ.2 hc
          refine lv_aload_n hx hb dX9_outage_27 rfl (lv_at hl 0 rfl) ?_
          refine g_8_18 F hw hA0 twf_RX9_129 dX9_outage_28 ?_
          refine lv_goto (tgt := 35) hx hb dX9_outage_31 (by decide) ?_
          refine lc_le (tgt := 41) F dX9_outage_35 dX9_outage_36 (by decide) (fun hc => ?_) (fun hc => ?_)
          · have hQ := hQ.1 hc
            refine lv_aload_n hx hb dX9_outage_41 rfl (lv_at hl 0 rfl) ?_
            refine lv_iload_n hx hb dX9_outage_42 rfl (lv_at hl 2 rfl) ?_
            obtain ⟨hz, hQ⟩ := hQ
            refine p_8_22 F hw hA0 twf_RX9_142 hz dX9_outage_43 (fun S11 H locs eS11 hw hx1 => ?_)
            have hQ := hQ S11 eS11
            have hX := hX.trans hx1
            have hA0 := hA0.ext hx1
            refine lv_iload_n hx hb dX9_outage_46 rfl (lv_at hl 2 rfl) ?_
            refine lv_if_eq (tgt := 121) hx hb dX9_outage_47 (by decide) (fun hc => ?_) (fun hc => ?_)
            · have hQ := hQ.1 hc
              refine lv_iconst (v := 1) hx hb dX9_outage_121 (by decide) ?_
              exact rt_z F hr hlk hw hX hQ rfl (show 0 ≤ 0 from by omega) (show 0 ≤ 0 from by omega) dX9_outage_122
            · have hQ := hQ.2 hc
              refine lv_aload_n hx hb dX9_outage_50 rfl (lv_at hl 0 rfl) ?_
              refine lv_aload_n hx hb dX9_outage_51 rfl (lv_at hl 0 rfl) ?_
              refine g_8_18 F hw hA0 twf_RX9_129 dX9_outage_52 ?_
              refine lv_lload_n hx hb dX9_outage_55 rfl (lv_at hl 1 rfl) ?_
              refine lv_lsub hx hb dX9_outage_56 ?_
              refine lv_ldc2 (v := 100) hx hb hown (hts _ twl_RX9_125) dX9_outage_57 ?_
              refine lv_ldiv hx hb dX9_outage_60 (by decide) ?_
              refine lv_ldc2 (v := 100) hx hb hown (hts _ twl_RX9_125) dX9_outage_61 ?_
              refine lv_lmul hx hb dX9_outage_64 ?_
              refine p_8_18 F hw hA0 twf_RX9_129 dX9_outage_65 (fun S12 H locs eS12 hw hx1 => ?_)
              have hQ := hQ S12 eS12
              have hX := hX.trans hx1
              have hA0 := hA0.ext hx1
              refine lv_iconst (v := 0) hx hb dX9_outage_68 (by decide) ?_
              refine lv_istore (lv' := [(4, .int (0 : Int32)), (0, .ref a0), (1, .long p1), (3, .int p2)]) hx hb dX9_outage_69 hl (by decide) rfl (fun ls hl => ?_)
              have hloop71 : ∀ (n71 : Nat) (x4_71 : Int32) (S13 : St) (H : Heap) (locs : List Loc) (ls : Array Slot) (cl71 sl71 : Nat), lp_X9_outage_71 post n71 x4_71 S13 → WW G S13 s H locs → Ext S0 S13 → AtO S13 8 0 a0 → lv_has ls 5 [(4, .int x4_71), (0, .ref a0)] → cl71 ≤ 0 + 0 → sl71 ≤ 0 + 0 → W p l e ({ frames := 0, cells := 0, slots := 0, locals := 0 } : Room) s m args below meth c H locs cl71 sl71 (MQ below (QI G S0 post) args s 0 0 (QA G)) (F0 m 71 ls []) := by
                intro n71
                induction n71 with
                | zero => intro x4_71 S13 H locs ls cl sl hQ; exact False.elim hQ
                | succ n71 ih71 =>
                  intro x4_71 S13 H locs ls cl71 sl71 hQ hw hX hA0 hl hcl71 hsl71
                  have hQ : bd_X9_outage_71 post (fun x4_71 S13 => lp_X9_outage_71 post n71 x4_71 S13) x4_71 S13 := hQ
                  unfold bd_X9_outage_71 at hQ
                  refine lv_iload hx hb dX9_outage_71 (lv_at hl 0 rfl) ?_
                  refine lv_aload_n hx hb dX9_outage_73 rfl (lv_at hl 1 rfl) ?_
                  refine g_8_12 F hw hA0 twf_RX9_85 dX9_outage_74 ?_
                  refine lv_icmp_ge (tgt := 121) hx hb dX9_outage_77 (by decide) (fun hc => ?_) (fun hc => ?_)
                  · have hQ := hQ.1 hc
                    refine lv_iconst (v := 1) hx hb dX9_outage_121 (by decide) ?_
                    exact rt_z F hr hlk hw hX hQ rfl (show cl71 ≤ 0 from by omega) (show sl71 ≤ 0 from by omega) dX9_outage_122
                  · have hQ := hQ.2 hc
                    refine lv_aload_n hx hb dX9_outage_80 rfl (lv_at hl 1 rfl) ?_
                    refine g_8_15 F hw hA0 twf_RX9_51 dX9_outage_81 (fun a14 hA14 => ?_)
                    refine lv_iload hx hb dX9_outage_84 (lv_at hl 0 rfl) ?_
                    refine lv_aload_n hx hb dX9_outage_86 rfl (lv_at hl 1 rfl) ?_
                    refine g_8_15 F hw hA0 twf_RX9_51 dX9_outage_87 (fun a15 hA15 => ?_)
                    refine lv_iload hx hb dX9_outage_90 (lv_at hl 0 rfl) ?_
                    obtain ⟨hin, hQ⟩ := hQ
                    refine al_30 F hw hA15 hin dX9_outage_92 ?_
                    refine lv_aload_n hx hb dX9_outage_93 rfl (lv_at hl 1 rfl) ?_
                    refine g_8_18 F hw hA0 twf_RX9_129 dX9_outage_94 ?_
                    refine lc_lt (tgt := 107) F dX9_outage_97 dX9_outage_98 (by decide) (fun hc => ?_) (fun hc => ?_)
                    · have hQ := hQ.1 hc
                      refine lv_aload_n hx hb dX9_outage_107 rfl (lv_at hl 1 rfl) ?_
                      refine g_8_15 F hw hA0 twf_RX9_51 dX9_outage_108 (fun a16 hA16 => ?_)
                      refine lv_iload hx hb dX9_outage_111 (lv_at hl 0 rfl) ?_
                      obtain ⟨hin, hQ⟩ := hQ
                      refine al_30 F hw hA16 hin dX9_outage_113 ?_
                      obtain ⟨hin, hQ⟩ := hQ
                      refine as_30 F hw hA14 hin dX9_outage_114 (fun S17 H locs eS17 hw hx1 => ?_)
                      have hQ := hQ S17 eS17
                      have hX := hX.trans hx1
                      have hA0 := hA0.ext hx1
                      obtain ⟨v18, ev18⟩ : ∃ y : Int32, y = x4_71 + (1 : Int32) := ⟨_, rfl⟩
                      have hQ := hQ v18 ev18
                      refine lv_iinc (v := v18) (lv' := [(4, .int v18), (0, .ref a0)]) hx hb dX9_outage_115 hl (k := 0) rfl (by rw [ev18]; rfl) (by decide) rfl (fun ls hl => ?_)
                      refine lv_goto (tgt := 71) hx hb dX9_outage_118 (by decide) ?_
                      exact ih71 v18 S17 _ _ _ _ _ hQ hw hX hA0 (lv_sub hl [0, 1] rfl) (by omega) (by omega)
                    · have hQ := hQ.2 hc
                      refine lv_ldc2 (v := -1) hx hb hown (hts _ twl_RX9_117) dX9_outage_101 ?_
                      refine lv_goto (tgt := 114) hx hb dX9_outage_104 (by decide) ?_
                      obtain ⟨hin, hQ⟩ := hQ
                      refine as_30 F hw hA14 hin dX9_outage_114 (fun S19 H locs eS19 hw hx1 => ?_)
                      have hQ := hQ S19 eS19
                      have hX := hX.trans hx1
                      have hA0 := hA0.ext hx1
                      obtain ⟨v20, ev20⟩ : ∃ y : Int32, y = x4_71 + (1 : Int32) := ⟨_, rfl⟩
                      have hQ := hQ v20 ev20
                      refine lv_iinc (v := v20) (lv' := [(4, .int v20), (0, .ref a0)]) hx hb dX9_outage_115 hl (k := 0) rfl (by rw [ev20]; rfl) (by decide) rfl (fun ls hl => ?_)
                      refine lv_goto (tgt := 71) hx hb dX9_outage_118 (by decide) ?_
                      exact ih71 v20 S19 _ _ _ _ _ hQ hw hX hA0 (lv_sub hl [0, 1] rfl) (by omega) (by omega)
              obtain ⟨n, hQ⟩ := hQ
              exact hloop71 n (0 : Int32) S12 _ _ _ _ _ hQ hw hX hA0 (lv_sub hl [0, 1] rfl) (by omega) (by omega)
          · have hQ := hQ.2 hc
            refine lv_iconst (v := 0) hx hb dX9_outage_39 (by decide) ?_
            exact rt_z F hr hlk hw hX hQ rfl (show 0 ≤ 0 from by omega) (show 0 ≤ 0 from by omega) dX9_outage_40
theorem k_X9_outage {p : Program} {l : Launch} {e : Env} {R : Room} {s : State} {m : MethodId} {args : Array Value} {below : List Frame} {meth : Method} {c : Code} {H : Heap} {locs : List Loc} {cells slots : Nat} {Q : State → Prop} {cc : ByteArray} {pc nL : Nat} {ls : Array Slot} {rest : List Value} {G : GT} {S : St} {own : String} {p1 : Int64} {p2 : Int32} {post : Int32 → St → Prop} {lv : List (Nat × Value)} {idx : Nat} (F : CX p m c cc nL s args own) (hw : WW G S s H locs) (hl : lv_has ls nL lv) {a0 : Nat} (hA0 : AtO S 8 0 a0) (hQ : wp_X9_outage p1 p2 S post) (h1 : Cond.methodLink own idx yX9_outage ∈ wT) (hR1 : 0 + 1 ≤ R.frames) (hR2 : 8 + (5 + 11) + 0 ≤ R.locals) (hrest : (rest.map fun v => v.category).sum ≤ 8) (hdg : decode cc pc = .ok (.invokevirtual idx, 3)) (hf1 : cells + 0 ≤ R.cells) (hf2 : slots + 0 ≤ R.slots)
    (kk : ∀ (r : Int32) (S1 : St) (H1 : Heap) (locs1 : List Loc), post r S1 → WW G S1 s H1 locs1 → Ext S S1 → W p l e R s m args below meth c H1 locs1 (cells + 0) (slots + 0) Q (F0 m (pc + 3) ls (.int r :: rest))) : W p l e R s m args below meth c H locs cells slots Q (F0 m pc ls (.int p2 :: .long p1 :: .ref a0 :: rest)) :=
  cl_i (rn_V (n := 2) (As := [.long p1, .int p2]) (q := (RX9, TX9, 36)) F hw hl (m_X9_outage l G p1 p2 S a0 hA0 post hQ) 8 (by decide) (by decide) hA0 rfl rfl h1 twi_yX9_outage tws_yX9_outage twn_RX9 two_yX9_outage rfl rfl ⟨rfl, by decide, by decide, by decide +kernel⟩ rfl ⟨hR1, hR2⟩ rfl hrest hdg ⟨hf1, hf2⟩) hw kk
-- X9_earliest
def bd_X9_earliest_4 (post : Int32 → St → Prop) (K4 : Int32 → Int32 → St → Prop) (x2_4 : Int32) (x1_4 : Int32) (S1 : St) : Prop :=
  ((gi S1 8 0 12) ≤ x2_4 →
  post x1_4 S1) ∧
  (¬ (gi S1 8 0 12) ≤ x2_4 →
  vp_in x2_4 30 ∧
  ((gj S1 30 0 x2_4.toNatClampNeg) = (-1 : Int64) →
  ∀ v3 : Int32, v3 = x2_4 + (1 : Int32) →
  K4 v3 x1_4 S1) ∧
  (¬ (gj S1 30 0 x2_4.toNatClampNeg) = (-1 : Int64) →
  vp_in x2_4 30 ∧
  ((gj S1 8 0 18) < (gj S1 30 0 x2_4.toNatClampNeg) →
  ∀ v5 : Int32, v5 = x2_4 + (1 : Int32) →
  K4 v5 x1_4 S1) ∧
  (¬ (gj S1 8 0 18) < (gj S1 30 0 x2_4.toNatClampNeg) →
  (x1_4 = (-1 : Int32) →
  ∀ v6 : Int32, v6 = x2_4 + (1 : Int32) →
  K4 v6 x2_4 S1) ∧
  (¬ x1_4 = (-1 : Int32) →
  vp_in x2_4 30 ∧
  vp_in x1_4 30 ∧
  ((gj S1 30 0 x1_4.toNatClampNeg) ≤ (gj S1 30 0 x2_4.toNatClampNeg) →
  ∀ v9 : Int32, v9 = x2_4 + (1 : Int32) →
  K4 v9 x1_4 S1) ∧
  (¬ (gj S1 30 0 x1_4.toNatClampNeg) ≤ (gj S1 30 0 x2_4.toNatClampNeg) →
  ∀ v10 : Int32, v10 = x2_4 + (1 : Int32) →
  K4 v10 x2_4 S1)))))
def lp_X9_earliest_4 (post : Int32 → St → Prop) : Nat → Int32 → Int32 → St → Prop
  | 0, _, _, _ => False
  | n + 1, x2_4, x1_4, S1 => bd_X9_earliest_4 post (fun x2_4 x1_4 S1 => lp_X9_earliest_4 post n x2_4 x1_4 S1) x2_4 x1_4 S1
def wp_X9_earliest  (S0 : St) (post : Int32 → St → Prop) : Prop :=
  ∃ n : Nat, lp_X9_earliest_4 post n (0 : Int32) (-1 : Int32) S0
set_option maxRecDepth 100000 in
set_option maxHeartbeats 4000000 in
theorem m_X9_earliest (l : Launch) (G : GT)  (S0 : St) (a0 : Nat) (hA0 : AtO S0 8 0 a0) (post : Int32 → St → Prop) (hQ : wp_X9_earliest S0 post) : Met l yX9_earliest (wM yX9_earliest cX9_earliest 3 (some (FieldType.int))) ({ frames := 0, cells := 0, slots := 0, locals := 0 } : Room) (PC G S0 [.ref a0]) (QI G S0 post) 0 0 (QA G) := by
  refine mt_start RX9 (by decide) rfl (Nat.le_of_ble_eq_true rfl) ?_
  intro p e s m args below meth c ls F hr hlk hnm hw hl
  have hx := F.1
  have hb := F.2.1
  have hown := F.2.2.2.1
  have hts := F.2.2.2.2
  have hX : Ext S0 S0 := Ext.rf
  have hsz0 := hw.1.1.1
  have hl : lv_has ls 3 [(0, .ref a0)] := hl
  unfold wp_X9_earliest at hQ
  refine lv_iconst (v := -1) hx hb dX9_earliest_0 (by decide) ?_
  refine lv_istore_n (lv' := [(1, .int (-1 : Int32)), (0, .ref a0)]) hx hb dX9_earliest_1 rfl hl (by decide) rfl (fun ls hl => ?_)
  refine lv_iconst (v := 0) hx hb dX9_earliest_2 (by decide) ?_
  refine lv_istore_n (lv' := [(2, .int (0 : Int32)), (1, .int (-1 : Int32)), (0, .ref a0)]) hx hb dX9_earliest_3 rfl hl (by decide) rfl (fun ls hl => ?_)
  have hloop4 : ∀ (n4 : Nat) (x2_4 : Int32) (x1_4 : Int32) (S1 : St) (H : Heap) (locs : List Loc) (ls : Array Slot) (cl4 sl4 : Nat), lp_X9_earliest_4 post n4 x2_4 x1_4 S1 → WW G S1 s H locs → Ext S0 S1 → AtO S1 8 0 a0 → lv_has ls 3 [(2, .int x2_4), (1, .int x1_4), (0, .ref a0)] → cl4 ≤ 0 + 0 → sl4 ≤ 0 + 0 → W p l e ({ frames := 0, cells := 0, slots := 0, locals := 0 } : Room) s m args below meth c H locs cl4 sl4 (MQ below (QI G S0 post) args s 0 0 (QA G)) (F0 m 4 ls []) := by
    intro n4
    induction n4 with
    | zero => intro x2_4 x1_4 S1 H locs ls cl sl hQ; exact False.elim hQ
    | succ n4 ih4 =>
      intro x2_4 x1_4 S1 H locs ls cl4 sl4 hQ hw hX hA0 hl hcl4 hsl4
      have hQ : bd_X9_earliest_4 post (fun x2_4 x1_4 S1 => lp_X9_earliest_4 post n4 x2_4 x1_4 S1) x2_4 x1_4 S1 := hQ
      unfold bd_X9_earliest_4 at hQ
      refine lv_iload_n hx hb dX9_earliest_4 rfl (lv_at hl 0 rfl) ?_
      refine lv_aload_n hx hb dX9_earliest_5 rfl (lv_at hl 2 rfl) ?_
      refine g_8_12 F hw hA0 twf_RX9_85 dX9_earliest_6 ?_
      refine lv_icmp_ge (tgt := 68) hx hb dX9_earliest_9 (by decide) (fun hc => ?_) (fun hc => ?_)
      · have hQ := hQ.1 hc
        refine lv_iload_n hx hb dX9_earliest_68 rfl (lv_at hl 1 rfl) ?_
        exact rt_i F hr hlk hw hX hQ (show cl4 ≤ 0 from by omega) (show sl4 ≤ 0 from by omega) dX9_earliest_69
      · have hQ := hQ.2 hc
        refine lv_aload_n hx hb dX9_earliest_12 rfl (lv_at hl 2 rfl) ?_
        refine g_8_15 F hw hA0 twf_RX9_51 dX9_earliest_13 (fun a2 hA2 => ?_)
        refine lv_iload_n hx hb dX9_earliest_16 rfl (lv_at hl 0 rfl) ?_
        obtain ⟨hin, hQ⟩ := hQ
        refine al_30 F hw hA2 hin dX9_earliest_17 ?_
        refine lv_ldc2 (v := -1) hx hb hown (hts _ twl_RX9_117) dX9_earliest_18 ?_
        refine lc_eq (tgt := 62) F dX9_earliest_21 dX9_earliest_22 (by decide) (fun hc => ?_) (fun hc => ?_)
        · have hQ := hQ.1 hc
          obtain ⟨v3, ev3⟩ : ∃ y : Int32, y = x2_4 + (1 : Int32) := ⟨_, rfl⟩
          have hQ := hQ v3 ev3
          refine lv_iinc (v := v3) (lv' := [(2, .int v3), (1, .int x1_4), (0, .ref a0)]) hx hb dX9_earliest_62 hl (k := 0) rfl (by rw [ev3]; rfl) (by decide) rfl (fun ls hl => ?_)
          refine lv_goto (tgt := 4) hx hb dX9_earliest_65 (by decide) ?_
          exact ih4 v3 x1_4 S1 _ _ _ _ _ hQ hw hX hA0 (lv_sub hl [0, 1, 2] rfl) (by omega) (by omega)
        · have hQ := hQ.2 hc
          refine lv_aload_n hx hb dX9_earliest_25 rfl (lv_at hl 2 rfl) ?_
          refine g_8_15 F hw hA0 twf_RX9_51 dX9_earliest_26 (fun a4 hA4 => ?_)
          refine lv_iload_n hx hb dX9_earliest_29 rfl (lv_at hl 0 rfl) ?_
          obtain ⟨hin, hQ⟩ := hQ
          refine al_30 F hw hA4 hin dX9_earliest_30 ?_
          refine lv_aload_n hx hb dX9_earliest_31 rfl (lv_at hl 2 rfl) ?_
          refine g_8_18 F hw hA0 twf_RX9_129 dX9_earliest_32 ?_
          refine lc_gt (tgt := 62) F dX9_earliest_35 dX9_earliest_36 (by decide) (fun hc => ?_) (fun hc => ?_)
          · have hQ := hQ.1 hc
            obtain ⟨v5, ev5⟩ : ∃ y : Int32, y = x2_4 + (1 : Int32) := ⟨_, rfl⟩
            have hQ := hQ v5 ev5
            refine lv_iinc (v := v5) (lv' := [(2, .int v5), (1, .int x1_4), (0, .ref a0)]) hx hb dX9_earliest_62 hl (k := 0) rfl (by rw [ev5]; rfl) (by decide) rfl (fun ls hl => ?_)
            refine lv_goto (tgt := 4) hx hb dX9_earliest_65 (by decide) ?_
            exact ih4 v5 x1_4 S1 _ _ _ _ _ hQ hw hX hA0 (lv_sub hl [0, 1, 2] rfl) (by omega) (by omega)
          · have hQ := hQ.2 hc
            refine lv_iload_n hx hb dX9_earliest_39 rfl (lv_at hl 1 rfl) ?_
            refine lv_iconst (v := -1) hx hb dX9_earliest_40 (by decide) ?_
            refine lv_icmp_eq (tgt := 60) hx hb dX9_earliest_41 (by decide) (fun hc => ?_) (fun hc => ?_)
            · have hQ := hQ.1 hc
              refine lv_iload_n hx hb dX9_earliest_60 rfl (lv_at hl 0 rfl) ?_
              refine lv_istore_n (lv' := [(1, .int x2_4), (2, .int x2_4), (0, .ref a0)]) hx hb dX9_earliest_61 rfl hl (by decide) rfl (fun ls hl => ?_)
              obtain ⟨v6, ev6⟩ : ∃ y : Int32, y = x2_4 + (1 : Int32) := ⟨_, rfl⟩
              have hQ := hQ v6 ev6
              refine lv_iinc (v := v6) (lv' := [(2, .int v6), (1, .int x2_4), (0, .ref a0)]) hx hb dX9_earliest_62 hl (k := 1) rfl (by rw [ev6]; rfl) (by decide) rfl (fun ls hl => ?_)
              refine lv_goto (tgt := 4) hx hb dX9_earliest_65 (by decide) ?_
              exact ih4 v6 x2_4 S1 _ _ _ _ _ hQ hw hX hA0 (lv_sub hl [0, 1, 2] rfl) (by omega) (by omega)
            · have hQ := hQ.2 hc
              refine lv_aload_n hx hb dX9_earliest_44 rfl (lv_at hl 2 rfl) ?_
              refine g_8_15 F hw hA0 twf_RX9_51 dX9_earliest_45 (fun a7 hA7 => ?_)
              refine lv_iload_n hx hb dX9_earliest_48 rfl (lv_at hl 0 rfl) ?_
              obtain ⟨hin, hQ⟩ := hQ
              refine al_30 F hw hA7 hin dX9_earliest_49 ?_
              refine lv_aload_n hx hb dX9_earliest_50 rfl (lv_at hl 2 rfl) ?_
              refine g_8_15 F hw hA0 twf_RX9_51 dX9_earliest_51 (fun a8 hA8 => ?_)
              refine lv_iload_n hx hb dX9_earliest_54 rfl (lv_at hl 1 rfl) ?_
              obtain ⟨hin, hQ⟩ := hQ
              refine al_30 F hw hA8 hin dX9_earliest_55 ?_
              refine lc_ge (tgt := 62) F dX9_earliest_56 dX9_earliest_57 (by decide) (fun hc => ?_) (fun hc => ?_)
              · have hQ := hQ.1 hc
                obtain ⟨v9, ev9⟩ : ∃ y : Int32, y = x2_4 + (1 : Int32) := ⟨_, rfl⟩
                have hQ := hQ v9 ev9
                refine lv_iinc (v := v9) (lv' := [(2, .int v9), (1, .int x1_4), (0, .ref a0)]) hx hb dX9_earliest_62 hl (k := 0) rfl (by rw [ev9]; rfl) (by decide) rfl (fun ls hl => ?_)
                refine lv_goto (tgt := 4) hx hb dX9_earliest_65 (by decide) ?_
                exact ih4 v9 x1_4 S1 _ _ _ _ _ hQ hw hX hA0 (lv_sub hl [0, 1, 2] rfl) (by omega) (by omega)
              · have hQ := hQ.2 hc
                refine lv_iload_n hx hb dX9_earliest_60 rfl (lv_at hl 0 rfl) ?_
                refine lv_istore_n (lv' := [(1, .int x2_4), (2, .int x2_4), (0, .ref a0)]) hx hb dX9_earliest_61 rfl hl (by decide) rfl (fun ls hl => ?_)
                obtain ⟨v10, ev10⟩ : ∃ y : Int32, y = x2_4 + (1 : Int32) := ⟨_, rfl⟩
                have hQ := hQ v10 ev10
                refine lv_iinc (v := v10) (lv' := [(2, .int v10), (1, .int x2_4), (0, .ref a0)]) hx hb dX9_earliest_62 hl (k := 1) rfl (by rw [ev10]; rfl) (by decide) rfl (fun ls hl => ?_)
                refine lv_goto (tgt := 4) hx hb dX9_earliest_65 (by decide) ?_
                exact ih4 v10 x2_4 S1 _ _ _ _ _ hQ hw hX hA0 (lv_sub hl [0, 1, 2] rfl) (by omega) (by omega)
  obtain ⟨n, hQ⟩ := hQ
  exact hloop4 n (0 : Int32) (-1 : Int32) S0 _ _ _ _ _ hQ hw hX hA0 (lv_sub hl [0, 1, 2] rfl) (by omega) (by omega)
theorem k_X9_earliest {p : Program} {l : Launch} {e : Env} {R : Room} {s : State} {m : MethodId} {args : Array Value} {below : List Frame} {meth : Method} {c : Code} {H : Heap} {locs : List Loc} {cells slots : Nat} {Q : State → Prop} {cc : ByteArray} {pc nL : Nat} {ls : Array Slot} {rest : List Value} {G : GT} {S : St} {own : String}  {post : Int32 → St → Prop} {lv : List (Nat × Value)} {idx : Nat} (F : CX p m c cc nL s args own) (hw : WW G S s H locs) (hl : lv_has ls nL lv) {a0 : Nat} (hA0 : AtO S 8 0 a0) (hQ : wp_X9_earliest S post) (h1 : Cond.methodLink own idx yX9_earliest ∈ wT) (hR1 : 0 + 1 ≤ R.frames) (hR2 : 8 + (3 + 11) + 0 ≤ R.locals) (hrest : (rest.map fun v => v.category).sum ≤ 8) (hdg : decode cc pc = .ok (.invokevirtual idx, 3)) (hf1 : cells + 0 ≤ R.cells) (hf2 : slots + 0 ≤ R.slots)
    (kk : ∀ (r : Int32) (S1 : St) (H1 : Heap) (locs1 : List Loc), post r S1 → WW G S1 s H1 locs1 → Ext S S1 → W p l e R s m args below meth c H1 locs1 (cells + 0) (slots + 0) Q (F0 m (pc + 3) ls (.int r :: rest))) : W p l e R s m args below meth c H locs cells slots Q (F0 m pc ls (.ref a0 :: rest)) :=
  cl_i (rn_V (n := 0) (As := []) (q := (RX9, TX9, 36)) F hw hl (m_X9_earliest l G  S a0 hA0 post hQ) 8 (by decide) (by decide) hA0 rfl rfl h1 twi_yX9_earliest tws_yX9_earliest twn_RX9 two_yX9_earliest rfl rfl ⟨rfl, by decide, by decide, by decide +kernel⟩ rfl ⟨hR1, hR2⟩ rfl hrest hdg ⟨hf1, hf2⟩) hw kk
-- X9_sell
def bd_X9_sell_31 (p1 : Int32) (v2 : Int64) (r4 : Int64) (v5 : Int32) (post : St → Prop) (K31 : Int32 → St → Prop) (x7_31 : Int32) (S8 : St) : Prop :=
  ((gi S8 8 0 12) ≤ x7_31 →
  vp_in v5 60 ∧
  ∀ S10 : St, S10 = si S8 20 0 v5.toNatClampNeg (3 : Int32) →
  vp_in v5 60 ∧
  ∀ S12 : St, S12 = si S10 21 0 v5.toNatClampNeg p1 →
  vp_in v5 60 ∧
  ∀ S14 : St, S14 = sj S12 22 0 v5.toNatClampNeg r4 →
  vp_in v5 60 ∧
  ∀ S16 : St, S16 = si S14 23 0 v5.toNatClampNeg (1 : Int32) →
  ∀ S17 : St, S17 = si S16 8 0 17 (-1 : Int32) →
  wp_X9_note (1 : Int32) v5 p1 r4 S17 (fun S18 =>
  post S18)) ∧
  (¬ (gi S8 8 0 12) ≤ x7_31 →
  (x7_31 = p1 →
  vp_in v5 60 ∧
  vp_in v5 60 ∧
  ∀ S21 : St, S21 = si S8 27 0 v5.toNatClampNeg (gi S8 27 0 v5.toNatClampNeg) →
  ∀ v22 : Int32, v22 = x7_31 + (1 : Int32) →
  K31 v22 S21) ∧
  (¬ x7_31 = p1 →
  vp_in x7_31 30 ∧
  (¬ (gj S8 30 0 x7_31.toNatClampNeg) = v2 →
  vp_in v5 60 ∧
  vp_in v5 60 ∧
  ∀ S25 : St, S25 = si S8 27 0 v5.toNatClampNeg (gi S8 27 0 v5.toNatClampNeg) →
  ∀ v26 : Int32, v26 = x7_31 + (1 : Int32) →
  K31 v26 S25) ∧
  ((gj S8 30 0 x7_31.toNatClampNeg) = v2 →
  wp_X9_free x7_31 S8 (fun r28 S27 =>
  (r28 < r4 →
  vp_in v5 60 ∧
  vp_in v5 60 ∧
  ∀ S30 : St, S30 = si S27 27 0 v5.toNatClampNeg (gi S27 27 0 v5.toNatClampNeg) →
  ∀ v31 : Int32, v31 = x7_31 + (1 : Int32) →
  K31 v31 S30) ∧
  (¬ r28 < r4 →
  vp_in v5 60 ∧
  vp_in v5 60 ∧
  ∀ S33 : St, S33 = si S27 27 0 v5.toNatClampNeg ((gi S27 27 0 v5.toNatClampNeg) ||| ((1 : Int32) <<< (x7_31 &&& 31))) →
  ∀ v34 : Int32, v34 = x7_31 + (1 : Int32) →
  K31 v34 S33)))))
def lp_X9_sell_31 (p1 : Int32) (v2 : Int64) (r4 : Int64) (v5 : Int32) (post : St → Prop) : Nat → Int32 → St → Prop
  | 0, _, _ => False
  | n + 1, x7_31, S8 => bd_X9_sell_31 p1 v2 r4 v5 post (fun x7_31 S8 => lp_X9_sell_31 p1 v2 r4 v5 post n x7_31 S8) x7_31 S8
def wp_X9_sell (p1 : Int32) (S0 : St) (post : St → Prop) : Prop :=
  vp_in p1 30 ∧
  ∀ v2 : Int64, v2 = gj S0 30 0 p1.toNatClampNeg →
  wp_X9_priceAt v2 S0 (fun r4 S3 =>
  ∀ v5 : Int32, v5 = gi S3 8 0 17 →
  vp_in v5 60 ∧
  ∀ S7 : St, S7 = si S3 27 0 v5.toNatClampNeg (0 : Int32) →
  ∃ n : Nat, lp_X9_sell_31 p1 v2 r4 v5 post n (0 : Int32) S7)
set_option maxRecDepth 100000 in
set_option maxHeartbeats 4000000 in
theorem m_X9_sell (l : Launch) (G : GT) (p1 : Int32) (S0 : St) (a0 : Nat) (hA0 : AtO S0 8 0 a0) (post : St → Prop) (hQ : wp_X9_sell p1 S0 post) : Met l yX9_sell (wM yX9_sell cX9_sell 8 none) ({ frames := 2, cells := 0, slots := 0, locals := 51 } : Room) (PC G S0 [.ref a0, .int p1]) (QV G S0 post) 0 0 (QA G) := by
  refine mt_start RX9 (by decide) rfl (Nat.le_of_ble_eq_true rfl) ?_
  intro p e s m args below meth c ls F hr hlk hnm hw hl
  have hx := F.1
  have hb := F.2.1
  have hown := F.2.2.2.1
  have hts := F.2.2.2.2
  have hX : Ext S0 S0 := Ext.rf
  have hsz0 := hw.1.1.1
  have hl : lv_has ls 8 [(0, .ref a0), (1, .int p1)] := hl
  unfold wp_X9_sell at hQ
  refine lv_aload_n hx hb dX9_sell_0 rfl (lv_at hl 0 rfl) ?_
  refine g_8_15 F hw hA0 twf_RX9_51 dX9_sell_1 (fun a1 hA1 => ?_)
  refine lv_iload_n hx hb dX9_sell_4 rfl (lv_at hl 1 rfl) ?_
  obtain ⟨hin, hQ⟩ := hQ
  refine al_30 F hw hA1 hin dX9_sell_5 ?_
  refine lv_topl (fun v2 ev2 => ?_)
  have hQ := hQ v2 ev2
  refine lv_lstore_n (lv' := [(2, .long v2), (0, .ref a0), (1, .int p1)]) hx hb dX9_sell_6 rfl hl (by decide) rfl (fun ls hl => ?_)
  refine lv_aload_n hx hb dX9_sell_7 rfl (lv_at hl 1 rfl) ?_
  refine lv_lload_n hx hb dX9_sell_8 rfl (lv_at hl 0 rfl) ?_
  refine k_X9_priceAt F hw hl hA0 hQ twm_RX9_146 (Nat.le_of_ble_eq_true rfl) (Nat.le_of_ble_eq_true rfl) (Nat.le_of_ble_eq_true rfl) dX9_sell_9 (show 0 + 0 ≤ 0 from by omega) (show 0 + 0 ≤ 0 from by omega) (fun r4 S3 H locs hQ hw hx1 => ?_)
  have hX := hX.trans hx1
  have hA0 := hA0.ext hx1
  refine lv_lstore (lv' := [(4, .long r4), (2, .long v2), (0, .ref a0), (1, .int p1)]) hx hb dX9_sell_12 hl (by decide) rfl (fun ls hl => ?_)
  refine lv_aload_n hx hb dX9_sell_14 rfl (lv_at hl 2 rfl) ?_
  refine g_8_17 F hw hA0 twf_RX9_54 dX9_sell_15 ?_
  refine lv_topi (fun v5 ev5 => ?_)
  have hQ := hQ v5 ev5
  refine lv_istore (lv' := [(6, .int v5), (4, .long r4), (2, .long v2), (0, .ref a0), (1, .int p1)]) hx hb dX9_sell_18 hl (by decide) rfl (fun ls hl => ?_)
  refine lv_aload_n hx hb dX9_sell_20 rfl (lv_at hl 3 rfl) ?_
  refine g_8_11 F hw hA0 twf_RX9_42 dX9_sell_21 (fun a6 hA6 => ?_)
  refine lv_iload hx hb dX9_sell_24 (lv_at hl 0 rfl) ?_
  refine lv_iconst (v := 0) hx hb dX9_sell_26 (by decide) ?_
  obtain ⟨hin, hQ⟩ := hQ
  refine as_27 F hw hA6 hin dX9_sell_27 (fun S7 H locs eS7 hw hx1 => ?_)
  have hQ := hQ S7 eS7
  have hX := hX.trans hx1
  have hA0 := hA0.ext hx1
  refine lv_iconst (v := 0) hx hb dX9_sell_28 (by decide) ?_
  refine lv_istore (lv' := [(7, .int (0 : Int32)), (6, .int v5), (4, .long r4), (2, .long v2), (0, .ref a0), (1, .int p1)]) hx hb dX9_sell_29 hl (by decide) rfl (fun ls hl => ?_)
  have hloop31 : ∀ (n31 : Nat) (x7_31 : Int32) (S8 : St) (H : Heap) (locs : List Loc) (ls : Array Slot) (cl31 sl31 : Nat), lp_X9_sell_31 p1 v2 r4 v5 post n31 x7_31 S8 → WW G S8 s H locs → Ext S0 S8 → AtO S8 8 0 a0 → lv_has ls 8 [(7, .int x7_31), (6, .int v5), (4, .long r4), (2, .long v2), (0, .ref a0), (1, .int p1)] → cl31 ≤ (0 + 0) + 0 → sl31 ≤ (0 + 0) + 0 → W p l e ({ frames := 2, cells := 0, slots := 0, locals := 51 } : Room) s m args below meth c H locs cl31 sl31 (MQ below (QV G S0 post) args s 0 0 (QA G)) (F0 m 31 ls []) := by
    intro n31
    induction n31 with
    | zero => intro x7_31 S8 H locs ls cl sl hQ; exact False.elim hQ
    | succ n31 ih31 =>
      intro x7_31 S8 H locs ls cl31 sl31 hQ hw hX hA0 hl hcl31 hsl31
      have hQ : bd_X9_sell_31 p1 v2 r4 v5 post (fun x7_31 S8 => lp_X9_sell_31 p1 v2 r4 v5 post n31 x7_31 S8) x7_31 S8 := hQ
      unfold bd_X9_sell_31 at hQ
      refine lv_iload hx hb dX9_sell_31 (lv_at hl 0 rfl) ?_
      refine lv_aload_n hx hb dX9_sell_33 rfl (lv_at hl 4 rfl) ?_
      refine g_8_12 F hw hA0 twf_RX9_85 dX9_sell_34 ?_
      refine lv_icmp_ge (tgt := 105) hx hb dX9_sell_37 (by decide) (fun hc => ?_) (fun hc => ?_)
      · have hQ := hQ.1 hc
        refine lv_aload_n hx hb dX9_sell_105 rfl (lv_at hl 4 rfl) ?_
        refine g_8_4 F hw hA0 twf_RX9_20 dX9_sell_106 (fun a9 hA9 => ?_)
        refine lv_iload hx hb dX9_sell_109 (lv_at hl 1 rfl) ?_
        refine lv_iconst (v := 3) hx hb dX9_sell_111 (by decide) ?_
        obtain ⟨hin, hQ⟩ := hQ
        refine as_20 F hw hA9 hin dX9_sell_112 (fun S10 H locs eS10 hw hx1 => ?_)
        have hQ := hQ S10 eS10
        have hX := hX.trans hx1
        have hA0 := hA0.ext hx1
        refine lv_aload_n hx hb dX9_sell_113 rfl (lv_at hl 4 rfl) ?_
        refine g_8_5 F hw hA0 twf_RX9_23 dX9_sell_114 (fun a11 hA11 => ?_)
        refine lv_iload hx hb dX9_sell_117 (lv_at hl 1 rfl) ?_
        refine lv_iload_n hx hb dX9_sell_119 rfl (lv_at hl 5 rfl) ?_
        obtain ⟨hin, hQ⟩ := hQ
        refine as_21 F hw hA11 hin dX9_sell_120 (fun S12 H locs eS12 hw hx1 => ?_)
        have hQ := hQ S12 eS12
        have hX := hX.trans hx1
        have hA0 := hA0.ext hx1
        refine lv_aload_n hx hb dX9_sell_121 rfl (lv_at hl 4 rfl) ?_
        refine g_8_6 F hw hA0 twf_RX9_26 dX9_sell_122 (fun a13 hA13 => ?_)
        refine lv_iload hx hb dX9_sell_125 (lv_at hl 1 rfl) ?_
        refine lv_lload hx hb dX9_sell_127 (lv_at hl 2 rfl) ?_
        obtain ⟨hin, hQ⟩ := hQ
        refine as_22 F hw hA13 hin dX9_sell_129 (fun S14 H locs eS14 hw hx1 => ?_)
        have hQ := hQ S14 eS14
        have hX := hX.trans hx1
        have hA0 := hA0.ext hx1
        refine lv_aload_n hx hb dX9_sell_130 rfl (lv_at hl 4 rfl) ?_
        refine g_8_7 F hw hA0 twf_RX9_29 dX9_sell_131 (fun a15 hA15 => ?_)
        refine lv_iload hx hb dX9_sell_134 (lv_at hl 1 rfl) ?_
        refine lv_iconst (v := 1) hx hb dX9_sell_136 (by decide) ?_
        obtain ⟨hin, hQ⟩ := hQ
        refine as_23 F hw hA15 hin (Or.inr rfl) dX9_sell_137 (fun S16 H locs eS16 hw hx1 => ?_)
        have hQ := hQ S16 eS16
        have hX := hX.trans hx1
        have hA0 := hA0.ext hx1
        refine lv_aload_n hx hb dX9_sell_138 rfl (lv_at hl 4 rfl) ?_
        refine lv_iconst (v := -1) hx hb dX9_sell_139 (by decide) ?_
        refine p_8_17 F hw hA0 twf_RX9_54 dX9_sell_140 (fun S17 H locs eS17 hw hx1 => ?_)
        have hQ := hQ S17 eS17
        have hX := hX.trans hx1
        have hA0 := hA0.ext hx1
        refine lv_aload_n hx hb dX9_sell_143 rfl (lv_at hl 4 rfl) ?_
        refine lv_iconst (v := 1) hx hb dX9_sell_144 (by decide) ?_
        refine lv_iload hx hb dX9_sell_145 (lv_at hl 1 rfl) ?_
        refine lv_iload_n hx hb dX9_sell_147 rfl (lv_at hl 5 rfl) ?_
        refine lv_lload hx hb dX9_sell_148 (lv_at hl 2 rfl) ?_
        refine k_X9_note F hw hl hA0 hQ twm_RX9_160 (Nat.le_of_ble_eq_true rfl) (Nat.le_of_ble_eq_true rfl) (Nat.le_of_ble_eq_true rfl) dX9_sell_150 (show cl31 + 0 ≤ 0 from by omega) (show sl31 + 0 ≤ 0 from by omega) (fun S18 H locs hQ hw hx1 => ?_)
        have hX := hX.trans hx1
        have hA0 := hA0.ext hx1
        exact rt_v F hr hlk hw hX hQ (show (cl31 + 0) ≤ 0 from by omega) (show (sl31 + 0) ≤ 0 from by omega) dX9_sell_153
      · have hQ := hQ.2 hc
        refine lv_aload_n hx hb dX9_sell_40 rfl (lv_at hl 4 rfl) ?_
        refine g_8_11 F hw hA0 twf_RX9_42 dX9_sell_41 (fun a19 hA19 => ?_)
        refine lv_iload hx hb dX9_sell_44 (lv_at hl 1 rfl) ?_
        refine lv_iload hx hb dX9_sell_46 (lv_at hl 0 rfl) ?_
        refine lv_iload_n hx hb dX9_sell_48 rfl (lv_at hl 5 rfl) ?_
        refine lv_icmp_eq (tgt := 91) hx hb dX9_sell_49 (by decide) (fun hc => ?_) (fun hc => ?_)
        · have hQ := hQ.1 hc
          refine lv_aload_n hx hb dX9_sell_91 rfl (lv_at hl 4 rfl) ?_
          refine g_8_11 F hw hA0 twf_RX9_42 dX9_sell_92 (fun a20 hA20 => ?_)
          refine lv_iload hx hb dX9_sell_95 (lv_at hl 1 rfl) ?_
          obtain ⟨hin, hQ⟩ := hQ
          refine al_27 F hw hA20 hin dX9_sell_97 ?_
          obtain ⟨hin, hQ⟩ := hQ
          refine as_27 F hw hA19 hin dX9_sell_98 (fun S21 H locs eS21 hw hx1 => ?_)
          have hQ := hQ S21 eS21
          have hX := hX.trans hx1
          have hA0 := hA0.ext hx1
          obtain ⟨v22, ev22⟩ : ∃ y : Int32, y = x7_31 + (1 : Int32) := ⟨_, rfl⟩
          have hQ := hQ v22 ev22
          refine lv_iinc (v := v22) (lv' := [(7, .int v22), (6, .int v5), (4, .long r4), (2, .long v2), (0, .ref a0), (1, .int p1)]) hx hb dX9_sell_99 hl (k := 0) rfl (by rw [ev22]; rfl) (by decide) rfl (fun ls hl => ?_)
          refine lv_goto (tgt := 31) hx hb dX9_sell_102 (by decide) ?_
          exact ih31 v22 S21 _ _ _ _ _ hQ hw hX hA0 (lv_sub hl [0, 1, 2, 3, 4, 5] rfl) (by omega) (by omega)
        · have hQ := hQ.2 hc
          refine lv_aload_n hx hb dX9_sell_52 rfl (lv_at hl 4 rfl) ?_
          refine g_8_15 F hw hA0 twf_RX9_51 dX9_sell_53 (fun a23 hA23 => ?_)
          refine lv_iload hx hb dX9_sell_56 (lv_at hl 0 rfl) ?_
          obtain ⟨hin, hQ⟩ := hQ
          refine al_30 F hw hA23 hin dX9_sell_58 ?_
          refine lv_lload_n hx hb dX9_sell_59 rfl (lv_at hl 3 rfl) ?_
          refine lc_ne (tgt := 91) F dX9_sell_60 dX9_sell_61 (by decide) (fun hc => ?_) (fun hc => ?_)
          · have hQ := hQ.1 hc
            refine lv_aload_n hx hb dX9_sell_91 rfl (lv_at hl 4 rfl) ?_
            refine g_8_11 F hw hA0 twf_RX9_42 dX9_sell_92 (fun a24 hA24 => ?_)
            refine lv_iload hx hb dX9_sell_95 (lv_at hl 1 rfl) ?_
            obtain ⟨hin, hQ⟩ := hQ
            refine al_27 F hw hA24 hin dX9_sell_97 ?_
            obtain ⟨hin, hQ⟩ := hQ
            refine as_27 F hw hA19 hin dX9_sell_98 (fun S25 H locs eS25 hw hx1 => ?_)
            have hQ := hQ S25 eS25
            have hX := hX.trans hx1
            have hA0 := hA0.ext hx1
            obtain ⟨v26, ev26⟩ : ∃ y : Int32, y = x7_31 + (1 : Int32) := ⟨_, rfl⟩
            have hQ := hQ v26 ev26
            refine lv_iinc (v := v26) (lv' := [(7, .int v26), (6, .int v5), (4, .long r4), (2, .long v2), (0, .ref a0), (1, .int p1)]) hx hb dX9_sell_99 hl (k := 0) rfl (by rw [ev26]; rfl) (by decide) rfl (fun ls hl => ?_)
            refine lv_goto (tgt := 31) hx hb dX9_sell_102 (by decide) ?_
            exact ih31 v26 S25 _ _ _ _ _ hQ hw hX hA0 (lv_sub hl [0, 1, 2, 3, 4, 5] rfl) (by omega) (by omega)
          · have hQ := hQ.2 hc
            refine lv_aload_n hx hb dX9_sell_64 rfl (lv_at hl 4 rfl) ?_
            refine lv_iload hx hb dX9_sell_65 (lv_at hl 0 rfl) ?_
            refine k_X9_free F hw hl hA0 hQ twm_RX9_157 (Nat.le_of_ble_eq_true rfl) (Nat.le_of_ble_eq_true rfl) (Nat.le_of_ble_eq_true rfl) dX9_sell_67 (show cl31 + 0 ≤ 0 from by omega) (show sl31 + 0 ≤ 0 from by omega) (fun r28 S27 H locs hQ hw hx1 => ?_)
            have hX := hX.trans hx1
            have hA19 := hA19.ext hx1
            have hA0 := hA0.ext hx1
            refine lv_lload hx hb dX9_sell_70 (lv_at hl 2 rfl) ?_
            refine lc_lt (tgt := 91) F dX9_sell_72 dX9_sell_73 (by decide) (fun hc => ?_) (fun hc => ?_)
            · have hQ := hQ.1 hc
              refine lv_aload_n hx hb dX9_sell_91 rfl (lv_at hl 4 rfl) ?_
              refine g_8_11 F hw hA0 twf_RX9_42 dX9_sell_92 (fun a29 hA29 => ?_)
              refine lv_iload hx hb dX9_sell_95 (lv_at hl 1 rfl) ?_
              obtain ⟨hin, hQ⟩ := hQ
              refine al_27 F hw hA29 hin dX9_sell_97 ?_
              obtain ⟨hin, hQ⟩ := hQ
              refine as_27 F hw hA19 hin dX9_sell_98 (fun S30 H locs eS30 hw hx1 => ?_)
              have hQ := hQ S30 eS30
              have hX := hX.trans hx1
              have hA0 := hA0.ext hx1
              obtain ⟨v31, ev31⟩ : ∃ y : Int32, y = x7_31 + (1 : Int32) := ⟨_, rfl⟩
              have hQ := hQ v31 ev31
              refine lv_iinc (v := v31) (lv' := [(7, .int v31), (6, .int v5), (4, .long r4), (2, .long v2), (0, .ref a0), (1, .int p1)]) hx hb dX9_sell_99 hl (k := 0) rfl (by rw [ev31]; rfl) (by decide) rfl (fun ls hl => ?_)
              refine lv_goto (tgt := 31) hx hb dX9_sell_102 (by decide) ?_
              exact ih31 v31 S30 _ _ _ _ _ hQ hw hX hA0 (lv_sub hl [0, 1, 2, 3, 4, 5] rfl) (by omega) (by omega)
            · have hQ := hQ.2 hc
              refine lv_aload_n hx hb dX9_sell_76 rfl (lv_at hl 4 rfl) ?_
              refine g_8_11 F hw hA0 twf_RX9_42 dX9_sell_77 (fun a32 hA32 => ?_)
              refine lv_iload hx hb dX9_sell_80 (lv_at hl 1 rfl) ?_
              obtain ⟨hin, hQ⟩ := hQ
              refine al_27 F hw hA32 hin dX9_sell_82 ?_
              refine lv_iconst (v := 1) hx hb dX9_sell_83 (by decide) ?_
              refine lv_iload hx hb dX9_sell_84 (lv_at hl 0 rfl) ?_
              refine lv_ishl hx hb dX9_sell_86 ?_
              refine lv_ior hx hb dX9_sell_87 ?_
              refine lv_goto (tgt := 98) hx hb dX9_sell_88 (by decide) ?_
              obtain ⟨hin, hQ⟩ := hQ
              refine as_27 F hw hA19 hin dX9_sell_98 (fun S33 H locs eS33 hw hx1 => ?_)
              have hQ := hQ S33 eS33
              have hX := hX.trans hx1
              have hA0 := hA0.ext hx1
              obtain ⟨v34, ev34⟩ : ∃ y : Int32, y = x7_31 + (1 : Int32) := ⟨_, rfl⟩
              have hQ := hQ v34 ev34
              refine lv_iinc (v := v34) (lv' := [(7, .int v34), (6, .int v5), (4, .long r4), (2, .long v2), (0, .ref a0), (1, .int p1)]) hx hb dX9_sell_99 hl (k := 0) rfl (by rw [ev34]; rfl) (by decide) rfl (fun ls hl => ?_)
              refine lv_goto (tgt := 31) hx hb dX9_sell_102 (by decide) ?_
              exact ih31 v34 S33 _ _ _ _ _ hQ hw hX hA0 (lv_sub hl [0, 1, 2, 3, 4, 5] rfl) (by omega) (by omega)
  obtain ⟨n, hQ⟩ := hQ
  exact hloop31 n (0 : Int32) S7 _ _ _ _ _ hQ hw hX hA0 (lv_sub hl [0, 1, 2, 3, 4, 5] rfl) (by omega) (by omega)
theorem k_X9_sell {p : Program} {l : Launch} {e : Env} {R : Room} {s : State} {m : MethodId} {args : Array Value} {below : List Frame} {meth : Method} {c : Code} {H : Heap} {locs : List Loc} {cells slots : Nat} {Q : State → Prop} {cc : ByteArray} {pc nL : Nat} {ls : Array Slot} {rest : List Value} {G : GT} {S : St} {own : String} {p1 : Int32} {post : St → Prop} {lv : List (Nat × Value)} {idx : Nat} (F : CX p m c cc nL s args own) (hw : WW G S s H locs) (hl : lv_has ls nL lv) {a0 : Nat} (hA0 : AtO S 8 0 a0) (hQ : wp_X9_sell p1 S post) (h1 : Cond.methodLink own idx yX9_sell ∈ wT) (hR1 : 2 + 1 ≤ R.frames) (hR2 : 8 + (8 + 11) + 51 ≤ R.locals) (hrest : (rest.map fun v => v.category).sum ≤ 8) (hdg : decode cc pc = .ok (.invokevirtual idx, 3)) (hf1 : cells + 0 ≤ R.cells) (hf2 : slots + 0 ≤ R.slots)
    (kk : ∀ (S1 : St) (H1 : Heap) (locs1 : List Loc), post S1 → WW G S1 s H1 locs1 → Ext S S1 → W p l e R s m args below meth c H1 locs1 (cells + 0) (slots + 0) Q (F0 m (pc + 3) ls rest)) : W p l e R s m args below meth c H locs cells slots Q (F0 m pc ls (.int p1 :: .ref a0 :: rest)) :=
  cl_v (rn_V (n := 1) (As := [.int p1]) (q := (RX9, TX9, 36)) F hw hl (m_X9_sell l G p1 S a0 hA0 post hQ) 8 (by decide) (by decide) hA0 rfl rfl h1 twi_yX9_sell tws_yX9_sell twn_RX9 two_yX9_sell rfl rfl ⟨rfl, by decide, by decide, by decide +kernel⟩ rfl ⟨hR1, hR2⟩ rfl hrest hdg ⟨hf1, hf2⟩) hw kk

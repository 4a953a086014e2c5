-- X9_sets
def bd_X9_sets_212 (x7_180 : Int32) (K180 : Int32 → St → Prop) (K212 : Int32 → Int64 → St → Prop) (x10_212 : Int32) (x8_212 : Int64) (S14 : St) : Prop :=
  ((gi S14 8 0 0) ≤ x10_212 →
  ∀ v15 : Int32, v15 = x7_180 + (1 : Int32) →
  K180 v15 S14) ∧
  (¬ (gi S14 8 0 0) ≤ x10_212 →
  vp_in x7_180 18 ∧
  (¬ (((gj S14 33 0 x7_180.toNatClampNeg) >>> (x10_212.toInt64 &&& 63)) &&& (1 : Int64)) = (1 : Int64) →
  ∀ v17 : Int32, v17 = x10_212 + (1 : Int32) →
  K212 v17 x8_212 S14) ∧
  ((((gj S14 33 0 x7_180.toNatClampNeg) >>> (x10_212.toInt64 &&& 63)) &&& (1 : Int64)) = (1 : Int64) →
  vp_in x10_212 60 ∧
  ∀ S19 : St, S19 = si S14 20 0 x10_212.toNatClampNeg (3 : Int32) →
  vp_in x7_180 18 ∧
  vp_in x10_212 60 ∧
  ∀ S22 : St, S22 = si S19 21 0 x10_212.toNatClampNeg (gi S19 31 0 x7_180.toNatClampNeg) →
  vp_in x10_212 60 ∧
  ∀ S24 : St, S24 = sj S22 22 0 x10_212.toNatClampNeg x8_212 →
  vp_in x7_180 18 ∧
  wp_X9_note (4 : Int32) x10_212 (gi S24 31 0 x7_180.toNatClampNeg) x8_212 S24 (fun S26 =>
  ∀ v27 : Int32, v27 = x10_212 + (1 : Int32) →
  K212 v27 (0 : Int64) S26)))
def lp_X9_sets_212 (x7_180 : Int32) (K180 : Int32 → St → Prop) : Nat → Int32 → Int64 → St → Prop
  | 0, _, _, _ => False
  | n + 1, x10_212, x8_212, S14 => bd_X9_sets_212 x7_180 K180 (fun x10_212 x8_212 S14 => lp_X9_sets_212 x7_180 K180 n x10_212 x8_212 S14) x10_212 x8_212 S14
def bd_X9_sets_180 (x5_74 : Int64) (x4_74 : Int32) (post : Int32 → St → Prop) (K180 : Int32 → St → Prop) (x7_180 : Int32) (S4 : St) : Prop :=
  ((gi S4 8 0 23) ≤ x7_180 →
  ∀ S5 : St, S5 = si S4 8 0 27 x4_74 →
  ∀ S6 : St, S6 = sj S5 8 0 28 x5_74 →
  ∀ S7 : St, S7 = si S6 8 0 29 (1 : Int32) →
  ∀ S8 : St, S8 = si S7 8 0 23 (0 : Int32) →
  wp_X9_size x4_74 S8 (fun r10 S9 =>
  post r10 S9)) ∧
  (¬ (gi S4 8 0 23) ≤ x7_180 →
  (¬ ((x4_74 >>> (x7_180 &&& 31)) &&& (1 : Int32)) = (1 : Int32) →
  ∀ v11 : Int32, v11 = x7_180 + (1 : Int32) →
  K180 v11 S4) ∧
  (((x4_74 >>> (x7_180 &&& 31)) &&& (1 : Int32)) = (1 : Int32) →
  vp_in x7_180 18 ∧
  ∀ v13 : Int64, v13 = gj S4 32 0 x7_180.toNatClampNeg →
  ∃ n : Nat, lp_X9_sets_212 x7_180 K180 n (0 : Int32) v13 S4))
def lp_X9_sets_180 (x5_74 : Int64) (x4_74 : Int32) (post : Int32 → St → Prop) : Nat → Int32 → St → Prop
  | 0, _, _ => False
  | n + 1, x7_180, S4 => bd_X9_sets_180 x5_74 x4_74 post (fun x7_180 S4 => lp_X9_sets_180 x5_74 x4_74 post n x7_180 S4) x7_180 S4
def bd_X9_sets_74 (x3_30 : Int32) (post : Int32 → St → Prop) (K74 : Int32 → Int64 → Int32 → St → Prop) (x7_74 : Int32) (x5_74 : Int64) (x4_74 : Int32) (S3 : St) : Prop :=
  (((1 : Int32) <<< ((gi S3 8 0 23) &&& 31)) ≤ x7_74 →
  ∃ n : Nat, lp_X9_sets_180 x5_74 x4_74 post n (0 : Int32) S3) ∧
  (¬ ((1 : Int32) <<< ((gi S3 8 0 23) &&& 31)) ≤ x7_74 →
  (¬ (x7_74 &&& (x3_30 ^^^ (-1 : Int32))) = 0 →
  ∀ v28 : Int32, v28 = x7_74 + (1 : Int32) →
  K74 v28 x5_74 x4_74 S3) ∧
  ((x7_74 &&& (x3_30 ^^^ (-1 : Int32))) = 0 →
  wp_X9_sumOf x7_74 S3 (fun r30 S29 =>
  (x5_74 < r30 →
  ∀ v31 : Int32, v31 = x7_74 + (1 : Int32) →
  K74 v31 r30 x7_74 S29) ∧
  (¬ x5_74 < r30 →
  (¬ r30 = x5_74 →
  ∀ v32 : Int32, v32 = x7_74 + (1 : Int32) →
  K74 v32 x5_74 x4_74 S29) ∧
  (r30 = x5_74 →
  (r30 = (-1 : Int64) →
  ∀ v33 : Int32, v33 = x7_74 + (1 : Int32) →
  K74 v33 x5_74 x4_74 S29) ∧
  (¬ r30 = (-1 : Int64) →
  wp_X9_size x7_74 S29 (fun r35 S34 =>
  wp_X9_size x4_74 S34 (fun r37 S36 =>
  (r35 < r37 →
  ∀ v38 : Int32, v38 = x7_74 + (1 : Int32) →
  K74 v38 r30 x7_74 S36) ∧
  (¬ r35 < r37 →
  wp_X9_size x7_74 S36 (fun r40 S39 =>
  wp_X9_size x4_74 S39 (fun r42 S41 =>
  (¬ r40 = r42 →
  ∀ v43 : Int32, v43 = x7_74 + (1 : Int32) →
  K74 v43 x5_74 x4_74 S41) ∧
  (r40 = r42 →
  wp_X9_isFirst x7_74 x4_74 S41 (fun r45 S44 =>
  (r45 = 0 →
  ∀ v46 : Int32, v46 = x7_74 + (1 : Int32) →
  K74 v46 x5_74 x4_74 S44) ∧
  (¬ r45 = 0 →
  ∀ v47 : Int32, v47 = x7_74 + (1 : Int32) →
  K74 v47 r30 x7_74 S44))))))))))))))
def lp_X9_sets_74 (x3_30 : Int32) (post : Int32 → St → Prop) : Nat → Int32 → Int64 → Int32 → St → Prop
  | 0, _, _, _, _ => False
  | n + 1, x7_74, x5_74, x4_74, S3 => bd_X9_sets_74 x3_30 post (fun x7_74 x5_74 x4_74 S3 => lp_X9_sets_74 x3_30 post n x7_74 x5_74 x4_74 S3) x7_74 x5_74 x4_74 S3
def bd_X9_sets_30 (post : Int32 → St → Prop) (K30 : Int32 → Int32 → St → Prop) (x4_30 : Int32) (x3_30 : Int32) (S2 : St) : Prop :=
  ((gi S2 8 0 23) ≤ x4_30 →
  ∃ n : Nat, lp_X9_sets_74 x3_30 post n (1 : Int32) (0 : Int64) (0 : Int32) S2) ∧
  (¬ (gi S2 8 0 23) ≤ x4_30 →
  wp_X9_isGood x4_30 S2 (fun r49 S48 =>
  (r49 = 0 →
  ∀ v50 : Int32, v50 = x4_30 + (1 : Int32) →
  K30 v50 x3_30 S48) ∧
  (¬ r49 = 0 →
  ∀ v51 : Int32, v51 = x3_30 ||| ((1 : Int32) <<< (x4_30 &&& 31)) →
  ∀ v52 : Int32, v52 = x4_30 + (1 : Int32) →
  K30 v52 v51 S48)))
def lp_X9_sets_30 (post : Int32 → St → Prop) : Nat → Int32 → Int32 → St → Prop
  | 0, _, _, _ => False
  | n + 1, x4_30, x3_30, S2 => bd_X9_sets_30 post (fun x4_30 x3_30 S2 => lp_X9_sets_30 post n x4_30 x3_30 S2) x4_30 x3_30 S2
def wp_X9_sets (p1 : Int64) (S0 : St) (post : Int32 → St → Prop) : Prop :=
  ∀ S1 : St, S1 = si S0 8 0 29 (0 : Int32) →
  ((gi S1 8 0 23) = 0 →
  post (-1 : Int32) S1) ∧
  (¬ (gi S1 8 0 23) = 0 →
  (((1 : Int64) <<< ((gi S1 8 0 23).toInt64 &&& 63)) ≤ p1 →
  ∃ n : Nat, lp_X9_sets_30 post n (0 : Int32) (0 : Int32) S1) ∧
  (¬ ((1 : Int64) <<< ((gi S1 8 0 23).toInt64 &&& 63)) ≤ p1 →
  post (-1 : Int32) S1))
set_option maxRecDepth 100000 in
set_option maxHeartbeats 4000000 in
theorem m_X9_sets (l : Launch) (G : GT) (p1 : Int64) (S0 : St) (a0 : Nat) (hA0 : AtO S0 8 0 a0) (post : Int32 → St → Prop) (hQ : wp_X9_sets p1 S0 post) : Met l yX9_sets (wM yX9_sets cX9_sets 11 (some (FieldType.int))) ({ frames := 3, cells := 0, slots := 0, locals := 74 } : Room) (PC G S0 [.ref a0, .long p1]) (QI G S0 post) 0 0 (QA G) := by
  refine mt_start RX9 (by decide) rfl (Nat.le_of_ble_eq_true rfl) ?_
  intro p e s m args below meth c ls F hr hlk hnm hw hl
  have hx := F.1
  have hb := F.2.1
  have hown := F.2.2.2.1
  have hts := F.2.2.2.2
  have hX : Ext S0 S0 := Ext.rf
  have hsz0 := hw.1.1.1
  have hl : lv_has ls 11 [(0, .ref a0), (1, .long p1)] := hl
  unfold wp_X9_sets at hQ
  refine lv_aload_n hx hb dX9_sets_0 rfl (lv_at hl 0 rfl) ?_
  refine lv_iconst (v := 0) hx hb dX9_sets_1 (by decide) ?_
  refine p_8_29 F hw hA0 twf_RX9_199 (Or.inl rfl) dX9_sets_2 (fun S1 H locs eS1 hw hx1 => ?_)
  have hQ := hQ S1 eS1
  have hX := hX.trans hx1
  have hA0 := hA0.ext hx1
  refine lv_aload_n hx hb dX9_sets_5 rfl (lv_at hl 0 rfl) ?_
  refine g_8_23 F hw hA0 twf_RX9_196 dX9_sets_6 ?_
  refine lv_if_eq (tgt := 23) hx hb dX9_sets_9 (by decide) (fun hc => ?_) (fun hc => ?_)
  · have hQ := hQ.1 hc
    refine lv_iconst (v := -1) hx hb dX9_sets_23 (by decide) ?_
    exact rt_i F hr hlk hw hX hQ (show 0 ≤ 0 from by omega) (show 0 ≤ 0 from by omega) dX9_sets_24
  · have hQ := hQ.2 hc
    refine lv_lconst (v := 1) hx hb dX9_sets_12 (by decide) ?_
    refine lv_aload_n hx hb dX9_sets_13 rfl (lv_at hl 0 rfl) ?_
    refine g_8_23 F hw hA0 twf_RX9_196 dX9_sets_14 ?_
    refine lv_lshl hx hb dX9_sets_17 rfl ?_
    refine lv_lload_n hx hb dX9_sets_18 rfl (lv_at hl 1 rfl) ?_
    refine lc_le (tgt := 25) F dX9_sets_19 dX9_sets_20 (by decide) (fun hc => ?_) (fun hc => ?_)
    · have hQ := hQ.1 hc
      refine lv_iconst (v := 0) hx hb dX9_sets_25 (by decide) ?_
      refine lv_istore_n (lv' := [(3, .int (0 : Int32)), (0, .ref a0), (1, .long p1)]) hx hb dX9_sets_26 rfl hl (by decide) rfl (fun ls hl => ?_)
      refine lv_iconst (v := 0) hx hb dX9_sets_27 (by decide) ?_
      refine lv_istore (lv' := [(4, .int (0 : Int32)), (3, .int (0 : Int32)), (0, .ref a0), (1, .long p1)]) hx hb dX9_sets_28 hl (by decide) rfl (fun ls hl => ?_)
      have hloop30 : ∀ (n30 : Nat) (x4_30 : Int32) (x3_30 : Int32) (S2 : St) (H : Heap) (locs : List Loc) (ls : Array Slot) (cl30 sl30 : Nat), lp_X9_sets_30 post n30 x4_30 x3_30 S2 → WW G S2 s H locs → Ext S0 S2 → AtO S2 8 0 a0 → lv_has ls 11 [(4, .int x4_30), (3, .int x3_30), (0, .ref a0)] → cl30 ≤ 0 + 0 → sl30 ≤ 0 + 0 → W p l e ({ frames := 3, cells := 0, slots := 0, locals := 74 } : Room) s m args below meth c H locs cl30 sl30 (MQ below (QI G S0 post) args s 0 0 (QA G)) (F0 m 30 ls []) := by
        intro n30
        induction n30 with
        | zero => intro x4_30 x3_30 S2 H locs ls cl sl hQ; exact False.elim hQ
        | succ n30 ih30 =>
          intro x4_30 x3_30 S2 H locs ls cl30 sl30 hQ hw hX hA0 hl hcl30 hsl30
          have hQ : bd_X9_sets_30 post (fun x4_30 x3_30 S2 => lp_X9_sets_30 post n30 x4_30 x3_30 S2) x4_30 x3_30 S2 := hQ
          unfold bd_X9_sets_30 at hQ
          refine lv_iload hx hb dX9_sets_30 (lv_at hl 0 rfl) ?_
          refine lv_aload_n hx hb dX9_sets_32 rfl (lv_at hl 2 rfl) ?_
          refine g_8_23 F hw hA0 twf_RX9_196 dX9_sets_33 ?_
          refine lv_icmp_ge (tgt := 65) hx hb dX9_sets_36 (by decide) (fun hc => ?_) (fun hc => ?_)
          · have hQ := hQ.1 hc
            refine lv_iconst (v := 0) hx hb dX9_sets_65 (by decide) ?_
            refine lv_istore (lv' := [(4, .int (0 : Int32)), (3, .int x3_30), (0, .ref a0)]) hx hb dX9_sets_66 hl (by decide) rfl (fun ls hl => ?_)
            refine lv_lconst (v := 0) hx hb dX9_sets_68 (by decide) ?_
            refine lv_lstore (lv' := [(5, .long (0 : Int64)), (4, .int (0 : Int32)), (3, .int x3_30), (0, .ref a0)]) hx hb dX9_sets_69 hl (by decide) rfl (fun ls hl => ?_)
            refine lv_iconst (v := 1) hx hb dX9_sets_71 (by decide) ?_
            refine lv_istore (lv' := [(7, .int (1 : Int32)), (5, .long (0 : Int64)), (4, .int (0 : Int32)), (3, .int x3_30), (0, .ref a0)]) hx hb dX9_sets_72 hl (by decide) rfl (fun ls hl => ?_)
            have hloop74 : ∀ (n74 : Nat) (x7_74 : Int32) (x5_74 : Int64) (x4_74 : Int32) (S3 : St) (H : Heap) (locs : List Loc) (ls : Array Slot) (cl74 sl74 : Nat), lp_X9_sets_74 x3_30 post n74 x7_74 x5_74 x4_74 S3 → WW G S3 s H locs → Ext S0 S3 → AtO S3 8 0 a0 → lv_has ls 11 [(7, .int x7_74), (5, .long x5_74), (4, .int x4_74), (3, .int x3_30), (0, .ref a0)] → cl74 ≤ cl30 + 0 → sl74 ≤ sl30 + 0 → W p l e ({ frames := 3, cells := 0, slots := 0, locals := 74 } : Room) s m args below meth c H locs cl74 sl74 (MQ below (QI G S0 post) args s 0 0 (QA G)) (F0 m 74 ls []) := by
              intro n74
              induction n74 with
              | zero => intro x7_74 x5_74 x4_74 S3 H locs ls cl sl hQ; exact False.elim hQ
              | succ n74 ih74 =>
                intro x7_74 x5_74 x4_74 S3 H locs ls cl74 sl74 hQ hw hX hA0 hl hcl74 hsl74
                have hQ : bd_X9_sets_74 x3_30 post (fun x7_74 x5_74 x4_74 S3 => lp_X9_sets_74 x3_30 post n74 x7_74 x5_74 x4_74 S3) x7_74 x5_74 x4_74 S3 := hQ
                unfold bd_X9_sets_74 at hQ
                refine lv_iload hx hb dX9_sets_74 (lv_at hl 0 rfl) ?_
                refine lv_iconst (v := 1) hx hb dX9_sets_76 (by decide) ?_
                refine lv_aload_n hx hb dX9_sets_77 rfl (lv_at hl 4 rfl) ?_
                refine g_8_23 F hw hA0 twf_RX9_196 dX9_sets_78 ?_
                refine lv_ishl hx hb dX9_sets_81 ?_
                refine lv_icmp_ge (tgt := 177) hx hb dX9_sets_82 (by decide) (fun hc => ?_) (fun hc => ?_)
                · have hQ := hQ.1 hc
                  refine lv_iconst (v := 0) hx hb dX9_sets_177 (by decide) ?_
                  refine lv_istore (lv' := [(7, .int (0 : Int32)), (5, .long x5_74), (4, .int x4_74), (3, .int x3_30), (0, .ref a0)]) hx hb dX9_sets_178 hl (by decide) rfl (fun ls hl => ?_)
                  have hloop180 : ∀ (n180 : Nat) (x7_180 : Int32) (S4 : St) (H : Heap) (locs : List Loc) (ls : Array Slot) (cl180 sl180 : Nat), lp_X9_sets_180 x5_74 x4_74 post n180 x7_180 S4 → WW G S4 s H locs → Ext S0 S4 → AtO S4 8 0 a0 → lv_has ls 11 [(7, .int x7_180), (5, .long x5_74), (4, .int x4_74), (0, .ref a0)] → cl180 ≤ cl74 + 0 → sl180 ≤ sl74 + 0 → W p l e ({ frames := 3, cells := 0, slots := 0, locals := 74 } : Room) s m args below meth c H locs cl180 sl180 (MQ below (QI G S0 post) args s 0 0 (QA G)) (F0 m 180 ls []) := by
                    intro n180
                    induction n180 with
                    | zero => intro x7_180 S4 H locs ls cl sl hQ; exact False.elim hQ
                    | succ n180 ih180 =>
                      intro x7_180 S4 H locs ls cl180 sl180 hQ hw hX hA0 hl hcl180 hsl180
                      have hQ : bd_X9_sets_180 x5_74 x4_74 post (fun x7_180 S4 => lp_X9_sets_180 x5_74 x4_74 post n180 x7_180 S4) x7_180 S4 := hQ
                      unfold bd_X9_sets_180 at hQ
                      refine lv_iload hx hb dX9_sets_180 (lv_at hl 0 rfl) ?_
                      refine lv_aload_n hx hb dX9_sets_182 rfl (lv_at hl 3 rfl) ?_
                      refine g_8_23 F hw hA0 twf_RX9_196 dX9_sets_183 ?_
                      refine lv_icmp_ge (tgt := 300) hx hb dX9_sets_186 (by decide) (fun hc => ?_) (fun hc => ?_)
                      · have hQ := hQ.1 hc
                        refine lv_aload_n hx hb dX9_sets_300 rfl (lv_at hl 3 rfl) ?_
                        refine lv_iload hx hb dX9_sets_301 (lv_at hl 2 rfl) ?_
                        refine p_8_27 F hw hA0 twf_RX9_216 dX9_sets_303 (fun S5 H locs eS5 hw hx1 => ?_)
                        have hQ := hQ S5 eS5
                        have hX := hX.trans hx1
                        have hA0 := hA0.ext hx1
                        refine lv_aload_n hx hb dX9_sets_306 rfl (lv_at hl 3 rfl) ?_
                        refine lv_lload hx hb dX9_sets_307 (lv_at hl 1 rfl) ?_
                        refine p_8_28 F hw hA0 twf_RX9_219 dX9_sets_309 (fun S6 H locs eS6 hw hx1 => ?_)
                        have hQ := hQ S6 eS6
                        have hX := hX.trans hx1
                        have hA0 := hA0.ext hx1
                        refine lv_aload_n hx hb dX9_sets_312 rfl (lv_at hl 3 rfl) ?_
                        refine lv_iconst (v := 1) hx hb dX9_sets_313 (by decide) ?_
                        refine p_8_29 F hw hA0 twf_RX9_199 (Or.inr rfl) dX9_sets_314 (fun S7 H locs eS7 hw hx1 => ?_)
                        have hQ := hQ S7 eS7
                        have hX := hX.trans hx1
                        have hA0 := hA0.ext hx1
                        refine lv_aload_n hx hb dX9_sets_317 rfl (lv_at hl 3 rfl) ?_
                        refine lv_iconst (v := 0) hx hb dX9_sets_318 (by decide) ?_
                        refine p_8_23 F hw hA0 twf_RX9_196 dX9_sets_319 (fun S8 H locs eS8 hw hx1 => ?_)
                        have hQ := hQ S8 eS8
                        have hX := hX.trans hx1
                        have hA0 := hA0.ext hx1
                        refine lv_iload hx hb dX9_sets_322 (lv_at hl 2 rfl) ?_
                        refine k_X9_size F hw hl hQ twm_RX9_208 (Nat.le_of_ble_eq_true rfl) (Nat.le_of_ble_eq_true rfl) (Nat.le_of_ble_eq_true rfl) dX9_sets_324 (show cl180 + 0 ≤ 0 from by omega) (show sl180 + 0 ≤ 0 from by omega) (fun r10 S9 H locs hQ hw hx1 => ?_)
                        have hX := hX.trans hx1
                        have hA0 := hA0.ext hx1
                        exact rt_i F hr hlk hw hX hQ (show (cl180 + 0) ≤ 0 from by omega) (show (sl180 + 0) ≤ 0 from by omega) dX9_sets_327
                      · have hQ := hQ.2 hc
                        refine lv_iload hx hb dX9_sets_189 (lv_at hl 2 rfl) ?_
                        refine lv_iload hx hb dX9_sets_191 (lv_at hl 0 rfl) ?_
                        refine lv_ishr hx hb dX9_sets_193 ?_
                        refine lv_iconst (v := 1) hx hb dX9_sets_194 (by decide) ?_
                        refine lv_iand hx hb dX9_sets_195 ?_
                        refine lv_iconst (v := 1) hx hb dX9_sets_196 (by decide) ?_
                        refine lv_icmp_ne (tgt := 294) hx hb dX9_sets_197 (by decide) (fun hc => ?_) (fun hc => ?_)
                        · have hQ := hQ.1 hc
                          obtain ⟨v11, ev11⟩ : ∃ y : Int32, y = x7_180 + (1 : Int32) := ⟨_, rfl⟩
                          have hQ := hQ v11 ev11
                          refine lv_iinc (v := v11) (lv' := [(7, .int v11), (5, .long x5_74), (4, .int x4_74), (0, .ref a0)]) hx hb dX9_sets_294 hl (k := 0) rfl (by rw [ev11]; rfl) (by decide) rfl (fun ls hl => ?_)
                          refine lv_goto (tgt := 180) hx hb dX9_sets_297 (by decide) ?_
                          exact ih180 v11 S4 _ _ _ _ _ hQ hw hX hA0 (lv_sub hl [0, 1, 2, 3] rfl) (by omega) (by omega)
                        · have hQ := hQ.2 hc
                          refine lv_aload_n hx hb dX9_sets_200 rfl (lv_at hl 3 rfl) ?_
                          refine g_8_25 F hw hA0 twf_RX9_61 dX9_sets_201 (fun a12 hA12 => ?_)
                          refine lv_iload hx hb dX9_sets_204 (lv_at hl 0 rfl) ?_
                          obtain ⟨hin, hQ⟩ := hQ
                          refine al_32 F hw hA12 hin dX9_sets_206 ?_
                          refine lv_topl (fun v13 ev13 => ?_)
                          have hQ := hQ v13 ev13
                          refine lv_lstore (lv' := [(8, .long v13), (7, .int x7_180), (5, .long x5_74), (4, .int x4_74), (0, .ref a0)]) hx hb dX9_sets_207 hl (by decide) rfl (fun ls hl => ?_)
                          refine lv_iconst (v := 0) hx hb dX9_sets_209 (by decide) ?_
                          refine lv_istore (lv' := [(10, .int (0 : Int32)), (8, .long v13), (7, .int x7_180), (5, .long x5_74), (4, .int x4_74), (0, .ref a0)]) hx hb dX9_sets_210 hl (by decide) rfl (fun ls hl => ?_)
                          have hloop212 : ∀ (n212 : Nat) (x10_212 : Int32) (x8_212 : Int64) (S14 : St) (H : Heap) (locs : List Loc) (ls : Array Slot) (cl212 sl212 : Nat), lp_X9_sets_212 x7_180 (fun x7_180 S4 => lp_X9_sets_180 x5_74 x4_74 post n180 x7_180 S4) n212 x10_212 x8_212 S14 → WW G S14 s H locs → Ext S0 S14 → AtO S14 8 0 a0 → lv_has ls 11 [(10, .int x10_212), (8, .long x8_212), (7, .int x7_180), (5, .long x5_74), (4, .int x4_74), (0, .ref a0)] → cl212 ≤ cl180 + 0 → sl212 ≤ sl180 + 0 → W p l e ({ frames := 3, cells := 0, slots := 0, locals := 74 } : Room) s m args below meth c H locs cl212 sl212 (MQ below (QI G S0 post) args s 0 0 (QA G)) (F0 m 212 ls []) := by
                            intro n212
                            induction n212 with
                            | zero => intro x10_212 x8_212 S14 H locs ls cl sl hQ; exact False.elim hQ
                            | succ n212 ih212 =>
                              intro x10_212 x8_212 S14 H locs ls cl212 sl212 hQ hw hX hA0 hl hcl212 hsl212
                              have hQ : bd_X9_sets_212 x7_180 (fun x7_180 S4 => lp_X9_sets_180 x5_74 x4_74 post n180 x7_180 S4) (fun x10_212 x8_212 S14 => lp_X9_sets_212 x7_180 (fun x7_180 S4 => lp_X9_sets_180 x5_74 x4_74 post n180 x7_180 S4) n212 x10_212 x8_212 S14) x10_212 x8_212 S14 := hQ
                              unfold bd_X9_sets_212 at hQ
                              refine lv_iload hx hb dX9_sets_212 (lv_at hl 0 rfl) ?_
                              refine lv_aload_n hx hb dX9_sets_214 rfl (lv_at hl 5 rfl) ?_
                              refine g_8_0 F hw hA0 twf_RX9_82 dX9_sets_215 ?_
                              refine lv_icmp_ge (tgt := 294) hx hb dX9_sets_218 (by decide) (fun hc => ?_) (fun hc => ?_)
                              · have hQ := hQ.1 hc
                                obtain ⟨v15, ev15⟩ : ∃ y : Int32, y = x7_180 + (1 : Int32) := ⟨_, rfl⟩
                                have hQ := hQ v15 ev15
                                refine lv_iinc (v := v15) (lv' := [(7, .int v15), (10, .int x10_212), (8, .long x8_212), (5, .long x5_74), (4, .int x4_74), (0, .ref a0)]) hx hb dX9_sets_294 hl (k := 2) rfl (by rw [ev15]; rfl) (by decide) rfl (fun ls hl => ?_)
                                refine lv_goto (tgt := 180) hx hb dX9_sets_297 (by decide) ?_
                                exact ih180 v15 S14 _ _ _ _ _ hQ hw hX hA0 (lv_sub hl [0, 3, 4, 5] rfl) (by omega) (by omega)
                              · have hQ := hQ.2 hc
                                refine lv_aload_n hx hb dX9_sets_221 rfl (lv_at hl 5 rfl) ?_
                                refine g_8_26 F hw hA0 twf_RX9_64 dX9_sets_222 (fun a16 hA16 => ?_)
                                refine lv_iload hx hb dX9_sets_225 (lv_at hl 2 rfl) ?_
                                obtain ⟨hin, hQ⟩ := hQ
                                refine al_33 F hw hA16 hin dX9_sets_227 ?_
                                refine lv_iload hx hb dX9_sets_228 (lv_at hl 0 rfl) ?_
                                refine lv_lshr hx hb dX9_sets_230 rfl ?_
                                refine lv_lconst (v := 1) hx hb dX9_sets_231 (by decide) ?_
                                refine lv_land hx hb dX9_sets_232 ?_
                                refine lv_lconst (v := 1) hx hb dX9_sets_233 (by decide) ?_
                                refine lc_ne (tgt := 288) F dX9_sets_234 dX9_sets_235 (by decide) (fun hc => ?_) (fun hc => ?_)
                                · have hQ := hQ.1 hc
                                  obtain ⟨v17, ev17⟩ : ∃ y : Int32, y = x10_212 + (1 : Int32) := ⟨_, rfl⟩
                                  have hQ := hQ v17 ev17
                                  refine lv_iinc (v := v17) (lv' := [(10, .int v17), (8, .long x8_212), (7, .int x7_180), (5, .long x5_74), (4, .int x4_74), (0, .ref a0)]) hx hb dX9_sets_288 hl (k := 0) rfl (by rw [ev17]; rfl) (by decide) rfl (fun ls hl => ?_)
                                  refine lv_goto (tgt := 212) hx hb dX9_sets_291 (by decide) ?_
                                  exact ih212 v17 x8_212 S14 _ _ _ _ _ hQ hw hX hA0 (lv_sub hl [0, 1, 2, 3, 4, 5] rfl) (by omega) (by omega)
                                · have hQ := hQ.2 hc
                                  refine lv_aload_n hx hb dX9_sets_238 rfl (lv_at hl 5 rfl) ?_
                                  refine g_8_4 F hw hA0 twf_RX9_20 dX9_sets_239 (fun a18 hA18 => ?_)
                                  refine lv_iload hx hb dX9_sets_242 (lv_at hl 0 rfl) ?_
                                  refine lv_iconst (v := 3) hx hb dX9_sets_244 (by decide) ?_
                                  obtain ⟨hin, hQ⟩ := hQ
                                  refine as_20 F hw hA18 hin dX9_sets_245 (fun S19 H locs eS19 hw hx1 => ?_)
                                  have hQ := hQ S19 eS19
                                  have hX := hX.trans hx1
                                  have hA0 := hA0.ext hx1
                                  refine lv_aload_n hx hb dX9_sets_246 rfl (lv_at hl 5 rfl) ?_
                                  refine g_8_5 F hw hA0 twf_RX9_23 dX9_sets_247 (fun a20 hA20 => ?_)
                                  refine lv_iload hx hb dX9_sets_250 (lv_at hl 0 rfl) ?_
                                  refine lv_aload_n hx hb dX9_sets_252 rfl (lv_at hl 5 rfl) ?_
                                  refine g_8_24 F hw hA0 twf_RX9_58 dX9_sets_253 (fun a21 hA21 => ?_)
                                  refine lv_iload hx hb dX9_sets_256 (lv_at hl 2 rfl) ?_
                                  obtain ⟨hin, hQ⟩ := hQ
                                  refine al_31 F hw hA21 hin dX9_sets_258 ?_
                                  obtain ⟨hin, hQ⟩ := hQ
                                  refine as_21 F hw hA20 hin dX9_sets_259 (fun S22 H locs eS22 hw hx1 => ?_)
                                  have hQ := hQ S22 eS22
                                  have hX := hX.trans hx1
                                  have hA0 := hA0.ext hx1
                                  refine lv_aload_n hx hb dX9_sets_260 rfl (lv_at hl 5 rfl) ?_
                                  refine g_8_6 F hw hA0 twf_RX9_26 dX9_sets_261 (fun a23 hA23 => ?_)
                                  refine lv_iload hx hb dX9_sets_264 (lv_at hl 0 rfl) ?_
                                  refine lv_lload hx hb dX9_sets_266 (lv_at hl 1 rfl) ?_
                                  obtain ⟨hin, hQ⟩ := hQ
                                  refine as_22 F hw hA23 hin dX9_sets_268 (fun S24 H locs eS24 hw hx1 => ?_)
                                  have hQ := hQ S24 eS24
                                  have hX := hX.trans hx1
                                  have hA0 := hA0.ext hx1
                                  refine lv_aload_n hx hb dX9_sets_269 rfl (lv_at hl 5 rfl) ?_
                                  refine lv_iconst (v := 4) hx hb dX9_sets_270 (by decide) ?_
                                  refine lv_iload hx hb dX9_sets_271 (lv_at hl 0 rfl) ?_
                                  refine lv_aload_n hx hb dX9_sets_273 rfl (lv_at hl 5 rfl) ?_
                                  refine g_8_24 F hw hA0 twf_RX9_58 dX9_sets_274 (fun a25 hA25 => ?_)
                                  refine lv_iload hx hb dX9_sets_277 (lv_at hl 2 rfl) ?_
                                  obtain ⟨hin, hQ⟩ := hQ
                                  refine al_31 F hw hA25 hin dX9_sets_279 ?_
                                  refine lv_lload hx hb dX9_sets_280 (lv_at hl 1 rfl) ?_
                                  refine k_X9_note F hw hl hA0 hQ twm_RX9_160 (Nat.le_of_ble_eq_true rfl) (Nat.le_of_ble_eq_true rfl) (Nat.le_of_ble_eq_true rfl) dX9_sets_282 (show cl212 + 0 ≤ 0 from by omega) (show sl212 + 0 ≤ 0 from by omega) (fun S26 H locs hQ hw hx1 => ?_)
                                  have hX := hX.trans hx1
                                  have hA0 := hA0.ext hx1
                                  refine lv_lconst (v := 0) hx hb dX9_sets_285 (by decide) ?_
                                  refine lv_lstore (lv' := [(8, .long (0 : Int64)), (10, .int x10_212), (7, .int x7_180), (5, .long x5_74), (4, .int x4_74), (0, .ref a0)]) hx hb dX9_sets_286 hl (by decide) rfl (fun ls hl => ?_)
                                  obtain ⟨v27, ev27⟩ : ∃ y : Int32, y = x10_212 + (1 : Int32) := ⟨_, rfl⟩
                                  have hQ := hQ v27 ev27
                                  refine lv_iinc (v := v27) (lv' := [(10, .int v27), (8, .long (0 : Int64)), (7, .int x7_180), (5, .long x5_74), (4, .int x4_74), (0, .ref a0)]) hx hb dX9_sets_288 hl (k := 1) rfl (by rw [ev27]; rfl) (by decide) rfl (fun ls hl => ?_)
                                  refine lv_goto (tgt := 212) hx hb dX9_sets_291 (by decide) ?_
                                  exact ih212 v27 (0 : Int64) S26 _ _ _ _ _ hQ hw hX hA0 (lv_sub hl [0, 1, 2, 3, 4, 5] rfl) (by omega) (by omega)
                          obtain ⟨n, hQ⟩ := hQ
                          exact hloop212 n (0 : Int32) v13 S4 _ _ _ _ _ hQ hw hX hA0 (lv_sub hl [0, 1, 2, 3, 4, 5] rfl) (by omega) (by omega)
                  obtain ⟨n, hQ⟩ := hQ
                  exact hloop180 n (0 : Int32) S3 _ _ _ _ _ hQ hw hX hA0 (lv_sub hl [0, 1, 2, 4] rfl) (by omega) (by omega)
                · have hQ := hQ.2 hc
                  refine lv_iload hx hb dX9_sets_85 (lv_at hl 0 rfl) ?_
                  refine lv_iload_n hx hb dX9_sets_87 rfl (lv_at hl 3 rfl) ?_
                  refine lv_iconst (v := -1) hx hb dX9_sets_88 (by decide) ?_
                  refine lv_ixor hx hb dX9_sets_89 ?_
                  refine lv_iand hx hb dX9_sets_90 ?_
                  refine lv_if_ne (tgt := 171) hx hb dX9_sets_91 (by decide) (fun hc => ?_) (fun hc => ?_)
                  · have hQ := hQ.1 hc
                    obtain ⟨v28, ev28⟩ : ∃ y : Int32, y = x7_74 + (1 : Int32) := ⟨_, rfl⟩
                    have hQ := hQ v28 ev28
                    refine lv_iinc (v := v28) (lv' := [(7, .int v28), (5, .long x5_74), (4, .int x4_74), (3, .int x3_30), (0, .ref a0)]) hx hb dX9_sets_171 hl (k := 0) rfl (by rw [ev28]; rfl) (by decide) rfl (fun ls hl => ?_)
                    refine lv_goto (tgt := 74) hx hb dX9_sets_174 (by decide) ?_
                    exact ih74 v28 x5_74 x4_74 S3 _ _ _ _ _ hQ hw hX hA0 (lv_sub hl [0, 1, 2, 3, 4] rfl) (by omega) (by omega)
                  · have hQ := hQ.2 hc
                    refine lv_aload_n hx hb dX9_sets_94 rfl (lv_at hl 4 rfl) ?_
                    refine lv_iload hx hb dX9_sets_95 (lv_at hl 0 rfl) ?_
                    refine k_X9_sumOf F hw hl hA0 hQ twm_RX9_205 (Nat.le_of_ble_eq_true rfl) (Nat.le_of_ble_eq_true rfl) (Nat.le_of_ble_eq_true rfl) dX9_sets_97 (show cl74 + 0 ≤ 0 from by omega) (show sl74 + 0 ≤ 0 from by omega) (fun r30 S29 H locs hQ hw hx1 => ?_)
                    have hX := hX.trans hx1
                    have hA0 := hA0.ext hx1
                    refine lv_lstore (lv' := [(8, .long r30), (7, .int x7_74), (5, .long x5_74), (4, .int x4_74), (3, .int x3_30), (0, .ref a0)]) hx hb dX9_sets_100 hl (by decide) rfl (fun ls hl => ?_)
                    refine lv_lload hx hb dX9_sets_102 (lv_at hl 0 rfl) ?_
                    refine lv_lload hx hb dX9_sets_104 (lv_at hl 2 rfl) ?_
                    refine lc_gt (tgt := 163) F dX9_sets_106 dX9_sets_107 (by decide) (fun hc => ?_) (fun hc => ?_)
                    · have hQ := hQ.1 hc
                      refine lv_iload hx hb dX9_sets_163 (lv_at hl 1 rfl) ?_
                      refine lv_istore (lv' := [(4, .int x7_74), (8, .long r30), (7, .int x7_74), (5, .long x5_74), (3, .int x3_30), (0, .ref a0)]) hx hb dX9_sets_165 hl (by decide) rfl (fun ls hl => ?_)
                      refine lv_lload hx hb dX9_sets_167 (lv_at hl 1 rfl) ?_
                      refine lv_lstore (lv' := [(5, .long r30), (4, .int x7_74), (8, .long r30), (7, .int x7_74), (3, .int x3_30), (0, .ref a0)]) hx hb dX9_sets_169 hl (by decide) rfl (fun ls hl => ?_)
                      obtain ⟨v31, ev31⟩ : ∃ y : Int32, y = x7_74 + (1 : Int32) := ⟨_, rfl⟩
                      have hQ := hQ v31 ev31
                      refine lv_iinc (v := v31) (lv' := [(7, .int v31), (5, .long r30), (4, .int x7_74), (8, .long r30), (3, .int x3_30), (0, .ref a0)]) hx hb dX9_sets_171 hl (k := 3) rfl (by rw [ev31]; rfl) (by decide) rfl (fun ls hl => ?_)
                      refine lv_goto (tgt := 74) hx hb dX9_sets_174 (by decide) ?_
                      exact ih74 v31 r30 x7_74 S29 _ _ _ _ _ hQ hw hX hA0 (lv_sub hl [0, 1, 2, 4, 5] rfl) (by omega) (by omega)
                    · have hQ := hQ.2 hc
                      refine lv_lload hx hb dX9_sets_110 (lv_at hl 0 rfl) ?_
                      refine lv_lload hx hb dX9_sets_112 (lv_at hl 2 rfl) ?_
                      refine lc_ne (tgt := 171) F dX9_sets_114 dX9_sets_115 (by decide) (fun hc => ?_) (fun hc => ?_)
                      · have hQ := hQ.1 hc
                        obtain ⟨v32, ev32⟩ : ∃ y : Int32, y = x7_74 + (1 : Int32) := ⟨_, rfl⟩
                        have hQ := hQ v32 ev32
                        refine lv_iinc (v := v32) (lv' := [(7, .int v32), (8, .long r30), (5, .long x5_74), (4, .int x4_74), (3, .int x3_30), (0, .ref a0)]) hx hb dX9_sets_171 hl (k := 1) rfl (by rw [ev32]; rfl) (by decide) rfl (fun ls hl => ?_)
                        refine lv_goto (tgt := 74) hx hb dX9_sets_174 (by decide) ?_
                        exact ih74 v32 x5_74 x4_74 S29 _ _ _ _ _ hQ hw hX hA0 (lv_sub hl [0, 2, 3, 4, 5] rfl) (by omega) (by omega)
                      · have hQ := hQ.2 hc
                        refine lv_lload hx hb dX9_sets_118 (lv_at hl 0 rfl) ?_
                        refine lv_ldc2 (v := -1) hx hb hown (hts _ twl_RX9_117) dX9_sets_120 ?_
                        refine lc_eq (tgt := 171) F dX9_sets_123 dX9_sets_124 (by decide) (fun hc => ?_) (fun hc => ?_)
                        · have hQ := hQ.1 hc
                          obtain ⟨v33, ev33⟩ : ∃ y : Int32, y = x7_74 + (1 : Int32) := ⟨_, rfl⟩
                          have hQ := hQ v33 ev33
                          refine lv_iinc (v := v33) (lv' := [(7, .int v33), (8, .long r30), (5, .long x5_74), (4, .int x4_74), (3, .int x3_30), (0, .ref a0)]) hx hb dX9_sets_171 hl (k := 1) rfl (by rw [ev33]; rfl) (by decide) rfl (fun ls hl => ?_)
                          refine lv_goto (tgt := 74) hx hb dX9_sets_174 (by decide) ?_
                          exact ih74 v33 x5_74 x4_74 S29 _ _ _ _ _ hQ hw hX hA0 (lv_sub hl [0, 2, 3, 4, 5] rfl) (by omega) (by omega)
                        · have hQ := hQ.2 hc
                          refine lv_iload hx hb dX9_sets_127 (lv_at hl 1 rfl) ?_
                          refine k_X9_size F hw hl hQ twm_RX9_208 (Nat.le_of_ble_eq_true rfl) (Nat.le_of_ble_eq_true rfl) (Nat.le_of_ble_eq_true rfl) dX9_sets_129 (show (cl74 + 0) + 0 ≤ 0 from by omega) (show (sl74 + 0) + 0 ≤ 0 from by omega) (fun r35 S34 H locs hQ hw hx1 => ?_)
                          have hX := hX.trans hx1
                          have hA0 := hA0.ext hx1
                          refine lv_iload hx hb dX9_sets_132 (lv_at hl 3 rfl) ?_
                          refine k_X9_size F hw hl hQ twm_RX9_208 (Nat.le_of_ble_eq_true rfl) (Nat.le_of_ble_eq_true rfl) (Nat.le_of_ble_eq_true rfl) dX9_sets_134 (show ((cl74 + 0) + 0) + 0 ≤ 0 from by omega) (show ((sl74 + 0) + 0) + 0 ≤ 0 from by omega) (fun r37 S36 H locs hQ hw hx1 => ?_)
                          have hX := hX.trans hx1
                          have hA0 := hA0.ext hx1
                          refine lv_icmp_lt (tgt := 163) hx hb dX9_sets_137 (by decide) (fun hc => ?_) (fun hc => ?_)
                          · have hQ := hQ.1 hc
                            refine lv_iload hx hb dX9_sets_163 (lv_at hl 1 rfl) ?_
                            refine lv_istore (lv' := [(4, .int x7_74), (8, .long r30), (7, .int x7_74), (5, .long x5_74), (3, .int x3_30), (0, .ref a0)]) hx hb dX9_sets_165 hl (by decide) rfl (fun ls hl => ?_)
                            refine lv_lload hx hb dX9_sets_167 (lv_at hl 1 rfl) ?_
                            refine lv_lstore (lv' := [(5, .long r30), (4, .int x7_74), (8, .long r30), (7, .int x7_74), (3, .int x3_30), (0, .ref a0)]) hx hb dX9_sets_169 hl (by decide) rfl (fun ls hl => ?_)
                            obtain ⟨v38, ev38⟩ : ∃ y : Int32, y = x7_74 + (1 : Int32) := ⟨_, rfl⟩
                            have hQ := hQ v38 ev38
                            refine lv_iinc (v := v38) (lv' := [(7, .int v38), (5, .long r30), (4, .int x7_74), (8, .long r30), (3, .int x3_30), (0, .ref a0)]) hx hb dX9_sets_171 hl (k := 3) rfl (by rw [ev38]; rfl) (by decide) rfl (fun ls hl => ?_)
                            refine lv_goto (tgt := 74) hx hb dX9_sets_174 (by decide) ?_
                            exact ih74 v38 r30 x7_74 S36 _ _ _ _ _ hQ hw hX hA0 (lv_sub hl [0, 1, 2, 4, 5] rfl) (by omega) (by omega)
                          · have hQ := hQ.2 hc
                            refine lv_iload hx hb dX9_sets_140 (lv_at hl 1 rfl) ?_
                            refine k_X9_size F hw hl hQ twm_RX9_208 (Nat.le_of_ble_eq_true rfl) (Nat.le_of_ble_eq_true rfl) (Nat.le_of_ble_eq_true rfl) dX9_sets_142 (show (((cl74 + 0) + 0) + 0) + 0 ≤ 0 from by omega) (show (((sl74 + 0) + 0) + 0) + 0 ≤ 0 from by omega) (fun r40 S39 H locs hQ hw hx1 => ?_)
                            have hX := hX.trans hx1
                            have hA0 := hA0.ext hx1
                            refine lv_iload hx hb dX9_sets_145 (lv_at hl 3 rfl) ?_
                            refine k_X9_size F hw hl hQ twm_RX9_208 (Nat.le_of_ble_eq_true rfl) (Nat.le_of_ble_eq_true rfl) (Nat.le_of_ble_eq_true rfl) dX9_sets_147 (show ((((cl74 + 0) + 0) + 0) + 0) + 0 ≤ 0 from by omega) (show ((((sl74 + 0) + 0) + 0) + 0) + 0 ≤ 0 from by omega) (fun r42 S41 H locs hQ hw hx1 => ?_)
                            have hX := hX.trans hx1
                            have hA0 := hA0.ext hx1
                            refine lv_icmp_ne (tgt := 171) hx hb dX9_sets_150 (by decide) (fun hc => ?_) (fun hc => ?_)
                            · have hQ := hQ.1 hc
                              obtain ⟨v43, ev43⟩ : ∃ y : Int32, y = x7_74 + (1 : Int32) := ⟨_, rfl⟩
                              have hQ := hQ v43 ev43
                              refine lv_iinc (v := v43) (lv' := [(7, .int v43), (8, .long r30), (5, .long x5_74), (4, .int x4_74), (3, .int x3_30), (0, .ref a0)]) hx hb dX9_sets_171 hl (k := 1) rfl (by rw [ev43]; rfl) (by decide) rfl (fun ls hl => ?_)
                              refine lv_goto (tgt := 74) hx hb dX9_sets_174 (by decide) ?_
                              exact ih74 v43 x5_74 x4_74 S41 _ _ _ _ _ hQ hw hX hA0 (lv_sub hl [0, 2, 3, 4, 5] rfl) (by omega) (by omega)
                            · have hQ := hQ.2 hc
                              refine lv_iload hx hb dX9_sets_153 (lv_at hl 1 rfl) ?_
                              refine lv_iload hx hb dX9_sets_155 (lv_at hl 3 rfl) ?_
                              refine k_X9_isFirst F hw hl hQ twm_RX9_212 (Nat.le_of_ble_eq_true rfl) (Nat.le_of_ble_eq_true rfl) (Nat.le_of_ble_eq_true rfl) dX9_sets_157 (show (((((cl74 + 0) + 0) + 0) + 0) + 0) + 0 ≤ 0 from by omega) (show (((((sl74 + 0) + 0) + 0) + 0) + 0) + 0 ≤ 0 from by omega) (fun r45 S44 H locs hQ hw hx1 => ?_)
                              have hX := hX.trans hx1
                              have hA0 := hA0.ext hx1
                              refine lv_if_eq (tgt := 171) hx hb dX9_sets_160 (by decide) (fun hc => ?_) (fun hc => ?_)
                              · have hQ := hQ.1 hc
                                obtain ⟨v46, ev46⟩ : ∃ y : Int32, y = x7_74 + (1 : Int32) := ⟨_, rfl⟩
                                have hQ := hQ v46 ev46
                                refine lv_iinc (v := v46) (lv' := [(7, .int v46), (8, .long r30), (5, .long x5_74), (4, .int x4_74), (3, .int x3_30), (0, .ref a0)]) hx hb dX9_sets_171 hl (k := 1) rfl (by rw [ev46]; rfl) (by decide) rfl (fun ls hl => ?_)
                                refine lv_goto (tgt := 74) hx hb dX9_sets_174 (by decide) ?_
                                exact ih74 v46 x5_74 x4_74 S44 _ _ _ _ _ hQ hw hX hA0 (lv_sub hl [0, 2, 3, 4, 5] rfl) (by omega) (by omega)
                              · have hQ := hQ.2 hc
                                refine lv_iload hx hb dX9_sets_163 (lv_at hl 1 rfl) ?_
                                refine lv_istore (lv' := [(4, .int x7_74), (8, .long r30), (7, .int x7_74), (5, .long x5_74), (3, .int x3_30), (0, .ref a0)]) hx hb dX9_sets_165 hl (by decide) rfl (fun ls hl => ?_)
                                refine lv_lload hx hb dX9_sets_167 (lv_at hl 1 rfl) ?_
                                refine lv_lstore (lv' := [(5, .long r30), (4, .int x7_74), (8, .long r30), (7, .int x7_74), (3, .int x3_30), (0, .ref a0)]) hx hb dX9_sets_169 hl (by decide) rfl (fun ls hl => ?_)
                                obtain ⟨v47, ev47⟩ : ∃ y : Int32, y = x7_74 + (1 : Int32) := ⟨_, rfl⟩
                                have hQ := hQ v47 ev47
                                refine lv_iinc (v := v47) (lv' := [(7, .int v47), (5, .long r30), (4, .int x7_74), (8, .long r30), (3, .int x3_30), (0, .ref a0)]) hx hb dX9_sets_171 hl (k := 3) rfl (by rw [ev47]; rfl) (by decide) rfl (fun ls hl => ?_)
                                refine lv_goto (tgt := 74) hx hb dX9_sets_174 (by decide) ?_
                                exact ih74 v47 r30 x7_74 S44 _ _ _ _ _ hQ hw hX hA0 (lv_sub hl [0, 1, 2, 4, 5] rfl) (by omega) (by omega)
            obtain ⟨n, hQ⟩ := hQ
            exact hloop74 n (1 : Int32) (0 : Int64) (0 : Int32) S2 _ _ _ _ _ hQ hw hX hA0 (lv_sub hl [0, 1, 2, 3, 4] rfl) (by omega) (by omega)
          · have hQ := hQ.2 hc
            refine lv_aload_n hx hb dX9_sets_39 rfl (lv_at hl 2 rfl) ?_
            refine lv_iload hx hb dX9_sets_40 (lv_at hl 0 rfl) ?_
            refine k_X9_isGood F hw hl hA0 hQ twm_RX9_202 (Nat.le_of_ble_eq_true rfl) (Nat.le_of_ble_eq_true rfl) (Nat.le_of_ble_eq_true rfl) dX9_sets_42 (show cl30 + 0 ≤ 0 from by omega) (show sl30 + 0 ≤ 0 from by omega) (fun r49 S48 H locs hQ hw hx1 => ?_)
            have hX := hX.trans hx1
            have hA0 := hA0.ext hx1
            refine lv_if_eq (tgt := 57) hx hb dX9_sets_45 (by decide) (fun hc => ?_) (fun hc => ?_)
            · have hQ := hQ.1 hc
              refine lv_iload_n hx hb dX9_sets_57 rfl (lv_at hl 1 rfl) ?_
              refine lv_istore_n (lv' := [(3, .int x3_30), (4, .int x4_30), (0, .ref a0)]) hx hb dX9_sets_58 rfl hl (by decide) rfl (fun ls hl => ?_)
              obtain ⟨v50, ev50⟩ : ∃ y : Int32, y = x4_30 + (1 : Int32) := ⟨_, rfl⟩
              have hQ := hQ v50 ev50
              refine lv_iinc (v := v50) (lv' := [(4, .int v50), (3, .int x3_30), (0, .ref a0)]) hx hb dX9_sets_59 hl (k := 1) rfl (by rw [ev50]; rfl) (by decide) rfl (fun ls hl => ?_)
              refine lv_goto (tgt := 30) hx hb dX9_sets_62 (by decide) ?_
              exact ih30 v50 x3_30 S48 _ _ _ _ _ hQ hw hX hA0 (lv_sub hl [0, 1, 2] rfl) (by omega) (by omega)
            · have hQ := hQ.2 hc
              refine lv_iload_n hx hb dX9_sets_48 rfl (lv_at hl 1 rfl) ?_
              refine lv_iconst (v := 1) hx hb dX9_sets_49 (by decide) ?_
              refine lv_iload hx hb dX9_sets_50 (lv_at hl 0 rfl) ?_
              refine lv_ishl hx hb dX9_sets_52 ?_
              refine lv_ior hx hb dX9_sets_53 ?_
              refine lv_goto (tgt := 58) hx hb dX9_sets_54 (by decide) ?_
              refine lv_topi (fun v51 ev51 => ?_)
              have hQ := hQ v51 ev51
              refine lv_istore_n (lv' := [(3, .int v51), (4, .int x4_30), (0, .ref a0)]) hx hb dX9_sets_58 rfl hl (by decide) rfl (fun ls hl => ?_)
              obtain ⟨v52, ev52⟩ : ∃ y : Int32, y = x4_30 + (1 : Int32) := ⟨_, rfl⟩
              have hQ := hQ v52 ev52
              refine lv_iinc (v := v52) (lv' := [(4, .int v52), (3, .int v51), (0, .ref a0)]) hx hb dX9_sets_59 hl (k := 1) rfl (by rw [ev52]; rfl) (by decide) rfl (fun ls hl => ?_)
              refine lv_goto (tgt := 30) hx hb dX9_sets_62 (by decide) ?_
              exact ih30 v52 v51 S48 _ _ _ _ _ hQ hw hX hA0 (lv_sub hl [0, 1, 2] rfl) (by omega) (by omega)
      obtain ⟨n, hQ⟩ := hQ
      exact hloop30 n (0 : Int32) (0 : Int32) S1 _ _ _ _ _ hQ hw hX hA0 (lv_sub hl [0, 1, 2] rfl) (by omega) (by omega)
    · have hQ := hQ.2 hc
      refine lv_iconst (v := -1) hx hb dX9_sets_23 (by decide) ?_
      exact rt_i F hr hlk hw hX hQ (show 0 ≤ 0 from by omega) (show 0 ≤ 0 from by omega) dX9_sets_24
theorem k_X9_sets {p : Program} {l : Launch} {e : Env} {R : Room} {s : State} {m : MethodId} {args : Array Value} {below : List Frame} {meth : Method} {c : Code} {H : Heap} {locs : List Loc} {cells slots : Nat} {Q : State → Prop} {cc : ByteArray} {pc nL : Nat} {ls : Array Slot} {rest : List Value} {G : GT} {S : St} {own : String} {p1 : Int64} {post : Int32 → St → Prop} {lv : List (Nat × Value)} {idx : Nat} (F : CX p m c cc nL s args own) (hw : WW G S s H locs) (hl : lv_has ls nL lv) {a0 : Nat} (hA0 : AtO S 8 0 a0) (hQ : wp_X9_sets p1 S post) (h1 : Cond.methodLink own idx yX9_sets ∈ wT) (hR1 : 3 + 1 ≤ R.frames) (hR2 : 8 + (11 + 11) + 74 ≤ R.locals) (hrest : (rest.map fun v => v.category).sum ≤ 8) (hdg : decode cc pc = .ok (.invokevirtual idx, 3)) (hf1 : cells + 0 ≤ R.cells) (hf2 : slots + 0 ≤ R.slots)
    (kk : ∀ (r : Int32) (S1 : St) (H1 : Heap) (locs1 : List Loc), post r S1 → WW G S1 s H1 locs1 → Ext S S1 → W p l e R s m args below meth c H1 locs1 (cells + 0) (slots + 0) Q (F0 m (pc + 3) ls (.int r :: rest))) : W p l e R s m args below meth c H locs cells slots Q (F0 m pc ls (.long p1 :: .ref a0 :: rest)) :=
  cl_i (rn_V (n := 1) (As := [.long p1]) (q := (RX9, TX9, 36)) F hw hl (m_X9_sets l G p1 S a0 hA0 post hQ) 8 (by decide) (by decide) hA0 rfl rfl h1 twi_yX9_sets tws_yX9_sets twn_RX9 two_yX9_sets rfl rfl ⟨rfl, by decide, by decide, by decide +kernel⟩ rfl ⟨hR1, hR2⟩ rfl hrest hdg ⟨hf1, hf2⟩) hw kk
-- X9_wins
def wp_X9_wins (p1 : Int32) (S0 : St) (post : Int32 → St → Prop) : Prop :=
  (p1 < 0 →
  post (0 : Int32) S0) ∧
  (¬ p1 < 0 →
  ((18 : Int32) ≤ p1 →
  post (0 : Int32) S0) ∧
  (¬ (18 : Int32) ≤ p1 →
  (¬ (((gi S0 8 0 27) >>> (p1 &&& 31)) &&& (1 : Int32)) = (1 : Int32) →
  post (0 : Int32) S0) ∧
  ((((gi S0 8 0 27) >>> (p1 &&& 31)) &&& (1 : Int32)) = (1 : Int32) →
  post (1 : Int32) S0)))
set_option maxRecDepth 100000 in
set_option maxHeartbeats 4000000 in
theorem m_X9_wins (l : Launch) (G : GT) (p1 : Int32) (S0 : St) (a0 : Nat) (hA0 : AtO S0 8 0 a0) (post : Int32 → St → Prop) (hQ : wp_X9_wins p1 S0 post) : Met l yX9_wins (wM yX9_wins cX9_wins 2 (some (FieldType.boolean))) ({ frames := 0, cells := 0, slots := 0, locals := 0 } : Room) (PC G S0 [.ref a0, .int p1]) (QI G S0 post) 0 0 (QA G) := by
  refine mt_start RX9 (by decide) rfl (Nat.le_of_ble_eq_true rfl) ?_
  intro p e s m args below meth c ls F hr hlk hnm hw hl
  have hx := F.1
  have hb := F.2.1
  have hown := F.2.2.2.1
  have hts := F.2.2.2.2
  have hX : Ext S0 S0 := Ext.rf
  have hsz0 := hw.1.1.1
  have hl : lv_has ls 2 [(0, .ref a0), (1, .int p1)] := hl
  unfold wp_X9_wins at hQ
  refine lv_iload_n hx hb dX9_wins_0 rfl (lv_at hl 1 rfl) ?_
  refine lv_if_lt (tgt := 26) hx hb dX9_wins_1 (by decide) (fun hc => ?_) (fun hc => ?_)
  · have hQ := hQ.1 hc
    refine lv_iconst (v := 0) hx hb dX9_wins_26 (by decide) ?_
    exact rt_z F hr hlk hw hX hQ rfl (show 0 ≤ 0 from by omega) (show 0 ≤ 0 from by omega) dX9_wins_27
  · have hQ := hQ.2 hc
    refine lv_iload_n hx hb dX9_wins_4 rfl (lv_at hl 1 rfl) ?_
    refine lv_bipush (v := 18) hx hb dX9_wins_5 (by decide) ?_
    refine lv_icmp_ge (tgt := 26) hx hb dX9_wins_7 (by decide) (fun hc => ?_) (fun hc => ?_)
    · have hQ := hQ.1 hc
      refine lv_iconst (v := 0) hx hb dX9_wins_26 (by decide) ?_
      exact rt_z F hr hlk hw hX hQ rfl (show 0 ≤ 0 from by omega) (show 0 ≤ 0 from by omega) dX9_wins_27
    · have hQ := hQ.2 hc
      refine lv_aload_n hx hb dX9_wins_10 rfl (lv_at hl 0 rfl) ?_
      refine g_8_27 F hw hA0 twf_RX9_216 dX9_wins_11 ?_
      refine lv_iload_n hx hb dX9_wins_14 rfl (lv_at hl 1 rfl) ?_
      refine lv_ishr hx hb dX9_wins_15 ?_
      refine lv_iconst (v := 1) hx hb dX9_wins_16 (by decide) ?_
      refine lv_iand hx hb dX9_wins_17 ?_
      refine lv_iconst (v := 1) hx hb dX9_wins_18 (by decide) ?_
      refine lv_icmp_ne (tgt := 26) hx hb dX9_wins_19 (by decide) (fun hc => ?_) (fun hc => ?_)
      · have hQ := hQ.1 hc
        refine lv_iconst (v := 0) hx hb dX9_wins_26 (by decide) ?_
        exact rt_z F hr hlk hw hX hQ rfl (show 0 ≤ 0 from by omega) (show 0 ≤ 0 from by omega) dX9_wins_27
      · have hQ := hQ.2 hc
        refine lv_iconst (v := 1) hx hb dX9_wins_22 (by decide) ?_
        refine lv_goto (tgt := 27) hx hb dX9_wins_23 (by decide) ?_
        exact rt_z F hr hlk hw hX hQ rfl (show 0 ≤ 0 from by omega) (show 0 ≤ 0 from by omega) dX9_wins_27
theorem k_X9_wins {p : Program} {l : Launch} {e : Env} {R : Room} {s : State} {m : MethodId} {args : Array Value} {below : List Frame} {meth : Method} {c : Code} {H : Heap} {locs : List Loc} {cells slots : Nat} {Q : State → Prop} {cc : ByteArray} {pc nL : Nat} {ls : Array Slot} {rest : List Value} {G : GT} {S : St} {own : String} {p1 : Int32} {post : Int32 → St → Prop} {lv : List (Nat × Value)} {idx : Nat} (F : CX p m c cc nL s args own) (hw : WW G S s H locs) (hl : lv_has ls nL lv) {a0 : Nat} (hA0 : AtO S 8 0 a0) (hQ : wp_X9_wins p1 S post) (h1 : Cond.methodLink own idx yX9_wins ∈ wT) (hR1 : 0 + 1 ≤ R.frames) (hR2 : 8 + (2 + 11) + 0 ≤ R.locals) (hrest : (rest.map fun v => v.category).sum ≤ 8) (hdg : decode cc pc = .ok (.invokevirtual idx, 3)) (hf1 : cells + 0 ≤ R.cells) (hf2 : slots + 0 ≤ R.slots)
    (kk : ∀ (r : Int32) (S1 : St) (H1 : Heap) (locs1 : List Loc), post r S1 → WW G S1 s H1 locs1 → Ext S S1 → W p l e R s m args below meth c H1 locs1 (cells + 0) (slots + 0) Q (F0 m (pc + 3) ls (.int r :: rest))) : W p l e R s m args below meth c H locs cells slots Q (F0 m pc ls (.int p1 :: .ref a0 :: rest)) :=
  cl_i (rn_V (n := 1) (As := [.int p1]) (q := (RX9, TX9, 36)) F hw hl (m_X9_wins l G p1 S a0 hA0 post hQ) 8 (by decide) (by decide) hA0 rfl rfl h1 twi_yX9_wins tws_yX9_wins twn_RX9 two_yX9_wins rfl rfl ⟨rfl, by decide, by decide, by decide +kernel⟩ rfl ⟨hR1, hR2⟩ rfl hrest hdg ⟨hf1, hf2⟩) hw kk
-- X9_sum
def wp_X9_sum  (S0 : St) (post : Int64 → St → Prop) : Prop :=
  post (gj S0 8 0 28) S0
set_option maxRecDepth 100000 in
set_option maxHeartbeats 4000000 in
theorem m_X9_sum (l : Launch) (G : GT)  (S0 : St) (a0 : Nat) (hA0 : AtO S0 8 0 a0) (post : Int64 → St → Prop) (hQ : wp_X9_sum S0 post) : Met l yX9_sum (wM yX9_sum cX9_sum 1 (some (FieldType.long))) ({ frames := 0, cells := 0, slots := 0, locals := 0 } : Room) (PC G S0 [.ref a0]) (QJ G S0 post) 0 0 (QA G) := by
  refine mt_start RX9 (by decide) rfl (Nat.le_of_ble_eq_true rfl) ?_
  intro p e s m args below meth c ls F hr hlk hnm hw hl
  have hx := F.1
  have hb := F.2.1
  have hown := F.2.2.2.1
  have hts := F.2.2.2.2
  have hX : Ext S0 S0 := Ext.rf
  have hsz0 := hw.1.1.1
  have hl : lv_has ls 1 [(0, .ref a0)] := hl
  unfold wp_X9_sum at hQ
  refine lv_aload_n hx hb dX9_sum_0 rfl (lv_at hl 0 rfl) ?_
  refine g_8_28 F hw hA0 twf_RX9_219 dX9_sum_1 ?_
  exact rt_l F hr hlk hw hX hQ (show 0 ≤ 0 from by omega) (show 0 ≤ 0 from by omega) dX9_sum_4
theorem k_X9_sum {p : Program} {l : Launch} {e : Env} {R : Room} {s : State} {m : MethodId} {args : Array Value} {below : List Frame} {meth : Method} {c : Code} {H : Heap} {locs : List Loc} {cells slots : Nat} {Q : State → Prop} {cc : ByteArray} {pc nL : Nat} {ls : Array Slot} {rest : List Value} {G : GT} {S : St} {own : String}  {post : Int64 → St → Prop} {lv : List (Nat × Value)} {idx : Nat} (F : CX p m c cc nL s args own) (hw : WW G S s H locs) (hl : lv_has ls nL lv) {a0 : Nat} (hA0 : AtO S 8 0 a0) (hQ : wp_X9_sum S post) (h1 : Cond.methodLink own idx yX9_sum ∈ wT) (hR1 : 0 + 1 ≤ R.frames) (hR2 : 8 + (1 + 11) + 0 ≤ R.locals) (hrest : (rest.map fun v => v.category).sum ≤ 8) (hdg : decode cc pc = .ok (.invokevirtual idx, 3)) (hf1 : cells + 0 ≤ R.cells) (hf2 : slots + 0 ≤ R.slots)
    (kk : ∀ (r : Int64) (S1 : St) (H1 : Heap) (locs1 : List Loc), post r S1 → WW G S1 s H1 locs1 → Ext S S1 → W p l e R s m args below meth c H1 locs1 (cells + 0) (slots + 0) Q (F0 m (pc + 3) ls (.long r :: rest))) : W p l e R s m args below meth c H locs cells slots Q (F0 m pc ls (.ref a0 :: rest)) :=
  cl_l (rn_V (n := 0) (As := []) (q := (RX9, TX9, 36)) F hw hl (m_X9_sum l G  S a0 hA0 post hQ) 8 (by decide) (by decide) hA0 rfl rfl h1 twi_yX9_sum tws_yX9_sum twn_RX9 two_yX9_sum rfl rfl ⟨rfl, by decide, by decide, by decide +kernel⟩ rfl ⟨hR1, hR2⟩ rfl hrest hdg ⟨hf1, hf2⟩) hw kk
-- X9_proved
def wp_X9_proved  (S0 : St) (post : Int32 → St → Prop) : Prop :=
  bz (gi S0 8 0 29) ∧ post (gi S0 8 0 29) S0
set_option maxRecDepth 100000 in
set_option maxHeartbeats 4000000 in
theorem m_X9_proved (l : Launch) (G : GT)  (S0 : St) (a0 : Nat) (hA0 : AtO S0 8 0 a0) (post : Int32 → St → Prop) (hQ : wp_X9_proved S0 post) : Met l yX9_proved (wM yX9_proved cX9_proved 1 (some (FieldType.boolean))) ({ frames := 0, cells := 0, slots := 0, locals := 0 } : Room) (PC G S0 [.ref a0]) (QI G S0 post) 0 0 (QA G) := by
  refine mt_start RX9 (by decide) rfl (Nat.le_of_ble_eq_true rfl) ?_
  intro p e s m args below meth c ls F hr hlk hnm hw hl
  have hx := F.1
  have hb := F.2.1
  have hown := F.2.2.2.1
  have hts := F.2.2.2.2
  have hX : Ext S0 S0 := Ext.rf
  have hsz0 := hw.1.1.1
  have hl : lv_has ls 1 [(0, .ref a0)] := hl
  unfold wp_X9_proved at hQ
  refine lv_aload_n hx hb dX9_proved_0 rfl (lv_at hl 0 rfl) ?_
  refine g_8_29 F hw hA0 twf_RX9_199 dX9_proved_1 ?_
  exact rt_z F hr hlk hw hX hQ.2 (bz_nar hQ.1) (show 0 ≤ 0 from by omega) (show 0 ≤ 0 from by omega) dX9_proved_4
theorem k_X9_proved {p : Program} {l : Launch} {e : Env} {R : Room} {s : State} {m : MethodId} {args : Array Value} {below : List Frame} {meth : Method} {c : Code} {H : Heap} {locs : List Loc} {cells slots : Nat} {Q : State → Prop} {cc : ByteArray} {pc nL : Nat} {ls : Array Slot} {rest : List Value} {G : GT} {S : St} {own : String}  {post : Int32 → St → Prop} {lv : List (Nat × Value)} {idx : Nat} (F : CX p m c cc nL s args own) (hw : WW G S s H locs) (hl : lv_has ls nL lv) {a0 : Nat} (hA0 : AtO S 8 0 a0) (hQ : wp_X9_proved S post) (h1 : Cond.methodLink own idx yX9_proved ∈ wT) (hR1 : 0 + 1 ≤ R.frames) (hR2 : 8 + (1 + 11) + 0 ≤ R.locals) (hrest : (rest.map fun v => v.category).sum ≤ 8) (hdg : decode cc pc = .ok (.invokevirtual idx, 3)) (hf1 : cells + 0 ≤ R.cells) (hf2 : slots + 0 ≤ R.slots)
    (kk : ∀ (r : Int32) (S1 : St) (H1 : Heap) (locs1 : List Loc), post r S1 → WW G S1 s H1 locs1 → Ext S S1 → W p l e R s m args below meth c H1 locs1 (cells + 0) (slots + 0) Q (F0 m (pc + 3) ls (.int r :: rest))) : W p l e R s m args below meth c H locs cells slots Q (F0 m pc ls (.ref a0 :: rest)) :=
  cl_i (rn_V (n := 0) (As := []) (q := (RX9, TX9, 36)) F hw hl (m_X9_proved l G  S a0 hA0 post hQ) 8 (by decide) (by decide) hA0 rfl rfl h1 twi_yX9_proved tws_yX9_proved twn_RX9 two_yX9_proved rfl rfl ⟨rfl, by decide, by decide, by decide +kernel⟩ rfl ⟨hR1, hR2⟩ rfl hrest hdg ⟨hf1, hf2⟩) hw kk

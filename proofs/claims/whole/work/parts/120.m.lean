-- X9_sumOf
def bd_X9_sumOf_91 (p1 : Int32) (x6_76 : Int32) (K76 : Int32 → St → Prop) (post : Int64 → St → Prop) (K91 : Int32 → Int64 → St → Prop) (x9_91 : Int32) (x7_91 : Int64) (S3 : St) : Prop :=
  ((gi S3 8 0 23) ≤ x9_91 →
  (x7_91 ≤ (0 : Int64) →
  ∀ v4 : Int32, v4 = x6_76 + (1 : Int32) →
  K76 v4 S3) ∧
  (¬ x7_91 ≤ (0 : Int64) →
  wp_X9_free x6_76 S3 (fun r6 S5 =>
  (x7_91 ≤ r6 →
  ∀ v7 : Int32, v7 = x6_76 + (1 : Int32) →
  K76 v7 S5) ∧
  (¬ x7_91 ≤ r6 →
  post (-1 : Int64) S5)))) ∧
  (¬ (gi S3 8 0 23) ≤ x9_91 →
  (¬ ((p1 >>> (x9_91 &&& 31)) &&& (1 : Int32)) = (1 : Int32) →
  ∀ v8 : Int64, v8 = x7_91 + (0 : Int64) →
  ∀ v9 : Int32, v9 = x9_91 + (1 : Int32) →
  K91 v9 v8 S3) ∧
  (((p1 >>> (x9_91 &&& 31)) &&& (1 : Int32)) = (1 : Int32) →
  vp_in x9_91 18 ∧
  (¬ (gi S3 31 0 x9_91.toNatClampNeg) = x6_76 →
  ∀ v11 : Int64, v11 = x7_91 + (0 : Int64) →
  ∀ v12 : Int32, v12 = x9_91 + (1 : Int32) →
  K91 v12 v11 S3) ∧
  ((gi S3 31 0 x9_91.toNatClampNeg) = x6_76 →
  vp_in x9_91 18 ∧
  ∀ v14 : Int64, v14 = x7_91 + (gj S3 32 0 x9_91.toNatClampNeg) →
  ∀ v15 : Int32, v15 = x9_91 + (1 : Int32) →
  K91 v15 v14 S3)))
def lp_X9_sumOf_91 (p1 : Int32) (x6_76 : Int32) (K76 : Int32 → St → Prop) (post : Int64 → St → Prop) : Nat → Int32 → Int64 → St → Prop
  | 0, _, _, _ => False
  | n + 1, x9_91, x7_91, S3 => bd_X9_sumOf_91 p1 x6_76 K76 post (fun x9_91 x7_91 S3 => lp_X9_sumOf_91 p1 x6_76 K76 post n x9_91 x7_91 S3) x9_91 x7_91 S3
def bd_X9_sumOf_76 (p1 : Int32) (x4_8 : Int64) (post : Int64 → St → Prop) (K76 : Int32 → St → Prop) (x6_76 : Int32) (S2 : St) : Prop :=
  ((gi S2 8 0 12) ≤ x6_76 →
  post x4_8 S2) ∧
  (¬ (gi S2 8 0 12) ≤ x6_76 →
  ∃ n : Nat, lp_X9_sumOf_91 p1 x6_76 K76 post n (0 : Int32) (0 : Int64) S2)
def lp_X9_sumOf_76 (p1 : Int32) (x4_8 : Int64) (post : Int64 → St → Prop) : Nat → Int32 → St → Prop
  | 0, _, _ => False
  | n + 1, x6_76, S2 => bd_X9_sumOf_76 p1 x4_8 post (fun x6_76 S2 => lp_X9_sumOf_76 p1 x4_8 post n x6_76 S2) x6_76 S2
def bd_X9_sumOf_8 (p1 : Int32) (post : Int64 → St → Prop) (K8 : Int32 → Int64 → Int64 → St → Prop) (x6_8 : Int32) (x4_8 : Int64) (x2_8 : Int64) (S1 : St) : Prop :=
  ((gi S1 8 0 23) ≤ x6_8 →
  ∃ n : Nat, lp_X9_sumOf_76 p1 x4_8 post n (0 : Int32) S1) ∧
  (¬ (gi S1 8 0 23) ≤ x6_8 →
  (¬ ((p1 >>> (x6_8 &&& 31)) &&& (1 : Int32)) = (1 : Int32) →
  ∀ v16 : Int32, v16 = x6_8 + (1 : Int32) →
  K8 v16 x4_8 x2_8 S1) ∧
  (((p1 >>> (x6_8 &&& 31)) &&& (1 : Int32)) = (1 : Int32) →
  vp_in x6_8 18 ∧
  ((x2_8 &&& (gj S1 33 0 x6_8.toNatClampNeg)) = (0 : Int64) →
  vp_in x6_8 18 ∧
  ∀ v19 : Int64, v19 = x2_8 ||| (gj S1 33 0 x6_8.toNatClampNeg) →
  vp_in x6_8 18 ∧
  ∀ v21 : Int64, v21 = x4_8 + (gj S1 32 0 x6_8.toNatClampNeg) →
  ∀ v22 : Int32, v22 = x6_8 + (1 : Int32) →
  K8 v22 v21 v19 S1) ∧
  (¬ (x2_8 &&& (gj S1 33 0 x6_8.toNatClampNeg)) = (0 : Int64) →
  post (-1 : Int64) S1)))
def lp_X9_sumOf_8 (p1 : Int32) (post : Int64 → St → Prop) : Nat → Int32 → Int64 → Int64 → St → Prop
  | 0, _, _, _, _ => False
  | n + 1, x6_8, x4_8, x2_8, S1 => bd_X9_sumOf_8 p1 post (fun x6_8 x4_8 x2_8 S1 => lp_X9_sumOf_8 p1 post n x6_8 x4_8 x2_8 S1) x6_8 x4_8 x2_8 S1
def wp_X9_sumOf (p1 : Int32) (S0 : St) (post : Int64 → St → Prop) : Prop :=
  ∃ n : Nat, lp_X9_sumOf_8 p1 post n (0 : Int32) (0 : Int64) (0 : Int64) S0
set_option maxRecDepth 100000 in
set_option maxHeartbeats 4000000 in
theorem m_X9_sumOf (l : Launch) (G : GT) (p1 : Int32) (S0 : St) (a0 : Nat) (hA0 : AtO S0 8 0 a0) (post : Int64 → St → Prop) (hQ : wp_X9_sumOf p1 S0 post) : Met l yX9_sumOf (wM yX9_sumOf cX9_sumOf 10 (some (FieldType.long))) ({ frames := 2, cells := 0, slots := 0, locals := 45 } : Room) (PC G S0 [.ref a0, .int p1]) (QJ G S0 post) 0 0 (QA G) := by
  refine mt_start RX9 (by decide) rfl (Nat.le_of_ble_eq_true rfl) ?_
  intro p e s m args below meth c ls F hr hlk hnm hw hl
  have hx := F.1
  have hb := F.2.1
  have hown := F.2.2.2.1
  have hts := F.2.2.2.2
  have hX : Ext S0 S0 := Ext.rf
  have hsz0 := hw.1.1.1
  have hl : lv_has ls 10 [(0, .ref a0), (1, .int p1)] := hl
  unfold wp_X9_sumOf at hQ
  refine lv_lconst (v := 0) hx hb dX9_sumOf_0 (by decide) ?_
  refine lv_lstore_n (lv' := [(2, .long (0 : Int64)), (0, .ref a0), (1, .int p1)]) hx hb dX9_sumOf_1 rfl hl (by decide) rfl (fun ls hl => ?_)
  refine lv_lconst (v := 0) hx hb dX9_sumOf_2 (by decide) ?_
  refine lv_lstore (lv' := [(4, .long (0 : Int64)), (2, .long (0 : Int64)), (0, .ref a0), (1, .int p1)]) hx hb dX9_sumOf_3 hl (by decide) rfl (fun ls hl => ?_)
  refine lv_iconst (v := 0) hx hb dX9_sumOf_5 (by decide) ?_
  refine lv_istore (lv' := [(6, .int (0 : Int32)), (4, .long (0 : Int64)), (2, .long (0 : Int64)), (0, .ref a0), (1, .int p1)]) hx hb dX9_sumOf_6 hl (by decide) rfl (fun ls hl => ?_)
  have hloop8 : ∀ (n8 : Nat) (x6_8 : Int32) (x4_8 : Int64) (x2_8 : Int64) (S1 : St) (H : Heap) (locs : List Loc) (ls : Array Slot) (cl8 sl8 : Nat), lp_X9_sumOf_8 p1 post n8 x6_8 x4_8 x2_8 S1 → WW G S1 s H locs → Ext S0 S1 → AtO S1 8 0 a0 → lv_has ls 10 [(6, .int x6_8), (4, .long x4_8), (2, .long x2_8), (0, .ref a0), (1, .int p1)] → cl8 ≤ 0 + 0 → sl8 ≤ 0 + 0 → W p l e ({ frames := 2, cells := 0, slots := 0, locals := 45 } : Room) s m args below meth c H locs cl8 sl8 (MQ below (QJ G S0 post) args s 0 0 (QA G)) (F0 m 8 ls []) := by
    intro n8
    induction n8 with
    | zero => intro x6_8 x4_8 x2_8 S1 H locs ls cl sl hQ; exact False.elim hQ
    | succ n8 ih8 =>
      intro x6_8 x4_8 x2_8 S1 H locs ls cl8 sl8 hQ hw hX hA0 hl hcl8 hsl8
      have hQ : bd_X9_sumOf_8 p1 post (fun x6_8 x4_8 x2_8 S1 => lp_X9_sumOf_8 p1 post n8 x6_8 x4_8 x2_8 S1) x6_8 x4_8 x2_8 S1 := hQ
      unfold bd_X9_sumOf_8 at hQ
      refine lv_iload hx hb dX9_sumOf_8 (lv_at hl 0 rfl) ?_
      refine lv_aload_n hx hb dX9_sumOf_10 rfl (lv_at hl 3 rfl) ?_
      refine g_8_23 F hw hA0 twf_RX9_196 dX9_sumOf_11 ?_
      refine lv_icmp_ge (tgt := 73) hx hb dX9_sumOf_14 (by decide) (fun hc => ?_) (fun hc => ?_)
      · have hQ := hQ.1 hc
        refine lv_iconst (v := 0) hx hb dX9_sumOf_73 (by decide) ?_
        refine lv_istore (lv' := [(6, .int (0 : Int32)), (4, .long x4_8), (2, .long x2_8), (0, .ref a0), (1, .int p1)]) hx hb dX9_sumOf_74 hl (by decide) rfl (fun ls hl => ?_)
        have hloop76 : ∀ (n76 : Nat) (x6_76 : Int32) (S2 : St) (H : Heap) (locs : List Loc) (ls : Array Slot) (cl76 sl76 : Nat), lp_X9_sumOf_76 p1 x4_8 post n76 x6_76 S2 → WW G S2 s H locs → Ext S0 S2 → AtO S2 8 0 a0 → lv_has ls 10 [(6, .int x6_76), (4, .long x4_8), (0, .ref a0), (1, .int p1)] → cl76 ≤ cl8 + 0 → sl76 ≤ sl8 + 0 → W p l e ({ frames := 2, cells := 0, slots := 0, locals := 45 } : Room) s m args below meth c H locs cl76 sl76 (MQ below (QJ G S0 post) args s 0 0 (QA G)) (F0 m 76 ls []) := by
          intro n76
          induction n76 with
          | zero => intro x6_76 S2 H locs ls cl sl hQ; exact False.elim hQ
          | succ n76 ih76 =>
            intro x6_76 S2 H locs ls cl76 sl76 hQ hw hX hA0 hl hcl76 hsl76
            have hQ : bd_X9_sumOf_76 p1 x4_8 post (fun x6_76 S2 => lp_X9_sumOf_76 p1 x4_8 post n76 x6_76 S2) x6_76 S2 := hQ
            unfold bd_X9_sumOf_76 at hQ
            refine lv_iload hx hb dX9_sumOf_76 (lv_at hl 0 rfl) ?_
            refine lv_aload_n hx hb dX9_sumOf_78 rfl (lv_at hl 2 rfl) ?_
            refine g_8_12 F hw hA0 twf_RX9_85 dX9_sumOf_79 ?_
            refine lv_icmp_ge (tgt := 173) hx hb dX9_sumOf_82 (by decide) (fun hc => ?_) (fun hc => ?_)
            · have hQ := hQ.1 hc
              refine lv_lload hx hb dX9_sumOf_173 (lv_at hl 1 rfl) ?_
              exact rt_l F hr hlk hw hX hQ (show cl76 ≤ 0 from by omega) (show sl76 ≤ 0 from by omega) dX9_sumOf_175
            · have hQ := hQ.2 hc
              refine lv_lconst (v := 0) hx hb dX9_sumOf_85 (by decide) ?_
              refine lv_lstore (lv' := [(7, .long (0 : Int64)), (6, .int x6_76), (4, .long x4_8), (0, .ref a0), (1, .int p1)]) hx hb dX9_sumOf_86 hl (by decide) rfl (fun ls hl => ?_)
              refine lv_iconst (v := 0) hx hb dX9_sumOf_88 (by decide) ?_
              refine lv_istore (lv' := [(9, .int (0 : Int32)), (7, .long (0 : Int64)), (6, .int x6_76), (4, .long x4_8), (0, .ref a0), (1, .int p1)]) hx hb dX9_sumOf_89 hl (by decide) rfl (fun ls hl => ?_)
              have hloop91 : ∀ (n91 : Nat) (x9_91 : Int32) (x7_91 : Int64) (S3 : St) (H : Heap) (locs : List Loc) (ls : Array Slot) (cl91 sl91 : Nat), lp_X9_sumOf_91 p1 x6_76 (fun x6_76 S2 => lp_X9_sumOf_76 p1 x4_8 post n76 x6_76 S2) post n91 x9_91 x7_91 S3 → WW G S3 s H locs → Ext S0 S3 → AtO S3 8 0 a0 → lv_has ls 10 [(9, .int x9_91), (7, .long x7_91), (6, .int x6_76), (4, .long x4_8), (0, .ref a0), (1, .int p1)] → cl91 ≤ cl76 + 0 → sl91 ≤ sl76 + 0 → W p l e ({ frames := 2, cells := 0, slots := 0, locals := 45 } : Room) s m args below meth c H locs cl91 sl91 (MQ below (QJ G S0 post) args s 0 0 (QA G)) (F0 m 91 ls []) := by
                intro n91
                induction n91 with
                | zero => intro x9_91 x7_91 S3 H locs ls cl sl hQ; exact False.elim hQ
                | succ n91 ih91 =>
                  intro x9_91 x7_91 S3 H locs ls cl91 sl91 hQ hw hX hA0 hl hcl91 hsl91
                  have hQ : bd_X9_sumOf_91 p1 x6_76 (fun x6_76 S2 => lp_X9_sumOf_76 p1 x4_8 post n76 x6_76 S2) post (fun x9_91 x7_91 S3 => lp_X9_sumOf_91 p1 x6_76 (fun x6_76 S2 => lp_X9_sumOf_76 p1 x4_8 post n76 x6_76 S2) post n91 x9_91 x7_91 S3) x9_91 x7_91 S3 := hQ
                  unfold bd_X9_sumOf_91 at hQ
                  refine lv_iload hx hb dX9_sumOf_91 (lv_at hl 0 rfl) ?_
                  refine lv_aload_n hx hb dX9_sumOf_93 rfl (lv_at hl 4 rfl) ?_
                  refine g_8_23 F hw hA0 twf_RX9_196 dX9_sumOf_94 ?_
                  refine lv_icmp_ge (tgt := 144) hx hb dX9_sumOf_97 (by decide) (fun hc => ?_) (fun hc => ?_)
                  · have hQ := hQ.1 hc
                    refine lv_lload hx hb dX9_sumOf_144 (lv_at hl 1 rfl) ?_
                    refine lv_lconst (v := 0) hx hb dX9_sumOf_146 (by decide) ?_
                    refine lc_le (tgt := 167) F dX9_sumOf_147 dX9_sumOf_148 (by decide) (fun hc => ?_) (fun hc => ?_)
                    · have hQ := hQ.1 hc
                      obtain ⟨v4, ev4⟩ : ∃ y : Int32, y = x6_76 + (1 : Int32) := ⟨_, rfl⟩
                      have hQ := hQ v4 ev4
                      refine lv_iinc (v := v4) (lv' := [(6, .int v4), (9, .int x9_91), (7, .long x7_91), (4, .long x4_8), (0, .ref a0), (1, .int p1)]) hx hb dX9_sumOf_167 hl (k := 2) rfl (by rw [ev4]; rfl) (by decide) rfl (fun ls hl => ?_)
                      refine lv_goto (tgt := 76) hx hb dX9_sumOf_170 (by decide) ?_
                      exact ih76 v4 S3 _ _ _ _ _ hQ hw hX hA0 (lv_sub hl [0, 3, 4, 5] rfl) (by omega) (by omega)
                    · have hQ := hQ.2 hc
                      refine lv_lload hx hb dX9_sumOf_151 (lv_at hl 1 rfl) ?_
                      refine lv_aload_n hx hb dX9_sumOf_153 rfl (lv_at hl 4 rfl) ?_
                      refine lv_iload hx hb dX9_sumOf_154 (lv_at hl 2 rfl) ?_
                      refine k_X9_free F hw hl hA0 hQ twm_RX9_157 (Nat.le_of_ble_eq_true rfl) (Nat.le_of_ble_eq_true rfl) (Nat.le_of_ble_eq_true rfl) dX9_sumOf_156 (show cl91 + 0 ≤ 0 from by omega) (show sl91 + 0 ≤ 0 from by omega) (fun r6 S5 H locs hQ hw hx1 => ?_)
                      have hX := hX.trans hx1
                      have hA0 := hA0.ext hx1
                      refine lc_le (tgt := 167) F dX9_sumOf_159 dX9_sumOf_160 (by decide) (fun hc => ?_) (fun hc => ?_)
                      · have hQ := hQ.1 hc
                        obtain ⟨v7, ev7⟩ : ∃ y : Int32, y = x6_76 + (1 : Int32) := ⟨_, rfl⟩
                        have hQ := hQ v7 ev7
                        refine lv_iinc (v := v7) (lv' := [(6, .int v7), (9, .int x9_91), (7, .long x7_91), (4, .long x4_8), (0, .ref a0), (1, .int p1)]) hx hb dX9_sumOf_167 hl (k := 2) rfl (by rw [ev7]; rfl) (by decide) rfl (fun ls hl => ?_)
                        refine lv_goto (tgt := 76) hx hb dX9_sumOf_170 (by decide) ?_
                        exact ih76 v7 S5 _ _ _ _ _ hQ hw hX hA0 (lv_sub hl [0, 3, 4, 5] rfl) (by omega) (by omega)
                      · have hQ := hQ.2 hc
                        refine lv_ldc2 (v := -1) hx hb hown (hts _ twl_RX9_117) dX9_sumOf_163 ?_
                        exact rt_l F hr hlk hw hX hQ (show (cl91 + 0) ≤ 0 from by omega) (show (sl91 + 0) ≤ 0 from by omega) dX9_sumOf_166
                  · have hQ := hQ.2 hc
                    refine lv_lload hx hb dX9_sumOf_100 (lv_at hl 1 rfl) ?_
                    refine lv_iload_n hx hb dX9_sumOf_102 rfl (lv_at hl 5 rfl) ?_
                    refine lv_iload hx hb dX9_sumOf_103 (lv_at hl 0 rfl) ?_
                    refine lv_ishr hx hb dX9_sumOf_105 ?_
                    refine lv_iconst (v := 1) hx hb dX9_sumOf_106 (by decide) ?_
                    refine lv_iand hx hb dX9_sumOf_107 ?_
                    refine lv_iconst (v := 1) hx hb dX9_sumOf_108 (by decide) ?_
                    refine lv_icmp_ne (tgt := 134) hx hb dX9_sumOf_109 (by decide) (fun hc => ?_) (fun hc => ?_)
                    · have hQ := hQ.1 hc
                      refine lv_lconst (v := 0) hx hb dX9_sumOf_134 (by decide) ?_
                      refine lv_ladd hx hb dX9_sumOf_135 ?_
                      refine lv_topl (fun v8 ev8 => ?_)
                      have hQ := hQ v8 ev8
                      refine lv_lstore (lv' := [(7, .long v8), (9, .int x9_91), (6, .int x6_76), (4, .long x4_8), (0, .ref a0), (1, .int p1)]) hx hb dX9_sumOf_136 hl (by decide) rfl (fun ls hl => ?_)
                      obtain ⟨v9, ev9⟩ : ∃ y : Int32, y = x9_91 + (1 : Int32) := ⟨_, rfl⟩
                      have hQ := hQ v9 ev9
                      refine lv_iinc (v := v9) (lv' := [(9, .int v9), (7, .long v8), (6, .int x6_76), (4, .long x4_8), (0, .ref a0), (1, .int p1)]) hx hb dX9_sumOf_138 hl (k := 1) rfl (by rw [ev9]; rfl) (by decide) rfl (fun ls hl => ?_)
                      refine lv_goto (tgt := 91) hx hb dX9_sumOf_141 (by decide) ?_
                      exact ih91 v9 v8 S3 _ _ _ _ _ hQ hw hX hA0 (lv_sub hl [0, 1, 2, 3, 4, 5] rfl) (by omega) (by omega)
                    · have hQ := hQ.2 hc
                      refine lv_aload_n hx hb dX9_sumOf_112 rfl (lv_at hl 4 rfl) ?_
                      refine g_8_24 F hw hA0 twf_RX9_58 dX9_sumOf_113 (fun a10 hA10 => ?_)
                      refine lv_iload hx hb dX9_sumOf_116 (lv_at hl 0 rfl) ?_
                      obtain ⟨hin, hQ⟩ := hQ
                      refine al_31 F hw hA10 hin dX9_sumOf_118 ?_
                      refine lv_iload hx hb dX9_sumOf_119 (lv_at hl 2 rfl) ?_
                      refine lv_icmp_ne (tgt := 134) hx hb dX9_sumOf_121 (by decide) (fun hc => ?_) (fun hc => ?_)
                      · have hQ := hQ.1 hc
                        refine lv_lconst (v := 0) hx hb dX9_sumOf_134 (by decide) ?_
                        refine lv_ladd hx hb dX9_sumOf_135 ?_
                        refine lv_topl (fun v11 ev11 => ?_)
                        have hQ := hQ v11 ev11
                        refine lv_lstore (lv' := [(7, .long v11), (9, .int x9_91), (6, .int x6_76), (4, .long x4_8), (0, .ref a0), (1, .int p1)]) hx hb dX9_sumOf_136 hl (by decide) rfl (fun ls hl => ?_)
                        obtain ⟨v12, ev12⟩ : ∃ y : Int32, y = x9_91 + (1 : Int32) := ⟨_, rfl⟩
                        have hQ := hQ v12 ev12
                        refine lv_iinc (v := v12) (lv' := [(9, .int v12), (7, .long v11), (6, .int x6_76), (4, .long x4_8), (0, .ref a0), (1, .int p1)]) hx hb dX9_sumOf_138 hl (k := 1) rfl (by rw [ev12]; rfl) (by decide) rfl (fun ls hl => ?_)
                        refine lv_goto (tgt := 91) hx hb dX9_sumOf_141 (by decide) ?_
                        exact ih91 v12 v11 S3 _ _ _ _ _ hQ hw hX hA0 (lv_sub hl [0, 1, 2, 3, 4, 5] rfl) (by omega) (by omega)
                      · have hQ := hQ.2 hc
                        refine lv_aload_n hx hb dX9_sumOf_124 rfl (lv_at hl 4 rfl) ?_
                        refine g_8_25 F hw hA0 twf_RX9_61 dX9_sumOf_125 (fun a13 hA13 => ?_)
                        refine lv_iload hx hb dX9_sumOf_128 (lv_at hl 0 rfl) ?_
                        obtain ⟨hin, hQ⟩ := hQ
                        refine al_32 F hw hA13 hin dX9_sumOf_130 ?_
                        refine lv_goto (tgt := 135) hx hb dX9_sumOf_131 (by decide) ?_
                        refine lv_ladd hx hb dX9_sumOf_135 ?_
                        refine lv_topl (fun v14 ev14 => ?_)
                        have hQ := hQ v14 ev14
                        refine lv_lstore (lv' := [(7, .long v14), (9, .int x9_91), (6, .int x6_76), (4, .long x4_8), (0, .ref a0), (1, .int p1)]) hx hb dX9_sumOf_136 hl (by decide) rfl (fun ls hl => ?_)
                        obtain ⟨v15, ev15⟩ : ∃ y : Int32, y = x9_91 + (1 : Int32) := ⟨_, rfl⟩
                        have hQ := hQ v15 ev15
                        refine lv_iinc (v := v15) (lv' := [(9, .int v15), (7, .long v14), (6, .int x6_76), (4, .long x4_8), (0, .ref a0), (1, .int p1)]) hx hb dX9_sumOf_138 hl (k := 1) rfl (by rw [ev15]; rfl) (by decide) rfl (fun ls hl => ?_)
                        refine lv_goto (tgt := 91) hx hb dX9_sumOf_141 (by decide) ?_
                        exact ih91 v15 v14 S3 _ _ _ _ _ hQ hw hX hA0 (lv_sub hl [0, 1, 2, 3, 4, 5] rfl) (by omega) (by omega)
              obtain ⟨n, hQ⟩ := hQ
              exact hloop91 n (0 : Int32) (0 : Int64) S2 _ _ _ _ _ hQ hw hX hA0 (lv_sub hl [0, 1, 2, 3, 4, 5] rfl) (by omega) (by omega)
        obtain ⟨n, hQ⟩ := hQ
        exact hloop76 n (0 : Int32) S1 _ _ _ _ _ hQ hw hX hA0 (lv_sub hl [0, 1, 3, 4] rfl) (by omega) (by omega)
      · have hQ := hQ.2 hc
        refine lv_iload_n hx hb dX9_sumOf_17 rfl (lv_at hl 4 rfl) ?_
        refine lv_iload hx hb dX9_sumOf_18 (lv_at hl 0 rfl) ?_
        refine lv_ishr hx hb dX9_sumOf_20 ?_
        refine lv_iconst (v := 1) hx hb dX9_sumOf_21 (by decide) ?_
        refine lv_iand hx hb dX9_sumOf_22 ?_
        refine lv_iconst (v := 1) hx hb dX9_sumOf_23 (by decide) ?_
        refine lv_icmp_ne (tgt := 67) hx hb dX9_sumOf_24 (by decide) (fun hc => ?_) (fun hc => ?_)
        · have hQ := hQ.1 hc
          obtain ⟨v16, ev16⟩ : ∃ y : Int32, y = x6_8 + (1 : Int32) := ⟨_, rfl⟩
          have hQ := hQ v16 ev16
          refine lv_iinc (v := v16) (lv' := [(6, .int v16), (4, .long x4_8), (2, .long x2_8), (0, .ref a0), (1, .int p1)]) hx hb dX9_sumOf_67 hl (k := 0) rfl (by rw [ev16]; rfl) (by decide) rfl (fun ls hl => ?_)
          refine lv_goto (tgt := 8) hx hb dX9_sumOf_70 (by decide) ?_
          exact ih8 v16 x4_8 x2_8 S1 _ _ _ _ _ hQ hw hX hA0 (lv_sub hl [0, 1, 2, 3, 4] rfl) (by omega) (by omega)
        · have hQ := hQ.2 hc
          refine lv_lload_n hx hb dX9_sumOf_27 rfl (lv_at hl 2 rfl) ?_
          refine lv_aload_n hx hb dX9_sumOf_28 rfl (lv_at hl 3 rfl) ?_
          refine g_8_26 F hw hA0 twf_RX9_64 dX9_sumOf_29 (fun a17 hA17 => ?_)
          refine lv_iload hx hb dX9_sumOf_32 (lv_at hl 0 rfl) ?_
          obtain ⟨hin, hQ⟩ := hQ
          refine al_33 F hw hA17 hin dX9_sumOf_34 ?_
          refine lv_land hx hb dX9_sumOf_35 ?_
          refine lv_lconst (v := 0) hx hb dX9_sumOf_36 (by decide) ?_
          refine lc_eq (tgt := 45) F dX9_sumOf_37 dX9_sumOf_38 (by decide) (fun hc => ?_) (fun hc => ?_)
          · have hQ := hQ.1 hc
            refine lv_lload_n hx hb dX9_sumOf_45 rfl (lv_at hl 2 rfl) ?_
            refine lv_aload_n hx hb dX9_sumOf_46 rfl (lv_at hl 3 rfl) ?_
            refine g_8_26 F hw hA0 twf_RX9_64 dX9_sumOf_47 (fun a18 hA18 => ?_)
            refine lv_iload hx hb dX9_sumOf_50 (lv_at hl 0 rfl) ?_
            obtain ⟨hin, hQ⟩ := hQ
            refine al_33 F hw hA18 hin dX9_sumOf_52 ?_
            refine lv_lor hx hb dX9_sumOf_53 ?_
            refine lv_topl (fun v19 ev19 => ?_)
            have hQ := hQ v19 ev19
            refine lv_lstore_n (lv' := [(2, .long v19), (6, .int x6_8), (4, .long x4_8), (0, .ref a0), (1, .int p1)]) hx hb dX9_sumOf_54 rfl hl (by decide) rfl (fun ls hl => ?_)
            refine lv_lload hx hb dX9_sumOf_55 (lv_at hl 2 rfl) ?_
            refine lv_aload_n hx hb dX9_sumOf_57 rfl (lv_at hl 3 rfl) ?_
            refine g_8_25 F hw hA0 twf_RX9_61 dX9_sumOf_58 (fun a20 hA20 => ?_)
            refine lv_iload hx hb dX9_sumOf_61 (lv_at hl 1 rfl) ?_
            obtain ⟨hin, hQ⟩ := hQ
            refine al_32 F hw hA20 hin dX9_sumOf_63 ?_
            refine lv_ladd hx hb dX9_sumOf_64 ?_
            refine lv_topl (fun v21 ev21 => ?_)
            have hQ := hQ v21 ev21
            refine lv_lstore (lv' := [(4, .long v21), (2, .long v19), (6, .int x6_8), (0, .ref a0), (1, .int p1)]) hx hb dX9_sumOf_65 hl (by decide) rfl (fun ls hl => ?_)
            obtain ⟨v22, ev22⟩ : ∃ y : Int32, y = x6_8 + (1 : Int32) := ⟨_, rfl⟩
            have hQ := hQ v22 ev22
            refine lv_iinc (v := v22) (lv' := [(6, .int v22), (4, .long v21), (2, .long v19), (0, .ref a0), (1, .int p1)]) hx hb dX9_sumOf_67 hl (k := 2) rfl (by rw [ev22]; rfl) (by decide) rfl (fun ls hl => ?_)
            refine lv_goto (tgt := 8) hx hb dX9_sumOf_70 (by decide) ?_
            exact ih8 v22 v21 v19 S1 _ _ _ _ _ hQ hw hX hA0 (lv_sub hl [0, 1, 2, 3, 4] rfl) (by omega) (by omega)
          · have hQ := hQ.2 hc
            refine lv_ldc2 (v := -1) hx hb hown (hts _ twl_RX9_117) dX9_sumOf_41 ?_
            exact rt_l F hr hlk hw hX hQ (show cl8 ≤ 0 from by omega) (show sl8 ≤ 0 from by omega) dX9_sumOf_44
  obtain ⟨n, hQ⟩ := hQ
  exact hloop8 n (0 : Int32) (0 : Int64) (0 : Int64) S0 _ _ _ _ _ hQ hw hX hA0 (lv_sub hl [0, 1, 2, 3, 4] rfl) (by omega) (by omega)
theorem k_X9_sumOf {p : Program} {l : Launch} {e : Env} {R : Room} {s : State} {m : MethodId} {args : Array Value} {below : List Frame} {meth : Method} {c : Code} {H : Heap} {locs : List Loc} {cells slots : Nat} {Q : State → Prop} {cc : ByteArray} {pc nL : Nat} {ls : Array Slot} {rest : List Value} {G : GT} {S : St} {own : String} {p1 : Int32} {post : Int64 → St → Prop} {lv : List (Nat × Value)} {idx : Nat} (F : CX p m c cc nL s args own) (hw : WW G S s H locs) (hl : lv_has ls nL lv) {a0 : Nat} (hA0 : AtO S 8 0 a0) (hQ : wp_X9_sumOf p1 S post) (h1 : Cond.methodLink own idx yX9_sumOf ∈ wT) (hR1 : 2 + 1 ≤ R.frames) (hR2 : 8 + (10 + 11) + 45 ≤ R.locals) (hrest : (rest.map fun v => v.category).sum ≤ 8) (hdg : decode cc pc = .ok (.invokevirtual idx, 3)) (hf1 : cells + 0 ≤ R.cells) (hf2 : slots + 0 ≤ R.slots)
    (kk : ∀ (r : Int64) (S1 : St) (H1 : Heap) (locs1 : List Loc), post r S1 → WW G S1 s H1 locs1 → Ext S S1 → W p l e R s m args below meth c H1 locs1 (cells + 0) (slots + 0) Q (F0 m (pc + 3) ls (.long r :: rest))) : W p l e R s m args below meth c H locs cells slots Q (F0 m pc ls (.int p1 :: .ref a0 :: rest)) :=
  cl_l (rn_V (n := 1) (As := [.int p1]) (q := (RX9, TX9, 36)) F hw hl (m_X9_sumOf l G p1 S a0 hA0 post hQ) 8 (by decide) (by decide) hA0 rfl rfl h1 twi_yX9_sumOf tws_yX9_sumOf twn_RX9 two_yX9_sumOf rfl rfl ⟨rfl, by decide, by decide, by decide +kernel⟩ rfl ⟨hR1, hR2⟩ rfl hrest hdg ⟨hf1, hf2⟩) hw kk
-- X9_size
def bd_X9_size_4 (p1 : Int32) (post : Int32 → St → Prop) (K4 : Int32 → Int32 → St → Prop) (x2_4 : Int32) (x1_4 : Int32) (S1 : St) : Prop :=
  ((18 : Int32) ≤ x2_4 →
  post x1_4 S1) ∧
  (¬ (18 : Int32) ≤ x2_4 →
  ∀ v2 : Int32, v2 = x1_4 + ((p1 >>> (x2_4 &&& 31)) &&& (1 : Int32)) →
  ∀ v3 : Int32, v3 = x2_4 + (1 : Int32) →
  K4 v3 v2 S1)
def lp_X9_size_4 (p1 : Int32) (post : Int32 → St → Prop) : Nat → Int32 → Int32 → St → Prop
  | 0, _, _, _ => False
  | n + 1, x2_4, x1_4, S1 => bd_X9_size_4 p1 post (fun x2_4 x1_4 S1 => lp_X9_size_4 p1 post n x2_4 x1_4 S1) x2_4 x1_4 S1
def wp_X9_size (p1 : Int32) (S0 : St) (post : Int32 → St → Prop) : Prop :=
  ∃ n : Nat, lp_X9_size_4 p1 post n (0 : Int32) (0 : Int32) S0
set_option maxRecDepth 100000 in
set_option maxHeartbeats 4000000 in
theorem m_X9_size (l : Launch) (G : GT) (p1 : Int32) (S0 : St)  (post : Int32 → St → Prop) (hQ : wp_X9_size p1 S0 post) : Met l yX9_size (wM yX9_size cX9_size 3 (some (FieldType.int))) ({ frames := 0, cells := 0, slots := 0, locals := 0 } : Room) (PC G S0 [.int p1]) (QI G S0 post) 0 0 (QA G) := by
  refine mt_start RX9 (by decide) rfl (Nat.le_of_ble_eq_true rfl) ?_
  intro p e s m args below meth c ls F hr hlk hnm hw hl
  have hx := F.1
  have hb := F.2.1
  have hown := F.2.2.2.1
  have hts := F.2.2.2.2
  have hX : Ext S0 S0 := Ext.rf
  have hsz0 := hw.1.1.1
  have hl : lv_has ls 3 [(0, .int p1)] := hl
  unfold wp_X9_size at hQ
  refine lv_iconst (v := 0) hx hb dX9_size_0 (by decide) ?_
  refine lv_istore_n (lv' := [(1, .int (0 : Int32)), (0, .int p1)]) hx hb dX9_size_1 rfl hl (by decide) rfl (fun ls hl => ?_)
  refine lv_iconst (v := 0) hx hb dX9_size_2 (by decide) ?_
  refine lv_istore_n (lv' := [(2, .int (0 : Int32)), (1, .int (0 : Int32)), (0, .int p1)]) hx hb dX9_size_3 rfl hl (by decide) rfl (fun ls hl => ?_)
  have hloop4 : ∀ (n4 : Nat) (x2_4 : Int32) (x1_4 : Int32) (S1 : St) (H : Heap) (locs : List Loc) (ls : Array Slot) (cl4 sl4 : Nat), lp_X9_size_4 p1 post n4 x2_4 x1_4 S1 → WW G S1 s H locs → Ext S0 S1 → lv_has ls 3 [(2, .int x2_4), (1, .int x1_4), (0, .int p1)] → cl4 ≤ 0 + 0 → sl4 ≤ 0 + 0 → W p l e ({ frames := 0, cells := 0, slots := 0, locals := 0 } : Room) s m args below meth c H locs cl4 sl4 (MQ below (QI G S0 post) args s 0 0 (QA G)) (F0 m 4 ls []) := by
    intro n4
    induction n4 with
    | zero => intro x2_4 x1_4 S1 H locs ls cl sl hQ; exact False.elim hQ
    | succ n4 ih4 =>
      intro x2_4 x1_4 S1 H locs ls cl4 sl4 hQ hw hX hl hcl4 hsl4
      have hQ : bd_X9_size_4 p1 post (fun x2_4 x1_4 S1 => lp_X9_size_4 p1 post n4 x2_4 x1_4 S1) x2_4 x1_4 S1 := hQ
      unfold bd_X9_size_4 at hQ
      refine lv_iload_n hx hb dX9_size_4 rfl (lv_at hl 0 rfl) ?_
      refine lv_bipush (v := 18) hx hb dX9_size_5 (by decide) ?_
      refine lv_icmp_ge (tgt := 24) hx hb dX9_size_7 (by decide) (fun hc => ?_) (fun hc => ?_)
      · have hQ := hQ.1 hc
        refine lv_iload_n hx hb dX9_size_24 rfl (lv_at hl 1 rfl) ?_
        exact rt_i F hr hlk hw hX hQ (show cl4 ≤ 0 from by omega) (show sl4 ≤ 0 from by omega) dX9_size_25
      · have hQ := hQ.2 hc
        refine lv_iload_n hx hb dX9_size_10 rfl (lv_at hl 1 rfl) ?_
        refine lv_iload_n hx hb dX9_size_11 rfl (lv_at hl 2 rfl) ?_
        refine lv_iload_n hx hb dX9_size_12 rfl (lv_at hl 0 rfl) ?_
        refine lv_ishr hx hb dX9_size_13 ?_
        refine lv_iconst (v := 1) hx hb dX9_size_14 (by decide) ?_
        refine lv_iand hx hb dX9_size_15 ?_
        refine lv_iadd hx hb dX9_size_16 ?_
        refine lv_topi (fun v2 ev2 => ?_)
        have hQ := hQ v2 ev2
        refine lv_istore_n (lv' := [(1, .int v2), (2, .int x2_4), (0, .int p1)]) hx hb dX9_size_17 rfl hl (by decide) rfl (fun ls hl => ?_)
        obtain ⟨v3, ev3⟩ : ∃ y : Int32, y = x2_4 + (1 : Int32) := ⟨_, rfl⟩
        have hQ := hQ v3 ev3
        refine lv_iinc (v := v3) (lv' := [(2, .int v3), (1, .int v2), (0, .int p1)]) hx hb dX9_size_18 hl (k := 1) rfl (by rw [ev3]; rfl) (by decide) rfl (fun ls hl => ?_)
        refine lv_goto (tgt := 4) hx hb dX9_size_21 (by decide) ?_
        exact ih4 v3 v2 S1 _ _ _ _ _ hQ hw hX (lv_sub hl [0, 1, 2] rfl) (by omega) (by omega)
  obtain ⟨n, hQ⟩ := hQ
  exact hloop4 n (0 : Int32) (0 : Int32) S0 _ _ _ _ _ hQ hw hX (lv_sub hl [0, 1, 2] rfl) (by omega) (by omega)
theorem k_X9_size {p : Program} {l : Launch} {e : Env} {R : Room} {s : State} {m : MethodId} {args : Array Value} {below : List Frame} {meth : Method} {c : Code} {H : Heap} {locs : List Loc} {cells slots : Nat} {Q : State → Prop} {cc : ByteArray} {pc nL : Nat} {ls : Array Slot} {rest : List Value} {G : GT} {S : St} {own : String} {p1 : Int32} {post : Int32 → St → Prop} {lv : List (Nat × Value)} {idx : Nat} (F : CX p m c cc nL s args own) (hw : WW G S s H locs) (hl : lv_has ls nL lv)  (hQ : wp_X9_size p1 S post) (h1 : Cond.methodLink own idx yX9_size ∈ wT) (hR1 : 0 + 1 ≤ R.frames) (hR2 : 8 + (3 + 11) + 0 ≤ R.locals) (hrest : (rest.map fun v => v.category).sum ≤ 8) (hdg : decode cc pc = .ok (.invokestatic idx, 3)) (hf1 : cells + 0 ≤ R.cells) (hf2 : slots + 0 ≤ R.slots)
    (kk : ∀ (r : Int32) (S1 : St) (H1 : Heap) (locs1 : List Loc), post r S1 → WW G S1 s H1 locs1 → Ext S S1 → W p l e R s m args below meth c H1 locs1 (cells + 0) (slots + 0) Q (F0 m (pc + 3) ls (.int r :: rest))) : W p l e R s m args below meth c H locs cells slots Q (F0 m pc ls (.int p1 :: rest)) :=
  cl_i (rn_S (n := 1) (As := [.int p1]) F hw hl (m_X9_size l G p1 S  post hQ) h1 twi_yX9_size twn_RX9 two_yX9_size rfl rfl ⟨by decide, by decide, by decide +kernel⟩ rfl ⟨hR1, hR2⟩ rfl hrest hdg ⟨hf1, hf2⟩) hw kk
-- X9_isFirst
def wp_X9_isFirst (p1 : Int32) (p2 : Int32) (S0 : St) (post : Int32 → St → Prop) : Prop :=
  ∀ v1 : Int32, v1 = p1 ^^^ p2 →
  (v1 = 0 →
  post (0 : Int32) S0) ∧
  (¬ v1 = 0 →
  (((p1 &&& v1) &&& (-v1)) = 0 →
  post (0 : Int32) S0) ∧
  (¬ ((p1 &&& v1) &&& (-v1)) = 0 →
  post (1 : Int32) S0))
set_option maxRecDepth 100000 in
set_option maxHeartbeats 4000000 in
theorem m_X9_isFirst (l : Launch) (G : GT) (p1 : Int32) (p2 : Int32) (S0 : St)  (post : Int32 → St → Prop) (hQ : wp_X9_isFirst p1 p2 S0 post) : Met l yX9_isFirst (wM yX9_isFirst cX9_isFirst 3 (some (FieldType.boolean))) ({ frames := 0, cells := 0, slots := 0, locals := 0 } : Room) (PC G S0 [.int p1, .int p2]) (QI G S0 post) 0 0 (QA G) := by
  refine mt_start RX9 (by decide) rfl (Nat.le_of_ble_eq_true rfl) ?_
  intro p e s m args below meth c ls F hr hlk hnm hw hl
  have hx := F.1
  have hb := F.2.1
  have hown := F.2.2.2.1
  have hts := F.2.2.2.2
  have hX : Ext S0 S0 := Ext.rf
  have hsz0 := hw.1.1.1
  have hl : lv_has ls 3 [(0, .int p1), (1, .int p2)] := hl
  unfold wp_X9_isFirst at hQ
  refine lv_iload_n hx hb dX9_isFirst_0 rfl (lv_at hl 0 rfl) ?_
  refine lv_iload_n hx hb dX9_isFirst_1 rfl (lv_at hl 1 rfl) ?_
  refine lv_ixor hx hb dX9_isFirst_2 ?_
  refine lv_topi (fun v1 ev1 => ?_)
  have hQ := hQ v1 ev1
  refine lv_istore_n (lv' := [(2, .int v1), (0, .int p1), (1, .int p2)]) hx hb dX9_isFirst_3 rfl hl (by decide) rfl (fun ls hl => ?_)
  refine lv_iload_n hx hb dX9_isFirst_4 rfl (lv_at hl 0 rfl) ?_
  refine lv_if_eq (tgt := 21) hx hb dX9_isFirst_5 (by decide) (fun hc => ?_) (fun hc => ?_)
  · have hQ := hQ.1 hc
    refine lv_iconst (v := 0) hx hb dX9_isFirst_21 (by decide) ?_
    exact rt_z F hr hlk hw hX hQ rfl (show 0 ≤ 0 from by omega) (show 0 ≤ 0 from by omega) dX9_isFirst_22
  · have hQ := hQ.2 hc
    refine lv_iload_n hx hb dX9_isFirst_8 rfl (lv_at hl 1 rfl) ?_
    refine lv_iload_n hx hb dX9_isFirst_9 rfl (lv_at hl 0 rfl) ?_
    refine lv_iand hx hb dX9_isFirst_10 ?_
    refine lv_iload_n hx hb dX9_isFirst_11 rfl (lv_at hl 0 rfl) ?_
    refine lv_ineg hx hb dX9_isFirst_12 ?_
    refine lv_iand hx hb dX9_isFirst_13 ?_
    refine lv_if_eq (tgt := 21) hx hb dX9_isFirst_14 (by decide) (fun hc => ?_) (fun hc => ?_)
    · have hQ := hQ.1 hc
      refine lv_iconst (v := 0) hx hb dX9_isFirst_21 (by decide) ?_
      exact rt_z F hr hlk hw hX hQ rfl (show 0 ≤ 0 from by omega) (show 0 ≤ 0 from by omega) dX9_isFirst_22
    · have hQ := hQ.2 hc
      refine lv_iconst (v := 1) hx hb dX9_isFirst_17 (by decide) ?_
      refine lv_goto (tgt := 22) hx hb dX9_isFirst_18 (by decide) ?_
      exact rt_z F hr hlk hw hX hQ rfl (show 0 ≤ 0 from by omega) (show 0 ≤ 0 from by omega) dX9_isFirst_22
theorem k_X9_isFirst {p : Program} {l : Launch} {e : Env} {R : Room} {s : State} {m : MethodId} {args : Array Value} {below : List Frame} {meth : Method} {c : Code} {H : Heap} {locs : List Loc} {cells slots : Nat} {Q : State → Prop} {cc : ByteArray} {pc nL : Nat} {ls : Array Slot} {rest : List Value} {G : GT} {S : St} {own : String} {p1 : Int32} {p2 : Int32} {post : Int32 → St → Prop} {lv : List (Nat × Value)} {idx : Nat} (F : CX p m c cc nL s args own) (hw : WW G S s H locs) (hl : lv_has ls nL lv)  (hQ : wp_X9_isFirst p1 p2 S post) (h1 : Cond.methodLink own idx yX9_isFirst ∈ wT) (hR1 : 0 + 1 ≤ R.frames) (hR2 : 8 + (3 + 11) + 0 ≤ R.locals) (hrest : (rest.map fun v => v.category).sum ≤ 8) (hdg : decode cc pc = .ok (.invokestatic idx, 3)) (hf1 : cells + 0 ≤ R.cells) (hf2 : slots + 0 ≤ R.slots)
    (kk : ∀ (r : Int32) (S1 : St) (H1 : Heap) (locs1 : List Loc), post r S1 → WW G S1 s H1 locs1 → Ext S S1 → W p l e R s m args below meth c H1 locs1 (cells + 0) (slots + 0) Q (F0 m (pc + 3) ls (.int r :: rest))) : W p l e R s m args below meth c H locs cells slots Q (F0 m pc ls (.int p2 :: .int p1 :: rest)) :=
  cl_i (rn_S (n := 2) (As := [.int p1, .int p2]) F hw hl (m_X9_isFirst l G p1 p2 S  post hQ) h1 twi_yX9_isFirst twn_RX9 two_yX9_isFirst rfl rfl ⟨by decide, by decide, by decide +kernel⟩ rfl ⟨hR1, hR2⟩ rfl hrest hdg ⟨hf1, hf2⟩) hw kk

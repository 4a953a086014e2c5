-- X9_order
def bd_X9_order_23 (p1 : Int32) (x4_11 : Int32) (x3_11 : Int32) (K11 : Int32 → Int32 → St → Prop) (post : Int32 → St → Prop) (K23 : Int32 → Int32 → St → Prop) (x6_23 : Int32) (x5_23 : Int32) (S2 : St) : Prop :=
  ((gi S2 8 0 0) ≤ x6_23 →
  (¬ x5_23 = (-1 : Int32) →
  ∀ v3 : Int32, v3 = x4_11 + (1 : Int32) →
  K11 v3 x5_23 S2) ∧
  (x5_23 = (-1 : Int32) →
  post (-1 : Int32) S2)) ∧
  (¬ (gi S2 8 0 0) ≤ x6_23 →
  (x3_11 = (-1 : Int32) →
  vp_in x6_23 60 ∧
  (¬ (gi S2 20 0 x6_23.toNatClampNeg) = 0 →
  ∀ v5 : Int32, v5 = x6_23 + (1 : Int32) →
  K23 v5 x5_23 S2) ∧
  ((gi S2 20 0 x6_23.toNatClampNeg) = 0 →
  vp_in x6_23 60 ∧
  (¬ (gi S2 17 0 x6_23.toNatClampNeg) = p1 →
  ∀ v7 : Int32, v7 = x6_23 + (1 : Int32) →
  K23 v7 x5_23 S2) ∧
  ((gi S2 17 0 x6_23.toNatClampNeg) = p1 →
  ((1 : Int32) = 0 →
  ∀ v8 : Int32, v8 = x6_23 + (1 : Int32) →
  K23 v8 x5_23 S2) ∧
  (¬ (1 : Int32) = 0 →
  (x5_23 = (-1 : Int32) →
  ∀ v9 : Int32, v9 = x6_23 + (1 : Int32) →
  K23 v9 x6_23 S2) ∧
  (¬ x5_23 = (-1 : Int32) →
  vp_in x6_23 60 ∧
  vp_in x5_23 60 ∧
  ((gj S2 18 0 x6_23.toNatClampNeg) ≤ (gj S2 18 0 x5_23.toNatClampNeg) →
  ∀ v12 : Int32, v12 = x6_23 + (1 : Int32) →
  K23 v12 x5_23 S2) ∧
  (¬ (gj S2 18 0 x6_23.toNatClampNeg) ≤ (gj S2 18 0 x5_23.toNatClampNeg) →
  ∀ v13 : Int32, v13 = x6_23 + (1 : Int32) →
  K23 v13 x6_23 S2)))))) ∧
  (¬ x3_11 = (-1 : Int32) →
  vp_in x6_23 60 ∧
  vp_in x3_11 60 ∧
  ((gj S2 18 0 x6_23.toNatClampNeg) < (gj S2 18 0 x3_11.toNatClampNeg) →
  vp_in x6_23 60 ∧
  (¬ (gi S2 20 0 x6_23.toNatClampNeg) = 0 →
  ∀ v17 : Int32, v17 = x6_23 + (1 : Int32) →
  K23 v17 x5_23 S2) ∧
  ((gi S2 20 0 x6_23.toNatClampNeg) = 0 →
  vp_in x6_23 60 ∧
  (¬ (gi S2 17 0 x6_23.toNatClampNeg) = p1 →
  ∀ v19 : Int32, v19 = x6_23 + (1 : Int32) →
  K23 v19 x5_23 S2) ∧
  ((gi S2 17 0 x6_23.toNatClampNeg) = p1 →
  ((1 : Int32) = 0 →
  ∀ v20 : Int32, v20 = x6_23 + (1 : Int32) →
  K23 v20 x5_23 S2) ∧
  (¬ (1 : Int32) = 0 →
  (x5_23 = (-1 : Int32) →
  ∀ v21 : Int32, v21 = x6_23 + (1 : Int32) →
  K23 v21 x6_23 S2) ∧
  (¬ x5_23 = (-1 : Int32) →
  vp_in x6_23 60 ∧
  vp_in x5_23 60 ∧
  ((gj S2 18 0 x6_23.toNatClampNeg) ≤ (gj S2 18 0 x5_23.toNatClampNeg) →
  ∀ v24 : Int32, v24 = x6_23 + (1 : Int32) →
  K23 v24 x5_23 S2) ∧
  (¬ (gj S2 18 0 x6_23.toNatClampNeg) ≤ (gj S2 18 0 x5_23.toNatClampNeg) →
  ∀ v25 : Int32, v25 = x6_23 + (1 : Int32) →
  K23 v25 x6_23 S2)))))) ∧
  (¬ (gj S2 18 0 x6_23.toNatClampNeg) < (gj S2 18 0 x3_11.toNatClampNeg) →
  vp_in x6_23 60 ∧
  vp_in x3_11 60 ∧
  (¬ (gj S2 18 0 x6_23.toNatClampNeg) = (gj S2 18 0 x3_11.toNatClampNeg) →
  vp_in x6_23 60 ∧
  (¬ (gi S2 20 0 x6_23.toNatClampNeg) = 0 →
  ∀ v29 : Int32, v29 = x6_23 + (1 : Int32) →
  K23 v29 x5_23 S2) ∧
  ((gi S2 20 0 x6_23.toNatClampNeg) = 0 →
  vp_in x6_23 60 ∧
  (¬ (gi S2 17 0 x6_23.toNatClampNeg) = p1 →
  ∀ v31 : Int32, v31 = x6_23 + (1 : Int32) →
  K23 v31 x5_23 S2) ∧
  ((gi S2 17 0 x6_23.toNatClampNeg) = p1 →
  ((0 : Int32) = 0 →
  ∀ v32 : Int32, v32 = x6_23 + (1 : Int32) →
  K23 v32 x5_23 S2) ∧
  (¬ (0 : Int32) = 0 →
  (x5_23 = (-1 : Int32) →
  ∀ v33 : Int32, v33 = x6_23 + (1 : Int32) →
  K23 v33 x6_23 S2) ∧
  (¬ x5_23 = (-1 : Int32) →
  vp_in x6_23 60 ∧
  vp_in x5_23 60 ∧
  ((gj S2 18 0 x6_23.toNatClampNeg) ≤ (gj S2 18 0 x5_23.toNatClampNeg) →
  ∀ v36 : Int32, v36 = x6_23 + (1 : Int32) →
  K23 v36 x5_23 S2) ∧
  (¬ (gj S2 18 0 x6_23.toNatClampNeg) ≤ (gj S2 18 0 x5_23.toNatClampNeg) →
  ∀ v37 : Int32, v37 = x6_23 + (1 : Int32) →
  K23 v37 x6_23 S2)))))) ∧
  ((gj S2 18 0 x6_23.toNatClampNeg) = (gj S2 18 0 x3_11.toNatClampNeg) →
  (x6_23 ≤ x3_11 →
  vp_in x6_23 60 ∧
  (¬ (gi S2 20 0 x6_23.toNatClampNeg) = 0 →
  ∀ v39 : Int32, v39 = x6_23 + (1 : Int32) →
  K23 v39 x5_23 S2) ∧
  ((gi S2 20 0 x6_23.toNatClampNeg) = 0 →
  vp_in x6_23 60 ∧
  (¬ (gi S2 17 0 x6_23.toNatClampNeg) = p1 →
  ∀ v41 : Int32, v41 = x6_23 + (1 : Int32) →
  K23 v41 x5_23 S2) ∧
  ((gi S2 17 0 x6_23.toNatClampNeg) = p1 →
  ((0 : Int32) = 0 →
  ∀ v42 : Int32, v42 = x6_23 + (1 : Int32) →
  K23 v42 x5_23 S2) ∧
  (¬ (0 : Int32) = 0 →
  (x5_23 = (-1 : Int32) →
  ∀ v43 : Int32, v43 = x6_23 + (1 : Int32) →
  K23 v43 x6_23 S2) ∧
  (¬ x5_23 = (-1 : Int32) →
  vp_in x6_23 60 ∧
  vp_in x5_23 60 ∧
  ((gj S2 18 0 x6_23.toNatClampNeg) ≤ (gj S2 18 0 x5_23.toNatClampNeg) →
  ∀ v46 : Int32, v46 = x6_23 + (1 : Int32) →
  K23 v46 x5_23 S2) ∧
  (¬ (gj S2 18 0 x6_23.toNatClampNeg) ≤ (gj S2 18 0 x5_23.toNatClampNeg) →
  ∀ v47 : Int32, v47 = x6_23 + (1 : Int32) →
  K23 v47 x6_23 S2)))))) ∧
  (¬ x6_23 ≤ x3_11 →
  vp_in x6_23 60 ∧
  (¬ (gi S2 20 0 x6_23.toNatClampNeg) = 0 →
  ∀ v49 : Int32, v49 = x6_23 + (1 : Int32) →
  K23 v49 x5_23 S2) ∧
  ((gi S2 20 0 x6_23.toNatClampNeg) = 0 →
  vp_in x6_23 60 ∧
  (¬ (gi S2 17 0 x6_23.toNatClampNeg) = p1 →
  ∀ v51 : Int32, v51 = x6_23 + (1 : Int32) →
  K23 v51 x5_23 S2) ∧
  ((gi S2 17 0 x6_23.toNatClampNeg) = p1 →
  ((1 : Int32) = 0 →
  ∀ v52 : Int32, v52 = x6_23 + (1 : Int32) →
  K23 v52 x5_23 S2) ∧
  (¬ (1 : Int32) = 0 →
  (x5_23 = (-1 : Int32) →
  ∀ v53 : Int32, v53 = x6_23 + (1 : Int32) →
  K23 v53 x6_23 S2) ∧
  (¬ x5_23 = (-1 : Int32) →
  vp_in x6_23 60 ∧
  vp_in x5_23 60 ∧
  ((gj S2 18 0 x6_23.toNatClampNeg) ≤ (gj S2 18 0 x5_23.toNatClampNeg) →
  ∀ v56 : Int32, v56 = x6_23 + (1 : Int32) →
  K23 v56 x5_23 S2) ∧
  (¬ (gj S2 18 0 x6_23.toNatClampNeg) ≤ (gj S2 18 0 x5_23.toNatClampNeg) →
  ∀ v57 : Int32, v57 = x6_23 + (1 : Int32) →
  K23 v57 x6_23 S2))))))))))
def lp_X9_order_23 (p1 : Int32) (x4_11 : Int32) (x3_11 : Int32) (K11 : Int32 → Int32 → St → Prop) (post : Int32 → St → Prop) : Nat → Int32 → Int32 → St → Prop
  | 0, _, _, _ => False
  | n + 1, x6_23, x5_23, S2 => bd_X9_order_23 p1 x4_11 x3_11 K11 post (fun x6_23 x5_23 S2 => lp_X9_order_23 p1 x4_11 x3_11 K11 post n x6_23 x5_23 S2) x6_23 x5_23 S2
def bd_X9_order_11 (p1 : Int32) (p2 : Int32) (post : Int32 → St → Prop) (K11 : Int32 → Int32 → St → Prop) (x4_11 : Int32) (x3_11 : Int32) (S1 : St) : Prop :=
  (p2 < x4_11 →
  post x3_11 S1) ∧
  (¬ p2 < x4_11 →
  ∃ n : Nat, lp_X9_order_23 p1 x4_11 x3_11 K11 post n (0 : Int32) (-1 : Int32) S1)
def lp_X9_order_11 (p1 : Int32) (p2 : Int32) (post : Int32 → St → Prop) : Nat → Int32 → Int32 → St → Prop
  | 0, _, _, _ => False
  | n + 1, x4_11, x3_11, S1 => bd_X9_order_11 p1 p2 post (fun x4_11 x3_11 S1 => lp_X9_order_11 p1 p2 post n x4_11 x3_11 S1) x4_11 x3_11 S1
def wp_X9_order (p1 : Int32) (p2 : Int32) (S0 : St) (post : Int32 → St → Prop) : Prop :=
  (0 ≤ p2 →
  ∃ n : Nat, lp_X9_order_11 p1 p2 post n (0 : Int32) (-1 : Int32) S0) ∧
  (¬ 0 ≤ p2 →
  post (-1 : Int32) S0)
set_option maxRecDepth 100000 in
set_option maxHeartbeats 4000000 in
theorem m_X9_order (l : Launch) (G : GT) (p1 : Int32) (p2 : Int32) (S0 : St) (a0 : Nat) (hA0 : AtO S0 8 0 a0) (post : Int32 → St → Prop) (hQ : wp_X9_order p1 p2 S0 post) : Met l yX9_order (wM yX9_order cX9_order 8 (some (FieldType.int))) ({ frames := 0, cells := 0, slots := 0, locals := 0 } : Room) (PC G S0 [.ref a0, .int p1, .int p2]) (QI G S0 post) 0 0 (QA G) := by
  refine mt_start RX9 (by decide) rfl (Nat.le_of_ble_eq_true rfl) ?_
  intro p e s m args below meth c ls F hr hlk hnm hw hl
  have hx := F.1
  have hb := F.2.1
  have hown := F.2.2.2.1
  have hts := F.2.2.2.2
  have hX : Ext S0 S0 := Ext.rf
  have hsz0 := hw.1.1.1
  have hl : lv_has ls 8 [(0, .ref a0), (1, .int p1), (2, .int p2)] := hl
  unfold wp_X9_order at hQ
  refine lv_iload_n hx hb dX9_order_0 rfl (lv_at hl 2 rfl) ?_
  refine lv_if_ge (tgt := 6) hx hb dX9_order_1 (by decide) (fun hc => ?_) (fun hc => ?_)
  · have hQ := hQ.1 hc
    refine lv_iconst (v := -1) hx hb dX9_order_6 (by decide) ?_
    refine lv_istore_n (lv' := [(3, .int (-1 : Int32)), (0, .ref a0), (1, .int p1), (2, .int p2)]) hx hb dX9_order_7 rfl hl (by decide) rfl (fun ls hl => ?_)
    refine lv_iconst (v := 0) hx hb dX9_order_8 (by decide) ?_
    refine lv_istore (lv' := [(4, .int (0 : Int32)), (3, .int (-1 : Int32)), (0, .ref a0), (1, .int p1), (2, .int p2)]) hx hb dX9_order_9 hl (by decide) rfl (fun ls hl => ?_)
    have hloop11 : ∀ (n11 : Nat) (x4_11 : Int32) (x3_11 : Int32) (S1 : St) (H : Heap) (locs : List Loc) (ls : Array Slot) (cl11 sl11 : Nat), lp_X9_order_11 p1 p2 post n11 x4_11 x3_11 S1 → WW G S1 s H locs → Ext S0 S1 → AtO S1 8 0 a0 → lv_has ls 8 [(4, .int x4_11), (3, .int x3_11), (0, .ref a0), (1, .int p1), (2, .int p2)] → cl11 ≤ 0 + 0 → sl11 ≤ 0 + 0 → W p l e ({ frames := 0, cells := 0, slots := 0, locals := 0 } : Room) s m args below meth c H locs cl11 sl11 (MQ below (QI G S0 post) args s 0 0 (QA G)) (F0 m 11 ls []) := by
      intro n11
      induction n11 with
      | zero => intro x4_11 x3_11 S1 H locs ls cl sl hQ; exact False.elim hQ
      | succ n11 ih11 =>
        intro x4_11 x3_11 S1 H locs ls cl11 sl11 hQ hw hX hA0 hl hcl11 hsl11
        have hQ : bd_X9_order_11 p1 p2 post (fun x4_11 x3_11 S1 => lp_X9_order_11 p1 p2 post n11 x4_11 x3_11 S1) x4_11 x3_11 S1 := hQ
        unfold bd_X9_order_11 at hQ
        refine lv_iload hx hb dX9_order_11 (lv_at hl 0 rfl) ?_
        refine lv_iload_n hx hb dX9_order_13 rfl (lv_at hl 4 rfl) ?_
        refine lv_icmp_gt (tgt := 161) hx hb dX9_order_14 (by decide) (fun hc => ?_) (fun hc => ?_)
        · have hQ := hQ.1 hc
          refine lv_iload_n hx hb dX9_order_161 rfl (lv_at hl 1 rfl) ?_
          exact rt_i F hr hlk hw hX hQ (show cl11 ≤ 0 from by omega) (show sl11 ≤ 0 from by omega) dX9_order_162
        · have hQ := hQ.2 hc
          refine lv_iconst (v := -1) hx hb dX9_order_17 (by decide) ?_
          refine lv_istore (lv' := [(5, .int (-1 : Int32)), (4, .int x4_11), (3, .int x3_11), (0, .ref a0), (1, .int p1), (2, .int p2)]) hx hb dX9_order_18 hl (by decide) rfl (fun ls hl => ?_)
          refine lv_iconst (v := 0) hx hb dX9_order_20 (by decide) ?_
          refine lv_istore (lv' := [(6, .int (0 : Int32)), (5, .int (-1 : Int32)), (4, .int x4_11), (3, .int x3_11), (0, .ref a0), (1, .int p1), (2, .int p2)]) hx hb dX9_order_21 hl (by decide) rfl (fun ls hl => ?_)
          have hloop23 : ∀ (n23 : Nat) (x6_23 : Int32) (x5_23 : Int32) (S2 : St) (H : Heap) (locs : List Loc) (ls : Array Slot) (cl23 sl23 : Nat), lp_X9_order_23 p1 x4_11 x3_11 (fun x4_11 x3_11 S1 => lp_X9_order_11 p1 p2 post n11 x4_11 x3_11 S1) post n23 x6_23 x5_23 S2 → WW G S2 s H locs → Ext S0 S2 → AtO S2 8 0 a0 → lv_has ls 8 [(6, .int x6_23), (5, .int x5_23), (4, .int x4_11), (3, .int x3_11), (0, .ref a0), (1, .int p1), (2, .int p2)] → cl23 ≤ cl11 + 0 → sl23 ≤ sl11 + 0 → W p l e ({ frames := 0, cells := 0, slots := 0, locals := 0 } : Room) s m args below meth c H locs cl23 sl23 (MQ below (QI G S0 post) args s 0 0 (QA G)) (F0 m 23 ls []) := by
            intro n23
            induction n23 with
            | zero => intro x6_23 x5_23 S2 H locs ls cl sl hQ; exact False.elim hQ
            | succ n23 ih23 =>
              intro x6_23 x5_23 S2 H locs ls cl23 sl23 hQ hw hX hA0 hl hcl23 hsl23
              have hQ : bd_X9_order_23 p1 x4_11 x3_11 (fun x4_11 x3_11 S1 => lp_X9_order_11 p1 p2 post n11 x4_11 x3_11 S1) post (fun x6_23 x5_23 S2 => lp_X9_order_23 p1 x4_11 x3_11 (fun x4_11 x3_11 S1 => lp_X9_order_11 p1 p2 post n11 x4_11 x3_11 S1) post n23 x6_23 x5_23 S2) x6_23 x5_23 S2 := hQ
              unfold bd_X9_order_23 at hQ
              refine lv_iload hx hb dX9_order_23 (lv_at hl 0 rfl) ?_
              refine lv_aload_n hx hb dX9_order_25 rfl (lv_at hl 4 rfl) ?_
              refine g_8_0 F hw hA0 twf_RX9_82 dX9_order_26 ?_
              refine lv_icmp_ge (tgt := 144) hx hb dX9_order_29 (by decide) (fun hc => ?_) (fun hc => ?_)
              · have hQ := hQ.1 hc
                refine lv_iload hx hb dX9_order_144 (lv_at hl 1 rfl) ?_
                refine lv_iconst (v := -1) hx hb dX9_order_146 (by decide) ?_
                refine lv_icmp_ne (tgt := 152) hx hb dX9_order_147 (by decide) (fun hc => ?_) (fun hc => ?_)
                · have hQ := hQ.1 hc
                  refine lv_iload hx hb dX9_order_152 (lv_at hl 1 rfl) ?_
                  refine lv_istore_n (lv' := [(3, .int x5_23), (6, .int x6_23), (5, .int x5_23), (4, .int x4_11), (0, .ref a0), (1, .int p1), (2, .int p2)]) hx hb dX9_order_154 rfl hl (by decide) rfl (fun ls hl => ?_)
                  obtain ⟨v3, ev3⟩ : ∃ y : Int32, y = x4_11 + (1 : Int32) := ⟨_, rfl⟩
                  have hQ := hQ v3 ev3
                  refine lv_iinc (v := v3) (lv' := [(4, .int v3), (3, .int x5_23), (6, .int x6_23), (5, .int x5_23), (0, .ref a0), (1, .int p1), (2, .int p2)]) hx hb dX9_order_155 hl (k := 3) rfl (by rw [ev3]; rfl) (by decide) rfl (fun ls hl => ?_)
                  refine lv_goto (tgt := 11) hx hb dX9_order_158 (by decide) ?_
                  exact ih11 v3 x5_23 S2 _ _ _ _ _ hQ hw hX hA0 (lv_sub hl [0, 1, 4, 5, 6] rfl) (by omega) (by omega)
                · have hQ := hQ.2 hc
                  refine lv_iconst (v := -1) hx hb dX9_order_150 (by decide) ?_
                  exact rt_i F hr hlk hw hX hQ (show cl23 ≤ 0 from by omega) (show sl23 ≤ 0 from by omega) dX9_order_151
              · have hQ := hQ.2 hc
                refine lv_iload_n hx hb dX9_order_32 rfl (lv_at hl 3 rfl) ?_
                refine lv_iconst (v := -1) hx hb dX9_order_33 (by decide) ?_
                refine lv_icmp_eq (tgt := 77) hx hb dX9_order_34 (by decide) (fun hc => ?_) (fun hc => ?_)
                · have hQ := hQ.1 hc
                  refine lv_iconst (v := 1) hx hb dX9_order_77 (by decide) ?_
                  refine lv_goto (tgt := 82) hx hb dX9_order_78 (by decide) ?_
                  refine lv_istore (lv' := [(7, .int (1 : Int32)), (6, .int x6_23), (5, .int x5_23), (4, .int x4_11), (3, .int x3_11), (0, .ref a0), (1, .int p1), (2, .int p2)]) hx hb dX9_order_82 hl (by decide) rfl (fun ls hl => ?_)
                  refine lv_aload_n hx hb dX9_order_84 rfl (lv_at hl 5 rfl) ?_
                  refine g_8_4 F hw hA0 twf_RX9_20 dX9_order_85 (fun a4 hA4 => ?_)
                  refine lv_iload hx hb dX9_order_88 (lv_at hl 1 rfl) ?_
                  obtain ⟨hin, hQ⟩ := hQ
                  refine al_20 F hw hA4 hin dX9_order_90 ?_
                  refine lv_if_ne (tgt := 138) hx hb dX9_order_91 (by decide) (fun hc => ?_) (fun hc => ?_)
                  · have hQ := hQ.1 hc
                    obtain ⟨v5, ev5⟩ : ∃ y : Int32, y = x6_23 + (1 : Int32) := ⟨_, rfl⟩
                    have hQ := hQ v5 ev5
                    refine lv_iinc (v := v5) (lv' := [(6, .int v5), (7, .int (1 : Int32)), (5, .int x5_23), (4, .int x4_11), (3, .int x3_11), (0, .ref a0), (1, .int p1), (2, .int p2)]) hx hb dX9_order_138 hl (k := 1) rfl (by rw [ev5]; rfl) (by decide) rfl (fun ls hl => ?_)
                    refine lv_goto (tgt := 23) hx hb dX9_order_141 (by decide) ?_
                    exact ih23 v5 x5_23 S2 _ _ _ _ _ hQ hw hX hA0 (lv_sub hl [0, 2, 3, 4, 5, 6, 7] rfl) (by omega) (by omega)
                  · have hQ := hQ.2 hc
                    refine lv_aload_n hx hb dX9_order_94 rfl (lv_at hl 5 rfl) ?_
                    refine g_8_1 F hw hA0 twf_RX9_7 dX9_order_95 (fun a6 hA6 => ?_)
                    refine lv_iload hx hb dX9_order_98 (lv_at hl 1 rfl) ?_
                    obtain ⟨hin, hQ⟩ := hQ
                    refine al_17 F hw hA6 hin dX9_order_100 ?_
                    refine lv_iload_n hx hb dX9_order_101 rfl (lv_at hl 6 rfl) ?_
                    refine lv_icmp_ne (tgt := 138) hx hb dX9_order_102 (by decide) (fun hc => ?_) (fun hc => ?_)
                    · have hQ := hQ.1 hc
                      obtain ⟨v7, ev7⟩ : ∃ y : Int32, y = x6_23 + (1 : Int32) := ⟨_, rfl⟩
                      have hQ := hQ v7 ev7
                      refine lv_iinc (v := v7) (lv' := [(6, .int v7), (7, .int (1 : Int32)), (5, .int x5_23), (4, .int x4_11), (3, .int x3_11), (0, .ref a0), (1, .int p1), (2, .int p2)]) hx hb dX9_order_138 hl (k := 1) rfl (by rw [ev7]; rfl) (by decide) rfl (fun ls hl => ?_)
                      refine lv_goto (tgt := 23) hx hb dX9_order_141 (by decide) ?_
                      exact ih23 v7 x5_23 S2 _ _ _ _ _ hQ hw hX hA0 (lv_sub hl [0, 2, 3, 4, 5, 6, 7] rfl) (by omega) (by omega)
                    · have hQ := hQ.2 hc
                      refine lv_iload hx hb dX9_order_105 (lv_at hl 0 rfl) ?_
                      refine lv_if_eq (tgt := 138) hx hb dX9_order_107 (by decide) (fun hc => ?_) (fun hc => ?_)
                      · have hQ := hQ.1 hc
                        obtain ⟨v8, ev8⟩ : ∃ y : Int32, y = x6_23 + (1 : Int32) := ⟨_, rfl⟩
                        have hQ := hQ v8 ev8
                        refine lv_iinc (v := v8) (lv' := [(6, .int v8), (7, .int (1 : Int32)), (5, .int x5_23), (4, .int x4_11), (3, .int x3_11), (0, .ref a0), (1, .int p1), (2, .int p2)]) hx hb dX9_order_138 hl (k := 1) rfl (by rw [ev8]; rfl) (by decide) rfl (fun ls hl => ?_)
                        refine lv_goto (tgt := 23) hx hb dX9_order_141 (by decide) ?_
                        exact ih23 v8 x5_23 S2 _ _ _ _ _ hQ hw hX hA0 (lv_sub hl [0, 2, 3, 4, 5, 6, 7] rfl) (by omega) (by omega)
                      · have hQ := hQ.2 hc
                        refine lv_iload hx hb dX9_order_110 (lv_at hl 2 rfl) ?_
                        refine lv_iconst (v := -1) hx hb dX9_order_112 (by decide) ?_
                        refine lv_icmp_eq (tgt := 134) hx hb dX9_order_113 (by decide) (fun hc => ?_) (fun hc => ?_)
                        · have hQ := hQ.1 hc
                          refine lv_iload hx hb dX9_order_134 (lv_at hl 1 rfl) ?_
                          refine lv_istore (lv' := [(5, .int x6_23), (7, .int (1 : Int32)), (6, .int x6_23), (4, .int x4_11), (3, .int x3_11), (0, .ref a0), (1, .int p1), (2, .int p2)]) hx hb dX9_order_136 hl (by decide) rfl (fun ls hl => ?_)
                          obtain ⟨v9, ev9⟩ : ∃ y : Int32, y = x6_23 + (1 : Int32) := ⟨_, rfl⟩
                          have hQ := hQ v9 ev9
                          refine lv_iinc (v := v9) (lv' := [(6, .int v9), (5, .int x6_23), (7, .int (1 : Int32)), (4, .int x4_11), (3, .int x3_11), (0, .ref a0), (1, .int p1), (2, .int p2)]) hx hb dX9_order_138 hl (k := 2) rfl (by rw [ev9]; rfl) (by decide) rfl (fun ls hl => ?_)
                          refine lv_goto (tgt := 23) hx hb dX9_order_141 (by decide) ?_
                          exact ih23 v9 x6_23 S2 _ _ _ _ _ hQ hw hX hA0 (lv_sub hl [0, 1, 3, 4, 5, 6, 7] rfl) (by omega) (by omega)
                        · have hQ := hQ.2 hc
                          refine lv_aload_n hx hb dX9_order_116 rfl (lv_at hl 5 rfl) ?_
                          refine g_8_2 F hw hA0 twf_RX9_13 dX9_order_117 (fun a10 hA10 => ?_)
                          refine lv_iload hx hb dX9_order_120 (lv_at hl 1 rfl) ?_
                          obtain ⟨hin, hQ⟩ := hQ
                          refine al_18 F hw hA10 hin dX9_order_122 ?_
                          refine lv_aload_n hx hb dX9_order_123 rfl (lv_at hl 5 rfl) ?_
                          refine g_8_2 F hw hA0 twf_RX9_13 dX9_order_124 (fun a11 hA11 => ?_)
                          refine lv_iload hx hb dX9_order_127 (lv_at hl 2 rfl) ?_
                          obtain ⟨hin, hQ⟩ := hQ
                          refine al_18 F hw hA11 hin dX9_order_129 ?_
                          refine lc_le (tgt := 138) F dX9_order_130 dX9_order_131 (by decide) (fun hc => ?_) (fun hc => ?_)
                          · have hQ := hQ.1 hc
                            obtain ⟨v12, ev12⟩ : ∃ y : Int32, y = x6_23 + (1 : Int32) := ⟨_, rfl⟩
                            have hQ := hQ v12 ev12
                            refine lv_iinc (v := v12) (lv' := [(6, .int v12), (7, .int (1 : Int32)), (5, .int x5_23), (4, .int x4_11), (3, .int x3_11), (0, .ref a0), (1, .int p1), (2, .int p2)]) hx hb dX9_order_138 hl (k := 1) rfl (by rw [ev12]; rfl) (by decide) rfl (fun ls hl => ?_)
                            refine lv_goto (tgt := 23) hx hb dX9_order_141 (by decide) ?_
                            exact ih23 v12 x5_23 S2 _ _ _ _ _ hQ hw hX hA0 (lv_sub hl [0, 2, 3, 4, 5, 6, 7] rfl) (by omega) (by omega)
                          · have hQ := hQ.2 hc
                            refine lv_iload hx hb dX9_order_134 (lv_at hl 1 rfl) ?_
                            refine lv_istore (lv' := [(5, .int x6_23), (7, .int (1 : Int32)), (6, .int x6_23), (4, .int x4_11), (3, .int x3_11), (0, .ref a0), (1, .int p1), (2, .int p2)]) hx hb dX9_order_136 hl (by decide) rfl (fun ls hl => ?_)
                            obtain ⟨v13, ev13⟩ : ∃ y : Int32, y = x6_23 + (1 : Int32) := ⟨_, rfl⟩
                            have hQ := hQ v13 ev13
                            refine lv_iinc (v := v13) (lv' := [(6, .int v13), (5, .int x6_23), (7, .int (1 : Int32)), (4, .int x4_11), (3, .int x3_11), (0, .ref a0), (1, .int p1), (2, .int p2)]) hx hb dX9_order_138 hl (k := 2) rfl (by rw [ev13]; rfl) (by decide) rfl (fun ls hl => ?_)
                            refine lv_goto (tgt := 23) hx hb dX9_order_141 (by decide) ?_
                            exact ih23 v13 x6_23 S2 _ _ _ _ _ hQ hw hX hA0 (lv_sub hl [0, 1, 3, 4, 5, 6, 7] rfl) (by omega) (by omega)
                · have hQ := hQ.2 hc
                  refine lv_aload_n hx hb dX9_order_37 rfl (lv_at hl 4 rfl) ?_
                  refine g_8_2 F hw hA0 twf_RX9_13 dX9_order_38 (fun a14 hA14 => ?_)
                  refine lv_iload hx hb dX9_order_41 (lv_at hl 0 rfl) ?_
                  obtain ⟨hin, hQ⟩ := hQ
                  refine al_18 F hw hA14 hin dX9_order_43 ?_
                  refine lv_aload_n hx hb dX9_order_44 rfl (lv_at hl 4 rfl) ?_
                  refine g_8_2 F hw hA0 twf_RX9_13 dX9_order_45 (fun a15 hA15 => ?_)
                  refine lv_iload_n hx hb dX9_order_48 rfl (lv_at hl 3 rfl) ?_
                  obtain ⟨hin, hQ⟩ := hQ
                  refine al_18 F hw hA15 hin dX9_order_49 ?_
                  refine lc_lt (tgt := 77) F dX9_order_50 dX9_order_51 (by decide) (fun hc => ?_) (fun hc => ?_)
                  · have hQ := hQ.1 hc
                    refine lv_iconst (v := 1) hx hb dX9_order_77 (by decide) ?_
                    refine lv_goto (tgt := 82) hx hb dX9_order_78 (by decide) ?_
                    refine lv_istore (lv' := [(7, .int (1 : Int32)), (6, .int x6_23), (5, .int x5_23), (4, .int x4_11), (3, .int x3_11), (0, .ref a0), (1, .int p1), (2, .int p2)]) hx hb dX9_order_82 hl (by decide) rfl (fun ls hl => ?_)
                    refine lv_aload_n hx hb dX9_order_84 rfl (lv_at hl 5 rfl) ?_
                    refine g_8_4 F hw hA0 twf_RX9_20 dX9_order_85 (fun a16 hA16 => ?_)
                    refine lv_iload hx hb dX9_order_88 (lv_at hl 1 rfl) ?_
                    obtain ⟨hin, hQ⟩ := hQ
                    refine al_20 F hw hA16 hin dX9_order_90 ?_
                    refine lv_if_ne (tgt := 138) hx hb dX9_order_91 (by decide) (fun hc => ?_) (fun hc => ?_)
                    · have hQ := hQ.1 hc
                      obtain ⟨v17, ev17⟩ : ∃ y : Int32, y = x6_23 + (1 : Int32) := ⟨_, rfl⟩
                      have hQ := hQ v17 ev17
                      refine lv_iinc (v := v17) (lv' := [(6, .int v17), (7, .int (1 : Int32)), (5, .int x5_23), (4, .int x4_11), (3, .int x3_11), (0, .ref a0), (1, .int p1), (2, .int p2)]) hx hb dX9_order_138 hl (k := 1) rfl (by rw [ev17]; rfl) (by decide) rfl (fun ls hl => ?_)
                      refine lv_goto (tgt := 23) hx hb dX9_order_141 (by decide) ?_
                      exact ih23 v17 x5_23 S2 _ _ _ _ _ hQ hw hX hA0 (lv_sub hl [0, 2, 3, 4, 5, 6, 7] rfl) (by omega) (by omega)
                    · have hQ := hQ.2 hc
                      refine lv_aload_n hx hb dX9_order_94 rfl (lv_at hl 5 rfl) ?_
                      refine g_8_1 F hw hA0 twf_RX9_7 dX9_order_95 (fun a18 hA18 => ?_)
                      refine lv_iload hx hb dX9_order_98 (lv_at hl 1 rfl) ?_
                      obtain ⟨hin, hQ⟩ := hQ
                      refine al_17 F hw hA18 hin dX9_order_100 ?_
                      refine lv_iload_n hx hb dX9_order_101 rfl (lv_at hl 6 rfl) ?_
                      refine lv_icmp_ne (tgt := 138) hx hb dX9_order_102 (by decide) (fun hc => ?_) (fun hc => ?_)
                      · have hQ := hQ.1 hc
                        obtain ⟨v19, ev19⟩ : ∃ y : Int32, y = x6_23 + (1 : Int32) := ⟨_, rfl⟩
                        have hQ := hQ v19 ev19
                        refine lv_iinc (v := v19) (lv' := [(6, .int v19), (7, .int (1 : Int32)), (5, .int x5_23), (4, .int x4_11), (3, .int x3_11), (0, .ref a0), (1, .int p1), (2, .int p2)]) hx hb dX9_order_138 hl (k := 1) rfl (by rw [ev19]; rfl) (by decide) rfl (fun ls hl => ?_)
                        refine lv_goto (tgt := 23) hx hb dX9_order_141 (by decide) ?_
                        exact ih23 v19 x5_23 S2 _ _ _ _ _ hQ hw hX hA0 (lv_sub hl [0, 2, 3, 4, 5, 6, 7] rfl) (by omega) (by omega)
                      · have hQ := hQ.2 hc
                        refine lv_iload hx hb dX9_order_105 (lv_at hl 0 rfl) ?_
                        refine lv_if_eq (tgt := 138) hx hb dX9_order_107 (by decide) (fun hc => ?_) (fun hc => ?_)
                        · have hQ := hQ.1 hc
                          obtain ⟨v20, ev20⟩ : ∃ y : Int32, y = x6_23 + (1 : Int32) := ⟨_, rfl⟩
                          have hQ := hQ v20 ev20
                          refine lv_iinc (v := v20) (lv' := [(6, .int v20), (7, .int (1 : Int32)), (5, .int x5_23), (4, .int x4_11), (3, .int x3_11), (0, .ref a0), (1, .int p1), (2, .int p2)]) hx hb dX9_order_138 hl (k := 1) rfl (by rw [ev20]; rfl) (by decide) rfl (fun ls hl => ?_)
                          refine lv_goto (tgt := 23) hx hb dX9_order_141 (by decide) ?_
                          exact ih23 v20 x5_23 S2 _ _ _ _ _ hQ hw hX hA0 (lv_sub hl [0, 2, 3, 4, 5, 6, 7] rfl) (by omega) (by omega)
                        · have hQ := hQ.2 hc
                          refine lv_iload hx hb dX9_order_110 (lv_at hl 2 rfl) ?_
                          refine lv_iconst (v := -1) hx hb dX9_order_112 (by decide) ?_
                          refine lv_icmp_eq (tgt := 134) hx hb dX9_order_113 (by decide) (fun hc => ?_) (fun hc => ?_)
                          · have hQ := hQ.1 hc
                            refine lv_iload hx hb dX9_order_134 (lv_at hl 1 rfl) ?_
                            refine lv_istore (lv' := [(5, .int x6_23), (7, .int (1 : Int32)), (6, .int x6_23), (4, .int x4_11), (3, .int x3_11), (0, .ref a0), (1, .int p1), (2, .int p2)]) hx hb dX9_order_136 hl (by decide) rfl (fun ls hl => ?_)
                            obtain ⟨v21, ev21⟩ : ∃ y : Int32, y = x6_23 + (1 : Int32) := ⟨_, rfl⟩
                            have hQ := hQ v21 ev21
                            refine lv_iinc (v := v21) (lv' := [(6, .int v21), (5, .int x6_23), (7, .int (1 : Int32)), (4, .int x4_11), (3, .int x3_11), (0, .ref a0), (1, .int p1), (2, .int p2)]) hx hb dX9_order_138 hl (k := 2) rfl (by rw [ev21]; rfl) (by decide) rfl (fun ls hl => ?_)
                            refine lv_goto (tgt := 23) hx hb dX9_order_141 (by decide) ?_
                            exact ih23 v21 x6_23 S2 _ _ _ _ _ hQ hw hX hA0 (lv_sub hl [0, 1, 3, 4, 5, 6, 7] rfl) (by omega) (by omega)
                          · have hQ := hQ.2 hc
                            refine lv_aload_n hx hb dX9_order_116 rfl (lv_at hl 5 rfl) ?_
                            refine g_8_2 F hw hA0 twf_RX9_13 dX9_order_117 (fun a22 hA22 => ?_)
                            refine lv_iload hx hb dX9_order_120 (lv_at hl 1 rfl) ?_
                            obtain ⟨hin, hQ⟩ := hQ
                            refine al_18 F hw hA22 hin dX9_order_122 ?_
                            refine lv_aload_n hx hb dX9_order_123 rfl (lv_at hl 5 rfl) ?_
                            refine g_8_2 F hw hA0 twf_RX9_13 dX9_order_124 (fun a23 hA23 => ?_)
                            refine lv_iload hx hb dX9_order_127 (lv_at hl 2 rfl) ?_
                            obtain ⟨hin, hQ⟩ := hQ
                            refine al_18 F hw hA23 hin dX9_order_129 ?_
                            refine lc_le (tgt := 138) F dX9_order_130 dX9_order_131 (by decide) (fun hc => ?_) (fun hc => ?_)
                            · have hQ := hQ.1 hc
                              obtain ⟨v24, ev24⟩ : ∃ y : Int32, y = x6_23 + (1 : Int32) := ⟨_, rfl⟩
                              have hQ := hQ v24 ev24
                              refine lv_iinc (v := v24) (lv' := [(6, .int v24), (7, .int (1 : Int32)), (5, .int x5_23), (4, .int x4_11), (3, .int x3_11), (0, .ref a0), (1, .int p1), (2, .int p2)]) hx hb dX9_order_138 hl (k := 1) rfl (by rw [ev24]; rfl) (by decide) rfl (fun ls hl => ?_)
                              refine lv_goto (tgt := 23) hx hb dX9_order_141 (by decide) ?_
                              exact ih23 v24 x5_23 S2 _ _ _ _ _ hQ hw hX hA0 (lv_sub hl [0, 2, 3, 4, 5, 6, 7] rfl) (by omega) (by omega)
                            · have hQ := hQ.2 hc
                              refine lv_iload hx hb dX9_order_134 (lv_at hl 1 rfl) ?_
                              refine lv_istore (lv' := [(5, .int x6_23), (7, .int (1 : Int32)), (6, .int x6_23), (4, .int x4_11), (3, .int x3_11), (0, .ref a0), (1, .int p1), (2, .int p2)]) hx hb dX9_order_136 hl (by decide) rfl (fun ls hl => ?_)
                              obtain ⟨v25, ev25⟩ : ∃ y : Int32, y = x6_23 + (1 : Int32) := ⟨_, rfl⟩
                              have hQ := hQ v25 ev25
                              refine lv_iinc (v := v25) (lv' := [(6, .int v25), (5, .int x6_23), (7, .int (1 : Int32)), (4, .int x4_11), (3, .int x3_11), (0, .ref a0), (1, .int p1), (2, .int p2)]) hx hb dX9_order_138 hl (k := 2) rfl (by rw [ev25]; rfl) (by decide) rfl (fun ls hl => ?_)
                              refine lv_goto (tgt := 23) hx hb dX9_order_141 (by decide) ?_
                              exact ih23 v25 x6_23 S2 _ _ _ _ _ hQ hw hX hA0 (lv_sub hl [0, 1, 3, 4, 5, 6, 7] rfl) (by omega) (by omega)
                  · have hQ := hQ.2 hc
                    refine lv_aload_n hx hb dX9_order_54 rfl (lv_at hl 4 rfl) ?_
                    refine g_8_2 F hw hA0 twf_RX9_13 dX9_order_55 (fun a26 hA26 => ?_)
                    refine lv_iload hx hb dX9_order_58 (lv_at hl 0 rfl) ?_
                    obtain ⟨hin, hQ⟩ := hQ
                    refine al_18 F hw hA26 hin dX9_order_60 ?_
                    refine lv_aload_n hx hb dX9_order_61 rfl (lv_at hl 4 rfl) ?_
                    refine g_8_2 F hw hA0 twf_RX9_13 dX9_order_62 (fun a27 hA27 => ?_)
                    refine lv_iload_n hx hb dX9_order_65 rfl (lv_at hl 3 rfl) ?_
                    obtain ⟨hin, hQ⟩ := hQ
                    refine al_18 F hw hA27 hin dX9_order_66 ?_
                    refine lc_ne (tgt := 81) F dX9_order_67 dX9_order_68 (by decide) (fun hc => ?_) (fun hc => ?_)
                    · have hQ := hQ.1 hc
                      refine lv_iconst (v := 0) hx hb dX9_order_81 (by decide) ?_
                      refine lv_istore (lv' := [(7, .int (0 : Int32)), (6, .int x6_23), (5, .int x5_23), (4, .int x4_11), (3, .int x3_11), (0, .ref a0), (1, .int p1), (2, .int p2)]) hx hb dX9_order_82 hl (by decide) rfl (fun ls hl => ?_)
                      refine lv_aload_n hx hb dX9_order_84 rfl (lv_at hl 5 rfl) ?_
                      refine g_8_4 F hw hA0 twf_RX9_20 dX9_order_85 (fun a28 hA28 => ?_)
                      refine lv_iload hx hb dX9_order_88 (lv_at hl 1 rfl) ?_
                      obtain ⟨hin, hQ⟩ := hQ
                      refine al_20 F hw hA28 hin dX9_order_90 ?_
                      refine lv_if_ne (tgt := 138) hx hb dX9_order_91 (by decide) (fun hc => ?_) (fun hc => ?_)
                      · have hQ := hQ.1 hc
                        obtain ⟨v29, ev29⟩ : ∃ y : Int32, y = x6_23 + (1 : Int32) := ⟨_, rfl⟩
                        have hQ := hQ v29 ev29
                        refine lv_iinc (v := v29) (lv' := [(6, .int v29), (7, .int (0 : Int32)), (5, .int x5_23), (4, .int x4_11), (3, .int x3_11), (0, .ref a0), (1, .int p1), (2, .int p2)]) hx hb dX9_order_138 hl (k := 1) rfl (by rw [ev29]; rfl) (by decide) rfl (fun ls hl => ?_)
                        refine lv_goto (tgt := 23) hx hb dX9_order_141 (by decide) ?_
                        exact ih23 v29 x5_23 S2 _ _ _ _ _ hQ hw hX hA0 (lv_sub hl [0, 2, 3, 4, 5, 6, 7] rfl) (by omega) (by omega)
                      · have hQ := hQ.2 hc
                        refine lv_aload_n hx hb dX9_order_94 rfl (lv_at hl 5 rfl) ?_
                        refine g_8_1 F hw hA0 twf_RX9_7 dX9_order_95 (fun a30 hA30 => ?_)
                        refine lv_iload hx hb dX9_order_98 (lv_at hl 1 rfl) ?_
                        obtain ⟨hin, hQ⟩ := hQ
                        refine al_17 F hw hA30 hin dX9_order_100 ?_
                        refine lv_iload_n hx hb dX9_order_101 rfl (lv_at hl 6 rfl) ?_
                        refine lv_icmp_ne (tgt := 138) hx hb dX9_order_102 (by decide) (fun hc => ?_) (fun hc => ?_)
                        · have hQ := hQ.1 hc
                          obtain ⟨v31, ev31⟩ : ∃ y : Int32, y = x6_23 + (1 : Int32) := ⟨_, rfl⟩
                          have hQ := hQ v31 ev31
                          refine lv_iinc (v := v31) (lv' := [(6, .int v31), (7, .int (0 : Int32)), (5, .int x5_23), (4, .int x4_11), (3, .int x3_11), (0, .ref a0), (1, .int p1), (2, .int p2)]) hx hb dX9_order_138 hl (k := 1) rfl (by rw [ev31]; rfl) (by decide) rfl (fun ls hl => ?_)
                          refine lv_goto (tgt := 23) hx hb dX9_order_141 (by decide) ?_
                          exact ih23 v31 x5_23 S2 _ _ _ _ _ hQ hw hX hA0 (lv_sub hl [0, 2, 3, 4, 5, 6, 7] rfl) (by omega) (by omega)
                        · have hQ := hQ.2 hc
                          refine lv_iload hx hb dX9_order_105 (lv_at hl 0 rfl) ?_
                          refine lv_if_eq (tgt := 138) hx hb dX9_order_107 (by decide) (fun hc => ?_) (fun hc => ?_)
                          · have hQ := hQ.1 hc
                            obtain ⟨v32, ev32⟩ : ∃ y : Int32, y = x6_23 + (1 : Int32) := ⟨_, rfl⟩
                            have hQ := hQ v32 ev32
                            refine lv_iinc (v := v32) (lv' := [(6, .int v32), (7, .int (0 : Int32)), (5, .int x5_23), (4, .int x4_11), (3, .int x3_11), (0, .ref a0), (1, .int p1), (2, .int p2)]) hx hb dX9_order_138 hl (k := 1) rfl (by rw [ev32]; rfl) (by decide) rfl (fun ls hl => ?_)
                            refine lv_goto (tgt := 23) hx hb dX9_order_141 (by decide) ?_
                            exact ih23 v32 x5_23 S2 _ _ _ _ _ hQ hw hX hA0 (lv_sub hl [0, 2, 3, 4, 5, 6, 7] rfl) (by omega) (by omega)
                          · have hQ := hQ.2 hc
                            refine lv_iload hx hb dX9_order_110 (lv_at hl 2 rfl) ?_
                            refine lv_iconst (v := -1) hx hb dX9_order_112 (by decide) ?_
                            refine lv_icmp_eq (tgt := 134) hx hb dX9_order_113 (by decide) (fun hc => ?_) (fun hc => ?_)
                            · have hQ := hQ.1 hc
                              refine lv_iload hx hb dX9_order_134 (lv_at hl 1 rfl) ?_
                              refine lv_istore (lv' := [(5, .int x6_23), (7, .int (0 : Int32)), (6, .int x6_23), (4, .int x4_11), (3, .int x3_11), (0, .ref a0), (1, .int p1), (2, .int p2)]) hx hb dX9_order_136 hl (by decide) rfl (fun ls hl => ?_)
                              obtain ⟨v33, ev33⟩ : ∃ y : Int32, y = x6_23 + (1 : Int32) := ⟨_, rfl⟩
                              have hQ := hQ v33 ev33
                              refine lv_iinc (v := v33) (lv' := [(6, .int v33), (5, .int x6_23), (7, .int (0 : Int32)), (4, .int x4_11), (3, .int x3_11), (0, .ref a0), (1, .int p1), (2, .int p2)]) hx hb dX9_order_138 hl (k := 2) rfl (by rw [ev33]; rfl) (by decide) rfl (fun ls hl => ?_)
                              refine lv_goto (tgt := 23) hx hb dX9_order_141 (by decide) ?_
                              exact ih23 v33 x6_23 S2 _ _ _ _ _ hQ hw hX hA0 (lv_sub hl [0, 1, 3, 4, 5, 6, 7] rfl) (by omega) (by omega)
                            · have hQ := hQ.2 hc
                              refine lv_aload_n hx hb dX9_order_116 rfl (lv_at hl 5 rfl) ?_
                              refine g_8_2 F hw hA0 twf_RX9_13 dX9_order_117 (fun a34 hA34 => ?_)
                              refine lv_iload hx hb dX9_order_120 (lv_at hl 1 rfl) ?_
                              obtain ⟨hin, hQ⟩ := hQ
                              refine al_18 F hw hA34 hin dX9_order_122 ?_
                              refine lv_aload_n hx hb dX9_order_123 rfl (lv_at hl 5 rfl) ?_
                              refine g_8_2 F hw hA0 twf_RX9_13 dX9_order_124 (fun a35 hA35 => ?_)
                              refine lv_iload hx hb dX9_order_127 (lv_at hl 2 rfl) ?_
                              obtain ⟨hin, hQ⟩ := hQ
                              refine al_18 F hw hA35 hin dX9_order_129 ?_
                              refine lc_le (tgt := 138) F dX9_order_130 dX9_order_131 (by decide) (fun hc => ?_) (fun hc => ?_)
                              · have hQ := hQ.1 hc
                                obtain ⟨v36, ev36⟩ : ∃ y : Int32, y = x6_23 + (1 : Int32) := ⟨_, rfl⟩
                                have hQ := hQ v36 ev36
                                refine lv_iinc (v := v36) (lv' := [(6, .int v36), (7, .int (0 : Int32)), (5, .int x5_23), (4, .int x4_11), (3, .int x3_11), (0, .ref a0), (1, .int p1), (2, .int p2)]) hx hb dX9_order_138 hl (k := 1) rfl (by rw [ev36]; rfl) (by decide) rfl (fun ls hl => ?_)
                                refine lv_goto (tgt := 23) hx hb dX9_order_141 (by decide) ?_
                                exact ih23 v36 x5_23 S2 _ _ _ _ _ hQ hw hX hA0 (lv_sub hl [0, 2, 3, 4, 5, 6, 7] rfl) (by omega) (by omega)
                              · have hQ := hQ.2 hc
                                refine lv_iload hx hb dX9_order_134 (lv_at hl 1 rfl) ?_
                                refine lv_istore (lv' := [(5, .int x6_23), (7, .int (0 : Int32)), (6, .int x6_23), (4, .int x4_11), (3, .int x3_11), (0, .ref a0), (1, .int p1), (2, .int p2)]) hx hb dX9_order_136 hl (by decide) rfl (fun ls hl => ?_)
                                obtain ⟨v37, ev37⟩ : ∃ y : Int32, y = x6_23 + (1 : Int32) := ⟨_, rfl⟩
                                have hQ := hQ v37 ev37
                                refine lv_iinc (v := v37) (lv' := [(6, .int v37), (5, .int x6_23), (7, .int (0 : Int32)), (4, .int x4_11), (3, .int x3_11), (0, .ref a0), (1, .int p1), (2, .int p2)]) hx hb dX9_order_138 hl (k := 2) rfl (by rw [ev37]; rfl) (by decide) rfl (fun ls hl => ?_)
                                refine lv_goto (tgt := 23) hx hb dX9_order_141 (by decide) ?_
                                exact ih23 v37 x6_23 S2 _ _ _ _ _ hQ hw hX hA0 (lv_sub hl [0, 1, 3, 4, 5, 6, 7] rfl) (by omega) (by omega)
                    · have hQ := hQ.2 hc
                      refine lv_iload hx hb dX9_order_71 (lv_at hl 0 rfl) ?_
                      refine lv_iload_n hx hb dX9_order_73 rfl (lv_at hl 3 rfl) ?_
                      refine lv_icmp_le (tgt := 81) hx hb dX9_order_74 (by decide) (fun hc => ?_) (fun hc => ?_)
                      · have hQ := hQ.1 hc
                        refine lv_iconst (v := 0) hx hb dX9_order_81 (by decide) ?_
                        refine lv_istore (lv' := [(7, .int (0 : Int32)), (6, .int x6_23), (5, .int x5_23), (4, .int x4_11), (3, .int x3_11), (0, .ref a0), (1, .int p1), (2, .int p2)]) hx hb dX9_order_82 hl (by decide) rfl (fun ls hl => ?_)
                        refine lv_aload_n hx hb dX9_order_84 rfl (lv_at hl 5 rfl) ?_
                        refine g_8_4 F hw hA0 twf_RX9_20 dX9_order_85 (fun a38 hA38 => ?_)
                        refine lv_iload hx hb dX9_order_88 (lv_at hl 1 rfl) ?_
                        obtain ⟨hin, hQ⟩ := hQ
                        refine al_20 F hw hA38 hin dX9_order_90 ?_
                        refine lv_if_ne (tgt := 138) hx hb dX9_order_91 (by decide) (fun hc => ?_) (fun hc => ?_)
                        · have hQ := hQ.1 hc
                          obtain ⟨v39, ev39⟩ : ∃ y : Int32, y = x6_23 + (1 : Int32) := ⟨_, rfl⟩
                          have hQ := hQ v39 ev39
                          refine lv_iinc (v := v39) (lv' := [(6, .int v39), (7, .int (0 : Int32)), (5, .int x5_23), (4, .int x4_11), (3, .int x3_11), (0, .ref a0), (1, .int p1), (2, .int p2)]) hx hb dX9_order_138 hl (k := 1) rfl (by rw [ev39]; rfl) (by decide) rfl (fun ls hl => ?_)
                          refine lv_goto (tgt := 23) hx hb dX9_order_141 (by decide) ?_
                          exact ih23 v39 x5_23 S2 _ _ _ _ _ hQ hw hX hA0 (lv_sub hl [0, 2, 3, 4, 5, 6, 7] rfl) (by omega) (by omega)
                        · have hQ := hQ.2 hc
                          refine lv_aload_n hx hb dX9_order_94 rfl (lv_at hl 5 rfl) ?_
                          refine g_8_1 F hw hA0 twf_RX9_7 dX9_order_95 (fun a40 hA40 => ?_)
                          refine lv_iload hx hb dX9_order_98 (lv_at hl 1 rfl) ?_
                          obtain ⟨hin, hQ⟩ := hQ
                          refine al_17 F hw hA40 hin dX9_order_100 ?_
                          refine lv_iload_n hx hb dX9_order_101 rfl (lv_at hl 6 rfl) ?_
                          refine lv_icmp_ne (tgt := 138) hx hb dX9_order_102 (by decide) (fun hc => ?_) (fun hc => ?_)
                          · have hQ := hQ.1 hc
                            obtain ⟨v41, ev41⟩ : ∃ y : Int32, y = x6_23 + (1 : Int32) := ⟨_, rfl⟩
                            have hQ := hQ v41 ev41
                            refine lv_iinc (v := v41) (lv' := [(6, .int v41), (7, .int (0 : Int32)), (5, .int x5_23), (4, .int x4_11), (3, .int x3_11), (0, .ref a0), (1, .int p1), (2, .int p2)]) hx hb dX9_order_138 hl (k := 1) rfl (by rw [ev41]; rfl) (by decide) rfl (fun ls hl => ?_)
                            refine lv_goto (tgt := 23) hx hb dX9_order_141 (by decide) ?_
                            exact ih23 v41 x5_23 S2 _ _ _ _ _ hQ hw hX hA0 (lv_sub hl [0, 2, 3, 4, 5, 6, 7] rfl) (by omega) (by omega)
                          · have hQ := hQ.2 hc
                            refine lv_iload hx hb dX9_order_105 (lv_at hl 0 rfl) ?_
                            refine lv_if_eq (tgt := 138) hx hb dX9_order_107 (by decide) (fun hc => ?_) (fun hc => ?_)
                            · have hQ := hQ.1 hc
                              obtain ⟨v42, ev42⟩ : ∃ y : Int32, y = x6_23 + (1 : Int32) := ⟨_, rfl⟩
                              have hQ := hQ v42 ev42
                              refine lv_iinc (v := v42) (lv' := [(6, .int v42), (7, .int (0 : Int32)), (5, .int x5_23), (4, .int x4_11), (3, .int x3_11), (0, .ref a0), (1, .int p1), (2, .int p2)]) hx hb dX9_order_138 hl (k := 1) rfl (by rw [ev42]; rfl) (by decide) rfl (fun ls hl => ?_)
                              refine lv_goto (tgt := 23) hx hb dX9_order_141 (by decide) ?_
                              exact ih23 v42 x5_23 S2 _ _ _ _ _ hQ hw hX hA0 (lv_sub hl [0, 2, 3, 4, 5, 6, 7] rfl) (by omega) (by omega)
                            · have hQ := hQ.2 hc
                              refine lv_iload hx hb dX9_order_110 (lv_at hl 2 rfl) ?_
                              refine lv_iconst (v := -1) hx hb dX9_order_112 (by decide) ?_
                              refine lv_icmp_eq (tgt := 134) hx hb dX9_order_113 (by decide) (fun hc => ?_) (fun hc => ?_)
                              · have hQ := hQ.1 hc
                                refine lv_iload hx hb dX9_order_134 (lv_at hl 1 rfl) ?_
                                refine lv_istore (lv' := [(5, .int x6_23), (7, .int (0 : Int32)), (6, .int x6_23), (4, .int x4_11), (3, .int x3_11), (0, .ref a0), (1, .int p1), (2, .int p2)]) hx hb dX9_order_136 hl (by decide) rfl (fun ls hl => ?_)
                                obtain ⟨v43, ev43⟩ : ∃ y : Int32, y = x6_23 + (1 : Int32) := ⟨_, rfl⟩
                                have hQ := hQ v43 ev43
                                refine lv_iinc (v := v43) (lv' := [(6, .int v43), (5, .int x6_23), (7, .int (0 : Int32)), (4, .int x4_11), (3, .int x3_11), (0, .ref a0), (1, .int p1), (2, .int p2)]) hx hb dX9_order_138 hl (k := 2) rfl (by rw [ev43]; rfl) (by decide) rfl (fun ls hl => ?_)
                                refine lv_goto (tgt := 23) hx hb dX9_order_141 (by decide) ?_
                                exact ih23 v43 x6_23 S2 _ _ _ _ _ hQ hw hX hA0 (lv_sub hl [0, 1, 3, 4, 5, 6, 7] rfl) (by omega) (by omega)
                              · have hQ := hQ.2 hc
                                refine lv_aload_n hx hb dX9_order_116 rfl (lv_at hl 5 rfl) ?_
                                refine g_8_2 F hw hA0 twf_RX9_13 dX9_order_117 (fun a44 hA44 => ?_)
                                refine lv_iload hx hb dX9_order_120 (lv_at hl 1 rfl) ?_
                                obtain ⟨hin, hQ⟩ := hQ
                                refine al_18 F hw hA44 hin dX9_order_122 ?_
                                refine lv_aload_n hx hb dX9_order_123 rfl (lv_at hl 5 rfl) ?_
                                refine g_8_2 F hw hA0 twf_RX9_13 dX9_order_124 (fun a45 hA45 => ?_)
                                refine lv_iload hx hb dX9_order_127 (lv_at hl 2 rfl) ?_
                                obtain ⟨hin, hQ⟩ := hQ
                                refine al_18 F hw hA45 hin dX9_order_129 ?_
                                refine lc_le (tgt := 138) F dX9_order_130 dX9_order_131 (by decide) (fun hc => ?_) (fun hc => ?_)
                                · have hQ := hQ.1 hc
                                  obtain ⟨v46, ev46⟩ : ∃ y : Int32, y = x6_23 + (1 : Int32) := ⟨_, rfl⟩
                                  have hQ := hQ v46 ev46
                                  refine lv_iinc (v := v46) (lv' := [(6, .int v46), (7, .int (0 : Int32)), (5, .int x5_23), (4, .int x4_11), (3, .int x3_11), (0, .ref a0), (1, .int p1), (2, .int p2)]) hx hb dX9_order_138 hl (k := 1) rfl (by rw [ev46]; rfl) (by decide) rfl (fun ls hl => ?_)
                                  refine lv_goto (tgt := 23) hx hb dX9_order_141 (by decide) ?_
                                  exact ih23 v46 x5_23 S2 _ _ _ _ _ hQ hw hX hA0 (lv_sub hl [0, 2, 3, 4, 5, 6, 7] rfl) (by omega) (by omega)
                                · have hQ := hQ.2 hc
                                  refine lv_iload hx hb dX9_order_134 (lv_at hl 1 rfl) ?_
                                  refine lv_istore (lv' := [(5, .int x6_23), (7, .int (0 : Int32)), (6, .int x6_23), (4, .int x4_11), (3, .int x3_11), (0, .ref a0), (1, .int p1), (2, .int p2)]) hx hb dX9_order_136 hl (by decide) rfl (fun ls hl => ?_)
                                  obtain ⟨v47, ev47⟩ : ∃ y : Int32, y = x6_23 + (1 : Int32) := ⟨_, rfl⟩
                                  have hQ := hQ v47 ev47
                                  refine lv_iinc (v := v47) (lv' := [(6, .int v47), (5, .int x6_23), (7, .int (0 : Int32)), (4, .int x4_11), (3, .int x3_11), (0, .ref a0), (1, .int p1), (2, .int p2)]) hx hb dX9_order_138 hl (k := 2) rfl (by rw [ev47]; rfl) (by decide) rfl (fun ls hl => ?_)
                                  refine lv_goto (tgt := 23) hx hb dX9_order_141 (by decide) ?_
                                  exact ih23 v47 x6_23 S2 _ _ _ _ _ hQ hw hX hA0 (lv_sub hl [0, 1, 3, 4, 5, 6, 7] rfl) (by omega) (by omega)
                      · have hQ := hQ.2 hc
                        refine lv_iconst (v := 1) hx hb dX9_order_77 (by decide) ?_
                        refine lv_goto (tgt := 82) hx hb dX9_order_78 (by decide) ?_
                        refine lv_istore (lv' := [(7, .int (1 : Int32)), (6, .int x6_23), (5, .int x5_23), (4, .int x4_11), (3, .int x3_11), (0, .ref a0), (1, .int p1), (2, .int p2)]) hx hb dX9_order_82 hl (by decide) rfl (fun ls hl => ?_)
                        refine lv_aload_n hx hb dX9_order_84 rfl (lv_at hl 5 rfl) ?_
                        refine g_8_4 F hw hA0 twf_RX9_20 dX9_order_85 (fun a48 hA48 => ?_)
                        refine lv_iload hx hb dX9_order_88 (lv_at hl 1 rfl) ?_
                        obtain ⟨hin, hQ⟩ := hQ
                        refine al_20 F hw hA48 hin dX9_order_90 ?_
                        refine lv_if_ne (tgt := 138) hx hb dX9_order_91 (by decide) (fun hc => ?_) (fun hc => ?_)
                        · have hQ := hQ.1 hc
                          obtain ⟨v49, ev49⟩ : ∃ y : Int32, y = x6_23 + (1 : Int32) := ⟨_, rfl⟩
                          have hQ := hQ v49 ev49
                          refine lv_iinc (v := v49) (lv' := [(6, .int v49), (7, .int (1 : Int32)), (5, .int x5_23), (4, .int x4_11), (3, .int x3_11), (0, .ref a0), (1, .int p1), (2, .int p2)]) hx hb dX9_order_138 hl (k := 1) rfl (by rw [ev49]; rfl) (by decide) rfl (fun ls hl => ?_)
                          refine lv_goto (tgt := 23) hx hb dX9_order_141 (by decide) ?_
                          exact ih23 v49 x5_23 S2 _ _ _ _ _ hQ hw hX hA0 (lv_sub hl [0, 2, 3, 4, 5, 6, 7] rfl) (by omega) (by omega)
                        · have hQ := hQ.2 hc
                          refine lv_aload_n hx hb dX9_order_94 rfl (lv_at hl 5 rfl) ?_
                          refine g_8_1 F hw hA0 twf_RX9_7 dX9_order_95 (fun a50 hA50 => ?_)
                          refine lv_iload hx hb dX9_order_98 (lv_at hl 1 rfl) ?_
                          obtain ⟨hin, hQ⟩ := hQ
                          refine al_17 F hw hA50 hin dX9_order_100 ?_
                          refine lv_iload_n hx hb dX9_order_101 rfl (lv_at hl 6 rfl) ?_
                          refine lv_icmp_ne (tgt := 138) hx hb dX9_order_102 (by decide) (fun hc => ?_) (fun hc => ?_)
                          · have hQ := hQ.1 hc
                            obtain ⟨v51, ev51⟩ : ∃ y : Int32, y = x6_23 + (1 : Int32) := ⟨_, rfl⟩
                            have hQ := hQ v51 ev51
                            refine lv_iinc (v := v51) (lv' := [(6, .int v51), (7, .int (1 : Int32)), (5, .int x5_23), (4, .int x4_11), (3, .int x3_11), (0, .ref a0), (1, .int p1), (2, .int p2)]) hx hb dX9_order_138 hl (k := 1) rfl (by rw [ev51]; rfl) (by decide) rfl (fun ls hl => ?_)
                            refine lv_goto (tgt := 23) hx hb dX9_order_141 (by decide) ?_
                            exact ih23 v51 x5_23 S2 _ _ _ _ _ hQ hw hX hA0 (lv_sub hl [0, 2, 3, 4, 5, 6, 7] rfl) (by omega) (by omega)
                          · have hQ := hQ.2 hc
                            refine lv_iload hx hb dX9_order_105 (lv_at hl 0 rfl) ?_
                            refine lv_if_eq (tgt := 138) hx hb dX9_order_107 (by decide) (fun hc => ?_) (fun hc => ?_)
                            · have hQ := hQ.1 hc
                              obtain ⟨v52, ev52⟩ : ∃ y : Int32, y = x6_23 + (1 : Int32) := ⟨_, rfl⟩
                              have hQ := hQ v52 ev52
                              refine lv_iinc (v := v52) (lv' := [(6, .int v52), (7, .int (1 : Int32)), (5, .int x5_23), (4, .int x4_11), (3, .int x3_11), (0, .ref a0), (1, .int p1), (2, .int p2)]) hx hb dX9_order_138 hl (k := 1) rfl (by rw [ev52]; rfl) (by decide) rfl (fun ls hl => ?_)
                              refine lv_goto (tgt := 23) hx hb dX9_order_141 (by decide) ?_
                              exact ih23 v52 x5_23 S2 _ _ _ _ _ hQ hw hX hA0 (lv_sub hl [0, 2, 3, 4, 5, 6, 7] rfl) (by omega) (by omega)
                            · have hQ := hQ.2 hc
                              refine lv_iload hx hb dX9_order_110 (lv_at hl 2 rfl) ?_
                              refine lv_iconst (v := -1) hx hb dX9_order_112 (by decide) ?_
                              refine lv_icmp_eq (tgt := 134) hx hb dX9_order_113 (by decide) (fun hc => ?_) (fun hc => ?_)
                              · have hQ := hQ.1 hc
                                refine lv_iload hx hb dX9_order_134 (lv_at hl 1 rfl) ?_
                                refine lv_istore (lv' := [(5, .int x6_23), (7, .int (1 : Int32)), (6, .int x6_23), (4, .int x4_11), (3, .int x3_11), (0, .ref a0), (1, .int p1), (2, .int p2)]) hx hb dX9_order_136 hl (by decide) rfl (fun ls hl => ?_)
                                obtain ⟨v53, ev53⟩ : ∃ y : Int32, y = x6_23 + (1 : Int32) := ⟨_, rfl⟩
                                have hQ := hQ v53 ev53
                                refine lv_iinc (v := v53) (lv' := [(6, .int v53), (5, .int x6_23), (7, .int (1 : Int32)), (4, .int x4_11), (3, .int x3_11), (0, .ref a0), (1, .int p1), (2, .int p2)]) hx hb dX9_order_138 hl (k := 2) rfl (by rw [ev53]; rfl) (by decide) rfl (fun ls hl => ?_)
                                refine lv_goto (tgt := 23) hx hb dX9_order_141 (by decide) ?_
                                exact ih23 v53 x6_23 S2 _ _ _ _ _ hQ hw hX hA0 (lv_sub hl [0, 1, 3, 4, 5, 6, 7] rfl) (by omega) (by omega)
                              · have hQ := hQ.2 hc
                                refine lv_aload_n hx hb dX9_order_116 rfl (lv_at hl 5 rfl) ?_
                                refine g_8_2 F hw hA0 twf_RX9_13 dX9_order_117 (fun a54 hA54 => ?_)
                                refine lv_iload hx hb dX9_order_120 (lv_at hl 1 rfl) ?_
                                obtain ⟨hin, hQ⟩ := hQ
                                refine al_18 F hw hA54 hin dX9_order_122 ?_
                                refine lv_aload_n hx hb dX9_order_123 rfl (lv_at hl 5 rfl) ?_
                                refine g_8_2 F hw hA0 twf_RX9_13 dX9_order_124 (fun a55 hA55 => ?_)
                                refine lv_iload hx hb dX9_order_127 (lv_at hl 2 rfl) ?_
                                obtain ⟨hin, hQ⟩ := hQ
                                refine al_18 F hw hA55 hin dX9_order_129 ?_
                                refine lc_le (tgt := 138) F dX9_order_130 dX9_order_131 (by decide) (fun hc => ?_) (fun hc => ?_)
                                · have hQ := hQ.1 hc
                                  obtain ⟨v56, ev56⟩ : ∃ y : Int32, y = x6_23 + (1 : Int32) := ⟨_, rfl⟩
                                  have hQ := hQ v56 ev56
                                  refine lv_iinc (v := v56) (lv' := [(6, .int v56), (7, .int (1 : Int32)), (5, .int x5_23), (4, .int x4_11), (3, .int x3_11), (0, .ref a0), (1, .int p1), (2, .int p2)]) hx hb dX9_order_138 hl (k := 1) rfl (by rw [ev56]; rfl) (by decide) rfl (fun ls hl => ?_)
                                  refine lv_goto (tgt := 23) hx hb dX9_order_141 (by decide) ?_
                                  exact ih23 v56 x5_23 S2 _ _ _ _ _ hQ hw hX hA0 (lv_sub hl [0, 2, 3, 4, 5, 6, 7] rfl) (by omega) (by omega)
                                · have hQ := hQ.2 hc
                                  refine lv_iload hx hb dX9_order_134 (lv_at hl 1 rfl) ?_
                                  refine lv_istore (lv' := [(5, .int x6_23), (7, .int (1 : Int32)), (6, .int x6_23), (4, .int x4_11), (3, .int x3_11), (0, .ref a0), (1, .int p1), (2, .int p2)]) hx hb dX9_order_136 hl (by decide) rfl (fun ls hl => ?_)
                                  obtain ⟨v57, ev57⟩ : ∃ y : Int32, y = x6_23 + (1 : Int32) := ⟨_, rfl⟩
                                  have hQ := hQ v57 ev57
                                  refine lv_iinc (v := v57) (lv' := [(6, .int v57), (5, .int x6_23), (7, .int (1 : Int32)), (4, .int x4_11), (3, .int x3_11), (0, .ref a0), (1, .int p1), (2, .int p2)]) hx hb dX9_order_138 hl (k := 2) rfl (by rw [ev57]; rfl) (by decide) rfl (fun ls hl => ?_)
                                  refine lv_goto (tgt := 23) hx hb dX9_order_141 (by decide) ?_
                                  exact ih23 v57 x6_23 S2 _ _ _ _ _ hQ hw hX hA0 (lv_sub hl [0, 1, 3, 4, 5, 6, 7] rfl) (by omega) (by omega)
          obtain ⟨n, hQ⟩ := hQ
          exact hloop23 n (0 : Int32) (-1 : Int32) S1 _ _ _ _ _ hQ hw hX hA0 (lv_sub hl [0, 1, 2, 3, 4, 5, 6] rfl) (by omega) (by omega)
    obtain ⟨n, hQ⟩ := hQ
    exact hloop11 n (0 : Int32) (-1 : Int32) S0 _ _ _ _ _ hQ hw hX hA0 (lv_sub hl [0, 1, 2, 3, 4] rfl) (by omega) (by omega)
  · have hQ := hQ.2 hc
    refine lv_iconst (v := -1) hx hb dX9_order_4 (by decide) ?_
    exact rt_i F hr hlk hw hX hQ (show 0 ≤ 0 from by omega) (show 0 ≤ 0 from by omega) dX9_order_5
theorem k_X9_order {p : Program} {l : Launch} {e : Env} {R : Room} {s : State} {m : MethodId} {args : Array Value} {below : List Frame} {meth : Method} {c : Code} {H : Heap} {locs : List Loc} {cells slots : Nat} {Q : State → Prop} {cc : ByteArray} {pc nL : Nat} {ls : Array Slot} {rest : List Value} {G : GT} {S : St} {own : String} {p1 : Int32} {p2 : Int32} {post : Int32 → St → Prop} {lv : List (Nat × Value)} {idx : Nat} (F : CX p m c cc nL s args own) (hw : WW G S s H locs) (hl : lv_has ls nL lv) {a0 : Nat} (hA0 : AtO S 8 0 a0) (hQ : wp_X9_order p1 p2 S post) (h1 : Cond.methodLink own idx yX9_order ∈ wT) (hR1 : 0 + 1 ≤ R.frames) (hR2 : 8 + (8 + 11) + 0 ≤ R.locals) (hrest : (rest.map fun v => v.category).sum ≤ 8) (hdg : decode cc pc = .ok (.invokevirtual idx, 3)) (hf1 : cells + 0 ≤ R.cells) (hf2 : slots + 0 ≤ R.slots)
    (kk : ∀ (r : Int32) (S1 : St) (H1 : Heap) (locs1 : List Loc), post r S1 → WW G S1 s H1 locs1 → Ext S S1 → W p l e R s m args below meth c H1 locs1 (cells + 0) (slots + 0) Q (F0 m (pc + 3) ls (.int r :: rest))) : W p l e R s m args below meth c H locs cells slots Q (F0 m pc ls (.int p2 :: .int p1 :: .ref a0 :: rest)) :=
  cl_i (rn_V (n := 2) (As := [.int p1, .int p2]) (q := (RX9, TX9, 36)) F hw hl (m_X9_order l G p1 p2 S a0 hA0 post hQ) 8 (by decide) (by decide) hA0 rfl rfl h1 twi_yX9_order tws_yX9_order twn_RX9 two_yX9_order rfl rfl ⟨rfl, by decide, by decide, by decide +kernel⟩ rfl ⟨hR1, hR2⟩ rfl hrest hdg ⟨hf1, hf2⟩) hw kk

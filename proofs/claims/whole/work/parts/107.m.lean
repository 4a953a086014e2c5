-- X6_addUpRests
def bd_X6_addUpRests_8 (post : St → Prop) (K8 : Int32 → Int64 → St → Prop) (x3_8 : Int32) (x1_8 : Int64) (S2 : St) : Prop :=
  (x3_8 < 0 →
  post S2) ∧
  (¬ x3_8 < 0 →
  ((gi S2 6 0 3) ≤ x3_8 →
  ((19 : Int32) ≤ x3_8 →
  ∀ v4 : Int32, v4 = x3_8 + (-1 : Int32) →
  K8 v4 x1_8 S2) ∧
  (¬ (19 : Int32) ≤ x3_8 →
  vp_in x3_8 19 ∧
  ∀ S6 : St, S6 = sj S2 15 0 x3_8.toNatClampNeg x1_8 →
  ∀ v7 : Int32, v7 = x3_8 + (-1 : Int32) →
  K8 v7 x1_8 S6)) ∧
  (¬ (gi S2 6 0 3) ≤ x3_8 →
  ((18 : Int32) ≤ x3_8 →
  ((19 : Int32) ≤ x3_8 →
  ∀ v10 : Int32, v10 = x3_8 + (-1 : Int32) →
  K8 v10 x1_8 S2) ∧
  (¬ (19 : Int32) ≤ x3_8 →
  vp_in x3_8 19 ∧
  ∀ S12 : St, S12 = sj S2 15 0 x3_8.toNatClampNeg x1_8 →
  ∀ v13 : Int32, v13 = x3_8 + (-1 : Int32) →
  K8 v13 x1_8 S12)) ∧
  (¬ (18 : Int32) ≤ x3_8 →
  vp_in x3_8 18 ∧
  (gr S2 14 0 x3_8.toNatClampNeg = none →
  ((19 : Int32) ≤ x3_8 →
  ∀ v17 : Int32, v17 = x3_8 + (-1 : Int32) →
  K8 v17 x1_8 S2) ∧
  (¬ (19 : Int32) ≤ x3_8 →
  vp_in x3_8 19 ∧
  ∀ S19 : St, S19 = sj S2 15 0 x3_8.toNatClampNeg x1_8 →
  ∀ v20 : Int32, v20 = x3_8 + (-1 : Int32) →
  K8 v20 x1_8 S19)) ∧
  (∀ j15 : Nat, gr S2 14 0 x3_8.toNatClampNeg = some j15 →
  vp_in x3_8 18 ∧
  (gr S2 14 0 x3_8.toNatClampNeg = none →
  False) ∧
  (∀ j22 : Nat, gr S2 14 0 x3_8.toNatClampNeg = some j22 →
  ∀ v23 : Int64, v23 = x1_8 + (gj S2 0 j22 2) →
  ((19 : Int32) ≤ x3_8 →
  ∀ v25 : Int32, v25 = x3_8 + (-1 : Int32) →
  K8 v25 v23 S2) ∧
  (¬ (19 : Int32) ≤ x3_8 →
  vp_in x3_8 19 ∧
  ∀ S27 : St, S27 = sj S2 15 0 x3_8.toNatClampNeg v23 →
  ∀ v28 : Int32, v28 = x3_8 + (-1 : Int32) →
  K8 v28 v23 S27))))))
def lp_X6_addUpRests_8 (post : St → Prop) : Nat → Int32 → Int64 → St → Prop
  | 0, _, _, _ => False
  | n + 1, x3_8, x1_8, S2 => bd_X6_addUpRests_8 post (fun x3_8 x1_8 S2 => lp_X6_addUpRests_8 post n x3_8 x1_8 S2) x3_8 x1_8 S2
def wp_X6_addUpRests  (S0 : St) (post : St → Prop) : Prop :=
  ∃ n : Nat, lp_X6_addUpRests_8 post n (18 : Int32) (0 : Int64) S0
set_option maxRecDepth 100000 in
set_option maxHeartbeats 4000000 in
theorem m_X6_addUpRests (l : Launch) (G : GT)  (S0 : St) (a0 : Nat) (hA0 : AtO S0 6 0 a0) (post : St → Prop) (hQ : wp_X6_addUpRests S0 post) : Met l yX6_addUpRests (wM yX6_addUpRests cX6_addUpRests 4 none) ({ frames := 0, cells := 0, slots := 0, locals := 0 } : Room) (PC G S0 [.ref a0]) (QV G S0 post) 0 0 (QA G) := by
  refine mt_start RX6 (by decide) rfl (Nat.le_of_ble_eq_true rfl) ?_
  intro p e s m args below meth c ls F hr hlk hnm hw hl
  have hx := F.1
  have hb := F.2.1
  have hown := F.2.2.2.1
  have hts := F.2.2.2.2
  have hX : Ext S0 S0 := Ext.rf
  have hsz0 := hw.1.1.1
  have hl : lv_has ls 4 [(0, .ref a0)] := hl
  unfold wp_X6_addUpRests at hQ
  refine lv_lconst (v := 0) hx hb dX6_addUpRests_0 (by decide) ?_
  refine lv_lstore_n (lv' := [(1, .long (0 : Int64)), (0, .ref a0)]) hx hb dX6_addUpRests_1 rfl hl (by decide) rfl (fun ls hl => ?_)
  refine lv_aload_n hx hb dX6_addUpRests_2 rfl (lv_at hl 1 rfl) ?_
  refine g_6_0 F hw hA0 twf_RX6_11 dX6_addUpRests_3 (fun a1 hA1 => ?_)
  refine ln_14 F hw hA1 dX6_addUpRests_6 ?_
  refine lv_istore_n (lv' := [(3, .int (18 : Int32)), (1, .long (0 : Int64)), (0, .ref a0)]) hx hb dX6_addUpRests_7 rfl hl (by decide) rfl (fun ls hl => ?_)
  have hloop8 : ∀ (n8 : Nat) (x3_8 : Int32) (x1_8 : Int64) (S2 : St) (H : Heap) (locs : List Loc) (ls : Array Slot) (cl8 sl8 : Nat), lp_X6_addUpRests_8 post n8 x3_8 x1_8 S2 → WW G S2 s H locs → Ext S0 S2 → AtO S2 6 0 a0 → lv_has ls 4 [(3, .int x3_8), (1, .long x1_8), (0, .ref a0)] → cl8 ≤ 0 + 0 → sl8 ≤ 0 + 0 → W p l e ({ frames := 0, cells := 0, slots := 0, locals := 0 } : Room) s m args below meth c H locs cl8 sl8 (MQ below (QV G S0 post) args s 0 0 (QA G)) (F0 m 8 ls []) := by
    intro n8
    induction n8 with
    | zero => intro x3_8 x1_8 S2 H locs ls cl sl hQ; exact False.elim hQ
    | succ n8 ih8 =>
      intro x3_8 x1_8 S2 H locs ls cl8 sl8 hQ hw hX hA0 hl hcl8 hsl8
      have hQ : bd_X6_addUpRests_8 post (fun x3_8 x1_8 S2 => lp_X6_addUpRests_8 post n8 x3_8 x1_8 S2) x3_8 x1_8 S2 := hQ
      unfold bd_X6_addUpRests_8 at hQ
      refine lv_iload_n hx hb dX6_addUpRests_8 rfl (lv_at hl 0 rfl) ?_
      refine lv_if_lt (tgt := 72) hx hb dX6_addUpRests_9 (by decide) (fun hc => ?_) (fun hc => ?_)
      · have hQ := hQ.1 hc
        exact rt_v F hr hlk hw hX hQ (show cl8 ≤ 0 from by omega) (show sl8 ≤ 0 from by omega) dX6_addUpRests_72
      · have hQ := hQ.2 hc
        refine lv_iload_n hx hb dX6_addUpRests_12 rfl (lv_at hl 0 rfl) ?_
        refine lv_aload_n hx hb dX6_addUpRests_13 rfl (lv_at hl 2 rfl) ?_
        refine g_6_3 F hw hA0 twf_RX6_24 dX6_addUpRests_14 ?_
        refine lv_icmp_ge (tgt := 50) hx hb dX6_addUpRests_17 (by decide) (fun hc => ?_) (fun hc => ?_)
        · have hQ := hQ.1 hc
          refine lv_iload_n hx hb dX6_addUpRests_50 rfl (lv_at hl 0 rfl) ?_
          refine lv_aload_n hx hb dX6_addUpRests_51 rfl (lv_at hl 2 rfl) ?_
          refine g_6_1 F hw hA0 twf_RX6_17 dX6_addUpRests_52 (fun a3 hA3 => ?_)
          refine ln_15 F hw hA3 dX6_addUpRests_55 ?_
          refine lv_icmp_ge (tgt := 66) hx hb dX6_addUpRests_56 (by decide) (fun hc => ?_) (fun hc => ?_)
          · have hQ := hQ.1 hc
            obtain ⟨v4, ev4⟩ : ∃ y : Int32, y = x3_8 + (-1 : Int32) := ⟨_, rfl⟩
            have hQ := hQ v4 ev4
            refine lv_iinc (v := v4) (lv' := [(3, .int v4), (1, .long x1_8), (0, .ref a0)]) hx hb dX6_addUpRests_66 hl (k := 0) rfl (by rw [ev4]; rfl) (by decide) rfl (fun ls hl => ?_)
            refine lv_goto (tgt := 8) hx hb dX6_addUpRests_69 (by decide) ?_
            exact ih8 v4 x1_8 S2 _ _ _ _ _ hQ hw hX hA0 (lv_sub hl [0, 1, 2] rfl) (by omega) (by omega)
          · have hQ := hQ.2 hc
            refine lv_aload_n hx hb dX6_addUpRests_59 rfl (lv_at hl 2 rfl) ?_
            refine g_6_1 F hw hA0 twf_RX6_17 dX6_addUpRests_60 (fun a5 hA5 => ?_)
            refine lv_iload_n hx hb dX6_addUpRests_63 rfl (lv_at hl 0 rfl) ?_
            refine lv_lload_n hx hb dX6_addUpRests_64 rfl (lv_at hl 1 rfl) ?_
            obtain ⟨hin, hQ⟩ := hQ
            refine as_15 F hw hA5 hin dX6_addUpRests_65 (fun S6 H locs eS6 hw hx1 => ?_)
            have hQ := hQ S6 eS6
            have hX := hX.trans hx1
            have hA0 := hA0.ext hx1
            obtain ⟨v7, ev7⟩ : ∃ y : Int32, y = x3_8 + (-1 : Int32) := ⟨_, rfl⟩
            have hQ := hQ v7 ev7
            refine lv_iinc (v := v7) (lv' := [(3, .int v7), (1, .long x1_8), (0, .ref a0)]) hx hb dX6_addUpRests_66 hl (k := 0) rfl (by rw [ev7]; rfl) (by decide) rfl (fun ls hl => ?_)
            refine lv_goto (tgt := 8) hx hb dX6_addUpRests_69 (by decide) ?_
            exact ih8 v7 x1_8 S6 _ _ _ _ _ hQ hw hX hA0 (lv_sub hl [0, 1, 2] rfl) (by omega) (by omega)
        · have hQ := hQ.2 hc
          refine lv_iload_n hx hb dX6_addUpRests_20 rfl (lv_at hl 0 rfl) ?_
          refine lv_aload_n hx hb dX6_addUpRests_21 rfl (lv_at hl 2 rfl) ?_
          refine g_6_0 F hw hA0 twf_RX6_11 dX6_addUpRests_22 (fun a8 hA8 => ?_)
          refine ln_14 F hw hA8 dX6_addUpRests_25 ?_
          refine lv_icmp_ge (tgt := 50) hx hb dX6_addUpRests_26 (by decide) (fun hc => ?_) (fun hc => ?_)
          · have hQ := hQ.1 hc
            refine lv_iload_n hx hb dX6_addUpRests_50 rfl (lv_at hl 0 rfl) ?_
            refine lv_aload_n hx hb dX6_addUpRests_51 rfl (lv_at hl 2 rfl) ?_
            refine g_6_1 F hw hA0 twf_RX6_17 dX6_addUpRests_52 (fun a9 hA9 => ?_)
            refine ln_15 F hw hA9 dX6_addUpRests_55 ?_
            refine lv_icmp_ge (tgt := 66) hx hb dX6_addUpRests_56 (by decide) (fun hc => ?_) (fun hc => ?_)
            · have hQ := hQ.1 hc
              obtain ⟨v10, ev10⟩ : ∃ y : Int32, y = x3_8 + (-1 : Int32) := ⟨_, rfl⟩
              have hQ := hQ v10 ev10
              refine lv_iinc (v := v10) (lv' := [(3, .int v10), (1, .long x1_8), (0, .ref a0)]) hx hb dX6_addUpRests_66 hl (k := 0) rfl (by rw [ev10]; rfl) (by decide) rfl (fun ls hl => ?_)
              refine lv_goto (tgt := 8) hx hb dX6_addUpRests_69 (by decide) ?_
              exact ih8 v10 x1_8 S2 _ _ _ _ _ hQ hw hX hA0 (lv_sub hl [0, 1, 2] rfl) (by omega) (by omega)
            · have hQ := hQ.2 hc
              refine lv_aload_n hx hb dX6_addUpRests_59 rfl (lv_at hl 2 rfl) ?_
              refine g_6_1 F hw hA0 twf_RX6_17 dX6_addUpRests_60 (fun a11 hA11 => ?_)
              refine lv_iload_n hx hb dX6_addUpRests_63 rfl (lv_at hl 0 rfl) ?_
              refine lv_lload_n hx hb dX6_addUpRests_64 rfl (lv_at hl 1 rfl) ?_
              obtain ⟨hin, hQ⟩ := hQ
              refine as_15 F hw hA11 hin dX6_addUpRests_65 (fun S12 H locs eS12 hw hx1 => ?_)
              have hQ := hQ S12 eS12
              have hX := hX.trans hx1
              have hA0 := hA0.ext hx1
              obtain ⟨v13, ev13⟩ : ∃ y : Int32, y = x3_8 + (-1 : Int32) := ⟨_, rfl⟩
              have hQ := hQ v13 ev13
              refine lv_iinc (v := v13) (lv' := [(3, .int v13), (1, .long x1_8), (0, .ref a0)]) hx hb dX6_addUpRests_66 hl (k := 0) rfl (by rw [ev13]; rfl) (by decide) rfl (fun ls hl => ?_)
              refine lv_goto (tgt := 8) hx hb dX6_addUpRests_69 (by decide) ?_
              exact ih8 v13 x1_8 S12 _ _ _ _ _ hQ hw hX hA0 (lv_sub hl [0, 1, 2] rfl) (by omega) (by omega)
          · have hQ := hQ.2 hc
            refine lv_aload_n hx hb dX6_addUpRests_29 rfl (lv_at hl 2 rfl) ?_
            refine g_6_0 F hw hA0 twf_RX6_11 dX6_addUpRests_30 (fun a14 hA14 => ?_)
            refine lv_iload_n hx hb dX6_addUpRests_33 rfl (lv_at hl 0 rfl) ?_
            obtain ⟨hin, hQ⟩ := hQ
            refine al_14 F hw hA14 hin dX6_addUpRests_34 (fun hrf => ?_) (fun j15 a15 hrf hA15 => ?_)
            · have hQ := hQ.1 hrf
              refine lv_ifnullN (tgt := 50) hx hb dX6_addUpRests_35 (by decide) ?_
              refine lv_iload_n hx hb dX6_addUpRests_50 rfl (lv_at hl 0 rfl) ?_
              refine lv_aload_n hx hb dX6_addUpRests_51 rfl (lv_at hl 2 rfl) ?_
              refine g_6_1 F hw hA0 twf_RX6_17 dX6_addUpRests_52 (fun a16 hA16 => ?_)
              refine ln_15 F hw hA16 dX6_addUpRests_55 ?_
              refine lv_icmp_ge (tgt := 66) hx hb dX6_addUpRests_56 (by decide) (fun hc => ?_) (fun hc => ?_)
              · have hQ := hQ.1 hc
                obtain ⟨v17, ev17⟩ : ∃ y : Int32, y = x3_8 + (-1 : Int32) := ⟨_, rfl⟩
                have hQ := hQ v17 ev17
                refine lv_iinc (v := v17) (lv' := [(3, .int v17), (1, .long x1_8), (0, .ref a0)]) hx hb dX6_addUpRests_66 hl (k := 0) rfl (by rw [ev17]; rfl) (by decide) rfl (fun ls hl => ?_)
                refine lv_goto (tgt := 8) hx hb dX6_addUpRests_69 (by decide) ?_
                exact ih8 v17 x1_8 S2 _ _ _ _ _ hQ hw hX hA0 (lv_sub hl [0, 1, 2] rfl) (by omega) (by omega)
              · have hQ := hQ.2 hc
                refine lv_aload_n hx hb dX6_addUpRests_59 rfl (lv_at hl 2 rfl) ?_
                refine g_6_1 F hw hA0 twf_RX6_17 dX6_addUpRests_60 (fun a18 hA18 => ?_)
                refine lv_iload_n hx hb dX6_addUpRests_63 rfl (lv_at hl 0 rfl) ?_
                refine lv_lload_n hx hb dX6_addUpRests_64 rfl (lv_at hl 1 rfl) ?_
                obtain ⟨hin, hQ⟩ := hQ
                refine as_15 F hw hA18 hin dX6_addUpRests_65 (fun S19 H locs eS19 hw hx1 => ?_)
                have hQ := hQ S19 eS19
                have hX := hX.trans hx1
                have hA0 := hA0.ext hx1
                obtain ⟨v20, ev20⟩ : ∃ y : Int32, y = x3_8 + (-1 : Int32) := ⟨_, rfl⟩
                have hQ := hQ v20 ev20
                refine lv_iinc (v := v20) (lv' := [(3, .int v20), (1, .long x1_8), (0, .ref a0)]) hx hb dX6_addUpRests_66 hl (k := 0) rfl (by rw [ev20]; rfl) (by decide) rfl (fun ls hl => ?_)
                refine lv_goto (tgt := 8) hx hb dX6_addUpRests_69 (by decide) ?_
                exact ih8 v20 x1_8 S19 _ _ _ _ _ hQ hw hX hA0 (lv_sub hl [0, 1, 2] rfl) (by omega) (by omega)
            · have hQ := hQ.2 j15 hrf
              refine lv_ifnull hx hb dX6_addUpRests_35 ?_
              refine lv_lload_n hx hb dX6_addUpRests_38 rfl (lv_at hl 1 rfl) ?_
              refine lv_aload_n hx hb dX6_addUpRests_39 rfl (lv_at hl 2 rfl) ?_
              refine g_6_0 F hw hA0 twf_RX6_11 dX6_addUpRests_40 (fun a21 hA21 => ?_)
              refine lv_iload_n hx hb dX6_addUpRests_43 rfl (lv_at hl 0 rfl) ?_
              obtain ⟨hin, hQ⟩ := hQ
              refine al_14 F hw hA21 hin dX6_addUpRests_44 (fun hrf => ?_) (fun j22 a22 hrf hA22 => ?_)
              · have hQ := hQ.1 hrf
                exact False.elim hQ
              · have hQ := hQ.2 j22 hrf
                refine g_0_2 F hw hA22 twf_RX6_48 dX6_addUpRests_45 ?_
                refine lv_ladd hx hb dX6_addUpRests_48 ?_
                refine lv_topl (fun v23 ev23 => ?_)
                have hQ := hQ v23 ev23
                refine lv_lstore_n (lv' := [(1, .long v23), (3, .int x3_8), (0, .ref a0)]) hx hb dX6_addUpRests_49 rfl hl (by decide) rfl (fun ls hl => ?_)
                refine lv_iload_n hx hb dX6_addUpRests_50 rfl (lv_at hl 1 rfl) ?_
                refine lv_aload_n hx hb dX6_addUpRests_51 rfl (lv_at hl 2 rfl) ?_
                refine g_6_1 F hw hA0 twf_RX6_17 dX6_addUpRests_52 (fun a24 hA24 => ?_)
                refine ln_15 F hw hA24 dX6_addUpRests_55 ?_
                refine lv_icmp_ge (tgt := 66) hx hb dX6_addUpRests_56 (by decide) (fun hc => ?_) (fun hc => ?_)
                · have hQ := hQ.1 hc
                  obtain ⟨v25, ev25⟩ : ∃ y : Int32, y = x3_8 + (-1 : Int32) := ⟨_, rfl⟩
                  have hQ := hQ v25 ev25
                  refine lv_iinc (v := v25) (lv' := [(3, .int v25), (1, .long v23), (0, .ref a0)]) hx hb dX6_addUpRests_66 hl (k := 1) rfl (by rw [ev25]; rfl) (by decide) rfl (fun ls hl => ?_)
                  refine lv_goto (tgt := 8) hx hb dX6_addUpRests_69 (by decide) ?_
                  exact ih8 v25 v23 S2 _ _ _ _ _ hQ hw hX hA0 (lv_sub hl [0, 1, 2] rfl) (by omega) (by omega)
                · have hQ := hQ.2 hc
                  refine lv_aload_n hx hb dX6_addUpRests_59 rfl (lv_at hl 2 rfl) ?_
                  refine g_6_1 F hw hA0 twf_RX6_17 dX6_addUpRests_60 (fun a26 hA26 => ?_)
                  refine lv_iload_n hx hb dX6_addUpRests_63 rfl (lv_at hl 1 rfl) ?_
                  refine lv_lload_n hx hb dX6_addUpRests_64 rfl (lv_at hl 0 rfl) ?_
                  obtain ⟨hin, hQ⟩ := hQ
                  refine as_15 F hw hA26 hin dX6_addUpRests_65 (fun S27 H locs eS27 hw hx1 => ?_)
                  have hQ := hQ S27 eS27
                  have hX := hX.trans hx1
                  have hA0 := hA0.ext hx1
                  obtain ⟨v28, ev28⟩ : ∃ y : Int32, y = x3_8 + (-1 : Int32) := ⟨_, rfl⟩
                  have hQ := hQ v28 ev28
                  refine lv_iinc (v := v28) (lv' := [(3, .int v28), (1, .long v23), (0, .ref a0)]) hx hb dX6_addUpRests_66 hl (k := 1) rfl (by rw [ev28]; rfl) (by decide) rfl (fun ls hl => ?_)
                  refine lv_goto (tgt := 8) hx hb dX6_addUpRests_69 (by decide) ?_
                  exact ih8 v28 v23 S27 _ _ _ _ _ hQ hw hX hA0 (lv_sub hl [0, 1, 2] rfl) (by omega) (by omega)
  obtain ⟨n, hQ⟩ := hQ
  exact hloop8 n (18 : Int32) (0 : Int64) S0 _ _ _ _ _ hQ hw hX hA0 (lv_sub hl [0, 1, 2] rfl) (by omega) (by omega)
theorem k_X6_addUpRests {p : Program} {l : Launch} {e : Env} {R : Room} {s : State} {m : MethodId} {args : Array Value} {below : List Frame} {meth : Method} {c : Code} {H : Heap} {locs : List Loc} {cells slots : Nat} {Q : State → Prop} {cc : ByteArray} {pc nL : Nat} {ls : Array Slot} {rest : List Value} {G : GT} {S : St} {own : String}  {post : St → Prop} {lv : List (Nat × Value)} {idx : Nat} (F : CX p m c cc nL s args own) (hw : WW G S s H locs) (hl : lv_has ls nL lv) {a0 : Nat} (hA0 : AtO S 6 0 a0) (hQ : wp_X6_addUpRests S post) (h1 : Cond.methodLink own idx yX6_addUpRests ∈ wT) (hR1 : 0 + 1 ≤ R.frames) (hR2 : 8 + (4 + 11) + 0 ≤ R.locals) (hrest : (rest.map fun v => v.category).sum ≤ 8) (hdg : decode cc pc = .ok (.invokevirtual idx, 3)) (hf1 : cells + 0 ≤ R.cells) (hf2 : slots + 0 ≤ R.slots)
    (kk : ∀ (S1 : St) (H1 : Heap) (locs1 : List Loc), post S1 → WW G S1 s H1 locs1 → Ext S S1 → W p l e R s m args below meth c H1 locs1 (cells + 0) (slots + 0) Q (F0 m (pc + 3) ls rest)) : W p l e R s m args below meth c H locs cells slots Q (F0 m pc ls (.ref a0 :: rest)) :=
  cl_v (rn_V (n := 0) (As := []) (q := (RX6, TX6, 6)) F hw hl (m_X6_addUpRests l G  S a0 hA0 post hQ) 6 (by decide) (by decide) hA0 rfl rfl h1 twi_yX6_addUpRests tws_yX6_addUpRests twn_RX6 two_yX6_addUpRests rfl rfl ⟨rfl, by decide, by decide, by decide +kernel⟩ rfl ⟨hR1, hR2⟩ rfl hrest hdg ⟨hf1, hf2⟩) hw kk
-- J6_bitCount_0f7a4
def wp_J6_bitCount_0f7a4 (p1 : Int32) (S0 : St) (post : Int32 → St → Prop) : Prop :=
  ∀ v1 : Int32, v1 = p1 - (((p1.toUInt32 >>> ((1 : Int32).toUInt32 &&& Int32.toUInt32 31)).toInt32) &&& (1431655765 : Int32)) →
  ∀ v2 : Int32, v2 = (v1 &&& (858993459 : Int32)) + (((v1.toUInt32 >>> ((2 : Int32).toUInt32 &&& Int32.toUInt32 31)).toInt32) &&& (858993459 : Int32)) →
  ∀ v3 : Int32, v3 = (v2 + ((v2.toUInt32 >>> ((4 : Int32).toUInt32 &&& Int32.toUInt32 31)).toInt32)) &&& (252645135 : Int32) →
  ∀ v4 : Int32, v4 = v3 + ((v3.toUInt32 >>> ((8 : Int32).toUInt32 &&& Int32.toUInt32 31)).toInt32) →
  ∀ v5 : Int32, v5 = v4 + ((v4.toUInt32 >>> ((16 : Int32).toUInt32 &&& Int32.toUInt32 31)).toInt32) →
  post (v5 &&& (63 : Int32)) S0
set_option maxRecDepth 100000 in
set_option maxHeartbeats 4000000 in
theorem m_J6_bitCount_0f7a4 (l : Launch) (G : GT) (p1 : Int32) (S0 : St)  (post : Int32 → St → Prop) (hQ : wp_J6_bitCount_0f7a4 p1 S0 post) : Met l yJ6_bitCount_0f7a4 (wM yJ6_bitCount_0f7a4 cJ6_bitCount_0f7a4 1 (some (FieldType.int))) ({ frames := 0, cells := 0, slots := 0, locals := 0 } : Room) (PC G S0 [.int p1]) (QI G S0 post) 0 0 (QA G) := by
  refine mt_start RJ6 (by decide) rfl (Nat.le_of_ble_eq_true rfl) ?_
  intro p e s m args below meth c ls F hr hlk hnm hw hl
  have hx := F.1
  have hb := F.2.1
  have hown := F.2.2.2.1
  have hts := F.2.2.2.2
  have hX : Ext S0 S0 := Ext.rf
  have hsz0 := hw.1.1.1
  have hl : lv_has ls 1 [(0, .int p1)] := hl
  unfold wp_J6_bitCount_0f7a4 at hQ
  refine lv_iload_n hx hb dJ6_bitCount_0f7a4_0 rfl (lv_at hl 0 rfl) ?_
  refine lv_iload_n hx hb dJ6_bitCount_0f7a4_1 rfl (lv_at hl 0 rfl) ?_
  refine lv_iconst (v := 1) hx hb dJ6_bitCount_0f7a4_2 (by decide) ?_
  refine lv_iushr hx hb dJ6_bitCount_0f7a4_3 rfl ?_
  refine lv_ldcw (v := 1431655765) hx hb hown (hts _ twk_RJ6_265) dJ6_bitCount_0f7a4_4 ?_
  refine lv_iand hx hb dJ6_bitCount_0f7a4_7 ?_
  refine lv_isub hx hb dJ6_bitCount_0f7a4_8 ?_
  refine lv_topi (fun v1 ev1 => ?_)
  have hQ := hQ v1 ev1
  refine lv_istore_n (lv' := [(0, .int v1)]) hx hb dJ6_bitCount_0f7a4_9 rfl hl (by decide) rfl (fun ls hl => ?_)
  refine lv_iload_n hx hb dJ6_bitCount_0f7a4_10 rfl (lv_at hl 0 rfl) ?_
  refine lv_ldcw (v := 858993459) hx hb hown (hts _ twk_RJ6_266) dJ6_bitCount_0f7a4_11 ?_
  refine lv_iand hx hb dJ6_bitCount_0f7a4_14 ?_
  refine lv_iload_n hx hb dJ6_bitCount_0f7a4_15 rfl (lv_at hl 0 rfl) ?_
  refine lv_iconst (v := 2) hx hb dJ6_bitCount_0f7a4_16 (by decide) ?_
  refine lv_iushr hx hb dJ6_bitCount_0f7a4_17 rfl ?_
  refine lv_ldcw (v := 858993459) hx hb hown (hts _ twk_RJ6_266) dJ6_bitCount_0f7a4_18 ?_
  refine lv_iand hx hb dJ6_bitCount_0f7a4_21 ?_
  refine lv_iadd hx hb dJ6_bitCount_0f7a4_22 ?_
  refine lv_topi (fun v2 ev2 => ?_)
  have hQ := hQ v2 ev2
  refine lv_istore_n (lv' := [(0, .int v2)]) hx hb dJ6_bitCount_0f7a4_23 rfl hl (by decide) rfl (fun ls hl => ?_)
  refine lv_iload_n hx hb dJ6_bitCount_0f7a4_24 rfl (lv_at hl 0 rfl) ?_
  refine lv_iload_n hx hb dJ6_bitCount_0f7a4_25 rfl (lv_at hl 0 rfl) ?_
  refine lv_iconst (v := 4) hx hb dJ6_bitCount_0f7a4_26 (by decide) ?_
  refine lv_iushr hx hb dJ6_bitCount_0f7a4_27 rfl ?_
  refine lv_iadd hx hb dJ6_bitCount_0f7a4_28 ?_
  refine lv_ldcw (v := 252645135) hx hb hown (hts _ twk_RJ6_267) dJ6_bitCount_0f7a4_29 ?_
  refine lv_iand hx hb dJ6_bitCount_0f7a4_32 ?_
  refine lv_topi (fun v3 ev3 => ?_)
  have hQ := hQ v3 ev3
  refine lv_istore_n (lv' := [(0, .int v3)]) hx hb dJ6_bitCount_0f7a4_33 rfl hl (by decide) rfl (fun ls hl => ?_)
  refine lv_iload_n hx hb dJ6_bitCount_0f7a4_34 rfl (lv_at hl 0 rfl) ?_
  refine lv_iload_n hx hb dJ6_bitCount_0f7a4_35 rfl (lv_at hl 0 rfl) ?_
  refine lv_bipush (v := 8) hx hb dJ6_bitCount_0f7a4_36 (by decide) ?_
  refine lv_iushr hx hb dJ6_bitCount_0f7a4_38 rfl ?_
  refine lv_iadd hx hb dJ6_bitCount_0f7a4_39 ?_
  refine lv_topi (fun v4 ev4 => ?_)
  have hQ := hQ v4 ev4
  refine lv_istore_n (lv' := [(0, .int v4)]) hx hb dJ6_bitCount_0f7a4_40 rfl hl (by decide) rfl (fun ls hl => ?_)
  refine lv_iload_n hx hb dJ6_bitCount_0f7a4_41 rfl (lv_at hl 0 rfl) ?_
  refine lv_iload_n hx hb dJ6_bitCount_0f7a4_42 rfl (lv_at hl 0 rfl) ?_
  refine lv_bipush (v := 16) hx hb dJ6_bitCount_0f7a4_43 (by decide) ?_
  refine lv_iushr hx hb dJ6_bitCount_0f7a4_45 rfl ?_
  refine lv_iadd hx hb dJ6_bitCount_0f7a4_46 ?_
  refine lv_topi (fun v5 ev5 => ?_)
  have hQ := hQ v5 ev5
  refine lv_istore_n (lv' := [(0, .int v5)]) hx hb dJ6_bitCount_0f7a4_47 rfl hl (by decide) rfl (fun ls hl => ?_)
  refine lv_iload_n hx hb dJ6_bitCount_0f7a4_48 rfl (lv_at hl 0 rfl) ?_
  refine lv_bipush (v := 63) hx hb dJ6_bitCount_0f7a4_49 (by decide) ?_
  refine lv_iand hx hb dJ6_bitCount_0f7a4_51 ?_
  exact rt_i F hr hlk hw hX hQ (show 0 ≤ 0 from by omega) (show 0 ≤ 0 from by omega) dJ6_bitCount_0f7a4_52
theorem k_J6_bitCount_0f7a4 {p : Program} {l : Launch} {e : Env} {R : Room} {s : State} {m : MethodId} {args : Array Value} {below : List Frame} {meth : Method} {c : Code} {H : Heap} {locs : List Loc} {cells slots : Nat} {Q : State → Prop} {cc : ByteArray} {pc nL : Nat} {ls : Array Slot} {rest : List Value} {G : GT} {S : St} {own : String} {p1 : Int32} {post : Int32 → St → Prop} {lv : List (Nat × Value)} {idx : Nat} (F : CX p m c cc nL s args own) (hw : WW G S s H locs) (hl : lv_has ls nL lv)  (hQ : wp_J6_bitCount_0f7a4 p1 S post) (h1 : Cond.methodLink own idx yJ6_bitCount_0f7a4 ∈ wT) (hR1 : 0 + 1 ≤ R.frames) (hR2 : 8 + (1 + 11) + 0 ≤ R.locals) (hrest : (rest.map fun v => v.category).sum ≤ 8) (hdg : decode cc pc = .ok (.invokestatic idx, 3)) (hf1 : cells + 0 ≤ R.cells) (hf2 : slots + 0 ≤ R.slots)
    (kk : ∀ (r : Int32) (S1 : St) (H1 : Heap) (locs1 : List Loc), post r S1 → WW G S1 s H1 locs1 → Ext S S1 → W p l e R s m args below meth c H1 locs1 (cells + 0) (slots + 0) Q (F0 m (pc + 3) ls (.int r :: rest))) : W p l e R s m args below meth c H locs cells slots Q (F0 m pc ls (.int p1 :: rest)) :=
  cl_i (rn_S (n := 1) (As := [.int p1]) F hw hl (m_J6_bitCount_0f7a4 l G p1 S  post hQ) h1 twi_yJ6_bitCount_0f7a4 twn_RJ6 two_yJ6_bitCount_0f7a4 rfl rfl ⟨by decide, by decide, by decide +kernel⟩ rfl ⟨hR1, hR2⟩ rfl hrest hdg ⟨hf1, hf2⟩) hw kk
-- X6_chosenCount
def wp_X6_chosenCount  (S0 : St) (post : Int32 → St → Prop) : Prop :=
  wp_J6_bitCount_0f7a4 (gi S0 6 0 4) S0 (fun r2 S1 =>
  post r2 S1)
set_option maxRecDepth 100000 in
set_option maxHeartbeats 4000000 in
theorem m_X6_chosenCount (l : Launch) (G : GT)  (S0 : St) (a0 : Nat) (hA0 : AtO S0 6 0 a0) (post : Int32 → St → Prop) (hQ : wp_X6_chosenCount S0 post) : Met l yX6_chosenCount (wM yX6_chosenCount cX6_chosenCount 1 (some (FieldType.int))) ({ frames := 1, cells := 0, slots := 0, locals := 20 } : Room) (PC G S0 [.ref a0]) (QI G S0 post) 0 0 (QA G) := by
  refine mt_start RX6 (by decide) rfl (Nat.le_of_ble_eq_true rfl) ?_
  intro p e s m args below meth c ls F hr hlk hnm hw hl
  have hx := F.1
  have hb := F.2.1
  have hown := F.2.2.2.1
  have hts := F.2.2.2.2
  have hX : Ext S0 S0 := Ext.rf
  have hsz0 := hw.1.1.1
  have hl : lv_has ls 1 [(0, .ref a0)] := hl
  unfold wp_X6_chosenCount at hQ
  refine lv_aload_n hx hb dX6_chosenCount_0 rfl (lv_at hl 0 rfl) ?_
  refine g_6_4 F hw hA0 twf_RX6_28 dX6_chosenCount_1 ?_
  refine k_J6_bitCount_0f7a4 F hw hl hQ twm_RX6_35 (Nat.le_of_ble_eq_true rfl) (Nat.le_of_ble_eq_true rfl) (Nat.le_of_ble_eq_true rfl) dX6_chosenCount_4 (show 0 + 0 ≤ 0 from by omega) (show 0 + 0 ≤ 0 from by omega) (fun r2 S1 H locs hQ hw hx1 => ?_)
  have hX := hX.trans hx1
  have hA0 := hA0.ext hx1
  exact rt_i F hr hlk hw hX hQ (show (0 + 0) ≤ 0 from by omega) (show (0 + 0) ≤ 0 from by omega) dX6_chosenCount_7
theorem k_X6_chosenCount {p : Program} {l : Launch} {e : Env} {R : Room} {s : State} {m : MethodId} {args : Array Value} {below : List Frame} {meth : Method} {c : Code} {H : Heap} {locs : List Loc} {cells slots : Nat} {Q : State → Prop} {cc : ByteArray} {pc nL : Nat} {ls : Array Slot} {rest : List Value} {G : GT} {S : St} {own : String}  {post : Int32 → St → Prop} {lv : List (Nat × Value)} {idx : Nat} (F : CX p m c cc nL s args own) (hw : WW G S s H locs) (hl : lv_has ls nL lv) {a0 : Nat} (hA0 : AtO S 6 0 a0) (hQ : wp_X6_chosenCount S post) (h1 : Cond.methodLink own idx yX6_chosenCount ∈ wT) (hR1 : 1 + 1 ≤ R.frames) (hR2 : 8 + (1 + 11) + 20 ≤ R.locals) (hrest : (rest.map fun v => v.category).sum ≤ 8) (hdg : decode cc pc = .ok (.invokevirtual idx, 3)) (hf1 : cells + 0 ≤ R.cells) (hf2 : slots + 0 ≤ R.slots)
    (kk : ∀ (r : Int32) (S1 : St) (H1 : Heap) (locs1 : List Loc), post r S1 → WW G S1 s H1 locs1 → Ext S S1 → W p l e R s m args below meth c H1 locs1 (cells + 0) (slots + 0) Q (F0 m (pc + 3) ls (.int r :: rest))) : W p l e R s m args below meth c H locs cells slots Q (F0 m pc ls (.ref a0 :: rest)) :=
  cl_i (rn_V (n := 0) (As := []) (q := (RX6, TX6, 6)) F hw hl (m_X6_chosenCount l G  S a0 hA0 post hQ) 6 (by decide) (by decide) hA0 rfl rfl h1 twi_yX6_chosenCount tws_yX6_chosenCount twn_RX6 two_yX6_chosenCount rfl rfl ⟨rfl, by decide, by decide, by decide +kernel⟩ rfl ⟨hR1, hR2⟩ rfl hrest hdg ⟨hf1, hf2⟩) hw kk
-- X6_isBetter
def wp_X6_isBetter (p1 : Int64) (p2 : Int32) (S0 : St) (post : Int32 → St → Prop) : Prop :=
  ((gj S0 6 0 5) < p1 →
  post (1 : Int32) S0) ∧
  (¬ (gj S0 6 0 5) < p1 →
  (¬ p1 = (gj S0 6 0 5) →
  post (0 : Int32) S0) ∧
  (p1 = (gj S0 6 0 5) →
  wp_J6_bitCount_0f7a4 p2 S0 (fun r2 S1 =>
  wp_X6_chosenCount S1 (fun r4 S3 =>
  (r4 ≤ r2 →
  post (0 : Int32) S3) ∧
  (¬ r4 ≤ r2 →
  post (1 : Int32) S3)))))
set_option maxRecDepth 100000 in
set_option maxHeartbeats 4000000 in
theorem m_X6_isBetter (l : Launch) (G : GT) (p1 : Int64) (p2 : Int32) (S0 : St) (a0 : Nat) (hA0 : AtO S0 6 0 a0) (post : Int32 → St → Prop) (hQ : wp_X6_isBetter p1 p2 S0 post) : Met l yX6_isBetter (wM yX6_isBetter cX6_isBetter 4 (some (FieldType.boolean))) ({ frames := 2, cells := 0, slots := 0, locals := 40 } : Room) (PC G S0 [.ref a0, .long p1, .int p2]) (QI G S0 post) 0 0 (QA G) := by
  refine mt_start RX6 (by decide) rfl (Nat.le_of_ble_eq_true rfl) ?_
  intro p e s m args below meth c ls F hr hlk hnm hw hl
  have hx := F.1
  have hb := F.2.1
  have hown := F.2.2.2.1
  have hts := F.2.2.2.2
  have hX : Ext S0 S0 := Ext.rf
  have hsz0 := hw.1.1.1
  have hl : lv_has ls 4 [(0, .ref a0), (1, .long p1), (3, .int p2)] := hl
  unfold wp_X6_isBetter at hQ
  refine lv_lload_n hx hb dX6_isBetter_0 rfl (lv_at hl 1 rfl) ?_
  refine lv_aload_n hx hb dX6_isBetter_1 rfl (lv_at hl 0 rfl) ?_
  refine g_6_5 F hw hA0 twf_RX6_31 dX6_isBetter_2 ?_
  refine lc_gt (tgt := 29) F dX6_isBetter_5 dX6_isBetter_6 (by decide) (fun hc => ?_) (fun hc => ?_)
  · have hQ := hQ.1 hc
    refine lv_iconst (v := 1) hx hb dX6_isBetter_29 (by decide) ?_
    refine lv_goto (tgt := 34) hx hb dX6_isBetter_30 (by decide) ?_
    exact rt_z F hr hlk hw hX hQ rfl (show 0 ≤ 0 from by omega) (show 0 ≤ 0 from by omega) dX6_isBetter_34
  · have hQ := hQ.2 hc
    refine lv_lload_n hx hb dX6_isBetter_9 rfl (lv_at hl 1 rfl) ?_
    refine lv_aload_n hx hb dX6_isBetter_10 rfl (lv_at hl 0 rfl) ?_
    refine g_6_5 F hw hA0 twf_RX6_31 dX6_isBetter_11 ?_
    refine lc_ne (tgt := 33) F dX6_isBetter_14 dX6_isBetter_15 (by decide) (fun hc => ?_) (fun hc => ?_)
    · have hQ := hQ.1 hc
      refine lv_iconst (v := 0) hx hb dX6_isBetter_33 (by decide) ?_
      exact rt_z F hr hlk hw hX hQ rfl (show 0 ≤ 0 from by omega) (show 0 ≤ 0 from by omega) dX6_isBetter_34
    · have hQ := hQ.2 hc
      refine lv_iload_n hx hb dX6_isBetter_18 rfl (lv_at hl 2 rfl) ?_
      refine k_J6_bitCount_0f7a4 F hw hl hQ twm_RX6_35 (Nat.le_of_ble_eq_true rfl) (Nat.le_of_ble_eq_true rfl) (Nat.le_of_ble_eq_true rfl) dX6_isBetter_19 (show 0 + 0 ≤ 0 from by omega) (show 0 + 0 ≤ 0 from by omega) (fun r2 S1 H locs hQ hw hx1 => ?_)
      have hX := hX.trans hx1
      have hA0 := hA0.ext hx1
      refine lv_aload_n hx hb dX6_isBetter_22 rfl (lv_at hl 0 rfl) ?_
      refine k_X6_chosenCount F hw hl hA0 hQ twm_RX6_76 (Nat.le_of_ble_eq_true rfl) (Nat.le_of_ble_eq_true rfl) (Nat.le_of_ble_eq_true rfl) dX6_isBetter_23 (show (0 + 0) + 0 ≤ 0 from by omega) (show (0 + 0) + 0 ≤ 0 from by omega) (fun r4 S3 H locs hQ hw hx1 => ?_)
      have hX := hX.trans hx1
      have hA0 := hA0.ext hx1
      refine lv_icmp_ge (tgt := 33) hx hb dX6_isBetter_26 (by decide) (fun hc => ?_) (fun hc => ?_)
      · have hQ := hQ.1 hc
        refine lv_iconst (v := 0) hx hb dX6_isBetter_33 (by decide) ?_
        exact rt_z F hr hlk hw hX hQ rfl (show ((0 + 0) + 0) ≤ 0 from by omega) (show ((0 + 0) + 0) ≤ 0 from by omega) dX6_isBetter_34
      · have hQ := hQ.2 hc
        refine lv_iconst (v := 1) hx hb dX6_isBetter_29 (by decide) ?_
        refine lv_goto (tgt := 34) hx hb dX6_isBetter_30 (by decide) ?_
        exact rt_z F hr hlk hw hX hQ rfl (show ((0 + 0) + 0) ≤ 0 from by omega) (show ((0 + 0) + 0) ≤ 0 from by omega) dX6_isBetter_34
theorem k_X6_isBetter {p : Program} {l : Launch} {e : Env} {R : Room} {s : State} {m : MethodId} {args : Array Value} {below : List Frame} {meth : Method} {c : Code} {H : Heap} {locs : List Loc} {cells slots : Nat} {Q : State → Prop} {cc : ByteArray} {pc nL : Nat} {ls : Array Slot} {rest : List Value} {G : GT} {S : St} {own : String} {p1 : Int64} {p2 : Int32} {post : Int32 → St → Prop} {lv : List (Nat × Value)} {idx : Nat} (F : CX p m c cc nL s args own) (hw : WW G S s H locs) (hl : lv_has ls nL lv) {a0 : Nat} (hA0 : AtO S 6 0 a0) (hQ : wp_X6_isBetter p1 p2 S post) (h1 : Cond.methodLink own idx yX6_isBetter ∈ wT) (hR1 : 2 + 1 ≤ R.frames) (hR2 : 8 + (4 + 11) + 40 ≤ R.locals) (hrest : (rest.map fun v => v.category).sum ≤ 8) (hdg : decode cc pc = .ok (.invokevirtual idx, 3)) (hf1 : cells + 0 ≤ R.cells) (hf2 : slots + 0 ≤ R.slots)
    (kk : ∀ (r : Int32) (S1 : St) (H1 : Heap) (locs1 : List Loc), post r S1 → WW G S1 s H1 locs1 → Ext S S1 → W p l e R s m args below meth c H1 locs1 (cells + 0) (slots + 0) Q (F0 m (pc + 3) ls (.int r :: rest))) : W p l e R s m args below meth c H locs cells slots Q (F0 m pc ls (.int p2 :: .long p1 :: .ref a0 :: rest)) :=
  cl_i (rn_V (n := 2) (As := [.long p1, .int p2]) (q := (RX6, TX6, 6)) F hw hl (m_X6_isBetter l G p1 p2 S a0 hA0 post hQ) 6 (by decide) (by decide) hA0 rfl rfl h1 twi_yX6_isBetter tws_yX6_isBetter twn_RX6 two_yX6_isBetter rfl rfl ⟨rfl, by decide, by decide, by decide +kernel⟩ rfl ⟨hR1, hR2⟩ rfl hrest hdg ⟨hf1, hf2⟩) hw kk
-- X6_goodAt
def wp_X6_goodAt (p1 : Int32) (S0 : St) (post : Option Nat → St → Prop) : Prop :=
  (p1 < 0 →
  post none S0) ∧
  (¬ p1 < 0 →
  ((gi S0 6 0 3) ≤ p1 →
  post none S0) ∧
  (¬ (gi S0 6 0 3) ≤ p1 →
  (p1 < (18 : Int32) →
  vp_in p1 18 ∧
  (gr S0 14 0 p1.toNatClampNeg = none →
  post none S0) ∧
  (∀ j3 : Nat, gr S0 14 0 p1.toNatClampNeg = some j3 →
  post (some j3) S0)) ∧
  (¬ p1 < (18 : Int32) →
  post none S0)))
set_option maxRecDepth 100000 in
set_option maxHeartbeats 4000000 in
theorem m_X6_goodAt (l : Launch) (G : GT) (p1 : Int32) (S0 : St) (a0 : Nat) (hA0 : AtO S0 6 0 a0) (post : Option Nat → St → Prop) (hQ : wp_X6_goodAt p1 S0 post) : Met l yX6_goodAt (wM yX6_goodAt cX6_goodAt 2 (some ((FieldType.object "ClockAuctions$Bid")))) ({ frames := 0, cells := 0, slots := 0, locals := 0 } : Room) (PC G S0 [.ref a0, .int p1]) (QR 0 G S0 post) 0 0 (QA G) := by
  refine mt_start RX6 (by decide) rfl (Nat.le_of_ble_eq_true rfl) ?_
  intro p e s m args below meth c ls F hr hlk hnm hw hl
  have hx := F.1
  have hb := F.2.1
  have hown := F.2.2.2.1
  have hts := F.2.2.2.2
  have hX : Ext S0 S0 := Ext.rf
  have hsz0 := hw.1.1.1
  have hl : lv_has ls 2 [(0, .ref a0), (1, .int p1)] := hl
  unfold wp_X6_goodAt at hQ
  refine lv_iload_n hx hb dX6_goodAt_0 rfl (lv_at hl 1 rfl) ?_
  refine lv_if_lt (tgt := 21) hx hb dX6_goodAt_1 (by decide) (fun hc => ?_) (fun hc => ?_)
  · have hQ := hQ.1 hc
    refine lv_null hx hb dX6_goodAt_21 ?_
    refine lv_goto (tgt := 31) hx hb dX6_goodAt_22 (by decide) ?_
    exact rt_n F hr hlk hw hX hQ (show 0 ≤ 0 from by omega) (show 0 ≤ 0 from by omega) dX6_goodAt_31
  · have hQ := hQ.2 hc
    refine lv_iload_n hx hb dX6_goodAt_4 rfl (lv_at hl 1 rfl) ?_
    refine lv_aload_n hx hb dX6_goodAt_5 rfl (lv_at hl 0 rfl) ?_
    refine g_6_3 F hw hA0 twf_RX6_24 dX6_goodAt_6 ?_
    refine lv_icmp_ge (tgt := 21) hx hb dX6_goodAt_9 (by decide) (fun hc => ?_) (fun hc => ?_)
    · have hQ := hQ.1 hc
      refine lv_null hx hb dX6_goodAt_21 ?_
      refine lv_goto (tgt := 31) hx hb dX6_goodAt_22 (by decide) ?_
      exact rt_n F hr hlk hw hX hQ (show 0 ≤ 0 from by omega) (show 0 ≤ 0 from by omega) dX6_goodAt_31
    · have hQ := hQ.2 hc
      refine lv_iload_n hx hb dX6_goodAt_12 rfl (lv_at hl 1 rfl) ?_
      refine lv_aload_n hx hb dX6_goodAt_13 rfl (lv_at hl 0 rfl) ?_
      refine g_6_0 F hw hA0 twf_RX6_11 dX6_goodAt_14 (fun a1 hA1 => ?_)
      refine ln_14 F hw hA1 dX6_goodAt_17 ?_
      refine lv_icmp_lt (tgt := 25) hx hb dX6_goodAt_18 (by decide) (fun hc => ?_) (fun hc => ?_)
      · have hQ := hQ.1 hc
        refine lv_aload_n hx hb dX6_goodAt_25 rfl (lv_at hl 0 rfl) ?_
        refine g_6_0 F hw hA0 twf_RX6_11 dX6_goodAt_26 (fun a2 hA2 => ?_)
        refine lv_iload_n hx hb dX6_goodAt_29 rfl (lv_at hl 1 rfl) ?_
        obtain ⟨hin, hQ⟩ := hQ
        refine al_14 F hw hA2 hin dX6_goodAt_30 (fun hrf => ?_) (fun j3 a3 hrf hA3 => ?_)
        · have hQ := hQ.1 hrf
          exact rt_n F hr hlk hw hX hQ (show 0 ≤ 0 from by omega) (show 0 ≤ 0 from by omega) dX6_goodAt_31
        · have hQ := hQ.2 j3 hrf
          exact rt_a F hr hlk hw hX hA3 hQ (show 0 ≤ 0 from by omega) (show 0 ≤ 0 from by omega) dX6_goodAt_31
      · have hQ := hQ.2 hc
        refine lv_null hx hb dX6_goodAt_21 ?_
        refine lv_goto (tgt := 31) hx hb dX6_goodAt_22 (by decide) ?_
        exact rt_n F hr hlk hw hX hQ (show 0 ≤ 0 from by omega) (show 0 ≤ 0 from by omega) dX6_goodAt_31
theorem k_X6_goodAt {p : Program} {l : Launch} {e : Env} {R : Room} {s : State} {m : MethodId} {args : Array Value} {below : List Frame} {meth : Method} {c : Code} {H : Heap} {locs : List Loc} {cells slots : Nat} {Q : State → Prop} {cc : ByteArray} {pc nL : Nat} {ls : Array Slot} {rest : List Value} {G : GT} {S : St} {own : String} {p1 : Int32} {post : Option Nat → St → Prop} {lv : List (Nat × Value)} {idx : Nat} (F : CX p m c cc nL s args own) (hw : WW G S s H locs) (hl : lv_has ls nL lv) {a0 : Nat} (hA0 : AtO S 6 0 a0) (hQ : wp_X6_goodAt p1 S post) (h1 : Cond.methodLink own idx yX6_goodAt ∈ wT) (hR1 : 0 + 1 ≤ R.frames) (hR2 : 8 + (2 + 11) + 0 ≤ R.locals) (hrest : (rest.map fun v => v.category).sum ≤ 8) (hdg : decode cc pc = .ok (.invokevirtual idx, 3)) (hf1 : cells + 0 ≤ R.cells) (hf2 : slots + 0 ≤ R.slots)
    (kn : ∀ (S1 : St) (H1 : Heap) (locs1 : List Loc), post none S1 → WW G S1 s H1 locs1 → Ext S S1 → W p l e R s m args below meth c H1 locs1 (cells + 0) (slots + 0) Q (F0 m (pc + 3) ls (.null :: rest))) (ks : ∀ (j2 a2 : Nat) (S1 : St) (H1 : Heap) (locs1 : List Loc), post (some j2) S1 → AtO S1 0 j2 a2 → WW G S1 s H1 locs1 → Ext S S1 → W p l e R s m args below meth c H1 locs1 (cells + 0) (slots + 0) Q (F0 m (pc + 3) ls (.ref a2 :: rest))) : W p l e R s m args below meth c H locs cells slots Q (F0 m pc ls (.int p1 :: .ref a0 :: rest)) :=
  cl_r (rn_V (n := 1) (As := [.int p1]) (q := (RX6, TX6, 6)) F hw hl (m_X6_goodAt l G p1 S a0 hA0 post hQ) 6 (by decide) (by decide) hA0 rfl rfl h1 twi_yX6_goodAt tws_yX6_goodAt twn_RX6 two_yX6_goodAt rfl rfl ⟨rfl, by decide, by decide, by decide +kernel⟩ rfl ⟨hR1, hR2⟩ rfl hrest hdg ⟨hf1, hf2⟩) hw kn ks
-- X6_restFrom
def wp_X6_restFrom (p1 : Int32) (S0 : St) (post : Int64 → St → Prop) : Prop :=
  (p1 < 0 →
  post (0 : Int64) S0) ∧
  (¬ p1 < 0 →
  (p1 < (19 : Int32) →
  vp_in p1 19 ∧
  post (gj S0 15 0 p1.toNatClampNeg) S0) ∧
  (¬ p1 < (19 : Int32) →
  post (0 : Int64) S0))
set_option maxRecDepth 100000 in
set_option maxHeartbeats 4000000 in
theorem m_X6_restFrom (l : Launch) (G : GT) (p1 : Int32) (S0 : St) (a0 : Nat) (hA0 : AtO S0 6 0 a0) (post : Int64 → St → Prop) (hQ : wp_X6_restFrom p1 S0 post) : Met l yX6_restFrom (wM yX6_restFrom cX6_restFrom 2 (some (FieldType.long))) ({ frames := 0, cells := 0, slots := 0, locals := 0 } : Room) (PC G S0 [.ref a0, .int p1]) (QJ G S0 post) 0 0 (QA G) := by
  refine mt_start RX6 (by decide) rfl (Nat.le_of_ble_eq_true rfl) ?_
  intro p e s m args below meth c ls F hr hlk hnm hw hl
  have hx := F.1
  have hb := F.2.1
  have hown := F.2.2.2.1
  have hts := F.2.2.2.2
  have hX : Ext S0 S0 := Ext.rf
  have hsz0 := hw.1.1.1
  have hl : lv_has ls 2 [(0, .ref a0), (1, .int p1)] := hl
  unfold wp_X6_restFrom at hQ
  refine lv_iload_n hx hb dX6_restFrom_0 rfl (lv_at hl 1 rfl) ?_
  refine lv_if_lt (tgt := 13) hx hb dX6_restFrom_1 (by decide) (fun hc => ?_) (fun hc => ?_)
  · have hQ := hQ.1 hc
    refine lv_lconst (v := 0) hx hb dX6_restFrom_13 (by decide) ?_
    refine lv_goto (tgt := 23) hx hb dX6_restFrom_14 (by decide) ?_
    exact rt_l F hr hlk hw hX hQ (show 0 ≤ 0 from by omega) (show 0 ≤ 0 from by omega) dX6_restFrom_23
  · have hQ := hQ.2 hc
    refine lv_iload_n hx hb dX6_restFrom_4 rfl (lv_at hl 1 rfl) ?_
    refine lv_aload_n hx hb dX6_restFrom_5 rfl (lv_at hl 0 rfl) ?_
    refine g_6_1 F hw hA0 twf_RX6_17 dX6_restFrom_6 (fun a1 hA1 => ?_)
    refine ln_15 F hw hA1 dX6_restFrom_9 ?_
    refine lv_icmp_lt (tgt := 17) hx hb dX6_restFrom_10 (by decide) (fun hc => ?_) (fun hc => ?_)
    · have hQ := hQ.1 hc
      refine lv_aload_n hx hb dX6_restFrom_17 rfl (lv_at hl 0 rfl) ?_
      refine g_6_1 F hw hA0 twf_RX6_17 dX6_restFrom_18 (fun a2 hA2 => ?_)
      refine lv_iload_n hx hb dX6_restFrom_21 rfl (lv_at hl 1 rfl) ?_
      obtain ⟨hin, hQ⟩ := hQ
      refine al_15 F hw hA2 hin dX6_restFrom_22 ?_
      exact rt_l F hr hlk hw hX hQ (show 0 ≤ 0 from by omega) (show 0 ≤ 0 from by omega) dX6_restFrom_23
    · have hQ := hQ.2 hc
      refine lv_lconst (v := 0) hx hb dX6_restFrom_13 (by decide) ?_
      refine lv_goto (tgt := 23) hx hb dX6_restFrom_14 (by decide) ?_
      exact rt_l F hr hlk hw hX hQ (show 0 ≤ 0 from by omega) (show 0 ≤ 0 from by omega) dX6_restFrom_23
theorem k_X6_restFrom {p : Program} {l : Launch} {e : Env} {R : Room} {s : State} {m : MethodId} {args : Array Value} {below : List Frame} {meth : Method} {c : Code} {H : Heap} {locs : List Loc} {cells slots : Nat} {Q : State → Prop} {cc : ByteArray} {pc nL : Nat} {ls : Array Slot} {rest : List Value} {G : GT} {S : St} {own : String} {p1 : Int32} {post : Int64 → St → Prop} {lv : List (Nat × Value)} {idx : Nat} (F : CX p m c cc nL s args own) (hw : WW G S s H locs) (hl : lv_has ls nL lv) {a0 : Nat} (hA0 : AtO S 6 0 a0) (hQ : wp_X6_restFrom p1 S post) (h1 : Cond.methodLink own idx yX6_restFrom ∈ wT) (hR1 : 0 + 1 ≤ R.frames) (hR2 : 8 + (2 + 11) + 0 ≤ R.locals) (hrest : (rest.map fun v => v.category).sum ≤ 8) (hdg : decode cc pc = .ok (.invokevirtual idx, 3)) (hf1 : cells + 0 ≤ R.cells) (hf2 : slots + 0 ≤ R.slots)
    (kk : ∀ (r : Int64) (S1 : St) (H1 : Heap) (locs1 : List Loc), post r S1 → WW G S1 s H1 locs1 → Ext S S1 → W p l e R s m args below meth c H1 locs1 (cells + 0) (slots + 0) Q (F0 m (pc + 3) ls (.long r :: rest))) : W p l e R s m args below meth c H locs cells slots Q (F0 m pc ls (.int p1 :: .ref a0 :: rest)) :=
  cl_l (rn_V (n := 1) (As := [.int p1]) (q := (RX6, TX6, 6)) F hw hl (m_X6_restFrom l G p1 S a0 hA0 post hQ) 6 (by decide) (by decide) hA0 rfl rfl h1 twi_yX6_restFrom tws_yX6_restFrom twn_RX6 two_yX6_restFrom rfl rfl ⟨rfl, by decide, by decide, by decide +kernel⟩ rfl ⟨hR1, hR2⟩ rfl hrest hdg ⟨hf1, hf2⟩) hw kk
-- X6_spend
def wp_X6_spend (p1 : Int32) (p2 : Int64) (S0 : St) (post : Int32 → St → Prop) : Prop :=
  (p1 < 0 →
  post (0 : Int32) S0) ∧
  (¬ p1 < 0 →
  ((30 : Int32) ≤ p1 →
  post (0 : Int32) S0) ∧
  (¬ (30 : Int32) ≤ p1 →
  vp_in p1 30 ∧
  (p2 ≤ (gj S0 16 0 p1.toNatClampNeg) →
  vp_in p1 30 ∧
  vp_in p1 30 ∧
  ∀ S4 : St, S4 = sj S0 16 0 p1.toNatClampNeg ((gj S0 16 0 p1.toNatClampNeg) - p2) →
  post (1 : Int32) S4) ∧
  (¬ p2 ≤ (gj S0 16 0 p1.toNatClampNeg) →
  post (0 : Int32) S0)))
set_option maxRecDepth 100000 in
set_option maxHeartbeats 4000000 in
theorem m_X6_spend (l : Launch) (G : GT) (p1 : Int32) (p2 : Int64) (S0 : St) (a0 : Nat) (hA0 : AtO S0 6 0 a0) (post : Int32 → St → Prop) (hQ : wp_X6_spend p1 p2 S0 post) : Met l yX6_spend (wM yX6_spend cX6_spend 4 (some (FieldType.boolean))) ({ frames := 0, cells := 0, slots := 0, locals := 0 } : Room) (PC G S0 [.ref a0, .int p1, .long p2]) (QI G S0 post) 0 0 (QA G) := by
  refine mt_start RX6 (by decide) rfl (Nat.le_of_ble_eq_true rfl) ?_
  intro p e s m args below meth c ls F hr hlk hnm hw hl
  have hx := F.1
  have hb := F.2.1
  have hown := F.2.2.2.1
  have hts := F.2.2.2.2
  have hX : Ext S0 S0 := Ext.rf
  have hsz0 := hw.1.1.1
  have hl : lv_has ls 4 [(0, .ref a0), (1, .int p1), (2, .long p2)] := hl
  unfold wp_X6_spend at hQ
  refine lv_iload_n hx hb dX6_spend_0 rfl (lv_at hl 1 rfl) ?_
  refine lv_if_lt (tgt := 24) hx hb dX6_spend_1 (by decide) (fun hc => ?_) (fun hc => ?_)
  · have hQ := hQ.1 hc
    refine lv_iconst (v := 0) hx hb dX6_spend_24 (by decide) ?_
    exact rt_z F hr hlk hw hX hQ rfl (show 0 ≤ 0 from by omega) (show 0 ≤ 0 from by omega) dX6_spend_25
  · have hQ := hQ.2 hc
    refine lv_iload_n hx hb dX6_spend_4 rfl (lv_at hl 1 rfl) ?_
    refine lv_aload_n hx hb dX6_spend_5 rfl (lv_at hl 0 rfl) ?_
    refine g_6_2 F hw hA0 twf_RX6_21 dX6_spend_6 (fun a1 hA1 => ?_)
    refine ln_16 F hw hA1 dX6_spend_9 ?_
    refine lv_icmp_ge (tgt := 24) hx hb dX6_spend_10 (by decide) (fun hc => ?_) (fun hc => ?_)
    · have hQ := hQ.1 hc
      refine lv_iconst (v := 0) hx hb dX6_spend_24 (by decide) ?_
      exact rt_z F hr hlk hw hX hQ rfl (show 0 ≤ 0 from by omega) (show 0 ≤ 0 from by omega) dX6_spend_25
    · have hQ := hQ.2 hc
      refine lv_aload_n hx hb dX6_spend_13 rfl (lv_at hl 0 rfl) ?_
      refine g_6_2 F hw hA0 twf_RX6_21 dX6_spend_14 (fun a2 hA2 => ?_)
      refine lv_iload_n hx hb dX6_spend_17 rfl (lv_at hl 1 rfl) ?_
      obtain ⟨hin, hQ⟩ := hQ
      refine al_16 F hw hA2 hin dX6_spend_18 ?_
      refine lv_lload_n hx hb dX6_spend_19 rfl (lv_at hl 2 rfl) ?_
      refine lc_ge (tgt := 26) F dX6_spend_20 dX6_spend_21 (by decide) (fun hc => ?_) (fun hc => ?_)
      · have hQ := hQ.1 hc
        refine lv_aload_n hx hb dX6_spend_26 rfl (lv_at hl 0 rfl) ?_
        refine g_6_2 F hw hA0 twf_RX6_21 dX6_spend_27 (fun a3 hA3 => ?_)
        refine lv_iload_n hx hb dX6_spend_30 rfl (lv_at hl 1 rfl) ?_
        refine lv_dup2_11 hx hb dX6_spend_31 rfl rfl ?_
        obtain ⟨hin, hQ⟩ := hQ
        refine al_16 F hw hA3 hin dX6_spend_32 ?_
        refine lv_lload_n hx hb dX6_spend_33 rfl (lv_at hl 2 rfl) ?_
        refine lv_lsub hx hb dX6_spend_34 ?_
        obtain ⟨hin, hQ⟩ := hQ
        refine as_16 F hw hA3 hin dX6_spend_35 (fun S4 H locs eS4 hw hx1 => ?_)
        have hQ := hQ S4 eS4
        have hX := hX.trans hx1
        have hA0 := hA0.ext hx1
        refine lv_iconst (v := 1) hx hb dX6_spend_36 (by decide) ?_
        exact rt_z F hr hlk hw hX hQ rfl (show 0 ≤ 0 from by omega) (show 0 ≤ 0 from by omega) dX6_spend_37
      · have hQ := hQ.2 hc
        refine lv_iconst (v := 0) hx hb dX6_spend_24 (by decide) ?_
        exact rt_z F hr hlk hw hX hQ rfl (show 0 ≤ 0 from by omega) (show 0 ≤ 0 from by omega) dX6_spend_25
theorem k_X6_spend {p : Program} {l : Launch} {e : Env} {R : Room} {s : State} {m : MethodId} {args : Array Value} {below : List Frame} {meth : Method} {c : Code} {H : Heap} {locs : List Loc} {cells slots : Nat} {Q : State → Prop} {cc : ByteArray} {pc nL : Nat} {ls : Array Slot} {rest : List Value} {G : GT} {S : St} {own : String} {p1 : Int32} {p2 : Int64} {post : Int32 → St → Prop} {lv : List (Nat × Value)} {idx : Nat} (F : CX p m c cc nL s args own) (hw : WW G S s H locs) (hl : lv_has ls nL lv) {a0 : Nat} (hA0 : AtO S 6 0 a0) (hQ : wp_X6_spend p1 p2 S post) (h1 : Cond.methodLink own idx yX6_spend ∈ wT) (hR1 : 0 + 1 ≤ R.frames) (hR2 : 8 + (4 + 11) + 0 ≤ R.locals) (hrest : (rest.map fun v => v.category).sum ≤ 8) (hdg : decode cc pc = .ok (.invokevirtual idx, 3)) (hf1 : cells + 0 ≤ R.cells) (hf2 : slots + 0 ≤ R.slots)
    (kk : ∀ (r : Int32) (S1 : St) (H1 : Heap) (locs1 : List Loc), post r S1 → WW G S1 s H1 locs1 → Ext S S1 → W p l e R s m args below meth c H1 locs1 (cells + 0) (slots + 0) Q (F0 m (pc + 3) ls (.int r :: rest))) : W p l e R s m args below meth c H locs cells slots Q (F0 m pc ls (.long p2 :: .int p1 :: .ref a0 :: rest)) :=
  cl_i (rn_V (n := 2) (As := [.int p1, .long p2]) (q := (RX6, TX6, 6)) F hw hl (m_X6_spend l G p1 p2 S a0 hA0 post hQ) 6 (by decide) (by decide) hA0 rfl rfl h1 twi_yX6_spend tws_yX6_spend twn_RX6 two_yX6_spend rfl rfl ⟨rfl, by decide, by decide, by decide +kernel⟩ rfl ⟨hR1, hR2⟩ rfl hrest hdg ⟨hf1, hf2⟩) hw kk

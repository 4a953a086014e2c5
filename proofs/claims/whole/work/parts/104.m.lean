-- X8_pressesTiedWith
def bd_X8_pressesTiedWith_4 (jp1 : Nat) (post : Int32 → St → Prop) (K4 : Int32 → Int32 → St → Prop) (x3_4 : Int32) (x2_4 : Int32) (S1 : St) : Prop :=
  ((gi S1 7 0 7) ≤ x3_4 →
  post x2_4 S1) ∧
  (¬ (gi S1 7 0 7) ≤ x3_4 →
  wp_X8_buyerAt x3_4 S1 (fun r3 S2 =>
  (r3 = none →
  ∀ v5 : Int32, v5 = x3_4 + (1 : Int32) →
  K4 v5 x2_4 S2) ∧
  (∀ j4 : Nat, r3 = some j4 →
  (x3_4 = (gi S2 1 jp1 0) →
  ∀ v6 : Int32, v6 = x3_4 + (1 : Int32) →
  K4 v6 x2_4 S2) ∧
  (¬ x3_4 = (gi S2 1 jp1 0) →
  (¬ (gj S2 1 j4 3) = (gj S2 1 jp1 3) →
  ∀ v7 : Int32, v7 = x3_4 + (1 : Int32) →
  K4 v7 x2_4 S2) ∧
  ((gj S2 1 j4 3) = (gj S2 1 jp1 3) →
  ∀ v8 : Int32, v8 = x2_4 ||| ((1 : Int32) <<< (x3_4 &&& 31)) →
  ∀ v9 : Int32, v9 = x3_4 + (1 : Int32) →
  K4 v9 v8 S2)))))
def lp_X8_pressesTiedWith_4 (jp1 : Nat) (post : Int32 → St → Prop) : Nat → Int32 → Int32 → St → Prop
  | 0, _, _, _ => False
  | n + 1, x3_4, x2_4, S1 => bd_X8_pressesTiedWith_4 jp1 post (fun x3_4 x2_4 S1 => lp_X8_pressesTiedWith_4 jp1 post n x3_4 x2_4 S1) x3_4 x2_4 S1
def wp_X8_pressesTiedWith (jp1 : Nat) (S0 : St) (post : Int32 → St → Prop) : Prop :=
  ∃ n : Nat, lp_X8_pressesTiedWith_4 jp1 post n (0 : Int32) (0 : Int32) S0
set_option maxRecDepth 100000 in
set_option maxHeartbeats 4000000 in
theorem m_X8_pressesTiedWith (l : Launch) (G : GT) (jp1 : Nat) (S0 : St) (a0 : Nat) (hA0 : AtO S0 7 0 a0) (ap1 : Nat) (hAp1 : AtO S0 1 jp1 ap1) (post : Int32 → St → Prop) (hQ : wp_X8_pressesTiedWith jp1 S0 post) : Met l yX8_pressesTiedWith (wM yX8_pressesTiedWith cX8_pressesTiedWith 5 (some (FieldType.int))) ({ frames := 1, cells := 0, slots := 0, locals := 21 } : Room) (PC G S0 [.ref a0, .ref ap1]) (QI G S0 post) 0 0 (QA G) := by
  refine mt_start RX8 (by decide) rfl (Nat.le_of_ble_eq_true rfl) ?_
  intro p e s m args below meth c ls F hr hlk hnm hw hl
  have hx := F.1
  have hb := F.2.1
  have hown := F.2.2.2.1
  have hts := F.2.2.2.2
  have hX : Ext S0 S0 := Ext.rf
  have hsz0 := hw.1.1.1
  have hl : lv_has ls 5 [(0, .ref a0), (1, .ref ap1)] := hl
  unfold wp_X8_pressesTiedWith at hQ
  refine lv_iconst (v := 0) hx hb dX8_pressesTiedWith_0 (by decide) ?_
  refine lv_istore_n (lv' := [(2, .int (0 : Int32)), (0, .ref a0), (1, .ref ap1)]) hx hb dX8_pressesTiedWith_1 rfl hl (by decide) rfl (fun ls hl => ?_)
  refine lv_iconst (v := 0) hx hb dX8_pressesTiedWith_2 (by decide) ?_
  refine lv_istore_n (lv' := [(3, .int (0 : Int32)), (2, .int (0 : Int32)), (0, .ref a0), (1, .ref ap1)]) hx hb dX8_pressesTiedWith_3 rfl hl (by decide) rfl (fun ls hl => ?_)
  have hloop4 : ∀ (n4 : Nat) (x3_4 : Int32) (x2_4 : Int32) (S1 : St) (H : Heap) (locs : List Loc) (ls : Array Slot) (cl4 sl4 : Nat), lp_X8_pressesTiedWith_4 jp1 post n4 x3_4 x2_4 S1 → WW G S1 s H locs → Ext S0 S1 → AtO S1 7 0 a0 → AtO S1 1 jp1 ap1 → lv_has ls 5 [(3, .int x3_4), (2, .int x2_4), (0, .ref a0), (1, .ref ap1)] → cl4 ≤ 0 + 0 → sl4 ≤ 0 + 0 → W p l e ({ frames := 1, cells := 0, slots := 0, locals := 21 } : Room) s m args below meth c H locs cl4 sl4 (MQ below (QI G S0 post) args s 0 0 (QA G)) (F0 m 4 ls []) := by
    intro n4
    induction n4 with
    | zero => intro x3_4 x2_4 S1 H locs ls cl sl hQ; exact False.elim hQ
    | succ n4 ih4 =>
      intro x3_4 x2_4 S1 H locs ls cl4 sl4 hQ hw hX hA0 hAp1 hl hcl4 hsl4
      have hQ : bd_X8_pressesTiedWith_4 jp1 post (fun x3_4 x2_4 S1 => lp_X8_pressesTiedWith_4 jp1 post n4 x3_4 x2_4 S1) x3_4 x2_4 S1 := hQ
      unfold bd_X8_pressesTiedWith_4 at hQ
      refine lv_iload_n hx hb dX8_pressesTiedWith_4 rfl (lv_at hl 0 rfl) ?_
      refine lv_aload_n hx hb dX8_pressesTiedWith_5 rfl (lv_at hl 2 rfl) ?_
      refine g_7_7 F hw hA0 twf_RX8_60 dX8_pressesTiedWith_6 ?_
      refine lv_icmp_ge (tgt := 57) hx hb dX8_pressesTiedWith_9 (by decide) (fun hc => ?_) (fun hc => ?_)
      · have hQ := hQ.1 hc
        refine lv_iload_n hx hb dX8_pressesTiedWith_57 rfl (lv_at hl 1 rfl) ?_
        exact rt_i F hr hlk hw hX hQ (show cl4 ≤ 0 from by omega) (show sl4 ≤ 0 from by omega) dX8_pressesTiedWith_58
      · have hQ := hQ.2 hc
        refine lv_aload_n hx hb dX8_pressesTiedWith_12 rfl (lv_at hl 2 rfl) ?_
        refine lv_iload_n hx hb dX8_pressesTiedWith_13 rfl (lv_at hl 0 rfl) ?_
        refine k_X8_buyerAt F hw hl hA0 hQ twm_RX8_89 (Nat.le_of_ble_eq_true rfl) (Nat.le_of_ble_eq_true rfl) (Nat.le_of_ble_eq_true rfl) dX8_pressesTiedWith_14 (show cl4 + 0 ≤ 0 from by omega) (show sl4 + 0 ≤ 0 from by omega) (fun S2 H locs hQ hw hx1 => ?_) (fun j4 a4 S2 H locs hQ hA4 hw hx1 => ?_)
        · have hQ := hQ.1 rfl
          have hX := hX.trans hx1
          have hA0 := hA0.ext hx1
          have hAp1 := hAp1.ext hx1
          refine lv_astoreN (lv' := [(4, .null), (3, .int x3_4), (2, .int x2_4), (0, .ref a0), (1, .ref ap1)]) hx hb dX8_pressesTiedWith_17 hl (by decide) rfl (fun ls hl => ?_)
          refine lv_aloadN hx hb dX8_pressesTiedWith_19 (lv_at hl 0 rfl) ?_
          refine lv_ifnullN (tgt := 51) hx hb dX8_pressesTiedWith_21 (by decide) ?_
          obtain ⟨v5, ev5⟩ : ∃ y : Int32, y = x3_4 + (1 : Int32) := ⟨_, rfl⟩
          have hQ := hQ v5 ev5
          refine lv_iinc (v := v5) (lv' := [(3, .int v5), (4, .null), (2, .int x2_4), (0, .ref a0), (1, .ref ap1)]) hx hb dX8_pressesTiedWith_51 hl (k := 1) rfl (by rw [ev5]; rfl) (by decide) rfl (fun ls hl => ?_)
          refine lv_goto (tgt := 4) hx hb dX8_pressesTiedWith_54 (by decide) ?_
          exact ih4 v5 x2_4 S2 _ _ _ _ _ hQ hw hX hA0 hAp1 (lv_sub hl [0, 2, 3, 4] rfl) (by omega) (by omega)
        · have hQ := hQ.2 j4 rfl
          have hX := hX.trans hx1
          have hA0 := hA0.ext hx1
          have hAp1 := hAp1.ext hx1
          refine lv_astore (lv' := [(4, .ref a4), (3, .int x3_4), (2, .int x2_4), (0, .ref a0), (1, .ref ap1)]) hx hb dX8_pressesTiedWith_17 hl (by decide) rfl (fun ls hl => ?_)
          refine lv_aload hx hb dX8_pressesTiedWith_19 (lv_at hl 0 rfl) ?_
          refine lv_ifnull hx hb dX8_pressesTiedWith_21 ?_
          refine lv_iload_n hx hb dX8_pressesTiedWith_24 rfl (lv_at hl 1 rfl) ?_
          refine lv_aload_n hx hb dX8_pressesTiedWith_25 rfl (lv_at hl 4 rfl) ?_
          refine g_1_0 F hw hAp1 twf_RX8_359 dX8_pressesTiedWith_26 ?_
          refine lv_icmp_eq (tgt := 51) hx hb dX8_pressesTiedWith_29 (by decide) (fun hc => ?_) (fun hc => ?_)
          · have hQ := hQ.1 hc
            obtain ⟨v6, ev6⟩ : ∃ y : Int32, y = x3_4 + (1 : Int32) := ⟨_, rfl⟩
            have hQ := hQ v6 ev6
            refine lv_iinc (v := v6) (lv' := [(3, .int v6), (4, .ref a4), (2, .int x2_4), (0, .ref a0), (1, .ref ap1)]) hx hb dX8_pressesTiedWith_51 hl (k := 1) rfl (by rw [ev6]; rfl) (by decide) rfl (fun ls hl => ?_)
            refine lv_goto (tgt := 4) hx hb dX8_pressesTiedWith_54 (by decide) ?_
            exact ih4 v6 x2_4 S2 _ _ _ _ _ hQ hw hX hA0 hAp1 (lv_sub hl [0, 2, 3, 4] rfl) (by omega) (by omega)
          · have hQ := hQ.2 hc
            refine lv_aload hx hb dX8_pressesTiedWith_32 (lv_at hl 0 rfl) ?_
            refine g_1_3 F hw hA4 twf_RX8_205 dX8_pressesTiedWith_34 ?_
            refine lv_aload_n hx hb dX8_pressesTiedWith_37 rfl (lv_at hl 4 rfl) ?_
            refine g_1_3 F hw hAp1 twf_RX8_205 dX8_pressesTiedWith_38 ?_
            refine lc_ne (tgt := 51) F dX8_pressesTiedWith_41 dX8_pressesTiedWith_42 (by decide) (fun hc => ?_) (fun hc => ?_)
            · have hQ := hQ.1 hc
              obtain ⟨v7, ev7⟩ : ∃ y : Int32, y = x3_4 + (1 : Int32) := ⟨_, rfl⟩
              have hQ := hQ v7 ev7
              refine lv_iinc (v := v7) (lv' := [(3, .int v7), (4, .ref a4), (2, .int x2_4), (0, .ref a0), (1, .ref ap1)]) hx hb dX8_pressesTiedWith_51 hl (k := 1) rfl (by rw [ev7]; rfl) (by decide) rfl (fun ls hl => ?_)
              refine lv_goto (tgt := 4) hx hb dX8_pressesTiedWith_54 (by decide) ?_
              exact ih4 v7 x2_4 S2 _ _ _ _ _ hQ hw hX hA0 hAp1 (lv_sub hl [0, 2, 3, 4] rfl) (by omega) (by omega)
            · have hQ := hQ.2 hc
              refine lv_iload_n hx hb dX8_pressesTiedWith_45 rfl (lv_at hl 2 rfl) ?_
              refine lv_iconst (v := 1) hx hb dX8_pressesTiedWith_46 (by decide) ?_
              refine lv_iload_n hx hb dX8_pressesTiedWith_47 rfl (lv_at hl 1 rfl) ?_
              refine lv_ishl hx hb dX8_pressesTiedWith_48 ?_
              refine lv_ior hx hb dX8_pressesTiedWith_49 ?_
              refine lv_topi (fun v8 ev8 => ?_)
              have hQ := hQ v8 ev8
              refine lv_istore_n (lv' := [(2, .int v8), (4, .ref a4), (3, .int x3_4), (0, .ref a0), (1, .ref ap1)]) hx hb dX8_pressesTiedWith_50 rfl hl (by decide) rfl (fun ls hl => ?_)
              obtain ⟨v9, ev9⟩ : ∃ y : Int32, y = x3_4 + (1 : Int32) := ⟨_, rfl⟩
              have hQ := hQ v9 ev9
              refine lv_iinc (v := v9) (lv' := [(3, .int v9), (2, .int v8), (4, .ref a4), (0, .ref a0), (1, .ref ap1)]) hx hb dX8_pressesTiedWith_51 hl (k := 2) rfl (by rw [ev9]; rfl) (by decide) rfl (fun ls hl => ?_)
              refine lv_goto (tgt := 4) hx hb dX8_pressesTiedWith_54 (by decide) ?_
              exact ih4 v9 v8 S2 _ _ _ _ _ hQ hw hX hA0 hAp1 (lv_sub hl [0, 1, 3, 4] rfl) (by omega) (by omega)
  obtain ⟨n, hQ⟩ := hQ
  exact hloop4 n (0 : Int32) (0 : Int32) S0 _ _ _ _ _ hQ hw hX hA0 hAp1 (lv_sub hl [0, 1, 2, 3] rfl) (by omega) (by omega)
theorem k_X8_pressesTiedWith {p : Program} {l : Launch} {e : Env} {R : Room} {s : State} {m : MethodId} {args : Array Value} {below : List Frame} {meth : Method} {c : Code} {H : Heap} {locs : List Loc} {cells slots : Nat} {Q : State → Prop} {cc : ByteArray} {pc nL : Nat} {ls : Array Slot} {rest : List Value} {G : GT} {S : St} {own : String} {jp1 : Nat} {post : Int32 → St → Prop} {lv : List (Nat × Value)} {idx : Nat} (F : CX p m c cc nL s args own) (hw : WW G S s H locs) (hl : lv_has ls nL lv) {a0 : Nat} (hA0 : AtO S 7 0 a0) {ap1 : Nat} (hAp1 : AtO S 1 jp1 ap1) (hQ : wp_X8_pressesTiedWith jp1 S post) (h1 : Cond.methodLink own idx yX8_pressesTiedWith ∈ wT) (hR1 : 1 + 1 ≤ R.frames) (hR2 : 8 + (5 + 11) + 21 ≤ R.locals) (hrest : (rest.map fun v => v.category).sum ≤ 8) (hdg : decode cc pc = .ok (.invokevirtual idx, 3)) (hf1 : cells + 0 ≤ R.cells) (hf2 : slots + 0 ≤ R.slots)
    (kk : ∀ (r : Int32) (S1 : St) (H1 : Heap) (locs1 : List Loc), post r S1 → WW G S1 s H1 locs1 → Ext S S1 → W p l e R s m args below meth c H1 locs1 (cells + 0) (slots + 0) Q (F0 m (pc + 3) ls (.int r :: rest))) : W p l e R s m args below meth c H locs cells slots Q (F0 m pc ls (.ref ap1 :: .ref a0 :: rest)) :=
  cl_i (rn_V (n := 1) (As := [.ref ap1]) (q := (RX8, TX8, 11)) F hw hl (m_X8_pressesTiedWith l G jp1 S a0 hA0 ap1 hAp1 post hQ) 7 (by decide) (by decide) hA0 rfl rfl h1 twi_yX8_pressesTiedWith tws_yX8_pressesTiedWith twn_RX8 two_yX8_pressesTiedWith rfl rfl ⟨rfl, by decide, by decide, by decide +kernel⟩ rfl ⟨hR1, hR2⟩ rfl hrest hdg ⟨hf1, hf2⟩) hw kk
-- X5_sellTo
def wp_X5_sellTo (j0 : Nat) (p1 : Int32) (p2 : Int64) (S0 : St) (post : St → Prop) : Prop :=
  ∀ S1 : St, S1 = sr S0 5 j0 4 (some 3) →
  ∀ S2 : St, S2 = si S1 5 j0 5 p1 →
  ∀ S3 : St, S3 = sj S2 5 j0 6 p2 →
  post S3
set_option maxRecDepth 100000 in
set_option maxHeartbeats 4000000 in
theorem m_X5_sellTo (l : Launch) (G : GT) (j0 : Nat) (p1 : Int32) (p2 : Int64) (S0 : St) (a0 : Nat) (hA0 : AtO S0 5 j0 a0) (post : St → Prop) (hQ : wp_X5_sellTo j0 p1 p2 S0 post) : Met l yX5_sellTo (wM yX5_sellTo cX5_sellTo 4 none) ({ frames := 0, cells := 0, slots := 0, locals := 0 } : Room) (PC G S0 [.ref a0, .int p1, .long p2]) (QV G S0 post) 0 0 (QA G) := by
  refine mt_start RX5 (by decide) rfl (Nat.le_of_ble_eq_true rfl) ?_
  intro p e s m args below meth c ls F hr hlk hnm hw hl
  have hx := F.1
  have hb := F.2.1
  have hown := F.2.2.2.1
  have hts := F.2.2.2.2
  have hX : Ext S0 S0 := Ext.rf
  have hsz0 := hw.1.1.1
  have hl : lv_has ls 4 [(0, .ref a0), (1, .int p1), (2, .long p2)] := hl
  unfold wp_X5_sellTo at hQ
  refine lv_aload_n hx hb dX5_sellTo_0 rfl (lv_at hl 0 rfl) ?_
  refine pw_gets F hw 3 (by decide) rfl twf_RX5_37 dX5_sellTo_1 ?_
  refine p_5_4 F hw hA0 twf_RX5_31 (by decide) dX5_sellTo_4 (fun S1 H locs eS1 hw hx1 => ?_)
  have hQ := hQ S1 eS1
  have hX := hX.trans hx1
  have hA0 := hA0.ext hx1
  refine lv_aload_n hx hb dX5_sellTo_7 rfl (lv_at hl 0 rfl) ?_
  refine lv_iload_n hx hb dX5_sellTo_8 rfl (lv_at hl 1 rfl) ?_
  refine p_5_5 F hw hA0 twf_RX5_34 dX5_sellTo_9 (fun S2 H locs eS2 hw hx1 => ?_)
  have hQ := hQ S2 eS2
  have hX := hX.trans hx1
  have hA0 := hA0.ext hx1
  refine lv_aload_n hx hb dX5_sellTo_12 rfl (lv_at hl 0 rfl) ?_
  refine lv_lload_n hx hb dX5_sellTo_13 rfl (lv_at hl 2 rfl) ?_
  refine p_5_6 F hw hA0 twf_RX5_49 dX5_sellTo_14 (fun S3 H locs eS3 hw hx1 => ?_)
  have hQ := hQ S3 eS3
  have hX := hX.trans hx1
  have hA0 := hA0.ext hx1
  exact rt_v F hr hlk hw hX hQ (show 0 ≤ 0 from by omega) (show 0 ≤ 0 from by omega) dX5_sellTo_17
theorem k_X5_sellTo {p : Program} {l : Launch} {e : Env} {R : Room} {s : State} {m : MethodId} {args : Array Value} {below : List Frame} {meth : Method} {c : Code} {H : Heap} {locs : List Loc} {cells slots : Nat} {Q : State → Prop} {cc : ByteArray} {pc nL : Nat} {ls : Array Slot} {rest : List Value} {G : GT} {S : St} {own : String} {j0 : Nat} {p1 : Int32} {p2 : Int64} {post : St → Prop} {lv : List (Nat × Value)} {idx : Nat} (F : CX p m c cc nL s args own) (hw : WW G S s H locs) (hl : lv_has ls nL lv) {a0 : Nat} (hA0 : AtO S 5 j0 a0) (hQ : wp_X5_sellTo j0 p1 p2 S post) (h1 : Cond.methodLink own idx yX5_sellTo ∈ wT) (hR1 : 0 + 1 ≤ R.frames) (hR2 : 8 + (4 + 11) + 0 ≤ R.locals) (hrest : (rest.map fun v => v.category).sum ≤ 8) (hdg : decode cc pc = .ok (.invokevirtual idx, 3)) (hf1 : cells + 0 ≤ R.cells) (hf2 : slots + 0 ≤ R.slots)
    (kk : ∀ (S1 : St) (H1 : Heap) (locs1 : List Loc), post S1 → WW G S1 s H1 locs1 → Ext S S1 → W p l e R s m args below meth c H1 locs1 (cells + 0) (slots + 0) Q (F0 m (pc + 3) ls rest)) : W p l e R s m args below meth c H locs cells slots Q (F0 m pc ls (.long p2 :: .int p1 :: .ref a0 :: rest)) :=
  cl_v (rn_V (n := 2) (As := [.int p1, .long p2]) (q := (RX5, TX5, 12)) F hw hl (m_X5_sellTo l G j0 p1 p2 S a0 hA0 post hQ) 5 (by decide) (by decide) hA0 rfl rfl h1 twi_yX5_sellTo tws_yX5_sellTo twn_RX5 two_yX5_sellTo rfl rfl ⟨rfl, by decide, by decide, by decide +kernel⟩ rfl ⟨hR1, hR2⟩ rfl hrest hdg ⟨hf1, hf2⟩) hw kk
-- X8_dropPressesFrom
def bd_X8_dropPressesFrom_2 (p1 : Int64) (post : St → Prop) (K2 : Int32 → St → Prop) (x3_2 : Int32) (S1 : St) : Prop :=
  ((gi S1 7 0 7) ≤ x3_2 →
  post S1) ∧
  (¬ (gi S1 7 0 7) ≤ x3_2 →
  wp_X8_buyerAt x3_2 S1 (fun r3 S2 =>
  (r3 = none →
  ∀ v5 : Int32, v5 = x3_2 + (1 : Int32) →
  K2 v5 S2) ∧
  (∀ j4 : Nat, r3 = some j4 →
  ((gj S2 1 j4 3) < p1 →
  ∀ v6 : Int32, v6 = x3_2 + (1 : Int32) →
  K2 v6 S2) ∧
  (¬ (gj S2 1 j4 3) < p1 →
  wp_X1_dropPress j4 S2 (fun S7 =>
  ∀ v8 : Int32, v8 = x3_2 + (1 : Int32) →
  K2 v8 S7)))))
def lp_X8_dropPressesFrom_2 (p1 : Int64) (post : St → Prop) : Nat → Int32 → St → Prop
  | 0, _, _ => False
  | n + 1, x3_2, S1 => bd_X8_dropPressesFrom_2 p1 post (fun x3_2 S1 => lp_X8_dropPressesFrom_2 p1 post n x3_2 S1) x3_2 S1
def wp_X8_dropPressesFrom (p1 : Int64) (S0 : St) (post : St → Prop) : Prop :=
  ∃ n : Nat, lp_X8_dropPressesFrom_2 p1 post n (0 : Int32) S0
set_option maxRecDepth 100000 in
set_option maxHeartbeats 4000000 in
theorem m_X8_dropPressesFrom (l : Launch) (G : GT) (p1 : Int64) (S0 : St) (a0 : Nat) (hA0 : AtO S0 7 0 a0) (post : St → Prop) (hQ : wp_X8_dropPressesFrom p1 S0 post) : Met l yX8_dropPressesFrom (wM yX8_dropPressesFrom cX8_dropPressesFrom 5 none) ({ frames := 1, cells := 0, slots := 0, locals := 21 } : Room) (PC G S0 [.ref a0, .long p1]) (QV G S0 post) 0 0 (QA G) := by
  refine mt_start RX8 (by decide) rfl (Nat.le_of_ble_eq_true rfl) ?_
  intro p e s m args below meth c ls F hr hlk hnm hw hl
  have hx := F.1
  have hb := F.2.1
  have hown := F.2.2.2.1
  have hts := F.2.2.2.2
  have hX : Ext S0 S0 := Ext.rf
  have hsz0 := hw.1.1.1
  have hl : lv_has ls 5 [(0, .ref a0), (1, .long p1)] := hl
  unfold wp_X8_dropPressesFrom at hQ
  refine lv_iconst (v := 0) hx hb dX8_dropPressesFrom_0 (by decide) ?_
  refine lv_istore_n (lv' := [(3, .int (0 : Int32)), (0, .ref a0), (1, .long p1)]) hx hb dX8_dropPressesFrom_1 rfl hl (by decide) rfl (fun ls hl => ?_)
  have hloop2 : ∀ (n2 : Nat) (x3_2 : Int32) (S1 : St) (H : Heap) (locs : List Loc) (ls : Array Slot) (cl2 sl2 : Nat), lp_X8_dropPressesFrom_2 p1 post n2 x3_2 S1 → WW G S1 s H locs → Ext S0 S1 → AtO S1 7 0 a0 → lv_has ls 5 [(3, .int x3_2), (0, .ref a0), (1, .long p1)] → cl2 ≤ 0 + 0 → sl2 ≤ 0 + 0 → W p l e ({ frames := 1, cells := 0, slots := 0, locals := 21 } : Room) s m args below meth c H locs cl2 sl2 (MQ below (QV G S0 post) args s 0 0 (QA G)) (F0 m 2 ls []) := by
    intro n2
    induction n2 with
    | zero => intro x3_2 S1 H locs ls cl sl hQ; exact False.elim hQ
    | succ n2 ih2 =>
      intro x3_2 S1 H locs ls cl2 sl2 hQ hw hX hA0 hl hcl2 hsl2
      have hQ : bd_X8_dropPressesFrom_2 p1 post (fun x3_2 S1 => lp_X8_dropPressesFrom_2 p1 post n2 x3_2 S1) x3_2 S1 := hQ
      unfold bd_X8_dropPressesFrom_2 at hQ
      refine lv_iload_n hx hb dX8_dropPressesFrom_2 rfl (lv_at hl 0 rfl) ?_
      refine lv_aload_n hx hb dX8_dropPressesFrom_3 rfl (lv_at hl 1 rfl) ?_
      refine g_7_7 F hw hA0 twf_RX8_60 dX8_dropPressesFrom_4 ?_
      refine lv_icmp_ge (tgt := 43) hx hb dX8_dropPressesFrom_7 (by decide) (fun hc => ?_) (fun hc => ?_)
      · have hQ := hQ.1 hc
        exact rt_v F hr hlk hw hX hQ (show cl2 ≤ 0 from by omega) (show sl2 ≤ 0 from by omega) dX8_dropPressesFrom_43
      · have hQ := hQ.2 hc
        refine lv_aload_n hx hb dX8_dropPressesFrom_10 rfl (lv_at hl 1 rfl) ?_
        refine lv_iload_n hx hb dX8_dropPressesFrom_11 rfl (lv_at hl 0 rfl) ?_
        refine k_X8_buyerAt F hw hl hA0 hQ twm_RX8_89 (Nat.le_of_ble_eq_true rfl) (Nat.le_of_ble_eq_true rfl) (Nat.le_of_ble_eq_true rfl) dX8_dropPressesFrom_12 (show cl2 + 0 ≤ 0 from by omega) (show sl2 + 0 ≤ 0 from by omega) (fun S2 H locs hQ hw hx1 => ?_) (fun j4 a4 S2 H locs hQ hA4 hw hx1 => ?_)
        · have hQ := hQ.1 rfl
          have hX := hX.trans hx1
          have hA0 := hA0.ext hx1
          refine lv_astoreN (lv' := [(4, .null), (3, .int x3_2), (0, .ref a0), (1, .long p1)]) hx hb dX8_dropPressesFrom_15 hl (by decide) rfl (fun ls hl => ?_)
          refine lv_aloadN hx hb dX8_dropPressesFrom_17 (lv_at hl 0 rfl) ?_
          refine lv_ifnullN (tgt := 37) hx hb dX8_dropPressesFrom_19 (by decide) ?_
          obtain ⟨v5, ev5⟩ : ∃ y : Int32, y = x3_2 + (1 : Int32) := ⟨_, rfl⟩
          have hQ := hQ v5 ev5
          refine lv_iinc (v := v5) (lv' := [(3, .int v5), (4, .null), (0, .ref a0), (1, .long p1)]) hx hb dX8_dropPressesFrom_37 hl (k := 1) rfl (by rw [ev5]; rfl) (by decide) rfl (fun ls hl => ?_)
          refine lv_goto (tgt := 2) hx hb dX8_dropPressesFrom_40 (by decide) ?_
          exact ih2 v5 S2 _ _ _ _ _ hQ hw hX hA0 (lv_sub hl [0, 2, 3] rfl) (by omega) (by omega)
        · have hQ := hQ.2 j4 rfl
          have hX := hX.trans hx1
          have hA0 := hA0.ext hx1
          refine lv_astore (lv' := [(4, .ref a4), (3, .int x3_2), (0, .ref a0), (1, .long p1)]) hx hb dX8_dropPressesFrom_15 hl (by decide) rfl (fun ls hl => ?_)
          refine lv_aload hx hb dX8_dropPressesFrom_17 (lv_at hl 0 rfl) ?_
          refine lv_ifnull hx hb dX8_dropPressesFrom_19 ?_
          refine lv_aload hx hb dX8_dropPressesFrom_22 (lv_at hl 0 rfl) ?_
          refine g_1_3 F hw hA4 twf_RX8_205 dX8_dropPressesFrom_24 ?_
          refine lv_lload_n hx hb dX8_dropPressesFrom_27 rfl (lv_at hl 3 rfl) ?_
          refine lc_lt (tgt := 37) F dX8_dropPressesFrom_28 dX8_dropPressesFrom_29 (by decide) (fun hc => ?_) (fun hc => ?_)
          · have hQ := hQ.1 hc
            obtain ⟨v6, ev6⟩ : ∃ y : Int32, y = x3_2 + (1 : Int32) := ⟨_, rfl⟩
            have hQ := hQ v6 ev6
            refine lv_iinc (v := v6) (lv' := [(3, .int v6), (4, .ref a4), (0, .ref a0), (1, .long p1)]) hx hb dX8_dropPressesFrom_37 hl (k := 1) rfl (by rw [ev6]; rfl) (by decide) rfl (fun ls hl => ?_)
            refine lv_goto (tgt := 2) hx hb dX8_dropPressesFrom_40 (by decide) ?_
            exact ih2 v6 S2 _ _ _ _ _ hQ hw hX hA0 (lv_sub hl [0, 2, 3] rfl) (by omega) (by omega)
          · have hQ := hQ.2 hc
            refine lv_aload hx hb dX8_dropPressesFrom_32 (lv_at hl 0 rfl) ?_
            refine k_X1_dropPress F hw hl hA4 hQ twm_RX8_384 (Nat.le_of_ble_eq_true rfl) (Nat.le_of_ble_eq_true rfl) (Nat.le_of_ble_eq_true rfl) dX8_dropPressesFrom_34 (show (cl2 + 0) + 0 ≤ 0 from by omega) (show (sl2 + 0) + 0 ≤ 0 from by omega) (fun S7 H locs hQ hw hx1 => ?_)
            have hX := hX.trans hx1
            have hA4 := hA4.ext hx1
            have hA0 := hA0.ext hx1
            obtain ⟨v8, ev8⟩ : ∃ y : Int32, y = x3_2 + (1 : Int32) := ⟨_, rfl⟩
            have hQ := hQ v8 ev8
            refine lv_iinc (v := v8) (lv' := [(3, .int v8), (4, .ref a4), (0, .ref a0), (1, .long p1)]) hx hb dX8_dropPressesFrom_37 hl (k := 1) rfl (by rw [ev8]; rfl) (by decide) rfl (fun ls hl => ?_)
            refine lv_goto (tgt := 2) hx hb dX8_dropPressesFrom_40 (by decide) ?_
            exact ih2 v8 S7 _ _ _ _ _ hQ hw hX hA0 (lv_sub hl [0, 2, 3] rfl) (by omega) (by omega)
  obtain ⟨n, hQ⟩ := hQ
  exact hloop2 n (0 : Int32) S0 _ _ _ _ _ hQ hw hX hA0 (lv_sub hl [0, 1, 2] rfl) (by omega) (by omega)
theorem k_X8_dropPressesFrom {p : Program} {l : Launch} {e : Env} {R : Room} {s : State} {m : MethodId} {args : Array Value} {below : List Frame} {meth : Method} {c : Code} {H : Heap} {locs : List Loc} {cells slots : Nat} {Q : State → Prop} {cc : ByteArray} {pc nL : Nat} {ls : Array Slot} {rest : List Value} {G : GT} {S : St} {own : String} {p1 : Int64} {post : St → Prop} {lv : List (Nat × Value)} {idx : Nat} (F : CX p m c cc nL s args own) (hw : WW G S s H locs) (hl : lv_has ls nL lv) {a0 : Nat} (hA0 : AtO S 7 0 a0) (hQ : wp_X8_dropPressesFrom p1 S post) (h1 : Cond.methodLink own idx yX8_dropPressesFrom ∈ wT) (hR1 : 1 + 1 ≤ R.frames) (hR2 : 8 + (5 + 11) + 21 ≤ R.locals) (hrest : (rest.map fun v => v.category).sum ≤ 8) (hdg : decode cc pc = .ok (.invokevirtual idx, 3)) (hf1 : cells + 0 ≤ R.cells) (hf2 : slots + 0 ≤ R.slots)
    (kk : ∀ (S1 : St) (H1 : Heap) (locs1 : List Loc), post S1 → WW G S1 s H1 locs1 → Ext S S1 → W p l e R s m args below meth c H1 locs1 (cells + 0) (slots + 0) Q (F0 m (pc + 3) ls rest)) : W p l e R s m args below meth c H locs cells slots Q (F0 m pc ls (.long p1 :: .ref a0 :: rest)) :=
  cl_v (rn_V (n := 1) (As := [.long p1]) (q := (RX8, TX8, 11)) F hw hl (m_X8_dropPressesFrom l G p1 S a0 hA0 post hQ) 7 (by decide) (by decide) hA0 rfl rfl h1 twi_yX8_dropPressesFrom tws_yX8_dropPressesFrom twn_RX8 two_yX8_dropPressesFrom rfl rfl ⟨rfl, by decide, by decide, by decide +kernel⟩ rfl ⟨hR1, hR2⟩ rfl hrest hdg ⟨hf1, hf2⟩) hw kk
-- X8_stopClock
def wp_X8_stopClock  (S0 : St) (post : St → Prop) : Prop :=
  ∀ S2 : St, S2 = sr S0 4 0 0 none →
  wp_X8_dropPressesFrom (0 : Int64) S2 (fun S3 =>
  post S3)
set_option maxRecDepth 100000 in
set_option maxHeartbeats 4000000 in
theorem m_X8_stopClock (l : Launch) (G : GT)  (S0 : St) (a0 : Nat) (hA0 : AtO S0 7 0 a0) (post : St → Prop) (hQ : wp_X8_stopClock S0 post) : Met l yX8_stopClock (wM yX8_stopClock cX8_stopClock 1 none) ({ frames := 2, cells := 0, slots := 0, locals := 45 } : Room) (PC G S0 [.ref a0]) (QV G S0 post) 0 0 (QA G) := by
  refine mt_start RX8 (by decide) rfl (Nat.le_of_ble_eq_true rfl) ?_
  intro p e s m args below meth c ls F hr hlk hnm hw hl
  have hx := F.1
  have hb := F.2.1
  have hown := F.2.2.2.1
  have hts := F.2.2.2.2
  have hX : Ext S0 S0 := Ext.rf
  have hsz0 := hw.1.1.1
  have hl : lv_has ls 1 [(0, .ref a0)] := hl
  unfold wp_X8_stopClock at hQ
  refine lv_aload_n hx hb dX8_stopClock_0 rfl (lv_at hl 0 rfl) ?_
  refine g_7_3 F hw hA0 twf_RX8_30 dX8_stopClock_1 (fun a1 hA1 => ?_)
  refine lv_null hx hb dX8_stopClock_4 ?_
  refine p_4_0n F hw hA1 twf_RX8_164 dX8_stopClock_5 (fun S2 H locs eS2 hw hx1 => ?_)
  have hQ := hQ S2 eS2
  have hX := hX.trans hx1
  have hA0 := hA0.ext hx1
  refine lv_aload_n hx hb dX8_stopClock_8 rfl (lv_at hl 0 rfl) ?_
  refine lv_lconst (v := 0) hx hb dX8_stopClock_9 (by decide) ?_
  refine k_X8_dropPressesFrom F hw hl hA0 hQ twm_RX8_225 (Nat.le_of_ble_eq_true rfl) (Nat.le_of_ble_eq_true rfl) (Nat.le_of_ble_eq_true rfl) dX8_stopClock_10 (show 0 + 0 ≤ 0 from by omega) (show 0 + 0 ≤ 0 from by omega) (fun S3 H locs hQ hw hx1 => ?_)
  have hX := hX.trans hx1
  have hA0 := hA0.ext hx1
  exact rt_v F hr hlk hw hX hQ (show (0 + 0) ≤ 0 from by omega) (show (0 + 0) ≤ 0 from by omega) dX8_stopClock_13
theorem k_X8_stopClock {p : Program} {l : Launch} {e : Env} {R : Room} {s : State} {m : MethodId} {args : Array Value} {below : List Frame} {meth : Method} {c : Code} {H : Heap} {locs : List Loc} {cells slots : Nat} {Q : State → Prop} {cc : ByteArray} {pc nL : Nat} {ls : Array Slot} {rest : List Value} {G : GT} {S : St} {own : String}  {post : St → Prop} {lv : List (Nat × Value)} {idx : Nat} (F : CX p m c cc nL s args own) (hw : WW G S s H locs) (hl : lv_has ls nL lv) {a0 : Nat} (hA0 : AtO S 7 0 a0) (hQ : wp_X8_stopClock S post) (h1 : Cond.methodLink own idx yX8_stopClock ∈ wT) (hR1 : 2 + 1 ≤ R.frames) (hR2 : 8 + (1 + 11) + 45 ≤ R.locals) (hrest : (rest.map fun v => v.category).sum ≤ 8) (hdg : decode cc pc = .ok (.invokevirtual idx, 3)) (hf1 : cells + 0 ≤ R.cells) (hf2 : slots + 0 ≤ R.slots)
    (kk : ∀ (S1 : St) (H1 : Heap) (locs1 : List Loc), post S1 → WW G S1 s H1 locs1 → Ext S S1 → W p l e R s m args below meth c H1 locs1 (cells + 0) (slots + 0) Q (F0 m (pc + 3) ls rest)) : W p l e R s m args below meth c H locs cells slots Q (F0 m pc ls (.ref a0 :: rest)) :=
  cl_v (rn_V (n := 0) (As := []) (q := (RX8, TX8, 11)) F hw hl (m_X8_stopClock l G  S a0 hA0 post hQ) 7 (by decide) (by decide) hA0 rfl rfl h1 twi_yX8_stopClock tws_yX8_stopClock twn_RX8 two_yX8_stopClock rfl rfl ⟨rfl, by decide, by decide, by decide +kernel⟩ rfl ⟨hR1, hR2⟩ rfl hrest hdg ⟨hf1, hf2⟩) hw kk
-- X8_sellByClock
def wp_X8_sellByClock (jp1 : Nat) (jp2 : Nat) (S0 : St) (post : St → Prop) : Prop :=
  wp_X8_pressesTiedWith jp2 S0 (fun r2 S1 =>
  ∀ S3 : St, S3 = si S1 5 jp1 11 r2 →
  ∀ S4 : St, S4 = si S3 5 jp1 8 (1 : Int32) →
  wp_X4_priceAt (gj S4 1 jp2 3) S4 (fun r7 S6 =>
  wp_X5_sellTo jp1 (gi S4 1 jp2 0) r7 S6 (fun S8 =>
  wp_X8_stopClock S8 (fun S9 =>
  wp_X2_add (1 : Int32) (gi S9 5 jp1 0) (gi S9 5 jp1 5) (gj S9 5 jp1 6) S9 (fun S11 =>
  post S11)))))
set_option maxRecDepth 100000 in
set_option maxHeartbeats 4000000 in
theorem m_X8_sellByClock (l : Launch) (G : GT) (jp1 : Nat) (jp2 : Nat) (S0 : St) (a0 : Nat) (hA0 : AtO S0 7 0 a0) (ap1 : Nat) (hAp1 : AtO S0 5 jp1 ap1) (ap2 : Nat) (hAp2 : AtO S0 1 jp2 ap2) (post : St → Prop) (hQ : wp_X8_sellByClock jp1 jp2 S0 post) : Met l yX8_sellByClock (wM yX8_sellByClock cX8_sellByClock 3 none) ({ frames := 3, cells := 1, slots := 5, locals := 65 } : Room) (PC G S0 [.ref a0, .ref ap1, .ref ap2]) (QV G S0 post) 1 5 (QA G) := by
  refine mt_start RX8 (by decide) rfl (Nat.le_of_ble_eq_true rfl) ?_
  intro p e s m args below meth c ls F hr hlk hnm hw hl
  have hx := F.1
  have hb := F.2.1
  have hown := F.2.2.2.1
  have hts := F.2.2.2.2
  have hX : Ext S0 S0 := Ext.rf
  have hsz0 := hw.1.1.1
  have hl : lv_has ls 3 [(0, .ref a0), (1, .ref ap1), (2, .ref ap2)] := hl
  unfold wp_X8_sellByClock at hQ
  refine lv_aload_n hx hb dX8_sellByClock_0 rfl (lv_at hl 1 rfl) ?_
  refine lv_aload_n hx hb dX8_sellByClock_1 rfl (lv_at hl 0 rfl) ?_
  refine lv_aload_n hx hb dX8_sellByClock_2 rfl (lv_at hl 2 rfl) ?_
  refine k_X8_pressesTiedWith F hw hl hA0 hAp2 hQ twm_RX8_387 (Nat.le_of_ble_eq_true rfl) (Nat.le_of_ble_eq_true rfl) (Nat.le_of_ble_eq_true rfl) dX8_sellByClock_3 (show 0 + 0 ≤ 1 from by omega) (show 0 + 0 ≤ 5 from by omega) (fun r2 S1 H locs hQ hw hx1 => ?_)
  have hX := hX.trans hx1
  have hAp1 := hAp1.ext hx1
  have hA0 := hA0.ext hx1
  have hAp2 := hAp2.ext hx1
  refine p_5_11 F hw hAp1 twf_RX8_391 dX8_sellByClock_6 (fun S3 H locs eS3 hw hx1 => ?_)
  have hQ := hQ S3 eS3
  have hX := hX.trans hx1
  have hA0 := hA0.ext hx1
  have hAp1 := hAp1.ext hx1
  have hAp2 := hAp2.ext hx1
  refine lv_aload_n hx hb dX8_sellByClock_9 rfl (lv_at hl 1 rfl) ?_
  refine lv_iconst (v := 1) hx hb dX8_sellByClock_10 (by decide) ?_
  refine p_5_8 F hw hAp1 twf_RX8_126 (Or.inr rfl) dX8_sellByClock_11 (fun S4 H locs eS4 hw hx1 => ?_)
  have hQ := hQ S4 eS4
  have hX := hX.trans hx1
  have hA0 := hA0.ext hx1
  have hAp1 := hAp1.ext hx1
  have hAp2 := hAp2.ext hx1
  refine lv_aload_n hx hb dX8_sellByClock_14 rfl (lv_at hl 1 rfl) ?_
  refine lv_aload_n hx hb dX8_sellByClock_15 rfl (lv_at hl 2 rfl) ?_
  refine g_1_0 F hw hAp2 twf_RX8_359 dX8_sellByClock_16 ?_
  refine lv_aload_n hx hb dX8_sellByClock_19 rfl (lv_at hl 0 rfl) ?_
  refine g_7_3 F hw hA0 twf_RX8_30 dX8_sellByClock_20 (fun a5 hA5 => ?_)
  refine lv_aload_n hx hb dX8_sellByClock_23 rfl (lv_at hl 2 rfl) ?_
  refine g_1_3 F hw hAp2 twf_RX8_205 dX8_sellByClock_24 ?_
  refine k_X4_priceAt F hw hl hA5 hQ twm_RX8_228 (Nat.le_of_ble_eq_true rfl) (Nat.le_of_ble_eq_true rfl) (Nat.le_of_ble_eq_true rfl) dX8_sellByClock_27 (show (0 + 0) + 0 ≤ 1 from by omega) (show (0 + 0) + 0 ≤ 5 from by omega) (fun r7 S6 H locs hQ hw hx1 => ?_)
  have hX := hX.trans hx1
  have hAp1 := hAp1.ext hx1
  have hA0 := hA0.ext hx1
  have hAp2 := hAp2.ext hx1
  refine k_X5_sellTo F hw hl hAp1 hQ twm_RX8_394 (Nat.le_of_ble_eq_true rfl) (Nat.le_of_ble_eq_true rfl) (Nat.le_of_ble_eq_true rfl) dX8_sellByClock_30 (show ((0 + 0) + 0) + 0 ≤ 1 from by omega) (show ((0 + 0) + 0) + 0 ≤ 5 from by omega) (fun S8 H locs hQ hw hx1 => ?_)
  have hX := hX.trans hx1
  have hA0 := hA0.ext hx1
  have hAp1 := hAp1.ext hx1
  have hAp2 := hAp2.ext hx1
  refine lv_aload_n hx hb dX8_sellByClock_33 rfl (lv_at hl 0 rfl) ?_
  refine k_X8_stopClock F hw hl hA0 hQ twm_RX8_380 (Nat.le_of_ble_eq_true rfl) (Nat.le_of_ble_eq_true rfl) (Nat.le_of_ble_eq_true rfl) dX8_sellByClock_34 (show (((0 + 0) + 0) + 0) + 0 ≤ 1 from by omega) (show (((0 + 0) + 0) + 0) + 0 ≤ 5 from by omega) (fun S9 H locs hQ hw hx1 => ?_)
  have hX := hX.trans hx1
  have hA0 := hA0.ext hx1
  have hAp1 := hAp1.ext hx1
  have hAp2 := hAp2.ext hx1
  refine lv_aload_n hx hb dX8_sellByClock_37 rfl (lv_at hl 0 rfl) ?_
  refine g_7_4 F hw hA0 twf_RX8_37 dX8_sellByClock_38 (fun a10 hA10 => ?_)
  refine lv_iconst (v := 1) hx hb dX8_sellByClock_41 (by decide) ?_
  refine lv_aload_n hx hb dX8_sellByClock_42 rfl (lv_at hl 1 rfl) ?_
  refine g_5_0 F hw hAp1 twf_RX8_383 dX8_sellByClock_43 ?_
  refine lv_aload_n hx hb dX8_sellByClock_46 rfl (lv_at hl 1 rfl) ?_
  refine g_5_5 F hw hAp1 twf_RX8_77 dX8_sellByClock_47 ?_
  refine lv_aload_n hx hb dX8_sellByClock_50 rfl (lv_at hl 1 rfl) ?_
  refine g_5_6 F hw hAp1 twf_RX8_82 dX8_sellByClock_51 ?_
  refine k_X2_add F hw hl hA10 hQ twm_RX8_137 (Nat.le_of_ble_eq_true rfl) (Nat.le_of_ble_eq_true rfl) (Nat.le_of_ble_eq_true rfl) dX8_sellByClock_54 (show ((((0 + 0) + 0) + 0) + 0) + 1 ≤ 1 from by omega) (show ((((0 + 0) + 0) + 0) + 0) + 5 ≤ 5 from by omega) (fun S11 H locs hQ hw hx1 => ?_)
  have hX := hX.trans hx1
  have hA0 := hA0.ext hx1
  have hAp1 := hAp1.ext hx1
  have hAp2 := hAp2.ext hx1
  exact rt_v F hr hlk hw hX hQ (show (((((0 + 0) + 0) + 0) + 0) + 1) ≤ 1 from by omega) (show (((((0 + 0) + 0) + 0) + 0) + 5) ≤ 5 from by omega) dX8_sellByClock_57
theorem k_X8_sellByClock {p : Program} {l : Launch} {e : Env} {R : Room} {s : State} {m : MethodId} {args : Array Value} {below : List Frame} {meth : Method} {c : Code} {H : Heap} {locs : List Loc} {cells slots : Nat} {Q : State → Prop} {cc : ByteArray} {pc nL : Nat} {ls : Array Slot} {rest : List Value} {G : GT} {S : St} {own : String} {jp1 : Nat} {jp2 : Nat} {post : St → Prop} {lv : List (Nat × Value)} {idx : Nat} (F : CX p m c cc nL s args own) (hw : WW G S s H locs) (hl : lv_has ls nL lv) {a0 : Nat} (hA0 : AtO S 7 0 a0) {ap1 : Nat} (hAp1 : AtO S 5 jp1 ap1) {ap2 : Nat} (hAp2 : AtO S 1 jp2 ap2) (hQ : wp_X8_sellByClock jp1 jp2 S post) (h1 : Cond.methodLink own idx yX8_sellByClock ∈ wT) (hR1 : 3 + 1 ≤ R.frames) (hR2 : 8 + (3 + 11) + 65 ≤ R.locals) (hrest : (rest.map fun v => v.category).sum ≤ 8) (hdg : decode cc pc = .ok (.invokevirtual idx, 3)) (hf1 : cells + 1 ≤ R.cells) (hf2 : slots + 5 ≤ R.slots)
    (kk : ∀ (S1 : St) (H1 : Heap) (locs1 : List Loc), post S1 → WW G S1 s H1 locs1 → Ext S S1 → W p l e R s m args below meth c H1 locs1 (cells + 1) (slots + 5) Q (F0 m (pc + 3) ls rest)) : W p l e R s m args below meth c H locs cells slots Q (F0 m pc ls (.ref ap2 :: .ref ap1 :: .ref a0 :: rest)) :=
  cl_v (rn_V (n := 2) (As := [.ref ap1, .ref ap2]) (q := (RX8, TX8, 11)) F hw hl (m_X8_sellByClock l G jp1 jp2 S a0 hA0 ap1 hAp1 ap2 hAp2 post hQ) 7 (by decide) (by decide) hA0 rfl rfl h1 twi_yX8_sellByClock tws_yX8_sellByClock twn_RX8 two_yX8_sellByClock rfl rfl ⟨rfl, by decide, by decide, by decide +kernel⟩ rfl ⟨hR1, hR2⟩ rfl hrest hdg ⟨hf1, hf2⟩) hw kk
-- X8_runClock
def wp_X8_runClock (p1 : Int64) (S0 : St) (post : Int32 → St → Prop) : Prop :=
  (gr S0 4 0 0 = none →
  post (-1 : Int32) S0) ∧
  (∀ j2 : Nat, gr S0 4 0 0 = some j2 →
  ((gi S0 4 0 5) = 0 →
  wp_X4_goOn p1 S0 (fun S5 =>
  wp_X8_dropPressesThatCannotPay S5 (fun S6 =>
  wp_X8_firstDuePress S6 (fun r8 S7 =>
  (r8 = none →
  ((gj S7 4 0 3) ≤ (gj S7 4 0 4) →
  ∀ S12 : St, S12 = sr S7 5 j2 4 (some 4) →
  wp_X8_stopClock S12 (fun S13 =>
  wp_X2_add (2 : Int32) (gi S13 5 j2 0) (-1 : Int32) (0 : Int64) S13 (fun S15 =>
  post (2 : Int32) S15))) ∧
  (¬ (gj S7 4 0 3) ≤ (gj S7 4 0 4) →
  post (0 : Int32) S7)) ∧
  (∀ j9 : Nat, r8 = some j9 →
  wp_X8_sellByClock j2 j9 S7 (fun S16 =>
  post (1 : Int32) S16)))))) ∧
  (¬ (gi S0 4 0 5) = 0 →
  post (0 : Int32) S0))
set_option maxRecDepth 100000 in
set_option maxHeartbeats 4000000 in
theorem m_X8_runClock (l : Launch) (G : GT) (p1 : Int64) (S0 : St) (a0 : Nat) (hA0 : AtO S0 7 0 a0) (post : Int32 → St → Prop) (hQ : wp_X8_runClock p1 S0 post) : Met l yX8_runClock (wM yX8_runClock cX8_runClock 5 (some (FieldType.int))) ({ frames := 4, cells := 1, slots := 5, locals := 87 } : Room) (PC G S0 [.ref a0, .long p1]) (QI G S0 post) 1 5 (QA G) := by
  refine mt_start RX8 (by decide) rfl (Nat.le_of_ble_eq_true rfl) ?_
  intro p e s m args below meth c ls F hr hlk hnm hw hl
  have hx := F.1
  have hb := F.2.1
  have hown := F.2.2.2.1
  have hts := F.2.2.2.2
  have hX : Ext S0 S0 := Ext.rf
  have hsz0 := hw.1.1.1
  have hl : lv_has ls 5 [(0, .ref a0), (1, .long p1)] := hl
  unfold wp_X8_runClock at hQ
  refine lv_aload_n hx hb dX8_runClock_0 rfl (lv_at hl 0 rfl) ?_
  refine g_7_3 F hw hA0 twf_RX8_30 dX8_runClock_1 (fun a1 hA1 => ?_)
  refine g_4_0 F hw hA1 twf_RX8_164 dX8_runClock_4 (fun hrf => ?_) (fun j2 a2 hrf hA2 => ?_)
  · have hQ := hQ.1 hrf
    refine lv_astore_nN (lv' := [(3, .null), (0, .ref a0), (1, .long p1)]) hx hb dX8_runClock_7 rfl hl (by decide) rfl (fun ls hl => ?_)
    refine lv_aload_nN hx hb dX8_runClock_8 rfl (lv_at hl 0 rfl) ?_
    refine lv_ifnonnullN hx hb dX8_runClock_9 ?_
    refine lv_iconst (v := -1) hx hb dX8_runClock_12 (by decide) ?_
    exact rt_i F hr hlk hw hX hQ (show 0 ≤ 1 from by omega) (show 0 ≤ 5 from by omega) dX8_runClock_13
  · have hQ := hQ.2 j2 hrf
    refine lv_astore_n (lv' := [(3, .ref a2), (0, .ref a0), (1, .long p1)]) hx hb dX8_runClock_7 rfl hl (by decide) rfl (fun ls hl => ?_)
    refine lv_aload_n hx hb dX8_runClock_8 rfl (lv_at hl 0 rfl) ?_
    refine lv_ifnonnull (tgt := 14) hx hb dX8_runClock_9 (by decide) ?_
    refine lv_aload_n hx hb dX8_runClock_14 rfl (lv_at hl 1 rfl) ?_
    refine g_7_3 F hw hA0 twf_RX8_30 dX8_runClock_15 (fun a3 hA3 => ?_)
    refine g_4_5 F hw hA3 twf_RX8_188 dX8_runClock_18 ?_
    refine lv_if_eq (tgt := 26) hx hb dX8_runClock_21 (by decide) (fun hc => ?_) (fun hc => ?_)
    · have hQ := hQ.1 hc
      refine lv_aload_n hx hb dX8_runClock_26 rfl (lv_at hl 1 rfl) ?_
      refine g_7_3 F hw hA0 twf_RX8_30 dX8_runClock_27 (fun a4 hA4 => ?_)
      refine lv_lload_n hx hb dX8_runClock_30 rfl (lv_at hl 2 rfl) ?_
      refine k_X4_goOn F hw hl hA4 hQ twm_RX8_366 (Nat.le_of_ble_eq_true rfl) (Nat.le_of_ble_eq_true rfl) (Nat.le_of_ble_eq_true rfl) dX8_runClock_31 (show 0 + 0 ≤ 1 from by omega) (show 0 + 0 ≤ 5 from by omega) (fun S5 H locs hQ hw hx1 => ?_)
      have hX := hX.trans hx1
      have hA2 := hA2.ext hx1
      have hA0 := hA0.ext hx1
      refine lv_aload_n hx hb dX8_runClock_34 rfl (lv_at hl 1 rfl) ?_
      refine k_X8_dropPressesThatCannotPay F hw hl hA0 hQ twm_RX8_369 (Nat.le_of_ble_eq_true rfl) (Nat.le_of_ble_eq_true rfl) (Nat.le_of_ble_eq_true rfl) dX8_runClock_35 (show (0 + 0) + 0 ≤ 1 from by omega) (show (0 + 0) + 0 ≤ 5 from by omega) (fun S6 H locs hQ hw hx1 => ?_)
      have hX := hX.trans hx1
      have hA2 := hA2.ext hx1
      have hA0 := hA0.ext hx1
      refine lv_aload_n hx hb dX8_runClock_38 rfl (lv_at hl 1 rfl) ?_
      refine k_X8_firstDuePress F hw hl hA0 hQ twm_RX8_372 (Nat.le_of_ble_eq_true rfl) (Nat.le_of_ble_eq_true rfl) (Nat.le_of_ble_eq_true rfl) dX8_runClock_39 (show ((0 + 0) + 0) + 0 ≤ 1 from by omega) (show ((0 + 0) + 0) + 0 ≤ 5 from by omega) (fun S7 H locs hQ hw hx1 => ?_) (fun j9 a9 S7 H locs hQ hA9 hw hx1 => ?_)
      · have hQ := hQ.1 rfl
        have hX := hX.trans hx1
        have hA2 := hA2.ext hx1
        have hA0 := hA0.ext hx1
        refine lv_astoreN (lv' := [(4, .null), (3, .ref a2), (0, .ref a0), (1, .long p1)]) hx hb dX8_runClock_42 hl (by decide) rfl (fun ls hl => ?_)
        refine lv_aloadN hx hb dX8_runClock_44 (lv_at hl 0 rfl) ?_
        refine lv_ifnullN (tgt := 58) hx hb dX8_runClock_46 (by decide) ?_
        refine lv_aload_n hx hb dX8_runClock_58 rfl (lv_at hl 2 rfl) ?_
        refine g_7_3 F hw hA0 twf_RX8_30 dX8_runClock_59 (fun a10 hA10 => ?_)
        refine g_4_4 F hw hA10 twf_RX8_218 dX8_runClock_62 ?_
        refine lv_aload_n hx hb dX8_runClock_65 rfl (lv_at hl 2 rfl) ?_
        refine g_7_3 F hw hA0 twf_RX8_30 dX8_runClock_66 (fun a11 hA11 => ?_)
        refine g_4_3 F hw hA11 twf_RX8_198 dX8_runClock_69 ?_
        refine lc_ge (tgt := 78) F dX8_runClock_72 dX8_runClock_73 (by decide) (fun hc => ?_) (fun hc => ?_)
        · have hQ := hQ.1 hc
          refine lv_aload_n hx hb dX8_runClock_78 rfl (lv_at hl 1 rfl) ?_
          refine pw_gets F hw 4 (by decide) rfl twf_RX8_147 dX8_runClock_79 ?_
          refine p_5_4 F hw hA2 twf_RX8_100 (by decide) dX8_runClock_82 (fun S12 H locs eS12 hw hx1 => ?_)
          have hQ := hQ S12 eS12
          have hX := hX.trans hx1
          have hA2 := hA2.ext hx1
          have hA0 := hA0.ext hx1
          refine lv_aload_n hx hb dX8_runClock_85 rfl (lv_at hl 2 rfl) ?_
          refine k_X8_stopClock F hw hl hA0 hQ twm_RX8_380 (Nat.le_of_ble_eq_true rfl) (Nat.le_of_ble_eq_true rfl) (Nat.le_of_ble_eq_true rfl) dX8_runClock_86 (show (((0 + 0) + 0) + 0) + 0 ≤ 1 from by omega) (show (((0 + 0) + 0) + 0) + 0 ≤ 5 from by omega) (fun S13 H locs hQ hw hx1 => ?_)
          have hX := hX.trans hx1
          have hA2 := hA2.ext hx1
          have hA0 := hA0.ext hx1
          refine lv_aload_n hx hb dX8_runClock_89 rfl (lv_at hl 2 rfl) ?_
          refine g_7_4 F hw hA0 twf_RX8_37 dX8_runClock_90 (fun a14 hA14 => ?_)
          refine lv_iconst (v := 2) hx hb dX8_runClock_93 (by decide) ?_
          refine lv_aload_n hx hb dX8_runClock_94 rfl (lv_at hl 1 rfl) ?_
          refine g_5_0 F hw hA2 twf_RX8_383 dX8_runClock_95 ?_
          refine lv_iconst (v := -1) hx hb dX8_runClock_98 (by decide) ?_
          refine lv_lconst (v := 0) hx hb dX8_runClock_99 (by decide) ?_
          refine k_X2_add F hw hl hA14 hQ twm_RX8_137 (Nat.le_of_ble_eq_true rfl) (Nat.le_of_ble_eq_true rfl) (Nat.le_of_ble_eq_true rfl) dX8_runClock_100 (show ((((0 + 0) + 0) + 0) + 0) + 1 ≤ 1 from by omega) (show ((((0 + 0) + 0) + 0) + 0) + 5 ≤ 5 from by omega) (fun S15 H locs hQ hw hx1 => ?_)
          have hX := hX.trans hx1
          have hA2 := hA2.ext hx1
          have hA0 := hA0.ext hx1
          refine lv_iconst (v := 2) hx hb dX8_runClock_103 (by decide) ?_
          exact rt_i F hr hlk hw hX hQ (show (((((0 + 0) + 0) + 0) + 0) + 1) ≤ 1 from by omega) (show (((((0 + 0) + 0) + 0) + 0) + 5) ≤ 5 from by omega) dX8_runClock_104
        · have hQ := hQ.2 hc
          refine lv_iconst (v := 0) hx hb dX8_runClock_76 (by decide) ?_
          exact rt_i F hr hlk hw hX hQ (show (((0 + 0) + 0) + 0) ≤ 1 from by omega) (show (((0 + 0) + 0) + 0) ≤ 5 from by omega) dX8_runClock_77
      · have hQ := hQ.2 j9 rfl
        have hX := hX.trans hx1
        have hA2 := hA2.ext hx1
        have hA0 := hA0.ext hx1
        refine lv_astore (lv' := [(4, .ref a9), (3, .ref a2), (0, .ref a0), (1, .long p1)]) hx hb dX8_runClock_42 hl (by decide) rfl (fun ls hl => ?_)
        refine lv_aload hx hb dX8_runClock_44 (lv_at hl 0 rfl) ?_
        refine lv_ifnull hx hb dX8_runClock_46 ?_
        refine lv_aload_n hx hb dX8_runClock_49 rfl (lv_at hl 2 rfl) ?_
        refine lv_aload_n hx hb dX8_runClock_50 rfl (lv_at hl 1 rfl) ?_
        refine lv_aload hx hb dX8_runClock_51 (lv_at hl 0 rfl) ?_
        refine k_X8_sellByClock F hw hl hA0 hA2 hA9 hQ twm_RX8_376 (Nat.le_of_ble_eq_true rfl) (Nat.le_of_ble_eq_true rfl) (Nat.le_of_ble_eq_true rfl) dX8_runClock_53 (show (((0 + 0) + 0) + 0) + 1 ≤ 1 from by omega) (show (((0 + 0) + 0) + 0) + 5 ≤ 5 from by omega) (fun S16 H locs hQ hw hx1 => ?_)
        have hX := hX.trans hx1
        have hA9 := hA9.ext hx1
        have hA2 := hA2.ext hx1
        have hA0 := hA0.ext hx1
        refine lv_iconst (v := 1) hx hb dX8_runClock_56 (by decide) ?_
        exact rt_i F hr hlk hw hX hQ (show ((((0 + 0) + 0) + 0) + 1) ≤ 1 from by omega) (show ((((0 + 0) + 0) + 0) + 5) ≤ 5 from by omega) dX8_runClock_57
    · have hQ := hQ.2 hc
      refine lv_iconst (v := 0) hx hb dX8_runClock_24 (by decide) ?_
      exact rt_i F hr hlk hw hX hQ (show 0 ≤ 1 from by omega) (show 0 ≤ 5 from by omega) dX8_runClock_25
theorem k_X8_runClock {p : Program} {l : Launch} {e : Env} {R : Room} {s : State} {m : MethodId} {args : Array Value} {below : List Frame} {meth : Method} {c : Code} {H : Heap} {locs : List Loc} {cells slots : Nat} {Q : State → Prop} {cc : ByteArray} {pc nL : Nat} {ls : Array Slot} {rest : List Value} {G : GT} {S : St} {own : String} {p1 : Int64} {post : Int32 → St → Prop} {lv : List (Nat × Value)} {idx : Nat} (F : CX p m c cc nL s args own) (hw : WW G S s H locs) (hl : lv_has ls nL lv) {a0 : Nat} (hA0 : AtO S 7 0 a0) (hQ : wp_X8_runClock p1 S post) (h1 : Cond.methodLink own idx yX8_runClock ∈ wT) (hR1 : 4 + 1 ≤ R.frames) (hR2 : 8 + (5 + 11) + 87 ≤ R.locals) (hrest : (rest.map fun v => v.category).sum ≤ 8) (hdg : decode cc pc = .ok (.invokevirtual idx, 3)) (hf1 : cells + 1 ≤ R.cells) (hf2 : slots + 5 ≤ R.slots)
    (kk : ∀ (r : Int32) (S1 : St) (H1 : Heap) (locs1 : List Loc), post r S1 → WW G S1 s H1 locs1 → Ext S S1 → W p l e R s m args below meth c H1 locs1 (cells + 1) (slots + 5) Q (F0 m (pc + 3) ls (.int r :: rest))) : W p l e R s m args below meth c H locs cells slots Q (F0 m pc ls (.long p1 :: .ref a0 :: rest)) :=
  cl_i (rn_V (n := 1) (As := [.long p1]) (q := (RX8, TX8, 11)) F hw hl (m_X8_runClock l G p1 S a0 hA0 post hQ) 7 (by decide) (by decide) hA0 rfl rfl h1 twi_yX8_runClock tws_yX8_runClock twn_RX8 two_yX8_runClock rfl rfl ⟨rfl, by decide, by decide, by decide +kernel⟩ rfl ⟨hR1, hR2⟩ rfl hrest hdg ⟨hf1, hf2⟩) hw kk
-- X8_sellRipeOffers
def bd_X8_sellRipeOffers_2 (post : St → Prop) (K2 : Int32 → St → Prop) (x1_2 : Int32) (S1 : St) : Prop :=
  ((gi S1 7 0 6) ≤ x1_2 →
  post S1) ∧
  (¬ (gi S1 7 0 6) ≤ x1_2 →
  wp_X8_lotAt x1_2 S1 (fun r3 S2 =>
  (r3 = none →
  ∀ v5 : Int32, v5 = x1_2 + (1 : Int32) →
  K2 v5 S2) ∧
  (∀ j4 : Nat, r3 = some j4 →
  (¬ (gr S2 5 j4 4) = (some 2) →
  ∀ v7 : Int32, v7 = x1_2 + (1 : Int32) →
  K2 v7 S2) ∧
  ((gr S2 5 j4 4) = (some 2) →
  (((gj S2 7 0 9) - (gj S2 5 j4 7)) < (10000 : Int64) →
  ∀ v8 : Int32, v8 = x1_2 + (1 : Int32) →
  K2 v8 S2) ∧
  (¬ ((gj S2 7 0 9) - (gj S2 5 j4 7)) < (10000 : Int64) →
  wp_X5_sellTo j4 (gi S2 5 j4 5) (gj S2 5 j4 6) S2 (fun S9 =>
  wp_X2_add (3 : Int32) x1_2 (gi S9 5 j4 5) (gj S9 5 j4 6) S9 (fun S11 =>
  ∀ v12 : Int32, v12 = x1_2 + (1 : Int32) →
  K2 v12 S11)))))))
def lp_X8_sellRipeOffers_2 (post : St → Prop) : Nat → Int32 → St → Prop
  | 0, _, _ => False
  | n + 1, x1_2, S1 => bd_X8_sellRipeOffers_2 post (fun x1_2 S1 => lp_X8_sellRipeOffers_2 post n x1_2 S1) x1_2 S1
def wp_X8_sellRipeOffers  (S0 : St) (post : St → Prop) : Prop :=
  ∃ n : Nat, n ≤ 61 ∧ lp_X8_sellRipeOffers_2 post n (0 : Int32) S0
set_option maxRecDepth 100000 in
set_option maxHeartbeats 4000000 in
theorem m_X8_sellRipeOffers (l : Launch) (G : GT)  (S0 : St) (a0 : Nat) (hA0 : AtO S0 7 0 a0) (post : St → Prop) (hQ : wp_X8_sellRipeOffers S0 post) : Met l yX8_sellRipeOffers (wM yX8_sellRipeOffers cX8_sellRipeOffers 3 none) ({ frames := 3, cells := 61, slots := 305, locals := 63 } : Room) (PC G S0 [.ref a0]) (QV G S0 post) 61 305 (QA G) := by
  refine mt_start RX8 (by decide) rfl (Nat.le_of_ble_eq_true rfl) ?_
  intro p e s m args below meth c ls F hr hlk hnm hw hl
  have hx := F.1
  have hb := F.2.1
  have hown := F.2.2.2.1
  have hts := F.2.2.2.2
  have hX : Ext S0 S0 := Ext.rf
  have hsz0 := hw.1.1.1
  have hl : lv_has ls 3 [(0, .ref a0)] := hl
  unfold wp_X8_sellRipeOffers at hQ
  refine lv_iconst (v := 0) hx hb dX8_sellRipeOffers_0 (by decide) ?_
  refine lv_istore_n (lv' := [(1, .int (0 : Int32)), (0, .ref a0)]) hx hb dX8_sellRipeOffers_1 rfl hl (by decide) rfl (fun ls hl => ?_)
  have hloop2 : ∀ (n2 : Nat) (x1_2 : Int32) (S1 : St) (H : Heap) (locs : List Loc) (ls : Array Slot) (cl2 sl2 : Nat), lp_X8_sellRipeOffers_2 post n2 x1_2 S1 → WW G S1 s H locs → Ext S0 S1 → AtO S1 7 0 a0 → lv_has ls 3 [(1, .int x1_2), (0, .ref a0)] → cl2 + 1 * n2 ≤ 0 + 61 → sl2 + 5 * n2 ≤ 0 + 305 → W p l e ({ frames := 3, cells := 61, slots := 305, locals := 63 } : Room) s m args below meth c H locs cl2 sl2 (MQ below (QV G S0 post) args s 61 305 (QA G)) (F0 m 2 ls []) := by
    intro n2
    induction n2 with
    | zero => intro x1_2 S1 H locs ls cl sl hQ; exact False.elim hQ
    | succ n2 ih2 =>
      intro x1_2 S1 H locs ls cl2 sl2 hQ hw hX hA0 hl hcl2 hsl2
      have hQ : bd_X8_sellRipeOffers_2 post (fun x1_2 S1 => lp_X8_sellRipeOffers_2 post n2 x1_2 S1) x1_2 S1 := hQ
      unfold bd_X8_sellRipeOffers_2 at hQ
      refine lv_iload_n hx hb dX8_sellRipeOffers_2 rfl (lv_at hl 0 rfl) ?_
      refine lv_aload_n hx hb dX8_sellRipeOffers_3 rfl (lv_at hl 1 rfl) ?_
      refine g_7_6 F hw hA0 twf_RX8_115 dX8_sellRipeOffers_4 ?_
      refine lv_icmp_ge (tgt := 81) hx hb dX8_sellRipeOffers_7 (by decide) (fun hc => ?_) (fun hc => ?_)
      · have hQ := hQ.1 hc
        exact rt_v F hr hlk hw hX hQ (show cl2 ≤ 61 from by omega) (show sl2 ≤ 305 from by omega) dX8_sellRipeOffers_81
      · have hQ := hQ.2 hc
        refine lv_aload_n hx hb dX8_sellRipeOffers_10 rfl (lv_at hl 1 rfl) ?_
        refine lv_iload_n hx hb dX8_sellRipeOffers_11 rfl (lv_at hl 0 rfl) ?_
        refine k_X8_lotAt F hw hl hA0 hQ twm_RX8_69 (Nat.le_of_ble_eq_true rfl) (Nat.le_of_ble_eq_true rfl) (Nat.le_of_ble_eq_true rfl) dX8_sellRipeOffers_12 (show cl2 + 0 ≤ 61 from by omega) (show sl2 + 0 ≤ 305 from by omega) (fun S2 H locs hQ hw hx1 => ?_) (fun j4 a4 S2 H locs hQ hA4 hw hx1 => ?_)
        · have hQ := hQ.1 rfl
          have hX := hX.trans hx1
          have hA0 := hA0.ext hx1
          refine lv_astore_nN (lv' := [(2, .null), (1, .int x1_2), (0, .ref a0)]) hx hb dX8_sellRipeOffers_15 rfl hl (by decide) rfl (fun ls hl => ?_)
          refine lv_aload_nN hx hb dX8_sellRipeOffers_16 rfl (lv_at hl 0 rfl) ?_
          refine lv_ifnullN (tgt := 75) hx hb dX8_sellRipeOffers_17 (by decide) ?_
          obtain ⟨v5, ev5⟩ : ∃ y : Int32, y = x1_2 + (1 : Int32) := ⟨_, rfl⟩
          have hQ := hQ v5 ev5
          refine lv_iinc (v := v5) (lv' := [(1, .int v5), (2, .null), (0, .ref a0)]) hx hb dX8_sellRipeOffers_75 hl (k := 1) rfl (by rw [ev5]; rfl) (by decide) rfl (fun ls hl => ?_)
          refine lv_goto (tgt := 2) hx hb dX8_sellRipeOffers_78 (by decide) ?_
          exact ih2 v5 S2 _ _ _ _ _ hQ hw hX hA0 (lv_sub hl [0, 2] rfl) (by omega) (by omega)
        · have hQ := hQ.2 j4 rfl
          have hX := hX.trans hx1
          have hA0 := hA0.ext hx1
          refine lv_astore_n (lv' := [(2, .ref a4), (1, .int x1_2), (0, .ref a0)]) hx hb dX8_sellRipeOffers_15 rfl hl (by decide) rfl (fun ls hl => ?_)
          refine lv_aload_n hx hb dX8_sellRipeOffers_16 rfl (lv_at hl 0 rfl) ?_
          refine lv_ifnull hx hb dX8_sellRipeOffers_17 ?_
          refine lv_aload_n hx hb dX8_sellRipeOffers_20 rfl (lv_at hl 0 rfl) ?_
          have he6 := ww_es hw j4
          refine g_5_4 F hw hA4 twf_RX8_100 dX8_sellRipeOffers_21 ?_
          refine pw_gets F hw 2 (by decide) rfl twf_RX8_235 dX8_sellRipeOffers_24 ?_
          refine pw_acmp_ne (tgt := 75) F hw (by decide) he6 dX8_sellRipeOffers_27 (by decide) (fun hc => ?_) (fun hc => ?_)
          · have hQ := hQ.1 hc
            obtain ⟨v7, ev7⟩ : ∃ y : Int32, y = x1_2 + (1 : Int32) := ⟨_, rfl⟩
            have hQ := hQ v7 ev7
            refine lv_iinc (v := v7) (lv' := [(1, .int v7), (2, .ref a4), (0, .ref a0)]) hx hb dX8_sellRipeOffers_75 hl (k := 1) rfl (by rw [ev7]; rfl) (by decide) rfl (fun ls hl => ?_)
            refine lv_goto (tgt := 2) hx hb dX8_sellRipeOffers_78 (by decide) ?_
            exact ih2 v7 S2 _ _ _ _ _ hQ hw hX hA0 (lv_sub hl [0, 2] rfl) (by omega) (by omega)
          · have hQ := hQ.2 hc
            refine lv_aload_n hx hb dX8_sellRipeOffers_30 rfl (lv_at hl 2 rfl) ?_
            refine g_7_9 F hw hA0 twf_RX8_208 dX8_sellRipeOffers_31 ?_
            refine lv_aload_n hx hb dX8_sellRipeOffers_34 rfl (lv_at hl 0 rfl) ?_
            refine g_5_7 F hw hA4 twf_RX8_246 dX8_sellRipeOffers_35 ?_
            refine lv_lsub hx hb dX8_sellRipeOffers_38 ?_
            refine lv_ldc2 (v := 10000) hx hb hown (hts _ twl_RX8_397) dX8_sellRipeOffers_39 ?_
            refine lc_lt (tgt := 75) F dX8_sellRipeOffers_42 dX8_sellRipeOffers_43 (by decide) (fun hc => ?_) (fun hc => ?_)
            · have hQ := hQ.1 hc
              obtain ⟨v8, ev8⟩ : ∃ y : Int32, y = x1_2 + (1 : Int32) := ⟨_, rfl⟩
              have hQ := hQ v8 ev8
              refine lv_iinc (v := v8) (lv' := [(1, .int v8), (2, .ref a4), (0, .ref a0)]) hx hb dX8_sellRipeOffers_75 hl (k := 1) rfl (by rw [ev8]; rfl) (by decide) rfl (fun ls hl => ?_)
              refine lv_goto (tgt := 2) hx hb dX8_sellRipeOffers_78 (by decide) ?_
              exact ih2 v8 S2 _ _ _ _ _ hQ hw hX hA0 (lv_sub hl [0, 2] rfl) (by omega) (by omega)
            · have hQ := hQ.2 hc
              refine lv_aload_n hx hb dX8_sellRipeOffers_46 rfl (lv_at hl 0 rfl) ?_
              refine lv_aload_n hx hb dX8_sellRipeOffers_47 rfl (lv_at hl 0 rfl) ?_
              refine g_5_5 F hw hA4 twf_RX8_77 dX8_sellRipeOffers_48 ?_
              refine lv_aload_n hx hb dX8_sellRipeOffers_51 rfl (lv_at hl 0 rfl) ?_
              refine g_5_6 F hw hA4 twf_RX8_82 dX8_sellRipeOffers_52 ?_
              refine k_X5_sellTo F hw hl hA4 hQ twm_RX8_394 (Nat.le_of_ble_eq_true rfl) (Nat.le_of_ble_eq_true rfl) (Nat.le_of_ble_eq_true rfl) dX8_sellRipeOffers_55 (show (cl2 + 0) + 0 ≤ 61 from by omega) (show (sl2 + 0) + 0 ≤ 305 from by omega) (fun S9 H locs hQ hw hx1 => ?_)
              have hX := hX.trans hx1
              have hA4 := hA4.ext hx1
              have hA0 := hA0.ext hx1
              refine lv_aload_n hx hb dX8_sellRipeOffers_58 rfl (lv_at hl 2 rfl) ?_
              refine g_7_4 F hw hA0 twf_RX8_37 dX8_sellRipeOffers_59 (fun a10 hA10 => ?_)
              refine lv_iconst (v := 3) hx hb dX8_sellRipeOffers_62 (by decide) ?_
              refine lv_iload_n hx hb dX8_sellRipeOffers_63 rfl (lv_at hl 1 rfl) ?_
              refine lv_aload_n hx hb dX8_sellRipeOffers_64 rfl (lv_at hl 0 rfl) ?_
              refine g_5_5 F hw hA4 twf_RX8_77 dX8_sellRipeOffers_65 ?_
              refine lv_aload_n hx hb dX8_sellRipeOffers_68 rfl (lv_at hl 0 rfl) ?_
              refine g_5_6 F hw hA4 twf_RX8_82 dX8_sellRipeOffers_69 ?_
              refine k_X2_add F hw hl hA10 hQ twm_RX8_137 (Nat.le_of_ble_eq_true rfl) (Nat.le_of_ble_eq_true rfl) (Nat.le_of_ble_eq_true rfl) dX8_sellRipeOffers_72 (show ((cl2 + 0) + 0) + 1 ≤ 61 from by omega) (show ((sl2 + 0) + 0) + 5 ≤ 305 from by omega) (fun S11 H locs hQ hw hx1 => ?_)
              have hX := hX.trans hx1
              have hA4 := hA4.ext hx1
              have hA0 := hA0.ext hx1
              obtain ⟨v12, ev12⟩ : ∃ y : Int32, y = x1_2 + (1 : Int32) := ⟨_, rfl⟩
              have hQ := hQ v12 ev12
              refine lv_iinc (v := v12) (lv' := [(1, .int v12), (2, .ref a4), (0, .ref a0)]) hx hb dX8_sellRipeOffers_75 hl (k := 1) rfl (by rw [ev12]; rfl) (by decide) rfl (fun ls hl => ?_)
              refine lv_goto (tgt := 2) hx hb dX8_sellRipeOffers_78 (by decide) ?_
              exact ih2 v12 S11 _ _ _ _ _ hQ hw hX hA0 (lv_sub hl [0, 2] rfl) (by omega) (by omega)
  obtain ⟨n, hn, hQ⟩ := hQ
  exact hloop2 n (0 : Int32) S0 _ _ _ _ _ hQ hw hX hA0 (lv_sub hl [0, 1] rfl) (by omega) (by omega)
theorem k_X8_sellRipeOffers {p : Program} {l : Launch} {e : Env} {R : Room} {s : State} {m : MethodId} {args : Array Value} {below : List Frame} {meth : Method} {c : Code} {H : Heap} {locs : List Loc} {cells slots : Nat} {Q : State → Prop} {cc : ByteArray} {pc nL : Nat} {ls : Array Slot} {rest : List Value} {G : GT} {S : St} {own : String}  {post : St → Prop} {lv : List (Nat × Value)} {idx : Nat} (F : CX p m c cc nL s args own) (hw : WW G S s H locs) (hl : lv_has ls nL lv) {a0 : Nat} (hA0 : AtO S 7 0 a0) (hQ : wp_X8_sellRipeOffers S post) (h1 : Cond.methodLink own idx yX8_sellRipeOffers ∈ wT) (hR1 : 3 + 1 ≤ R.frames) (hR2 : 8 + (3 + 11) + 63 ≤ R.locals) (hrest : (rest.map fun v => v.category).sum ≤ 8) (hdg : decode cc pc = .ok (.invokevirtual idx, 3)) (hf1 : cells + 61 ≤ R.cells) (hf2 : slots + 305 ≤ R.slots)
    (kk : ∀ (S1 : St) (H1 : Heap) (locs1 : List Loc), post S1 → WW G S1 s H1 locs1 → Ext S S1 → W p l e R s m args below meth c H1 locs1 (cells + 61) (slots + 305) Q (F0 m (pc + 3) ls rest)) : W p l e R s m args below meth c H locs cells slots Q (F0 m pc ls (.ref a0 :: rest)) :=
  cl_v (rn_V (n := 0) (As := []) (q := (RX8, TX8, 11)) F hw hl (m_X8_sellRipeOffers l G  S a0 hA0 post hQ) 7 (by decide) (by decide) hA0 rfl rfl h1 twi_yX8_sellRipeOffers tws_yX8_sellRipeOffers twn_RX8 two_yX8_sellRipeOffers rfl rfl ⟨rfl, by decide, by decide, by decide +kernel⟩ rfl ⟨hR1, hR2⟩ rfl hrest hdg ⟨hf1, hf2⟩) hw kk
-- X8_tick
def wp_X8_tick (p1 : Int64) (S0 : St) (post : Int32 → St → Prop) : Prop :=
  wp_X8_isWithin p1 (1 : Int64) (1000000 : Int64) S0 (fun r2 S1 =>
  (¬ r2 = 0 →
  ∀ S3 : St, S3 = sj S1 7 0 9 ((gj S1 7 0 9) + p1) →
  wp_X8_runClock p1 S3 (fun r5 S4 =>
  wp_X8_sellRipeOffers S4 (fun S6 =>
  post r5 S6))) ∧
  (r2 = 0 →
  post (-1 : Int32) S1))
set_option maxRecDepth 100000 in
set_option maxHeartbeats 4000000 in
theorem m_X8_tick (l : Launch) (G : GT) (p1 : Int64) (S0 : St) (a0 : Nat) (hA0 : AtO S0 7 0 a0) (post : Int32 → St → Prop) (hQ : wp_X8_tick p1 S0 post) : Met l yX8_tick (wM yX8_tick cX8_tick 4 (some (FieldType.int))) ({ frames := 5, cells := 62, slots := 310, locals := 111 } : Room) (PC G S0 [.ref a0, .long p1]) (QI G S0 post) 62 310 (QA G) := by
  refine mt_start RX8 (by decide) rfl (Nat.le_of_ble_eq_true rfl) ?_
  intro p e s m args below meth c ls F hr hlk hnm hw hl
  have hx := F.1
  have hb := F.2.1
  have hown := F.2.2.2.1
  have hts := F.2.2.2.2
  have hX : Ext S0 S0 := Ext.rf
  have hsz0 := hw.1.1.1
  have hl : lv_has ls 4 [(0, .ref a0), (1, .long p1)] := hl
  unfold wp_X8_tick at hQ
  refine lv_lload_n hx hb dX8_tick_0 rfl (lv_at hl 1 rfl) ?_
  refine lv_lconst (v := 1) hx hb dX8_tick_1 (by decide) ?_
  refine lv_ldc2 (v := 1000000) hx hb hown (hts _ twl_RX8_168) dX8_tick_2 ?_
  refine k_X8_isWithin F hw hl hQ twm_RX8_50 (Nat.le_of_ble_eq_true rfl) (Nat.le_of_ble_eq_true rfl) (Nat.le_of_ble_eq_true rfl) dX8_tick_5 (show 0 + 0 ≤ 62 from by omega) (show 0 + 0 ≤ 310 from by omega) (fun r2 S1 H locs hQ hw hx1 => ?_)
  have hX := hX.trans hx1
  have hA0 := hA0.ext hx1
  refine lv_if_ne (tgt := 13) hx hb dX8_tick_8 (by decide) (fun hc => ?_) (fun hc => ?_)
  · have hQ := hQ.1 hc
    refine lv_aload_n hx hb dX8_tick_13 rfl (lv_at hl 0 rfl) ?_
    refine lv_dup hx hb dX8_tick_14 rfl ?_
    refine g_7_9 F hw hA0 twf_RX8_208 dX8_tick_15 ?_
    refine lv_lload_n hx hb dX8_tick_18 rfl (lv_at hl 1 rfl) ?_
    refine lv_ladd hx hb dX8_tick_19 ?_
    refine p_7_9 F hw hA0 twf_RX8_208 dX8_tick_20 (fun S3 H locs eS3 hw hx1 => ?_)
    have hQ := hQ S3 eS3
    have hX := hX.trans hx1
    have hA0 := hA0.ext hx1
    refine lv_aload_n hx hb dX8_tick_23 rfl (lv_at hl 0 rfl) ?_
    refine lv_lload_n hx hb dX8_tick_24 rfl (lv_at hl 1 rfl) ?_
    refine k_X8_runClock F hw hl hA0 hQ twm_RX8_211 (Nat.le_of_ble_eq_true rfl) (Nat.le_of_ble_eq_true rfl) (Nat.le_of_ble_eq_true rfl) dX8_tick_25 (show (0 + 0) + 1 ≤ 62 from by omega) (show (0 + 0) + 5 ≤ 310 from by omega) (fun r5 S4 H locs hQ hw hx1 => ?_)
    have hX := hX.trans hx1
    have hA0 := hA0.ext hx1
    refine lv_istore_n (lv' := [(3, .int r5), (0, .ref a0), (1, .long p1)]) hx hb dX8_tick_28 rfl hl (by decide) rfl (fun ls hl => ?_)
    refine lv_aload_n hx hb dX8_tick_29 rfl (lv_at hl 1 rfl) ?_
    refine k_X8_sellRipeOffers F hw hl hA0 hQ twm_RX8_215 (Nat.le_of_ble_eq_true rfl) (Nat.le_of_ble_eq_true rfl) (Nat.le_of_ble_eq_true rfl) dX8_tick_30 (show ((0 + 0) + 1) + 61 ≤ 62 from by omega) (show ((0 + 0) + 5) + 305 ≤ 310 from by omega) (fun S6 H locs hQ hw hx1 => ?_)
    have hX := hX.trans hx1
    have hA0 := hA0.ext hx1
    refine lv_iload_n hx hb dX8_tick_33 rfl (lv_at hl 0 rfl) ?_
    exact rt_i F hr hlk hw hX hQ (show (((0 + 0) + 1) + 61) ≤ 62 from by omega) (show (((0 + 0) + 5) + 305) ≤ 310 from by omega) dX8_tick_34
  · have hQ := hQ.2 hc
    refine lv_iconst (v := -1) hx hb dX8_tick_11 (by decide) ?_
    exact rt_i F hr hlk hw hX hQ (show (0 + 0) ≤ 62 from by omega) (show (0 + 0) ≤ 310 from by omega) dX8_tick_12
theorem k_X8_tick {p : Program} {l : Launch} {e : Env} {R : Room} {s : State} {m : MethodId} {args : Array Value} {below : List Frame} {meth : Method} {c : Code} {H : Heap} {locs : List Loc} {cells slots : Nat} {Q : State → Prop} {cc : ByteArray} {pc nL : Nat} {ls : Array Slot} {rest : List Value} {G : GT} {S : St} {own : String} {p1 : Int64} {post : Int32 → St → Prop} {lv : List (Nat × Value)} {idx : Nat} (F : CX p m c cc nL s args own) (hw : WW G S s H locs) (hl : lv_has ls nL lv) {a0 : Nat} (hA0 : AtO S 7 0 a0) (hQ : wp_X8_tick p1 S post) (h1 : Cond.methodLink own idx yX8_tick ∈ wT) (hR1 : 5 + 1 ≤ R.frames) (hR2 : 8 + (4 + 11) + 111 ≤ R.locals) (hrest : (rest.map fun v => v.category).sum ≤ 8) (hdg : decode cc pc = .ok (.invokevirtual idx, 3)) (hf1 : cells + 62 ≤ R.cells) (hf2 : slots + 310 ≤ R.slots)
    (kk : ∀ (r : Int32) (S1 : St) (H1 : Heap) (locs1 : List Loc), post r S1 → WW G S1 s H1 locs1 → Ext S S1 → W p l e R s m args below meth c H1 locs1 (cells + 62) (slots + 310) Q (F0 m (pc + 3) ls (.int r :: rest))) : W p l e R s m args below meth c H locs cells slots Q (F0 m pc ls (.long p1 :: .ref a0 :: rest)) :=
  cl_i (rn_V (n := 1) (As := [.long p1]) (q := (RX8, TX8, 11)) F hw hl (m_X8_tick l G p1 S a0 hA0 post hQ) 7 (by decide) (by decide) hA0 rfl rfl h1 twi_yX8_tick tws_yX8_tick twn_RX8 two_yX8_tick rfl rfl ⟨rfl, by decide, by decide, by decide +kernel⟩ rfl ⟨hR1, hR2⟩ rfl hrest hdg ⟨hf1, hf2⟩) hw kk

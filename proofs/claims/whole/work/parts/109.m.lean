-- X8_sellSet
def bd_X8_sellSet_8 (jp1 : Nat) (post : St → Prop) (K8 : Int32 → Int64 → St → Prop) (x4_8 : Int32) (x2_8 : Int64) (S2 : St) : Prop :=
  ((gi S2 7 0 6) ≤ x4_8 →
  post S2) ∧
  (¬ (gi S2 7 0 6) ≤ x4_8 →
  wp_X8_lotAt x4_8 S2 (fun r4 S3 =>
  (r4 = none →
  ∀ v6 : Int32, v6 = x4_8 + (1 : Int32) →
  K8 v6 x2_8 S3) ∧
  (∀ j5 : Nat, r4 = some j5 →
  wp_X0_isFor jp1 x4_8 S3 (fun r8 S7 =>
  (r8 = 0 →
  ∀ v9 : Int32, v9 = x4_8 + (1 : Int32) →
  K8 v9 x2_8 S7) ∧
  (¬ r8 = 0 →
  wp_X5_sellTo j5 (gi S7 0 jp1 1) x2_8 S7 (fun S10 =>
  wp_X2_add (4 : Int32) x4_8 (gi S10 0 jp1 1) x2_8 S10 (fun S12 =>
  ∀ v13 : Int32, v13 = x4_8 + (1 : Int32) →
  K8 v13 (0 : Int64) S12)))))))
def lp_X8_sellSet_8 (jp1 : Nat) (post : St → Prop) : Nat → Int32 → Int64 → St → Prop
  | 0, _, _, _ => False
  | n + 1, x4_8, x2_8, S2 => bd_X8_sellSet_8 jp1 post (fun x4_8 x2_8 S2 => lp_X8_sellSet_8 jp1 post n x4_8 x2_8 S2) x4_8 x2_8 S2
def wp_X8_sellSet (jp1 : Nat) (S0 : St) (post : St → Prop) : Prop :=
  ∀ v1 : Int64, v1 = gj S0 0 jp1 2 →
  ∃ n : Nat, n ≤ 61 ∧ lp_X8_sellSet_8 jp1 post n (0 : Int32) v1 S0
set_option maxRecDepth 100000 in
set_option maxHeartbeats 4000000 in
theorem m_X8_sellSet (l : Launch) (G : GT) (jp1 : Nat) (S0 : St) (a0 : Nat) (hA0 : AtO S0 7 0 a0) (ap1 : Nat) (hAp1 : AtO S0 0 jp1 ap1) (post : St → Prop) (hQ : wp_X8_sellSet jp1 S0 post) : Met l yX8_sellSet (wM yX8_sellSet cX8_sellSet 6 none) ({ frames := 3, cells := 61, slots := 305, locals := 63 } : Room) (PC G S0 [.ref a0, .ref ap1]) (QV G S0 post) 61 305 (QA G) := by
  refine mt_start RX8 (by decide) rfl (Nat.le_of_ble_eq_true rfl) ?_
  intro p e s m args below meth c ls F hr hlk hnm hw hl
  have hx := F.1
  have hb := F.2.1
  have hown := F.2.2.2.1
  have hts := F.2.2.2.2
  have hX : Ext S0 S0 := Ext.rf
  have hsz0 := hw.1.1.1
  have hl : lv_has ls 6 [(0, .ref a0), (1, .ref ap1)] := hl
  unfold wp_X8_sellSet at hQ
  refine lv_aload_n hx hb dX8_sellSet_0 rfl (lv_at hl 1 rfl) ?_
  refine g_0_2 F hw hAp1 twf_RX8_417 dX8_sellSet_1 ?_
  refine lv_topl (fun v1 ev1 => ?_)
  have hQ := hQ v1 ev1
  refine lv_lstore_n (lv' := [(2, .long v1), (0, .ref a0), (1, .ref ap1)]) hx hb dX8_sellSet_4 rfl hl (by decide) rfl (fun ls hl => ?_)
  refine lv_iconst (v := 0) hx hb dX8_sellSet_5 (by decide) ?_
  refine lv_istore (lv' := [(4, .int (0 : Int32)), (2, .long v1), (0, .ref a0), (1, .ref ap1)]) hx hb dX8_sellSet_6 hl (by decide) rfl (fun ls hl => ?_)
  have hloop8 : ∀ (n8 : Nat) (x4_8 : Int32) (x2_8 : Int64) (S2 : St) (H : Heap) (locs : List Loc) (ls : Array Slot) (cl8 sl8 : Nat), lp_X8_sellSet_8 jp1 post n8 x4_8 x2_8 S2 → WW G S2 s H locs → Ext S0 S2 → AtO S2 7 0 a0 → AtO S2 0 jp1 ap1 → lv_has ls 6 [(4, .int x4_8), (2, .long x2_8), (0, .ref a0), (1, .ref ap1)] → cl8 + 1 * n8 ≤ 0 + 61 → sl8 + 5 * n8 ≤ 0 + 305 → W p l e ({ frames := 3, cells := 61, slots := 305, locals := 63 } : Room) s m args below meth c H locs cl8 sl8 (MQ below (QV G S0 post) args s 61 305 (QA G)) (F0 m 8 ls []) := by
    intro n8
    induction n8 with
    | zero => intro x4_8 x2_8 S2 H locs ls cl sl hQ; exact False.elim hQ
    | succ n8 ih8 =>
      intro x4_8 x2_8 S2 H locs ls cl8 sl8 hQ hw hX hA0 hAp1 hl hcl8 hsl8
      have hQ : bd_X8_sellSet_8 jp1 post (fun x4_8 x2_8 S2 => lp_X8_sellSet_8 jp1 post n8 x4_8 x2_8 S2) x4_8 x2_8 S2 := hQ
      unfold bd_X8_sellSet_8 at hQ
      refine lv_iload hx hb dX8_sellSet_8 (lv_at hl 0 rfl) ?_
      refine lv_aload_n hx hb dX8_sellSet_10 rfl (lv_at hl 2 rfl) ?_
      refine g_7_6 F hw hA0 twf_RX8_115 dX8_sellSet_11 ?_
      refine lv_icmp_ge (tgt := 72) hx hb dX8_sellSet_14 (by decide) (fun hc => ?_) (fun hc => ?_)
      · have hQ := hQ.1 hc
        exact rt_v F hr hlk hw hX hQ (show cl8 ≤ 61 from by omega) (show sl8 ≤ 305 from by omega) dX8_sellSet_72
      · have hQ := hQ.2 hc
        refine lv_aload_n hx hb dX8_sellSet_17 rfl (lv_at hl 2 rfl) ?_
        refine lv_iload hx hb dX8_sellSet_18 (lv_at hl 0 rfl) ?_
        refine k_X8_lotAt F hw hl hA0 hQ twm_RX8_69 (Nat.le_of_ble_eq_true rfl) (Nat.le_of_ble_eq_true rfl) (Nat.le_of_ble_eq_true rfl) dX8_sellSet_20 (show cl8 + 0 ≤ 61 from by omega) (show sl8 + 0 ≤ 305 from by omega) (fun S3 H locs hQ hw hx1 => ?_) (fun j5 a5 S3 H locs hQ hA5 hw hx1 => ?_)
        · have hQ := hQ.1 rfl
          have hX := hX.trans hx1
          have hA0 := hA0.ext hx1
          have hAp1 := hAp1.ext hx1
          refine lv_astoreN (lv' := [(5, .null), (4, .int x4_8), (2, .long x2_8), (0, .ref a0), (1, .ref ap1)]) hx hb dX8_sellSet_23 hl (by decide) rfl (fun ls hl => ?_)
          refine lv_aloadN hx hb dX8_sellSet_25 (lv_at hl 0 rfl) ?_
          refine lv_ifnullN (tgt := 66) hx hb dX8_sellSet_27 (by decide) ?_
          obtain ⟨v6, ev6⟩ : ∃ y : Int32, y = x4_8 + (1 : Int32) := ⟨_, rfl⟩
          have hQ := hQ v6 ev6
          refine lv_iinc (v := v6) (lv' := [(4, .int v6), (5, .null), (2, .long x2_8), (0, .ref a0), (1, .ref ap1)]) hx hb dX8_sellSet_66 hl (k := 1) rfl (by rw [ev6]; rfl) (by decide) rfl (fun ls hl => ?_)
          refine lv_goto (tgt := 8) hx hb dX8_sellSet_69 (by decide) ?_
          exact ih8 v6 x2_8 S3 _ _ _ _ _ hQ hw hX hA0 hAp1 (lv_sub hl [0, 2, 3, 4] rfl) (by omega) (by omega)
        · have hQ := hQ.2 j5 rfl
          have hX := hX.trans hx1
          have hA0 := hA0.ext hx1
          have hAp1 := hAp1.ext hx1
          refine lv_astore (lv' := [(5, .ref a5), (4, .int x4_8), (2, .long x2_8), (0, .ref a0), (1, .ref ap1)]) hx hb dX8_sellSet_23 hl (by decide) rfl (fun ls hl => ?_)
          refine lv_aload hx hb dX8_sellSet_25 (lv_at hl 0 rfl) ?_
          refine lv_ifnull hx hb dX8_sellSet_27 ?_
          refine lv_aload_n hx hb dX8_sellSet_30 rfl (lv_at hl 4 rfl) ?_
          refine lv_iload hx hb dX8_sellSet_31 (lv_at hl 1 rfl) ?_
          refine k_X0_isFor F hw hl hAp1 hQ twm_RX8_259 (Nat.le_of_ble_eq_true rfl) (Nat.le_of_ble_eq_true rfl) (Nat.le_of_ble_eq_true rfl) dX8_sellSet_33 (show (cl8 + 0) + 0 ≤ 61 from by omega) (show (sl8 + 0) + 0 ≤ 305 from by omega) (fun r8 S7 H locs hQ hw hx1 => ?_)
          have hX := hX.trans hx1
          have hA5 := hA5.ext hx1
          have hA0 := hA0.ext hx1
          have hAp1 := hAp1.ext hx1
          refine lv_if_eq (tgt := 66) hx hb dX8_sellSet_36 (by decide) (fun hc => ?_) (fun hc => ?_)
          · have hQ := hQ.1 hc
            obtain ⟨v9, ev9⟩ : ∃ y : Int32, y = x4_8 + (1 : Int32) := ⟨_, rfl⟩
            have hQ := hQ v9 ev9
            refine lv_iinc (v := v9) (lv' := [(4, .int v9), (5, .ref a5), (2, .long x2_8), (0, .ref a0), (1, .ref ap1)]) hx hb dX8_sellSet_66 hl (k := 1) rfl (by rw [ev9]; rfl) (by decide) rfl (fun ls hl => ?_)
            refine lv_goto (tgt := 8) hx hb dX8_sellSet_69 (by decide) ?_
            exact ih8 v9 x2_8 S7 _ _ _ _ _ hQ hw hX hA0 hAp1 (lv_sub hl [0, 2, 3, 4] rfl) (by omega) (by omega)
          · have hQ := hQ.2 hc
            refine lv_aload hx hb dX8_sellSet_39 (lv_at hl 0 rfl) ?_
            refine lv_aload_n hx hb dX8_sellSet_41 rfl (lv_at hl 4 rfl) ?_
            refine g_0_1 F hw hAp1 twf_RX8_418 dX8_sellSet_42 ?_
            refine lv_lload_n hx hb dX8_sellSet_45 rfl (lv_at hl 2 rfl) ?_
            refine k_X5_sellTo F hw hl hA5 hQ twm_RX8_394 (Nat.le_of_ble_eq_true rfl) (Nat.le_of_ble_eq_true rfl) (Nat.le_of_ble_eq_true rfl) dX8_sellSet_46 (show ((cl8 + 0) + 0) + 0 ≤ 61 from by omega) (show ((sl8 + 0) + 0) + 0 ≤ 305 from by omega) (fun S10 H locs hQ hw hx1 => ?_)
            have hX := hX.trans hx1
            have hA5 := hA5.ext hx1
            have hA0 := hA0.ext hx1
            have hAp1 := hAp1.ext hx1
            refine lv_aload_n hx hb dX8_sellSet_49 rfl (lv_at hl 3 rfl) ?_
            refine g_7_4 F hw hA0 twf_RX8_37 dX8_sellSet_50 (fun a11 hA11 => ?_)
            refine lv_iconst (v := 4) hx hb dX8_sellSet_53 (by decide) ?_
            refine lv_iload hx hb dX8_sellSet_54 (lv_at hl 1 rfl) ?_
            refine lv_aload_n hx hb dX8_sellSet_56 rfl (lv_at hl 4 rfl) ?_
            refine g_0_1 F hw hAp1 twf_RX8_418 dX8_sellSet_57 ?_
            refine lv_lload_n hx hb dX8_sellSet_60 rfl (lv_at hl 2 rfl) ?_
            refine k_X2_add F hw hl hA11 hQ twm_RX8_137 (Nat.le_of_ble_eq_true rfl) (Nat.le_of_ble_eq_true rfl) (Nat.le_of_ble_eq_true rfl) dX8_sellSet_61 (show (((cl8 + 0) + 0) + 0) + 1 ≤ 61 from by omega) (show (((sl8 + 0) + 0) + 0) + 5 ≤ 305 from by omega) (fun S12 H locs hQ hw hx1 => ?_)
            have hX := hX.trans hx1
            have hA5 := hA5.ext hx1
            have hA0 := hA0.ext hx1
            have hAp1 := hAp1.ext hx1
            refine lv_lconst (v := 0) hx hb dX8_sellSet_64 (by decide) ?_
            refine lv_lstore_n (lv' := [(2, .long (0 : Int64)), (5, .ref a5), (4, .int x4_8), (0, .ref a0), (1, .ref ap1)]) hx hb dX8_sellSet_65 rfl hl (by decide) rfl (fun ls hl => ?_)
            obtain ⟨v13, ev13⟩ : ∃ y : Int32, y = x4_8 + (1 : Int32) := ⟨_, rfl⟩
            have hQ := hQ v13 ev13
            refine lv_iinc (v := v13) (lv' := [(4, .int v13), (2, .long (0 : Int64)), (5, .ref a5), (0, .ref a0), (1, .ref ap1)]) hx hb dX8_sellSet_66 hl (k := 2) rfl (by rw [ev13]; rfl) (by decide) rfl (fun ls hl => ?_)
            refine lv_goto (tgt := 8) hx hb dX8_sellSet_69 (by decide) ?_
            exact ih8 v13 (0 : Int64) S12 _ _ _ _ _ hQ hw hX hA0 hAp1 (lv_sub hl [0, 1, 3, 4] rfl) (by omega) (by omega)
  obtain ⟨n, hn, hQ⟩ := hQ
  exact hloop8 n (0 : Int32) v1 S0 _ _ _ _ _ hQ hw hX hA0 hAp1 (lv_sub hl [0, 1, 2, 3] rfl) (by omega) (by omega)
theorem k_X8_sellSet {p : Program} {l : Launch} {e : Env} {R : Room} {s : State} {m : MethodId} {args : Array Value} {below : List Frame} {meth : Method} {c : Code} {H : Heap} {locs : List Loc} {cells slots : Nat} {Q : State → Prop} {cc : ByteArray} {pc nL : Nat} {ls : Array Slot} {rest : List Value} {G : GT} {S : St} {own : String} {jp1 : Nat} {post : St → Prop} {lv : List (Nat × Value)} {idx : Nat} (F : CX p m c cc nL s args own) (hw : WW G S s H locs) (hl : lv_has ls nL lv) {a0 : Nat} (hA0 : AtO S 7 0 a0) {ap1 : Nat} (hAp1 : AtO S 0 jp1 ap1) (hQ : wp_X8_sellSet jp1 S post) (h1 : Cond.methodLink own idx yX8_sellSet ∈ wT) (hR1 : 3 + 1 ≤ R.frames) (hR2 : 8 + (6 + 11) + 63 ≤ R.locals) (hrest : (rest.map fun v => v.category).sum ≤ 8) (hdg : decode cc pc = .ok (.invokevirtual idx, 3)) (hf1 : cells + 61 ≤ R.cells) (hf2 : slots + 305 ≤ R.slots)
    (kk : ∀ (S1 : St) (H1 : Heap) (locs1 : List Loc), post S1 → WW G S1 s H1 locs1 → Ext S S1 → W p l e R s m args below meth c H1 locs1 (cells + 61) (slots + 305) Q (F0 m (pc + 3) ls rest)) : W p l e R s m args below meth c H locs cells slots Q (F0 m pc ls (.ref ap1 :: .ref a0 :: rest)) :=
  cl_v (rn_V (n := 1) (As := [.ref ap1]) (q := (RX8, TX8, 11)) F hw hl (m_X8_sellSet l G jp1 S a0 hA0 ap1 hAp1 post hQ) 7 (by decide) (by decide) hA0 rfl rfl h1 twi_yX8_sellSet tws_yX8_sellSet twn_RX8 two_yX8_sellSet rfl rfl ⟨rfl, by decide, by decide, by decide +kernel⟩ rfl ⟨hR1, hR2⟩ rfl hrest hdg ⟨hf1, hf2⟩) hw kk
-- X8_sets
def bd_X8_sets_51 (post : Int32 → St → Prop) (K51 : Int32 → St → Prop) (x3_51 : Int32) (S3 : St) : Prop :=
  ((gi S3 7 0 8) ≤ x3_51 →
  ∀ S4 : St, S4 = si S3 7 0 8 (0 : Int32) →
  wp_X6_chosenCount S4 (fun r7 S6 =>
  post r7 S6)) ∧
  (¬ (gi S3 7 0 8) ≤ x3_51 →
  wp_X8_bidAt x3_51 S3 (fun r9 S8 =>
  (r9 = none →
  ∀ v11 : Int32, v11 = x3_51 + (1 : Int32) →
  K51 v11 S8) ∧
  (∀ j10 : Nat, r9 = some j10 →
  wp_X6_hasChosen x3_51 S8 (fun r14 S13 =>
  (r14 = 0 →
  ∀ v15 : Int32, v15 = x3_51 + (1 : Int32) →
  K51 v15 S13) ∧
  (¬ r14 = 0 →
  wp_X8_sellSet j10 S13 (fun S16 =>
  ∀ v17 : Int32, v17 = x3_51 + (1 : Int32) →
  K51 v17 S16))))))
def lp_X8_sets_51 (post : Int32 → St → Prop) : Nat → Int32 → St → Prop
  | 0, _, _ => False
  | n + 1, x3_51, S3 => bd_X8_sets_51 post (fun x3_51 S3 => lp_X8_sets_51 post n x3_51 S3) x3_51 S3
def wp_X8_sets (p1 : Int64) (S0 : St) (post : Int32 → St → Prop) : Prop :=
  ((gi S0 7 0 8) ≤ 0 →
  ∀ S1 : St, S1 = si S0 7 0 10 (0 : Int32) →
  (¬ (gi S1 7 0 10) = 0 →
  wp_X8_findWinners S1 (fun S2 =>
  ∃ n : Nat, n ≤ 19 ∧ lp_X8_sets_51 post n (0 : Int32) S2)) ∧
  ((gi S1 7 0 10) = 0 →
  post (-1 : Int32) S1)) ∧
  (¬ (gi S0 7 0 8) ≤ 0 →
  ((18 : Int32) < (gi S0 7 0 8) →
  ∀ S18 : St, S18 = si S0 7 0 10 (0 : Int32) →
  (¬ (gi S18 7 0 10) = 0 →
  wp_X8_findWinners S18 (fun S19 =>
  ∃ n : Nat, n ≤ 19 ∧ lp_X8_sets_51 post n (0 : Int32) S19)) ∧
  ((gi S18 7 0 10) = 0 →
  post (-1 : Int32) S18)) ∧
  (¬ (18 : Int32) < (gi S0 7 0 8) →
  (p1 < ((1 : Int64) <<< ((gi S0 7 0 8).toInt64 &&& 63)) →
  ∀ S35 : St, S35 = si S0 7 0 10 (0 : Int32) →
  (¬ (gi S35 7 0 10) = 0 →
  wp_X8_findWinners S35 (fun S36 =>
  ∃ n : Nat, n ≤ 19 ∧ lp_X8_sets_51 post n (0 : Int32) S36)) ∧
  ((gi S35 7 0 10) = 0 →
  post (-1 : Int32) S35)) ∧
  (¬ p1 < ((1 : Int64) <<< ((gi S0 7 0 8).toInt64 &&& 63)) →
  ∀ S52 : St, S52 = si S0 7 0 10 (1 : Int32) →
  (¬ (gi S52 7 0 10) = 0 →
  wp_X8_findWinners S52 (fun S53 =>
  ∃ n : Nat, n ≤ 19 ∧ lp_X8_sets_51 post n (0 : Int32) S53)) ∧
  ((gi S52 7 0 10) = 0 →
  post (-1 : Int32) S52))))
set_option maxRecDepth 100000 in
set_option maxHeartbeats 4000000 in
theorem m_X8_sets (l : Launch) (G : GT) (p1 : Int64) (S0 : St) (a0 : Nat) (hA0 : AtO S0 7 0 a0) (post : Int32 → St → Prop) (hQ : wp_X8_sets p1 S0 post) : Met l yX8_sets (wM yX8_sets cX8_sets 5 (some (FieldType.int))) ({ frames := 26, cells := 1159, slots := 5795, locals := 672 } : Room) (PC G S0 [.ref a0, .long p1]) (QI G S0 post) 1159 5795 (QA G) := by
  refine mt_start RX8 (by decide) rfl (Nat.le_of_ble_eq_true rfl) ?_
  intro p e s m args below meth c ls F hr hlk hnm hw hl
  have hx := F.1
  have hb := F.2.1
  have hown := F.2.2.2.1
  have hts := F.2.2.2.2
  have hX : Ext S0 S0 := Ext.rf
  have hsz0 := hw.1.1.1
  have hl : lv_has ls 5 [(0, .ref a0), (1, .long p1)] := hl
  unfold wp_X8_sets at hQ
  refine lv_aload_n hx hb dX8_sets_0 rfl (lv_at hl 0 rfl) ?_
  refine lv_aload_n hx hb dX8_sets_1 rfl (lv_at hl 0 rfl) ?_
  refine g_7_8 F hw hA0 twf_RX8_249 dX8_sets_2 ?_
  refine lv_if_le (tgt := 32) hx hb dX8_sets_5 (by decide) (fun hc => ?_) (fun hc => ?_)
  · have hQ := hQ.1 hc
    refine lv_iconst (v := 0) hx hb dX8_sets_32 (by decide) ?_
    refine p_7_10 F hw hA0 twf_RX8_265 (Or.inl rfl) dX8_sets_33 (fun S1 H locs eS1 hw hx1 => ?_)
    have hQ := hQ S1 eS1
    have hX := hX.trans hx1
    have hA0 := hA0.ext hx1
    refine lv_aload_n hx hb dX8_sets_36 rfl (lv_at hl 0 rfl) ?_
    refine g_7_10 F hw hA0 twf_RX8_265 dX8_sets_37 ?_
    refine lv_if_ne (tgt := 45) hx hb dX8_sets_40 (by decide) (fun hc => ?_) (fun hc => ?_)
    · have hQ := hQ.1 hc
      refine lv_aload_n hx hb dX8_sets_45 rfl (lv_at hl 0 rfl) ?_
      refine k_X8_findWinners F hw hl hA0 hQ twm_RX8_268 (Nat.le_of_ble_eq_true rfl) (Nat.le_of_ble_eq_true rfl) (Nat.le_of_ble_eq_true rfl) dX8_sets_46 (show 0 + 0 ≤ 1159 from by omega) (show 0 + 0 ≤ 5795 from by omega) (fun S2 H locs hQ hw hx1 => ?_)
      have hX := hX.trans hx1
      have hA0 := hA0.ext hx1
      refine lv_iconst (v := 0) hx hb dX8_sets_49 (by decide) ?_
      refine lv_istore_n (lv' := [(3, .int (0 : Int32)), (0, .ref a0), (1, .long p1)]) hx hb dX8_sets_50 rfl hl (by decide) rfl (fun ls hl => ?_)
      have hloop51 : ∀ (n51 : Nat) (x3_51 : Int32) (S3 : St) (H : Heap) (locs : List Loc) (ls : Array Slot) (cl51 sl51 : Nat), lp_X8_sets_51 post n51 x3_51 S3 → WW G S3 s H locs → Ext S0 S3 → AtO S3 7 0 a0 → lv_has ls 5 [(3, .int x3_51), (0, .ref a0)] → cl51 + 61 * n51 ≤ (0 + 0) + 1159 → sl51 + 305 * n51 ≤ (0 + 0) + 5795 → W p l e ({ frames := 26, cells := 1159, slots := 5795, locals := 672 } : Room) s m args below meth c H locs cl51 sl51 (MQ below (QI G S0 post) args s 1159 5795 (QA G)) (F0 m 51 ls []) := by
        intro n51
        induction n51 with
        | zero => intro x3_51 S3 H locs ls cl sl hQ; exact False.elim hQ
        | succ n51 ih51 =>
          intro x3_51 S3 H locs ls cl51 sl51 hQ hw hX hA0 hl hcl51 hsl51
          have hQ : bd_X8_sets_51 post (fun x3_51 S3 => lp_X8_sets_51 post n51 x3_51 S3) x3_51 S3 := hQ
          unfold bd_X8_sets_51 at hQ
          refine lv_iload_n hx hb dX8_sets_51 rfl (lv_at hl 0 rfl) ?_
          refine lv_aload_n hx hb dX8_sets_52 rfl (lv_at hl 1 rfl) ?_
          refine g_7_8 F hw hA0 twf_RX8_249 dX8_sets_53 ?_
          refine lv_icmp_ge (tgt := 94) hx hb dX8_sets_56 (by decide) (fun hc => ?_) (fun hc => ?_)
          · have hQ := hQ.1 hc
            refine lv_aload_n hx hb dX8_sets_94 rfl (lv_at hl 1 rfl) ?_
            refine lv_iconst (v := 0) hx hb dX8_sets_95 (by decide) ?_
            refine p_7_8 F hw hA0 twf_RX8_249 dX8_sets_96 (fun S4 H locs eS4 hw hx1 => ?_)
            have hQ := hQ S4 eS4
            have hX := hX.trans hx1
            have hA0 := hA0.ext hx1
            refine lv_aload_n hx hb dX8_sets_99 rfl (lv_at hl 1 rfl) ?_
            refine g_7_5 F hw hA0 twf_RX8_44 dX8_sets_100 (fun a5 hA5 => ?_)
            refine k_X6_chosenCount F hw hl hA5 hQ twm_RX8_278 (Nat.le_of_ble_eq_true rfl) (Nat.le_of_ble_eq_true rfl) (Nat.le_of_ble_eq_true rfl) dX8_sets_103 (show cl51 + 0 ≤ 1159 from by omega) (show sl51 + 0 ≤ 5795 from by omega) (fun r7 S6 H locs hQ hw hx1 => ?_)
            have hX := hX.trans hx1
            have hA0 := hA0.ext hx1
            exact rt_i F hr hlk hw hX hQ (show (cl51 + 0) ≤ 1159 from by omega) (show (sl51 + 0) ≤ 5795 from by omega) dX8_sets_106
          · have hQ := hQ.2 hc
            refine lv_aload_n hx hb dX8_sets_59 rfl (lv_at hl 1 rfl) ?_
            refine lv_iload_n hx hb dX8_sets_60 rfl (lv_at hl 0 rfl) ?_
            refine k_X8_bidAt F hw hl hA0 hQ twm_RX8_255 (Nat.le_of_ble_eq_true rfl) (Nat.le_of_ble_eq_true rfl) (Nat.le_of_ble_eq_true rfl) dX8_sets_61 (show cl51 + 0 ≤ 1159 from by omega) (show sl51 + 0 ≤ 5795 from by omega) (fun S8 H locs hQ hw hx1 => ?_) (fun j10 a10 S8 H locs hQ hA10 hw hx1 => ?_)
            · have hQ := hQ.1 rfl
              have hX := hX.trans hx1
              have hA0 := hA0.ext hx1
              refine lv_astoreN (lv' := [(4, .null), (3, .int x3_51), (0, .ref a0)]) hx hb dX8_sets_64 hl (by decide) rfl (fun ls hl => ?_)
              refine lv_aloadN hx hb dX8_sets_66 (lv_at hl 0 rfl) ?_
              refine lv_ifnullN (tgt := 88) hx hb dX8_sets_68 (by decide) ?_
              obtain ⟨v11, ev11⟩ : ∃ y : Int32, y = x3_51 + (1 : Int32) := ⟨_, rfl⟩
              have hQ := hQ v11 ev11
              refine lv_iinc (v := v11) (lv' := [(3, .int v11), (4, .null), (0, .ref a0)]) hx hb dX8_sets_88 hl (k := 1) rfl (by rw [ev11]; rfl) (by decide) rfl (fun ls hl => ?_)
              refine lv_goto (tgt := 51) hx hb dX8_sets_91 (by decide) ?_
              exact ih51 v11 S8 _ _ _ _ _ hQ hw hX hA0 (lv_sub hl [0, 2] rfl) (by omega) (by omega)
            · have hQ := hQ.2 j10 rfl
              have hX := hX.trans hx1
              have hA0 := hA0.ext hx1
              refine lv_astore (lv' := [(4, .ref a10), (3, .int x3_51), (0, .ref a0)]) hx hb dX8_sets_64 hl (by decide) rfl (fun ls hl => ?_)
              refine lv_aload hx hb dX8_sets_66 (lv_at hl 0 rfl) ?_
              refine lv_ifnull hx hb dX8_sets_68 ?_
              refine lv_aload_n hx hb dX8_sets_71 rfl (lv_at hl 2 rfl) ?_
              refine g_7_5 F hw hA0 twf_RX8_44 dX8_sets_72 (fun a12 hA12 => ?_)
              refine lv_iload_n hx hb dX8_sets_75 rfl (lv_at hl 1 rfl) ?_
              refine k_X6_hasChosen F hw hl hA12 hQ twm_RX8_271 (Nat.le_of_ble_eq_true rfl) (Nat.le_of_ble_eq_true rfl) (Nat.le_of_ble_eq_true rfl) dX8_sets_76 (show (cl51 + 0) + 0 ≤ 1159 from by omega) (show (sl51 + 0) + 0 ≤ 5795 from by omega) (fun r14 S13 H locs hQ hw hx1 => ?_)
              have hX := hX.trans hx1
              have hA10 := hA10.ext hx1
              have hA0 := hA0.ext hx1
              refine lv_if_eq (tgt := 88) hx hb dX8_sets_79 (by decide) (fun hc => ?_) (fun hc => ?_)
              · have hQ := hQ.1 hc
                obtain ⟨v15, ev15⟩ : ∃ y : Int32, y = x3_51 + (1 : Int32) := ⟨_, rfl⟩
                have hQ := hQ v15 ev15
                refine lv_iinc (v := v15) (lv' := [(3, .int v15), (4, .ref a10), (0, .ref a0)]) hx hb dX8_sets_88 hl (k := 1) rfl (by rw [ev15]; rfl) (by decide) rfl (fun ls hl => ?_)
                refine lv_goto (tgt := 51) hx hb dX8_sets_91 (by decide) ?_
                exact ih51 v15 S13 _ _ _ _ _ hQ hw hX hA0 (lv_sub hl [0, 2] rfl) (by omega) (by omega)
              · have hQ := hQ.2 hc
                refine lv_aload_n hx hb dX8_sets_82 rfl (lv_at hl 2 rfl) ?_
                refine lv_aload hx hb dX8_sets_83 (lv_at hl 0 rfl) ?_
                refine k_X8_sellSet F hw hl hA0 hA10 hQ twm_RX8_274 (Nat.le_of_ble_eq_true rfl) (Nat.le_of_ble_eq_true rfl) (Nat.le_of_ble_eq_true rfl) dX8_sets_85 (show ((cl51 + 0) + 0) + 61 ≤ 1159 from by omega) (show ((sl51 + 0) + 0) + 305 ≤ 5795 from by omega) (fun S16 H locs hQ hw hx1 => ?_)
                have hX := hX.trans hx1
                have hA10 := hA10.ext hx1
                have hA0 := hA0.ext hx1
                obtain ⟨v17, ev17⟩ : ∃ y : Int32, y = x3_51 + (1 : Int32) := ⟨_, rfl⟩
                have hQ := hQ v17 ev17
                refine lv_iinc (v := v17) (lv' := [(3, .int v17), (4, .ref a10), (0, .ref a0)]) hx hb dX8_sets_88 hl (k := 1) rfl (by rw [ev17]; rfl) (by decide) rfl (fun ls hl => ?_)
                refine lv_goto (tgt := 51) hx hb dX8_sets_91 (by decide) ?_
                exact ih51 v17 S16 _ _ _ _ _ hQ hw hX hA0 (lv_sub hl [0, 2] rfl) (by omega) (by omega)
      obtain ⟨n, hn, hQ⟩ := hQ
      exact hloop51 n (0 : Int32) S2 _ _ _ _ _ hQ hw hX hA0 (lv_sub hl [0, 1] rfl) (by omega) (by omega)
    · have hQ := hQ.2 hc
      refine lv_iconst (v := -1) hx hb dX8_sets_43 (by decide) ?_
      exact rt_i F hr hlk hw hX hQ (show 0 ≤ 1159 from by omega) (show 0 ≤ 5795 from by omega) dX8_sets_44
  · have hQ := hQ.2 hc
    refine lv_aload_n hx hb dX8_sets_8 rfl (lv_at hl 0 rfl) ?_
    refine g_7_8 F hw hA0 twf_RX8_249 dX8_sets_9 ?_
    refine lv_bipush (v := 18) hx hb dX8_sets_12 (by decide) ?_
    refine lv_icmp_gt (tgt := 32) hx hb dX8_sets_14 (by decide) (fun hc => ?_) (fun hc => ?_)
    · have hQ := hQ.1 hc
      refine lv_iconst (v := 0) hx hb dX8_sets_32 (by decide) ?_
      refine p_7_10 F hw hA0 twf_RX8_265 (Or.inl rfl) dX8_sets_33 (fun S18 H locs eS18 hw hx1 => ?_)
      have hQ := hQ S18 eS18
      have hX := hX.trans hx1
      have hA0 := hA0.ext hx1
      refine lv_aload_n hx hb dX8_sets_36 rfl (lv_at hl 0 rfl) ?_
      refine g_7_10 F hw hA0 twf_RX8_265 dX8_sets_37 ?_
      refine lv_if_ne (tgt := 45) hx hb dX8_sets_40 (by decide) (fun hc => ?_) (fun hc => ?_)
      · have hQ := hQ.1 hc
        refine lv_aload_n hx hb dX8_sets_45 rfl (lv_at hl 0 rfl) ?_
        refine k_X8_findWinners F hw hl hA0 hQ twm_RX8_268 (Nat.le_of_ble_eq_true rfl) (Nat.le_of_ble_eq_true rfl) (Nat.le_of_ble_eq_true rfl) dX8_sets_46 (show 0 + 0 ≤ 1159 from by omega) (show 0 + 0 ≤ 5795 from by omega) (fun S19 H locs hQ hw hx1 => ?_)
        have hX := hX.trans hx1
        have hA0 := hA0.ext hx1
        refine lv_iconst (v := 0) hx hb dX8_sets_49 (by decide) ?_
        refine lv_istore_n (lv' := [(3, .int (0 : Int32)), (0, .ref a0), (1, .long p1)]) hx hb dX8_sets_50 rfl hl (by decide) rfl (fun ls hl => ?_)
        have hloop51 : ∀ (n51 : Nat) (x3_51 : Int32) (S20 : St) (H : Heap) (locs : List Loc) (ls : Array Slot) (cl51 sl51 : Nat), lp_X8_sets_51 post n51 x3_51 S20 → WW G S20 s H locs → Ext S0 S20 → AtO S20 7 0 a0 → lv_has ls 5 [(3, .int x3_51), (0, .ref a0)] → cl51 + 61 * n51 ≤ (0 + 0) + 1159 → sl51 + 305 * n51 ≤ (0 + 0) + 5795 → W p l e ({ frames := 26, cells := 1159, slots := 5795, locals := 672 } : Room) s m args below meth c H locs cl51 sl51 (MQ below (QI G S0 post) args s 1159 5795 (QA G)) (F0 m 51 ls []) := by
          intro n51
          induction n51 with
          | zero => intro x3_51 S20 H locs ls cl sl hQ; exact False.elim hQ
          | succ n51 ih51 =>
            intro x3_51 S20 H locs ls cl51 sl51 hQ hw hX hA0 hl hcl51 hsl51
            have hQ : bd_X8_sets_51 post (fun x3_51 S20 => lp_X8_sets_51 post n51 x3_51 S20) x3_51 S20 := hQ
            unfold bd_X8_sets_51 at hQ
            refine lv_iload_n hx hb dX8_sets_51 rfl (lv_at hl 0 rfl) ?_
            refine lv_aload_n hx hb dX8_sets_52 rfl (lv_at hl 1 rfl) ?_
            refine g_7_8 F hw hA0 twf_RX8_249 dX8_sets_53 ?_
            refine lv_icmp_ge (tgt := 94) hx hb dX8_sets_56 (by decide) (fun hc => ?_) (fun hc => ?_)
            · have hQ := hQ.1 hc
              refine lv_aload_n hx hb dX8_sets_94 rfl (lv_at hl 1 rfl) ?_
              refine lv_iconst (v := 0) hx hb dX8_sets_95 (by decide) ?_
              refine p_7_8 F hw hA0 twf_RX8_249 dX8_sets_96 (fun S21 H locs eS21 hw hx1 => ?_)
              have hQ := hQ S21 eS21
              have hX := hX.trans hx1
              have hA0 := hA0.ext hx1
              refine lv_aload_n hx hb dX8_sets_99 rfl (lv_at hl 1 rfl) ?_
              refine g_7_5 F hw hA0 twf_RX8_44 dX8_sets_100 (fun a22 hA22 => ?_)
              refine k_X6_chosenCount F hw hl hA22 hQ twm_RX8_278 (Nat.le_of_ble_eq_true rfl) (Nat.le_of_ble_eq_true rfl) (Nat.le_of_ble_eq_true rfl) dX8_sets_103 (show cl51 + 0 ≤ 1159 from by omega) (show sl51 + 0 ≤ 5795 from by omega) (fun r24 S23 H locs hQ hw hx1 => ?_)
              have hX := hX.trans hx1
              have hA0 := hA0.ext hx1
              exact rt_i F hr hlk hw hX hQ (show (cl51 + 0) ≤ 1159 from by omega) (show (sl51 + 0) ≤ 5795 from by omega) dX8_sets_106
            · have hQ := hQ.2 hc
              refine lv_aload_n hx hb dX8_sets_59 rfl (lv_at hl 1 rfl) ?_
              refine lv_iload_n hx hb dX8_sets_60 rfl (lv_at hl 0 rfl) ?_
              refine k_X8_bidAt F hw hl hA0 hQ twm_RX8_255 (Nat.le_of_ble_eq_true rfl) (Nat.le_of_ble_eq_true rfl) (Nat.le_of_ble_eq_true rfl) dX8_sets_61 (show cl51 + 0 ≤ 1159 from by omega) (show sl51 + 0 ≤ 5795 from by omega) (fun S25 H locs hQ hw hx1 => ?_) (fun j27 a27 S25 H locs hQ hA27 hw hx1 => ?_)
              · have hQ := hQ.1 rfl
                have hX := hX.trans hx1
                have hA0 := hA0.ext hx1
                refine lv_astoreN (lv' := [(4, .null), (3, .int x3_51), (0, .ref a0)]) hx hb dX8_sets_64 hl (by decide) rfl (fun ls hl => ?_)
                refine lv_aloadN hx hb dX8_sets_66 (lv_at hl 0 rfl) ?_
                refine lv_ifnullN (tgt := 88) hx hb dX8_sets_68 (by decide) ?_
                obtain ⟨v28, ev28⟩ : ∃ y : Int32, y = x3_51 + (1 : Int32) := ⟨_, rfl⟩
                have hQ := hQ v28 ev28
                refine lv_iinc (v := v28) (lv' := [(3, .int v28), (4, .null), (0, .ref a0)]) hx hb dX8_sets_88 hl (k := 1) rfl (by rw [ev28]; rfl) (by decide) rfl (fun ls hl => ?_)
                refine lv_goto (tgt := 51) hx hb dX8_sets_91 (by decide) ?_
                exact ih51 v28 S25 _ _ _ _ _ hQ hw hX hA0 (lv_sub hl [0, 2] rfl) (by omega) (by omega)
              · have hQ := hQ.2 j27 rfl
                have hX := hX.trans hx1
                have hA0 := hA0.ext hx1
                refine lv_astore (lv' := [(4, .ref a27), (3, .int x3_51), (0, .ref a0)]) hx hb dX8_sets_64 hl (by decide) rfl (fun ls hl => ?_)
                refine lv_aload hx hb dX8_sets_66 (lv_at hl 0 rfl) ?_
                refine lv_ifnull hx hb dX8_sets_68 ?_
                refine lv_aload_n hx hb dX8_sets_71 rfl (lv_at hl 2 rfl) ?_
                refine g_7_5 F hw hA0 twf_RX8_44 dX8_sets_72 (fun a29 hA29 => ?_)
                refine lv_iload_n hx hb dX8_sets_75 rfl (lv_at hl 1 rfl) ?_
                refine k_X6_hasChosen F hw hl hA29 hQ twm_RX8_271 (Nat.le_of_ble_eq_true rfl) (Nat.le_of_ble_eq_true rfl) (Nat.le_of_ble_eq_true rfl) dX8_sets_76 (show (cl51 + 0) + 0 ≤ 1159 from by omega) (show (sl51 + 0) + 0 ≤ 5795 from by omega) (fun r31 S30 H locs hQ hw hx1 => ?_)
                have hX := hX.trans hx1
                have hA27 := hA27.ext hx1
                have hA0 := hA0.ext hx1
                refine lv_if_eq (tgt := 88) hx hb dX8_sets_79 (by decide) (fun hc => ?_) (fun hc => ?_)
                · have hQ := hQ.1 hc
                  obtain ⟨v32, ev32⟩ : ∃ y : Int32, y = x3_51 + (1 : Int32) := ⟨_, rfl⟩
                  have hQ := hQ v32 ev32
                  refine lv_iinc (v := v32) (lv' := [(3, .int v32), (4, .ref a27), (0, .ref a0)]) hx hb dX8_sets_88 hl (k := 1) rfl (by rw [ev32]; rfl) (by decide) rfl (fun ls hl => ?_)
                  refine lv_goto (tgt := 51) hx hb dX8_sets_91 (by decide) ?_
                  exact ih51 v32 S30 _ _ _ _ _ hQ hw hX hA0 (lv_sub hl [0, 2] rfl) (by omega) (by omega)
                · have hQ := hQ.2 hc
                  refine lv_aload_n hx hb dX8_sets_82 rfl (lv_at hl 2 rfl) ?_
                  refine lv_aload hx hb dX8_sets_83 (lv_at hl 0 rfl) ?_
                  refine k_X8_sellSet F hw hl hA0 hA27 hQ twm_RX8_274 (Nat.le_of_ble_eq_true rfl) (Nat.le_of_ble_eq_true rfl) (Nat.le_of_ble_eq_true rfl) dX8_sets_85 (show ((cl51 + 0) + 0) + 61 ≤ 1159 from by omega) (show ((sl51 + 0) + 0) + 305 ≤ 5795 from by omega) (fun S33 H locs hQ hw hx1 => ?_)
                  have hX := hX.trans hx1
                  have hA27 := hA27.ext hx1
                  have hA0 := hA0.ext hx1
                  obtain ⟨v34, ev34⟩ : ∃ y : Int32, y = x3_51 + (1 : Int32) := ⟨_, rfl⟩
                  have hQ := hQ v34 ev34
                  refine lv_iinc (v := v34) (lv' := [(3, .int v34), (4, .ref a27), (0, .ref a0)]) hx hb dX8_sets_88 hl (k := 1) rfl (by rw [ev34]; rfl) (by decide) rfl (fun ls hl => ?_)
                  refine lv_goto (tgt := 51) hx hb dX8_sets_91 (by decide) ?_
                  exact ih51 v34 S33 _ _ _ _ _ hQ hw hX hA0 (lv_sub hl [0, 2] rfl) (by omega) (by omega)
        obtain ⟨n, hn, hQ⟩ := hQ
        exact hloop51 n (0 : Int32) S19 _ _ _ _ _ hQ hw hX hA0 (lv_sub hl [0, 1] rfl) (by omega) (by omega)
      · have hQ := hQ.2 hc
        refine lv_iconst (v := -1) hx hb dX8_sets_43 (by decide) ?_
        exact rt_i F hr hlk hw hX hQ (show 0 ≤ 1159 from by omega) (show 0 ≤ 5795 from by omega) dX8_sets_44
    · have hQ := hQ.2 hc
      refine lv_lconst (v := 1) hx hb dX8_sets_17 (by decide) ?_
      refine lv_aload_n hx hb dX8_sets_18 rfl (lv_at hl 0 rfl) ?_
      refine g_7_8 F hw hA0 twf_RX8_249 dX8_sets_19 ?_
      refine lv_lshl hx hb dX8_sets_22 rfl ?_
      refine lv_lload_n hx hb dX8_sets_23 rfl (lv_at hl 1 rfl) ?_
      refine lc_gt (tgt := 32) F dX8_sets_24 dX8_sets_25 (by decide) (fun hc => ?_) (fun hc => ?_)
      · have hQ := hQ.1 hc
        refine lv_iconst (v := 0) hx hb dX8_sets_32 (by decide) ?_
        refine p_7_10 F hw hA0 twf_RX8_265 (Or.inl rfl) dX8_sets_33 (fun S35 H locs eS35 hw hx1 => ?_)
        have hQ := hQ S35 eS35
        have hX := hX.trans hx1
        have hA0 := hA0.ext hx1
        refine lv_aload_n hx hb dX8_sets_36 rfl (lv_at hl 0 rfl) ?_
        refine g_7_10 F hw hA0 twf_RX8_265 dX8_sets_37 ?_
        refine lv_if_ne (tgt := 45) hx hb dX8_sets_40 (by decide) (fun hc => ?_) (fun hc => ?_)
        · have hQ := hQ.1 hc
          refine lv_aload_n hx hb dX8_sets_45 rfl (lv_at hl 0 rfl) ?_
          refine k_X8_findWinners F hw hl hA0 hQ twm_RX8_268 (Nat.le_of_ble_eq_true rfl) (Nat.le_of_ble_eq_true rfl) (Nat.le_of_ble_eq_true rfl) dX8_sets_46 (show 0 + 0 ≤ 1159 from by omega) (show 0 + 0 ≤ 5795 from by omega) (fun S36 H locs hQ hw hx1 => ?_)
          have hX := hX.trans hx1
          have hA0 := hA0.ext hx1
          refine lv_iconst (v := 0) hx hb dX8_sets_49 (by decide) ?_
          refine lv_istore_n (lv' := [(3, .int (0 : Int32)), (0, .ref a0), (1, .long p1)]) hx hb dX8_sets_50 rfl hl (by decide) rfl (fun ls hl => ?_)
          have hloop51 : ∀ (n51 : Nat) (x3_51 : Int32) (S37 : St) (H : Heap) (locs : List Loc) (ls : Array Slot) (cl51 sl51 : Nat), lp_X8_sets_51 post n51 x3_51 S37 → WW G S37 s H locs → Ext S0 S37 → AtO S37 7 0 a0 → lv_has ls 5 [(3, .int x3_51), (0, .ref a0)] → cl51 + 61 * n51 ≤ (0 + 0) + 1159 → sl51 + 305 * n51 ≤ (0 + 0) + 5795 → W p l e ({ frames := 26, cells := 1159, slots := 5795, locals := 672 } : Room) s m args below meth c H locs cl51 sl51 (MQ below (QI G S0 post) args s 1159 5795 (QA G)) (F0 m 51 ls []) := by
            intro n51
            induction n51 with
            | zero => intro x3_51 S37 H locs ls cl sl hQ; exact False.elim hQ
            | succ n51 ih51 =>
              intro x3_51 S37 H locs ls cl51 sl51 hQ hw hX hA0 hl hcl51 hsl51
              have hQ : bd_X8_sets_51 post (fun x3_51 S37 => lp_X8_sets_51 post n51 x3_51 S37) x3_51 S37 := hQ
              unfold bd_X8_sets_51 at hQ
              refine lv_iload_n hx hb dX8_sets_51 rfl (lv_at hl 0 rfl) ?_
              refine lv_aload_n hx hb dX8_sets_52 rfl (lv_at hl 1 rfl) ?_
              refine g_7_8 F hw hA0 twf_RX8_249 dX8_sets_53 ?_
              refine lv_icmp_ge (tgt := 94) hx hb dX8_sets_56 (by decide) (fun hc => ?_) (fun hc => ?_)
              · have hQ := hQ.1 hc
                refine lv_aload_n hx hb dX8_sets_94 rfl (lv_at hl 1 rfl) ?_
                refine lv_iconst (v := 0) hx hb dX8_sets_95 (by decide) ?_
                refine p_7_8 F hw hA0 twf_RX8_249 dX8_sets_96 (fun S38 H locs eS38 hw hx1 => ?_)
                have hQ := hQ S38 eS38
                have hX := hX.trans hx1
                have hA0 := hA0.ext hx1
                refine lv_aload_n hx hb dX8_sets_99 rfl (lv_at hl 1 rfl) ?_
                refine g_7_5 F hw hA0 twf_RX8_44 dX8_sets_100 (fun a39 hA39 => ?_)
                refine k_X6_chosenCount F hw hl hA39 hQ twm_RX8_278 (Nat.le_of_ble_eq_true rfl) (Nat.le_of_ble_eq_true rfl) (Nat.le_of_ble_eq_true rfl) dX8_sets_103 (show cl51 + 0 ≤ 1159 from by omega) (show sl51 + 0 ≤ 5795 from by omega) (fun r41 S40 H locs hQ hw hx1 => ?_)
                have hX := hX.trans hx1
                have hA0 := hA0.ext hx1
                exact rt_i F hr hlk hw hX hQ (show (cl51 + 0) ≤ 1159 from by omega) (show (sl51 + 0) ≤ 5795 from by omega) dX8_sets_106
              · have hQ := hQ.2 hc
                refine lv_aload_n hx hb dX8_sets_59 rfl (lv_at hl 1 rfl) ?_
                refine lv_iload_n hx hb dX8_sets_60 rfl (lv_at hl 0 rfl) ?_
                refine k_X8_bidAt F hw hl hA0 hQ twm_RX8_255 (Nat.le_of_ble_eq_true rfl) (Nat.le_of_ble_eq_true rfl) (Nat.le_of_ble_eq_true rfl) dX8_sets_61 (show cl51 + 0 ≤ 1159 from by omega) (show sl51 + 0 ≤ 5795 from by omega) (fun S42 H locs hQ hw hx1 => ?_) (fun j44 a44 S42 H locs hQ hA44 hw hx1 => ?_)
                · have hQ := hQ.1 rfl
                  have hX := hX.trans hx1
                  have hA0 := hA0.ext hx1
                  refine lv_astoreN (lv' := [(4, .null), (3, .int x3_51), (0, .ref a0)]) hx hb dX8_sets_64 hl (by decide) rfl (fun ls hl => ?_)
                  refine lv_aloadN hx hb dX8_sets_66 (lv_at hl 0 rfl) ?_
                  refine lv_ifnullN (tgt := 88) hx hb dX8_sets_68 (by decide) ?_
                  obtain ⟨v45, ev45⟩ : ∃ y : Int32, y = x3_51 + (1 : Int32) := ⟨_, rfl⟩
                  have hQ := hQ v45 ev45
                  refine lv_iinc (v := v45) (lv' := [(3, .int v45), (4, .null), (0, .ref a0)]) hx hb dX8_sets_88 hl (k := 1) rfl (by rw [ev45]; rfl) (by decide) rfl (fun ls hl => ?_)
                  refine lv_goto (tgt := 51) hx hb dX8_sets_91 (by decide) ?_
                  exact ih51 v45 S42 _ _ _ _ _ hQ hw hX hA0 (lv_sub hl [0, 2] rfl) (by omega) (by omega)
                · have hQ := hQ.2 j44 rfl
                  have hX := hX.trans hx1
                  have hA0 := hA0.ext hx1
                  refine lv_astore (lv' := [(4, .ref a44), (3, .int x3_51), (0, .ref a0)]) hx hb dX8_sets_64 hl (by decide) rfl (fun ls hl => ?_)
                  refine lv_aload hx hb dX8_sets_66 (lv_at hl 0 rfl) ?_
                  refine lv_ifnull hx hb dX8_sets_68 ?_
                  refine lv_aload_n hx hb dX8_sets_71 rfl (lv_at hl 2 rfl) ?_
                  refine g_7_5 F hw hA0 twf_RX8_44 dX8_sets_72 (fun a46 hA46 => ?_)
                  refine lv_iload_n hx hb dX8_sets_75 rfl (lv_at hl 1 rfl) ?_
                  refine k_X6_hasChosen F hw hl hA46 hQ twm_RX8_271 (Nat.le_of_ble_eq_true rfl) (Nat.le_of_ble_eq_true rfl) (Nat.le_of_ble_eq_true rfl) dX8_sets_76 (show (cl51 + 0) + 0 ≤ 1159 from by omega) (show (sl51 + 0) + 0 ≤ 5795 from by omega) (fun r48 S47 H locs hQ hw hx1 => ?_)
                  have hX := hX.trans hx1
                  have hA44 := hA44.ext hx1
                  have hA0 := hA0.ext hx1
                  refine lv_if_eq (tgt := 88) hx hb dX8_sets_79 (by decide) (fun hc => ?_) (fun hc => ?_)
                  · have hQ := hQ.1 hc
                    obtain ⟨v49, ev49⟩ : ∃ y : Int32, y = x3_51 + (1 : Int32) := ⟨_, rfl⟩
                    have hQ := hQ v49 ev49
                    refine lv_iinc (v := v49) (lv' := [(3, .int v49), (4, .ref a44), (0, .ref a0)]) hx hb dX8_sets_88 hl (k := 1) rfl (by rw [ev49]; rfl) (by decide) rfl (fun ls hl => ?_)
                    refine lv_goto (tgt := 51) hx hb dX8_sets_91 (by decide) ?_
                    exact ih51 v49 S47 _ _ _ _ _ hQ hw hX hA0 (lv_sub hl [0, 2] rfl) (by omega) (by omega)
                  · have hQ := hQ.2 hc
                    refine lv_aload_n hx hb dX8_sets_82 rfl (lv_at hl 2 rfl) ?_
                    refine lv_aload hx hb dX8_sets_83 (lv_at hl 0 rfl) ?_
                    refine k_X8_sellSet F hw hl hA0 hA44 hQ twm_RX8_274 (Nat.le_of_ble_eq_true rfl) (Nat.le_of_ble_eq_true rfl) (Nat.le_of_ble_eq_true rfl) dX8_sets_85 (show ((cl51 + 0) + 0) + 61 ≤ 1159 from by omega) (show ((sl51 + 0) + 0) + 305 ≤ 5795 from by omega) (fun S50 H locs hQ hw hx1 => ?_)
                    have hX := hX.trans hx1
                    have hA44 := hA44.ext hx1
                    have hA0 := hA0.ext hx1
                    obtain ⟨v51, ev51⟩ : ∃ y : Int32, y = x3_51 + (1 : Int32) := ⟨_, rfl⟩
                    have hQ := hQ v51 ev51
                    refine lv_iinc (v := v51) (lv' := [(3, .int v51), (4, .ref a44), (0, .ref a0)]) hx hb dX8_sets_88 hl (k := 1) rfl (by rw [ev51]; rfl) (by decide) rfl (fun ls hl => ?_)
                    refine lv_goto (tgt := 51) hx hb dX8_sets_91 (by decide) ?_
                    exact ih51 v51 S50 _ _ _ _ _ hQ hw hX hA0 (lv_sub hl [0, 2] rfl) (by omega) (by omega)
          obtain ⟨n, hn, hQ⟩ := hQ
          exact hloop51 n (0 : Int32) S36 _ _ _ _ _ hQ hw hX hA0 (lv_sub hl [0, 1] rfl) (by omega) (by omega)
        · have hQ := hQ.2 hc
          refine lv_iconst (v := -1) hx hb dX8_sets_43 (by decide) ?_
          exact rt_i F hr hlk hw hX hQ (show 0 ≤ 1159 from by omega) (show 0 ≤ 5795 from by omega) dX8_sets_44
      · have hQ := hQ.2 hc
        refine lv_iconst (v := 1) hx hb dX8_sets_28 (by decide) ?_
        refine lv_goto (tgt := 33) hx hb dX8_sets_29 (by decide) ?_
        refine p_7_10 F hw hA0 twf_RX8_265 (Or.inr rfl) dX8_sets_33 (fun S52 H locs eS52 hw hx1 => ?_)
        have hQ := hQ S52 eS52
        have hX := hX.trans hx1
        have hA0 := hA0.ext hx1
        refine lv_aload_n hx hb dX8_sets_36 rfl (lv_at hl 0 rfl) ?_
        refine g_7_10 F hw hA0 twf_RX8_265 dX8_sets_37 ?_
        refine lv_if_ne (tgt := 45) hx hb dX8_sets_40 (by decide) (fun hc => ?_) (fun hc => ?_)
        · have hQ := hQ.1 hc
          refine lv_aload_n hx hb dX8_sets_45 rfl (lv_at hl 0 rfl) ?_
          refine k_X8_findWinners F hw hl hA0 hQ twm_RX8_268 (Nat.le_of_ble_eq_true rfl) (Nat.le_of_ble_eq_true rfl) (Nat.le_of_ble_eq_true rfl) dX8_sets_46 (show 0 + 0 ≤ 1159 from by omega) (show 0 + 0 ≤ 5795 from by omega) (fun S53 H locs hQ hw hx1 => ?_)
          have hX := hX.trans hx1
          have hA0 := hA0.ext hx1
          refine lv_iconst (v := 0) hx hb dX8_sets_49 (by decide) ?_
          refine lv_istore_n (lv' := [(3, .int (0 : Int32)), (0, .ref a0), (1, .long p1)]) hx hb dX8_sets_50 rfl hl (by decide) rfl (fun ls hl => ?_)
          have hloop51 : ∀ (n51 : Nat) (x3_51 : Int32) (S54 : St) (H : Heap) (locs : List Loc) (ls : Array Slot) (cl51 sl51 : Nat), lp_X8_sets_51 post n51 x3_51 S54 → WW G S54 s H locs → Ext S0 S54 → AtO S54 7 0 a0 → lv_has ls 5 [(3, .int x3_51), (0, .ref a0)] → cl51 + 61 * n51 ≤ (0 + 0) + 1159 → sl51 + 305 * n51 ≤ (0 + 0) + 5795 → W p l e ({ frames := 26, cells := 1159, slots := 5795, locals := 672 } : Room) s m args below meth c H locs cl51 sl51 (MQ below (QI G S0 post) args s 1159 5795 (QA G)) (F0 m 51 ls []) := by
            intro n51
            induction n51 with
            | zero => intro x3_51 S54 H locs ls cl sl hQ; exact False.elim hQ
            | succ n51 ih51 =>
              intro x3_51 S54 H locs ls cl51 sl51 hQ hw hX hA0 hl hcl51 hsl51
              have hQ : bd_X8_sets_51 post (fun x3_51 S54 => lp_X8_sets_51 post n51 x3_51 S54) x3_51 S54 := hQ
              unfold bd_X8_sets_51 at hQ
              refine lv_iload_n hx hb dX8_sets_51 rfl (lv_at hl 0 rfl) ?_
              refine lv_aload_n hx hb dX8_sets_52 rfl (lv_at hl 1 rfl) ?_
              refine g_7_8 F hw hA0 twf_RX8_249 dX8_sets_53 ?_
              refine lv_icmp_ge (tgt := 94) hx hb dX8_sets_56 (by decide) (fun hc => ?_) (fun hc => ?_)
              · have hQ := hQ.1 hc
                refine lv_aload_n hx hb dX8_sets_94 rfl (lv_at hl 1 rfl) ?_
                refine lv_iconst (v := 0) hx hb dX8_sets_95 (by decide) ?_
                refine p_7_8 F hw hA0 twf_RX8_249 dX8_sets_96 (fun S55 H locs eS55 hw hx1 => ?_)
                have hQ := hQ S55 eS55
                have hX := hX.trans hx1
                have hA0 := hA0.ext hx1
                refine lv_aload_n hx hb dX8_sets_99 rfl (lv_at hl 1 rfl) ?_
                refine g_7_5 F hw hA0 twf_RX8_44 dX8_sets_100 (fun a56 hA56 => ?_)
                refine k_X6_chosenCount F hw hl hA56 hQ twm_RX8_278 (Nat.le_of_ble_eq_true rfl) (Nat.le_of_ble_eq_true rfl) (Nat.le_of_ble_eq_true rfl) dX8_sets_103 (show cl51 + 0 ≤ 1159 from by omega) (show sl51 + 0 ≤ 5795 from by omega) (fun r58 S57 H locs hQ hw hx1 => ?_)
                have hX := hX.trans hx1
                have hA0 := hA0.ext hx1
                exact rt_i F hr hlk hw hX hQ (show (cl51 + 0) ≤ 1159 from by omega) (show (sl51 + 0) ≤ 5795 from by omega) dX8_sets_106
              · have hQ := hQ.2 hc
                refine lv_aload_n hx hb dX8_sets_59 rfl (lv_at hl 1 rfl) ?_
                refine lv_iload_n hx hb dX8_sets_60 rfl (lv_at hl 0 rfl) ?_
                refine k_X8_bidAt F hw hl hA0 hQ twm_RX8_255 (Nat.le_of_ble_eq_true rfl) (Nat.le_of_ble_eq_true rfl) (Nat.le_of_ble_eq_true rfl) dX8_sets_61 (show cl51 + 0 ≤ 1159 from by omega) (show sl51 + 0 ≤ 5795 from by omega) (fun S59 H locs hQ hw hx1 => ?_) (fun j61 a61 S59 H locs hQ hA61 hw hx1 => ?_)
                · have hQ := hQ.1 rfl
                  have hX := hX.trans hx1
                  have hA0 := hA0.ext hx1
                  refine lv_astoreN (lv' := [(4, .null), (3, .int x3_51), (0, .ref a0)]) hx hb dX8_sets_64 hl (by decide) rfl (fun ls hl => ?_)
                  refine lv_aloadN hx hb dX8_sets_66 (lv_at hl 0 rfl) ?_
                  refine lv_ifnullN (tgt := 88) hx hb dX8_sets_68 (by decide) ?_
                  obtain ⟨v62, ev62⟩ : ∃ y : Int32, y = x3_51 + (1 : Int32) := ⟨_, rfl⟩
                  have hQ := hQ v62 ev62
                  refine lv_iinc (v := v62) (lv' := [(3, .int v62), (4, .null), (0, .ref a0)]) hx hb dX8_sets_88 hl (k := 1) rfl (by rw [ev62]; rfl) (by decide) rfl (fun ls hl => ?_)
                  refine lv_goto (tgt := 51) hx hb dX8_sets_91 (by decide) ?_
                  exact ih51 v62 S59 _ _ _ _ _ hQ hw hX hA0 (lv_sub hl [0, 2] rfl) (by omega) (by omega)
                · have hQ := hQ.2 j61 rfl
                  have hX := hX.trans hx1
                  have hA0 := hA0.ext hx1
                  refine lv_astore (lv' := [(4, .ref a61), (3, .int x3_51), (0, .ref a0)]) hx hb dX8_sets_64 hl (by decide) rfl (fun ls hl => ?_)
                  refine lv_aload hx hb dX8_sets_66 (lv_at hl 0 rfl) ?_
                  refine lv_ifnull hx hb dX8_sets_68 ?_
                  refine lv_aload_n hx hb dX8_sets_71 rfl (lv_at hl 2 rfl) ?_
                  refine g_7_5 F hw hA0 twf_RX8_44 dX8_sets_72 (fun a63 hA63 => ?_)
                  refine lv_iload_n hx hb dX8_sets_75 rfl (lv_at hl 1 rfl) ?_
                  refine k_X6_hasChosen F hw hl hA63 hQ twm_RX8_271 (Nat.le_of_ble_eq_true rfl) (Nat.le_of_ble_eq_true rfl) (Nat.le_of_ble_eq_true rfl) dX8_sets_76 (show (cl51 + 0) + 0 ≤ 1159 from by omega) (show (sl51 + 0) + 0 ≤ 5795 from by omega) (fun r65 S64 H locs hQ hw hx1 => ?_)
                  have hX := hX.trans hx1
                  have hA61 := hA61.ext hx1
                  have hA0 := hA0.ext hx1
                  refine lv_if_eq (tgt := 88) hx hb dX8_sets_79 (by decide) (fun hc => ?_) (fun hc => ?_)
                  · have hQ := hQ.1 hc
                    obtain ⟨v66, ev66⟩ : ∃ y : Int32, y = x3_51 + (1 : Int32) := ⟨_, rfl⟩
                    have hQ := hQ v66 ev66
                    refine lv_iinc (v := v66) (lv' := [(3, .int v66), (4, .ref a61), (0, .ref a0)]) hx hb dX8_sets_88 hl (k := 1) rfl (by rw [ev66]; rfl) (by decide) rfl (fun ls hl => ?_)
                    refine lv_goto (tgt := 51) hx hb dX8_sets_91 (by decide) ?_
                    exact ih51 v66 S64 _ _ _ _ _ hQ hw hX hA0 (lv_sub hl [0, 2] rfl) (by omega) (by omega)
                  · have hQ := hQ.2 hc
                    refine lv_aload_n hx hb dX8_sets_82 rfl (lv_at hl 2 rfl) ?_
                    refine lv_aload hx hb dX8_sets_83 (lv_at hl 0 rfl) ?_
                    refine k_X8_sellSet F hw hl hA0 hA61 hQ twm_RX8_274 (Nat.le_of_ble_eq_true rfl) (Nat.le_of_ble_eq_true rfl) (Nat.le_of_ble_eq_true rfl) dX8_sets_85 (show ((cl51 + 0) + 0) + 61 ≤ 1159 from by omega) (show ((sl51 + 0) + 0) + 305 ≤ 5795 from by omega) (fun S67 H locs hQ hw hx1 => ?_)
                    have hX := hX.trans hx1
                    have hA61 := hA61.ext hx1
                    have hA0 := hA0.ext hx1
                    obtain ⟨v68, ev68⟩ : ∃ y : Int32, y = x3_51 + (1 : Int32) := ⟨_, rfl⟩
                    have hQ := hQ v68 ev68
                    refine lv_iinc (v := v68) (lv' := [(3, .int v68), (4, .ref a61), (0, .ref a0)]) hx hb dX8_sets_88 hl (k := 1) rfl (by rw [ev68]; rfl) (by decide) rfl (fun ls hl => ?_)
                    refine lv_goto (tgt := 51) hx hb dX8_sets_91 (by decide) ?_
                    exact ih51 v68 S67 _ _ _ _ _ hQ hw hX hA0 (lv_sub hl [0, 2] rfl) (by omega) (by omega)
          obtain ⟨n, hn, hQ⟩ := hQ
          exact hloop51 n (0 : Int32) S53 _ _ _ _ _ hQ hw hX hA0 (lv_sub hl [0, 1] rfl) (by omega) (by omega)
        · have hQ := hQ.2 hc
          refine lv_iconst (v := -1) hx hb dX8_sets_43 (by decide) ?_
          exact rt_i F hr hlk hw hX hQ (show 0 ≤ 1159 from by omega) (show 0 ≤ 5795 from by omega) dX8_sets_44
theorem k_X8_sets {p : Program} {l : Launch} {e : Env} {R : Room} {s : State} {m : MethodId} {args : Array Value} {below : List Frame} {meth : Method} {c : Code} {H : Heap} {locs : List Loc} {cells slots : Nat} {Q : State → Prop} {cc : ByteArray} {pc nL : Nat} {ls : Array Slot} {rest : List Value} {G : GT} {S : St} {own : String} {p1 : Int64} {post : Int32 → St → Prop} {lv : List (Nat × Value)} {idx : Nat} (F : CX p m c cc nL s args own) (hw : WW G S s H locs) (hl : lv_has ls nL lv) {a0 : Nat} (hA0 : AtO S 7 0 a0) (hQ : wp_X8_sets p1 S post) (h1 : Cond.methodLink own idx yX8_sets ∈ wT) (hR1 : 26 + 1 ≤ R.frames) (hR2 : 8 + (5 + 11) + 672 ≤ R.locals) (hrest : (rest.map fun v => v.category).sum ≤ 8) (hdg : decode cc pc = .ok (.invokevirtual idx, 3)) (hf1 : cells + 1159 ≤ R.cells) (hf2 : slots + 5795 ≤ R.slots)
    (kk : ∀ (r : Int32) (S1 : St) (H1 : Heap) (locs1 : List Loc), post r S1 → WW G S1 s H1 locs1 → Ext S S1 → W p l e R s m args below meth c H1 locs1 (cells + 1159) (slots + 5795) Q (F0 m (pc + 3) ls (.int r :: rest))) : W p l e R s m args below meth c H locs cells slots Q (F0 m pc ls (.long p1 :: .ref a0 :: rest)) :=
  cl_i (rn_V (n := 1) (As := [.long p1]) (q := (RX8, TX8, 11)) F hw hl (m_X8_sets l G p1 S a0 hA0 post hQ) 7 (by decide) (by decide) hA0 rfl rfl h1 twi_yX8_sets tws_yX8_sets twn_RX8 two_yX8_sets rfl rfl ⟨rfl, by decide, by decide, by decide +kernel⟩ rfl ⟨hR1, hR2⟩ rfl hrest hdg ⟨hf1, hf2⟩) hw kk
-- X8_wins
def wp_X8_wins (p1 : Int32) (S0 : St) (post : Int32 → St → Prop) : Prop :=
  wp_X6_hasChosen p1 S0 (fun r3 S2 =>
  bz r3 ∧ post r3 S2)
set_option maxRecDepth 100000 in
set_option maxHeartbeats 4000000 in
theorem m_X8_wins (l : Launch) (G : GT) (p1 : Int32) (S0 : St) (a0 : Nat) (hA0 : AtO S0 7 0 a0) (post : Int32 → St → Prop) (hQ : wp_X8_wins p1 S0 post) : Met l yX8_wins (wM yX8_wins cX8_wins 2 (some (FieldType.boolean))) ({ frames := 1, cells := 0, slots := 0, locals := 21 } : Room) (PC G S0 [.ref a0, .int p1]) (QI G S0 post) 0 0 (QA G) := by
  refine mt_start RX8 (by decide) rfl (Nat.le_of_ble_eq_true rfl) ?_
  intro p e s m args below meth c ls F hr hlk hnm hw hl
  have hx := F.1
  have hb := F.2.1
  have hown := F.2.2.2.1
  have hts := F.2.2.2.2
  have hX : Ext S0 S0 := Ext.rf
  have hsz0 := hw.1.1.1
  have hl : lv_has ls 2 [(0, .ref a0), (1, .int p1)] := hl
  unfold wp_X8_wins at hQ
  refine lv_aload_n hx hb dX8_wins_0 rfl (lv_at hl 0 rfl) ?_
  refine g_7_5 F hw hA0 twf_RX8_44 dX8_wins_1 (fun a1 hA1 => ?_)
  refine lv_iload_n hx hb dX8_wins_4 rfl (lv_at hl 1 rfl) ?_
  refine k_X6_hasChosen F hw hl hA1 hQ twm_RX8_271 (Nat.le_of_ble_eq_true rfl) (Nat.le_of_ble_eq_true rfl) (Nat.le_of_ble_eq_true rfl) dX8_wins_5 (show 0 + 0 ≤ 0 from by omega) (show 0 + 0 ≤ 0 from by omega) (fun r3 S2 H locs hQ hw hx1 => ?_)
  have hX := hX.trans hx1
  have hA0 := hA0.ext hx1
  exact rt_z F hr hlk hw hX hQ.2 (bz_nar hQ.1) (show (0 + 0) ≤ 0 from by omega) (show (0 + 0) ≤ 0 from by omega) dX8_wins_8
theorem k_X8_wins {p : Program} {l : Launch} {e : Env} {R : Room} {s : State} {m : MethodId} {args : Array Value} {below : List Frame} {meth : Method} {c : Code} {H : Heap} {locs : List Loc} {cells slots : Nat} {Q : State → Prop} {cc : ByteArray} {pc nL : Nat} {ls : Array Slot} {rest : List Value} {G : GT} {S : St} {own : String} {p1 : Int32} {post : Int32 → St → Prop} {lv : List (Nat × Value)} {idx : Nat} (F : CX p m c cc nL s args own) (hw : WW G S s H locs) (hl : lv_has ls nL lv) {a0 : Nat} (hA0 : AtO S 7 0 a0) (hQ : wp_X8_wins p1 S post) (h1 : Cond.methodLink own idx yX8_wins ∈ wT) (hR1 : 1 + 1 ≤ R.frames) (hR2 : 8 + (2 + 11) + 21 ≤ R.locals) (hrest : (rest.map fun v => v.category).sum ≤ 8) (hdg : decode cc pc = .ok (.invokevirtual idx, 3)) (hf1 : cells + 0 ≤ R.cells) (hf2 : slots + 0 ≤ R.slots)
    (kk : ∀ (r : Int32) (S1 : St) (H1 : Heap) (locs1 : List Loc), post r S1 → WW G S1 s H1 locs1 → Ext S S1 → W p l e R s m args below meth c H1 locs1 (cells + 0) (slots + 0) Q (F0 m (pc + 3) ls (.int r :: rest))) : W p l e R s m args below meth c H locs cells slots Q (F0 m pc ls (.int p1 :: .ref a0 :: rest)) :=
  cl_i (rn_V (n := 1) (As := [.int p1]) (q := (RX8, TX8, 11)) F hw hl (m_X8_wins l G p1 S a0 hA0 post hQ) 7 (by decide) (by decide) hA0 rfl rfl h1 twi_yX8_wins tws_yX8_wins twn_RX8 two_yX8_wins rfl rfl ⟨rfl, by decide, by decide, by decide +kernel⟩ rfl ⟨hR1, hR2⟩ rfl hrest hdg ⟨hf1, hf2⟩) hw kk
-- X8_sum
def wp_X8_sum  (S0 : St) (post : Int64 → St → Prop) : Prop :=
  post (gj S0 6 0 5) S0
set_option maxRecDepth 100000 in
set_option maxHeartbeats 4000000 in
theorem m_X8_sum (l : Launch) (G : GT)  (S0 : St) (a0 : Nat) (hA0 : AtO S0 7 0 a0) (post : Int64 → St → Prop) (hQ : wp_X8_sum S0 post) : Met l yX8_sum (wM yX8_sum cX8_sum 1 (some (FieldType.long))) ({ frames := 0, cells := 0, slots := 0, locals := 0 } : Room) (PC G S0 [.ref a0]) (QJ G S0 post) 0 0 (QA G) := by
  refine mt_start RX8 (by decide) rfl (Nat.le_of_ble_eq_true rfl) ?_
  intro p e s m args below meth c ls F hr hlk hnm hw hl
  have hx := F.1
  have hb := F.2.1
  have hown := F.2.2.2.1
  have hts := F.2.2.2.2
  have hX : Ext S0 S0 := Ext.rf
  have hsz0 := hw.1.1.1
  have hl : lv_has ls 1 [(0, .ref a0)] := hl
  unfold wp_X8_sum at hQ
  refine lv_aload_n hx hb dX8_sum_0 rfl (lv_at hl 0 rfl) ?_
  refine g_7_5 F hw hA0 twf_RX8_44 dX8_sum_1 (fun a1 hA1 => ?_)
  refine g_6_5 F hw hA1 twf_RX8_282 dX8_sum_4 ?_
  exact rt_l F hr hlk hw hX hQ (show 0 ≤ 0 from by omega) (show 0 ≤ 0 from by omega) dX8_sum_7
theorem k_X8_sum {p : Program} {l : Launch} {e : Env} {R : Room} {s : State} {m : MethodId} {args : Array Value} {below : List Frame} {meth : Method} {c : Code} {H : Heap} {locs : List Loc} {cells slots : Nat} {Q : State → Prop} {cc : ByteArray} {pc nL : Nat} {ls : Array Slot} {rest : List Value} {G : GT} {S : St} {own : String}  {post : Int64 → St → Prop} {lv : List (Nat × Value)} {idx : Nat} (F : CX p m c cc nL s args own) (hw : WW G S s H locs) (hl : lv_has ls nL lv) {a0 : Nat} (hA0 : AtO S 7 0 a0) (hQ : wp_X8_sum S post) (h1 : Cond.methodLink own idx yX8_sum ∈ wT) (hR1 : 0 + 1 ≤ R.frames) (hR2 : 8 + (1 + 11) + 0 ≤ R.locals) (hrest : (rest.map fun v => v.category).sum ≤ 8) (hdg : decode cc pc = .ok (.invokevirtual idx, 3)) (hf1 : cells + 0 ≤ R.cells) (hf2 : slots + 0 ≤ R.slots)
    (kk : ∀ (r : Int64) (S1 : St) (H1 : Heap) (locs1 : List Loc), post r S1 → WW G S1 s H1 locs1 → Ext S S1 → W p l e R s m args below meth c H1 locs1 (cells + 0) (slots + 0) Q (F0 m (pc + 3) ls (.long r :: rest))) : W p l e R s m args below meth c H locs cells slots Q (F0 m pc ls (.ref a0 :: rest)) :=
  cl_l (rn_V (n := 0) (As := []) (q := (RX8, TX8, 11)) F hw hl (m_X8_sum l G  S a0 hA0 post hQ) 7 (by decide) (by decide) hA0 rfl rfl h1 twi_yX8_sum tws_yX8_sum twn_RX8 two_yX8_sum rfl rfl ⟨rfl, by decide, by decide, by decide +kernel⟩ rfl ⟨hR1, hR2⟩ rfl hrest hdg ⟨hf1, hf2⟩) hw kk
-- X8_proved
def wp_X8_proved  (S0 : St) (post : Int32 → St → Prop) : Prop :=
  bz (gi S0 7 0 10) ∧ post (gi S0 7 0 10) S0
set_option maxRecDepth 100000 in
set_option maxHeartbeats 4000000 in
theorem m_X8_proved (l : Launch) (G : GT)  (S0 : St) (a0 : Nat) (hA0 : AtO S0 7 0 a0) (post : Int32 → St → Prop) (hQ : wp_X8_proved S0 post) : Met l yX8_proved (wM yX8_proved cX8_proved 1 (some (FieldType.boolean))) ({ frames := 0, cells := 0, slots := 0, locals := 0 } : Room) (PC G S0 [.ref a0]) (QI G S0 post) 0 0 (QA G) := by
  refine mt_start RX8 (by decide) rfl (Nat.le_of_ble_eq_true rfl) ?_
  intro p e s m args below meth c ls F hr hlk hnm hw hl
  have hx := F.1
  have hb := F.2.1
  have hown := F.2.2.2.1
  have hts := F.2.2.2.2
  have hX : Ext S0 S0 := Ext.rf
  have hsz0 := hw.1.1.1
  have hl : lv_has ls 1 [(0, .ref a0)] := hl
  unfold wp_X8_proved at hQ
  refine lv_aload_n hx hb dX8_proved_0 rfl (lv_at hl 0 rfl) ?_
  refine g_7_10 F hw hA0 twf_RX8_265 dX8_proved_1 ?_
  exact rt_z F hr hlk hw hX hQ.2 (bz_nar hQ.1) (show 0 ≤ 0 from by omega) (show 0 ≤ 0 from by omega) dX8_proved_4
theorem k_X8_proved {p : Program} {l : Launch} {e : Env} {R : Room} {s : State} {m : MethodId} {args : Array Value} {below : List Frame} {meth : Method} {c : Code} {H : Heap} {locs : List Loc} {cells slots : Nat} {Q : State → Prop} {cc : ByteArray} {pc nL : Nat} {ls : Array Slot} {rest : List Value} {G : GT} {S : St} {own : String}  {post : Int32 → St → Prop} {lv : List (Nat × Value)} {idx : Nat} (F : CX p m c cc nL s args own) (hw : WW G S s H locs) (hl : lv_has ls nL lv) {a0 : Nat} (hA0 : AtO S 7 0 a0) (hQ : wp_X8_proved S post) (h1 : Cond.methodLink own idx yX8_proved ∈ wT) (hR1 : 0 + 1 ≤ R.frames) (hR2 : 8 + (1 + 11) + 0 ≤ R.locals) (hrest : (rest.map fun v => v.category).sum ≤ 8) (hdg : decode cc pc = .ok (.invokevirtual idx, 3)) (hf1 : cells + 0 ≤ R.cells) (hf2 : slots + 0 ≤ R.slots)
    (kk : ∀ (r : Int32) (S1 : St) (H1 : Heap) (locs1 : List Loc), post r S1 → WW G S1 s H1 locs1 → Ext S S1 → W p l e R s m args below meth c H1 locs1 (cells + 0) (slots + 0) Q (F0 m (pc + 3) ls (.int r :: rest))) : W p l e R s m args below meth c H locs cells slots Q (F0 m pc ls (.ref a0 :: rest)) :=
  cl_i (rn_V (n := 0) (As := []) (q := (RX8, TX8, 11)) F hw hl (m_X8_proved l G  S a0 hA0 post hQ) 7 (by decide) (by decide) hA0 rfl rfl h1 twi_yX8_proved tws_yX8_proved twn_RX8 two_yX8_proved rfl rfl ⟨rfl, by decide, by decide, by decide +kernel⟩ rfl ⟨hR1, hR2⟩ rfl hrest hdg ⟨hf1, hf2⟩) hw kk

-- X8_freeOf
def bd_X8_freeOf_8 (jp1 : Nat) (post : Int64 → St → Prop) (K8 : Int32 → Int64 → St → Prop) (x4_8 : Int32) (x2_8 : Int64) (S2 : St) : Prop :=
  ((gi S2 7 0 6) ≤ x4_8 →
  post x2_8 S2) ∧
  (¬ (gi S2 7 0 6) ≤ x4_8 →
  wp_X8_lotAt x4_8 S2 (fun r4 S3 =>
  (r4 = none →
  ∀ v6 : Int32, v6 = x4_8 + (1 : Int32) →
  K8 v6 x2_8 S3) ∧
  (∀ j5 : Nat, r4 = some j5 →
  wp_X5_hasTaker j5 S3 (fun r8 S7 =>
  (r8 = 0 →
  ∀ v9 : Int32, v9 = x4_8 + (1 : Int32) →
  K8 v9 x2_8 S7) ∧
  (¬ r8 = 0 →
  (¬ (gi S7 5 j5 5) = (gi S7 1 jp1 0) →
  ∀ v10 : Int32, v10 = x4_8 + (1 : Int32) →
  K8 v10 x2_8 S7) ∧
  ((gi S7 5 j5 5) = (gi S7 1 jp1 0) →
  ∀ v11 : Int64, v11 = x2_8 - (gj S7 5 j5 6) →
  ∀ v12 : Int32, v12 = x4_8 + (1 : Int32) →
  K8 v12 v11 S7))))))
def lp_X8_freeOf_8 (jp1 : Nat) (post : Int64 → St → Prop) : Nat → Int32 → Int64 → St → Prop
  | 0, _, _, _ => False
  | n + 1, x4_8, x2_8, S2 => bd_X8_freeOf_8 jp1 post (fun x4_8 x2_8 S2 => lp_X8_freeOf_8 jp1 post n x4_8 x2_8 S2) x4_8 x2_8 S2
def wp_X8_freeOf (jp1 : Nat) (S0 : St) (post : Int64 → St → Prop) : Prop :=
  ∀ v1 : Int64, v1 = gj S0 1 jp1 1 →
  ∃ n : Nat, lp_X8_freeOf_8 jp1 post n (0 : Int32) v1 S0
set_option maxRecDepth 100000 in
set_option maxHeartbeats 4000000 in
theorem m_X8_freeOf (l : Launch) (G : GT) (jp1 : Nat) (S0 : St) (a0 : Nat) (hA0 : AtO S0 7 0 a0) (ap1 : Nat) (hAp1 : AtO S0 1 jp1 ap1) (post : Int64 → St → Prop) (hQ : wp_X8_freeOf jp1 S0 post) : Met l yX8_freeOf (wM yX8_freeOf cX8_freeOf 6 (some (FieldType.long))) ({ frames := 1, cells := 0, slots := 0, locals := 21 } : Room) (PC G S0 [.ref a0, .ref ap1]) (QJ G S0 post) 0 0 (QA G) := by
  refine mt_start RX8 (by decide) rfl (Nat.le_of_ble_eq_true rfl) ?_
  intro p e s m args below meth c ls F hr hlk hnm hw hl
  have hx := F.1
  have hb := F.2.1
  have hown := F.2.2.2.1
  have hts := F.2.2.2.2
  have hX : Ext S0 S0 := Ext.rf
  have hsz0 := hw.1.1.1
  have hl : lv_has ls 6 [(0, .ref a0), (1, .ref ap1)] := hl
  unfold wp_X8_freeOf at hQ
  refine lv_aload_n hx hb dX8_freeOf_0 rfl (lv_at hl 1 rfl) ?_
  refine g_1_1 F hw hAp1 twf_RX8_93 dX8_freeOf_1 ?_
  refine lv_topl (fun v1 ev1 => ?_)
  have hQ := hQ v1 ev1
  refine lv_lstore_n (lv' := [(2, .long v1), (0, .ref a0), (1, .ref ap1)]) hx hb dX8_freeOf_4 rfl hl (by decide) rfl (fun ls hl => ?_)
  refine lv_iconst (v := 0) hx hb dX8_freeOf_5 (by decide) ?_
  refine lv_istore (lv' := [(4, .int (0 : Int32)), (2, .long v1), (0, .ref a0), (1, .ref ap1)]) hx hb dX8_freeOf_6 hl (by decide) rfl (fun ls hl => ?_)
  have hloop8 : ∀ (n8 : Nat) (x4_8 : Int32) (x2_8 : Int64) (S2 : St) (H : Heap) (locs : List Loc) (ls : Array Slot) (cl8 sl8 : Nat), lp_X8_freeOf_8 jp1 post n8 x4_8 x2_8 S2 → WW G S2 s H locs → Ext S0 S2 → AtO S2 7 0 a0 → AtO S2 1 jp1 ap1 → lv_has ls 6 [(4, .int x4_8), (2, .long x2_8), (0, .ref a0), (1, .ref ap1)] → cl8 ≤ 0 + 0 → sl8 ≤ 0 + 0 → W p l e ({ frames := 1, cells := 0, slots := 0, locals := 21 } : Room) s m args below meth c H locs cl8 sl8 (MQ below (QJ G S0 post) args s 0 0 (QA G)) (F0 m 8 ls []) := by
    intro n8
    induction n8 with
    | zero => intro x4_8 x2_8 S2 H locs ls cl sl hQ; exact False.elim hQ
    | succ n8 ih8 =>
      intro x4_8 x2_8 S2 H locs ls cl8 sl8 hQ hw hX hA0 hAp1 hl hcl8 hsl8
      have hQ : bd_X8_freeOf_8 jp1 post (fun x4_8 x2_8 S2 => lp_X8_freeOf_8 jp1 post n8 x4_8 x2_8 S2) x4_8 x2_8 S2 := hQ
      unfold bd_X8_freeOf_8 at hQ
      refine lv_iload hx hb dX8_freeOf_8 (lv_at hl 0 rfl) ?_
      refine lv_aload_n hx hb dX8_freeOf_10 rfl (lv_at hl 2 rfl) ?_
      refine g_7_6 F hw hA0 twf_RX8_115 dX8_freeOf_11 ?_
      refine lv_icmp_ge (tgt := 64) hx hb dX8_freeOf_14 (by decide) (fun hc => ?_) (fun hc => ?_)
      · have hQ := hQ.1 hc
        refine lv_lload_n hx hb dX8_freeOf_64 rfl (lv_at hl 1 rfl) ?_
        exact rt_l F hr hlk hw hX hQ (show cl8 ≤ 0 from by omega) (show sl8 ≤ 0 from by omega) dX8_freeOf_65
      · have hQ := hQ.2 hc
        refine lv_aload_n hx hb dX8_freeOf_17 rfl (lv_at hl 2 rfl) ?_
        refine lv_iload hx hb dX8_freeOf_18 (lv_at hl 0 rfl) ?_
        refine k_X8_lotAt F hw hl hA0 hQ twm_RX8_69 (Nat.le_of_ble_eq_true rfl) (Nat.le_of_ble_eq_true rfl) (Nat.le_of_ble_eq_true rfl) dX8_freeOf_20 (show cl8 + 0 ≤ 0 from by omega) (show sl8 + 0 ≤ 0 from by omega) (fun S3 H locs hQ hw hx1 => ?_) (fun j5 a5 S3 H locs hQ hA5 hw hx1 => ?_)
        · have hQ := hQ.1 rfl
          have hX := hX.trans hx1
          have hA0 := hA0.ext hx1
          have hAp1 := hAp1.ext hx1
          refine lv_astoreN (lv' := [(5, .null), (4, .int x4_8), (2, .long x2_8), (0, .ref a0), (1, .ref ap1)]) hx hb dX8_freeOf_23 hl (by decide) rfl (fun ls hl => ?_)
          refine lv_aloadN hx hb dX8_freeOf_25 (lv_at hl 0 rfl) ?_
          refine lv_ifnullN (tgt := 58) hx hb dX8_freeOf_27 (by decide) ?_
          obtain ⟨v6, ev6⟩ : ∃ y : Int32, y = x4_8 + (1 : Int32) := ⟨_, rfl⟩
          have hQ := hQ v6 ev6
          refine lv_iinc (v := v6) (lv' := [(4, .int v6), (5, .null), (2, .long x2_8), (0, .ref a0), (1, .ref ap1)]) hx hb dX8_freeOf_58 hl (k := 1) rfl (by rw [ev6]; rfl) (by decide) rfl (fun ls hl => ?_)
          refine lv_goto (tgt := 8) hx hb dX8_freeOf_61 (by decide) ?_
          exact ih8 v6 x2_8 S3 _ _ _ _ _ hQ hw hX hA0 hAp1 (lv_sub hl [0, 2, 3, 4] rfl) (by omega) (by omega)
        · have hQ := hQ.2 j5 rfl
          have hX := hX.trans hx1
          have hA0 := hA0.ext hx1
          have hAp1 := hAp1.ext hx1
          refine lv_astore (lv' := [(5, .ref a5), (4, .int x4_8), (2, .long x2_8), (0, .ref a0), (1, .ref ap1)]) hx hb dX8_freeOf_23 hl (by decide) rfl (fun ls hl => ?_)
          refine lv_aload hx hb dX8_freeOf_25 (lv_at hl 0 rfl) ?_
          refine lv_ifnull hx hb dX8_freeOf_27 ?_
          refine lv_aload hx hb dX8_freeOf_30 (lv_at hl 0 rfl) ?_
          refine k_X5_hasTaker F hw hl hA5 hQ twm_RX8_73 (Nat.le_of_ble_eq_true rfl) (Nat.le_of_ble_eq_true rfl) (Nat.le_of_ble_eq_true rfl) dX8_freeOf_32 (show (cl8 + 0) + 0 ≤ 0 from by omega) (show (sl8 + 0) + 0 ≤ 0 from by omega) (fun r8 S7 H locs hQ hw hx1 => ?_)
          have hX := hX.trans hx1
          have hA5 := hA5.ext hx1
          have hA0 := hA0.ext hx1
          have hAp1 := hAp1.ext hx1
          refine lv_if_eq (tgt := 58) hx hb dX8_freeOf_35 (by decide) (fun hc => ?_) (fun hc => ?_)
          · have hQ := hQ.1 hc
            obtain ⟨v9, ev9⟩ : ∃ y : Int32, y = x4_8 + (1 : Int32) := ⟨_, rfl⟩
            have hQ := hQ v9 ev9
            refine lv_iinc (v := v9) (lv' := [(4, .int v9), (5, .ref a5), (2, .long x2_8), (0, .ref a0), (1, .ref ap1)]) hx hb dX8_freeOf_58 hl (k := 1) rfl (by rw [ev9]; rfl) (by decide) rfl (fun ls hl => ?_)
            refine lv_goto (tgt := 8) hx hb dX8_freeOf_61 (by decide) ?_
            exact ih8 v9 x2_8 S7 _ _ _ _ _ hQ hw hX hA0 hAp1 (lv_sub hl [0, 2, 3, 4] rfl) (by omega) (by omega)
          · have hQ := hQ.2 hc
            refine lv_aload hx hb dX8_freeOf_38 (lv_at hl 0 rfl) ?_
            refine g_5_5 F hw hA5 twf_RX8_77 dX8_freeOf_40 ?_
            refine lv_aload_n hx hb dX8_freeOf_43 rfl (lv_at hl 4 rfl) ?_
            refine g_1_0 F hw hAp1 twf_RX8_359 dX8_freeOf_44 ?_
            refine lv_icmp_ne (tgt := 58) hx hb dX8_freeOf_47 (by decide) (fun hc => ?_) (fun hc => ?_)
            · have hQ := hQ.1 hc
              obtain ⟨v10, ev10⟩ : ∃ y : Int32, y = x4_8 + (1 : Int32) := ⟨_, rfl⟩
              have hQ := hQ v10 ev10
              refine lv_iinc (v := v10) (lv' := [(4, .int v10), (5, .ref a5), (2, .long x2_8), (0, .ref a0), (1, .ref ap1)]) hx hb dX8_freeOf_58 hl (k := 1) rfl (by rw [ev10]; rfl) (by decide) rfl (fun ls hl => ?_)
              refine lv_goto (tgt := 8) hx hb dX8_freeOf_61 (by decide) ?_
              exact ih8 v10 x2_8 S7 _ _ _ _ _ hQ hw hX hA0 hAp1 (lv_sub hl [0, 2, 3, 4] rfl) (by omega) (by omega)
            · have hQ := hQ.2 hc
              refine lv_lload_n hx hb dX8_freeOf_50 rfl (lv_at hl 2 rfl) ?_
              refine lv_aload hx hb dX8_freeOf_51 (lv_at hl 0 rfl) ?_
              refine g_5_6 F hw hA5 twf_RX8_82 dX8_freeOf_53 ?_
              refine lv_lsub hx hb dX8_freeOf_56 ?_
              refine lv_topl (fun v11 ev11 => ?_)
              have hQ := hQ v11 ev11
              refine lv_lstore_n (lv' := [(2, .long v11), (5, .ref a5), (4, .int x4_8), (0, .ref a0), (1, .ref ap1)]) hx hb dX8_freeOf_57 rfl hl (by decide) rfl (fun ls hl => ?_)
              obtain ⟨v12, ev12⟩ : ∃ y : Int32, y = x4_8 + (1 : Int32) := ⟨_, rfl⟩
              have hQ := hQ v12 ev12
              refine lv_iinc (v := v12) (lv' := [(4, .int v12), (2, .long v11), (5, .ref a5), (0, .ref a0), (1, .ref ap1)]) hx hb dX8_freeOf_58 hl (k := 2) rfl (by rw [ev12]; rfl) (by decide) rfl (fun ls hl => ?_)
              refine lv_goto (tgt := 8) hx hb dX8_freeOf_61 (by decide) ?_
              exact ih8 v12 v11 S7 _ _ _ _ _ hQ hw hX hA0 hAp1 (lv_sub hl [0, 1, 3, 4] rfl) (by omega) (by omega)
  obtain ⟨n, hQ⟩ := hQ
  exact hloop8 n (0 : Int32) v1 S0 _ _ _ _ _ hQ hw hX hA0 hAp1 (lv_sub hl [0, 1, 2, 3] rfl) (by omega) (by omega)
theorem k_X8_freeOf {p : Program} {l : Launch} {e : Env} {R : Room} {s : State} {m : MethodId} {args : Array Value} {below : List Frame} {meth : Method} {c : Code} {H : Heap} {locs : List Loc} {cells slots : Nat} {Q : State → Prop} {cc : ByteArray} {pc nL : Nat} {ls : Array Slot} {rest : List Value} {G : GT} {S : St} {own : String} {jp1 : Nat} {post : Int64 → St → Prop} {lv : List (Nat × Value)} {idx : Nat} (F : CX p m c cc nL s args own) (hw : WW G S s H locs) (hl : lv_has ls nL lv) {a0 : Nat} (hA0 : AtO S 7 0 a0) {ap1 : Nat} (hAp1 : AtO S 1 jp1 ap1) (hQ : wp_X8_freeOf jp1 S post) (h1 : Cond.methodLink own idx yX8_freeOf ∈ wT) (hR1 : 1 + 1 ≤ R.frames) (hR2 : 8 + (6 + 11) + 21 ≤ R.locals) (hrest : (rest.map fun v => v.category).sum ≤ 8) (hdg : decode cc pc = .ok (.invokevirtual idx, 3)) (hf1 : cells + 0 ≤ R.cells) (hf2 : slots + 0 ≤ R.slots)
    (kk : ∀ (r : Int64) (S1 : St) (H1 : Heap) (locs1 : List Loc), post r S1 → WW G S1 s H1 locs1 → Ext S S1 → W p l e R s m args below meth c H1 locs1 (cells + 0) (slots + 0) Q (F0 m (pc + 3) ls (.long r :: rest))) : W p l e R s m args below meth c H locs cells slots Q (F0 m pc ls (.ref ap1 :: .ref a0 :: rest)) :=
  cl_l (rn_V (n := 1) (As := [.ref ap1]) (q := (RX8, TX8, 11)) F hw hl (m_X8_freeOf l G jp1 S a0 hA0 ap1 hAp1 post hQ) 7 (by decide) (by decide) hA0 rfl rfl h1 twi_yX8_freeOf tws_yX8_freeOf twn_RX8 two_yX8_freeOf rfl rfl ⟨rfl, by decide, by decide, by decide +kernel⟩ rfl ⟨hR1, hR2⟩ rfl hrest hdg ⟨hf1, hf2⟩) hw kk
-- X8_held
def wp_X8_held (p1 : Int32) (S0 : St) (post : Int64 → St → Prop) : Prop :=
  wp_X8_buyerAt p1 S0 (fun r2 S1 =>
  (r2 = none →
  post (-1 : Int64) S1) ∧
  (∀ j3 : Nat, r2 = some j3 →
  wp_X8_freeOf j3 S1 (fun r5 S4 =>
  post ((gj S1 1 j3 1) - r5) S4)))
set_option maxRecDepth 100000 in
set_option maxHeartbeats 4000000 in
theorem m_X8_held (l : Launch) (G : GT) (p1 : Int32) (S0 : St) (a0 : Nat) (hA0 : AtO S0 7 0 a0) (post : Int64 → St → Prop) (hQ : wp_X8_held p1 S0 post) : Met l yX8_held (wM yX8_held cX8_held 3 (some (FieldType.long))) ({ frames := 2, cells := 0, slots := 0, locals := 46 } : Room) (PC G S0 [.ref a0, .int p1]) (QJ G S0 post) 0 0 (QA G) := by
  refine mt_start RX8 (by decide) rfl (Nat.le_of_ble_eq_true rfl) ?_
  intro p e s m args below meth c ls F hr hlk hnm hw hl
  have hx := F.1
  have hb := F.2.1
  have hown := F.2.2.2.1
  have hts := F.2.2.2.2
  have hX : Ext S0 S0 := Ext.rf
  have hsz0 := hw.1.1.1
  have hl : lv_has ls 3 [(0, .ref a0), (1, .int p1)] := hl
  unfold wp_X8_held at hQ
  refine lv_aload_n hx hb dX8_held_0 rfl (lv_at hl 0 rfl) ?_
  refine lv_iload_n hx hb dX8_held_1 rfl (lv_at hl 1 rfl) ?_
  refine k_X8_buyerAt F hw hl hA0 hQ twm_RX8_89 (Nat.le_of_ble_eq_true rfl) (Nat.le_of_ble_eq_true rfl) (Nat.le_of_ble_eq_true rfl) dX8_held_2 (show 0 + 0 ≤ 0 from by omega) (show 0 + 0 ≤ 0 from by omega) (fun S1 H locs hQ hw hx1 => ?_) (fun j3 a3 S1 H locs hQ hA3 hw hx1 => ?_)
  · have hQ := hQ.1 rfl
    have hX := hX.trans hx1
    have hA0 := hA0.ext hx1
    refine lv_astore_nN (lv' := [(2, .null), (0, .ref a0), (1, .int p1)]) hx hb dX8_held_5 rfl hl (by decide) rfl (fun ls hl => ?_)
    refine lv_aload_nN hx hb dX8_held_6 rfl (lv_at hl 0 rfl) ?_
    refine lv_ifnonnullN hx hb dX8_held_7 ?_
    refine lv_ldc2 (v := -1) hx hb hown (hts _ twl_RX8_80) dX8_held_10 ?_
    refine lv_goto (tgt := 26) hx hb dX8_held_13 (by decide) ?_
    exact rt_l F hr hlk hw hX hQ (show (0 + 0) ≤ 0 from by omega) (show (0 + 0) ≤ 0 from by omega) dX8_held_26
  · have hQ := hQ.2 j3 rfl
    have hX := hX.trans hx1
    have hA0 := hA0.ext hx1
    refine lv_astore_n (lv' := [(2, .ref a3), (0, .ref a0), (1, .int p1)]) hx hb dX8_held_5 rfl hl (by decide) rfl (fun ls hl => ?_)
    refine lv_aload_n hx hb dX8_held_6 rfl (lv_at hl 0 rfl) ?_
    refine lv_ifnonnull (tgt := 16) hx hb dX8_held_7 (by decide) ?_
    refine lv_aload_n hx hb dX8_held_16 rfl (lv_at hl 0 rfl) ?_
    refine g_1_1 F hw hA3 twf_RX8_93 dX8_held_17 ?_
    refine lv_aload_n hx hb dX8_held_20 rfl (lv_at hl 1 rfl) ?_
    refine lv_aload_n hx hb dX8_held_21 rfl (lv_at hl 0 rfl) ?_
    refine k_X8_freeOf F hw hl hA0 hA3 hQ twm_RX8_96 (Nat.le_of_ble_eq_true rfl) (Nat.le_of_ble_eq_true rfl) (Nat.le_of_ble_eq_true rfl) dX8_held_22 (show (0 + 0) + 0 ≤ 0 from by omega) (show (0 + 0) + 0 ≤ 0 from by omega) (fun r5 S4 H locs hQ hw hx1 => ?_)
    have hX := hX.trans hx1
    have hA3 := hA3.ext hx1
    have hA0 := hA0.ext hx1
    refine lv_lsub hx hb dX8_held_25 ?_
    exact rt_l F hr hlk hw hX hQ (show ((0 + 0) + 0) ≤ 0 from by omega) (show ((0 + 0) + 0) ≤ 0 from by omega) dX8_held_26
theorem k_X8_held {p : Program} {l : Launch} {e : Env} {R : Room} {s : State} {m : MethodId} {args : Array Value} {below : List Frame} {meth : Method} {c : Code} {H : Heap} {locs : List Loc} {cells slots : Nat} {Q : State → Prop} {cc : ByteArray} {pc nL : Nat} {ls : Array Slot} {rest : List Value} {G : GT} {S : St} {own : String} {p1 : Int32} {post : Int64 → St → Prop} {lv : List (Nat × Value)} {idx : Nat} (F : CX p m c cc nL s args own) (hw : WW G S s H locs) (hl : lv_has ls nL lv) {a0 : Nat} (hA0 : AtO S 7 0 a0) (hQ : wp_X8_held p1 S post) (h1 : Cond.methodLink own idx yX8_held ∈ wT) (hR1 : 2 + 1 ≤ R.frames) (hR2 : 8 + (3 + 11) + 46 ≤ R.locals) (hrest : (rest.map fun v => v.category).sum ≤ 8) (hdg : decode cc pc = .ok (.invokevirtual idx, 3)) (hf1 : cells + 0 ≤ R.cells) (hf2 : slots + 0 ≤ R.slots)
    (kk : ∀ (r : Int64) (S1 : St) (H1 : Heap) (locs1 : List Loc), post r S1 → WW G S1 s H1 locs1 → Ext S S1 → W p l e R s m args below meth c H1 locs1 (cells + 0) (slots + 0) Q (F0 m (pc + 3) ls (.long r :: rest))) : W p l e R s m args below meth c H locs cells slots Q (F0 m pc ls (.int p1 :: .ref a0 :: rest)) :=
  cl_l (rn_V (n := 1) (As := [.int p1]) (q := (RX8, TX8, 11)) F hw hl (m_X8_held l G p1 S a0 hA0 post hQ) 7 (by decide) (by decide) hA0 rfl rfl h1 twi_yX8_held tws_yX8_held twn_RX8 two_yX8_held rfl rfl ⟨rfl, by decide, by decide, by decide +kernel⟩ rfl ⟨hR1, hR2⟩ rfl hrest hdg ⟨hf1, hf2⟩) hw kk
-- X8_fee
def wp_X8_fee (p1 : Int32) (S0 : St) (post : Int64 → St → Prop) : Prop :=
  wp_X8_lotAt p1 S0 (fun r2 S1 =>
  (r2 = none →
  post (-1 : Int64) S1) ∧
  (∀ j3 : Nat, r2 = some j3 →
  ((gr S1 5 j3 4) = (some 3) →
  post ((((gj S1 5 j3 6) + (49 : Int64)) / (50 : Int64)) + (30 : Int64)) S1) ∧
  (¬ (gr S1 5 j3 4) = (some 3) →
  post (-1 : Int64) S1)))
set_option maxRecDepth 100000 in
set_option maxHeartbeats 4000000 in
theorem m_X8_fee (l : Launch) (G : GT) (p1 : Int32) (S0 : St) (a0 : Nat) (hA0 : AtO S0 7 0 a0) (post : Int64 → St → Prop) (hQ : wp_X8_fee p1 S0 post) : Met l yX8_fee (wM yX8_fee cX8_fee 3 (some (FieldType.long))) ({ frames := 1, cells := 0, slots := 0, locals := 21 } : Room) (PC G S0 [.ref a0, .int p1]) (QJ G S0 post) 0 0 (QA G) := by
  refine mt_start RX8 (by decide) rfl (Nat.le_of_ble_eq_true rfl) ?_
  intro p e s m args below meth c ls F hr hlk hnm hw hl
  have hx := F.1
  have hb := F.2.1
  have hown := F.2.2.2.1
  have hts := F.2.2.2.2
  have hX : Ext S0 S0 := Ext.rf
  have hsz0 := hw.1.1.1
  have hl : lv_has ls 3 [(0, .ref a0), (1, .int p1)] := hl
  unfold wp_X8_fee at hQ
  refine lv_aload_n hx hb dX8_fee_0 rfl (lv_at hl 0 rfl) ?_
  refine lv_iload_n hx hb dX8_fee_1 rfl (lv_at hl 1 rfl) ?_
  refine k_X8_lotAt F hw hl hA0 hQ twm_RX8_69 (Nat.le_of_ble_eq_true rfl) (Nat.le_of_ble_eq_true rfl) (Nat.le_of_ble_eq_true rfl) dX8_fee_2 (show 0 + 0 ≤ 0 from by omega) (show 0 + 0 ≤ 0 from by omega) (fun S1 H locs hQ hw hx1 => ?_) (fun j3 a3 S1 H locs hQ hA3 hw hx1 => ?_)
  · have hQ := hQ.1 rfl
    have hX := hX.trans hx1
    have hA0 := hA0.ext hx1
    refine lv_astore_nN (lv' := [(2, .null), (0, .ref a0), (1, .int p1)]) hx hb dX8_fee_5 rfl hl (by decide) rfl (fun ls hl => ?_)
    refine lv_aload_nN hx hb dX8_fee_6 rfl (lv_at hl 0 rfl) ?_
    refine lv_ifnullN (tgt := 20) hx hb dX8_fee_7 (by decide) ?_
    refine lv_ldc2 (v := -1) hx hb hown (hts _ twl_RX8_80) dX8_fee_20 ?_
    exact rt_l F hr hlk hw hX hQ (show (0 + 0) ≤ 0 from by omega) (show (0 + 0) ≤ 0 from by omega) dX8_fee_23
  · have hQ := hQ.2 j3 rfl
    have hX := hX.trans hx1
    have hA0 := hA0.ext hx1
    refine lv_astore_n (lv' := [(2, .ref a3), (0, .ref a0), (1, .int p1)]) hx hb dX8_fee_5 rfl hl (by decide) rfl (fun ls hl => ?_)
    refine lv_aload_n hx hb dX8_fee_6 rfl (lv_at hl 0 rfl) ?_
    refine lv_ifnull hx hb dX8_fee_7 ?_
    refine lv_aload_n hx hb dX8_fee_10 rfl (lv_at hl 0 rfl) ?_
    have he4 := ww_es hw j3
    refine g_5_4 F hw hA3 twf_RX8_100 dX8_fee_11 ?_
    refine pw_gets F hw 3 (by decide) rfl twf_RX8_104 dX8_fee_14 ?_
    refine pw_acmp_eq (tgt := 24) F hw (by decide) he4 dX8_fee_17 (by decide) (fun hc => ?_) (fun hc => ?_)
    · have hQ := hQ.1 hc
      refine lv_aload_n hx hb dX8_fee_24 rfl (lv_at hl 0 rfl) ?_
      refine g_5_6 F hw hA3 twf_RX8_82 dX8_fee_25 ?_
      refine lv_ldc2 (v := 49) hx hb hown (hts _ twl_RX8_109) dX8_fee_28 ?_
      refine lv_ladd hx hb dX8_fee_31 ?_
      refine lv_ldc2 (v := 50) hx hb hown (hts _ twl_RX8_111) dX8_fee_32 ?_
      refine lv_ldiv hx hb dX8_fee_35 (by decide) ?_
      refine lv_ldc2 (v := 30) hx hb hown (hts _ twl_RX8_113) dX8_fee_36 ?_
      refine lv_ladd hx hb dX8_fee_39 ?_
      exact rt_l F hr hlk hw hX hQ (show (0 + 0) ≤ 0 from by omega) (show (0 + 0) ≤ 0 from by omega) dX8_fee_40
    · have hQ := hQ.2 hc
      refine lv_ldc2 (v := -1) hx hb hown (hts _ twl_RX8_80) dX8_fee_20 ?_
      exact rt_l F hr hlk hw hX hQ (show (0 + 0) ≤ 0 from by omega) (show (0 + 0) ≤ 0 from by omega) dX8_fee_23
theorem k_X8_fee {p : Program} {l : Launch} {e : Env} {R : Room} {s : State} {m : MethodId} {args : Array Value} {below : List Frame} {meth : Method} {c : Code} {H : Heap} {locs : List Loc} {cells slots : Nat} {Q : State → Prop} {cc : ByteArray} {pc nL : Nat} {ls : Array Slot} {rest : List Value} {G : GT} {S : St} {own : String} {p1 : Int32} {post : Int64 → St → Prop} {lv : List (Nat × Value)} {idx : Nat} (F : CX p m c cc nL s args own) (hw : WW G S s H locs) (hl : lv_has ls nL lv) {a0 : Nat} (hA0 : AtO S 7 0 a0) (hQ : wp_X8_fee p1 S post) (h1 : Cond.methodLink own idx yX8_fee ∈ wT) (hR1 : 1 + 1 ≤ R.frames) (hR2 : 8 + (3 + 11) + 21 ≤ R.locals) (hrest : (rest.map fun v => v.category).sum ≤ 8) (hdg : decode cc pc = .ok (.invokevirtual idx, 3)) (hf1 : cells + 0 ≤ R.cells) (hf2 : slots + 0 ≤ R.slots)
    (kk : ∀ (r : Int64) (S1 : St) (H1 : Heap) (locs1 : List Loc), post r S1 → WW G S1 s H1 locs1 → Ext S S1 → W p l e R s m args below meth c H1 locs1 (cells + 0) (slots + 0) Q (F0 m (pc + 3) ls (.long r :: rest))) : W p l e R s m args below meth c H locs cells slots Q (F0 m pc ls (.int p1 :: .ref a0 :: rest)) :=
  cl_l (rn_V (n := 1) (As := [.int p1]) (q := (RX8, TX8, 11)) F hw hl (m_X8_fee l G p1 S a0 hA0 post hQ) 7 (by decide) (by decide) hA0 rfl rfl h1 twi_yX8_fee tws_yX8_fee twn_RX8 two_yX8_fee rfl rfl ⟨rfl, by decide, by decide, by decide +kernel⟩ rfl ⟨hR1, hR2⟩ rfl hrest hdg ⟨hf1, hf2⟩) hw kk
-- X5_isOpenOf
def wp_X5_isOpenOf (j0 : Nat) (p1 : Int32) (S0 : St) (post : Int32 → St → Prop) : Prop :=
  (¬ (gr S0 5 j0 4) = (some 0) →
  post (0 : Int32) S0) ∧
  ((gr S0 5 j0 4) = (some 0) →
  (¬ (gi S0 5 j0 1) = p1 →
  post (0 : Int32) S0) ∧
  ((gi S0 5 j0 1) = p1 →
  post (1 : Int32) S0))
set_option maxRecDepth 100000 in
set_option maxHeartbeats 4000000 in
theorem m_X5_isOpenOf (l : Launch) (G : GT) (j0 : Nat) (p1 : Int32) (S0 : St) (a0 : Nat) (hA0 : AtO S0 5 j0 a0) (post : Int32 → St → Prop) (hQ : wp_X5_isOpenOf j0 p1 S0 post) : Met l yX5_isOpenOf (wM yX5_isOpenOf cX5_isOpenOf 2 (some (FieldType.boolean))) ({ frames := 0, cells := 0, slots := 0, locals := 0 } : Room) (PC G S0 [.ref a0, .int p1]) (QI G S0 post) 0 0 (QA G) := by
  refine mt_start RX5 (by decide) rfl (Nat.le_of_ble_eq_true rfl) ?_
  intro p e s m args below meth c ls F hr hlk hnm hw hl
  have hx := F.1
  have hb := F.2.1
  have hown := F.2.2.2.1
  have hts := F.2.2.2.2
  have hX : Ext S0 S0 := Ext.rf
  have hsz0 := hw.1.1.1
  have hl : lv_has ls 2 [(0, .ref a0), (1, .int p1)] := hl
  unfold wp_X5_isOpenOf at hQ
  refine lv_aload_n hx hb dX5_isOpenOf_0 rfl (lv_at hl 0 rfl) ?_
  have he1 := ww_es hw j0
  refine g_5_4 F hw hA0 twf_RX5_31 dX5_isOpenOf_1 ?_
  refine pw_gets F hw 0 (by decide) rfl twf_RX5_25 dX5_isOpenOf_4 ?_
  refine pw_acmp_ne (tgt := 22) F hw (by decide) he1 dX5_isOpenOf_7 (by decide) (fun hc => ?_) (fun hc => ?_)
  · have hQ := hQ.1 hc
    refine lv_iconst (v := 0) hx hb dX5_isOpenOf_22 (by decide) ?_
    exact rt_z F hr hlk hw hX hQ rfl (show 0 ≤ 0 from by omega) (show 0 ≤ 0 from by omega) dX5_isOpenOf_23
  · have hQ := hQ.2 hc
    refine lv_aload_n hx hb dX5_isOpenOf_10 rfl (lv_at hl 0 rfl) ?_
    refine g_5_1 F hw hA0 twf_RX5_15 dX5_isOpenOf_11 ?_
    refine lv_iload_n hx hb dX5_isOpenOf_14 rfl (lv_at hl 1 rfl) ?_
    refine lv_icmp_ne (tgt := 22) hx hb dX5_isOpenOf_15 (by decide) (fun hc => ?_) (fun hc => ?_)
    · have hQ := hQ.1 hc
      refine lv_iconst (v := 0) hx hb dX5_isOpenOf_22 (by decide) ?_
      exact rt_z F hr hlk hw hX hQ rfl (show 0 ≤ 0 from by omega) (show 0 ≤ 0 from by omega) dX5_isOpenOf_23
    · have hQ := hQ.2 hc
      refine lv_iconst (v := 1) hx hb dX5_isOpenOf_18 (by decide) ?_
      refine lv_goto (tgt := 23) hx hb dX5_isOpenOf_19 (by decide) ?_
      exact rt_z F hr hlk hw hX hQ rfl (show 0 ≤ 0 from by omega) (show 0 ≤ 0 from by omega) dX5_isOpenOf_23
theorem k_X5_isOpenOf {p : Program} {l : Launch} {e : Env} {R : Room} {s : State} {m : MethodId} {args : Array Value} {below : List Frame} {meth : Method} {c : Code} {H : Heap} {locs : List Loc} {cells slots : Nat} {Q : State → Prop} {cc : ByteArray} {pc nL : Nat} {ls : Array Slot} {rest : List Value} {G : GT} {S : St} {own : String} {j0 : Nat} {p1 : Int32} {post : Int32 → St → Prop} {lv : List (Nat × Value)} {idx : Nat} (F : CX p m c cc nL s args own) (hw : WW G S s H locs) (hl : lv_has ls nL lv) {a0 : Nat} (hA0 : AtO S 5 j0 a0) (hQ : wp_X5_isOpenOf j0 p1 S post) (h1 : Cond.methodLink own idx yX5_isOpenOf ∈ wT) (hR1 : 0 + 1 ≤ R.frames) (hR2 : 8 + (2 + 11) + 0 ≤ R.locals) (hrest : (rest.map fun v => v.category).sum ≤ 8) (hdg : decode cc pc = .ok (.invokevirtual idx, 3)) (hf1 : cells + 0 ≤ R.cells) (hf2 : slots + 0 ≤ R.slots)
    (kk : ∀ (r : Int32) (S1 : St) (H1 : Heap) (locs1 : List Loc), post r S1 → WW G S1 s H1 locs1 → Ext S S1 → W p l e R s m args below meth c H1 locs1 (cells + 0) (slots + 0) Q (F0 m (pc + 3) ls (.int r :: rest))) : W p l e R s m args below meth c H locs cells slots Q (F0 m pc ls (.int p1 :: .ref a0 :: rest)) :=
  cl_i (rn_V (n := 1) (As := [.int p1]) (q := (RX5, TX5, 12)) F hw hl (m_X5_isOpenOf l G j0 p1 S a0 hA0 post hQ) 5 (by decide) (by decide) hA0 rfl rfl h1 twi_yX5_isOpenOf tws_yX5_isOpenOf twn_RX5 two_yX5_isOpenOf rfl rfl ⟨rfl, by decide, by decide, by decide +kernel⟩ rfl ⟨hR1, hR2⟩ rfl hrest hdg ⟨hf1, hf2⟩) hw kk
-- X5_goesBefore
def wp_X5_goesBefore (j0 : Nat) (jp1 : Nat) (S0 : St) (post : Int32 → St → Prop) : Prop :=
  ((gj S0 5 jp1 2) < (gj S0 5 j0 2) →
  post (1 : Int32) S0) ∧
  (¬ (gj S0 5 jp1 2) < (gj S0 5 j0 2) →
  (¬ (gj S0 5 j0 2) = (gj S0 5 jp1 2) →
  post (0 : Int32) S0) ∧
  ((gj S0 5 j0 2) = (gj S0 5 jp1 2) →
  ((gi S0 5 jp1 0) ≤ (gi S0 5 j0 0) →
  post (0 : Int32) S0) ∧
  (¬ (gi S0 5 jp1 0) ≤ (gi S0 5 j0 0) →
  post (1 : Int32) S0)))
set_option maxRecDepth 100000 in
set_option maxHeartbeats 4000000 in
theorem m_X5_goesBefore (l : Launch) (G : GT) (j0 : Nat) (jp1 : Nat) (S0 : St) (a0 : Nat) (hA0 : AtO S0 5 j0 a0) (ap1 : Nat) (hAp1 : AtO S0 5 jp1 ap1) (post : Int32 → St → Prop) (hQ : wp_X5_goesBefore j0 jp1 S0 post) : Met l yX5_goesBefore (wM yX5_goesBefore cX5_goesBefore 2 (some (FieldType.boolean))) ({ frames := 0, cells := 0, slots := 0, locals := 0 } : Room) (PC G S0 [.ref a0, .ref ap1]) (QI G S0 post) 0 0 (QA G) := by
  refine mt_start RX5 (by decide) rfl (Nat.le_of_ble_eq_true rfl) ?_
  intro p e s m args below meth c ls F hr hlk hnm hw hl
  have hx := F.1
  have hb := F.2.1
  have hown := F.2.2.2.1
  have hts := F.2.2.2.2
  have hX : Ext S0 S0 := Ext.rf
  have hsz0 := hw.1.1.1
  have hl : lv_has ls 2 [(0, .ref a0), (1, .ref ap1)] := hl
  unfold wp_X5_goesBefore at hQ
  refine lv_aload_n hx hb dX5_goesBefore_0 rfl (lv_at hl 0 rfl) ?_
  refine g_5_2 F hw hA0 twf_RX5_18 dX5_goesBefore_1 ?_
  refine lv_aload_n hx hb dX5_goesBefore_4 rfl (lv_at hl 1 rfl) ?_
  refine g_5_2 F hw hAp1 twf_RX5_18 dX5_goesBefore_5 ?_
  refine lc_gt (tgt := 35) F dX5_goesBefore_8 dX5_goesBefore_9 (by decide) (fun hc => ?_) (fun hc => ?_)
  · have hQ := hQ.1 hc
    refine lv_iconst (v := 1) hx hb dX5_goesBefore_35 (by decide) ?_
    refine lv_goto (tgt := 40) hx hb dX5_goesBefore_36 (by decide) ?_
    exact rt_z F hr hlk hw hX hQ rfl (show 0 ≤ 0 from by omega) (show 0 ≤ 0 from by omega) dX5_goesBefore_40
  · have hQ := hQ.2 hc
    refine lv_aload_n hx hb dX5_goesBefore_12 rfl (lv_at hl 0 rfl) ?_
    refine g_5_2 F hw hA0 twf_RX5_18 dX5_goesBefore_13 ?_
    refine lv_aload_n hx hb dX5_goesBefore_16 rfl (lv_at hl 1 rfl) ?_
    refine g_5_2 F hw hAp1 twf_RX5_18 dX5_goesBefore_17 ?_
    refine lc_ne (tgt := 39) F dX5_goesBefore_20 dX5_goesBefore_21 (by decide) (fun hc => ?_) (fun hc => ?_)
    · have hQ := hQ.1 hc
      refine lv_iconst (v := 0) hx hb dX5_goesBefore_39 (by decide) ?_
      exact rt_z F hr hlk hw hX hQ rfl (show 0 ≤ 0 from by omega) (show 0 ≤ 0 from by omega) dX5_goesBefore_40
    · have hQ := hQ.2 hc
      refine lv_aload_n hx hb dX5_goesBefore_24 rfl (lv_at hl 0 rfl) ?_
      refine g_5_0 F hw hA0 twf_RX5_9 dX5_goesBefore_25 ?_
      refine lv_aload_n hx hb dX5_goesBefore_28 rfl (lv_at hl 1 rfl) ?_
      refine g_5_0 F hw hAp1 twf_RX5_9 dX5_goesBefore_29 ?_
      refine lv_icmp_ge (tgt := 39) hx hb dX5_goesBefore_32 (by decide) (fun hc => ?_) (fun hc => ?_)
      · have hQ := hQ.1 hc
        refine lv_iconst (v := 0) hx hb dX5_goesBefore_39 (by decide) ?_
        exact rt_z F hr hlk hw hX hQ rfl (show 0 ≤ 0 from by omega) (show 0 ≤ 0 from by omega) dX5_goesBefore_40
      · have hQ := hQ.2 hc
        refine lv_iconst (v := 1) hx hb dX5_goesBefore_35 (by decide) ?_
        refine lv_goto (tgt := 40) hx hb dX5_goesBefore_36 (by decide) ?_
        exact rt_z F hr hlk hw hX hQ rfl (show 0 ≤ 0 from by omega) (show 0 ≤ 0 from by omega) dX5_goesBefore_40
theorem k_X5_goesBefore {p : Program} {l : Launch} {e : Env} {R : Room} {s : State} {m : MethodId} {args : Array Value} {below : List Frame} {meth : Method} {c : Code} {H : Heap} {locs : List Loc} {cells slots : Nat} {Q : State → Prop} {cc : ByteArray} {pc nL : Nat} {ls : Array Slot} {rest : List Value} {G : GT} {S : St} {own : String} {j0 : Nat} {jp1 : Nat} {post : Int32 → St → Prop} {lv : List (Nat × Value)} {idx : Nat} (F : CX p m c cc nL s args own) (hw : WW G S s H locs) (hl : lv_has ls nL lv) {a0 : Nat} (hA0 : AtO S 5 j0 a0) {ap1 : Nat} (hAp1 : AtO S 5 jp1 ap1) (hQ : wp_X5_goesBefore j0 jp1 S post) (h1 : Cond.methodLink own idx yX5_goesBefore ∈ wT) (hR1 : 0 + 1 ≤ R.frames) (hR2 : 8 + (2 + 11) + 0 ≤ R.locals) (hrest : (rest.map fun v => v.category).sum ≤ 8) (hdg : decode cc pc = .ok (.invokevirtual idx, 3)) (hf1 : cells + 0 ≤ R.cells) (hf2 : slots + 0 ≤ R.slots)
    (kk : ∀ (r : Int32) (S1 : St) (H1 : Heap) (locs1 : List Loc), post r S1 → WW G S1 s H1 locs1 → Ext S S1 → W p l e R s m args below meth c H1 locs1 (cells + 0) (slots + 0) Q (F0 m (pc + 3) ls (.int r :: rest))) : W p l e R s m args below meth c H locs cells slots Q (F0 m pc ls (.ref ap1 :: .ref a0 :: rest)) :=
  cl_i (rn_V (n := 1) (As := [.ref ap1]) (q := (RX5, TX5, 12)) F hw hl (m_X5_goesBefore l G j0 jp1 S a0 hA0 ap1 hAp1 post hQ) 5 (by decide) (by decide) hA0 rfl rfl h1 twi_yX5_goesBefore tws_yX5_goesBefore twn_RX5 two_yX5_goesBefore rfl rfl ⟨rfl, by decide, by decide, by decide +kernel⟩ rfl ⟨hR1, hR2⟩ rfl hrest hdg ⟨hf1, hf2⟩) hw kk
-- X8_lotsAhead
def bd_X8_lotsAhead_4 (jp1 : Nat) (post : Int32 → St → Prop) (K4 : Int32 → Int32 → St → Prop) (x3_4 : Int32) (x2_4 : Int32) (S1 : St) : Prop :=
  ((gi S1 7 0 6) ≤ x3_4 →
  post x2_4 S1) ∧
  (¬ (gi S1 7 0 6) ≤ x3_4 →
  wp_X8_lotAt x3_4 S1 (fun r3 S2 =>
  (r3 = none →
  ∀ v5 : Int32, v5 = x3_4 + (1 : Int32) →
  K4 v5 x2_4 S2) ∧
  (∀ j4 : Nat, r3 = some j4 →
  wp_X5_isOpenOf j4 (gi S2 5 jp1 1) S2 (fun r7 S6 =>
  (r7 = 0 →
  ∀ v8 : Int32, v8 = x3_4 + (1 : Int32) →
  K4 v8 x2_4 S6) ∧
  (¬ r7 = 0 →
  wp_X5_goesBefore j4 jp1 S6 (fun r10 S9 =>
  (r10 = 0 →
  ∀ v11 : Int32, v11 = x3_4 + (1 : Int32) →
  K4 v11 x2_4 S9) ∧
  (¬ r10 = 0 →
  ∀ v12 : Int32, v12 = x2_4 + (1 : Int32) →
  ∀ v13 : Int32, v13 = x3_4 + (1 : Int32) →
  K4 v13 v12 S9)))))))
def lp_X8_lotsAhead_4 (jp1 : Nat) (post : Int32 → St → Prop) : Nat → Int32 → Int32 → St → Prop
  | 0, _, _, _ => False
  | n + 1, x3_4, x2_4, S1 => bd_X8_lotsAhead_4 jp1 post (fun x3_4 x2_4 S1 => lp_X8_lotsAhead_4 jp1 post n x3_4 x2_4 S1) x3_4 x2_4 S1
def wp_X8_lotsAhead (jp1 : Nat) (S0 : St) (post : Int32 → St → Prop) : Prop :=
  ∃ n : Nat, lp_X8_lotsAhead_4 jp1 post n (0 : Int32) (0 : Int32) S0
set_option maxRecDepth 100000 in
set_option maxHeartbeats 4000000 in
theorem m_X8_lotsAhead (l : Launch) (G : GT) (jp1 : Nat) (S0 : St) (a0 : Nat) (hA0 : AtO S0 7 0 a0) (ap1 : Nat) (hAp1 : AtO S0 5 jp1 ap1) (post : Int32 → St → Prop) (hQ : wp_X8_lotsAhead jp1 S0 post) : Met l yX8_lotsAhead (wM yX8_lotsAhead cX8_lotsAhead 5 (some (FieldType.int))) ({ frames := 1, cells := 0, slots := 0, locals := 21 } : Room) (PC G S0 [.ref a0, .ref ap1]) (QI G S0 post) 0 0 (QA G) := by
  refine mt_start RX8 (by decide) rfl (Nat.le_of_ble_eq_true rfl) ?_
  intro p e s m args below meth c ls F hr hlk hnm hw hl
  have hx := F.1
  have hb := F.2.1
  have hown := F.2.2.2.1
  have hts := F.2.2.2.2
  have hX : Ext S0 S0 := Ext.rf
  have hsz0 := hw.1.1.1
  have hl : lv_has ls 5 [(0, .ref a0), (1, .ref ap1)] := hl
  unfold wp_X8_lotsAhead at hQ
  refine lv_iconst (v := 0) hx hb dX8_lotsAhead_0 (by decide) ?_
  refine lv_istore_n (lv' := [(2, .int (0 : Int32)), (0, .ref a0), (1, .ref ap1)]) hx hb dX8_lotsAhead_1 rfl hl (by decide) rfl (fun ls hl => ?_)
  refine lv_iconst (v := 0) hx hb dX8_lotsAhead_2 (by decide) ?_
  refine lv_istore_n (lv' := [(3, .int (0 : Int32)), (2, .int (0 : Int32)), (0, .ref a0), (1, .ref ap1)]) hx hb dX8_lotsAhead_3 rfl hl (by decide) rfl (fun ls hl => ?_)
  have hloop4 : ∀ (n4 : Nat) (x3_4 : Int32) (x2_4 : Int32) (S1 : St) (H : Heap) (locs : List Loc) (ls : Array Slot) (cl4 sl4 : Nat), lp_X8_lotsAhead_4 jp1 post n4 x3_4 x2_4 S1 → WW G S1 s H locs → Ext S0 S1 → AtO S1 7 0 a0 → AtO S1 5 jp1 ap1 → lv_has ls 5 [(3, .int x3_4), (2, .int x2_4), (0, .ref a0), (1, .ref ap1)] → cl4 ≤ 0 + 0 → sl4 ≤ 0 + 0 → W p l e ({ frames := 1, cells := 0, slots := 0, locals := 21 } : Room) s m args below meth c H locs cl4 sl4 (MQ below (QI G S0 post) args s 0 0 (QA G)) (F0 m 4 ls []) := by
    intro n4
    induction n4 with
    | zero => intro x3_4 x2_4 S1 H locs ls cl sl hQ; exact False.elim hQ
    | succ n4 ih4 =>
      intro x3_4 x2_4 S1 H locs ls cl4 sl4 hQ hw hX hA0 hAp1 hl hcl4 hsl4
      have hQ : bd_X8_lotsAhead_4 jp1 post (fun x3_4 x2_4 S1 => lp_X8_lotsAhead_4 jp1 post n4 x3_4 x2_4 S1) x3_4 x2_4 S1 := hQ
      unfold bd_X8_lotsAhead_4 at hQ
      refine lv_iload_n hx hb dX8_lotsAhead_4 rfl (lv_at hl 0 rfl) ?_
      refine lv_aload_n hx hb dX8_lotsAhead_5 rfl (lv_at hl 2 rfl) ?_
      refine g_7_6 F hw hA0 twf_RX8_115 dX8_lotsAhead_6 ?_
      refine lv_icmp_ge (tgt := 54) hx hb dX8_lotsAhead_9 (by decide) (fun hc => ?_) (fun hc => ?_)
      · have hQ := hQ.1 hc
        refine lv_iload_n hx hb dX8_lotsAhead_54 rfl (lv_at hl 1 rfl) ?_
        exact rt_i F hr hlk hw hX hQ (show cl4 ≤ 0 from by omega) (show sl4 ≤ 0 from by omega) dX8_lotsAhead_55
      · have hQ := hQ.2 hc
        refine lv_aload_n hx hb dX8_lotsAhead_12 rfl (lv_at hl 2 rfl) ?_
        refine lv_iload_n hx hb dX8_lotsAhead_13 rfl (lv_at hl 0 rfl) ?_
        refine k_X8_lotAt F hw hl hA0 hQ twm_RX8_69 (Nat.le_of_ble_eq_true rfl) (Nat.le_of_ble_eq_true rfl) (Nat.le_of_ble_eq_true rfl) dX8_lotsAhead_14 (show cl4 + 0 ≤ 0 from by omega) (show sl4 + 0 ≤ 0 from by omega) (fun S2 H locs hQ hw hx1 => ?_) (fun j4 a4 S2 H locs hQ hA4 hw hx1 => ?_)
        · have hQ := hQ.1 rfl
          have hX := hX.trans hx1
          have hA0 := hA0.ext hx1
          have hAp1 := hAp1.ext hx1
          refine lv_astoreN (lv' := [(4, .null), (3, .int x3_4), (2, .int x2_4), (0, .ref a0), (1, .ref ap1)]) hx hb dX8_lotsAhead_17 hl (by decide) rfl (fun ls hl => ?_)
          refine lv_aloadN hx hb dX8_lotsAhead_19 (lv_at hl 0 rfl) ?_
          refine lv_ifnullN (tgt := 48) hx hb dX8_lotsAhead_21 (by decide) ?_
          obtain ⟨v5, ev5⟩ : ∃ y : Int32, y = x3_4 + (1 : Int32) := ⟨_, rfl⟩
          have hQ := hQ v5 ev5
          refine lv_iinc (v := v5) (lv' := [(3, .int v5), (4, .null), (2, .int x2_4), (0, .ref a0), (1, .ref ap1)]) hx hb dX8_lotsAhead_48 hl (k := 1) rfl (by rw [ev5]; rfl) (by decide) rfl (fun ls hl => ?_)
          refine lv_goto (tgt := 4) hx hb dX8_lotsAhead_51 (by decide) ?_
          exact ih4 v5 x2_4 S2 _ _ _ _ _ hQ hw hX hA0 hAp1 (lv_sub hl [0, 2, 3, 4] rfl) (by omega) (by omega)
        · have hQ := hQ.2 j4 rfl
          have hX := hX.trans hx1
          have hA0 := hA0.ext hx1
          have hAp1 := hAp1.ext hx1
          refine lv_astore (lv' := [(4, .ref a4), (3, .int x3_4), (2, .int x2_4), (0, .ref a0), (1, .ref ap1)]) hx hb dX8_lotsAhead_17 hl (by decide) rfl (fun ls hl => ?_)
          refine lv_aload hx hb dX8_lotsAhead_19 (lv_at hl 0 rfl) ?_
          refine lv_ifnull hx hb dX8_lotsAhead_21 ?_
          refine lv_aload hx hb dX8_lotsAhead_24 (lv_at hl 0 rfl) ?_
          refine lv_aload_n hx hb dX8_lotsAhead_26 rfl (lv_at hl 4 rfl) ?_
          refine g_5_1 F hw hAp1 twf_RX8_141 dX8_lotsAhead_27 ?_
          refine k_X5_isOpenOf F hw hl hA4 hQ twm_RX8_118 (Nat.le_of_ble_eq_true rfl) (Nat.le_of_ble_eq_true rfl) (Nat.le_of_ble_eq_true rfl) dX8_lotsAhead_30 (show (cl4 + 0) + 0 ≤ 0 from by omega) (show (sl4 + 0) + 0 ≤ 0 from by omega) (fun r7 S6 H locs hQ hw hx1 => ?_)
          have hX := hX.trans hx1
          have hA4 := hA4.ext hx1
          have hA0 := hA0.ext hx1
          have hAp1 := hAp1.ext hx1
          refine lv_if_eq (tgt := 48) hx hb dX8_lotsAhead_33 (by decide) (fun hc => ?_) (fun hc => ?_)
          · have hQ := hQ.1 hc
            obtain ⟨v8, ev8⟩ : ∃ y : Int32, y = x3_4 + (1 : Int32) := ⟨_, rfl⟩
            have hQ := hQ v8 ev8
            refine lv_iinc (v := v8) (lv' := [(3, .int v8), (4, .ref a4), (2, .int x2_4), (0, .ref a0), (1, .ref ap1)]) hx hb dX8_lotsAhead_48 hl (k := 1) rfl (by rw [ev8]; rfl) (by decide) rfl (fun ls hl => ?_)
            refine lv_goto (tgt := 4) hx hb dX8_lotsAhead_51 (by decide) ?_
            exact ih4 v8 x2_4 S6 _ _ _ _ _ hQ hw hX hA0 hAp1 (lv_sub hl [0, 2, 3, 4] rfl) (by omega) (by omega)
          · have hQ := hQ.2 hc
            refine lv_aload hx hb dX8_lotsAhead_36 (lv_at hl 0 rfl) ?_
            refine lv_aload_n hx hb dX8_lotsAhead_38 rfl (lv_at hl 4 rfl) ?_
            refine k_X5_goesBefore F hw hl hA4 hAp1 hQ twm_RX8_362 (Nat.le_of_ble_eq_true rfl) (Nat.le_of_ble_eq_true rfl) (Nat.le_of_ble_eq_true rfl) dX8_lotsAhead_39 (show ((cl4 + 0) + 0) + 0 ≤ 0 from by omega) (show ((sl4 + 0) + 0) + 0 ≤ 0 from by omega) (fun r10 S9 H locs hQ hw hx1 => ?_)
            have hX := hX.trans hx1
            have hA4 := hA4.ext hx1
            have hA0 := hA0.ext hx1
            have hAp1 := hAp1.ext hx1
            refine lv_if_eq (tgt := 48) hx hb dX8_lotsAhead_42 (by decide) (fun hc => ?_) (fun hc => ?_)
            · have hQ := hQ.1 hc
              obtain ⟨v11, ev11⟩ : ∃ y : Int32, y = x3_4 + (1 : Int32) := ⟨_, rfl⟩
              have hQ := hQ v11 ev11
              refine lv_iinc (v := v11) (lv' := [(3, .int v11), (4, .ref a4), (2, .int x2_4), (0, .ref a0), (1, .ref ap1)]) hx hb dX8_lotsAhead_48 hl (k := 1) rfl (by rw [ev11]; rfl) (by decide) rfl (fun ls hl => ?_)
              refine lv_goto (tgt := 4) hx hb dX8_lotsAhead_51 (by decide) ?_
              exact ih4 v11 x2_4 S9 _ _ _ _ _ hQ hw hX hA0 hAp1 (lv_sub hl [0, 2, 3, 4] rfl) (by omega) (by omega)
            · have hQ := hQ.2 hc
              obtain ⟨v12, ev12⟩ : ∃ y : Int32, y = x2_4 + (1 : Int32) := ⟨_, rfl⟩
              have hQ := hQ v12 ev12
              refine lv_iinc (v := v12) (lv' := [(2, .int v12), (4, .ref a4), (3, .int x3_4), (0, .ref a0), (1, .ref ap1)]) hx hb dX8_lotsAhead_45 hl (k := 2) rfl (by rw [ev12]; rfl) (by decide) rfl (fun ls hl => ?_)
              obtain ⟨v13, ev13⟩ : ∃ y : Int32, y = x3_4 + (1 : Int32) := ⟨_, rfl⟩
              have hQ := hQ v13 ev13
              refine lv_iinc (v := v13) (lv' := [(3, .int v13), (2, .int v12), (4, .ref a4), (0, .ref a0), (1, .ref ap1)]) hx hb dX8_lotsAhead_48 hl (k := 2) rfl (by rw [ev13]; rfl) (by decide) rfl (fun ls hl => ?_)
              refine lv_goto (tgt := 4) hx hb dX8_lotsAhead_51 (by decide) ?_
              exact ih4 v13 v12 S9 _ _ _ _ _ hQ hw hX hA0 hAp1 (lv_sub hl [0, 1, 3, 4] rfl) (by omega) (by omega)
  obtain ⟨n, hQ⟩ := hQ
  exact hloop4 n (0 : Int32) (0 : Int32) S0 _ _ _ _ _ hQ hw hX hA0 hAp1 (lv_sub hl [0, 1, 2, 3] rfl) (by omega) (by omega)
theorem k_X8_lotsAhead {p : Program} {l : Launch} {e : Env} {R : Room} {s : State} {m : MethodId} {args : Array Value} {below : List Frame} {meth : Method} {c : Code} {H : Heap} {locs : List Loc} {cells slots : Nat} {Q : State → Prop} {cc : ByteArray} {pc nL : Nat} {ls : Array Slot} {rest : List Value} {G : GT} {S : St} {own : String} {jp1 : Nat} {post : Int32 → St → Prop} {lv : List (Nat × Value)} {idx : Nat} (F : CX p m c cc nL s args own) (hw : WW G S s H locs) (hl : lv_has ls nL lv) {a0 : Nat} (hA0 : AtO S 7 0 a0) {ap1 : Nat} (hAp1 : AtO S 5 jp1 ap1) (hQ : wp_X8_lotsAhead jp1 S post) (h1 : Cond.methodLink own idx yX8_lotsAhead ∈ wT) (hR1 : 1 + 1 ≤ R.frames) (hR2 : 8 + (5 + 11) + 21 ≤ R.locals) (hrest : (rest.map fun v => v.category).sum ≤ 8) (hdg : decode cc pc = .ok (.invokevirtual idx, 3)) (hf1 : cells + 0 ≤ R.cells) (hf2 : slots + 0 ≤ R.slots)
    (kk : ∀ (r : Int32) (S1 : St) (H1 : Heap) (locs1 : List Loc), post r S1 → WW G S1 s H1 locs1 → Ext S S1 → W p l e R s m args below meth c H1 locs1 (cells + 0) (slots + 0) Q (F0 m (pc + 3) ls (.int r :: rest))) : W p l e R s m args below meth c H locs cells slots Q (F0 m pc ls (.ref ap1 :: .ref a0 :: rest)) :=
  cl_i (rn_V (n := 1) (As := [.ref ap1]) (q := (RX8, TX8, 11)) F hw hl (m_X8_lotsAhead l G jp1 S a0 hA0 ap1 hAp1 post hQ) 7 (by decide) (by decide) hA0 rfl rfl h1 twi_yX8_lotsAhead tws_yX8_lotsAhead twn_RX8 two_yX8_lotsAhead rfl rfl ⟨rfl, by decide, by decide, by decide +kernel⟩ rfl ⟨hR1, hR2⟩ rfl hrest hdg ⟨hf1, hf2⟩) hw kk
-- X8_order
def bd_X8_order_8 (p1 : Int32) (p2 : Int32) (post : Int32 → St → Prop) (K8 : Int32 → St → Prop) (x3_8 : Int32) (S1 : St) : Prop :=
  ((gi S1 7 0 6) ≤ x3_8 →
  post (-1 : Int32) S1) ∧
  (¬ (gi S1 7 0 6) ≤ x3_8 →
  wp_X8_lotAt x3_8 S1 (fun r3 S2 =>
  (r3 = none →
  ∀ v5 : Int32, v5 = x3_8 + (1 : Int32) →
  K8 v5 S2) ∧
  (∀ j4 : Nat, r3 = some j4 →
  wp_X5_isOpenOf j4 p1 S2 (fun r7 S6 =>
  (r7 = 0 →
  ∀ v8 : Int32, v8 = x3_8 + (1 : Int32) →
  K8 v8 S6) ∧
  (¬ r7 = 0 →
  wp_X8_lotsAhead j4 S6 (fun r10 S9 =>
  (¬ r10 = p2 →
  ∀ v11 : Int32, v11 = x3_8 + (1 : Int32) →
  K8 v11 S9) ∧
  (r10 = p2 →
  post x3_8 S9)))))))
def lp_X8_order_8 (p1 : Int32) (p2 : Int32) (post : Int32 → St → Prop) : Nat → Int32 → St → Prop
  | 0, _, _ => False
  | n + 1, x3_8, S1 => bd_X8_order_8 p1 p2 post (fun x3_8 S1 => lp_X8_order_8 p1 p2 post n x3_8 S1) x3_8 S1
def wp_X8_order (p1 : Int32) (p2 : Int32) (S0 : St) (post : Int32 → St → Prop) : Prop :=
  (0 ≤ p2 →
  ∃ n : Nat, lp_X8_order_8 p1 p2 post n (0 : Int32) S0) ∧
  (¬ 0 ≤ p2 →
  post (-1 : Int32) S0)
set_option maxRecDepth 100000 in
set_option maxHeartbeats 4000000 in
theorem m_X8_order (l : Launch) (G : GT) (p1 : Int32) (p2 : Int32) (S0 : St) (a0 : Nat) (hA0 : AtO S0 7 0 a0) (post : Int32 → St → Prop) (hQ : wp_X8_order p1 p2 S0 post) : Met l yX8_order (wM yX8_order cX8_order 5 (some (FieldType.int))) ({ frames := 2, cells := 0, slots := 0, locals := 45 } : Room) (PC G S0 [.ref a0, .int p1, .int p2]) (QI G S0 post) 0 0 (QA G) := by
  refine mt_start RX8 (by decide) rfl (Nat.le_of_ble_eq_true rfl) ?_
  intro p e s m args below meth c ls F hr hlk hnm hw hl
  have hx := F.1
  have hb := F.2.1
  have hown := F.2.2.2.1
  have hts := F.2.2.2.2
  have hX : Ext S0 S0 := Ext.rf
  have hsz0 := hw.1.1.1
  have hl : lv_has ls 5 [(0, .ref a0), (1, .int p1), (2, .int p2)] := hl
  unfold wp_X8_order at hQ
  refine lv_iload_n hx hb dX8_order_0 rfl (lv_at hl 2 rfl) ?_
  refine lv_if_ge (tgt := 6) hx hb dX8_order_1 (by decide) (fun hc => ?_) (fun hc => ?_)
  · have hQ := hQ.1 hc
    refine lv_iconst (v := 0) hx hb dX8_order_6 (by decide) ?_
    refine lv_istore_n (lv' := [(3, .int (0 : Int32)), (0, .ref a0), (1, .int p1), (2, .int p2)]) hx hb dX8_order_7 rfl hl (by decide) rfl (fun ls hl => ?_)
    have hloop8 : ∀ (n8 : Nat) (x3_8 : Int32) (S1 : St) (H : Heap) (locs : List Loc) (ls : Array Slot) (cl8 sl8 : Nat), lp_X8_order_8 p1 p2 post n8 x3_8 S1 → WW G S1 s H locs → Ext S0 S1 → AtO S1 7 0 a0 → lv_has ls 5 [(3, .int x3_8), (0, .ref a0), (1, .int p1), (2, .int p2)] → cl8 ≤ 0 + 0 → sl8 ≤ 0 + 0 → W p l e ({ frames := 2, cells := 0, slots := 0, locals := 45 } : Room) s m args below meth c H locs cl8 sl8 (MQ below (QI G S0 post) args s 0 0 (QA G)) (F0 m 8 ls []) := by
      intro n8
      induction n8 with
      | zero => intro x3_8 S1 H locs ls cl sl hQ; exact False.elim hQ
      | succ n8 ih8 =>
        intro x3_8 S1 H locs ls cl8 sl8 hQ hw hX hA0 hl hcl8 hsl8
        have hQ : bd_X8_order_8 p1 p2 post (fun x3_8 S1 => lp_X8_order_8 p1 p2 post n8 x3_8 S1) x3_8 S1 := hQ
        unfold bd_X8_order_8 at hQ
        refine lv_iload_n hx hb dX8_order_8 rfl (lv_at hl 0 rfl) ?_
        refine lv_aload_n hx hb dX8_order_9 rfl (lv_at hl 1 rfl) ?_
        refine g_7_6 F hw hA0 twf_RX8_115 dX8_order_10 ?_
        refine lv_icmp_ge (tgt := 55) hx hb dX8_order_13 (by decide) (fun hc => ?_) (fun hc => ?_)
        · have hQ := hQ.1 hc
          refine lv_iconst (v := -1) hx hb dX8_order_55 (by decide) ?_
          exact rt_i F hr hlk hw hX hQ (show cl8 ≤ 0 from by omega) (show sl8 ≤ 0 from by omega) dX8_order_56
        · have hQ := hQ.2 hc
          refine lv_aload_n hx hb dX8_order_16 rfl (lv_at hl 1 rfl) ?_
          refine lv_iload_n hx hb dX8_order_17 rfl (lv_at hl 0 rfl) ?_
          refine k_X8_lotAt F hw hl hA0 hQ twm_RX8_69 (Nat.le_of_ble_eq_true rfl) (Nat.le_of_ble_eq_true rfl) (Nat.le_of_ble_eq_true rfl) dX8_order_18 (show cl8 + 0 ≤ 0 from by omega) (show sl8 + 0 ≤ 0 from by omega) (fun S2 H locs hQ hw hx1 => ?_) (fun j4 a4 S2 H locs hQ hA4 hw hx1 => ?_)
          · have hQ := hQ.1 rfl
            have hX := hX.trans hx1
            have hA0 := hA0.ext hx1
            refine lv_astoreN (lv' := [(4, .null), (3, .int x3_8), (0, .ref a0), (1, .int p1), (2, .int p2)]) hx hb dX8_order_21 hl (by decide) rfl (fun ls hl => ?_)
            refine lv_aloadN hx hb dX8_order_23 (lv_at hl 0 rfl) ?_
            refine lv_ifnullN (tgt := 49) hx hb dX8_order_25 (by decide) ?_
            obtain ⟨v5, ev5⟩ : ∃ y : Int32, y = x3_8 + (1 : Int32) := ⟨_, rfl⟩
            have hQ := hQ v5 ev5
            refine lv_iinc (v := v5) (lv' := [(3, .int v5), (4, .null), (0, .ref a0), (1, .int p1), (2, .int p2)]) hx hb dX8_order_49 hl (k := 1) rfl (by rw [ev5]; rfl) (by decide) rfl (fun ls hl => ?_)
            refine lv_goto (tgt := 8) hx hb dX8_order_52 (by decide) ?_
            exact ih8 v5 S2 _ _ _ _ _ hQ hw hX hA0 (lv_sub hl [0, 2, 3, 4] rfl) (by omega) (by omega)
          · have hQ := hQ.2 j4 rfl
            have hX := hX.trans hx1
            have hA0 := hA0.ext hx1
            refine lv_astore (lv' := [(4, .ref a4), (3, .int x3_8), (0, .ref a0), (1, .int p1), (2, .int p2)]) hx hb dX8_order_21 hl (by decide) rfl (fun ls hl => ?_)
            refine lv_aload hx hb dX8_order_23 (lv_at hl 0 rfl) ?_
            refine lv_ifnull hx hb dX8_order_25 ?_
            refine lv_aload hx hb dX8_order_28 (lv_at hl 0 rfl) ?_
            refine lv_iload_n hx hb dX8_order_30 rfl (lv_at hl 3 rfl) ?_
            refine k_X5_isOpenOf F hw hl hA4 hQ twm_RX8_118 (Nat.le_of_ble_eq_true rfl) (Nat.le_of_ble_eq_true rfl) (Nat.le_of_ble_eq_true rfl) dX8_order_31 (show (cl8 + 0) + 0 ≤ 0 from by omega) (show (sl8 + 0) + 0 ≤ 0 from by omega) (fun r7 S6 H locs hQ hw hx1 => ?_)
            have hX := hX.trans hx1
            have hA4 := hA4.ext hx1
            have hA0 := hA0.ext hx1
            refine lv_if_eq (tgt := 49) hx hb dX8_order_34 (by decide) (fun hc => ?_) (fun hc => ?_)
            · have hQ := hQ.1 hc
              obtain ⟨v8, ev8⟩ : ∃ y : Int32, y = x3_8 + (1 : Int32) := ⟨_, rfl⟩
              have hQ := hQ v8 ev8
              refine lv_iinc (v := v8) (lv' := [(3, .int v8), (4, .ref a4), (0, .ref a0), (1, .int p1), (2, .int p2)]) hx hb dX8_order_49 hl (k := 1) rfl (by rw [ev8]; rfl) (by decide) rfl (fun ls hl => ?_)
              refine lv_goto (tgt := 8) hx hb dX8_order_52 (by decide) ?_
              exact ih8 v8 S6 _ _ _ _ _ hQ hw hX hA0 (lv_sub hl [0, 2, 3, 4] rfl) (by omega) (by omega)
            · have hQ := hQ.2 hc
              refine lv_aload_n hx hb dX8_order_37 rfl (lv_at hl 2 rfl) ?_
              refine lv_aload hx hb dX8_order_38 (lv_at hl 0 rfl) ?_
              refine k_X8_lotsAhead F hw hl hA0 hA4 hQ twm_RX8_122 (Nat.le_of_ble_eq_true rfl) (Nat.le_of_ble_eq_true rfl) (Nat.le_of_ble_eq_true rfl) dX8_order_40 (show ((cl8 + 0) + 0) + 0 ≤ 0 from by omega) (show ((sl8 + 0) + 0) + 0 ≤ 0 from by omega) (fun r10 S9 H locs hQ hw hx1 => ?_)
              have hX := hX.trans hx1
              have hA4 := hA4.ext hx1
              have hA0 := hA0.ext hx1
              refine lv_iload_n hx hb dX8_order_43 rfl (lv_at hl 4 rfl) ?_
              refine lv_icmp_ne (tgt := 49) hx hb dX8_order_44 (by decide) (fun hc => ?_) (fun hc => ?_)
              · have hQ := hQ.1 hc
                obtain ⟨v11, ev11⟩ : ∃ y : Int32, y = x3_8 + (1 : Int32) := ⟨_, rfl⟩
                have hQ := hQ v11 ev11
                refine lv_iinc (v := v11) (lv' := [(3, .int v11), (4, .ref a4), (0, .ref a0), (1, .int p1), (2, .int p2)]) hx hb dX8_order_49 hl (k := 1) rfl (by rw [ev11]; rfl) (by decide) rfl (fun ls hl => ?_)
                refine lv_goto (tgt := 8) hx hb dX8_order_52 (by decide) ?_
                exact ih8 v11 S9 _ _ _ _ _ hQ hw hX hA0 (lv_sub hl [0, 2, 3, 4] rfl) (by omega) (by omega)
              · have hQ := hQ.2 hc
                refine lv_iload_n hx hb dX8_order_47 rfl (lv_at hl 1 rfl) ?_
                exact rt_i F hr hlk hw hX hQ (show (((cl8 + 0) + 0) + 0) ≤ 0 from by omega) (show (((sl8 + 0) + 0) + 0) ≤ 0 from by omega) dX8_order_48
    obtain ⟨n, hQ⟩ := hQ
    exact hloop8 n (0 : Int32) S0 _ _ _ _ _ hQ hw hX hA0 (lv_sub hl [0, 1, 2, 3] rfl) (by omega) (by omega)
  · have hQ := hQ.2 hc
    refine lv_iconst (v := -1) hx hb dX8_order_4 (by decide) ?_
    exact rt_i F hr hlk hw hX hQ (show 0 ≤ 0 from by omega) (show 0 ≤ 0 from by omega) dX8_order_5
theorem k_X8_order {p : Program} {l : Launch} {e : Env} {R : Room} {s : State} {m : MethodId} {args : Array Value} {below : List Frame} {meth : Method} {c : Code} {H : Heap} {locs : List Loc} {cells slots : Nat} {Q : State → Prop} {cc : ByteArray} {pc nL : Nat} {ls : Array Slot} {rest : List Value} {G : GT} {S : St} {own : String} {p1 : Int32} {p2 : Int32} {post : Int32 → St → Prop} {lv : List (Nat × Value)} {idx : Nat} (F : CX p m c cc nL s args own) (hw : WW G S s H locs) (hl : lv_has ls nL lv) {a0 : Nat} (hA0 : AtO S 7 0 a0) (hQ : wp_X8_order p1 p2 S post) (h1 : Cond.methodLink own idx yX8_order ∈ wT) (hR1 : 2 + 1 ≤ R.frames) (hR2 : 8 + (5 + 11) + 45 ≤ R.locals) (hrest : (rest.map fun v => v.category).sum ≤ 8) (hdg : decode cc pc = .ok (.invokevirtual idx, 3)) (hf1 : cells + 0 ≤ R.cells) (hf2 : slots + 0 ≤ R.slots)
    (kk : ∀ (r : Int32) (S1 : St) (H1 : Heap) (locs1 : List Loc), post r S1 → WW G S1 s H1 locs1 → Ext S S1 → W p l e R s m args below meth c H1 locs1 (cells + 0) (slots + 0) Q (F0 m (pc + 3) ls (.int r :: rest))) : W p l e R s m args below meth c H locs cells slots Q (F0 m pc ls (.int p2 :: .int p1 :: .ref a0 :: rest)) :=
  cl_i (rn_V (n := 2) (As := [.int p1, .int p2]) (q := (RX8, TX8, 11)) F hw hl (m_X8_order l G p1 p2 S a0 hA0 post hQ) 7 (by decide) (by decide) hA0 rfl rfl h1 twi_yX8_order tws_yX8_order twn_RX8 two_yX8_order rfl rfl ⟨rfl, by decide, by decide, by decide +kernel⟩ rfl ⟨hR1, hR2⟩ rfl hrest hdg ⟨hf1, hf2⟩) hw kk
-- X8_shareOf
def wp_X8_shareOf (p1 : Int64) (p2 : Int64) (p3 : Int64) (S0 : St) (post : Int64 → St → Prop) : Prop :=
  ((0 : Int64) < p3 →
  ¬ p3 = 0 ∧
  post ((((p1 * p2) + p3) - (1 : Int64)) / p3) S0) ∧
  (¬ (0 : Int64) < p3 →
  post (0 : Int64) S0)
set_option maxRecDepth 100000 in
set_option maxHeartbeats 4000000 in
theorem m_X8_shareOf (l : Launch) (G : GT) (p1 : Int64) (p2 : Int64) (p3 : Int64) (S0 : St)  (post : Int64 → St → Prop) (hQ : wp_X8_shareOf p1 p2 p3 S0 post) : Met l yX8_shareOf (wM yX8_shareOf cX8_shareOf 6 (some (FieldType.long))) ({ frames := 0, cells := 0, slots := 0, locals := 0 } : Room) (PC G S0 [.long p1, .long p2, .long p3]) (QJ G S0 post) 0 0 (QA G) := by
  refine mt_start RX8 (by decide) rfl (Nat.le_of_ble_eq_true rfl) ?_
  intro p e s m args below meth c ls F hr hlk hnm hw hl
  have hx := F.1
  have hb := F.2.1
  have hown := F.2.2.2.1
  have hts := F.2.2.2.2
  have hX : Ext S0 S0 := Ext.rf
  have hsz0 := hw.1.1.1
  have hl : lv_has ls 6 [(0, .long p1), (2, .long p2), (4, .long p3)] := hl
  unfold wp_X8_shareOf at hQ
  refine lv_lload hx hb dX8_shareOf_0 (lv_at hl 2 rfl) ?_
  refine lv_lconst (v := 0) hx hb dX8_shareOf_2 (by decide) ?_
  refine lc_gt (tgt := 11) F dX8_shareOf_3 dX8_shareOf_4 (by decide) (fun hc => ?_) (fun hc => ?_)
  · have hQ := hQ.1 hc
    refine lv_lload_n hx hb dX8_shareOf_11 rfl (lv_at hl 0 rfl) ?_
    refine lv_lload_n hx hb dX8_shareOf_12 rfl (lv_at hl 1 rfl) ?_
    refine lv_lmul hx hb dX8_shareOf_13 ?_
    refine lv_lload hx hb dX8_shareOf_14 (lv_at hl 2 rfl) ?_
    refine lv_ladd hx hb dX8_shareOf_16 ?_
    refine lv_lconst (v := 1) hx hb dX8_shareOf_17 (by decide) ?_
    refine lv_lsub hx hb dX8_shareOf_18 ?_
    refine lv_lload hx hb dX8_shareOf_19 (lv_at hl 2 rfl) ?_
    obtain ⟨hne, hQ⟩ := hQ
    refine lv_ldiv hx hb dX8_shareOf_21 hne ?_
    exact rt_l F hr hlk hw hX hQ (show 0 ≤ 0 from by omega) (show 0 ≤ 0 from by omega) dX8_shareOf_22
  · have hQ := hQ.2 hc
    refine lv_lconst (v := 0) hx hb dX8_shareOf_7 (by decide) ?_
    refine lv_goto (tgt := 22) hx hb dX8_shareOf_8 (by decide) ?_
    exact rt_l F hr hlk hw hX hQ (show 0 ≤ 0 from by omega) (show 0 ≤ 0 from by omega) dX8_shareOf_22
theorem k_X8_shareOf {p : Program} {l : Launch} {e : Env} {R : Room} {s : State} {m : MethodId} {args : Array Value} {below : List Frame} {meth : Method} {c : Code} {H : Heap} {locs : List Loc} {cells slots : Nat} {Q : State → Prop} {cc : ByteArray} {pc nL : Nat} {ls : Array Slot} {rest : List Value} {G : GT} {S : St} {own : String} {p1 : Int64} {p2 : Int64} {p3 : Int64} {post : Int64 → St → Prop} {lv : List (Nat × Value)} {idx : Nat} (F : CX p m c cc nL s args own) (hw : WW G S s H locs) (hl : lv_has ls nL lv)  (hQ : wp_X8_shareOf p1 p2 p3 S post) (h1 : Cond.methodLink own idx yX8_shareOf ∈ wT) (hR1 : 0 + 1 ≤ R.frames) (hR2 : 8 + (6 + 11) + 0 ≤ R.locals) (hrest : (rest.map fun v => v.category).sum ≤ 8) (hdg : decode cc pc = .ok (.invokestatic idx, 3)) (hf1 : cells + 0 ≤ R.cells) (hf2 : slots + 0 ≤ R.slots)
    (kk : ∀ (r : Int64) (S1 : St) (H1 : Heap) (locs1 : List Loc), post r S1 → WW G S1 s H1 locs1 → Ext S S1 → W p l e R s m args below meth c H1 locs1 (cells + 0) (slots + 0) Q (F0 m (pc + 3) ls (.long r :: rest))) : W p l e R s m args below meth c H locs cells slots Q (F0 m pc ls (.long p3 :: .long p2 :: .long p1 :: rest)) :=
  cl_l (rn_S (n := 3) (As := [.long p1, .long p2, .long p3]) F hw hl (m_X8_shareOf l G p1 p2 p3 S  post hQ) h1 twi_yX8_shareOf twn_RX8 two_yX8_shareOf rfl rfl ⟨by decide, by decide, by decide +kernel⟩ rfl ⟨hR1, hR2⟩ rfl hrest hdg ⟨hf1, hf2⟩) hw kk
-- X3_linkOf
def wp_X3_linkOf (p1 : Int32) (p2 : Int32) (p3 : Int32) (p4 : Int32) (p5 : Int64) (S0 : St) (post : Int32 → St → Prop) : Prop :=
  post ((((((((31 : Int64) * (p1.toInt64)) + ((7 : Int64) * (p2.toInt64))) + ((5 : Int64) * (p3.toInt64))) + ((3 : Int64) * ((p4 + (1 : Int32)).toInt64))) + p5) - ((((((31 : Int64) * (p1.toInt64)) + ((7 : Int64) * (p2.toInt64))) + ((5 : Int64) * (p3.toInt64))) + ((3 : Int64) * ((p4 + (1 : Int32)).toInt64))) + p5) / (1000003 : Int64) * (1000003 : Int64)).toInt32) S0
set_option maxRecDepth 100000 in
set_option maxHeartbeats 4000000 in
theorem m_X3_linkOf (l : Launch) (G : GT) (p1 : Int32) (p2 : Int32) (p3 : Int32) (p4 : Int32) (p5 : Int64) (S0 : St)  (post : Int32 → St → Prop) (hQ : wp_X3_linkOf p1 p2 p3 p4 p5 S0 post) : Met l yX3_linkOf (wM yX3_linkOf cX3_linkOf 6 (some (FieldType.int))) ({ frames := 0, cells := 0, slots := 0, locals := 0 } : Room) (PC G S0 [.int p1, .int p2, .int p3, .int p4, .long p5]) (QI G S0 post) 0 0 (QA G) := by
  refine mt_start RX3 (by decide) rfl (Nat.le_of_ble_eq_true rfl) ?_
  intro p e s m args below meth c ls F hr hlk hnm hw hl
  have hx := F.1
  have hb := F.2.1
  have hown := F.2.2.2.1
  have hts := F.2.2.2.2
  have hX : Ext S0 S0 := Ext.rf
  have hsz0 := hw.1.1.1
  have hl : lv_has ls 6 [(0, .int p1), (1, .int p2), (2, .int p3), (3, .int p4), (4, .long p5)] := hl
  unfold wp_X3_linkOf at hQ
  refine lv_ldc2 (v := 31) hx hb hown (hts _ twl_RX3_30) dX3_linkOf_0 ?_
  refine lv_iload_n hx hb dX3_linkOf_3 rfl (lv_at hl 0 rfl) ?_
  refine lv_i2l hx hb dX3_linkOf_4 rfl ?_
  refine lv_lmul hx hb dX3_linkOf_5 ?_
  refine lv_ldc2 (v := 7) hx hb hown (hts _ twl_RX3_32) dX3_linkOf_6 ?_
  refine lv_iload_n hx hb dX3_linkOf_9 rfl (lv_at hl 1 rfl) ?_
  refine lv_i2l hx hb dX3_linkOf_10 rfl ?_
  refine lv_lmul hx hb dX3_linkOf_11 ?_
  refine lv_ladd hx hb dX3_linkOf_12 ?_
  refine lv_ldc2 (v := 5) hx hb hown (hts _ twl_RX3_34) dX3_linkOf_13 ?_
  refine lv_iload_n hx hb dX3_linkOf_16 rfl (lv_at hl 2 rfl) ?_
  refine lv_i2l hx hb dX3_linkOf_17 rfl ?_
  refine lv_lmul hx hb dX3_linkOf_18 ?_
  refine lv_ladd hx hb dX3_linkOf_19 ?_
  refine lv_ldc2 (v := 3) hx hb hown (hts _ twl_RX3_36) dX3_linkOf_20 ?_
  refine lv_iload_n hx hb dX3_linkOf_23 rfl (lv_at hl 3 rfl) ?_
  refine lv_iconst (v := 1) hx hb dX3_linkOf_24 (by decide) ?_
  refine lv_iadd hx hb dX3_linkOf_25 ?_
  refine lv_i2l hx hb dX3_linkOf_26 rfl ?_
  refine lv_lmul hx hb dX3_linkOf_27 ?_
  refine lv_ladd hx hb dX3_linkOf_28 ?_
  refine lv_lload hx hb dX3_linkOf_29 (lv_at hl 4 rfl) ?_
  refine lv_ladd hx hb dX3_linkOf_31 ?_
  refine lv_ldc2 (v := 1000003) hx hb hown (hts _ twl_RX3_38) dX3_linkOf_32 ?_
  refine lv_lrem hx hb dX3_linkOf_35 (by decide) ?_
  refine lv_l2i hx hb dX3_linkOf_36 rfl ?_
  exact rt_i F hr hlk hw hX hQ (show 0 ≤ 0 from by omega) (show 0 ≤ 0 from by omega) dX3_linkOf_37
theorem k_X3_linkOf {p : Program} {l : Launch} {e : Env} {R : Room} {s : State} {m : MethodId} {args : Array Value} {below : List Frame} {meth : Method} {c : Code} {H : Heap} {locs : List Loc} {cells slots : Nat} {Q : State → Prop} {cc : ByteArray} {pc nL : Nat} {ls : Array Slot} {rest : List Value} {G : GT} {S : St} {own : String} {p1 : Int32} {p2 : Int32} {p3 : Int32} {p4 : Int32} {p5 : Int64} {post : Int32 → St → Prop} {lv : List (Nat × Value)} {idx : Nat} (F : CX p m c cc nL s args own) (hw : WW G S s H locs) (hl : lv_has ls nL lv)  (hQ : wp_X3_linkOf p1 p2 p3 p4 p5 S post) (h1 : Cond.methodLink own idx yX3_linkOf ∈ wT) (hR1 : 0 + 1 ≤ R.frames) (hR2 : 8 + (6 + 11) + 0 ≤ R.locals) (hrest : (rest.map fun v => v.category).sum ≤ 8) (hdg : decode cc pc = .ok (.invokestatic idx, 3)) (hf1 : cells + 0 ≤ R.cells) (hf2 : slots + 0 ≤ R.slots)
    (kk : ∀ (r : Int32) (S1 : St) (H1 : Heap) (locs1 : List Loc), post r S1 → WW G S1 s H1 locs1 → Ext S S1 → W p l e R s m args below meth c H1 locs1 (cells + 0) (slots + 0) Q (F0 m (pc + 3) ls (.int r :: rest))) : W p l e R s m args below meth c H locs cells slots Q (F0 m pc ls (.long p5 :: .int p4 :: .int p3 :: .int p2 :: .int p1 :: rest)) :=
  cl_i (rn_S (n := 5) (As := [.int p1, .int p2, .int p3, .int p4, .long p5]) F hw hl (m_X3_linkOf l G p1 p2 p3 p4 p5 S  post hQ) h1 twi_yX3_linkOf twn_RX3 two_yX3_linkOf rfl rfl ⟨by decide, by decide, by decide +kernel⟩ rfl ⟨hR1, hR2⟩ rfl hrest hdg ⟨hf1, hf2⟩) hw kk

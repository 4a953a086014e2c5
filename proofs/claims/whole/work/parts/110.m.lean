-- X2_at
def wp_X2_at (p1 : Int32) (S0 : St) (post : Option Nat → St → Prop) : Prop :=
  (p1 < 0 →
  post none S0) ∧
  (¬ p1 < 0 →
  ((gi S0 2 0 1) ≤ p1 →
  post none S0) ∧
  (¬ (gi S0 2 0 1) ≤ p1 →
  (p1 < (240 : Int32) →
  vp_in p1 240 ∧
  (gr S0 13 0 p1.toNatClampNeg = none →
  post none S0) ∧
  (∀ j3 : Nat, gr S0 13 0 p1.toNatClampNeg = some j3 →
  post (some j3) S0)) ∧
  (¬ p1 < (240 : Int32) →
  post none S0)))
set_option maxRecDepth 100000 in
set_option maxHeartbeats 4000000 in
theorem m_X2_at (l : Launch) (G : GT) (p1 : Int32) (S0 : St) (a0 : Nat) (hA0 : AtO S0 2 0 a0) (post : Option Nat → St → Prop) (hQ : wp_X2_at p1 S0 post) : Met l yX2_at (wM yX2_at cX2_at 2 (some ((FieldType.object "ClockAuctions$Entry")))) ({ frames := 0, cells := 0, slots := 0, locals := 0 } : Room) (PC G S0 [.ref a0, .int p1]) (QR 3 G S0 post) 0 0 (QA G) := by
  refine mt_start RX2 (by decide) rfl (Nat.le_of_ble_eq_true rfl) ?_
  intro p e s m args below meth c ls F hr hlk hnm hw hl
  have hx := F.1
  have hb := F.2.1
  have hown := F.2.2.2.1
  have hts := F.2.2.2.2
  have hX : Ext S0 S0 := Ext.rf
  have hsz0 := hw.1.1.1
  have hl : lv_has ls 2 [(0, .ref a0), (1, .int p1)] := hl
  unfold wp_X2_at at hQ
  refine lv_iload_n hx hb dX2_at_0 rfl (lv_at hl 1 rfl) ?_
  refine lv_if_lt (tgt := 21) hx hb dX2_at_1 (by decide) (fun hc => ?_) (fun hc => ?_)
  · have hQ := hQ.1 hc
    refine lv_null hx hb dX2_at_21 ?_
    refine lv_goto (tgt := 31) hx hb dX2_at_22 (by decide) ?_
    exact rt_n F hr hlk hw hX hQ (show 0 ≤ 0 from by omega) (show 0 ≤ 0 from by omega) dX2_at_31
  · have hQ := hQ.2 hc
    refine lv_iload_n hx hb dX2_at_4 rfl (lv_at hl 1 rfl) ?_
    refine lv_aload_n hx hb dX2_at_5 rfl (lv_at hl 0 rfl) ?_
    refine g_2_1 F hw hA0 twf_RX2_21 dX2_at_6 ?_
    refine lv_icmp_ge (tgt := 21) hx hb dX2_at_9 (by decide) (fun hc => ?_) (fun hc => ?_)
    · have hQ := hQ.1 hc
      refine lv_null hx hb dX2_at_21 ?_
      refine lv_goto (tgt := 31) hx hb dX2_at_22 (by decide) ?_
      exact rt_n F hr hlk hw hX hQ (show 0 ≤ 0 from by omega) (show 0 ≤ 0 from by omega) dX2_at_31
    · have hQ := hQ.2 hc
      refine lv_iload_n hx hb dX2_at_12 rfl (lv_at hl 1 rfl) ?_
      refine lv_aload_n hx hb dX2_at_13 rfl (lv_at hl 0 rfl) ?_
      refine g_2_0 F hw hA0 twf_RX2_13 dX2_at_14 (fun a1 hA1 => ?_)
      refine ln_13 F hw hA1 dX2_at_17 ?_
      refine lv_icmp_lt (tgt := 25) hx hb dX2_at_18 (by decide) (fun hc => ?_) (fun hc => ?_)
      · have hQ := hQ.1 hc
        refine lv_aload_n hx hb dX2_at_25 rfl (lv_at hl 0 rfl) ?_
        refine g_2_0 F hw hA0 twf_RX2_13 dX2_at_26 (fun a2 hA2 => ?_)
        refine lv_iload_n hx hb dX2_at_29 rfl (lv_at hl 1 rfl) ?_
        obtain ⟨hin, hQ⟩ := hQ
        refine al_13 F hw hA2 hin dX2_at_30 (fun hrf => ?_) (fun j3 a3 hrf hA3 => ?_)
        · have hQ := hQ.1 hrf
          exact rt_n F hr hlk hw hX hQ (show 0 ≤ 0 from by omega) (show 0 ≤ 0 from by omega) dX2_at_31
        · have hQ := hQ.2 j3 hrf
          exact rt_a F hr hlk hw hX hA3 hQ (show 0 ≤ 0 from by omega) (show 0 ≤ 0 from by omega) dX2_at_31
      · have hQ := hQ.2 hc
        refine lv_null hx hb dX2_at_21 ?_
        refine lv_goto (tgt := 31) hx hb dX2_at_22 (by decide) ?_
        exact rt_n F hr hlk hw hX hQ (show 0 ≤ 0 from by omega) (show 0 ≤ 0 from by omega) dX2_at_31
theorem k_X2_at {p : Program} {l : Launch} {e : Env} {R : Room} {s : State} {m : MethodId} {args : Array Value} {below : List Frame} {meth : Method} {c : Code} {H : Heap} {locs : List Loc} {cells slots : Nat} {Q : State → Prop} {cc : ByteArray} {pc nL : Nat} {ls : Array Slot} {rest : List Value} {G : GT} {S : St} {own : String} {p1 : Int32} {post : Option Nat → St → Prop} {lv : List (Nat × Value)} {idx : Nat} (F : CX p m c cc nL s args own) (hw : WW G S s H locs) (hl : lv_has ls nL lv) {a0 : Nat} (hA0 : AtO S 2 0 a0) (hQ : wp_X2_at p1 S post) (h1 : Cond.methodLink own idx yX2_at ∈ wT) (hR1 : 0 + 1 ≤ R.frames) (hR2 : 8 + (2 + 11) + 0 ≤ R.locals) (hrest : (rest.map fun v => v.category).sum ≤ 8) (hdg : decode cc pc = .ok (.invokevirtual idx, 3)) (hf1 : cells + 0 ≤ R.cells) (hf2 : slots + 0 ≤ R.slots)
    (kn : ∀ (S1 : St) (H1 : Heap) (locs1 : List Loc), post none S1 → WW G S1 s H1 locs1 → Ext S S1 → W p l e R s m args below meth c H1 locs1 (cells + 0) (slots + 0) Q (F0 m (pc + 3) ls (.null :: rest))) (ks : ∀ (j2 a2 : Nat) (S1 : St) (H1 : Heap) (locs1 : List Loc), post (some j2) S1 → AtO S1 3 j2 a2 → WW G S1 s H1 locs1 → Ext S S1 → W p l e R s m args below meth c H1 locs1 (cells + 0) (slots + 0) Q (F0 m (pc + 3) ls (.ref a2 :: rest))) : W p l e R s m args below meth c H locs cells slots Q (F0 m pc ls (.int p1 :: .ref a0 :: rest)) :=
  cl_r (rn_V (n := 1) (As := [.int p1]) (q := (RX2, TX2, 3)) F hw hl (m_X2_at l G p1 S a0 hA0 post hQ) 2 (by decide) (by decide) hA0 rfl rfl h1 twi_yX2_at tws_yX2_at twn_RX2 two_yX2_at rfl rfl ⟨rfl, by decide, by decide, by decide +kernel⟩ rfl ⟨hR1, hR2⟩ rfl hrest hdg ⟨hf1, hf2⟩) hw kn ks
-- X8_record
def wp_X8_record (p1 : Int32) (p2 : Int32) (S0 : St) (post : Int32 → St → Prop) : Prop :=
  wp_X2_at p1 S0 (fun r3 S2 =>
  (r3 = none →
  post (-1 : Int32) S2) ∧
  (∀ j4 : Nat, r3 = some j4 →
  (p2.toInt < 0 ∨ 4 < p2.toInt →
  post (-1 : Int32) S2) ∧
  (p2.toInt = 0 →
  post (gi S2 3 j4 0) S2) ∧
  (p2.toInt = 1 →
  post (gi S2 3 j4 1) S2) ∧
  (p2.toInt = 2 →
  post (gi S2 3 j4 2) S2) ∧
  (p2.toInt = 3 →
  post (((gj S2 3 j4 3) - (gj S2 3 j4 3) / (1000000000 : Int64) * (1000000000 : Int64)).toInt32) S2) ∧
  (p2.toInt = 4 →
  post (gi S2 3 j4 4) S2)))
set_option maxRecDepth 100000 in
set_option maxHeartbeats 4000000 in
theorem m_X8_record (l : Launch) (G : GT) (p1 : Int32) (p2 : Int32) (S0 : St) (a0 : Nat) (hA0 : AtO S0 7 0 a0) (post : Int32 → St → Prop) (hQ : wp_X8_record p1 p2 S0 post) : Met l yX8_record (wM yX8_record cX8_record 4 (some (FieldType.int))) ({ frames := 1, cells := 0, slots := 0, locals := 21 } : Room) (PC G S0 [.ref a0, .int p1, .int p2]) (QI G S0 post) 0 0 (QA G) := by
  refine mt_start RX8 (by decide) rfl (Nat.le_of_ble_eq_true rfl) ?_
  intro p e s m args below meth c ls F hr hlk hnm hw hl
  have hx := F.1
  have hb := F.2.1
  have hown := F.2.2.2.1
  have hts := F.2.2.2.2
  have hX : Ext S0 S0 := Ext.rf
  have hsz0 := hw.1.1.1
  have hl : lv_has ls 4 [(0, .ref a0), (1, .int p1), (2, .int p2)] := hl
  unfold wp_X8_record at hQ
  refine lv_aload_n hx hb dX8_record_0 rfl (lv_at hl 0 rfl) ?_
  refine g_7_4 F hw hA0 twf_RX8_37 dX8_record_1 (fun a1 hA1 => ?_)
  refine lv_iload_n hx hb dX8_record_4 rfl (lv_at hl 1 rfl) ?_
  refine k_X2_at F hw hl hA1 hQ twm_RX8_285 (Nat.le_of_ble_eq_true rfl) (Nat.le_of_ble_eq_true rfl) (Nat.le_of_ble_eq_true rfl) dX8_record_5 (show 0 + 0 ≤ 0 from by omega) (show 0 + 0 ≤ 0 from by omega) (fun S2 H locs hQ hw hx1 => ?_) (fun j4 a4 S2 H locs hQ hA4 hw hx1 => ?_)
  · have hQ := hQ.1 rfl
    have hX := hX.trans hx1
    have hA0 := hA0.ext hx1
    refine lv_astore_nN (lv' := [(3, .null), (0, .ref a0), (1, .int p1), (2, .int p2)]) hx hb dX8_record_8 rfl hl (by decide) rfl (fun ls hl => ?_)
    refine lv_aload_nN hx hb dX8_record_9 rfl (lv_at hl 0 rfl) ?_
    refine lv_ifnonnullN hx hb dX8_record_10 ?_
    refine lv_iconst (v := -1) hx hb dX8_record_13 (by decide) ?_
    exact rt_i F hr hlk hw hX hQ (show (0 + 0) ≤ 0 from by omega) (show (0 + 0) ≤ 0 from by omega) dX8_record_14
  · have hQ := hQ.2 j4 rfl
    have hX := hX.trans hx1
    have hA0 := hA0.ext hx1
    refine lv_astore_n (lv' := [(3, .ref a4), (0, .ref a0), (1, .int p1), (2, .int p2)]) hx hb dX8_record_8 rfl hl (by decide) rfl (fun ls hl => ?_)
    refine lv_aload_n hx hb dX8_record_9 rfl (lv_at hl 0 rfl) ?_
    refine lv_ifnonnull (tgt := 15) hx hb dX8_record_10 (by decide) ?_
    refine lv_iload_n hx hb dX8_record_15 rfl (lv_at hl 3 rfl) ?_
    rcases (show p2.toInt < 0 ∨ 4 < p2.toInt ∨ p2.toInt = 0 ∨ p2.toInt = 1 ∨ p2.toInt = 2 ∨ p2.toInt = 3 ∨ p2.toInt = 4 by omega) with hc | hc | hc | hc | hc | hc | hc
    · have hQ := hQ.1 (Or.inl hc)
      refine lv_tableOut (tgt := 82) hx hb dX8_record_16 (Or.inl hc) (by decide) ?_
      refine lv_iconst (v := -1) hx hb dX8_record_82 (by decide) ?_
      exact rt_i F hr hlk hw hX hQ (show (0 + 0) ≤ 0 from by omega) (show (0 + 0) ≤ 0 from by omega) dX8_record_83
    · have hQ := hQ.1 (Or.inr hc)
      refine lv_tableOut (tgt := 82) hx hb dX8_record_16 (Or.inr hc) (by decide) ?_
      refine lv_iconst (v := -1) hx hb dX8_record_82 (by decide) ?_
      exact rt_i F hr hlk hw hX hQ (show (0 + 0) ≤ 0 from by omega) (show (0 + 0) ≤ 0 from by omega) dX8_record_83
    · have hQ := hQ.2.1 hc
      refine lv_tableIn (tgt := 52) hx hb dX8_record_16 (by omega) (by omega) (by rw [hc]; rfl) (by decide) ?_
      refine lv_aload_n hx hb dX8_record_52 rfl (lv_at hl 0 rfl) ?_
      refine g_3_0 F hw hA4 twf_RX8_289 dX8_record_53 ?_
      exact rt_i F hr hlk hw hX hQ (show (0 + 0) ≤ 0 from by omega) (show (0 + 0) ≤ 0 from by omega) dX8_record_56
    · have hQ := hQ.2.2.1 hc
      refine lv_tableIn (tgt := 57) hx hb dX8_record_16 (by omega) (by omega) (by rw [hc]; rfl) (by decide) ?_
      refine lv_aload_n hx hb dX8_record_57 rfl (lv_at hl 0 rfl) ?_
      refine g_3_1 F hw hA4 twf_RX8_294 dX8_record_58 ?_
      exact rt_i F hr hlk hw hX hQ (show (0 + 0) ≤ 0 from by omega) (show (0 + 0) ≤ 0 from by omega) dX8_record_61
    · have hQ := hQ.2.2.2.1 hc
      refine lv_tableIn (tgt := 62) hx hb dX8_record_16 (by omega) (by omega) (by rw [hc]; rfl) (by decide) ?_
      refine lv_aload_n hx hb dX8_record_62 rfl (lv_at hl 0 rfl) ?_
      refine g_3_2 F hw hA4 twf_RX8_296 dX8_record_63 ?_
      exact rt_i F hr hlk hw hX hQ (show (0 + 0) ≤ 0 from by omega) (show (0 + 0) ≤ 0 from by omega) dX8_record_66
    · have hQ := hQ.2.2.2.2.1 hc
      refine lv_tableIn (tgt := 67) hx hb dX8_record_16 (by omega) (by omega) (by rw [hc]; rfl) (by decide) ?_
      refine lv_aload_n hx hb dX8_record_67 rfl (lv_at hl 0 rfl) ?_
      refine g_3_3 F hw hA4 twf_RX8_299 dX8_record_68 ?_
      refine lv_ldc2 (v := 1000000000) hx hb hown (hts _ twl_RX8_54) dX8_record_71 ?_
      refine lv_lrem hx hb dX8_record_74 (by decide) ?_
      refine lv_l2i hx hb dX8_record_75 rfl ?_
      exact rt_i F hr hlk hw hX hQ (show (0 + 0) ≤ 0 from by omega) (show (0 + 0) ≤ 0 from by omega) dX8_record_76
    · have hQ := hQ.2.2.2.2.2 hc
      refine lv_tableIn (tgt := 77) hx hb dX8_record_16 (by omega) (by omega) (by rw [hc]; rfl) (by decide) ?_
      refine lv_aload_n hx hb dX8_record_77 rfl (lv_at hl 0 rfl) ?_
      refine g_3_4 F hw hA4 twf_RX8_300 dX8_record_78 ?_
      exact rt_i F hr hlk hw hX hQ (show (0 + 0) ≤ 0 from by omega) (show (0 + 0) ≤ 0 from by omega) dX8_record_81
theorem k_X8_record {p : Program} {l : Launch} {e : Env} {R : Room} {s : State} {m : MethodId} {args : Array Value} {below : List Frame} {meth : Method} {c : Code} {H : Heap} {locs : List Loc} {cells slots : Nat} {Q : State → Prop} {cc : ByteArray} {pc nL : Nat} {ls : Array Slot} {rest : List Value} {G : GT} {S : St} {own : String} {p1 : Int32} {p2 : Int32} {post : Int32 → St → Prop} {lv : List (Nat × Value)} {idx : Nat} (F : CX p m c cc nL s args own) (hw : WW G S s H locs) (hl : lv_has ls nL lv) {a0 : Nat} (hA0 : AtO S 7 0 a0) (hQ : wp_X8_record p1 p2 S post) (h1 : Cond.methodLink own idx yX8_record ∈ wT) (hR1 : 1 + 1 ≤ R.frames) (hR2 : 8 + (4 + 11) + 21 ≤ R.locals) (hrest : (rest.map fun v => v.category).sum ≤ 8) (hdg : decode cc pc = .ok (.invokevirtual idx, 3)) (hf1 : cells + 0 ≤ R.cells) (hf2 : slots + 0 ≤ R.slots)
    (kk : ∀ (r : Int32) (S1 : St) (H1 : Heap) (locs1 : List Loc), post r S1 → WW G S1 s H1 locs1 → Ext S S1 → W p l e R s m args below meth c H1 locs1 (cells + 0) (slots + 0) Q (F0 m (pc + 3) ls (.int r :: rest))) : W p l e R s m args below meth c H locs cells slots Q (F0 m pc ls (.int p2 :: .int p1 :: .ref a0 :: rest)) :=
  cl_i (rn_V (n := 2) (As := [.int p1, .int p2]) (q := (RX8, TX8, 11)) F hw hl (m_X8_record l G p1 p2 S a0 hA0 post hQ) 7 (by decide) (by decide) hA0 rfl rfl h1 twi_yX8_record tws_yX8_record twn_RX8 two_yX8_record rfl rfl ⟨rfl, by decide, by decide, by decide +kernel⟩ rfl ⟨hR1, hR2⟩ rfl hrest hdg ⟨hf1, hf2⟩) hw kk
-- X3_linkBehind
def wp_X3_linkBehind (j0 : Nat) (p1 : Int32) (S0 : St) (post : Int32 → St → Prop) : Prop :=
  wp_X3_linkOf p1 (gi S0 3 j0 0) (gi S0 3 j0 1) (gi S0 3 j0 2) (gj S0 3 j0 3) S0 (fun r2 S1 =>
  post r2 S1)
set_option maxRecDepth 100000 in
set_option maxHeartbeats 4000000 in
theorem m_X3_linkBehind (l : Launch) (G : GT) (j0 : Nat) (p1 : Int32) (S0 : St) (a0 : Nat) (hA0 : AtO S0 3 j0 a0) (post : Int32 → St → Prop) (hQ : wp_X3_linkBehind j0 p1 S0 post) : Met l yX3_linkBehind (wM yX3_linkBehind cX3_linkBehind 2 (some (FieldType.int))) ({ frames := 1, cells := 0, slots := 0, locals := 25 } : Room) (PC G S0 [.ref a0, .int p1]) (QI G S0 post) 0 0 (QA G) := by
  refine mt_start RX3 (by decide) rfl (Nat.le_of_ble_eq_true rfl) ?_
  intro p e s m args below meth c ls F hr hlk hnm hw hl
  have hx := F.1
  have hb := F.2.1
  have hown := F.2.2.2.1
  have hts := F.2.2.2.2
  have hX : Ext S0 S0 := Ext.rf
  have hsz0 := hw.1.1.1
  have hl : lv_has ls 2 [(0, .ref a0), (1, .int p1)] := hl
  unfold wp_X3_linkBehind at hQ
  refine lv_iload_n hx hb dX3_linkBehind_0 rfl (lv_at hl 1 rfl) ?_
  refine lv_aload_n hx hb dX3_linkBehind_1 rfl (lv_at hl 0 rfl) ?_
  refine g_3_0 F hw hA0 twf_RX3_7 dX3_linkBehind_2 ?_
  refine lv_aload_n hx hb dX3_linkBehind_5 rfl (lv_at hl 0 rfl) ?_
  refine g_3_1 F hw hA0 twf_RX3_13 dX3_linkBehind_6 ?_
  refine lv_aload_n hx hb dX3_linkBehind_9 rfl (lv_at hl 0 rfl) ?_
  refine g_3_2 F hw hA0 twf_RX3_16 dX3_linkBehind_10 ?_
  refine lv_aload_n hx hb dX3_linkBehind_13 rfl (lv_at hl 0 rfl) ?_
  refine g_3_3 F hw hA0 twf_RX3_19 dX3_linkBehind_14 ?_
  refine k_X3_linkOf F hw hl hQ twm_RX3_26 (Nat.le_of_ble_eq_true rfl) (Nat.le_of_ble_eq_true rfl) (Nat.le_of_ble_eq_true rfl) dX3_linkBehind_17 (show 0 + 0 ≤ 0 from by omega) (show 0 + 0 ≤ 0 from by omega) (fun r2 S1 H locs hQ hw hx1 => ?_)
  have hX := hX.trans hx1
  have hA0 := hA0.ext hx1
  exact rt_i F hr hlk hw hX hQ (show (0 + 0) ≤ 0 from by omega) (show (0 + 0) ≤ 0 from by omega) dX3_linkBehind_20
theorem k_X3_linkBehind {p : Program} {l : Launch} {e : Env} {R : Room} {s : State} {m : MethodId} {args : Array Value} {below : List Frame} {meth : Method} {c : Code} {H : Heap} {locs : List Loc} {cells slots : Nat} {Q : State → Prop} {cc : ByteArray} {pc nL : Nat} {ls : Array Slot} {rest : List Value} {G : GT} {S : St} {own : String} {j0 : Nat} {p1 : Int32} {post : Int32 → St → Prop} {lv : List (Nat × Value)} {idx : Nat} (F : CX p m c cc nL s args own) (hw : WW G S s H locs) (hl : lv_has ls nL lv) {a0 : Nat} (hA0 : AtO S 3 j0 a0) (hQ : wp_X3_linkBehind j0 p1 S post) (h1 : Cond.methodLink own idx yX3_linkBehind ∈ wT) (hR1 : 1 + 1 ≤ R.frames) (hR2 : 8 + (2 + 11) + 25 ≤ R.locals) (hrest : (rest.map fun v => v.category).sum ≤ 8) (hdg : decode cc pc = .ok (.invokevirtual idx, 3)) (hf1 : cells + 0 ≤ R.cells) (hf2 : slots + 0 ≤ R.slots)
    (kk : ∀ (r : Int32) (S1 : St) (H1 : Heap) (locs1 : List Loc), post r S1 → WW G S1 s H1 locs1 → Ext S S1 → W p l e R s m args below meth c H1 locs1 (cells + 0) (slots + 0) Q (F0 m (pc + 3) ls (.int r :: rest))) : W p l e R s m args below meth c H locs cells slots Q (F0 m pc ls (.int p1 :: .ref a0 :: rest)) :=
  cl_i (rn_V (n := 1) (As := [.int p1]) (q := (RX3, TX3, 5)) F hw hl (m_X3_linkBehind l G j0 p1 S a0 hA0 post hQ) 3 (by decide) (by decide) hA0 rfl rfl h1 twi_yX3_linkBehind tws_yX3_linkBehind twn_RX3 two_yX3_linkBehind rfl rfl ⟨rfl, by decide, by decide, by decide +kernel⟩ rfl ⟨hR1, hR2⟩ rfl hrest hdg ⟨hf1, hf2⟩) hw kk
-- X2_isWhole
def bd_X2_isWhole_4 (post : Int32 → St → Prop) (K4 : Int32 → Int32 → St → Prop) (x2_4 : Int32) (x1_4 : Int32) (S1 : St) : Prop :=
  ((gi S1 2 0 1) ≤ x2_4 →
  post (1 : Int32) S1) ∧
  (¬ (gi S1 2 0 1) ≤ x2_4 →
  wp_X2_at x2_4 S1 (fun r3 S2 =>
  (r3 = none →
  post (0 : Int32) S2) ∧
  (∀ j4 : Nat, r3 = some j4 →
  wp_X3_linkBehind j4 x1_4 S2 (fun r6 S5 =>
  ((gi S2 3 j4 4) = r6 →
  ∀ v7 : Int32, v7 = gi S5 3 j4 4 →
  ∀ v8 : Int32, v8 = x2_4 + (1 : Int32) →
  K4 v8 v7 S5) ∧
  (¬ (gi S2 3 j4 4) = r6 →
  post (0 : Int32) S5)))))
def lp_X2_isWhole_4 (post : Int32 → St → Prop) : Nat → Int32 → Int32 → St → Prop
  | 0, _, _, _ => False
  | n + 1, x2_4, x1_4, S1 => bd_X2_isWhole_4 post (fun x2_4 x1_4 S1 => lp_X2_isWhole_4 post n x2_4 x1_4 S1) x2_4 x1_4 S1
def wp_X2_isWhole  (S0 : St) (post : Int32 → St → Prop) : Prop :=
  ∃ n : Nat, lp_X2_isWhole_4 post n (0 : Int32) (1 : Int32) S0
set_option maxRecDepth 100000 in
set_option maxHeartbeats 4000000 in
theorem m_X2_isWhole (l : Launch) (G : GT)  (S0 : St) (a0 : Nat) (hA0 : AtO S0 2 0 a0) (post : Int32 → St → Prop) (hQ : wp_X2_isWhole S0 post) : Met l yX2_isWhole (wM yX2_isWhole cX2_isWhole 4 (some (FieldType.boolean))) ({ frames := 2, cells := 0, slots := 0, locals := 46 } : Room) (PC G S0 [.ref a0]) (QI G S0 post) 0 0 (QA G) := by
  refine mt_start RX2 (by decide) rfl (Nat.le_of_ble_eq_true rfl) ?_
  intro p e s m args below meth c ls F hr hlk hnm hw hl
  have hx := F.1
  have hb := F.2.1
  have hown := F.2.2.2.1
  have hts := F.2.2.2.2
  have hX : Ext S0 S0 := Ext.rf
  have hsz0 := hw.1.1.1
  have hl : lv_has ls 4 [(0, .ref a0)] := hl
  unfold wp_X2_isWhole at hQ
  refine lv_iconst (v := 1) hx hb dX2_isWhole_0 (by decide) ?_
  refine lv_istore_n (lv' := [(1, .int (1 : Int32)), (0, .ref a0)]) hx hb dX2_isWhole_1 rfl hl (by decide) rfl (fun ls hl => ?_)
  refine lv_iconst (v := 0) hx hb dX2_isWhole_2 (by decide) ?_
  refine lv_istore_n (lv' := [(2, .int (0 : Int32)), (1, .int (1 : Int32)), (0, .ref a0)]) hx hb dX2_isWhole_3 rfl hl (by decide) rfl (fun ls hl => ?_)
  have hloop4 : ∀ (n4 : Nat) (x2_4 : Int32) (x1_4 : Int32) (S1 : St) (H : Heap) (locs : List Loc) (ls : Array Slot) (cl4 sl4 : Nat), lp_X2_isWhole_4 post n4 x2_4 x1_4 S1 → WW G S1 s H locs → Ext S0 S1 → AtO S1 2 0 a0 → lv_has ls 4 [(2, .int x2_4), (1, .int x1_4), (0, .ref a0)] → cl4 ≤ 0 + 0 → sl4 ≤ 0 + 0 → W p l e ({ frames := 2, cells := 0, slots := 0, locals := 46 } : Room) s m args below meth c H locs cl4 sl4 (MQ below (QI G S0 post) args s 0 0 (QA G)) (F0 m 4 ls []) := by
    intro n4
    induction n4 with
    | zero => intro x2_4 x1_4 S1 H locs ls cl sl hQ; exact False.elim hQ
    | succ n4 ih4 =>
      intro x2_4 x1_4 S1 H locs ls cl4 sl4 hQ hw hX hA0 hl hcl4 hsl4
      have hQ : bd_X2_isWhole_4 post (fun x2_4 x1_4 S1 => lp_X2_isWhole_4 post n4 x2_4 x1_4 S1) x2_4 x1_4 S1 := hQ
      unfold bd_X2_isWhole_4 at hQ
      refine lv_iload_n hx hb dX2_isWhole_4 rfl (lv_at hl 0 rfl) ?_
      refine lv_aload_n hx hb dX2_isWhole_5 rfl (lv_at hl 2 rfl) ?_
      refine g_2_1 F hw hA0 twf_RX2_21 dX2_isWhole_6 ?_
      refine lv_icmp_ge (tgt := 47) hx hb dX2_isWhole_9 (by decide) (fun hc => ?_) (fun hc => ?_)
      · have hQ := hQ.1 hc
        refine lv_iconst (v := 1) hx hb dX2_isWhole_47 (by decide) ?_
        exact rt_z F hr hlk hw hX hQ rfl (show cl4 ≤ 0 from by omega) (show sl4 ≤ 0 from by omega) dX2_isWhole_48
      · have hQ := hQ.2 hc
        refine lv_aload_n hx hb dX2_isWhole_12 rfl (lv_at hl 2 rfl) ?_
        refine lv_iload_n hx hb dX2_isWhole_13 rfl (lv_at hl 0 rfl) ?_
        refine k_X2_at F hw hl hA0 hQ twm_RX2_31 (Nat.le_of_ble_eq_true rfl) (Nat.le_of_ble_eq_true rfl) (Nat.le_of_ble_eq_true rfl) dX2_isWhole_14 (show cl4 + 0 ≤ 0 from by omega) (show sl4 + 0 ≤ 0 from by omega) (fun S2 H locs hQ hw hx1 => ?_) (fun j4 a4 S2 H locs hQ hA4 hw hx1 => ?_)
        · have hQ := hQ.1 rfl
          have hX := hX.trans hx1
          have hA0 := hA0.ext hx1
          refine lv_astore_nN (lv' := [(3, .null), (2, .int x2_4), (1, .int x1_4), (0, .ref a0)]) hx hb dX2_isWhole_17 rfl hl (by decide) rfl (fun ls hl => ?_)
          refine lv_aload_nN hx hb dX2_isWhole_18 rfl (lv_at hl 0 rfl) ?_
          refine lv_ifnullN (tgt := 34) hx hb dX2_isWhole_19 (by decide) ?_
          refine lv_iconst (v := 0) hx hb dX2_isWhole_34 (by decide) ?_
          exact rt_z F hr hlk hw hX hQ rfl (show (cl4 + 0) ≤ 0 from by omega) (show (sl4 + 0) ≤ 0 from by omega) dX2_isWhole_35
        · have hQ := hQ.2 j4 rfl
          have hX := hX.trans hx1
          have hA0 := hA0.ext hx1
          refine lv_astore_n (lv' := [(3, .ref a4), (2, .int x2_4), (1, .int x1_4), (0, .ref a0)]) hx hb dX2_isWhole_17 rfl hl (by decide) rfl (fun ls hl => ?_)
          refine lv_aload_n hx hb dX2_isWhole_18 rfl (lv_at hl 0 rfl) ?_
          refine lv_ifnull hx hb dX2_isWhole_19 ?_
          refine lv_aload_n hx hb dX2_isWhole_22 rfl (lv_at hl 0 rfl) ?_
          refine g_3_4 F hw hA4 twf_RX2_35 dX2_isWhole_23 ?_
          refine lv_aload_n hx hb dX2_isWhole_26 rfl (lv_at hl 0 rfl) ?_
          refine lv_iload_n hx hb dX2_isWhole_27 rfl (lv_at hl 2 rfl) ?_
          refine k_X3_linkBehind F hw hl hA4 hQ twm_RX2_38 (Nat.le_of_ble_eq_true rfl) (Nat.le_of_ble_eq_true rfl) (Nat.le_of_ble_eq_true rfl) dX2_isWhole_28 (show (cl4 + 0) + 0 ≤ 0 from by omega) (show (sl4 + 0) + 0 ≤ 0 from by omega) (fun r6 S5 H locs hQ hw hx1 => ?_)
          have hX := hX.trans hx1
          have hA4 := hA4.ext hx1
          have hA0 := hA0.ext hx1
          refine lv_icmp_eq (tgt := 36) hx hb dX2_isWhole_31 (by decide) (fun hc => ?_) (fun hc => ?_)
          · have hQ := hQ.1 hc
            refine lv_aload_n hx hb dX2_isWhole_36 rfl (lv_at hl 0 rfl) ?_
            refine g_3_4 F hw hA4 twf_RX2_35 dX2_isWhole_37 ?_
            refine lv_topi (fun v7 ev7 => ?_)
            have hQ := hQ v7 ev7
            refine lv_istore_n (lv' := [(1, .int v7), (3, .ref a4), (2, .int x2_4), (0, .ref a0)]) hx hb dX2_isWhole_40 rfl hl (by decide) rfl (fun ls hl => ?_)
            obtain ⟨v8, ev8⟩ : ∃ y : Int32, y = x2_4 + (1 : Int32) := ⟨_, rfl⟩
            have hQ := hQ v8 ev8
            refine lv_iinc (v := v8) (lv' := [(2, .int v8), (1, .int v7), (3, .ref a4), (0, .ref a0)]) hx hb dX2_isWhole_41 hl (k := 2) rfl (by rw [ev8]; rfl) (by decide) rfl (fun ls hl => ?_)
            refine lv_goto (tgt := 4) hx hb dX2_isWhole_44 (by decide) ?_
            exact ih4 v8 v7 S5 _ _ _ _ _ hQ hw hX hA0 (lv_sub hl [0, 1, 3] rfl) (by omega) (by omega)
          · have hQ := hQ.2 hc
            refine lv_iconst (v := 0) hx hb dX2_isWhole_34 (by decide) ?_
            exact rt_z F hr hlk hw hX hQ rfl (show ((cl4 + 0) + 0) ≤ 0 from by omega) (show ((sl4 + 0) + 0) ≤ 0 from by omega) dX2_isWhole_35
  obtain ⟨n, hQ⟩ := hQ
  exact hloop4 n (0 : Int32) (1 : Int32) S0 _ _ _ _ _ hQ hw hX hA0 (lv_sub hl [0, 1, 2] rfl) (by omega) (by omega)
theorem k_X2_isWhole {p : Program} {l : Launch} {e : Env} {R : Room} {s : State} {m : MethodId} {args : Array Value} {below : List Frame} {meth : Method} {c : Code} {H : Heap} {locs : List Loc} {cells slots : Nat} {Q : State → Prop} {cc : ByteArray} {pc nL : Nat} {ls : Array Slot} {rest : List Value} {G : GT} {S : St} {own : String}  {post : Int32 → St → Prop} {lv : List (Nat × Value)} {idx : Nat} (F : CX p m c cc nL s args own) (hw : WW G S s H locs) (hl : lv_has ls nL lv) {a0 : Nat} (hA0 : AtO S 2 0 a0) (hQ : wp_X2_isWhole S post) (h1 : Cond.methodLink own idx yX2_isWhole ∈ wT) (hR1 : 2 + 1 ≤ R.frames) (hR2 : 8 + (4 + 11) + 46 ≤ R.locals) (hrest : (rest.map fun v => v.category).sum ≤ 8) (hdg : decode cc pc = .ok (.invokevirtual idx, 3)) (hf1 : cells + 0 ≤ R.cells) (hf2 : slots + 0 ≤ R.slots)
    (kk : ∀ (r : Int32) (S1 : St) (H1 : Heap) (locs1 : List Loc), post r S1 → WW G S1 s H1 locs1 → Ext S S1 → W p l e R s m args below meth c H1 locs1 (cells + 0) (slots + 0) Q (F0 m (pc + 3) ls (.int r :: rest))) : W p l e R s m args below meth c H locs cells slots Q (F0 m pc ls (.ref a0 :: rest)) :=
  cl_i (rn_V (n := 0) (As := []) (q := (RX2, TX2, 3)) F hw hl (m_X2_isWhole l G  S a0 hA0 post hQ) 2 (by decide) (by decide) hA0 rfl rfl h1 twi_yX2_isWhole tws_yX2_isWhole twn_RX2 two_yX2_isWhole rfl rfl ⟨rfl, by decide, by decide, by decide +kernel⟩ rfl ⟨hR1, hR2⟩ rfl hrest hdg ⟨hf1, hf2⟩) hw kk
-- X8_chained
def wp_X8_chained  (S0 : St) (post : Int32 → St → Prop) : Prop :=
  wp_X2_isWhole S0 (fun r3 S2 =>
  bz r3 ∧ post r3 S2)
set_option maxRecDepth 100000 in
set_option maxHeartbeats 4000000 in
theorem m_X8_chained (l : Launch) (G : GT)  (S0 : St) (a0 : Nat) (hA0 : AtO S0 7 0 a0) (post : Int32 → St → Prop) (hQ : wp_X8_chained S0 post) : Met l yX8_chained (wM yX8_chained cX8_chained 1 (some (FieldType.boolean))) ({ frames := 3, cells := 0, slots := 0, locals := 69 } : Room) (PC G S0 [.ref a0]) (QI G S0 post) 0 0 (QA G) := by
  refine mt_start RX8 (by decide) rfl (Nat.le_of_ble_eq_true rfl) ?_
  intro p e s m args below meth c ls F hr hlk hnm hw hl
  have hx := F.1
  have hb := F.2.1
  have hown := F.2.2.2.1
  have hts := F.2.2.2.2
  have hX : Ext S0 S0 := Ext.rf
  have hsz0 := hw.1.1.1
  have hl : lv_has ls 1 [(0, .ref a0)] := hl
  unfold wp_X8_chained at hQ
  refine lv_aload_n hx hb dX8_chained_0 rfl (lv_at hl 0 rfl) ?_
  refine g_7_4 F hw hA0 twf_RX8_37 dX8_chained_1 (fun a1 hA1 => ?_)
  refine k_X2_isWhole F hw hl hA1 hQ twm_RX8_303 (Nat.le_of_ble_eq_true rfl) (Nat.le_of_ble_eq_true rfl) (Nat.le_of_ble_eq_true rfl) dX8_chained_4 (show 0 + 0 ≤ 0 from by omega) (show 0 + 0 ≤ 0 from by omega) (fun r3 S2 H locs hQ hw hx1 => ?_)
  have hX := hX.trans hx1
  have hA0 := hA0.ext hx1
  exact rt_z F hr hlk hw hX hQ.2 (bz_nar hQ.1) (show (0 + 0) ≤ 0 from by omega) (show (0 + 0) ≤ 0 from by omega) dX8_chained_7
theorem k_X8_chained {p : Program} {l : Launch} {e : Env} {R : Room} {s : State} {m : MethodId} {args : Array Value} {below : List Frame} {meth : Method} {c : Code} {H : Heap} {locs : List Loc} {cells slots : Nat} {Q : State → Prop} {cc : ByteArray} {pc nL : Nat} {ls : Array Slot} {rest : List Value} {G : GT} {S : St} {own : String}  {post : Int32 → St → Prop} {lv : List (Nat × Value)} {idx : Nat} (F : CX p m c cc nL s args own) (hw : WW G S s H locs) (hl : lv_has ls nL lv) {a0 : Nat} (hA0 : AtO S 7 0 a0) (hQ : wp_X8_chained S post) (h1 : Cond.methodLink own idx yX8_chained ∈ wT) (hR1 : 3 + 1 ≤ R.frames) (hR2 : 8 + (1 + 11) + 69 ≤ R.locals) (hrest : (rest.map fun v => v.category).sum ≤ 8) (hdg : decode cc pc = .ok (.invokevirtual idx, 3)) (hf1 : cells + 0 ≤ R.cells) (hf2 : slots + 0 ≤ R.slots)
    (kk : ∀ (r : Int32) (S1 : St) (H1 : Heap) (locs1 : List Loc), post r S1 → WW G S1 s H1 locs1 → Ext S S1 → W p l e R s m args below meth c H1 locs1 (cells + 0) (slots + 0) Q (F0 m (pc + 3) ls (.int r :: rest))) : W p l e R s m args below meth c H locs cells slots Q (F0 m pc ls (.ref a0 :: rest)) :=
  cl_i (rn_V (n := 0) (As := []) (q := (RX8, TX8, 11)) F hw hl (m_X8_chained l G  S a0 hA0 post hQ) 7 (by decide) (by decide) hA0 rfl rfl h1 twi_yX8_chained tws_yX8_chained twn_RX8 two_yX8_chained rfl rfl ⟨rfl, by decide, by decide, by decide +kernel⟩ rfl ⟨hR1, hR2⟩ rfl hrest hdg ⟨hf1, hf2⟩) hw kk
-- X8_playTurn
def wp_X8_playTurn (p1 : Int64) (S0 : St) (post : St → Prop) : Prop :=
  ∀ v1 : Int32, v1 = ((p1 / (6 : Int64)) - (p1 / (6 : Int64)) / (64 : Int64) * (64 : Int64)).toInt32 →
  ∀ v2 : Int64, v2 = (p1 / (384 : Int64)) - (p1 / (384 : Int64)) / (100000 : Int64) * (100000 : Int64) →
  (((p1 - p1 / (6 : Int64) * (6 : Int64)).toInt32).toInt < 0 ∨ 4 < ((p1 - p1 / (6 : Int64) * (6 : Int64)).toInt32).toInt →
  wp_X8_again v1 S0 (fun r4 S3 =>
  post S3)) ∧
  (((p1 - p1 / (6 : Int64) * (6 : Int64)).toInt32).toInt = 0 →
  wp_X8_press (v1 - v1 / (32 : Int32) * (32 : Int32)) (v2 - v2 / (3000 : Int64) * (3000 : Int64)) S0 (fun r6 S5 =>
  post S5)) ∧
  (((p1 - p1 / (6 : Int64) * (6 : Int64)).toInt32).toInt = 1 →
  wp_X8_tick ((1 : Int64) + (v2 - v2 / (500 : Int64) * (500 : Int64))) S0 (fun r8 S7 =>
  post S7)) ∧
  (((p1 - p1 / (6 : Int64) * (6 : Int64)).toInt32).toInt = 2 →
  wp_X8_start v1 v2 ((1 : Int64) + ((v2 - v2 / (97 : Int64) * (97 : Int64)) * (5 : Int64))) S0 (fun r10 S9 =>
  post S9)) ∧
  (((p1 - p1 / (6 : Int64) * (6 : Int64)).toInt32).toInt = 3 →
  wp_X8_rise v1 ((v2 - v2 / (32 : Int64) * (32 : Int64)).toInt32) v2 S0 (fun r12 S11 =>
  post S11)) ∧
  (((p1 - p1 / (6 : Int64) * (6 : Int64)).toInt32).toInt = 4 →
  wp_X8_outage (0 : Int64) (1 : Int32) S0 (fun r14 S13 =>
  (¬ r14 = 0 →
  post S13) ∧
  (r14 = 0 →
  wp_X8_outage (0 : Int64) (0 : Int32) S13 (fun r16 S15 =>
  post S15))))
set_option maxRecDepth 100000 in
set_option maxHeartbeats 4000000 in
theorem m_X8_playTurn (l : Launch) (G : GT) (p1 : Int64) (S0 : St) (a0 : Nat) (hA0 : AtO S0 7 0 a0) (post : St → Prop) (hQ : wp_X8_playTurn p1 S0 post) : Met l yX8_playTurn (wM yX8_playTurn cX8_playTurn 6 none) ({ frames := 6, cells := 62, slots := 310, locals := 134 } : Room) (PC G S0 [.ref a0, .long p1]) (QV G S0 post) 62 310 (QA G) := by
  refine mt_start RX8 (by decide) rfl (Nat.le_of_ble_eq_true rfl) ?_
  intro p e s m args below meth c ls F hr hlk hnm hw hl
  have hx := F.1
  have hb := F.2.1
  have hown := F.2.2.2.1
  have hts := F.2.2.2.2
  have hX : Ext S0 S0 := Ext.rf
  have hsz0 := hw.1.1.1
  have hl : lv_has ls 6 [(0, .ref a0), (1, .long p1)] := hl
  unfold wp_X8_playTurn at hQ
  refine lv_lload_n hx hb dX8_playTurn_0 rfl (lv_at hl 1 rfl) ?_
  refine lv_ldc2 (v := 6) hx hb hown (hts _ twl_RX8_316) dX8_playTurn_1 ?_
  refine lv_ldiv hx hb dX8_playTurn_4 (by decide) ?_
  refine lv_ldc2 (v := 64) hx hb hown (hts _ twl_RX8_318) dX8_playTurn_5 ?_
  refine lv_lrem hx hb dX8_playTurn_8 (by decide) ?_
  refine lv_l2i hx hb dX8_playTurn_9 rfl ?_
  refine lv_topi (fun v1 ev1 => ?_)
  have hQ := hQ v1 ev1
  refine lv_istore_n (lv' := [(3, .int v1), (0, .ref a0), (1, .long p1)]) hx hb dX8_playTurn_10 rfl hl (by decide) rfl (fun ls hl => ?_)
  refine lv_lload_n hx hb dX8_playTurn_11 rfl (lv_at hl 2 rfl) ?_
  refine lv_ldc2 (v := 384) hx hb hown (hts _ twl_RX8_320) dX8_playTurn_12 ?_
  refine lv_ldiv hx hb dX8_playTurn_15 (by decide) ?_
  refine lv_ldc2 (v := 100000) hx hb hown (hts _ twl_RX8_322) dX8_playTurn_16 ?_
  refine lv_lrem hx hb dX8_playTurn_19 (by decide) ?_
  refine lv_topl (fun v2 ev2 => ?_)
  have hQ := hQ v2 ev2
  refine lv_lstore (lv' := [(4, .long v2), (3, .int v1), (0, .ref a0), (1, .long p1)]) hx hb dX8_playTurn_20 hl (by decide) rfl (fun ls hl => ?_)
  refine lv_lload_n hx hb dX8_playTurn_22 rfl (lv_at hl 3 rfl) ?_
  refine lv_ldc2 (v := 6) hx hb hown (hts _ twl_RX8_316) dX8_playTurn_23 ?_
  refine lv_lrem hx hb dX8_playTurn_26 (by decide) ?_
  refine lv_l2i hx hb dX8_playTurn_27 rfl ?_
  rcases (show ((p1 - p1 / (6 : Int64) * (6 : Int64)).toInt32).toInt < 0 ∨ 4 < ((p1 - p1 / (6 : Int64) * (6 : Int64)).toInt32).toInt ∨ ((p1 - p1 / (6 : Int64) * (6 : Int64)).toInt32).toInt = 0 ∨ ((p1 - p1 / (6 : Int64) * (6 : Int64)).toInt32).toInt = 1 ∨ ((p1 - p1 / (6 : Int64) * (6 : Int64)).toInt32).toInt = 2 ∨ ((p1 - p1 / (6 : Int64) * (6 : Int64)).toInt32).toInt = 3 ∨ ((p1 - p1 / (6 : Int64) * (6 : Int64)).toInt32).toInt = 4 by omega) with hc | hc | hc | hc | hc | hc | hc
  · have hQ := hQ.1 (Or.inl hc)
    refine lv_tableOut (tgt := 158) hx hb dX8_playTurn_28 (Or.inl hc) (by decide) ?_
    refine lv_aload_n hx hb dX8_playTurn_158 rfl (lv_at hl 2 rfl) ?_
    refine lv_iload_n hx hb dX8_playTurn_159 rfl (lv_at hl 1 rfl) ?_
    refine k_X8_again F hw hl hA0 hQ twm_RX8_352 (Nat.le_of_ble_eq_true rfl) (Nat.le_of_ble_eq_true rfl) (Nat.le_of_ble_eq_true rfl) dX8_playTurn_160 (show 0 + 1 ≤ 62 from by omega) (show 0 + 5 ≤ 310 from by omega) (fun r4 S3 H locs hQ hw hx1 => ?_)
    have hX := hX.trans hx1
    have hA0 := hA0.ext hx1
    refine lv_pop hx hb dX8_playTurn_163 rfl ?_
    exact rt_v F hr hlk hw hX hQ (show (0 + 1) ≤ 62 from by omega) (show (0 + 5) ≤ 310 from by omega) dX8_playTurn_164
  · have hQ := hQ.1 (Or.inr hc)
    refine lv_tableOut (tgt := 158) hx hb dX8_playTurn_28 (Or.inr hc) (by decide) ?_
    refine lv_aload_n hx hb dX8_playTurn_158 rfl (lv_at hl 2 rfl) ?_
    refine lv_iload_n hx hb dX8_playTurn_159 rfl (lv_at hl 1 rfl) ?_
    refine k_X8_again F hw hl hA0 hQ twm_RX8_352 (Nat.le_of_ble_eq_true rfl) (Nat.le_of_ble_eq_true rfl) (Nat.le_of_ble_eq_true rfl) dX8_playTurn_160 (show 0 + 1 ≤ 62 from by omega) (show 0 + 5 ≤ 310 from by omega) (fun r4 S3 H locs hQ hw hx1 => ?_)
    have hX := hX.trans hx1
    have hA0 := hA0.ext hx1
    refine lv_pop hx hb dX8_playTurn_163 rfl ?_
    exact rt_v F hr hlk hw hX hQ (show (0 + 1) ≤ 62 from by omega) (show (0 + 5) ≤ 310 from by omega) dX8_playTurn_164
  · have hQ := hQ.2.1 hc
    refine lv_tableIn (tgt := 64) hx hb dX8_playTurn_28 (by omega) (by omega) (by rw [hc]; rfl) (by decide) ?_
    refine lv_aload_n hx hb dX8_playTurn_64 rfl (lv_at hl 2 rfl) ?_
    refine lv_iload_n hx hb dX8_playTurn_65 rfl (lv_at hl 1 rfl) ?_
    refine lv_bipush (v := 32) hx hb dX8_playTurn_66 (by decide) ?_
    refine lv_irem hx hb dX8_playTurn_68 (by decide) ?_
    refine lv_lload hx hb dX8_playTurn_69 (lv_at hl 0 rfl) ?_
    refine lv_ldc2 (v := 3000) hx hb hown (hts _ twl_RX8_324) dX8_playTurn_71 ?_
    refine lv_lrem hx hb dX8_playTurn_74 (by decide) ?_
    refine k_X8_press F hw hl hA0 hQ twm_RX8_326 (Nat.le_of_ble_eq_true rfl) (Nat.le_of_ble_eq_true rfl) (Nat.le_of_ble_eq_true rfl) dX8_playTurn_75 (show 0 + 0 ≤ 62 from by omega) (show 0 + 0 ≤ 310 from by omega) (fun r6 S5 H locs hQ hw hx1 => ?_)
    have hX := hX.trans hx1
    have hA0 := hA0.ext hx1
    refine lv_pop hx hb dX8_playTurn_78 rfl ?_
    refine lv_goto (tgt := 164) hx hb dX8_playTurn_79 (by decide) ?_
    exact rt_v F hr hlk hw hX hQ (show (0 + 0) ≤ 62 from by omega) (show (0 + 0) ≤ 310 from by omega) dX8_playTurn_164
  · have hQ := hQ.2.2.1 hc
    refine lv_tableIn (tgt := 82) hx hb dX8_playTurn_28 (by omega) (by omega) (by rw [hc]; rfl) (by decide) ?_
    refine lv_aload_n hx hb dX8_playTurn_82 rfl (lv_at hl 2 rfl) ?_
    refine lv_lconst (v := 1) hx hb dX8_playTurn_83 (by decide) ?_
    refine lv_lload hx hb dX8_playTurn_84 (lv_at hl 0 rfl) ?_
    refine lv_ldc2 (v := 500) hx hb hown (hts _ twl_RX8_330) dX8_playTurn_86 ?_
    refine lv_lrem hx hb dX8_playTurn_89 (by decide) ?_
    refine lv_ladd hx hb dX8_playTurn_90 ?_
    refine k_X8_tick F hw hl hA0 hQ twm_RX8_332 (Nat.le_of_ble_eq_true rfl) (Nat.le_of_ble_eq_true rfl) (Nat.le_of_ble_eq_true rfl) dX8_playTurn_91 (show 0 + 62 ≤ 62 from by omega) (show 0 + 310 ≤ 310 from by omega) (fun r8 S7 H locs hQ hw hx1 => ?_)
    have hX := hX.trans hx1
    have hA0 := hA0.ext hx1
    refine lv_pop hx hb dX8_playTurn_94 rfl ?_
    refine lv_goto (tgt := 164) hx hb dX8_playTurn_95 (by decide) ?_
    exact rt_v F hr hlk hw hX hQ (show (0 + 62) ≤ 62 from by omega) (show (0 + 310) ≤ 310 from by omega) dX8_playTurn_164
  · have hQ := hQ.2.2.2.1 hc
    refine lv_tableIn (tgt := 98) hx hb dX8_playTurn_28 (by omega) (by omega) (by rw [hc]; rfl) (by decide) ?_
    refine lv_aload_n hx hb dX8_playTurn_98 rfl (lv_at hl 2 rfl) ?_
    refine lv_iload_n hx hb dX8_playTurn_99 rfl (lv_at hl 1 rfl) ?_
    refine lv_lload hx hb dX8_playTurn_100 (lv_at hl 0 rfl) ?_
    refine lv_lconst (v := 1) hx hb dX8_playTurn_102 (by decide) ?_
    refine lv_lload hx hb dX8_playTurn_103 (lv_at hl 0 rfl) ?_
    refine lv_ldc2 (v := 97) hx hb hown (hts _ twl_RX8_335) dX8_playTurn_105 ?_
    refine lv_lrem hx hb dX8_playTurn_108 (by decide) ?_
    refine lv_ldc2 (v := 5) hx hb hown (hts _ twl_RX8_337) dX8_playTurn_109 ?_
    refine lv_lmul hx hb dX8_playTurn_112 ?_
    refine lv_ladd hx hb dX8_playTurn_113 ?_
    refine k_X8_start F hw hl hA0 hQ twm_RX8_339 (Nat.le_of_ble_eq_true rfl) (Nat.le_of_ble_eq_true rfl) (Nat.le_of_ble_eq_true rfl) dX8_playTurn_114 (show 0 + 0 ≤ 62 from by omega) (show 0 + 0 ≤ 310 from by omega) (fun r10 S9 H locs hQ hw hx1 => ?_)
    have hX := hX.trans hx1
    have hA0 := hA0.ext hx1
    refine lv_pop hx hb dX8_playTurn_117 rfl ?_
    refine lv_goto (tgt := 164) hx hb dX8_playTurn_118 (by decide) ?_
    exact rt_v F hr hlk hw hX hQ (show (0 + 0) ≤ 62 from by omega) (show (0 + 0) ≤ 310 from by omega) dX8_playTurn_164
  · have hQ := hQ.2.2.2.2.1 hc
    refine lv_tableIn (tgt := 121) hx hb dX8_playTurn_28 (by omega) (by omega) (by rw [hc]; rfl) (by decide) ?_
    refine lv_aload_n hx hb dX8_playTurn_121 rfl (lv_at hl 2 rfl) ?_
    refine lv_iload_n hx hb dX8_playTurn_122 rfl (lv_at hl 1 rfl) ?_
    refine lv_lload hx hb dX8_playTurn_123 (lv_at hl 0 rfl) ?_
    refine lv_ldc2 (v := 32) hx hb hown (hts _ twl_RX8_342) dX8_playTurn_125 ?_
    refine lv_lrem hx hb dX8_playTurn_128 (by decide) ?_
    refine lv_l2i hx hb dX8_playTurn_129 rfl ?_
    refine lv_lload hx hb dX8_playTurn_130 (lv_at hl 0 rfl) ?_
    refine k_X8_rise F hw hl hA0 hQ twm_RX8_344 (Nat.le_of_ble_eq_true rfl) (Nat.le_of_ble_eq_true rfl) (Nat.le_of_ble_eq_true rfl) dX8_playTurn_132 (show 0 + 0 ≤ 62 from by omega) (show 0 + 0 ≤ 310 from by omega) (fun r12 S11 H locs hQ hw hx1 => ?_)
    have hX := hX.trans hx1
    have hA0 := hA0.ext hx1
    refine lv_pop hx hb dX8_playTurn_135 rfl ?_
    refine lv_goto (tgt := 164) hx hb dX8_playTurn_136 (by decide) ?_
    exact rt_v F hr hlk hw hX hQ (show (0 + 0) ≤ 62 from by omega) (show (0 + 0) ≤ 310 from by omega) dX8_playTurn_164
  · have hQ := hQ.2.2.2.2.2 hc
    refine lv_tableIn (tgt := 139) hx hb dX8_playTurn_28 (by omega) (by omega) (by rw [hc]; rfl) (by decide) ?_
    refine lv_aload_n hx hb dX8_playTurn_139 rfl (lv_at hl 2 rfl) ?_
    refine lv_lconst (v := 0) hx hb dX8_playTurn_140 (by decide) ?_
    refine lv_iconst (v := 1) hx hb dX8_playTurn_141 (by decide) ?_
    refine k_X8_outage F hw hl hA0 hQ twm_RX8_348 (Nat.le_of_ble_eq_true rfl) (Nat.le_of_ble_eq_true rfl) (Nat.le_of_ble_eq_true rfl) dX8_playTurn_142 (show 0 + 0 ≤ 62 from by omega) (show 0 + 0 ≤ 310 from by omega) (fun r14 S13 H locs hQ hw hx1 => ?_)
    have hX := hX.trans hx1
    have hA0 := hA0.ext hx1
    refine lv_if_ne (tgt := 164) hx hb dX8_playTurn_145 (by decide) (fun hc => ?_) (fun hc => ?_)
    · have hQ := hQ.1 hc
      exact rt_v F hr hlk hw hX hQ (show (0 + 0) ≤ 62 from by omega) (show (0 + 0) ≤ 310 from by omega) dX8_playTurn_164
    · have hQ := hQ.2 hc
      refine lv_aload_n hx hb dX8_playTurn_148 rfl (lv_at hl 2 rfl) ?_
      refine lv_lconst (v := 0) hx hb dX8_playTurn_149 (by decide) ?_
      refine lv_iconst (v := 0) hx hb dX8_playTurn_150 (by decide) ?_
      refine k_X8_outage F hw hl hA0 hQ twm_RX8_348 (Nat.le_of_ble_eq_true rfl) (Nat.le_of_ble_eq_true rfl) (Nat.le_of_ble_eq_true rfl) dX8_playTurn_151 (show (0 + 0) + 0 ≤ 62 from by omega) (show (0 + 0) + 0 ≤ 310 from by omega) (fun r16 S15 H locs hQ hw hx1 => ?_)
      have hX := hX.trans hx1
      have hA0 := hA0.ext hx1
      refine lv_pop hx hb dX8_playTurn_154 rfl ?_
      refine lv_goto (tgt := 164) hx hb dX8_playTurn_155 (by decide) ?_
      exact rt_v F hr hlk hw hX hQ (show ((0 + 0) + 0) ≤ 62 from by omega) (show ((0 + 0) + 0) ≤ 310 from by omega) dX8_playTurn_164
theorem k_X8_playTurn {p : Program} {l : Launch} {e : Env} {R : Room} {s : State} {m : MethodId} {args : Array Value} {below : List Frame} {meth : Method} {c : Code} {H : Heap} {locs : List Loc} {cells slots : Nat} {Q : State → Prop} {cc : ByteArray} {pc nL : Nat} {ls : Array Slot} {rest : List Value} {G : GT} {S : St} {own : String} {p1 : Int64} {post : St → Prop} {lv : List (Nat × Value)} {idx : Nat} (F : CX p m c cc nL s args own) (hw : WW G S s H locs) (hl : lv_has ls nL lv) {a0 : Nat} (hA0 : AtO S 7 0 a0) (hQ : wp_X8_playTurn p1 S post) (h1 : Cond.methodLink own idx yX8_playTurn ∈ wT) (hR1 : 6 + 1 ≤ R.frames) (hR2 : 8 + (6 + 11) + 134 ≤ R.locals) (hrest : (rest.map fun v => v.category).sum ≤ 8) (hdg : decode cc pc = .ok (.invokevirtual idx, 3)) (hf1 : cells + 62 ≤ R.cells) (hf2 : slots + 310 ≤ R.slots)
    (kk : ∀ (S1 : St) (H1 : Heap) (locs1 : List Loc), post S1 → WW G S1 s H1 locs1 → Ext S S1 → W p l e R s m args below meth c H1 locs1 (cells + 62) (slots + 310) Q (F0 m (pc + 3) ls rest)) : W p l e R s m args below meth c H locs cells slots Q (F0 m pc ls (.long p1 :: .ref a0 :: rest)) :=
  cl_v (rn_V (n := 1) (As := [.long p1]) (q := (RX8, TX8, 11)) F hw hl (m_X8_playTurn l G p1 S a0 hA0 post hQ) 7 (by decide) (by decide) hA0 rfl rfl h1 twi_yX8_playTurn tws_yX8_playTurn twn_RX8 two_yX8_playTurn rfl rfl ⟨rfl, by decide, by decide, by decide +kernel⟩ rfl ⟨hR1, hR2⟩ rfl hrest hdg ⟨hf1, hf2⟩) hw kk
-- X8_soldCount
def bd_X8_soldCount_4 (post : Int32 → St → Prop) (K4 : Int32 → Int32 → St → Prop) (x2_4 : Int32) (x1_4 : Int32) (S1 : St) : Prop :=
  ((gi S1 7 0 6) ≤ x2_4 →
  post x1_4 S1) ∧
  (¬ (gi S1 7 0 6) ≤ x2_4 →
  wp_X8_lotAt x2_4 S1 (fun r3 S2 =>
  (r3 = none →
  ∀ v5 : Int32, v5 = x2_4 + (1 : Int32) →
  K4 v5 x1_4 S2) ∧
  (∀ j4 : Nat, r3 = some j4 →
  (¬ (gr S2 5 j4 4) = (some 3) →
  ∀ v7 : Int32, v7 = x2_4 + (1 : Int32) →
  K4 v7 x1_4 S2) ∧
  ((gr S2 5 j4 4) = (some 3) →
  ∀ v8 : Int32, v8 = x1_4 + (1 : Int32) →
  ∀ v9 : Int32, v9 = x2_4 + (1 : Int32) →
  K4 v9 v8 S2))))
def lp_X8_soldCount_4 (post : Int32 → St → Prop) : Nat → Int32 → Int32 → St → Prop
  | 0, _, _, _ => False
  | n + 1, x2_4, x1_4, S1 => bd_X8_soldCount_4 post (fun x2_4 x1_4 S1 => lp_X8_soldCount_4 post n x2_4 x1_4 S1) x2_4 x1_4 S1
def wp_X8_soldCount  (S0 : St) (post : Int32 → St → Prop) : Prop :=
  ∃ n : Nat, lp_X8_soldCount_4 post n (0 : Int32) (0 : Int32) S0
set_option maxRecDepth 100000 in
set_option maxHeartbeats 4000000 in
theorem m_X8_soldCount (l : Launch) (G : GT)  (S0 : St) (a0 : Nat) (hA0 : AtO S0 7 0 a0) (post : Int32 → St → Prop) (hQ : wp_X8_soldCount S0 post) : Met l yX8_soldCount (wM yX8_soldCount cX8_soldCount 4 (some (FieldType.int))) ({ frames := 1, cells := 0, slots := 0, locals := 21 } : Room) (PC G S0 [.ref a0]) (QI G S0 post) 0 0 (QA G) := by
  refine mt_start RX8 (by decide) rfl (Nat.le_of_ble_eq_true rfl) ?_
  intro p e s m args below meth c ls F hr hlk hnm hw hl
  have hx := F.1
  have hb := F.2.1
  have hown := F.2.2.2.1
  have hts := F.2.2.2.2
  have hX : Ext S0 S0 := Ext.rf
  have hsz0 := hw.1.1.1
  have hl : lv_has ls 4 [(0, .ref a0)] := hl
  unfold wp_X8_soldCount at hQ
  refine lv_iconst (v := 0) hx hb dX8_soldCount_0 (by decide) ?_
  refine lv_istore_n (lv' := [(1, .int (0 : Int32)), (0, .ref a0)]) hx hb dX8_soldCount_1 rfl hl (by decide) rfl (fun ls hl => ?_)
  refine lv_iconst (v := 0) hx hb dX8_soldCount_2 (by decide) ?_
  refine lv_istore_n (lv' := [(2, .int (0 : Int32)), (1, .int (0 : Int32)), (0, .ref a0)]) hx hb dX8_soldCount_3 rfl hl (by decide) rfl (fun ls hl => ?_)
  have hloop4 : ∀ (n4 : Nat) (x2_4 : Int32) (x1_4 : Int32) (S1 : St) (H : Heap) (locs : List Loc) (ls : Array Slot) (cl4 sl4 : Nat), lp_X8_soldCount_4 post n4 x2_4 x1_4 S1 → WW G S1 s H locs → Ext S0 S1 → AtO S1 7 0 a0 → lv_has ls 4 [(2, .int x2_4), (1, .int x1_4), (0, .ref a0)] → cl4 ≤ 0 + 0 → sl4 ≤ 0 + 0 → W p l e ({ frames := 1, cells := 0, slots := 0, locals := 21 } : Room) s m args below meth c H locs cl4 sl4 (MQ below (QI G S0 post) args s 0 0 (QA G)) (F0 m 4 ls []) := by
    intro n4
    induction n4 with
    | zero => intro x2_4 x1_4 S1 H locs ls cl sl hQ; exact False.elim hQ
    | succ n4 ih4 =>
      intro x2_4 x1_4 S1 H locs ls cl4 sl4 hQ hw hX hA0 hl hcl4 hsl4
      have hQ : bd_X8_soldCount_4 post (fun x2_4 x1_4 S1 => lp_X8_soldCount_4 post n4 x2_4 x1_4 S1) x2_4 x1_4 S1 := hQ
      unfold bd_X8_soldCount_4 at hQ
      refine lv_iload_n hx hb dX8_soldCount_4 rfl (lv_at hl 0 rfl) ?_
      refine lv_aload_n hx hb dX8_soldCount_5 rfl (lv_at hl 2 rfl) ?_
      refine g_7_6 F hw hA0 twf_RX8_115 dX8_soldCount_6 ?_
      refine lv_icmp_ge (tgt := 41) hx hb dX8_soldCount_9 (by decide) (fun hc => ?_) (fun hc => ?_)
      · have hQ := hQ.1 hc
        refine lv_iload_n hx hb dX8_soldCount_41 rfl (lv_at hl 1 rfl) ?_
        exact rt_i F hr hlk hw hX hQ (show cl4 ≤ 0 from by omega) (show sl4 ≤ 0 from by omega) dX8_soldCount_42
      · have hQ := hQ.2 hc
        refine lv_aload_n hx hb dX8_soldCount_12 rfl (lv_at hl 2 rfl) ?_
        refine lv_iload_n hx hb dX8_soldCount_13 rfl (lv_at hl 0 rfl) ?_
        refine k_X8_lotAt F hw hl hA0 hQ twm_RX8_69 (Nat.le_of_ble_eq_true rfl) (Nat.le_of_ble_eq_true rfl) (Nat.le_of_ble_eq_true rfl) dX8_soldCount_14 (show cl4 + 0 ≤ 0 from by omega) (show sl4 + 0 ≤ 0 from by omega) (fun S2 H locs hQ hw hx1 => ?_) (fun j4 a4 S2 H locs hQ hA4 hw hx1 => ?_)
        · have hQ := hQ.1 rfl
          have hX := hX.trans hx1
          have hA0 := hA0.ext hx1
          refine lv_astore_nN (lv' := [(3, .null), (2, .int x2_4), (1, .int x1_4), (0, .ref a0)]) hx hb dX8_soldCount_17 rfl hl (by decide) rfl (fun ls hl => ?_)
          refine lv_aload_nN hx hb dX8_soldCount_18 rfl (lv_at hl 0 rfl) ?_
          refine lv_ifnullN (tgt := 35) hx hb dX8_soldCount_19 (by decide) ?_
          obtain ⟨v5, ev5⟩ : ∃ y : Int32, y = x2_4 + (1 : Int32) := ⟨_, rfl⟩
          have hQ := hQ v5 ev5
          refine lv_iinc (v := v5) (lv' := [(2, .int v5), (3, .null), (1, .int x1_4), (0, .ref a0)]) hx hb dX8_soldCount_35 hl (k := 1) rfl (by rw [ev5]; rfl) (by decide) rfl (fun ls hl => ?_)
          refine lv_goto (tgt := 4) hx hb dX8_soldCount_38 (by decide) ?_
          exact ih4 v5 x1_4 S2 _ _ _ _ _ hQ hw hX hA0 (lv_sub hl [0, 2, 3] rfl) (by omega) (by omega)
        · have hQ := hQ.2 j4 rfl
          have hX := hX.trans hx1
          have hA0 := hA0.ext hx1
          refine lv_astore_n (lv' := [(3, .ref a4), (2, .int x2_4), (1, .int x1_4), (0, .ref a0)]) hx hb dX8_soldCount_17 rfl hl (by decide) rfl (fun ls hl => ?_)
          refine lv_aload_n hx hb dX8_soldCount_18 rfl (lv_at hl 0 rfl) ?_
          refine lv_ifnull hx hb dX8_soldCount_19 ?_
          refine lv_aload_n hx hb dX8_soldCount_22 rfl (lv_at hl 0 rfl) ?_
          have he6 := ww_es hw j4
          refine g_5_4 F hw hA4 twf_RX8_100 dX8_soldCount_23 ?_
          refine pw_gets F hw 3 (by decide) rfl twf_RX8_104 dX8_soldCount_26 ?_
          refine pw_acmp_ne (tgt := 35) F hw (by decide) he6 dX8_soldCount_29 (by decide) (fun hc => ?_) (fun hc => ?_)
          · have hQ := hQ.1 hc
            obtain ⟨v7, ev7⟩ : ∃ y : Int32, y = x2_4 + (1 : Int32) := ⟨_, rfl⟩
            have hQ := hQ v7 ev7
            refine lv_iinc (v := v7) (lv' := [(2, .int v7), (3, .ref a4), (1, .int x1_4), (0, .ref a0)]) hx hb dX8_soldCount_35 hl (k := 1) rfl (by rw [ev7]; rfl) (by decide) rfl (fun ls hl => ?_)
            refine lv_goto (tgt := 4) hx hb dX8_soldCount_38 (by decide) ?_
            exact ih4 v7 x1_4 S2 _ _ _ _ _ hQ hw hX hA0 (lv_sub hl [0, 2, 3] rfl) (by omega) (by omega)
          · have hQ := hQ.2 hc
            obtain ⟨v8, ev8⟩ : ∃ y : Int32, y = x1_4 + (1 : Int32) := ⟨_, rfl⟩
            have hQ := hQ v8 ev8
            refine lv_iinc (v := v8) (lv' := [(1, .int v8), (3, .ref a4), (2, .int x2_4), (0, .ref a0)]) hx hb dX8_soldCount_32 hl (k := 2) rfl (by rw [ev8]; rfl) (by decide) rfl (fun ls hl => ?_)
            obtain ⟨v9, ev9⟩ : ∃ y : Int32, y = x2_4 + (1 : Int32) := ⟨_, rfl⟩
            have hQ := hQ v9 ev9
            refine lv_iinc (v := v9) (lv' := [(2, .int v9), (1, .int v8), (3, .ref a4), (0, .ref a0)]) hx hb dX8_soldCount_35 hl (k := 2) rfl (by rw [ev9]; rfl) (by decide) rfl (fun ls hl => ?_)
            refine lv_goto (tgt := 4) hx hb dX8_soldCount_38 (by decide) ?_
            exact ih4 v9 v8 S2 _ _ _ _ _ hQ hw hX hA0 (lv_sub hl [0, 1, 3] rfl) (by omega) (by omega)
  obtain ⟨n, hQ⟩ := hQ
  exact hloop4 n (0 : Int32) (0 : Int32) S0 _ _ _ _ _ hQ hw hX hA0 (lv_sub hl [0, 1, 2] rfl) (by omega) (by omega)
theorem k_X8_soldCount {p : Program} {l : Launch} {e : Env} {R : Room} {s : State} {m : MethodId} {args : Array Value} {below : List Frame} {meth : Method} {c : Code} {H : Heap} {locs : List Loc} {cells slots : Nat} {Q : State → Prop} {cc : ByteArray} {pc nL : Nat} {ls : Array Slot} {rest : List Value} {G : GT} {S : St} {own : String}  {post : Int32 → St → Prop} {lv : List (Nat × Value)} {idx : Nat} (F : CX p m c cc nL s args own) (hw : WW G S s H locs) (hl : lv_has ls nL lv) {a0 : Nat} (hA0 : AtO S 7 0 a0) (hQ : wp_X8_soldCount S post) (h1 : Cond.methodLink own idx yX8_soldCount ∈ wT) (hR1 : 1 + 1 ≤ R.frames) (hR2 : 8 + (4 + 11) + 21 ≤ R.locals) (hrest : (rest.map fun v => v.category).sum ≤ 8) (hdg : decode cc pc = .ok (.invokevirtual idx, 3)) (hf1 : cells + 0 ≤ R.cells) (hf2 : slots + 0 ≤ R.slots)
    (kk : ∀ (r : Int32) (S1 : St) (H1 : Heap) (locs1 : List Loc), post r S1 → WW G S1 s H1 locs1 → Ext S S1 → W p l e R s m args below meth c H1 locs1 (cells + 0) (slots + 0) Q (F0 m (pc + 3) ls (.int r :: rest))) : W p l e R s m args below meth c H locs cells slots Q (F0 m pc ls (.ref a0 :: rest)) :=
  cl_i (rn_V (n := 0) (As := []) (q := (RX8, TX8, 11)) F hw hl (m_X8_soldCount l G  S a0 hA0 post hQ) 7 (by decide) (by decide) hA0 rfl rfl h1 twi_yX8_soldCount tws_yX8_soldCount twn_RX8 two_yX8_soldCount rfl rfl ⟨rfl, by decide, by decide, by decide +kernel⟩ rfl ⟨hR1, hR2⟩ rfl hrest hdg ⟨hf1, hf2⟩) hw kk

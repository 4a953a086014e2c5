def wp_X5_hasTaker (j0 : Nat) (S0 : St) (post : Int32 → St → Prop) : Prop :=
  ((gr S0 5 j0 4) = (some 3) →
  post (1 : Int32) S0) ∧
  (¬ (gr S0 5 j0 4) = (some 3) →
  (¬ (gr S0 5 j0 4) = (some 2) →
  post (0 : Int32) S0) ∧
  ((gr S0 5 j0 4) = (some 2) →
  post (1 : Int32) S0))
set_option maxRecDepth 100000 in
set_option maxHeartbeats 4000000 in
theorem m_X5_hasTaker (l : Launch) (G : GT) (j0 : Nat) (S0 : St) (a0 : Nat) (hA0 : AtO S0 5 j0 a0) (post : Int32 → St → Prop) (hQ : wp_X5_hasTaker j0 S0 post) : Met l yX5_hasTaker (wM yX5_hasTaker cX5_hasTaker 1 (some (FieldType.boolean))) ({ frames := 0, cells := 0, slots := 0, locals := 0 } : Room) (PC G S0 [.ref a0]) (QI G S0 post) 0 0 (QA G) := by
  refine mt_start RX5 (by decide) rfl (Nat.le_of_ble_eq_true rfl) ?_
  intro p e s m args below meth c ls F hr hlk hnm hw hl
  have hx := F.1
  have hb := F.2.1
  have hown := F.2.2.2.1
  have hts := F.2.2.2.2
  have hX : Ext S0 S0 := Ext.rf
  have hsz0 := hw.1.1.1
  have hl : lv_has ls 1 [(0, .ref a0)] := hl
  unfold wp_X5_hasTaker at hQ
  refine lv_aload_n hx hb dX5_hasTaker_0 rfl (lv_at hl 0 rfl) ?_
  have he1 := ww_es hw j0
  refine g_5_4 F hw hA0 twf_RX5_31 dX5_hasTaker_1 ?_
  refine pw_gets F hw 3 (by decide) rfl twf_RX5_37 dX5_hasTaker_4 ?_
  refine pw_acmp_eq (tgt := 20) F hw (by decide) he1 dX5_hasTaker_7 (by decide) (fun hc => ?_) (fun hc => ?_)
  · have hQ := hQ.1 hc
    refine lv_iconst (v := 1) hx hb dX5_hasTaker_20 (by decide) ?_
    refine lv_goto (tgt := 25) hx hb dX5_hasTaker_21 (by decide) ?_
    exact rt_z F hr hlk hw hX hQ rfl (show 0 ≤ 0 from by omega) (show 0 ≤ 0 from by omega) dX5_hasTaker_25
  · have hQ := hQ.2 hc
    refine lv_aload_n hx hb dX5_hasTaker_10 rfl (lv_at hl 0 rfl) ?_
    have he2 := ww_es hw j0
    refine g_5_4 F hw hA0 twf_RX5_31 dX5_hasTaker_11 ?_
    refine pw_gets F hw 2 (by decide) rfl twf_RX5_40 dX5_hasTaker_14 ?_
    refine pw_acmp_ne (tgt := 24) F hw (by decide) he2 dX5_hasTaker_17 (by decide) (fun hc => ?_) (fun hc => ?_)
    · have hQ := hQ.1 hc
      refine lv_iconst (v := 0) hx hb dX5_hasTaker_24 (by decide) ?_
      exact rt_z F hr hlk hw hX hQ rfl (show 0 ≤ 0 from by omega) (show 0 ≤ 0 from by omega) dX5_hasTaker_25
    · have hQ := hQ.2 hc
      refine lv_iconst (v := 1) hx hb dX5_hasTaker_20 (by decide) ?_
      refine lv_goto (tgt := 25) hx hb dX5_hasTaker_21 (by decide) ?_
      exact rt_z F hr hlk hw hX hQ rfl (show 0 ≤ 0 from by omega) (show 0 ≤ 0 from by omega) dX5_hasTaker_25
theorem k_X5_hasTaker {p : Program} {l : Launch} {e : Env} {R : Room} {s : State} {m : MethodId} {args : Array Value} {below : List Frame} {meth : Method} {c : Code} {H : Heap} {locs : List Loc} {cells slots : Nat} {Q : State → Prop} {cc : ByteArray} {pc nL : Nat} {ls : Array Slot} {rest : List Value} {G : GT} {S : St} {own : String} {j0 : Nat} {post : Int32 → St → Prop} {lv : List (Nat × Value)} {idx : Nat} (F : CX p m c cc nL s args own) (hw : WW G S s H locs) (hl : lv_has ls nL lv) {a0 : Nat} (hA0 : AtO S 5 j0 a0) (hQ : wp_X5_hasTaker j0 S post) (h1 : Cond.methodLink own idx yX5_hasTaker ∈ wT) (hR1 : 0 + 1 ≤ R.frames) (hR2 : 8 + (1 + 11) + 0 ≤ R.locals) (hrest : (rest.map fun v => v.category).sum ≤ 8) (hdg : decode cc pc = .ok (.invokevirtual idx, 3)) (hf1 : cells + 0 ≤ R.cells) (hf2 : slots + 0 ≤ R.slots)
    (kk : ∀ (r : Int32) (S1 : St) (H1 : Heap) (locs1 : List Loc), post r S1 → WW G S1 s H1 locs1 → Ext S S1 → W p l e R s m args below meth c H1 locs1 (cells + 0) (slots + 0) Q (F0 m (pc + 3) ls (.int r :: rest))) : W p l e R s m args below meth c H locs cells slots Q (F0 m pc ls (.ref a0 :: rest)) :=
  cl_i (rn_V (n := 0) (As := []) (q := (RX5, TX5, 12)) F hw hl (m_X5_hasTaker l G j0 S a0 hA0 post hQ) 5 (by decide) (by decide) hA0 rfl rfl h1 twi_yX5_hasTaker tws_yX5_hasTaker twn_RX5 two_yX5_hasTaker rfl rfl ⟨rfl, by decide, by decide, by decide +kernel⟩ rfl ⟨hR1, hR2⟩ rfl hrest hdg ⟨hf1, hf2⟩) hw kk

def wp_X8_isWithin (p1 : Int64) (p2 : Int64) (p3 : Int64) (S0 : St) (post : Int32 → St → Prop) : Prop :=
  (p1 < p2 →
  post (0 : Int32) S0) ∧
  (¬ p1 < p2 →
  (p3 < p1 →
  post (0 : Int32) S0) ∧
  (¬ p3 < p1 →
  post (1 : Int32) S0))
set_option maxRecDepth 100000 in
set_option maxHeartbeats 4000000 in
theorem m_X8_isWithin (l : Launch) (G : GT) (p1 : Int64) (p2 : Int64) (p3 : Int64) (S0 : St)  (post : Int32 → St → Prop) (hQ : wp_X8_isWithin p1 p2 p3 S0 post) : Met l yX8_isWithin (wM yX8_isWithin cX8_isWithin 6 (some (FieldType.boolean))) ({ frames := 0, cells := 0, slots := 0, locals := 0 } : Room) (PC G S0 [.long p1, .long p2, .long p3]) (QI G S0 post) 0 0 (QA G) := by
  refine mt_start RX8 (by decide) rfl (Nat.le_of_ble_eq_true rfl) ?_
  intro p e s m args below meth c ls F hr hlk hnm hw hl
  have hx := F.1
  have hb := F.2.1
  have hown := F.2.2.2.1
  have hts := F.2.2.2.2
  have hX : Ext S0 S0 := Ext.rf
  have hsz0 := hw.1.1.1
  have hl : lv_has ls 6 [(0, .long p1), (2, .long p2), (4, .long p3)] := hl
  unfold wp_X8_isWithin at hQ
  refine lv_lload_n hx hb dX8_isWithin_0 rfl (lv_at hl 0 rfl) ?_
  refine lv_lload_n hx hb dX8_isWithin_1 rfl (lv_at hl 1 rfl) ?_
  refine lc_lt (tgt := 17) F dX8_isWithin_2 dX8_isWithin_3 (by decide) (fun hc => ?_) (fun hc => ?_)
  · have hQ := hQ.1 hc
    refine lv_iconst (v := 0) hx hb dX8_isWithin_17 (by decide) ?_
    exact rt_z F hr hlk hw hX hQ rfl (show 0 ≤ 0 from by omega) (show 0 ≤ 0 from by omega) dX8_isWithin_18
  · have hQ := hQ.2 hc
    refine lv_lload_n hx hb dX8_isWithin_6 rfl (lv_at hl 0 rfl) ?_
    refine lv_lload hx hb dX8_isWithin_7 (lv_at hl 2 rfl) ?_
    refine lc_gt (tgt := 17) F dX8_isWithin_9 dX8_isWithin_10 (by decide) (fun hc => ?_) (fun hc => ?_)
    · have hQ := hQ.1 hc
      refine lv_iconst (v := 0) hx hb dX8_isWithin_17 (by decide) ?_
      exact rt_z F hr hlk hw hX hQ rfl (show 0 ≤ 0 from by omega) (show 0 ≤ 0 from by omega) dX8_isWithin_18
    · have hQ := hQ.2 hc
      refine lv_iconst (v := 1) hx hb dX8_isWithin_13 (by decide) ?_
      refine lv_goto (tgt := 18) hx hb dX8_isWithin_14 (by decide) ?_
      exact rt_z F hr hlk hw hX hQ rfl (show 0 ≤ 0 from by omega) (show 0 ≤ 0 from by omega) dX8_isWithin_18
theorem k_X8_isWithin {p : Program} {l : Launch} {e : Env} {R : Room} {s : State} {m : MethodId} {args : Array Value} {below : List Frame} {meth : Method} {c : Code} {H : Heap} {locs : List Loc} {cells slots : Nat} {Q : State → Prop} {cc : ByteArray} {pc nL : Nat} {ls : Array Slot} {rest : List Value} {G : GT} {S : St} {own : String} {p1 : Int64} {p2 : Int64} {p3 : Int64} {post : Int32 → St → Prop} {lv : List (Nat × Value)} {idx : Nat} (F : CX p m c cc nL s args own) (hw : WW G S s H locs) (hl : lv_has ls nL lv)  (hQ : wp_X8_isWithin p1 p2 p3 S post) (h1 : Cond.methodLink own idx yX8_isWithin ∈ wT) (hR1 : 0 + 1 ≤ R.frames) (hR2 : 8 + (6 + 11) + 0 ≤ R.locals) (hrest : (rest.map fun v => v.category).sum ≤ 8) (hdg : decode cc pc = .ok (.invokestatic idx, 3)) (hf1 : cells + 0 ≤ R.cells) (hf2 : slots + 0 ≤ R.slots)
    (kk : ∀ (r : Int32) (S1 : St) (H1 : Heap) (locs1 : List Loc), post r S1 → WW G S1 s H1 locs1 → Ext S S1 → W p l e R s m args below meth c H1 locs1 (cells + 0) (slots + 0) Q (F0 m (pc + 3) ls (.int r :: rest))) : W p l e R s m args below meth c H locs cells slots Q (F0 m pc ls (.long p3 :: .long p2 :: .long p1 :: rest)) :=
  cl_i (rn_S (n := 3) (As := [.long p1, .long p2, .long p3]) F hw hl (m_X8_isWithin l G p1 p2 p3 S  post hQ) h1 twi_yX8_isWithin twn_RX8 two_yX8_isWithin rfl rfl ⟨by decide, by decide, by decide +kernel⟩ rfl ⟨hR1, hR2⟩ rfl hrest hdg ⟨hf1, hf2⟩) hw kk

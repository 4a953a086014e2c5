-- X9_held
def wp_X9_held (p1 : Int32) (S0 : St) (post : Int64 → St → Prop) : Prop :=
  wp_X9_isBuyer p1 S0 (fun r2 S1 =>
  (r2 = 0 →
  post (-1 : Int64) S1) ∧
  (¬ r2 = 0 →
  wp_X9_heldBy p1 S1 (fun r4 S3 =>
  post r4 S3)))
set_option maxRecDepth 100000 in
set_option maxHeartbeats 4000000 in
theorem m_X9_held (l : Launch) (G : GT) (p1 : Int32) (S0 : St) (a0 : Nat) (hA0 : AtO S0 8 0 a0) (post : Int64 → St → Prop) (hQ : wp_X9_held p1 S0 post) : Met l yX9_held (wM yX9_held cX9_held 2 (some (FieldType.long))) ({ frames := 1, cells := 0, slots := 0, locals := 24 } : Room) (PC G S0 [.ref a0, .int p1]) (QJ G S0 post) 0 0 (QA G) := by
  refine mt_start RX9 (by decide) rfl (Nat.le_of_ble_eq_true rfl) ?_
  intro p e s m args below meth c ls F hr hlk hnm hw hl
  have hx := F.1
  have hb := F.2.1
  have hown := F.2.2.2.1
  have hts := F.2.2.2.2
  have hX : Ext S0 S0 := Ext.rf
  have hsz0 := hw.1.1.1
  have hl : lv_has ls 2 [(0, .ref a0), (1, .int p1)] := hl
  unfold wp_X9_held at hQ
  refine lv_aload_n hx hb dX9_held_0 rfl (lv_at hl 0 rfl) ?_
  refine lv_iload_n hx hb dX9_held_1 rfl (lv_at hl 1 rfl) ?_
  refine k_X9_isBuyer F hw hl hA0 hQ twm_RX9_150 (Nat.le_of_ble_eq_true rfl) (Nat.le_of_ble_eq_true rfl) (Nat.le_of_ble_eq_true rfl) dX9_held_2 (show 0 + 0 ≤ 0 from by omega) (show 0 + 0 ≤ 0 from by omega) (fun r2 S1 H locs hQ hw hx1 => ?_)
  have hX := hX.trans hx1
  have hA0 := hA0.ext hx1
  refine lv_if_eq (tgt := 16) hx hb dX9_held_5 (by decide) (fun hc => ?_) (fun hc => ?_)
  · have hQ := hQ.1 hc
    refine lv_ldc2 (v := -1) hx hb hown (hts _ twl_RX9_117) dX9_held_16 ?_
    exact rt_l F hr hlk hw hX hQ (show (0 + 0) ≤ 0 from by omega) (show (0 + 0) ≤ 0 from by omega) dX9_held_19
  · have hQ := hQ.2 hc
    refine lv_aload_n hx hb dX9_held_8 rfl (lv_at hl 0 rfl) ?_
    refine lv_iload_n hx hb dX9_held_9 rfl (lv_at hl 1 rfl) ?_
    refine k_X9_heldBy F hw hl hA0 hQ twm_RX9_105 (Nat.le_of_ble_eq_true rfl) (Nat.le_of_ble_eq_true rfl) (Nat.le_of_ble_eq_true rfl) dX9_held_10 (show (0 + 0) + 0 ≤ 0 from by omega) (show (0 + 0) + 0 ≤ 0 from by omega) (fun r4 S3 H locs hQ hw hx1 => ?_)
    have hX := hX.trans hx1
    have hA0 := hA0.ext hx1
    refine lv_goto (tgt := 19) hx hb dX9_held_13 (by decide) ?_
    exact rt_l F hr hlk hw hX hQ (show ((0 + 0) + 0) ≤ 0 from by omega) (show ((0 + 0) + 0) ≤ 0 from by omega) dX9_held_19
theorem k_X9_held {p : Program} {l : Launch} {e : Env} {R : Room} {s : State} {m : MethodId} {args : Array Value} {below : List Frame} {meth : Method} {c : Code} {H : Heap} {locs : List Loc} {cells slots : Nat} {Q : State → Prop} {cc : ByteArray} {pc nL : Nat} {ls : Array Slot} {rest : List Value} {G : GT} {S : St} {own : String} {p1 : Int32} {post : Int64 → St → Prop} {lv : List (Nat × Value)} {idx : Nat} (F : CX p m c cc nL s args own) (hw : WW G S s H locs) (hl : lv_has ls nL lv) {a0 : Nat} (hA0 : AtO S 8 0 a0) (hQ : wp_X9_held p1 S post) (h1 : Cond.methodLink own idx yX9_held ∈ wT) (hR1 : 1 + 1 ≤ R.frames) (hR2 : 8 + (2 + 11) + 24 ≤ R.locals) (hrest : (rest.map fun v => v.category).sum ≤ 8) (hdg : decode cc pc = .ok (.invokevirtual idx, 3)) (hf1 : cells + 0 ≤ R.cells) (hf2 : slots + 0 ≤ R.slots)
    (kk : ∀ (r : Int64) (S1 : St) (H1 : Heap) (locs1 : List Loc), post r S1 → WW G S1 s H1 locs1 → Ext S S1 → W p l e R s m args below meth c H1 locs1 (cells + 0) (slots + 0) Q (F0 m (pc + 3) ls (.long r :: rest))) : W p l e R s m args below meth c H locs cells slots Q (F0 m pc ls (.int p1 :: .ref a0 :: rest)) :=
  cl_l (rn_V (n := 1) (As := [.int p1]) (q := (RX9, TX9, 36)) F hw hl (m_X9_held l G p1 S a0 hA0 post hQ) 8 (by decide) (by decide) hA0 rfl rfl h1 twi_yX9_held tws_yX9_held twn_RX9 two_yX9_held rfl rfl ⟨rfl, by decide, by decide, by decide +kernel⟩ rfl ⟨hR1, hR2⟩ rfl hrest hdg ⟨hf1, hf2⟩) hw kk

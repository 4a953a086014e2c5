def bd_L_law_18 (L : Nat) (xs : Nat → Int32) (K18 : Int32 → St → Prop) (x3_18 : Int32) (S1 : St) : Prop :=
  (((Int32.ofNat L) - (6 : Int32)) < x3_18 →
  True) ∧
  (¬ ((Int32.ofNat L) - (6 : Int32)) < x3_18 →
  vp_in x3_18 L ∧
  (((xs x3_18.toNatClampNeg) &&& (31 : Int32)).toInt < 0 ∨ 27 < ((xs x3_18.toNatClampNeg) &&& (31 : Int32)).toInt →
  ∀ v11 : Int32, v11 = x3_18 + (6 : Int32) →
  K18 v11 S1) ∧
  (((xs x3_18.toNatClampNeg) &&& (31 : Int32)).toInt = 0 →
  vp_in (x3_18 + (1 : Int32)) L ∧
  vp_in (x3_18 + (2 : Int32)) L ∧
  vp_in (x3_18 + (3 : Int32)) L ∧
  vp_in (x3_18 + (4 : Int32)) L ∧
  vp_in (x3_18 + (5 : Int32)) L ∧
  wp_X8_lot (xs (x3_18 + (1 : Int32)).toNatClampNeg) ((((xs (x3_18 + (2 : Int32)).toNatClampNeg).toInt64) <<< ((32 : Int32).toInt64 &&& 63)) ||| (((xs (x3_18 + (3 : Int32)).toNatClampNeg).toInt64) &&& (4294967295 : Int64))) ((((xs (x3_18 + (4 : Int32)).toNatClampNeg).toInt64) <<< ((32 : Int32).toInt64 &&& 63)) ||| (((xs (x3_18 + (5 : Int32)).toNatClampNeg).toInt64) &&& (4294967295 : Int64))) S1 (fun r13 S12 =>
  vp_in (x3_18 + (1 : Int32)) L ∧
  vp_in (x3_18 + (2 : Int32)) L ∧
  vp_in (x3_18 + (3 : Int32)) L ∧
  vp_in (x3_18 + (4 : Int32)) L ∧
  vp_in (x3_18 + (5 : Int32)) L ∧
  wp_X9_lot (xs (x3_18 + (1 : Int32)).toNatClampNeg) ((((xs (x3_18 + (2 : Int32)).toNatClampNeg).toInt64) <<< ((32 : Int32).toInt64 &&& 63)) ||| (((xs (x3_18 + (3 : Int32)).toNatClampNeg).toInt64) &&& (4294967295 : Int64))) ((((xs (x3_18 + (4 : Int32)).toNatClampNeg).toInt64) <<< ((32 : Int32).toInt64 &&& 63)) ||| (((xs (x3_18 + (5 : Int32)).toNatClampNeg).toInt64) &&& (4294967295 : Int64))) S12 (fun r15 S14 =>
  (r13 = r15 →
  ∀ v16 : Int32, v16 = x3_18 + (6 : Int32) →
  K18 v16 S14) ∧
  (¬ r13 = r15 →
  False)))) ∧
  (((xs x3_18.toNatClampNeg) &&& (31 : Int32)).toInt = 1 →
  vp_in (x3_18 + (1 : Int32)) L ∧
  vp_in (x3_18 + (2 : Int32)) L ∧
  wp_X8_buyer ((((xs (x3_18 + (1 : Int32)).toNatClampNeg).toInt64) <<< ((32 : Int32).toInt64 &&& 63)) ||| (((xs (x3_18 + (2 : Int32)).toNatClampNeg).toInt64) &&& (4294967295 : Int64))) S1 (fun r18 S17 =>
  vp_in (x3_18 + (1 : Int32)) L ∧
  vp_in (x3_18 + (2 : Int32)) L ∧
  wp_X9_buyer ((((xs (x3_18 + (1 : Int32)).toNatClampNeg).toInt64) <<< ((32 : Int32).toInt64 &&& 63)) ||| (((xs (x3_18 + (2 : Int32)).toNatClampNeg).toInt64) &&& (4294967295 : Int64))) S17 (fun r20 S19 =>
  (r18 = r20 →
  ∀ v21 : Int32, v21 = x3_18 + (6 : Int32) →
  K18 v21 S19) ∧
  (¬ r18 = r20 →
  False)))) ∧
  (((xs x3_18.toNatClampNeg) &&& (31 : Int32)).toInt = 2 →
  vp_in (x3_18 + (1 : Int32)) L ∧
  vp_in (x3_18 + (2 : Int32)) L ∧
  vp_in (x3_18 + (3 : Int32)) L ∧
  vp_in (x3_18 + (4 : Int32)) L ∧
  vp_in (x3_18 + (5 : Int32)) L ∧
  wp_X8_start (xs (x3_18 + (1 : Int32)).toNatClampNeg) ((((xs (x3_18 + (2 : Int32)).toNatClampNeg).toInt64) <<< ((32 : Int32).toInt64 &&& 63)) ||| (((xs (x3_18 + (3 : Int32)).toNatClampNeg).toInt64) &&& (4294967295 : Int64))) ((((xs (x3_18 + (4 : Int32)).toNatClampNeg).toInt64) <<< ((32 : Int32).toInt64 &&& 63)) ||| (((xs (x3_18 + (5 : Int32)).toNatClampNeg).toInt64) &&& (4294967295 : Int64))) S1 (fun r23 S22 =>
  vp_in (x3_18 + (1 : Int32)) L ∧
  vp_in (x3_18 + (2 : Int32)) L ∧
  vp_in (x3_18 + (3 : Int32)) L ∧
  vp_in (x3_18 + (4 : Int32)) L ∧
  vp_in (x3_18 + (5 : Int32)) L ∧
  wp_X9_start (xs (x3_18 + (1 : Int32)).toNatClampNeg) ((((xs (x3_18 + (2 : Int32)).toNatClampNeg).toInt64) <<< ((32 : Int32).toInt64 &&& 63)) ||| (((xs (x3_18 + (3 : Int32)).toNatClampNeg).toInt64) &&& (4294967295 : Int64))) ((((xs (x3_18 + (4 : Int32)).toNatClampNeg).toInt64) <<< ((32 : Int32).toInt64 &&& 63)) ||| (((xs (x3_18 + (5 : Int32)).toNatClampNeg).toInt64) &&& (4294967295 : Int64))) S22 (fun r25 S24 =>
  (r23 = r25 →
  ∀ v26 : Int32, v26 = x3_18 + (6 : Int32) →
  K18 v26 S24) ∧
  (¬ r23 = r25 →
  False)))) ∧
  (((xs x3_18.toNatClampNeg) &&& (31 : Int32)).toInt = 3 →
  vp_in (x3_18 + (1 : Int32)) L ∧
  vp_in (x3_18 + (2 : Int32)) L ∧
  vp_in (x3_18 + (3 : Int32)) L ∧
  wp_X8_press (xs (x3_18 + (1 : Int32)).toNatClampNeg) ((((xs (x3_18 + (2 : Int32)).toNatClampNeg).toInt64) <<< ((32 : Int32).toInt64 &&& 63)) ||| (((xs (x3_18 + (3 : Int32)).toNatClampNeg).toInt64) &&& (4294967295 : Int64))) S1 (fun r28 S27 =>
  vp_in (x3_18 + (1 : Int32)) L ∧
  vp_in (x3_18 + (2 : Int32)) L ∧
  vp_in (x3_18 + (3 : Int32)) L ∧
  wp_X9_press (xs (x3_18 + (1 : Int32)).toNatClampNeg) ((((xs (x3_18 + (2 : Int32)).toNatClampNeg).toInt64) <<< ((32 : Int32).toInt64 &&& 63)) ||| (((xs (x3_18 + (3 : Int32)).toNatClampNeg).toInt64) &&& (4294967295 : Int64))) S27 (fun r30 S29 =>
  (r28 = r30 →
  ∀ v31 : Int32, v31 = x3_18 + (6 : Int32) →
  K18 v31 S29) ∧
  (¬ r28 = r30 →
  False)))) ∧
  (((xs x3_18.toNatClampNeg) &&& (31 : Int32)).toInt = 4 →
  vp_in (x3_18 + (1 : Int32)) L ∧
  vp_in (x3_18 + (2 : Int32)) L ∧
  vp_in (x3_18 + (3 : Int32)) L ∧
  wp_X8_delay (xs (x3_18 + (1 : Int32)).toNatClampNeg) ((((xs (x3_18 + (2 : Int32)).toNatClampNeg).toInt64) <<< ((32 : Int32).toInt64 &&& 63)) ||| (((xs (x3_18 + (3 : Int32)).toNatClampNeg).toInt64) &&& (4294967295 : Int64))) S1 (fun r33 S32 =>
  vp_in (x3_18 + (1 : Int32)) L ∧
  vp_in (x3_18 + (2 : Int32)) L ∧
  vp_in (x3_18 + (3 : Int32)) L ∧
  wp_X9_delay (xs (x3_18 + (1 : Int32)).toNatClampNeg) ((((xs (x3_18 + (2 : Int32)).toNatClampNeg).toInt64) <<< ((32 : Int32).toInt64 &&& 63)) ||| (((xs (x3_18 + (3 : Int32)).toNatClampNeg).toInt64) &&& (4294967295 : Int64))) S32 (fun r35 S34 =>
  (r33 = r35 →
  ∀ v36 : Int32, v36 = x3_18 + (6 : Int32) →
  K18 v36 S34) ∧
  (¬ r33 = r35 →
  False)))) ∧
  (((xs x3_18.toNatClampNeg) &&& (31 : Int32)).toInt = 5 →
  vp_in (x3_18 + (1 : Int32)) L ∧
  vp_in (x3_18 + (2 : Int32)) L ∧
  wp_X8_tick ((((xs (x3_18 + (1 : Int32)).toNatClampNeg).toInt64) <<< ((32 : Int32).toInt64 &&& 63)) ||| (((xs (x3_18 + (2 : Int32)).toNatClampNeg).toInt64) &&& (4294967295 : Int64))) S1 (fun r38 S37 =>
  vp_in (x3_18 + (1 : Int32)) L ∧
  vp_in (x3_18 + (2 : Int32)) L ∧
  wp_X9_tick ((((xs (x3_18 + (1 : Int32)).toNatClampNeg).toInt64) <<< ((32 : Int32).toInt64 &&& 63)) ||| (((xs (x3_18 + (2 : Int32)).toNatClampNeg).toInt64) &&& (4294967295 : Int64))) S37 (fun r40 S39 =>
  (r38 = r40 →
  ∀ v41 : Int32, v41 = x3_18 + (6 : Int32) →
  K18 v41 S39) ∧
  (¬ r38 = r40 →
  False)))) ∧
  (((xs x3_18.toNatClampNeg) &&& (31 : Int32)).toInt = 6 →
  vp_in (x3_18 + (1 : Int32)) L ∧
  wp_X8_winner (xs (x3_18 + (1 : Int32)).toNatClampNeg) S1 (fun r43 S42 =>
  vp_in (x3_18 + (1 : Int32)) L ∧
  wp_X9_winner (xs (x3_18 + (1 : Int32)).toNatClampNeg) S42 (fun r45 S44 =>
  (r43 = r45 →
  ∀ v46 : Int32, v46 = x3_18 + (6 : Int32) →
  K18 v46 S44) ∧
  (¬ r43 = r45 →
  False)))) ∧
  (((xs x3_18.toNatClampNeg) &&& (31 : Int32)).toInt = 7 →
  vp_in (x3_18 + (1 : Int32)) L ∧
  wp_X8_price (xs (x3_18 + (1 : Int32)).toNatClampNeg) S1 (fun r48 S47 =>
  vp_in (x3_18 + (1 : Int32)) L ∧
  wp_X9_price (xs (x3_18 + (1 : Int32)).toNatClampNeg) S47 (fun r50 S49 =>
  (r48 = r50 →
  ∀ v51 : Int32, v51 = x3_18 + (6 : Int32) →
  K18 v51 S49) ∧
  (¬ r48 = r50 →
  False)))) ∧
  (((xs x3_18.toNatClampNeg) &&& (31 : Int32)).toInt = 8 →
  vp_in (x3_18 + (1 : Int32)) L ∧
  vp_in (x3_18 + (2 : Int32)) L ∧
  vp_in (x3_18 + (3 : Int32)) L ∧
  wp_X8_part (xs (x3_18 + (1 : Int32)).toNatClampNeg) ((((xs (x3_18 + (2 : Int32)).toNatClampNeg).toInt64) <<< ((32 : Int32).toInt64 &&& 63)) ||| (((xs (x3_18 + (3 : Int32)).toNatClampNeg).toInt64) &&& (4294967295 : Int64))) S1 (fun r53 S52 =>
  vp_in (x3_18 + (1 : Int32)) L ∧
  vp_in (x3_18 + (2 : Int32)) L ∧
  vp_in (x3_18 + (3 : Int32)) L ∧
  wp_X9_part (xs (x3_18 + (1 : Int32)).toNatClampNeg) ((((xs (x3_18 + (2 : Int32)).toNatClampNeg).toInt64) <<< ((32 : Int32).toInt64 &&& 63)) ||| (((xs (x3_18 + (3 : Int32)).toNatClampNeg).toInt64) &&& (4294967295 : Int64))) S52 (fun r55 S54 =>
  (r53 = r55 →
  ∀ v56 : Int32, v56 = x3_18 + (6 : Int32) →
  K18 v56 S54) ∧
  (¬ r53 = r55 →
  False)))) ∧
  (((xs x3_18.toNatClampNeg) &&& (31 : Int32)).toInt = 9 →
  vp_in (x3_18 + (1 : Int32)) L ∧
  wp_X8_left (xs (x3_18 + (1 : Int32)).toNatClampNeg) S1 (fun r58 S57 =>
  vp_in (x3_18 + (1 : Int32)) L ∧
  wp_X9_left (xs (x3_18 + (1 : Int32)).toNatClampNeg) S57 (fun r60 S59 =>
  (r58 = r60 →
  ∀ v61 : Int32, v61 = x3_18 + (6 : Int32) →
  K18 v61 S59) ∧
  (¬ r58 = r60 →
  False)))) ∧
  (((xs x3_18.toNatClampNeg) &&& (31 : Int32)).toInt = 10 →
  vp_in (x3_18 + (1 : Int32)) L ∧
  vp_in (x3_18 + (2 : Int32)) L ∧
  vp_in (x3_18 + (3 : Int32)) L ∧
  ((xs (x3_18 + (3 : Int32)).toNatClampNeg) = 0 →
  wp_X8_outage ((((xs (x3_18 + (1 : Int32)).toNatClampNeg).toInt64) <<< ((32 : Int32).toInt64 &&& 63)) ||| (((xs (x3_18 + (2 : Int32)).toNatClampNeg).toInt64) &&& (4294967295 : Int64))) (0 : Int32) S1 (fun r63 S62 =>
  vp_in (x3_18 + (1 : Int32)) L ∧
  vp_in (x3_18 + (2 : Int32)) L ∧
  vp_in (x3_18 + (3 : Int32)) L ∧
  ((xs (x3_18 + (3 : Int32)).toNatClampNeg) = 0 →
  wp_X9_outage ((((xs (x3_18 + (1 : Int32)).toNatClampNeg).toInt64) <<< ((32 : Int32).toInt64 &&& 63)) ||| (((xs (x3_18 + (2 : Int32)).toNatClampNeg).toInt64) &&& (4294967295 : Int64))) (0 : Int32) S62 (fun r65 S64 =>
  (r63 = r65 →
  ∀ v66 : Int32, v66 = x3_18 + (6 : Int32) →
  K18 v66 S64) ∧
  (¬ r63 = r65 →
  False))) ∧
  (¬ (xs (x3_18 + (3 : Int32)).toNatClampNeg) = 0 →
  wp_X9_outage ((((xs (x3_18 + (1 : Int32)).toNatClampNeg).toInt64) <<< ((32 : Int32).toInt64 &&& 63)) ||| (((xs (x3_18 + (2 : Int32)).toNatClampNeg).toInt64) &&& (4294967295 : Int64))) (1 : Int32) S62 (fun r68 S67 =>
  (r63 = r68 →
  ∀ v69 : Int32, v69 = x3_18 + (6 : Int32) →
  K18 v69 S67) ∧
  (¬ r63 = r68 →
  False))))) ∧
  (¬ (xs (x3_18 + (3 : Int32)).toNatClampNeg) = 0 →
  wp_X8_outage ((((xs (x3_18 + (1 : Int32)).toNatClampNeg).toInt64) <<< ((32 : Int32).toInt64 &&& 63)) ||| (((xs (x3_18 + (2 : Int32)).toNatClampNeg).toInt64) &&& (4294967295 : Int64))) (1 : Int32) S1 (fun r71 S70 =>
  vp_in (x3_18 + (1 : Int32)) L ∧
  vp_in (x3_18 + (2 : Int32)) L ∧
  vp_in (x3_18 + (3 : Int32)) L ∧
  ((xs (x3_18 + (3 : Int32)).toNatClampNeg) = 0 →
  wp_X9_outage ((((xs (x3_18 + (1 : Int32)).toNatClampNeg).toInt64) <<< ((32 : Int32).toInt64 &&& 63)) ||| (((xs (x3_18 + (2 : Int32)).toNatClampNeg).toInt64) &&& (4294967295 : Int64))) (0 : Int32) S70 (fun r73 S72 =>
  (r71 = r73 →
  ∀ v74 : Int32, v74 = x3_18 + (6 : Int32) →
  K18 v74 S72) ∧
  (¬ r71 = r73 →
  False))) ∧
  (¬ (xs (x3_18 + (3 : Int32)).toNatClampNeg) = 0 →
  wp_X9_outage ((((xs (x3_18 + (1 : Int32)).toNatClampNeg).toInt64) <<< ((32 : Int32).toInt64 &&& 63)) ||| (((xs (x3_18 + (2 : Int32)).toNatClampNeg).toInt64) &&& (4294967295 : Int64))) (1 : Int32) S70 (fun r76 S75 =>
  (r71 = r76 →
  ∀ v77 : Int32, v77 = x3_18 + (6 : Int32) →
  K18 v77 S75) ∧
  (¬ r71 = r76 →
  False)))))) ∧
  (((xs x3_18.toNatClampNeg) &&& (31 : Int32)).toInt = 11 →
  wp_X8_clock S1 (fun r79 S78 =>
  wp_X9_clock S78 (fun r81 S80 =>
  (r79 = r81 →
  ∀ v82 : Int32, v82 = x3_18 + (6 : Int32) →
  K18 v82 S80) ∧
  (¬ r79 = r81 →
  False)))) ∧
  (((xs x3_18.toNatClampNeg) &&& (31 : Int32)).toInt = 12 →
  vp_in (x3_18 + (1 : Int32)) L ∧
  vp_in (x3_18 + (2 : Int32)) L ∧
  vp_in (x3_18 + (3 : Int32)) L ∧
  vp_in (x3_18 + (4 : Int32)) L ∧
  wp_X8_rise (xs (x3_18 + (1 : Int32)).toNatClampNeg) (xs (x3_18 + (2 : Int32)).toNatClampNeg) ((((xs (x3_18 + (3 : Int32)).toNatClampNeg).toInt64) <<< ((32 : Int32).toInt64 &&& 63)) ||| (((xs (x3_18 + (4 : Int32)).toNatClampNeg).toInt64) &&& (4294967295 : Int64))) S1 (fun r84 S83 =>
  vp_in (x3_18 + (1 : Int32)) L ∧
  vp_in (x3_18 + (2 : Int32)) L ∧
  vp_in (x3_18 + (3 : Int32)) L ∧
  vp_in (x3_18 + (4 : Int32)) L ∧
  wp_X9_rise (xs (x3_18 + (1 : Int32)).toNatClampNeg) (xs (x3_18 + (2 : Int32)).toNatClampNeg) ((((xs (x3_18 + (3 : Int32)).toNatClampNeg).toInt64) <<< ((32 : Int32).toInt64 &&& 63)) ||| (((xs (x3_18 + (4 : Int32)).toNatClampNeg).toInt64) &&& (4294967295 : Int64))) S83 (fun r86 S85 =>
  (r84 = r86 →
  ∀ v87 : Int32, v87 = x3_18 + (6 : Int32) →
  K18 v87 S85) ∧
  (¬ r84 = r86 →
  False)))) ∧
  (((xs x3_18.toNatClampNeg) &&& (31 : Int32)).toInt = 13 →
  vp_in (x3_18 + (1 : Int32)) L ∧
  vp_in (x3_18 + (2 : Int32)) L ∧
  vp_in (x3_18 + (3 : Int32)) L ∧
  wp_X8_bid (xs (x3_18 + (1 : Int32)).toNatClampNeg) ((((xs (x3_18 + (2 : Int32)).toNatClampNeg).toInt64) <<< ((32 : Int32).toInt64 &&& 63)) ||| (((xs (x3_18 + (3 : Int32)).toNatClampNeg).toInt64) &&& (4294967295 : Int64))) S1 (fun r89 S88 =>
  vp_in (x3_18 + (1 : Int32)) L ∧
  vp_in (x3_18 + (2 : Int32)) L ∧
  vp_in (x3_18 + (3 : Int32)) L ∧
  wp_X9_bid (xs (x3_18 + (1 : Int32)).toNatClampNeg) ((((xs (x3_18 + (2 : Int32)).toNatClampNeg).toInt64) <<< ((32 : Int32).toInt64 &&& 63)) ||| (((xs (x3_18 + (3 : Int32)).toNatClampNeg).toInt64) &&& (4294967295 : Int64))) S88 (fun r91 S90 =>
  (r89 = r91 →
  ∀ v92 : Int32, v92 = x3_18 + (6 : Int32) →
  K18 v92 S90) ∧
  (¬ r89 = r91 →
  False)))) ∧
  (((xs x3_18.toNatClampNeg) &&& (31 : Int32)).toInt = 14 →
  vp_in (x3_18 + (1 : Int32)) L ∧
  vp_in (x3_18 + (2 : Int32)) L ∧
  wp_X8_on (xs (x3_18 + (1 : Int32)).toNatClampNeg) (xs (x3_18 + (2 : Int32)).toNatClampNeg) S1 (fun r94 S93 =>
  vp_in (x3_18 + (1 : Int32)) L ∧
  vp_in (x3_18 + (2 : Int32)) L ∧
  wp_X9_on (xs (x3_18 + (1 : Int32)).toNatClampNeg) (xs (x3_18 + (2 : Int32)).toNatClampNeg) S93 (fun r96 S95 =>
  (r94 = r96 →
  ∀ v97 : Int32, v97 = x3_18 + (6 : Int32) →
  K18 v97 S95) ∧
  (¬ r94 = r96 →
  False)))) ∧
  (((xs x3_18.toNatClampNeg) &&& (31 : Int32)).toInt = 15 →
  vp_in (x3_18 + (1 : Int32)) L ∧
  vp_in (x3_18 + (2 : Int32)) L ∧
  wp_X8_sets ((((xs (x3_18 + (1 : Int32)).toNatClampNeg).toInt64) <<< ((32 : Int32).toInt64 &&& 63)) ||| (((xs (x3_18 + (2 : Int32)).toNatClampNeg).toInt64) &&& (4294967295 : Int64))) S1 (fun r99 S98 =>
  vp_in (x3_18 + (1 : Int32)) L ∧
  vp_in (x3_18 + (2 : Int32)) L ∧
  wp_X9_sets ((((xs (x3_18 + (1 : Int32)).toNatClampNeg).toInt64) <<< ((32 : Int32).toInt64 &&& 63)) ||| (((xs (x3_18 + (2 : Int32)).toNatClampNeg).toInt64) &&& (4294967295 : Int64))) S98 (fun r101 S100 =>
  (r99 = r101 →
  ∀ v102 : Int32, v102 = x3_18 + (6 : Int32) →
  K18 v102 S100) ∧
  (¬ r99 = r101 →
  False)))) ∧
  (((xs x3_18.toNatClampNeg) &&& (31 : Int32)).toInt = 16 →
  vp_in (x3_18 + (1 : Int32)) L ∧
  wp_X8_wins (xs (x3_18 + (1 : Int32)).toNatClampNeg) S1 (fun r104 S103 =>
  vp_in (x3_18 + (1 : Int32)) L ∧
  wp_X9_wins (xs (x3_18 + (1 : Int32)).toNatClampNeg) S103 (fun r106 S105 =>
  (r104 = r106 →
  ∀ v107 : Int32, v107 = x3_18 + (6 : Int32) →
  K18 v107 S105) ∧
  (¬ r104 = r106 →
  False)))) ∧
  (((xs x3_18.toNatClampNeg) &&& (31 : Int32)).toInt = 17 →
  wp_X8_sum S1 (fun r109 S108 =>
  wp_X9_sum S108 (fun r111 S110 =>
  (r109 = r111 →
  ∀ v112 : Int32, v112 = x3_18 + (6 : Int32) →
  K18 v112 S110) ∧
  (¬ r109 = r111 →
  False)))) ∧
  (((xs x3_18.toNatClampNeg) &&& (31 : Int32)).toInt = 18 →
  wp_X8_proved S1 (fun r114 S113 =>
  wp_X9_proved S113 (fun r116 S115 =>
  (r114 = r116 →
  ∀ v117 : Int32, v117 = x3_18 + (6 : Int32) →
  K18 v117 S115) ∧
  (¬ r114 = r116 →
  False)))) ∧
  (((xs x3_18.toNatClampNeg) &&& (31 : Int32)).toInt = 19 →
  vp_in (x3_18 + (1 : Int32)) L ∧
  wp_X8_held (xs (x3_18 + (1 : Int32)).toNatClampNeg) S1 (fun r119 S118 =>
  vp_in (x3_18 + (1 : Int32)) L ∧
  wp_X9_held (xs (x3_18 + (1 : Int32)).toNatClampNeg) S118 (fun r121 S120 =>
  (r119 = r121 →
  ∀ v122 : Int32, v122 = x3_18 + (6 : Int32) →
  K18 v122 S120) ∧
  (¬ r119 = r121 →
  False)))) ∧
  (((xs x3_18.toNatClampNeg) &&& (31 : Int32)).toInt = 20 →
  vp_in (x3_18 + (1 : Int32)) L ∧
  wp_X8_again (xs (x3_18 + (1 : Int32)).toNatClampNeg) S1 (fun r124 S123 =>
  vp_in (x3_18 + (1 : Int32)) L ∧
  wp_X9_again (xs (x3_18 + (1 : Int32)).toNatClampNeg) S123 (fun r126 S125 =>
  (r124 = r126 →
  ∀ v127 : Int32, v127 = x3_18 + (6 : Int32) →
  K18 v127 S125) ∧
  (¬ r124 = r126 →
  False)))) ∧
  (((xs x3_18.toNatClampNeg) &&& (31 : Int32)).toInt = 21 →
  vp_in (x3_18 + (1 : Int32)) L ∧
  wp_X8_fee (xs (x3_18 + (1 : Int32)).toNatClampNeg) S1 (fun r129 S128 =>
  vp_in (x3_18 + (1 : Int32)) L ∧
  wp_X9_fee (xs (x3_18 + (1 : Int32)).toNatClampNeg) S128 (fun r131 S130 =>
  (r129 = r131 →
  ∀ v132 : Int32, v132 = x3_18 + (6 : Int32) →
  K18 v132 S130) ∧
  (¬ r129 = r131 →
  False)))) ∧
  (((xs x3_18.toNatClampNeg) &&& (31 : Int32)).toInt = 22 →
  vp_in (x3_18 + (1 : Int32)) L ∧
  vp_in (x3_18 + (2 : Int32)) L ∧
  wp_X8_record (xs (x3_18 + (1 : Int32)).toNatClampNeg) (xs (x3_18 + (2 : Int32)).toNatClampNeg) S1 (fun r134 S133 =>
  vp_in (x3_18 + (1 : Int32)) L ∧
  vp_in (x3_18 + (2 : Int32)) L ∧
  wp_X9_record (xs (x3_18 + (1 : Int32)).toNatClampNeg) (xs (x3_18 + (2 : Int32)).toNatClampNeg) S133 (fun r136 S135 =>
  (r134 = r136 →
  ∀ v137 : Int32, v137 = x3_18 + (6 : Int32) →
  K18 v137 S135) ∧
  (¬ r134 = r136 →
  False)))) ∧
  (((xs x3_18.toNatClampNeg) &&& (31 : Int32)).toInt = 23 →
  wp_X8_chained S1 (fun r139 S138 =>
  wp_X9_chained S138 (fun r141 S140 =>
  (r139 = r141 →
  ∀ v142 : Int32, v142 = x3_18 + (6 : Int32) →
  K18 v142 S140) ∧
  (¬ r139 = r141 →
  False)))) ∧
  (((xs x3_18.toNatClampNeg) &&& (31 : Int32)).toInt = 24 →
  vp_in (x3_18 + (1 : Int32)) L ∧
  vp_in (x3_18 + (2 : Int32)) L ∧
  wp_X8_order (xs (x3_18 + (1 : Int32)).toNatClampNeg) (xs (x3_18 + (2 : Int32)).toNatClampNeg) S1 (fun r144 S143 =>
  vp_in (x3_18 + (1 : Int32)) L ∧
  vp_in (x3_18 + (2 : Int32)) L ∧
  wp_X9_order (xs (x3_18 + (1 : Int32)).toNatClampNeg) (xs (x3_18 + (2 : Int32)).toNatClampNeg) S143 (fun r146 S145 =>
  (r144 = r146 →
  ∀ v147 : Int32, v147 = x3_18 + (6 : Int32) →
  K18 v147 S145) ∧
  (¬ r144 = r146 →
  False)))) ∧
  (((xs x3_18.toNatClampNeg) &&& (31 : Int32)).toInt = 25 →
  vp_in (x3_18 + (1 : Int32)) L ∧
  wp_X8_back (xs (x3_18 + (1 : Int32)).toNatClampNeg) S1 (fun r149 S148 =>
  vp_in (x3_18 + (1 : Int32)) L ∧
  wp_X9_back (xs (x3_18 + (1 : Int32)).toNatClampNeg) S148 (fun r151 S150 =>
  (r149 = r151 →
  ∀ v152 : Int32, v152 = x3_18 + (6 : Int32) →
  K18 v152 S150) ∧
  (¬ r149 = r151 →
  False)))) ∧
  (((xs x3_18.toNatClampNeg) &&& (31 : Int32)).toInt = 26 →
  vp_in (x3_18 + (1 : Int32)) L ∧
  vp_in (x3_18 + (2 : Int32)) L ∧
  vp_in (x3_18 + (3 : Int32)) L ∧
  wp_X8_play ((((xs (x3_18 + (1 : Int32)).toNatClampNeg).toInt64) <<< ((32 : Int32).toInt64 &&& 63)) ||| (((xs (x3_18 + (2 : Int32)).toNatClampNeg).toInt64) &&& (4294967295 : Int64))) (xs (x3_18 + (3 : Int32)).toNatClampNeg) S1 (fun r154 S153 =>
  vp_in (x3_18 + (1 : Int32)) L ∧
  vp_in (x3_18 + (2 : Int32)) L ∧
  vp_in (x3_18 + (3 : Int32)) L ∧
  wp_X9_play ((((xs (x3_18 + (1 : Int32)).toNatClampNeg).toInt64) <<< ((32 : Int32).toInt64 &&& 63)) ||| (((xs (x3_18 + (2 : Int32)).toNatClampNeg).toInt64) &&& (4294967295 : Int64))) (xs (x3_18 + (3 : Int32)).toNatClampNeg) S153 (fun r156 S155 =>
  (r154 = r156 →
  ∀ v157 : Int32, v157 = x3_18 + (6 : Int32) →
  K18 v157 S155) ∧
  (¬ r154 = r156 →
  False)))) ∧
  (((xs x3_18.toNatClampNeg) &&& (31 : Int32)).toInt = 27 →
  vp_in (x3_18 + (1 : Int32)) L ∧
  vp_in (x3_18 + (2 : Int32)) L ∧
  wp_X8_tie (xs (x3_18 + (1 : Int32)).toNatClampNeg) (xs (x3_18 + (2 : Int32)).toNatClampNeg) S1 (fun r159 S158 =>
  vp_in (x3_18 + (1 : Int32)) L ∧
  vp_in (x3_18 + (2 : Int32)) L ∧
  wp_X9_tie (xs (x3_18 + (1 : Int32)).toNatClampNeg) (xs (x3_18 + (2 : Int32)).toNatClampNeg) S158 (fun r161 S160 =>
  (r159 = r161 →
  ∀ v162 : Int32, v162 = x3_18 + (6 : Int32) →
  K18 v162 S160) ∧
  (¬ r159 = r161 →
  False)))))
def lp_L_law_18 (L : Nat) (xs : Nat → Int32) : Nat → Int32 → St → Prop
  | 0, _, _ => False
  | n + 1, x3_18, S1 => bd_L_law_18 L xs (fun x3_18 S1 => lp_L_law_18 L xs n x3_18 S1) x3_18 S1
set_option maxRecDepth 100000 in
set_option maxHeartbeats 16000000 in
theorem law_loop {p : Program} {l : Launch} {e : Env} {s : State} {m : MethodId} {below : List Frame} {meth : Method} {c : Code} {b L : Nat} {xs : Nat → Int32} (C0 : lw_At p s m meth c b L xs) (G : GT) (hG : G.2.1 = s.heap.size) : ∀ (n18 : Nat) (x3_18 : Int32) (S1 : St) (a1 a2 : Nat) (H : Heap) (locs : List Loc) (ls : Array Slot) (cl18 sl18 : Nat), lp_L_law_18 L xs n18 x3_18 S1 → WW G S1 s H locs → AtO S1 7 0 a1 → AtO S1 8 0 a2 → lv_has ls 4 [(3, .int x3_18), (2, .ref a2), (1, .ref a1), (0, .ref b)] → cl18 + 1159 * n18 ≤ 600000 → sl18 + 62310 * n18 ≤ 7302250 → W p l e room_1 s m #[Value.ref b] below meth c H locs cl18 sl18 (lw_Z below #[Value.ref b] s) (F0 m 18 ls []) := by
  obtain ⟨hx, hb, hr, hml, hown, hts0, hXs, hbl, hlk, hgv⟩ := C0
  have hts : ∀ w ∈ wT, w.before #[Value.ref b] s = true := fun w hw => hts0 w (wT_tbl w hw)
  have F : CX p m c cL_law 4 s #[Value.ref b] RL := ⟨hx, hb, hml, hown, hts⟩
  have hbA : ¬ (fun q : Nat => G.2.1 ≤ q) b := fun h => by have h : G.2.1 ≤ b := h; rw [hG] at h; exact Nat.not_le.mpr hbl h
  intro n18
  induction n18 with
  | zero => intro x3_18 S1 a1 a2 H locs ls cl18 sl18 hQ; exact False.elim hQ
  | succ n18 ih18 =>
    intro x3_18 S1 a1 a2 H locs ls cl18 sl18 hQ hw hA1 hA2 hl hcl18 hsl18
    have hX : Ext S1 S1 := Ext.rf
    have hsB : sl18 + 62310 ≤ 7302250 := Nat.le_trans (Nat.add_le_add_left (Nat.le_mul_of_pos_right 62310 (Nat.succ_pos n18)) sl18) hsl18
    have hQ : bd_L_law_18 L xs (fun x3_18 S1 => lp_L_law_18 L xs n18 x3_18 S1) x3_18 S1 := hQ
    unfold bd_L_law_18 at hQ
    refine lv_iload_n hx hb dL_law_18 rfl (lv_at hl 0 rfl) ?_
    refine lv_aload_n hx hb dL_law_19 rfl (lv_at hl 3 rfl) ?_
    refine va_slen hx hb hXs hbl hbA hw.2 dL_law_20 ?_
    refine lv_bipush (v := 6) hx hb dL_law_21 (by decide) ?_
    refine lv_isub hx hb dL_law_23 ?_
    refine lv_icmp_gt (tgt := 1372) hx hb dL_law_24 (by decide) (fun hc => ?_) (fun hc => ?_)
    · have hQ := hQ.1 hc
      refine lv_iconst (v := 1) hx hb dL_law_1372 (by decide) ?_
      refine va_forget (fun q hq => by have h := hw.2.2.2 q hq; rw [← hG]; exact h) ?_
      refine W.widen (k := 600000) (n := 7302250) (by omega) (by omega) ?_
      exact lw_ret hx hb hr hlk dL_law_1373
    · have hQ := hQ.2 hc
      refine lv_aload_n hx hb dL_law_27 rfl (lv_at hl 3 rfl) ?_
      refine lv_iload_n hx hb dL_law_28 rfl (lv_at hl 0 rfl) ?_
      obtain ⟨hin, hQ⟩ := hQ
      refine va_sld hx hb hXs hbl hbA hw.2 hin dL_law_29 ?_
      refine lv_bipush (v := 31) hx hb dL_law_30 (by decide) ?_
      refine lv_iand hx hb dL_law_32 ?_
      rcases (show ((xs x3_18.toNatClampNeg) &&& (31 : Int32)).toInt < 0 ∨ 27 < ((xs x3_18.toNatClampNeg) &&& (31 : Int32)).toInt ∨ ((xs x3_18.toNatClampNeg) &&& (31 : Int32)).toInt = 0 ∨ ((xs x3_18.toNatClampNeg) &&& (31 : Int32)).toInt = 1 ∨ ((xs x3_18.toNatClampNeg) &&& (31 : Int32)).toInt = 2 ∨ ((xs x3_18.toNatClampNeg) &&& (31 : Int32)).toInt = 3 ∨ ((xs x3_18.toNatClampNeg) &&& (31 : Int32)).toInt = 4 ∨ ((xs x3_18.toNatClampNeg) &&& (31 : Int32)).toInt = 5 ∨ ((xs x3_18.toNatClampNeg) &&& (31 : Int32)).toInt = 6 ∨ ((xs x3_18.toNatClampNeg) &&& (31 : Int32)).toInt = 7 ∨ ((xs x3_18.toNatClampNeg) &&& (31 : Int32)).toInt = 8 ∨ ((xs x3_18.toNatClampNeg) &&& (31 : Int32)).toInt = 9 ∨ ((xs x3_18.toNatClampNeg) &&& (31 : Int32)).toInt = 10 ∨ ((xs x3_18.toNatClampNeg) &&& (31 : Int32)).toInt = 11 ∨ ((xs x3_18.toNatClampNeg) &&& (31 : Int32)).toInt = 12 ∨ ((xs x3_18.toNatClampNeg) &&& (31 : Int32)).toInt = 13 ∨ ((xs x3_18.toNatClampNeg) &&& (31 : Int32)).toInt = 14 ∨ ((xs x3_18.toNatClampNeg) &&& (31 : Int32)).toInt = 15 ∨ ((xs x3_18.toNatClampNeg) &&& (31 : Int32)).toInt = 16 ∨ ((xs x3_18.toNatClampNeg) &&& (31 : Int32)).toInt = 17 ∨ ((xs x3_18.toNatClampNeg) &&& (31 : Int32)).toInt = 18 ∨ ((xs x3_18.toNatClampNeg) &&& (31 : Int32)).toInt = 19 ∨ ((xs x3_18.toNatClampNeg) &&& (31 : Int32)).toInt = 20 ∨ ((xs x3_18.toNatClampNeg) &&& (31 : Int32)).toInt = 21 ∨ ((xs x3_18.toNatClampNeg) &&& (31 : Int32)).toInt = 22 ∨ ((xs x3_18.toNatClampNeg) &&& (31 : Int32)).toInt = 23 ∨ ((xs x3_18.toNatClampNeg) &&& (31 : Int32)).toInt = 24 ∨ ((xs x3_18.toNatClampNeg) &&& (31 : Int32)).toInt = 25 ∨ ((xs x3_18.toNatClampNeg) &&& (31 : Int32)).toInt = 26 ∨ ((xs x3_18.toNatClampNeg) &&& (31 : Int32)).toInt = 27 by omega) with hc | hc | hc | hc | hc | hc | hc | hc | hc | hc | hc | hc | hc | hc | hc | hc | hc | hc | hc | hc | hc | hc | hc | hc | hc | hc | hc | hc | hc | hc
      · have hQ := hQ.1 (Or.inl hc)
        refine lv_tableOut (tgt := 1366) hx hb dL_law_33 (Or.inl hc) (by decide) ?_
        obtain ⟨v11, ev11⟩ : ∃ y : Int32, y = x3_18 + (6 : Int32) := ⟨_, rfl⟩
        have hQ := hQ v11 ev11
        refine lv_iinc (v := v11) (lv' := [(3, .int v11), (2, .ref a2), (1, .ref a1), (0, .ref b)]) hx hb dL_law_1366 hl (k := 0) rfl (by rw [ev11]; rfl) (by decide) rfl (fun ls hl => ?_)
        refine lv_goto (tgt := 18) hx hb dL_law_1369 (by decide) ?_
        exact ih18 v11 S1 _ _ _ _ _ _ _ hQ hw hA1 hA2 (lv_sub hl [0, 1, 2, 3] rfl) (by omega) (by omega)
      · have hQ := hQ.1 (Or.inr hc)
        refine lv_tableOut (tgt := 1366) hx hb dL_law_33 (Or.inr hc) (by decide) ?_
        obtain ⟨v11, ev11⟩ : ∃ y : Int32, y = x3_18 + (6 : Int32) := ⟨_, rfl⟩
        have hQ := hQ v11 ev11
        refine lv_iinc (v := v11) (lv' := [(3, .int v11), (2, .ref a2), (1, .ref a1), (0, .ref b)]) hx hb dL_law_1366 hl (k := 0) rfl (by rw [ev11]; rfl) (by decide) rfl (fun ls hl => ?_)
        refine lv_goto (tgt := 18) hx hb dL_law_1369 (by decide) ?_
        exact ih18 v11 S1 _ _ _ _ _ _ _ hQ hw hA1 hA2 (lv_sub hl [0, 1, 2, 3] rfl) (by omega) (by omega)
      · have hQ := hQ.2.1 hc
        refine lv_tableIn (tgt := 160) hx hb dL_law_33 (by omega) (by omega) (by rw [hc]; rfl) (by decide) ?_
        refine lv_aload_n hx hb dL_law_160 rfl (lv_at hl 2 rfl) ?_
        refine lv_aload_n hx hb dL_law_161 rfl (lv_at hl 3 rfl) ?_
        refine lv_iload_n hx hb dL_law_162 rfl (lv_at hl 0 rfl) ?_
        refine lv_iconst (v := 1) hx hb dL_law_163 (by decide) ?_
        refine lv_iadd hx hb dL_law_164 ?_
        obtain ⟨hin, hQ⟩ := hQ
        refine va_sld hx hb hXs hbl hbA hw.2 hin dL_law_165 ?_
        refine lv_aload_n hx hb dL_law_166 rfl (lv_at hl 3 rfl) ?_
        refine lv_iload_n hx hb dL_law_167 rfl (lv_at hl 0 rfl) ?_
        refine lv_iconst (v := 2) hx hb dL_law_168 (by decide) ?_
        refine lv_iadd hx hb dL_law_169 ?_
        obtain ⟨hin, hQ⟩ := hQ
        refine va_sld hx hb hXs hbl hbA hw.2 hin dL_law_170 ?_
        refine lv_i2l hx hb dL_law_171 rfl ?_
        refine lv_bipush (v := 32) hx hb dL_law_172 (by decide) ?_
        refine lv_lshl hx hb dL_law_174 rfl ?_
        refine lv_aload_n hx hb dL_law_175 rfl (lv_at hl 3 rfl) ?_
        refine lv_iload_n hx hb dL_law_176 rfl (lv_at hl 0 rfl) ?_
        refine lv_iconst (v := 3) hx hb dL_law_177 (by decide) ?_
        refine lv_iadd hx hb dL_law_178 ?_
        obtain ⟨hin, hQ⟩ := hQ
        refine va_sld hx hb hXs hbl hbA hw.2 hin dL_law_179 ?_
        refine lv_i2l hx hb dL_law_180 rfl ?_
        refine lv_ldc2 (v := 4294967295) hx hb hown (hts _ twl_RL_13) dL_law_181 ?_
        refine lv_land hx hb dL_law_184 ?_
        refine lv_lor hx hb dL_law_185 ?_
        refine lv_aload_n hx hb dL_law_186 rfl (lv_at hl 3 rfl) ?_
        refine lv_iload_n hx hb dL_law_187 rfl (lv_at hl 0 rfl) ?_
        refine lv_iconst (v := 4) hx hb dL_law_188 (by decide) ?_
        refine lv_iadd hx hb dL_law_189 ?_
        obtain ⟨hin, hQ⟩ := hQ
        refine va_sld hx hb hXs hbl hbA hw.2 hin dL_law_190 ?_
        refine lv_i2l hx hb dL_law_191 rfl ?_
        refine lv_bipush (v := 32) hx hb dL_law_192 (by decide) ?_
        refine lv_lshl hx hb dL_law_194 rfl ?_
        refine lv_aload_n hx hb dL_law_195 rfl (lv_at hl 3 rfl) ?_
        refine lv_iload_n hx hb dL_law_196 rfl (lv_at hl 0 rfl) ?_
        refine lv_iconst (v := 5) hx hb dL_law_197 (by decide) ?_
        refine lv_iadd hx hb dL_law_198 ?_
        obtain ⟨hin, hQ⟩ := hQ
        refine va_sld hx hb hXs hbl hbA hw.2 hin dL_law_199 ?_
        refine lv_i2l hx hb dL_law_200 rfl ?_
        refine lv_ldc2 (v := 4294967295) hx hb hown (hts _ twl_RL_13) dL_law_201 ?_
        refine lv_land hx hb dL_law_204 ?_
        refine lv_lor hx hb dL_law_205 ?_
        refine k_X8_lot F hw hl hA1 hQ twm_RL_15 (Nat.le_of_ble_eq_true rfl) (Nat.le_of_ble_eq_true rfl) (Nat.le_of_ble_eq_true rfl) dL_law_206 (show cl18 + 1 ≤ 600000 from by omega) (show sl18 + 12 ≤ 7302250 from by omega) (fun r13 S12 H locs hQ hw hx1 => ?_)
        have hX := hX.trans hx1
        have hA2 := hA2.ext hx1
        have hA1 := hA1.ext hx1
        refine lv_aload_n hx hb dL_law_209 rfl (lv_at hl 1 rfl) ?_
        refine lv_aload_n hx hb dL_law_210 rfl (lv_at hl 3 rfl) ?_
        refine lv_iload_n hx hb dL_law_211 rfl (lv_at hl 0 rfl) ?_
        refine lv_iconst (v := 1) hx hb dL_law_212 (by decide) ?_
        refine lv_iadd hx hb dL_law_213 ?_
        obtain ⟨hin, hQ⟩ := hQ
        refine va_sld hx hb hXs hbl hbA hw.2 hin dL_law_214 ?_
        refine lv_aload_n hx hb dL_law_215 rfl (lv_at hl 3 rfl) ?_
        refine lv_iload_n hx hb dL_law_216 rfl (lv_at hl 0 rfl) ?_
        refine lv_iconst (v := 2) hx hb dL_law_217 (by decide) ?_
        refine lv_iadd hx hb dL_law_218 ?_
        obtain ⟨hin, hQ⟩ := hQ
        refine va_sld hx hb hXs hbl hbA hw.2 hin dL_law_219 ?_
        refine lv_i2l hx hb dL_law_220 rfl ?_
        refine lv_bipush (v := 32) hx hb dL_law_221 (by decide) ?_
        refine lv_lshl hx hb dL_law_223 rfl ?_
        refine lv_aload_n hx hb dL_law_224 rfl (lv_at hl 3 rfl) ?_
        refine lv_iload_n hx hb dL_law_225 rfl (lv_at hl 0 rfl) ?_
        refine lv_iconst (v := 3) hx hb dL_law_226 (by decide) ?_
        refine lv_iadd hx hb dL_law_227 ?_
        obtain ⟨hin, hQ⟩ := hQ
        refine va_sld hx hb hXs hbl hbA hw.2 hin dL_law_228 ?_
        refine lv_i2l hx hb dL_law_229 rfl ?_
        refine lv_ldc2 (v := 4294967295) hx hb hown (hts _ twl_RL_13) dL_law_230 ?_
        refine lv_land hx hb dL_law_233 ?_
        refine lv_lor hx hb dL_law_234 ?_
        refine lv_aload_n hx hb dL_law_235 rfl (lv_at hl 3 rfl) ?_
        refine lv_iload_n hx hb dL_law_236 rfl (lv_at hl 0 rfl) ?_
        refine lv_iconst (v := 4) hx hb dL_law_237 (by decide) ?_
        refine lv_iadd hx hb dL_law_238 ?_
        obtain ⟨hin, hQ⟩ := hQ
        refine va_sld hx hb hXs hbl hbA hw.2 hin dL_law_239 ?_
        refine lv_i2l hx hb dL_law_240 rfl ?_
        refine lv_bipush (v := 32) hx hb dL_law_241 (by decide) ?_
        refine lv_lshl hx hb dL_law_243 rfl ?_
        refine lv_aload_n hx hb dL_law_244 rfl (lv_at hl 3 rfl) ?_
        refine lv_iload_n hx hb dL_law_245 rfl (lv_at hl 0 rfl) ?_
        refine lv_iconst (v := 5) hx hb dL_law_246 (by decide) ?_
        refine lv_iadd hx hb dL_law_247 ?_
        obtain ⟨hin, hQ⟩ := hQ
        refine va_sld hx hb hXs hbl hbA hw.2 hin dL_law_248 ?_
        refine lv_i2l hx hb dL_law_249 rfl ?_
        refine lv_ldc2 (v := 4294967295) hx hb hown (hts _ twl_RL_13) dL_law_250 ?_
        refine lv_land hx hb dL_law_253 ?_
        refine lv_lor hx hb dL_law_254 ?_
        refine k_X9_lot F hw hl hA2 hQ twm_RL_19 (Nat.le_of_ble_eq_true rfl) (Nat.le_of_ble_eq_true rfl) (Nat.le_of_ble_eq_true rfl) dL_law_255 (show (cl18 + 1) + 0 ≤ 600000 from by omega) (show (sl18 + 12) + 0 ≤ 7302250 from by omega) (fun r15 S14 H locs hQ hw hx1 => ?_)
        have hX := hX.trans hx1
        have hA2 := hA2.ext hx1
        have hA1 := hA1.ext hx1
        refine lv_icmp_eq (tgt := 1366) hx hb dL_law_258 (by decide) (fun hc => ?_) (fun hc => ?_)
        · have hQ := hQ.1 hc
          obtain ⟨v16, ev16⟩ : ∃ y : Int32, y = x3_18 + (6 : Int32) := ⟨_, rfl⟩
          have hQ := hQ v16 ev16
          refine lv_iinc (v := v16) (lv' := [(3, .int v16), (2, .ref a2), (1, .ref a1), (0, .ref b)]) hx hb dL_law_1366 hl (k := 0) rfl (by rw [ev16]; rfl) (by decide) rfl (fun ls hl => ?_)
          refine lv_goto (tgt := 18) hx hb dL_law_1369 (by decide) ?_
          exact ih18 v16 S14 _ _ _ _ _ _ _ hQ hw hA1 hA2 (lv_sub hl [0, 1, 2, 3] rfl) (by omega) (by omega)
        · have hQ := hQ.2 hc
          refine lv_iconst (v := 0) hx hb dL_law_261 (by decide) ?_
          exact False.elim hQ
      · have hQ := hQ.2.2.1 hc
        refine lv_tableIn (tgt := 263) hx hb dL_law_33 (by omega) (by omega) (by rw [hc]; rfl) (by decide) ?_
        refine lv_aload_n hx hb dL_law_263 rfl (lv_at hl 2 rfl) ?_
        refine lv_aload_n hx hb dL_law_264 rfl (lv_at hl 3 rfl) ?_
        refine lv_iload_n hx hb dL_law_265 rfl (lv_at hl 0 rfl) ?_
        refine lv_iconst (v := 1) hx hb dL_law_266 (by decide) ?_
        refine lv_iadd hx hb dL_law_267 ?_
        obtain ⟨hin, hQ⟩ := hQ
        refine va_sld hx hb hXs hbl hbA hw.2 hin dL_law_268 ?_
        refine lv_i2l hx hb dL_law_269 rfl ?_
        refine lv_bipush (v := 32) hx hb dL_law_270 (by decide) ?_
        refine lv_lshl hx hb dL_law_272 rfl ?_
        refine lv_aload_n hx hb dL_law_273 rfl (lv_at hl 3 rfl) ?_
        refine lv_iload_n hx hb dL_law_274 rfl (lv_at hl 0 rfl) ?_
        refine lv_iconst (v := 2) hx hb dL_law_275 (by decide) ?_
        refine lv_iadd hx hb dL_law_276 ?_
        obtain ⟨hin, hQ⟩ := hQ
        refine va_sld hx hb hXs hbl hbA hw.2 hin dL_law_277 ?_
        refine lv_i2l hx hb dL_law_278 rfl ?_
        refine lv_ldc2 (v := 4294967295) hx hb hown (hts _ twl_RL_13) dL_law_279 ?_
        refine lv_land hx hb dL_law_282 ?_
        refine lv_lor hx hb dL_law_283 ?_
        refine k_X8_buyer F hw hl hA1 hQ twm_RL_20 (Nat.le_of_ble_eq_true rfl) (Nat.le_of_ble_eq_true rfl) (Nat.le_of_ble_eq_true rfl) dL_law_284 (show cl18 + 1 ≤ 600000 from by omega) (show sl18 + 4 ≤ 7302250 from by omega) (fun r18 S17 H locs hQ hw hx1 => ?_)
        have hX := hX.trans hx1
        have hA2 := hA2.ext hx1
        have hA1 := hA1.ext hx1
        refine lv_aload_n hx hb dL_law_287 rfl (lv_at hl 1 rfl) ?_
        refine lv_aload_n hx hb dL_law_288 rfl (lv_at hl 3 rfl) ?_
        refine lv_iload_n hx hb dL_law_289 rfl (lv_at hl 0 rfl) ?_
        refine lv_iconst (v := 1) hx hb dL_law_290 (by decide) ?_
        refine lv_iadd hx hb dL_law_291 ?_
        obtain ⟨hin, hQ⟩ := hQ
        refine va_sld hx hb hXs hbl hbA hw.2 hin dL_law_292 ?_
        refine lv_i2l hx hb dL_law_293 rfl ?_
        refine lv_bipush (v := 32) hx hb dL_law_294 (by decide) ?_
        refine lv_lshl hx hb dL_law_296 rfl ?_
        refine lv_aload_n hx hb dL_law_297 rfl (lv_at hl 3 rfl) ?_
        refine lv_iload_n hx hb dL_law_298 rfl (lv_at hl 0 rfl) ?_
        refine lv_iconst (v := 2) hx hb dL_law_299 (by decide) ?_
        refine lv_iadd hx hb dL_law_300 ?_
        obtain ⟨hin, hQ⟩ := hQ
        refine va_sld hx hb hXs hbl hbA hw.2 hin dL_law_301 ?_
        refine lv_i2l hx hb dL_law_302 rfl ?_
        refine lv_ldc2 (v := 4294967295) hx hb hown (hts _ twl_RL_13) dL_law_303 ?_
        refine lv_land hx hb dL_law_306 ?_
        refine lv_lor hx hb dL_law_307 ?_
        refine k_X9_buyer F hw hl hA2 hQ twm_RL_24 (Nat.le_of_ble_eq_true rfl) (Nat.le_of_ble_eq_true rfl) (Nat.le_of_ble_eq_true rfl) dL_law_308 (show (cl18 + 1) + 0 ≤ 600000 from by omega) (show (sl18 + 4) + 0 ≤ 7302250 from by omega) (fun r20 S19 H locs hQ hw hx1 => ?_)
        have hX := hX.trans hx1
        have hA2 := hA2.ext hx1
        have hA1 := hA1.ext hx1
        refine lv_icmp_eq (tgt := 1366) hx hb dL_law_311 (by decide) (fun hc => ?_) (fun hc => ?_)
        · have hQ := hQ.1 hc
          obtain ⟨v21, ev21⟩ : ∃ y : Int32, y = x3_18 + (6 : Int32) := ⟨_, rfl⟩
          have hQ := hQ v21 ev21
          refine lv_iinc (v := v21) (lv' := [(3, .int v21), (2, .ref a2), (1, .ref a1), (0, .ref b)]) hx hb dL_law_1366 hl (k := 0) rfl (by rw [ev21]; rfl) (by decide) rfl (fun ls hl => ?_)
          refine lv_goto (tgt := 18) hx hb dL_law_1369 (by decide) ?_
          exact ih18 v21 S19 _ _ _ _ _ _ _ hQ hw hA1 hA2 (lv_sub hl [0, 1, 2, 3] rfl) (by omega) (by omega)
        · have hQ := hQ.2 hc
          refine lv_iconst (v := 0) hx hb dL_law_314 (by decide) ?_
          exact False.elim hQ
      · have hQ := hQ.2.2.2.1 hc
        refine lv_tableIn (tgt := 316) hx hb dL_law_33 (by omega) (by omega) (by rw [hc]; rfl) (by decide) ?_
        refine lv_aload_n hx hb dL_law_316 rfl (lv_at hl 2 rfl) ?_
        refine lv_aload_n hx hb dL_law_317 rfl (lv_at hl 3 rfl) ?_
        refine lv_iload_n hx hb dL_law_318 rfl (lv_at hl 0 rfl) ?_
        refine lv_iconst (v := 1) hx hb dL_law_319 (by decide) ?_
        refine lv_iadd hx hb dL_law_320 ?_
        obtain ⟨hin, hQ⟩ := hQ
        refine va_sld hx hb hXs hbl hbA hw.2 hin dL_law_321 ?_
        refine lv_aload_n hx hb dL_law_322 rfl (lv_at hl 3 rfl) ?_
        refine lv_iload_n hx hb dL_law_323 rfl (lv_at hl 0 rfl) ?_
        refine lv_iconst (v := 2) hx hb dL_law_324 (by decide) ?_
        refine lv_iadd hx hb dL_law_325 ?_
        obtain ⟨hin, hQ⟩ := hQ
        refine va_sld hx hb hXs hbl hbA hw.2 hin dL_law_326 ?_
        refine lv_i2l hx hb dL_law_327 rfl ?_
        refine lv_bipush (v := 32) hx hb dL_law_328 (by decide) ?_
        refine lv_lshl hx hb dL_law_330 rfl ?_
        refine lv_aload_n hx hb dL_law_331 rfl (lv_at hl 3 rfl) ?_
        refine lv_iload_n hx hb dL_law_332 rfl (lv_at hl 0 rfl) ?_
        refine lv_iconst (v := 3) hx hb dL_law_333 (by decide) ?_
        refine lv_iadd hx hb dL_law_334 ?_
        obtain ⟨hin, hQ⟩ := hQ
        refine va_sld hx hb hXs hbl hbA hw.2 hin dL_law_335 ?_
        refine lv_i2l hx hb dL_law_336 rfl ?_
        refine lv_ldc2 (v := 4294967295) hx hb hown (hts _ twl_RL_13) dL_law_337 ?_
        refine lv_land hx hb dL_law_340 ?_
        refine lv_lor hx hb dL_law_341 ?_
        refine lv_aload_n hx hb dL_law_342 rfl (lv_at hl 3 rfl) ?_
        refine lv_iload_n hx hb dL_law_343 rfl (lv_at hl 0 rfl) ?_
        refine lv_iconst (v := 4) hx hb dL_law_344 (by decide) ?_
        refine lv_iadd hx hb dL_law_345 ?_
        obtain ⟨hin, hQ⟩ := hQ
        refine va_sld hx hb hXs hbl hbA hw.2 hin dL_law_346 ?_
        refine lv_i2l hx hb dL_law_347 rfl ?_
        refine lv_bipush (v := 32) hx hb dL_law_348 (by decide) ?_
        refine lv_lshl hx hb dL_law_350 rfl ?_
        refine lv_aload_n hx hb dL_law_351 rfl (lv_at hl 3 rfl) ?_
        refine lv_iload_n hx hb dL_law_352 rfl (lv_at hl 0 rfl) ?_
        refine lv_iconst (v := 5) hx hb dL_law_353 (by decide) ?_
        refine lv_iadd hx hb dL_law_354 ?_
        obtain ⟨hin, hQ⟩ := hQ
        refine va_sld hx hb hXs hbl hbA hw.2 hin dL_law_355 ?_
        refine lv_i2l hx hb dL_law_356 rfl ?_
        refine lv_ldc2 (v := 4294967295) hx hb hown (hts _ twl_RL_13) dL_law_357 ?_
        refine lv_land hx hb dL_law_360 ?_
        refine lv_lor hx hb dL_law_361 ?_
        refine k_X8_start F hw hl hA1 hQ twm_RL_25 (Nat.le_of_ble_eq_true rfl) (Nat.le_of_ble_eq_true rfl) (Nat.le_of_ble_eq_true rfl) dL_law_362 (show cl18 + 0 ≤ 600000 from by omega) (show sl18 + 0 ≤ 7302250 from by omega) (fun r23 S22 H locs hQ hw hx1 => ?_)
        have hX := hX.trans hx1
        have hA2 := hA2.ext hx1
        have hA1 := hA1.ext hx1
        refine lv_aload_n hx hb dL_law_365 rfl (lv_at hl 1 rfl) ?_
        refine lv_aload_n hx hb dL_law_366 rfl (lv_at hl 3 rfl) ?_
        refine lv_iload_n hx hb dL_law_367 rfl (lv_at hl 0 rfl) ?_
        refine lv_iconst (v := 1) hx hb dL_law_368 (by decide) ?_
        refine lv_iadd hx hb dL_law_369 ?_
        obtain ⟨hin, hQ⟩ := hQ
        refine va_sld hx hb hXs hbl hbA hw.2 hin dL_law_370 ?_
        refine lv_aload_n hx hb dL_law_371 rfl (lv_at hl 3 rfl) ?_
        refine lv_iload_n hx hb dL_law_372 rfl (lv_at hl 0 rfl) ?_
        refine lv_iconst (v := 2) hx hb dL_law_373 (by decide) ?_
        refine lv_iadd hx hb dL_law_374 ?_
        obtain ⟨hin, hQ⟩ := hQ
        refine va_sld hx hb hXs hbl hbA hw.2 hin dL_law_375 ?_
        refine lv_i2l hx hb dL_law_376 rfl ?_
        refine lv_bipush (v := 32) hx hb dL_law_377 (by decide) ?_
        refine lv_lshl hx hb dL_law_379 rfl ?_
        refine lv_aload_n hx hb dL_law_380 rfl (lv_at hl 3 rfl) ?_
        refine lv_iload_n hx hb dL_law_381 rfl (lv_at hl 0 rfl) ?_
        refine lv_iconst (v := 3) hx hb dL_law_382 (by decide) ?_
        refine lv_iadd hx hb dL_law_383 ?_
        obtain ⟨hin, hQ⟩ := hQ
        refine va_sld hx hb hXs hbl hbA hw.2 hin dL_law_384 ?_
        refine lv_i2l hx hb dL_law_385 rfl ?_
        refine lv_ldc2 (v := 4294967295) hx hb hown (hts _ twl_RL_13) dL_law_386 ?_
        refine lv_land hx hb dL_law_389 ?_
        refine lv_lor hx hb dL_law_390 ?_
        refine lv_aload_n hx hb dL_law_391 rfl (lv_at hl 3 rfl) ?_
        refine lv_iload_n hx hb dL_law_392 rfl (lv_at hl 0 rfl) ?_
        refine lv_iconst (v := 4) hx hb dL_law_393 (by decide) ?_
        refine lv_iadd hx hb dL_law_394 ?_
        obtain ⟨hin, hQ⟩ := hQ
        refine va_sld hx hb hXs hbl hbA hw.2 hin dL_law_395 ?_
        refine lv_i2l hx hb dL_law_396 rfl ?_
        refine lv_bipush (v := 32) hx hb dL_law_397 (by decide) ?_
        refine lv_lshl hx hb dL_law_399 rfl ?_
        refine lv_aload_n hx hb dL_law_400 rfl (lv_at hl 3 rfl) ?_
        refine lv_iload_n hx hb dL_law_401 rfl (lv_at hl 0 rfl) ?_
        refine lv_iconst (v := 5) hx hb dL_law_402 (by decide) ?_
        refine lv_iadd hx hb dL_law_403 ?_
        obtain ⟨hin, hQ⟩ := hQ
        refine va_sld hx hb hXs hbl hbA hw.2 hin dL_law_404 ?_
        refine lv_i2l hx hb dL_law_405 rfl ?_
        refine lv_ldc2 (v := 4294967295) hx hb hown (hts _ twl_RL_13) dL_law_406 ?_
        refine lv_land hx hb dL_law_409 ?_
        refine lv_lor hx hb dL_law_410 ?_
        refine k_X9_start F hw hl hA2 hQ twm_RL_28 (Nat.le_of_ble_eq_true rfl) (Nat.le_of_ble_eq_true rfl) (Nat.le_of_ble_eq_true rfl) dL_law_411 (show (cl18 + 0) + 0 ≤ 600000 from by omega) (show (sl18 + 0) + 0 ≤ 7302250 from by omega) (fun r25 S24 H locs hQ hw hx1 => ?_)
        have hX := hX.trans hx1
        have hA2 := hA2.ext hx1
        have hA1 := hA1.ext hx1
        refine lv_icmp_eq (tgt := 1366) hx hb dL_law_414 (by decide) (fun hc => ?_) (fun hc => ?_)
        · have hQ := hQ.1 hc
          obtain ⟨v26, ev26⟩ : ∃ y : Int32, y = x3_18 + (6 : Int32) := ⟨_, rfl⟩
          have hQ := hQ v26 ev26
          refine lv_iinc (v := v26) (lv' := [(3, .int v26), (2, .ref a2), (1, .ref a1), (0, .ref b)]) hx hb dL_law_1366 hl (k := 0) rfl (by rw [ev26]; rfl) (by decide) rfl (fun ls hl => ?_)
          refine lv_goto (tgt := 18) hx hb dL_law_1369 (by decide) ?_
          exact ih18 v26 S24 _ _ _ _ _ _ _ hQ hw hA1 hA2 (lv_sub hl [0, 1, 2, 3] rfl) (by omega) (by omega)
        · have hQ := hQ.2 hc
          refine lv_iconst (v := 0) hx hb dL_law_417 (by decide) ?_
          exact False.elim hQ
      · have hQ := hQ.2.2.2.2.1 hc
        refine lv_tableIn (tgt := 419) hx hb dL_law_33 (by omega) (by omega) (by rw [hc]; rfl) (by decide) ?_
        refine lv_aload_n hx hb dL_law_419 rfl (lv_at hl 2 rfl) ?_
        refine lv_aload_n hx hb dL_law_420 rfl (lv_at hl 3 rfl) ?_
        refine lv_iload_n hx hb dL_law_421 rfl (lv_at hl 0 rfl) ?_
        refine lv_iconst (v := 1) hx hb dL_law_422 (by decide) ?_
        refine lv_iadd hx hb dL_law_423 ?_
        obtain ⟨hin, hQ⟩ := hQ
        refine va_sld hx hb hXs hbl hbA hw.2 hin dL_law_424 ?_
        refine lv_aload_n hx hb dL_law_425 rfl (lv_at hl 3 rfl) ?_
        refine lv_iload_n hx hb dL_law_426 rfl (lv_at hl 0 rfl) ?_
        refine lv_iconst (v := 2) hx hb dL_law_427 (by decide) ?_
        refine lv_iadd hx hb dL_law_428 ?_
        obtain ⟨hin, hQ⟩ := hQ
        refine va_sld hx hb hXs hbl hbA hw.2 hin dL_law_429 ?_
        refine lv_i2l hx hb dL_law_430 rfl ?_
        refine lv_bipush (v := 32) hx hb dL_law_431 (by decide) ?_
        refine lv_lshl hx hb dL_law_433 rfl ?_
        refine lv_aload_n hx hb dL_law_434 rfl (lv_at hl 3 rfl) ?_
        refine lv_iload_n hx hb dL_law_435 rfl (lv_at hl 0 rfl) ?_
        refine lv_iconst (v := 3) hx hb dL_law_436 (by decide) ?_
        refine lv_iadd hx hb dL_law_437 ?_
        obtain ⟨hin, hQ⟩ := hQ
        refine va_sld hx hb hXs hbl hbA hw.2 hin dL_law_438 ?_
        refine lv_i2l hx hb dL_law_439 rfl ?_
        refine lv_ldc2 (v := 4294967295) hx hb hown (hts _ twl_RL_13) dL_law_440 ?_
        refine lv_land hx hb dL_law_443 ?_
        refine lv_lor hx hb dL_law_444 ?_
        refine k_X8_press F hw hl hA1 hQ twm_RL_29 (Nat.le_of_ble_eq_true rfl) (Nat.le_of_ble_eq_true rfl) (Nat.le_of_ble_eq_true rfl) dL_law_445 (show cl18 + 0 ≤ 600000 from by omega) (show sl18 + 0 ≤ 7302250 from by omega) (fun r28 S27 H locs hQ hw hx1 => ?_)
        have hX := hX.trans hx1
        have hA2 := hA2.ext hx1
        have hA1 := hA1.ext hx1
        refine lv_aload_n hx hb dL_law_448 rfl (lv_at hl 1 rfl) ?_
        refine lv_aload_n hx hb dL_law_449 rfl (lv_at hl 3 rfl) ?_
        refine lv_iload_n hx hb dL_law_450 rfl (lv_at hl 0 rfl) ?_
        refine lv_iconst (v := 1) hx hb dL_law_451 (by decide) ?_
        refine lv_iadd hx hb dL_law_452 ?_
        obtain ⟨hin, hQ⟩ := hQ
        refine va_sld hx hb hXs hbl hbA hw.2 hin dL_law_453 ?_
        refine lv_aload_n hx hb dL_law_454 rfl (lv_at hl 3 rfl) ?_
        refine lv_iload_n hx hb dL_law_455 rfl (lv_at hl 0 rfl) ?_
        refine lv_iconst (v := 2) hx hb dL_law_456 (by decide) ?_
        refine lv_iadd hx hb dL_law_457 ?_
        obtain ⟨hin, hQ⟩ := hQ
        refine va_sld hx hb hXs hbl hbA hw.2 hin dL_law_458 ?_
        refine lv_i2l hx hb dL_law_459 rfl ?_
        refine lv_bipush (v := 32) hx hb dL_law_460 (by decide) ?_
        refine lv_lshl hx hb dL_law_462 rfl ?_
        refine lv_aload_n hx hb dL_law_463 rfl (lv_at hl 3 rfl) ?_
        refine lv_iload_n hx hb dL_law_464 rfl (lv_at hl 0 rfl) ?_
        refine lv_iconst (v := 3) hx hb dL_law_465 (by decide) ?_
        refine lv_iadd hx hb dL_law_466 ?_
        obtain ⟨hin, hQ⟩ := hQ
        refine va_sld hx hb hXs hbl hbA hw.2 hin dL_law_467 ?_
        refine lv_i2l hx hb dL_law_468 rfl ?_
        refine lv_ldc2 (v := 4294967295) hx hb hown (hts _ twl_RL_13) dL_law_469 ?_
        refine lv_land hx hb dL_law_472 ?_
        refine lv_lor hx hb dL_law_473 ?_
        refine k_X9_press F hw hl hA2 hQ twm_RL_33 (Nat.le_of_ble_eq_true rfl) (Nat.le_of_ble_eq_true rfl) (Nat.le_of_ble_eq_true rfl) dL_law_474 (show (cl18 + 0) + 0 ≤ 600000 from by omega) (show (sl18 + 0) + 0 ≤ 7302250 from by omega) (fun r30 S29 H locs hQ hw hx1 => ?_)
        have hX := hX.trans hx1
        have hA2 := hA2.ext hx1
        have hA1 := hA1.ext hx1
        refine lv_icmp_eq (tgt := 1366) hx hb dL_law_477 (by decide) (fun hc => ?_) (fun hc => ?_)
        · have hQ := hQ.1 hc
          obtain ⟨v31, ev31⟩ : ∃ y : Int32, y = x3_18 + (6 : Int32) := ⟨_, rfl⟩
          have hQ := hQ v31 ev31
          refine lv_iinc (v := v31) (lv' := [(3, .int v31), (2, .ref a2), (1, .ref a1), (0, .ref b)]) hx hb dL_law_1366 hl (k := 0) rfl (by rw [ev31]; rfl) (by decide) rfl (fun ls hl => ?_)
          refine lv_goto (tgt := 18) hx hb dL_law_1369 (by decide) ?_
          exact ih18 v31 S29 _ _ _ _ _ _ _ hQ hw hA1 hA2 (lv_sub hl [0, 1, 2, 3] rfl) (by omega) (by omega)
        · have hQ := hQ.2 hc
          refine lv_iconst (v := 0) hx hb dL_law_480 (by decide) ?_
          exact False.elim hQ
      · have hQ := hQ.2.2.2.2.2.1 hc
        refine lv_tableIn (tgt := 482) hx hb dL_law_33 (by omega) (by omega) (by rw [hc]; rfl) (by decide) ?_
        refine lv_aload_n hx hb dL_law_482 rfl (lv_at hl 2 rfl) ?_
        refine lv_aload_n hx hb dL_law_483 rfl (lv_at hl 3 rfl) ?_
        refine lv_iload_n hx hb dL_law_484 rfl (lv_at hl 0 rfl) ?_
        refine lv_iconst (v := 1) hx hb dL_law_485 (by decide) ?_
        refine lv_iadd hx hb dL_law_486 ?_
        obtain ⟨hin, hQ⟩ := hQ
        refine va_sld hx hb hXs hbl hbA hw.2 hin dL_law_487 ?_
        refine lv_aload_n hx hb dL_law_488 rfl (lv_at hl 3 rfl) ?_
        refine lv_iload_n hx hb dL_law_489 rfl (lv_at hl 0 rfl) ?_
        refine lv_iconst (v := 2) hx hb dL_law_490 (by decide) ?_
        refine lv_iadd hx hb dL_law_491 ?_
        obtain ⟨hin, hQ⟩ := hQ
        refine va_sld hx hb hXs hbl hbA hw.2 hin dL_law_492 ?_
        refine lv_i2l hx hb dL_law_493 rfl ?_
        refine lv_bipush (v := 32) hx hb dL_law_494 (by decide) ?_
        refine lv_lshl hx hb dL_law_496 rfl ?_
        refine lv_aload_n hx hb dL_law_497 rfl (lv_at hl 3 rfl) ?_
        refine lv_iload_n hx hb dL_law_498 rfl (lv_at hl 0 rfl) ?_
        refine lv_iconst (v := 3) hx hb dL_law_499 (by decide) ?_
        refine lv_iadd hx hb dL_law_500 ?_
        obtain ⟨hin, hQ⟩ := hQ
        refine va_sld hx hb hXs hbl hbA hw.2 hin dL_law_501 ?_
        refine lv_i2l hx hb dL_law_502 rfl ?_
        refine lv_ldc2 (v := 4294967295) hx hb hown (hts _ twl_RL_13) dL_law_503 ?_
        refine lv_land hx hb dL_law_506 ?_
        refine lv_lor hx hb dL_law_507 ?_
        refine k_X8_delay F hw hl hA1 hQ twm_RL_34 (Nat.le_of_ble_eq_true rfl) (Nat.le_of_ble_eq_true rfl) (Nat.le_of_ble_eq_true rfl) dL_law_508 (show cl18 + 0 ≤ 600000 from by omega) (show sl18 + 0 ≤ 7302250 from by omega) (fun r33 S32 H locs hQ hw hx1 => ?_)
        have hX := hX.trans hx1
        have hA2 := hA2.ext hx1
        have hA1 := hA1.ext hx1
        refine lv_aload_n hx hb dL_law_511 rfl (lv_at hl 1 rfl) ?_
        refine lv_aload_n hx hb dL_law_512 rfl (lv_at hl 3 rfl) ?_
        refine lv_iload_n hx hb dL_law_513 rfl (lv_at hl 0 rfl) ?_
        refine lv_iconst (v := 1) hx hb dL_law_514 (by decide) ?_
        refine lv_iadd hx hb dL_law_515 ?_
        obtain ⟨hin, hQ⟩ := hQ
        refine va_sld hx hb hXs hbl hbA hw.2 hin dL_law_516 ?_
        refine lv_aload_n hx hb dL_law_517 rfl (lv_at hl 3 rfl) ?_
        refine lv_iload_n hx hb dL_law_518 rfl (lv_at hl 0 rfl) ?_
        refine lv_iconst (v := 2) hx hb dL_law_519 (by decide) ?_
        refine lv_iadd hx hb dL_law_520 ?_
        obtain ⟨hin, hQ⟩ := hQ
        refine va_sld hx hb hXs hbl hbA hw.2 hin dL_law_521 ?_
        refine lv_i2l hx hb dL_law_522 rfl ?_
        refine lv_bipush (v := 32) hx hb dL_law_523 (by decide) ?_
        refine lv_lshl hx hb dL_law_525 rfl ?_
        refine lv_aload_n hx hb dL_law_526 rfl (lv_at hl 3 rfl) ?_
        refine lv_iload_n hx hb dL_law_527 rfl (lv_at hl 0 rfl) ?_
        refine lv_iconst (v := 3) hx hb dL_law_528 (by decide) ?_
        refine lv_iadd hx hb dL_law_529 ?_
        obtain ⟨hin, hQ⟩ := hQ
        refine va_sld hx hb hXs hbl hbA hw.2 hin dL_law_530 ?_
        refine lv_i2l hx hb dL_law_531 rfl ?_
        refine lv_ldc2 (v := 4294967295) hx hb hown (hts _ twl_RL_13) dL_law_532 ?_
        refine lv_land hx hb dL_law_535 ?_
        refine lv_lor hx hb dL_law_536 ?_
        refine k_X9_delay F hw hl hA2 hQ twm_RL_37 (Nat.le_of_ble_eq_true rfl) (Nat.le_of_ble_eq_true rfl) (Nat.le_of_ble_eq_true rfl) dL_law_537 (show (cl18 + 0) + 0 ≤ 600000 from by omega) (show (sl18 + 0) + 0 ≤ 7302250 from by omega) (fun r35 S34 H locs hQ hw hx1 => ?_)
        have hX := hX.trans hx1
        have hA2 := hA2.ext hx1
        have hA1 := hA1.ext hx1
        refine lv_icmp_eq (tgt := 1366) hx hb dL_law_540 (by decide) (fun hc => ?_) (fun hc => ?_)
        · have hQ := hQ.1 hc
          obtain ⟨v36, ev36⟩ : ∃ y : Int32, y = x3_18 + (6 : Int32) := ⟨_, rfl⟩
          have hQ := hQ v36 ev36
          refine lv_iinc (v := v36) (lv' := [(3, .int v36), (2, .ref a2), (1, .ref a1), (0, .ref b)]) hx hb dL_law_1366 hl (k := 0) rfl (by rw [ev36]; rfl) (by decide) rfl (fun ls hl => ?_)
          refine lv_goto (tgt := 18) hx hb dL_law_1369 (by decide) ?_
          exact ih18 v36 S34 _ _ _ _ _ _ _ hQ hw hA1 hA2 (lv_sub hl [0, 1, 2, 3] rfl) (by omega) (by omega)
        · have hQ := hQ.2 hc
          refine lv_iconst (v := 0) hx hb dL_law_543 (by decide) ?_
          exact False.elim hQ
      · have hQ := hQ.2.2.2.2.2.2.1 hc
        refine lv_tableIn (tgt := 545) hx hb dL_law_33 (by omega) (by omega) (by rw [hc]; rfl) (by decide) ?_
        refine lv_aload_n hx hb dL_law_545 rfl (lv_at hl 2 rfl) ?_
        refine lv_aload_n hx hb dL_law_546 rfl (lv_at hl 3 rfl) ?_
        refine lv_iload_n hx hb dL_law_547 rfl (lv_at hl 0 rfl) ?_
        refine lv_iconst (v := 1) hx hb dL_law_548 (by decide) ?_
        refine lv_iadd hx hb dL_law_549 ?_
        obtain ⟨hin, hQ⟩ := hQ
        refine va_sld hx hb hXs hbl hbA hw.2 hin dL_law_550 ?_
        refine lv_i2l hx hb dL_law_551 rfl ?_
        refine lv_bipush (v := 32) hx hb dL_law_552 (by decide) ?_
        refine lv_lshl hx hb dL_law_554 rfl ?_
        refine lv_aload_n hx hb dL_law_555 rfl (lv_at hl 3 rfl) ?_
        refine lv_iload_n hx hb dL_law_556 rfl (lv_at hl 0 rfl) ?_
        refine lv_iconst (v := 2) hx hb dL_law_557 (by decide) ?_
        refine lv_iadd hx hb dL_law_558 ?_
        obtain ⟨hin, hQ⟩ := hQ
        refine va_sld hx hb hXs hbl hbA hw.2 hin dL_law_559 ?_
        refine lv_i2l hx hb dL_law_560 rfl ?_
        refine lv_ldc2 (v := 4294967295) hx hb hown (hts _ twl_RL_13) dL_law_561 ?_
        refine lv_land hx hb dL_law_564 ?_
        refine lv_lor hx hb dL_law_565 ?_
        refine k_X8_tick F hw hl hA1 hQ twm_RL_38 (Nat.le_of_ble_eq_true rfl) (Nat.le_of_ble_eq_true rfl) (Nat.le_of_ble_eq_true rfl) dL_law_566 (show cl18 + 62 ≤ 600000 from by omega) (show sl18 + 310 ≤ 7302250 from by omega) (fun r38 S37 H locs hQ hw hx1 => ?_)
        have hX := hX.trans hx1
        have hA2 := hA2.ext hx1
        have hA1 := hA1.ext hx1
        refine lv_aload_n hx hb dL_law_569 rfl (lv_at hl 1 rfl) ?_
        refine lv_aload_n hx hb dL_law_570 rfl (lv_at hl 3 rfl) ?_
        refine lv_iload_n hx hb dL_law_571 rfl (lv_at hl 0 rfl) ?_
        refine lv_iconst (v := 1) hx hb dL_law_572 (by decide) ?_
        refine lv_iadd hx hb dL_law_573 ?_
        obtain ⟨hin, hQ⟩ := hQ
        refine va_sld hx hb hXs hbl hbA hw.2 hin dL_law_574 ?_
        refine lv_i2l hx hb dL_law_575 rfl ?_
        refine lv_bipush (v := 32) hx hb dL_law_576 (by decide) ?_
        refine lv_lshl hx hb dL_law_578 rfl ?_
        refine lv_aload_n hx hb dL_law_579 rfl (lv_at hl 3 rfl) ?_
        refine lv_iload_n hx hb dL_law_580 rfl (lv_at hl 0 rfl) ?_
        refine lv_iconst (v := 2) hx hb dL_law_581 (by decide) ?_
        refine lv_iadd hx hb dL_law_582 ?_
        obtain ⟨hin, hQ⟩ := hQ
        refine va_sld hx hb hXs hbl hbA hw.2 hin dL_law_583 ?_
        refine lv_i2l hx hb dL_law_584 rfl ?_
        refine lv_ldc2 (v := 4294967295) hx hb hown (hts _ twl_RL_13) dL_law_585 ?_
        refine lv_land hx hb dL_law_588 ?_
        refine lv_lor hx hb dL_law_589 ?_
        refine k_X9_tick F hw hl hA2 hQ twm_RL_41 (Nat.le_of_ble_eq_true rfl) (Nat.le_of_ble_eq_true rfl) (Nat.le_of_ble_eq_true rfl) dL_law_590 (show (cl18 + 62) + 0 ≤ 600000 from by omega) (show (sl18 + 310) + 0 ≤ 7302250 from by omega) (fun r40 S39 H locs hQ hw hx1 => ?_)
        have hX := hX.trans hx1
        have hA2 := hA2.ext hx1
        have hA1 := hA1.ext hx1
        refine lv_icmp_eq (tgt := 1366) hx hb dL_law_593 (by decide) (fun hc => ?_) (fun hc => ?_)
        · have hQ := hQ.1 hc
          obtain ⟨v41, ev41⟩ : ∃ y : Int32, y = x3_18 + (6 : Int32) := ⟨_, rfl⟩
          have hQ := hQ v41 ev41
          refine lv_iinc (v := v41) (lv' := [(3, .int v41), (2, .ref a2), (1, .ref a1), (0, .ref b)]) hx hb dL_law_1366 hl (k := 0) rfl (by rw [ev41]; rfl) (by decide) rfl (fun ls hl => ?_)
          refine lv_goto (tgt := 18) hx hb dL_law_1369 (by decide) ?_
          exact ih18 v41 S39 _ _ _ _ _ _ _ hQ hw hA1 hA2 (lv_sub hl [0, 1, 2, 3] rfl) (by omega) (by omega)
        · have hQ := hQ.2 hc
          refine lv_iconst (v := 0) hx hb dL_law_596 (by decide) ?_
          exact False.elim hQ
      · have hQ := hQ.2.2.2.2.2.2.2.1 hc
        refine lv_tableIn (tgt := 598) hx hb dL_law_33 (by omega) (by omega) (by rw [hc]; rfl) (by decide) ?_
        refine lv_aload_n hx hb dL_law_598 rfl (lv_at hl 2 rfl) ?_
        refine lv_aload_n hx hb dL_law_599 rfl (lv_at hl 3 rfl) ?_
        refine lv_iload_n hx hb dL_law_600 rfl (lv_at hl 0 rfl) ?_
        refine lv_iconst (v := 1) hx hb dL_law_601 (by decide) ?_
        refine lv_iadd hx hb dL_law_602 ?_
        obtain ⟨hin, hQ⟩ := hQ
        refine va_sld hx hb hXs hbl hbA hw.2 hin dL_law_603 ?_
        refine k_X8_winner F hw hl hA1 hQ twm_RL_42 (Nat.le_of_ble_eq_true rfl) (Nat.le_of_ble_eq_true rfl) (Nat.le_of_ble_eq_true rfl) dL_law_604 (show cl18 + 0 ≤ 600000 from by omega) (show sl18 + 0 ≤ 7302250 from by omega) (fun r43 S42 H locs hQ hw hx1 => ?_)
        have hX := hX.trans hx1
        have hA2 := hA2.ext hx1
        have hA1 := hA1.ext hx1
        refine lv_aload_n hx hb dL_law_607 rfl (lv_at hl 1 rfl) ?_
        refine lv_aload_n hx hb dL_law_608 rfl (lv_at hl 3 rfl) ?_
        refine lv_iload_n hx hb dL_law_609 rfl (lv_at hl 0 rfl) ?_
        refine lv_iconst (v := 1) hx hb dL_law_610 (by decide) ?_
        refine lv_iadd hx hb dL_law_611 ?_
        obtain ⟨hin, hQ⟩ := hQ
        refine va_sld hx hb hXs hbl hbA hw.2 hin dL_law_612 ?_
        refine k_X9_winner F hw hl hA2 hQ twm_RL_46 (Nat.le_of_ble_eq_true rfl) (Nat.le_of_ble_eq_true rfl) (Nat.le_of_ble_eq_true rfl) dL_law_613 (show (cl18 + 0) + 0 ≤ 600000 from by omega) (show (sl18 + 0) + 0 ≤ 7302250 from by omega) (fun r45 S44 H locs hQ hw hx1 => ?_)
        have hX := hX.trans hx1
        have hA2 := hA2.ext hx1
        have hA1 := hA1.ext hx1
        refine lv_icmp_eq (tgt := 1366) hx hb dL_law_616 (by decide) (fun hc => ?_) (fun hc => ?_)
        · have hQ := hQ.1 hc
          obtain ⟨v46, ev46⟩ : ∃ y : Int32, y = x3_18 + (6 : Int32) := ⟨_, rfl⟩
          have hQ := hQ v46 ev46
          refine lv_iinc (v := v46) (lv' := [(3, .int v46), (2, .ref a2), (1, .ref a1), (0, .ref b)]) hx hb dL_law_1366 hl (k := 0) rfl (by rw [ev46]; rfl) (by decide) rfl (fun ls hl => ?_)
          refine lv_goto (tgt := 18) hx hb dL_law_1369 (by decide) ?_
          exact ih18 v46 S44 _ _ _ _ _ _ _ hQ hw hA1 hA2 (lv_sub hl [0, 1, 2, 3] rfl) (by omega) (by omega)
        · have hQ := hQ.2 hc
          refine lv_iconst (v := 0) hx hb dL_law_619 (by decide) ?_
          exact False.elim hQ
      · have hQ := hQ.2.2.2.2.2.2.2.2.1 hc
        refine lv_tableIn (tgt := 621) hx hb dL_law_33 (by omega) (by omega) (by rw [hc]; rfl) (by decide) ?_
        refine lv_aload_n hx hb dL_law_621 rfl (lv_at hl 2 rfl) ?_
        refine lv_aload_n hx hb dL_law_622 rfl (lv_at hl 3 rfl) ?_
        refine lv_iload_n hx hb dL_law_623 rfl (lv_at hl 0 rfl) ?_
        refine lv_iconst (v := 1) hx hb dL_law_624 (by decide) ?_
        refine lv_iadd hx hb dL_law_625 ?_
        obtain ⟨hin, hQ⟩ := hQ
        refine va_sld hx hb hXs hbl hbA hw.2 hin dL_law_626 ?_
        refine k_X8_price F hw hl hA1 hQ twm_RL_47 (Nat.le_of_ble_eq_true rfl) (Nat.le_of_ble_eq_true rfl) (Nat.le_of_ble_eq_true rfl) dL_law_627 (show cl18 + 0 ≤ 600000 from by omega) (show sl18 + 0 ≤ 7302250 from by omega) (fun r48 S47 H locs hQ hw hx1 => ?_)
        have hX := hX.trans hx1
        have hA2 := hA2.ext hx1
        have hA1 := hA1.ext hx1
        refine lv_aload_n hx hb dL_law_630 rfl (lv_at hl 1 rfl) ?_
        refine lv_aload_n hx hb dL_law_631 rfl (lv_at hl 3 rfl) ?_
        refine lv_iload_n hx hb dL_law_632 rfl (lv_at hl 0 rfl) ?_
        refine lv_iconst (v := 1) hx hb dL_law_633 (by decide) ?_
        refine lv_iadd hx hb dL_law_634 ?_
        obtain ⟨hin, hQ⟩ := hQ
        refine va_sld hx hb hXs hbl hbA hw.2 hin dL_law_635 ?_
        refine k_X9_price F hw hl hA2 hQ twm_RL_51 (Nat.le_of_ble_eq_true rfl) (Nat.le_of_ble_eq_true rfl) (Nat.le_of_ble_eq_true rfl) dL_law_636 (show (cl18 + 0) + 0 ≤ 600000 from by omega) (show (sl18 + 0) + 0 ≤ 7302250 from by omega) (fun r50 S49 H locs hQ hw hx1 => ?_)
        have hX := hX.trans hx1
        have hA2 := hA2.ext hx1
        have hA1 := hA1.ext hx1
        refine lc_eq (tgt := 1366) F dL_law_639 dL_law_640 (by decide) (fun hc => ?_) (fun hc => ?_)
        · have hQ := hQ.1 hc
          obtain ⟨v51, ev51⟩ : ∃ y : Int32, y = x3_18 + (6 : Int32) := ⟨_, rfl⟩
          have hQ := hQ v51 ev51
          refine lv_iinc (v := v51) (lv' := [(3, .int v51), (2, .ref a2), (1, .ref a1), (0, .ref b)]) hx hb dL_law_1366 hl (k := 0) rfl (by rw [ev51]; rfl) (by decide) rfl (fun ls hl => ?_)
          refine lv_goto (tgt := 18) hx hb dL_law_1369 (by decide) ?_
          exact ih18 v51 S49 _ _ _ _ _ _ _ hQ hw hA1 hA2 (lv_sub hl [0, 1, 2, 3] rfl) (by omega) (by omega)
        · have hQ := hQ.2 hc
          refine lv_iconst (v := 0) hx hb dL_law_643 (by decide) ?_
          exact False.elim hQ
      · have hQ := hQ.2.2.2.2.2.2.2.2.2.1 hc
        refine lv_tableIn (tgt := 645) hx hb dL_law_33 (by omega) (by omega) (by rw [hc]; rfl) (by decide) ?_
        refine lv_aload_n hx hb dL_law_645 rfl (lv_at hl 2 rfl) ?_
        refine lv_aload_n hx hb dL_law_646 rfl (lv_at hl 3 rfl) ?_
        refine lv_iload_n hx hb dL_law_647 rfl (lv_at hl 0 rfl) ?_
        refine lv_iconst (v := 1) hx hb dL_law_648 (by decide) ?_
        refine lv_iadd hx hb dL_law_649 ?_
        obtain ⟨hin, hQ⟩ := hQ
        refine va_sld hx hb hXs hbl hbA hw.2 hin dL_law_650 ?_
        refine lv_aload_n hx hb dL_law_651 rfl (lv_at hl 3 rfl) ?_
        refine lv_iload_n hx hb dL_law_652 rfl (lv_at hl 0 rfl) ?_
        refine lv_iconst (v := 2) hx hb dL_law_653 (by decide) ?_
        refine lv_iadd hx hb dL_law_654 ?_
        obtain ⟨hin, hQ⟩ := hQ
        refine va_sld hx hb hXs hbl hbA hw.2 hin dL_law_655 ?_
        refine lv_i2l hx hb dL_law_656 rfl ?_
        refine lv_bipush (v := 32) hx hb dL_law_657 (by decide) ?_
        refine lv_lshl hx hb dL_law_659 rfl ?_
        refine lv_aload_n hx hb dL_law_660 rfl (lv_at hl 3 rfl) ?_
        refine lv_iload_n hx hb dL_law_661 rfl (lv_at hl 0 rfl) ?_
        refine lv_iconst (v := 3) hx hb dL_law_662 (by decide) ?_
        refine lv_iadd hx hb dL_law_663 ?_
        obtain ⟨hin, hQ⟩ := hQ
        refine va_sld hx hb hXs hbl hbA hw.2 hin dL_law_664 ?_
        refine lv_i2l hx hb dL_law_665 rfl ?_
        refine lv_ldc2 (v := 4294967295) hx hb hown (hts _ twl_RL_13) dL_law_666 ?_
        refine lv_land hx hb dL_law_669 ?_
        refine lv_lor hx hb dL_law_670 ?_
        refine k_X8_part F hw hl hA1 hQ twm_RL_52 (Nat.le_of_ble_eq_true rfl) (Nat.le_of_ble_eq_true rfl) (Nat.le_of_ble_eq_true rfl) dL_law_671 (show cl18 + 2 ≤ 600000 from by omega) (show sl18 + 17 ≤ 7302250 from by omega) (fun r53 S52 H locs hQ hw hx1 => ?_)
        have hX := hX.trans hx1
        have hA2 := hA2.ext hx1
        have hA1 := hA1.ext hx1
        refine lv_aload_n hx hb dL_law_674 rfl (lv_at hl 1 rfl) ?_
        refine lv_aload_n hx hb dL_law_675 rfl (lv_at hl 3 rfl) ?_
        refine lv_iload_n hx hb dL_law_676 rfl (lv_at hl 0 rfl) ?_
        refine lv_iconst (v := 1) hx hb dL_law_677 (by decide) ?_
        refine lv_iadd hx hb dL_law_678 ?_
        obtain ⟨hin, hQ⟩ := hQ
        refine va_sld hx hb hXs hbl hbA hw.2 hin dL_law_679 ?_
        refine lv_aload_n hx hb dL_law_680 rfl (lv_at hl 3 rfl) ?_
        refine lv_iload_n hx hb dL_law_681 rfl (lv_at hl 0 rfl) ?_
        refine lv_iconst (v := 2) hx hb dL_law_682 (by decide) ?_
        refine lv_iadd hx hb dL_law_683 ?_
        obtain ⟨hin, hQ⟩ := hQ
        refine va_sld hx hb hXs hbl hbA hw.2 hin dL_law_684 ?_
        refine lv_i2l hx hb dL_law_685 rfl ?_
        refine lv_bipush (v := 32) hx hb dL_law_686 (by decide) ?_
        refine lv_lshl hx hb dL_law_688 rfl ?_
        refine lv_aload_n hx hb dL_law_689 rfl (lv_at hl 3 rfl) ?_
        refine lv_iload_n hx hb dL_law_690 rfl (lv_at hl 0 rfl) ?_
        refine lv_iconst (v := 3) hx hb dL_law_691 (by decide) ?_
        refine lv_iadd hx hb dL_law_692 ?_
        obtain ⟨hin, hQ⟩ := hQ
        refine va_sld hx hb hXs hbl hbA hw.2 hin dL_law_693 ?_
        refine lv_i2l hx hb dL_law_694 rfl ?_
        refine lv_ldc2 (v := 4294967295) hx hb hown (hts _ twl_RL_13) dL_law_695 ?_
        refine lv_land hx hb dL_law_698 ?_
        refine lv_lor hx hb dL_law_699 ?_
        refine k_X9_part F hw hl hA2 hQ twm_RL_56 (Nat.le_of_ble_eq_true rfl) (Nat.le_of_ble_eq_true rfl) (Nat.le_of_ble_eq_true rfl) dL_law_700 (show (cl18 + 2) + 0 ≤ 600000 from by omega) (show (sl18 + 17) + 0 ≤ 7302250 from by omega) (fun r55 S54 H locs hQ hw hx1 => ?_)
        have hX := hX.trans hx1
        have hA2 := hA2.ext hx1
        have hA1 := hA1.ext hx1
        refine lv_icmp_eq (tgt := 1366) hx hb dL_law_703 (by decide) (fun hc => ?_) (fun hc => ?_)
        · have hQ := hQ.1 hc
          obtain ⟨v56, ev56⟩ : ∃ y : Int32, y = x3_18 + (6 : Int32) := ⟨_, rfl⟩
          have hQ := hQ v56 ev56
          refine lv_iinc (v := v56) (lv' := [(3, .int v56), (2, .ref a2), (1, .ref a1), (0, .ref b)]) hx hb dL_law_1366 hl (k := 0) rfl (by rw [ev56]; rfl) (by decide) rfl (fun ls hl => ?_)
          refine lv_goto (tgt := 18) hx hb dL_law_1369 (by decide) ?_
          exact ih18 v56 S54 _ _ _ _ _ _ _ hQ hw hA1 hA2 (lv_sub hl [0, 1, 2, 3] rfl) (by omega) (by omega)
        · have hQ := hQ.2 hc
          refine lv_iconst (v := 0) hx hb dL_law_706 (by decide) ?_
          exact False.elim hQ
      · have hQ := hQ.2.2.2.2.2.2.2.2.2.2.1 hc
        refine lv_tableIn (tgt := 708) hx hb dL_law_33 (by omega) (by omega) (by rw [hc]; rfl) (by decide) ?_
        refine lv_aload_n hx hb dL_law_708 rfl (lv_at hl 2 rfl) ?_
        refine lv_aload_n hx hb dL_law_709 rfl (lv_at hl 3 rfl) ?_
        refine lv_iload_n hx hb dL_law_710 rfl (lv_at hl 0 rfl) ?_
        refine lv_iconst (v := 1) hx hb dL_law_711 (by decide) ?_
        refine lv_iadd hx hb dL_law_712 ?_
        obtain ⟨hin, hQ⟩ := hQ
        refine va_sld hx hb hXs hbl hbA hw.2 hin dL_law_713 ?_
        refine k_X8_left F hw hl hA1 hQ twm_RL_57 (Nat.le_of_ble_eq_true rfl) (Nat.le_of_ble_eq_true rfl) (Nat.le_of_ble_eq_true rfl) dL_law_714 (show cl18 + 0 ≤ 600000 from by omega) (show sl18 + 0 ≤ 7302250 from by omega) (fun r58 S57 H locs hQ hw hx1 => ?_)
        have hX := hX.trans hx1
        have hA2 := hA2.ext hx1
        have hA1 := hA1.ext hx1
        refine lv_aload_n hx hb dL_law_717 rfl (lv_at hl 1 rfl) ?_
        refine lv_aload_n hx hb dL_law_718 rfl (lv_at hl 3 rfl) ?_
        refine lv_iload_n hx hb dL_law_719 rfl (lv_at hl 0 rfl) ?_
        refine lv_iconst (v := 1) hx hb dL_law_720 (by decide) ?_
        refine lv_iadd hx hb dL_law_721 ?_
        obtain ⟨hin, hQ⟩ := hQ
        refine va_sld hx hb hXs hbl hbA hw.2 hin dL_law_722 ?_
        refine k_X9_left F hw hl hA2 hQ twm_RL_60 (Nat.le_of_ble_eq_true rfl) (Nat.le_of_ble_eq_true rfl) (Nat.le_of_ble_eq_true rfl) dL_law_723 (show (cl18 + 0) + 0 ≤ 600000 from by omega) (show (sl18 + 0) + 0 ≤ 7302250 from by omega) (fun r60 S59 H locs hQ hw hx1 => ?_)
        have hX := hX.trans hx1
        have hA2 := hA2.ext hx1
        have hA1 := hA1.ext hx1
        refine lc_eq (tgt := 1366) F dL_law_726 dL_law_727 (by decide) (fun hc => ?_) (fun hc => ?_)
        · have hQ := hQ.1 hc
          obtain ⟨v61, ev61⟩ : ∃ y : Int32, y = x3_18 + (6 : Int32) := ⟨_, rfl⟩
          have hQ := hQ v61 ev61
          refine lv_iinc (v := v61) (lv' := [(3, .int v61), (2, .ref a2), (1, .ref a1), (0, .ref b)]) hx hb dL_law_1366 hl (k := 0) rfl (by rw [ev61]; rfl) (by decide) rfl (fun ls hl => ?_)
          refine lv_goto (tgt := 18) hx hb dL_law_1369 (by decide) ?_
          exact ih18 v61 S59 _ _ _ _ _ _ _ hQ hw hA1 hA2 (lv_sub hl [0, 1, 2, 3] rfl) (by omega) (by omega)
        · have hQ := hQ.2 hc
          refine lv_iconst (v := 0) hx hb dL_law_730 (by decide) ?_
          exact False.elim hQ
      · have hQ := hQ.2.2.2.2.2.2.2.2.2.2.2.1 hc
        refine lv_tableIn (tgt := 732) hx hb dL_law_33 (by omega) (by omega) (by rw [hc]; rfl) (by decide) ?_
        refine lv_aload_n hx hb dL_law_732 rfl (lv_at hl 2 rfl) ?_
        refine lv_aload_n hx hb dL_law_733 rfl (lv_at hl 3 rfl) ?_
        refine lv_iload_n hx hb dL_law_734 rfl (lv_at hl 0 rfl) ?_
        refine lv_iconst (v := 1) hx hb dL_law_735 (by decide) ?_
        refine lv_iadd hx hb dL_law_736 ?_
        obtain ⟨hin, hQ⟩ := hQ
        refine va_sld hx hb hXs hbl hbA hw.2 hin dL_law_737 ?_
        refine lv_i2l hx hb dL_law_738 rfl ?_
        refine lv_bipush (v := 32) hx hb dL_law_739 (by decide) ?_
        refine lv_lshl hx hb dL_law_741 rfl ?_
        refine lv_aload_n hx hb dL_law_742 rfl (lv_at hl 3 rfl) ?_
        refine lv_iload_n hx hb dL_law_743 rfl (lv_at hl 0 rfl) ?_
        refine lv_iconst (v := 2) hx hb dL_law_744 (by decide) ?_
        refine lv_iadd hx hb dL_law_745 ?_
        obtain ⟨hin, hQ⟩ := hQ
        refine va_sld hx hb hXs hbl hbA hw.2 hin dL_law_746 ?_
        refine lv_i2l hx hb dL_law_747 rfl ?_
        refine lv_ldc2 (v := 4294967295) hx hb hown (hts _ twl_RL_13) dL_law_748 ?_
        refine lv_land hx hb dL_law_751 ?_
        refine lv_lor hx hb dL_law_752 ?_
        refine lv_aload_n hx hb dL_law_753 rfl (lv_at hl 3 rfl) ?_
        refine lv_iload_n hx hb dL_law_754 rfl (lv_at hl 0 rfl) ?_
        refine lv_iconst (v := 3) hx hb dL_law_755 (by decide) ?_
        refine lv_iadd hx hb dL_law_756 ?_
        obtain ⟨hin, hQ⟩ := hQ
        refine va_sld hx hb hXs hbl hbA hw.2 hin dL_law_757 ?_
        refine lv_if_eq (tgt := 765) hx hb dL_law_758 (by decide) (fun hc => ?_) (fun hc => ?_)
        · have hQ := hQ.1 hc
          refine lv_iconst (v := 0) hx hb dL_law_765 (by decide) ?_
          refine k_X8_outage F hw hl hA1 hQ twm_RL_61 (Nat.le_of_ble_eq_true rfl) (Nat.le_of_ble_eq_true rfl) (Nat.le_of_ble_eq_true rfl) dL_law_766 (show cl18 + 0 ≤ 600000 from by omega) (show sl18 + 0 ≤ 7302250 from by omega) (fun r63 S62 H locs hQ hw hx1 => ?_)
          have hX := hX.trans hx1
          have hA2 := hA2.ext hx1
          have hA1 := hA1.ext hx1
          refine lv_aload_n hx hb dL_law_769 rfl (lv_at hl 1 rfl) ?_
          refine lv_aload_n hx hb dL_law_770 rfl (lv_at hl 3 rfl) ?_
          refine lv_iload_n hx hb dL_law_771 rfl (lv_at hl 0 rfl) ?_
          refine lv_iconst (v := 1) hx hb dL_law_772 (by decide) ?_
          refine lv_iadd hx hb dL_law_773 ?_
          obtain ⟨hin, hQ⟩ := hQ
          refine va_sld hx hb hXs hbl hbA hw.2 hin dL_law_774 ?_
          refine lv_i2l hx hb dL_law_775 rfl ?_
          refine lv_bipush (v := 32) hx hb dL_law_776 (by decide) ?_
          refine lv_lshl hx hb dL_law_778 rfl ?_
          refine lv_aload_n hx hb dL_law_779 rfl (lv_at hl 3 rfl) ?_
          refine lv_iload_n hx hb dL_law_780 rfl (lv_at hl 0 rfl) ?_
          refine lv_iconst (v := 2) hx hb dL_law_781 (by decide) ?_
          refine lv_iadd hx hb dL_law_782 ?_
          obtain ⟨hin, hQ⟩ := hQ
          refine va_sld hx hb hXs hbl hbA hw.2 hin dL_law_783 ?_
          refine lv_i2l hx hb dL_law_784 rfl ?_
          refine lv_ldc2 (v := 4294967295) hx hb hown (hts _ twl_RL_13) dL_law_785 ?_
          refine lv_land hx hb dL_law_788 ?_
          refine lv_lor hx hb dL_law_789 ?_
          refine lv_aload_n hx hb dL_law_790 rfl (lv_at hl 3 rfl) ?_
          refine lv_iload_n hx hb dL_law_791 rfl (lv_at hl 0 rfl) ?_
          refine lv_iconst (v := 3) hx hb dL_law_792 (by decide) ?_
          refine lv_iadd hx hb dL_law_793 ?_
          obtain ⟨hin, hQ⟩ := hQ
          refine va_sld hx hb hXs hbl hbA hw.2 hin dL_law_794 ?_
          refine lv_if_eq (tgt := 802) hx hb dL_law_795 (by decide) (fun hc => ?_) (fun hc => ?_)
          · have hQ := hQ.1 hc
            refine lv_iconst (v := 0) hx hb dL_law_802 (by decide) ?_
            refine k_X9_outage F hw hl hA2 hQ twm_RL_65 (Nat.le_of_ble_eq_true rfl) (Nat.le_of_ble_eq_true rfl) (Nat.le_of_ble_eq_true rfl) dL_law_803 (show (cl18 + 0) + 0 ≤ 600000 from by omega) (show (sl18 + 0) + 0 ≤ 7302250 from by omega) (fun r65 S64 H locs hQ hw hx1 => ?_)
            have hX := hX.trans hx1
            have hA2 := hA2.ext hx1
            have hA1 := hA1.ext hx1
            refine lv_icmp_eq (tgt := 1366) hx hb dL_law_806 (by decide) (fun hc => ?_) (fun hc => ?_)
            · have hQ := hQ.1 hc
              obtain ⟨v66, ev66⟩ : ∃ y : Int32, y = x3_18 + (6 : Int32) := ⟨_, rfl⟩
              have hQ := hQ v66 ev66
              refine lv_iinc (v := v66) (lv' := [(3, .int v66), (2, .ref a2), (1, .ref a1), (0, .ref b)]) hx hb dL_law_1366 hl (k := 0) rfl (by rw [ev66]; rfl) (by decide) rfl (fun ls hl => ?_)
              refine lv_goto (tgt := 18) hx hb dL_law_1369 (by decide) ?_
              exact ih18 v66 S64 _ _ _ _ _ _ _ hQ hw hA1 hA2 (lv_sub hl [0, 1, 2, 3] rfl) (by omega) (by omega)
            · have hQ := hQ.2 hc
              refine lv_iconst (v := 0) hx hb dL_law_809 (by decide) ?_
              exact False.elim hQ
          · have hQ := hQ.2 hc
            refine lv_iconst (v := 1) hx hb dL_law_798 (by decide) ?_
            refine lv_goto (tgt := 803) hx hb dL_law_799 (by decide) ?_
            refine k_X9_outage F hw hl hA2 hQ twm_RL_65 (Nat.le_of_ble_eq_true rfl) (Nat.le_of_ble_eq_true rfl) (Nat.le_of_ble_eq_true rfl) dL_law_803 (show (cl18 + 0) + 0 ≤ 600000 from by omega) (show (sl18 + 0) + 0 ≤ 7302250 from by omega) (fun r68 S67 H locs hQ hw hx1 => ?_)
            have hX := hX.trans hx1
            have hA2 := hA2.ext hx1
            have hA1 := hA1.ext hx1
            refine lv_icmp_eq (tgt := 1366) hx hb dL_law_806 (by decide) (fun hc => ?_) (fun hc => ?_)
            · have hQ := hQ.1 hc
              obtain ⟨v69, ev69⟩ : ∃ y : Int32, y = x3_18 + (6 : Int32) := ⟨_, rfl⟩
              have hQ := hQ v69 ev69
              refine lv_iinc (v := v69) (lv' := [(3, .int v69), (2, .ref a2), (1, .ref a1), (0, .ref b)]) hx hb dL_law_1366 hl (k := 0) rfl (by rw [ev69]; rfl) (by decide) rfl (fun ls hl => ?_)
              refine lv_goto (tgt := 18) hx hb dL_law_1369 (by decide) ?_
              exact ih18 v69 S67 _ _ _ _ _ _ _ hQ hw hA1 hA2 (lv_sub hl [0, 1, 2, 3] rfl) (by omega) (by omega)
            · have hQ := hQ.2 hc
              refine lv_iconst (v := 0) hx hb dL_law_809 (by decide) ?_
              exact False.elim hQ
        · have hQ := hQ.2 hc
          refine lv_iconst (v := 1) hx hb dL_law_761 (by decide) ?_
          refine lv_goto (tgt := 766) hx hb dL_law_762 (by decide) ?_
          refine k_X8_outage F hw hl hA1 hQ twm_RL_61 (Nat.le_of_ble_eq_true rfl) (Nat.le_of_ble_eq_true rfl) (Nat.le_of_ble_eq_true rfl) dL_law_766 (show cl18 + 0 ≤ 600000 from by omega) (show sl18 + 0 ≤ 7302250 from by omega) (fun r71 S70 H locs hQ hw hx1 => ?_)
          have hX := hX.trans hx1
          have hA2 := hA2.ext hx1
          have hA1 := hA1.ext hx1
          refine lv_aload_n hx hb dL_law_769 rfl (lv_at hl 1 rfl) ?_
          refine lv_aload_n hx hb dL_law_770 rfl (lv_at hl 3 rfl) ?_
          refine lv_iload_n hx hb dL_law_771 rfl (lv_at hl 0 rfl) ?_
          refine lv_iconst (v := 1) hx hb dL_law_772 (by decide) ?_
          refine lv_iadd hx hb dL_law_773 ?_
          obtain ⟨hin, hQ⟩ := hQ
          refine va_sld hx hb hXs hbl hbA hw.2 hin dL_law_774 ?_
          refine lv_i2l hx hb dL_law_775 rfl ?_
          refine lv_bipush (v := 32) hx hb dL_law_776 (by decide) ?_
          refine lv_lshl hx hb dL_law_778 rfl ?_
          refine lv_aload_n hx hb dL_law_779 rfl (lv_at hl 3 rfl) ?_
          refine lv_iload_n hx hb dL_law_780 rfl (lv_at hl 0 rfl) ?_
          refine lv_iconst (v := 2) hx hb dL_law_781 (by decide) ?_
          refine lv_iadd hx hb dL_law_782 ?_
          obtain ⟨hin, hQ⟩ := hQ
          refine va_sld hx hb hXs hbl hbA hw.2 hin dL_law_783 ?_
          refine lv_i2l hx hb dL_law_784 rfl ?_
          refine lv_ldc2 (v := 4294967295) hx hb hown (hts _ twl_RL_13) dL_law_785 ?_
          refine lv_land hx hb dL_law_788 ?_
          refine lv_lor hx hb dL_law_789 ?_
          refine lv_aload_n hx hb dL_law_790 rfl (lv_at hl 3 rfl) ?_
          refine lv_iload_n hx hb dL_law_791 rfl (lv_at hl 0 rfl) ?_
          refine lv_iconst (v := 3) hx hb dL_law_792 (by decide) ?_
          refine lv_iadd hx hb dL_law_793 ?_
          obtain ⟨hin, hQ⟩ := hQ
          refine va_sld hx hb hXs hbl hbA hw.2 hin dL_law_794 ?_
          refine lv_if_eq (tgt := 802) hx hb dL_law_795 (by decide) (fun hc => ?_) (fun hc => ?_)
          · have hQ := hQ.1 hc
            refine lv_iconst (v := 0) hx hb dL_law_802 (by decide) ?_
            refine k_X9_outage F hw hl hA2 hQ twm_RL_65 (Nat.le_of_ble_eq_true rfl) (Nat.le_of_ble_eq_true rfl) (Nat.le_of_ble_eq_true rfl) dL_law_803 (show (cl18 + 0) + 0 ≤ 600000 from by omega) (show (sl18 + 0) + 0 ≤ 7302250 from by omega) (fun r73 S72 H locs hQ hw hx1 => ?_)
            have hX := hX.trans hx1
            have hA2 := hA2.ext hx1
            have hA1 := hA1.ext hx1
            refine lv_icmp_eq (tgt := 1366) hx hb dL_law_806 (by decide) (fun hc => ?_) (fun hc => ?_)
            · have hQ := hQ.1 hc
              obtain ⟨v74, ev74⟩ : ∃ y : Int32, y = x3_18 + (6 : Int32) := ⟨_, rfl⟩
              have hQ := hQ v74 ev74
              refine lv_iinc (v := v74) (lv' := [(3, .int v74), (2, .ref a2), (1, .ref a1), (0, .ref b)]) hx hb dL_law_1366 hl (k := 0) rfl (by rw [ev74]; rfl) (by decide) rfl (fun ls hl => ?_)
              refine lv_goto (tgt := 18) hx hb dL_law_1369 (by decide) ?_
              exact ih18 v74 S72 _ _ _ _ _ _ _ hQ hw hA1 hA2 (lv_sub hl [0, 1, 2, 3] rfl) (by omega) (by omega)
            · have hQ := hQ.2 hc
              refine lv_iconst (v := 0) hx hb dL_law_809 (by decide) ?_
              exact False.elim hQ
          · have hQ := hQ.2 hc
            refine lv_iconst (v := 1) hx hb dL_law_798 (by decide) ?_
            refine lv_goto (tgt := 803) hx hb dL_law_799 (by decide) ?_
            refine k_X9_outage F hw hl hA2 hQ twm_RL_65 (Nat.le_of_ble_eq_true rfl) (Nat.le_of_ble_eq_true rfl) (Nat.le_of_ble_eq_true rfl) dL_law_803 (show (cl18 + 0) + 0 ≤ 600000 from by omega) (show (sl18 + 0) + 0 ≤ 7302250 from by omega) (fun r76 S75 H locs hQ hw hx1 => ?_)
            have hX := hX.trans hx1
            have hA2 := hA2.ext hx1
            have hA1 := hA1.ext hx1
            refine lv_icmp_eq (tgt := 1366) hx hb dL_law_806 (by decide) (fun hc => ?_) (fun hc => ?_)
            · have hQ := hQ.1 hc
              obtain ⟨v77, ev77⟩ : ∃ y : Int32, y = x3_18 + (6 : Int32) := ⟨_, rfl⟩
              have hQ := hQ v77 ev77
              refine lv_iinc (v := v77) (lv' := [(3, .int v77), (2, .ref a2), (1, .ref a1), (0, .ref b)]) hx hb dL_law_1366 hl (k := 0) rfl (by rw [ev77]; rfl) (by decide) rfl (fun ls hl => ?_)
              refine lv_goto (tgt := 18) hx hb dL_law_1369 (by decide) ?_
              exact ih18 v77 S75 _ _ _ _ _ _ _ hQ hw hA1 hA2 (lv_sub hl [0, 1, 2, 3] rfl) (by omega) (by omega)
            · have hQ := hQ.2 hc
              refine lv_iconst (v := 0) hx hb dL_law_809 (by decide) ?_
              exact False.elim hQ
      · have hQ := hQ.2.2.2.2.2.2.2.2.2.2.2.2.1 hc
        refine lv_tableIn (tgt := 811) hx hb dL_law_33 (by omega) (by omega) (by rw [hc]; rfl) (by decide) ?_
        refine lv_aload_n hx hb dL_law_811 rfl (lv_at hl 2 rfl) ?_
        refine k_X8_clock F hw hl hA1 hQ twm_RL_66 (Nat.le_of_ble_eq_true rfl) (Nat.le_of_ble_eq_true rfl) (Nat.le_of_ble_eq_true rfl) dL_law_812 (show cl18 + 0 ≤ 600000 from by omega) (show sl18 + 0 ≤ 7302250 from by omega) (fun r79 S78 H locs hQ hw hx1 => ?_)
        have hX := hX.trans hx1
        have hA2 := hA2.ext hx1
        have hA1 := hA1.ext hx1
        refine lv_aload_n hx hb dL_law_815 rfl (lv_at hl 1 rfl) ?_
        refine k_X9_clock F hw hl hA2 hQ twm_RL_70 (Nat.le_of_ble_eq_true rfl) (Nat.le_of_ble_eq_true rfl) (Nat.le_of_ble_eq_true rfl) dL_law_816 (show (cl18 + 0) + 0 ≤ 600000 from by omega) (show (sl18 + 0) + 0 ≤ 7302250 from by omega) (fun r81 S80 H locs hQ hw hx1 => ?_)
        have hX := hX.trans hx1
        have hA2 := hA2.ext hx1
        have hA1 := hA1.ext hx1
        refine lc_eq (tgt := 1366) F dL_law_819 dL_law_820 (by decide) (fun hc => ?_) (fun hc => ?_)
        · have hQ := hQ.1 hc
          obtain ⟨v82, ev82⟩ : ∃ y : Int32, y = x3_18 + (6 : Int32) := ⟨_, rfl⟩
          have hQ := hQ v82 ev82
          refine lv_iinc (v := v82) (lv' := [(3, .int v82), (2, .ref a2), (1, .ref a1), (0, .ref b)]) hx hb dL_law_1366 hl (k := 0) rfl (by rw [ev82]; rfl) (by decide) rfl (fun ls hl => ?_)
          refine lv_goto (tgt := 18) hx hb dL_law_1369 (by decide) ?_
          exact ih18 v82 S80 _ _ _ _ _ _ _ hQ hw hA1 hA2 (lv_sub hl [0, 1, 2, 3] rfl) (by omega) (by omega)
        · have hQ := hQ.2 hc
          refine lv_iconst (v := 0) hx hb dL_law_823 (by decide) ?_
          exact False.elim hQ
      · have hQ := hQ.2.2.2.2.2.2.2.2.2.2.2.2.2.1 hc
        refine lv_tableIn (tgt := 825) hx hb dL_law_33 (by omega) (by omega) (by rw [hc]; rfl) (by decide) ?_
        refine lv_aload_n hx hb dL_law_825 rfl (lv_at hl 2 rfl) ?_
        refine lv_aload_n hx hb dL_law_826 rfl (lv_at hl 3 rfl) ?_
        refine lv_iload_n hx hb dL_law_827 rfl (lv_at hl 0 rfl) ?_
        refine lv_iconst (v := 1) hx hb dL_law_828 (by decide) ?_
        refine lv_iadd hx hb dL_law_829 ?_
        obtain ⟨hin, hQ⟩ := hQ
        refine va_sld hx hb hXs hbl hbA hw.2 hin dL_law_830 ?_
        refine lv_aload_n hx hb dL_law_831 rfl (lv_at hl 3 rfl) ?_
        refine lv_iload_n hx hb dL_law_832 rfl (lv_at hl 0 rfl) ?_
        refine lv_iconst (v := 2) hx hb dL_law_833 (by decide) ?_
        refine lv_iadd hx hb dL_law_834 ?_
        obtain ⟨hin, hQ⟩ := hQ
        refine va_sld hx hb hXs hbl hbA hw.2 hin dL_law_835 ?_
        refine lv_aload_n hx hb dL_law_836 rfl (lv_at hl 3 rfl) ?_
        refine lv_iload_n hx hb dL_law_837 rfl (lv_at hl 0 rfl) ?_
        refine lv_iconst (v := 3) hx hb dL_law_838 (by decide) ?_
        refine lv_iadd hx hb dL_law_839 ?_
        obtain ⟨hin, hQ⟩ := hQ
        refine va_sld hx hb hXs hbl hbA hw.2 hin dL_law_840 ?_
        refine lv_i2l hx hb dL_law_841 rfl ?_
        refine lv_bipush (v := 32) hx hb dL_law_842 (by decide) ?_
        refine lv_lshl hx hb dL_law_844 rfl ?_
        refine lv_aload_n hx hb dL_law_845 rfl (lv_at hl 3 rfl) ?_
        refine lv_iload_n hx hb dL_law_846 rfl (lv_at hl 0 rfl) ?_
        refine lv_iconst (v := 4) hx hb dL_law_847 (by decide) ?_
        refine lv_iadd hx hb dL_law_848 ?_
        obtain ⟨hin, hQ⟩ := hQ
        refine va_sld hx hb hXs hbl hbA hw.2 hin dL_law_849 ?_
        refine lv_i2l hx hb dL_law_850 rfl ?_
        refine lv_ldc2 (v := 4294967295) hx hb hown (hts _ twl_RL_13) dL_law_851 ?_
        refine lv_land hx hb dL_law_854 ?_
        refine lv_lor hx hb dL_law_855 ?_
        refine k_X8_rise F hw hl hA1 hQ twm_RL_71 (Nat.le_of_ble_eq_true rfl) (Nat.le_of_ble_eq_true rfl) (Nat.le_of_ble_eq_true rfl) dL_law_856 (show cl18 + 0 ≤ 600000 from by omega) (show sl18 + 0 ≤ 7302250 from by omega) (fun r84 S83 H locs hQ hw hx1 => ?_)
        have hX := hX.trans hx1
        have hA2 := hA2.ext hx1
        have hA1 := hA1.ext hx1
        refine lv_aload_n hx hb dL_law_859 rfl (lv_at hl 1 rfl) ?_
        refine lv_aload_n hx hb dL_law_860 rfl (lv_at hl 3 rfl) ?_
        refine lv_iload_n hx hb dL_law_861 rfl (lv_at hl 0 rfl) ?_
        refine lv_iconst (v := 1) hx hb dL_law_862 (by decide) ?_
        refine lv_iadd hx hb dL_law_863 ?_
        obtain ⟨hin, hQ⟩ := hQ
        refine va_sld hx hb hXs hbl hbA hw.2 hin dL_law_864 ?_
        refine lv_aload_n hx hb dL_law_865 rfl (lv_at hl 3 rfl) ?_
        refine lv_iload_n hx hb dL_law_866 rfl (lv_at hl 0 rfl) ?_
        refine lv_iconst (v := 2) hx hb dL_law_867 (by decide) ?_
        refine lv_iadd hx hb dL_law_868 ?_
        obtain ⟨hin, hQ⟩ := hQ
        refine va_sld hx hb hXs hbl hbA hw.2 hin dL_law_869 ?_
        refine lv_aload_n hx hb dL_law_870 rfl (lv_at hl 3 rfl) ?_
        refine lv_iload_n hx hb dL_law_871 rfl (lv_at hl 0 rfl) ?_
        refine lv_iconst (v := 3) hx hb dL_law_872 (by decide) ?_
        refine lv_iadd hx hb dL_law_873 ?_
        obtain ⟨hin, hQ⟩ := hQ
        refine va_sld hx hb hXs hbl hbA hw.2 hin dL_law_874 ?_
        refine lv_i2l hx hb dL_law_875 rfl ?_
        refine lv_bipush (v := 32) hx hb dL_law_876 (by decide) ?_
        refine lv_lshl hx hb dL_law_878 rfl ?_
        refine lv_aload_n hx hb dL_law_879 rfl (lv_at hl 3 rfl) ?_
        refine lv_iload_n hx hb dL_law_880 rfl (lv_at hl 0 rfl) ?_
        refine lv_iconst (v := 4) hx hb dL_law_881 (by decide) ?_
        refine lv_iadd hx hb dL_law_882 ?_
        obtain ⟨hin, hQ⟩ := hQ
        refine va_sld hx hb hXs hbl hbA hw.2 hin dL_law_883 ?_
        refine lv_i2l hx hb dL_law_884 rfl ?_
        refine lv_ldc2 (v := 4294967295) hx hb hown (hts _ twl_RL_13) dL_law_885 ?_
        refine lv_land hx hb dL_law_888 ?_
        refine lv_lor hx hb dL_law_889 ?_
        refine k_X9_rise F hw hl hA2 hQ twm_RL_75 (Nat.le_of_ble_eq_true rfl) (Nat.le_of_ble_eq_true rfl) (Nat.le_of_ble_eq_true rfl) dL_law_890 (show (cl18 + 0) + 0 ≤ 600000 from by omega) (show (sl18 + 0) + 0 ≤ 7302250 from by omega) (fun r86 S85 H locs hQ hw hx1 => ?_)
        have hX := hX.trans hx1
        have hA2 := hA2.ext hx1
        have hA1 := hA1.ext hx1
        refine lv_icmp_eq (tgt := 1366) hx hb dL_law_893 (by decide) (fun hc => ?_) (fun hc => ?_)
        · have hQ := hQ.1 hc
          obtain ⟨v87, ev87⟩ : ∃ y : Int32, y = x3_18 + (6 : Int32) := ⟨_, rfl⟩
          have hQ := hQ v87 ev87
          refine lv_iinc (v := v87) (lv' := [(3, .int v87), (2, .ref a2), (1, .ref a1), (0, .ref b)]) hx hb dL_law_1366 hl (k := 0) rfl (by rw [ev87]; rfl) (by decide) rfl (fun ls hl => ?_)
          refine lv_goto (tgt := 18) hx hb dL_law_1369 (by decide) ?_
          exact ih18 v87 S85 _ _ _ _ _ _ _ hQ hw hA1 hA2 (lv_sub hl [0, 1, 2, 3] rfl) (by omega) (by omega)
        · have hQ := hQ.2 hc
          refine lv_iconst (v := 0) hx hb dL_law_896 (by decide) ?_
          exact False.elim hQ
      · have hQ := hQ.2.2.2.2.2.2.2.2.2.2.2.2.2.2.1 hc
        refine lv_tableIn (tgt := 898) hx hb dL_law_33 (by omega) (by omega) (by rw [hc]; rfl) (by decide) ?_
        refine lv_aload_n hx hb dL_law_898 rfl (lv_at hl 2 rfl) ?_
        refine lv_aload_n hx hb dL_law_899 rfl (lv_at hl 3 rfl) ?_
        refine lv_iload_n hx hb dL_law_900 rfl (lv_at hl 0 rfl) ?_
        refine lv_iconst (v := 1) hx hb dL_law_901 (by decide) ?_
        refine lv_iadd hx hb dL_law_902 ?_
        obtain ⟨hin, hQ⟩ := hQ
        refine va_sld hx hb hXs hbl hbA hw.2 hin dL_law_903 ?_
        refine lv_aload_n hx hb dL_law_904 rfl (lv_at hl 3 rfl) ?_
        refine lv_iload_n hx hb dL_law_905 rfl (lv_at hl 0 rfl) ?_
        refine lv_iconst (v := 2) hx hb dL_law_906 (by decide) ?_
        refine lv_iadd hx hb dL_law_907 ?_
        obtain ⟨hin, hQ⟩ := hQ
        refine va_sld hx hb hXs hbl hbA hw.2 hin dL_law_908 ?_
        refine lv_i2l hx hb dL_law_909 rfl ?_
        refine lv_bipush (v := 32) hx hb dL_law_910 (by decide) ?_
        refine lv_lshl hx hb dL_law_912 rfl ?_
        refine lv_aload_n hx hb dL_law_913 rfl (lv_at hl 3 rfl) ?_
        refine lv_iload_n hx hb dL_law_914 rfl (lv_at hl 0 rfl) ?_
        refine lv_iconst (v := 3) hx hb dL_law_915 (by decide) ?_
        refine lv_iadd hx hb dL_law_916 ?_
        obtain ⟨hin, hQ⟩ := hQ
        refine va_sld hx hb hXs hbl hbA hw.2 hin dL_law_917 ?_
        refine lv_i2l hx hb dL_law_918 rfl ?_
        refine lv_ldc2 (v := 4294967295) hx hb hown (hts _ twl_RL_13) dL_law_919 ?_
        refine lv_land hx hb dL_law_922 ?_
        refine lv_lor hx hb dL_law_923 ?_
        refine k_X8_bid F hw hl hA1 hQ twm_RL_76 (Nat.le_of_ble_eq_true rfl) (Nat.le_of_ble_eq_true rfl) (Nat.le_of_ble_eq_true rfl) dL_law_924 (show cl18 + 1 ≤ 600000 from by omega) (show sl18 + 4 ≤ 7302250 from by omega) (fun r89 S88 H locs hQ hw hx1 => ?_)
        have hX := hX.trans hx1
        have hA2 := hA2.ext hx1
        have hA1 := hA1.ext hx1
        refine lv_aload_n hx hb dL_law_927 rfl (lv_at hl 1 rfl) ?_
        refine lv_aload_n hx hb dL_law_928 rfl (lv_at hl 3 rfl) ?_
        refine lv_iload_n hx hb dL_law_929 rfl (lv_at hl 0 rfl) ?_
        refine lv_iconst (v := 1) hx hb dL_law_930 (by decide) ?_
        refine lv_iadd hx hb dL_law_931 ?_
        obtain ⟨hin, hQ⟩ := hQ
        refine va_sld hx hb hXs hbl hbA hw.2 hin dL_law_932 ?_
        refine lv_aload_n hx hb dL_law_933 rfl (lv_at hl 3 rfl) ?_
        refine lv_iload_n hx hb dL_law_934 rfl (lv_at hl 0 rfl) ?_
        refine lv_iconst (v := 2) hx hb dL_law_935 (by decide) ?_
        refine lv_iadd hx hb dL_law_936 ?_
        obtain ⟨hin, hQ⟩ := hQ
        refine va_sld hx hb hXs hbl hbA hw.2 hin dL_law_937 ?_
        refine lv_i2l hx hb dL_law_938 rfl ?_
        refine lv_bipush (v := 32) hx hb dL_law_939 (by decide) ?_
        refine lv_lshl hx hb dL_law_941 rfl ?_
        refine lv_aload_n hx hb dL_law_942 rfl (lv_at hl 3 rfl) ?_
        refine lv_iload_n hx hb dL_law_943 rfl (lv_at hl 0 rfl) ?_
        refine lv_iconst (v := 3) hx hb dL_law_944 (by decide) ?_
        refine lv_iadd hx hb dL_law_945 ?_
        obtain ⟨hin, hQ⟩ := hQ
        refine va_sld hx hb hXs hbl hbA hw.2 hin dL_law_946 ?_
        refine lv_i2l hx hb dL_law_947 rfl ?_
        refine lv_ldc2 (v := 4294967295) hx hb hown (hts _ twl_RL_13) dL_law_948 ?_
        refine lv_land hx hb dL_law_951 ?_
        refine lv_lor hx hb dL_law_952 ?_
        refine k_X9_bid F hw hl hA2 hQ twm_RL_79 (Nat.le_of_ble_eq_true rfl) (Nat.le_of_ble_eq_true rfl) (Nat.le_of_ble_eq_true rfl) dL_law_953 (show (cl18 + 1) + 0 ≤ 600000 from by omega) (show (sl18 + 4) + 0 ≤ 7302250 from by omega) (fun r91 S90 H locs hQ hw hx1 => ?_)
        have hX := hX.trans hx1
        have hA2 := hA2.ext hx1
        have hA1 := hA1.ext hx1
        refine lv_icmp_eq (tgt := 1366) hx hb dL_law_956 (by decide) (fun hc => ?_) (fun hc => ?_)
        · have hQ := hQ.1 hc
          obtain ⟨v92, ev92⟩ : ∃ y : Int32, y = x3_18 + (6 : Int32) := ⟨_, rfl⟩
          have hQ := hQ v92 ev92
          refine lv_iinc (v := v92) (lv' := [(3, .int v92), (2, .ref a2), (1, .ref a1), (0, .ref b)]) hx hb dL_law_1366 hl (k := 0) rfl (by rw [ev92]; rfl) (by decide) rfl (fun ls hl => ?_)
          refine lv_goto (tgt := 18) hx hb dL_law_1369 (by decide) ?_
          exact ih18 v92 S90 _ _ _ _ _ _ _ hQ hw hA1 hA2 (lv_sub hl [0, 1, 2, 3] rfl) (by omega) (by omega)
        · have hQ := hQ.2 hc
          refine lv_iconst (v := 0) hx hb dL_law_959 (by decide) ?_
          exact False.elim hQ
      · have hQ := hQ.2.2.2.2.2.2.2.2.2.2.2.2.2.2.2.1 hc
        refine lv_tableIn (tgt := 961) hx hb dL_law_33 (by omega) (by omega) (by rw [hc]; rfl) (by decide) ?_
        refine lv_aload_n hx hb dL_law_961 rfl (lv_at hl 2 rfl) ?_
        refine lv_aload_n hx hb dL_law_962 rfl (lv_at hl 3 rfl) ?_
        refine lv_iload_n hx hb dL_law_963 rfl (lv_at hl 0 rfl) ?_
        refine lv_iconst (v := 1) hx hb dL_law_964 (by decide) ?_
        refine lv_iadd hx hb dL_law_965 ?_
        obtain ⟨hin, hQ⟩ := hQ
        refine va_sld hx hb hXs hbl hbA hw.2 hin dL_law_966 ?_
        refine lv_aload_n hx hb dL_law_967 rfl (lv_at hl 3 rfl) ?_
        refine lv_iload_n hx hb dL_law_968 rfl (lv_at hl 0 rfl) ?_
        refine lv_iconst (v := 2) hx hb dL_law_969 (by decide) ?_
        refine lv_iadd hx hb dL_law_970 ?_
        obtain ⟨hin, hQ⟩ := hQ
        refine va_sld hx hb hXs hbl hbA hw.2 hin dL_law_971 ?_
        refine k_X8_on F hw hl hA1 hQ twm_RL_80 (Nat.le_of_ble_eq_true rfl) (Nat.le_of_ble_eq_true rfl) (Nat.le_of_ble_eq_true rfl) dL_law_972 (show cl18 + 0 ≤ 600000 from by omega) (show sl18 + 0 ≤ 7302250 from by omega) (fun r94 S93 H locs hQ hw hx1 => ?_)
        have hX := hX.trans hx1
        have hA2 := hA2.ext hx1
        have hA1 := hA1.ext hx1
        refine lv_aload_n hx hb dL_law_975 rfl (lv_at hl 1 rfl) ?_
        refine lv_aload_n hx hb dL_law_976 rfl (lv_at hl 3 rfl) ?_
        refine lv_iload_n hx hb dL_law_977 rfl (lv_at hl 0 rfl) ?_
        refine lv_iconst (v := 1) hx hb dL_law_978 (by decide) ?_
        refine lv_iadd hx hb dL_law_979 ?_
        obtain ⟨hin, hQ⟩ := hQ
        refine va_sld hx hb hXs hbl hbA hw.2 hin dL_law_980 ?_
        refine lv_aload_n hx hb dL_law_981 rfl (lv_at hl 3 rfl) ?_
        refine lv_iload_n hx hb dL_law_982 rfl (lv_at hl 0 rfl) ?_
        refine lv_iconst (v := 2) hx hb dL_law_983 (by decide) ?_
        refine lv_iadd hx hb dL_law_984 ?_
        obtain ⟨hin, hQ⟩ := hQ
        refine va_sld hx hb hXs hbl hbA hw.2 hin dL_law_985 ?_
        refine k_X9_on F hw hl hA2 hQ twm_RL_84 (Nat.le_of_ble_eq_true rfl) (Nat.le_of_ble_eq_true rfl) (Nat.le_of_ble_eq_true rfl) dL_law_986 (show (cl18 + 0) + 0 ≤ 600000 from by omega) (show (sl18 + 0) + 0 ≤ 7302250 from by omega) (fun r96 S95 H locs hQ hw hx1 => ?_)
        have hX := hX.trans hx1
        have hA2 := hA2.ext hx1
        have hA1 := hA1.ext hx1
        refine lv_icmp_eq (tgt := 1366) hx hb dL_law_989 (by decide) (fun hc => ?_) (fun hc => ?_)
        · have hQ := hQ.1 hc
          obtain ⟨v97, ev97⟩ : ∃ y : Int32, y = x3_18 + (6 : Int32) := ⟨_, rfl⟩
          have hQ := hQ v97 ev97
          refine lv_iinc (v := v97) (lv' := [(3, .int v97), (2, .ref a2), (1, .ref a1), (0, .ref b)]) hx hb dL_law_1366 hl (k := 0) rfl (by rw [ev97]; rfl) (by decide) rfl (fun ls hl => ?_)
          refine lv_goto (tgt := 18) hx hb dL_law_1369 (by decide) ?_
          exact ih18 v97 S95 _ _ _ _ _ _ _ hQ hw hA1 hA2 (lv_sub hl [0, 1, 2, 3] rfl) (by omega) (by omega)
        · have hQ := hQ.2 hc
          refine lv_iconst (v := 0) hx hb dL_law_992 (by decide) ?_
          exact False.elim hQ
      · have hQ := hQ.2.2.2.2.2.2.2.2.2.2.2.2.2.2.2.2.1 hc
        refine lv_tableIn (tgt := 994) hx hb dL_law_33 (by omega) (by omega) (by rw [hc]; rfl) (by decide) ?_
        refine lv_aload_n hx hb dL_law_994 rfl (lv_at hl 2 rfl) ?_
        refine lv_aload_n hx hb dL_law_995 rfl (lv_at hl 3 rfl) ?_
        refine lv_iload_n hx hb dL_law_996 rfl (lv_at hl 0 rfl) ?_
        refine lv_iconst (v := 1) hx hb dL_law_997 (by decide) ?_
        refine lv_iadd hx hb dL_law_998 ?_
        obtain ⟨hin, hQ⟩ := hQ
        refine va_sld hx hb hXs hbl hbA hw.2 hin dL_law_999 ?_
        refine lv_i2l hx hb dL_law_1000 rfl ?_
        refine lv_bipush (v := 32) hx hb dL_law_1001 (by decide) ?_
        refine lv_lshl hx hb dL_law_1003 rfl ?_
        refine lv_aload_n hx hb dL_law_1004 rfl (lv_at hl 3 rfl) ?_
        refine lv_iload_n hx hb dL_law_1005 rfl (lv_at hl 0 rfl) ?_
        refine lv_iconst (v := 2) hx hb dL_law_1006 (by decide) ?_
        refine lv_iadd hx hb dL_law_1007 ?_
        obtain ⟨hin, hQ⟩ := hQ
        refine va_sld hx hb hXs hbl hbA hw.2 hin dL_law_1008 ?_
        refine lv_i2l hx hb dL_law_1009 rfl ?_
        refine lv_ldc2 (v := 4294967295) hx hb hown (hts _ twl_RL_13) dL_law_1010 ?_
        refine lv_land hx hb dL_law_1013 ?_
        refine lv_lor hx hb dL_law_1014 ?_
        refine k_X8_sets (cells := cl18) (slots := sl18) F hw hl hA1 hQ twm_RL_85 (Nat.le_of_ble_eq_true rfl) (Nat.le_of_ble_eq_true rfl) (Nat.le_of_ble_eq_true rfl) dL_law_1015 (show cl18 + 1159 ≤ 600000 from by omega) (show sl18 + 5795 ≤ 7302250 from by omega) (fun r99 S98 H locs hQ hw hx1 => ?_)
        have hX := hX.trans hx1
        have hA2 := hA2.ext hx1
        have hA1 := hA1.ext hx1
        refine lv_aload_n hx hb dL_law_1018 rfl (lv_at hl 1 rfl) ?_
        refine lv_aload_n hx hb dL_law_1019 rfl (lv_at hl 3 rfl) ?_
        refine lv_iload_n hx hb dL_law_1020 rfl (lv_at hl 0 rfl) ?_
        refine lv_iconst (v := 1) hx hb dL_law_1021 (by decide) ?_
        refine lv_iadd hx hb dL_law_1022 ?_
        obtain ⟨hin, hQ⟩ := hQ
        refine va_sld hx hb hXs hbl hbA hw.2 hin dL_law_1023 ?_
        refine lv_i2l hx hb dL_law_1024 rfl ?_
        refine lv_bipush (v := 32) hx hb dL_law_1025 (by decide) ?_
        refine lv_lshl hx hb dL_law_1027 rfl ?_
        refine lv_aload_n hx hb dL_law_1028 rfl (lv_at hl 3 rfl) ?_
        refine lv_iload_n hx hb dL_law_1029 rfl (lv_at hl 0 rfl) ?_
        refine lv_iconst (v := 2) hx hb dL_law_1030 (by decide) ?_
        refine lv_iadd hx hb dL_law_1031 ?_
        obtain ⟨hin, hQ⟩ := hQ
        refine va_sld hx hb hXs hbl hbA hw.2 hin dL_law_1032 ?_
        refine lv_i2l hx hb dL_law_1033 rfl ?_
        refine lv_ldc2 (v := 4294967295) hx hb hown (hts _ twl_RL_13) dL_law_1034 ?_
        refine lv_land hx hb dL_law_1037 ?_
        refine lv_lor hx hb dL_law_1038 ?_
        refine k_X9_sets F hw hl hA2 hQ twm_RL_88 (Nat.le_of_ble_eq_true rfl) (Nat.le_of_ble_eq_true rfl) (Nat.le_of_ble_eq_true rfl) dL_law_1039 (show (cl18 + 1159) + 0 ≤ 600000 from by omega) (show (sl18 + 5795) + 0 ≤ 7302250 from by omega) (fun r101 S100 H locs hQ hw hx1 => ?_)
        have hX := hX.trans hx1
        have hA2 := hA2.ext hx1
        have hA1 := hA1.ext hx1
        refine lv_icmp_eq (tgt := 1366) hx hb dL_law_1042 (by decide) (fun hc => ?_) (fun hc => ?_)
        · have hQ := hQ.1 hc
          obtain ⟨v102, ev102⟩ : ∃ y : Int32, y = x3_18 + (6 : Int32) := ⟨_, rfl⟩
          have hQ := hQ v102 ev102
          refine lv_iinc (v := v102) (lv' := [(3, .int v102), (2, .ref a2), (1, .ref a1), (0, .ref b)]) hx hb dL_law_1366 hl (k := 0) rfl (by rw [ev102]; rfl) (by decide) rfl (fun ls hl => ?_)
          refine lv_goto (tgt := 18) hx hb dL_law_1369 (by decide) ?_
          exact ih18 v102 S100 _ _ _ _ _ _ _ hQ hw hA1 hA2 (lv_sub hl [0, 1, 2, 3] rfl) (by omega) (by omega)
        · have hQ := hQ.2 hc
          refine lv_iconst (v := 0) hx hb dL_law_1045 (by decide) ?_
          exact False.elim hQ
      · have hQ := hQ.2.2.2.2.2.2.2.2.2.2.2.2.2.2.2.2.2.1 hc
        refine lv_tableIn (tgt := 1047) hx hb dL_law_33 (by omega) (by omega) (by rw [hc]; rfl) (by decide) ?_
        refine lv_aload_n hx hb dL_law_1047 rfl (lv_at hl 2 rfl) ?_
        refine lv_aload_n hx hb dL_law_1048 rfl (lv_at hl 3 rfl) ?_
        refine lv_iload_n hx hb dL_law_1049 rfl (lv_at hl 0 rfl) ?_
        refine lv_iconst (v := 1) hx hb dL_law_1050 (by decide) ?_
        refine lv_iadd hx hb dL_law_1051 ?_
        obtain ⟨hin, hQ⟩ := hQ
        refine va_sld hx hb hXs hbl hbA hw.2 hin dL_law_1052 ?_
        refine k_X8_wins F hw hl hA1 hQ twm_RL_89 (Nat.le_of_ble_eq_true rfl) (Nat.le_of_ble_eq_true rfl) (Nat.le_of_ble_eq_true rfl) dL_law_1053 (show cl18 + 0 ≤ 600000 from by omega) (show sl18 + 0 ≤ 7302250 from by omega) (fun r104 S103 H locs hQ hw hx1 => ?_)
        have hX := hX.trans hx1
        have hA2 := hA2.ext hx1
        have hA1 := hA1.ext hx1
        refine lv_aload_n hx hb dL_law_1056 rfl (lv_at hl 1 rfl) ?_
        refine lv_aload_n hx hb dL_law_1057 rfl (lv_at hl 3 rfl) ?_
        refine lv_iload_n hx hb dL_law_1058 rfl (lv_at hl 0 rfl) ?_
        refine lv_iconst (v := 1) hx hb dL_law_1059 (by decide) ?_
        refine lv_iadd hx hb dL_law_1060 ?_
        obtain ⟨hin, hQ⟩ := hQ
        refine va_sld hx hb hXs hbl hbA hw.2 hin dL_law_1061 ?_
        refine k_X9_wins F hw hl hA2 hQ twm_RL_93 (Nat.le_of_ble_eq_true rfl) (Nat.le_of_ble_eq_true rfl) (Nat.le_of_ble_eq_true rfl) dL_law_1062 (show (cl18 + 0) + 0 ≤ 600000 from by omega) (show (sl18 + 0) + 0 ≤ 7302250 from by omega) (fun r106 S105 H locs hQ hw hx1 => ?_)
        have hX := hX.trans hx1
        have hA2 := hA2.ext hx1
        have hA1 := hA1.ext hx1
        refine lv_icmp_eq (tgt := 1366) hx hb dL_law_1065 (by decide) (fun hc => ?_) (fun hc => ?_)
        · have hQ := hQ.1 hc
          obtain ⟨v107, ev107⟩ : ∃ y : Int32, y = x3_18 + (6 : Int32) := ⟨_, rfl⟩
          have hQ := hQ v107 ev107
          refine lv_iinc (v := v107) (lv' := [(3, .int v107), (2, .ref a2), (1, .ref a1), (0, .ref b)]) hx hb dL_law_1366 hl (k := 0) rfl (by rw [ev107]; rfl) (by decide) rfl (fun ls hl => ?_)
          refine lv_goto (tgt := 18) hx hb dL_law_1369 (by decide) ?_
          exact ih18 v107 S105 _ _ _ _ _ _ _ hQ hw hA1 hA2 (lv_sub hl [0, 1, 2, 3] rfl) (by omega) (by omega)
        · have hQ := hQ.2 hc
          refine lv_iconst (v := 0) hx hb dL_law_1068 (by decide) ?_
          exact False.elim hQ
      · have hQ := hQ.2.2.2.2.2.2.2.2.2.2.2.2.2.2.2.2.2.2.1 hc
        refine lv_tableIn (tgt := 1070) hx hb dL_law_33 (by omega) (by omega) (by rw [hc]; rfl) (by decide) ?_
        refine lv_aload_n hx hb dL_law_1070 rfl (lv_at hl 2 rfl) ?_
        refine k_X8_sum F hw hl hA1 hQ twm_RL_94 (Nat.le_of_ble_eq_true rfl) (Nat.le_of_ble_eq_true rfl) (Nat.le_of_ble_eq_true rfl) dL_law_1071 (show cl18 + 0 ≤ 600000 from by omega) (show sl18 + 0 ≤ 7302250 from by omega) (fun r109 S108 H locs hQ hw hx1 => ?_)
        have hX := hX.trans hx1
        have hA2 := hA2.ext hx1
        have hA1 := hA1.ext hx1
        refine lv_aload_n hx hb dL_law_1074 rfl (lv_at hl 1 rfl) ?_
        refine k_X9_sum F hw hl hA2 hQ twm_RL_97 (Nat.le_of_ble_eq_true rfl) (Nat.le_of_ble_eq_true rfl) (Nat.le_of_ble_eq_true rfl) dL_law_1075 (show (cl18 + 0) + 0 ≤ 600000 from by omega) (show (sl18 + 0) + 0 ≤ 7302250 from by omega) (fun r111 S110 H locs hQ hw hx1 => ?_)
        have hX := hX.trans hx1
        have hA2 := hA2.ext hx1
        have hA1 := hA1.ext hx1
        refine lc_eq (tgt := 1366) F dL_law_1078 dL_law_1079 (by decide) (fun hc => ?_) (fun hc => ?_)
        · have hQ := hQ.1 hc
          obtain ⟨v112, ev112⟩ : ∃ y : Int32, y = x3_18 + (6 : Int32) := ⟨_, rfl⟩
          have hQ := hQ v112 ev112
          refine lv_iinc (v := v112) (lv' := [(3, .int v112), (2, .ref a2), (1, .ref a1), (0, .ref b)]) hx hb dL_law_1366 hl (k := 0) rfl (by rw [ev112]; rfl) (by decide) rfl (fun ls hl => ?_)
          refine lv_goto (tgt := 18) hx hb dL_law_1369 (by decide) ?_
          exact ih18 v112 S110 _ _ _ _ _ _ _ hQ hw hA1 hA2 (lv_sub hl [0, 1, 2, 3] rfl) (by omega) (by omega)
        · have hQ := hQ.2 hc
          refine lv_iconst (v := 0) hx hb dL_law_1082 (by decide) ?_
          exact False.elim hQ
      · have hQ := hQ.2.2.2.2.2.2.2.2.2.2.2.2.2.2.2.2.2.2.2.1 hc
        refine lv_tableIn (tgt := 1084) hx hb dL_law_33 (by omega) (by omega) (by rw [hc]; rfl) (by decide) ?_
        refine lv_aload_n hx hb dL_law_1084 rfl (lv_at hl 2 rfl) ?_
        refine k_X8_proved F hw hl hA1 hQ twm_RL_98 (Nat.le_of_ble_eq_true rfl) (Nat.le_of_ble_eq_true rfl) (Nat.le_of_ble_eq_true rfl) dL_law_1085 (show cl18 + 0 ≤ 600000 from by omega) (show sl18 + 0 ≤ 7302250 from by omega) (fun r114 S113 H locs hQ hw hx1 => ?_)
        have hX := hX.trans hx1
        have hA2 := hA2.ext hx1
        have hA1 := hA1.ext hx1
        refine lv_aload_n hx hb dL_law_1088 rfl (lv_at hl 1 rfl) ?_
        refine k_X9_proved F hw hl hA2 hQ twm_RL_102 (Nat.le_of_ble_eq_true rfl) (Nat.le_of_ble_eq_true rfl) (Nat.le_of_ble_eq_true rfl) dL_law_1089 (show (cl18 + 0) + 0 ≤ 600000 from by omega) (show (sl18 + 0) + 0 ≤ 7302250 from by omega) (fun r116 S115 H locs hQ hw hx1 => ?_)
        have hX := hX.trans hx1
        have hA2 := hA2.ext hx1
        have hA1 := hA1.ext hx1
        refine lv_icmp_eq (tgt := 1366) hx hb dL_law_1092 (by decide) (fun hc => ?_) (fun hc => ?_)
        · have hQ := hQ.1 hc
          obtain ⟨v117, ev117⟩ : ∃ y : Int32, y = x3_18 + (6 : Int32) := ⟨_, rfl⟩
          have hQ := hQ v117 ev117
          refine lv_iinc (v := v117) (lv' := [(3, .int v117), (2, .ref a2), (1, .ref a1), (0, .ref b)]) hx hb dL_law_1366 hl (k := 0) rfl (by rw [ev117]; rfl) (by decide) rfl (fun ls hl => ?_)
          refine lv_goto (tgt := 18) hx hb dL_law_1369 (by decide) ?_
          exact ih18 v117 S115 _ _ _ _ _ _ _ hQ hw hA1 hA2 (lv_sub hl [0, 1, 2, 3] rfl) (by omega) (by omega)
        · have hQ := hQ.2 hc
          refine lv_iconst (v := 0) hx hb dL_law_1095 (by decide) ?_
          exact False.elim hQ
      · have hQ := hQ.2.2.2.2.2.2.2.2.2.2.2.2.2.2.2.2.2.2.2.2.1 hc
        refine lv_tableIn (tgt := 1097) hx hb dL_law_33 (by omega) (by omega) (by rw [hc]; rfl) (by decide) ?_
        refine lv_aload_n hx hb dL_law_1097 rfl (lv_at hl 2 rfl) ?_
        refine lv_aload_n hx hb dL_law_1098 rfl (lv_at hl 3 rfl) ?_
        refine lv_iload_n hx hb dL_law_1099 rfl (lv_at hl 0 rfl) ?_
        refine lv_iconst (v := 1) hx hb dL_law_1100 (by decide) ?_
        refine lv_iadd hx hb dL_law_1101 ?_
        obtain ⟨hin, hQ⟩ := hQ
        refine va_sld hx hb hXs hbl hbA hw.2 hin dL_law_1102 ?_
        refine k_X8_held F hw hl hA1 hQ twm_RL_103 (Nat.le_of_ble_eq_true rfl) (Nat.le_of_ble_eq_true rfl) (Nat.le_of_ble_eq_true rfl) dL_law_1103 (show cl18 + 0 ≤ 600000 from by omega) (show sl18 + 0 ≤ 7302250 from by omega) (fun r119 S118 H locs hQ hw hx1 => ?_)
        have hX := hX.trans hx1
        have hA2 := hA2.ext hx1
        have hA1 := hA1.ext hx1
        refine lv_aload_n hx hb dL_law_1106 rfl (lv_at hl 1 rfl) ?_
        refine lv_aload_n hx hb dL_law_1107 rfl (lv_at hl 3 rfl) ?_
        refine lv_iload_n hx hb dL_law_1108 rfl (lv_at hl 0 rfl) ?_
        refine lv_iconst (v := 1) hx hb dL_law_1109 (by decide) ?_
        refine lv_iadd hx hb dL_law_1110 ?_
        obtain ⟨hin, hQ⟩ := hQ
        refine va_sld hx hb hXs hbl hbA hw.2 hin dL_law_1111 ?_
        refine k_X9_held F hw hl hA2 hQ twm_RL_106 (Nat.le_of_ble_eq_true rfl) (Nat.le_of_ble_eq_true rfl) (Nat.le_of_ble_eq_true rfl) dL_law_1112 (show (cl18 + 0) + 0 ≤ 600000 from by omega) (show (sl18 + 0) + 0 ≤ 7302250 from by omega) (fun r121 S120 H locs hQ hw hx1 => ?_)
        have hX := hX.trans hx1
        have hA2 := hA2.ext hx1
        have hA1 := hA1.ext hx1
        refine lc_eq (tgt := 1366) F dL_law_1115 dL_law_1116 (by decide) (fun hc => ?_) (fun hc => ?_)
        · have hQ := hQ.1 hc
          obtain ⟨v122, ev122⟩ : ∃ y : Int32, y = x3_18 + (6 : Int32) := ⟨_, rfl⟩
          have hQ := hQ v122 ev122
          refine lv_iinc (v := v122) (lv' := [(3, .int v122), (2, .ref a2), (1, .ref a1), (0, .ref b)]) hx hb dL_law_1366 hl (k := 0) rfl (by rw [ev122]; rfl) (by decide) rfl (fun ls hl => ?_)
          refine lv_goto (tgt := 18) hx hb dL_law_1369 (by decide) ?_
          exact ih18 v122 S120 _ _ _ _ _ _ _ hQ hw hA1 hA2 (lv_sub hl [0, 1, 2, 3] rfl) (by omega) (by omega)
        · have hQ := hQ.2 hc
          refine lv_iconst (v := 0) hx hb dL_law_1119 (by decide) ?_
          exact False.elim hQ
      · have hQ := hQ.2.2.2.2.2.2.2.2.2.2.2.2.2.2.2.2.2.2.2.2.2.1 hc
        refine lv_tableIn (tgt := 1121) hx hb dL_law_33 (by omega) (by omega) (by rw [hc]; rfl) (by decide) ?_
        refine lv_aload_n hx hb dL_law_1121 rfl (lv_at hl 2 rfl) ?_
        refine lv_aload_n hx hb dL_law_1122 rfl (lv_at hl 3 rfl) ?_
        refine lv_iload_n hx hb dL_law_1123 rfl (lv_at hl 0 rfl) ?_
        refine lv_iconst (v := 1) hx hb dL_law_1124 (by decide) ?_
        refine lv_iadd hx hb dL_law_1125 ?_
        obtain ⟨hin, hQ⟩ := hQ
        refine va_sld hx hb hXs hbl hbA hw.2 hin dL_law_1126 ?_
        refine k_X8_again F hw hl hA1 hQ twm_RL_107 (Nat.le_of_ble_eq_true rfl) (Nat.le_of_ble_eq_true rfl) (Nat.le_of_ble_eq_true rfl) dL_law_1127 (show cl18 + 1 ≤ 600000 from by omega) (show sl18 + 5 ≤ 7302250 from by omega) (fun r124 S123 H locs hQ hw hx1 => ?_)
        have hX := hX.trans hx1
        have hA2 := hA2.ext hx1
        have hA1 := hA1.ext hx1
        refine lv_aload_n hx hb dL_law_1130 rfl (lv_at hl 1 rfl) ?_
        refine lv_aload_n hx hb dL_law_1131 rfl (lv_at hl 3 rfl) ?_
        refine lv_iload_n hx hb dL_law_1132 rfl (lv_at hl 0 rfl) ?_
        refine lv_iconst (v := 1) hx hb dL_law_1133 (by decide) ?_
        refine lv_iadd hx hb dL_law_1134 ?_
        obtain ⟨hin, hQ⟩ := hQ
        refine va_sld hx hb hXs hbl hbA hw.2 hin dL_law_1135 ?_
        refine k_X9_again F hw hl hA2 hQ twm_RL_110 (Nat.le_of_ble_eq_true rfl) (Nat.le_of_ble_eq_true rfl) (Nat.le_of_ble_eq_true rfl) dL_law_1136 (show (cl18 + 1) + 0 ≤ 600000 from by omega) (show (sl18 + 5) + 0 ≤ 7302250 from by omega) (fun r126 S125 H locs hQ hw hx1 => ?_)
        have hX := hX.trans hx1
        have hA2 := hA2.ext hx1
        have hA1 := hA1.ext hx1
        refine lv_icmp_eq (tgt := 1366) hx hb dL_law_1139 (by decide) (fun hc => ?_) (fun hc => ?_)
        · have hQ := hQ.1 hc
          obtain ⟨v127, ev127⟩ : ∃ y : Int32, y = x3_18 + (6 : Int32) := ⟨_, rfl⟩
          have hQ := hQ v127 ev127
          refine lv_iinc (v := v127) (lv' := [(3, .int v127), (2, .ref a2), (1, .ref a1), (0, .ref b)]) hx hb dL_law_1366 hl (k := 0) rfl (by rw [ev127]; rfl) (by decide) rfl (fun ls hl => ?_)
          refine lv_goto (tgt := 18) hx hb dL_law_1369 (by decide) ?_
          exact ih18 v127 S125 _ _ _ _ _ _ _ hQ hw hA1 hA2 (lv_sub hl [0, 1, 2, 3] rfl) (by omega) (by omega)
        · have hQ := hQ.2 hc
          refine lv_iconst (v := 0) hx hb dL_law_1142 (by decide) ?_
          exact False.elim hQ
      · have hQ := hQ.2.2.2.2.2.2.2.2.2.2.2.2.2.2.2.2.2.2.2.2.2.2.1 hc
        refine lv_tableIn (tgt := 1144) hx hb dL_law_33 (by omega) (by omega) (by rw [hc]; rfl) (by decide) ?_
        refine lv_aload_n hx hb dL_law_1144 rfl (lv_at hl 2 rfl) ?_
        refine lv_aload_n hx hb dL_law_1145 rfl (lv_at hl 3 rfl) ?_
        refine lv_iload_n hx hb dL_law_1146 rfl (lv_at hl 0 rfl) ?_
        refine lv_iconst (v := 1) hx hb dL_law_1147 (by decide) ?_
        refine lv_iadd hx hb dL_law_1148 ?_
        obtain ⟨hin, hQ⟩ := hQ
        refine va_sld hx hb hXs hbl hbA hw.2 hin dL_law_1149 ?_
        refine k_X8_fee F hw hl hA1 hQ twm_RL_111 (Nat.le_of_ble_eq_true rfl) (Nat.le_of_ble_eq_true rfl) (Nat.le_of_ble_eq_true rfl) dL_law_1150 (show cl18 + 0 ≤ 600000 from by omega) (show sl18 + 0 ≤ 7302250 from by omega) (fun r129 S128 H locs hQ hw hx1 => ?_)
        have hX := hX.trans hx1
        have hA2 := hA2.ext hx1
        have hA1 := hA1.ext hx1
        refine lv_aload_n hx hb dL_law_1153 rfl (lv_at hl 1 rfl) ?_
        refine lv_aload_n hx hb dL_law_1154 rfl (lv_at hl 3 rfl) ?_
        refine lv_iload_n hx hb dL_law_1155 rfl (lv_at hl 0 rfl) ?_
        refine lv_iconst (v := 1) hx hb dL_law_1156 (by decide) ?_
        refine lv_iadd hx hb dL_law_1157 ?_
        obtain ⟨hin, hQ⟩ := hQ
        refine va_sld hx hb hXs hbl hbA hw.2 hin dL_law_1158 ?_
        refine k_X9_fee F hw hl hA2 hQ twm_RL_114 (Nat.le_of_ble_eq_true rfl) (Nat.le_of_ble_eq_true rfl) (Nat.le_of_ble_eq_true rfl) dL_law_1159 (show (cl18 + 0) + 0 ≤ 600000 from by omega) (show (sl18 + 0) + 0 ≤ 7302250 from by omega) (fun r131 S130 H locs hQ hw hx1 => ?_)
        have hX := hX.trans hx1
        have hA2 := hA2.ext hx1
        have hA1 := hA1.ext hx1
        refine lc_eq (tgt := 1366) F dL_law_1162 dL_law_1163 (by decide) (fun hc => ?_) (fun hc => ?_)
        · have hQ := hQ.1 hc
          obtain ⟨v132, ev132⟩ : ∃ y : Int32, y = x3_18 + (6 : Int32) := ⟨_, rfl⟩
          have hQ := hQ v132 ev132
          refine lv_iinc (v := v132) (lv' := [(3, .int v132), (2, .ref a2), (1, .ref a1), (0, .ref b)]) hx hb dL_law_1366 hl (k := 0) rfl (by rw [ev132]; rfl) (by decide) rfl (fun ls hl => ?_)
          refine lv_goto (tgt := 18) hx hb dL_law_1369 (by decide) ?_
          exact ih18 v132 S130 _ _ _ _ _ _ _ hQ hw hA1 hA2 (lv_sub hl [0, 1, 2, 3] rfl) (by omega) (by omega)
        · have hQ := hQ.2 hc
          refine lv_iconst (v := 0) hx hb dL_law_1166 (by decide) ?_
          exact False.elim hQ
      · have hQ := hQ.2.2.2.2.2.2.2.2.2.2.2.2.2.2.2.2.2.2.2.2.2.2.2.1 hc
        refine lv_tableIn (tgt := 1168) hx hb dL_law_33 (by omega) (by omega) (by rw [hc]; rfl) (by decide) ?_
        refine lv_aload_n hx hb dL_law_1168 rfl (lv_at hl 2 rfl) ?_
        refine lv_aload_n hx hb dL_law_1169 rfl (lv_at hl 3 rfl) ?_
        refine lv_iload_n hx hb dL_law_1170 rfl (lv_at hl 0 rfl) ?_
        refine lv_iconst (v := 1) hx hb dL_law_1171 (by decide) ?_
        refine lv_iadd hx hb dL_law_1172 ?_
        obtain ⟨hin, hQ⟩ := hQ
        refine va_sld hx hb hXs hbl hbA hw.2 hin dL_law_1173 ?_
        refine lv_aload_n hx hb dL_law_1174 rfl (lv_at hl 3 rfl) ?_
        refine lv_iload_n hx hb dL_law_1175 rfl (lv_at hl 0 rfl) ?_
        refine lv_iconst (v := 2) hx hb dL_law_1176 (by decide) ?_
        refine lv_iadd hx hb dL_law_1177 ?_
        obtain ⟨hin, hQ⟩ := hQ
        refine va_sld hx hb hXs hbl hbA hw.2 hin dL_law_1178 ?_
        refine k_X8_record F hw hl hA1 hQ twm_RL_115 (Nat.le_of_ble_eq_true rfl) (Nat.le_of_ble_eq_true rfl) (Nat.le_of_ble_eq_true rfl) dL_law_1179 (show cl18 + 0 ≤ 600000 from by omega) (show sl18 + 0 ≤ 7302250 from by omega) (fun r134 S133 H locs hQ hw hx1 => ?_)
        have hX := hX.trans hx1
        have hA2 := hA2.ext hx1
        have hA1 := hA1.ext hx1
        refine lv_aload_n hx hb dL_law_1182 rfl (lv_at hl 1 rfl) ?_
        refine lv_aload_n hx hb dL_law_1183 rfl (lv_at hl 3 rfl) ?_
        refine lv_iload_n hx hb dL_law_1184 rfl (lv_at hl 0 rfl) ?_
        refine lv_iconst (v := 1) hx hb dL_law_1185 (by decide) ?_
        refine lv_iadd hx hb dL_law_1186 ?_
        obtain ⟨hin, hQ⟩ := hQ
        refine va_sld hx hb hXs hbl hbA hw.2 hin dL_law_1187 ?_
        refine lv_aload_n hx hb dL_law_1188 rfl (lv_at hl 3 rfl) ?_
        refine lv_iload_n hx hb dL_law_1189 rfl (lv_at hl 0 rfl) ?_
        refine lv_iconst (v := 2) hx hb dL_law_1190 (by decide) ?_
        refine lv_iadd hx hb dL_law_1191 ?_
        obtain ⟨hin, hQ⟩ := hQ
        refine va_sld hx hb hXs hbl hbA hw.2 hin dL_law_1192 ?_
        refine k_X9_record F hw hl hA2 hQ twm_RL_119 (Nat.le_of_ble_eq_true rfl) (Nat.le_of_ble_eq_true rfl) (Nat.le_of_ble_eq_true rfl) dL_law_1193 (show (cl18 + 0) + 0 ≤ 600000 from by omega) (show (sl18 + 0) + 0 ≤ 7302250 from by omega) (fun r136 S135 H locs hQ hw hx1 => ?_)
        have hX := hX.trans hx1
        have hA2 := hA2.ext hx1
        have hA1 := hA1.ext hx1
        refine lv_icmp_eq (tgt := 1366) hx hb dL_law_1196 (by decide) (fun hc => ?_) (fun hc => ?_)
        · have hQ := hQ.1 hc
          obtain ⟨v137, ev137⟩ : ∃ y : Int32, y = x3_18 + (6 : Int32) := ⟨_, rfl⟩
          have hQ := hQ v137 ev137
          refine lv_iinc (v := v137) (lv' := [(3, .int v137), (2, .ref a2), (1, .ref a1), (0, .ref b)]) hx hb dL_law_1366 hl (k := 0) rfl (by rw [ev137]; rfl) (by decide) rfl (fun ls hl => ?_)
          refine lv_goto (tgt := 18) hx hb dL_law_1369 (by decide) ?_
          exact ih18 v137 S135 _ _ _ _ _ _ _ hQ hw hA1 hA2 (lv_sub hl [0, 1, 2, 3] rfl) (by omega) (by omega)
        · have hQ := hQ.2 hc
          refine lv_iconst (v := 0) hx hb dL_law_1199 (by decide) ?_
          exact False.elim hQ
      · have hQ := hQ.2.2.2.2.2.2.2.2.2.2.2.2.2.2.2.2.2.2.2.2.2.2.2.2.1 hc
        refine lv_tableIn (tgt := 1201) hx hb dL_law_33 (by omega) (by omega) (by rw [hc]; rfl) (by decide) ?_
        refine lv_aload_n hx hb dL_law_1201 rfl (lv_at hl 2 rfl) ?_
        refine k_X8_chained F hw hl hA1 hQ twm_RL_120 (Nat.le_of_ble_eq_true rfl) (Nat.le_of_ble_eq_true rfl) (Nat.le_of_ble_eq_true rfl) dL_law_1202 (show cl18 + 0 ≤ 600000 from by omega) (show sl18 + 0 ≤ 7302250 from by omega) (fun r139 S138 H locs hQ hw hx1 => ?_)
        have hX := hX.trans hx1
        have hA2 := hA2.ext hx1
        have hA1 := hA1.ext hx1
        refine lv_aload_n hx hb dL_law_1205 rfl (lv_at hl 1 rfl) ?_
        refine k_X9_chained F hw hl hA2 hQ twm_RL_123 (Nat.le_of_ble_eq_true rfl) (Nat.le_of_ble_eq_true rfl) (Nat.le_of_ble_eq_true rfl) dL_law_1206 (show (cl18 + 0) + 0 ≤ 600000 from by omega) (show (sl18 + 0) + 0 ≤ 7302250 from by omega) (fun r141 S140 H locs hQ hw hx1 => ?_)
        have hX := hX.trans hx1
        have hA2 := hA2.ext hx1
        have hA1 := hA1.ext hx1
        refine lv_icmp_eq (tgt := 1366) hx hb dL_law_1209 (by decide) (fun hc => ?_) (fun hc => ?_)
        · have hQ := hQ.1 hc
          obtain ⟨v142, ev142⟩ : ∃ y : Int32, y = x3_18 + (6 : Int32) := ⟨_, rfl⟩
          have hQ := hQ v142 ev142
          refine lv_iinc (v := v142) (lv' := [(3, .int v142), (2, .ref a2), (1, .ref a1), (0, .ref b)]) hx hb dL_law_1366 hl (k := 0) rfl (by rw [ev142]; rfl) (by decide) rfl (fun ls hl => ?_)
          refine lv_goto (tgt := 18) hx hb dL_law_1369 (by decide) ?_
          exact ih18 v142 S140 _ _ _ _ _ _ _ hQ hw hA1 hA2 (lv_sub hl [0, 1, 2, 3] rfl) (by omega) (by omega)
        · have hQ := hQ.2 hc
          refine lv_iconst (v := 0) hx hb dL_law_1212 (by decide) ?_
          exact False.elim hQ
      · have hQ := hQ.2.2.2.2.2.2.2.2.2.2.2.2.2.2.2.2.2.2.2.2.2.2.2.2.2.1 hc
        refine lv_tableIn (tgt := 1214) hx hb dL_law_33 (by omega) (by omega) (by rw [hc]; rfl) (by decide) ?_
        refine lv_aload_n hx hb dL_law_1214 rfl (lv_at hl 2 rfl) ?_
        refine lv_aload_n hx hb dL_law_1215 rfl (lv_at hl 3 rfl) ?_
        refine lv_iload_n hx hb dL_law_1216 rfl (lv_at hl 0 rfl) ?_
        refine lv_iconst (v := 1) hx hb dL_law_1217 (by decide) ?_
        refine lv_iadd hx hb dL_law_1218 ?_
        obtain ⟨hin, hQ⟩ := hQ
        refine va_sld hx hb hXs hbl hbA hw.2 hin dL_law_1219 ?_
        refine lv_aload_n hx hb dL_law_1220 rfl (lv_at hl 3 rfl) ?_
        refine lv_iload_n hx hb dL_law_1221 rfl (lv_at hl 0 rfl) ?_
        refine lv_iconst (v := 2) hx hb dL_law_1222 (by decide) ?_
        refine lv_iadd hx hb dL_law_1223 ?_
        obtain ⟨hin, hQ⟩ := hQ
        refine va_sld hx hb hXs hbl hbA hw.2 hin dL_law_1224 ?_
        refine k_X8_order F hw hl hA1 hQ twm_RL_124 (Nat.le_of_ble_eq_true rfl) (Nat.le_of_ble_eq_true rfl) (Nat.le_of_ble_eq_true rfl) dL_law_1225 (show cl18 + 0 ≤ 600000 from by omega) (show sl18 + 0 ≤ 7302250 from by omega) (fun r144 S143 H locs hQ hw hx1 => ?_)
        have hX := hX.trans hx1
        have hA2 := hA2.ext hx1
        have hA1 := hA1.ext hx1
        refine lv_aload_n hx hb dL_law_1228 rfl (lv_at hl 1 rfl) ?_
        refine lv_aload_n hx hb dL_law_1229 rfl (lv_at hl 3 rfl) ?_
        refine lv_iload_n hx hb dL_law_1230 rfl (lv_at hl 0 rfl) ?_
        refine lv_iconst (v := 1) hx hb dL_law_1231 (by decide) ?_
        refine lv_iadd hx hb dL_law_1232 ?_
        obtain ⟨hin, hQ⟩ := hQ
        refine va_sld hx hb hXs hbl hbA hw.2 hin dL_law_1233 ?_
        refine lv_aload_n hx hb dL_law_1234 rfl (lv_at hl 3 rfl) ?_
        refine lv_iload_n hx hb dL_law_1235 rfl (lv_at hl 0 rfl) ?_
        refine lv_iconst (v := 2) hx hb dL_law_1236 (by decide) ?_
        refine lv_iadd hx hb dL_law_1237 ?_
        obtain ⟨hin, hQ⟩ := hQ
        refine va_sld hx hb hXs hbl hbA hw.2 hin dL_law_1238 ?_
        refine k_X9_order F hw hl hA2 hQ twm_RL_127 (Nat.le_of_ble_eq_true rfl) (Nat.le_of_ble_eq_true rfl) (Nat.le_of_ble_eq_true rfl) dL_law_1239 (show (cl18 + 0) + 0 ≤ 600000 from by omega) (show (sl18 + 0) + 0 ≤ 7302250 from by omega) (fun r146 S145 H locs hQ hw hx1 => ?_)
        have hX := hX.trans hx1
        have hA2 := hA2.ext hx1
        have hA1 := hA1.ext hx1
        refine lv_icmp_eq (tgt := 1366) hx hb dL_law_1242 (by decide) (fun hc => ?_) (fun hc => ?_)
        · have hQ := hQ.1 hc
          obtain ⟨v147, ev147⟩ : ∃ y : Int32, y = x3_18 + (6 : Int32) := ⟨_, rfl⟩
          have hQ := hQ v147 ev147
          refine lv_iinc (v := v147) (lv' := [(3, .int v147), (2, .ref a2), (1, .ref a1), (0, .ref b)]) hx hb dL_law_1366 hl (k := 0) rfl (by rw [ev147]; rfl) (by decide) rfl (fun ls hl => ?_)
          refine lv_goto (tgt := 18) hx hb dL_law_1369 (by decide) ?_
          exact ih18 v147 S145 _ _ _ _ _ _ _ hQ hw hA1 hA2 (lv_sub hl [0, 1, 2, 3] rfl) (by omega) (by omega)
        · have hQ := hQ.2 hc
          refine lv_iconst (v := 0) hx hb dL_law_1245 (by decide) ?_
          exact False.elim hQ
      · have hQ := hQ.2.2.2.2.2.2.2.2.2.2.2.2.2.2.2.2.2.2.2.2.2.2.2.2.2.2.1 hc
        refine lv_tableIn (tgt := 1247) hx hb dL_law_33 (by omega) (by omega) (by rw [hc]; rfl) (by decide) ?_
        refine lv_aload_n hx hb dL_law_1247 rfl (lv_at hl 2 rfl) ?_
        refine lv_aload_n hx hb dL_law_1248 rfl (lv_at hl 3 rfl) ?_
        refine lv_iload_n hx hb dL_law_1249 rfl (lv_at hl 0 rfl) ?_
        refine lv_iconst (v := 1) hx hb dL_law_1250 (by decide) ?_
        refine lv_iadd hx hb dL_law_1251 ?_
        obtain ⟨hin, hQ⟩ := hQ
        refine va_sld hx hb hXs hbl hbA hw.2 hin dL_law_1252 ?_
        refine k_X8_back F hw hl hA1 hQ twm_RL_128 (Nat.le_of_ble_eq_true rfl) (Nat.le_of_ble_eq_true rfl) (Nat.le_of_ble_eq_true rfl) dL_law_1253 (show cl18 + 1 ≤ 600000 from by omega) (show sl18 + 5 ≤ 7302250 from by omega) (fun r149 S148 H locs hQ hw hx1 => ?_)
        have hX := hX.trans hx1
        have hA2 := hA2.ext hx1
        have hA1 := hA1.ext hx1
        refine lv_aload_n hx hb dL_law_1256 rfl (lv_at hl 1 rfl) ?_
        refine lv_aload_n hx hb dL_law_1257 rfl (lv_at hl 3 rfl) ?_
        refine lv_iload_n hx hb dL_law_1258 rfl (lv_at hl 0 rfl) ?_
        refine lv_iconst (v := 1) hx hb dL_law_1259 (by decide) ?_
        refine lv_iadd hx hb dL_law_1260 ?_
        obtain ⟨hin, hQ⟩ := hQ
        refine va_sld hx hb hXs hbl hbA hw.2 hin dL_law_1261 ?_
        refine k_X9_back F hw hl hA2 hQ twm_RL_131 (Nat.le_of_ble_eq_true rfl) (Nat.le_of_ble_eq_true rfl) (Nat.le_of_ble_eq_true rfl) dL_law_1262 (show (cl18 + 1) + 0 ≤ 600000 from by omega) (show (sl18 + 5) + 0 ≤ 7302250 from by omega) (fun r151 S150 H locs hQ hw hx1 => ?_)
        have hX := hX.trans hx1
        have hA2 := hA2.ext hx1
        have hA1 := hA1.ext hx1
        refine lv_icmp_eq (tgt := 1366) hx hb dL_law_1265 (by decide) (fun hc => ?_) (fun hc => ?_)
        · have hQ := hQ.1 hc
          obtain ⟨v152, ev152⟩ : ∃ y : Int32, y = x3_18 + (6 : Int32) := ⟨_, rfl⟩
          have hQ := hQ v152 ev152
          refine lv_iinc (v := v152) (lv' := [(3, .int v152), (2, .ref a2), (1, .ref a1), (0, .ref b)]) hx hb dL_law_1366 hl (k := 0) rfl (by rw [ev152]; rfl) (by decide) rfl (fun ls hl => ?_)
          refine lv_goto (tgt := 18) hx hb dL_law_1369 (by decide) ?_
          exact ih18 v152 S150 _ _ _ _ _ _ _ hQ hw hA1 hA2 (lv_sub hl [0, 1, 2, 3] rfl) (by omega) (by omega)
        · have hQ := hQ.2 hc
          refine lv_iconst (v := 0) hx hb dL_law_1268 (by decide) ?_
          exact False.elim hQ
      · have hQ := hQ.2.2.2.2.2.2.2.2.2.2.2.2.2.2.2.2.2.2.2.2.2.2.2.2.2.2.2.1 hc
        refine lv_tableIn (tgt := 1270) hx hb dL_law_33 (by omega) (by omega) (by rw [hc]; rfl) (by decide) ?_
        refine lv_aload_n hx hb dL_law_1270 rfl (lv_at hl 2 rfl) ?_
        refine lv_aload_n hx hb dL_law_1271 rfl (lv_at hl 3 rfl) ?_
        refine lv_iload_n hx hb dL_law_1272 rfl (lv_at hl 0 rfl) ?_
        refine lv_iconst (v := 1) hx hb dL_law_1273 (by decide) ?_
        refine lv_iadd hx hb dL_law_1274 ?_
        obtain ⟨hin, hQ⟩ := hQ
        refine va_sld hx hb hXs hbl hbA hw.2 hin dL_law_1275 ?_
        refine lv_i2l hx hb dL_law_1276 rfl ?_
        refine lv_bipush (v := 32) hx hb dL_law_1277 (by decide) ?_
        refine lv_lshl hx hb dL_law_1279 rfl ?_
        refine lv_aload_n hx hb dL_law_1280 rfl (lv_at hl 3 rfl) ?_
        refine lv_iload_n hx hb dL_law_1281 rfl (lv_at hl 0 rfl) ?_
        refine lv_iconst (v := 2) hx hb dL_law_1282 (by decide) ?_
        refine lv_iadd hx hb dL_law_1283 ?_
        obtain ⟨hin, hQ⟩ := hQ
        refine va_sld hx hb hXs hbl hbA hw.2 hin dL_law_1284 ?_
        refine lv_i2l hx hb dL_law_1285 rfl ?_
        refine lv_ldc2 (v := 4294967295) hx hb hown (hts _ twl_RL_13) dL_law_1286 ?_
        refine lv_land hx hb dL_law_1289 ?_
        refine lv_lor hx hb dL_law_1290 ?_
        refine lv_aload_n hx hb dL_law_1291 rfl (lv_at hl 3 rfl) ?_
        refine lv_iload_n hx hb dL_law_1292 rfl (lv_at hl 0 rfl) ?_
        refine lv_iconst (v := 3) hx hb dL_law_1293 (by decide) ?_
        refine lv_iadd hx hb dL_law_1294 ?_
        obtain ⟨hin, hQ⟩ := hQ
        refine va_sld hx hb hXs hbl hbA hw.2 hin dL_law_1295 ?_
        refine k_X8_play (cells := cl18) (slots := sl18) F hw hl hA1 hQ twm_RL_132 (Nat.le_of_ble_eq_true rfl) (Nat.le_of_ble_eq_true rfl) (Nat.le_of_ble_eq_true rfl) dL_law_1296 (show cl18 + 302 ≤ 600000 from by omega) hsB (fun r154 S153 H locs hQ hw hx1 => ?_)
        have hX := hX.trans hx1
        have hA2 := hA2.ext hx1
        have hA1 := hA1.ext hx1
        refine lv_aload_n hx hb dL_law_1299 rfl (lv_at hl 1 rfl) ?_
        refine lv_aload_n hx hb dL_law_1300 rfl (lv_at hl 3 rfl) ?_
        refine lv_iload_n hx hb dL_law_1301 rfl (lv_at hl 0 rfl) ?_
        refine lv_iconst (v := 1) hx hb dL_law_1302 (by decide) ?_
        refine lv_iadd hx hb dL_law_1303 ?_
        obtain ⟨hin, hQ⟩ := hQ
        refine va_sld hx hb hXs hbl hbA hw.2 hin dL_law_1304 ?_
        refine lv_i2l hx hb dL_law_1305 rfl ?_
        refine lv_bipush (v := 32) hx hb dL_law_1306 (by decide) ?_
        refine lv_lshl hx hb dL_law_1308 rfl ?_
        refine lv_aload_n hx hb dL_law_1309 rfl (lv_at hl 3 rfl) ?_
        refine lv_iload_n hx hb dL_law_1310 rfl (lv_at hl 0 rfl) ?_
        refine lv_iconst (v := 2) hx hb dL_law_1311 (by decide) ?_
        refine lv_iadd hx hb dL_law_1312 ?_
        obtain ⟨hin, hQ⟩ := hQ
        refine va_sld hx hb hXs hbl hbA hw.2 hin dL_law_1313 ?_
        refine lv_i2l hx hb dL_law_1314 rfl ?_
        refine lv_ldc2 (v := 4294967295) hx hb hown (hts _ twl_RL_13) dL_law_1315 ?_
        refine lv_land hx hb dL_law_1318 ?_
        refine lv_lor hx hb dL_law_1319 ?_
        refine lv_aload_n hx hb dL_law_1320 rfl (lv_at hl 3 rfl) ?_
        refine lv_iload_n hx hb dL_law_1321 rfl (lv_at hl 0 rfl) ?_
        refine lv_iconst (v := 3) hx hb dL_law_1322 (by decide) ?_
        refine lv_iadd hx hb dL_law_1323 ?_
        obtain ⟨hin, hQ⟩ := hQ
        refine va_sld hx hb hXs hbl hbA hw.2 hin dL_law_1324 ?_
        refine k_X9_play F hw hl hA2 hQ twm_RL_136 (Nat.le_of_ble_eq_true rfl) (Nat.le_of_ble_eq_true rfl) (Nat.le_of_ble_eq_true rfl) dL_law_1325 (show (cl18 + 302) + 0 ≤ 600000 from by omega) hsB (fun r156 S155 H locs hQ hw hx1 => ?_)
        have hX := hX.trans hx1
        have hA2 := hA2.ext hx1
        have hA1 := hA1.ext hx1
        refine lv_icmp_eq (tgt := 1366) hx hb dL_law_1328 (by decide) (fun hc => ?_) (fun hc => ?_)
        · have hQ := hQ.1 hc
          obtain ⟨v157, ev157⟩ : ∃ y : Int32, y = x3_18 + (6 : Int32) := ⟨_, rfl⟩
          have hQ := hQ v157 ev157
          refine lv_iinc (v := v157) (lv' := [(3, .int v157), (2, .ref a2), (1, .ref a1), (0, .ref b)]) hx hb dL_law_1366 hl (k := 0) rfl (by rw [ev157]; rfl) (by decide) rfl (fun ls hl => ?_)
          refine lv_goto (tgt := 18) hx hb dL_law_1369 (by decide) ?_
          exact ih18 v157 S155 _ _ _ _ _ _ _ hQ hw hA1 hA2 (lv_sub hl [0, 1, 2, 3] rfl) (by omega) (by omega)
        · have hQ := hQ.2 hc
          refine lv_iconst (v := 0) hx hb dL_law_1331 (by decide) ?_
          exact False.elim hQ
      · have hQ := hQ.2.2.2.2.2.2.2.2.2.2.2.2.2.2.2.2.2.2.2.2.2.2.2.2.2.2.2.2 hc
        refine lv_tableIn (tgt := 1333) hx hb dL_law_33 (by omega) (by omega) (by rw [hc]; rfl) (by decide) ?_
        refine lv_aload_n hx hb dL_law_1333 rfl (lv_at hl 2 rfl) ?_
        refine lv_aload_n hx hb dL_law_1334 rfl (lv_at hl 3 rfl) ?_
        refine lv_iload_n hx hb dL_law_1335 rfl (lv_at hl 0 rfl) ?_
        refine lv_iconst (v := 1) hx hb dL_law_1336 (by decide) ?_
        refine lv_iadd hx hb dL_law_1337 ?_
        obtain ⟨hin, hQ⟩ := hQ
        refine va_sld hx hb hXs hbl hbA hw.2 hin dL_law_1338 ?_
        refine lv_aload_n hx hb dL_law_1339 rfl (lv_at hl 3 rfl) ?_
        refine lv_iload_n hx hb dL_law_1340 rfl (lv_at hl 0 rfl) ?_
        refine lv_iconst (v := 2) hx hb dL_law_1341 (by decide) ?_
        refine lv_iadd hx hb dL_law_1342 ?_
        obtain ⟨hin, hQ⟩ := hQ
        refine va_sld hx hb hXs hbl hbA hw.2 hin dL_law_1343 ?_
        refine k_X8_tie F hw hl hA1 hQ twm_RL_137 (Nat.le_of_ble_eq_true rfl) (Nat.le_of_ble_eq_true rfl) (Nat.le_of_ble_eq_true rfl) dL_law_1344 (show cl18 + 0 ≤ 600000 from by omega) (show sl18 + 0 ≤ 7302250 from by omega) (fun r159 S158 H locs hQ hw hx1 => ?_)
        have hX := hX.trans hx1
        have hA2 := hA2.ext hx1
        have hA1 := hA1.ext hx1
        refine lv_aload_n hx hb dL_law_1347 rfl (lv_at hl 1 rfl) ?_
        refine lv_aload_n hx hb dL_law_1348 rfl (lv_at hl 3 rfl) ?_
        refine lv_iload_n hx hb dL_law_1349 rfl (lv_at hl 0 rfl) ?_
        refine lv_iconst (v := 1) hx hb dL_law_1350 (by decide) ?_
        refine lv_iadd hx hb dL_law_1351 ?_
        obtain ⟨hin, hQ⟩ := hQ
        refine va_sld hx hb hXs hbl hbA hw.2 hin dL_law_1352 ?_
        refine lv_aload_n hx hb dL_law_1353 rfl (lv_at hl 3 rfl) ?_
        refine lv_iload_n hx hb dL_law_1354 rfl (lv_at hl 0 rfl) ?_
        refine lv_iconst (v := 2) hx hb dL_law_1355 (by decide) ?_
        refine lv_iadd hx hb dL_law_1356 ?_
        obtain ⟨hin, hQ⟩ := hQ
        refine va_sld hx hb hXs hbl hbA hw.2 hin dL_law_1357 ?_
        refine k_X9_tie F hw hl hA2 hQ twm_RL_140 (Nat.le_of_ble_eq_true rfl) (Nat.le_of_ble_eq_true rfl) (Nat.le_of_ble_eq_true rfl) dL_law_1358 (show (cl18 + 0) + 0 ≤ 600000 from by omega) (show (sl18 + 0) + 0 ≤ 7302250 from by omega) (fun r161 S160 H locs hQ hw hx1 => ?_)
        have hX := hX.trans hx1
        have hA2 := hA2.ext hx1
        have hA1 := hA1.ext hx1
        refine lv_icmp_eq (tgt := 1366) hx hb dL_law_1361 (by decide) (fun hc => ?_) (fun hc => ?_)
        · have hQ := hQ.1 hc
          obtain ⟨v162, ev162⟩ : ∃ y : Int32, y = x3_18 + (6 : Int32) := ⟨_, rfl⟩
          have hQ := hQ v162 ev162
          refine lv_iinc (v := v162) (lv' := [(3, .int v162), (2, .ref a2), (1, .ref a1), (0, .ref b)]) hx hb dL_law_1366 hl (k := 0) rfl (by rw [ev162]; rfl) (by decide) rfl (fun ls hl => ?_)
          refine lv_goto (tgt := 18) hx hb dL_law_1369 (by decide) ?_
          exact ih18 v162 S160 _ _ _ _ _ _ _ hQ hw hA1 hA2 (lv_sub hl [0, 1, 2, 3] rfl) (by omega) (by omega)
        · have hQ := hQ.2 hc
          refine lv_iconst (v := 0) hx hb dL_law_1364 (by decide) ?_
          exact False.elim hQ

/-- the same contents, with the addresses of a larger world -/
theorem pcM_ad {cA : Nat → ClassId} {es : Nat → Nat} {ad ad2 : Nat → Nat → Nat} {n : Nat → Nat} (k : Nat) (hk : k < 39) (h1 : ∀ k j, j < n k → ad2 k j = ad k j) (h2 : ∀ k, pwFix k → 0 < n k) {I : Nat → Int32} {J : Nat → Int64} {R : Nat → Option Nat} (h3 : ∀ f i, R f = some i → i < kB n k) : pcM cA es ad2 k I J R = pcM cA es ad k I J R := by
  have hc : ∀ k, pwFix k → ad2 k 0 = ad k 0 := fun k h => h1 k 0 (h2 k h)
  have hm : ∀ (k2 f : Nat), kB n k = n k2 → Option.map (ad2 k2) (R f) = Option.map (ad k2) (R f) := fun k2 f hb => by
    cases hr : R f with
    | none => rfl
    | some i => simp only [Option.map_some]; rw [h1 k2 i (by rw [← hb]; exact h3 f i hr)]
  match k, hk, hm with
  | 0, _, _ => exact rfl
  | 1, _, _ => exact rfl
  | 2, _, hm => simp only [pcM, hc 13 (by unfold pwFix; decide)]
  | 3, _, _ => exact rfl
  | 4, _, hm => simp only [pcM, hm 5 0 rfl]
  | 5, _, _ => exact rfl
  | 6, _, hm => simp only [pcM, hc 14 (by unfold pwFix; decide), hc 15 (by unfold pwFix; decide), hc 16 (by unfold pwFix; decide)]
  | 7, _, hm => simp only [pcM, hc 10 (by unfold pwFix; decide), hc 11 (by unfold pwFix; decide), hc 12 (by unfold pwFix; decide), hc 4 (by unfold pwFix; decide), hc 2 (by unfold pwFix; decide), hc 6 (by unfold pwFix; decide)]
  | 8, _, hm => simp only [pcM, hc 17 (by unfold pwFix; decide), hc 18 (by unfold pwFix; decide), hc 19 (by unfold pwFix; decide), hc 20 (by unfold pwFix; decide), hc 21 (by unfold pwFix; decide), hc 22 (by unfold pwFix; decide), hc 23 (by unfold pwFix; decide), hc 24 (by unfold pwFix; decide), hc 25 (by unfold pwFix; decide), hc 26 (by unfold pwFix; decide), hc 27 (by unfold pwFix; decide), hc 28 (by unfold pwFix; decide), hc 29 (by unfold pwFix; decide), hc 30 (by unfold pwFix; decide), hc 31 (by unfold pwFix; decide), hc 32 (by unfold pwFix; decide), hc 33 (by unfold pwFix; decide), hc 34 (by unfold pwFix; decide), hc 35 (by unfold pwFix; decide), hc 36 (by unfold pwFix; decide), hc 37 (by unfold pwFix; decide), hc 38 (by unfold pwFix; decide)]
  | 9, _, _ => exact rfl
  | 10, _, hm => simp only [pcM]; rw [show (fun e => Option.map (ad2 5) (R e)) = fun e => Option.map (ad 5) (R e) from funext fun e => hm 5 e rfl]
  | 11, _, hm => simp only [pcM]; rw [show (fun e => Option.map (ad2 1) (R e)) = fun e => Option.map (ad 1) (R e) from funext fun e => hm 1 e rfl]
  | 12, _, hm => simp only [pcM]; rw [show (fun e => Option.map (ad2 0) (R e)) = fun e => Option.map (ad 0) (R e) from funext fun e => hm 0 e rfl]
  | 13, _, hm => simp only [pcM]; rw [show (fun e => Option.map (ad2 3) (R e)) = fun e => Option.map (ad 3) (R e) from funext fun e => hm 3 e rfl]
  | 14, _, hm => simp only [pcM]; rw [show (fun e => Option.map (ad2 0) (R e)) = fun e => Option.map (ad 0) (R e) from funext fun e => hm 0 e rfl]
  | 15, _, _ => exact rfl
  | 16, _, _ => exact rfl
  | 17, _, _ => exact rfl
  | 18, _, _ => exact rfl
  | 19, _, _ => exact rfl
  | 20, _, _ => exact rfl
  | 21, _, _ => exact rfl
  | 22, _, _ => exact rfl
  | 23, _, _ => exact rfl
  | 24, _, _ => exact rfl
  | 25, _, _ => exact rfl
  | 26, _, _ => exact rfl
  | 27, _, _ => exact rfl
  | 28, _, _ => exact rfl
  | 29, _, _ => exact rfl
  | 30, _, _ => exact rfl
  | 31, _, _ => exact rfl
  | 32, _, _ => exact rfl
  | 33, _, _ => exact rfl
  | 34, _, _ => exact rfl
  | 35, _, _ => exact rfl
  | 36, _, _ => exact rfl
  | 37, _, _ => exact rfl
  | 38, _, _ => exact rfl
  | k + 39, h, _ => exact absurd h (by omega)
section ROWS2
variable {p : Program} {l : Launch} {e : Env} {R : Room} {s : State} {m : MethodId} {args : Array Value} {below : List Frame} {meth : Method} {c : Code} {H : Heap} {locs : List Loc} {cells slots : Nat} {Q : State → Prop}
variable {cc : ByteArray} {pc nL : Nat} {ls : Array Slot} {rest : List Value} {G : GT} {S : St} {own : String} {a j : Nat}
theorem pw_new (F : CX p m c cc nL s args own) (hw : WW G S s H locs) (k : Nat) (hk : k = 0 ∨ k = 1 ∨ k = 3 ∨ k = 5) {C : String} {T : u_T} {N ci index : Nat} (hin : ∀ w ∈ u_ws C T N, w ∈ wT) (ty : Nat → FieldType) (hty : ∀ k, k < N → parseFieldDescriptor (T k).2.2.1 = some (ty k)) (hcl : Cond.classLink own index C ∈ wT) (hinst : Cond.instantiable C N ∈ wT) (hini : Cond.initialized C ∈ wT) (hc : vwCl[ci]? = some (C, T, N)) {fs : List Value} (he : ∀ (S : St) (j : Nat), gi S k j = (fun _ => 0) → gj S k j = (fun _ => 0) → gr S k j = (fun _ => none) → pcS G S k j = .inr (ci, fs)) (hfs : ∀ j, j < N → defaultValue (ty j) = vp_V fs j)
    (hcells : cells + 1 ≤ R.cells) (hslots : slots + N ≤ R.slots) (hdg : decode cc pc = .ok (.new index, 3))
    (kk : ∀ (S1 : St) (a1 : Nat) (H1 : Heap), S1 = sn S k → AtO S1 k (gn S k) a1 → WW G S1 s H1 locs → Ext S S1 → W p l e R s m args below meth c H1 locs (cells + 1) (slots + N) Q (F0 m (pc + 3) ls (.ref a1 :: rest))) : W p l e R s m args below meth c H locs cells slots Q (F0 m pc ls rest) := by
  obtain ⟨hx, hb, hml, hown, hts⟩ := F
  obtain ⟨hP, hS⟩ := hw
  have hKn := hP.K.1 ci _ hc
  have hk39 : k < 39 := by omega
  have hk9 : k ≠ 9 := by omega
  have hk99 : k ≠ 99 := by omega
  have hnf : ¬ pwFix k := fun h => by unfold pwFix at h; omega
  have gnk : ∀ k', k' < 39 → k' ≠ k → gn (sn S k) k' = gn S k' := fun k' h1 h2 => by rw [gn_sn, if_neg (by omega)]
  have gnself : gn (sn S k) k = gn S k + 1 := by rw [gn_sn, if_pos (Or.inl rfl)]
  have gn99 : gn (sn S k) 99 = gn S 99 + 1 := by rw [gn_sn, if_pos (Or.inr rfl)]
  have gnle : ∀ k', gn S k' ≤ gn (sn S k) k' := fun k' => by rw [gn_sn]; split <;> omega
  have gaold : ∀ k' j', j' < gn S k' → ga (sn S k) k' j' = ga S k' j' := fun k' j' h => by rw [ga_sn, if_neg (by rintro ⟨rfl, rfl⟩; omega)]
  have ganew : ga (sn S k) k (gn S k) = H.size := by rw [ga_sn, if_pos ⟨rfl, rfl⟩]; exact hP.1.1.symm
  have hX : Ext S (sn S k) := fun k' j' h => ⟨Nat.lt_of_lt_of_le h (gnle k'), gaold k' j' h⟩
  refine W.newcK hx hb hown (hts _ hcl) (hts _ hinst) (hts _ hini) rfl hdg hcells hslots hKn.2.1 rfl fun H1 kC hkC e1 z1 o1 => ?_
  have hlt : ∀ k' j', k' < 39 → k' ≠ 9 → j' < gn S k' → ga S k' j' < H.size := fun k' j' a1 a2 a3 => (hP.2.1 k' j' a1 a2 a3).1.lt
  have old : ∀ k' j', j' < gn (sn S k) k' → k' < 39 → ¬ (k' = k ∧ j' = gn S k) → j' < gn S k' := fun k' j' h1 h2 h3 => by
    by_cases e2 : k' = k
    · subst e2
      rw [gnself] at h1
      have : j' ≠ gn S k' := fun q => h3 ⟨rfl, q⟩
      omega
    · rw [gnk k' h2 e2] at h1
      exact h1
  refine kk (sn S k) H.size H1 rfl ⟨by rw [gnself]; omega, ganew⟩ ⟨⟨⟨by rw [z1, gn99, hP.1.1], by rw [z1]; exact Nat.le_trans hP.1.2 (Nat.le_succ _)⟩, fun k' j' q1 q2 q3 => ?_, fun k1 j1 k2 j2 q1 q2 q3 q4 q5 q6 q7 => ?_, fun k' j' f i q => ?_, fun k' hk' => Nat.lt_of_lt_of_le (hP.2.2.2.2.1 k' hk') (gnle k'), hP.2.2.2.2.2.1, hP.K, fun i hi => (hP.2.2.2.2.2.2.2 i hi).kept fun q hq _ => o1 q hq⟩, ⟨Nat.le_trans hS.1 (by omega), fun x h1 h2 => (o1 x (Nat.lt_of_lt_of_le h1 hS.1)).trans (hS.2.1 x h1 h2), hS.2.2⟩⟩ hX
  · by_cases e2 : k' = k ∧ j' = gn S k
    · obtain ⟨rfl, rfl⟩ := e2
      rw [ganew]
      refine ⟨?_, hP.1.2⟩
      rw [he (sn S k') (gn S k') (by funext f; rw [gi_sn, if_pos ⟨rfl, rfl⟩]) (by funext f; rw [gj_sn, if_pos ⟨rfl, rfl⟩]) (by funext f; rw [gr_sn, if_pos ⟨rfl, rfl⟩])]
      exact ⟨_, hc, (u_born ty hts hin hKn hkC e1 hty).to hfs⟩
    · have h4 := old k' j' q3 q1 e2
      obtain ⟨g1, g2⟩ := hP.2.1 k' j' q1 q2 h4
      rw [gaold k' j' h4]
      refine ⟨?_, g2⟩
      have e3 : pcS G (sn S k) k' j' = pcS G S k' j' := by
        unfold pcS
        rw [show gi (sn S k) k' j' = gi S k' j' by funext f; rw [gi_sn, if_neg e2], show gj (sn S k) k' j' = gj S k' j' by funext f; rw [gj_sn, if_neg e2], show gr (sn S k) k' j' = gr S k' j' by funext f; rw [gr_sn, if_neg e2]]
        exact pcM_ad (n := gn S) k' q1 gaold hP.2.2.2.2.1 (fun f i => hP.2.2.2.1 k' j' f i)
      rw [e3]
      exact g1.kept (o1 _ (hlt k' j' q1 q2 h4))
  · by_cases e2 : k1 = k ∧ j1 = gn S k <;> by_cases e3 : k2 = k ∧ j2 = gn S k
    · exact ⟨e2.1.trans e3.1.symm, e2.2.trans e3.2.symm⟩
    · obtain ⟨rfl, rfl⟩ := e2
      have h4 := old k2 j2 q6 q2 e3
      rw [ganew, gaold k2 j2 h4] at q7
      have := hlt k2 j2 q2 q4 h4
      omega
    · obtain ⟨rfl, rfl⟩ := e3
      have h4 := old k1 j1 q5 q1 e2
      rw [ganew, gaold k1 j1 h4] at q7
      have := hlt k1 j1 q1 q3 h4
      omega
    · have h4 := old k1 j1 q5 q1 e2
      have h5 := old k2 j2 q6 q2 e3
      rw [gaold k1 j1 h4, gaold k2 j2 h5] at q7
      exact hP.2.2.1 k1 j1 k2 j2 q1 q2 q3 q4 h4 h5 q7
  · rw [gr_sn] at q
    split at q
    · cases q
    · exact Nat.lt_of_lt_of_le (hP.2.2.2.1 k' j' f i q) (kB_mono gnle k')
theorem pw_gets (F : CX p m c cc nL s args own) (hw : WW G S s H locs) (i : Nat) (hi : i < 6) {n : String} (hn : stN i = n) {index : Nat} (hl : Cond.fieldLink own index "ClockAuctions$State" n "LClockAuctions$State;" ∈ wT) (hdg : decode cc pc = .ok (.getstatic index, 3))
    (kk : W p l e R s m args below meth c H locs cells slots Q (F0 m (pc + 3) ls (va_rf (Option.map G.2.2.2 (some i)) :: rest))) : W p l e R s m args below meth c H locs cells slots Q (F0 m pc ls rest) := by
  subst hn
  obtain ⟨cf, kf, fi, f, a, cell, h1, h2, h3, h4, h5, h6, h7, h8⟩ := hw.1.2.2.2.2.2.2.2 i hi
  exact W.gets F.1 F.2.1 F.2.2.2.1 (F.2.2.2.2 _ hl) h1 h2 h3 h4 h5 (fun e => by rw [e] at h6; cases h6) h7 rfl hdg kk
theorem es_inj {G : GT} {e : Option Nat} {i : Nat} (h6 : ∀ i j, i < 6 → j < 6 → G.2.2.2 i = G.2.2.2 j → i = j) (hi : i < 6) (he : ∀ i, e = some i → i < 6) : (Option.map G.2.2.2 e = Option.map G.2.2.2 (some i)) ↔ e = some i := by
  cases e with
  | none => simp
  | some k =>
    simp only [Option.map_some, Option.some.injEq]
    exact ⟨h6 k i (he k rfl) hi, fun h => by rw [h]⟩
theorem pw_acmp_eq (F : CX p m c cc nL s args own) (hw : WW G S s H locs) {e2 : Option Nat} {i : Nat} (hi : i < 6) (he : ∀ i, e2 = some i → i < 6) {off : Int} {tgt : Nat} (hdg : decode cc pc = .ok (.if_acmp .eq off, 3)) (ht : (pc : Int) + off = (tgt : Int))
    (kt : e2 = some i → W p l e R s m args below meth c H locs cells slots Q (F0 m tgt ls rest)) (kf : ¬ e2 = some i → W p l e R s m args below meth c H locs cells slots Q (F0 m (pc + 3) ls rest)) : W p l e R s m args below meth c H locs cells slots Q (F0 m pc ls (va_rf (Option.map G.2.2.2 (some i)) :: va_rf (Option.map G.2.2.2 e2) :: rest)) := by
  have h := es_inj (G := G) hw.1.2.2.2.2.2.1 hi he
  exact lv_acmp_eq F.1 F.2.1 hdg ht (fun q => kt (h.mp q)) (fun q => kf fun z => q (h.mpr z))
theorem pw_acmp_ne (F : CX p m c cc nL s args own) (hw : WW G S s H locs) {e2 : Option Nat} {i : Nat} (hi : i < 6) (he : ∀ i, e2 = some i → i < 6) {off : Int} {tgt : Nat} (hdg : decode cc pc = .ok (.if_acmp .ne off, 3)) (ht : (pc : Int) + off = (tgt : Int))
    (kt : ¬ e2 = some i → W p l e R s m args below meth c H locs cells slots Q (F0 m tgt ls rest)) (kf : e2 = some i → W p l e R s m args below meth c H locs cells slots Q (F0 m (pc + 3) ls rest)) : W p l e R s m args below meth c H locs cells slots Q (F0 m pc ls (va_rf (Option.map G.2.2.2 (some i)) :: va_rf (Option.map G.2.2.2 e2) :: rest)) := by
  have h := es_inj (G := G) hw.1.2.2.2.2.2.1 hi he
  exact lv_acmp_ne F.1 F.2.1 hdg ht (fun q => kt fun z => q (h.mpr z)) (fun q => kf (h.mp q))
theorem ww_es (hw : WW G S s H locs) (j : Nat) : ∀ i, gr S 5 j 4 = some i → i < 6 := fun i h => pw_wf hw.1 5 j 4 i h
/-! a long compare and its branch -/
theorem lc_eq (F : CX p m c cc nL s args own) {x y : Int64} {off : Int} {tgt : Nat} (h1 : decode cc pc = .ok (.lcmp, 1)) (h2 : decode cc (pc + 1) = .ok (.ifCond .eq off, 3)) (ht : ((pc + 1 : Nat) : Int) + off = (tgt : Int))
    (kt : x = y → W p l e R s m args below meth c H locs cells slots Q (F0 m tgt ls rest)) (kf : ¬ x = y → W p l e R s m args below meth c H locs cells slots Q (F0 m (pc + 1 + 3) ls rest)) : W p l e R s m args below meth c H locs cells slots Q (F0 m pc ls (.long y :: .long x :: rest)) :=
  W.lcmp F.1 F.2.1 h1 (lv_if_eq F.1 F.2.1 h2 ht (fun q => kt ((lg_cmp_eq x y).mp q)) (fun q => kf fun z => q ((lg_cmp_eq x y).mpr z)))
theorem lc_ne (F : CX p m c cc nL s args own) {x y : Int64} {off : Int} {tgt : Nat} (h1 : decode cc pc = .ok (.lcmp, 1)) (h2 : decode cc (pc + 1) = .ok (.ifCond .ne off, 3)) (ht : ((pc + 1 : Nat) : Int) + off = (tgt : Int))
    (kt : ¬ x = y → W p l e R s m args below meth c H locs cells slots Q (F0 m tgt ls rest)) (kf : x = y → W p l e R s m args below meth c H locs cells slots Q (F0 m (pc + 1 + 3) ls rest)) : W p l e R s m args below meth c H locs cells slots Q (F0 m pc ls (.long y :: .long x :: rest)) :=
  W.lcmp F.1 F.2.1 h1 (lv_if_ne F.1 F.2.1 h2 ht (fun q => kt fun z => q ((lg_cmp_eq x y).mpr z)) (fun q => kf ((lg_cmp_eq x y).mp q)))
theorem lc_lt (F : CX p m c cc nL s args own) {x y : Int64} {off : Int} {tgt : Nat} (h1 : decode cc pc = .ok (.lcmp, 1)) (h2 : decode cc (pc + 1) = .ok (.ifCond .lt off, 3)) (ht : ((pc + 1 : Nat) : Int) + off = (tgt : Int))
    (kt : x < y → W p l e R s m args below meth c H locs cells slots Q (F0 m tgt ls rest)) (kf : ¬ x < y → W p l e R s m args below meth c H locs cells slots Q (F0 m (pc + 1 + 3) ls rest)) : W p l e R s m args below meth c H locs cells slots Q (F0 m pc ls (.long y :: .long x :: rest)) :=
  W.lcmp F.1 F.2.1 h1 (lv_if_lt F.1 F.2.1 h2 ht (fun q => kt ((lg_cmp_lt x y).mp q)) (fun q => kf fun z => q ((lg_cmp_lt x y).mpr z)))
theorem lc_ge (F : CX p m c cc nL s args own) {x y : Int64} {off : Int} {tgt : Nat} (h1 : decode cc pc = .ok (.lcmp, 1)) (h2 : decode cc (pc + 1) = .ok (.ifCond .ge off, 3)) (ht : ((pc + 1 : Nat) : Int) + off = (tgt : Int))
    (kt : y ≤ x → W p l e R s m args below meth c H locs cells slots Q (F0 m tgt ls rest)) (kf : ¬ y ≤ x → W p l e R s m args below meth c H locs cells slots Q (F0 m (pc + 1 + 3) ls rest)) : W p l e R s m args below meth c H locs cells slots Q (F0 m pc ls (.long y :: .long x :: rest)) :=
  W.lcmp F.1 F.2.1 h1 (lv_if_ge F.1 F.2.1 h2 ht (fun q => kt ((lg_cmp_ge x y).mp q)) (fun q => kf fun z => q ((lg_cmp_ge x y).mpr z)))
theorem lc_gt (F : CX p m c cc nL s args own) {x y : Int64} {off : Int} {tgt : Nat} (h1 : decode cc pc = .ok (.lcmp, 1)) (h2 : decode cc (pc + 1) = .ok (.ifCond .gt off, 3)) (ht : ((pc + 1 : Nat) : Int) + off = (tgt : Int))
    (kt : y < x → W p l e R s m args below meth c H locs cells slots Q (F0 m tgt ls rest)) (kf : ¬ y < x → W p l e R s m args below meth c H locs cells slots Q (F0 m (pc + 1 + 3) ls rest)) : W p l e R s m args below meth c H locs cells slots Q (F0 m pc ls (.long y :: .long x :: rest)) :=
  W.lcmp F.1 F.2.1 h1 (lv_if_gt F.1 F.2.1 h2 ht (fun q => kt ((lg_cmp_gt x y).mp q)) (fun q => kf fun z => q ((lg_cmp_gt x y).mpr z)))
theorem lc_le (F : CX p m c cc nL s args own) {x y : Int64} {off : Int} {tgt : Nat} (h1 : decode cc pc = .ok (.lcmp, 1)) (h2 : decode cc (pc + 1) = .ok (.ifCond .le off, 3)) (ht : ((pc + 1 : Nat) : Int) + off = (tgt : Int))
    (kt : x ≤ y → W p l e R s m args below meth c H locs cells slots Q (F0 m tgt ls rest)) (kf : ¬ x ≤ y → W p l e R s m args below meth c H locs cells slots Q (F0 m (pc + 1 + 3) ls rest)) : W p l e R s m args below meth c H locs cells slots Q (F0 m pc ls (.long y :: .long x :: rest)) :=
  W.lcmp F.1 F.2.1 h1 (lv_if_le F.1 F.2.1 h2 ht (fun q => kt ((lg_cmp_le x y).mp q)) (fun q => kf fun z => q ((lg_cmp_le x y).mpr z)))
end ROWS2
/-! ===== contracts ===== -/
abbrev QB (G : GT) (S0 : St) : St → State → Prop := fun u t => PW G u t t.heap ∧ Ext S0 u
abbrev QA (G : GT) : Nat → Prop := fun q => G.2.1 ≤ q
def QI (G : GT) (S0 : St) (post : Int32 → St → Prop) : Array Value → State → Outcome → State → Prop := va_Qi (S := St) post (QB G S0) (QA G)
def QJ (G : GT) (S0 : St) (post : Int64 → St → Prop) : Array Value → State → Outcome → State → Prop := va_Ql (S := St) post (QB G S0) (QA G)
def QV (G : GT) (S0 : St) (post : St → Prop) : Array Value → State → Outcome → State → Prop := va_Qv (S := St) post (QB G S0) (QA G)
def QR (k : Nat) (G : GT) (S0 : St) (post : Option Nat → St → Prop) : Array Value → State → Outcome → State → Prop := va_Qq (S := Option Nat × St) (fun ra u => post u.1 u.2 ∧ ra = Option.map (ga u.2 k) u.1 ∧ ∀ i, u.1 = some i → i < gn u.2 k) (fun u => QB G S0 u.2) (QA G)
abbrev PC (G : GT) (S : St) (av : List Value) : Array Value → State → Prop := va_Pc av (fun U => PW G S U U.heap)
theorem mt_start {l : Launch} {y : MethodName} {cc : ByteArray} {n : Nat} {ret : Option FieldType} {rm : Room} {G : GT} {S : St} {av : List Value} {Qc : Array Value → State → Outcome → State → Prop} {mc ms : Nat} (own : String) (hy : plainName y.cls = true) (ho : y.cls = own) (hlen : (lg_sl av).length ≤ n)
    (body : ∀ (p : Program) (e : Env) (s : State) (m : MethodId) (args : Array Value) (below : List Frame) (meth : Method) (c : Code) (ls : Array Slot), CX p m c cc n s args own → meth.sig.returnType = ret → meth.locks = false → meth.name = y.name → WW G S s s.heap [] → lv_has ls n (lv_args 0 av) → W p l e rm s m args below meth c s.heap [] 0 0 (MQ below Qc args s mc ms (QA G)) (F0 m 0 ls [])) : Met l y (wM y cc n ret) rm (PC G S av) Qc mc ms (QA G) := by
  refine Met.ofW (cc := cc) (maxL := n) (ret := ret) hy rfl ?_
  intro p e s m args below meth c s₁ B hml hv
  obtain ⟨rfl, hP⟩ := hv
  have hl := lv_entry av (n := n) hlen
  rw [lg_entry_eq]
  have hts := atoms_spec (ws := wM y cc n ret) B.pre
  exact body p e s m _ below meth c _ ⟨B.exec, B.bytes, hml, by rw [← ho]; exact findClass_of_methodNamed B.named, fun w hw => hts w (List.mem_cons_of_mem _ hw)⟩ B.returns B.notSynchronized (name_of_methodNamed B.named B.method).1 ⟨hP, va_S.rf⟩ hl
section ENDS
variable {p : Program} {l : Launch} {e : Env} {R : Room} {s : State} {m : MethodId} {args : Array Value} {below : List Frame} {meth : Method} {c : Code} {H : Heap} {locs : List Loc} {cells slots mc ms : Nat} {Q : State → Prop}
variable {cc : ByteArray} {pc nL : Nat} {ls : Array Slot} {rest : List Value} {G : GT} {S S0 : St} {own : String} {a j : Nat}
theorem rt_i {post : Int32 → St → Prop} {v : Int32} (F : CX p m c cc nL s args own) (hr : meth.sig.returnType = some .int) (hlk : meth.locks = false) (hw : WW G S s H locs) (hX : Ext S0 S) (hp : post v S) (hc : cells ≤ mc) (hs : slots ≤ ms) (hdg : decode cc pc = .ok (.ireturn, 1)) : W p l e R s m args below meth c H locs cells slots (MQ below (QI G S0 post) args s mc ms (QA G)) (F0 m pc ls [.int v]) :=
  W.widen hc hs (W.iret (v := v) F.1 F.2.1 hr (fun t ht hW => ⟨⟨v, S, rfl, hp, by rw [ht]; exact hw.1.moved hW.alike, hX⟩, hw.2.F ht⟩) hw.2.2.2 hdg hlk)
theorem rt_z {post : Int32 → St → Prop} {v : Int32} (F : CX p m c cc nL s args own) (hr : meth.sig.returnType = some .boolean) (hlk : meth.locks = false) (hw : WW G S s H locs) (hX : Ext S0 S) (hp : post v S) (hn : narrow .boolean (.int v) = .int v) (hc : cells ≤ mc) (hs : slots ≤ ms) (hdg : decode cc pc = .ok (.ireturn, 1)) : W p l e R s m args below meth c H locs cells slots (MQ below (QI G S0 post) args s mc ms (QA G)) (F0 m pc ls [.int v]) :=
  W.widen hc hs (W.zret (v := v) (ty := .boolean) F.1 F.2.1 hr hn (fun t ht hW => ⟨⟨v, S, rfl, hp, by rw [ht]; exact hw.1.moved hW.alike, hX⟩, hw.2.F ht⟩) hw.2.2.2 hdg hlk)
theorem rt_l {post : Int64 → St → Prop} {v : Int64} (F : CX p m c cc nL s args own) (hr : meth.sig.returnType = some .long) (hlk : meth.locks = false) (hw : WW G S s H locs) (hX : Ext S0 S) (hp : post v S) (hc : cells ≤ mc) (hs : slots ≤ ms) (hdg : decode cc pc = .ok (.lreturn, 1)) : W p l e R s m args below meth c H locs cells slots (MQ below (QJ G S0 post) args s mc ms (QA G)) (F0 m pc ls [.long v]) :=
  W.widen hc hs (W.lret (v := v) F.1 F.2.1 hr (fun t ht hW => ⟨⟨v, S, rfl, hp, by rw [ht]; exact hw.1.moved hW.alike, hX⟩, hw.2.F ht⟩) hw.2.2.2 hdg hlk)
theorem rt_v {post : St → Prop} (F : CX p m c cc nL s args own) (hr : meth.sig.returnType = none) (hlk : meth.locks = false) (hw : WW G S s H locs) (hX : Ext S0 S) (hp : post S) (hc : cells ≤ mc) (hs : slots ≤ ms) (hdg : decode cc pc = .ok (.return_, 1)) : W p l e R s m args below meth c H locs cells slots (MQ below (QV G S0 post) args s mc ms (QA G)) (F0 m pc ls []) :=
  W.widen hc hs (W.vret F.1 F.2.1 hr (fun t ht hW => ⟨⟨S, rfl, hp, by rw [ht]; exact hw.1.moved hW.alike, hX⟩, hw.2.F ht⟩) hw.2.2.2 hdg hlk)
theorem rt_n {k : Nat} {C : String} {post : Option Nat → St → Prop} (F : CX p m c cc nL s args own) (hr : meth.sig.returnType = some (.object C)) (hlk : meth.locks = false) (hw : WW G S s H locs) (hX : Ext S0 S) (hp : post none S) (hc : cells ≤ mc) (hs : slots ≤ ms) (hdg : decode cc pc = .ok (.areturn, 1)) : W p l e R s m args below meth c H locs cells slots (MQ below (QR k G S0 post) args s mc ms (QA G)) (F0 m pc ls [.null]) :=
  W.widen hc hs (W.aret (v := .null) F.1 F.2.1 hr (Or.inl ⟨C, rfl⟩) (Or.inl rfl) (fun t ht hW => ⟨⟨none, (none, S), rfl, ⟨hp, rfl, fun i h => by cases h⟩, by rw [ht]; exact hw.1.moved hW.alike, hX⟩, hw.2.F ht⟩) hw.2.2.2 hdg hlk)
theorem rt_a {k : Nat} {C : String} {post : Option Nat → St → Prop} (F : CX p m c cc nL s args own) (hr : meth.sig.returnType = some (.object C)) (hlk : meth.locks = false) (hw : WW G S s H locs) (hX : Ext S0 S) (ha : AtO S k j a) (hp : post (some j) S) (hc : cells ≤ mc) (hs : slots ≤ ms) (hdg : decode cc pc = .ok (.areturn, 1)) : W p l e R s m args below meth c H locs cells slots (MQ below (QR k G S0 post) args s mc ms (QA G)) (F0 m pc ls [.ref a]) :=
  W.widen hc hs (W.aret (v := .ref a) F.1 F.2.1 hr (Or.inl ⟨C, rfl⟩) (Or.inr ⟨a, rfl⟩) (fun t ht hW => ⟨⟨some a, (some j, S), rfl, ⟨hp, by rw [← ha.2]; rfl, fun i h => by cases h; exact ha.1⟩, by rw [ht]; exact hw.1.moved hW.alike, hX⟩, hw.2.F ht⟩) hw.2.2.2 hdg hlk)
/-! calls -/
theorem cl_i {post : Int32 → St → Prop} {ar : Array Value} {st0 : List Value} (hr : va_Run p l e R s m args below meth c H locs cells slots mc ms (F0 m pc ls st0) rest (QI G S post ar) (QA G)) (hw : WW G S s H locs)
    (kk : ∀ (r : Int32) (S1 : St) (H1 : Heap) (locs1 : List Loc), post r S1 → WW G S1 s H1 locs1 → Ext S S1 → W p l e R s m args below meth c H1 locs1 (cells + mc) (slots + ms) Q (F0 m (pc + 3) ls (.int r :: rest))) : W p l e R s m args below meth c H locs cells slots Q (F0 m pc ls st0) :=
  va_calli hr hw.2 (fun _ _ h => h) (fun _ h => h) (fun r u t H1 locs1 ht hvm hp hB _ _ hS => kk r u H1 locs1 hp ⟨by rw [← ht]; exact hB.1.moved hvm.symm, hS⟩ hB.2)
theorem cl_l {post : Int64 → St → Prop} {ar : Array Value} {st0 : List Value} (hr : va_Run p l e R s m args below meth c H locs cells slots mc ms (F0 m pc ls st0) rest (QJ G S post ar) (QA G)) (hw : WW G S s H locs)
    (kk : ∀ (r : Int64) (S1 : St) (H1 : Heap) (locs1 : List Loc), post r S1 → WW G S1 s H1 locs1 → Ext S S1 → W p l e R s m args below meth c H1 locs1 (cells + mc) (slots + ms) Q (F0 m (pc + 3) ls (.long r :: rest))) : W p l e R s m args below meth c H locs cells slots Q (F0 m pc ls st0) :=
  va_calll hr hw.2 (fun _ _ h => h) (fun _ h => h) (fun r u t H1 locs1 ht hvm hp hB _ _ hS => kk r u H1 locs1 hp ⟨by rw [← ht]; exact hB.1.moved hvm.symm, hS⟩ hB.2)
theorem cl_v {post : St → Prop} {ar : Array Value} {st0 : List Value} (hr : va_Run p l e R s m args below meth c H locs cells slots mc ms (F0 m pc ls st0) rest (QV G S post ar) (QA G)) (hw : WW G S s H locs)
    (kk : ∀ (S1 : St) (H1 : Heap) (locs1 : List Loc), post S1 → WW G S1 s H1 locs1 → Ext S S1 → W p l e R s m args below meth c H1 locs1 (cells + mc) (slots + ms) Q (F0 m (pc + 3) ls rest)) : W p l e R s m args below meth c H locs cells slots Q (F0 m pc ls st0) :=
  va_callv hr hw.2 (fun _ _ h => h) (fun _ h => h) (fun u t H1 locs1 ht hvm hp hB _ _ hS => kk u H1 locs1 hp ⟨by rw [← ht]; exact hB.1.moved hvm.symm, hS⟩ hB.2)
theorem cl_r {k : Nat} {post : Option Nat → St → Prop} {ar : Array Value} {st0 : List Value} (hr : va_Run p l e R s m args below meth c H locs cells slots mc ms (F0 m pc ls st0) rest (QR k G S post ar) (QA G)) (hw : WW G S s H locs)
    (kn : ∀ (S1 : St) (H1 : Heap) (locs1 : List Loc), post none S1 → WW G S1 s H1 locs1 → Ext S S1 → W p l e R s m args below meth c H1 locs1 (cells + mc) (slots + ms) Q (F0 m (pc + 3) ls (.null :: rest)))
    (ks : ∀ (j2 a2 : Nat) (S1 : St) (H1 : Heap) (locs1 : List Loc), post (some j2) S1 → AtO S1 k j2 a2 → WW G S1 s H1 locs1 → Ext S S1 → W p l e R s m args below meth c H1 locs1 (cells + mc) (slots + ms) Q (F0 m (pc + 3) ls (.ref a2 :: rest))) : W p l e R s m args below meth c H locs cells slots Q (F0 m pc ls st0) :=
  va_callq hr hw.2 (fun _ _ h => h) (fun _ h => h) (fun r u t H1 locs1 ht hvm hp hB _ _ hS => by
    obtain ⟨r2, S1⟩ := u
    obtain ⟨hp, rfl, hv⟩ := hp
    have hw1 : WW G S1 s H1 locs1 := ⟨by rw [← ht]; exact hB.1.moved hvm.symm, hS⟩
    cases r2 with
    | none => exact kn S1 H1 locs1 hp hw1 hB.2
    | some j2 => exact ks j2 _ S1 H1 locs1 hp ⟨hv j2 rfl, rfl⟩ hw1 hB.2)
theorem fb_PC {av : List Value} : FrameBlind (PC G S av) := fun a U g mk q => ⟨q.1, q.2.moved (U := U) (U' := U.calling g mk a) (Vm.Alike.refl U.vm)⟩
theorem rn_V {y : MethodName} {bytes : ByteArray} {maxL n index : Nat} {ret : Option FieldType} {rm : Room} {Qc : Array Value → State → Outcome → State → Prop} {b : Nat} {As st0 : List Value} {lv : List (Nat × Value)} (F : CX p m c cc nL s args own) (hw : WW G S s H locs) (hl : lv_has ls nL lv) (hM : Met l y (wM y bytes maxL ret) rm (PC G S (.ref b :: As)) Qc mc ms (QA G)) (k : Nat) (hk : k < 39) (hk9 : k ≠ 9) (ha : AtO S k j b) {ci : Nat} {q : vw_C} {fs : List Value} (he : pcS G S k j = .inr (ci, fs)) (hc : vwCl[ci]? = some q) (h1 : Cond.methodLink own index y ∈ wT) (h2 : Cond.instanceMethod y ∈ wT) (h3 : Cond.selects q.1 y y ∈ wT) (h4 : Cond.initialized q.1 ∈ wT) (h5 : Cond.code y bytes maxL ret ∈ wT)
    (hrc : rm.cells = mc) (hrs : rm.slots = ms) (hd : y.cls = q.1 ∧ y.cls ≠ "java/lang/invoke/MethodHandle" ∧ y.cls ≠ "java/lang/invoke/VarHandle" ∧ (parseMethodDescriptor y.desc).map (fun d => d.parameters.length) = some n) (hn : As.length = n) (hR : rm.frames + 1 ≤ R.frames ∧ 8 + (maxL + 11) + rm.locals ≤ R.locals) (hst : st0 = As.reverse ++ .ref b :: rest) (hrest : (rest.map fun v => v.category).sum ≤ 8) (hdg : decode cc pc = .ok (.invokevirtual index, 3)) (hf : cells + mc ≤ R.cells ∧ slots + ms ≤ R.slots) :
    va_Run p l e R s m args below meth c H locs cells slots mc ms (F0 m pc ls st0) rest (Qc (Value.ref b :: As).toArray) (QA G) :=
  va_runV (C := q.1) (As := As) (rest := rest) F hM (cwV n F.2.2.2.2 (goodV h1 h2 h3 h4 h5) rfl hrc hrs hd hR) ⟨fb_PC, pw_recv hw k hk hk9 ha he hc, fun U hU hW => ⟨rfl, by show PW G S U U.heap; rw [hU]; exact hw.1.moved hW.alike⟩⟩ rfl hn hl.1 hst (lv_room hrest) hdg hf
theorem rn_S {y : MethodName} {bytes : ByteArray} {maxL n index : Nat} {ret : Option FieldType} {rm : Room} {Qc : Array Value → State → Outcome → State → Prop} {As st0 : List Value} {lv : List (Nat × Value)} (F : CX p m c cc nL s args own) (hw : WW G S s H locs) (hl : lv_has ls nL lv) (hM : Met l y (wM y bytes maxL ret) rm (PC G S As) Qc mc ms (QA G)) (h1 : Cond.methodLink own index y ∈ wT) (h2 : Cond.static y ∈ wT) (h4 : Cond.initialized y.cls ∈ wT) (h5 : Cond.code y bytes maxL ret ∈ wT)
    (hrc : rm.cells = mc) (hrs : rm.slots = ms) (hd : y.cls ≠ "java/lang/invoke/MethodHandle" ∧ y.cls ≠ "java/lang/invoke/VarHandle" ∧ (parseMethodDescriptor y.desc).map (fun d => d.parameters.length) = some n) (hn : As.length = n) (hR : rm.frames + 1 ≤ R.frames ∧ 8 + (maxL + 11) + rm.locals ≤ R.locals) (hst : st0 = As.reverse ++ rest) (hrest : (rest.map fun v => v.category).sum ≤ 8) (hdg : decode cc pc = .ok (.invokestatic index, 3)) (hf : cells + mc ≤ R.cells ∧ slots + ms ≤ R.slots) :
    va_Run p l e R s m args below meth c H locs cells slots mc ms (F0 m pc ls st0) rest (Qc As.toArray) (QA G) :=
  va_runS (As := As) (rest := rest) F hM (va_cwS n F.2.2.2.2 (goodS h1 h2 h4 h5) rfl hrc hrs hd hR) ⟨fb_PC, fun U hU hW => ⟨rfl, by show PW G S U U.heap; rw [hU]; exact hw.1.moved hW.alike⟩⟩ rfl hn hl.1 hst (lv_room hrest) hdg hf
theorem rn_I {y : MethodName} {bytes : ByteArray} {maxL n index : Nat} {rm : Room} {Qc : Array Value → State → Outcome → State → Prop} {b : Nat} {As st0 : List Value} {lv : List (Nat × Value)} (F : CX p m c cc nL s args own) (hw : WW G S s H locs) (hl : lv_has ls nL lv) (hM : Met l y (wM y bytes maxL none) rm (PC G S (.ref b :: As)) Qc mc ms (QA G)) (h1 : Cond.methodLink own index y ∈ wT) (h2 : Cond.instanceMethod y ∈ wT) (h4 : Cond.initialized y.cls ∈ wT) (h5 : Cond.code y bytes maxL none ∈ wT) (hy1 : y.name = "<init>")
    (hrc : rm.cells = mc) (hrs : rm.slots = ms) (hd : y.cls ≠ "java/lang/invoke/MethodHandle" ∧ y.cls ≠ "java/lang/invoke/VarHandle" ∧ (parseMethodDescriptor y.desc).map (fun d => d.parameters.length) = some n) (hn : As.length = n) (hR : rm.frames + 1 ≤ R.frames ∧ 8 + (maxL + 11) + rm.locals ≤ R.locals) (hst : st0 = As.reverse ++ .ref b :: rest) (hrest : (rest.map fun v => v.category).sum ≤ 8) (hdg : decode cc pc = .ok (.invokespecial index, 3)) (hf : cells + mc ≤ R.cells ∧ slots + ms ≤ R.slots) :
    va_Run p l e R s m args below meth c H locs cells slots mc ms (F0 m pc ls st0) rest (Qc (Value.ref b :: As).toArray) (QA G) :=
  va_runI (As := As) (rest := rest) F hM (cwI n F.2.2.2.2 (goodM h5) rfl hrc hrs (F.2.2.2.2 _ h4) (F.2.2.2.2 _ h1) (F.2.2.2.2 _ h2) hy1 hd hR) ⟨fb_PC, fun U hU hW => ⟨rfl, by show PW G S U U.heap; rw [hU]; exact hw.1.moved hW.alike⟩⟩ rfl hn hl.1 hst (lv_room hrest) hdg hf
end ENDS

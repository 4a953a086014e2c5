/-! ===== the winners' lots are sold ===== -/
def saleT (x : RS) (l : Nat) (B : Int32) (c : Int64) : RS := wj (wi (wi x 20 l 3) 21 l B) 22 l c
def sellStep (x : RS) (l : Nat) (B : Int32) (c : Int64) : RS := aNote (saleT x l B c) 4 (nI l) B c
def ov (x : RS) (c : Int32) (s : Int64) (p : Int32) : RS := wi (wj (wi x 8 27 c) 8 28 s) 8 29 p
theorem saleT_q {x : RS} {l : Nat} {B : Int32} {c : Int64} : qi (saleT x l B c) 20 l = 3 ∧ sT (saleT x l B c) l = 3 ∧ qi (saleT x l B c) 21 l = B ∧ qj (saleT x l B c) 22 l = c := by
  have e : qi (saleT x l B c) 20 l = 3 := by unfold saleT; rw [qi_wj, qi_wi, if_neg (by omega), qi_wi, if_pos ⟨rfl, rfl⟩]
  refine ⟨e, by unfold sT; rw [e]; rfl, ?_, ?_⟩
  · unfold saleT; rw [qi_wj, qi_wi, if_pos ⟨rfl, rfl⟩]
  · unfold saleT; rw [qj_wj, if_pos ⟨rfl, rfl⟩]
theorem saleT_sa {x : RS} {l : Nat} {B : Int32} {c : Int64} : SA x (saleT x l B c) l := SA.j (SA.i (SA.i SA.rf (by omega)) (by omega)) (by omega)
theorem note_wi8 {a : RS} {so lo bu : Int32} {ce : Int64} {f : Nat} {v : Int32} (hf : f ≠ 30) : wi (aNote a so lo bu ce) 8 f v = aNote (wi a 8 f v) so lo bu ce := by
  have e1 : aR (wi a 8 f v) = aR a := by unfold aR; rw [qi_wi, if_neg (fun q => hf q.2.symm)]
  have e2 : lastA (wi a 8 f v) = lastA a := lastA_wi (by decide) (Or.inr (fun q => hf q.symm))
  unfold aNote aNoteL
  rw [e1, e2, wi_comm (k := 8) (f := 30) (k2 := 8) (by omega), wi_comm (k := 38) (k2 := 8) (by omega)]
  show wi (wi (wj (wi (wi (wi (wi a 34 (aR a) so) 35 (aR a) lo) 36 (aR a) bu) 8 f v) 37 (aR a) ce) 38 (aR a) (nextF (lastA a) so lo bu ce)) 8 30 (nI (aR a + 1)) = _
  rw [wi_comm (k := 36) (k2 := 8) (by omega), wi_comm (k := 35) (k2 := 8) (by omega), wi_comm (k := 34) (k2 := 8) (by omega)]
theorem note_wj8 {a : RS} {so lo bu : Int32} {ce : Int64} {f : Nat} {v : Int64} : wj (aNote a so lo bu ce) 8 f v = aNote (wj a 8 f v) so lo bu ce := by
  have e1 : aR (wj a 8 f v) = aR a := rfl
  have e2 : lastA (wj a 8 f v) = lastA a := rfl
  unfold aNote aNoteL
  rw [e1, e2]
  show wi (wi (wj (wj (wi (wi (wi a 34 (aR a) so) 35 (aR a) lo) 36 (aR a) bu) 37 (aR a) ce) 8 f v) 38 (aR a) (nextF (lastA a) so lo bu ce)) 8 30 (nI (aR a + 1)) = _
  rw [wj_comm (k := 37) (k2 := 8) (by omega)]
  rfl
theorem ov_step {x : RS} {l : Nat} {B : Int32} {c : Int64} {cc : Int32} {ss : Int64} {p : Int32} : ov (sellStep x l B c) cc ss p = sellStep (ov x cc ss p) l B c := by
  unfold ov sellStep
  rw [note_wi8 (by decide), note_wj8, note_wi8 (by decide)]
  congr 1
  unfold saleT
  show wi (wj (wj (wi (wi (wi x 20 l 3) 21 l B) 8 27 cc) 22 l c) 8 28 ss) 8 29 p = _
  rw [wj_comm (k := 22) (k2 := 8) (by omega)]
  show wj (wj (wi (wi (wi (wi x 20 l 3) 21 l B) 8 27 cc) 8 29 p) 8 28 ss) 22 l c = wj (wj (wi (wi (wi (wi x 8 27 cc) 8 29 p) 20 l 3) 21 l B) 8 28 ss) 22 l c
  rw [wi_comm (k := 21) (k2 := 8) (by omega), wi_comm (k := 20) (k2 := 8) (by omega), wi_comm (k := 21) (k2 := 8) (by omega), wi_comm (k := 20) (k2 := 8) (by omega)]
def SM (a x : RS) : Prop := aL x = aL a ∧ aB x = aB a ∧ aD x = aD a ∧ ∀ j, qj x 33 j = qj a 33 j ∧ qj x 32 j = qj a 32 j ∧ qi x 31 j = qi a 31 j ∧ qj x 28 j = qj a 28 j
theorem SM.step {a x : RS} (h : SM a x) {l : Nat} {B : Int32} {c : Int64} : SM a (sellStep x l B c) := by
  obtain ⟨h1, h2, h3, h4⟩ := h
  obtain ⟨n1, n2, n3, -⟩ := (saleT_sa (x := x) (l := l) (B := B) (c := c)).n
  refine ⟨n1.trans h1, n2.trans h2, n3.trans h3, fun j => ?_⟩
  unfold sellStep
  rw [(note_q (k := 33) (by omega)).2, (note_q (k := 32) (by omega)).2, (note_q (k := 31) (by omega)).1, (note_q (k := 28) (by omega)).2]
  have s := saleT_sa (x := x) (l := l) (B := B) (c := c)
  rw [(s 33 j (by omega)).2, (s 32 j (by omega)).2, (s 31 j (by omega)).1, (s 28 j (by omega)).2]
  exact h4 j
theorem step_sT {x : RS} {l l2 : Nat} {B : Int32} {c : Int64} (h : l2 ≠ l) : sT (sellStep x l B c) l2 = sT x l2 := by
  unfold sT sellStep
  rw [(note_q (k := 20) (by omega)).1, (saleT_sa (x := x) (l := l) (B := B) (c := c) 20 l2 (by omega)).1]
theorem step_held {x : RS} {l b : Nat} {B : Int32} {c : Int64} (hl : l < aL x) (h0 : sT x l = 0) : heldZ (sellStep x l B c) b (aL x) = heldZ x b (aL x) + (if B = nI b then c.toInt else 0) := by
  obtain ⟨e1, e2, e3, e4⟩ := saleT_q (x := x) (l := l) (B := B) (c := c)
  have : heldZ (sellStep x l B c) b (aL x) = heldZ (saleT x l B c) b (aL x) := heldZ_c (fun i _ => hvZ_c (note_q (k := 20) (by omega)).1 (note_q (k := 21) (by omega)).1 (note_q (k := 22) (by omega)).2)
  rw [this, heldZ_sa saleT_sa hl, hvZ_off (a := x) (by omega), hvZ_on (a := saleT x l B c) (Or.inl e2), e3, e4]
  omega
theorem Ok.step {x : RS} (h : Ok x) {l : Nat} {B : Int32} {c : Int64} (hl : l < aL x) (h0 : sT x l = 0) (hB : ∃ b, b < aB x ∧ B = nI b) (c0 : 0 ≤ c.toInt) (hm : ∀ b, b < aB x → heldZ x b (aL x) + (if B = nI b then c.toInt else 0) ≤ (qj x 28 b).toInt) : Ok (sellStep x l B c) ∧ aR x < 240 := by
  have okl := h.2.1 l hl
  obtain ⟨e1, e2, e3, e4⟩ := saleT_q (x := x) (l := l) (B := B) (c := c)
  have e24 : qi (saleT x l B c) 24 l = qi x 24 l := rfl
  have e25 : qi (saleT x l B c) 25 l = qi x 25 l := rfl
  have cA : capA x l + 1 ≤ capA (saleT x l B c) l := by
    unfold capA
    rw [e2, e24, e25, h0]
    simp
  have ok1 : Ok (saleT x l B c) := by
    refine Ok.lot h hl saleT_sa (h.on1 hl (by omega)) ?_ ?_ ?_ ?_ (by omega)
    · rw [e1, e2]
      have e18 : qj (saleT x l B c) 18 l = qj x 18 l := by unfold saleT; rw [qj_wj, if_neg (by omega)]; rfl
      have e19 : qj (saleT x l B c) 19 l = qj x 19 l := by unfold saleT; rw [qj_wj, if_neg (by omega)]; rfl
      rw [e18, e19]
      exact ⟨rfl, by omega, okl.2.2⟩
    · rw [e2, e4]
      refine ⟨fun _ => c0, fun z => ?_⟩
      have := ((h.2.2.1 l hl).2 z).1
      omega
    · intro _
      rw [e3]; exact hB
    · intro b hb
      rw [hvZ_off (a := x) (by omega), hvZ_on (a := saleT x l B c) (Or.inl e2), e3, e4]
      have := hm b hb
      omega
  have e := capS_sa (saleT_sa (x := x) (l := l) (B := B) (c := c)) hl
  have hc := h.1.2.2.2.2.2.2.2
  have hcap : aR x < capS (saleT x l B c) (aL x) := by omega
  obtain ⟨n1, -, -, n4⟩ := (saleT_sa (x := x) (l := l) (B := B) (c := c)).n
  exact ⟨ok1.note (by rw [n1, n4]; exact hcap), h.r239 hcap⟩
theorem CR.step {S : St} {x : RS} {ob l : Nat} {B : Int32} {c : Int64} (h : CR S x ob) (hk : OkC x) (hl : l < aL x) (hR : aR x < 240) : CR (cAdd (sj (si (sr S 5 l 4 (some 3)) 5 l 5 B) 5 l 6 c) (aR x) 4 (nI l) B c) (sellStep x l B c) ob := by
  obtain ⟨e1, e2, e3, e4⟩ := saleT_q (x := x) (l := l) (B := B) (c := c)
  have row := h.2.1 l hl
  have e18 : qj (saleT x l B c) 18 l = qj x 18 l := by unfold saleT; rw [qj_wj, if_neg (by omega)]; rfl
  have e19 : qj (saleT x l B c) 19 l = qj x 19 l := by unfold saleT; rw [qj_wj, if_neg (by omega)]; rfl
  have n := (saleT_sa (x := x) (l := l) (B := B) (c := c)).n
  have cr : CR (sj (si (sr S 5 l 4 (some 3)) 5 l 5 B) 5 l 6 c) (saleT x l B c) ob := by
    refine CR.lot h (SB.j (SB.i (SB.r SB.rf))) saleT_sa ?_ ?_ ?_
    · rw [e2, e18, e19]
      refine ⟨?_, ?_, ?_, ?_, ?_, ?_, ?_, ?_, ?_⟩
      · rw [gi_sj, gi_si, if_neg (by omega)]; exact row.2.1
      · rw [gi_sj, gi_si, if_neg (by omega)]; exact row.2.2.1
      · rw [gj_sj, if_neg (by omega)]; exact row.2.2.2.1
      · rw [gj_sj, if_neg (by omega)]; exact row.2.2.2.2.1
      · rw [gr_sj, gr_si, gr_sr]; exact if_pos ⟨rfl, rfl, rfl⟩
      · rw [gi_sj, gi_si, if_neg (by omega)]; exact row.2.2.2.2.2.2.1
      · rw [gi_sj, gi_si, if_neg (by omega)]; exact row.2.2.2.2.2.2.2.1
      · rw [gi_sj, gi_si, if_neg (by omega)]; exact row.2.2.2.2.2.2.2.2.1
      · rw [gi_sj, gi_si, if_neg (by omega)]; exact row.2.2.2.2.2.2.2.2.2
    · intro _
      rw [e3, e4]
      refine ⟨?_, ?_⟩
      · rw [gi_sj, gi_si]; exact if_pos ⟨rfl, rfl, rfl⟩
      · rw [gj_sj]; exact if_pos ⟨rfl, rfl, rfl⟩
    · rw [e2]; exact fun c => absurd c (by omega)
  have e30 : qi (saleT x l B c) 8 30 = nI (aR (saleT x l B c)) := by
    rw [n.2.2.2]
    exact ((saleT_sa (x := x) (l := l) (B := B) (c := c)) 8 30 (by omega)).1.trans hk.2.2.2.2.2.2.1
  have := CR.add (so := 4) (lo := nI l) (bu := B) (ce := c) cr e30 (by rw [n.2.2.2]; exact hR)
  rw [n.2.2.2] at this
  exact this
/-! money still to come from chosen bids -/
def remB (a : RS) (X : Int32) (b k : Nat) : Int := sumB (bidU a b) (fun j => bt X j && decide (k ≤ j)) (aD a)
theorem remB_s {a : RS} {X : Int32} {b k : Nat} (hk : k < aD a) : remB a X b k = (if bt X k = true then bidU a b k else 0) + remB a X b (k + 1) := by
  unfold remB
  by_cases q : bt X k = true
  · rw [if_pos q, sumB_u (C := bidU a b) (P := fun j => bt X j && decide (k + 1 ≤ j)) (Q := fun j => bt X j && decide (k ≤ j)) hk (fun j hj => ?_) (by simp) (by simp [q])]
    · omega
    · have : decide (k ≤ j) = decide (k + 1 ≤ j) := by
        by_cases z : k ≤ j
        · rw [decide_eq_true z, decide_eq_true (show k + 1 ≤ j by omega)]
        · rw [decide_eq_false z, decide_eq_false (show ¬ k + 1 ≤ j by omega)]
      rw [this]
  · rw [if_neg q, sumB_c (P := fun j => bt X j && decide (k ≤ j)) (Q := fun j => bt X j && decide (k + 1 ≤ j)) (fun j _ => ?_)]
    · omega
    · by_cases e : j = k
      · subst e
        rw [Bool.not_eq_true] at q
        rw [q]; rfl
      · have : decide (k ≤ j) = decide (k + 1 ≤ j) := by
          by_cases z : k ≤ j
          · rw [decide_eq_true z, decide_eq_true (show k + 1 ≤ j by omega)]
          · rw [decide_eq_false z, decide_eq_false (show ¬ k + 1 ≤ j by omega)]
        rw [this]
theorem remB_nn {a : RS} (h : OkD a) {X : Int32} {b k : Nat} : 0 ≤ remB a X b k := sumB_nn (fun j _ => (bidU_b h b j).1)
theorem remB_0 {a : RS} {X : Int32} {b : Nat} : remB a X b 0 = byB a b X := sumB_c (fun j _ => by simp)
def SI (a : RS) (X : Int32) (x : RS) (k : Nat) : Prop := Ok x ∧ SM a x ∧ (∀ j, j < aD a → k ≤ j → bt X j = true → ∀ l, l < aL a → bl (bidL a j) l = true → sT x l = 0) ∧ ∀ b, b < aB a → heldZ x b (aL a) + remB a X b k ≤ (qj a 28 b).toInt
def SL (a : RS) (X : Int32) (x : RS) (k l : Nat) (c : Int64) : Prop := Ok x ∧ SM a x ∧ (∀ j, j < aD a → k < j → bt X j = true → ∀ l, l < aL a → bl (bidL a j) l = true → sT x l = 0) ∧ (∀ l2, l ≤ l2 → l2 < aL a → bl (bidL a k) l2 = true → sT x l2 = 0) ∧ 0 ≤ c.toInt ∧ ∀ b, b < aB a → heldZ x b (aL a) + (if qi a 31 k = nI b then c.toInt else 0) + remB a X b (k + 1) ≤ (qj a 28 b).toInt
theorem SL.of {a : RS} {X : Int32} {x : RS} {k : Nat} (hd : OkD a) (h : SI a X x k) (hkn : k < aD a) (hX : bt X k = true) : SL a X x k 0 (qj a 32 k) := by
  obtain ⟨h1, h2, h3, h4⟩ := h
  have hb := bidC_b hd k
  have e : bidC a k = (qj a 32 k).toInt := if_pos hkn
  refine ⟨h1, h2, fun j hj hkj => h3 j hj (by omega), fun l2 _ hl2 hb => h3 k hkn (Nat.le_refl _) hX l2 hl2 hb, by omega, fun b hb2 => ?_⟩
  have := h4 b hb2
  rw [remB_s hkn, if_pos hX] at this
  unfold bidU at this
  rw [e] at this
  omega
theorem SL.step {a : RS} {X : Int32} {x : RS} {k l : Nat} {c : Int64} (hd : OkD a) (hF : Feas a X) (h : SL a X x k l c) (hkn : k < aD a) (hX : bt X k = true) (hl : l < aL a) (hb : bl (bidL a k) l = true) : SL a X (sellStep x l (qi a 31 k) c) k (l + 1) 0 ∧ aR x < 240 := by
  obtain ⟨h1, h2, h3, h4, h5, h6⟩ := h
  have h0 := h4 l (Nat.le_refl _) hl hb
  have hlx : l < aL x := by rw [h2.1]; exact hl
  obtain ⟨bb, hbb, ebb⟩ := (hd k hkn).1
  obtain ⟨o1, o2⟩ := h1.step (c := c) (B := qi a 31 k) hlx h0 ⟨bb, by rw [h2.2.1]; exact hbb, ebb⟩ h5 (fun b hb2 => by
    rw [h2.2.1] at hb2
    have := h6 b hb2
    have := remB_nn hd (X := X) (b := b) (k := k + 1)
    rw [h2.1, (h2.2.2.2 b).2.2.2]; omega)
  refine ⟨⟨o1, h2.step, fun j hj hkj hXj l2 hl2 hb2 => ?_, fun l2 hle hl2 hb2 => ?_, Int.le_refl _, fun b hb2 => ?_⟩, o2⟩
  · have ne : l2 ≠ l := by
      rintro rfl
      have := hF.1 j k hj hkn (by omega) hXj hX
      have := congrArg (fun w => bl w l2) this
      simp only [l_and, l_0] at this
      rw [hb2, hb] at this
      cases this
    rw [step_sT ne]
    exact h3 j hj hkj hXj l2 hl2 hb2
  · rw [step_sT (by omega)]
    exact h4 l2 (by omega) hl2 hb2
  · have e := step_held (x := x) (l := l) (b := b) (B := qi a 31 k) (c := c) hlx h0
    rw [h2.1] at e
    rw [e]
    have := h6 b hb2
    have : (if qi a 31 k = nI b then (0 : Int64).toInt else 0) = 0 := by split <;> rfl
    rw [this]
    omega
theorem SL.skip {a : RS} {X : Int32} {x : RS} {k l : Nat} {c : Int64} (h : SL a X x k l c) : SL a X x k (l + 1) c := ⟨h.1, h.2.1, h.2.2.1, fun l2 hle => h.2.2.2.1 l2 (by omega), h.2.2.2.2⟩
theorem SL.end {a : RS} {X : Int32} {x : RS} {k : Nat} {c : Int64} (h : SL a X x k (aL a) c) : SI a X x (k + 1) := by
  obtain ⟨h1, h2, h3, h4, h5, h6⟩ := h
  refine ⟨h1, h2, fun j hj hkj => h3 j hj (by omega), fun b hb => ?_⟩
  have := h6 b hb
  split at this <;> omega
theorem SI.skip {a : RS} {X : Int32} {x : RS} {k : Nat} (h : SI a X x k) (hkn : k < aD a) (hX : ¬ bt X k = true) : SI a X x (k + 1) := by
  obtain ⟨h1, h2, h3, h4⟩ := h
  refine ⟨h1, h2, fun j hj hkj => h3 j hj (by omega), fun b hb => ?_⟩
  have := h4 b hb
  rw [remB_s hkn, if_neg hX] at this
  omega
/-! one bid's lots, on both sides -/
theorem s_sellSet {a : RS} {X : Int32} (ha : Ok a) (hF : Feas a X) {cc : Int32} {ss : Int64} {p : Int32} (hp : ∀ x, Ok x → Ok (ov x cc ss p)) {k : Nat} (hkn : k < aD a) (hX : bt X k = true) : ∀ d l, l + d = aL a → ∀ (x : RS) (c : Int64), SL a X x k l c → ∃ x2, SI a X x2 (k + 1) ∧
    (∀ S ob, CR S (ov x cc ss p) ob → ∃ S1, (∀ post : St → Prop, post S1 → lp_X8_sellSet_8 (ob + k) post (d + 1) (nI l) c S) ∧ CR S1 (ov x2 cc ss p) ob ∧ pr S1 = pr S) ∧
    (∀ S, pr S = x → ∃ S1, (∀ K : Int32 → St → Prop, K (nI (k + 1)) S1 → lp_X9_sets_212 (nI k) K (d + 1) (nI l) c S) ∧ pr S1 = x2 ∧ CS S S1) := by
  have hL := ha.1.2.1
  have hn := ha.1.2.2.2.2.2.1
  intro d
  induction d with
  | zero =>
    intro l hl x c h
    have hl : l = aL a := by omega
    subst hl
    obtain ⟨h1, h2, -⟩ := id h
    refine ⟨x, h.end, fun S ob hc => ⟨S, fun post hq => ⟨fun _ => hq, fun z => absurd ?_ z⟩, hc, rfl⟩, fun S hS => ⟨S, fun K hK => ⟨fun _ v ev => by rw [ev, nI_1]; exact hK, fun z => absurd ?_ z⟩, hS, CS.rf⟩⟩
    · rw [show gi S 7 0 6 = nI (aL a) from (hc.1.1.trans (hp x h1).1.1).trans (by rw [show aL (ov x cc ss p) = aL x from rfl, h2.1])]
      exact Int32.le_refl _
    · rw [show gi S 8 0 0 = nI (aL a) from (show gi S 8 0 0 = qi (pr S) 8 0 from gi_pr rfl).trans (by rw [hS, h1.1.1, h2.1])]
      exact Int32.le_refl _
  | succ d ih =>
    intro l hl x c h
    have hlt : l < aL a := by omega
    obtain ⟨h1, h2, h3, h4, h5, h6⟩ := id h
    have hlx : l < aL x := by rw [h2.1]; exact hlt
    have ink : vp_in (nI k) 18 := vp_in_nI (by omega) (by omega)
    have inl : vp_in (nI l) 60 := vp_in_nI (by omega) (by omega)
    have hov := hp x h1
    have c6 : ∀ S ob, CR S (ov x cc ss p) ob → gi S 7 0 6 = nI (aL a) := fun S ob hc => (hc.1.1.trans hov.1.1).trans (by rw [show aL (ov x cc ss p) = aL x from rfl, h2.1])
    have cb : ∀ S ob, CR S (ov x cc ss p) ob → gi S 0 (ob + k) 1 = qi a 31 k ∧ gj S 0 (ob + k) 3 = bidL a k := fun S ob hc => by
      obtain ⟨-, -, b1, -, b3⟩ := hc.2.2.2.2.2.2.2.1 k (show k < aD x by rw [h2.2.2.1]; exact hkn)
      refine ⟨b1.trans ?_, b3.trans ?_⟩
      · exact (show qi (ov x cc ss p) 31 k = qi x 31 k from rfl).trans (h2.2.2.2 k).2.2.1
      · exact (show qj (ov x cc ss p) 33 k = qj x 33 k from rfl).trans (h2.2.2.2 k).1
    have r0 : ∀ S, pr S = x → gi S 8 0 0 = nI (aL a) := fun S hS => (show gi S 8 0 0 = qi (pr S) 8 0 from gi_pr rfl).trans (by rw [hS, h1.1.1, h2.1])
    have r33 : ∀ S, pr S = x → gj S 33 0 k = bidL a k := fun S hS => (show gj S 33 0 k = qj (pr S) 33 k from gj_pr rfl).trans (by rw [hS]; exact (h2.2.2.2 k).1)
    have r31 : ∀ S, pr S = x → gi S 31 0 k = qi a 31 k := fun S hS => (show gi S 31 0 k = qi (pr S) 31 k from gi_pr rfl).trans (by rw [hS]; exact (h2.2.2.2 k).2.2.1)
    by_cases q : bl (bidL a k) l = true
    · obtain ⟨hs, hR⟩ := SL.step ha.2.2.2.2.2.2.1 hF h hkn hX hlt q
      obtain ⟨x2, s2, w8, w9⟩ := ih (l + 1) (by omega) (sellStep x l (qi a 31 k) c) 0 hs
      refine ⟨x2, s2, fun S ob hc => ?_, fun S hS => ?_⟩
      · obtain ⟨b1, b3⟩ := cb S ob hc
        have cr := hc.step (B := qi a 31 k) (c := c) hov.1 hlx hR
        rw [← ov_step] at cr
        obtain ⟨S1, w, c1, p1⟩ := w8 _ ob cr
        have n1 : gi S 2 0 1 = nI (aR x) := hc.2.2.2.2.2.2.2.2.2.1.trans hov.1.2.2.2.2.2.2.1
        have n3 : gn S 3 = aR x := hc.1.2.2.2.2.2.1
        refine ⟨S1, fun post hq => ⟨fun z => absurd (by rw [c6 S ob hc] at z; exact z) (nI_ge hlt (by omega)), fun _ => c_lotAtI hc hov.1 hlx ⟨fun z => (by cases z), fun j e => ?_⟩⟩, c1, ?_⟩
        · cases e
          refine c_isFor2 (by omega) (fun _ => ⟨fun z => absurd z (by decide), fun _ => ?_⟩) (fun z => absurd (by rw [b3]; exact q) z)
          rw [b1]
          intro S2 e2 S3 e3 S4 e4
          have f1 : gi S4 0 (ob + k) 1 = qi a 31 k := by rw [e4, e3, e2]; exact b1
          rw [f1, e4, e3, e2]
          refine c_add (S := sj (si (sr S 5 l 4 (some 3)) 5 l 5 (qi a 31 k)) 5 l 6 c) n1 hR n3 (fun v ev => ?_)
          rw [ev, nI_1]
          exact w post hq
        · rw [p1, show aR (ov x cc ss p) = aR x from rfl, pr_add, pr_sjC rfl, pr_siC rfl, pr_sr]
      · have e30 : gi S 8 0 30 = nI (aR x) := (show gi S 8 0 30 = qi (pr S) 8 30 from gi_pr rfl).trans (by rw [hS]; exact h1.1.2.2.2.2.2.2.1)
        have epr : pr (sj (si (si S 20 0 l 3) 21 0 l (qi a 31 k)) 22 0 l c) = saleT x l (qi a 31 k) c := by rw [pr_sj rfl, pr_si rfl, pr_si rfl, hS]; rfl
        have eR : aR (saleT x l (qi a 31 k) c) = aR x := (saleT_sa (x := x) (l := l) (B := qi a 31 k) (c := c)).n.2.2.2
        obtain ⟨S1, w, c1, p1⟩ := w9 (rNote (sj (si (si S 20 0 l 3) 21 0 l (qi a 31 k)) 22 0 l c) (aR x) 4 (nI l) (qi a 31 k) c) (by rw [pr_note (by rw [epr, eR]), epr]; rfl)
        refine ⟨S1, fun K hK => ⟨fun z => absurd (by rw [r0 S hS] at z; exact z) (nI_ge hlt (by omega)), fun _ => ⟨ink, ?_⟩⟩, c1, (cs_note (CS.sj (CS.si (CS.si CS.rf rfl) rfl) rfl)).trans p1⟩
        rw [nI_clamp (show k < 2 ^ 31 by omega), nI_clamp (show l < 2 ^ 31 by omega), r33 S hS, lbit_s (by omega), if_pos q]
        refine ⟨fun z => absurd rfl z, fun _ => ⟨inl, fun S19 e19 => ⟨ink, inl, fun S22 e22 => ⟨inl, fun S24 e24 => ⟨ink, ?_⟩⟩⟩⟩⟩
        have f19 : gi S19 31 0 k = qi a 31 k := by rw [e19]; exact r31 S hS
        rw [f19] at e22
        have f24 : gi S24 31 0 k = qi a 31 k := by rw [e24, e22]; exact f19
        have f30 : gi S24 8 0 30 = nI (aR x) := by rw [e24, e22, e19]; exact e30
        rw [f24]
        refine r_note f30 (by omega) (fun v ev => ?_)
        rw [ev, nI_1, e24, e22, e19]
        exact w K hK
    · obtain ⟨x2, s2, w8, w9⟩ := ih (l + 1) (by omega) x c h.skip
      refine ⟨x2, s2, fun S ob hc => ?_, fun S hS => ?_⟩
      · obtain ⟨b1, b3⟩ := cb S ob hc
        obtain ⟨S1, w, c1, p1⟩ := w8 S ob hc
        refine ⟨S1, fun post hq => ⟨fun z => absurd (by rw [c6 S ob hc] at z; exact z) (nI_ge hlt (by omega)), fun _ => c_lotAtI hc hov.1 hlx ⟨fun z => (by cases z), fun j e => ?_⟩⟩, c1, p1⟩
        cases e
        refine c_isFor2 (by omega) (fun z => absurd (by rw [← b3]; exact z) q) (fun _ => ⟨fun _ v ev => ?_, fun z => absurd rfl z⟩)
        rw [ev, nI_1]; exact w post hq
      · obtain ⟨S1, w, c1, p1⟩ := w9 S hS
        refine ⟨S1, fun K hK => ⟨fun z => absurd (by rw [r0 S hS] at z; exact z) (nI_ge hlt (by omega)), fun _ => ⟨ink, ?_⟩⟩, c1, p1⟩
        rw [nI_clamp (show k < 2 ^ 31 by omega), r33 S hS, lbit_s (by omega), if_neg q]
        refine ⟨fun _ v ev => ?_, fun z => absurd z (by decide)⟩
        rw [ev, nI_1]; exact w K hK

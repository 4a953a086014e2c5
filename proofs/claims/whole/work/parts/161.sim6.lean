/-! ===== the earliest press ===== -/
def due (p : Nat → Int64) (t : Int64) (b : Nat) : Prop := p b ≠ -1 ∧ ¬ t < p b
noncomputable def fstF (p : Nat → Int64) (t : Int64) : Nat → Option Nat
  | 0 => none
  | n + 1 => match fstF p t n with
    | none => @ite _ (due p t n) (Classical.propDecidable _) (some n) none
    | some j => @ite _ (due p t n ∧ ¬ p j ≤ p n) (Classical.propDecidable _) (some n) (some j)
theorem fstF_n {p : Nat → Int64} {t : Int64} {n : Nat} (h : fstF p t n = none) : (due p t n → fstF p t (n + 1) = some n) ∧ (¬ due p t n → fstF p t (n + 1) = none) := by
  constructor
  · intro d; simp only [fstF]; rw [h]; exact if_pos d
  · intro d; simp only [fstF]; rw [h]; exact if_neg d
theorem fstF_s {p : Nat → Int64} {t : Int64} {n j : Nat} (h : fstF p t n = some j) : ((due p t n ∧ ¬ p j ≤ p n) → fstF p t (n + 1) = some n) ∧ (¬ (due p t n ∧ ¬ p j ≤ p n) → fstF p t (n + 1) = some j) := by
  constructor
  · intro d; simp only [fstF]; rw [h]; exact if_pos d
  · intro d; simp only [fstF]; rw [h]; exact if_neg d
theorem fstF_spec (p : Nat → Int64) (t : Int64) : ∀ n, (fstF p t n = none → ∀ b, b < n → ¬ due p t b) ∧ (∀ j, fstF p t n = some j → j < n ∧ due p t j ∧ ∀ b, b < n → due p t b → p j ≤ p b ∧ (p b ≤ p j → j ≤ b)) := by
  intro n
  induction n with
  | zero => exact ⟨fun _ b hb => absurd hb (by omega), fun j h => by simp only [fstF] at h; cases h⟩
  | succ n ih =>
    cases hf : fstF p t n with
    | none =>
      obtain ⟨f1, f2⟩ := fstF_n hf
      have i1 := ih.1 hf
      by_cases d : due p t n
      · rw [f1 d]
        refine ⟨fun c => (by cases c), fun j e => ?_⟩
        cases e
        refine ⟨by omega, d, fun b hb db => ?_⟩
        by_cases q : b = n
        · subst q; exact ⟨Int64.le_refl _, fun _ => Nat.le_refl _⟩
        · exact absurd db (i1 b (by omega))
      · rw [f2 d]
        refine ⟨fun _ b hb => ?_, fun j e => (by cases e)⟩
        by_cases q : b = n
        · subst q; exact d
        · exact i1 b (by omega)
    | some j =>
      obtain ⟨f1, f2⟩ := fstF_s hf
      obtain ⟨i1, i2, i3⟩ := ih.2 j hf
      by_cases d : due p t n ∧ ¬ p j ≤ p n
      · rw [f1 d]
        refine ⟨fun c => (by cases c), fun j2 e => ?_⟩
        cases e
        refine ⟨by omega, d.1, fun b hb db => ?_⟩
        have d2 := d.2
        rw [j_le] at d2
        by_cases q : b = n
        · subst q; exact ⟨Int64.le_refl _, fun _ => Nat.le_refl _⟩
        · obtain ⟨x1, x2⟩ := i3 b (by omega) db
          rw [j_le] at x1
          exact ⟨by rw [j_le]; omega, fun z => by rw [j_le] at z; omega⟩
      · rw [f2 d]
        refine ⟨fun c => (by cases c), fun j2 e => ?_⟩
        cases e
        refine ⟨by omega, i2, fun b hb db => ?_⟩
        by_cases q : b = n
        · subst q
          exact ⟨Classical.byContradiction (fun z => d ⟨db, z⟩), fun _ => by omega⟩
        · exact i3 b (by omega) db
theorem fstF_u {p : Nat → Int64} {t : Int64} {n j : Nat} (h1 : j < n) (h2 : due p t j) (h3 : ∀ b, b < n → due p t b → p j ≤ p b ∧ (p b ≤ p j → j ≤ b)) : fstF p t n = some j := by
  obtain ⟨s1, s2⟩ := fstF_spec p t n
  cases hf : fstF p t n with
  | none => exact absurd h2 (s1 hf j h1)
  | some k =>
    obtain ⟨k1, k2, k3⟩ := s2 k hf
    obtain ⟨x1, x2⟩ := h3 k k1 k2
    obtain ⟨y1, y2⟩ := k3 j h1 h2
    have := x2 y1
    have := y2 x1
    rw [show k = j by omega]
theorem fstF_c {p p2 : Nat → Int64} {t : Int64} : ∀ n, (∀ b, b < n → p b = p2 b) → fstF p t n = fstF p2 t n := by
  intro n
  induction n with
  | zero => intro _; rfl
  | succ n ih =>
    intro h
    have e := ih (fun b hb => h b (by omega))
    have en := h n (by omega)
    have ed : due p t n ↔ due p2 t n := by unfold due; rw [en]
    cases hf : fstF p2 t n with
    | none =>
      rw [hf] at e
      by_cases d : due p t n
      · rw [(fstF_n e).1 d, (fstF_n hf).1 (ed.mp d)]
      · rw [(fstF_n e).2 d, (fstF_n hf).2 (fun z => d (ed.mpr z))]
    | some j =>
      rw [hf] at e
      have hj := ((fstF_spec p2 t n).2 j hf).1
      have ej := h j (by omega)
      by_cases d : due p t n ∧ ¬ p j ≤ p n
      · rw [(fstF_s e).1 d, (fstF_s hf).1 ⟨ed.mp d.1, by rw [← en, ← ej]; exact d.2⟩]
      · rw [(fstF_s e).2 d, (fstF_s hf).2 (fun z => d ⟨ed.mpr z.1, by rw [en, ej]; exact z.2⟩)]
theorem c_hasPress {S : St} {b : Nat} {t : Int64} {post : Int32 → St → Prop} (h1 : due (fun b => gj S 1 b 3) t b → post 1 S) (h0 : ¬ due (fun b => gj S 1 b 3) t b → post 0 S) : wp_X1_hasPressUpTo b t S post :=
  ⟨fun c => h0 (fun d => d.1 c), fun c => ⟨fun c2 => h0 (fun d => d.2 c2), fun c2 => h1 ⟨c, c2⟩⟩⟩
theorem c_first {S : St} {B : Nat} (h0 : gi S 7 0 7 = nI B) (hB : B ≤ 30) (h1 : ∀ b, b < B → gr S 11 0 b = some b) {post : Option Nat → St → Prop} (hp : post (fstF (fun b => gj S 1 b 3) (gj S 4 0 4) B) S) : wp_X8_firstDuePress S post := by
  refine ⟨B + 1, ?_⟩
  have key : ∀ d i, i + d = B → lp_X8_firstDuePress_4 post (d + 1) (nI i) (fstF (fun b => gj S 1 b 3) (gj S 4 0 4) i) S := by
    intro d
    induction d with
    | zero =>
      intro i hi
      have hi : i = B := by omega
      subst hi
      refine ⟨fun e => ?_, fun j e => ?_⟩
      · rw [e] at hp
        exact ⟨fun _ => hp, fun c => absurd (show gi S 7 0 7 ≤ nI i by rw [h0]; exact Int32.le_refl _) c⟩
      · rw [e] at hp
        exact ⟨fun _ => hp, fun c => absurd (show gi S 7 0 7 ≤ nI i by rw [h0]; exact Int32.le_refl _) c⟩
    | succ d ih =>
      intro i hi
      have hlt : i < B := by omega
      have nx := ih (i + 1) (by omega)
      refine ⟨fun e => ?_, fun j e => ?_⟩
      · refine ⟨fun c => absurd (show nI B ≤ nI i from h0 ▸ c) (nI_ge hlt (by omega)), fun _ => ?_⟩
        refine c_buyerAt0 (S := S) (B := B) h0 hB hlt (h1 i hlt) ?_
        refine ⟨fun c => (by cases c), fun k ek => ?_⟩
        cases ek
        refine c_hasPress (fun dd => ⟨fun c => absurd c (by decide), fun _ v ev => ?_⟩) (fun dd => ⟨fun _ v ev => ?_, fun c => absurd rfl c⟩)
        · rw [(fstF_n e).1 dd] at nx
          rw [ev, nI_1]; exact nx
        · rw [(fstF_n e).2 dd] at nx
          rw [ev, nI_1]; exact nx
      · refine ⟨fun c => absurd (show nI B ≤ nI i from h0 ▸ c) (nI_ge hlt (by omega)), fun _ => ?_⟩
        refine c_buyerAt0 (S := S) (B := B) h0 hB hlt (h1 i hlt) ?_
        refine ⟨fun c => (by cases c), fun k ek => ?_⟩
        cases ek
        refine c_hasPress (fun dd => ⟨fun c => absurd c (by decide), fun _ => ⟨fun c v ev => ?_, fun c v ev => ?_⟩⟩) (fun dd => ⟨fun _ v ev => ?_, fun c => absurd rfl c⟩)
        · rw [(fstF_s e).2 (fun z => z.2 c)] at nx
          rw [ev, nI_1]; exact nx
        · rw [(fstF_s e).1 ⟨dd, c⟩] at nx
          rw [ev, nI_1]; exact nx
        · rw [(fstF_s e).2 (fun z => dd z.1)] at nx
          rw [ev, nI_1]; exact nx
  exact key B 0 (by omega)
def retO : Option Nat → Int32
  | none => -1
  | some j => nI j
theorem r_earliest {S : St} {B : Nat} (h0 : gi S 8 0 12 = nI B) (hB : B ≤ 30) {post : Int32 → St → Prop} (hp : post (retO (fstF (fun b => gj S 30 0 b) (gj S 8 0 18) B)) S) : wp_X9_earliest S post := by
  refine ⟨B + 1, ?_⟩
  have key : ∀ d i, i + d = B → lp_X9_earliest_4 post (d + 1) (nI i) (retO (fstF (fun b => gj S 30 0 b) (gj S 8 0 18) i)) S := by
    intro d
    induction d with
    | zero =>
      intro i hi
      have hi : i = B := by omega
      subst hi
      exact ⟨fun _ => hp, fun c => absurd (show gi S 8 0 12 ≤ nI i by rw [h0]; exact Int32.le_refl _) c⟩
    | succ d ih =>
      intro i hi
      have hlt : i < B := by omega
      have nx := ih (i + 1) (by omega)
      have hin : vp_in (nI i) 30 := vp_in_nI (by omega) (by omega)
      refine ⟨fun c => absurd (show nI B ≤ nI i from h0 ▸ c) (nI_ge hlt (by omega)), fun _ => ⟨hin, ?_⟩⟩
      rw [nI_clamp (show i < 2 ^ 31 by omega)]
      have nd : ¬ due (fun b => gj S 30 0 b) (gj S 8 0 18) i → fstF (fun b => gj S 30 0 b) (gj S 8 0 18) (i + 1) = fstF (fun b => gj S 30 0 b) (gj S 8 0 18) i := by
        intro dd
        cases hf : fstF (fun b => gj S 30 0 b) (gj S 8 0 18) i with
        | none => exact (fstF_n hf).2 dd
        | some j => exact (fstF_s hf).2 (fun z => dd z.1)
      refine ⟨fun c v ev => ?_, fun c => ⟨hin, fun c2 v ev => ?_, fun c2 => ?_⟩⟩
      · rw [nd (fun z => z.1 c)] at nx
        rw [ev, nI_1]; exact nx
      · rw [nd (fun z => z.2 c2)] at nx
        rw [ev, nI_1]; exact nx
      · cases hf : fstF (fun b => gj S 30 0 b) (gj S 8 0 18) i with
        | none =>
          rw [(fstF_n hf).1 ⟨c, c2⟩] at nx
          exact ⟨fun _ v ev => (by rw [ev, nI_1]; exact nx), fun q => absurd rfl q⟩
        | some j =>
          have hj := ((fstF_spec _ _ i).2 j hf).1
          refine ⟨fun q => absurd q (nI_m1 (by omega)), fun _ => ⟨hin, ?_⟩⟩
          show vp_in (nI j) 30 ∧ (gj S 30 0 (nI j).toNatClampNeg ≤ gj S 30 0 i → _) ∧ (¬ gj S 30 0 (nI j).toNatClampNeg ≤ gj S 30 0 i → _)
          rw [nI_clamp (show j < 2 ^ 31 by omega)]
          refine ⟨vp_in_nI (by omega) (by omega), fun c3 v ev => ?_, fun c3 v ev => ?_⟩
          · rw [(fstF_s hf).2 (fun z => z.2 c3)] at nx
            rw [ev, nI_1]; exact nx
          · rw [(fstF_s hf).1 ⟨⟨c, c2⟩, c3⟩] at nx
            rw [ev, nI_1]; exact nx
  exact key B 0 (by omega)
/-! presses that cannot pay -/
def prcV (a : RS) (t : Int64) : Int64 := qj a 8 20 - qj a 8 21 * (t / (100 : Int64))
def freeV (a : RS) (b : Nat) : Int64 := qj a 28 b - heldF a b (aL a)
def badP (a : RS) (p : Nat → Int64) (b : Nat) : Prop := due p (qj a 8 18) b ∧ ¬ prcV a (p b) ≤ freeV a b
theorem OkC.P {a : RS} {g : Nat → Int64} (h : OkC a) : OkC (wP a g) := by
  obtain ⟨c1, c2, c3, c4, c5, c6, c7, c8⟩ := h
  exact ⟨c1, c2, c3, c4, c5, c6, c7, by rw [show aL (wP a g) = aL a from rfl, capS_wP]; exact c8⟩
theorem freeV_wP {a : RS} {g : Nat → Int64} {b : Nat} : freeV (wP a g) b = freeV a b := by
  unfold freeV
  rw [show aL (wP a g) = aL a from rfl, heldF_wP]; rfl
theorem c_dropPay {S : St} {a : RS} {ob : Nat} (h : CR S a ob) (hk : OkC a) (hn : qi a 8 17 ≠ -1) {post : St → Prop} (hp : post (sP S (dropF (fun b => gj S 1 b 3) (badP a (fun b => gj S 1 b 3)) (aB a)))) : wp_X8_dropPressesThatCannotPay S post := by
  have hB := hk.2.2.2.1
  have g7 : gi S 7 0 7 = nI (aB a) := h.1.2.1.trans hk.2.2.1
  obtain ⟨k1, k2, k3, k4, k5, k6, k7⟩ := h.2.2.2.2.2.2.1
  refine ⟨aB a + 1, ?_⟩
  have key : ∀ d i, i + d = aB a → lp_X8_dropPressesThatCannotPay_2 post (d + 1) (nI i) (sP S (dropF (fun b => gj S 1 b 3) (badP a (fun b => gj S 1 b 3)) i)) := by
    intro d
    induction d with
    | zero =>
      intro i hi
      have hi : i = aB a := by omega
      subst hi
      exact ⟨fun _ => hp, fun c => absurd (show gi S 7 0 7 ≤ nI (aB a) by rw [g7]; exact Int32.le_refl _) c⟩
    | succ d ih =>
      intro i hi
      have hlt : i < aB a := by omega
      refine ⟨fun c => absurd (show nI (aB a) ≤ nI i from g7 ▸ c) (nI_ge hlt (by omega)), fun _ => ?_⟩
      have hC : CR (sP S (dropF (fun b => gj S 1 b 3) (badP a (fun b => gj S 1 b 3)) i)) (wP a (dropF (fun b => gj S 1 b 3) (badP a (fun b => gj S 1 b 3)) i)) ob := h.P (fun b _ => (if_neg hn).symm)
      refine c_buyerAtI hC hk.P hlt ⟨fun c => (by cases c), fun j e => ?_⟩
      cases e
      have pi : dropF (fun b => gj S 1 b 3) (badP a (fun b => gj S 1 b 3)) i i = gj S 1 i 3 := dropF_n _ _ (Nat.le_refl i)
      have ed : due (fun b => gj (sP S (dropF (fun b => gj S 1 b 3) (badP a (fun b => gj S 1 b 3)) i)) 1 b 3) (gj S 4 0 4) i ↔ due (fun b => gj S 1 b 3) (qj a 8 18) i := by
        show (dropF (fun b => gj S 1 b 3) (badP a (fun b => gj S 1 b 3)) i i ≠ -1 ∧ ¬ gj S 4 0 4 < dropF (fun b => gj S 1 b 3) (badP a (fun b => gj S 1 b 3)) i i) ↔ (gj S 1 i 3 ≠ -1 ∧ ¬ qj a 8 18 < gj S 1 i 3)
        rw [pi, k5]
      have keep : ¬ badP a (fun b => gj S 1 b 3) i → ∀ v : Int32, v = nI i + 1 → lp_X8_dropPressesThatCannotPay_2 post (d + 1) v (sP S (dropF (fun b => gj S 1 b 3) (badP a (fun b => gj S 1 b 3)) i)) := by
        intro nb v ev
        rw [ev, nI_1, dropF_k _ _ nb]
        exact ih (i + 1) (by omega)
      refine c_hasPress (fun dd => ⟨fun c => absurd c (by decide), fun _ => ?_⟩) (fun dd => ⟨fun _ => keep (fun z => dd (ed.mpr z.1)), fun c => absurd rfl c⟩)
      refine c_freeOf hC hk.P hlt ?_
      show ((gj S 4 0 1 - gj S 4 0 2 * (dropF (fun b => gj S 1 b 3) (badP a (fun b => gj S 1 b 3)) i i / (100 : Int64))) ≤ freeV (wP a (dropF (fun b => gj S 1 b 3) (badP a (fun b => gj S 1 b 3)) i)) i → _) ∧ (¬ (gj S 4 0 1 - gj S 4 0 2 * (dropF (fun b => gj S 1 b 3) (badP a (fun b => gj S 1 b 3)) i i / (100 : Int64))) ≤ freeV (wP a (dropF (fun b => gj S 1 b 3) (badP a (fun b => gj S 1 b 3)) i)) i → _)
      rw [freeV_wP, pi, k2, k3]
      refine ⟨fun c => keep (fun z => z.2 c), fun c S16 e16 v ev => ?_⟩
      rw [ev, nI_1, e16, sP_sj, dropF_s _ _ ⟨ed.mp dd, c⟩]
      exact ih (i + 1) (by omega)
  have := key (aB a) 0 (by omega)
  rw [dropF_0, sP_id] at this
  exact this

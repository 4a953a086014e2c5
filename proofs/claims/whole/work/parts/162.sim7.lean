/-! ===== the reference drops presses one by one ===== -/
def cntP (g : Nat → Int64) : Nat → Nat
  | 0 => 0
  | n + 1 => cntP g n + (if g n = -1 then 0 else 1)
theorem cntP_1 {g : Nat → Int64} {n : Nat} (h : g n = -1) : cntP g (n + 1) = cntP g n := by simp only [cntP]; rw [if_pos h]; rfl
theorem cntP_2 {g : Nat → Int64} {n : Nat} (h : g n ≠ -1) : cntP g (n + 1) = cntP g n + 1 := by simp only [cntP]; rw [if_neg h]
theorem cntP_c {g g2 : Nat → Int64} {n : Nat} (h : ∀ b, b < n → g2 b = g b) : cntP g2 n = cntP g n := by
  induction n with
  | zero => rfl
  | succ n ih => simp only [cntP]; rw [ih (fun b hb => h b (by omega)), h n (by omega)]
theorem cntP_u {g : Nat → Int64} {b n : Nat} (hb : b < n) (hg : g b ≠ -1) : cntP (fun j => if j = b then -1 else g j) n + 1 = cntP g n := by
  induction n with
  | zero => omega
  | succ n ih =>
    by_cases e : b = n
    · subst e
      rw [cntP_2 hg, cntP_1 (if_pos rfl), cntP_c (g := g) (fun j hj => if_neg (by omega))]
    · have := ih (by omega)
      have en : (fun j => if j = b then (-1 : Int64) else g j) n = g n := if_neg (fun q => e q.symm)
      by_cases q : g n = -1
      · rw [cntP_1 q, cntP_1 (en.trans q)]; exact this
      · rw [cntP_2 q, cntP_2 (fun z => q (en.symm.trans z))]; omega
def invG (a : RS) (g : Nat → Int64) : Prop := ∀ b, b < aB a → g b = qj a 30 b ∨ (g b = -1 ∧ badP a (fun b => qj a 30 b) b)
def endN (S4 : St) (post : Int32 → St → Prop) : Prop :=
  ((gj S4 8 0 19) ≤ (gj S4 8 0 18) →
  vp_in (gi S4 8 0 17) 60 ∧
  ∀ S6 : St, S6 = si S4 20 0 (gi S4 8 0 17).toNatClampNeg (4 : Int32) →
  wp_X9_note (2 : Int32) (gi S6 8 0 17) (-1 : Int32) (0 : Int64) S6 (fun S7 =>
  ∀ S8 : St, S8 = si S7 8 0 17 (-1 : Int32) →
  post (2 : Int32) S8)) ∧
  (¬ (gj S4 8 0 19) ≤ (gj S4 8 0 18) →
  post (0 : Int32) S4)
theorem r_goLoop {a : RS} (hk : OkC a) (hl : OkL a) : ∀ m g, cntP g (aB a) ≤ m → invG a g → ∃ g2, invG a g2 ∧
    ((fstF g2 (qj a 8 18) (aB a) = none ∧ ∀ S, pr S = a → ∀ post, endN (sQ S g2) post → ∃ n, lp_X9_goOn_55 post n (retO (fstF g (qj a 8 18) (aB a))) (sQ S g)) ∨
     (∃ b, fstF g2 (qj a 8 18) (aB a) = some b ∧ prcV a (g2 b) ≤ freeV a b ∧ ∀ S, pr S = a → ∀ post : Int32 → St → Prop, wp_X9_sell (nI b) (sQ S g2) (fun S18 => post (1 : Int32) S18) → ∃ n, lp_X9_goOn_55 post n (retO (fstF g (qj a 8 18) (aB a))) (sQ S g))) := by
  have hB := hk.2.2.2.1
  intro m
  induction m with
  | zero =>
    intro g hc hg
    cases hf : fstF g (qj a 8 18) (aB a) with
    | none => exact ⟨g, hg, Or.inl ⟨hf, fun S hS post he => ⟨1, fun _ => he, fun c => absurd rfl c⟩⟩⟩
    | some b =>
      obtain ⟨s1, s2, -⟩ := (fstF_spec _ _ _).2 b hf
      have := cntP_u s1 s2.1
      omega
  | succ m ih =>
    intro g hc hg
    cases hf : fstF g (qj a 8 18) (aB a) with
    | none => exact ⟨g, hg, Or.inl ⟨hf, fun S hS post he => ⟨1, fun _ => he, fun c => absurd rfl c⟩⟩⟩
    | some b =>
      obtain ⟨s1, s2, -⟩ := (fstF_spec _ _ _).2 b hf
      have hin : vp_in (nI b) 30 := vp_in_nI (by omega) (by omega)
      have hu := cntP_u s1 s2.1
      have hgb := (hg b s1).resolve_right (fun z => s2.1 z.1)
      by_cases hp : prcV a (g b) ≤ freeV a b
      · refine ⟨g, hg, Or.inr ⟨b, hf, hp, fun S hS post hs => ⟨1, fun c => absurd c (nI_m1 (by omega)), fun _ => ⟨hin, ?_⟩⟩⟩⟩
        subst hS
        have g20 : gj S 8 0 20 = qj (pr S) 8 20 := gj_pr rfl
        have g21 : gj S 8 0 21 = qj (pr S) 8 21 := gj_pr rfl
        rw [show retO (some b) = nI b from rfl, nI_clamp (show b < 2 ^ 31 by omega), gj_sQ3]
        have e := pr_sQ S g
        unfold wp_X9_priceAt
        refine r_free (S := sQ S g) (by rw [e]; exact hk.P) (by rw [e]; exact hl) (by rw [e]; exact s1) ?_
        rw [e]
        show (freeV (wP (pr S) g) b < gj S 8 0 20 - gj S 8 0 21 * (g b / (100 : Int64)) → _) ∧ (¬ freeV (wP (pr S) g) b < gj S 8 0 20 - gj S 8 0 21 * (g b / (100 : Int64)) → _)
        rw [freeV_wP, g20, g21]
        exact ⟨fun c => absurd hp (Int64.not_le.mpr c), fun _ => hs⟩
      · have hg2 : invG a (fun j => if j = b then -1 else g j) := by
          intro x hx
          by_cases q : x = b
          · subst q
            refine Or.inr ⟨if_pos rfl, ?_⟩
            rw [hgb] at hp
            refine ⟨?_, hp⟩
            unfold due at s2 ⊢
            rw [hgb] at s2
            exact s2
          · show (if x = b then -1 else g x) = _ ∨ (if x = b then -1 else g x) = -1 ∧ _
            rw [if_neg q]; exact hg x hx
        obtain ⟨g2, i2, r2⟩ := ih (fun j => if j = b then -1 else g j) (by omega) hg2
        have step : ∀ S, pr S = a → ∀ post : Int32 → St → Prop, (∃ n, lp_X9_goOn_55 post n (retO (fstF (fun j => if j = b then -1 else g j) (qj a 8 18) (aB a))) (sQ S (fun j => if j = b then -1 else g j))) → ∃ n, lp_X9_goOn_55 post n (retO (some b)) (sQ S g) := by
          rintro S hS post ⟨n, hn⟩
          clear ih r2 hg2 i2
          subst hS
          have g12 : gi S 8 0 12 = nI (aB (pr S)) := (gi_pr rfl).trans hk.2.2.1
          have g18 : gj S 8 0 18 = qj (pr S) 8 18 := gj_pr rfl
          have g20 : gj S 8 0 20 = qj (pr S) 8 20 := gj_pr rfl
          have g21 : gj S 8 0 21 = qj (pr S) 8 21 := gj_pr rfl
          refine ⟨n + 1, fun c => absurd c (nI_m1 (by omega)), fun _ => ⟨hin, ?_⟩⟩
          rw [show retO (some b) = nI b from rfl, nI_clamp (show b < 2 ^ 31 by omega), gj_sQ3]
          have e := pr_sQ S g
          unfold wp_X9_priceAt
          refine r_free (S := sQ S g) (by rw [e]; exact hk.P) (by rw [e]; exact hl) (by rw [e]; exact s1) ?_
          rw [e]
          show (freeV (wP (pr S) g) b < gj S 8 0 20 - gj S 8 0 21 * (g b / (100 : Int64)) → _) ∧ (¬ freeV (wP (pr S) g) b < gj S 8 0 20 - gj S 8 0 21 * (g b / (100 : Int64)) → _)
          rw [freeV_wP, g20, g21]
          refine ⟨fun _ => ⟨hin, fun S15 e15 => ?_⟩, fun c => absurd (Int64.not_lt.mp c) hp⟩
          rw [e15, sQ_sj]
          exact r_earliest (S := sQ S (fun j => if j = b then -1 else g j)) g12 hB (by
            show lp_X9_goOn_55 post n (retO (fstF (fun j => if j = b then -1 else g j) (gj S 8 0 18) (aB (pr S)))) _
            rw [g18]; exact hn)
        refine ⟨g2, i2, ?_⟩
        rcases r2 with ⟨f2, h2⟩ | ⟨b2, f2, p2, h2⟩
        · exact Or.inl ⟨f2, fun S hS post he => step S hS post (h2 S hS post he)⟩
        · exact Or.inr ⟨b2, f2, p2, fun S hS post he => step S hS post (h2 S hS post he)⟩
/-! what is the same on both sides -/
theorem same_none {a : RS} {p g2 : Nat → Int64} (hp : ∀ b, b < aB a → p b = qj a 30 b) (hg : invG a g2) (hf : fstF g2 (qj a 8 18) (aB a) = none) :
    fstF (dropF p (badP a p) (aB a)) (qj a 8 18) (aB a) = none ∧ ∀ b, b < aB a → dropF p (badP a p) (aB a) b = g2 b := by
  have hn := (fstF_spec _ _ _).1 hf
  have e : ∀ b, b < aB a → dropF p (badP a p) (aB a) b = g2 b := by
    intro b hb
    have eb := hp b hb
    have ebad : badP a p b ↔ badP a (fun b => qj a 30 b) b := by unfold badP due; rw [eb]
    by_cases q : badP a p b
    · rw [dropF_in _ _ hb q]
      rcases hg b hb with z | z
      · refine absurd ?_ (hn b hb)
        have q1 := (ebad.mp q).1
        unfold due at q1 ⊢
        rw [z]; exact q1
      · exact z.1.symm
    · rw [dropF_out _ _ q, eb]
      rcases hg b hb with z | z
      · exact z.symm
      · exact absurd (ebad.mpr z.2) q
  exact ⟨(fstF_c _ e).trans hf, e⟩
theorem same_some {a : RS} {p g2 : Nat → Int64} {j : Nat} (hp : ∀ b, b < aB a → p b = qj a 30 b) (hg : invG a g2) (hf : fstF g2 (qj a 8 18) (aB a) = some j) (hy : prcV a (g2 j) ≤ freeV a j) :
    fstF (dropF p (badP a p) (aB a)) (qj a 8 18) (aB a) = some j ∧ dropF p (badP a p) (aB a) j = g2 j ∧ g2 j = qj a 30 j ∧ due g2 (qj a 8 18) j ∧
    ∀ b, b < aB a → (dropF p (badP a p) (aB a) b = dropF p (badP a p) (aB a) j ↔ (g2 b = g2 j ∧ ¬ freeV a b < prcV a (g2 j))) := by
  obtain ⟨s1, s2, s3⟩ := (fstF_spec _ _ _).2 j hf
  have gj1 : g2 j = qj a 30 j := (hg j s1).resolve_right (fun z => s2.1 z.1)
  have nbj : ¬ badP a p j := fun z => z.2 (by rw [hp j s1, ← gj1]; exact hy)
  have ej : dropF p (badP a p) (aB a) j = g2 j := by rw [dropF_out _ _ nbj, hp j s1, gj1]
  have ndr : ∀ b, b < aB a → ¬ badP a p b → dropF p (badP a p) (aB a) b = g2 b := by
    intro b hb q
    have eb := hp b hb
    have ebad : badP a p b ↔ badP a (fun b => qj a 30 b) b := by unfold badP due; rw [eb]
    rw [dropF_out _ _ q, eb]
    rcases hg b hb with z | z
    · exact z.symm
    · exact absurd (ebad.mpr z.2) q
  refine ⟨?_, ej, gj1, s2, ?_⟩
  · refine fstF_u s1 ?_ (fun b hb db => ?_)
    · unfold due at s2 ⊢; rw [ej]; exact s2
    · have q : ¬ badP a p b := fun z => db.1 (dropF_in _ _ hb z)
      have e := ndr b hb q
      rw [ej, e]
      refine s3 b hb ?_
      unfold due at db ⊢
      rw [← e]; exact db
  · intro b hb
    rw [ej]
    constructor
    · intro h
      have q : ¬ badP a p b := fun z => s2.1 (by rw [← h]; exact dropF_in _ _ hb z)
      have e := ndr b hb q
      rw [e] at h
      refine ⟨h, fun z => q ⟨?_, fun y => ?_⟩⟩
      · have : p b = g2 j := by rw [← dropF_out p (badP a p) (n := aB a) q, e, h]
        unfold due at s2 ⊢
        rw [this]; exact s2
      · have : p b = g2 j := by rw [← dropF_out p (badP a p) (n := aB a) q, e, h]
        rw [this] at y
        exact absurd z (Int64.not_lt.mpr y)
    · rintro ⟨h1, h2⟩
      have e1 : g2 b = qj a 30 b := (hg b hb).resolve_right (fun z => s2.1 (by rw [← h1]; exact z.1))
      have q : ¬ badP a p b := fun z => z.2 (by rw [hp b hb, ← e1, h1]; exact Int64.not_lt.mp h2)
      rw [ndr b hb q, h1]
/-! the ties -/
noncomputable def mkM (P : Nat → Prop) : Nat → Int32
  | 0 => 0
  | n + 1 => @ite _ (P n) (Classical.propDecidable _) (mkM P n ||| ((1 : Int32) <<< (nI n &&& 31))) (mkM P n)
theorem mkM_t {P : Nat → Prop} {n : Nat} (h : P n) : mkM P (n + 1) = mkM P n ||| ((1 : Int32) <<< (nI n &&& 31)) := by simp only [mkM]; exact if_pos h
theorem mkM_f {P : Nat → Prop} {n : Nat} (h : ¬ P n) : mkM P (n + 1) = mkM P n := by simp only [mkM]; exact if_neg h
theorem mkM_c {P P2 : Nat → Prop} {n : Nat} (h : ∀ b, b < n → (P b ↔ P2 b)) : mkM P n = mkM P2 n := by
  induction n with
  | zero => rfl
  | succ n ih =>
    have e := ih (fun b hb => h b (by omega))
    by_cases q : P n
    · rw [mkM_t q, mkM_t ((h n (by omega)).mp q), e]
    · rw [mkM_f q, mkM_f (fun z => q ((h n (by omega)).mpr z)), e]
theorem c_tied {S : St} {B j : Nat} (h0 : gi S 7 0 7 = nI B) (hB : B ≤ 30) (h1 : ∀ b, b < B → gr S 11 0 b = some b) (hj : gi S 1 j 0 = nI j) (hjB : j < B) {post : Int32 → St → Prop} (hp : post (mkM (fun b => b ≠ j ∧ gj S 1 b 3 = gj S 1 j 3) B) S) : wp_X8_pressesTiedWith j S post := by
  refine ⟨B + 1, ?_⟩
  have key : ∀ d i, i + d = B → lp_X8_pressesTiedWith_4 j post (d + 1) (nI i) (mkM (fun b => b ≠ j ∧ gj S 1 b 3 = gj S 1 j 3) i) S := by
    intro d
    induction d with
    | zero =>
      intro i hi
      have hi : i = B := by omega
      subst hi
      exact ⟨fun _ => hp, fun c => absurd (show gi S 7 0 7 ≤ nI i by rw [h0]; exact Int32.le_refl _) c⟩
    | succ d ih =>
      intro i hi
      have hlt : i < B := by omega
      have nx := ih (i + 1) (by omega)
      refine ⟨fun c => absurd (show nI B ≤ nI i from h0 ▸ c) (nI_ge hlt (by omega)), fun _ => ?_⟩
      refine c_buyerAt0 (S := S) (B := B) h0 hB hlt (h1 i hlt) ?_
      refine ⟨fun c => (by cases c), fun k ek => ?_⟩
      cases ek
      rw [hj]
      refine ⟨fun c v ev => ?_, fun c => ⟨fun c2 v ev => ?_, fun c2 v8 e8 v ev => ?_⟩⟩
      · rw [mkM_f (fun z => z.1 ((nI_eq (by omega) (by omega)).mp c))] at nx
        rw [ev, nI_1]; exact nx
      · rw [mkM_f (fun z => c2 z.2)] at nx
        rw [ev, nI_1]; exact nx
      · rw [mkM_t ⟨fun z => c (by rw [z]), c2⟩] at nx
        rw [ev, nI_1, e8]; exact nx
  exact key B 0 (by omega)
theorem si_si {S : St} {k j f : Nat} {v v2 : Int32} : si (si S k j f v) k j f v2 = si S k j f v2 := by
  refine Prod.ext ?_ rfl
  funext x y z
  show (if x = k ∧ y = j ∧ z = f then v2 else if x = k ∧ y = j ∧ z = f then v else S.1 x y z) = if x = k ∧ y = j ∧ z = f then v2 else S.1 x y z
  split <;> rfl
def saleL (a : RS) (i b : Nat) (c : Int64) (M : Int32) : RS := wi (wj (wi (wi (wi a 27 i M) 20 i 3) 21 i (nI b)) 22 i c) 23 i 1
def offA (a : RS) : RS := wi a 8 17 (-1)
theorem freeV_27 {a : RS} {i o : Nat} {M : Int32} : qj (wi a 27 i M) 28 o - heldF (wi a 27 i M) o (aL (wi a 27 i M)) = freeV a o := by
  show qj a 28 o - heldF (wi a 27 i M) o (aL a) = qj a 28 o - heldF a o (aL a)
  rw [heldF_c (a := a) (a2 := wi a 27 i M) (fun x _ => ⟨rfl, rfl, rfl⟩)]
theorem r_sell {S : St} {i j : Nat} {t : Int64} (hk : OkC (pr S)) (hl : OkL (pr S)) (hj : j < aB (pr S)) (hi : i < aL (pr S)) (h17 : qi (pr S) 8 17 = nI i) (ht : qj (pr S) 30 j = t) {M : Int32}
    (hM : M = mkM (fun o => o ≠ j ∧ qj (pr S) 30 o = t ∧ ¬ freeV (pr S) o < prcV (pr S) t) (aB (pr S))) {post : St → Prop}
    (hp : post (rNote (si (si (sj (si (si (si S 27 0 i M) 20 0 i 3) 21 0 i (nI j)) 22 0 i (prcV (pr S) t)) 23 0 i 1) 8 0 17 (-1)) (aR (pr S)) 1 (nI i) (nI j) (prcV (pr S) t))) : wp_X9_sell (nI j) S post := by
  have hB := hk.2.2.2.1
  have hL := hk.2.1
  have hR := hk.r240
  have hin : vp_in (nI j) 30 := vp_in_nI (by omega) (by omega)
  have ini : vp_in (nI i) 60 := vp_in_nI (by omega) (by omega)
  have g12 : gi S 8 0 12 = nI (aB (pr S)) := (gi_pr rfl).trans hk.2.2.1
  have g20 : gj S 8 0 20 = qj (pr S) 8 20 := gj_pr rfl
  have g21 : gj S 8 0 21 = qj (pr S) 8 21 := gj_pr rfl
  have g17 : gi S 8 0 17 = nI i := (gi_pr rfl).trans h17
  have g30 : gi S 8 0 30 = nI (aR (pr S)) := (gi_pr rfl).trans hk.2.2.2.2.2.2.1
  refine ⟨hin, ?_⟩
  rw [nI_clamp (by omega), show gj S 30 0 j = t from (gj_pr rfl).trans ht]
  intro v2 e2
  subst e2
  show ∀ v5 : Int32, v5 = gi S 8 0 17 → _
  rw [g17, g20, g21]
  intro v5 e5
  subst e5
  refine ⟨ini, ?_⟩
  rw [nI_clamp (by omega)]
  intro S7 e7
  subst e7
  refine ⟨aB (pr S) + 1, ?_⟩
  have key : ∀ d o, o + d = aB (pr S) → lp_X9_sell_31 (nI j) v2 (prcV (pr S) v2) (nI i) post (d + 1) (nI o) (si S 27 0 i (mkM (fun o => o ≠ j ∧ qj (pr S) 30 o = v2 ∧ ¬ freeV (pr S) o < prcV (pr S) v2) o)) := by
    intro d
    induction d with
    | zero =>
      intro o ho
      have ho : o = aB (pr S) := by omega
      subst ho
      refine ⟨fun _ => ?_, fun c => absurd (show gi S 8 0 12 ≤ nI (aB (pr S)) by rw [g12]; exact Int32.le_refl _) c⟩
      rw [← hM]
      show vp_in (nI i) 60 ∧ ∀ S10 : St, S10 = si (si S 27 0 i M) 20 0 (nI i).toNatClampNeg (3 : Int32) → vp_in (nI i) 60 ∧ ∀ S12 : St, S12 = si S10 21 0 (nI i).toNatClampNeg (nI j) → vp_in (nI i) 60 ∧ ∀ S14 : St, S14 = sj S12 22 0 (nI i).toNatClampNeg (prcV (pr S) v2) → vp_in (nI i) 60 ∧ ∀ S16 : St, S16 = si S14 23 0 (nI i).toNatClampNeg (1 : Int32) → ∀ S17 : St, S17 = si S16 8 0 17 (-1 : Int32) → wp_X9_note (1 : Int32) (nI i) (nI j) (prcV (pr S) v2) S17 (fun S18 => post S18)
      rw [nI_clamp (show i < 2 ^ 31 by omega)]
      refine ⟨ini, fun S10 e10 => ⟨ini, fun S12 e12 => ⟨ini, fun S14 e14 => ⟨ini, fun S16 e16 S17 e17 => ?_⟩⟩⟩⟩
      have f17 : gi S17 8 0 30 = nI (aR (pr S)) := by rw [e17, e16, e14, e12, e10]; exact g30
      refine r_note f17 (by omega) ?_
      rw [e17, e16, e14, e12, e10]
      exact hp
    | succ d ih =>
      intro o ho
      have hlt : o < aB (pr S) := by omega
      have nx := ih (o + 1) (by omega)
      have hino : vp_in (nI o) 30 := vp_in_nI (by omega) (by omega)
      have epr : pr (si S 27 0 i (mkM (fun o => o ≠ j ∧ qj (pr S) 30 o = v2 ∧ ¬ freeV (pr S) o < prcV (pr S) v2) o)) = wi (pr S) 27 i (mkM (fun o => o ≠ j ∧ qj (pr S) 30 o = v2 ∧ ¬ freeV (pr S) o < prcV (pr S) v2) o) := pr_si rfl
      refine ⟨fun c => absurd (show nI (aB (pr S)) ≤ nI o from g12 ▸ c) (nI_ge hlt (by omega)), fun _ => ?_⟩
      have keep : ¬ (o ≠ j ∧ qj (pr S) 30 o = v2 ∧ ¬ freeV (pr S) o < prcV (pr S) v2) → ∀ T : St, T = si (si S 27 0 i (mkM (fun o => o ≠ j ∧ qj (pr S) 30 o = v2 ∧ ¬ freeV (pr S) o < prcV (pr S) v2) o)) 27 0 (nI i).toNatClampNeg (gi (si S 27 0 i (mkM (fun o => o ≠ j ∧ qj (pr S) 30 o = v2 ∧ ¬ freeV (pr S) o < prcV (pr S) v2) o)) 27 0 (nI i).toNatClampNeg) → ∀ v : Int32, v = nI o + 1 → lp_X9_sell_31 (nI j) v2 (prcV (pr S) v2) (nI i) post (d + 1) v T := by
        intro q T eT v ev
        rw [mkM_f q] at nx
        rw [nI_clamp (show i < 2 ^ 31 by omega), si_si, gi_si, if_pos ⟨rfl, rfl, rfl⟩] at eT
        rw [eT, ev, nI_1]; exact nx
      refine ⟨fun c => ⟨ini, ini, keep (fun z => z.1 ((nI_eq (by omega) (by omega)).mp c))⟩, fun c => ⟨hino, ?_⟩⟩
      rw [nI_clamp (show o < 2 ^ 31 by omega), show gj (si S 27 0 i (mkM (fun o => o ≠ j ∧ qj (pr S) 30 o = v2 ∧ ¬ freeV (pr S) o < prcV (pr S) v2) o)) 30 0 o = qj (pr S) 30 o from gj_pr (S := S) rfl]
      refine ⟨fun c2 => ⟨ini, ini, keep (fun z => c2 z.2.1)⟩, fun c2 => ?_⟩
      have hC1 : OkC (wi (pr S) 27 i (mkM (fun o => o ≠ j ∧ qj (pr S) 30 o = v2 ∧ ¬ freeV (pr S) o < prcV (pr S) v2) o)) := by
        simp (disch := simp [nf, nk]) only [OkC_wi]; exact hk
      have hL1 : OkL (wi (pr S) 27 i (mkM (fun o => o ≠ j ∧ qj (pr S) 30 o = v2 ∧ ¬ freeV (pr S) o < prcV (pr S) v2) o)) := by
        simp (disch := simp [nf, nk]) only [OkL_wi]; exact hl
      refine r_free (S := si S 27 0 i (mkM (fun o => o ≠ j ∧ qj (pr S) 30 o = v2 ∧ ¬ freeV (pr S) o < prcV (pr S) v2) o)) (by rw [epr]; exact hC1) (by rw [epr]; exact hL1) (by rw [epr]; exact hlt) ?_
      rw [epr]
      have efr : ∀ MM : Int32, qj (wi (pr S) 27 i MM) 28 o - heldF (wi (pr S) 27 i MM) o (aL (wi (pr S) 27 i MM)) = freeV (pr S) o := fun MM => freeV_27
      rw [efr]
      refine ⟨fun c3 => ⟨ini, ini, keep (fun z => z.2.2 c3)⟩, fun c3 => ⟨ini, ini, fun T eT v ev => ?_⟩⟩
      rw [mkM_t ⟨fun z => c (by rw [z]), c2, c3⟩] at nx
      rw [nI_clamp (show i < 2 ^ 31 by omega), si_si, gi_si, if_pos ⟨rfl, rfl, rfl⟩] at eT
      rw [eT, ev, nI_1]; exact nx
  exact key (aB (pr S)) 0 (by omega)

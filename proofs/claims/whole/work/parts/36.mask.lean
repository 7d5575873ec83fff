/-! ===== L3: the reference's many, kept, choice, object, put, empty, rank ===== -/
/-- the kept rows' numbers -/
noncomputable def keA (A : Sh) (qs : List Ru) : List Nat := keF A qs 0 (allR A)
theorem keA_len {A : Sh} {qs : List Ru} : (keA A qs).length ≤ (allR A).length := keF_len _ _
theorem keA_get {A : Sh} {qs : List Ru} {i : Nat} (h : i < (keA A qs).length) : (keA A qs).getD i 0 < (allR A).length := by
  have := keF_in (allR A) 0 ((keA A qs).getD i 0) (getD_mem h)
  omega
/-- kept row i -/
noncomputable def keR (A : Sh) (qs : List Ru) (i : Nat) : Rw := (allR A).getD ((keA A qs).getD i 0) d0
theorem allR_get {A : Sh} {i : Nat} (h : i < (allR A).length) : okW A ((allR A).getD i d0) := allR_ok A _ (by rw [gD_g h]; exact List.getElem_mem _)
theorem keR_ok {A : Sh} {qs : List Ru} {i : Nat} (h : i < (keA A qs).length) : okW A (keR A qs i) := allR_get (keA_get h)
noncomputable def spChoice (A : Sh) (qs : List Ru) (x y : Int32) : Int32 :=
  if (allR A).length ≤ 4000 then
    (if x < 0 ∨ y < 0 ∨ (keA A qs).length ≤ x.toNatClampNeg then -101
    else if y.toNatClampNeg < (keR A qs x.toNatClampNeg).1 then nI ((keR A qs x.toNatClampNeg).2 y.toNatClampNeg) else -1)
  else -104
noncomputable def spObject (A : Sh) (qs : List Ru) (x y z : Int32) : Int32 :=
  if (allR A).length ≤ 4000 then
    (if x < 0 ∨ (keA A qs).length ≤ x.toNatClampNeg then -101
    else if y < 0 ∨ (hpR A (keR A qs x.toNatClampNeg)).1.length ≤ y.toNatClampNeg then -101
    else if z < 0 ∨ shC A ((hpR A (keR A qs x.toNatClampNeg)).1.getD y.toNatClampNeg 0) < z.toNatClampNeg then -102
    else if z.toNatClampNeg = 0 then nI ((hpR A (keR A qs x.toNatClampNeg)).1.getD y.toNatClampNeg 0)
    else mv (shT A ((hpR A (keR A qs x.toNatClampNeg)).1.getD y.toNatClampNeg 0) (z.toNatClampNeg - 1)) ((hpR A (keR A qs x.toNatClampNeg)).2.1 y.toNatClampNeg (z.toNatClampNeg - 1)))
  else -104
/-- a test 0 <= x <= n - 1 -/
theorem in_n {n : Nat} (hn : n < 2 ^ 31) (x : Int32) : fM_in x 0 (nI n - 1) = some (if x < 0 ∨ n ≤ x.toNatClampNeg then 0 else 1) := by
  rw [pM_in]
  by_cases h : x < 0
  · rw [if_neg (fun w => absurd w.1 (Int32.not_le.mpr h)), if_pos (Or.inl h)]
  · obtain ⟨j, hj, rfl⟩ := nI_of h
    rw [nI_clamp hj]
    cases n with
    | zero => 
      rw [if_pos (Or.inr (Nat.zero_le _)), if_neg (fun w => ?_)]
      have h2 : nI j ≤ (-1 : Int32) := w.2
      have h3 : (0 : Int32) ≤ nI j := w.1
      exact absurd (Int32.le_trans h3 h2) (by decide)
    | succ n =>
      rw [nI_pred]
      by_cases e : n + 1 ≤ j
      · rw [if_pos (Or.inr e), if_neg (fun w => absurd w.2 (nI_ge (by omega) hj))]
      · rw [if_pos ⟨nI_pos' hj, nI_le (by omega) (by omega)⟩, if_neg (fun w => by rcases w with w | w; exact h w; exact e w)]
/-- a test 0 <= x <= n -/
theorem in_m {n : Nat} (hn : n < 2 ^ 31) (x : Int32) : fM_in x 0 (nI n) = some (if x < 0 ∨ n < x.toNatClampNeg then 0 else 1) := by
  rw [pM_in]
  by_cases h : x < 0
  · rw [if_neg (fun w => absurd w.1 (Int32.not_le.mpr h)), if_pos (Or.inl h)]
  · obtain ⟨j, hj, rfl⟩ := nI_of h
    rw [nI_clamp hj]
    by_cases e : n < j
    · rw [if_pos (Or.inr e), if_neg (fun w => absurd w.2 (nI_ge e hj))]
    · rw [if_pos ⟨nI_pos' hj, nI_le (by omega) hn⟩, if_neg (fun w => by rcases w with w | w; exact h w; exact e w)]
section MASK
variable {A : Sh} {qs : List Ru} {M : rr_T}
/-- what every asking of M begins from -/
def frI (A : Sh) (qs : List Ru) (M : rr_T) : Prop := okV A ∧ (∀ q ∈ qs, okQ A q) ∧ shM M A ∧ rsM M qs ∧ (M.1 21 = 0 ∨ (M.1 21 = 1 ∧ frsM A qs M))
/-- and comes to -/
def frE (A : Sh) (qs : List Ru) (M M' : rr_T) : Prop := frM fR fA M M' ∧ M'.1 21 = 1 ∧ frsM A qs M'
theorem pM_many (h : frI A qs M) : ∃ M', fM_many M = some ((if (allR A).length ≤ 4000 then nI (allR A).length else -104), M') ∧ frE A qs M M' := by
  obtain ⟨h1, h2, h3, h4, h5⟩ := h
  obtain ⟨M1, a1, a2, a3, a4, -⟩ := pM_freshen h1 h2 h3 h4 h5
  refine ⟨M1, ?_, a2, a3, a4⟩
  rw [fM_many, a1, Option.bind_some]
  by_cases e : (allR A).length ≤ 4000
  · rw [if_pos e, if_pos e, if_neg (show ¬ (1 : Int32) = 0 by decide), a4.1]
  · rw [if_neg e, if_neg e, if_pos rfl]
theorem pM_kept (h : frI A qs M) : ∃ M', fM_kept M = some ((if (allR A).length ≤ 4000 then nI (keA A qs).length else -104), M') ∧ frE A qs M M' := by
  obtain ⟨h1, h2, h3, h4, h5⟩ := h
  obtain ⟨M1, a1, a2, a3, a4, -⟩ := pM_freshen h1 h2 h3 h4 h5
  refine ⟨M1, ?_, a2, a3, a4⟩
  rw [fM_kept, a1, Option.bind_some]
  by_cases e : (allR A).length ≤ 4000
  · rw [if_pos e, if_pos e, if_neg (show ¬ (1 : Int32) = 0 by decide), (a4.2 e).2.2.1]; rfl
  · rw [if_neg e, if_neg e, if_pos rfl]
theorem pM_choice (h : frI A qs M) (x y : Int32) : ∃ M', fM_choice M x y = some (spChoice A qs x y, M') ∧ frE A qs M M' := by
  obtain ⟨h1, h2, h3, h4, h5⟩ := h
  obtain ⟨M1, a1, a2, a3, a4, -⟩ := pM_freshen h1 h2 h3 h4 h5
  refine ⟨M1, ?_, a2, a3, a4⟩
  rw [fM_choice, a1, Option.bind_some, spChoice]
  by_cases e : (allR A).length ≤ 4000
  · obtain ⟨g1, g2, g3, g4⟩ := a4.2 e
    have g3 : M1.1 25 = nI (keA A qs).length := g3
    have hl := keA_len (A := A) (qs := qs)
    rw [if_pos e, if_pos e, if_neg (show ¬ (1 : Int32) = 0 by decide), g3, in_n (by omega), Option.bind_some]
    by_cases hx : x < 0 ∨ (keA A qs).length ≤ x.toNatClampNeg
    · rw [if_pos hx, if_pos rfl, if_pos (by rcases hx with hx | hx; exact Or.inl hx; exact Or.inr (Or.inr hx))]
    · rw [if_neg hx, if_neg (show ¬ (1 : Int32) = 0 by decide)]
      by_cases hy : y < 0
      · rw [if_neg (Int32.not_le.mpr hy), if_pos (Or.inr (Or.inl hy))]
      · have hx0 : ¬ x < 0 := fun w => hx (Or.inl w)
        obtain ⟨i, hi, rfl⟩ := nI_of hx0
        obtain ⟨k, hk, rfl⟩ := nI_of hy
        rw [nI_clamp hi] at hx ⊢
        rw [nI_clamp hk]
        have hi' : i < (keA A qs).length := by omega
        have hg := keA_get hi'
        have hw := keR_ok hi'
        have h22 := okR_22 hw.1
        obtain ⟨⟨r1, r2⟩, -⟩ := g2 _ hg
        have r1 : M1.2.1 17 ((keA A qs).getD i 0) = nI (keR A qs i).1 := r1
        have r2 : ∀ p, p < (keR A qs i).1 → M1.2.1 16 (22 * (keA A qs).getD i 0 + p) = nI ((keR A qs i).2 p) := r2
        have e18 : M1.2.1 18 i = nI ((keA A qs).getD i 0) := g4 i hi'
        rw [if_pos (nI_pos' hk), if_pos (inb_nI (by omega) (by decide)), if_neg (fun w => by rcases w with w | w | w; exact hx0 w; exact hy w; omega)]
        simp only [rr_l]
        rw [e18, if_pos (inb_nI (by omega) (by decide)), nI_clamp (by omega), r1]
        by_cases hy2 : k < (keR A qs i).1
        · rw [if_neg (nI_ge hy2 (by omega)), if_pos hy2, show (22 : Int32) * nI ((keA A qs).getD i 0) = nI (22 * (keA A qs).getD i 0) from pk_mul 22 _, nI_add, if_pos (inb_nI (by omega) (by decide)), nI_clamp (by omega), r2 k hy2]
        · rw [if_pos (nI_le (by show (keR A qs i).1 ≤ k; omega) hk), if_neg hy2]
  · rw [if_neg e, if_neg e, if_pos rfl]
theorem pM_object (h : frI A qs M) (x y z : Int32) : ∃ M', fM_object M x y z = some (spObject A qs x y z, M') ∧ frE A qs M M' := by
  obtain ⟨h1, h2, h3, h4, h5⟩ := h
  obtain ⟨M1, a1, a2, a3, a4, -⟩ := pM_freshen h1 h2 h3 h4 h5
  rw [fM_object, a1, Option.bind_some, spObject]
  by_cases e : (allR A).length ≤ 4000
  · obtain ⟨g1, g2, g3, g4⟩ := a4.2 e
    have g3 : M1.1 25 = nI (keA A qs).length := g3
    have hl := keA_len (A := A) (qs := qs)
    rw [if_pos e, if_pos e, if_neg (show ¬ (1 : Int32) = 0 by decide), g3, in_n (by omega), Option.bind_some]
    by_cases hx : x < 0 ∨ (keA A qs).length ≤ x.toNatClampNeg
    · rw [if_pos hx, if_pos hx, if_pos rfl]
      exact ⟨M1, rfl, a2, a3, a4⟩
    · rw [if_neg hx, if_neg hx, if_neg (show ¬ (1 : Int32) = 0 by decide)]
      have hx0 : ¬ x < 0 := fun w => hx (Or.inl w)
      obtain ⟨i, hi, rfl⟩ := nI_of hx0
      rw [nI_clamp hi] at hx ⊢
      have hi' : i < (keA A qs).length := by omega
      have hg := keA_get hi'
      have hw : okW A (keR A qs i) := keR_ok hi'
      have h22 := okR_22 hw.1
      have hH := hpR_ok h1.1 hw
      have e18 : M1.2.1 18 i = nI ((keA A qs).getD i 0) := g4 i hi'
      obtain ⟨M2, b1, b2, b3⟩ := pM_load (r := keR A qs i) (i := (keA A qs).getD i 0) h1.1 (by omega) hw.1 (shM_fr a2 (by simp) (by simp) h3) (g2 _ hg).1
      obtain ⟨⟨p1, p2⟩, p3, p4⟩ := hpM_of h1.1 hw b3.2
      have hE : frE A qs M M2 := ⟨frM_t a2 (frM_w b2 (by simp) (by simp)), by rw [b2.1 21 (by simp)]; exact a3, by rw [b2.1 22 (by simp)]; exact a4.1, fun _ => stM_fr b2 (by simp) (by simp) (a4.2 e)⟩
      have hS2 : shM M2 A := shM_fr b2 (by simp) (by simp) (shM_fr a2 (by simp) (by simp) h3)
      have h5 := hH.1
      rw [if_pos (inb_nI (by omega) (by decide)), e18, b1, Option.bind_some, p1, in_n (by omega), Option.bind_some]
      by_cases hy : y < 0 ∨ (hpR A (keR A qs i)).1.length ≤ y.toNatClampNeg
      · rw [if_pos hy, if_pos hy, if_pos rfl]
        exact ⟨M2, rfl, hE⟩
      · rw [if_neg hy, if_neg hy, if_neg (show ¬ (1 : Int32) = 0 by decide)]
        have hy0 : ¬ y < 0 := fun w => hy (Or.inl w)
        obtain ⟨o, ho, rfl⟩ := nI_of hy0
        rw [nI_clamp ho] at hy ⊢
        have ho' : o < (hpR A (keR A qs i)).1.length := by omega
        have hk := hH.2.1 _ (getD_mem ho')
        have hK := h1.1.1
        have hC := h1.1.2.2.2.2.1 ((hpR A (keR A qs i)).1.getD o 0) (by omega)
        rw [if_pos (inb_nI (by omega) (by decide)), p2 o ho', if_pos (inb_nI (by omega) (by decide)), nI_clamp (by omega), hS2.2.2.2.1 _ hk, in_m (by omega), Option.bind_some]
        by_cases hz : z < 0 ∨ shC A ((hpR A (keR A qs i)).1.getD o 0) < z.toNatClampNeg
        · rw [if_pos hz, if_pos hz, if_pos rfl]
          exact ⟨M2, rfl, hE⟩
        · rw [if_neg hz, if_neg hz, if_neg (show ¬ (1 : Int32) = 0 by decide)]
          have hz0 : ¬ z < 0 := fun w => hz (Or.inl w)
          obtain ⟨f, hf, rfl⟩ := nI_of hz0
          rw [nI_clamp hf] at hz ⊢
          by_cases hf0 : f = 0
          · subst hf0
            rw [if_pos (show nI 0 = 0 from rfl), if_pos rfl, if_pos (inb_nI (by omega) (by decide))]
            exact ⟨M2, rfl, hE⟩
          · obtain ⟨g, rfl⟩ : ∃ g, f = g + 1 := ⟨f - 1, by omega⟩
            rw [if_neg (nI_ne0 (by omega) hf), if_neg hf0, ix4, show 4 * o + (g + 1) = (4 * o + g) + 1 by omega, nI_pred, if_pos (inb_nI (by omega) (by decide)), nI_clamp (by omega), p3 o g ho' (by omega), show g + 1 - 1 = g from rfl]
            exact ⟨M2, rfl, hE⟩
  · rw [if_neg e, if_neg e, if_pos rfl]
    exact ⟨M1, rfl, a2, a3, a4⟩
/-- THE ROW of M -/
def twM (M : rr_T) (tw : List Int32) : Prop := M.1 19 = nI tw.length ∧ tw.length ≤ 40 ∧ ∀ i, i < tw.length → M.2.1 15 i = tw.getD i 0
theorem twM_fr {is as : List Nat} {M M' : rr_T} {tw : List Int32} (f : frM is as M M') (h1 : 19 ∉ is) (h2 : 15 ∉ as) (h : twM M tw) : twM M' tw := by
  unfold twM
  rw [f.1 19 h1, f.2 15 h2]
  exact h
theorem pM_put {tw : List Int32} (h : twM M tw) (x : Int32) : ∃ M', fM_put M x = some ((if tw.length = 40 then -104 else nI (tw.length + 1)), M') ∧ frM [19] [15] M M' ∧ twM M' (if tw.length = 40 then tw else tw ++ [x]) := by
  obtain ⟨h1, h2, h3⟩ := h
  rw [fM_put, h1]
  by_cases e : tw.length = 40
  · rw [if_pos (by rw [e]; rfl), if_pos e, if_pos e]
    exact ⟨M, rfl, frM_r _ _ _, h1, h2, h3⟩
  · rw [if_neg (show ¬ nI tw.length = 40 from fun w => e ((nI_eq (b := 40) (by omega) (by decide)).mp w)), if_neg e, if_neg e, if_pos (inb_nI (by omega) (by decide))]
    simp only [rr_l]
    refine ⟨_, by rw [pI_s, pA_1, h1, nI_1], frM_pI (frM_pA (frM_r _ _ _) (by simp)) (by simp), ?_, ?_, ?_⟩
    · rw [pI_s, List.length_append, List.length_singleton]
    · rw [List.length_append, List.length_singleton]; omega
    · intro i hi
      rw [List.length_append, List.length_singleton] at hi
      rw [pI_2, pA_s, nI_clamp (by omega)]
      by_cases z : i = tw.length
      · subst z; rw [upd_s, gD_e]
      · rw [upd_n z, gD_l (by omega)]; exact h3 i (by omega)
theorem pM_empty {tw : List Int32} (h : twM M tw) : ∃ M', fM_empty M = some (nI tw.length, M') ∧ frM [19] [15] M M' ∧ twM M' [] := by
  obtain ⟨h1, h2, h3⟩ := h
  rw [fM_empty, h1]
  simp only [rr_l]
  exact ⟨_, rfl, frM_pI (frM_r _ _ _) (by simp), by rw [pI_s]; rfl, by simp, fun i hi => absurd hi (Nat.not_lt_zero _)⟩
/-- the choices of THE ROW are gone through: where they are no row, or the row -/
def wlk (A : Sh) (tw : Nat → Int32) : Nat → Nat → (Nat → Nat) → Nat ⊕ (Nat → Nat)
  | 0, p, a => if sl A a p = none then .inr a else .inl p
  | m + 1, p, a => if sl A a p = none then .inl p else if alwI A (ob a p) (tyW A a p) (tw p) = true then wlk A tw m (p + 1) (upn a p (tw p).toNatClampNeg) else .inl p
/-- a row is told by these ints -/
def sameB (tw : Nat → Int32) (N : Nat) (r : Rw) : Bool := decide (r.1 = N) && (List.range N).all (fun j => decide (nI (r.2 j) = tw j))
theorem sameB_t {tw : Nat → Int32} {N : Nat} {r : Rw} : sameB tw N r = true ↔ r.1 = N ∧ ∀ j, j < N → nI (r.2 j) = tw j := by
  unfold sameB
  simp only [Bool.and_eq_true, decide_eq_true_eq, List.all_eq_true, List.mem_range]
/-- the first number from i on -/
def fstI (P : Nat → Bool) : Nat → Nat → Int32
  | 0, _ => -1
  | m + 1, i => if P i = true then nI i else fstI P m (i + 1)
noncomputable def spRank (A : Sh) (qs : List Ru) (tw : List Int32) : Int32 :=
  if (allR A).length ≤ 4000 then
    (match wlk A (fun i => tw.getD i 0) tw.length 0 (fun _ => 0) with
    | .inl p => -10 - nI p
    | .inr _ => fstI (fun i => sameB (fun i => tw.getD i 0) tw.length (keR A qs i)) (keA A qs).length 0)
  else -104
theorem uM_rk129 {tw : Nat → Int32} {N i k : Nat} {r : Rw} {rec : Int32 → Option (Int32 × rr_T)} (hN : N ≤ 40) (h22 : r.1 ≤ 22) (hi : i < 4000) (hk : k < 4000) (e19 : M.1 19 = nI N) (e15 : ∀ j, j < N → M.2.1 15 j = tw j) (e18 : M.2.1 18 i = nI k) (hr : rwM M k r) : ∀ (m p f : Nat) (b : Bool), p + m = N → m + 2 ≤ f → (b = true → r.1 = N) → ((b = true ∧ ∀ j, p ≤ j → j < N → nI (r.2 j) = tw j) → rr_loop f (LM_rank_129 M rec (nI i)) ((if b = true then 1 else 0), nI p) = JM_rank_178 M rec (nI i) 1) ∧ (¬ (b = true ∧ ∀ j, p ≤ j → j < N → nI (r.2 j) = tw j) → rr_loop f (LM_rank_129 M rec (nI i)) ((if b = true then 1 else 0), nI p) = JM_rank_178 M rec (nI i) 0) := by
  intro m
  induction m with
  | zero =>
    intro p f b hp hf hb
    obtain ⟨f, rfl⟩ : ∃ g, f = g + 1 := ⟨f - 1, by omega⟩
    rw [loop_s, LM_rank_129]
    dsimp only
    rw [e19, if_pos (nI_le (by omega) (by omega))]
    cases b with
    | true => exact ⟨fun _ => rfl, fun z => absurd ⟨rfl, fun j a b => by omega⟩ z⟩
    | false => exact ⟨fun z => (by cases z.1), fun _ => rfl⟩
  | succ m ih =>
    intro p f b hp hf hb
    obtain ⟨f, rfl⟩ : ∃ g, f = g + 1 := ⟨f - 1, by omega⟩
    rw [loop_s, LM_rank_129]
    dsimp only
    rw [e19, if_neg (nI_ge (by omega) (by omega))]
    cases b with
    | false =>
      rw [if_pos (show (if false = true then (1 : Int32) else 0) = 0 by decide)]
      exact ⟨fun z => (by cases z.1), fun _ => rfl⟩
    | true =>
      have hl := hb rfl
      rw [if_neg (show ¬ (if true = true then (1 : Int32) else 0) = 0 by decide), if_pos (inb_nI hi (by decide)), nI_clamp (show i < 2 ^ 31 by omega), e18, show (22 : Int32) * nI k = nI (22 * k) from pk_mul 22 k, nI_add, if_pos (inb_nI (by omega) (by decide)), if_pos (inb_nI (by omega) (by decide)), nI_clamp (show 22 * k + p < 2 ^ 31 by omega), nI_clamp (show p < 2 ^ 31 by omega), hr.2 p (by omega), e15 p (by omega), nI_1]
      by_cases e : nI (r.2 p) = tw p
      · rw [if_pos e]
        have ih' := ih (p + 1) f true (by omega) (by omega) (fun _ => hl)
        refine ⟨fun z => ih'.1 ⟨rfl, fun j a b => z.2 j (by omega) b⟩, fun z => ih'.2 (fun w => z ⟨rfl, fun j a b => ?_⟩)⟩
        by_cases ej : j = p
        · rw [ej]; exact e
        · exact w.2 j (by omega) b
      · rw [if_neg e]
        have ih' := ih (p + 1) f false (by omega) (by omega) (fun z => by cases z)
        exact ⟨fun z => absurd (z.2 p (Nat.le_refl _) (by omega)) e, fun _ => ih'.2 (fun w => by cases w.1)⟩
theorem uM_rk95 {tw : Nat → Int32} {N : Nat} (hA : okA A) (hN : N ≤ 40) (e : (allR A).length ≤ 4000) (hst : stM A qs (allR A) M) (e19 : M.1 19 = nI N) (e15 : ∀ j, j < N → M.2.1 15 j = tw j) : ∀ (m i f : Nat), i + m = (keA A qs).length → m + 1 ≤ f → rr_loop f (LM_rank_95 M) (nI i) = some (fstI (fun i => sameB tw N (keR A qs i)) m i, M) := by
  obtain ⟨g1, g2, g3, g4⟩ := hst
  have g3 : M.1 25 = nI (keA A qs).length := g3
  have hl := keA_len (A := A) (qs := qs)
  intro m
  induction m with
  | zero =>
    intro i f hi hf
    obtain ⟨f, rfl⟩ : ∃ g, f = g + 1 := ⟨f - 1, by omega⟩
    rw [loop_s, LM_rank_95, g3, if_pos (nI_le (by omega) (by omega))]
    rfl
  | succ m ih =>
    intro i f hi hf
    obtain ⟨f, rfl⟩ : ∃ g, f = g + 1 := ⟨f - 1, by omega⟩
    have hi' : i < (keA A qs).length := by omega
    have hg := keA_get hi'
    have hw : okW A (keR A qs i) := keR_ok hi'
    have h22 := okR_22 hw.1
    obtain ⟨hr, -⟩ := g2 _ hg
    have hr : rwM M ((keA A qs).getD i 0) (keR A qs i) := hr
    have e18 : M.2.1 18 i = nI ((keA A qs).getD i 0) := g4 i hi'
    have ih' := ih (i + 1) f (by omega) (by omega)
    rw [loop_s, LM_rank_95, g3, if_neg (nI_ge (by omega) (by omega)), if_pos (inb_nI (by omega) (by decide)), nI_clamp (show i < 2 ^ 31 by omega), e18, if_pos (inb_nI (by omega) (by decide)), nI_clamp (by omega), hr.1, e19]
    unfold fstI
    have key : ∀ b : Bool, (b = true ↔ (keR A qs i).1 = N) → JM_rank_126 M (rr_loop f (LM_rank_95 M)) (nI i) (if b = true then 1 else 0) = some ((if sameB tw N (keR A qs i) = true then nI i else fstI (fun i => sameB tw N (keR A qs i)) m (i + 1)), M) := by
      intro b hb
      have u := uM_rk129 (rec := rr_loop f (LM_rank_95 M)) (M := M) hN h22 (show i < 4000 by omega) (by omega) e19 e15 e18 hr N 0 FU b (by omega) (by show _ ≤ 5000; omega) hb.mp
      rw [JM_rank_126]
      by_cases hs : sameB tw N (keR A qs i) = true
      · have h2 := sameB_t.mp hs
        have u1 : rr_loop FU (LM_rank_129 M (rr_loop f (LM_rank_95 M)) (nI i)) ((if b = true then 1 else 0), 0) = _ := u.1 ⟨hb.mpr h2.1, fun j _ hj => h2.2 j hj⟩
        rw [u1, JM_rank_178, if_neg (show ¬ (1 : Int32) = 0 by decide), if_pos hs]
      · have u1 : rr_loop FU (LM_rank_129 M (rr_loop f (LM_rank_95 M)) (nI i)) ((if b = true then 1 else 0), 0) = _ := u.2 (fun w => hs (sameB_t.mpr ⟨hb.mp w.1, fun j hj => w.2 j (Nat.zero_le _) hj⟩))
        rw [u1, JM_rank_178, if_pos rfl, if_neg hs, nI_1]
        exact ih'
    by_cases h : (keR A qs i).1 = N
    · rw [if_pos (by rw [h])]
      exact key true ⟨fun _ => h, fun _ => rfl⟩
    · rw [if_neg (fun w => h ((nI_eq (by omega) (by omega)).mp w))]
      exact key false ⟨fun z => (by cases z), fun z => absurd z h⟩
theorem uM_rk12 {tw : List Int32} (hV : okV A) (e : (allR A).length ≤ 4000) : ∀ (m p f : Nat) (a : Nat → Nat) (M : rr_T), p + m = tw.length → m + 1 ≤ f → okR A a p → shM M A → atM M a p → twM M tw → M.1 21 = 1 → stM A qs (allR A) M → ∃ M', rr_loop f (LM_rank_12) (nI p, M) = some ((match wlk A (fun i => tw.getD i 0) m p a with
    | .inl p => -10 - nI p
    | .inr _ => fstI (fun i => sameB (fun i => tw.getD i 0) tw.length (keR A qs i)) (keA A qs).length 0), M') ∧ frM gR gA M M' := by
  intro m
  induction m with
  | zero =>
    intro p f a M hp hf hok hS hat htw e21 hst
    obtain ⟨f, rfl⟩ : ∃ g, f = g + 1 := ⟨f - 1, by omega⟩
    have h40 := htw.2.1
    obtain ⟨M1, b1, b2, b3⟩ := pM_go hV.1 hS hok hat
    have htw1 := twM_fr b2 (by simp) (by simp) htw
    rw [loop_s, LM_rank_12]
    dsimp only
    rw [htw.1, if_pos (nI_le (by omega) (by omega)), JM_rank_69, htw.1, show tw.length = p by omega, b1, Option.bind_some]
    unfold wlk
    cases es : sl A a p with
    | none =>
      rw [if_pos rfl, if_pos (b3.2.1 es)]
      refine ⟨M1, ?_, frM_w b2 (by simp) (by simp)⟩
      have hl := keA_len (A := A) (qs := qs)
      exact uM_rk95 hV.1 (by omega) e (stM_fr b2 (by simp) (by simp) hst) (by rw [htw1.1, show tw.length = p by omega]) (fun j hj => htw1.2.2 j (by omega)) (keA A qs).length 0 FU (by omega) (by show _ ≤ 5000; omega)
    | some s =>
      obtain ⟨q1, q2, t, ht⟩ := sl_some p s es
      have ty := b3.2.2.1 s t es ht
      rw [if_neg (show ¬ some s = none from fun w => by cases w), if_neg (show ¬ M1.1 41 = -1 from fun w => ?_), htw1.1, show tw.length = p by omega]
      · exact ⟨M1, rfl, frM_w b2 (by simp) (by simp)⟩
      · by_cases t4 : t < 4
        · rw [(ty.1 t4).1] at w; cases w
        · rw [(ty.2 t4).1] at w; cases w
  | succ m ih =>
    intro p f a M hp hf hok hS hat htw e21 hst
    obtain ⟨f, rfl⟩ : ∃ g, f = g + 1 := ⟨f - 1, by omega⟩
    have h40 := htw.2.1
    obtain ⟨M1, b1, b2, b3⟩ := pM_go hV.1 hS hok hat
    have htw1 := twM_fr b2 (by simp) (by simp) htw
    have hS1 := shM_fr b2 (by simp) (by simp) hS
    rw [loop_s, LM_rank_12]
    dsimp only
    rw [htw.1, if_neg (nI_ge (by omega) (by omega)), b1, Option.bind_some]
    unfold wlk
    cases es : sl A a p with
    | none =>
      rw [if_pos rfl, if_pos (b3.2.1 es)]
      exact ⟨M1, rfl, frM_w b2 (by simp) (by simp)⟩
    | some s =>
      obtain ⟨q1, q2, t, ht⟩ := sl_some p s es
      have ty := b3.2.2.1 s t es ht
      have et : tyW A a p = t := by unfold tyW; rw [es]; dsimp only; rw [ht]; rfl
      obtain ⟨o1, o2⟩ := ob_ok hV.1 p hok
      rw [if_neg (show ¬ some s = none from fun w => by cases w), if_neg (show ¬ M1.1 41 = -1 from fun w => ?_), if_pos (inb_nI (by omega) (by decide)), nI_clamp (show p < 2 ^ 31 by omega), htw1.2.2 p (by omega), pM_canBe hV.1 hS1 b3.1 ty o1 o2 (typ_in hV.1 o2 ht), Option.bind_some, et]
      · by_cases ha : alwI A (ob a p) t (tw.getD p 0) = true
        · have hx : ¬ tw.getD p 0 < 0 := by
            unfold alwI at ha
            simp only [Bool.and_eq_true, decide_eq_true_eq] at ha
            exact ha.1
          have hal : alw A (ob a p) t (tw.getD p 0).toNatClampNeg = true := by
            unfold alwI at ha
            simp only [Bool.and_eq_true, decide_eq_true_eq] at ha
            exact ha.2
          obtain ⟨c, hc, ec⟩ := nI_of hx
          rw [if_pos ha, if_neg (show ¬ (1 : Int32) = 0 by decide), if_pos ha, if_pos (inb_nI (by omega) (by decide))]
          simp only [rr_l]
          rw [ec, nI_clamp hc] at hal
          have f3 : frM gR gA M1 (pA M1 26 (nI p) (nI c)) := frM_pA (frM_r _ _ _) (by simp)
          have e1 := sl_eq (A := A) p (upn_lt (a := a) (n := p) (c := c))
          have e2 := ob_eq p (upn_lt (a := a) (n := p) (c := c))
          obtain ⟨M2, c1, c2⟩ := ih (p + 1) f (upn a p c) (pA M1 26 (nI p) (nI c)) (by omega) (by omega) (okR_s (okR_eq upn_lt hok) (by rw [← e1]; exact es) (by rw [← e2]; exact ht) (by rw [upn_s, ← e2]; exact hal)) (shM_fr f3 (by simp) (by simp) hS1) (upd_at (atM_fr b2 (by simp) hat) (by omega)) (twM_fr f3 (by simp) (by simp) htw1) (by rw [pA_1, b2.1 21 (by simp)]; exact e21) (stM_fr f3 (by simp) (by simp) (stM_fr b2 (by simp) (by simp) hst))
          refine ⟨M2, ?_, frM_t (frM_w b2 (by simp) (by simp)) (frM_t f3 c2)⟩
          rw [ec, nI_1, nI_clamp hc, if_pos (inb_nI (show p < 41 by omega) (by decide))]
          exact c1
        · rw [if_neg ha, if_pos rfl, if_neg ha]
          exact ⟨M1, rfl, frM_w b2 (by simp) (by simp)⟩
      · by_cases t4 : t < 4
        · rw [(ty.1 t4).1] at w; cases w
        · rw [(ty.2 t4).1] at w; cases w
theorem pM_rank {tw : List Int32} (h : frI A qs M) (htw : twM M tw) : ∃ M', fM_rank M = some (spRank A qs tw, M') ∧ frE A qs M M' := by
  obtain ⟨h1, h2, h3, h4, h5⟩ := h
  obtain ⟨M1, a1, a2, a3, a4, -⟩ := pM_freshen h1 h2 h3 h4 h5
  rw [fM_rank, a1, Option.bind_some, spRank]
  by_cases e : (allR A).length ≤ 4000
  · rw [if_pos e, if_pos e, if_neg (show ¬ (1 : Int32) = 0 by decide)]
    have h40 := htw.2.1
    obtain ⟨M2, b1, b2⟩ := uM_rk12 (qs := qs) (tw := tw) h1 e tw.length 0 FU (fun _ => 0) M1 (by omega) (by show _ ≤ 5000; omega) (fun p hp => absurd hp (Nat.not_lt_zero _)) (shM_fr a2 (by simp) (by simp) h3) (fun p hp => absurd hp (Nat.not_lt_zero _)) (twM_fr a2 (by simp) (by simp) htw) a3 (a4.2 e)
    exact ⟨M2, b1, frM_t a2 (frM_w b2 (by simp) (by simp)), by rw [b2.1 21 (by simp)]; exact a3, by rw [b2.1 22 (by simp)]; exact a4.1, fun _ => stM_fr b2 (by simp) (by simp) (a4.2 e)⟩
  · rw [if_neg e, if_neg e, if_pos rfl]
    exact ⟨M1, rfl, a2, a3, a4⟩
end MASK

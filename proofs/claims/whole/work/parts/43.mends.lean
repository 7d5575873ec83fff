/-! ===== L3: the reference's looks in order ===== -/
/-- the play of row i -/
noncomputable def pyA (A : Sh) (ps : List Sp) (i : Nat) : Nat × Nat × Pl := plH A (hpR A ((allR A).getD i d0)) ps
noncomputable def lkA (A : Sh) (ps : List Sp) (i : Nat) : List Nat := pLk (pyA A ps i).2.2
noncomputable def kyA (A : Sh) (ps : List Sp) (i : Nat) : Nat := keyL (lkA A ps i)
/-- a program as it may be -/
def okG (ps : List Sp) : Prop := ps.length ≤ 16 ∧ ∀ p ∈ ps, okS p
section MENDS
variable {A : Sh} {ps : List Sp} {M : rr_T}
theorem pyA_ok (hA : okA A) (hG : okG ps) {i : Nat} (hi : i < (allR A).length) : (lkA A ps i).length ≤ 18 ∧ okL (lkA A ps i) ∧ (pyA A ps i).2.1 ≤ 16 := by
  obtain ⟨h1, h2⟩ := plH_ok hA (hpR_ok hA (allR_get hi)) hG.1
  have h3 : (lkA A ps i).length ≤ 18 := by
    have := h1.2.2.2.2.1
    have := bN_le (pSe (plH A (hpR A ((allR A).getD i d0)) ps).2.2 0)
    have := bN_le (pSe (plH A (hpR A ((allR A).getD i d0)) ps).2.2 1)
    show (pLk (plH A (hpR A ((allR A).getD i d0)) ps).2.2).length ≤ 18
    omega
  exact ⟨h3, ⟨by omega, h1.2.2.2.2.2⟩, h2⟩
theorem lkA_df (hA : okA A) (hG : okG ps) {i j : Nat} (hi : i < (allR A).length) (hj : j < (allR A).length) : lkA A ps i = lkA A ps j ∨ Df (lkA A ps i) (lkA A ps j) := pl_pf hA (hpR_ok hA (allR_get hi)) (hpR_ok hA (allR_get hj)) hG.2
/-- M has told the looks of n rows -/
def lksM (A : Sh) (ps : List Sp) (n : Nat) (M : rr_T) : Prop := ∀ i, i < n → M.2.1 21 i = nI (lkA A ps i).length ∧ M.2.1 22 i = nI (pyA A ps i).1 ∧ M.2.1 23 i = nI (pyA A ps i).2.1 ∧ ∀ p, p < (lkA A ps i).length → M.2.1 20 (20 * i + p) = nI ((lkA A ps i).getD p 0)
theorem ix20 (o f : Nat) : (20 : Int32) * nI o + nI f = nI (20 * o + f) := by rw [show (20 : Int32) * nI o = nI (20 * o) from pk_mul 20 o, nI_add]
theorem uM_cmp_same {i j : Nat} (hi : i < 4000) (hj : j < 4000) {l : List Nat} (hl : l.length ≤ 18) (i21 : M.2.1 21 i = nI l.length) (j21 : M.2.1 21 j = nI l.length) (i20 : ∀ p, p < l.length → M.2.1 20 (20 * i + p) = nI (l.getD p 0)) (j20 : ∀ p, p < l.length → M.2.1 20 (20 * j + p) = nI (l.getD p 0)) : ∀ (m p f : Nat), p + m = l.length → m + 1 ≤ f → rr_loop f (LM_compareLooks_2 M (nI i) (nI j)) (nI p) = some 0 := by
  have b1 := inb_nI hi (by decide)
  have b2 := inb_nI hj (by decide)
  have c1 : (nI i).toNatClampNeg = i := nI_clamp (by omega)
  have c2 : (nI j).toNatClampNeg = j := nI_clamp (by omega)
  intro m
  induction m with
  | zero =>
    intro p f hp hf
    obtain ⟨f, rfl⟩ : ∃ g, f = g + 1 := ⟨f - 1, by omega⟩
    have hle : nI l.length ≤ nI p := nI_le (by omega) (by omega)
    rw [loop_s, LM_compareLooks_2, if_pos b1, c1, i21, if_pos hle, JM_compareLooks_53, if_pos b1, c1, i21, if_pos hle, JM_compareLooks_78, if_pos b2, c2, j21, if_pos hle]
    decide
  | succ m ih =>
    intro p f hp hf
    obtain ⟨f, rfl⟩ : ∃ g, f = g + 1 := ⟨f - 1, by omega⟩
    have hnl : ¬ nI l.length ≤ nI p := nI_ge (by omega) (by omega)
    rw [loop_s, LM_compareLooks_2, if_pos b1, c1, i21, if_neg hnl, if_pos b2, c2, j21, if_neg hnl, ix20, ix20, if_pos (inb_nI (show 20 * i + p < 80000 by omega) (by decide)), if_pos (inb_nI (show 20 * j + p < 80000 by omega) (by decide)), nI_clamp (show 20 * i + p < 2 ^ 31 by omega), nI_clamp (show 20 * j + p < 2 ^ 31 by omega), i20 p (by omega), j20 p (by omega), if_pos rfl, nI_1]
    exact ih (p + 1) f (by omega) (by omega)
theorem uM_cmp_df {i j : Nat} (hi : i < 4000) (hj : j < 4000) {l k : List Nat} (hl : l.length ≤ 18) (hk : k.length ≤ 18) (i21 : M.2.1 21 i = nI l.length) (j21 : M.2.1 21 j = nI k.length) (i20 : ∀ p, p < l.length → M.2.1 20 (20 * i + p) = nI (l.getD p 0)) (j20 : ∀ p, p < k.length → M.2.1 20 (20 * j + p) = nI (k.getD p 0)) {q : Nat} (h1 : q < l.length) (h2 : q < k.length) (h3 : ∀ p, p < q → l.getD p 0 = k.getD p 0) (h4 : ¬ l.getD q 0 = k.getD q 0) (h5 : l.getD q 0 < 2 ^ 20) (h6 : k.getD q 0 < 2 ^ 20) : ∀ (m p f : Nat), p + m = q → m + 1 ≤ f → rr_loop f (LM_compareLooks_2 M (nI i) (nI j)) (nI p) = some (nI (l.getD q 0) - nI (k.getD q 0)) := by
  have b1 := inb_nI hi (by decide)
  have b2 := inb_nI hj (by decide)
  have c1 : (nI i).toNatClampNeg = i := nI_clamp (by omega)
  have c2 : (nI j).toNatClampNeg = j := nI_clamp (by omega)
  intro m
  induction m with
  | zero =>
    intro p f hp hf
    obtain ⟨f, rfl⟩ : ∃ g, f = g + 1 := ⟨f - 1, by omega⟩
    obtain rfl : p = q := by omega
    have n1 : ¬ nI l.length ≤ nI p := nI_ge (by omega) (by omega)
    have n2 : ¬ nI k.length ≤ nI p := nI_ge (by omega) (by omega)
    have hne : ¬ nI (l.getD p 0) = nI (k.getD p 0) := fun w => h4 ((nI_eq (by omega) (by omega)).mp w)
    rw [loop_s, LM_compareLooks_2, if_pos b1, c1, i21, if_neg n1, if_pos b2, c2, j21, if_neg n2, ix20, ix20, if_pos (inb_nI (show 20 * i + p < 80000 by omega) (by decide)), if_pos (inb_nI (show 20 * j + p < 80000 by omega) (by decide)), nI_clamp (show 20 * i + p < 2 ^ 31 by omega), nI_clamp (show 20 * j + p < 2 ^ 31 by omega), i20 p (by omega), j20 p (by omega), if_neg hne, JM_compareLooks_53, if_pos b1, c1, i21, if_neg n1, ix20, if_pos (inb_nI (show 20 * i + p < 80000 by omega) (by decide)), nI_clamp (show 20 * i + p < 2 ^ 31 by omega), i20 p (by omega), JM_compareLooks_78, if_pos b2, c2, j21, if_neg n2, ix20, if_pos (inb_nI (show 20 * j + p < 80000 by omega) (by decide)), nI_clamp (show 20 * j + p < 2 ^ 31 by omega), j20 p (by omega), rr_l_e]
  | succ m ih =>
    intro p f hp hf
    obtain ⟨f, rfl⟩ : ∃ g, f = g + 1 := ⟨f - 1, by omega⟩
    have n1 : ¬ nI l.length ≤ nI p := nI_ge (by omega) (by omega)
    have n2 : ¬ nI k.length ≤ nI p := nI_ge (by omega) (by omega)
    rw [loop_s, LM_compareLooks_2, if_pos b1, c1, i21, if_neg n1, if_pos b2, c2, j21, if_neg n2, ix20, ix20, if_pos (inb_nI (show 20 * i + p < 80000 by omega) (by decide)), if_pos (inb_nI (show 20 * j + p < 80000 by omega) (by decide)), nI_clamp (show 20 * i + p < 2 ^ 31 by omega), nI_clamp (show 20 * j + p < 2 ^ 31 by omega), i20 p (by omega), j20 p (by omega), h3 p (by omega), if_pos rfl, nI_1]
    exact ih (p + 1) f (by omega) (by omega)
theorem pM_cmp (hA : okA A) (hG : okG ps) {n i j : Nat} (hn : n ≤ (allR A).length) (h4 : n ≤ 4000) (hl : lksM A ps n M) (hi : i < n) (hj : j < n) : ∃ d : Int32, fM_compareLooks M (nI i) (nI j) = some d ∧ (kyA A ps i < kyA A ps j → d < 0) ∧ (kyA A ps i = kyA A ps j → d = 0) ∧ (kyA A ps j < kyA A ps i → 0 < d) := by
  obtain ⟨a1, -, -, a4⟩ := hl i hi
  obtain ⟨b1, -, -, b4⟩ := hl j hj
  obtain ⟨l1, l2, -⟩ := pyA_ok hA hG (show i < (allR A).length by omega)
  obtain ⟨k1, k2, -⟩ := pyA_ok hA hG (show j < (allR A).length by omega)
  rcases lkA_df hA hG (show i < (allR A).length by omega) (show j < (allR A).length by omega) with e | ⟨q, h1, h2, h3, h5⟩
  · rw [← e] at b1 b4
    have ek : kyA A ps i = kyA A ps j := by unfold kyA; rw [e]
    exact ⟨0, uM_cmp_same (by omega) (by omega) l1 a1 b1 a4 b4 _ 0 FU (Nat.zero_add _) (by show _ ≤ 5000; omega), fun w => by omega, fun _ => rfl, fun w => by omega⟩
  · have c1 := okL_get l2 q
    have c2 := okL_get k2 q
    unfold okC at c1 c2
    refine ⟨_, uM_cmp_df (by omega) (by omega) l1 k1 a1 b1 a4 b4 h1 h2 h3 h5 (by omega) (by omega) q 0 FU (Nat.zero_add _) (by show _ ≤ 5000; omega), ?_⟩
    rcases Nat.lt_or_ge ((lkA A ps i).getD q 0) ((lkA A ps j).getD q 0) with z | z
    · have hlt : kyA A ps i < kyA A ps j := keyL_lt l2 k2 h1 h3 z
      exact ⟨fun _ => pk_sneg (by omega) z, fun w => by omega, fun w => by omega⟩
    · have hlt : kyA A ps j < kyA A ps i := keyL_lt k2 l2 h2 (fun p hp => (h3 p hp).symm) (by omega)
      refine ⟨fun w => by omega, fun w => by omega, fun _ => ?_⟩
      rw [pk_sub z]
      exact nI_lt (a := 0) (by omega) (by omega)
/-- the ends that M has found: their first rows -/
def enM (E : List Nat) (M : rr_T) : Prop := M.1 33 = nI E.length ∧ ∀ i, i < E.length → M.2.1 24 i = nI (E.getD i 0)
theorem uM_place7 (hA : okA A) (hG : okG ps) {n x : Nat} {E : List Nat} (hn : n ≤ (allR A).length) (h4 : n ≤ 4000) (hl : lksM A ps n M) (hx : x < n) (hE : ∀ e ∈ E, e < n) (hE4 : E.length ≤ 4000) (hpw : E.Pairwise (fun a b => kyA A ps a < kyA A ps b)) (h24 : ∀ i, i < E.length → M.2.1 24 i = nI (E.getD i 0)) : ∀ (m lo hi f : Nat), hi ≤ lo + m → lo ≤ hi → hi ≤ E.length → m + 1 ≤ f → (∀ i, i < lo → kyA A ps (E.getD i 0) < kyA A ps x) → (∀ i, hi ≤ i → i < E.length → kyA A ps x < kyA A ps (E.getD i 0)) → (∃ p, p < E.length ∧ kyA A ps (E.getD p 0) = kyA A ps x ∧ rr_loop f (LM_placeOf_7 M (nI x)) (nI lo, nI hi) = some (nI p)) ∨ ∃ p, p ≤ E.length ∧ (∀ i, i < p → kyA A ps (E.getD i 0) < kyA A ps x) ∧ (∀ i, p ≤ i → i < E.length → kyA A ps x < kyA A ps (E.getD i 0)) ∧ rr_loop f (LM_placeOf_7 M (nI x)) (nI lo, nI hi) = some (nI p - 5000) := by
  intro m
  induction m with
  | zero =>
    intro lo hi f h1 h2 h3 hf ha hb
    obtain ⟨f, rfl⟩ : ∃ g, f = g + 1 := ⟨f - 1, by omega⟩
    obtain rfl : lo = hi := by omega
    refine Or.inr ⟨lo, h3, ha, hb, ?_⟩
    rw [loop_s, LM_placeOf_7]
    dsimp only
    rw [if_pos (nI_le (Nat.le_refl _) (by omega))]
  | succ m ih =>
    intro lo hi f h1 h2 h3 hf ha hb
    obtain ⟨f, rfl⟩ : ∃ g, f = g + 1 := ⟨f - 1, by omega⟩
    rw [loop_s, LM_placeOf_7]
    dsimp only
    by_cases e : hi ≤ lo
    · obtain rfl : lo = hi := by omega
      refine Or.inr ⟨lo, h3, ha, hb, ?_⟩
      rw [if_pos (nI_le (Nat.le_refl _) (by omega))]
    · rw [if_neg (nI_ge (by omega) (by omega)), rr_l_e, nI_add, show nI (lo + hi) / 2 = nI ((lo + hi) / 2) from pk_div (d := 2) (by omega) (by decide) (by decide)]
      have hm1 : lo ≤ (lo + hi) / 2 := by omega
      have hm2 : (lo + hi) / 2 < hi := by omega
      generalize (lo + hi) / 2 = mid at hm1 hm2 ⊢
      have hmem : E.getD mid 0 ∈ E := getD_mem (by omega)
      obtain ⟨d, d1, d2, d3, d4⟩ := pM_cmp hA hG hn h4 hl hx (hE _ hmem)
      rw [if_pos (inb_nI (by omega) (by decide)), nI_clamp (by omega), h24 mid (by omega), d1, Option.bind_some]
      rcases Nat.lt_trichotomy (kyA A ps x) (kyA A ps (E.getD mid 0)) with z | z | z
      · have dn := d2 z
        rw [if_neg (fun w => by rw [w] at dn; exact absurd dn (by decide)), if_pos (Int32.le_of_lt dn), JM_placeOf_54, if_neg (Int32.not_le.mpr dn)]
        refine ih lo mid f (by omega) hm1 (by omega) (by omega) ha (fun i i1 i2 => ?_)
        by_cases ei : i = mid
        · rw [ei]; exact z
        · have := pw_get E hpw mid i (by omega) i2
          omega
      · rw [if_pos (d3 z)]
        exact Or.inl ⟨mid, by omega, z.symm, rfl⟩
      · have dp := d4 z
        rw [if_neg (fun w => by rw [w] at dp; exact absurd dp (by decide)), if_neg (Int32.not_le.mpr dp), JM_placeOf_54, if_pos (Int32.le_of_lt dp), nI_1]
        refine ih (mid + 1) hi f (by omega) (by omega) h3 (by omega) (fun i i1 => ?_) hb
        by_cases ei : i = mid
        · rw [ei]; exact z
        · have := pw_get E hpw i mid (by omega) (by omega)
          omega
theorem pM_placeOf (hA : okA A) (hG : okG ps) {n x : Nat} {E : List Nat} (hn : n ≤ (allR A).length) (h4 : n ≤ 4000) (hl : lksM A ps n M) (hx : x < n) (hE : ∀ e ∈ E, e < n) (hE4 : E.length ≤ 4000) (hpw : E.Pairwise (fun a b => kyA A ps a < kyA A ps b)) (he : enM E M) : (∃ p, p < E.length ∧ kyA A ps (E.getD p 0) = kyA A ps x ∧ fM_placeOf M (nI x) = some (nI p)) ∨ ∃ p, p ≤ E.length ∧ (∀ i, i < p → kyA A ps (E.getD i 0) < kyA A ps x) ∧ (∀ i, p ≤ i → i < E.length → kyA A ps x < kyA A ps (E.getD i 0)) ∧ fM_placeOf M (nI x) = some (nI p - 5000) := by
  have := uM_place7 hA hG hn h4 hl hx hE hE4 hpw he.2 E.length 0 E.length FU (by omega) (Nat.zero_le _) (Nat.le_refl _) (by show _ ≤ 5000; omega) (fun i hi => absurd hi (Nat.not_lt_zero _)) (fun i i1 i2 => by omega)
  rw [fM_placeOf, rr_l_e, he.1]
  exact this
/-- x comes to place p -/
def insL (p x : Nat) (E : List Nat) : List Nat := E.take p ++ x :: E.drop p
theorem insL_len {p x : Nat} {E : List Nat} (h : p ≤ E.length) : (insL p x E).length = E.length + 1 := by
  unfold insL
  rw [List.length_append, List.length_cons, List.length_take, List.length_drop]
  omega
theorem insL_get {p x : Nat} {E : List Nat} (h : p ≤ E.length) (i : Nat) : (insL p x E).getD i 0 = if i < p then E.getD i 0 else if i = p then x else E.getD (i - 1) 0 := by
  unfold insL
  have hl : (E.take p).length = p := by rw [List.length_take]; omega
  rw [List.getD_eq_getElem?_getD, List.getD_eq_getElem?_getD, List.getD_eq_getElem?_getD]
  by_cases e : i < p
  · rw [if_pos e, List.getElem?_append_left (by omega), List.getElem?_take_of_lt e]
  · rw [if_neg e, List.getElem?_append_right (by omega), hl]
    by_cases e2 : i = p
    · rw [if_pos e2, e2, Nat.sub_self]; rfl
    · rw [if_neg e2]
      obtain ⟨d, hd⟩ : ∃ d, i - p = d + 1 := ⟨i - p - 1, by omega⟩
      rw [hd, List.getElem?_cons_succ, List.getElem?_drop, show p + d = i - 1 by omega]
theorem uM_pa125 {rec : Int32 × rr_T → Option (Int32 × rr_T)} {w : rr_T} {x p : Nat} {E : List Nat} (hp : p ≤ E.length) (hE4 : E.length < 4000) : ∀ (m k f : Nat) (M : rr_T), k = p + m → k ≤ E.length → m + 1 ≤ f → M.1 33 = nI E.length → (∀ i, i < k → M.2.1 24 i = nI (E.getD i 0)) → (∀ i, k < i → i ≤ E.length → M.2.1 24 i = nI (E.getD (i - 1) 0)) → ∃ M', rr_loop f (LM_playAll_125 rec (nI x, w) (nI p - 5000)) (nI k, M) = rec (nI (x + 1), M') ∧ frM [33] [24] M M' ∧ enM (insL p x E) M' := by
  have e5 : nI p - 5000 + 5000 = nI p := by rw [Int32.sub_add_cancel]
  intro m
  induction m with
  | zero =>
    intro k f M hk hkl hf e33 h1 h2
    obtain ⟨f, rfl⟩ : ∃ g, f = g + 1 := ⟨f - 1, by omega⟩
    obtain rfl : k = p := by omega
    refine ⟨pI (pA M 24 (nI k) (nI x)) 33 (nI (E.length + 1)), ?_, frM_pI (frM_pA (frM_r _ _ _) (by simp)) (by simp), ?_, fun i hi => ?_⟩
    · rw [loop_s, LM_playAll_125]
      dsimp only
      rw [e5, if_pos (nI_le (Nat.le_refl _) (by omega)), JM_playAll_154, e5, if_pos (inb_nI (by omega) (by decide)), rr_l_e, rr_l_e, pA_1, e33, nI_1, nI_1]
    · rw [pI_s, insL_len hp]
    · rw [insL_len hp] at hi
      rw [pI_2, pA_s, nI_clamp (by omega), insL_get hp]
      by_cases e : i < k
      · rw [if_pos e, upd_n (by omega)]; exact h1 i e
      · rw [if_neg e]
        by_cases e2 : i = k
        · rw [if_pos e2, e2, upd_s]
        · rw [if_neg e2, upd_n e2]; exact h2 i (by omega) (by omega)
  | succ m ih =>
    intro k f M hk hkl hf e33 h1 h2
    obtain ⟨f, rfl⟩ : ∃ g, f = g + 1 := ⟨f - 1, by omega⟩
    obtain ⟨j, rfl⟩ : ∃ j, k = j + 1 := ⟨k - 1, by omega⟩
    have f1 : frM [33] [24] M (pA M 24 (nI (j + 1)) (nI (E.getD j 0))) := frM_pA (frM_r _ _ _) (by simp)
    obtain ⟨M', b1, b2, b3⟩ := ih j f (pA M 24 (nI (j + 1)) (nI (E.getD j 0))) (by omega) (by omega) (by omega) e33 (fun i hi => by
      rw [pA_s, nI_clamp (by omega), upd_n (by omega)]; exact h1 i (by omega)) (fun i i1 i2 => by
      rw [pA_s, nI_clamp (by omega)]
      by_cases e : i = j + 1
      · rw [e, upd_s]; rfl
      · rw [upd_n e]; exact h2 i (by omega) i2)
    refine ⟨M', ?_, frM_t f1 b2, b3⟩
    rw [loop_s, LM_playAll_125]
    dsimp only
    rw [e5, if_neg (nI_ge (by omega) (by omega)), nI_pred, if_pos (inb_nI (by omega) (by decide)), if_pos (inb_nI (by omega) (by decide)), nI_clamp (by omega), h1 j (by omega), rr_l_e, pk_m1]
    exact b1
end MENDS

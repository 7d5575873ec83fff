/-! ===== L3: the class: put, empty, rank ===== -/
theorem m1_lt {h lo : Nat} (hh : h < 2 ^ 30) (hl : lo < 2 ^ 30) : nI h - 1 < nI lo ↔ h ≤ lo := by
  have e : (nI h - 1).toInt = (h : Int) - 1 := pk_sub_toInt (b := 1) hh (by decide)
  rw [Int32.lt_iff_toInt_lt, e, nI_toInt (by omega)]
  omega
theorem m1_le {y k : Nat} (hy : y < 2 ^ 30) (hk : k < 2 ^ 30) : nI y - 1 ≤ nI k ↔ y ≤ k + 1 := by
  have e : (nI y - 1).toInt = (y : Int) - 1 := pk_sub_toInt (b := 1) hy (by decide)
  rw [Int32.le_iff_toInt_le, e, nI_toInt (by omega)]
  omega
theorem cod_inj {c d : Nat} (hc : okC c) (hd : okC d) (h : cod c = cod d) : c = d := by
  unfold okC at hc hd
  unfold cod at h
  split at h <;> split at h <;> omega
theorem nuF_inj {g h : Nat → Nat} (hg : ∀ p, okC (g p)) (hh : ∀ p, okC (h p)) (e : nuF g 22 = nuF h 22) : ∀ p, p < 22 → g p = h p := by
  intro p hp
  have e1 := nuF_dig hg (q := p) (d := 21 - p)
  have e2 := nuF_dig hh (q := p) (d := 21 - p)
  rw [show p + 1 + (21 - p) = 22 by omega] at e1 e2
  rw [e, e2] at e1
  exact cod_inj (hg p) (hh p) e1.symm
/-- the key of a row -/
def kyR (r : Rw) : Nat := nuF (rp r) 22
theorem rp_in {r : Rw} {p : Nat} (h : p < r.1) : rp r p = r.2 p := if_pos h
theorem kyR_eq {A : Sh} {r s : Rw} (hA : okA A) (hr : okW A r) (hs : okW A s) (e : kyR r = kyR s) : r.1 = s.1 ∧ ∀ p, p < r.1 → r.2 p = s.2 p := by
  have h1 := okR_22 hr.1
  have h2 := okR_22 hs.1
  have e' := nuF_inj (rp_ok hA hr.1) (rp_ok hA hs.1) e
  have e2 : ∀ p, p < r.1 → p < s.1 → r.2 p = s.2 p := fun p p1 p2 => by
    have := e' p (by omega)
    rw [rp_in p1, rp_in p2] at this
    exact this
  have l1 := row_le hr.1 hs (fun p p1 p2 => e2 p p2 p1)
  have l2 := row_le hs.1 hr (fun p p1 p2 => (e2 p p1 p2).symm)
  exact ⟨by omega, fun p hp => e2 p hp (by omega)⟩
theorem kyR_of {r s : Rw} (e1 : r.1 = s.1) (e2 : ∀ p, p < r.1 → r.2 p = s.2 p) : kyR r = kyR s := by
  refine nuF_eq 22 (fun p _ => ?_)
  by_cases h : p < r.1
  · rw [rp_in h, rp_in (by omega), e2 p h]
  · rw [rp, rp, if_neg h, if_neg (by omega)]
theorem kyR_lt {A : Sh} {r s : Rw} (hA : okA A) (hr : okW A r) (hs : okW A s) (h : lxt r s) : kyR r < kyR s := by
  obtain ⟨p, p1, p2, p3, p4⟩ := h
  have h1 := okR_22 hr.1
  refine nuF_lt (rp_ok hA hr.1) (rp_ok hA hs.1) (p := p) (fun j hj => ?_) ?_ 22 (by omega)
  · rw [rp_in (show j < r.1 by omega), rp_in (show j < s.1 by omega)]; exact p3 j hj
  · rw [rp_in p1, rp_in p2]; exact p4
theorem allR_ky {A : Sh} (hA : okA A) {i j : Nat} (hij : i < j) (hj : j < (allR A).length) : kyR ((allR A).getD i d0) < kyR ((allR A).getD j d0) := by
  have hi : i < (allR A).length := by omega
  rw [gD_g hi, gD_g hj]
  exact kyR_lt hA (allR_ok A _ (List.getElem_mem _)) (allR_ok A _ (List.getElem_mem _)) (List.pairwise_iff_getElem.mp (allR_lt A) i j hi hj hij)
theorem kyR_two (r : Rw) : kyR r = nuF (rp r) 11 * 16 ^ 11 + nuF (fun p => rp r (11 + p)) 11 := nuF_add 11 11
theorem uX_find {S : rr_T} {D : List Rw} {g : Nat → Nat} (hg : ∀ p, okC (g p)) (hD : rowsX S D) (hD4 : D.length ≤ 4001) (hok : ∀ i, i < D.length → ∀ p, okC (rp (D.getD i d0) p)) (hm : ∀ i j, i < j → j < D.length → kyR (D.getD i d0) < kyR (D.getD j d0)) : ∀ (m lo h t f : Nat), h - lo < 2 ^ m → m + t ≤ 31 → lo ≤ h → h ≤ D.length → m + 1 ≤ f → (∀ i, i < lo → kyR (D.getD i d0) < nuF g 22) → (∀ i, h ≤ i → i < D.length → nuF g 22 < kyR (D.getD i d0)) → (∃ i, i < D.length ∧ kyR (D.getD i d0) = nuF g 22 ∧ rr_loop f (LX5_find_18_30 S (lN (nuF g 11)) (lN (nuF (fun p => g (11 + p)) 11))) (nI lo, nI h - 1, nI t) = some (nI i)) ∨ ((∀ i, i < D.length → ¬ kyR (D.getD i d0) = nuF g 22) ∧ rr_loop f (LX5_find_18_30 S (lN (nuF g 11)) (lN (nuF (fun p => g (11 + p)) 11))) (nI lo, nI h - 1, nI t) = some (-1)) := by
  intro m
  have hend : ∀ (lo h t f : Nat), h = lo → t ≤ 31 → h ≤ D.length → 1 ≤ f → (∀ i, i < lo → kyR (D.getD i d0) < nuF g 22) → (∀ i, h ≤ i → i < D.length → nuF g 22 < kyR (D.getD i d0)) → ((∀ i, i < D.length → ¬ kyR (D.getD i d0) = nuF g 22) ∧ rr_loop f (LX5_find_18_30 S (lN (nuF g 11)) (lN (nuF (fun p => g (11 + p)) 11))) (nI lo, nI h - 1, nI t) = some (-1)) := by
    intro lo h t f e ht hl hf h1 h2
    subst e
    obtain ⟨f, rfl⟩ : ∃ g, f = g + 1 := ⟨f - 1, by omega⟩
    refine ⟨fun i hi e => ?_, ?_⟩
    · rcases Nat.lt_or_ge i h with q | q
      · have := h1 i q; omega
      · have := h2 i q hi; omega
    · rw [loop_s, LX5_find_18_30]
      dsimp only
      rw [if_neg (show ¬ (32 : Int32) ≤ nI t from nI_ge (b := 32) (by omega) (by decide)), if_pos ((m1_lt (by omega) (by omega)).mpr (Nat.le_refl _))]
  induction m with
  | zero =>
    intro lo h t f h1 h2 h3 h4 h5 hl hh
    have h1 : h - lo < 1 := h1
    exact Or.inr (hend lo h t f (by omega) (by omega) h4 (by omega) hl hh)
  | succ m ih =>
    intro lo h t f h1 h2 h3 h4 h5 hl hh
    rcases Nat.lt_or_ge lo h with q | q
    · obtain ⟨f, rfl⟩ : ∃ g, f = g + 1 := ⟨f - 1, by omega⟩
      obtain ⟨k, rfl⟩ : ∃ k, h = k + 1 := ⟨h - 1, by omega⟩
      rw [Nat.pow_succ] at h1
      have hmid : (lo + k) / 2 < D.length := by omega
      have ek : kyR (D.getD ((lo + k) / 2) d0) = nuF (rp (D.getD ((lo + k) / 2) d0)) 11 * 16 ^ 11 + nuF (fun p => rp (D.getD ((lo + k) / 2) d0) (11 + p)) 11 := kyR_two _
      have eg : nuF g 22 = nuF g 11 * 16 ^ 11 + nuF (fun p => g (11 + p)) 11 := nuF_add 11 11
      have b1 := nuF_16 (hok _ hmid) 11
      have b2 := nuF_16 (fun p => hok _ hmid (11 + p)) 11
      have b3 := nuF_16 hg 11
      have b4 := nuF_16 (fun p => hg (11 + p)) 11
      have hcm := cmpN_two (a := nuF (rp (D.getD ((lo + k) / 2) d0)) 11) (c := nuF g 11) b2 b4
      rw [← ek, ← eg] at hcm
      have p11 : (16 : Nat) ^ 11 < 2 ^ 63 := by decide
      obtain ⟨w1, w2⟩ := hD.2.1 _ hmid
      have hc := hD.2.2.1
      have hc2 := hD.2.2.2.2
      have e0 : rr_loop (f + 1) (LX5_find_18_30 S (lN (nuF g 11)) (lN (nuF (fun p => g (11 + p)) 11))) (nI lo, nI (k + 1) - 1, nI t) = JX5_find_18_91 (rr_loop f (LX5_find_18_30 S (lN (nuF g 11)) (lN (nuF (fun p => g (11 + p)) 11)))) (nI lo, nI k, nI t) (nI ((lo + k) / 2)) (cmpN (kyR (D.getD ((lo + k) / 2) d0)) (nuF g 22)) := by
        rw [loop_s, LX5_find_18_30]
        dsimp only
        rw [if_neg (show ¬ (32 : Int32) ≤ nI t from nI_ge (b := 32) (by omega) (by decide)), nI_pred, if_neg (nI_nlt (by omega) (by omega)), rr_l_e, nI_add, show nI (lo + k) / 2 = nI ((lo + k) / 2) from pk_div (d := 2) (by omega) (by decide) (by decide), show (2 : Int32) * nI ((lo + k) / 2) = nI (2 * ((lo + k) / 2)) from pk_mul 2 _, if_pos (inb_nI (by omega) (by omega)), nI_clamp (by omega), w1, pX_cmp (by omega) (by omega), Option.bind_some, nI_1, nI_clamp (by omega), w2, pX_cmp (by omega) (by omega), if_pos (inb_nI (by omega) (by omega)), Option.bind_some, ← hcm]
        by_cases z : cmpN (nuF (rp (D.getD ((lo + k) / 2) d0)) 11) (nuF g 11) = 0
        · rw [if_pos z, if_pos z]
        · rw [if_neg z, if_neg z]
      rw [e0, JX5_find_18_91]
      dsimp only
      rcases Nat.lt_trichotomy (kyR (D.getD ((lo + k) / 2) d0)) (nuF g 22) with c | c | c
      · have ec : cmpN (kyR (D.getD ((lo + k) / 2) d0)) (nuF g 22) = -1 := if_pos c
        rw [ec, if_neg (by decide), if_neg (by decide), rr_l_e, nI_1, nI_1]
        have := ih ((lo + k) / 2 + 1) (k + 1) (t + 1) f (by omega) (by omega) (by omega) h4 (by omega) (fun i hi => by
          rcases Nat.lt_or_ge i ((lo + k) / 2) with q' | q'
          · have := hm i _ q' hmid; omega
          · rw [show i = (lo + k) / 2 by omega]; exact c) hh
        rw [nI_pred] at this
        exact this
      · have ec : cmpN (kyR (D.getD ((lo + k) / 2) d0)) (nuF g 22) = 0 := by rw [cmpN, if_neg (by omega), if_pos c]
        rw [ec, if_pos rfl]
        exact Or.inl ⟨_, hmid, c, rfl⟩
      · have ec : cmpN (kyR (D.getD ((lo + k) / 2) d0)) (nuF g 22) = 1 := by rw [cmpN, if_neg (by omega), if_neg (by omega)]
        rw [ec, if_neg (by decide), if_pos (by decide), rr_l_e, nI_1]
        exact ih lo ((lo + k) / 2) (t + 1) f (by omega) (by omega) (by omega) (by omega) (by omega) hl (fun i h1 h2 => by
          rcases Nat.lt_or_ge ((lo + k) / 2) i with q' | q'
          · have := hm _ i q' h2; omega
          · rw [show i = (lo + k) / 2 by omega]; exact c)
    · exact Or.inr (hend lo h t f (by omega) (by omega) h4 (by omega) hl hh)
theorem uX_kn {S : rr_T} {K : List Nat} {y : Nat} (hy : y < 2 ^ 20) (hK : kpX S K) (hK4 : K.length ≤ 4001) (hb : ∀ i, i < K.length → K.getD i 0 < 2 ^ 20) (hc2 : S.2.2.2 20 < 2 ^ 20) (hm : ∀ i j, i < j → j < K.length → K.getD i 0 < K.getD j 0) : ∀ (m lo h t f : Nat), h - lo < 2 ^ m → m + t ≤ 31 → lo ≤ h → h ≤ K.length → m + 1 ≤ f → (∀ i, i < lo → K.getD i 0 + 1 < y) → (∀ i, h ≤ i → i < K.length → y < K.getD i 0 + 1) → (∃ i, i < K.length ∧ K.getD i 0 + 1 = y ∧ rr_loop f (LX0_keptNumber_12 S (nI y - 1)) (nI lo, nI h - 1, nI t) = some (nI i)) ∨ ((∀ i, i < K.length → ¬ K.getD i 0 + 1 = y) ∧ rr_loop f (LX0_keptNumber_12 S (nI y - 1)) (nI lo, nI h - 1, nI t) = some (-1)) := by
  intro m
  have hend : ∀ (lo h t f : Nat), h = lo → t ≤ 31 → h ≤ K.length → 1 ≤ f → (∀ i, i < lo → K.getD i 0 + 1 < y) → (∀ i, h ≤ i → i < K.length → y < K.getD i 0 + 1) → ((∀ i, i < K.length → ¬ K.getD i 0 + 1 = y) ∧ rr_loop f (LX0_keptNumber_12 S (nI y - 1)) (nI lo, nI h - 1, nI t) = some (-1)) := by
    intro lo h t f e ht hl hf h1 h2
    subst e
    obtain ⟨f, rfl⟩ : ∃ g, f = g + 1 := ⟨f - 1, by omega⟩
    refine ⟨fun i hi e => ?_, ?_⟩
    · rcases Nat.lt_or_ge i h with q | q
      · have := h1 i q; omega
      · have := h2 i q hi; omega
    · rw [loop_s, LX0_keptNumber_12]
      dsimp only
      rw [if_neg (show ¬ (32 : Int32) ≤ nI t from nI_ge (b := 32) (by omega) (by decide)), if_pos ((m1_lt (by omega) (by omega)).mpr (Nat.le_refl _))]
  induction m with
  | zero =>
    intro lo h t f h1 h2 h3 h4 h5 hl hh
    have h1 : h - lo < 1 := h1
    exact Or.inr (hend lo h t f (by omega) (by omega) h4 (by omega) hl hh)
  | succ m ih =>
    intro lo h t f h1 h2 h3 h4 h5 hl hh
    rcases Nat.lt_or_ge lo h with q | q
    · obtain ⟨f, rfl⟩ : ∃ g, f = g + 1 := ⟨f - 1, by omega⟩
      obtain ⟨k, rfl⟩ : ∃ k, h = k + 1 := ⟨h - 1, by omega⟩
      rw [Nat.pow_succ] at h1
      have hmid : (lo + k) / 2 < K.length := by omega
      have hbm := hb _ hmid
      have hc := hK.2.1
      have e0 : rr_loop (f + 1) (LX0_keptNumber_12 S (nI y - 1)) (nI lo, nI (k + 1) - 1, nI t) = if nI (K.getD ((lo + k) / 2) 0) = nI y - 1 then some (nI ((lo + k) / 2)) else if nI y - 1 ≤ nI (K.getD ((lo + k) / 2) 0) then rr_loop f (LX0_keptNumber_12 S (nI y - 1)) (nI lo, nI ((lo + k) / 2) - 1, nI (t + 1)) else rr_loop f (LX0_keptNumber_12 S (nI y - 1)) (nI ((lo + k) / 2 + 1), nI k, nI (t + 1)) := by
        rw [loop_s, LX0_keptNumber_12]
        dsimp only
        rw [if_neg (show ¬ (32 : Int32) ≤ nI t from nI_ge (b := 32) (by omega) (by decide)), nI_pred, if_neg (nI_nlt (by omega) (by omega)), rr_l_e, nI_add, show nI (lo + k) / 2 = nI ((lo + k) / 2) from pk_div (d := 2) (by omega) (by decide) (by decide), if_pos (inb_nI (by omega) (by omega)), nI_clamp (by omega), hK.2.2 _ hmid, if_pos (inb_nI (by omega) (by omega)), rr_l_e, rr_l_e, nI_1, nI_1]
      rw [e0]
      rcases Nat.lt_trichotomy (K.getD ((lo + k) / 2) 0 + 1) y with c | c | c
      · rw [if_neg (fun z => by have := (m1_eqN (by omega) (by omega)).mp z.symm; omega), if_neg (fun z => by have := (m1_le (by omega) (by omega)).mp z; omega)]
        have := ih ((lo + k) / 2 + 1) (k + 1) (t + 1) f (by omega) (by omega) (by omega) h4 (by omega) (fun i hi => by
          rcases Nat.lt_or_ge i ((lo + k) / 2) with q' | q'
          · have := hm i _ q' hmid; omega
          · rw [show i = (lo + k) / 2 by omega]; exact c) hh
        rw [nI_pred] at this
        exact this
      · rw [if_pos ((m1_eqN (by omega) (by omega)).mpr c.symm).symm]
        exact Or.inl ⟨_, hmid, c, rfl⟩
      · rw [if_neg (fun z => by have := (m1_eqN (by omega) (by omega)).mp z.symm; omega), if_pos ((m1_le (by omega) (by omega)).mpr (by omega))]
        exact ih lo ((lo + k) / 2) (t + 1) f (by omega) (by omega) (by omega) (by omega) (by omega) hl (fun i h1 h2 => by
          rcases Nat.lt_or_ge ((lo + k) / 2) i with q' | q'
          · have := hm _ i q' h2; omega
          · rw [show i = (lo + k) / 2 by omega]; exact c)
    · exact Or.inr (hend lo h t f (by omega) (by omega) h4 (by omega) hl hh)
/-- the kept rows rise -/
theorem keA_up {A : Sh} {qs : List Ru} {i j : Nat} (h : i < j) (hj : j < (keA A qs).length) : (keA A qs).getD i 0 < (keA A qs).getD j 0 := by
  refine pw_get (ky := fun x => x) _ ?_ i j h hj
  rw [keA, keF_rng]
  exact List.Pairwise.filter _ List.pairwise_lt_range
/-- THE ROW of X -/
def twX (S : rr_T) (tw : List Int32) : Prop := S.1 8 = nI tw.length ∧ tw.length ≤ 40 ∧ ∀ i, i < tw.length → S.2.1 33 i = tw.getD i 0
theorem twX_fr {is as ls : List Nat} {S S' : rr_T} {tw : List Int32} (f : frY is as ls S S') (h1 : 8 ∉ is) (h2 : 33 ∉ as) (h : twX S tw) : twX S' tw := by
  unfold twX
  rw [f.1.1 8 h1, f.1.2 33 h2]
  exact h
theorem pX_put {P S : rr_T} {tw : List Int32} (h : twX S tw) (x : Int32) : ∃ S', fX10_put P S x = some ((if tw.length = 40 then -104 else nI (tw.length + 1)), S') ∧ frX [8] [33] S S' ∧ twX S' (if tw.length = 40 then tw else tw ++ [x]) := by
  obtain ⟨h1, h2, h3⟩ := h
  rw [fX10_put, h1]
  by_cases e : tw.length = 40
  · rw [if_neg (show ¬ nI tw.length < 40 from nI_nlt (b := 40) (by omega) (by omega)), if_pos e, if_pos e]
    exact ⟨S, rfl, frX_r _ _ _, h1, h2, h3⟩
  · rw [if_pos (show nI tw.length < 40 from nI_lt (b := 40) (by omega) (by decide)), if_pos (inb_nI (by omega) (by decide)), rr_l_e, rr_l_e, if_neg e, if_neg e, pI_s, show (pA S 33 (nI tw.length) x).1 8 = nI tw.length from h1, nI_1]
    refine ⟨_, rfl, frX_pI (frX_pA (frX_r _ _ _) (by simp)) (by simp), ?_, ?_, ?_⟩
    · rw [pI_s, List.length_append, List.length_singleton]
    · rw [List.length_append, List.length_singleton]; omega
    · intro i hi
      rw [List.length_append, List.length_singleton] at hi
      rw [pI_2, pA_s, nI_clamp (by omega)]
      by_cases q : i = tw.length
      · rw [q, upd_s, gD_e]
      · rw [upd_n q, gD_l (by omega)]
        exact h3 i (by omega)
theorem pX_empty {P S : rr_T} {tw : List Int32} (h : twX S tw) : ∃ S', fX10_empty P S = some (nI tw.length, S') ∧ frX [8] [33] S S' ∧ twX S' [] := by
  obtain ⟨h1, h2, h3⟩ := h
  rw [fX10_empty, rr_l_e, rr_l_e, h1]
  exact ⟨_, rfl, frX_pI (frX_r _ _ _) (by simp), pI_s _ _ _, Nat.zero_le _, fun i hi => absurd hi (Nat.not_lt_zero _)⟩
theorem wlk_le {A : Sh} {tw : Nat → Int32} : ∀ (m p : Nat) (a : Nat → Nat) (k : Nat), wlk A tw m p a = .inl k → k ≤ p + m := by
  intro m
  induction m with
  | zero =>
    intro p a k h
    unfold wlk at h
    split at h
    · cases h
    · cases h; omega
  | succ m ih =>
    intro p a k h
    unfold wlk at h
    split at h
    · cases h; omega
    · split at h
      · have := ih _ _ _ h; omega
      · cases h; omega
def wlI (w : Nat ⊕ (Nat → Nat)) : Int32 := match w with
  | .inl k => nI k
  | .inr _ => -1
section XRANK
variable {A : Sh} {P : rr_T} {qs : List Ru} {tw : List Int32}
theorem uX_lu (hA : okA A) (h40 : tw.length ≤ 40) : ∀ (m p f : Nat) (a : Nat → Nat) (S : rr_T), p + m = tw.length → m + 1 ≤ f → okR A a p → shX S A → cuX A S (p, a) → (∀ i, i < tw.length → S.2.1 33 i = tw.getD i 0) → (∀ j, j < p → nI (a j) = tw.getD j 0) → ∃ S' r, rr_loop f (LX2_loadUnsure_6 P (nI tw.length)) (nI p, S) = some (wlI (wlk A (fun i => tw.getD i 0) m p a), S') ∧ frX hR hQ S S' ∧ okR A r.2 r.1 ∧ cuX A S' r ∧ ∀ b, wlk A (fun i => tw.getD i 0) m p a = .inr b → okW A (tw.length, b) ∧ ∀ j, j < tw.length → nI (b j) = tw.getD j 0 := by
  intro m
  induction m with
  | zero =>
    intro p f a S hp hf hok hS hc hrow hpre
    obtain ⟨f, rfl⟩ : ∃ g, f = g + 1 := ⟨f - 1, by omega⟩
    obtain rfl : p = tw.length := by omega
    refine ⟨S, (tw.length, a), ?_, frX_r _ _ _, hok, hc, fun b hb => ?_⟩
    · rw [loop_s, LX2_loadUnsure_6]
      dsimp only
      rw [if_pos (nI_le (Nat.le_refl _) (by omega)), JX2_loadUnsure_42, wlk]
      cases e : sl A a tw.length with
      | none =>
        rw [(hc.2.2.1 e).1, if_pos rfl, if_pos rfl]
        rfl
      | some s =>
        obtain ⟨k1, k2, t, et⟩ := sl_some _ _ e
        rw [(hc.2.2.2.1 s t e et).1, if_neg (nI_m1 (by omega)), if_neg (by simp)]
        rfl
    · rw [wlk] at hb
      split at hb
      · next e => cases hb; exact ⟨⟨hok, e⟩, hpre⟩
      · cases hb
  | succ m ih =>
    intro p f a S hp hf hok hS hc hrow hpre
    obtain ⟨f, rfl⟩ : ∃ g, f = g + 1 := ⟨f - 1, by omega⟩
    have hpt : p < tw.length := by omega
    rw [wlk, loop_s, LX2_loadUnsure_6]
    dsimp only
    rw [if_neg (nI_ge hpt (by omega)), if_neg (nI_ge (show p < 40 by omega) (by decide)), if_pos (inb_nI (by omega) (by decide)), nI_clamp (by omega), hrow p hpt]
    cases e : sl A a p with
    | none =>
      rw [pX_allows0 hc e, Option.bind_some, if_pos rfl, if_pos rfl]
      exact ⟨S, (p, a), rfl, frX_r _ _ _, hok, hc, fun b hb => by cases hb⟩
    | some s =>
      obtain ⟨k1, k2, t, et⟩ := sl_some _ _ e
      have ety : tyW A a p = t := by unfold tyW; rw [e]; dsimp only; rw [et]; rfl
      rw [pX_allows hA hok hS hc e et, Option.bind_some, if_neg (show ¬ (some s = none) by simp), ety]
      by_cases hw : alwI A (ob a p) t (tw.getD p 0) = true
      · rw [if_pos hw, if_neg (show ¬ (1 : Int32) = 0 by decide), if_pos (inb_nI (by omega) (by decide)), if_pos hw]
        unfold alwI at hw
        rw [Bool.and_eq_true] at hw
        obtain ⟨j, hj, ej⟩ := nI_of (of_decide_eq_true hw.1)
        have hal := hw.2
        rw [ej, nI_clamp hj] at hal ⊢
        obtain ⟨S1, b1, b2, b3⟩ := pX_take (P := P) hA hS hok hc e et hal
        rw [b1, Option.bind_some, nI_1]
        have e1 := sl_eq (A := A) p (upn_lt (a := a) (n := p) (c := j))
        have e2 := ob_eq p (upn_lt (a := a) (n := p) (c := j))
        obtain ⟨S', r, c1, c2, c3, c4, c5⟩ := ih (p + 1) f (upn a p j) S1 (by omega) (by omega) (okR_s (okR_eq upn_lt hok) (by rw [← e1]; exact e) (by rw [← e2]; exact et) (by rw [upn_s, ← e2]; exact hal)) (shX_fr b2 (by simp) (by simp) hS) b3 (fun i hi => by rw [frX_2 b2 (by simp)]; exact hrow i hi) (fun q hq => by
          by_cases z : q = p
          · rw [z, upn_s]; exact ej.symm
          · rw [upn_n z]; exact hpre q (by omega))
        exact ⟨S', r, c1, frX_t b2 c2, c3, c4, c5⟩
      · rw [if_neg hw, if_pos rfl, if_neg hw]
        exact ⟨S, (p, a), rfl, frX_r _ _ _, hok, hc, fun b hb => by cases hb⟩
theorem pX_lu {S : rr_T} (hA : okA A) (hS : shX S A) (h : twX S tw) : ∃ S' r, fX2_loadUnsure P S (nI tw.length) = some (wlI (wlk A (fun i => tw.getD i 0) tw.length 0 (fun _ => 0)), S') ∧ frX hR hQ S S' ∧ okR A r.2 r.1 ∧ cuX A S' r ∧ ∀ b, wlk A (fun i => tw.getD i 0) tw.length 0 (fun _ => 0) = .inr b → okW A (tw.length, b) ∧ ∀ j, j < tw.length → nI (b j) = tw.getD j 0 := by
  obtain ⟨h1, h2, h3⟩ := h
  obtain ⟨S1, a1, a2, a3⟩ := pX_begin (P := P) (a := fun _ => 0) hA hS
  obtain ⟨S', r, c1, c2, c3, c4, c5⟩ := uX_lu (P := P) (tw := tw) hA h2 tw.length 0 FU (fun _ => 0) S1 (Nat.zero_add _) (by show _ ≤ 5000; omega) (fun p hp => absurd hp (Nat.not_lt_zero _)) (shX_fr a2 (by simp) (by simp) hS) a3 (fun i hi => by rw [frX_2 a2 (by simp)]; exact h3 i hi) (fun j hj => absurd hj (Nat.not_lt_zero _))
  rw [fX2_loadUnsure, a1, Option.bind_some]
  exact ⟨S', r, c1, frX_t a2 c2, c3, c4, c5⟩
/-- two rows are told by the same ints if their keys are the same -/
theorem same_ky {b : Nat → Nat} {r : Rw} (hA : okA A) (hr : okW A r) (hb : okW A (tw.length, b)) (hj : ∀ j, j < tw.length → nI (b j) = tw.getD j 0) : sameB (fun i => tw.getD i 0) tw.length r = true ↔ kyR r = kyR (tw.length, b) := by
  rw [sameB_t]
  have c1 := okW_c hA hr
  have c2 := okW_c hA hb
  constructor
  · intro h
    refine kyR_of h.1 (fun p hp => ?_)
    have h1 := h.2 p (by omega)
    have h2 := c1 p hp
    have h3 : b p < 14 := c2 p (by show p < tw.length; omega)
    rw [← hj p (by omega)] at h1
    show r.2 p = b p
    exact (nI_eq (by omega) (by omega)).mp h1
  · intro h
    obtain ⟨h1, h2⟩ := kyR_eq hA hr hb h
    exact ⟨h1, fun j hjt => by rw [h2 j (by rw [h1]; exact hjt)]; exact hj j hjt⟩
theorem pX_rank {S : rr_T} {u v : Nat} (h : xI A qs P S) (htw : twX S tw) : ∃ S' u' v', fX10_rank P S u v = some (spRank A qs tw, S', u', v') ∧ xE A qs S u v S' u' v' := by
  obtain ⟨S1, u1, v1, a1, a2, a3⟩ := pX_sift (u := u) (v := v) h
  have hA := h.1.1
  have htw1 : twX S1 tw := twX_fr a2.1 (by simp) (by simp) htw
  rw [fX10_rank, a1, Option.bind_some, spRank]
  dsimp only
  by_cases h4 : (allR A).length ≤ 4000
  · rw [if_pos h4, if_pos h4, if_neg (show ¬ (1 : Int32) = 0 by decide), htw1.1]
    obtain ⟨S2, r, c1, c2, c3, c4, c5⟩ := pX_lu (P := P) hA (xE_sh a2 h.2.2.1) htw1
    have hE := xE_cu a2 c2 c3 c4
    have htw2 : twX S2 tw := twX_fr (ls := []) (frY_x c2) (by simp) (by simp) htw1
    rw [c1, Option.bind_some]
    dsimp only
    cases e : wlk A (fun i => tw.getD i 0) tw.length 0 (fun _ => 0) with
    | inl k =>
      have hk := wlk_le _ _ _ _ e
      have h40 := htw.2.1
      rw [show wlI (.inl k) = nI k from rfl, if_neg (nI_m1 (by omega))]
      exact ⟨S2, u1, v1, rfl, hE⟩
    | inr b =>
      obtain ⟨hW, hb⟩ := c5 b e
      rw [show wlI (.inr b) = -1 from rfl, if_pos rfl, htw2.1, fX5_find_18]
      have h22 := okR_22 hW.1
      have h22 : tw.length ≤ 22 := h22
      have hg := rp_ok hA hW.1
      have hv : ∀ p, p < tw.length → S2.2.1 33 p = nI (rp (tw.length, b) p) := fun p hp => by rw [htw2.2.2 p hp, rp_in hp, ← hb p hp]
      have h0 : ∀ p, tw.length ≤ p → rp (tw.length, b) p = 0 := fun p hp => if_neg (show ¬ p < tw.length by omega)
      have q1 : fX5_pack_33 P S2 0 (nI tw.length) = some (lN (nuF (rp (tw.length, b)) 11)) := by
        have := pX_pack33 (P := P) (S := S2) (o := 0) hg (by omega) (by omega) hv h0
        rw [show (fun p => rp (tw.length, b) (0 + p)) = rp (tw.length, b) by funext p; rw [Nat.zero_add]] at this
        exact this
      have q2 : fX5_pack_33 P S2 11 (nI tw.length) = some (lN (nuF (fun p => rp (tw.length, b) (11 + p)) 11)) := pX_pack33 (P := P) (S := S2) (o := 11) hg (by omega) (by omega) hv h0
      obtain ⟨k1, -⟩ := a3 h4
      have hkp2 : kpX S2 (keA A qs) := kpX_fr (ls := []) (frY_x c2) (by simp) (by simp) (by simp) k1
      have hro2 : rowsX S2 (allR A) := hE.2.1.2.1
      rw [q1, Option.bind_some, q2, Option.bind_some, rr_l_e, hro2.1]
      have hfd := uX_find (S := S2) (D := allR A) (g := rp (tw.length, b)) hg hro2 (by omega) (fun i hi p => rp_ok hA (allR_get hi).1 p) (fun i j hij hj => allR_ky hA hij hj) 13 0 (allR A).length 0 FU (show (allR A).length - 0 < 8192 by omega) (by omega) (Nat.zero_le _) (Nat.le_refl _) (by show _ ≤ 5000; omega) (fun i hi => absurd hi (Nat.not_lt_zero _)) (fun i h1 h2 => by omega)
      have hl := keA_len (A := A) (qs := qs)
      obtain ⟨a, ha, ec⟩ := hE.2.2.2.1.2.2.2.2.1
      have hpa : 2 ^ a ≤ 2 ^ 8 := Nat.pow_le_pow_right (by decide) ha
      have hkn : ∀ y, y < 2 ^ 20 → (∃ i, i < (keA A qs).length ∧ (keA A qs).getD i 0 + 1 = y ∧ fX0_keptNumber P S2 (nI y - 1) = some (nI i)) ∨ ((∀ i, i < (keA A qs).length → ¬ (keA A qs).getD i 0 + 1 = y) ∧ fX0_keptNumber P S2 (nI y - 1) = some (-1)) := by
        intro y hy
        have := uX_kn (S := S2) (K := keA A qs) hy hkp2 (by omega) (fun i hi => by have := keA_get hi; omega) (by omega) (fun i j hij hj => keA_up hij hj) 13 0 (keA A qs).length 0 FU (show (keA A qs).length - 0 < 8192 by omega) (by omega) (Nat.zero_le _) (Nat.le_refl _) (by show _ ≤ 5000; omega) (fun i hi => absurd hi (Nat.not_lt_zero _)) (fun i h1 h2 => by omega)
        rw [fX0_keptNumber, rr_l_e, hkp2.1]
        exact this
      have hsm : ∀ i, i < (keA A qs).length → (sameB (fun i => tw.getD i 0) tw.length (keR A qs i) = true ↔ kyR ((allR A).getD ((keA A qs).getD i 0) d0) = kyR (tw.length, b)) := fun i hi => same_ky hA (keR_ok hi) hW hb
      rcases hfd with ⟨i, hi, ei, er⟩ | ⟨hno, er⟩
      · have er : rr_loop FU (LX5_find_18_30 S2 (lN (nuF (rp (tw.length, b)) 11)) (lN (nuF (fun p => rp (tw.length, b) (11 + p)) 11))) (0, nI (allR A).length - 1, 0) = some (nI i) := er
        rw [er, Option.bind_some]
        rcases hkn (i + 1) (by omega) with ⟨k, hk, ek, erk⟩ | ⟨hnk, erk⟩
        · rw [nI_pred] at erk
          rw [erk, Option.bind_some]
          refine ⟨S2, u1, v1, ?_, hE⟩
          have hki : (keA A qs).getD k 0 = i := by omega
          rw [fstI_at (p := k) ((hsm k hk).mpr (by rw [hki]; exact ei)) _ 0 (Nat.zero_le _) (by omega) (fun q _ hq => ?_)]
          · cases hB : sameB (fun i => tw.getD i 0) tw.length (keR A qs q) with
            | false => rfl
            | true =>
              have h1 := (hsm q (by omega)).mp hB
              have h2 := keA_up hq hk
              rw [hki] at h2
              have h3 := allR_ky hA h2 hi
              have ei : kyR ((allR A).getD i d0) = kyR (tw.length, b) := ei
              omega
        · rw [nI_pred] at erk
          rw [erk, Option.bind_some]
          refine ⟨S2, u1, v1, ?_, hE⟩
          rw [fstI_no _ _ (fun q _ hq => ?_)]
          cases hB : sameB (fun i => tw.getD i 0) tw.length (keR A qs q) with
          | false => rfl
          | true =>
            have h1 := (hsm q (by omega)).mp hB
            have ei : kyR ((allR A).getD i d0) = kyR (tw.length, b) := ei
            have h2 := hnk q (by omega)
            have h3 := keA_get (show q < (keA A qs).length by omega)
            rcases Nat.lt_trichotomy ((keA A qs).getD q 0) i with z | z | z
            · have := allR_ky hA z hi; omega
            · omega
            · have := allR_ky hA z h3; omega
      · have er : rr_loop FU (LX5_find_18_30 S2 (lN (nuF (rp (tw.length, b)) 11)) (lN (nuF (fun p => rp (tw.length, b) (11 + p)) 11))) (0, nI (allR A).length - 1, 0) = some (-1) := er
        rw [er, Option.bind_some]
        have hn : ∀ q, 0 ≤ q → q < 0 + (keA A qs).length → sameB (fun i => tw.getD i 0) tw.length (keR A qs q) = false := fun q _ hq => by
          cases hB : sameB (fun i => tw.getD i 0) tw.length (keR A qs q) with
          | false => rfl
          | true => exact absurd ((hsm q (by omega)).mp hB) (hno _ (keA_get (by omega)))
        rcases hkn 0 (by omega) with ⟨k, hk, ek, erk⟩ | ⟨hnk, erk⟩
        · omega
        · have erk : fX0_keptNumber P S2 (-1) = some (-1) := erk
          rw [erk, Option.bind_some, fstI_no _ _ hn]
          exact ⟨S2, u1, v1, rfl, hE⟩
  · rw [if_neg h4, if_neg h4, if_pos rfl]
    exact ⟨S1, u1, v1, rfl, a2⟩
end XRANK

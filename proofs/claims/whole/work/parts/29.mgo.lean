/-! ===== L3: the reference's goThrough: it comes to the cursor that the spec has ===== -/
def tlM (M : rr_T) (s : Nat) : Int32 := if s < 2 then M.2.1 28 s else M.2.1 29 (s - 2)
/-- p choices are taken, all slots before s are told -/
def giM (A : Sh) (a : Nat → Nat) (M0 M : rr_T) (p s : Nat) : Prop := frM [37, 41, 42] [27, 28, 29] M0 M ∧ obM M (ob a p) ∧ (∀ s' t, typ A (ob a p) s' = some t → s' < s → tlM M s' = mv t (td A a p s')) ∧ sl A a p = wai A (ob a p) s
/-- M's cursor stands behind n choices -/
def cuM (A : Sh) (a : Nat → Nat) (M : rr_T) (n : Nat) : Prop := obM M (ob a n) ∧ (sl A a n = none → M.1 41 = -1) ∧ (∀ s t, sl A a n = some s → typ A (ob a n) s = some t → tyM M t) ∧ ∀ s t, typ A (ob a n) s = some t → (∀ w, sl A a n = some w → s < w) → tlM M s = mv t (td A a n s)
def gfM (A : Sh) (a : Nat → Nat) (M0 M : rr_T) (n : Nat) : Prop := frM [37, 41, 42] [27, 28, 29] M0 M ∧ cuM A a M n
theorem pM_tellOf {M : rr_T} {ks : List Nat} {t c : Nat} {x : Int32} (h1 : t < 4 → x = 0) (h2 : ¬ t < 4 → x = 1 ∧ c < 10) (ho : obM M ks) (hl : 10 ≤ c → ks.length < 5) (hc : c < 14) : ∃ M1, fM_tellOf M x (nI c) = some (mv t (if 10 ≤ c then ks.length + 1 else c), M1) ∧ frM [37] [27] M M1 ∧ obM M1 (ks ++ if 10 ≤ c then [c - 10] else []) := by
  rw [fM_tellOf]
  unfold mv
  by_cases h4 : t < 4
  · rw [h1 h4, if_neg (by decide), if_pos h4]
    by_cases h10 : 10 ≤ c
    · rw [if_neg (show ¬ nI c < 10 from nI_nlt (a := c) (b := 10) h10 (by omega)), if_pos h10, if_pos h10, ho.1, if_pos (inb_nI (hl h10) (by decide))]
      simp only [rr_l]
      refine ⟨pI (pA M 27 (nI ks.length) (nI c - 10)) 37 (nI (ks.length + 1)), ?_, ?_, ?_⟩
      · rw [pA_1, pI_s, ho.1, nI_succ]
      · exact frM_pI (frM_pA (frM_r _ _ _) (by simp)) (by simp)
      · refine ⟨by rw [pI_s, List.length_append]; rfl, fun j hj => ?_⟩
        rw [pI_2, pA_s, nI_clamp (by have := hl h10; omega)]
        rw [List.length_append] at hj
        simp only [List.length_singleton] at hj
        rcases Nat.lt_or_ge j ks.length with q | q
        · rw [upd_n (by omega), ho.2 j q, List.getD_eq_getElem?_getD, List.getD_eq_getElem?_getD, List.getElem?_append_left q]
        · rw [show j = ks.length by omega, upd_s, List.getD_eq_getElem?_getD, List.getElem?_append_right (Nat.le_refl _), Nat.sub_self]
          exact pk_sub h10
    · rw [if_pos (show nI c < 10 from nI_lt (b := 10) (by omega) (by decide)), if_neg h10, if_neg h10, List.append_nil]
      by_cases h0 : c = 0
      · subst h0
        rw [if_pos nI_0]
        exact ⟨M, rfl, frM_r _ _ _, ho⟩
      · rw [if_neg (nI_ne0 (by omega) (by omega))]
        exact ⟨M, rfl, frM_r _ _ _, ho⟩
  · obtain ⟨e1, e2⟩ := h2 h4
    rw [e1, if_pos rfl, if_neg h4, if_neg (show ¬ 10 ≤ c by omega), if_neg (show ¬ 10 ≤ c by omega), List.append_nil]
    exact ⟨M, rfl, frM_r _ _ _, ho⟩
theorem giM_take {A : Sh} {a : Nat → Nat} {M0 M M1 M2 : rr_T} {p s t : Nat} (hA : okA A) (hok : okR A a p) (g : giM A a M0 M p s) (hs : s < 22) (ht : typ A (ob a p) s = some t) (f1 : frM [37] [27] M M1) (o1 : obM M1 (ob a (p + 1))) (f2 : frM [] [28, 29] M1 M2) (hv : tlM M2 s = mv t (td A a (p + 1) s)) (hk : ∀ s', s' < s → tlM M2 s' = tlM M1 s') : giM A a M0 M2 (p + 1) (s + 1) := by
  obtain ⟨g1, g2, g3, g4⟩ := g
  rw [wai_hit hs ht] at g4
  obtain ⟨i1, i2⟩ := ob_ok hA p hok
  have hlt := typ_lt hA i2 ht
  have eo : ∀ s', s' < s + 1 → typ A (ob a (p + 1)) s' = typ A (ob a p) s' := fun s' h => typ_old (l := if 10 ≤ a p then [a p - 10] else []) (by omega)
  refine ⟨frM_t g1 (frM_t (frM_w f1 (by simp) (by simp)) (frM_w f2 (by simp) (by simp))), ⟨by rw [f2.1 37 (by simp)]; exact o1.1, fun j hj => by rw [f2.2 27 (by simp)]; exact o1.2 j hj⟩, fun s' t' h1 h2 => ?_, ?_⟩
  · rw [eo s' h2] at h1
    rcases Nat.lt_or_ge s' s with q | q
    · rw [hk s' q, td_keep (fun w hw => by rw [g4] at hw; cases hw; exact q), ← g3 s' t' h1 q]
      unfold tlM
      rw [f1.2 28 (by simp), f1.2 29 (by simp)]
    · have e : s' = s := by omega
      subst e
      rw [ht] at h1
      cases h1
      exact hv
  · show (match sl A a p with
      | none => none
      | some s => wai A (ob a (p + 1)) (s + 1)) = _
    rw [g4]
/-- at the end of a row -/
theorem gfM_end {A : Sh} {a : Nat → Nat} {M0 M : rr_T} {n s : Nat} (hs : ∀ s' t, typ A (ob a n) s' = some t → s' < s) (g : giM A a M0 M n s) (e : sl A a n = none) : gfM A a M0 (pI M 41 (-1)) n := by
  obtain ⟨g1, g2, g3, g4⟩ := g
  refine ⟨frM_pI g1 (by simp), ⟨by rw [pI_n (by decide)]; exact g2.1, g2.2⟩, fun _ => pI_s .., fun s t h => (by rw [e] at h; cases h), fun s' t h _ => g3 s' t h (hs s' t h)⟩
theorem gfM_wait {A : Sh} {a : Nat → Nat} {M0 M : rr_T} {n s t : Nat} {x y : Int32} (hs : s < 22) (g : giM A a M0 M n s) (ht : typ A (ob a n) s = some t) (h1 : t < 4 → x = 0 ∧ y = nI t) (h2 : ¬ t < 4 → x = 1 ∧ y = nI (t - 4)) : gfM A a M0 (pI (pI M 41 x) 42 y) n := by
  obtain ⟨g1, g2, g3, g4⟩ := g
  rw [wai_hit hs ht] at g4
  refine ⟨frM_pI (frM_pI g1 (by simp)) (by simp), ⟨by rw [pI_n (by decide), pI_n (by decide)]; exact g2.1, g2.2⟩, fun h => (by rw [g4] at h; cases h), fun s' t' h h' => ?_, fun s' t' h h' => g3 s' t' h (h' s g4)⟩
  rw [g4] at h
  cases h
  rw [ht] at h'
  cases h'
  exact ⟨fun q => by rw [pI_n (by decide), pI_s, pI_s]; exact h1 q, fun q => by rw [pI_n (by decide), pI_s, pI_s]; exact h2 q⟩
theorem typ_f {A : Sh} {ks : List Nat} {o f : Nat} (ho : o < ks.length) (hf : f < 4) : typ A ks (2 + 4 * o + f) = if f < shC A (ks.getD o 0) then some (shT A (ks.getD o 0) f) else none := by
  unfold typ
  rw [if_neg (by omega), show (2 + 4 * o + f - 2) / 4 = o by omega, show (2 + 4 * o + f - 2) % 4 = f by omega]
  by_cases h : f < shC A (ks.getD o 0)
  · rw [if_pos ⟨ho, h⟩, if_pos h]
  · rw [if_neg (fun q => h q.2), if_neg h]
theorem typ_i {A : Sh} {ks : List Nat} {i : Nat} (hi : i < 2) : typ A ks i = if i < shI A then some (shN A i) else none := by
  unfold typ
  rw [if_pos hi]
theorem giM_skip {A : Sh} {a : Nat → Nat} {M0 M : rr_T} {p s : Nat} (d : Nat) (h : ∀ j, s ≤ j → j < s + d → typ A (ob a p) j = none) (g : giM A a M0 M p s) : giM A a M0 M p (s + d) := by
  obtain ⟨g1, g2, g3, g4⟩ := g
  refine ⟨g1, g2, fun s' t h1 h2 => ?_, by rw [g4]; exact wai_skips d s h⟩
  rcases Nat.lt_or_ge s' s with q | q
  · exact g3 s' t h1 q
  · rw [h s' q h2] at h1; cases h1
section GOM
variable {A : Sh} {a : Nat → Nat} {M0 : rr_T} {n : Nat}
theorem uM_go85 (hA : okA A) (h0 : shM M0 A) (hok : okR A a n) (hat : ∀ p, p < n → M0.2.1 26 p = nI (a p)) {rec : Int32 × Int32 × rr_T → Option rr_T} {o : Nat} (ho5 : o < 5) {k : Nat} (x : Int32)
    (hr : ∀ p M, p ≤ n → o < (ob a p).length → giM A a M0 M p (2 + 4 * (o + 1)) → ∃ M', rec (nI p, nI (o + 1), M) = some M' ∧ gfM A a M0 M' n) : ∀ (m f p : Nat) (M w : rr_T), 5 ≤ f + m → f ≤ 4 → p ≤ n → o < (ob a p).length → k = (ob a p).getD o 0 → giM A a M0 M p (2 + 4 * o + f) → ∃ M', rr_loop m (LM_goThrough_85 (nI n) rec (x, nI o, w) (nI k)) (nI p, nI f, M) = some M' ∧ gfM A a M0 M' n := by
  intro m
  induction m with
  | zero => intro f p M w h1 h2; omega
  | succ m ih =>
    intro f p M w hm hf hp hol hk g
    have n22 := okR_22 hok
    obtain ⟨i1, i2⟩ := ob_ok hA p (okR_le hok hp)
    have hK := hA.1
    have hk4 : k < shK A := by rw [hk]; exact i2 _ (getD_mem hol)
    have hc4 := hA.2.2.2.2.1 k (by omega)
    have hS := shM_fr g.1 (by decide) (by decide) h0
    rw [loop_s, LM_goThrough_85, if_pos (inb_nI (by omega) (by decide))]
    dsimp only
    rw [nI_clamp (by omega), hS.2.2.2.1 k hk4]
    by_cases hcf : shC A k ≤ f
    · rw [if_pos ((nI_leI (by omega) (by omega)).mpr hcf), nI_1]
      refine hr p M hp hol ?_
      have := giM_skip (4 - f) (fun j h1 h2 => ?_) g
      · rw [show 2 + 4 * (o + 1) = 2 + 4 * o + f + (4 - f) by omega]; exact this
      · obtain ⟨q, rfl⟩ : ∃ q, j = 2 + 4 * o + q := ⟨j - (2 + 4 * o), by omega⟩
        rw [typ_f hol (by omega), ← hk, if_neg (by omega)]
    · rw [if_neg (fun q => hcf ((nI_leI (by omega) (by omega)).mp q))]
      have ht : typ A (ob a p) (2 + 4 * o + f) = some (shT A k f) := by rw [typ_f hol (by omega), ← hk, if_pos (by omega)]
      have h22 : 2 + 4 * o + f < 22 := by omega
      have e4 : (4 : Int32) * nI k + nI f = nI (4 * k + f) := by rw [show (4 : Int32) * nI k = nI (4 * k) from pk_mul 4 k, nI_add]
      have e5 : (4 : Int32) * nI o + nI f = nI (4 * o + f) := by rw [show (4 : Int32) * nI o = nI (4 * o) from pk_mul 4 o, nI_add]
      have hty := hS.2.2.2.2.1 k f hk4 (by omega)
      by_cases hpn : p = n
      · rw [if_pos (by rw [hpn]), JM_goThrough_102]
        dsimp only
        rw [e4, if_pos (inb_nI (by omega) (by decide))]
        simp only [rr_l]
        rw [if_pos (inb_nI (by omega) (by decide)), nI_clamp (by omega), pI_2]
        subst hpn
        refine ⟨_, rfl, gfM_wait h22 g ht (fun q => ?_) (fun q => ?_)⟩
        · rcases hty with ⟨-, q1, q2⟩ | ⟨q0, -, -⟩
          · exact ⟨q1, q2⟩
          · exact absurd q q0
        · rcases hty with ⟨q0, -, -⟩ | ⟨-, q1, q2⟩
          · exact absurd q0 q
          · exact ⟨q1, q2⟩
      · rw [if_neg (fun q => hpn ((nI_eq (by omega) (by omega)).mp q)), e4, if_pos (inb_nI (by omega) (by decide)), if_pos (inb_nI (by omega) (by decide)), nI_clamp (by omega), nI_clamp (by omega), g.1.2 26 (by simp), hat p (by omega)]
        obtain ⟨s, t, h1, h2, h3⟩ := hok p (by omega)
        rw [g.2.2.2, wai_hit h22 ht] at h1
        cases h1
        rw [ht] at h2
        cases h2
        have hin := typ_in hA i2 ht
        have hcin := alw_in hA i1 hin h3
        have h2' : ¬ shT A k f < 4 → a p < 10 := fun q => by
          unfold alw at h3
          rw [if_neg q] at h3
          have := of_decide_eq_true h3
          omega
        obtain ⟨M1, e1, f1, o1⟩ := pM_tellOf (M := M) (ks := ob a p) (t := shT A k f) (c := a p) (x := M.2.1 3 (4 * k + f)) (fun q => by rcases hty with ⟨-, q1, -⟩ | ⟨q0, -, -⟩; exact q1; exact absurd q q0) (fun q => by rcases hty with ⟨q0, -, -⟩ | ⟨-, q1, -⟩; exact absurd q0 q; exact ⟨q1, h2' q⟩) g.2.1 (fun q => by have := hA.2.2.2.1; omega) (by omega)
        rw [e1, Option.bind_some, e5, if_pos (inb_nI (by omega) (by decide))]
        simp only [rr_l]
        rw [nI_1, nI_1]
        have hsl : sl A a p = some (2 + 4 * o + f) := by rw [g.2.2.2, wai_hit h22 ht]
        have eo : ob a (p + 1) = ob a p ++ if 10 ≤ a p then [a p - 10] else [] := rfl
        refine ih (f + 1) (p + 1) _ w (by omega) (by omega) (by omega) (by rw [eo, List.length_append]; omega) ?_ ?_
        · rw [hk, eo, List.getD_eq_getElem?_getD, List.getD_eq_getElem?_getD, List.getElem?_append_left hol]
        · rw [show 2 + 4 * o + (f + 1) = 2 + 4 * o + f + 1 from rfl]
          refine giM_take hA (okR_le hok hp) g h22 ht f1 (by rw [eo]; exact o1) (frM_pA (frM_r _ _ _) (by simp)) ?_ (fun s' hs' => ?_)
          · unfold tlM
            rw [if_neg (by omega), pA_s, nI_clamp (by omega), show 2 + 4 * o + f - 2 = 4 * o + f by omega, upd_s, td_new hsl]
          · unfold tlM
            rw [pA_n (by decide), pA_s, nI_clamp (by omega)]
            by_cases q : s' < 2
            · rw [if_pos q, if_pos q]
            · rw [if_neg q, if_neg q, upd_n (by omega)]
theorem uM_go66 (hA : okA A) (h0 : shM M0 A) (hok : okR A a n) (hat : ∀ p, p < n → M0.2.1 26 p = nI (a p)) : ∀ (m o p : Nat) (M : rr_T), 6 ≤ o + m → p ≤ n → o ≤ (ob a p).length → giM A a M0 M p (2 + 4 * o) → ∃ M', rr_loop m (LM_goThrough_66 (nI n)) (nI p, nI o, M) = some M' ∧ gfM A a M0 M' n := by
  intro m
  induction m with
  | zero =>
    intro o p M h1 h2 h3
    have := (ob_ok hA p (okR_le hok h2)).1
    have := hA.2.2.2.1
    omega
  | succ m ih =>
    intro o p M hm hp ho g
    obtain ⟨i1, i2⟩ := ob_ok hA p (okR_le hok hp)
    have hB := hA.2.2.2.1
    rw [loop_s, LM_goThrough_66]
    dsimp only
    rw [g.2.1.1]
    by_cases hq : (ob a p).length ≤ o
    · rw [if_pos ((nI_leI (by omega) (by omega)).mpr hq), JM_goThrough_183]
      simp only [rr_l]
      have hno : ∀ s' t, typ A (ob a p) s' = some t → s' < 2 + 4 * o := fun s' t h => by have := typ_lt hA i2 h; omega
      have e : sl A a p = none := by
        rw [g.2.2.2]
        refine wai_none (fun j hj => ?_)
        cases q : typ A (ob a p) j with
        | none => rfl
        | some t => have := hno j t q; omega
      have epn : p = n := by
        rcases Nat.lt_or_ge p n with q | q
        · obtain ⟨s, t, h1, -, -⟩ := hok p q
          rw [e] at h1; cases h1
        · omega
      subst epn
      exact ⟨_, rfl, gfM_end hno g e⟩
    · rw [if_neg (fun q => hq ((nI_leI (by omega) (by omega)).mp q)), if_pos (inb_nI (by omega) (by decide)), nI_clamp (by omega), g.2.1.2 o (by omega)]
      simp only [rr_l]
      exact uM_go85 hA h0 hok hat (o := o) (by omega) (nI p) (fun p' M' h1 h2 h3 => ih (o + 1) p' M' (by omega) h1 (by omega) h3) FU 0 p M M (by show 5 ≤ 0 + 5000; omega) (by omega) hp (by omega) rfl g
theorem uM_go9 (hA : okA A) (h0 : shM M0 A) (hok : okR A a n) (hat : ∀ p, p < n → M0.2.1 26 p = nI (a p)) : ∀ (m i p : Nat) (M : rr_T), 3 ≤ i + m → i ≤ shI A → p ≤ n → giM A a M0 M p i → ∃ M', rr_loop m (LM_goThrough_9 (nI n)) (nI p, nI i, M) = some M' ∧ gfM A a M0 M' n := by
  intro m
  induction m with
  | zero => intro i p M h1 h2 h3; have := hA.2.1; omega
  | succ m ih =>
    intro i p M hm hi hp g
    have hI := hA.2.1
    have n22 := okR_22 hok
    obtain ⟨i1, i2⟩ := ob_ok hA p (okR_le hok hp)
    have hS := shM_fr g.1 (by decide) (by decide) h0
    rw [loop_s, LM_goThrough_9]
    dsimp only
    rw [hS.2.1]
    by_cases hq : shI A ≤ i
    · rw [if_pos ((nI_leI (by omega) (by omega)).mpr hq), JM_goThrough_64]
      dsimp only
      refine uM_go66 hA h0 hok hat FU 0 p M (by show 6 ≤ 0 + 5000; omega) hp (Nat.zero_le _) ?_
      have := giM_skip (2 - i) (fun j h1 h2 => ?_) g
      · rw [show 2 + 4 * 0 = i + (2 - i) by omega]; exact this
      · rw [typ_i (by omega), if_neg (by omega)]
    · rw [if_neg (fun q => hq ((nI_leI (by omega) (by omega)).mp q))]
      have ht : typ A (ob a p) i = some (shN A i) := by rw [typ_i (by omega), if_pos (by omega)]
      have hN := hA.2.2.2.2.2.2 i (by omega)
      have hK := hA.1
      by_cases hpn : p = n
      · rw [if_pos (by rw [hpn]), JM_goThrough_22]
        simp only [rr_l]
        rw [if_pos (inb_nI (by omega) (by decide)), nI_clamp (by omega), pI_2, hS.2.2.2.2.2.2 i (by omega)]
        subst hpn
        exact ⟨_, rfl, gfM_wait (by omega) g ht (fun _ => ⟨rfl, rfl⟩) (fun q => by omega)⟩
      · rw [if_neg (fun q => hpn ((nI_eq (by omega) (by omega)).mp q)), if_pos (inb_nI (by omega) (by decide)), nI_clamp (by omega), g.1.2 26 (by simp), hat p (by omega)]
        obtain ⟨s, t, h1, h2, h3⟩ := hok p (by omega)
        rw [g.2.2.2, wai_hit (by omega) ht] at h1
        cases h1
        rw [ht] at h2
        cases h2
        have hcin := alw_in hA i1 (typ_in hA i2 ht) h3
        obtain ⟨M1, e1, f1, o1⟩ := pM_tellOf (M := M) (ks := ob a p) (t := shN A i) (c := a p) (x := 0) (fun _ => rfl) (fun q => by omega) g.2.1 (fun q => by have := hA.2.2.2.1; omega) (by omega)
        rw [e1, Option.bind_some, if_pos (inb_nI (by omega) (by decide))]
        simp only [rr_l]
        rw [nI_1, nI_1]
        have hsl : sl A a p = some i := by rw [g.2.2.2, wai_hit (by omega) ht]
        have eo : ob a (p + 1) = ob a p ++ if 10 ≤ a p then [a p - 10] else [] := rfl
        refine ih (i + 1) (p + 1) _ (by omega) (by omega) (by omega) ?_
        refine giM_take hA (okR_le hok hp) g (by omega) ht f1 (by rw [eo]; exact o1) (frM_pA (frM_r _ _ _) (by simp)) ?_ (fun s' hs' => ?_)
        · unfold tlM
          rw [if_pos (by omega), pA_s, nI_clamp (by omega), upd_s, td_new hsl]
        · unfold tlM
          rw [pA_s, pA_n (by decide), nI_clamp (by omega), if_pos (show s' < 2 by omega), if_pos (show s' < 2 by omega), upd_n (by omega)]
theorem pM_go (hA : okA A) (h0 : shM M0 A) (hok : okR A a n) (hat : ∀ p, p < n → M0.2.1 26 p = nI (a p)) : ∃ M', fM_goThrough M0 (nI n) = some M' ∧ gfM A a M0 M' n := by
  rw [fM_goThrough]
  simp only [rr_l]
  refine uM_go9 hA h0 hok hat FU 0 0 _ (by show 3 ≤ 0 + 5000; omega) (Nat.zero_le _) (Nat.zero_le _) ⟨frM_pI (frM_r _ _ _) (by simp), ⟨by rw [pI_s]; rfl, fun j hj => absurd hj (Nat.not_lt_zero _)⟩, fun s' t _ h => absurd h (Nat.not_lt_zero _), rfl⟩
end GOM

/-! ===== L3: the class: load, list ===== -/
/-- a row's choices, 0 behind its end -/
def rp (r : Rw) (p : Nat) : Nat := if p < r.1 then r.2 p else 0
theorem rp_ok {A : Sh} {r : Rw} (hA : okA A) (h : okR A r.2 r.1) (p : Nat) : okC (rp r p) := by
  unfold rp okC
  by_cases e : p < r.1
  · rw [if_pos e]
    have := okR_c hA h e
    have := hA.1
    omega
  · rw [if_neg e]; omega
theorem cuX_eq {A : Sh} {S : rr_T} {n : Nat} {a b : Nat → Nat} (e : ∀ p, p < n → a p = b p) (h : cuX A S (n, a)) : cuX A S (n, b) := by
  obtain ⟨c1, c2, c3, c4, c5, c6, c7, c8⟩ := h
  have eo : ∀ p, p ≤ n → ob b p = ob a p := fun p hp => (ob_eq p (fun q hq => e q (by omega))).symm
  have es : ∀ p, p ≤ n → sl A b p = sl A a p := fun p hp => (sl_eq (A := A) p (fun q hq => e q (by omega))).symm
  have et : td A b n = td A a n := (td_eq (A := A) n e).symm
  unfold cuX
  dsimp only
  rw [eo n (Nat.le_refl _), es n (Nat.le_refl _), et]
  refine ⟨c1, c2, c3, c4, c5, c6, fun p hp => by rw [← e p hp]; exact c7 p hp, fun p s t hp => ?_⟩
  rw [eo p (by omega), es p (by omega)]
  exact c8 p s t hp
/-- X has told the rows D -/
def rowsX (S : rr_T) (D : List Rw) : Prop := S.1 289 = nI D.length ∧ (∀ i, i < D.length → wd S 19 i (rp (D.getD i d0))) ∧ 2 * D.length ≤ S.2.2.2 19 ∧ 2 ≤ S.2.2.2 19 ∧ S.2.2.2 19 < 20000
theorem rowsX_fr {is as ls : List Nat} {S S' : rr_T} {D : List Rw} (f : frY is as ls S S') (h1 : 289 ∉ is) (h2 : 19 ∉ ls) (h : rowsX S D) : rowsX S' D := by
  unfold rowsX wd
  rw [f.1.1 289 h1, (f.2 19 h2).1, (f.2 19 h2).2]
  exact h
section XLIST
variable {A : Sh} {P : rr_T}
/-- a row that begins as a whole row is no longer -/
theorem row_le {n : Nat} {a : Nat → Nat} {r : Rw} (hok : okR A a n) (hr : okW A r) (e : ∀ p, p < r.1 → p < n → a p = r.2 p) : n ≤ r.1 := by
  rcases Nat.lt_or_ge r.1 n with h | h
  · obtain ⟨s, t, es, -⟩ := hok r.1 h
    have : sl A a r.1 = sl A r.2 r.1 := sl_eq r.1 (fun q hq => e q hq (by omega))
    rw [this, hr.2] at es
    cases es
  · exact h
theorem uX_alike {S : rr_T} {n i : Nat} {a : Nat → Nat} {D : List Rw} (hA : okA A) (hok : okR A a n) (hc : cuX A S (n, a)) (hD : rowsX S D) (hD4 : D.length ≤ 4001) (hi : i < D.length) (hg : ∀ p, okC (rp (D.getD i d0) p)) : ∀ (m p f : Nat), p + m = n → m + 1 ≤ f → (∀ q, q < p → a q = rp (D.getD i d0) q) → ∃ k, k ≤ n ∧ rr_loop f (LX2_countAlike_2 P S (nI i)) (nI p) = some (nI k) ∧ ∀ q, q < k → a q = rp (D.getD i d0) q := by
  have h22 := okR_22 hok
  have c1 : S.1 167 = nI n := hc.1
  have c7 : ∀ p, p < n → S.2.1 13 p = nI (a p) := hc.2.2.2.2.2.2.1
  intro m
  induction m with
  | zero =>
    intro p f hp hf hs
    obtain ⟨f, rfl⟩ : ∃ g, f = g + 1 := ⟨f - 1, by omega⟩
    refine ⟨n, Nat.le_refl _, ?_, fun q hq => hs q (by omega)⟩
    rw [loop_s, LX2_countAlike_2, c1, if_pos (nI_le (by omega) (by omega))]
  | succ m ih =>
    intro p f hp hf hs
    obtain ⟨f, rfl⟩ : ∃ g, f = g + 1 := ⟨f - 1, by omega⟩
    have hap := okR_c hA hok (show p < n by omega)
    have hK := hA.1
    have hgp := hg p
    unfold okC at hgp
    rw [loop_s, LX2_countAlike_2, c1, if_neg (nI_ge (by omega) (by omega)), if_pos (inb_nI (by omega) (by decide)), pX_choiceAt18 hg hD.1 hi hD4 (by omega) rfl hD.2.2.1 (by have := hD.2.2.2.2; omega) (hD.2.1 i hi), Option.bind_some, nI_clamp (by omega), c7 p (by omega)]
    by_cases e : a p = rp (D.getD i d0) p
    · rw [if_pos (by rw [e]), nI_1]
      exact ih (p + 1) f (by omega) (by omega) (fun q hq => by
        by_cases eq : q = p
        · rw [eq]; exact e
        · exact hs q (by omega))
    · rw [if_neg (fun w => e ((nI_eq (by omega) (by omega)).mp w))]
      exact ⟨p, by omega, rfl, hs⟩
theorem uX_load15 {i : Nat} {D : List Rw} {r : Rw} (hA : okA A) (hr : okW A r) (hD4 : D.length ≤ 4001) (hi : i < D.length) (er : D.getD i d0 = r) : ∀ (m p f : Nat) (S : rr_T), p + m = r.1 → m + 1 ≤ f → shX S A → rowsX S D → cuX A S (p, r.2) → ∃ S', rr_loop f (LX2_load_15 P (nI i)) (nI p, S) = some S' ∧ frX hR hQ S S' ∧ cuX A S' r := by
  have h22 := okR_22 hr.1
  have hg := rp_ok hA hr.1
  intro m
  induction m with
  | zero =>
    intro p f S hp hf hS hD hc
    obtain ⟨f, rfl⟩ : ∃ g, f = g + 1 := ⟨f - 1, by omega⟩
    obtain rfl : p = r.1 := by omega
    refine ⟨S, ?_, frX_r _ _ _, hc⟩
    rw [loop_s, LX2_load_15]
    dsimp only
    rw [(hc.2.2.1 hr.2).1, if_pos rfl]
    split <;> rfl
  | succ m ih =>
    intro p f S hp hf hS hD hc
    obtain ⟨f, rfl⟩ : ∃ g, f = g + 1 := ⟨f - 1, by omega⟩
    obtain ⟨s, t, es, et, ha⟩ := hr.1 p (by omega)
    obtain ⟨q1, q2, -⟩ := sl_some p s es
    obtain ⟨S1, a1, a2, a3⟩ := pX_take (P := P) hA hS (okR_le hr.1 (by omega)) hc es et ha
    have hD1 := rowsX_fr (ls := []) (frY_x a2) (by simp) (by simp) hD
    obtain ⟨S2, b1, b2, b3⟩ := ih (p + 1) f S1 (by omega) (by omega) (shX_fr a2 (by simp) (by simp) hS) hD1 (cuX_eq (fun q hq => by
      by_cases e : q = p
      · rw [e, upn_s]
      · rw [upn_n e]) a3)
    refine ⟨S2, ?_, frX_t a2 b2, b3⟩
    have hgw : ∀ p, okC (rp (D.getD i d0) p) := by rw [er]; exact hg
    rw [loop_s, LX2_load_15]
    dsimp only
    rw [if_neg (show ¬ (22 : Int32) ≤ nI p from nI_ge (b := 22) (by omega) (by decide)), (hc.2.2.2.1 s t es et).1, if_neg (nI_m1 (by omega)), pX_choiceAt18 hgw hD.1 hi hD4 (by omega) rfl hD.2.2.1 (by have := hD.2.2.2.2; omega) (hD.2.1 i hi), Option.bind_some, er, show rp r p = r.2 p from if_pos (by omega), a1, Option.bind_some, nI_1]
    exact b1
theorem pX_load {S : rr_T} {n i : Nat} {a : Nat → Nat} {D : List Rw} {r : Rw} (hA : okA A) (hS : shX S A) (hok : okR A a n) (hc : cuX A S (n, a)) (hD : rowsX S D) (hD4 : D.length ≤ 4001) (hi : i < D.length) (er : D.getD i d0 = r) (hr : okW A r) : ∃ S', fX2_load P S (nI i) = some S' ∧ frX hR hQ S S' ∧ cuX A S' r := by
  have h22 := okR_22 hok
  have hg : ∀ p, okC (rp (D.getD i d0) p) := by rw [er]; exact rp_ok hA hr.1
  obtain ⟨k, k1, k2, k3⟩ := uX_alike (P := P) hA hok hc hD hD4 hi hg n 0 FU (Nat.zero_add _) (by show _ ≤ 5000; omega) (fun q hq => absurd hq (Nat.not_lt_zero _))
  rw [er] at k3
  have k2' : fX2_countAlike P S (nI i) = some (nI k) := k2
  have hkr : k ≤ r.1 := row_le (okR_le hok k1) hr (fun p hp hpk => by rw [k3 p hpk]; exact if_pos hp)
  have hb : ∃ S1, fX2_backTo P S (nI k) = some S1 ∧ frX hR hQ S S1 ∧ cuX A S1 (k, a) := by
    by_cases e : k = n
    · subst e
      exact ⟨S, pX_backN hok hc, frX_r _ _ _, hc⟩
    · obtain ⟨S1, b1, b2, b3, -⟩ := pX_backTo (P := P) hA hok hc (show k < n by omega)
      exact ⟨S1, b1, b2, b3⟩
  obtain ⟨S1, b1, b2, b3⟩ := hb
  obtain ⟨S2, c1, c2, c3⟩ := uX_load15 (P := P) hA hr hD4 hi er (r.1 - k) k FU S1 (by omega) (by have := okR_22 hr.1; show _ ≤ 5000; omega) (shX_fr b2 (by simp) (by simp) hS) (rowsX_fr (ls := []) (frY_x b2) (by simp) (by simp) hD) (cuX_eq (fun q hq => by rw [k3 q hq]; exact if_pos (by omega)) b3)
  exact ⟨S2, by rw [fX2_load, k2', Option.bind_some, b1, Option.bind_some]; exact c1, frX_t b2 c2, c3⟩
/-- how much the rows can still be made anew -/
def phU (S : rr_T) : Nat := S.2.2.2 19 + S.2.2.2 27 + S.2.2.2 20 + S.2.2.2 28
def phV (S : rr_T) : Nat := 2 * S.2.2.2 19 + 2 * S.2.2.2 27 + 2 * S.2.2.2 20 + 10 * S.2.2.2 28
def pt (S : rr_T) (u v : Nat) (S' : rr_T) (u' v' : Nat) : Prop := u' + phU S ≤ u + phU S' ∧ v' + phV S ≤ v + phV S'
theorem pt_r (S : rr_T) (u v : Nat) : pt S u v S u v := ⟨Nat.le_refl _, Nat.le_refl _⟩
theorem pt_t {S S' S'' : rr_T} {u v u' v' u'' v'' : Nat} (h : pt S u v S' u' v') (g : pt S' u' v' S'' u'' v'') : pt S u v S'' u'' v'' := by
  obtain ⟨h1, h2⟩ := h
  obtain ⟨g1, g2⟩ := g
  exact ⟨by omega, by omega⟩
theorem pt_x {is as : List Nat} {S S' : rr_T} {u v : Nat} (h : frX is as S S') : pt S u v S' u v := by
  unfold pt phU phV
  rw [h.2]
  exact ⟨Nat.le_refl _, Nat.le_refl _⟩
theorem pX_list25 (hA : okA A) : ∀ (m : Nat) (D : List Rw) (s : Rw) (S : rr_T) (f u v : Nat), D.length + m = 4001 → m + 2 ≤ f → okR A s.2 s.1 → shX S A → cuX A S s → rowsX S D → ∃ S' u' v' s', rr_loop f (LX0_list_25 P) (1, nI D.length, S, u, v) = JX0_list_78 P (S', u', v') ∧ frY (289 :: hR) hQ [19] S S' ∧ okR A s'.2 s'.1 ∧ cuX A S' s' ∧ rowsX S' (D ++ rwF A m (fil A 22 s.1 s.2)) ∧ pt S u v S' u' v' := by
  intro m
  induction m with
  | zero =>
    intro D s S f u v hD hf hok hS hc hrw
    obtain ⟨f, rfl⟩ : ∃ g, f = g + 1 := ⟨f - 1, by omega⟩
    refine ⟨S, u, v, s, ?_, frY_r _ _ _ _, hok, hc, by show rowsX S (D ++ []); rw [List.append_nil]; exact hrw, pt_r _ _ _⟩
    rw [loop_s, LX0_list_25]
    dsimp only
    rw [if_pos (show (4000 : Int32) < nI D.length from nI_lt (a := 4000) (by omega) (by omega))]
  | succ m ih =>
    intro D s S f u v hD hf hok hS hc hrw
    obtain ⟨f, rfl⟩ : ∃ g, f = g + 1 := ⟨f - 1, by omega⟩
    obtain ⟨S1, a1, a2, a3⟩ := pX_fill (P := P) hA hok hS hc
    have hw : okW A (fil A 22 s.1 s.2) := (fil_ok 22 s.1 s.2 hok (by omega)).1
    generalize fil A 22 s.1 s.2 = r at a3 hw ⊢
    have hS1 := shX_fr a2 (by simp) (by simp) hS
    have hrw1 := rowsX_fr (ls := []) (frY_x a2) (by simp) (by simp) hrw
    have h22 := okR_22 hw.1
    obtain ⟨S2, c', u', v', b1, b2, b3, b4, b5, b6, b7, b8⟩ := pX_add18 (P := P) (u := u) (v := v) (g := rp r) (rp_ok hA hw.1) h22 (fun p hp => by rw [a3.2.2.2.2.2.2.1 p hp]; unfold rp; rw [if_pos hp]) (fun p hp => if_neg (by omega)) hrw1.1 (by omega) rfl hrw1.2.2.1 hrw1.2.2.2.1 hrw1.2.2.2.2
    have hp12 : pt S1 u v S2 u' v' := by
      unfold pt phU phV
      rw [(b2.2 27 (by simp)).2, (b2.2 20 (by simp)).2, (b2.2 28 (by simp)).2, b4]
      rcases b6 with ⟨w1, w2, w3⟩ | ⟨w1, w2, w3, w4⟩
      · rw [w1, w2, w3]; exact ⟨Nat.le_refl _, Nat.le_refl _⟩
      · have := hrw1.2.2.2.1
        rw [w1, w3, w4]; exact ⟨by omega, by omega⟩
    have hrw2 : rowsX S2 (D ++ [r]) := by
      refine ⟨by rw [b3, List.length_append]; rfl, fun i hi => ?_, by rw [List.length_append, List.length_singleton, b4]; omega, by rw [b4]; omega, ?_⟩
      · rw [List.length_append, List.length_singleton] at hi
        by_cases e : i = D.length
        · subst e; rw [gD_e]; exact b7
        · rw [gD_l (by omega)]
          have := hrw1.2.1 i (by omega)
          exact ⟨by rw [b8 _ (by omega)]; exact this.1, by rw [b8 _ (by omega)]; exact this.2⟩
      · rw [b4]
        have := hrw1.2.2.2.2
        rcases b6 with ⟨w1, -⟩ | ⟨w1, w2, -⟩
        · omega
        · omega
    have x2 : cuX A S2 r := by
      obtain ⟨d1, d2, d3, d4, d5, d6, d7, d8⟩ := a3
      have g1 : ∀ k, k ≠ 289 → S2.1 k = S1.1 k := fun k hk => b2.1.1 k (by simp; exact hk)
      have g2 : ∀ n, S2.2.1 n = S1.2.1 n := fun n => b2.1.2 n (by simp)
      unfold cuX
      rw [g1 167 (by decide), g1 168 (by decide), g1 169 (by decide), g1 170 (by decide), g2, g2, g2, g2, g2, g2]
      exact ⟨d1, d2, d3, d4, d5, d6, d7, d8⟩
    have hS2 : shX S2 A := by
      unfold shX
      rw [b2.1.1 20 (by simp), b2.1.1 21 (by simp), b2.1.1 22 (by simp), b2.1.2 2 (by simp), b2.1.2 3 (by simp), b2.1.2 4 (by simp), b2.1.2 5 (by simp)]
      exact hS1
    obtain ⟨n1, n2⟩ := pX_raise (P := P) hA hw.1 hS2 x2
    have f02 : frY (289 :: hR) hQ [19] S S2 := frY_t (frY_x (frX_w a2 (by simp) (by simp))) (frY_w b2 (by simp) (by simp) (by simp))
    have e0 : rr_loop (f + 1) (LX0_list_25 P) (1, nI D.length, S, u, v) = (fX2_raise P S2).bind (fun q10 => rr_loop f (LX0_list_25 P) (q10.1, nI (D.length + 1), q10.2, u', v')) := by
      rw [loop_s, LX0_list_25]
      dsimp only
      rw [if_neg (show ¬ (4000 : Int32) < nI D.length from nI_nlt (a := 4000) (by omega) (by decide)), if_neg (show ¬ (1 : Int32) = 0 by decide), a1, Option.bind_some, a3.1, b1, Option.bind_some, nI_1]
    rw [e0]
    have hl1 : (D ++ [r]).length = D.length + 1 := by rw [List.length_append]; rfl
    cases er : ras A r.2 r.1 with
    | none =>
      obtain ⟨S3, c1, c2, c3⟩ := n1 er
      have en : nxt A r = none := by unfold nxt; rw [er]
      have eL : rwF A (m + 1) r = [r] := by
        conv => lhs; unfold rwF
        rw [en]
      obtain ⟨f, rfl⟩ : ∃ g, f = g + 1 := ⟨f - 1, by omega⟩
      refine ⟨S3, u', v', (0, r.2), ?_, frY_t f02 (frY_x (frX_w c2 (by simp) (by simp))), fun p hp => absurd hp (Nat.not_lt_zero _), c3, by rw [eL]; exact rowsX_fr (ls := []) (frY_x c2) (by simp) (by simp) hrw2, pt_t (pt_x a2) (pt_t hp12 (pt_x c2))⟩
      rw [c1, Option.bind_some, loop_s, LX0_list_25]
      dsimp only
      rw [if_pos rfl]
      split <;> rfl
    | some s' =>
      obtain ⟨S3, c1, c2, c3⟩ := n2 s' er
      have en : nxt A r = some (fil A 22 s'.1 s'.2) := by unfold nxt; rw [er]
      have eL : D ++ rwF A (m + 1) r = (D ++ [r]) ++ rwF A m (fil A 22 s'.1 s'.2) := by
        conv => lhs; unfold rwF
        rw [en]
        simp
      rw [eL]
      have hok' := (ras_ok hw.1 r.1 (Nat.le_refl _) s' er).1
      obtain ⟨S4, u4, v4, s4, d1, d2, d3, d4, d5, d6⟩ := ih (D ++ [r]) s' S3 f u' v' (by omega) (by omega) hok' (shX_fr c2 (by simp) (by simp) hS2) c3 (rowsX_fr (ls := []) (frY_x c2) (by simp) (by simp) hrw2)
      refine ⟨S4, u4, v4, s4, ?_, frY_t f02 (frY_t (frY_x (frX_w c2 (by simp) (by simp))) d2), d3, d4, d5, pt_t (pt_x a2) (pt_t hp12 (pt_t (pt_x c2) d6))⟩
      rw [c1, Option.bind_some, ← hl1]
      exact d1
end XLIST

/-! ===== L3: the class: makeRoom, gather ===== -/
theorem shX_fY {is as ls : List Nat} {S S' : rr_T} {A : Sh} (f : frY is as ls S S') (h1 : ∀ n ∈ [20, 21, 22], n ∉ is) (h2 : ∀ n ∈ [2, 3, 4, 5], n ∉ as) (h : shX S A) : shX S' A := by
  unfold shX
  rw [f.1.1 20 (h1 20 (by simp)), f.1.1 21 (h1 21 (by simp)), f.1.1 22 (h1 22 (by simp)), f.1.2 2 (h2 2 (by simp)), f.1.2 3 (h2 3 (by simp)), f.1.2 4 (h2 4 (by simp)), f.1.2 5 (h2 5 (by simp))]
  exact h
theorem cuX_fY {is as ls : List Nat} {A : Sh} {S S' : rr_T} {r : Rw} (f : frY is as ls S S') (h1 : ∀ n ∈ hR, n ∉ is) (h2 : ∀ n ∈ hQ, n ∉ as) (h : cuX A S r) : cuX A S' r := by
  unfold cuX
  rw [f.1.1 167 (h1 167 (by simp)), f.1.1 168 (h1 168 (by simp)), f.1.1 169 (h1 169 (by simp)), f.1.1 170 (h1 170 (by simp)), f.1.2 11 (h2 11 (by simp)), f.1.2 12 (h2 12 (by simp)), f.1.2 13 (h2 13 (by simp)), f.1.2 14 (h2 14 (by simp)), f.1.2 15 (h2 15 (by simp)), f.1.2 16 (h2 16 (by simp))]
  exact h
theorem liX_fY {is as ls : List Nat} {A : Sh} {S S' : rr_T} (f : frY is as ls S S') (h0 : ∀ n ∈ [275, 289], n ∉ is) (h1 : ∀ n ∈ hR, n ∉ is) (h2 : ∀ n ∈ hQ, n ∉ as) (h3 : 19 ∉ ls) (h : liX A S) : liX A S' := by
  obtain ⟨g1, g2, r, g3, g4⟩ := h
  exact liX_of f h0 h3 ⟨g1, g2, r, g3, g4⟩ g3 (cuX_fY f h1 h2 g4)
theorem sfX_fY {is as ls : List Nat} {A : Sh} {qs : List Ru} {S S' : rr_T} (f : frY is as ls S S') (h1 : ∀ n ∈ [277, 278], n ∉ is) (h2 : 20 ∉ as) (h3 : 20 ∉ ls) (h : sfX A qs S) : sfX A qs S' := by
  intro h4
  obtain ⟨j, j1, j2, j3⟩ := h h4
  exact ⟨j, j1, by rw [f.1.1 278 (h1 278 (by simp))]; exact j2, kpX_fr f (h1 277 (by simp)) h2 h3 j3⟩
section XGATHER
variable {A : Sh} {qs : List Ru} {ps : List Sp} {Z : rr_T}
abbrev r5 : List Nat := [28, 29, 30, 31, 32]
theorem pX_room {S : rr_T} {n u v : Nat} (hn : n ≤ 4000) (hc : capX S) : ∃ S' u' v' c, fX1_makeRoom Z S (nI n) u v = some (S', u', v') ∧ frY [] r5 r5 S S' ∧ c5 S' c ∧ n ≤ c ∧ capX S' ∧ pt S u v S' u' v' := by
  obtain ⟨g1, g2, g3, g4, g5, j, j0, j1, j2, j3, j4, j5⟩ := id hc
  have hpj : 2 ^ j ≤ 2 ^ 8 := Nat.pow_le_pow_right (by decide) j0
  have hpj1 : 0 < 2 ^ j := Nat.pow_pos (by decide)
  rw [fX1_makeRoom, j1]
  by_cases hle : n ≤ 16 * 2 ^ j
  · rw [if_pos (nI_le hle (by omega))]
    exact ⟨S, u, v, 16 * 2 ^ j, rfl, frY_r _ _ _ _, ⟨j1, j2, j3, j4, j5, by omega⟩, hle, hc, pt_r _ _ _⟩
  · obtain ⟨k, k1, k2, k3, k4⟩ := pX_sizeFor (n := n) (by omega)
    have hpk : 2 ^ k ≤ 2 ^ 8 := Nat.pow_le_pow_right (by decide) k1
    have htw := size_two (show 16 * 2 ^ j < n by omega) k3
    have hb : inb (nI (16 * 2 ^ k)) 100000 = true := inb_nI (by omega) (by decide)
    rw [if_neg (nI_ge (by omega) (by omega)), k2, Option.bind_some, nI_clamp (by omega)]
    simp only [rr_l, if_pos hb]
    have f1 : frY [] r5 r5 S (xNw (xNw (xNw (xNw (xNw S 28 (16 * 2 ^ k)) 29 (16 * 2 ^ k)) 30 (16 * 2 ^ k)) 31 (16 * 2 ^ k)) 32 (16 * 2 ^ k)) := frY_nw (frY_nw (frY_nw (frY_nw (frY_nw (frY_r _ _ _ _) (by simp) (by simp)) (by simp) (by simp)) (by simp) (by simp)) (by simp) (by simp)) (by simp) (by simp)
    have l32 := xNw_s (xNw (xNw (xNw (xNw S 28 (16 * 2 ^ k)) 29 (16 * 2 ^ k)) 30 (16 * 2 ^ k)) 31 (16 * 2 ^ k)) 32 (16 * 2 ^ k)
    have l31 : (xNw (xNw (xNw (xNw (xNw S 28 (16 * 2 ^ k)) 29 (16 * 2 ^ k)) 30 (16 * 2 ^ k)) 31 (16 * 2 ^ k)) 32 (16 * 2 ^ k)).2.2.2 31 = 16 * 2 ^ k := by rw [(xNw_n (by decide)).1, xNw_s]
    have l30 : (xNw (xNw (xNw (xNw (xNw S 28 (16 * 2 ^ k)) 29 (16 * 2 ^ k)) 30 (16 * 2 ^ k)) 31 (16 * 2 ^ k)) 32 (16 * 2 ^ k)).2.2.2 30 = 16 * 2 ^ k := by rw [(xNw_n (by decide)).1, (xNw_n (by decide)).1, xNw_s]
    have l29 : (xNw (xNw (xNw (xNw (xNw S 28 (16 * 2 ^ k)) 29 (16 * 2 ^ k)) 30 (16 * 2 ^ k)) 31 (16 * 2 ^ k)) 32 (16 * 2 ^ k)).2.2.2 29 = 16 * 2 ^ k := by rw [(xNw_n (by decide)).1, (xNw_n (by decide)).1, (xNw_n (by decide)).1, xNw_s]
    have l28 : (xNw (xNw (xNw (xNw (xNw S 28 (16 * 2 ^ k)) 29 (16 * 2 ^ k)) 30 (16 * 2 ^ k)) 31 (16 * 2 ^ k)) 32 (16 * 2 ^ k)).2.2.2 28 = 16 * 2 ^ k := by rw [(xNw_n (by decide)).1, (xNw_n (by decide)).1, (xNw_n (by decide)).1, (xNw_n (by decide)).1, xNw_s]
    generalize xNw (xNw (xNw (xNw (xNw S 28 (16 * 2 ^ k)) 29 (16 * 2 ^ k)) 30 (16 * 2 ^ k)) 31 (16 * 2 ^ k)) 32 (16 * 2 ^ k) = S' at f1 l28 l29 l30 l31 l32 ⊢
    refine ⟨S', _, _, 16 * 2 ^ k, rfl, f1, ⟨l28, l29, l30, l31, l32, by omega⟩, k3, ?_, ?_⟩
    · unfold capX
      rw [(f1.2 19 (by simp)).2, (f1.2 27 (by simp)).2, (f1.2 20 (by simp)).2]
      exact ⟨g1, g2, g3, g4, g5, k, k1, l28, l29, l30, l31, l32⟩
    · unfold pt phU phV
      rw [(f1.2 19 (by simp)).2, (f1.2 27 (by simp)).2, (f1.2 20 (by simp)).2, l28, j1]
      exact ⟨by omega, by omega⟩
theorem kG_l {G : List (List Nat)} {l : List Nat} {i : Nat} (h : i < G.length) : kG (G ++ [l]) i = kG G i := by unfold kG; rw [gD_l h]
theorem kG_e {G : List (List Nat)} {l : List Nat} : kG (G ++ [l]) G.length = keyL l := by unfold kG; rw [gD_e]
/-- the looks of the first r rows are told -/
def gI (A : Sh) (ps : List Sp) (r : Nat) (G : List (List Nat)) (lo : Nat → Nat) (S : rr_T) : Prop := lkX S G ∧ G.length ≤ r ∧ (0 < r → 0 < G.length) ∧ (∀ i, i < r → S.2.1 30 i = nI (lo i) ∧ lo i < G.length ∧ kG G (lo i) = kyA A ps i) ∧ ∀ l, l < G.length → ∃ i, i < r ∧ lo i = l
abbrev eR : List Nat := [167, 168, 169, 170, 340, 341, 342, 343, 344, 345, 417]
abbrev eQ : List Nat := [11, 12, 13, 14, 15, 16, 22, 23, 24, 30]
theorem uX_g42 {c : Nat} (hA : okA A) (hG : okG ps) (h4 : (allR A).length ≤ 4000) (hNc : (allR A).length ≤ c) : ∀ (m r f : Nat) (G : List (List Nat)) (lo : Nat → Nat) (S : rr_T) (u v : Nat), r + m = (allR A).length → m + 1 ≤ f → shX S A → liX A S → tpX Z S ps → capX S → c5 S c → gI A ps r G lo S → ∃ (S' : rr_T) (G' : List (List Nat)) (lo' : Nat → Nat) (u' v' : Nat), rr_loop f (LX1_gather_42 Z) (nI r, S, u, v) = JX1_gather_172 Z (S', u', v') ∧ frY eR eQ [27] S S' ∧ liX A S' ∧ capX S' ∧ c5 S' c ∧ gI A ps (allR A).length G' lo' S' ∧ pt S u v S' u' v' := by
  intro m
  induction m with
  | zero =>
    intro r f G lo S u v hr hf hS hli ht hcp hc hI
    obtain ⟨f, rfl⟩ : ∃ g, f = g + 1 := ⟨f - 1, by omega⟩
    obtain rfl : r = (allR A).length := by omega
    refine ⟨S, G, lo, u, v, ?_, frY_r _ _ _ _, hli, hcp, hc, hI, pt_r _ _ _⟩
    rw [loop_s, LX1_gather_42]
    dsimp only
    rw [hli.2.1.1, if_pos (nI_le (Nat.le_refl _) (by omega))]
  | succ m ih =>
    intro r f G lo S u v hr hf hS hli ht hcp hc hI
    obtain ⟨f, rfl⟩ : ∃ g, f = g + 1 := ⟨f - 1, by omega⟩
    have hrN : r < (allR A).length := by omega
    obtain ⟨k1, k2, k3, k4, k5, k6⟩ := id hc
    obtain ⟨i1, i2, i3, i4, i5⟩ := hI
    obtain ⟨g1, g2, r0, g3, g4⟩ := id hli
    have hw := allR_get hrN
    obtain ⟨S1, a1, a2, a3⟩ := pX_load (P := Z) hA hS g3 g4 g2 (by omega) hrN rfl hw
    have hS1 := shX_fr a2 (by simp) (by simp) hS
    obtain ⟨S2, b1, b2, b3, b4, b5⟩ := pX_run (Z := Z) (ps := ps) hA (hpR_ok hA hw) hG hS1 (hpX_of hA hw a3) (tpX_fr (ls := []) (frY_x a2) (by simp) ht)
    obtain ⟨l1, l2, l3⟩ := pyA_ok (ps := ps) hA hG hrN
    have b3 : pyX S2 (pyA A ps r).2.2 := b3
    have e340 : S2.1 340 = nI (lkA A ps r).length := b3.2.2.2.2.2.1
    have h24 : ∀ i, i < (lkA A ps r).length → S2.2.1 24 i = nI ((lkA A ps r).getD i 0) := b3.2.2.2.2.2.2
    have f02 : frX eR eQ S S2 := frX_t (frX_w a2 (by simp) (by simp)) (frX_w b2 (by simp) (by simp))
    have fb : frX (hR ++ yR) (hQ ++ yQ) S S2 := frX_t (frX_w a2 (by simp) (by simp)) (frX_w b2 (by simp) (by simp))
    have hL2 : lkX S2 G := lkX_fr (ls := []) (frY_x fb) (by simp) (by simp) i1
    have hcp2 := capX_x f02 hcp
    have hcu2 : cuX A S2 ((allR A).getD r d0) := cuX_fr b2 (by simp) (by simp) a3
    have hli2 : liX A S2 := liX_of (ls := []) (frY_x fb) (by simp) (by simp) hli hw.1 hcu2
    obtain ⟨S3, c', u3, v3, d1, d2, d3, d4, d5, d6, d7, d8⟩ := pX_add26 (P := Z) (u := u) (v := v) (g := fun p => (lkA A ps r).getD p 0) (fun p => okL_get l2 p) (show (lkA A ps r).length ≤ 22 by omega) h24 (fun p hp => by rw [List.getD_eq_getElem?_getD, List.getElem?_eq_none (by omega)]; rfl) hL2.1 (by omega) rfl hL2.2.2.1 hL2.2.2.2.1 hL2.2.2.2.2.1
    have f03 : frY eR eQ [27] S S3 := frY_t (frY_x f02) (frY_w d2 (by simp) (by simp) (by simp))
    have hp23 : pt S2 u v S3 u3 v3 := by
      unfold pt phU phV
      rw [(d2.2 19 (by simp)).2, (d2.2 20 (by simp)).2, (d2.2 28 (by simp)).2, d4]
      rcases d6 with ⟨w1, w2, w3⟩ | ⟨w1, w2, w3, w4⟩
      · rw [w1, w2, w3]; exact ⟨Nat.le_refl _, Nat.le_refl _⟩
      · have := hL2.2.2.2.1
        rw [w1, w3, w4]; exact ⟨by omega, by omega⟩
    have hc20 : c' < 20000 := by
      have := hL2.2.2.2.2.1
      rcases d6 with ⟨w1, -⟩ | ⟨w1, w2, -⟩
      · omega
      · omega
    have hcp3 : capX S3 := by
      obtain ⟨q1, q2, q3, q4, q5, q6⟩ := hcp2
      unfold capX
      rw [(d2.2 19 (by simp)).2, (d2.2 20 (by simp)).2, (d2.2 28 (by simp)).2, (d2.2 29 (by simp)).2, (d2.2 30 (by simp)).2, (d2.2 31 (by simp)).2, (d2.2 32 (by simp)).2, d4]
      exact ⟨q1, q2, by omega, hc20, q5, q6⟩
    have hwd : ∀ i, i < G.length → wd S3 27 i (fun p => (G.getD i []).getD p 0) := fun i hi => by
      have := hL2.2.1 i hi
      exact ⟨by rw [d8 _ (by omega)]; exact this.1, by rw [d8 _ (by omega)]; exact this.2⟩
    have hlen : (G ++ [lkA A ps r]).length = G.length + 1 := by rw [List.length_append, List.length_singleton]
    have hL3 : lkX S3 (G ++ [lkA A ps r]) := by
      refine ⟨by rw [d3, hlen], fun i hi => ?_, by rw [hlen, d4]; omega, by rw [d4]; omega, by rw [d4]; exact hc20, by rw [hlen]; omega, fun l hl => ?_⟩
      · rw [hlen] at hi
        by_cases e : i = G.length
        · subst e; rw [gD_e]; exact d7
        · rw [gD_l (by omega)]; exact hwd i (by omega)
      · rcases List.mem_append.mp hl with q | q
        · exact i1.2.2.2.2.2.2 l q
        · rw [List.mem_singleton] at q; rw [q]; exact l2
    have hli3 : liX A S3 := liX_fY d2 (by simp) (by simp) (by simp) (by simp) hli2
    have go : ∀ (S4 : rr_T) (G' : List (List Nat)) (l : Nat), frX [417] [] S3 S4 → lkX S4 G' → G'.length = l + 1 → G'.length ≤ r + 1 → kG G' l = kyA A ps r → (∀ i, i < r → lo i < G'.length ∧ kG G' (lo i) = kyA A ps i) → (∀ x, x < l → ∃ i, i < r ∧ lo i = x) → ∃ (S' : rr_T) (G'' : List (List Nat)) (lo' : Nat → Nat) (u' v' : Nat), JX1_gather_151 (rr_loop f (LX1_gather_42 Z)) (nI r, S, u, v) (S4, u3, v3) = JX1_gather_172 Z (S', u', v') ∧ frY eR eQ [27] S S' ∧ liX A S' ∧ capX S' ∧ c5 S' c ∧ gI A ps (allR A).length G'' lo' S' ∧ pt S u v S' u' v' := by
      intro S4 G' l f4 hL4 e1 e2 e3 e4 e5
      have f5 : frX [417] [30] S3 (pA S4 30 (nI r) (nI l)) := frX_pA (frX_w f4 (by simp) (by simp)) (by simp)
      have f05 : frY eR eQ [27] S (pA S4 30 (nI r) (nI l)) := frY_t f03 (frY_x (frX_w f5 (by simp) (by simp)))
      have f45 : frX [] [30] S4 (pA S4 30 (nI r) (nI l)) := frX_pA (frX_r _ _ _) (by simp)
      have e30 : S4.2.1 30 = S.2.1 30 := by rw [frX_2 f4 (by simp), d2.1.2 30 (by simp), frX_2 fb (by simp)]
      have hc3 : c5 S3 c := by
        unfold c5
        rw [(d2.2 28 (by simp)).2, (d2.2 29 (by simp)).2, (d2.2 30 (by simp)).2, (d2.2 31 (by simp)).2, (d2.2 32 (by simp)).2]
        exact c5_x f02 hc
      have hc4 : c5 S4 c := c5_x f4 hc3
      have hg : rr_loop f (LX1_gather_42 Z) (nI (r + 1), pA S4 30 (nI r) (nI l), u3, v3) = JX1_gather_151 (rr_loop f (LX1_gather_42 Z)) (nI r, S, u, v) (S4, u3, v3) := by
        rw [JX1_gather_151]
        dsimp only
        rw [hc4.2.2.1, if_pos (inb_nI (by omega) (by omega)), hL4.1, e1, nI_pred, rr_l_e, nI_1]
      rw [← hg]
      obtain ⟨S', G'', lo', u', v', n1, n2, n3, n4, n5, n6, n7⟩ := ih (r + 1) f G' (upn lo r l) (pA S4 30 (nI r) (nI l)) u3 v3 (by omega) (by omega) (shX_fY f05 (by simp) (by simp) hS) (liX_fY (ls := []) (frY_x f5) (by simp) (by simp) (by simp) (by simp) hli3) (tpX_fr f05 (by simp) ht) (capX_x f5 hcp3) (c5_x f5 hc3) ⟨lkX_fr (ls := []) (frY_x f45) (by simp) (by simp) hL4, e2, fun _ => by omega, fun i hi => by
        rw [pA_s, nI_clamp (by omega)]
        by_cases e : i = r
        · rw [e, upd_s, upn_s]; exact ⟨rfl, by omega, e3⟩
        · rw [upd_n e, upn_n e, e30]; exact ⟨(i4 i (by omega)).1, e4 i (by omega)⟩, fun x hx => by
        by_cases e : x = l
        · exact ⟨r, by omega, by rw [upn_s, e]⟩
        · obtain ⟨i, j1, j2⟩ := e5 x (by omega)
          exact ⟨i, by omega, by rw [upn_n (by omega)]; exact j2⟩⟩
      exact ⟨S', G'', lo', u', v', n1, frY_t f05 n2, n3, n4, n5, n6, pt_t (pt_x f02) (pt_t hp23 (pt_t (pt_x f5) n7))⟩
    have new : ∃ (S' : rr_T) (G'' : List (List Nat)) (lo' : Nat → Nat) (u' v' : Nat), JX1_gather_151 (rr_loop f (LX1_gather_42 Z)) (nI r, S, u, v) (S3, u3, v3) = JX1_gather_172 Z (S', u', v') ∧ frY eR eQ [27] S S' ∧ liX A S' ∧ capX S' ∧ c5 S' c ∧ gI A ps (allR A).length G'' lo' S' ∧ pt S u v S' u' v' :=
      go S3 (G ++ [lkA A ps r]) G.length (frX_r _ _ _) hL3 hlen (by rw [hlen]; omega) kG_e (fun i hi => by
        obtain ⟨-, j1, j2⟩ := i4 i hi
        exact ⟨by rw [hlen]; omega, by rw [kG_l j1]; exact j2⟩) i5
    have e0 : rr_loop (f + 1) (LX1_gather_42 Z) (nI r, S, u, v) = if nI r ≤ 0 then JX1_gather_151 (rr_loop f (LX1_gather_42 Z)) (nI r, S, u, v) (S3, u3, v3) else (fX5_compare_26 Z S3 (nI (G.length + 1) - 2) (nI (G.length + 1) - 1)).bind (fun r14 => if r14 = 0 then (fX5_dropLast_26 Z S3).bind (fun S15 => JX1_gather_151 (rr_loop f (LX1_gather_42 Z)) (nI r, S, u, v) (S15, u3, v3)) else JX1_gather_151 (rr_loop f (LX1_gather_42 Z)) (nI r, S, u, v) (S3, u3, v3)) := by
      rw [loop_s, LX1_gather_42]
      dsimp only
      rw [g2.1, if_neg (nI_ge hrN (by omega)), k3, if_neg (nI_ge (by omega) (by omega)), a1, Option.bind_some, b1, Option.bind_some, e340, d1, Option.bind_some]
      dsimp only
      rw [d3]
    rw [e0]
    rcases Nat.eq_zero_or_pos r with z | z
    · subst z
      rw [if_pos (show nI 0 ≤ 0 by decide)]
      exact new
    · have hg0 := i3 z
      obtain ⟨n, hn⟩ : ∃ n, G.length = n + 1 := ⟨G.length - 1, by omega⟩
      rw [if_neg (nI_nle z (by omega)), nI_pred, show nI (G.length + 1) - 2 = nI n from by rw [hn]; exact pk_sub (a := n + 1 + 1) (b := 2) (by omega), pX_cmp26 hL3 (show n < (G ++ [lkA A ps r]).length by rw [hlen]; omega) (show G.length < (G ++ [lkA A ps r]).length by rw [hlen]; omega), Option.bind_some, kG_l (by omega), kG_e]
      by_cases e : kG G n = keyL (lkA A ps r)
      · rw [if_pos (cmpN_e.mpr e), fX5_dropLast_26, d3, if_neg (nI_nle (by omega) (by omega)), rr_l_e, Option.bind_some, nI_pred]
        have f4 : frX [417] [] S3 (pI S3 417 (nI G.length)) := frX_pI (frX_r _ _ _) (by simp)
        exact go (pI S3 417 (nI G.length)) G n f4 ⟨pI_s _ _ _, hwd, by show 2 * G.length ≤ S3.2.2.2 27; rw [d4]; omega, by show 2 ≤ S3.2.2.2 27; rw [d4]; omega, by show S3.2.2.2 27 < 20000; rw [d4]; exact hc20, by omega, i1.2.2.2.2.2.2⟩ hn (by omega) e (fun i hi => (i4 i hi).2) (fun x hx => i5 x (by omega))
      · rw [if_neg (fun w => e (cmpN_e.mp w))]
        exact new
/-- X's ends are told -/
def gaX (A : Sh) (ps : List Sp) (S : rr_T) : Prop := S.1 409 = nI (enA A ps).length ∧ (enA A ps).length ≤ S.2.2.2 32 ∧ (∀ p, p < (enA A ps).length → S.2.1 32 p = nI ((enA A ps).getD p 0)) ∧ ∀ i, i < (allR A).length → ∃ l p, i < S.2.2.2 30 ∧ l < S.2.2.2 31 ∧ S.2.1 30 i = nI l ∧ S.2.1 31 l = nI p ∧ p < (enA A ps).length ∧ kyA A ps ((enA A ps).getD p 0) = kyA A ps i
theorem gaX_fY {is as ls : List Nat} {S S' : rr_T} (f : frY is as ls S S') (h1 : 409 ∉ is) (h2 : ∀ n ∈ [30, 31, 32], n ∉ as) (h3 : ∀ n ∈ [30, 31, 32], n ∉ ls) (h : gaX A ps S) : gaX A ps S' := by
  unfold gaX
  rw [f.1.1 409 h1, f.1.2 30 (h2 30 (by simp)), f.1.2 31 (h2 31 (by simp)), f.1.2 32 (h2 32 (by simp)), (f.2 30 (h3 30 (by simp))).2, (f.2 31 (h3 31 (by simp))).2, (f.2 32 (h3 32 (by simp))).2]
  exact h
def enI (A : Sh) (ps : List Sp) (S : rr_T) : Prop := S.1 408 = 0 ∨ (S.1 408 = 1 ∧ (allR A).length ≤ 4000 ∧ gaX A ps S)
theorem enI_fY {is as ls : List Nat} {S S' : rr_T} (f : frY is as ls S S') (h1 : ∀ n ∈ [408, 409], n ∉ is) (h2 : ∀ n ∈ [30, 31, 32], n ∉ as) (h3 : ∀ n ∈ [30, 31, 32], n ∉ ls) (h : enI A ps S) : enI A ps S' := by
  unfold enI
  rw [f.1.1 408 (h1 408 (by simp))]
  rcases h with h | ⟨g1, g2, g3⟩
  · exact Or.inl h
  · exact Or.inr ⟨g1, g2, gaX_fY f (h1 409 (by simp)) h2 h3 g3⟩
abbrev zR : List Nat := [275, 277, 278, 289, 167, 168, 169, 170, 340, 341, 342, 343, 344, 345, 408, 409, 417]
abbrev zQ : List Nat := [20, 11, 12, 13, 14, 15, 16, 22, 23, 24, 28, 29, 30, 31, 32]
abbrev zL : List Nat := [19, 20, 27, 28, 29, 30, 31, 32]
/-- what every asking of X for ends begins from -/
def yI (A : Sh) (qs : List Ru) (ps : List Sp) (Z S : rr_T) : Prop := xI A qs Z S ∧ tpX Z S ps ∧ okG ps ∧ enI A ps S
/-- and comes to -/
def yE (A : Sh) (qs : List Ru) (ps : List Sp) (S : rr_T) (u v : Nat) (S' : rr_T) (u' v' : Nat) : Prop := frY zR zQ zL S S' ∧ liX A S' ∧ sfX A qs S' ∧ capX S' ∧ pt S u v S' u' v' ∧ enI A ps S'
theorem pX_gather {S : rr_T} {u v : Nat} (h : yI A qs ps Z S) : ∃ S' u' v', fX1_gather Z S u v = some ((if (allR A).length ≤ 4000 then 1 else 0), S', u', v') ∧ yE A qs ps S u v S' u' v' ∧ ((allR A).length ≤ 4000 → gaX A ps S') ∧ (S.1 275 = 1 → ∀ K, kpX S K → kpX S' K) := by
  obtain ⟨⟨hV, hQ, hS, hr, hcp, hc⟩, ht, hG, hen⟩ := h
  have hA := hV.1
  obtain ⟨S1, u1, v1, a1, a2, a3, a4, a5, a6, a7⟩ := pX_list (P := Z) (u := u) (v := v) hA hS hcp hc
  have a8 : S.1 275 = 1 → ∀ K, kpX S K → kpX S1 K := fun w K hK => by rw [(a7 w).1]; exact hK
  have hen1 : enI A ps S1 := enI_fY a2 (by simp) (by simp) (by simp) hen
  have a2' : frY zR zQ zL S S1 := frY_w a2 (by simp) (by simp) (by simp)
  rw [fX1_gather, a1, Option.bind_some]
  dsimp only
  by_cases h4 : (allR A).length ≤ 4000
  · rw [if_pos h4, if_neg (show ¬ (1 : Int32) = 0 by decide)]
    rcases id hen1 with e | ⟨e, -, hga⟩
    · rw [if_pos e, a3.2.1.1]
      obtain ⟨S2, u2, v2, c, b1, b2, b3, b4, b5, b6⟩ := pX_room (Z := Z) (S := S1) (u := u1) (v := v1) h4 a5
      have f3 : frX [417] [] S2 (pI S2 417 0) := frX_pI (frX_r _ _ _) (by simp)
      have f13 : frY [417] r5 r5 S1 (pI S2 417 0) := frY_t (frY_w b2 (by simp) (by simp) (by simp)) (frY_x (frX_w f3 (by simp) (by simp)))
      have f03 : frY zR zQ zL S (pI S2 417 0) := frY_t a2' (frY_w f13 (by simp) (by simp) (by simp))
      have hcp3 := capX_x f3 b5
      have hli3 : liX A (pI S2 417 0) := liX_fY f13 (by simp) (by simp) (by simp) (by simp) a3
      obtain ⟨S4, G, lo, u4, v4, c1, c2, c3, c4, c5', c6, c7⟩ := uX_g42 (Z := Z) (A := A) (ps := ps) (c := c) hA hG h4 b4 (allR A).length 0 FU [] (fun _ => 0) (pI S2 417 0) u2 v2 (by omega) (by show _ ≤ 5000; omega) (shX_fY f03 (by simp) (by simp) hS) hli3 (tpX_fr f03 (by simp) ht) hcp3 (c5_x f3 b3) ⟨⟨pI_s _ _ _, fun i hi => absurd hi (Nat.not_lt_zero _), Nat.zero_le _, hcp3.2.2.1, hcp3.2.2.2.1, Nat.zero_le _, fun l hl => (by cases hl)⟩, Nat.le_refl _, fun w => absurd w (Nat.lt_irrefl _), fun i hi => absurd hi (Nat.not_lt_zero _), fun l hl => absurd hl (Nat.not_lt_zero _)⟩
      have c1 : rr_loop FU (LX1_gather_42 Z) (0, pI S2 417 0, u2, v2) = JX1_gather_172 Z (S4, u4, v4) := c1
      obtain ⟨i1, i2, i3, i4, i5⟩ := c6
      obtain ⟨q1, q2, q3, q4, q5, q6⟩ := id c5'
      obtain ⟨S5, o, d1, d2, d3, d4, d5, d6⟩ := pX_sort (Z := Z) (u := u4) (v := v4) i1 (show c89 S4 G.length from ⟨by omega, by omega, by omega⟩)
      have hli5 : liX A S5 := liX_fY (ls := []) (frY_x d2) (by simp) (by simp) (by simp) (by simp) c3
      obtain ⟨S6, n1, n2, n3, n4, n5⟩ := pX_name (Z := Z) (c := c) (N := (allR A).length) (ky := kyA A ps) (lo := lo) (E := enA A ps) (S := S5) (enA_is A ps) h4 b4 i2 (lkX_fr (ls := []) (frY_x d2) (by simp) (by simp) i1) (c5_x d2 c5') hli5.2.1.1 (fun i hi => by rw [frX_2 d2 (by simp)]; exact (i4 i hi).1) (fun i hi => (i4 i hi).2) i5 d3 d4 d5 d6
      have f7 : frX [408, 409] [31, 32] S5 (pI S6 408 1) := frX_pI (frX_w n2 (by simp) (by simp)) (by simp)
      have f67 : frX [408] [] S6 (pI S6 408 1) := frX_pI (frX_r _ _ _) (by simp)
      have f47 : frX [408, 409] [28, 29, 31, 32] S4 (pI S6 408 1) := frX_t (frX_w d2 (by simp) (by simp)) (frX_w f7 (by simp) (by simp))
      have f34 : frY zR zQ zL (pI S2 417 0) S4 := frY_w c2 (by simp) (by simp) (by simp)
      have f07 : frY zR zQ zL S (pI S6 408 1) := frY_t f03 (frY_t f34 (frY_x (frX_w f47 (by simp) (by simp))))
      have hEl : (enA A ps).length ≤ (allR A).length := isE_len (enA_is A ps)
      have hc7 : c5 (pI S6 408 1) c := c5_x f47 c5'
      obtain ⟨w1, w2, w3, w4, w5, w6⟩ := id hc7
      have hga : gaX A ps (pI S6 408 1) := by
        refine ⟨by rw [pI_n (by decide)]; exact n3, by rw [w5]; omega, n4, fun i hi => ?_⟩
        obtain ⟨p, p1, p2, p3⟩ := n5 i hi
        obtain ⟨m1, m2, m3⟩ := i4 i hi
        exact ⟨lo i, p, by rw [w3]; omega, by rw [w4]; omega, by rw [frX_2 f47 (by simp)]; exact m1, p3, p1, p2⟩
      have hsf7 : sfX A qs (pI S6 408 1) := sfX_fY (ls := []) (frY_x f47) (by simp) (by simp) (by simp) (sfX_fY c2 (by simp) (by simp) (by simp) (sfX_fY f13 (by simp) (by simp) (by simp) a4))
      have hli7 : liX A (pI S6 408 1) := liX_fY (ls := []) (frY_x f47) (by simp) (by simp) (by simp) (by simp) c3
      have hpt : pt S u v (pI S6 408 1) u4 v4 := pt_t a6 (pt_t b6 (pt_t (pt_x f3) (pt_t c7 (pt_x f47))))
      refine ⟨pI S6 408 1, u4, v4, ?_, ⟨f07, hli7, hsf7, capX_x f47 c4, hpt, Or.inr ⟨pI_s _ _ _, h4, hga⟩⟩, fun _ => hga, fun w K hK => kpX_fr (ls := []) (frY_x f47) (by simp) (by simp) (by simp) (kpX_fr c2 (by simp) (by simp) (by simp) (kpX_fr f13 (by simp) (by simp) (by simp) (a8 w K hK)))⟩
      rw [b1, Option.bind_some]
      dsimp only
      rw [fX5_drop_26, rr_l_e, Option.bind_some, c1, JX1_gather_172]
      dsimp only
      rw [d1, Option.bind_some]
      dsimp only
      rw [n1, Option.bind_some, rr_l_e]
    · rw [if_neg (show ¬ S1.1 408 = 0 by rw [e]; decide)]
      exact ⟨S1, u1, v1, rfl, ⟨a2', a3, a4, a5, a6, hen1⟩, fun _ => hga, a8⟩
  · rw [if_neg h4, if_pos rfl]
    exact ⟨S1, u1, v1, rfl, ⟨a2', a3, a4, a5, a6, hen1⟩, fun z => absurd z h4, a8⟩
end XGATHER

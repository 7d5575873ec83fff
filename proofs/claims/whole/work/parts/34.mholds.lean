/-! ===== L3: the reference's holdsRing, holds ===== -/
section MHOLDS
variable {A : Sh} {H : Hp} {q : Ru} {i : Nat}
theorem hpM_fr {A : Sh} {H : Hp} {is as : List Nat} {M M' : rr_T} (f : frM is as M M') (h1 : 37 ∉ is) (h2 : ∀ n ∈ [27, 28, 29], n ∉ as) (h : hpM M A H) : hpM M' A H := by
  unfold hpM obM
  rw [f.1 37 h1, f.2 27 (h2 27 (by simp)), f.2 28 (h2 28 (by simp)), f.2 29 (h2 29 (by simp))]
  exact h
theorem rlM_fr {is as : List Nat} {M M' : rr_T} {i : Nat} {q : Ru} (f : frM is as M M') (h2 : ∀ n ∈ [6, 7, 8, 9], n ∉ as) (h : rlM M i q) : rlM M' i q := by
  unfold rlM
  rw [f.2 6 (h2 6 (by simp)), f.2 7 (h2 7 (by simp)), f.2 8 (h2 8 (by simp)), f.2 9 (h2 9 (by simp))]
  exact h
/-- one more step o -> y, if the value is no null -/
theorem ring_one {M0 M : rr_T} {R : Nat → Nat → Bool} {o x n : Nat} (hn : n ≤ 5) (ho : o < n) (hx : x ≤ n) (hf : frM [] [30] M0 M) (hc : cmM M R) : ∃ M', frM [] [30] M0 M' ∧ cmM M' (fun a b => R a b || (decide (a = o) && decide (x = b + 1))) ∧ M'.1 = M.1 ∧ (nI x - 1 = -1 → M' = M) ∧ (¬ nI x - 1 = -1 → inb ((5 : Int32) * nI o + (nI x - 1)) 25 = true ∧ pA M 30 ((5 : Int32) * nI o + (nI x - 1)) (vp_nar .boolean 1) = M') := by
  cases x with
  | zero => exact ⟨M, hf, cmM_eq hc (fun a b _ _ => by simp), rfl, fun _ => rfl, fun w => absurd (by decide) w⟩
  | succ y =>
    rw [nI_pred, ix5, nb1]
    refine ⟨_, frM_pA hf (by simp), cmM_eq (cmM_put hc (show o < 5 by omega) (show y < 5 by omega) true) (fun a b _ _ => ?_), rfl, fun w => absurd w (nI_m1 (by omega)), fun _ => ⟨inb_nI (by omega) (by decide), by rw [if_pos rfl]⟩⟩
    by_cases e : a = o ∧ b = y
    · rw [if_pos e, e.1, e.2]; simp
    · rw [if_neg e]
      by_cases e1 : a = o
      · rw [decide_eq_false (show ¬ y + 1 = b + 1 by omega)]; simp
      · rw [decide_eq_false e1]; simp
theorem uM_ring23 {M0 : rr_T} (hV : okV A) (hS0 : shM M0 A) (hH : okH A H) (hp0 : hpM M0 A H) (hi : i < 6) (hr0 : rlM M0 i q) (hq : okQ A q) (h1 : q.1 = 1) : ∀ (m o f : Nat) (M : rr_T), o + m = H.1.length → m + 1 ≤ f → frM [] [30] M0 M → cmM M (fun x y => decide (x < o) && edg A q H x y) → ∃ M', frM [] [30] M0 M' ∧ (cyc (edg A q H) H.1.length → rr_loop f (LM_holdsRing_23 (nI i)) (nI o, M) = some (0, M')) ∧ (¬ cyc (edg A q H) H.1.length → rr_loop f (LM_holdsRing_23 (nI i)) (nI o, M) = some (1, M')) := by
  have h5 := hH.1
  have h6 : ¬ q.1 = 6 := by omega
  obtain ⟨hk1, hk2, hk3⟩ := okQ_k hq h6
  have hval : ∀ x y, x < H.1.length → edg A q H x y = true → y < H.1.length := by
    intro x y hx he
    unfold edg at he
    simp only [Bool.and_eq_true, Bool.or_eq_true, decide_eq_true_eq] at he
    obtain ⟨hs, he⟩ := he
    obtain ⟨-, -, t3, -⟩ := pM_tell hV hH hp0 hx hs hk2
    rcases he with he | ⟨g0, he⟩
    · have := t3 hk3; omega
    · have hg := okQ_g hq (Or.inl h1) g0
      obtain ⟨-, -, u3, -⟩ := pM_tell hV hH hp0 hx hs hg.1
      have := u3 hg.2
      omega
  intro m
  induction m with
  | zero =>
    intro o f M ho hf hfr hc
    obtain ⟨f, rfl⟩ : ∃ g, f = g + 1 := ⟨f - 1, by omega⟩
    have hp := hpM_fr hfr (by simp) (by simp) hp0
    obtain ⟨M', g1, g2, g3⟩ := uM_ring126 (E := edg A q H) (M0 := M0) h5 H.1.length 0 FU M (by omega) (by show _ ≤ 5000; omega) hp.1.1 hfr (cmM_eq hc (fun x y hx hy => by
      show _ = if x < H.1.length ∧ y < H.1.length then edg A q H x y else false
      by_cases e : x < H.1.length ∧ y < H.1.length
      · rw [if_pos e, decide_eq_true (by omega)]; simp
      · rw [if_neg e]
        cases e2 : edg A q H x y with
        | false => simp
        | true =>
          by_cases e3 : x < H.1.length
          · exact absurd ⟨e3, hval x y e3 e2⟩ e
          · rw [decide_eq_false (by omega)]; simp))
    have e0 : rr_loop (f + 1) (LM_holdsRing_23 (nI i)) (nI o, M) = rr_loop FU (LM_holdsRing_126) (nI 0, M) := by
      rw [loop_s, LM_holdsRing_23]
      dsimp only
      rw [hp.1.1, if_pos (nI_le (by omega) (by omega))]
      rfl
    exact ⟨M', g1, fun z => by rw [e0]; exact g2 z, fun z => by rw [e0]; exact g3 z⟩
  | succ m ih =>
    intro o f M ho hf hfr hc
    obtain ⟨f, rfl⟩ : ∃ g, f = g + 1 := ⟨f - 1, by omega⟩
    have hp := hpM_fr hfr (by simp) (by simp) hp0
    have hS := shM_fr hfr (by simp) (by simp) hS0
    have hr := rlM_fr hfr (by simp) hr0
    obtain ⟨r1, r2, r3⟩ := hr.2 h6
    have r3 := r3 (by omega)
    rw [loop_s, LM_holdsRing_23]
    dsimp only
    rw [hp.1.1, if_neg (nI_ge (by omega) (by omega)), pM_isSuch hV.1 hS hH hp hi hr hq h6 (by omega), Option.bind_some, nI_1]
    by_cases hs : suc A q H o = true
    · obtain ⟨t1, t2, t3, -⟩ := pM_tell hV hH hp (by omega) hs hk2
      have t3 := t3 hk3
      rw [if_pos hs, if_neg (by decide), if_pos (inb_nI hi (by decide)), nI_clamp (by omega), r2, ix4, if_pos (inb_nI (by omega) (by decide)), nI_clamp (by omega), t1, show mv (shT A q.2.1 q.2.2.1) (H.2.1 o q.2.2.1) = nI (H.2.1 o q.2.2.1) - 1 from if_pos hk3]
      simp only [rr_l]
      obtain ⟨M1, a1, a2, a3, a4, a5⟩ := ring_one (x := H.2.1 o q.2.2.1) h5 (show o < H.1.length by omega) t3 hfr hc
      have hr1 := rlM_fr a1 (by simp) hr0
      have hp1 := hpM_fr a1 (by simp) (by simp) hp0
      have s9 : M1.2.1 9 i = nI q.2.2.2 - 1 := (hr1.2 h6).2.2 (by omega)
      have second : ∃ M2, frM [] [30] M0 M2 ∧ cmM M2 (fun x y => decide (x < o + 1) && edg A q H x y) ∧ JM_holdsRing_72 (nI i) (rr_loop f (LM_holdsRing_23 (nI i))) (nI o, M) M1 = rr_loop f (LM_holdsRing_23 (nI i)) (nI (o + 1), M2) := by
        rw [JM_holdsRing_72, if_pos (inb_nI hi (by decide)), nI_clamp (by omega), s9]
        by_cases g0 : q.2.2.2 = 0
        · rw [if_pos ((m1_iff (by omega)).mpr g0), JM_holdsRing_101, if_pos rfl]
          dsimp only
          rw [nI_1]
          refine ⟨M1, a1, cmM_eq a2 (fun x y hx hy => ?_), rfl⟩
          unfold edg
          rw [decide_eq_false (show ¬ 0 < q.2.2.2 by omega)]
          by_cases e : x = o
          · subst e
            rw [hs, decide_eq_true (show x < x + 1 by omega), decide_eq_false (Nat.lt_irrefl x)]
            simp
          · rw [decide_eq_false e]
            by_cases e2 : x < o
            · rw [decide_eq_true e2, decide_eq_true (show x < o + 1 by omega)]; simp
            · rw [decide_eq_false e2, decide_eq_false (show ¬ x < o + 1 by omega)]; simp
        · have hg := okQ_g hq (Or.inl h1) (by omega)
          obtain ⟨u1, u2, u3, -⟩ := pM_tell hV hH hp1 (show o < H.1.length by omega) hs hg.1
          have u3 := u3 hg.2
          obtain ⟨M2, b1, b2, b3, b4, b5⟩ := ring_one (x := H.2.1 o (q.2.2.2 - 1)) h5 (show o < H.1.length by omega) u3 a1 a2
          rw [if_neg (fun w => g0 ((m1_iff (by have := hV.1.2.2.2.2.1 q.2.1 (by have := hV.1.1; omega); omega)).mp w)), if_pos (inb_nI hi (by decide)), show nI q.2.2.2 - 1 = nI (q.2.2.2 - 1) from pk_sub (b := 1) (by omega)]
          dsimp only
          rw [ix4, if_pos (inb_nI (by omega) (by decide)), nI_clamp (by omega), u1, show mv (shT A q.2.1 (q.2.2.2 - 1)) (H.2.1 o (q.2.2.2 - 1)) = nI (H.2.1 o (q.2.2.2 - 1)) - 1 from if_pos hg.2, JM_holdsRing_101]
          dsimp only
          refine ⟨M2, b1, cmM_eq b2 (fun x y hx hy => ?_), ?_⟩
          · unfold edg
            rw [decide_eq_true (show 0 < q.2.2.2 by omega)]
            by_cases e : x = o
            · subst e
              rw [hs, decide_eq_true (show x < x + 1 by omega), decide_eq_false (Nat.lt_irrefl x)]
              simp
            · rw [decide_eq_false e]
              by_cases e2 : x < o
              · rw [decide_eq_true e2, decide_eq_true (show x < o + 1 by omega)]; simp
              · rw [decide_eq_false e2, decide_eq_false (show ¬ x < o + 1 by omega)]; simp
          · rw [nI_1]
            by_cases z : nI (H.2.1 o (q.2.2.2 - 1)) - 1 = -1
            · rw [if_pos z, b4 z]
            · rw [if_neg z, if_pos (b5 z).1, (b5 z).2]; rfl
      obtain ⟨M2, c1, c2, c3⟩ := second
      have fin := ih (o + 1) f M2 (by omega) (by omega) c1 c2
      by_cases z : nI (H.2.1 o q.2.2.1) - 1 = -1
      · rw [if_pos z]
        rw [a4 z] at c3
        rw [c3]
        exact fin
      · rw [if_neg z, if_pos (a5 z).1, (a5 z).2, c3]
        exact fin
    · rw [if_neg hs, if_pos rfl]
      refine ih (o + 1) f M (by omega) (by omega) hfr (cmM_eq hc (fun x y hx hy => ?_))
      by_cases e : x = o
      · subst e
        unfold edg
        rw [Bool.eq_false_iff.mpr hs]; simp
      · by_cases e2 : x < o
        · rw [decide_eq_true e2, decide_eq_true (show x < o + 1 by omega)]
        · rw [decide_eq_false e2, decide_eq_false (show ¬ x < o + 1 by omega)]
theorem uM_ring2 {M0 : rr_T} (hV : okV A) (hS0 : shM M0 A) (hH : okH A H) (hp0 : hpM M0 A H) (hi : i < 6) (hr0 : rlM M0 i q) (hq : okQ A q) (h1 : q.1 = 1) : ∀ (m k f : Nat) (M : rr_T), k + m = 25 → m + 1 ≤ f → frM [] [30] M0 M → (∀ j, j < k → M.2.1 30 j = 0) → ∃ M', frM [] [30] M0 M' ∧ (cyc (edg A q H) H.1.length → rr_loop f (LM_holdsRing_2 (nI i)) (nI k, M) = some (0, M')) ∧ (¬ cyc (edg A q H) H.1.length → rr_loop f (LM_holdsRing_2 (nI i)) (nI k, M) = some (1, M')) := by
  have h5 := hH.1
  intro m
  induction m with
  | zero =>
    intro k f M hk hf hfr hc
    obtain ⟨f, rfl⟩ : ∃ g, f = g + 1 := ⟨f - 1, by omega⟩
    obtain ⟨M', g1, g2, g3⟩ := uM_ring23 hV hS0 hH hp0 hi hr0 hq h1 H.1.length 0 FU M (by omega) (by show _ ≤ 5000; omega) hfr (fun o y ho hy => by rw [hc _ (by omega)]; simp)
    have e0 : rr_loop (f + 1) (LM_holdsRing_2 (nI i)) (nI k, M) = rr_loop FU (LM_holdsRing_23 (nI i)) (nI 0, M) := by
      rw [loop_s, LM_holdsRing_2]
      dsimp only
      rw [if_pos (show (25 : Int32) ≤ nI k from nI_le (a := 25) (by omega) (by omega))]
      rfl
    exact ⟨M', g1, fun z => by rw [e0]; exact g2 z, fun z => by rw [e0]; exact g3 z⟩
  | succ m ih =>
    intro k f M hk hf hfr hc
    obtain ⟨f, rfl⟩ : ∃ g, f = g + 1 := ⟨f - 1, by omega⟩
    rw [loop_s, LM_holdsRing_2]
    dsimp only
    rw [if_neg (show ¬ (25 : Int32) ≤ nI k from nI_ge (b := 25) (by omega) (by decide)), if_pos (inb_nI (by omega) (by decide))]
    simp only [rr_l]
    rw [nI_1, nb0]
    refine ih (k + 1) f _ (by omega) (by omega) (frM_pA hfr (by simp)) (fun j hj => ?_)
    rw [pA_s, nI_clamp (by omega)]
    by_cases e : j = k
    · rw [e, upd_s]
    · rw [upd_n e]; exact hc j (by omega)
theorem pM_holds {M : rr_T} (hV : okV A) (hS : shM M A) (hH : okH A H) (hp : hpM M A H) (hi : i < 6) (hr : rlM M i q) (hq : okQ A q) : ∃ M', fM_holds M (nI i) = some (if hol A q H = true then 1 else 0, M') ∧ frM [] [30] M M' := by
  have h5 := hH.1
  have hq6 : q.1 ≤ 6 := by
    rcases hq with hq | ⟨-, -, -, hq⟩
    · omega
    · omega
  have hP : hol A q H = true ↔ holP A q H := hol_t
  unfold holP at hP
  rw [fM_holds, if_pos (inb_nI hi (by decide)), nI_clamp (by omega), hr.1]
  by_cases e1 : q.1 = 1
  · rw [if_pos (by rw [e1]; rfl)]
    rw [if_pos e1] at hP
    obtain ⟨M', g1, g2, g3⟩ := uM_ring2 hV hS hH hp hi hr hq e1 25 0 FU M (by omega) (by decide) (frM_r _ _ _) (fun j hj => absurd hj (Nat.not_lt_zero _))
    refine ⟨M', ?_, g1⟩
    by_cases hc : cyc (edg A q H) H.1.length
    · have e0 : fM_holdsRing M (nI i) = some (0, M') := g2 hc
      rw [e0, Option.bind_some, if_neg (fun w => hP.mp w hc)]
      exact if_pos (show (0 : Int32) &&& 1 = 0 by decide)
    · have e0 : fM_holdsRing M (nI i) = some (1, M') := g3 hc
      rw [e0, Option.bind_some, if_pos (hP.mpr hc)]
      exact if_pos (show (1 : Int32) &&& 1 = 1 by decide)
  · rw [if_neg (show ¬ nI q.1 = 1 from fun w => e1 ((nI_eq (b := 1) (by omega) (by decide)).mp w))]
    rw [if_neg e1] at hP
    by_cases e2 : q.1 = 2
    · rw [if_pos (by rw [e2]; rfl)]
      rw [if_pos e2] at hP
      have h := uM_apart4 hV hS hH hp hi hr hq e2 H.1.length 0 FU true (by omega) (by show _ ≤ 5000; omega)
      refine ⟨M, ?_, frM_r _ _ _⟩
      by_cases hc : ∀ y, y < H.1.length → cnt A q H y H.1.length < 2
      · have e0 : fM_holdsApart M (nI i) = some 1 := h.1 ⟨rfl, fun z _ hz => hc z hz⟩
        rw [e0, Option.bind_some, if_pos (hP.mpr hc)]
        exact if_pos (by decide)
      · have e0 : fM_holdsApart M (nI i) = some 0 := h.2 (fun w => hc (fun y hy => w.2 y (Nat.zero_le _) hy))
        rw [e0, Option.bind_some, if_neg (fun w => hc (hP.mp w))]
        exact if_pos (by decide)
    · rw [if_neg (show ¬ nI q.1 = 2 from fun w => e2 ((nI_eq (b := 2) (by omega) (by decide)).mp w))]
      rw [if_neg e2] at hP
      by_cases e6 : q.1 = 6
      · rw [if_pos (by rw [e6]; rfl), hS.2.1]
        rw [if_pos e6] at hP
        refine ⟨M, ?_, frM_r _ _ _⟩
        have hI := hV.1.2.1
        by_cases z : shI A < 2
        · rw [if_pos (show nI (shI A) < 2 from nI_lt (b := 2) z (by decide)), if_pos (hP.mpr (Or.inl z))]
        · have v0 := hH.2.2.2 0 (by omega)
          have v1 := hH.2.2.2 1 (by omega)
          rw [if_neg (show ¬ nI (shI A) < 2 from nI_nlt (b := 2) (by omega) (by omega)), if_pos (show inb 0 2 = true by decide), if_pos (show inb 0 2 = true by decide), if_pos (show inb 1 2 = true by decide), show ((0 : Int32).toNatClampNeg) = 0 by decide, show ((1 : Int32).toNatClampNeg) = 1 by decide, hp.2.2 0 (by omega), hp.2.2 1 (by omega)]
          by_cases z0 : H.2.2 0 = 0
          · rw [if_pos ((m1_iff (by omega)).mpr z0), if_pos (hP.mpr (Or.inr (Or.inl z0)))]
          · rw [if_neg (fun w => z0 ((m1_iff (by omega)).mp w))]
            by_cases z1 : H.2.2 0 = H.2.2 1
            · rw [if_pos (by rw [z1]), if_neg (fun w => by rcases hP.mp w with w | w | w; exact z w; exact z0 w; exact w z1)]
            · rw [if_neg (fun w => z1 ((m1_inj (by omega) (by omega)).mp w)), if_pos (hP.mpr (Or.inr (Or.inr z1)))]
      · rw [if_neg (show ¬ nI q.1 = 6 from fun w => e6 ((nI_eq (b := 6) (by omega) (by decide)).mp w))]
        rw [if_neg e6] at hP
        have h := uM_holds95 hV hS hH hp hi hr hq e6 e1 e2 H.1.length 0 FU (by omega) (by show _ ≤ 5000; omega)
        refine ⟨M, ?_, frM_r _ _ _⟩
        by_cases hc : ∀ o, o < H.1.length → suc A q H o = true → hAt A q H o = true
        · rw [if_pos (hP.mpr hc)]
          exact h.1 (fun j _ b => hc j b)
        · rw [if_neg (fun w => hc (hP.mp w))]
          exact h.2 (fun w => hc (fun o b => w o (Nat.zero_le _) b))
end MHOLDS

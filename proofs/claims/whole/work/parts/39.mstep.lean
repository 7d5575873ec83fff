/-! ===== L3: the reference's doStep, playHeap ===== -/
section MSTEP
variable {A : Sh} {H : Hp} {M : rr_T} {P : Pl}
theorem plM_fr {is as : List Nat} {M M' : rr_T} (f : frM is as M M') (h1 : ∀ n ∈ [49, 50], n ∉ is) (h2 : ∀ n ∈ [31, 32, 33, 34, 35, 36], n ∉ as) (h : plM M P) : plM M' P := by
  unfold plM
  rw [f.1 49 (h1 49 (by simp)), f.1 50 (h1 50 (by simp)), f.2 31 (h2 31 (by simp)), f.2 32 (h2 32 (by simp)), f.2 33 (h2 33 (by simp)), f.2 34 (h2 34 (by simp)), f.2 35 (h2 35 (by simp)), f.2 36 (h2 36 (by simp))]
  exact h
theorem pM_isField (hA : okA A) (hS : shM M A) {k f : Nat} (hk : k < shK A) (hf : f < 4) : fM_isField M (nI k) (nI f) = some (if f < shC A k then 1 else 0) := by
  have hK := hA.1
  have hC := hA.2.2.2.2.1 k (by omega)
  rw [fM_isField, if_pos (inb_nI (by omega) (by decide)), nI_clamp (by omega), hS.2.2.2.1 k hk, in_n (by omega), Option.bind_some, nI_clamp (by omega)]
  by_cases e : f < shC A k
  · rw [if_neg (show ¬ (nI f < 0 ∨ shC A k ≤ f) from fun w => by rcases w with w | w; exact nI_pos (by omega) w; omega), if_pos e]
    exact if_pos (show (1 : Int32) &&& 1 = 1 by decide)
  · rw [if_pos (show nI f < 0 ∨ shC A k ≤ f from Or.inr (by omega)), if_neg e]
    exact if_pos (show (0 : Int32) &&& 1 = 0 by decide)
theorem pM_isSort (hA : okA A) (hS : shM M A) {k f s : Nat} (hk : k < shK A) (hf : f < shC A k) (hs : s < 2) : fM_isSort M (nI k) (nI f) (nI s) = some (if (s = 0 ↔ shT A k f < 4) then 1 else 0) := by
  have hK := hA.1
  have hC := hA.2.2.2.2.1 k (by omega)
  rw [fM_isSort, ix4, if_pos (inb_nI (by omega) (by decide)), nI_clamp (by omega)]
  rcases hS.2.2.2.2.1 k f hk hf with ⟨h1, h2, -⟩ | ⟨h1, h2, -⟩
  · rw [h2]
    by_cases e : s = 0
    · subst e
      rw [if_pos (show (0 : Int32) = nI 0 from rfl), if_pos ⟨fun _ => h1, fun _ => rfl⟩]
    · rw [if_neg (show ¬ (0 : Int32) = nI s from fun w => e ((nI_eq (a := 0) (by decide) (by omega)).mp w).symm), if_neg (fun w => e (w.mpr h1))]
  · rw [h2]
    by_cases e : s = 0
    · subst e
      rw [if_neg (by decide), if_neg (fun w => h1 (w.mp rfl))]
    · rw [if_pos (by rw [show s = 1 by omega]; rfl), if_pos ⟨fun w => absurd w e, fun w => absurd w h1⟩]
theorem pM_doStep {ps : List Sp} {s dn : Nat} (hA : okA A) (hH : okH A H) (hS : shM M A) (hp : hpM M A H) (h : plM M P) (hP : okP A H dn P) (hd : dn ≤ 15) (ht : tpM M ps) (hs : s < ps.length) (hk : okS (ps.getD s s0)) (e53 : M.1 53 = 0) : ∃ M', fM_doStep M (nI s) = some (nI (plS A H (ps.getD s s0) P).1, M') ∧ frM [49, 50, 53] [31, 32, 33, 34, 35, 36] M M' ∧ plM M' (plS A H (ps.getD s s0) P).2.2 ∧ ((plS A H (ps.getD s s0) P).1 = 0 → M'.1 53 = nI (plS A H (ps.getD s s0) P).2.1) := by
  have h16 := ht.2.1
  have h5 := hH.1
  have hK := hA.1
  obtain ⟨k1, k2, k3, k4, k5⟩ := hk
  have hsp := ht.2.2 s hs
  generalize ps.getD s s0 = p at k1 k2 k3 k4 k5 hsp ⊢
  obtain ⟨M1, a1, a2, a3⟩ := pM_ask hA hH hp h hP (by omega) k2
  have hp1 := hpM_fr a2 (by simp) (by simp) hp
  have hS1 := shM_fr a2 (by simp) (by simp) hS
  have hsp1 := spM_fr a2 (by simp) hsp
  have hP1 := askP_ok hA hH (v := p.2.1) hP
  have e53' : M1.1 53 = 0 := by rw [a2.1 53 (by simp)]; exact e53
  have va1 : pVa (askP H P p.2.1) = pVa P := (askP_va P p.2.1).1
  have hb16 : inb (nI s) 16 = true := inb_nI (by omega) (by decide)
  have hcl16 : (nI s).toNatClampNeg = s := nI_clamp (by omega)
  rw [fM_doStep]
  simp only [rr_l, if_pos hb16, hcl16, hsp.2.1, hsp.2.2.1]
  rw [a1, Option.bind_some, hsp1.1, plS]
  by_cases e2 : p.1 = 2
  · rw [if_pos (show nI p.1 = 2 by rw [e2]; rfl), if_pos e2]
    obtain ⟨M2, b1, b2, b3⟩ := pM_ask hA hH hp1 a3 hP1 (by omega) k3
    have hsp2 := spM_fr b2 (by simp) hsp1
    have va2 : pVa (askP H (askP H P p.2.1) p.2.2.1) = pVa P := by rw [(askP_va _ _).1, va1]
    have hv1 := b3.1 p.2.1 k2
    have hv2 := b3.1 p.2.2.1 k3
    rw [va2] at hv1 hv2
    have l1 := hP.1 p.2.1
    have l2 := hP.1 p.2.2.1
    rw [b1, Option.bind_some, if_pos (inb_nI k2 (by decide)), if_pos (inb_nI k3 (by decide)), nI_clamp (by omega), nI_clamp (by omega), hv1, hv2]
    have f2 : frM [49, 50, 53] [31, 32, 33, 34, 35, 36] M M2 := frM_t (frM_w a2 (by simp) (by simp)) (frM_w b2 (by simp) (by simp))
    have fin : ∀ x : Int32, plM (pI M2 53 x) (askP H (askP H P p.2.1) p.2.2.1) := fun x => plM_fr (frM_pI (frM_r [53] [] M2) (by simp)) (by simp) (by simp) b3
    by_cases e : pVa P p.2.1 = pVa P p.2.2.1
    · rw [if_pos (show nI (pVa P p.2.1) - 1 = nI (pVa P p.2.2.1) - 1 by rw [e]), if_pos e, hsp2.2.2.2.2 (by omega), JM_doStep_60]
      exact ⟨_, rfl, frM_pI f2 (by simp), fin _, fun _ => pI_s _ _ _⟩
    · rw [if_neg (fun w => e ((m1_inj (by omega) (by omega)).mp w)), if_neg e, JM_doStep_60]
      exact ⟨_, rfl, frM_pI f2 (by simp), fin _, fun _ => pI_s _ _ _⟩
  · have hv1 := a3.1 p.2.1 k2
    rw [va1] at hv1
    have l1 := hP.1 p.2.1
    have f1 : frM [49, 50, 53] [31, 32, 33, 34, 35, 36] M M1 := frM_w a2 (by simp) (by simp)
    rw [if_neg (show ¬ nI p.1 = 2 from fun w => e2 ((nI_eq (b := 2) (by omega) (by decide)).mp w)), if_neg e2, if_pos (inb_nI k2 (by decide)), nI_clamp (by omega), hv1]
    by_cases e0 : pVa P p.2.1 = 0
    · rw [if_pos ((m1_iff (by omega)).mpr e0), if_pos e0]
      exact ⟨M1, rfl, f1, a3, fun w => (by cases w)⟩
    · rw [if_neg (fun w => e0 ((m1_iff (by omega)).mp w)), if_neg e0]
      obtain ⟨o, ho⟩ : ∃ o, pVa P p.2.1 = o + 1 := ⟨pVa P p.2.1 - 1, by omega⟩
      rw [ho] at l1 ⊢
      have ho5 : o < H.1.length := by omega
      have hko := hH.2.1 _ (getD_mem ho5)
      have hC := hA.2.2.2.2.1 (H.1.getD o 0) (by omega)
      rw [nI_pred, if_pos (inb_nI (by omega) (by decide)), nI_clamp (by omega), hp1.1.2 o ho5, pM_isField hA hS1 hko k3, Option.bind_some, show o + 1 - 1 = o from rfl]
      by_cases ef : p.2.2.1 < shC A (H.1.getD o 0)
      · rw [if_pos ef, if_neg (by decide), pM_isSort hA hS1 hko ef (show p.1 < 2 by omega), Option.bind_some]
        by_cases et : p.1 = 0 ↔ shT A (H.1.getD o 0) p.2.2.1 < 4
        · rw [if_pos et, if_neg (by decide), if_pos ⟨ef, et⟩]
          obtain ⟨n1, n2⟩ := pM_askField hA hH hp1 a3 hP1 (by omega) ho5 ef
          have hh := hH.2.2.1 o p.2.2.1 ho5 ef
          by_cases er : p.1 = 0
          · obtain ⟨M2, b1, b2, b3⟩ := n1 (et.mp er)
            have hsp2 := spM_fr b2 (by simp) hsp1
            have hp2 := hpM_fr b2 (by simp) (by simp) hp1
            have hx := hh.1 (et.mp er)
            rw [er]
            have b1' : fM_askField M1 (nI o) (nI p.2.2.1) (nI 0) = some M2 := b1
            rw [b1', Option.bind_some, hsp2.1, er, if_pos (show nI 0 = 0 from rfl), if_pos rfl, ix4, if_pos (inb_nI (by omega) (by decide)), hsp2.2.2.2.1 (by omega), if_pos (inb_nI k4 (by decide)), nI_clamp (show 4 * o + p.2.2.1 < 2 ^ 31 by omega), hp2.2.1 o p.2.2.1 ho5 ef, show mv (shT A (H.1.getD o 0) p.2.2.1) (H.2.1 o p.2.2.1) = nI (H.2.1 o p.2.2.1) - 1 from if_pos (et.mp er)]
            have e13 : (pA M2 31 (nI p.2.2.2.1) (nI (H.2.1 o p.2.2.1) - 1)).2.1 13 s = nI p.2.2.2.1 := by rw [pA_n (by decide)]; exact hsp2.2.2.2.1 (by omega)
            rw [e13, if_pos (inb_nI k4 (by decide)), nb0]
            refine ⟨_, rfl, frM_pA (frM_pA (frM_t f1 (frM_w b2 (by simp) (by simp))) (by simp)) (by simp), ?_, fun _ => ?_⟩
            · obtain ⟨c1, c2, c3, c4, c5, c6, c7, c8⟩ := b3
              refine ⟨fun v hv => ?_, fun v hv => ?_, ?_, ?_, ?_, c6, c7, ?_⟩
              · rw [pA_n (by decide), pA_s, nI_clamp (by omega)]
                show _ = nI (upn _ p.2.2.2.1 (H.2.1 o p.2.2.1) v) - 1
                by_cases ez : v = p.2.2.2.1
                · rw [ez, upd_s, upn_s]
                · rw [upd_n ez, upn_n ez]; exact c1 v hv
              · rw [pA_s, nI_clamp (by omega), pA_n (by decide)]
                show _ = bI (upb _ p.2.2.2.1 false v)
                by_cases ez : v = p.2.2.2.1
                · rw [ez, upd_s, upb_s]; rfl
                · rw [upd_n ez, upb_n ez]; exact c2 v hv
              · rw [pA_n (by decide), pA_n (by decide)]; exact c3
              · rw [pA_n (by decide), pA_n (by decide)]; exact c4
              · rw [pA_n (by decide), pA_n (by decide)]; exact c5
              · rw [pA_n (by decide), pA_n (by decide)]; exact c8
            · rw [pA_1, pA_1, b2.1 53 (by simp), e53']; rfl
          · obtain ⟨M2, b1, b2, b3⟩ := n2 (fun w => er (et.mpr w))
            have hsp2 := spM_fr b2 (by simp) hsp1
            have hp2 := hpM_fr b2 (by simp) (by simp) hp1
            have hx := hh.2 (fun w => er (et.mpr w))
            have e1 : p.1 = 1 := by omega
            have b1' : fM_askField M1 (nI o) (nI p.2.2.1) (nI p.1) = some M2 := by rw [e1]; exact b1
            rw [b1', Option.bind_some, hsp2.1, if_neg (show ¬ nI p.1 = 0 by rw [e1]; decide), if_neg er, ix4, if_pos (inb_nI (by omega) (by decide)), nI_clamp (show 4 * o + p.2.2.1 < 2 ^ 31 by omega), hp2.2.1 o p.2.2.1 ho5 ef, show mv (shT A (H.1.getD o 0) p.2.2.1) (H.2.1 o p.2.2.1) = nI (H.2.1 o p.2.2.1) from if_neg (fun w => er (et.mpr w)), hsp2.2.2.2.1 (by omega)]
            have f2 : frM [49, 50, 53] [31, 32, 33, 34, 35, 36] M M2 := frM_t f1 (frM_w b2 (by simp) (by simp))
            have fin : ∀ x : Int32, plM (pI M2 53 x) (notN (askP H P p.2.1) (2 + 4 * o + p.2.2.1) (H.2.1 o p.2.2.1)) := fun x => plM_fr (frM_pI (frM_r [53] [] M2) (by simp)) (by simp) (by simp) b3
            by_cases e : H.2.1 o p.2.2.1 = p.2.2.2.1
            · rw [if_pos (show nI (H.2.1 o p.2.2.1) = nI p.2.2.2.1 by rw [e]), if_pos e, hsp2.2.2.2.2 er, JM_doStep_208]
              exact ⟨_, rfl, frM_pI f2 (by simp), fin _, fun _ => pI_s _ _ _⟩
            · rw [if_neg (fun w => e ((nI_eq (by omega) (by omega)).mp w)), if_neg e, JM_doStep_208]
              exact ⟨_, rfl, frM_pI f2 (by simp), fin _, fun _ => pI_s _ _ _⟩
        · rw [if_neg et, if_pos rfl, if_neg (fun w => et w.2)]
          exact ⟨M1, rfl, f1, a3, fun w => (by cases w)⟩
      · rw [if_neg ef, if_pos rfl, if_neg (fun w => ef w.1)]
        exact ⟨M1, rfl, f1, a3, fun w => (by cases w)⟩
abbrev pR : List Nat := [49, 50, 52, 53]
abbrev pQ : List Nat := [31, 32, 33, 34, 35, 36]
theorem uM_play130 {ps : List Sp} (hA : okA A) (hH : okH A H) (hO : ∀ p ∈ ps, okS p) : ∀ (n pc dn f : Nat) (P : Pl) (M : rr_T), dn + n = 17 → dn ≤ 16 → dn ≤ pc → pc < 2 ^ 20 → n + 2 ≤ f → shM M A → hpM M A H → plM M P → okP A H dn P → tpM M ps → M.1 52 = nI dn → ∃ M', rr_loop f LM_playHeap_130 (0, nI pc, M) = some (nI (plF A H ps n pc dn P).1, M') ∧ frM pR pQ M M' ∧ plM M' (plF A H ps n pc dn P).2.2 ∧ M'.1 52 = nI (plF A H ps n pc dn P).2.1 := by
  intro n
  induction n with
  | zero => intro pc dn f P M e1 e2; omega
  | succ n ih =>
    intro pc dn f P M hn hd hpc hp20 hf hS hp h hP ht e52
    obtain ⟨f, rfl⟩ : ∃ g, f = g + 1 := ⟨f - 1, by omega⟩
    have h16 := ht.2.1
    unfold plF
    rw [loop_s, LM_playHeap_130]
    dsimp only
    rw [ht.1]
    by_cases e : ps.length ≤ pc
    · rw [if_pos (nI_le e (by omega)), if_pos e]
      exact ⟨M, rfl, frM_r _ _ _, h, e52⟩
    · rw [if_neg (nI_ge (by omega) (by omega)), if_pos rfl, if_neg e]
      simp only [rr_l]
      have f1 : frM pR pQ M (pI (pI M 53 0) 52 (nI (dn + 1))) := frM_pI (frM_pI (frM_r _ _ _) (by simp)) (by simp)
      have hm : ps.getD pc s0 ∈ ps := by rw [gD_g (show pc < ps.length by omega)]; exact List.getElem_mem _
      have hkp := hO _ hm
      rw [pI_n (by decide), e52, nI_1]
      have f1' : frM [52, 53] [] M (pI (pI M 53 0) 52 (nI (dn + 1))) := frM_pI (frM_pI (frM_r _ _ _) (by simp)) (by simp)
      obtain ⟨M1, a1, a2, a3, a4⟩ := pM_doStep (M := pI (pI M 53 0) 52 (nI (dn + 1))) (ps := ps) (s := pc) hA hH (shM_fr f1' (by simp) (by simp) hS) (hpM_fr f1' (by simp) (by simp) hp) (plM_fr f1' (by simp) (by simp) h) hP (by omega) (tpM_fr f1' (by simp) (by simp) ht) (by omega) hkp (by rw [pI_n (by decide), pI_s])
      have hP1 := plS_ok hA hH (p := ps.getD pc s0) hP
      have ho := plS_o (A := A) (H := H) (ps.getD pc s0) P
      have hsk := ho.2 hkp
      rw [a1, Option.bind_some]
      have e52' : M1.1 52 = nI (dn + 1) := by rw [a2.1 52 (by simp), pI_s]
      have f2 : frM pR pQ M M1 := frM_t f1 (frM_w a2 (by simp) (by simp))
      by_cases e0 : (plS A H (ps.getD pc s0) P).1 = 0
      · rw [if_pos e0, e0, a4 e0, nI_1, nI_add]
        obtain ⟨M2, b1, b2, b3, b4⟩ := ih (pc + 1 + (plS A H (ps.getD pc s0) P).2.1) (dn + 1) f _ M1 (by omega) (by omega) (by omega) (by omega) (by omega) (shM_fr f2 (by simp) (by simp) hS) (hpM_fr f2 (by simp) (by simp) hp) a3 hP1 (tpM_fr f2 (by simp) (by simp) ht) e52'
        exact ⟨M2, b1, frM_t f2 b2, b3, b4⟩
      · rw [if_neg e0]
        obtain ⟨f, rfl⟩ : ∃ g, f = g + 1 := ⟨f - 1, by omega⟩
        refine ⟨M1, ?_, f2, a3, e52'⟩
        rw [loop_s, LM_playHeap_130]
        dsimp only
        rw [if_neg (show ¬ nI (plS A H (ps.getD pc s0) P).1 = 0 from fun w => e0 ((nI_eq (b := 0) (by omega) (by decide)).mp w))]
        split <;> rfl
theorem uM_play2 (hI : shI A ≤ 2) : ∀ (m v f : Nat) (M : rr_T), v + m = 4 → m + 1 ≤ f → M.1 5 = nI (shI A) → (∀ i, i < shI A → M.2.1 28 i = nI (H.2.2 i) - 1) → (∀ j, j < v → M.2.1 31 j = nI (pVa (plB A H) j) - 1 ∧ M.2.1 32 j = bI (pIn (plB A H) j)) → ∃ M', rr_loop f LM_playHeap_2 (nI v, M) = JM_playHeap_56 M' ∧ frM [] [31, 32] M M' ∧ ∀ j, j < 4 → M'.2.1 31 j = nI (pVa (plB A H) j) - 1 ∧ M'.2.1 32 j = bI (pIn (plB A H) j) := by
  intro m
  induction m with
  | zero =>
    intro v f M hv hf e5 h28 hj
    obtain ⟨f, rfl⟩ : ∃ g, f = g + 1 := ⟨f - 1, by omega⟩
    refine ⟨M, ?_, frM_r _ _ _, fun j h => hj j (by omega)⟩
    rw [loop_s, LM_playHeap_2]
    dsimp only
    rw [if_pos (show (4 : Int32) ≤ nI v from nI_le (a := 4) (by omega) (by omega))]
  | succ m ih =>
    intro v f M hv hf e5 h28 hj
    obtain ⟨f, rfl⟩ : ∃ g, f = g + 1 := ⟨f - 1, by omega⟩
    have key : ∀ (x : Int32) (y : Int32), x = bI (pIn (plB A H) v) → y = nI (pVa (plB A H) v) - 1 → ∃ M', rr_loop f LM_playHeap_2 (nI (v + 1), pA (pA M 32 (nI v) x) 31 (nI v) y) = JM_playHeap_56 M' ∧ frM [] [31, 32] M M' ∧ ∀ j, j < 4 → M'.2.1 31 j = nI (pVa (plB A H) j) - 1 ∧ M'.2.1 32 j = bI (pIn (plB A H) j) := by
      intro x y ex ey
      have f1 : frM [] [31, 32] M (pA (pA M 32 (nI v) x) 31 (nI v) y) := frM_pA (frM_pA (frM_r _ _ _) (by simp)) (by simp)
      obtain ⟨M', b1, b2, b3⟩ := ih (v + 1) f (pA (pA M 32 (nI v) x) 31 (nI v) y) (by omega) (by omega) e5 (by rw [f1.2 28 (by simp)]; exact h28) (fun j h => by
        rw [pA_s, nI_clamp (by omega), pA_n (by decide), pA_n (by decide), pA_s, nI_clamp (by omega)]
        by_cases e : j = v
        · subst e; rw [upd_s, upd_s]; exact ⟨ey, ex⟩
        · rw [upd_n e, upd_n e]; exact hj j (by omega))
      exact ⟨M', b1, frM_t f1 b2, b3⟩
    rw [loop_s, LM_playHeap_2]
    dsimp only
    rw [if_neg (show ¬ (4 : Int32) ≤ nI v from nI_ge (b := 4) (by omega) (by decide)), e5]
    by_cases e : v < shI A
    · rw [if_neg (nI_ge e (by omega)), JM_playHeap_25]
      dsimp only
      rw [if_pos (inb_nI (by omega) (by decide))]
      simp only [rr_l]
      rw [pA_1, e5, if_neg (nI_ge e (by omega)), if_pos (inb_nI (by omega) (by decide)), JM_playHeap_49]
      dsimp only
      rw [if_pos (inb_nI (by omega) (by decide)), pA_n (by decide), nI_clamp (by omega), h28 v e, nb1, nI_1]
      exact key 1 (nI (H.2.2 v) - 1) (by show 1 = bI (decide (v < shI A)); rw [decide_eq_true e]; rfl) (by show _ = nI (if v < shI A then H.2.2 v else 0) - 1; rw [if_pos e])
    · rw [if_pos (nI_le (by omega) (by omega)), JM_playHeap_25]
      dsimp only
      rw [if_pos (inb_nI (by omega) (by decide))]
      simp only [rr_l]
      rw [pA_1, e5, if_pos (nI_le (by omega) (by omega)), JM_playHeap_49]
      dsimp only
      rw [if_pos (inb_nI (by omega) (by decide)), nb0, nI_1]
      exact key 0 (-1) (by show 0 = bI (decide (v < shI A)); rw [decide_eq_false e]; rfl) (by show _ = nI (if v < shI A then H.2.2 v else 0) - 1; rw [if_neg e]; rfl)
theorem uM_play72 : ∀ (m k f : Nat) (M : rr_T), k + m = 20 → m + 1 ≤ f → (∀ j, j < k → M.2.1 34 j = 0) → ∃ M', rr_loop f LM_playHeap_72 (nI k, M) = JM_playHeap_91 M' ∧ frM [] [34] M M' ∧ ∀ j, j < 20 → M'.2.1 34 j = 0 := by
  intro m
  induction m with
  | zero =>
    intro k f M hk hf hj
    obtain ⟨f, rfl⟩ : ∃ g, f = g + 1 := ⟨f - 1, by omega⟩
    refine ⟨M, ?_, frM_r _ _ _, fun j h => hj j (by omega)⟩
    rw [loop_s, LM_playHeap_72]
    dsimp only
    rw [if_pos (show (20 : Int32) ≤ nI k from nI_le (a := 20) (by omega) (by omega))]
  | succ m ih =>
    intro k f M hk hf hj
    obtain ⟨f, rfl⟩ : ∃ g, f = g + 1 := ⟨f - 1, by omega⟩
    have f1 : frM [] [34] M (pA M 34 (nI k) 0) := frM_pA (frM_r _ _ _) (by simp)
    obtain ⟨M', b1, b2, b3⟩ := ih (k + 1) f (pA M 34 (nI k) 0) (by omega) (by omega) (fun j h => by
      rw [pA_s, nI_clamp (by omega)]
      by_cases e : j = k
      · rw [e, upd_s]
      · rw [upd_n e]; exact hj j (by omega))
    refine ⟨M', ?_, frM_t f1 b2, b3⟩
    rw [loop_s, LM_playHeap_72]
    dsimp only
    rw [if_neg (show ¬ (20 : Int32) ≤ nI k from nI_ge (b := 20) (by omega) (by decide)), if_pos (inb_nI (by omega) (by decide)), nb0, nI_1]
    exact b1
theorem uM_play93 : ∀ (m k f : Nat) (M : rr_T), k + m = 5 → m + 1 ≤ f → (∀ j, j < k → M.2.1 35 j = -1) → ∃ M', rr_loop f LM_playHeap_93 (nI k, M) = JM_playHeap_111 M' ∧ frM [] [35] M M' ∧ ∀ j, j < 5 → M'.2.1 35 j = -1 := by
  intro m
  induction m with
  | zero =>
    intro k f M hk hf hj
    obtain ⟨f, rfl⟩ : ∃ g, f = g + 1 := ⟨f - 1, by omega⟩
    refine ⟨M, ?_, frM_r _ _ _, fun j h => hj j (by omega)⟩
    rw [loop_s, LM_playHeap_93]
    dsimp only
    rw [if_pos (show (5 : Int32) ≤ nI k from nI_le (a := 5) (by omega) (by omega))]
  | succ m ih =>
    intro k f M hk hf hj
    obtain ⟨f, rfl⟩ : ∃ g, f = g + 1 := ⟨f - 1, by omega⟩
    have f1 : frM [] [35] M (pA M 35 (nI k) (-1)) := frM_pA (frM_r _ _ _) (by simp)
    obtain ⟨M', b1, b2, b3⟩ := ih (k + 1) f (pA M 35 (nI k) (-1)) (by omega) (by omega) (fun j h => by
      rw [pA_s, nI_clamp (by omega)]
      by_cases e : j = k
      · rw [e, upd_s]
      · rw [upd_n e]; exact hj j (by omega))
    refine ⟨M', ?_, frM_t f1 b2, b3⟩
    rw [loop_s, LM_playHeap_93]
    dsimp only
    rw [if_neg (show ¬ (5 : Int32) ≤ nI k from nI_ge (b := 5) (by omega) (by decide)), if_pos (inb_nI (by omega) (by decide)), nI_1]
    exact b1
theorem rr_l_e {α β : Type} (e : α) (f : α → β) : rr_l e f = f e := rfl
theorem e56 (M : rr_T) : JM_playHeap_56 M = rr_loop FU LM_playHeap_72 (0, pA (pA M 33 0 0) 33 1 0) := by
  rw [JM_playHeap_56, if_pos (show inb 0 2 = true by decide), rr_l_e, if_pos (show inb 1 2 = true by decide), rr_l_e, nb0]
theorem e111 (M : rr_T) : JM_playHeap_111 M = rr_loop FU LM_playHeap_130 (0, 0, pI (pI (pI M 49 0) 50 0) 52 0) := by
  rw [JM_playHeap_111, rr_l_e, rr_l_e, rr_l_e]
theorem pM_playHeap {ps : List Sp} (hA : okA A) (hH : okH A H) (hO : ∀ p ∈ ps, okS p) (hS : shM M A) (hp : hpM M A H) (ht : tpM M ps) : ∃ M', fM_playHeap M = some (nI (plH A H ps).1, M') ∧ frM pR pQ M M' ∧ plM M' (plH A H ps).2.2 ∧ M'.1 52 = nI (plH A H ps).2.1 := by
  have hI := hA.2.1
  rw [show plH A H ps = plF A H ps 17 0 0 (plB A H) from rfl]
  generalize h17 : (17 : Nat) = N17
  obtain ⟨M1, a1, a2, a3⟩ := uM_play2 (H := H) hI 4 0 FU M rfl (by decide) hS.2.1 hp.2.2 (fun j h => absurd h (Nat.not_lt_zero _))
  have f2 : frM pR pQ M1 (pA (pA M1 33 0 0) 33 1 0) := frM_pA (frM_pA (frM_r _ _ _) (by simp)) (by simp)
  obtain ⟨M3, c1, c2, c3⟩ := uM_play72 20 0 FU (pA (pA M1 33 0 0) 33 1 0) rfl (by decide) (fun j h => absurd h (Nat.not_lt_zero _))
  obtain ⟨M4, d1, d2, d3⟩ := uM_play93 5 0 FU M3 rfl (by decide) (fun j h => absurd h (Nat.not_lt_zero _))
  have f5 : frM pR pQ M4 (pI (pI (pI M4 49 0) 50 0) 52 0) := frM_pI (frM_pI (frM_pI (frM_r _ _ _) (by simp)) (by simp)) (by simp)
  have f14 : frM pR pQ M M4 := frM_t (frM_w a2 (by simp) (by simp)) (frM_t f2 (frM_t (frM_w c2 (by simp) (by simp)) (frM_w d2 (by simp) (by simp))))
  have f15 := frM_t f14 f5
  have hp5 : plM (pI (pI (pI M4 49 0) 50 0) 52 0) (plB A H) := by
    refine ⟨fun v hv => ?_, fun v hv => ?_, fun i hi => ?_, fun j hj => ?_, fun o ho => ?_, ?_, ?_, fun i hi => absurd hi (Nat.not_lt_zero _)⟩
    · rw [pI_2, pI_2, pI_2, d2.2 31 (by simp), c2.2 31 (by simp), pA_n (by decide), pA_n (by decide)]; exact (a3 v hv).1
    · rw [pI_2, pI_2, pI_2, d2.2 32 (by simp), c2.2 32 (by simp), pA_n (by decide), pA_n (by decide)]; exact (a3 v hv).2
    · rw [pI_2, pI_2, pI_2, d2.2 33 (by simp), c2.2 33 (by simp), pA_s, pA_s]
      show upd _ 1 0 i = 0
      by_cases e : i = 1
      · rw [e, upd_s]
      · rw [upd_n e, show i = 0 by omega]; exact upd_s _ _ _
    · rw [pI_2, pI_2, pI_2, d2.2 34 (by simp)]; exact c3 j hj
    · rw [pI_2, pI_2, pI_2]; exact d3 o ho
    · rw [pI_n (by decide), pI_n (by decide), pI_s]; rfl
    · rw [pI_n (by decide), pI_s]; rfl
  obtain ⟨M6, g1, g2, g3, g4⟩ := uM_play130 hA hH hO N17 0 0 FU (plB A H) (pI (pI (pI M4 49 0) 50 0) 52 0) (by omega) (by decide) (by decide) (by decide) (by show N17 + 2 ≤ 5000; omega) (shM_fr f15 (by simp) (by simp) hS) (hpM_fr f15 (by simp) (by simp) hp) hp5 (plB_ok hA hH) (tpM_fr f15 (by simp) (by simp) ht) (by rw [pI_s]; rfl)
  refine ⟨M6, ?_, frM_t f15 g2, g3, g4⟩
  have a1' : fM_playHeap M = JM_playHeap_56 M1 := a1
  have c1' : rr_loop FU LM_playHeap_72 (0, pA (pA M1 33 0 0) 33 1 0) = JM_playHeap_91 M3 := c1
  have d1' : rr_loop FU LM_playHeap_93 (0, M3) = JM_playHeap_111 M4 := d1
  rw [a1', e56, c1', JM_playHeap_91, d1', e111]
  exact g1
end MSTEP

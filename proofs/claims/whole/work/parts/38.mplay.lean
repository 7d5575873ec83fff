/-! ===== L3: the reference's play ===== -/
def bI (b : Bool) : Int32 := if b = true then 1 else 0
theorem bI_0 {b : Bool} : bI b = 0 ↔ b = false := b2i b
/-- M's registers tell the play P -/
def plM (M : rr_T) (P : Pl) : Prop := (∀ v, v < 4 → M.2.1 31 v = nI (pVa P v) - 1) ∧ (∀ v, v < 4 → M.2.1 32 v = bI (pIn P v)) ∧ (∀ i, i < 2 → M.2.1 33 i = bI (pSe P i)) ∧ (∀ j, j < 20 → M.2.1 34 j = bI (pSe P (2 + j))) ∧ (∀ o, o < 5 → M.2.1 35 o = nI (pCb P o) - 1) ∧ M.1 49 = nI (pCl P) ∧ M.1 50 = nI (pLk P).length ∧ ∀ i, i < (pLk P).length → M.2.1 36 i = nI ((pLk P).getD i 0)
def spM (M : rr_T) (i : Nat) (p : Sp) : Prop := M.2.1 10 i = nI p.1 ∧ M.2.1 11 i = nI p.2.1 ∧ M.2.1 12 i = nI p.2.2.1 ∧ (¬ p.1 = 2 → M.2.1 13 i = nI p.2.2.2.1) ∧ (¬ p.1 = 0 → M.2.1 14 i = nI p.2.2.2.2)
/-- M's program -/
def tpM (M : rr_T) (ps : List Sp) : Prop := M.1 13 = nI ps.length ∧ ps.length ≤ 16 ∧ ∀ i, i < ps.length → spM M i (ps.getD i s0)
theorem spM_fr {is as : List Nat} {M M' : rr_T} {i : Nat} {p : Sp} (f : frM is as M M') (h2 : ∀ n ∈ [10, 11, 12, 13, 14], n ∉ as) (h : spM M i p) : spM M' i p := by
  unfold spM
  rw [f.2 10 (h2 10 (by simp)), f.2 11 (h2 11 (by simp)), f.2 12 (h2 12 (by simp)), f.2 13 (h2 13 (by simp)), f.2 14 (h2 14 (by simp))]
  exact h
theorem tpM_fr {is as : List Nat} {M M' : rr_T} {ps : List Sp} (f : frM is as M M') (h1 : 13 ∉ is) (h2 : ∀ n ∈ [10, 11, 12, 13, 14], n ∉ as) (h : tpM M ps) : tpM M' ps := ⟨by rw [f.1 13 h1]; exact h.1, h.2.1, fun i hi => spM_fr f h2 (h.2.2 i hi)⟩
section MPLAY
variable {A : Sh} {H : Hp} {M : rr_T} {P : Pl}
/-- a look more -/
theorem uM_look68 {M0 : rr_T} {P0 : Pl} {c : Nat} (hl : (pLk P).length < 20) (e50 : M.1 50 = nI (pLk P).length) (h36 : ∀ i, i < (pLk P).length → M.2.1 36 i = nI ((pLk P).getD i 0)) : ∃ M', JM_lookRef_68 (nI c, M) = some M' ∧ frM [50] [36] M M' ∧ M'.1 50 = nI (pLk P ++ [c]).length ∧ ∀ i, i < (pLk P ++ [c]).length → M'.2.1 36 i = nI ((pLk P ++ [c]).getD i 0) := by
  rw [JM_lookRef_68]
  dsimp only
  rw [e50, if_pos (inb_nI hl (by decide))]
  simp only [rr_l]
  refine ⟨_, rfl, frM_pI (frM_pA (frM_r _ _ _) (by simp)) (by simp), ?_, fun i hi => ?_⟩
  · rw [pI_s, pA_1, e50, nI_1, List.length_append, List.length_singleton]
  · rw [List.length_append, List.length_singleton] at hi
    rw [pI_2, pA_s, nI_clamp (by omega)]
    by_cases e : i = (pLk P).length
    · subst e; rw [upd_s, gD_e]
    · rw [upd_n e, gD_l (by omega)]; exact h36 i (by omega)
theorem plM_lkC {M' : rr_T} {c : Nat} (h : plM M P) (f : frM [50] [36] M M') (e50 : M'.1 50 = nI (pLk P ++ [c]).length) (h36 : ∀ i, i < (pLk P ++ [c]).length → M'.2.1 36 i = nI ((pLk P ++ [c]).getD i 0)) : plM M' (lkC P c) := by
  obtain ⟨a1, a2, a3, a4, a5, a6, a7, a8⟩ := h
  refine ⟨?_, ?_, ?_, ?_, ?_, ?_, e50, h36⟩
  · rw [f.2 31 (by simp)]; exact a1
  · rw [f.2 32 (by simp)]; exact a2
  · rw [f.2 33 (by simp)]; exact a3
  · rw [f.2 34 (by simp)]; exact a4
  · rw [f.2 35 (by simp)]; exact a5
  · rw [f.1 49 (by simp)]; exact a6
theorem pM_lookRef (hH : okH A H) (ho : obM M H.1) (h : plM M P) {x : Nat} (hx : x ≤ H.1.length) (hl : (pLk P).length < 20) (hc : ∀ o, pCb P o ≤ pCl P) (hcl : pCl P ≤ 5) : ∃ M', fM_lookRef M (nI x - 1) = some M' ∧ frM [49, 50] [35, 36] M M' ∧ plM M' (lkR H P x) := by
  have h5 := hH.1
  have a5 := h.2.2.2.2.1
  have a6 := h.2.2.2.2.2.1
  have a7 := h.2.2.2.2.2.2.1
  have a8 := h.2.2.2.2.2.2.2
  rw [fM_lookRef, lkR]
  cases x with
  | zero =>
    rw [if_pos (show nI 0 - 1 = -1 by decide), if_pos rfl]
    obtain ⟨M', b1, b2, b3, b4⟩ := uM_look68 (c := 0) (M0 := M) (P0 := P) hl a7 a8
    exact ⟨M', b1, frM_w b2 (by simp) (by simp), plM_lkC h b2 b3 b4⟩
  | succ o =>
    have ho5 : o < 5 := by omega
    have hco := hc o
    rw [nI_pred, if_neg (nI_m1 (by omega)), if_pos (inb_nI ho5 (by decide)), nI_clamp (by omega), a5 o ho5, if_neg (show ¬ o + 1 = 0 by omega), show o + 1 - 1 = o from rfl]
    by_cases e : pCb P o = 0
    · rw [if_pos ((m1_iff (by omega)).mpr e), if_pos e, ho.2 o (by omega), JM_lookRef_37, if_pos (inb_nI ho5 (by decide)), nI_clamp (by omega), a5 o ho5, if_pos ((m1_iff (by omega)).mpr e)]
      simp only [rr_l]
      rw [pA_1, a6, nI_1, show (10 : Int32) + nI (H.1.getD o 0) = nI (10 + H.1.getD o 0) from nI_add 10 _]
      obtain ⟨M', b1, b2, b3, b4⟩ := uM_look68 (M := pI (pA M 35 (nI o) (nI (pCl P))) 49 (nI (pCl P + 1))) (c := 10 + H.1.getD o 0) (M0 := M) (P0 := P) (P := P) hl (by rw [pI_n (by decide), pA_1]; exact a7) (by rw [pI_2, pA_n (by decide)]; exact a8)
      have f1 : frM [49, 50] [35, 36] M (pI (pA M 35 (nI o) (nI (pCl P))) 49 (nI (pCl P + 1))) := frM_pI (frM_pA (frM_r _ _ _) (by simp)) (by simp)
      obtain ⟨c1, c2, c3, c4, c5, c6, c7, c8⟩ := h
      refine ⟨M', by rw [if_pos (inb_nI ho5 (by decide)), if_pos (inb_nI ho5 (by decide))]; exact b1, frM_t f1 (frM_w b2 (by simp) (by simp)), ?_, ?_, ?_, ?_, fun z hz => ?_, ?_, b3, b4⟩
      · rw [b2.2 31 (by simp), f1.2 31 (by simp)]; exact c1
      · rw [b2.2 32 (by simp), f1.2 32 (by simp)]; exact c2
      · rw [b2.2 33 (by simp), f1.2 33 (by simp)]; exact c3
      · rw [b2.2 34 (by simp), f1.2 34 (by simp)]; exact c4
      · rw [b2.2 35 (by simp), pI_2, pA_s, nI_clamp (by omega)]
        show _ = nI (upn (pCb P) o (pCl P + 1) z) - 1
        by_cases ez : z = o
        · subst ez; rw [upd_s, upn_s, nI_pred]
        · rw [upd_n ez, upn_n ez]; exact c5 z hz
      · rw [b2.1 49 (by simp), pI_s]
    · have e1 : ¬ nI (pCb P o) - 1 = -1 := fun w => e ((m1_iff (by omega)).mp w)
      rw [if_neg e1, if_neg e, JM_lookRef_37, if_pos (inb_nI ho5 (by decide)), nI_clamp (by omega), a5 o ho5, if_neg e1]
      obtain ⟨n, hn⟩ : ∃ n, pCb P o = n + 1 := ⟨pCb P o - 1, by omega⟩
      rw [hn, nI_pred, show (1 : Int32) + nI n = nI (1 + n) from nI_add 1 n, show 1 + n = n + 1 by omega]
      obtain ⟨M', b1, b2, b3, b4⟩ := uM_look68 (c := n + 1) (M0 := M) (P0 := P) hl a7 a8
      exact ⟨M', by rw [if_pos (inb_nI ho5 (by decide))]; exact b1, frM_w b2 (by simp) (by simp), plM_lkC h b2 b3 b4⟩
theorem obM_fr {is as : List Nat} {M M' : rr_T} {ks : List Nat} (f : frM is as M M') (h1 : 37 ∉ is) (h2 : 27 ∉ as) (h : obM M ks) : obM M' ks := by
  unfold obM
  rw [f.1 37 h1, f.2 27 h2]
  exact h
theorem okP_cl (hH : okH A H) {dn : Nat} (h : okP A H dn P) : pCl P ≤ 5 := by
  have h5 := hH.1
  rw [h.2.2.1]
  have := cnC_le (pCb P) H.1.length
  omega
theorem pM_ask (hA : okA A) (hH : okH A H) (hp : hpM M A H) (h : plM M P) {dn v : Nat} (hP : okP A H dn P) (hd : dn ≤ 16) (hv : v < 4) : ∃ M', fM_ask M (nI v) = some M' ∧ frM [49, 50] [33, 35, 36] M M' ∧ plM M' (askP H P v) := by
  have hI := hA.2.1
  rw [fM_ask, if_pos (inb_nI hv (by decide)), nI_clamp (by omega), h.2.1 v hv, askP]
  by_cases e : pIn P v = true
  · rw [if_pos e]
    obtain ⟨i1, i2⟩ := hP.2.1 v e
    rw [if_neg (fun w => by rw [bI_0.mp w] at e; cases e), if_pos (inb_nI (by omega) (by decide)), h.2.2.1 v (by omega), notR]
    by_cases es : pSe P v = true
    · rw [if_pos es, if_neg (fun w => by rw [bI_0.mp w] at es; cases es)]
      exact ⟨M, rfl, frM_r _ _ _, h⟩
    · rw [if_neg es, if_pos (bI_0.mpr (Bool.eq_false_iff.mpr es))]
      simp only [rr_l]
      have f1 : frM [49, 50] [33, 35, 36] M (pA M 33 (nI v) 1) := frM_pA (frM_r _ _ _) (by simp)
      have hl : (pLk P).length < 20 := by
        have := hP.2.2.2.2.1
        have := bN_le (pSe P 0)
        have := bN_le (pSe P 1)
        omega
      have h1 : plM (pA M 33 (nI v) 1) (mrk P v) := by
        obtain ⟨c1, c2, c3, c4, c5, c6, c7, c8⟩ := h
        refine ⟨?_, ?_, fun i hi => ?_, fun j hj => ?_, ?_, c6, c7, ?_⟩
        · rw [pA_n (by decide)]; exact c1
        · rw [pA_n (by decide)]; exact c2
        · rw [pA_s, nI_clamp (by omega)]
          show _ = bI (upb (pSe P) v true i)
          by_cases ez : i = v
          · subst ez; rw [upd_s, upb_s]; rfl
          · rw [upd_n ez, upb_n ez]; exact c3 i hi
        · rw [pA_n (by decide)]
          show _ = bI (upb (pSe P) v true (2 + j))
          rw [upb_n (by omega)]; exact c4 j hj
        · rw [pA_n (by decide)]; exact c5
        · rw [pA_n (by decide)]; exact c8
      have hp1 : hpM (pA M 33 (nI v) 1) A H := hpM_fr f1 (by simp) (by simp) hp
      obtain ⟨M2, b1, b2, b3⟩ := pM_lookRef hH hp1.1 h1 (hH.2.2.2 v i1) hl hP.2.2.2.1 (show pCl P ≤ 5 from okP_cl hH hP)
      refine ⟨M2, ?_, frM_t f1 (frM_w b2 (by simp) (by simp)), b3⟩
      rw [nb1, hp1.2.2 v i1, b1, if_pos (inb_nI (show v < 2 by omega) (by decide)), if_pos (inb_nI (show v < 2 by omega) (by decide))]
      rfl
  · rw [if_neg e, if_pos (bI_0.mpr (Bool.eq_false_iff.mpr e))]
    exact ⟨M, rfl, frM_r _ _ _, h⟩
theorem mrk_M {o f : Nat} (ho : o < 5) (hf : f < 4) (h : plM M P) : plM (pA M 34 (nI (4 * o + f)) 1) (mrk P (2 + 4 * o + f)) := by
  obtain ⟨c1, c2, c3, c4, c5, c6, c7, c8⟩ := h
  refine ⟨?_, ?_, fun i hi => ?_, fun j hj => ?_, ?_, c6, c7, ?_⟩
  · rw [pA_n (by decide)]; exact c1
  · rw [pA_n (by decide)]; exact c2
  · rw [pA_n (by decide)]
    show _ = bI (upb (pSe P) _ true i)
    rw [upb_n (by omega)]; exact c3 i hi
  · rw [pA_s, nI_clamp (by omega)]
    show _ = bI (upb (pSe P) (2 + 4 * o + f) true (2 + j))
    by_cases ez : j = 4 * o + f
    · rw [ez, upd_s, show 2 + (4 * o + f) = 2 + 4 * o + f by omega, upb_s]; rfl
    · rw [upd_n ez, upb_n (by omega)]; exact c4 j hj
  · rw [pA_n (by decide)]; exact c5
  · rw [pA_n (by decide)]; exact c8
theorem pM_askField (hA : okA A) (hH : okH A H) (hp : hpM M A H) (h : plM M P) {dn o f : Nat} (hP : okP A H dn P) (hd : dn ≤ 16) (ho : o < H.1.length) (hf : f < shC A (H.1.getD o 0)) : (shT A (H.1.getD o 0) f < 4 → ∃ M', fM_askField M (nI o) (nI f) 0 = some M' ∧ frM [49, 50] [34, 35, 36] M M' ∧ plM M' (notR H P (2 + 4 * o + f) (H.2.1 o f))) ∧ (¬ shT A (H.1.getD o 0) f < 4 → ∃ M', fM_askField M (nI o) (nI f) 1 = some M' ∧ frM [49, 50] [34, 35, 36] M M' ∧ plM M' (notN P (2 + 4 * o + f) (H.2.1 o f))) := by
  have h5 := hH.1
  have hK := hA.1
  have hk := hH.2.1 _ (getD_mem ho)
  have hC := hA.2.2.2.2.1 (H.1.getD o 0) (by omega)
  have hh := hH.2.2.1 o f ho hf
  have hl : (pLk P).length < 20 := by
    have := hP.2.2.2.2.1
    have := bN_le (pSe P 0)
    have := bN_le (pSe P 1)
    omega
  have f1 : frM [49, 50] [34, 35, 36] M (pA M 34 (nI (4 * o + f)) 1) := frM_pA (frM_r _ _ _) (by simp)
  have hp1 : hpM (pA M 34 (nI (4 * o + f)) 1) A H := hpM_fr f1 (by simp) (by simp) hp
  have h1 := mrk_M (show o < 5 by omega) (show f < 4 by omega) h
  have hs := h.2.2.2.1 (4 * o + f) (by omega)
  rw [show 2 + (4 * o + f) = 2 + 4 * o + f by omega] at hs
  have e29 := hp1.2.1 o f ho hf
  have hb : inb (nI (4 * o + f)) 20 = true := inb_nI (by omega) (by decide)
  have hc : (nI (4 * o + f)).toNatClampNeg = 4 * o + f := nI_clamp (by omega)
  refine ⟨fun ht => ?_, fun ht => ?_⟩
  · rw [fM_askField, ix4, if_pos hb, hc, hs, notR]
    by_cases es : pSe P (2 + 4 * o + f) = true
    · rw [if_neg (fun w => by rw [bI_0.mp w] at es; cases es), if_pos es]
      exact ⟨M, rfl, frM_r _ _ _, h⟩
    · rw [if_pos (bI_0.mpr (Bool.eq_false_iff.mpr es)), if_neg es, if_pos hb]
      simp only [rr_l]
      rw [if_pos True.intro, if_pos hb, nb1]
      obtain ⟨M2, b1, b2, b3⟩ := pM_lookRef hH hp1.1 h1 (hh.1 ht) hl hP.2.2.2.1 (show pCl P ≤ 5 from okP_cl hH hP)
      refine ⟨M2, ?_, frM_t f1 (frM_w b2 (by simp) (by simp)), b3⟩
      rw [e29, show mv (shT A (H.1.getD o 0) f) (H.2.1 o f) = nI (H.2.1 o f) - 1 from if_pos ht, b1]
      rfl
  · rw [fM_askField, ix4, if_pos hb, hc, hs, notN]
    by_cases es : pSe P (2 + 4 * o + f) = true
    · rw [if_neg (fun w => by rw [bI_0.mp w] at es; cases es), if_pos es]
      exact ⟨M, rfl, frM_r _ _ _, h⟩
    · rw [if_pos (bI_0.mpr (Bool.eq_false_iff.mpr es)), if_neg es, if_pos hb]
      simp only [rr_l]
      rw [if_neg (show ¬ (1 : Int32) = 0 by decide), if_pos hb, nb1]
      obtain ⟨M2, b1, b2, b3, b4⟩ := uM_look68 (c := H.2.1 o f) (M0 := M) (P0 := P) (P := mrk P (2 + 4 * o + f)) hl h1.2.2.2.2.2.2.1 h1.2.2.2.2.2.2.2
      refine ⟨M2, ?_, frM_t f1 (frM_w b2 (by simp) (by simp)), plM_lkC h1 b2 b3 b4⟩
      rw [← b1, JM_lookRef_68]
      dsimp only
      rw [e29, show mv (shT A (H.1.getD o 0) f) (H.2.1 o f) = nI (H.2.1 o f) from if_neg ht]
      rfl
end MPLAY

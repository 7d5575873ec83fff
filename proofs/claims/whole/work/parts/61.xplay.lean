/-! ===== L3: the class's play ===== -/
theorem s22 : ∀ s, s < 22 → ((nI s &&& 31).toBitVec.smod 32).toNat = s := by decide
theorem p22 : ∀ s, s < 22 → (1 : Int32) <<< (nI s &&& 31) = nI (2 ^ s) := by decide
theorem tb_x {z s : Nat} (hz : z < 2 ^ 22) (hs : s < 22) : ((nI z >>> (nI s &&& 31)) &&& 1 = 1) ↔ z.testBit s = true := by
  have hd := Nat.div_le_self z (2 ^ s)
  have e : (nI (z / 2 ^ s) : Int32) &&& 1 = nI (z / 2 ^ s % 2) := pk_andN (by omega) 1 (by decide)
  rw [pk_shrN (by omega) _ s (s22 s hs), e, Nat.testBit_eq_decide_div_mod_eq, decide_eq_true_eq]
  exact nI_eq (b := 1) (by omega) (by decide)
/-- X's registers tell the play P -/
def pyX (S : rr_T) (P : Pl) : Prop := (∀ v, v < 4 → S.2.1 22 v = nI (pVa P v) - 1) ∧ (∃ w, w < 32 ∧ S.1 343 = nI w ∧ ∀ v, v < 4 → w.testBit v = pIn P v) ∧ (∃ z, z < 2 ^ 22 ∧ S.1 342 = nI z ∧ ∀ s, s < 22 → z.testBit s = pSe P s) ∧ (∀ o, o < 5 → S.2.1 23 o = nI (pCb P o) - 1) ∧ S.1 341 = nI (pCl P) ∧ S.1 340 = nI (pLk P).length ∧ ∀ i, i < (pLk P).length → S.2.1 24 i = nI ((pLk P).getD i 0)
theorem pyX_fr {is as : List Nat} {S S' : rr_T} {P : Pl} (f : frX is as S S') (h1 : ∀ n ∈ [340, 341, 342, 343], n ∉ is) (h2 : ∀ n ∈ [22, 23, 24], n ∉ as) (h : pyX S P) : pyX S' P := by
  unfold pyX
  rw [frX_1 f (h1 340 (by simp)), frX_1 f (h1 341 (by simp)), frX_1 f (h1 342 (by simp)), frX_1 f (h1 343 (by simp)), frX_2 f (h2 22 (by simp)), frX_2 f (h2 23 (by simp)), frX_2 f (h2 24 (by simp))]
  exact h
theorem hpX_fr {is as : List Nat} {S S' : rr_T} {A : Sh} {H : Hp} (f : frX is as S S') (h1 : 168 ∉ is) (h2 : ∀ n ∈ [11, 12], n ∉ as) (h : hpX S A H) : hpX S' A H := by
  unfold hpX
  rw [frX_1 f h1, frX_2 f (h2 11 (by simp)), frX_2 f (h2 12 (by simp))]
  exact h
/-- step i of the pool is p -/
def spX (Z : rr_T) (i : Nat) (p : Sp) : Prop := Z.1 (16 * (40 + i)) = nI p.1 ∧ Z.1 (16 * (40 + i) + 1) = nI p.2.1 ∧ Z.1 (16 * (40 + i) + 2) = nI p.2.2.1 ∧ (¬ p.1 = 2 → Z.1 (16 * (40 + i) + 3) = nI p.2.2.2.1) ∧ (¬ p.1 = 0 → Z.1 (16 * (40 + i) + 4) = nI p.2.2.2.2)
/-- X's program -/
def tpX (Z S : rr_T) (ps : List Sp) : Prop := S.1 129 = nI ps.length ∧ ps.length ≤ 16 ∧ ps.length ≤ Z.2.2.2 40 ∧ Z.2.2.2 40 ≤ 16 ∧ ∀ i, i < ps.length → spX Z i (ps.getD i s0)
theorem tpX_fr {is as ls : List Nat} {Z S S' : rr_T} {ps : List Sp} (f : frY is as ls S S') (h1 : 129 ∉ is) (h : tpX Z S ps) : tpX Z S' ps := ⟨by rw [f.1.1 129 h1]; exact h.1, h.2⟩
section XPLAY
variable {A : Sh} {H : Hp} {Z S : rr_T} {P : Pl}
theorem uX_n117 {S : rr_T} {c : Nat} (hl : (pLk P).length < 22) (e340 : S.1 340 = nI (pLk P).length) (h24 : ∀ i, i < (pLk P).length → S.2.1 24 i = nI ((pLk P).getD i 0)) : ∃ S', JX3_note_117 (nI c, S) = some S' ∧ frX [340] [24] S S' ∧ S'.1 340 = nI (pLk P ++ [c]).length ∧ ∀ i, i < (pLk P ++ [c]).length → S'.2.1 24 i = nI ((pLk P ++ [c]).getD i 0) := by
  rw [JX3_note_117]
  dsimp only
  rw [e340, if_pos (inb_nI hl (by decide))]
  simp only [rr_l]
  refine ⟨_, rfl, frX_pI (frX_pA (frX_r _ _ _) (by simp)) (by simp), ?_, fun i hi => ?_⟩
  · rw [pI_s, pA_1, e340, nI_1, List.length_append, List.length_singleton]
  · rw [List.length_append, List.length_singleton] at hi
    rw [pI_2, pA_s, nI_clamp (by omega)]
    by_cases e : i = (pLk P).length
    · subst e; rw [upd_s, gD_e]
    · rw [upd_n e, gD_l (by omega)]; exact h24 i (by omega)
theorem pyX_lkC {S' : rr_T} {c : Nat} (h : pyX S P) (f : frX [340] [24] S S') (e340 : S'.1 340 = nI (pLk P ++ [c]).length) (h24 : ∀ i, i < (pLk P ++ [c]).length → S'.2.1 24 i = nI ((pLk P ++ [c]).getD i 0)) : pyX S' (lkC P c) := by
  obtain ⟨a1, a2, a3, a4, a5, a6, a7⟩ := h
  refine ⟨?_, ?_, ?_, ?_, ?_, e340, h24⟩
  · rw [frX_2 f (by simp)]; exact a1
  · rw [frX_1 f (by simp)]; exact a2
  · rw [frX_1 f (by simp)]; exact a3
  · rw [frX_2 f (by simp)]; exact a4
  · rw [frX_1 f (by simp)]; exact a5
theorem mrk_X {s : Nat} (hs : s < 22) (h : pyX S P) : pyX (pI S 342 (S.1 342 ||| (1 : Int32) <<< (nI s &&& 31))) (mrk P s) := by
  obtain ⟨c1, c2, ⟨z, z1, z2, z3⟩, c4, c5, c6, c7⟩ := h
  have hp : 2 ^ s < 2 ^ 22 := Nat.pow_lt_pow_right (by decide) hs
  refine ⟨c1, ?_, ⟨z ||| 2 ^ s, Nat.or_lt_two_pow z1 hp, ?_, fun t ht => ?_⟩, c4, ?_, ?_, c7⟩
  · rw [pI_n (by decide)]; exact c2
  · rw [pI_s, z2, p22 s hs, nI_orN (by omega) (by omega)]
  · rw [Nat.testBit_or, Nat.testBit_two_pow, z3 t ht]
    show _ = upb (pSe P) s true t
    by_cases e : t = s
    · rw [e, upb_s]; simp
    · rw [upb_n e, decide_eq_false (fun w => e w.symm), Bool.or_false]
  · rw [pI_n (by decide)]; exact c5
  · rw [pI_n (by decide)]; exact c6
theorem seen_X {s : Nat} (hs : s < 22) (h : pyX S P) : ((S.1 342 >>> (nI s &&& 31)) &&& 1 = 1) ↔ pSe P s = true := by
  obtain ⟨z, z1, z2, z3⟩ := h.2.2.1
  rw [z2, tb_x z1 hs, z3 s hs]
theorem held_X {v : Nat} (hv : v < 4) (h : pyX S P) : ((S.1 343 >>> (nI v &&& 31)) &&& 1 = 1) ↔ pIn P v = true := by
  obtain ⟨z, z1, z2, z3⟩ := h.2.1
  rw [z2, tb_x (by omega) (by omega), z3 v hv]
theorem pX_noteN {s x : Nat} (h : pyX S P) (hs : s < 22) (hl : (pLk P).length < 22) : ∃ S', fX3_note Z S (nI s) 0 (nI x) = some S' ∧ frX [340, 341, 342] [23, 24] S S' ∧ pyX S' (notN P s x) := by
  rw [fX3_note, notN]
  by_cases es : pSe P s = true
  · rw [if_pos es, if_pos ((seen_X hs h).mpr es)]
    exact ⟨S, rfl, frX_r _ _ _, h⟩
  · have h1 := mrk_X hs h
    have f1 : frX [340, 341, 342] [23, 24] S (pI S 342 (S.1 342 ||| (1 : Int32) <<< (nI s &&& 31))) := frX_pI (frX_r _ _ _) (by simp)
    rw [if_neg es, if_neg (fun w => es ((seen_X hs h).mp w)), if_pos (show S.1 340 < 22 by rw [h.2.2.2.2.2.1]; exact nI_lt (b := 22) hl (by decide)), rr_l_e, if_pos rfl]
    obtain ⟨S2, b1, b2, b3, b4⟩ := uX_n117 (P := mrk P s) (c := x) hl h1.2.2.2.2.2.1 h1.2.2.2.2.2.2
    exact ⟨S2, b1, frX_t f1 (frX_w b2 (by simp) (by simp)), pyX_lkC h1 b2 b3 b4⟩
theorem pX_noteR {s x : Nat} (hH : okH A H) (hp : hpX S A H) (h : pyX S P) (hs : s < 22) (hx : x ≤ H.1.length) (hl : (pLk P).length < 22) (hc : ∀ o, pCb P o ≤ pCl P) (hcl : pCl P ≤ 5) : ∃ S', fX3_note Z S (nI s) 1 (nI x - 1) = some S' ∧ frX [340, 341, 342] [23, 24] S S' ∧ pyX S' (notR H P s x) := by
  rw [fX3_note, notR]
  by_cases es : pSe P s = true
  · rw [if_pos es, if_pos ((seen_X hs h).mpr es)]
    exact ⟨S, rfl, frX_r _ _ _, h⟩
  · have h1 := mrk_X hs h
    have f1 : frX [340, 341, 342] [23, 24] S (pI S 342 (S.1 342 ||| (1 : Int32) <<< (nI s &&& 31))) := frX_pI (frX_r _ _ _) (by simp)
    have hp1 : hpX (pI S 342 (S.1 342 ||| (1 : Int32) <<< (nI s &&& 31))) A H := hpX_fr f1 (by simp) (by simp) hp
    rw [if_neg es, if_neg (fun w => es ((seen_X hs h).mp w)), if_pos (show S.1 340 < 22 by rw [h.2.2.2.2.2.1]; exact nI_lt (b := 22) hl (by decide)), rr_l_e, if_neg (show ¬ (1 : Int32) = 0 by decide)]
    generalize pI S 342 (S.1 342 ||| (1 : Int32) <<< (nI s &&& 31)) = S1 at h1 f1 hp1 ⊢
    have h5 := hH.1
    have a4 := h1.2.2.2.1
    have a5 := h1.2.2.2.2.1
    have a6 := h1.2.2.2.2.2.1
    have a7 := h1.2.2.2.2.2.2
    rw [lkR]
    cases x with
    | zero =>
      rw [if_pos (show nI 0 - 1 < 0 by decide), if_pos rfl]
      obtain ⟨S2, b1, b2, b3, b4⟩ := uX_n117 (P := mrk P s) (c := 0) hl a6 a7
      exact ⟨S2, b1, frX_t f1 (frX_w b2 (by simp) (by simp)), pyX_lkC h1 b2 b3 b4⟩
    | succ o =>
      have ho5 : o < 5 := by omega
      have hco := hc o
      have e23 : S1.2.1 23 o = nI (pCb P o) - 1 := a4 o ho5
      have hb : inb (nI o) 5 = true := inb_nI ho5 (by decide)
      have hcl' : (nI o).toNatClampNeg = o := nI_clamp (by omega)
      rw [nI_pred, if_neg (nI_pos (by omega)), if_neg (show ¬ (5 : Int32) ≤ nI o from nI_ge (b := 5) ho5 (by decide)), if_pos hb, hcl', e23, if_neg (show ¬ o + 1 = 0 by omega), show o + 1 - 1 = o from rfl]
      by_cases e : pCb P o = 0
      · have e1 : nI (pCb P o) - 1 = -1 := (m1_iff (by omega)).mpr e
        have ek : fX2_kindOf Z S1 (nI o) = some (nI (H.1.getD o 0)) := pX_kindOf h5 hp1.1 hp1.2.1 (by omega)
        rw [if_pos e1, ek, Option.bind_some, if_pos (show pCb (mrk P s) o = 0 from e), JX3_note_85, if_pos hb, hcl', e23, if_pos e1, if_pos hb]
        simp only [rr_l]
        rw [pA_1, a5, nI_1, show (10 : Int32) + nI (H.1.getD o 0) = nI (10 + H.1.getD o 0) from nI_add 10 _]
        have f2 : frX [340, 341, 342] [23, 24] S1 (pI (pA S1 23 (nI o) (nI (pCl (mrk P s)))) 341 (nI (pCl (mrk P s) + 1))) := frX_pI (frX_pA (frX_r _ _ _) (by simp)) (by simp)
        obtain ⟨S2, b1, b2, b3, b4⟩ := uX_n117 (S := pI (pA S1 23 (nI o) (nI (pCl (mrk P s)))) 341 (nI (pCl (mrk P s) + 1))) (P := mrk P s) (c := 10 + H.1.getD o 0) hl (by rw [pI_n (by decide), pA_1]; exact a6) (by rw [pI_2, pA_n (by decide)]; exact a7)
        obtain ⟨c1, c2, c3, c4, c5, c6, c7⟩ := h1
        refine ⟨S2, b1, frX_t f1 (frX_t f2 (frX_w b2 (by simp) (by simp))), ?_, ?_, ?_, fun z hz => ?_, ?_, b3, b4⟩
        · rw [frX_2 b2 (by simp), frX_2 f2 (by simp)]; exact c1
        · rw [frX_1 b2 (by simp), frX_1 f2 (by simp)]; exact c2
        · rw [frX_1 b2 (by simp), pI_n (by decide), pA_1]; exact c3
        · rw [frX_2 b2 (by simp), pI_2, pA_s, hcl']
          show _ = nI (upn (pCb P) o (pCl P + 1) z) - 1
          by_cases ez : z = o
          · subst ez; rw [upd_s, upn_s, nI_pred]; rfl
          · rw [upd_n ez, upn_n ez]; exact c4 z hz
        · rw [frX_1 b2 (by simp), pI_s]
      · have e1 : ¬ nI (pCb P o) - 1 = -1 := fun w => e ((m1_iff (by omega)).mp w)
        rw [if_neg e1, if_pos hb, if_neg (show ¬ pCb (mrk P s) o = 0 from e), JX3_note_85, if_pos hb, hcl', e23, if_neg e1]
        obtain ⟨n, hn⟩ : ∃ n, pCb P o = n + 1 := ⟨pCb P o - 1, by omega⟩
        rw [hn, nI_pred, show (1 : Int32) + nI n = nI (1 + n) from nI_add 1 n, show 1 + n = n + 1 by omega]
        obtain ⟨S2, b1, b2, b3, b4⟩ := uX_n117 (P := mrk P s) (c := n + 1) hl a6 a7
        rw [show pCb (mrk P s) o = n + 1 from hn]
        exact ⟨S2, b1, frX_t f1 (frX_w b2 (by simp) (by simp)), pyX_lkC h1 b2 b3 b4⟩
theorem pX_isVar {v : Nat} (hv : v < 4) : fX10_isVariable (nI v) = some 1 := by
  rw [fX10_isVariable, if_neg (nI_pos (by omega)), if_neg (show ¬ (4 : Int32) ≤ nI v from nI_ge (b := 4) hv (by decide))]
theorem okP_22 {dn : Nat} (hP : okP A H dn P) (hd : dn ≤ 16) : (pLk P).length < 22 := by
  have := hP.2.2.2.2.1
  have := bN_le (pSe P 0)
  have := bN_le (pSe P 1)
  omega
theorem pX_asked {dn v : Nat} (hA : okA A) (hH : okH A H) (hp : hpX S A H) (h : pyX S P) (hP : okP A H dn P) (hd : dn ≤ 16) (hv : v < 4) : ∃ S', fX3_asked Z S (nI v) = some (nI (pVa P v) - 1, S') ∧ frX [340, 341, 342] [23, 24] S S' ∧ pyX S' (askP H P v) := by
  have hb : inb (nI v) 4 = true := inb_nI hv (by decide)
  have hcl' : (nI v).toNatClampNeg = v := nI_clamp (by omega)
  rw [fX3_asked, pX_isVar hv, Option.bind_some, if_neg (show ¬ (1 : Int32) = 0 by decide), askP]
  by_cases e : pIn P v = true
  · obtain ⟨i1, i2⟩ := hP.2.1 v e
    have hI := hA.2.1
    obtain ⟨S1, a1, a2, a3⟩ := pX_noteR (Z := Z) (s := v) (x := pVa P v) hH hp h (by omega) (hP.1 v) (okP_22 hP hd) hP.2.2.2.1 (okP_cl hH hP)
    rw [if_pos ((held_X hv h).mpr e), if_pos hb, hcl', h.1 v hv, a1, Option.bind_some, JX3_asked_33, if_pos hb, hcl', if_pos e]
    rw [i2] at a3
    refine ⟨S1, ?_, a2, a3⟩
    rw [a3.1 v hv, (notR_va P v (H.2.2 v)).1]
  · rw [if_neg (fun w => e ((held_X hv h).mp w)), JX3_asked_33, if_pos hb, hcl', if_neg e, h.1 v hv]
    exact ⟨S, rfl, frX_r _ _ _, h⟩
theorem pX_change {v x : Nat} (h : pyX S P) (hv : v < 4) : ∃ S', fX3_change Z S (nI v) (nI x - 1) = some S' ∧ frX [343] [22] S S' ∧ pyX S' (upn (pVa P) v x, upb (pIn P) v false, P.2.2) := by
  rw [fX3_change, pX_isVar hv, Option.bind_some, if_neg (show ¬ (1 : Int32) = 0 by decide), if_pos (inb_nI hv (by decide))]
  simp only [rr_l]
  obtain ⟨c1, ⟨w, w1, w2, w3⟩, c3, c4, c5, c6, c7⟩ := h
  have f1 : frX [343] [22] S (pI (pA S 22 (nI v) (nI x - 1)) 343 ((pA S 22 (nI v) (nI x - 1)).1 343 &&& ((1 : Int32) <<< (nI v &&& 31) ^^^ (-1)))) := frX_pI (frX_pA (frX_r _ _ _) (by simp)) (by simp)
  obtain ⟨t1, t2, -⟩ := b5_t w w1 v (by omega)
  refine ⟨_, rfl, f1, fun z hz => ?_, ⟨clr w v, t1, ?_, fun z hz => ?_⟩, ?_, ?_, ?_, ?_, ?_⟩
  · rw [pI_2, pA_s, nI_clamp (by omega)]
    show _ = nI (upn (pVa P) v x z) - 1
    by_cases ez : z = v
    · rw [ez, upd_s, upn_s]
    · rw [upd_n ez, upn_n ez]; exact c1 z hz
  · rw [pI_s, pA_1, w2, b5_c w w1 v (by omega)]
  · rw [t2 z (by omega), w3 z hz]
    show _ = upb (pIn P) v false z
    by_cases ez : z = v
    · rw [ez, upb_s]; simp
    · rw [upb_n ez, decide_eq_false ez]; simp
  · rw [frX_1 f1 (by simp)]; exact c3
  · rw [frX_2 f1 (by simp)]; exact c4
  · rw [frX_1 f1 (by simp)]; exact c5
  · rw [frX_1 f1 (by simp)]; exact c6
  · rw [frX_2 f1 (by simp)]; exact c7
abbrev yR : List Nat := [340, 341, 342, 343, 344, 345]
abbrev yQ : List Nat := [22, 23, 24]
theorem pX_left {p : Sp} {i dn : Nat} (hA : okA A) (hH : okH A H) (hS : shX S A) (hp : hpX S A H) (h : pyX S P) (hP : okP A H dn P) (hd : dn ≤ 15) (hi : i < Z.2.2.2 40) (hi16 : i < 16) (hsp : spX Z i p) (hk : okS p) (e345 : S.1 345 = 0) : ∃ S', fX3_leftOutBehind Z S (40 + i) = some (nI (plS A H p P).2.1, S') ∧ frX yR yQ S S' ∧ pyX S' (plS A H p P).2.2 ∧ S'.1 344 = S.1 344 + 1 ∧ S'.1 345 = nI (plS A H p P).1 := by
  have h5 := hH.1
  have hK := hA.1
  obtain ⟨k1, k2, k3, k4, k5⟩ := hk
  have f0 : frX [344] [] S (pI S 344 (S.1 344 + 1)) := frX_pI (frX_r _ _ _) (by simp)
  rw [fX3_leftOutBehind, if_pos ⟨by omega, by omega, by omega⟩, rr_l_e]
  have e344 : (pI S 344 (S.1 344 + 1)).1 344 = S.1 344 + 1 := pI_s _ _ _
  have e345' : (pI S 344 (S.1 344 + 1)).1 345 = 0 := by rw [pI_n (by decide)]; exact e345
  have hS' := shX_fr f0 (by simp) (by simp) hS
  have hp' := hpX_fr f0 (by simp) (by simp) hp
  have h' := pyX_fr f0 (by simp) (by simp) h
  generalize pI S 344 (S.1 344 + 1) = S0 at f0 e344 e345' hS' hp' h' ⊢
  obtain ⟨S1, a1, a2, a3⟩ := pX_asked (Z := Z) hA hH hp' h' hP (by omega) k2
  have hS1 := shX_fr a2 (by simp) (by simp) hS'
  have hp1 := hpX_fr a2 (by simp) (by simp) hp'
  have hP1 := askP_ok hA hH (v := p.2.1) hP
  have va1 : pVa (askP H P p.2.1) = pVa P := (askP_va P p.2.1).1
  have e344a : S1.1 344 = S.1 344 + 1 := by rw [frX_1 a2 (by simp)]; exact e344
  have e345a : S1.1 345 = 0 := by rw [frX_1 a2 (by simp)]; exact e345'
  have f1 : frX yR yQ S S1 := frX_t (frX_w f0 (by simp) (by simp)) (frX_w a2 (by simp) (by simp))
  have l1 := hP.1 p.2.1
  have l2 := hP.1 p.2.2.1
  rw [hsp.2.1, a1, Option.bind_some, hsp.1, hsp.2.2.1, plS]
  dsimp only
  by_cases e2 : p.1 = 2
  · rw [if_pos (show nI p.1 = 2 by rw [e2]; rfl), if_pos e2]
    obtain ⟨S2, b1, b2, b3⟩ := pX_asked (Z := Z) hA hH hp1 a3 hP1 (by omega) k3
    have f2 : frX yR yQ S S2 := frX_t f1 (frX_w b2 (by simp) (by simp))
    rw [b1, Option.bind_some, va1]
    dsimp only
    have z4 : S2.1 344 = S.1 344 + 1 := by rw [frX_1 b2 (by simp)]; exact e344a
    have z5 : S2.1 345 = nI 0 := by rw [frX_1 b2 (by simp)]; exact e345a
    by_cases e : pVa P p.2.1 = pVa P p.2.2.1
    · rw [if_pos (show nI (pVa P p.2.1) - 1 = nI (pVa P p.2.2.1) - 1 by rw [e]), if_pos e, hsp.2.2.2.2 (by omega)]
      exact ⟨S2, rfl, f2, b3, z4, z5⟩
    · rw [if_neg (fun w => e ((m1_inj (by omega) (by omega)).mp w)), if_neg e]
      exact ⟨S2, rfl, f2, b3, z4, z5⟩
  · rw [if_neg (show ¬ nI p.1 = 2 from fun w => e2 ((nI_eq (b := 2) (by omega) (by decide)).mp w)), if_neg e2]
    by_cases e0 : pVa P p.2.1 = 0
    · rw [if_pos ((m1_iff (by omega)).mpr e0), if_pos e0, rr_l_e]
      have f2 : frX [345] [] S1 (pI S1 345 1) := frX_pI (frX_r _ _ _) (by simp)
      exact ⟨_, rfl, frX_t f1 (frX_w f2 (by simp) (by simp)), pyX_fr f2 (by simp) (by simp) a3, by rw [pI_n (by decide)]; exact e344a, pI_s _ _ _⟩
    · rw [if_neg (fun w => e0 ((m1_iff (by omega)).mp w)), if_neg e0]
      obtain ⟨o, ho⟩ : ∃ o, pVa P p.2.1 = o + 1 := ⟨pVa P p.2.1 - 1, by omega⟩
      rw [ho] at l1 ⊢
      have ho5 : o < H.1.length := by omega
      have hko := hH.2.1 _ (getD_mem ho5)
      have hC := hA.2.2.2.2.1 (H.1.getD o 0) (by omega)
      have ek : fX2_kindOf Z S1 (nI o) = some (nI (H.1.getD o 0)) := pX_kindOf h5 hp1.1 hp1.2.1 ho5
      have fW : frX [345] [] S1 (pI S1 345 2) := frX_pI (frX_r _ _ _) (by simp)
      have bad : ∃ S', JX3_leftOutBehind_111 (nI o, S1) () = some (nI 0, S') ∧ frX yR yQ S S' ∧ pyX S' (askP H P p.2.1) ∧ S'.1 344 = S.1 344 + 1 ∧ S'.1 345 = nI 2 := by
        rw [JX3_leftOutBehind_111, rr_l_e]
        exact ⟨_, rfl, frX_t f1 (frX_w fW (by simp) (by simp)), pyX_fr fW (by simp) (by simp) a3, by rw [pI_n (by decide)]; exact e344a, pI_s _ _ _⟩
      obtain ⟨t1, t2⟩ := pX_typeOf (P := Z) hA hS1 hko (nI p.2.2.1)
      rw [nI_pred, ek, Option.bind_some, show o + 1 - 1 = o from rfl]
      by_cases ef : p.2.2.1 < shC A (H.1.getD o 0)
      · have hty := hA.2.2.2.2.2.1 _ _ hko ef
        rw [t2 _ ef rfl, Option.bind_some, pX_isRefType (by omega), Option.bind_some, if_neg (nI_m1 (by omega))]
        have e108 : (if nI p.1 = 0 then JX3_leftOutBehind_108 Z (40 + i) (nI o, S1) (if shT A (H.1.getD o 0) p.2.2.1 < 4 then 1 else 0) 1 else JX3_leftOutBehind_108 Z (40 + i) (nI o, S1) (if shT A (H.1.getD o 0) p.2.2.1 < 4 then 1 else 0) 0) = JX3_leftOutBehind_108 Z (40 + i) (nI o, S1) (if shT A (H.1.getD o 0) p.2.2.1 < 4 then 1 else 0) (if p.1 = 0 then 1 else 0) := by
          by_cases er : p.1 = 0
          · rw [if_pos (show nI p.1 = 0 by rw [er]; rfl), if_pos er]
          · rw [if_neg (show ¬ nI p.1 = 0 from fun w => er ((nI_eq (b := 0) (by omega) (by decide)).mp w)), if_neg er]
        rw [e108, JX3_leftOutBehind_108]
        dsimp only
        have hsl : 2 + 4 * o + p.2.2.1 < 22 := by omega
        have eix : (2 : Int32) + nI o * 4 + nI p.2.2.1 = nI (2 + 4 * o + p.2.2.1) := by
          rw [show nI o * 4 = nI (o * 4) from pk_mul o 4, show (2 : Int32) + nI (o * 4) = nI (2 + o * 4) from nI_add 2 _, nI_add, Nat.mul_comm o 4]
        by_cases et : p.1 = 0 ↔ shT A (H.1.getD o 0) p.2.2.1 < 4
        · rw [if_pos (show (if shT A (H.1.getD o 0) p.2.2.1 < 4 then (1 : Int32) else 0) = (if p.1 = 0 then 1 else 0) by
            by_cases er : p.1 = 0
            · rw [if_pos er, if_pos (et.mp er)]
            · rw [if_neg er, if_neg (fun w => er (et.mpr w))]), hsp.2.2.1, pX_tells hp1 h5 ho5 k3, Option.bind_some, eix, hp1.2.2.1 o p.2.2.1 ho5 ef, if_pos (show p.2.2.1 < shC A (H.1.getD o 0) ∧ (p.1 = 0 ↔ shT A (H.1.getD o 0) p.2.2.1 < 4) from ⟨ef, et⟩), hsp.1]
          have hh := hH.2.2.1 o p.2.2.1 ho5 ef
          by_cases er : p.1 = 0
          · have ht := et.mp er
            have hx := hh.1 ht
            obtain ⟨S2, b1, b2, b3⟩ := pX_noteR (Z := Z) (s := 2 + 4 * o + p.2.2.1) (x := H.2.1 o p.2.2.1) hH hp1 a3 hsl hx (okP_22 hP1 (by omega)) hP1.2.2.2.1 (okP_cl hH hP1)
            obtain ⟨S3, c1, c2, c3⟩ := pX_change (Z := Z) (x := H.2.1 o p.2.2.1) b3 k4
            rw [if_pos ht, show mv (shT A (H.1.getD o 0) p.2.2.1) (H.2.1 o p.2.2.1) = nI (H.2.1 o p.2.2.1) - 1 from if_pos ht, b1, Option.bind_some, if_neg (show ¬ nI p.1 = 1 by rw [er]; decide), hsp.2.2.2.1 (by omega), c1, Option.bind_some, if_pos er]
            refine ⟨S3, rfl, frX_t f1 (frX_t (frX_w b2 (by simp) (by simp)) (frX_w c2 (by simp) (by simp))), c3, ?_, ?_⟩
            · rw [frX_1 c2 (by simp), frX_1 b2 (by simp)]; exact e344a
            · rw [frX_1 c2 (by simp), frX_1 b2 (by simp)]; exact e345a
          · have ht : ¬ shT A (H.1.getD o 0) p.2.2.1 < 4 := fun w => er (et.mpr w)
            have hx := hh.2 ht
            obtain ⟨S2, b1, b2, b3⟩ := pX_noteN (Z := Z) (s := 2 + 4 * o + p.2.2.1) (x := H.2.1 o p.2.2.1) a3 hsl (okP_22 hP1 (by omega))
            have z4 : S2.1 344 = S.1 344 + 1 := by rw [frX_1 b2 (by simp)]; exact e344a
            have z5 : S2.1 345 = nI 0 := by rw [frX_1 b2 (by simp)]; exact e345a
            have f2 : frX yR yQ S S2 := frX_t f1 (frX_w b2 (by simp) (by simp))
            have e1 : p.1 = 1 := by omega
            rw [if_neg ht, show mv (shT A (H.1.getD o 0) p.2.2.1) (H.2.1 o p.2.2.1) = nI (H.2.1 o p.2.2.1) from if_neg ht, b1, Option.bind_some, if_pos (show nI p.1 = 1 by rw [e1]; rfl), hsp.2.2.2.1 e2, hsp.2.2.2.2 er, if_neg er]
            by_cases e : H.2.1 o p.2.2.1 = p.2.2.2.1
            · rw [if_pos (show nI (H.2.1 o p.2.2.1) = nI p.2.2.2.1 by rw [e]), if_pos e]
              exact ⟨S2, rfl, f2, b3, z4, z5⟩
            · rw [if_neg (fun w => e ((nI_eq (by omega) (by omega)).mp w)), if_neg e]
              exact ⟨S2, rfl, f2, b3, z4, z5⟩
        · rw [if_neg (show ¬ (if shT A (H.1.getD o 0) p.2.2.1 < 4 then (1 : Int32) else 0) = (if p.1 = 0 then 1 else 0) from fun w => by
            by_cases er : p.1 = 0
            · by_cases ht : shT A (H.1.getD o 0) p.2.2.1 < 4
              · exact et ⟨fun _ => ht, fun _ => er⟩
              · rw [if_pos er, if_neg ht] at w; exact absurd w (by decide)
            · by_cases ht : shT A (H.1.getD o 0) p.2.2.1 < 4
              · rw [if_neg er, if_pos ht] at w; exact absurd w (by decide)
              · exact et ⟨fun z => absurd z er, fun z => absurd z ht⟩), if_neg (fun w => et w.2)]
          exact bad
      · have hty : out (nI p.2.2.1) (shC A (H.1.getD o 0)) := (out_nI (by omega)).mpr (by omega)
        rw [t1 hty, Option.bind_some, pX_isRefTypeM, Option.bind_some, if_pos rfl, if_neg (fun w => ef w.1)]
        exact bad
theorem uX_run8 {ps : List Sp} (hA : okA A) (hH : okH A H) (hO : ∀ p ∈ ps, okS p) : ∀ (n pc dn f : Nat) (P : Pl) (S : rr_T), dn + n = 17 → dn ≤ 16 → dn ≤ pc → pc < 2 ^ 20 → n + 2 ≤ f → shX S A → hpX S A H → pyX S P → okP A H dn P → tpX Z S ps → S.1 344 = nI dn → S.1 345 = 0 → ∃ S', rr_loop f (LX3_run_8 Z) (nI pc, nI dn, S) = some S' ∧ frX yR yQ S S' ∧ pyX S' (plF A H ps n pc dn P).2.2 ∧ S'.1 344 = nI (plF A H ps n pc dn P).2.1 ∧ S'.1 345 = nI (plF A H ps n pc dn P).1 := by
  intro n
  induction n with
  | zero => intro pc dn f P S e1 e2; omega
  | succ n ih =>
    intro pc dn f P S hn hd hpc hp20 hf hS hp h hP ht e344 e345
    obtain ⟨f, rfl⟩ : ∃ g, f = g + 1 := ⟨f - 1, by omega⟩
    have h16 := ht.2.1
    have hz := ht.2.2.1
    unfold plF
    rw [loop_s, LX3_run_8]
    dsimp only
    by_cases e16 : dn = 16
    · rw [if_pos (show (16 : Int32) ≤ nI dn from nI_le (a := 16) (by omega) (by omega)), if_pos (show ps.length ≤ pc by omega)]
      exact ⟨S, rfl, frX_r _ _ _, h, e344, e345⟩
    · rw [if_neg (show ¬ (16 : Int32) ≤ nI dn from nI_ge (b := 16) (by omega) (by decide)), if_pos e345, fX4_stepAt, if_neg (nI_pos (by omega)), ht.1]
      by_cases e : ps.length ≤ pc
      · rw [if_pos (nI_le e (by omega)), if_pos e, Option.bind_some]
        exact ⟨S, rfl, frX_r _ _ _, h, e344, e345⟩
      · rw [if_neg (nI_ge (by omega) (by omega)), if_neg e, if_pos (inb_nI (by omega) (by decide)), nI_clamp (by omega), if_pos (show pc < Z.2.2.2 40 by omega), Option.bind_some]
        have hm : ps.getD pc s0 ∈ ps := by rw [gD_g (show pc < ps.length by omega)]; exact List.getElem_mem _
        have hkp := hO _ hm
        obtain ⟨S1, a1, a2, a3, a4, a5⟩ := pX_left (Z := Z) (i := pc) hA hH hS hp h hP (by omega) (by omega) (by omega) (ht.2.2.2.2 pc (by omega)) hkp e345
        have hP1 := plS_ok hA hH (p := ps.getD pc s0) hP
        have ho := plS_o (A := A) (H := H) (ps.getD pc s0) P
        have hsk := ho.2 hkp
        rw [e344, nI_1] at a4
        have e0 : (rr_o (some (40 + pc)) (some S) fun n4 => (fX3_leftOutBehind Z S n4).bind fun q5 => rr_l (nI pc + (1 + q5.1)) fun v6 => rr_loop f (LX3_run_8 Z) (v6, nI dn + 1, q5.2)) = rr_loop f (LX3_run_8 Z) (nI (pc + 1 + (plS A H (ps.getD pc s0) P).2.1), nI (dn + 1), S1) := by
          show (fX3_leftOutBehind Z S (40 + pc)).bind _ = _
          rw [a1, Option.bind_some]
          dsimp only
          rw [rr_l_e, nI_1, show (1 : Int32) + nI (plS A H (ps.getD pc s0) P).2.1 = nI (1 + (plS A H (ps.getD pc s0) P).2.1) from nI_add 1 _, nI_add, ← Nat.add_assoc]
        rw [e0]
        by_cases e00 : (plS A H (ps.getD pc s0) P).1 = 0
        · rw [if_pos e00]
          rw [e00] at a5
          obtain ⟨S2, b1, b2, b3, b4, b5⟩ := ih (pc + 1 + (plS A H (ps.getD pc s0) P).2.1) (dn + 1) f _ S1 (by omega) (by omega) (by omega) (by omega) (by omega) (shX_fr a2 (by simp) (by simp) hS) (hpX_fr a2 (by simp) (by simp) hp) a3 hP1 (tpX_fr (ls := []) (frY_x a2) (by simp) ht) a4 a5
          exact ⟨S2, b1, frX_t a2 b2, b3, b4, b5⟩
        · rw [if_neg e00]
          obtain ⟨f, rfl⟩ : ∃ g, f = g + 1 := ⟨f - 1, by omega⟩
          refine ⟨S1, ?_, a2, a3, a4, a5⟩
          rw [loop_s, LX3_run_8]
          dsimp only
          rw [a5, if_neg (show ¬ nI (plS A H (ps.getD pc s0) P).1 = 0 from fun w => e00 ((nI_eq (b := 0) (by omega) (by decide)).mp w))]
          split <;> rfl
theorem uX_fl22 : ∀ (m k f : Nat) (S : rr_T), k + m = 4 → m + 1 ≤ f → (∀ j, j < k → S.2.1 22 j = -1) → ∃ S', rr_loop f (LJ_fill_22_5 (-1) (nI 4)) (nI k, S) = some S' ∧ frX [] [22] S S' ∧ ∀ j, j < 4 → S'.2.1 22 j = -1 := by
  intro m
  induction m with
  | zero =>
    intro k f S hk hf hj
    obtain ⟨f, rfl⟩ : ∃ g, f = g + 1 := ⟨f - 1, by omega⟩
    refine ⟨S, ?_, frX_r _ _ _, fun j h => hj j (by omega)⟩
    rw [loop_s, LJ_fill_22_5]
    dsimp only
    rw [if_pos (nI_le (by omega) (by omega))]
  | succ m ih =>
    intro k f S hk hf hj
    obtain ⟨f, rfl⟩ : ∃ g, f = g + 1 := ⟨f - 1, by omega⟩
    have f1 : frX [] [22] S (pA S 22 (nI k) (-1)) := frX_pA (frX_r _ _ _) (by simp)
    obtain ⟨S', b1, b2, b3⟩ := ih (k + 1) f (pA S 22 (nI k) (-1)) (by omega) (by omega) (fun j h => by
      rw [pA_s, nI_clamp (by omega)]
      by_cases e : j = k
      · rw [e, upd_s]
      · rw [upd_n e]; exact hj j (by omega))
    refine ⟨S', ?_, frX_t f1 b2, b3⟩
    rw [loop_s, LJ_fill_22_5]
    dsimp only
    rw [if_neg (nI_ge (by omega) (by decide)), if_pos (inb_nI (by omega) (by decide)), rr_l_e, nI_1]
    exact b1
theorem uX_fl23 : ∀ (m k f : Nat) (S : rr_T), k + m = 5 → m + 1 ≤ f → (∀ j, j < k → S.2.1 23 j = -1) → ∃ S', rr_loop f (LJ_fill_23_5 (-1) (nI 5)) (nI k, S) = some S' ∧ frX [] [23] S S' ∧ ∀ j, j < 5 → S'.2.1 23 j = -1 := by
  intro m
  induction m with
  | zero =>
    intro k f S hk hf hj
    obtain ⟨f, rfl⟩ : ∃ g, f = g + 1 := ⟨f - 1, by omega⟩
    refine ⟨S, ?_, frX_r _ _ _, fun j h => hj j (by omega)⟩
    rw [loop_s, LJ_fill_23_5]
    dsimp only
    rw [if_pos (nI_le (by omega) (by omega))]
  | succ m ih =>
    intro k f S hk hf hj
    obtain ⟨f, rfl⟩ : ∃ g, f = g + 1 := ⟨f - 1, by omega⟩
    have f1 : frX [] [23] S (pA S 23 (nI k) (-1)) := frX_pA (frX_r _ _ _) (by simp)
    obtain ⟨S', b1, b2, b3⟩ := ih (k + 1) f (pA S 23 (nI k) (-1)) (by omega) (by omega) (fun j h => by
      rw [pA_s, nI_clamp (by omega)]
      by_cases e : j = k
      · rw [e, upd_s]
      · rw [upd_n e]; exact hj j (by omega))
    refine ⟨S', ?_, frX_t f1 b2, b3⟩
    rw [loop_s, LJ_fill_23_5]
    dsimp only
    rw [if_neg (nI_ge (by omega) (by decide)), if_pos (inb_nI (by omega) (by decide)), rr_l_e, nI_1]
    exact b1
theorem pX_beg3 (hA : okA A) (hS : shX S A) (hp : hpX S A H) : ∃ S', fX3_begin Z S = some S' ∧ frX yR yQ S S' ∧ pyX S' (plB A H) ∧ S'.1 344 = nI 0 ∧ S'.1 345 = 0 := by
  have hI := hA.2.1
  obtain ⟨S1, a1, a2, a3⟩ := uX_fl22 4 0 FU S (by omega) (by show _ ≤ 5000; omega) (fun j hj => absurd hj (Nat.not_lt_zero _))
  obtain ⟨S2, b1, b2, b3⟩ := uX_fl23 5 0 FU S1 (by omega) (by show _ ≤ 5000; omega) (fun j hj => absurd hj (Nat.not_lt_zero _))
  have a1 : fJ_fill_22 Z S (-1) = some S1 := by rw [fJ_fill_22, rr_l_e]; exact a1
  have b1 : fJ_fill_23 Z S1 (-1) = some S2 := by rw [fJ_fill_23, rr_l_e]; exact b1
  rw [fX3_begin, a1, Option.bind_some, b1, Option.bind_some]
  simp only [rr_l]
  have f3 : frX [340, 341, 342, 344, 345] [] S2 (pI (pI (pI (pI (pI S2 340 0) 341 0) 342 0) 344 0) 345 0) := frX_pI (frX_pI (frX_pI (frX_pI (frX_pI (frX_r _ _ _) (by simp)) (by simp)) (by simp)) (by simp)) (by simp)
  have g0 : (pI (pI (pI (pI (pI S2 340 0) 341 0) 342 0) 344 0) 345 0).1 340 = 0 := by simp [pI_e]
  have g1 : (pI (pI (pI (pI (pI S2 340 0) 341 0) 342 0) 344 0) 345 0).1 341 = 0 := by simp [pI_e]
  have g2 : (pI (pI (pI (pI (pI S2 340 0) 341 0) 342 0) 344 0) 345 0).1 342 = 0 := by simp [pI_e]
  have g4 : (pI (pI (pI (pI (pI S2 340 0) 341 0) 342 0) 344 0) 345 0).1 344 = 0 := by simp [pI_e]
  have g5 : (pI (pI (pI (pI (pI S2 340 0) 341 0) 342 0) 344 0) 345 0).1 345 = 0 := by simp [pI_e]
  generalize pI (pI (pI (pI (pI S2 340 0) 341 0) 342 0) 344 0) 345 0 = S3 at f3 g0 g1 g2 g4 g5 ⊢
  have fS3 : frX [340, 341, 342, 344, 345] [22, 23] S S3 := frX_t (frX_w a2 (by simp) (by simp)) (frX_t (frX_w b2 (by simp) (by simp)) (frX_w f3 (by simp) (by simp)))
  have h22 : ∀ j, j < 4 → S3.2.1 22 j = -1 := by rw [frX_2 f3 (by simp), frX_2 b2 (by simp)]; exact a3
  have h23 : ∀ j, j < 5 → S3.2.1 23 j = -1 := by rw [frX_2 f3 (by simp)]; exact b3
  have hS3 := shX_fr fS3 (by simp) (by simp) hS
  have hp3 := hpX_fr fS3 (by simp) (by simp) hp
  have f4 : ∀ x, frX [] [22] S3 (pA S3 22 (nI 0) x) := fun x => frX_pA (frX_r _ _ _) (by simp)
  have i0 : fX2_inputTells Z S3 (nI 0) = some (nI (if 0 < shI A then H.2.2 0 else 0) - 1) := pX_inputTells hp3 hS3 hI (by decide)
  have i1 : fX2_inputTells Z (pA S3 22 (nI 0) (nI (if 0 < shI A then H.2.2 0 else 0) - 1)) (nI 1) = some (nI (if 1 < shI A then H.2.2 1 else 0) - 1) := pX_inputTells (hpX_fr (f4 _) (by simp) (by simp) hp3) (shX_fr (f4 _) (by simp) (by simp) hS3) hI (by decide)
  have f5 : frX [] [22] S3 (pA (pA S3 22 (nI 0) (nI (if 0 < shI A then H.2.2 0 else 0) - 1)) 22 (nI 1) (nI (if 1 < shI A then H.2.2 1 else 0) - 1)) := frX_pA (f4 _) (by simp)
  have e0 : rr_loop FU (LX3_begin_43 Z) (0, S3) = JX3_begin_68 (pA (pA S3 22 (nI 0) (nI (if 0 < shI A then H.2.2 0 else 0) - 1)) 22 (nI 1) (nI (if 1 < shI A then H.2.2 1 else 0) - 1)) := by
    show rr_loop (4997 + 1 + 1 + 1) (LX3_begin_43 Z) (nI 0, S3) = _
    rw [loop_s, LX3_begin_43]
    dsimp only
    rw [if_neg (show ¬ (2 : Int32) ≤ nI 0 by decide), i0, Option.bind_some, if_pos (show inb (nI 0) 4 = true by decide), rr_l_e, show nI 0 + 1 = nI 1 from rfl, loop_s, LX3_begin_43]
    dsimp only
    rw [if_neg (show ¬ (2 : Int32) ≤ nI 1 by decide), i1, Option.bind_some, if_pos (show inb (nI 1) 4 = true by decide), rr_l_e, show nI 1 + 1 = nI 2 from rfl, loop_s, LX3_begin_43]
    dsimp only
    rw [if_pos (show (2 : Int32) ≤ nI 2 by decide)]
  have h22' : ∀ v, v < 4 → (pA (pA S3 22 (nI 0) (nI (if 0 < shI A then H.2.2 0 else 0) - 1)) 22 (nI 1) (nI (if 1 < shI A then H.2.2 1 else 0) - 1)).2.1 22 v = nI (if v < shI A then H.2.2 v else 0) - 1 := by
    intro v hv
    rw [pA_s, pA_s, nI_clamp (by decide), nI_clamp (by decide)]
    rcases (show v = 0 ∨ v = 1 ∨ v = 2 ∨ v = 3 by omega) with rfl | rfl | rfl | rfl
    · rw [upd_n (by decide), upd_s]
    · rw [upd_s]
    · rw [upd_n (by decide), upd_n (by decide), h22 2 (by decide), if_neg (by omega)]; rfl
    · rw [upd_n (by decide), upd_n (by decide), h22 3 (by decide), if_neg (by omega)]; rfl
  rw [e0, JX3_begin_68, rr_l_e]
  generalize pA (pA S3 22 (nI 0) (nI (if 0 < shI A then H.2.2 0 else 0) - 1)) 22 (nI 1) (nI (if 1 < shI A then H.2.2 1 else 0) - 1) = S4 at f5 h22' ⊢
  have f6 : frX [343] [] S4 (pI S4 343 ((1 : Int32) <<< (S4.1 21 &&& 31) - 1)) := frX_pI (frX_r _ _ _) (by simp)
  have fS4 : frX [340, 341, 342, 344, 345] [22, 23] S S4 := frX_t fS3 (frX_w f5 (by simp) (by simp))
  have e21 : S4.1 21 = nI (shI A) := (shX_fr fS4 (by simp) (by simp) hS).2.1
  obtain ⟨m1, m2⟩ := b5_m (shI A) (by omega)
  refine ⟨_, rfl, frX_t (frX_w fS4 (by simp) (by simp)) (frX_w f6 (by simp) (by simp)), ⟨?_, ⟨2 ^ shI A - 1, m1, ?_, fun v hv => ?_⟩, ⟨0, by decide, ?_, fun s _ => ?_⟩, fun o ho => ?_, ?_, ?_, fun i hi => ?_⟩, ?_, ?_⟩
  · exact h22'
  · rw [pI_s, e21, b5_i (shI A) (by omega)]
  · exact m2 v (by omega)
  · rw [pI_n (by decide), frX_1 f5 (by simp)]; exact g2
  · rw [Nat.zero_testBit]; rfl
  · rw [pI_2, frX_2 f5 (by simp)]; exact h23 o ho
  · rw [pI_n (by decide), frX_1 f5 (by simp)]; exact g1
  · rw [pI_n (by decide), frX_1 f5 (by simp)]; exact g0
  · exact absurd hi (Nat.not_lt_zero _)
  · rw [pI_n (by decide), frX_1 f5 (by simp)]; exact g4
  · rw [pI_n (by decide), frX_1 f5 (by simp)]; exact g5
/-- a play of the program with a heap -/
theorem pX_run {ps : List Sp} (hA : okA A) (hH : okH A H) (hG : okG ps) (hS : shX S A) (hp : hpX S A H) (ht : tpX Z S ps) : ∃ S', fX3_run Z S = some S' ∧ frX yR yQ S S' ∧ pyX S' (plH A H ps).2.2 ∧ S'.1 344 = nI (plH A H ps).2.1 ∧ S'.1 345 = nI (plH A H ps).1 := by
  obtain ⟨S1, a1, a2, a3, a4, a5⟩ := pX_beg3 (Z := Z) hA hS hp
  obtain ⟨S2, b1, b2, b3, b4, b5⟩ := uX_run8 (Z := Z) hA hH hG.2 17 0 0 FU (plB A H) S1 (by omega) (by omega) (by omega) (by omega) (by show _ ≤ 5000; omega) (shX_fr a2 (by simp) (by simp) hS) (hpX_fr a2 (by simp) (by simp) hp) a3 (plB_ok hA hH) (tpX_fr (ls := []) (frY_x a2) (by simp) ht) a4 a5
  rw [fX3_run, a1, Option.bind_some]
  exact ⟨S2, b1, frX_t a2 b2, b3, b4, b5⟩
end XPLAY

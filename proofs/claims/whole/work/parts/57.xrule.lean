/-! ===== L3: the class's rules ===== -/
/-- X's registers tell the heap H -/
def hpX (S : rr_T) (A : Sh) (H : Hp) : Prop := S.1 168 = nI H.1.length ∧ (∀ j, j < H.1.length → S.2.1 11 j = nI (H.1.getD j 0)) ∧ (∀ o f, o < H.1.length → f < shC A (H.1.getD o 0) → S.2.1 12 (2 + 4 * o + f) = mv (shT A (H.1.getD o 0) f) (H.2.1 o f)) ∧ ∀ i, i < shI A → S.2.1 12 i = nI (H.2.2 i) - 1
theorem hpX_of {A : Sh} {S : rr_T} {r : Rw} (hA : okA A) (h : okW A r) (hc : cuX A S r) : hpX S A (hpR A r) := by
  obtain ⟨c1, c2, c3, c4, c5, c6, c7, c8⟩ := hc
  obtain ⟨i1, i2⟩ := ob_ok hA r.1 h.1
  have hno : ∀ s w, sl A r.2 r.1 = some w → s < w := fun s w e => by rw [h.2] at e; cases e
  have hK := hA.1
  refine ⟨c2, c5, fun o f ho hf => ?_, fun i hi => ?_⟩
  · have ho : o < (ob r.2 r.1).length := ho
    have hf : f < shC A ((ob r.2 r.1).getD o 0) := hf
    have hk : (ob r.2 r.1).getD o 0 < shK A := i2 _ (getD_mem ho)
    have hf4 : f < 4 := Nat.lt_of_lt_of_le hf (hA.2.2.2.2.1 _ (by omega))
    have := c6 (2 + 4 * o + f) (shT A ((ob r.2 r.1).getD o 0) f) (by rw [typ_f ho hf4, if_pos hf]) (hno _)
    exact this
  · have h2 := hA.2.1
    have hN := hA.2.2.2.2.2.2 i hi
    have := c6 i (shN A i) (by rw [typ_i (show i < 2 by omega), if_pos hi]) (hno _)
    rw [this]
    exact if_pos (by omega)
/-- g of a rule, as X keeps it -/
def gn (q : Ru) : Nat := if (q.1 = 1 ∨ q.1 = 2) ∧ q.2.2.2 = q.2.2.1 + 1 then 0 else q.2.2.2
/-- X's rule number i is q -/
def rlX (P : rr_T) (i : Nat) (q : Ru) : Prop := P.1 (16 * (34 + i)) = nI q.1 ∧ (¬ q.1 = 6 → P.1 (16 * (34 + i) + 1) = nI q.2.1 ∧ P.1 (16 * (34 + i) + 2) = nI q.2.2.1 ∧ (¬ q.1 = 0 → P.1 (16 * (34 + i) + 3) = nI (gn q) - 1))
section XRULE
variable {A : Sh} {P S : rr_T} {H : Hp} {q : Ru} {i : Nat}
theorem pX_isU (hA : okA A) (hS : shX S A) (hH : okH A H) (hp : hpX S A H) {o t : Nat} (ho : o < H.1.length) (ht : t < shK A) : fX2_isUnder P S (nI o) (nI t) = some (if shU A (H.1.getD o 0) t = true then 1 else 0) := by
  have h5 := hH.1
  rw [fX2_isUnder, if_neg (nI_pos (by omega)), hp.1, if_neg (nI_ge ho (by omega)), if_pos (inb_nI (by omega) (by decide)), nI_clamp (by omega), hp.2.1 o ho, pX_isUnder hA hS (hH.2.1 _ (getD_mem ho)) ht, Option.bind_some]
  by_cases e : shU A (H.1.getD o 0) t = true
  · rw [if_pos e, if_neg (show ¬ (1 : Int32) = 0 by decide)]
  · rw [if_neg e, if_pos rfl]
theorem pX_isUM (hp : hpX S A H) {y : Int32} : fX2_isUnder P S (-1) y = some 0 := by
  rw [fX2_isUnder, if_pos (by decide)]
theorem pX_tells (hp : hpX S A H) (h5 : H.1.length ≤ 5) {o f : Nat} (ho : o < H.1.length) (hf : f < 4) : fX2_fieldTells P S (nI o) (nI f) = some (S.2.1 12 (2 + 4 * o + f)) := by
  rw [fX2_fieldTells, if_neg (nI_pos (by omega)), hp.1, if_neg (nI_ge ho (by omega)), if_neg (nI_pos (by omega)), if_pos (show nI f < 4 from nI_lt (b := 4) hf (by decide)), show nI o * 4 = nI (o * 4) from pk_mul o 4, show (2 : Int32) + nI (o * 4) = nI (2 + o * 4) from nI_add 2 _, nI_add, if_pos (inb_nI (by omega) (by decide)), nI_clamp (by omega), Nat.mul_comm o 4]
/-- a field of the rule's kind -/
theorem pX_tell (hV : okV A) (hH : okH A H) (hp : hpX S A H) {o f : Nat} (ho : o < H.1.length) (hs : suc A q H o = true) (hf : f < shC A q.2.1) : fX2_fieldTells P S (nI o) (nI f) = some (mv (shT A q.2.1 f) (H.2.1 o f)) ∧ (shT A q.2.1 f < 4 → H.2.1 o f ≤ H.1.length) ∧ (¬ shT A q.2.1 f < 4 → H.2.1 o f ≤ 3) := by
  obtain ⟨h1, h2, h3⟩ := hV.2.2 (H.1.getD o 0) q.2.1 (hH.2.1 _ (getD_mem ho)) hs
  have hK := hV.1.1
  have hk := hH.2.1 _ (getD_mem ho)
  have h4 := hV.1.2.2.2.2.1 q.2.1 (by omega)
  have := hH.2.2.1 o f ho (by omega)
  rw [h3 f hf] at this
  refine ⟨?_, this⟩
  rw [pX_tells hp hH.1 ho (by omega), hp.2.2.1 o f ho (by omega), h3 f hf]
theorem pX_bit (hV : okV A) (hH : okH A H) (hp : hpX S A H) {o f : Nat} (ho : o < H.1.length) (hs : suc A q H o = true) (hf : f < shC A q.2.1) (ht : shT A q.2.1 f < 4) : fX6_bit P S (nI o) (nI f) = some (nI (bt (H.2.1 o f))) ∧ H.2.1 o f < 6 := by
  obtain ⟨t1, t2, -⟩ := pX_tell (P := P) hV hH hp ho hs hf
  have t2 := t2 ht
  have h5 := hH.1
  refine ⟨?_, by omega⟩
  rw [fX6_bit, t1, Option.bind_some, show mv (shT A q.2.1 f) (H.2.1 o f) = nI (H.2.1 o f) - 1 from if_pos ht]
  unfold bt
  by_cases z : H.2.1 o f = 0
  · rw [if_pos ((m1_iff (by omega)).mpr z), if_pos z]; rfl
  · obtain ⟨y, hy⟩ : ∃ y, H.2.1 o f = y + 1 := ⟨H.2.1 o f - 1, by omega⟩
    rw [if_neg (fun w => z ((m1_iff (by omega)).mp w)), if_neg z, hy, nI_pred, b5_p y (by omega)]
    rfl
theorem pX_bitM (hp : hpX S A H) (h5 : H.1.length ≤ 5) {o : Nat} (ho : o < H.1.length) : fX6_bit P S (nI o) (-1) = some 0 := by
  rw [fX6_bit, fX2_fieldTells, if_neg (nI_pos (by omega)), hp.1, if_neg (nI_ge ho (by omega)), if_pos (show (-1 : Int32) < 0 by decide), Option.bind_some, if_pos rfl]
/-- the value of g in sorts 1, 2 -/
def gv (q : Ru) (H : Hp) (o : Nat) : Nat := if gn q = 0 then 0 else H.2.1 o (gn q - 1)
theorem gn_ok (hq : okQ A q) (h : q.1 = 1 ∨ q.1 = 2) (h0 : ¬ gn q = 0) : gn q = q.2.2.2 ∧ ¬ q.2.2.2 = q.2.2.1 + 1 ∧ q.2.2.2 - 1 < shC A q.2.1 ∧ shT A q.2.1 (q.2.2.2 - 1) < 4 := by
  unfold gn at h0 ⊢
  by_cases e : (q.1 = 1 ∨ q.1 = 2) ∧ q.2.2.2 = q.2.2.1 + 1
  · rw [if_pos e] at h0; exact absurd rfl h0
  · rw [if_neg e] at h0 ⊢
    exact ⟨rfl, fun w => e ⟨h, w⟩, okQ_g hq h (by omega)⟩
theorem pX_bitG (hV : okV A) (hH : okH A H) (hp : hpX S A H) (hq : okQ A q) (h : q.1 = 1 ∨ q.1 = 2) {o : Nat} (ho : o < H.1.length) (hs : suc A q H o = true) : fX6_bit P S (nI o) (nI (gn q) - 1) = some (nI (bt (gv q H o))) ∧ gv q H o < 6 := by
  unfold gv
  by_cases e : gn q = 0
  · rw [e, if_pos rfl]
    exact ⟨pX_bitM hp hH.1 ho, by decide⟩
  · rw [if_neg e]
    obtain ⟨g1, g2, g3, g4⟩ := gn_ok hq h e
    obtain ⟨γ, hγ⟩ : ∃ γ, gn q = γ + 1 := ⟨gn q - 1, by omega⟩
    rw [← g1, hγ] at g3 g4
    rw [hγ, nI_pred]
    exact pX_bit hV hH hp ho hs g3 g4
/-- where an object leads to, as bits -/
def ouq (A : Sh) (q : Ru) (H : Hp) (x : Nat) : Nat := if suc A q H x = true then bt (H.2.1 x q.2.2.1) ||| bt (gv q H x) else 0
theorem uX_nc23 (hV : okV A) (hS : shX S A) (hH : okH A H) (hp : hpX S A H) (hr : rlX P i q) (hq : okQ A q) (h1 : q.1 = 1) {rec : Int32 × Int32 → Option Int32} {a3 : Int32 × Int32} : ∀ (m x f w : Nat), x + m = H.1.length → m + 1 ≤ f → w < 32 → rr_loop f (LX6_hasNoCycle_23 P S (34 + i) rec a3) (nI w, nI x) = rec (nI (rnF (ouq A q H) m x w), a3.2 + 1) := by
  have h5 := hH.1
  obtain ⟨k1, k2, k3⟩ := okQ_k hq (by omega)
  obtain ⟨r1, r2, r3⟩ := hr.2 (by omega)
  have r3 := r3 (by omega)
  intro m
  induction m with
  | zero =>
    intro x f w hx hf hw
    obtain ⟨f, rfl⟩ : ∃ g, f = g + 1 := ⟨f - 1, by omega⟩
    rw [loop_s, LX6_hasNoCycle_23]
    dsimp only
    rw [hp.1, if_pos (nI_le (by omega) (by omega))]
    rfl
  | succ m ih =>
    intro x f w hx hf hw
    obtain ⟨f, rfl⟩ : ∃ g, f = g + 1 := ⟨f - 1, by omega⟩
    have hxl : x < H.1.length := by omega
    have e70 : ∀ o, o < 32 → o = ouq A q H x → JX6_hasNoCycle_70 (rr_loop f (LX6_hasNoCycle_23 P S (34 + i) rec a3)) (nI w, nI x) (nI o) = rec (nI (rnF (ouq A q H) (m + 1) x w), a3.2 + 1) := by
      intro o ho eo
      have hs := stp_ok (o := ouq A q H) hw (show x < 5 by omega)
      have ih' := ih (x + 1) f (stp (ouq A q H) w x) (by omega) (by omega) hs.1
      rw [JX6_hasNoCycle_70]
      dsimp only
      rw [nI_andN (by omega) (by omega), nI_1]
      have hle : o &&& w ≤ o := Nat.and_le_left
      show _ = rec (nI (rnF (ouq A q H) m (x + 1) (stp (ouq A q H) w x)), a3.2 + 1)
      by_cases z : o &&& w = 0
      · have es : stp (ouq A q H) w x = clr w x := by unfold stp; rw [← eo]; exact if_pos z
        rw [es] at ih' ⊢
        rw [if_pos (show nI (o &&& w) = 0 by rw [z]; rfl), rr_l_e, b5_c w hw x (by omega)]
        exact ih'
      · have es : stp (ouq A q H) w x = w := by unfold stp; rw [← eo]; exact if_neg z
        rw [es] at ih' ⊢
        rw [if_neg (nI_ne0 (by omega) (by omega))]
        exact ih'
    rw [loop_s, LX6_hasNoCycle_23]
    dsimp only
    rw [hp.1, if_neg (nI_ge (by omega) (by omega)), r1, pX_isU hV.1 hS hH hp hxl k1, Option.bind_some]
    by_cases hs : suc A q H x = true
    · have hs' : shU A (H.1.getD x 0) q.2.1 = true := hs
      obtain ⟨b1, b2⟩ := pX_bit (P := P) hV hH hp hxl hs k2 k3
      obtain ⟨c1, c2⟩ := pX_bitG (P := P) hV hH hp hq (Or.inl h1) hxl hs
      have t1 := (bt_t _ b2).1
      have t2 := (bt_t _ c2).1
      rw [if_pos hs', if_neg (show ¬ (1 : Int32) = 0 by decide), r2, b1, Option.bind_some, r3, c1, Option.bind_some, nI_orN (by omega) (by omega)]
      exact e70 _ (or_32 t1 t2) (by unfold ouq; rw [if_pos hs])
    · have hs' : ¬ shU A (H.1.getD x 0) q.2.1 = true := hs
      rw [if_neg hs', if_pos rfl]
      exact e70 0 (by decide) (by unfold ouq; rw [if_neg hs])
theorem rnF_32 {o : Nat → Nat} {n w : Nat} (hn : n ≤ 5) (hw : w < 32) : rnF o n 0 w < 32 := (rnF_ok n 0 w (by omega) hw).1
theorem uX_nc11 (hV : okV A) (hS : shX S A) (hH : okH A H) (hp : hpX S A H) (hr : rlX P i q) (hq : okQ A q) (h1 : q.1 = 1) : ∀ (m k f w : Nat), k + m = 5 → m + 1 ≤ f → w < 32 → rr_loop f (LX6_hasNoCycle_11 P S (34 + i)) (nI w, nI k) = some (if ouF (ouq A q H) H.1.length m w = 0 then 1 else 0) := by
  have h5 := hH.1
  have e100 : ∀ w, w < 32 → JX6_hasNoCycle_100 (nI w) = some (if w = 0 then 1 else 0) := by
    intro w hw
    rw [JX6_hasNoCycle_100]
    by_cases z : w = 0
    · rw [if_pos (show nI w = 0 by rw [z]; rfl), if_pos z]
    · rw [if_neg (nI_ne0 (by omega) (by omega)), if_neg z]
  intro m
  induction m with
  | zero =>
    intro k f w hk hf hw
    obtain ⟨f, rfl⟩ : ∃ g, f = g + 1 := ⟨f - 1, by omega⟩
    rw [loop_s, LX6_hasNoCycle_11]
    dsimp only
    rw [if_pos (show (5 : Int32) ≤ nI k from nI_le (a := 5) (by omega) (by omega)), e100 w hw]
    rfl
  | succ m ih =>
    intro k f w hk hf hw
    obtain ⟨f, rfl⟩ : ∃ g, f = g + 1 := ⟨f - 1, by omega⟩
    rw [loop_s, LX6_hasNoCycle_11]
    dsimp only
    rw [if_neg (show ¬ (5 : Int32) ≤ nI k from nI_ge (b := 5) (by omega) (by decide)), e100 w hw]
    unfold ouF
    by_cases z : w = 0
    · rw [if_pos (show nI w = 0 by rw [z]; rfl), if_pos z, if_pos z, if_pos rfl]
    · have e0 : rr_loop FU (LX6_hasNoCycle_23 P S (34 + i) (rr_loop f (LX6_hasNoCycle_11 P S (34 + i))) (nI w, nI k)) (nI w, 0) = rr_loop f (LX6_hasNoCycle_11 P S (34 + i)) (nI (rnF (ouq A q H) H.1.length 0 w), nI k + 1) := uX_nc23 hV hS hH hp hr hq h1 (rec := rr_loop f (LX6_hasNoCycle_11 P S (34 + i))) (a3 := (nI w, nI k)) H.1.length 0 FU w (Nat.zero_add _) (by show _ ≤ 5000; omega) hw
      rw [if_neg (nI_ne0 (by omega) (by omega)), if_neg z, e0, nI_1]
      exact ih (k + 1) f _ (by omega) (by omega) (rnF_32 h5 hw)
theorem pX_hasNoCycle (hV : okV A) (hS : shX S A) (hH : okH A H) (hp : hpX S A H) (hr : rlX P i q) (hq : okQ A q) (h1 : q.1 = 1) (hP : i < P.2.2.2 34) (hi : i < 6) : (cyc (edg A q H) H.1.length → fX6_hasNoCycle P S (34 + i) = some 0) ∧ (¬ cyc (edg A q H) H.1.length → fX6_hasNoCycle P S (34 + i) = some 1) := by
  have h5 := hH.1
  obtain ⟨k1, k2, k3⟩ := okQ_k hq (show ¬ q.1 = 6 by omega)
  have hoE : ∀ x, x < H.1.length → ouq A q H x < 32 ∧ ∀ y, y < 5 → ((ouq A q H x).testBit y = true ↔ edg A q H x y = true ∧ y < H.1.length) := by
    intro x hx
    unfold ouq edg
    cases hs : suc A q H x with
    | false =>
      rw [if_neg (show ¬ false = true by decide)]
      exact ⟨by decide, fun y _ => by simp⟩
    | true =>
      rw [if_pos rfl]
      obtain ⟨-, t2, -⟩ := pX_tell (P := P) hV hH hp hx hs k2
      have t2 := t2 k3
      have hgv : gv q H x ≤ H.1.length := by
        unfold gv
        by_cases e : gn q = 0
        · rw [if_pos e]; omega
        · rw [if_neg e]
          obtain ⟨g1, g2, g3, g4⟩ := gn_ok hq (Or.inl h1) e
          rw [g1]
          obtain ⟨-, u2, -⟩ := pX_tell (P := P) hV hH hp hx hs g3
          exact u2 g4
      obtain ⟨b1, b2⟩ := bt_t (H.2.1 x q.2.2.1) (by omega)
      obtain ⟨c1, c2⟩ := bt_t (gv q H x) (by omega)
      refine ⟨or_32 b1 c1, fun y hy => ?_⟩
      rw [Nat.testBit_or, b2 y hy, c2 y hy]
      simp only [Bool.or_eq_true, Bool.and_eq_true, decide_eq_true_eq, true_and]
      constructor
      · rintro (z | z)
        · exact ⟨Or.inl z, by omega⟩
        · refine ⟨Or.inr ?_, by omega⟩
          unfold gv at z
          by_cases e : gn q = 0
          · rw [if_pos e] at z; omega
          · rw [if_neg e] at z
            obtain ⟨g1, -⟩ := gn_ok hq (Or.inl h1) e
            rw [g1] at z e
            exact ⟨by omega, z⟩
      · rintro ⟨z | ⟨z0, z⟩, -⟩
        · exact Or.inl z
        · by_cases e : q.2.2.2 = q.2.2.1 + 1
          · left
            rw [e] at z
            exact z
          · right
            have en : gn q = q.2.2.2 := if_neg (fun w => e w.2)
            unfold gv
            rw [en, if_neg (by omega)]
            exact z
  have hc := ouF_cyc h5 hoE
  have u := uX_nc11 hV hS hH hp hr hq h1 5 0 FU (2 ^ H.1.length - 1) rfl (by decide) (b5_m _ (by omega)).1
  have e : fX6_hasNoCycle P S (34 + i) = some (if ouF (ouq A q H) H.1.length 5 (2 ^ H.1.length - 1) = 0 then 1 else 0) := by
    rw [fX6_hasNoCycle, if_pos ⟨by omega, by omega, by omega⟩, rr_l_e, hp.1, b5_i _ (by omega)]
    exact u
  rw [e]
  exact ⟨fun z => by rw [if_neg (fun w => hc.mp w z)], fun z => by rw [if_pos (hc.mpr z)]⟩
end XRULE

/-! ===== L3: the reference's rules ===== -/
/-- M's registers tell the heap H -/
def hpM (M : rr_T) (A : Sh) (H : Hp) : Prop := obM M H.1 ∧ (∀ o f, o < H.1.length → f < shC A (H.1.getD o 0) → M.2.1 29 (4 * o + f) = mv (shT A (H.1.getD o 0) f) (H.2.1 o f)) ∧ ∀ i, i < shI A → M.2.1 28 i = nI (H.2.2 i) - 1
theorem hpM_of {A : Sh} {M : rr_T} {r : Nat × (Nat → Nat)} (hA : okA A) (h : okW A r) (hc : cuM A r.2 M r.1) : hpM M A (hpR A r) := by
  obtain ⟨c1, -, -, c4⟩ := hc
  obtain ⟨i1, i2⟩ := ob_ok hA r.1 h.1
  have hno : ∀ s w, sl A r.2 r.1 = some w → s < w := fun s w e => by rw [h.2] at e; cases e
  have hK := hA.1
  refine ⟨c1, fun o f ho hf => ?_, fun i hi => ?_⟩
  · have ho : o < (ob r.2 r.1).length := ho
    have hf : f < shC A ((ob r.2 r.1).getD o 0) := hf
    have hk : (ob r.2 r.1).getD o 0 < shK A := i2 _ (getD_mem ho)
    have hf4 : f < 4 := Nat.lt_of_lt_of_le hf (hA.2.2.2.2.1 _ (by omega))
    have := c4 (2 + 4 * o + f) _ (by rw [typ_f ho hf4, if_pos hf]) (hno _)
    unfold tlM at this
    rw [if_neg (by omega), show 2 + 4 * o + f - 2 = 4 * o + f by omega] at this
    exact this
  · have h2 := hA.2.1
    have hN := hA.2.2.2.2.2.2 i hi
    have := c4 i _ (by rw [typ_i (by omega), if_pos hi]) (hno _)
    unfold tlM mv at this
    rw [if_pos (by omega), if_pos (by omega)] at this
    exact this
/-- M's rule number i is q -/
def rlM (M : rr_T) (i : Nat) (q : Ru) : Prop := M.2.1 6 i = nI q.1 ∧ (¬ q.1 = 6 → M.2.1 7 i = nI q.2.1 ∧ M.2.1 8 i = nI q.2.2.1 ∧ (¬ q.1 = 0 → M.2.1 9 i = nI q.2.2.2 - 1))
theorem m1_iff {x : Nat} (h : x < 2 ^ 31) : nI x - 1 = -1 ↔ x = 0 := by
  cases x with
  | zero => exact ⟨fun _ => rfl, fun _ => by decide⟩
  | succ x => rw [nI_pred]; exact ⟨fun q => absurd q (nI_m1 (by omega)), fun q => by omega⟩
theorem m1_inj {x y : Nat} (h : x < 2 ^ 31) (hy : y < 2 ^ 31) : nI x - 1 = nI y - 1 ↔ x = y := by
  constructor
  · intro e
    have e1 : nI x = nI y := by
      have := congrArg (· + 1) e
      simpa using this
    exact (nI_eq h hy).mp e1
  · intro e; rw [e]
theorem m1_eqN {x y : Nat} (h : x < 2 ^ 31) (hy : y + 1 < 2 ^ 31) : nI x - 1 = nI y ↔ x = y + 1 := by
  rw [← nI_pred y, m1_inj h (by omega)]
section MRULE
variable {A : Sh} {M : rr_T} {H : Hp} {q : Ru} {i : Nat}
theorem okQ_k (h : okQ A q) (h6 : ¬ q.1 = 6) : q.2.1 < shK A ∧ q.2.2.1 < shC A q.2.1 ∧ shT A q.2.1 q.2.2.1 < 4 := by
  rcases h with h | h
  · exact absurd h h6
  · exact ⟨h.1, h.2.1, h.2.2.1⟩
theorem pM_isSuch (hA : okA A) (hS : shM M A) (hH : okH A H) (hp : hpM M A H) (hi : i < 6) (hr : rlM M i q) (hq : okQ A q) (h6 : ¬ q.1 = 6) {o : Nat} (ho : o < H.1.length) : fM_isSuch M (nI o) (nI i) = some (if suc A q H o = true then 1 else 0) := by
  have h5 := hH.1
  have hK := hA.1
  rw [fM_isSuch, if_pos (inb_nI (by omega) (by decide)), if_pos (inb_nI hi (by decide)), nI_clamp (by omega), nI_clamp (by omega), hp.1.2 o ho, (hr.2 h6).1, pM_isUnder hA hS (hH.2.1 _ (getD_mem ho)) (by have := (okQ_k hq h6).1; omega), Option.bind_some]
  unfold suc
  cases shU A (H.1.getD o 0) q.2.1 <;> rfl
/-- a field that the rule's kind has, of an object UNDER that -/
theorem pM_tell (hV : okV A) (hH : okH A H) (hp : hpM M A H) {o f : Nat} (ho : o < H.1.length) (hs : suc A q H o = true) (hf : f < shC A q.2.1) : M.2.1 29 (4 * o + f) = mv (shT A q.2.1 f) (H.2.1 o f) ∧ f < 4 ∧ (shT A q.2.1 f < 4 → H.2.1 o f ≤ H.1.length) ∧ (¬ shT A q.2.1 f < 4 → H.2.1 o f ≤ 3) := by
  obtain ⟨h1, h2, h3⟩ := hV.2.2 (H.1.getD o 0) q.2.1 (hH.2.1 _ (getD_mem ho)) hs
  have hK := hV.1.1
  have hk := hH.2.1 _ (getD_mem ho)
  have h4 := hV.1.2.2.2.2.1 q.2.1 (by omega)
  have := hH.2.2.1 o f ho (by omega)
  rw [h3 f hf] at this
  refine ⟨?_, by omega, this⟩
  rw [← h3 f hf]
  exact hp.2.1 o f ho (by omega)
theorem ix4 (o f : Nat) : (4 : Int32) * nI o + nI f = nI (4 * o + f) := by rw [show (4 : Int32) * nI o = nI (4 * o) from pk_mul 4 o, nI_add]
theorem ix5 (o f : Nat) : (5 : Int32) * nI o + nI f = nI (5 * o + f) := by rw [show (5 : Int32) * nI o = nI (5 * o) from pk_mul 5 o, nI_add]
theorem pM_holdsAt (hV : okV A) (hS : shM M A) (hH : okH A H) (hp : hpM M A H) (hi : i < 6) (hr : rlM M i q) (hq : okQ A q) (h6 : ¬ q.1 = 6) (h1 : ¬ q.1 = 1) (h2 : ¬ q.1 = 2) {o : Nat} (ho : o < H.1.length) (hs : suc A q H o = true) : fM_holdsAt M (nI i) (nI o) = some (if hAt A q H o = true then 1 else 0) := by
  have hA := hV.1
  have h5 := hH.1
  obtain ⟨hk1, hk2, hk3⟩ := okQ_k hq h6
  obtain ⟨t1, t2, t3, -⟩ := pM_tell hV hH hp ho hs hk2
  have t3 := t3 hk3
  obtain ⟨r1, r2, r3⟩ := hr.2 h6
  have hq6 : q.1 ≤ 5 := by
    rcases hq with hq | ⟨-, -, -, hq⟩
    · exact absurd hq h6
    · omega
  rw [fM_holdsAt, if_pos (inb_nI hi (by decide)), nI_clamp (by omega), r2, ix4, if_pos (inb_nI (by omega) (by decide)), nI_clamp (by omega), t1, hr.1]
  simp only [rr_l]
  rw [if_pos (inb_nI hi (by decide)), show mv (shT A q.2.1 q.2.2.1) (H.2.1 o q.2.2.1) = nI (H.2.1 o q.2.2.1) - 1 from if_pos hk3]
  unfold hAt
  by_cases e0 : q.1 = 0
  · rw [if_pos (by rw [e0]; rfl), if_pos e0]
    by_cases z : H.2.1 o q.2.2.1 = 0
    · rw [if_pos ((m1_iff (by omega)).mpr z), z]; rfl
    · rw [if_neg (fun w => z ((m1_iff (by omega)).mp w)), decide_eq_false z]; rfl
  · rw [if_neg (nI_ne0 (by omega) (by omega)), if_neg e0, if_neg (show ¬ nI q.1 = 1 from fun w => h1 ((nI_eq (b := 1) (by omega) (by decide)).mp w)), if_neg (show ¬ nI q.1 = 2 from fun w => h2 ((nI_eq (b := 2) (by omega) (by decide)).mp w))]
    have r3 := r3 e0
    by_cases e3 : q.1 = 3
    · rw [if_pos (by rw [e3]; rfl), if_pos e3]
      have hg : 0 < q.2.2.2 ∧ q.2.2.2 - 1 < shC A q.2.1 ∧ shT A q.2.1 (q.2.2.2 - 1) < 4 := by
        rcases hq with hq | ⟨-, -, -, hq⟩
        · exact absurd hq h6
        · rcases hq with hq | ⟨hq, -⟩ | hq | ⟨hq, -⟩
          · exact absurd hq e0
          · omega
          · exact hq.2
          · omega
      by_cases z : H.2.1 o q.2.2.1 = 0
      · rw [if_pos ((m1_iff (by omega)).mpr z), z]; rfl
      · obtain ⟨y, hy⟩ : ∃ y, H.2.1 o q.2.2.1 = y + 1 := ⟨H.2.1 o q.2.2.1 - 1, by omega⟩
        obtain ⟨g, hgg⟩ : ∃ g, q.2.2.2 = g + 1 := ⟨q.2.2.2 - 1, by omega⟩
        rw [if_neg (fun w => z ((m1_iff (by omega)).mp w)), decide_eq_false z, Bool.false_or, hy, nI_pred, show y + 1 - 1 = y from rfl, pM_isSuch hA hS hH hp hi hr hq h6 (by omega), Option.bind_some]
        by_cases hsy : suc A q H y = true
        · rw [hgg, show g + 1 - 1 = g from rfl] at hg
          obtain ⟨u1, u2, u3, -⟩ := pM_tell hV hH hp (o := y) (by omega) hsy hg.2.1
          have u3 := u3 hg.2.2
          rw [if_pos hsy, if_neg (by decide), if_pos (inb_nI hi (by decide)), r3, hgg, nI_pred, ix4, if_pos (inb_nI (by omega) (by decide)), nI_clamp (by omega), u1, show mv (shT A q.2.1 g) (H.2.1 y g) = nI (H.2.1 y g) - 1 from if_pos hg.2.2, show g + 1 - 1 = g from rfl, hsy, Bool.true_and]
          by_cases w : H.2.1 y g = o + 1
          · rw [if_pos ((m1_eqN (by omega) (by omega)).mpr w), decide_eq_true w]; rfl
          · rw [if_neg (fun z => w ((m1_eqN (by omega) (by omega)).mp z)), decide_eq_false w]; rfl
        · rw [if_neg hsy, if_pos rfl, Bool.eq_false_iff.mpr hsy]; rfl
    · rw [if_neg (show ¬ nI q.1 = 3 from fun w => e3 ((nI_eq (b := 3) (by omega) (by decide)).mp w)), if_neg e3]
      have hg : 0 < q.2.2.2 ∧ q.2.2.2 - 1 < shC A q.2.1 ∧ ¬ shT A q.2.1 (q.2.2.2 - 1) < 4 := by
        rcases hq with hq | ⟨-, -, -, hq⟩
        · exact absurd hq h6
        · rcases hq with hq | ⟨hq, -⟩ | hq | ⟨-, hq⟩
          · exact absurd hq e0
          · omega
          · omega
          · exact hq
      obtain ⟨g, hgg⟩ : ∃ g, q.2.2.2 = g + 1 := ⟨q.2.2.2 - 1, by omega⟩
      rw [hgg, show g + 1 - 1 = g from rfl] at hg
      obtain ⟨v1, v2, -, v3⟩ := pM_tell hV hH hp ho hs hg.2.1
      have v3 := v3 hg.2.2
      rw [hgg, nI_pred] at r3
      by_cases e4 : q.1 = 4
      · rw [if_pos (by rw [e4]; rfl), if_pos e4]
        by_cases z : H.2.1 o q.2.2.1 = 0
        · rw [if_pos ((m1_iff (by omega)).mpr z), z]; rfl
        · obtain ⟨y, hy⟩ : ∃ y, H.2.1 o q.2.2.1 = y + 1 := ⟨H.2.1 o q.2.2.1 - 1, by omega⟩
          rw [if_neg (fun w => z ((m1_iff (by omega)).mp w)), decide_eq_false z, Bool.false_or, hy, nI_pred, show y + 1 - 1 = y from rfl, pM_isSuch hA hS hH hp hi hr hq h6 (by omega), Option.bind_some]
          by_cases hsy : suc A q H y = true
          · obtain ⟨u1, u2, -, u3⟩ := pM_tell hV hH hp (o := y) (by omega) hsy hg.2.1
            have u3 := u3 hg.2.2
            rw [if_pos hsy, if_neg (by decide), if_pos (inb_nI hi (by decide)), r3, ix4, if_pos (inb_nI (by omega) (by decide)), if_pos (inb_nI hi (by decide)), ix4, if_pos (inb_nI (by omega) (by decide)), nI_clamp (by omega), nI_clamp (by omega), u1, v1, show mv (shT A q.2.1 g) (H.2.1 y g) = nI (H.2.1 y g) from if_neg hg.2.2, show mv (shT A q.2.1 g) (H.2.1 o g) = nI (H.2.1 o g) from if_neg hg.2.2, hgg, show g + 1 - 1 = g from rfl, hsy, Bool.not_true, Bool.false_or]
            by_cases w : H.2.1 o g ≤ H.2.1 y g
            · rw [if_neg (nI_nlt w (by omega)), decide_eq_true w]; rfl
            · rw [if_pos (nI_lt (by omega) (by omega)), decide_eq_false w]; rfl
          · rw [if_neg hsy, if_pos rfl, Bool.eq_false_iff.mpr hsy]; rfl
      · rw [if_neg (show ¬ nI q.1 = 4 from fun w => e4 ((nI_eq (b := 4) (by omega) (by decide)).mp w)), if_neg e4, hgg, show g + 1 - 1 = g from rfl]
        have k1 : ∀ x : Int32, JM_holdsAt_169 M (nI i) (nI o) x = if H.2.1 o g = 0 then (if x = 1 then some 1 else some 0) else (if x = 0 then some 1 else some 0) := fun x => by
          rw [JM_holdsAt_169, if_pos (inb_nI hi (by decide)), nI_clamp (by omega), r3, ix4, if_pos (inb_nI (by omega) (by decide)), nI_clamp (by omega), v1, show mv (shT A q.2.1 g) (H.2.1 o g) = nI (H.2.1 o g) from if_neg hg.2.2]
          by_cases w : H.2.1 o g = 0
          · rw [if_pos (by rw [w]; rfl), if_pos w]; rfl
          · rw [if_neg (nI_ne0 (by omega) (by omega)), if_neg w]; rfl
        rw [JM_holdsAt_159, k1, k1]
        by_cases z : H.2.1 o q.2.2.1 = 0
        · rw [if_pos ((m1_iff (by omega)).mpr z), z]
          by_cases w : H.2.1 o g = 0
          · rw [if_pos w, w]; rfl
          · rw [if_neg w, decide_eq_false w]; rfl
        · rw [if_neg (fun w => z ((m1_iff (by omega)).mp w)), decide_eq_false z]
          by_cases w : H.2.1 o g = 0
          · rw [if_pos w, w]; rfl
          · rw [if_neg w, decide_eq_false w]; rfl
end MRULE

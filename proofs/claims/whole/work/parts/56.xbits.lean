/-! ===== L3, pure: sets of objects as bits ===== -/
theorem nI_andN {a b : Nat} (ha : a < 2 ^ 31) (hb : b < 2 ^ 31) : nI a &&& nI b = nI (a &&& b) := by
  apply Int32.toBitVec_inj.mp
  apply BitVec.eq_of_toNat_eq
  have : a &&& b ≤ a := Nat.and_le_left
  rw [Int32.toBitVec_and, BitVec.toNat_and, pk_tn (by omega), pk_tn (by omega), pk_tn (by omega)]
theorem nI_orN {a b : Nat} (ha : a < 2 ^ 31) (hb : b < 2 ^ 31) : nI a ||| nI b = nI (a ||| b) := by
  apply Int32.toBitVec_inj.mp
  apply BitVec.eq_of_toNat_eq
  have : a ||| b < 2 ^ 31 := Nat.or_lt_two_pow ha hb
  rw [Int32.toBitVec_or, BitVec.toNat_or, pk_tn (by omega), pk_tn (by omega), pk_tn (by omega)]
theorem b5_p : ∀ y, y < 5 → (1 : Int32) <<< (nI y &&& 31) = nI (2 ^ y) := by decide
theorem b5_i : ∀ n, n < 6 → (1 : Int32) <<< (nI n &&& 31) - 1 = nI (2 ^ n - 1) := by decide
/-- without x -/
def clr (w x : Nat) : Nat := w &&& (31 ^^^ 2 ^ x)
theorem b5_c : ∀ w, w < 32 → ∀ x, x < 5 → nI w &&& ((1 : Int32) <<< (nI x &&& 31) ^^^ (-1)) = nI (clr w x) := by decide
theorem b5_t : ∀ w, w < 32 → ∀ x, x < 5 → clr w x < 32 ∧ (∀ y, y < 5 → (clr w x).testBit y = (w.testBit y && !decide (y = x))) ∧ (w.testBit x = false → clr w x = w) := by decide
theorem b5_0 : ∀ w, w < 32 → (w = 0 ↔ ∀ y, y < 5 → w.testBit y = false) := by decide
theorem b5_e : ∀ w, w < 32 → ∀ z, z < 32 → (∀ y, y < 5 → w.testBit y = z.testBit y) → w = z := by decide
theorem b5_a : ∀ w, w < 32 → ∀ z, z < 32 → (w &&& z = 0 ↔ ∀ y, y < 5 → ¬ (w.testBit y = true ∧ z.testBit y = true)) := by decide
theorem b5_m : ∀ n, n < 6 → 2 ^ n - 1 < 32 ∧ ∀ y, y < 5 → (2 ^ n - 1).testBit y = decide (y < n) := by decide
def pcn (w : Nat) : Nat := (if w.testBit 0 then 1 else 0) + (if w.testBit 1 then 1 else 0) + (if w.testBit 2 then 1 else 0) + (if w.testBit 3 then 1 else 0) + (if w.testBit 4 then 1 else 0)
theorem b5_l : ∀ w, w < 32 → ∀ z, z < 32 → (∀ y, y < 5 → z.testBit y = true → w.testBit y = true) → ¬ z = w → pcn z < pcn w := by decide
theorem pcn_5 (w : Nat) : pcn w ≤ 5 := by
  have h : ∀ y, (if w.testBit y = true then 1 else 0) ≤ 1 := fun y => by split <;> omega
  have h0 := h 0
  have h1 := h 1
  have h2 := h 2
  have h3 := h 3
  have h4 := h 4
  unfold pcn
  omega
/-- the bit of a value: of an object y + 1, none of null -/
def bt (v : Nat) : Nat := if v = 0 then 0 else 2 ^ (v - 1)
theorem bt_t : ∀ v, v < 6 → bt v < 32 ∧ ∀ y, y < 5 → (bt v).testBit y = decide (v = y + 1) := by decide
theorem or_32 {a b : Nat} (ha : a < 32) (hb : b < 32) : a ||| b < 32 := Nat.or_lt_two_pow (n := 5) ha hb
section BITS
variable {o : Nat → Nat} {n : Nat}
def stp (o : Nat → Nat) (w x : Nat) : Nat := if o x &&& w = 0 then clr w x else w
def rnF (o : Nat → Nat) : Nat → Nat → Nat → Nat
  | 0, _, w => w
  | m + 1, x, w => rnF o m (x + 1) (stp o w x)
def ouF (o : Nat → Nat) (n : Nat) : Nat → Nat → Nat
  | 0, w => w
  | k + 1, w => if w = 0 then 0 else ouF o n k (rnF o n 0 w)
theorem stp_ok {w x : Nat} (hw : w < 32) (hx : x < 5) : stp o w x < 32 ∧ ∀ y, y < 5 → (stp o w x).testBit y = true → w.testBit y = true := by
  unfold stp
  by_cases h : o x &&& w = 0
  · rw [if_pos h]
    obtain ⟨h1, h2, -⟩ := b5_t w hw x hx
    refine ⟨h1, fun y hy hb => ?_⟩
    rw [h2 y hy] at hb
    simp only [Bool.and_eq_true] at hb
    exact hb.1
  · rw [if_neg h]; exact ⟨hw, fun y _ z => z⟩
theorem rnF_ok : ∀ (m x w : Nat), x + m ≤ 5 → w < 32 → rnF o m x w < 32 ∧ ∀ y, y < 5 → (rnF o m x w).testBit y = true → w.testBit y = true := by
  intro m
  induction m with
  | zero => intro x w _ hw; exact ⟨hw, fun y _ z => z⟩
  | succ m ih =>
    intro x w hx hw
    obtain ⟨s1, s2⟩ := stp_ok (o := o) hw (show x < 5 by omega)
    obtain ⟨i1, i2⟩ := ih (x + 1) (stp o w x) (by omega) s1
    exact ⟨i1, fun y hy z => s2 y hy (i2 y hy z)⟩
/-- a turn that takes nothing away -/
theorem rnF_st : ∀ (m x w : Nat), x + m ≤ 5 → w < 32 → rnF o m x w = w → ∀ z, x ≤ z → z < x + m → w.testBit z = true → ¬ o z &&& w = 0 := by
  intro m
  induction m with
  | zero => intro x w _ _ _ z h1 h2; omega
  | succ m ih =>
    intro x w hx hw he z h1 h2 hb
    have hs : stp o w x = w := by
      unfold stp
      by_cases h : o x &&& w = 0
      · rw [if_pos h]
        cases hbx : w.testBit x with
        | false => exact (b5_t w hw x (by omega)).2.2 hbx
        | true =>
          exfalso
          have he : rnF o m (x + 1) (stp o w x) = w := he
          have e1 : stp o w x = clr w x := if_pos h
          obtain ⟨t1, t2, -⟩ := b5_t w hw x (by omega)
          have i := (rnF_ok (o := o) m (x + 1) (stp o w x) (by omega) (stp_ok hw (by omega)).1).2 x (by omega) (by rw [he]; exact hbx)
          rw [e1, t2 x (by omega)] at i
          simp at i
      · exact if_neg h
    have he : rnF o m (x + 1) (stp o w x) = w := he
    rw [hs] at he
    by_cases e : z = x
    · subst e
      intro h0
      have : stp o w z = clr w z := if_pos h0
      rw [hs] at this
      have t := (b5_t w hw z (by omega)).2.1 z (by omega)
      rw [← this, hb] at t
      simp at t
    · exact ih (x + 1) w (by omega) hw he z (by omega) (by omega) hb
theorem ouF_cyc {E : Nat → Nat → Bool} (hn : n ≤ 5) (hoE : ∀ x, x < n → o x < 32 ∧ ∀ y, y < 5 → ((o x).testBit y = true ↔ E x y = true ∧ y < n)) : ouF o n 5 (2 ^ n - 1) = 0 ↔ ¬ cyc E n := by
  obtain ⟨m1, m2⟩ := b5_m n (by omega)
  constructor
  · rintro h ⟨L, ⟨x0, hx0, hL0⟩, hL⟩
    have stpL : ∀ w x, w < 32 → x < n → (∀ z, z < n → L z → w.testBit z = true) → ∀ z, z < n → L z → (stp o w x).testBit z = true := by
      intro w x hw hx hin z hz hLz
      unfold stp
      by_cases h0 : o x &&& w = 0
      · rw [if_pos h0, (b5_t w hw x (by omega)).2.1 z (by omega), hin z hz hLz]
        by_cases e : z = x
        · subst e
          obtain ⟨y, hy, hLy, he⟩ := hL z hz hLz
          have := (b5_a (o z) (hoE z hz).1 w hw).mp h0 y (by omega)
          exact absurd ⟨((hoE z hz).2 y (by omega)).mpr ⟨he, hy⟩, hin y hy hLy⟩ this
        · simp [e]
      · rw [if_neg h0]; exact hin z hz hLz
    have rnL : ∀ m x w, x + m = n → w < 32 → (∀ z, z < n → L z → w.testBit z = true) → ∀ z, z < n → L z → (rnF o m x w).testBit z = true := by
      intro m
      induction m with
      | zero => intro x w _ _ hin; exact hin
      | succ m ih =>
        intro x w hx hw hin
        exact ih (x + 1) (stp o w x) (by omega) (stp_ok hw (by omega)).1 (stpL w x hw (by omega) hin)
    have ouL : ∀ k w, w < 32 → (∀ z, z < n → L z → w.testBit z = true) → ¬ ouF o n k w = 0 := by
      intro k
      induction k with
      | zero =>
        intro w hw hin h0
        have h0 : w = 0 := h0
        have := hin x0 hx0 hL0
        rw [h0] at this
        simp at this
      | succ k ih =>
        intro w hw hin
        unfold ouF
        by_cases h0 : w = 0
        · have := hin x0 hx0 hL0
          rw [h0] at this
          simp at this
        · rw [if_neg h0]
          exact ih _ (rnF_ok n 0 w (by omega) hw).1 (rnL n 0 w (by omega) hw hin)
    exact ouL 5 _ m1 (fun z hz _ => by rw [m2 z (by omega)]; exact decide_eq_true hz) h
  · intro hnc
    have key : ∀ k w, w < 32 → (∀ y, y < 5 → w.testBit y = true → y < n) → pcn w ≤ k → ouF o n k w = 0 := by
      intro k
      induction k with
      | zero =>
        intro w hw _ hp
        show w = 0
        refine (b5_0 w hw).mpr (fun y hy => ?_)
        unfold pcn at hp
        have : ∀ y, y < 5 → (if w.testBit y = true then 1 else 0) = 0 := by
          intro y hy
          have : y = 0 ∨ y = 1 ∨ y = 2 ∨ y = 3 ∨ y = 4 := by omega
          rcases this with e | e | e | e | e <;> subst e <;> omega
        have := this y hy
        cases hb : w.testBit y with
        | false => rfl
        | true => rw [hb] at this; simp at this
      | succ k ih =>
        intro w hw hin hp
        unfold ouF
        by_cases h0 : w = 0
        · rw [if_pos h0]
        · rw [if_neg h0]
          obtain ⟨r1, r2⟩ := rnF_ok (o := o) n 0 w (by omega) hw
          by_cases he : rnF o n 0 w = w
          · exfalso
            apply hnc
            refine ⟨fun z => w.testBit z = true, ?_, fun x hx hb => ?_⟩
            · by_cases hex : ∃ y, y < 5 ∧ w.testBit y = true
              · obtain ⟨y, hy, hb⟩ := hex
                exact ⟨y, hin y hy hb, hb⟩
              · exact absurd ((b5_0 w hw).mpr (fun y hy => Bool.eq_false_iff.mpr (fun z => hex ⟨y, hy, z⟩))) h0
            · have hne := rnF_st n 0 w (by omega) hw he x (Nat.zero_le _) (by omega) hb
              by_cases hex : ∃ y, y < 5 ∧ (o x).testBit y = true ∧ w.testBit y = true
              · obtain ⟨y, hy, h1, h2⟩ := hex
                obtain ⟨g1, g2⟩ := ((hoE x hx).2 y hy).mp h1
                exact ⟨y, g2, h2, g1⟩
              · exact absurd ((b5_a (o x) (hoE x hx).1 w hw).mpr (fun y hy z => hex ⟨y, hy, z⟩)) hne
          · have hl := b5_l w hw _ r1 r2 he
            exact ih _ r1 (fun y hy hb => hin y hy (r2 y hy hb)) (by omega)
    exact key 5 _ m1 (fun y hy hb => by rw [m2 y hy] at hb; exact of_decide_eq_true hb) (pcn_5 _)
end BITS

/-! ===== L3: the class: packed rows ===== -/
theorem nuF_16 {g : Nat → Nat} (h : ∀ p, okC (g p)) : ∀ n, nuF g n < 16 ^ n := by
  intro n
  induction n with
  | zero => show (0 : Nat) < 1; omega
  | succ n ih =>
    unfold nuF
    have := cod_16 (h n)
    rw [Nat.pow_succ]
    omega
theorem nuF_add {g : Nat → Nat} (m : Nat) : ∀ n, nuF g (m + n) = nuF g m * 16 ^ n + nuF (fun p => g (m + p)) n := by
  intro n
  induction n with
  | zero => show nuF g m = nuF g m * 1 + 0; omega
  | succ n ih =>
    show nuF g (m + n) * 16 + cod (g (m + n)) = nuF g m * 16 ^ (n + 1) + (nuF (fun p => g (m + p)) n * 16 + cod (g (m + n)))
    rw [ih, Nat.pow_succ, Nat.add_mul, Nat.mul_assoc]
    omega
theorem nuF_dig {g : Nat → Nat} (h : ∀ p, okC (g p)) {q d : Nat} : nuF g (q + 1 + d) / 16 ^ d % 16 = cod (g q) := by
  have h1 : nuF (fun p => g (q + 1 + p)) d < 16 ^ d := nuF_16 (fun p => h _) d
  have hp : 0 < 16 ^ d := Nat.pow_pos (by decide)
  rw [nuF_add (q + 1) d, Nat.add_comm (nuF g (q + 1) * 16 ^ d), Nat.add_mul_div_right _ _ hp, Nat.div_eq_of_lt h1, Nat.zero_add]
  have := cod_16 (h q)
  show (nuF g q * 16 + cod (g q)) % 16 = cod (g q)
  omega
theorem lN_tn {n : Nat} (h : n < 2 ^ 64) : (lN n).toBitVec.toNat = n := Nat.mod_eq_of_lt h
theorem lN_inj {x : Int64} {n : Nat} (hn : n < 2 ^ 64) (h : x.toBitVec.toNat = n) : x = lN n := by
  apply Int64.toBitVec_inj.mp
  apply BitVec.eq_of_toNat_eq
  rw [h, lN_tn hn]
theorem sh4 : ((4 : Int32).toInt64 &&& 63) = 4 := by decide
/-- a digit more -/
theorem pk_word {w c : Nat} (hw : w < 2 ^ 40) (hc : c < 16) : ((lN w <<< ((4 : Int32).toInt64 &&& 63)) ||| (nI c &&& 15).toInt64) = lN (w * 16 + c) := by
  have e1 : nI c &&& 15 = nI c := by
    rw [pk_andN (m := 15) (by omega) 4 (by decide), Nat.mod_eq_of_lt (by omega)]
  rw [sh4, e1, nI_l (by omega)]
  apply lN_inj (by omega)
  rw [Int64.toBitVec_or, BitVec.toNat_or, lN_tn (by omega)]
  show ((lN w).toBitVec <<< ((4 : Int64).toBitVec.smod 64).toNat).toNat ||| c = _
  rw [show ((4 : Int64).toBitVec.smod 64).toNat = 4 by decide, BitVec.toNat_shiftLeft, Nat.shiftLeft_eq, lN_tn (by omega), Nat.mod_eq_of_lt (by omega)]
  have := Nat.two_pow_add_eq_or_of_lt (b := c) (i := 4) (by omega) w
  rw [Nat.mul_comm w]
  exact this.symm
theorem sh_k : ∀ j, j < 11 → (((nI (4 * j)).toInt64 &&& 63).toBitVec.smod 64).toNat = 4 * j := by decide
theorem pk_dig {w j : Nat} (hw : w < 2 ^ 44) (hj : j < 11) : (lN w >>> ((nI (4 * j)).toInt64 &&& 63)).toInt32 &&& 15 = nI (w / 16 ^ j % 16) := by
  have e1 : (lN w >>> ((nI (4 * j)).toInt64 &&& 63)) = lN (w / 16 ^ j) := by
    apply Int64.toInt_inj.mp
    have h2 : w / 16 ^ j ≤ w := Nat.div_le_self _ _
    show ((lN w).toBitVec.sshiftRight (((nI (4 * j)).toInt64 &&& 63).toBitVec.smod 64).toNat).toInt = _
    rw [sh_k j hj, BitVec.toInt_sshiftRight, pk_lT (by omega)]
    show (lN w).toInt >>> (4 * j) = _
    rw [pk_lT (by omega), Int.shiftRight_eq_div_pow, show (2 : Nat) ^ (4 * j) = 16 ^ j by rw [Nat.pow_mul]]
    rfl
  rw [e1, pk_and (m := 15) _ 4 (by decide)]
  have h2 : w / 16 ^ j ≤ w := Nat.div_le_self _ _
  have e2 : (lN (w / 16 ^ j)).toInt32.toBitVec.toNat = w / 16 ^ j % 2 ^ 32 := by
    rw [Int64.toBitVec_toInt32, BitVec.signExtend_eq_setWidth_of_le _ (by decide), BitVec.toNat_setWidth, lN_tn (by omega)]
  rw [e2]
  congr 1
  omega
def cmpN (a b : Nat) : Int32 := if a < b then -1 else if a = b then 0 else 1
theorem pX_cmp {a b : Nat} (ha : a < 2 ^ 63) (hb : b < 2 ^ 63) : fJ_compare (lN a) (lN b) = some (cmpN a b) := by
  have hlt : lN a > lN b ↔ b < a := pk_lLT hb ha
  have heq := pk_lEQ ha hb
  have e : lg_cmp (lN a) (lN b) = cmpN a b := by
    unfold lg_cmp cmpN
    rcases Nat.lt_trichotomy a b with z | z | z
    · rw [if_neg (show ¬ lN a > lN b from fun w => by have := hlt.mp w; omega), if_neg (show ¬ lN a = lN b from fun w => by have := heq.mp w; omega), if_pos z]
    · rw [if_neg (show ¬ lN a > lN b from fun w => by have := hlt.mp w; omega), if_pos (heq.mpr z), if_neg (show ¬ a < b by omega), if_pos z]
    · rw [if_pos (hlt.mpr z), if_neg (show ¬ a < b by omega), if_neg (show ¬ a = b by omega)]
  rw [fJ_compare, e]
  unfold cmpN
  rcases Nat.lt_trichotomy a b with z | z | z
  · rw [if_pos z, if_neg (show ¬ (0 : Int32) ≤ -1 by decide)]
  · rw [if_neg (show ¬ a < b by omega), if_pos z, if_pos (show (0 : Int32) ≤ 0 by decide), if_pos rfl]
  · rw [if_neg (show ¬ a < b by omega), if_neg (show ¬ a = b by omega), if_pos (show (0 : Int32) ≤ 1 by decide), if_neg (show ¬ (1 : Int32) = 0 by decide)]
/-- two words compare as the number of both -/
theorem cmpN_two {a b c d K : Nat} (hb : b < K) (hd : d < K) : (if cmpN a c = 0 then cmpN b d else cmpN a c) = cmpN (a * K + b) (c * K + d) := by
  unfold cmpN
  rcases Nat.lt_trichotomy a c with z | z | z
  · have h : (a + 1) * K ≤ c * K := Nat.mul_le_mul_right K z
    rw [Nat.add_mul, Nat.one_mul] at h
    rw [if_pos z, if_neg (show ¬ (-1 : Int32) = 0 by decide), if_pos (by omega)]
  · subst z
    rw [if_neg (Nat.lt_irrefl a), if_pos rfl, if_pos rfl]
    rcases Nat.lt_trichotomy b d with y | y | y
    · rw [if_pos y, if_pos (by omega)]
    · rw [if_neg (by omega), if_pos y, if_neg (by omega), if_pos (by omega)]
    · rw [if_neg (by omega), if_neg (by omega), if_neg (by omega), if_neg (by omega)]
  · have h : (c + 1) * K ≤ a * K := Nat.mul_le_mul_right K z
    rw [Nat.add_mul, Nat.one_mul] at h
    rw [if_neg (show ¬ a < c by omega), if_neg (show ¬ a = c by omega), if_neg (show ¬ (1 : Int32) = 0 by decide), if_neg (show ¬ a * K + b < c * K + d by omega), if_neg (show ¬ a * K + b = c * K + d by omega)]
/-- what changed: these registers, rows, long rows and lengths -/
def frY (is as ls : List Nat) (S S' : rr_T) : Prop := frM is as S S' ∧ ∀ n, n ∉ ls → S'.2.2.1 n = S.2.2.1 n ∧ S'.2.2.2 n = S.2.2.2 n
theorem frY_r (is as ls : List Nat) (S : rr_T) : frY is as ls S S := ⟨frM_r _ _ _, fun _ _ => ⟨rfl, rfl⟩⟩
theorem frY_t {is as ls : List Nat} {S S' S'' : rr_T} (h : frY is as ls S S') (g : frY is as ls S' S'') : frY is as ls S S'' := ⟨frM_t h.1 g.1, fun n hn => ⟨by rw [(g.2 n hn).1, (h.2 n hn).1], by rw [(g.2 n hn).2, (h.2 n hn).2]⟩⟩
theorem frY_w {is as ls js bs ms : List Nat} {S S' : rr_T} (h : frY is as ls S S') (h1 : ∀ k ∈ is, k ∈ js) (h2 : ∀ n ∈ as, n ∈ bs) (h3 : ∀ n ∈ ls, n ∈ ms) : frY js bs ms S S' := ⟨frM_w h.1 h1 h2, fun n hn => h.2 n (fun z => hn (h3 n z))⟩
theorem frY_x {is as ls : List Nat} {S S' : rr_T} (h : frX is as S S') : frY is as ls S S' := ⟨h.1, fun n _ => ⟨by rw [h.2], by rw [h.2]⟩⟩
theorem frY_pI {is as ls : List Nat} {S S' : rr_T} (h : frY is as ls S S') {k : Nat} {v : Int32} (hk : k ∈ is) : frY is as ls S (pI S' k v) := ⟨frM_pI h.1 hk, h.2⟩
theorem frY_pA {is as ls : List Nat} {S S' : rr_T} (h : frY is as ls S S') {n : Nat} {i v : Int32} (hn : n ∈ as) : frY is as ls S (pA S' n i v) := ⟨frM_pA h.1 hn, h.2⟩
theorem pL_s (S : rr_T) (n : Nat) (i : Int32) (v : Int64) : (pL S n i v).2.2.1 n = vp_updL (S.2.2.1 n) i.toNatClampNeg v := by simp [pL, va_up]
theorem pL_n {S : rr_T} {n m : Nat} {i : Int32} {v : Int64} (h : m ≠ n) : (pL S n i v).2.2.1 m = S.2.2.1 m := by simp [pL, va_up, h]
theorem frY_pL {is as ls : List Nat} {S S' : rr_T} (h : frY is as ls S S') {n : Nat} {i : Int32} {v : Int64} (hn : n ∈ ls) : frY is as ls S (pL S' n i v) := ⟨h.1, fun m hm => ⟨by rw [pL_n (fun e => hm (by rw [e]; exact hn))]; exact (h.2 m hm).1, (h.2 m hm).2⟩⟩
/-- word i of the long row L -/
def wd (S : rr_T) (L i : Nat) (g : Nat → Nat) : Prop := S.2.2.1 L (2 * i) = lN (nuF g 11) ∧ S.2.2.1 L (2 * i + 1) = lN (nuF (fun p => g (11 + p)) 11)
theorem jMinN {a b : Nat} (ha : a < 2 ^ 31) (hb : b < 2 ^ 31) : jMin (nI a) (nI b) = nI (min a b) := by
  unfold jMin
  by_cases h : b < a
  · rw [if_pos (nI_lt h ha), Nat.min_eq_right (by omega)]
  · rw [if_neg (nI_nlt (by omega) hb), Nat.min_eq_left (by omega)]
theorem uX_pack13 {S : rr_T} {N o : Nat} {g : Nat → Nat} (hg : ∀ p, okC (g p)) (hN : N ≤ 22) (ho : o ≤ 11) (hv : ∀ p, p < N → S.2.1 13 p = nI (g p)) (h0 : ∀ p, N ≤ p → g p = 0) : ∀ (m q f : Nat), q + m = 11 → m + 1 ≤ f → rr_loop f (LX5_pack_13_13 S (nI o) (nI N)) (lN (nuF (fun p => g (o + p)) q), nI (o + q)) = some (lN (nuF (fun p => g (o + p)) 11)) := by
  intro m
  induction m with
  | zero =>
    intro q f hq hf
    obtain ⟨f, rfl⟩ : ∃ g, f = g + 1 := ⟨f - 1, by omega⟩
    obtain rfl : q = 11 := by omega
    rw [loop_s, LX5_pack_13_13]
    dsimp only
    rw [show nI o + 11 = nI (o + 11) from nI_add o 11, if_pos (nI_le (Nat.le_refl _) (by omega))]
  | succ m ih =>
    intro q f hq hf
    obtain ⟨f, rfl⟩ : ∃ g, f = g + 1 := ⟨f - 1, by omega⟩
    have h16 : nuF (fun p => g (o + p)) q < 16 ^ q := nuF_16 (fun p => hg _) q
    have hpw : 16 ^ q ≤ 16 ^ 10 := Nat.pow_le_pow_right (by decide) (by omega)
    have hc16 := cod_16 (hg (o + q))
    have hgo := hg (o + q)
    unfold okC at hgo
    have e36 : JX5_pack_13_36 (rr_loop f (LX5_pack_13_13 S (nI o) (nI N))) (lN (nuF (fun p => g (o + p)) q), nI (o + q)) (nI (g (o + q))) = some (lN (nuF (fun p => g (o + p)) 11)) := by
      have e58 : JX5_pack_13_58 (rr_loop f (LX5_pack_13_13 S (nI o) (nI N))) (lN (nuF (fun p => g (o + p)) q), nI (o + q)) (nI (cod (g (o + q)))) = some (lN (nuF (fun p => g (o + p)) 11)) := by
        rw [JX5_pack_13_58]
        dsimp only
        rw [pk_word (by omega) hc16, rr_l_e, nI_1]
        exact ih (q + 1) f (by omega) (by omega)
      rw [JX5_pack_13_36]
      unfold cod at e58
      by_cases h : g (o + q) < 10
      · rw [if_pos h] at e58
        rw [if_neg (show ¬ (10 : Int32) ≤ nI (g (o + q)) from nI_ge (b := 10) h (by decide))]
        exact e58
      · rw [if_neg h] at e58
        rw [if_pos (show (10 : Int32) ≤ nI (g (o + q)) from nI_le (a := 10) (by omega) (by omega)), show nI (g (o + q)) - 10 = nI (g (o + q) - 10) from pk_sub (b := 10) (by omega), show nI (g (o + q) - 10) + 6 = nI (g (o + q) - 10 + 6) from nI_add _ 6, show g (o + q) - 10 + 6 = g (o + q) - 4 by omega]
        exact e58
    rw [loop_s, LX5_pack_13_13]
    dsimp only
    rw [show nI o + 11 = nI (o + 11) from nI_add o 11, if_neg (nI_ge (by omega) (by omega))]
    by_cases hN2 : N ≤ o + q
    · rw [if_pos (nI_le hN2 (by omega))]
      rw [h0 _ hN2] at e36
      exact e36
    · rw [if_neg (nI_ge (by omega) (by omega)), if_pos (inb_nI (by omega) (by decide)), nI_clamp (by omega), hv _ (by omega)]
      exact e36
theorem pX_pack13 {P S : rr_T} {N o : Nat} {g : Nat → Nat} (hg : ∀ p, okC (g p)) (hN : N ≤ 22) (ho : o ≤ 11) (hv : ∀ p, p < N → S.2.1 13 p = nI (g p)) (h0 : ∀ p, N ≤ p → g p = 0) : fX5_pack_13 P S (nI o) (nI N) = some (lN (nuF (fun p => g (o + p)) 11)) := by
  have := uX_pack13 hg hN ho hv h0 11 0 FU (by omega) (by decide)
  rw [fX5_pack_13, jMinN (by omega) (by decide), Nat.min_eq_left hN, rr_l_e]
  exact this
theorem uX_pack24 {S : rr_T} {N o : Nat} {g : Nat → Nat} (hg : ∀ p, okC (g p)) (hN : N ≤ 22) (ho : o ≤ 11) (hv : ∀ p, p < N → S.2.1 24 p = nI (g p)) (h0 : ∀ p, N ≤ p → g p = 0) : ∀ (m q f : Nat), q + m = 11 → m + 1 ≤ f → rr_loop f (LX5_pack_24_13 S (nI o) (nI N)) (lN (nuF (fun p => g (o + p)) q), nI (o + q)) = some (lN (nuF (fun p => g (o + p)) 11)) := by
  intro m
  induction m with
  | zero =>
    intro q f hq hf
    obtain ⟨f, rfl⟩ : ∃ g, f = g + 1 := ⟨f - 1, by omega⟩
    obtain rfl : q = 11 := by omega
    rw [loop_s, LX5_pack_24_13]
    dsimp only
    rw [show nI o + 11 = nI (o + 11) from nI_add o 11, if_pos (nI_le (Nat.le_refl _) (by omega))]
  | succ m ih =>
    intro q f hq hf
    obtain ⟨f, rfl⟩ : ∃ g, f = g + 1 := ⟨f - 1, by omega⟩
    have h16 : nuF (fun p => g (o + p)) q < 16 ^ q := nuF_16 (fun p => hg _) q
    have hpw : 16 ^ q ≤ 16 ^ 10 := Nat.pow_le_pow_right (by decide) (by omega)
    have hc16 := cod_16 (hg (o + q))
    have hgo := hg (o + q)
    unfold okC at hgo
    have e36 : JX5_pack_24_36 (rr_loop f (LX5_pack_24_13 S (nI o) (nI N))) (lN (nuF (fun p => g (o + p)) q), nI (o + q)) (nI (g (o + q))) = some (lN (nuF (fun p => g (o + p)) 11)) := by
      have e58 : JX5_pack_24_58 (rr_loop f (LX5_pack_24_13 S (nI o) (nI N))) (lN (nuF (fun p => g (o + p)) q), nI (o + q)) (nI (cod (g (o + q)))) = some (lN (nuF (fun p => g (o + p)) 11)) := by
        rw [JX5_pack_24_58]
        dsimp only
        rw [pk_word (by omega) hc16, rr_l_e, nI_1]
        exact ih (q + 1) f (by omega) (by omega)
      rw [JX5_pack_24_36]
      unfold cod at e58
      by_cases h : g (o + q) < 10
      · rw [if_pos h] at e58
        rw [if_neg (show ¬ (10 : Int32) ≤ nI (g (o + q)) from nI_ge (b := 10) h (by decide))]
        exact e58
      · rw [if_neg h] at e58
        rw [if_pos (show (10 : Int32) ≤ nI (g (o + q)) from nI_le (a := 10) (by omega) (by omega)), show nI (g (o + q)) - 10 = nI (g (o + q) - 10) from pk_sub (b := 10) (by omega), show nI (g (o + q) - 10) + 6 = nI (g (o + q) - 10 + 6) from nI_add _ 6, show g (o + q) - 10 + 6 = g (o + q) - 4 by omega]
        exact e58
    rw [loop_s, LX5_pack_24_13]
    dsimp only
    rw [show nI o + 11 = nI (o + 11) from nI_add o 11, if_neg (nI_ge (by omega) (by omega))]
    by_cases hN2 : N ≤ o + q
    · rw [if_pos (nI_le hN2 (by omega))]
      rw [h0 _ hN2] at e36
      exact e36
    · rw [if_neg (nI_ge (by omega) (by omega)), if_pos (inb_nI (by omega) (by decide)), nI_clamp (by omega), hv _ (by omega)]
      exact e36
theorem pX_pack24 {P S : rr_T} {N o : Nat} {g : Nat → Nat} (hg : ∀ p, okC (g p)) (hN : N ≤ 22) (ho : o ≤ 11) (hv : ∀ p, p < N → S.2.1 24 p = nI (g p)) (h0 : ∀ p, N ≤ p → g p = 0) : fX5_pack_24 P S (nI o) (nI N) = some (lN (nuF (fun p => g (o + p)) 11)) := by
  have := uX_pack24 hg hN ho hv h0 11 0 FU (by omega) (by decide)
  rw [fX5_pack_24, jMinN (by omega) (by decide), Nat.min_eq_left hN, rr_l_e]
  exact this
theorem uX_pack33 {S : rr_T} {N o : Nat} {g : Nat → Nat} (hg : ∀ p, okC (g p)) (hN : N ≤ 40) (ho : o ≤ 11) (hv : ∀ p, p < N → S.2.1 33 p = nI (g p)) (h0 : ∀ p, N ≤ p → g p = 0) : ∀ (m q f : Nat), q + m = 11 → m + 1 ≤ f → rr_loop f (LX5_pack_33_13 S (nI o) (nI N)) (lN (nuF (fun p => g (o + p)) q), nI (o + q)) = some (lN (nuF (fun p => g (o + p)) 11)) := by
  intro m
  induction m with
  | zero =>
    intro q f hq hf
    obtain ⟨f, rfl⟩ : ∃ g, f = g + 1 := ⟨f - 1, by omega⟩
    obtain rfl : q = 11 := by omega
    rw [loop_s, LX5_pack_33_13]
    dsimp only
    rw [show nI o + 11 = nI (o + 11) from nI_add o 11, if_pos (nI_le (Nat.le_refl _) (by omega))]
  | succ m ih =>
    intro q f hq hf
    obtain ⟨f, rfl⟩ : ∃ g, f = g + 1 := ⟨f - 1, by omega⟩
    have h16 : nuF (fun p => g (o + p)) q < 16 ^ q := nuF_16 (fun p => hg _) q
    have hpw : 16 ^ q ≤ 16 ^ 10 := Nat.pow_le_pow_right (by decide) (by omega)
    have hc16 := cod_16 (hg (o + q))
    have hgo := hg (o + q)
    unfold okC at hgo
    have e36 : JX5_pack_33_36 (rr_loop f (LX5_pack_33_13 S (nI o) (nI N))) (lN (nuF (fun p => g (o + p)) q), nI (o + q)) (nI (g (o + q))) = some (lN (nuF (fun p => g (o + p)) 11)) := by
      have e58 : JX5_pack_33_58 (rr_loop f (LX5_pack_33_13 S (nI o) (nI N))) (lN (nuF (fun p => g (o + p)) q), nI (o + q)) (nI (cod (g (o + q)))) = some (lN (nuF (fun p => g (o + p)) 11)) := by
        rw [JX5_pack_33_58]
        dsimp only
        rw [pk_word (by omega) hc16, rr_l_e, nI_1]
        exact ih (q + 1) f (by omega) (by omega)
      rw [JX5_pack_33_36]
      unfold cod at e58
      by_cases h : g (o + q) < 10
      · rw [if_pos h] at e58
        rw [if_neg (show ¬ (10 : Int32) ≤ nI (g (o + q)) from nI_ge (b := 10) h (by decide))]
        exact e58
      · rw [if_neg h] at e58
        rw [if_pos (show (10 : Int32) ≤ nI (g (o + q)) from nI_le (a := 10) (by omega) (by omega)), show nI (g (o + q)) - 10 = nI (g (o + q) - 10) from pk_sub (b := 10) (by omega), show nI (g (o + q) - 10) + 6 = nI (g (o + q) - 10 + 6) from nI_add _ 6, show g (o + q) - 10 + 6 = g (o + q) - 4 by omega]
        exact e58
    rw [loop_s, LX5_pack_33_13]
    dsimp only
    rw [show nI o + 11 = nI (o + 11) from nI_add o 11, if_neg (nI_ge (by omega) (by omega))]
    by_cases hN2 : N ≤ o + q
    · rw [if_pos (nI_le hN2 (by omega))]
      rw [h0 _ hN2] at e36
      exact e36
    · rw [if_neg (nI_ge (by omega) (by omega)), if_pos (inb_nI (by omega) (by decide)), nI_clamp (by omega), hv _ (by omega)]
      exact e36
theorem pX_pack33 {P S : rr_T} {N o : Nat} {g : Nat → Nat} (hg : ∀ p, okC (g p)) (hN : N ≤ 40) (ho : o ≤ 11) (hv : ∀ p, p < N → S.2.1 33 p = nI (g p)) (h0 : ∀ p, N ≤ p → g p = 0) : fX5_pack_33 P S (nI o) (nI N) = some (lN (nuF (fun p => g (o + p)) 11)) := by
  have := uX_pack33 hg hN ho hv h0 11 0 FU (by omega) (by decide)
  rw [fX5_pack_33, jMinN (by omega) (by decide), Nat.min_eq_left hN, rr_l_e]
  exact this
section XROWS
variable {P S : rr_T}
/-- one row more -/
theorem uX_add18 {n c N : Nat} {g : Nat → Nat} {u v : Nat} (hg : ∀ p, okC (g p)) (hN : N ≤ 22) (hv : ∀ p, p < N → S.2.1 13 p = nI (g p)) (h0 : ∀ p, N ≤ p → g p = 0) (eC : S.1 289 = nI n) (hn : n ≤ 4000) (hc : S.2.2.2 19 = c) (hc2 : 2 * n + 2 ≤ c) (hc3 : c < 2 ^ 20) : ∃ S', JX5_add_18_45 P (nI N) (S, u, v) = some (S', u, v) ∧ frY [289] [] [19] S S' ∧ S'.1 289 = nI (n + 1) ∧ S'.2.2.2 19 = c ∧ wd S' 19 n g ∧ ∀ j, j < 2 * n → S'.2.2.1 19 j = S.2.2.1 19 j := by
  have e1 : (2 : Int32) * nI n = nI (2 * n) := pk_mul 2 n
  have p1 : fX5_pack_13 P S 0 (nI N) = some (lN (nuF g 11)) := by
    have := pX_pack13 (P := P) (o := 0) hg hN (by decide) hv h0
    rw [nuF_eq 11 (show ∀ p, p < 11 → g (0 + p) = g p from fun p _ => by rw [Nat.zero_add])] at this
    exact this
  have p2 : fX5_pack_13 P (pL S 19 (nI (2 * n)) (lN (nuF g 11))) 11 (nI N) = some (lN (nuF (fun p => g (11 + p)) 11)) := pX_pack13 (o := 11) hg hN (by decide) hv h0
  refine ⟨pI (pL (pL S 19 (nI (2 * n)) (lN (nuF g 11))) 19 (nI (2 * n + 1)) (lN (nuF (fun p => g (11 + p)) 11))) 289 (nI (n + 1)), ?_, frY_pI (frY_pL (frY_pL (frY_r _ _ _ _) (by simp)) (by simp)) (by simp), pI_s _ _ _, hc, ⟨?_, ?_⟩, fun j hj => ?_⟩
  · rw [JX5_add_18_45]
    dsimp only
    rw [p1, Option.bind_some, eC, e1, hc, if_pos (inb_nI (by omega) (by omega)), rr_l_e, p2, Option.bind_some]
    have k1 : (pL S 19 (nI (2 * n)) (lN (nuF g 11))).1 289 = nI n := eC
    have k2 : (pL S 19 (nI (2 * n)) (lN (nuF g 11))).2.2.2 19 = c := hc
    rw [k1, k2, e1, show nI (2 * n) + 1 = nI (2 * n + 1) from nI_1 _, if_pos (inb_nI (by omega) (by omega)), rr_l_e, rr_l_e]
    have k3 : (pL (pL S 19 (nI (2 * n)) (lN (nuF g 11))) 19 (nI (2 * n + 1)) (lN (nuF (fun p => g (11 + p)) 11))).1 289 = nI n := eC
    rw [k3, nI_1]
  · rw [pI_2, pL_s, pL_s, nI_clamp (by omega), nI_clamp (by omega), pk_uLn (by omega), pk_uLs]
  · rw [pI_2, pL_s, nI_clamp (by omega), pk_uLs]
  · rw [pI_2, pL_s, pL_s, nI_clamp (by omega), nI_clamp (by omega), pk_uLn (by omega), pk_uLn (by omega)]
theorem pX_add18 {n c N : Nat} {g : Nat → Nat} {u v : Nat} (hg : ∀ p, okC (g p)) (hN : N ≤ 22) (hv : ∀ p, p < N → S.2.1 13 p = nI (g p)) (h0 : ∀ p, N ≤ p → g p = 0) (eC : S.1 289 = nI n) (hn : n ≤ 4000) (hc : S.2.2.2 19 = c) (hc2 : 2 * n ≤ c) (hc4 : 2 ≤ c) (hc3 : c < 20000) : ∃ S' c' u' v', fX5_add_18 P S (nI N) u v = some (S', u', v') ∧ frY [289] [] [19] S S' ∧ S'.1 289 = nI (n + 1) ∧ S'.2.2.2 19 = c' ∧ 2 * n + 2 ≤ c' ∧ ((c' = c ∧ u' = u ∧ v' = v) ∨ (c' = 2 * c ∧ c ≤ 2 * n + 1 ∧ u' = u + 1 ∧ v' = v + 2 * c)) ∧ wd S' 19 n g ∧ ∀ j, j < 2 * n → S'.2.2.1 19 j = S.2.2.1 19 j := by
  have e1 : (2 : Int32) * nI n + 1 = nI (2 * n + 1) := by rw [show (2 : Int32) * nI n = nI (2 * n) from pk_mul 2 n, nI_1]
  have e2 : (2 : Int32) * nI c = nI (2 * c) := pk_mul 2 c
  rw [fX5_add_18, eC, if_pos (show nI n ≤ 4000 from nI_le (b := 4000) hn (by decide)), e1, hc]
  by_cases hlt : 2 * n + 1 < c
  · rw [if_pos (nI_lt hlt (by omega))]
    obtain ⟨S', a1, a2, a3, a4, a5, a6⟩ := uX_add18 (P := P) (u := u) (v := v) hg hN hv h0 eC hn hc (by omega) (by omega)
    exact ⟨S', c, u, v, a1, a2, a3, a4, by omega, Or.inl ⟨rfl, rfl, rfl⟩, a5, a6⟩
  · rw [if_neg (nI_nlt (by omega) (by omega)), e2]
    have jm : jMin (nI c) (nI (2 * c)) = nI c := by rw [jMinN (by omega) (by omega), Nat.min_eq_left (by omega)]
    have g1 : gC S 19 (nI (2 * c)) = true := by
      unfold gC
      rw [hc, jm, nI_clamp (by omega), nI_clamp (by omega), inb_nI (show 2 * c < 100000 by omega) (by decide), inb_nI (show c < 100000 by omega) (by decide), decide_eq_false (show ¬ nI (2 * c) = nI c from fun w => by have := (nI_eq (by omega) (by omega)).mp w; omega), decide_eq_true (Nat.le_refl c), decide_eq_true (show c ≤ 2 * c by omega)]
      rfl
    rw [if_pos g1, rr_l_e, nI_clamp (by omega)]
    have cs1 : (xCp S 19 (nI (2 * c))).1 289 = nI n := eC
    have cs2 : (xCp S 19 (nI (2 * c))).2.2.2 19 = 2 * c := by
      show va_up S.2.2.2 19 (nI (2 * c)).toNatClampNeg 19 = _
      simp [va_up, nI_clamp (show 2 * c < 2 ^ 31 by omega)]
    have cs3 : ∀ j, j < c → (xCp S 19 (nI (2 * c))).2.2.1 19 j = S.2.2.1 19 j := by
      intro j hj
      show va_up S.2.2.1 19 (va_cpy (S.2.2.1 19) (fun _ => 0) 0 0 (jMin (nI (S.2.2.2 19)) (nI (2 * c))).toNatClampNeg) 19 j = _
      rw [hc, jm, nI_clamp (by omega)]
      have : va_up S.2.2.1 19 (va_cpy (S.2.2.1 19) (fun _ => 0) 0 0 c) 19 = va_cpy (S.2.2.1 19) (fun _ => 0) 0 0 c := by simp [va_up]
      rw [this, pk_cpy_in (Nat.zero_le _) (by omega), show 0 + (j - 0) = j by omega]
    have cs4 : frY [289] [] [19] S (xCp S 19 (nI (2 * c))) := by
      refine ⟨frM_r _ _ _, fun m hm => ?_⟩
      have hm' : m ≠ 19 := fun e => hm (by rw [e]; simp)
      exact ⟨by show va_up S.2.2.1 19 _ m = _; simp [va_up, hm'], by show va_up S.2.2.2 19 _ m = _; simp [va_up, hm']⟩
    obtain ⟨S', a1, a2, a3, a4, a5, a6⟩ := uX_add18 (P := P) (S := xCp S 19 (nI (2 * c))) (u := u + 1) (v := v + 2 * c) hg hN hv h0 cs1 hn cs2 (by omega) (by omega)
    exact ⟨S', 2 * c, u + 1, v + 2 * c, a1, frY_t cs4 a2, a3, a4, by omega, Or.inr ⟨rfl, by omega, rfl, rfl⟩, a5, fun j hj => by rw [a6 j hj, cs3 j (by omega)]⟩
/-- one row more -/
theorem uX_add26 {n c N : Nat} {g : Nat → Nat} {u v : Nat} (hg : ∀ p, okC (g p)) (hN : N ≤ 22) (hv : ∀ p, p < N → S.2.1 24 p = nI (g p)) (h0 : ∀ p, N ≤ p → g p = 0) (eC : S.1 417 = nI n) (hn : n ≤ 4000) (hc : S.2.2.2 27 = c) (hc2 : 2 * n + 2 ≤ c) (hc3 : c < 2 ^ 20) : ∃ S', JX5_add_26_45 P (nI N) (S, u, v) = some (S', u, v) ∧ frY [417] [] [27] S S' ∧ S'.1 417 = nI (n + 1) ∧ S'.2.2.2 27 = c ∧ wd S' 27 n g ∧ ∀ j, j < 2 * n → S'.2.2.1 27 j = S.2.2.1 27 j := by
  have e1 : (2 : Int32) * nI n = nI (2 * n) := pk_mul 2 n
  have p1 : fX5_pack_24 P S 0 (nI N) = some (lN (nuF g 11)) := by
    have := pX_pack24 (P := P) (o := 0) hg hN (by decide) hv h0
    rw [nuF_eq 11 (show ∀ p, p < 11 → g (0 + p) = g p from fun p _ => by rw [Nat.zero_add])] at this
    exact this
  have p2 : fX5_pack_24 P (pL S 27 (nI (2 * n)) (lN (nuF g 11))) 11 (nI N) = some (lN (nuF (fun p => g (11 + p)) 11)) := pX_pack24 (o := 11) hg hN (by decide) hv h0
  refine ⟨pI (pL (pL S 27 (nI (2 * n)) (lN (nuF g 11))) 27 (nI (2 * n + 1)) (lN (nuF (fun p => g (11 + p)) 11))) 417 (nI (n + 1)), ?_, frY_pI (frY_pL (frY_pL (frY_r _ _ _ _) (by simp)) (by simp)) (by simp), pI_s _ _ _, hc, ⟨?_, ?_⟩, fun j hj => ?_⟩
  · rw [JX5_add_26_45]
    dsimp only
    rw [p1, Option.bind_some, eC, e1, hc, if_pos (inb_nI (by omega) (by omega)), rr_l_e, p2, Option.bind_some]
    have k1 : (pL S 27 (nI (2 * n)) (lN (nuF g 11))).1 417 = nI n := eC
    have k2 : (pL S 27 (nI (2 * n)) (lN (nuF g 11))).2.2.2 27 = c := hc
    rw [k1, k2, e1, show nI (2 * n) + 1 = nI (2 * n + 1) from nI_1 _, if_pos (inb_nI (by omega) (by omega)), rr_l_e, rr_l_e]
    have k3 : (pL (pL S 27 (nI (2 * n)) (lN (nuF g 11))) 27 (nI (2 * n + 1)) (lN (nuF (fun p => g (11 + p)) 11))).1 417 = nI n := eC
    rw [k3, nI_1]
  · rw [pI_2, pL_s, pL_s, nI_clamp (by omega), nI_clamp (by omega), pk_uLn (by omega), pk_uLs]
  · rw [pI_2, pL_s, nI_clamp (by omega), pk_uLs]
  · rw [pI_2, pL_s, pL_s, nI_clamp (by omega), nI_clamp (by omega), pk_uLn (by omega), pk_uLn (by omega)]
theorem pX_add26 {n c N : Nat} {g : Nat → Nat} {u v : Nat} (hg : ∀ p, okC (g p)) (hN : N ≤ 22) (hv : ∀ p, p < N → S.2.1 24 p = nI (g p)) (h0 : ∀ p, N ≤ p → g p = 0) (eC : S.1 417 = nI n) (hn : n ≤ 4000) (hc : S.2.2.2 27 = c) (hc2 : 2 * n ≤ c) (hc4 : 2 ≤ c) (hc3 : c < 20000) : ∃ S' c' u' v', fX5_add_26 P S (nI N) u v = some (S', u', v') ∧ frY [417] [] [27] S S' ∧ S'.1 417 = nI (n + 1) ∧ S'.2.2.2 27 = c' ∧ 2 * n + 2 ≤ c' ∧ ((c' = c ∧ u' = u ∧ v' = v) ∨ (c' = 2 * c ∧ c ≤ 2 * n + 1 ∧ u' = u + 1 ∧ v' = v + 2 * c)) ∧ wd S' 27 n g ∧ ∀ j, j < 2 * n → S'.2.2.1 27 j = S.2.2.1 27 j := by
  have e1 : (2 : Int32) * nI n + 1 = nI (2 * n + 1) := by rw [show (2 : Int32) * nI n = nI (2 * n) from pk_mul 2 n, nI_1]
  have e2 : (2 : Int32) * nI c = nI (2 * c) := pk_mul 2 c
  rw [fX5_add_26, eC, if_pos (show nI n ≤ 4000 from nI_le (b := 4000) hn (by decide)), e1, hc]
  by_cases hlt : 2 * n + 1 < c
  · rw [if_pos (nI_lt hlt (by omega))]
    obtain ⟨S', a1, a2, a3, a4, a5, a6⟩ := uX_add26 (P := P) (u := u) (v := v) hg hN hv h0 eC hn hc (by omega) (by omega)
    exact ⟨S', c, u, v, a1, a2, a3, a4, by omega, Or.inl ⟨rfl, rfl, rfl⟩, a5, a6⟩
  · rw [if_neg (nI_nlt (by omega) (by omega)), e2]
    have jm : jMin (nI c) (nI (2 * c)) = nI c := by rw [jMinN (by omega) (by omega), Nat.min_eq_left (by omega)]
    have g1 : gC S 27 (nI (2 * c)) = true := by
      unfold gC
      rw [hc, jm, nI_clamp (by omega), nI_clamp (by omega), inb_nI (show 2 * c < 100000 by omega) (by decide), inb_nI (show c < 100000 by omega) (by decide), decide_eq_false (show ¬ nI (2 * c) = nI c from fun w => by have := (nI_eq (by omega) (by omega)).mp w; omega), decide_eq_true (Nat.le_refl c), decide_eq_true (show c ≤ 2 * c by omega)]
      rfl
    rw [if_pos g1, rr_l_e, nI_clamp (by omega)]
    have cs1 : (xCp S 27 (nI (2 * c))).1 417 = nI n := eC
    have cs2 : (xCp S 27 (nI (2 * c))).2.2.2 27 = 2 * c := by
      show va_up S.2.2.2 27 (nI (2 * c)).toNatClampNeg 27 = _
      simp [va_up, nI_clamp (show 2 * c < 2 ^ 31 by omega)]
    have cs3 : ∀ j, j < c → (xCp S 27 (nI (2 * c))).2.2.1 27 j = S.2.2.1 27 j := by
      intro j hj
      show va_up S.2.2.1 27 (va_cpy (S.2.2.1 27) (fun _ => 0) 0 0 (jMin (nI (S.2.2.2 27)) (nI (2 * c))).toNatClampNeg) 27 j = _
      rw [hc, jm, nI_clamp (by omega)]
      have : va_up S.2.2.1 27 (va_cpy (S.2.2.1 27) (fun _ => 0) 0 0 c) 27 = va_cpy (S.2.2.1 27) (fun _ => 0) 0 0 c := by simp [va_up]
      rw [this, pk_cpy_in (Nat.zero_le _) (by omega), show 0 + (j - 0) = j by omega]
    have cs4 : frY [417] [] [27] S (xCp S 27 (nI (2 * c))) := by
      refine ⟨frM_r _ _ _, fun m hm => ?_⟩
      have hm' : m ≠ 27 := fun e => hm (by rw [e]; simp)
      exact ⟨by show va_up S.2.2.1 27 _ m = _; simp [va_up, hm'], by show va_up S.2.2.2 27 _ m = _; simp [va_up, hm']⟩
    obtain ⟨S', a1, a2, a3, a4, a5, a6⟩ := uX_add26 (P := P) (S := xCp S 27 (nI (2 * c))) (u := u + 1) (v := v + 2 * c) hg hN hv h0 cs1 hn cs2 (by omega) (by omega)
    exact ⟨S', 2 * c, u + 1, v + 2 * c, a1, frY_t cs4 a2, a3, a4, by omega, Or.inr ⟨rfl, by omega, rfl, rfl⟩, a5, fun j hj => by rw [a6 j hj, cs3 j (by omega)]⟩
theorem dec_c {c : Nat} (hc : okC c) : (if (6 : Int32) ≤ nI (cod c) then some (nI (cod c) - 6 + 10) else some (nI (cod c))) = some (nI c) := by
  unfold okC at hc
  unfold cod
  by_cases h : c < 10
  · rw [if_pos h, if_neg (show ¬ (6 : Int32) ≤ nI c from nI_ge (b := 6) (by omega) (by decide))]
  · rw [if_neg h, if_pos (show (6 : Int32) ≤ nI (c - 4) from nI_le (a := 6) (by omega) (by omega)), show nI (c - 4) - 6 = nI (c - 4 - 6) from pk_sub (b := 6) (by omega), show nI (c - 4 - 6) + 10 = nI (c - 4 - 6 + 10) from nI_add _ 10, show c - 4 - 6 + 10 = c by omega]
theorem pX_choiceAt18 {n i p c : Nat} {g : Nat → Nat} (hg : ∀ p, okC (g p)) (e289 : S.1 289 = nI n) (hi : i < n) (hn : n ≤ 4001) (hp : p < 22) (hc : S.2.2.2 19 = c) (hcn : 2 * n ≤ c) (hc2 : c < 2 ^ 20) (hw : wd S 19 i g) : fX5_choiceAt_18 P S (nI i) (nI p) = some (nI (g p)) := by
  have e11 : nI p / 11 = nI (p / 11) := pk_div (d := 11) (by omega) (by decide) (by decide)
  have er : nI p - nI (p / 11) * 11 = nI (p % 11) := by
    have := pk_rem (a := p) (d := 11) (by omega) (by decide) (by decide)
    rw [← this, show nI p / nI 11 = nI (p / 11) from e11]
    rfl
  have ei : (2 : Int32) * nI i + nI (p / 11) = nI (2 * i + p / 11) := by rw [show (2 : Int32) * nI i = nI (2 * i) from pk_mul 2 i, nI_add]
  have ek : (4 : Int32) * (10 - nI (p % 11)) = nI (4 * (10 - p % 11)) := by rw [show (10 : Int32) - nI (p % 11) = nI (10 - p % 11) from pk_sub (a := 10) (by omega), show (4 : Int32) * nI (10 - p % 11) = nI (4 * (10 - p % 11)) from pk_mul 4 _]
  have key : ∀ h : Nat → Nat, (∀ p, okC (h p)) → ∀ q, q < 11 → (lN (nuF h 11) >>> ((nI (4 * (10 - q))).toInt64 &&& 63)).toInt32 &&& 15 = nI (cod (h q)) := by
    intro h hh q hq
    have h16 := nuF_16 hh 11
    rw [pk_dig (by omega) (by omega)]
    have := nuF_dig (q := q) (d := 10 - q) hh
    rw [show q + 1 + (10 - q) = 11 by omega] at this
    rw [this]
  have hd : nI p < 22 := nI_lt (b := 22) hp (by decide)
  rw [fX5_choiceAt_18, if_neg (nI_pos (by omega)), e289, if_neg (nI_ge hi (by omega)), if_neg (nI_pos (by omega)), if_pos hd, e11, ei, hc, if_pos (inb_nI (by omega) (by omega)), nI_clamp (by omega), rr_l_e, er, ek, rr_l_e]
  rcases Nat.lt_or_ge p 11 with z | z
  · rw [show p / 11 = 0 by omega, Nat.add_zero, hw.1, key g hg (p % 11) (by omega), show p % 11 = p by omega]
    exact dec_c (hg p)
  · rw [show p / 11 = 1 by omega, hw.2, key _ (fun p => hg _) (p % 11) (by omega), show 11 + p % 11 = p by omega]
    exact dec_c (hg p)
end XROWS

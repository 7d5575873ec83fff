/-! ===== rows that are made anew ===== -/
theorem aI : Cond.arrayClass .int ∈ rr_ws := in_rr 108 (by decide +kernel) rfl
theorem aJ : Cond.arrayClass .long ∈ rr_ws := in_rr 208 (by decide +kernel) rfl
def xq (a : Nat) : Nat → Nat := fun k => if k = a then 56 else k
def xNw (S : rr_T) (a n : Nat) : rr_T := (S.1, va_up S.2.1 a (fun _ => 0), S.2.2.1, va_up S.2.2.2 a n)
def xCp (S : rr_T) (a : Nat) (len : Int32) : rr_T := (S.1, S.2.1, va_up S.2.2.1 a (va_cpy (S.2.2.1 a) (fun _ => 0) 0 0 (jMin (nI (S.2.2.2 a)) len).toNatClampNeg), va_up S.2.2.2 a len.toNatClampNeg)
def xSw (S : rr_T) : rr_T := (S.1, va_up (va_up S.2.1 28 (S.2.1 29)) 29 (S.2.1 28), S.2.2.1, va_up (va_up S.2.2.2 28 (S.2.2.2 29)) 29 (S.2.2.2 28))
def xsw : Nat → Nat := fun k => if k = 28 then 29 else if k = 29 then 28 else k
theorem x_if {c : Prop} [Decidable c] {X c' : va_E} (e : (if c then some X else none) = some c') : c ∧ X = c' := by
  split at e
  · exact ⟨by assumption, Option.some.inj e⟩
  · cases e
def rr_n56 : Value → Bool
  | .ref k => k != 56
  | _ => true
theorem rr_n56L {lv : List (Nat × Value)} (h : lv.all (fun q => rr_n56 q.2) = true) : ∀ q ∈ lv, q.2 ≠ .ref 56 := fun q hq e => by
  have := List.all_eq_true.mp h q hq
  rw [e] at this
  cases this
theorem rr_n56S {st : List Value} (h : st.all rr_n56 = true) : ∀ v ∈ st, v ≠ .ref 56 := fun v hv e => by
  have := List.all_eq_true.mp h v hv
  rw [e] at this
  cases this
theorem xRl_no {P : rr_T} : ¬ ∃ j, xRl P j = some 56 := fun ⟨j, hj⟩ => by
  unfold xRl at hj
  split at hj
  · have := Option.some.inj hj; omega
  · cases hj
theorem xSl_no {P : rr_T} : ¬ ∃ j, xSl P j = some 56 := fun ⟨j, hj⟩ => by
  unfold xSl at hj
  split at hj
  · have := Option.some.inj hj; omega
  · cases hj
set_option maxRecDepth 20000 in
theorem x_no56 (P S : rr_T) : ∀ (n : Nat) (c : va_E), (xw P S)[n]? = some (some c) → ¬ rr_in 56 c := by
  intro n c hc
  exact match n, hc with
    | 0, hc => by have e := Option.some.inj (Option.some.inj hc); subst e; intro z; simp [rr_in, xF0] at z
    | 1, hc => by have e := Option.some.inj (Option.some.inj hc); subst e; intro z; simp [rr_in, xF1] at z
    | 2, hc => by have e := Option.some.inj (Option.some.inj hc); subst e; exact id
    | 3, hc => by have e := Option.some.inj (Option.some.inj hc); subst e; exact id
    | 4, hc => by have e := Option.some.inj (Option.some.inj hc); subst e; exact id
    | 5, hc => by have e := Option.some.inj (Option.some.inj hc); subst e; exact id
    | 6, hc => by have e := Option.some.inj (Option.some.inj hc); subst e; intro z; simp [rr_in, xF6] at z
    | 7, hc => by have e := Option.some.inj (Option.some.inj hc); subst e; exact xRl_no
    | 8, hc => by have e := Option.some.inj (Option.some.inj hc); subst e; intro z; simp [rr_in, xF8] at z
    | 9, hc => by have e := Option.some.inj (Option.some.inj hc); subst e; exact xSl_no
    | 10, hc => by have e := Option.some.inj (Option.some.inj hc); subst e; intro z; simp [rr_in, xF10] at z
    | 11, hc => by have e := Option.some.inj (Option.some.inj hc); subst e; exact id
    | 12, hc => by have e := Option.some.inj (Option.some.inj hc); subst e; exact id
    | 13, hc => by have e := Option.some.inj (Option.some.inj hc); subst e; exact id
    | 14, hc => by have e := Option.some.inj (Option.some.inj hc); subst e; exact id
    | 15, hc => by have e := Option.some.inj (Option.some.inj hc); subst e; exact id
    | 16, hc => by have e := Option.some.inj (Option.some.inj hc); subst e; exact id
    | 17, hc => by have e := Option.some.inj (Option.some.inj hc); subst e; intro z; simp [rr_in, xF17] at z
    | 18, hc => by have e := Option.some.inj (Option.some.inj hc); subst e; intro z; simp [rr_in, xF18] at z
    | 19, hc => by have e := Option.some.inj (Option.some.inj hc); subst e; exact id
    | 20, hc => by have e := Option.some.inj (Option.some.inj hc); subst e; exact id
    | 21, hc => by have e := Option.some.inj (Option.some.inj hc); subst e; intro z; simp [rr_in, xF21] at z
    | 22, hc => by have e := Option.some.inj (Option.some.inj hc); subst e; exact id
    | 23, hc => by have e := Option.some.inj (Option.some.inj hc); subst e; exact id
    | 24, hc => by have e := Option.some.inj (Option.some.inj hc); subst e; exact id
    | 25, hc => by have e := Option.some.inj (Option.some.inj hc); subst e; intro z; simp [rr_in, xF25] at z
    | 26, hc => by have e := Option.some.inj (Option.some.inj hc); subst e; intro z; simp [rr_in, xF26] at z
    | 27, hc => by have e := Option.some.inj (Option.some.inj hc); subst e; exact id
    | 28, hc => by have e := Option.some.inj (Option.some.inj hc); subst e; exact id
    | 29, hc => by have e := Option.some.inj (Option.some.inj hc); subst e; exact id
    | 30, hc => by have e := Option.some.inj (Option.some.inj hc); subst e; exact id
    | 31, hc => by have e := Option.some.inj (Option.some.inj hc); subst e; exact id
    | 32, hc => by have e := Option.some.inj (Option.some.inj hc); subst e; exact id
    | 33, hc => by have e := Option.some.inj (Option.some.inj hc); subst e; exact id
    | 34, hc => by obtain ⟨y, e⟩ := x_if (Option.some.inj hc); subst e; intro z; simp [rr_in, xRf] at z
    | 35, hc => by obtain ⟨y, e⟩ := x_if (Option.some.inj hc); subst e; intro z; simp [rr_in, xRf] at z
    | 36, hc => by obtain ⟨y, e⟩ := x_if (Option.some.inj hc); subst e; intro z; simp [rr_in, xRf] at z
    | 37, hc => by obtain ⟨y, e⟩ := x_if (Option.some.inj hc); subst e; intro z; simp [rr_in, xRf] at z
    | 38, hc => by obtain ⟨y, e⟩ := x_if (Option.some.inj hc); subst e; intro z; simp [rr_in, xRf] at z
    | 39, hc => by obtain ⟨y, e⟩ := x_if (Option.some.inj hc); subst e; intro z; simp [rr_in, xRf] at z
    | 40, hc => by obtain ⟨y, e⟩ := x_if (Option.some.inj hc); subst e; intro z; simp [rr_in, xSf] at z
    | 41, hc => by obtain ⟨y, e⟩ := x_if (Option.some.inj hc); subst e; intro z; simp [rr_in, xSf] at z
    | 42, hc => by obtain ⟨y, e⟩ := x_if (Option.some.inj hc); subst e; intro z; simp [rr_in, xSf] at z
    | 43, hc => by obtain ⟨y, e⟩ := x_if (Option.some.inj hc); subst e; intro z; simp [rr_in, xSf] at z
    | 44, hc => by obtain ⟨y, e⟩ := x_if (Option.some.inj hc); subst e; intro z; simp [rr_in, xSf] at z
    | 45, hc => by obtain ⟨y, e⟩ := x_if (Option.some.inj hc); subst e; intro z; simp [rr_in, xSf] at z
    | 46, hc => by obtain ⟨y, e⟩ := x_if (Option.some.inj hc); subst e; intro z; simp [rr_in, xSf] at z
    | 47, hc => by obtain ⟨y, e⟩ := x_if (Option.some.inj hc); subst e; intro z; simp [rr_in, xSf] at z
    | 48, hc => by obtain ⟨y, e⟩ := x_if (Option.some.inj hc); subst e; intro z; simp [rr_in, xSf] at z
    | 49, hc => by obtain ⟨y, e⟩ := x_if (Option.some.inj hc); subst e; intro z; simp [rr_in, xSf] at z
    | 50, hc => by obtain ⟨y, e⟩ := x_if (Option.some.inj hc); subst e; intro z; simp [rr_in, xSf] at z
    | 51, hc => by obtain ⟨y, e⟩ := x_if (Option.some.inj hc); subst e; intro z; simp [rr_in, xSf] at z
    | 52, hc => by obtain ⟨y, e⟩ := x_if (Option.some.inj hc); subst e; intro z; simp [rr_in, xSf] at z
    | 53, hc => by obtain ⟨y, e⟩ := x_if (Option.some.inj hc); subst e; intro z; simp [rr_in, xSf] at z
    | 54, hc => by obtain ⟨y, e⟩ := x_if (Option.some.inj hc); subst e; intro z; simp [rr_in, xSf] at z
    | 55, hc => by obtain ⟨y, e⟩ := x_if (Option.some.inj hc); subst e; intro z; simp [rr_in, xSf] at z
    | 56, hc => by cases Option.some.inj hc
    | n + 57, hc => by simp [xw] at hc
theorem xRl_pi {P : rr_T} {a j k : Nat} (ha : a < 34) (hj : xRl P j = some k) : xq a k = k := by
  unfold xRl at hj
  split at hj
  · have := Option.some.inj hj; subst this; exact if_neg (by omega)
  · cases hj
theorem xRl_pis {P : rr_T} {j k : Nat} (hj : xRl P j = some k) : xsw k = k := by
  unfold xRl at hj
  split at hj
  · have := Option.some.inj hj; subst this; exact (if_neg (by omega)).trans (if_neg (by omega))
  · cases hj
theorem xSl_pi {P : rr_T} {a j k : Nat} (ha : a < 34) (hj : xSl P j = some k) : xq a k = k := by
  unfold xSl at hj
  split at hj
  · have := Option.some.inj hj; subst this; exact if_neg (by omega)
  · cases hj
theorem xSl_pis {P : rr_T} {j k : Nat} (hj : xSl P j = some k) : xsw k = k := by
  unfold xSl at hj
  split at hj
  · have := Option.some.inj hj; subst this; exact (if_neg (by omega)).trans (if_neg (by omega))
  · cases hj
theorem xq_inj {a : Nat} {h : rr_H} (h56 : h[56]? = some none) : ∀ (n n' : Nat) (c c' : va_E), h[n]? = some (some c) → h[n']? = some (some c') → xq a n = xq a n' → n = n' := by
  intro n n' c c' hc hc' e
  have h1 : n ≠ 56 := fun z => by rw [z, h56] at hc; cases hc
  have h2 : n' ≠ 56 := fun z => by rw [z, h56] at hc'; cases hc'
  unfold xq at e
  split at e <;> split at e <;> omega
theorem xsw_inj : ∀ n n' : Nat, xsw n = xsw n' → n = n' := by
  intro n n' e
  unfold xsw at e
  split at e <;> split at e <;> (try split at e) <;> (try split at e) <;> omega
theorem xq_fx {a : Nat} (ha : fxX a = false) : ∀ n, fxX n = true → xq a n = n := fun n hn => if_neg (fun z => by rw [z, ha] at hn; cases hn)
set_option maxRecDepth 20000 in
theorem xv20 {P S : rr_T} {N' : Nat} : ∀ (n : Nat) (c' : va_E), (xw P (xNw S 20 N'))[n]? = some (some c') → ∃ c, (((xw P S).set 56 (some (.inl (0, N', .inl (fun _ => 0))))).set 17 (some (.inr (0, (xF17 S).set 4 (.ref 56)))))[(xq 20) n]? = some (some c) ∧ ∀ (cy : Nat → ClassId) (ad : Nat → Nat), a_c cy (fun k => ad ((xq 20) k)) c' = a_c cy ad c := by
  intro n c' hc
  exact match n, hc with
    | 0, hc => by have e := Option.some.inj (Option.some.inj hc); subst e; exact ⟨_, rfl, fun _ _ => rfl⟩
    | 1, hc => by have e := Option.some.inj (Option.some.inj hc); subst e; exact ⟨_, rfl, fun _ _ => rfl⟩
    | 2, hc => by have e := Option.some.inj (Option.some.inj hc); subst e; exact ⟨_, rfl, fun _ _ => rfl⟩
    | 3, hc => by have e := Option.some.inj (Option.some.inj hc); subst e; exact ⟨_, rfl, fun _ _ => rfl⟩
    | 4, hc => by have e := Option.some.inj (Option.some.inj hc); subst e; exact ⟨_, rfl, fun _ _ => rfl⟩
    | 5, hc => by have e := Option.some.inj (Option.some.inj hc); subst e; exact ⟨_, rfl, fun _ _ => rfl⟩
    | 6, hc => by have e := Option.some.inj (Option.some.inj hc); subst e; exact ⟨_, rfl, fun _ _ => rfl⟩
    | 7, hc => by have e := Option.some.inj (Option.some.inj hc); subst e; exact ⟨_, rfl, fun _ _ => a_c_congr (fun k ⟨j, hj⟩ => congrArg _ (xRl_pi (a := 20) (by decide) hj))⟩
    | 8, hc => by have e := Option.some.inj (Option.some.inj hc); subst e; exact ⟨_, rfl, fun _ _ => rfl⟩
    | 9, hc => by have e := Option.some.inj (Option.some.inj hc); subst e; exact ⟨_, rfl, fun _ _ => a_c_congr (fun k ⟨j, hj⟩ => congrArg _ (xSl_pi (a := 20) (by decide) hj))⟩
    | 10, hc => by have e := Option.some.inj (Option.some.inj hc); subst e; exact ⟨_, rfl, fun _ _ => rfl⟩
    | 11, hc => by have e := Option.some.inj (Option.some.inj hc); subst e; exact ⟨_, rfl, fun _ _ => rfl⟩
    | 12, hc => by have e := Option.some.inj (Option.some.inj hc); subst e; exact ⟨_, rfl, fun _ _ => rfl⟩
    | 13, hc => by have e := Option.some.inj (Option.some.inj hc); subst e; exact ⟨_, rfl, fun _ _ => rfl⟩
    | 14, hc => by have e := Option.some.inj (Option.some.inj hc); subst e; exact ⟨_, rfl, fun _ _ => rfl⟩
    | 15, hc => by have e := Option.some.inj (Option.some.inj hc); subst e; exact ⟨_, rfl, fun _ _ => rfl⟩
    | 16, hc => by have e := Option.some.inj (Option.some.inj hc); subst e; exact ⟨_, rfl, fun _ _ => rfl⟩
    | 17, hc => by have e := Option.some.inj (Option.some.inj hc); subst e; exact ⟨_, rfl, fun _ _ => rfl⟩
    | 18, hc => by have e := Option.some.inj (Option.some.inj hc); subst e; exact ⟨_, rfl, fun _ _ => rfl⟩
    | 19, hc => by have e := Option.some.inj (Option.some.inj hc); subst e; exact ⟨_, rfl, fun _ _ => rfl⟩
    | 20, hc => by have e := Option.some.inj (Option.some.inj hc); subst e; exact ⟨_, rfl, fun _ _ => rfl⟩
    | 21, hc => by have e := Option.some.inj (Option.some.inj hc); subst e; exact ⟨_, rfl, fun _ _ => rfl⟩
    | 22, hc => by have e := Option.some.inj (Option.some.inj hc); subst e; exact ⟨_, rfl, fun _ _ => rfl⟩
    | 23, hc => by have e := Option.some.inj (Option.some.inj hc); subst e; exact ⟨_, rfl, fun _ _ => rfl⟩
    | 24, hc => by have e := Option.some.inj (Option.some.inj hc); subst e; exact ⟨_, rfl, fun _ _ => rfl⟩
    | 25, hc => by have e := Option.some.inj (Option.some.inj hc); subst e; exact ⟨_, rfl, fun _ _ => rfl⟩
    | 26, hc => by have e := Option.some.inj (Option.some.inj hc); subst e; exact ⟨_, rfl, fun _ _ => rfl⟩
    | 27, hc => by have e := Option.some.inj (Option.some.inj hc); subst e; exact ⟨_, rfl, fun _ _ => rfl⟩
    | 28, hc => by have e := Option.some.inj (Option.some.inj hc); subst e; exact ⟨_, rfl, fun _ _ => rfl⟩
    | 29, hc => by have e := Option.some.inj (Option.some.inj hc); subst e; exact ⟨_, rfl, fun _ _ => rfl⟩
    | 30, hc => by have e := Option.some.inj (Option.some.inj hc); subst e; exact ⟨_, rfl, fun _ _ => rfl⟩
    | 31, hc => by have e := Option.some.inj (Option.some.inj hc); subst e; exact ⟨_, rfl, fun _ _ => rfl⟩
    | 32, hc => by have e := Option.some.inj (Option.some.inj hc); subst e; exact ⟨_, rfl, fun _ _ => rfl⟩
    | 33, hc => by have e := Option.some.inj (Option.some.inj hc); subst e; exact ⟨_, rfl, fun _ _ => rfl⟩
    | 34, hc => by obtain ⟨y, e⟩ := x_if (Option.some.inj hc); subst e; exact ⟨_, congrArg some (if_pos y), fun _ _ => rfl⟩
    | 35, hc => by obtain ⟨y, e⟩ := x_if (Option.some.inj hc); subst e; exact ⟨_, congrArg some (if_pos y), fun _ _ => rfl⟩
    | 36, hc => by obtain ⟨y, e⟩ := x_if (Option.some.inj hc); subst e; exact ⟨_, congrArg some (if_pos y), fun _ _ => rfl⟩
    | 37, hc => by obtain ⟨y, e⟩ := x_if (Option.some.inj hc); subst e; exact ⟨_, congrArg some (if_pos y), fun _ _ => rfl⟩
    | 38, hc => by obtain ⟨y, e⟩ := x_if (Option.some.inj hc); subst e; exact ⟨_, congrArg some (if_pos y), fun _ _ => rfl⟩
    | 39, hc => by obtain ⟨y, e⟩ := x_if (Option.some.inj hc); subst e; exact ⟨_, congrArg some (if_pos y), fun _ _ => rfl⟩
    | 40, hc => by obtain ⟨y, e⟩ := x_if (Option.some.inj hc); subst e; exact ⟨_, congrArg some (if_pos y), fun _ _ => rfl⟩
    | 41, hc => by obtain ⟨y, e⟩ := x_if (Option.some.inj hc); subst e; exact ⟨_, congrArg some (if_pos y), fun _ _ => rfl⟩
    | 42, hc => by obtain ⟨y, e⟩ := x_if (Option.some.inj hc); subst e; exact ⟨_, congrArg some (if_pos y), fun _ _ => rfl⟩
    | 43, hc => by obtain ⟨y, e⟩ := x_if (Option.some.inj hc); subst e; exact ⟨_, congrArg some (if_pos y), fun _ _ => rfl⟩
    | 44, hc => by obtain ⟨y, e⟩ := x_if (Option.some.inj hc); subst e; exact ⟨_, congrArg some (if_pos y), fun _ _ => rfl⟩
    | 45, hc => by obtain ⟨y, e⟩ := x_if (Option.some.inj hc); subst e; exact ⟨_, congrArg some (if_pos y), fun _ _ => rfl⟩
    | 46, hc => by obtain ⟨y, e⟩ := x_if (Option.some.inj hc); subst e; exact ⟨_, congrArg some (if_pos y), fun _ _ => rfl⟩
    | 47, hc => by obtain ⟨y, e⟩ := x_if (Option.some.inj hc); subst e; exact ⟨_, congrArg some (if_pos y), fun _ _ => rfl⟩
    | 48, hc => by obtain ⟨y, e⟩ := x_if (Option.some.inj hc); subst e; exact ⟨_, congrArg some (if_pos y), fun _ _ => rfl⟩
    | 49, hc => by obtain ⟨y, e⟩ := x_if (Option.some.inj hc); subst e; exact ⟨_, congrArg some (if_pos y), fun _ _ => rfl⟩
    | 50, hc => by obtain ⟨y, e⟩ := x_if (Option.some.inj hc); subst e; exact ⟨_, congrArg some (if_pos y), fun _ _ => rfl⟩
    | 51, hc => by obtain ⟨y, e⟩ := x_if (Option.some.inj hc); subst e; exact ⟨_, congrArg some (if_pos y), fun _ _ => rfl⟩
    | 52, hc => by obtain ⟨y, e⟩ := x_if (Option.some.inj hc); subst e; exact ⟨_, congrArg some (if_pos y), fun _ _ => rfl⟩
    | 53, hc => by obtain ⟨y, e⟩ := x_if (Option.some.inj hc); subst e; exact ⟨_, congrArg some (if_pos y), fun _ _ => rfl⟩
    | 54, hc => by obtain ⟨y, e⟩ := x_if (Option.some.inj hc); subst e; exact ⟨_, congrArg some (if_pos y), fun _ _ => rfl⟩
    | 55, hc => by obtain ⟨y, e⟩ := x_if (Option.some.inj hc); subst e; exact ⟨_, congrArg some (if_pos y), fun _ _ => rfl⟩
    | 56, hc => by cases Option.some.inj hc
    | n + 57, hc => by simp [xw] at hc
set_option maxRecDepth 20000 in
theorem x_new20 {σ : Type} {l : Launch} {G : rr_G} {mt : rr_M} {d lo : Nat} {rv : σ → Option Value} {w : σ → rr_H} {U V : σ → Nat} {uu vv pc idx : Nat} {lv : List (Nat × Value)} {st : List Value} {o : Option σ} {P S : rr_T} {len : Int32} (hin : inb len 100000 = true) (hlk : rr_lk mt.1.cls idx RX0 TX0 4) (h1 : decode mt.2.1 pc = .ok (.newarray .int, 2)) (h2 : decode mt.2.1 (pc + 2) = .ok (.putfield idx, 3)) (hl : lv.all (fun q => rr_n56 q.2) = true) (hs : st.all rr_n56 = true) (hl2 : lv.all (fun q => rr_pf (xq 20) q.2) = true) (hs2 : st.all (rr_pf (xq 20)) = true)
    (kk : RR l G mt d lo fxX rv w U V (uu + 1) (vv + len.toNatClampNeg) (pc + 5) lv st (xw P (xNw S 20 len.toNatClampNeg)) o) : RR l G mt d lo fxX rv w U V uu vv pc lv (.int len :: .ref 17 :: st) (xw P S) o := by
  have hz := inb_in hin
  have hlt : len.toNatClampNeg < 100000 := Nat.not_le.mp (fun q => hz (Or.inr q))
  refine rr_newa (ty := .int) (t := 0) (N' := len.toNatClampNeg) (x := .inl (fun _ => 0)) 56 rfl rfl (fun _ => rfl) (fun _ => rfl) (fun _ => rfl) aI (fun q => hz (Or.inl q)) rfl (by show len.toNatClampNeg * 4 ≤ 536870912; omega) rfl (x_no56 P S) rfl (rr_n56L hl) (rr_n56S (by show (rr_n56 (.ref 17) && st.all rr_n56) = true; rw [hs]; rfl)) h1 rfl ?_
  refine rr_put cl0 hlk (Nat.le_of_ble_eq_true rfl) rfl rfl rfl rfl (Nat.le_of_ble_eq_true rfl) h2 rfl ?_
  exact rr_view (h' := xw P (xNw S 20 len.toNatClampNeg)) (xq 20) xv20 (xq_inj rfl) (xq_fx rfl) hl2 hs2 kk
set_option maxRecDepth 20000 in
theorem xv28 {P S : rr_T} {N' : Nat} : ∀ (n : Nat) (c' : va_E), (xw P (xNw S 28 N'))[n]? = some (some c') → ∃ c, (((xw P S).set 56 (some (.inl (0, N', .inl (fun _ => 0))))).set 25 (some (.inr (1, (xF25 S).set 3 (.ref 56)))))[(xq 28) n]? = some (some c) ∧ ∀ (cy : Nat → ClassId) (ad : Nat → Nat), a_c cy (fun k => ad ((xq 28) k)) c' = a_c cy ad c := by
  intro n c' hc
  exact match n, hc with
    | 0, hc => by have e := Option.some.inj (Option.some.inj hc); subst e; exact ⟨_, rfl, fun _ _ => rfl⟩
    | 1, hc => by have e := Option.some.inj (Option.some.inj hc); subst e; exact ⟨_, rfl, fun _ _ => rfl⟩
    | 2, hc => by have e := Option.some.inj (Option.some.inj hc); subst e; exact ⟨_, rfl, fun _ _ => rfl⟩
    | 3, hc => by have e := Option.some.inj (Option.some.inj hc); subst e; exact ⟨_, rfl, fun _ _ => rfl⟩
    | 4, hc => by have e := Option.some.inj (Option.some.inj hc); subst e; exact ⟨_, rfl, fun _ _ => rfl⟩
    | 5, hc => by have e := Option.some.inj (Option.some.inj hc); subst e; exact ⟨_, rfl, fun _ _ => rfl⟩
    | 6, hc => by have e := Option.some.inj (Option.some.inj hc); subst e; exact ⟨_, rfl, fun _ _ => rfl⟩
    | 7, hc => by have e := Option.some.inj (Option.some.inj hc); subst e; exact ⟨_, rfl, fun _ _ => a_c_congr (fun k ⟨j, hj⟩ => congrArg _ (xRl_pi (a := 28) (by decide) hj))⟩
    | 8, hc => by have e := Option.some.inj (Option.some.inj hc); subst e; exact ⟨_, rfl, fun _ _ => rfl⟩
    | 9, hc => by have e := Option.some.inj (Option.some.inj hc); subst e; exact ⟨_, rfl, fun _ _ => a_c_congr (fun k ⟨j, hj⟩ => congrArg _ (xSl_pi (a := 28) (by decide) hj))⟩
    | 10, hc => by have e := Option.some.inj (Option.some.inj hc); subst e; exact ⟨_, rfl, fun _ _ => rfl⟩
    | 11, hc => by have e := Option.some.inj (Option.some.inj hc); subst e; exact ⟨_, rfl, fun _ _ => rfl⟩
    | 12, hc => by have e := Option.some.inj (Option.some.inj hc); subst e; exact ⟨_, rfl, fun _ _ => rfl⟩
    | 13, hc => by have e := Option.some.inj (Option.some.inj hc); subst e; exact ⟨_, rfl, fun _ _ => rfl⟩
    | 14, hc => by have e := Option.some.inj (Option.some.inj hc); subst e; exact ⟨_, rfl, fun _ _ => rfl⟩
    | 15, hc => by have e := Option.some.inj (Option.some.inj hc); subst e; exact ⟨_, rfl, fun _ _ => rfl⟩
    | 16, hc => by have e := Option.some.inj (Option.some.inj hc); subst e; exact ⟨_, rfl, fun _ _ => rfl⟩
    | 17, hc => by have e := Option.some.inj (Option.some.inj hc); subst e; exact ⟨_, rfl, fun _ _ => rfl⟩
    | 18, hc => by have e := Option.some.inj (Option.some.inj hc); subst e; exact ⟨_, rfl, fun _ _ => rfl⟩
    | 19, hc => by have e := Option.some.inj (Option.some.inj hc); subst e; exact ⟨_, rfl, fun _ _ => rfl⟩
    | 20, hc => by have e := Option.some.inj (Option.some.inj hc); subst e; exact ⟨_, rfl, fun _ _ => rfl⟩
    | 21, hc => by have e := Option.some.inj (Option.some.inj hc); subst e; exact ⟨_, rfl, fun _ _ => rfl⟩
    | 22, hc => by have e := Option.some.inj (Option.some.inj hc); subst e; exact ⟨_, rfl, fun _ _ => rfl⟩
    | 23, hc => by have e := Option.some.inj (Option.some.inj hc); subst e; exact ⟨_, rfl, fun _ _ => rfl⟩
    | 24, hc => by have e := Option.some.inj (Option.some.inj hc); subst e; exact ⟨_, rfl, fun _ _ => rfl⟩
    | 25, hc => by have e := Option.some.inj (Option.some.inj hc); subst e; exact ⟨_, rfl, fun _ _ => rfl⟩
    | 26, hc => by have e := Option.some.inj (Option.some.inj hc); subst e; exact ⟨_, rfl, fun _ _ => rfl⟩
    | 27, hc => by have e := Option.some.inj (Option.some.inj hc); subst e; exact ⟨_, rfl, fun _ _ => rfl⟩
    | 28, hc => by have e := Option.some.inj (Option.some.inj hc); subst e; exact ⟨_, rfl, fun _ _ => rfl⟩
    | 29, hc => by have e := Option.some.inj (Option.some.inj hc); subst e; exact ⟨_, rfl, fun _ _ => rfl⟩
    | 30, hc => by have e := Option.some.inj (Option.some.inj hc); subst e; exact ⟨_, rfl, fun _ _ => rfl⟩
    | 31, hc => by have e := Option.some.inj (Option.some.inj hc); subst e; exact ⟨_, rfl, fun _ _ => rfl⟩
    | 32, hc => by have e := Option.some.inj (Option.some.inj hc); subst e; exact ⟨_, rfl, fun _ _ => rfl⟩
    | 33, hc => by have e := Option.some.inj (Option.some.inj hc); subst e; exact ⟨_, rfl, fun _ _ => rfl⟩
    | 34, hc => by obtain ⟨y, e⟩ := x_if (Option.some.inj hc); subst e; exact ⟨_, congrArg some (if_pos y), fun _ _ => rfl⟩
    | 35, hc => by obtain ⟨y, e⟩ := x_if (Option.some.inj hc); subst e; exact ⟨_, congrArg some (if_pos y), fun _ _ => rfl⟩
    | 36, hc => by obtain ⟨y, e⟩ := x_if (Option.some.inj hc); subst e; exact ⟨_, congrArg some (if_pos y), fun _ _ => rfl⟩
    | 37, hc => by obtain ⟨y, e⟩ := x_if (Option.some.inj hc); subst e; exact ⟨_, congrArg some (if_pos y), fun _ _ => rfl⟩
    | 38, hc => by obtain ⟨y, e⟩ := x_if (Option.some.inj hc); subst e; exact ⟨_, congrArg some (if_pos y), fun _ _ => rfl⟩
    | 39, hc => by obtain ⟨y, e⟩ := x_if (Option.some.inj hc); subst e; exact ⟨_, congrArg some (if_pos y), fun _ _ => rfl⟩
    | 40, hc => by obtain ⟨y, e⟩ := x_if (Option.some.inj hc); subst e; exact ⟨_, congrArg some (if_pos y), fun _ _ => rfl⟩
    | 41, hc => by obtain ⟨y, e⟩ := x_if (Option.some.inj hc); subst e; exact ⟨_, congrArg some (if_pos y), fun _ _ => rfl⟩
    | 42, hc => by obtain ⟨y, e⟩ := x_if (Option.some.inj hc); subst e; exact ⟨_, congrArg some (if_pos y), fun _ _ => rfl⟩
    | 43, hc => by obtain ⟨y, e⟩ := x_if (Option.some.inj hc); subst e; exact ⟨_, congrArg some (if_pos y), fun _ _ => rfl⟩
    | 44, hc => by obtain ⟨y, e⟩ := x_if (Option.some.inj hc); subst e; exact ⟨_, congrArg some (if_pos y), fun _ _ => rfl⟩
    | 45, hc => by obtain ⟨y, e⟩ := x_if (Option.some.inj hc); subst e; exact ⟨_, congrArg some (if_pos y), fun _ _ => rfl⟩
    | 46, hc => by obtain ⟨y, e⟩ := x_if (Option.some.inj hc); subst e; exact ⟨_, congrArg some (if_pos y), fun _ _ => rfl⟩
    | 47, hc => by obtain ⟨y, e⟩ := x_if (Option.some.inj hc); subst e; exact ⟨_, congrArg some (if_pos y), fun _ _ => rfl⟩
    | 48, hc => by obtain ⟨y, e⟩ := x_if (Option.some.inj hc); subst e; exact ⟨_, congrArg some (if_pos y), fun _ _ => rfl⟩
    | 49, hc => by obtain ⟨y, e⟩ := x_if (Option.some.inj hc); subst e; exact ⟨_, congrArg some (if_pos y), fun _ _ => rfl⟩
    | 50, hc => by obtain ⟨y, e⟩ := x_if (Option.some.inj hc); subst e; exact ⟨_, congrArg some (if_pos y), fun _ _ => rfl⟩
    | 51, hc => by obtain ⟨y, e⟩ := x_if (Option.some.inj hc); subst e; exact ⟨_, congrArg some (if_pos y), fun _ _ => rfl⟩
    | 52, hc => by obtain ⟨y, e⟩ := x_if (Option.some.inj hc); subst e; exact ⟨_, congrArg some (if_pos y), fun _ _ => rfl⟩
    | 53, hc => by obtain ⟨y, e⟩ := x_if (Option.some.inj hc); subst e; exact ⟨_, congrArg some (if_pos y), fun _ _ => rfl⟩
    | 54, hc => by obtain ⟨y, e⟩ := x_if (Option.some.inj hc); subst e; exact ⟨_, congrArg some (if_pos y), fun _ _ => rfl⟩
    | 55, hc => by obtain ⟨y, e⟩ := x_if (Option.some.inj hc); subst e; exact ⟨_, congrArg some (if_pos y), fun _ _ => rfl⟩
    | 56, hc => by cases Option.some.inj hc
    | n + 57, hc => by simp [xw] at hc
set_option maxRecDepth 20000 in
theorem x_new28 {σ : Type} {l : Launch} {G : rr_G} {mt : rr_M} {d lo : Nat} {rv : σ → Option Value} {w : σ → rr_H} {U V : σ → Nat} {uu vv pc idx : Nat} {lv : List (Nat × Value)} {st : List Value} {o : Option σ} {P S : rr_T} {len : Int32} (hin : inb len 100000 = true) (hlk : rr_lk mt.1.cls idx RX1 TX1 3) (h1 : decode mt.2.1 pc = .ok (.newarray .int, 2)) (h2 : decode mt.2.1 (pc + 2) = .ok (.putfield idx, 3)) (hl : lv.all (fun q => rr_n56 q.2) = true) (hs : st.all rr_n56 = true) (hl2 : lv.all (fun q => rr_pf (xq 28) q.2) = true) (hs2 : st.all (rr_pf (xq 28)) = true)
    (kk : RR l G mt d lo fxX rv w U V (uu + 1) (vv + len.toNatClampNeg) (pc + 5) lv st (xw P (xNw S 28 len.toNatClampNeg)) o) : RR l G mt d lo fxX rv w U V uu vv pc lv (.int len :: .ref 25 :: st) (xw P S) o := by
  have hz := inb_in hin
  have hlt : len.toNatClampNeg < 100000 := Nat.not_le.mp (fun q => hz (Or.inr q))
  refine rr_newa (ty := .int) (t := 0) (N' := len.toNatClampNeg) (x := .inl (fun _ => 0)) 56 rfl rfl (fun _ => rfl) (fun _ => rfl) (fun _ => rfl) aI (fun q => hz (Or.inl q)) rfl (by show len.toNatClampNeg * 4 ≤ 536870912; omega) rfl (x_no56 P S) rfl (rr_n56L hl) (rr_n56S (by show (rr_n56 (.ref 25) && st.all rr_n56) = true; rw [hs]; rfl)) h1 rfl ?_
  refine rr_put cl1 hlk (Nat.le_of_ble_eq_true rfl) rfl rfl rfl rfl (Nat.le_of_ble_eq_true rfl) h2 rfl ?_
  exact rr_view (h' := xw P (xNw S 28 len.toNatClampNeg)) (xq 28) xv28 (xq_inj rfl) (xq_fx rfl) hl2 hs2 kk
set_option maxRecDepth 20000 in
theorem xv29 {P S : rr_T} {N' : Nat} : ∀ (n : Nat) (c' : va_E), (xw P (xNw S 29 N'))[n]? = some (some c') → ∃ c, (((xw P S).set 56 (some (.inl (0, N', .inl (fun _ => 0))))).set 25 (some (.inr (1, (xF25 S).set 4 (.ref 56)))))[(xq 29) n]? = some (some c) ∧ ∀ (cy : Nat → ClassId) (ad : Nat → Nat), a_c cy (fun k => ad ((xq 29) k)) c' = a_c cy ad c := by
  intro n c' hc
  exact match n, hc with
    | 0, hc => by have e := Option.some.inj (Option.some.inj hc); subst e; exact ⟨_, rfl, fun _ _ => rfl⟩
    | 1, hc => by have e := Option.some.inj (Option.some.inj hc); subst e; exact ⟨_, rfl, fun _ _ => rfl⟩
    | 2, hc => by have e := Option.some.inj (Option.some.inj hc); subst e; exact ⟨_, rfl, fun _ _ => rfl⟩
    | 3, hc => by have e := Option.some.inj (Option.some.inj hc); subst e; exact ⟨_, rfl, fun _ _ => rfl⟩
    | 4, hc => by have e := Option.some.inj (Option.some.inj hc); subst e; exact ⟨_, rfl, fun _ _ => rfl⟩
    | 5, hc => by have e := Option.some.inj (Option.some.inj hc); subst e; exact ⟨_, rfl, fun _ _ => rfl⟩
    | 6, hc => by have e := Option.some.inj (Option.some.inj hc); subst e; exact ⟨_, rfl, fun _ _ => rfl⟩
    | 7, hc => by have e := Option.some.inj (Option.some.inj hc); subst e; exact ⟨_, rfl, fun _ _ => a_c_congr (fun k ⟨j, hj⟩ => congrArg _ (xRl_pi (a := 29) (by decide) hj))⟩
    | 8, hc => by have e := Option.some.inj (Option.some.inj hc); subst e; exact ⟨_, rfl, fun _ _ => rfl⟩
    | 9, hc => by have e := Option.some.inj (Option.some.inj hc); subst e; exact ⟨_, rfl, fun _ _ => a_c_congr (fun k ⟨j, hj⟩ => congrArg _ (xSl_pi (a := 29) (by decide) hj))⟩
    | 10, hc => by have e := Option.some.inj (Option.some.inj hc); subst e; exact ⟨_, rfl, fun _ _ => rfl⟩
    | 11, hc => by have e := Option.some.inj (Option.some.inj hc); subst e; exact ⟨_, rfl, fun _ _ => rfl⟩
    | 12, hc => by have e := Option.some.inj (Option.some.inj hc); subst e; exact ⟨_, rfl, fun _ _ => rfl⟩
    | 13, hc => by have e := Option.some.inj (Option.some.inj hc); subst e; exact ⟨_, rfl, fun _ _ => rfl⟩
    | 14, hc => by have e := Option.some.inj (Option.some.inj hc); subst e; exact ⟨_, rfl, fun _ _ => rfl⟩
    | 15, hc => by have e := Option.some.inj (Option.some.inj hc); subst e; exact ⟨_, rfl, fun _ _ => rfl⟩
    | 16, hc => by have e := Option.some.inj (Option.some.inj hc); subst e; exact ⟨_, rfl, fun _ _ => rfl⟩
    | 17, hc => by have e := Option.some.inj (Option.some.inj hc); subst e; exact ⟨_, rfl, fun _ _ => rfl⟩
    | 18, hc => by have e := Option.some.inj (Option.some.inj hc); subst e; exact ⟨_, rfl, fun _ _ => rfl⟩
    | 19, hc => by have e := Option.some.inj (Option.some.inj hc); subst e; exact ⟨_, rfl, fun _ _ => rfl⟩
    | 20, hc => by have e := Option.some.inj (Option.some.inj hc); subst e; exact ⟨_, rfl, fun _ _ => rfl⟩
    | 21, hc => by have e := Option.some.inj (Option.some.inj hc); subst e; exact ⟨_, rfl, fun _ _ => rfl⟩
    | 22, hc => by have e := Option.some.inj (Option.some.inj hc); subst e; exact ⟨_, rfl, fun _ _ => rfl⟩
    | 23, hc => by have e := Option.some.inj (Option.some.inj hc); subst e; exact ⟨_, rfl, fun _ _ => rfl⟩
    | 24, hc => by have e := Option.some.inj (Option.some.inj hc); subst e; exact ⟨_, rfl, fun _ _ => rfl⟩
    | 25, hc => by have e := Option.some.inj (Option.some.inj hc); subst e; exact ⟨_, rfl, fun _ _ => rfl⟩
    | 26, hc => by have e := Option.some.inj (Option.some.inj hc); subst e; exact ⟨_, rfl, fun _ _ => rfl⟩
    | 27, hc => by have e := Option.some.inj (Option.some.inj hc); subst e; exact ⟨_, rfl, fun _ _ => rfl⟩
    | 28, hc => by have e := Option.some.inj (Option.some.inj hc); subst e; exact ⟨_, rfl, fun _ _ => rfl⟩
    | 29, hc => by have e := Option.some.inj (Option.some.inj hc); subst e; exact ⟨_, rfl, fun _ _ => rfl⟩
    | 30, hc => by have e := Option.some.inj (Option.some.inj hc); subst e; exact ⟨_, rfl, fun _ _ => rfl⟩
    | 31, hc => by have e := Option.some.inj (Option.some.inj hc); subst e; exact ⟨_, rfl, fun _ _ => rfl⟩
    | 32, hc => by have e := Option.some.inj (Option.some.inj hc); subst e; exact ⟨_, rfl, fun _ _ => rfl⟩
    | 33, hc => by have e := Option.some.inj (Option.some.inj hc); subst e; exact ⟨_, rfl, fun _ _ => rfl⟩
    | 34, hc => by obtain ⟨y, e⟩ := x_if (Option.some.inj hc); subst e; exact ⟨_, congrArg some (if_pos y), fun _ _ => rfl⟩
    | 35, hc => by obtain ⟨y, e⟩ := x_if (Option.some.inj hc); subst e; exact ⟨_, congrArg some (if_pos y), fun _ _ => rfl⟩
    | 36, hc => by obtain ⟨y, e⟩ := x_if (Option.some.inj hc); subst e; exact ⟨_, congrArg some (if_pos y), fun _ _ => rfl⟩
    | 37, hc => by obtain ⟨y, e⟩ := x_if (Option.some.inj hc); subst e; exact ⟨_, congrArg some (if_pos y), fun _ _ => rfl⟩
    | 38, hc => by obtain ⟨y, e⟩ := x_if (Option.some.inj hc); subst e; exact ⟨_, congrArg some (if_pos y), fun _ _ => rfl⟩
    | 39, hc => by obtain ⟨y, e⟩ := x_if (Option.some.inj hc); subst e; exact ⟨_, congrArg some (if_pos y), fun _ _ => rfl⟩
    | 40, hc => by obtain ⟨y, e⟩ := x_if (Option.some.inj hc); subst e; exact ⟨_, congrArg some (if_pos y), fun _ _ => rfl⟩
    | 41, hc => by obtain ⟨y, e⟩ := x_if (Option.some.inj hc); subst e; exact ⟨_, congrArg some (if_pos y), fun _ _ => rfl⟩
    | 42, hc => by obtain ⟨y, e⟩ := x_if (Option.some.inj hc); subst e; exact ⟨_, congrArg some (if_pos y), fun _ _ => rfl⟩
    | 43, hc => by obtain ⟨y, e⟩ := x_if (Option.some.inj hc); subst e; exact ⟨_, congrArg some (if_pos y), fun _ _ => rfl⟩
    | 44, hc => by obtain ⟨y, e⟩ := x_if (Option.some.inj hc); subst e; exact ⟨_, congrArg some (if_pos y), fun _ _ => rfl⟩
    | 45, hc => by obtain ⟨y, e⟩ := x_if (Option.some.inj hc); subst e; exact ⟨_, congrArg some (if_pos y), fun _ _ => rfl⟩
    | 46, hc => by obtain ⟨y, e⟩ := x_if (Option.some.inj hc); subst e; exact ⟨_, congrArg some (if_pos y), fun _ _ => rfl⟩
    | 47, hc => by obtain ⟨y, e⟩ := x_if (Option.some.inj hc); subst e; exact ⟨_, congrArg some (if_pos y), fun _ _ => rfl⟩
    | 48, hc => by obtain ⟨y, e⟩ := x_if (Option.some.inj hc); subst e; exact ⟨_, congrArg some (if_pos y), fun _ _ => rfl⟩
    | 49, hc => by obtain ⟨y, e⟩ := x_if (Option.some.inj hc); subst e; exact ⟨_, congrArg some (if_pos y), fun _ _ => rfl⟩
    | 50, hc => by obtain ⟨y, e⟩ := x_if (Option.some.inj hc); subst e; exact ⟨_, congrArg some (if_pos y), fun _ _ => rfl⟩
    | 51, hc => by obtain ⟨y, e⟩ := x_if (Option.some.inj hc); subst e; exact ⟨_, congrArg some (if_pos y), fun _ _ => rfl⟩
    | 52, hc => by obtain ⟨y, e⟩ := x_if (Option.some.inj hc); subst e; exact ⟨_, congrArg some (if_pos y), fun _ _ => rfl⟩
    | 53, hc => by obtain ⟨y, e⟩ := x_if (Option.some.inj hc); subst e; exact ⟨_, congrArg some (if_pos y), fun _ _ => rfl⟩
    | 54, hc => by obtain ⟨y, e⟩ := x_if (Option.some.inj hc); subst e; exact ⟨_, congrArg some (if_pos y), fun _ _ => rfl⟩
    | 55, hc => by obtain ⟨y, e⟩ := x_if (Option.some.inj hc); subst e; exact ⟨_, congrArg some (if_pos y), fun _ _ => rfl⟩
    | 56, hc => by cases Option.some.inj hc
    | n + 57, hc => by simp [xw] at hc
set_option maxRecDepth 20000 in
theorem x_new29 {σ : Type} {l : Launch} {G : rr_G} {mt : rr_M} {d lo : Nat} {rv : σ → Option Value} {w : σ → rr_H} {U V : σ → Nat} {uu vv pc idx : Nat} {lv : List (Nat × Value)} {st : List Value} {o : Option σ} {P S : rr_T} {len : Int32} (hin : inb len 100000 = true) (hlk : rr_lk mt.1.cls idx RX1 TX1 4) (h1 : decode mt.2.1 pc = .ok (.newarray .int, 2)) (h2 : decode mt.2.1 (pc + 2) = .ok (.putfield idx, 3)) (hl : lv.all (fun q => rr_n56 q.2) = true) (hs : st.all rr_n56 = true) (hl2 : lv.all (fun q => rr_pf (xq 29) q.2) = true) (hs2 : st.all (rr_pf (xq 29)) = true)
    (kk : RR l G mt d lo fxX rv w U V (uu + 1) (vv + len.toNatClampNeg) (pc + 5) lv st (xw P (xNw S 29 len.toNatClampNeg)) o) : RR l G mt d lo fxX rv w U V uu vv pc lv (.int len :: .ref 25 :: st) (xw P S) o := by
  have hz := inb_in hin
  have hlt : len.toNatClampNeg < 100000 := Nat.not_le.mp (fun q => hz (Or.inr q))
  refine rr_newa (ty := .int) (t := 0) (N' := len.toNatClampNeg) (x := .inl (fun _ => 0)) 56 rfl rfl (fun _ => rfl) (fun _ => rfl) (fun _ => rfl) aI (fun q => hz (Or.inl q)) rfl (by show len.toNatClampNeg * 4 ≤ 536870912; omega) rfl (x_no56 P S) rfl (rr_n56L hl) (rr_n56S (by show (rr_n56 (.ref 25) && st.all rr_n56) = true; rw [hs]; rfl)) h1 rfl ?_
  refine rr_put cl1 hlk (Nat.le_of_ble_eq_true rfl) rfl rfl rfl rfl (Nat.le_of_ble_eq_true rfl) h2 rfl ?_
  exact rr_view (h' := xw P (xNw S 29 len.toNatClampNeg)) (xq 29) xv29 (xq_inj rfl) (xq_fx rfl) hl2 hs2 kk
set_option maxRecDepth 20000 in
theorem xv30 {P S : rr_T} {N' : Nat} : ∀ (n : Nat) (c' : va_E), (xw P (xNw S 30 N'))[n]? = some (some c') → ∃ c, (((xw P S).set 56 (some (.inl (0, N', .inl (fun _ => 0))))).set 25 (some (.inr (1, (xF25 S).set 5 (.ref 56)))))[(xq 30) n]? = some (some c) ∧ ∀ (cy : Nat → ClassId) (ad : Nat → Nat), a_c cy (fun k => ad ((xq 30) k)) c' = a_c cy ad c := by
  intro n c' hc
  exact match n, hc with
    | 0, hc => by have e := Option.some.inj (Option.some.inj hc); subst e; exact ⟨_, rfl, fun _ _ => rfl⟩
    | 1, hc => by have e := Option.some.inj (Option.some.inj hc); subst e; exact ⟨_, rfl, fun _ _ => rfl⟩
    | 2, hc => by have e := Option.some.inj (Option.some.inj hc); subst e; exact ⟨_, rfl, fun _ _ => rfl⟩
    | 3, hc => by have e := Option.some.inj (Option.some.inj hc); subst e; exact ⟨_, rfl, fun _ _ => rfl⟩
    | 4, hc => by have e := Option.some.inj (Option.some.inj hc); subst e; exact ⟨_, rfl, fun _ _ => rfl⟩
    | 5, hc => by have e := Option.some.inj (Option.some.inj hc); subst e; exact ⟨_, rfl, fun _ _ => rfl⟩
    | 6, hc => by have e := Option.some.inj (Option.some.inj hc); subst e; exact ⟨_, rfl, fun _ _ => rfl⟩
    | 7, hc => by have e := Option.some.inj (Option.some.inj hc); subst e; exact ⟨_, rfl, fun _ _ => a_c_congr (fun k ⟨j, hj⟩ => congrArg _ (xRl_pi (a := 30) (by decide) hj))⟩
    | 8, hc => by have e := Option.some.inj (Option.some.inj hc); subst e; exact ⟨_, rfl, fun _ _ => rfl⟩
    | 9, hc => by have e := Option.some.inj (Option.some.inj hc); subst e; exact ⟨_, rfl, fun _ _ => a_c_congr (fun k ⟨j, hj⟩ => congrArg _ (xSl_pi (a := 30) (by decide) hj))⟩
    | 10, hc => by have e := Option.some.inj (Option.some.inj hc); subst e; exact ⟨_, rfl, fun _ _ => rfl⟩
    | 11, hc => by have e := Option.some.inj (Option.some.inj hc); subst e; exact ⟨_, rfl, fun _ _ => rfl⟩
    | 12, hc => by have e := Option.some.inj (Option.some.inj hc); subst e; exact ⟨_, rfl, fun _ _ => rfl⟩
    | 13, hc => by have e := Option.some.inj (Option.some.inj hc); subst e; exact ⟨_, rfl, fun _ _ => rfl⟩
    | 14, hc => by have e := Option.some.inj (Option.some.inj hc); subst e; exact ⟨_, rfl, fun _ _ => rfl⟩
    | 15, hc => by have e := Option.some.inj (Option.some.inj hc); subst e; exact ⟨_, rfl, fun _ _ => rfl⟩
    | 16, hc => by have e := Option.some.inj (Option.some.inj hc); subst e; exact ⟨_, rfl, fun _ _ => rfl⟩
    | 17, hc => by have e := Option.some.inj (Option.some.inj hc); subst e; exact ⟨_, rfl, fun _ _ => rfl⟩
    | 18, hc => by have e := Option.some.inj (Option.some.inj hc); subst e; exact ⟨_, rfl, fun _ _ => rfl⟩
    | 19, hc => by have e := Option.some.inj (Option.some.inj hc); subst e; exact ⟨_, rfl, fun _ _ => rfl⟩
    | 20, hc => by have e := Option.some.inj (Option.some.inj hc); subst e; exact ⟨_, rfl, fun _ _ => rfl⟩
    | 21, hc => by have e := Option.some.inj (Option.some.inj hc); subst e; exact ⟨_, rfl, fun _ _ => rfl⟩
    | 22, hc => by have e := Option.some.inj (Option.some.inj hc); subst e; exact ⟨_, rfl, fun _ _ => rfl⟩
    | 23, hc => by have e := Option.some.inj (Option.some.inj hc); subst e; exact ⟨_, rfl, fun _ _ => rfl⟩
    | 24, hc => by have e := Option.some.inj (Option.some.inj hc); subst e; exact ⟨_, rfl, fun _ _ => rfl⟩
    | 25, hc => by have e := Option.some.inj (Option.some.inj hc); subst e; exact ⟨_, rfl, fun _ _ => rfl⟩
    | 26, hc => by have e := Option.some.inj (Option.some.inj hc); subst e; exact ⟨_, rfl, fun _ _ => rfl⟩
    | 27, hc => by have e := Option.some.inj (Option.some.inj hc); subst e; exact ⟨_, rfl, fun _ _ => rfl⟩
    | 28, hc => by have e := Option.some.inj (Option.some.inj hc); subst e; exact ⟨_, rfl, fun _ _ => rfl⟩
    | 29, hc => by have e := Option.some.inj (Option.some.inj hc); subst e; exact ⟨_, rfl, fun _ _ => rfl⟩
    | 30, hc => by have e := Option.some.inj (Option.some.inj hc); subst e; exact ⟨_, rfl, fun _ _ => rfl⟩
    | 31, hc => by have e := Option.some.inj (Option.some.inj hc); subst e; exact ⟨_, rfl, fun _ _ => rfl⟩
    | 32, hc => by have e := Option.some.inj (Option.some.inj hc); subst e; exact ⟨_, rfl, fun _ _ => rfl⟩
    | 33, hc => by have e := Option.some.inj (Option.some.inj hc); subst e; exact ⟨_, rfl, fun _ _ => rfl⟩
    | 34, hc => by obtain ⟨y, e⟩ := x_if (Option.some.inj hc); subst e; exact ⟨_, congrArg some (if_pos y), fun _ _ => rfl⟩
    | 35, hc => by obtain ⟨y, e⟩ := x_if (Option.some.inj hc); subst e; exact ⟨_, congrArg some (if_pos y), fun _ _ => rfl⟩
    | 36, hc => by obtain ⟨y, e⟩ := x_if (Option.some.inj hc); subst e; exact ⟨_, congrArg some (if_pos y), fun _ _ => rfl⟩
    | 37, hc => by obtain ⟨y, e⟩ := x_if (Option.some.inj hc); subst e; exact ⟨_, congrArg some (if_pos y), fun _ _ => rfl⟩
    | 38, hc => by obtain ⟨y, e⟩ := x_if (Option.some.inj hc); subst e; exact ⟨_, congrArg some (if_pos y), fun _ _ => rfl⟩
    | 39, hc => by obtain ⟨y, e⟩ := x_if (Option.some.inj hc); subst e; exact ⟨_, congrArg some (if_pos y), fun _ _ => rfl⟩
    | 40, hc => by obtain ⟨y, e⟩ := x_if (Option.some.inj hc); subst e; exact ⟨_, congrArg some (if_pos y), fun _ _ => rfl⟩
    | 41, hc => by obtain ⟨y, e⟩ := x_if (Option.some.inj hc); subst e; exact ⟨_, congrArg some (if_pos y), fun _ _ => rfl⟩
    | 42, hc => by obtain ⟨y, e⟩ := x_if (Option.some.inj hc); subst e; exact ⟨_, congrArg some (if_pos y), fun _ _ => rfl⟩
    | 43, hc => by obtain ⟨y, e⟩ := x_if (Option.some.inj hc); subst e; exact ⟨_, congrArg some (if_pos y), fun _ _ => rfl⟩
    | 44, hc => by obtain ⟨y, e⟩ := x_if (Option.some.inj hc); subst e; exact ⟨_, congrArg some (if_pos y), fun _ _ => rfl⟩
    | 45, hc => by obtain ⟨y, e⟩ := x_if (Option.some.inj hc); subst e; exact ⟨_, congrArg some (if_pos y), fun _ _ => rfl⟩
    | 46, hc => by obtain ⟨y, e⟩ := x_if (Option.some.inj hc); subst e; exact ⟨_, congrArg some (if_pos y), fun _ _ => rfl⟩
    | 47, hc => by obtain ⟨y, e⟩ := x_if (Option.some.inj hc); subst e; exact ⟨_, congrArg some (if_pos y), fun _ _ => rfl⟩
    | 48, hc => by obtain ⟨y, e⟩ := x_if (Option.some.inj hc); subst e; exact ⟨_, congrArg some (if_pos y), fun _ _ => rfl⟩
    | 49, hc => by obtain ⟨y, e⟩ := x_if (Option.some.inj hc); subst e; exact ⟨_, congrArg some (if_pos y), fun _ _ => rfl⟩
    | 50, hc => by obtain ⟨y, e⟩ := x_if (Option.some.inj hc); subst e; exact ⟨_, congrArg some (if_pos y), fun _ _ => rfl⟩
    | 51, hc => by obtain ⟨y, e⟩ := x_if (Option.some.inj hc); subst e; exact ⟨_, congrArg some (if_pos y), fun _ _ => rfl⟩
    | 52, hc => by obtain ⟨y, e⟩ := x_if (Option.some.inj hc); subst e; exact ⟨_, congrArg some (if_pos y), fun _ _ => rfl⟩
    | 53, hc => by obtain ⟨y, e⟩ := x_if (Option.some.inj hc); subst e; exact ⟨_, congrArg some (if_pos y), fun _ _ => rfl⟩
    | 54, hc => by obtain ⟨y, e⟩ := x_if (Option.some.inj hc); subst e; exact ⟨_, congrArg some (if_pos y), fun _ _ => rfl⟩
    | 55, hc => by obtain ⟨y, e⟩ := x_if (Option.some.inj hc); subst e; exact ⟨_, congrArg some (if_pos y), fun _ _ => rfl⟩
    | 56, hc => by cases Option.some.inj hc
    | n + 57, hc => by simp [xw] at hc
set_option maxRecDepth 20000 in
theorem x_new30 {σ : Type} {l : Launch} {G : rr_G} {mt : rr_M} {d lo : Nat} {rv : σ → Option Value} {w : σ → rr_H} {U V : σ → Nat} {uu vv pc idx : Nat} {lv : List (Nat × Value)} {st : List Value} {o : Option σ} {P S : rr_T} {len : Int32} (hin : inb len 100000 = true) (hlk : rr_lk mt.1.cls idx RX1 TX1 5) (h1 : decode mt.2.1 pc = .ok (.newarray .int, 2)) (h2 : decode mt.2.1 (pc + 2) = .ok (.putfield idx, 3)) (hl : lv.all (fun q => rr_n56 q.2) = true) (hs : st.all rr_n56 = true) (hl2 : lv.all (fun q => rr_pf (xq 30) q.2) = true) (hs2 : st.all (rr_pf (xq 30)) = true)
    (kk : RR l G mt d lo fxX rv w U V (uu + 1) (vv + len.toNatClampNeg) (pc + 5) lv st (xw P (xNw S 30 len.toNatClampNeg)) o) : RR l G mt d lo fxX rv w U V uu vv pc lv (.int len :: .ref 25 :: st) (xw P S) o := by
  have hz := inb_in hin
  have hlt : len.toNatClampNeg < 100000 := Nat.not_le.mp (fun q => hz (Or.inr q))
  refine rr_newa (ty := .int) (t := 0) (N' := len.toNatClampNeg) (x := .inl (fun _ => 0)) 56 rfl rfl (fun _ => rfl) (fun _ => rfl) (fun _ => rfl) aI (fun q => hz (Or.inl q)) rfl (by show len.toNatClampNeg * 4 ≤ 536870912; omega) rfl (x_no56 P S) rfl (rr_n56L hl) (rr_n56S (by show (rr_n56 (.ref 25) && st.all rr_n56) = true; rw [hs]; rfl)) h1 rfl ?_
  refine rr_put cl1 hlk (Nat.le_of_ble_eq_true rfl) rfl rfl rfl rfl (Nat.le_of_ble_eq_true rfl) h2 rfl ?_
  exact rr_view (h' := xw P (xNw S 30 len.toNatClampNeg)) (xq 30) xv30 (xq_inj rfl) (xq_fx rfl) hl2 hs2 kk
set_option maxRecDepth 20000 in
theorem xv31 {P S : rr_T} {N' : Nat} : ∀ (n : Nat) (c' : va_E), (xw P (xNw S 31 N'))[n]? = some (some c') → ∃ c, (((xw P S).set 56 (some (.inl (0, N', .inl (fun _ => 0))))).set 25 (some (.inr (1, (xF25 S).set 6 (.ref 56)))))[(xq 31) n]? = some (some c) ∧ ∀ (cy : Nat → ClassId) (ad : Nat → Nat), a_c cy (fun k => ad ((xq 31) k)) c' = a_c cy ad c := by
  intro n c' hc
  exact match n, hc with
    | 0, hc => by have e := Option.some.inj (Option.some.inj hc); subst e; exact ⟨_, rfl, fun _ _ => rfl⟩
    | 1, hc => by have e := Option.some.inj (Option.some.inj hc); subst e; exact ⟨_, rfl, fun _ _ => rfl⟩
    | 2, hc => by have e := Option.some.inj (Option.some.inj hc); subst e; exact ⟨_, rfl, fun _ _ => rfl⟩
    | 3, hc => by have e := Option.some.inj (Option.some.inj hc); subst e; exact ⟨_, rfl, fun _ _ => rfl⟩
    | 4, hc => by have e := Option.some.inj (Option.some.inj hc); subst e; exact ⟨_, rfl, fun _ _ => rfl⟩
    | 5, hc => by have e := Option.some.inj (Option.some.inj hc); subst e; exact ⟨_, rfl, fun _ _ => rfl⟩
    | 6, hc => by have e := Option.some.inj (Option.some.inj hc); subst e; exact ⟨_, rfl, fun _ _ => rfl⟩
    | 7, hc => by have e := Option.some.inj (Option.some.inj hc); subst e; exact ⟨_, rfl, fun _ _ => a_c_congr (fun k ⟨j, hj⟩ => congrArg _ (xRl_pi (a := 31) (by decide) hj))⟩
    | 8, hc => by have e := Option.some.inj (Option.some.inj hc); subst e; exact ⟨_, rfl, fun _ _ => rfl⟩
    | 9, hc => by have e := Option.some.inj (Option.some.inj hc); subst e; exact ⟨_, rfl, fun _ _ => a_c_congr (fun k ⟨j, hj⟩ => congrArg _ (xSl_pi (a := 31) (by decide) hj))⟩
    | 10, hc => by have e := Option.some.inj (Option.some.inj hc); subst e; exact ⟨_, rfl, fun _ _ => rfl⟩
    | 11, hc => by have e := Option.some.inj (Option.some.inj hc); subst e; exact ⟨_, rfl, fun _ _ => rfl⟩
    | 12, hc => by have e := Option.some.inj (Option.some.inj hc); subst e; exact ⟨_, rfl, fun _ _ => rfl⟩
    | 13, hc => by have e := Option.some.inj (Option.some.inj hc); subst e; exact ⟨_, rfl, fun _ _ => rfl⟩
    | 14, hc => by have e := Option.some.inj (Option.some.inj hc); subst e; exact ⟨_, rfl, fun _ _ => rfl⟩
    | 15, hc => by have e := Option.some.inj (Option.some.inj hc); subst e; exact ⟨_, rfl, fun _ _ => rfl⟩
    | 16, hc => by have e := Option.some.inj (Option.some.inj hc); subst e; exact ⟨_, rfl, fun _ _ => rfl⟩
    | 17, hc => by have e := Option.some.inj (Option.some.inj hc); subst e; exact ⟨_, rfl, fun _ _ => rfl⟩
    | 18, hc => by have e := Option.some.inj (Option.some.inj hc); subst e; exact ⟨_, rfl, fun _ _ => rfl⟩
    | 19, hc => by have e := Option.some.inj (Option.some.inj hc); subst e; exact ⟨_, rfl, fun _ _ => rfl⟩
    | 20, hc => by have e := Option.some.inj (Option.some.inj hc); subst e; exact ⟨_, rfl, fun _ _ => rfl⟩
    | 21, hc => by have e := Option.some.inj (Option.some.inj hc); subst e; exact ⟨_, rfl, fun _ _ => rfl⟩
    | 22, hc => by have e := Option.some.inj (Option.some.inj hc); subst e; exact ⟨_, rfl, fun _ _ => rfl⟩
    | 23, hc => by have e := Option.some.inj (Option.some.inj hc); subst e; exact ⟨_, rfl, fun _ _ => rfl⟩
    | 24, hc => by have e := Option.some.inj (Option.some.inj hc); subst e; exact ⟨_, rfl, fun _ _ => rfl⟩
    | 25, hc => by have e := Option.some.inj (Option.some.inj hc); subst e; exact ⟨_, rfl, fun _ _ => rfl⟩
    | 26, hc => by have e := Option.some.inj (Option.some.inj hc); subst e; exact ⟨_, rfl, fun _ _ => rfl⟩
    | 27, hc => by have e := Option.some.inj (Option.some.inj hc); subst e; exact ⟨_, rfl, fun _ _ => rfl⟩
    | 28, hc => by have e := Option.some.inj (Option.some.inj hc); subst e; exact ⟨_, rfl, fun _ _ => rfl⟩
    | 29, hc => by have e := Option.some.inj (Option.some.inj hc); subst e; exact ⟨_, rfl, fun _ _ => rfl⟩
    | 30, hc => by have e := Option.some.inj (Option.some.inj hc); subst e; exact ⟨_, rfl, fun _ _ => rfl⟩
    | 31, hc => by have e := Option.some.inj (Option.some.inj hc); subst e; exact ⟨_, rfl, fun _ _ => rfl⟩
    | 32, hc => by have e := Option.some.inj (Option.some.inj hc); subst e; exact ⟨_, rfl, fun _ _ => rfl⟩
    | 33, hc => by have e := Option.some.inj (Option.some.inj hc); subst e; exact ⟨_, rfl, fun _ _ => rfl⟩
    | 34, hc => by obtain ⟨y, e⟩ := x_if (Option.some.inj hc); subst e; exact ⟨_, congrArg some (if_pos y), fun _ _ => rfl⟩
    | 35, hc => by obtain ⟨y, e⟩ := x_if (Option.some.inj hc); subst e; exact ⟨_, congrArg some (if_pos y), fun _ _ => rfl⟩
    | 36, hc => by obtain ⟨y, e⟩ := x_if (Option.some.inj hc); subst e; exact ⟨_, congrArg some (if_pos y), fun _ _ => rfl⟩
    | 37, hc => by obtain ⟨y, e⟩ := x_if (Option.some.inj hc); subst e; exact ⟨_, congrArg some (if_pos y), fun _ _ => rfl⟩
    | 38, hc => by obtain ⟨y, e⟩ := x_if (Option.some.inj hc); subst e; exact ⟨_, congrArg some (if_pos y), fun _ _ => rfl⟩
    | 39, hc => by obtain ⟨y, e⟩ := x_if (Option.some.inj hc); subst e; exact ⟨_, congrArg some (if_pos y), fun _ _ => rfl⟩
    | 40, hc => by obtain ⟨y, e⟩ := x_if (Option.some.inj hc); subst e; exact ⟨_, congrArg some (if_pos y), fun _ _ => rfl⟩
    | 41, hc => by obtain ⟨y, e⟩ := x_if (Option.some.inj hc); subst e; exact ⟨_, congrArg some (if_pos y), fun _ _ => rfl⟩
    | 42, hc => by obtain ⟨y, e⟩ := x_if (Option.some.inj hc); subst e; exact ⟨_, congrArg some (if_pos y), fun _ _ => rfl⟩
    | 43, hc => by obtain ⟨y, e⟩ := x_if (Option.some.inj hc); subst e; exact ⟨_, congrArg some (if_pos y), fun _ _ => rfl⟩
    | 44, hc => by obtain ⟨y, e⟩ := x_if (Option.some.inj hc); subst e; exact ⟨_, congrArg some (if_pos y), fun _ _ => rfl⟩
    | 45, hc => by obtain ⟨y, e⟩ := x_if (Option.some.inj hc); subst e; exact ⟨_, congrArg some (if_pos y), fun _ _ => rfl⟩
    | 46, hc => by obtain ⟨y, e⟩ := x_if (Option.some.inj hc); subst e; exact ⟨_, congrArg some (if_pos y), fun _ _ => rfl⟩
    | 47, hc => by obtain ⟨y, e⟩ := x_if (Option.some.inj hc); subst e; exact ⟨_, congrArg some (if_pos y), fun _ _ => rfl⟩
    | 48, hc => by obtain ⟨y, e⟩ := x_if (Option.some.inj hc); subst e; exact ⟨_, congrArg some (if_pos y), fun _ _ => rfl⟩
    | 49, hc => by obtain ⟨y, e⟩ := x_if (Option.some.inj hc); subst e; exact ⟨_, congrArg some (if_pos y), fun _ _ => rfl⟩
    | 50, hc => by obtain ⟨y, e⟩ := x_if (Option.some.inj hc); subst e; exact ⟨_, congrArg some (if_pos y), fun _ _ => rfl⟩
    | 51, hc => by obtain ⟨y, e⟩ := x_if (Option.some.inj hc); subst e; exact ⟨_, congrArg some (if_pos y), fun _ _ => rfl⟩
    | 52, hc => by obtain ⟨y, e⟩ := x_if (Option.some.inj hc); subst e; exact ⟨_, congrArg some (if_pos y), fun _ _ => rfl⟩
    | 53, hc => by obtain ⟨y, e⟩ := x_if (Option.some.inj hc); subst e; exact ⟨_, congrArg some (if_pos y), fun _ _ => rfl⟩
    | 54, hc => by obtain ⟨y, e⟩ := x_if (Option.some.inj hc); subst e; exact ⟨_, congrArg some (if_pos y), fun _ _ => rfl⟩
    | 55, hc => by obtain ⟨y, e⟩ := x_if (Option.some.inj hc); subst e; exact ⟨_, congrArg some (if_pos y), fun _ _ => rfl⟩
    | 56, hc => by cases Option.some.inj hc
    | n + 57, hc => by simp [xw] at hc
set_option maxRecDepth 20000 in
theorem x_new31 {σ : Type} {l : Launch} {G : rr_G} {mt : rr_M} {d lo : Nat} {rv : σ → Option Value} {w : σ → rr_H} {U V : σ → Nat} {uu vv pc idx : Nat} {lv : List (Nat × Value)} {st : List Value} {o : Option σ} {P S : rr_T} {len : Int32} (hin : inb len 100000 = true) (hlk : rr_lk mt.1.cls idx RX1 TX1 6) (h1 : decode mt.2.1 pc = .ok (.newarray .int, 2)) (h2 : decode mt.2.1 (pc + 2) = .ok (.putfield idx, 3)) (hl : lv.all (fun q => rr_n56 q.2) = true) (hs : st.all rr_n56 = true) (hl2 : lv.all (fun q => rr_pf (xq 31) q.2) = true) (hs2 : st.all (rr_pf (xq 31)) = true)
    (kk : RR l G mt d lo fxX rv w U V (uu + 1) (vv + len.toNatClampNeg) (pc + 5) lv st (xw P (xNw S 31 len.toNatClampNeg)) o) : RR l G mt d lo fxX rv w U V uu vv pc lv (.int len :: .ref 25 :: st) (xw P S) o := by
  have hz := inb_in hin
  have hlt : len.toNatClampNeg < 100000 := Nat.not_le.mp (fun q => hz (Or.inr q))
  refine rr_newa (ty := .int) (t := 0) (N' := len.toNatClampNeg) (x := .inl (fun _ => 0)) 56 rfl rfl (fun _ => rfl) (fun _ => rfl) (fun _ => rfl) aI (fun q => hz (Or.inl q)) rfl (by show len.toNatClampNeg * 4 ≤ 536870912; omega) rfl (x_no56 P S) rfl (rr_n56L hl) (rr_n56S (by show (rr_n56 (.ref 25) && st.all rr_n56) = true; rw [hs]; rfl)) h1 rfl ?_
  refine rr_put cl1 hlk (Nat.le_of_ble_eq_true rfl) rfl rfl rfl rfl (Nat.le_of_ble_eq_true rfl) h2 rfl ?_
  exact rr_view (h' := xw P (xNw S 31 len.toNatClampNeg)) (xq 31) xv31 (xq_inj rfl) (xq_fx rfl) hl2 hs2 kk
set_option maxRecDepth 20000 in
theorem xv32 {P S : rr_T} {N' : Nat} : ∀ (n : Nat) (c' : va_E), (xw P (xNw S 32 N'))[n]? = some (some c') → ∃ c, (((xw P S).set 56 (some (.inl (0, N', .inl (fun _ => 0))))).set 25 (some (.inr (1, (xF25 S).set 7 (.ref 56)))))[(xq 32) n]? = some (some c) ∧ ∀ (cy : Nat → ClassId) (ad : Nat → Nat), a_c cy (fun k => ad ((xq 32) k)) c' = a_c cy ad c := by
  intro n c' hc
  exact match n, hc with
    | 0, hc => by have e := Option.some.inj (Option.some.inj hc); subst e; exact ⟨_, rfl, fun _ _ => rfl⟩
    | 1, hc => by have e := Option.some.inj (Option.some.inj hc); subst e; exact ⟨_, rfl, fun _ _ => rfl⟩
    | 2, hc => by have e := Option.some.inj (Option.some.inj hc); subst e; exact ⟨_, rfl, fun _ _ => rfl⟩
    | 3, hc => by have e := Option.some.inj (Option.some.inj hc); subst e; exact ⟨_, rfl, fun _ _ => rfl⟩
    | 4, hc => by have e := Option.some.inj (Option.some.inj hc); subst e; exact ⟨_, rfl, fun _ _ => rfl⟩
    | 5, hc => by have e := Option.some.inj (Option.some.inj hc); subst e; exact ⟨_, rfl, fun _ _ => rfl⟩
    | 6, hc => by have e := Option.some.inj (Option.some.inj hc); subst e; exact ⟨_, rfl, fun _ _ => rfl⟩
    | 7, hc => by have e := Option.some.inj (Option.some.inj hc); subst e; exact ⟨_, rfl, fun _ _ => a_c_congr (fun k ⟨j, hj⟩ => congrArg _ (xRl_pi (a := 32) (by decide) hj))⟩
    | 8, hc => by have e := Option.some.inj (Option.some.inj hc); subst e; exact ⟨_, rfl, fun _ _ => rfl⟩
    | 9, hc => by have e := Option.some.inj (Option.some.inj hc); subst e; exact ⟨_, rfl, fun _ _ => a_c_congr (fun k ⟨j, hj⟩ => congrArg _ (xSl_pi (a := 32) (by decide) hj))⟩
    | 10, hc => by have e := Option.some.inj (Option.some.inj hc); subst e; exact ⟨_, rfl, fun _ _ => rfl⟩
    | 11, hc => by have e := Option.some.inj (Option.some.inj hc); subst e; exact ⟨_, rfl, fun _ _ => rfl⟩
    | 12, hc => by have e := Option.some.inj (Option.some.inj hc); subst e; exact ⟨_, rfl, fun _ _ => rfl⟩
    | 13, hc => by have e := Option.some.inj (Option.some.inj hc); subst e; exact ⟨_, rfl, fun _ _ => rfl⟩
    | 14, hc => by have e := Option.some.inj (Option.some.inj hc); subst e; exact ⟨_, rfl, fun _ _ => rfl⟩
    | 15, hc => by have e := Option.some.inj (Option.some.inj hc); subst e; exact ⟨_, rfl, fun _ _ => rfl⟩
    | 16, hc => by have e := Option.some.inj (Option.some.inj hc); subst e; exact ⟨_, rfl, fun _ _ => rfl⟩
    | 17, hc => by have e := Option.some.inj (Option.some.inj hc); subst e; exact ⟨_, rfl, fun _ _ => rfl⟩
    | 18, hc => by have e := Option.some.inj (Option.some.inj hc); subst e; exact ⟨_, rfl, fun _ _ => rfl⟩
    | 19, hc => by have e := Option.some.inj (Option.some.inj hc); subst e; exact ⟨_, rfl, fun _ _ => rfl⟩
    | 20, hc => by have e := Option.some.inj (Option.some.inj hc); subst e; exact ⟨_, rfl, fun _ _ => rfl⟩
    | 21, hc => by have e := Option.some.inj (Option.some.inj hc); subst e; exact ⟨_, rfl, fun _ _ => rfl⟩
    | 22, hc => by have e := Option.some.inj (Option.some.inj hc); subst e; exact ⟨_, rfl, fun _ _ => rfl⟩
    | 23, hc => by have e := Option.some.inj (Option.some.inj hc); subst e; exact ⟨_, rfl, fun _ _ => rfl⟩
    | 24, hc => by have e := Option.some.inj (Option.some.inj hc); subst e; exact ⟨_, rfl, fun _ _ => rfl⟩
    | 25, hc => by have e := Option.some.inj (Option.some.inj hc); subst e; exact ⟨_, rfl, fun _ _ => rfl⟩
    | 26, hc => by have e := Option.some.inj (Option.some.inj hc); subst e; exact ⟨_, rfl, fun _ _ => rfl⟩
    | 27, hc => by have e := Option.some.inj (Option.some.inj hc); subst e; exact ⟨_, rfl, fun _ _ => rfl⟩
    | 28, hc => by have e := Option.some.inj (Option.some.inj hc); subst e; exact ⟨_, rfl, fun _ _ => rfl⟩
    | 29, hc => by have e := Option.some.inj (Option.some.inj hc); subst e; exact ⟨_, rfl, fun _ _ => rfl⟩
    | 30, hc => by have e := Option.some.inj (Option.some.inj hc); subst e; exact ⟨_, rfl, fun _ _ => rfl⟩
    | 31, hc => by have e := Option.some.inj (Option.some.inj hc); subst e; exact ⟨_, rfl, fun _ _ => rfl⟩
    | 32, hc => by have e := Option.some.inj (Option.some.inj hc); subst e; exact ⟨_, rfl, fun _ _ => rfl⟩
    | 33, hc => by have e := Option.some.inj (Option.some.inj hc); subst e; exact ⟨_, rfl, fun _ _ => rfl⟩
    | 34, hc => by obtain ⟨y, e⟩ := x_if (Option.some.inj hc); subst e; exact ⟨_, congrArg some (if_pos y), fun _ _ => rfl⟩
    | 35, hc => by obtain ⟨y, e⟩ := x_if (Option.some.inj hc); subst e; exact ⟨_, congrArg some (if_pos y), fun _ _ => rfl⟩
    | 36, hc => by obtain ⟨y, e⟩ := x_if (Option.some.inj hc); subst e; exact ⟨_, congrArg some (if_pos y), fun _ _ => rfl⟩
    | 37, hc => by obtain ⟨y, e⟩ := x_if (Option.some.inj hc); subst e; exact ⟨_, congrArg some (if_pos y), fun _ _ => rfl⟩
    | 38, hc => by obtain ⟨y, e⟩ := x_if (Option.some.inj hc); subst e; exact ⟨_, congrArg some (if_pos y), fun _ _ => rfl⟩
    | 39, hc => by obtain ⟨y, e⟩ := x_if (Option.some.inj hc); subst e; exact ⟨_, congrArg some (if_pos y), fun _ _ => rfl⟩
    | 40, hc => by obtain ⟨y, e⟩ := x_if (Option.some.inj hc); subst e; exact ⟨_, congrArg some (if_pos y), fun _ _ => rfl⟩
    | 41, hc => by obtain ⟨y, e⟩ := x_if (Option.some.inj hc); subst e; exact ⟨_, congrArg some (if_pos y), fun _ _ => rfl⟩
    | 42, hc => by obtain ⟨y, e⟩ := x_if (Option.some.inj hc); subst e; exact ⟨_, congrArg some (if_pos y), fun _ _ => rfl⟩
    | 43, hc => by obtain ⟨y, e⟩ := x_if (Option.some.inj hc); subst e; exact ⟨_, congrArg some (if_pos y), fun _ _ => rfl⟩
    | 44, hc => by obtain ⟨y, e⟩ := x_if (Option.some.inj hc); subst e; exact ⟨_, congrArg some (if_pos y), fun _ _ => rfl⟩
    | 45, hc => by obtain ⟨y, e⟩ := x_if (Option.some.inj hc); subst e; exact ⟨_, congrArg some (if_pos y), fun _ _ => rfl⟩
    | 46, hc => by obtain ⟨y, e⟩ := x_if (Option.some.inj hc); subst e; exact ⟨_, congrArg some (if_pos y), fun _ _ => rfl⟩
    | 47, hc => by obtain ⟨y, e⟩ := x_if (Option.some.inj hc); subst e; exact ⟨_, congrArg some (if_pos y), fun _ _ => rfl⟩
    | 48, hc => by obtain ⟨y, e⟩ := x_if (Option.some.inj hc); subst e; exact ⟨_, congrArg some (if_pos y), fun _ _ => rfl⟩
    | 49, hc => by obtain ⟨y, e⟩ := x_if (Option.some.inj hc); subst e; exact ⟨_, congrArg some (if_pos y), fun _ _ => rfl⟩
    | 50, hc => by obtain ⟨y, e⟩ := x_if (Option.some.inj hc); subst e; exact ⟨_, congrArg some (if_pos y), fun _ _ => rfl⟩
    | 51, hc => by obtain ⟨y, e⟩ := x_if (Option.some.inj hc); subst e; exact ⟨_, congrArg some (if_pos y), fun _ _ => rfl⟩
    | 52, hc => by obtain ⟨y, e⟩ := x_if (Option.some.inj hc); subst e; exact ⟨_, congrArg some (if_pos y), fun _ _ => rfl⟩
    | 53, hc => by obtain ⟨y, e⟩ := x_if (Option.some.inj hc); subst e; exact ⟨_, congrArg some (if_pos y), fun _ _ => rfl⟩
    | 54, hc => by obtain ⟨y, e⟩ := x_if (Option.some.inj hc); subst e; exact ⟨_, congrArg some (if_pos y), fun _ _ => rfl⟩
    | 55, hc => by obtain ⟨y, e⟩ := x_if (Option.some.inj hc); subst e; exact ⟨_, congrArg some (if_pos y), fun _ _ => rfl⟩
    | 56, hc => by cases Option.some.inj hc
    | n + 57, hc => by simp [xw] at hc
set_option maxRecDepth 20000 in
theorem x_new32 {σ : Type} {l : Launch} {G : rr_G} {mt : rr_M} {d lo : Nat} {rv : σ → Option Value} {w : σ → rr_H} {U V : σ → Nat} {uu vv pc idx : Nat} {lv : List (Nat × Value)} {st : List Value} {o : Option σ} {P S : rr_T} {len : Int32} (hin : inb len 100000 = true) (hlk : rr_lk mt.1.cls idx RX1 TX1 7) (h1 : decode mt.2.1 pc = .ok (.newarray .int, 2)) (h2 : decode mt.2.1 (pc + 2) = .ok (.putfield idx, 3)) (hl : lv.all (fun q => rr_n56 q.2) = true) (hs : st.all rr_n56 = true) (hl2 : lv.all (fun q => rr_pf (xq 32) q.2) = true) (hs2 : st.all (rr_pf (xq 32)) = true)
    (kk : RR l G mt d lo fxX rv w U V (uu + 1) (vv + len.toNatClampNeg) (pc + 5) lv st (xw P (xNw S 32 len.toNatClampNeg)) o) : RR l G mt d lo fxX rv w U V uu vv pc lv (.int len :: .ref 25 :: st) (xw P S) o := by
  have hz := inb_in hin
  have hlt : len.toNatClampNeg < 100000 := Nat.not_le.mp (fun q => hz (Or.inr q))
  refine rr_newa (ty := .int) (t := 0) (N' := len.toNatClampNeg) (x := .inl (fun _ => 0)) 56 rfl rfl (fun _ => rfl) (fun _ => rfl) (fun _ => rfl) aI (fun q => hz (Or.inl q)) rfl (by show len.toNatClampNeg * 4 ≤ 536870912; omega) rfl (x_no56 P S) rfl (rr_n56L hl) (rr_n56S (by show (rr_n56 (.ref 25) && st.all rr_n56) = true; rw [hs]; rfl)) h1 rfl ?_
  refine rr_put cl1 hlk (Nat.le_of_ble_eq_true rfl) rfl rfl rfl rfl (Nat.le_of_ble_eq_true rfl) h2 rfl ?_
  exact rr_view (h' := xw P (xNw S 32 len.toNatClampNeg)) (xq 32) xv32 (xq_inj rfl) (xq_fx rfl) hl2 hs2 kk
set_option maxRecDepth 20000 in
theorem xvs {P S : rr_T} : ∀ (n : Nat) (c' : va_E), (xw P (xSw S))[n]? = some (some c') → ∃ c, (((xw P S).set 25 (some (.inr (1, (xF25 S).set 4 (.ref 28))))).set 25 (some (.inr (1, ((xF25 S).set 4 (.ref 28)).set 3 (.ref 29)))))[xsw n]? = some (some c) ∧ ∀ (cy : Nat → ClassId) (ad : Nat → Nat), a_c cy (fun k => ad (xsw k)) c' = a_c cy ad c := by
  intro n c' hc
  exact match n, hc with
    | 0, hc => by have e := Option.some.inj (Option.some.inj hc); subst e; exact ⟨_, rfl, fun _ _ => rfl⟩
    | 1, hc => by have e := Option.some.inj (Option.some.inj hc); subst e; exact ⟨_, rfl, fun _ _ => rfl⟩
    | 2, hc => by have e := Option.some.inj (Option.some.inj hc); subst e; exact ⟨_, rfl, fun _ _ => rfl⟩
    | 3, hc => by have e := Option.some.inj (Option.some.inj hc); subst e; exact ⟨_, rfl, fun _ _ => rfl⟩
    | 4, hc => by have e := Option.some.inj (Option.some.inj hc); subst e; exact ⟨_, rfl, fun _ _ => rfl⟩
    | 5, hc => by have e := Option.some.inj (Option.some.inj hc); subst e; exact ⟨_, rfl, fun _ _ => rfl⟩
    | 6, hc => by have e := Option.some.inj (Option.some.inj hc); subst e; exact ⟨_, rfl, fun _ _ => rfl⟩
    | 7, hc => by have e := Option.some.inj (Option.some.inj hc); subst e; exact ⟨_, rfl, fun _ _ => a_c_congr (fun k ⟨j, hj⟩ => congrArg _ (xRl_pis hj))⟩
    | 8, hc => by have e := Option.some.inj (Option.some.inj hc); subst e; exact ⟨_, rfl, fun _ _ => rfl⟩
    | 9, hc => by have e := Option.some.inj (Option.some.inj hc); subst e; exact ⟨_, rfl, fun _ _ => a_c_congr (fun k ⟨j, hj⟩ => congrArg _ (xSl_pis hj))⟩
    | 10, hc => by have e := Option.some.inj (Option.some.inj hc); subst e; exact ⟨_, rfl, fun _ _ => rfl⟩
    | 11, hc => by have e := Option.some.inj (Option.some.inj hc); subst e; exact ⟨_, rfl, fun _ _ => rfl⟩
    | 12, hc => by have e := Option.some.inj (Option.some.inj hc); subst e; exact ⟨_, rfl, fun _ _ => rfl⟩
    | 13, hc => by have e := Option.some.inj (Option.some.inj hc); subst e; exact ⟨_, rfl, fun _ _ => rfl⟩
    | 14, hc => by have e := Option.some.inj (Option.some.inj hc); subst e; exact ⟨_, rfl, fun _ _ => rfl⟩
    | 15, hc => by have e := Option.some.inj (Option.some.inj hc); subst e; exact ⟨_, rfl, fun _ _ => rfl⟩
    | 16, hc => by have e := Option.some.inj (Option.some.inj hc); subst e; exact ⟨_, rfl, fun _ _ => rfl⟩
    | 17, hc => by have e := Option.some.inj (Option.some.inj hc); subst e; exact ⟨_, rfl, fun _ _ => rfl⟩
    | 18, hc => by have e := Option.some.inj (Option.some.inj hc); subst e; exact ⟨_, rfl, fun _ _ => rfl⟩
    | 19, hc => by have e := Option.some.inj (Option.some.inj hc); subst e; exact ⟨_, rfl, fun _ _ => rfl⟩
    | 20, hc => by have e := Option.some.inj (Option.some.inj hc); subst e; exact ⟨_, rfl, fun _ _ => rfl⟩
    | 21, hc => by have e := Option.some.inj (Option.some.inj hc); subst e; exact ⟨_, rfl, fun _ _ => rfl⟩
    | 22, hc => by have e := Option.some.inj (Option.some.inj hc); subst e; exact ⟨_, rfl, fun _ _ => rfl⟩
    | 23, hc => by have e := Option.some.inj (Option.some.inj hc); subst e; exact ⟨_, rfl, fun _ _ => rfl⟩
    | 24, hc => by have e := Option.some.inj (Option.some.inj hc); subst e; exact ⟨_, rfl, fun _ _ => rfl⟩
    | 25, hc => by have e := Option.some.inj (Option.some.inj hc); subst e; exact ⟨_, rfl, fun _ _ => rfl⟩
    | 26, hc => by have e := Option.some.inj (Option.some.inj hc); subst e; exact ⟨_, rfl, fun _ _ => rfl⟩
    | 27, hc => by have e := Option.some.inj (Option.some.inj hc); subst e; exact ⟨_, rfl, fun _ _ => rfl⟩
    | 28, hc => by have e := Option.some.inj (Option.some.inj hc); subst e; exact ⟨_, rfl, fun _ _ => rfl⟩
    | 29, hc => by have e := Option.some.inj (Option.some.inj hc); subst e; exact ⟨_, rfl, fun _ _ => rfl⟩
    | 30, hc => by have e := Option.some.inj (Option.some.inj hc); subst e; exact ⟨_, rfl, fun _ _ => rfl⟩
    | 31, hc => by have e := Option.some.inj (Option.some.inj hc); subst e; exact ⟨_, rfl, fun _ _ => rfl⟩
    | 32, hc => by have e := Option.some.inj (Option.some.inj hc); subst e; exact ⟨_, rfl, fun _ _ => rfl⟩
    | 33, hc => by have e := Option.some.inj (Option.some.inj hc); subst e; exact ⟨_, rfl, fun _ _ => rfl⟩
    | 34, hc => by obtain ⟨y, e⟩ := x_if (Option.some.inj hc); subst e; exact ⟨_, congrArg some (if_pos y), fun _ _ => rfl⟩
    | 35, hc => by obtain ⟨y, e⟩ := x_if (Option.some.inj hc); subst e; exact ⟨_, congrArg some (if_pos y), fun _ _ => rfl⟩
    | 36, hc => by obtain ⟨y, e⟩ := x_if (Option.some.inj hc); subst e; exact ⟨_, congrArg some (if_pos y), fun _ _ => rfl⟩
    | 37, hc => by obtain ⟨y, e⟩ := x_if (Option.some.inj hc); subst e; exact ⟨_, congrArg some (if_pos y), fun _ _ => rfl⟩
    | 38, hc => by obtain ⟨y, e⟩ := x_if (Option.some.inj hc); subst e; exact ⟨_, congrArg some (if_pos y), fun _ _ => rfl⟩
    | 39, hc => by obtain ⟨y, e⟩ := x_if (Option.some.inj hc); subst e; exact ⟨_, congrArg some (if_pos y), fun _ _ => rfl⟩
    | 40, hc => by obtain ⟨y, e⟩ := x_if (Option.some.inj hc); subst e; exact ⟨_, congrArg some (if_pos y), fun _ _ => rfl⟩
    | 41, hc => by obtain ⟨y, e⟩ := x_if (Option.some.inj hc); subst e; exact ⟨_, congrArg some (if_pos y), fun _ _ => rfl⟩
    | 42, hc => by obtain ⟨y, e⟩ := x_if (Option.some.inj hc); subst e; exact ⟨_, congrArg some (if_pos y), fun _ _ => rfl⟩
    | 43, hc => by obtain ⟨y, e⟩ := x_if (Option.some.inj hc); subst e; exact ⟨_, congrArg some (if_pos y), fun _ _ => rfl⟩
    | 44, hc => by obtain ⟨y, e⟩ := x_if (Option.some.inj hc); subst e; exact ⟨_, congrArg some (if_pos y), fun _ _ => rfl⟩
    | 45, hc => by obtain ⟨y, e⟩ := x_if (Option.some.inj hc); subst e; exact ⟨_, congrArg some (if_pos y), fun _ _ => rfl⟩
    | 46, hc => by obtain ⟨y, e⟩ := x_if (Option.some.inj hc); subst e; exact ⟨_, congrArg some (if_pos y), fun _ _ => rfl⟩
    | 47, hc => by obtain ⟨y, e⟩ := x_if (Option.some.inj hc); subst e; exact ⟨_, congrArg some (if_pos y), fun _ _ => rfl⟩
    | 48, hc => by obtain ⟨y, e⟩ := x_if (Option.some.inj hc); subst e; exact ⟨_, congrArg some (if_pos y), fun _ _ => rfl⟩
    | 49, hc => by obtain ⟨y, e⟩ := x_if (Option.some.inj hc); subst e; exact ⟨_, congrArg some (if_pos y), fun _ _ => rfl⟩
    | 50, hc => by obtain ⟨y, e⟩ := x_if (Option.some.inj hc); subst e; exact ⟨_, congrArg some (if_pos y), fun _ _ => rfl⟩
    | 51, hc => by obtain ⟨y, e⟩ := x_if (Option.some.inj hc); subst e; exact ⟨_, congrArg some (if_pos y), fun _ _ => rfl⟩
    | 52, hc => by obtain ⟨y, e⟩ := x_if (Option.some.inj hc); subst e; exact ⟨_, congrArg some (if_pos y), fun _ _ => rfl⟩
    | 53, hc => by obtain ⟨y, e⟩ := x_if (Option.some.inj hc); subst e; exact ⟨_, congrArg some (if_pos y), fun _ _ => rfl⟩
    | 54, hc => by obtain ⟨y, e⟩ := x_if (Option.some.inj hc); subst e; exact ⟨_, congrArg some (if_pos y), fun _ _ => rfl⟩
    | 55, hc => by obtain ⟨y, e⟩ := x_if (Option.some.inj hc); subst e; exact ⟨_, congrArg some (if_pos y), fun _ _ => rfl⟩
    | 56, hc => by cases Option.some.inj hc
    | n + 57, hc => by simp [xw] at hc
set_option maxRecDepth 20000 in
theorem x_swap {σ : Type} {l : Launch} {G : rr_G} {mt : rr_M} {d lo : Nat} {rv : σ → Option Value} {w : σ → rr_H} {U V : σ → Nat} {uu vv pc idx : Nat} {lv : List (Nat × Value)} {st : List Value} {o : Option σ} {P S : rr_T} (hl2 : lv.all (fun q => rr_pf xsw q.2) = true) (hs2 : st.all (rr_pf xsw) = true) (kk : RR l G mt d lo fxX rv w U V uu vv pc lv st (xw P (xSw S)) o) : RR l G mt d lo fxX rv w U V uu vv pc lv st (((xw P S).set 25 (some (.inr (1, (xF25 S).set 4 (.ref 28))))).set 25 (some (.inr (1, ((xF25 S).set 4 (.ref 28)).set 3 (.ref 29))))) o :=
  rr_view (h' := xw P (xSw S)) xsw xvs (fun n n' _ _ _ _ e => xsw_inj n n' e) (fun n hn => by have := of_decide_eq_true hn; exact (if_neg (by omega)).trans (if_neg (by omega))) hl2 hs2 kk

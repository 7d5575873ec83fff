/-! ===== the words of a told end: named values, join points, loops ===== -/
abbrev rr_T : Type := (Nat → Int32) × (Nat → Nat → Int32) × (Nat → Nat → Int64) × (Nat → Nat)
def pI (S : rr_T) (k : Nat) (v : Int32) : rr_T := (va_up S.1 k v, S.2)
def pA (S : rr_T) (n : Nat) (i : Int32) (v : Int32) : rr_T := (S.1, va_up S.2.1 n (upd (S.2.1 n) i.toNatClampNeg v), S.2.2)
def pL (S : rr_T) (n : Nat) (i : Int32) (v : Int64) : rr_T := (S.1, S.2.1, va_up S.2.2.1 n (vp_updL (S.2.2.1 n) i.toNatClampNeg v), S.2.2.2)
def inb (i : Int32) (n : Nat) : Bool := decide (¬ (i < 0 ∨ n ≤ i.toNatClampNeg))
theorem inb_in {i : Int32} {n : Nat} (h : inb i n = true) : vp_in i n := of_decide_eq_true (p := ¬ (i < 0 ∨ n ≤ i.toNatClampNeg)) h
def rr_l {α β : Type} (e : α) (f : α → β) : β := f e
def rr_loop {α τ : Type} : Nat → ((α → Option τ) → α → Option τ) → α → Option τ
  | 0, _, _ => none
  | n + 1, B, a => B (rr_loop n B) a
def rvI : Int32 → Option Value := fun v => some (.int v)
def rvL : Int64 → Option Value := fun v => some (.long v)
def rvIS : Int32 × rr_T → Option Value := fun q => some (.int q.1)
def rvS : rr_T → Option Value := fun _ => none
def fxA : Nat → Bool := fun _ => true
def z0 {α : Type} : α → Nat := fun _ => 0
theorem in_rr {x : Cond} (i : Nat) (h : lw_tbl[i]? = some x) (g : goodWord x = true) : x ∈ rr_ws := List.mem_filter.mpr ⟨List.mem_of_getElem? h, g⟩
theorem in_ns {x : Cond} (i : Nat) (h : lw_tbl[i]? = some x) (g : rr_isN x = true) : x ∈ rr_ns := List.mem_filter.mpr ⟨List.mem_of_getElem? h, g⟩
section RCORE
variable {σ α : Type} {l : Launch} {G : rr_G} {mt : rr_M} {d lo : Nat} {fx : Nat → Bool} {rv : σ → Option Value} {w : σ → rr_H} {U V : σ → Nat} {uu vv pc : Nat} {lv : List (Nat × Value)} {st : List Value} {h : rr_H} {o : Option σ}
theorem rr_letS {W : α → rr_H} {e : α} {F : α → Option σ} (k : ∀ x, RR l G mt d lo fx rv w U V uu vv pc lv st (W x) (F x)) : RR l G mt d lo fx rv w U V uu vv pc lv st (W e) (rr_l e F) := k e
theorem rr_letI {e : Int32} {F : Int32 → Option σ} (k : ∀ x, RR l G mt d lo fx rv w U V uu vv pc lv (.int x :: st) h (F x)) : RR l G mt d lo fx rv w U V uu vv pc lv (.int e :: st) h (rr_l e F) := k e
theorem rr_letL {e : Int64} {F : Int64 → Option σ} (k : ∀ x, RR l G mt d lo fx rv w U V uu vv pc lv (.long x :: st) h (F x)) : RR l G mt d lo fx rv w U V uu vv pc lv (.long e :: st) h (rr_l e F) := k e
/-- a loop: what is made so far may grow with its state -/
theorem rr_lpU {B : (α → Option σ) → α → Option σ} (pcH : Nat) (lvH : α → List (Nat × Value)) (hH : α → rr_H) (uH vH : α → Nat) (k : ∀ rec : α → Option σ, (∀ a, RR l G mt d lo fx rv w U V (uH a) (vH a) pcH (lvH a) [] (hH a) (rec a)) → ∀ a, RR l G mt d lo fx rv w U V (uH a) (vH a) pcH (lvH a) [] (hH a) (B rec a)) : ∀ (n : Nat) (a : α), RR l G mt d lo fx rv w U V (uH a) (vH a) pcH (lvH a) [] (hH a) (rr_loop n B a) := by
  intro n
  induction n with
  | zero => intro a; exact rr_none
  | succ n ih => intro a; exact k _ ih a
theorem rr_lp {B : (α → Option σ) → α → Option σ} (pcH : Nat) (lvH : α → List (Nat × Value)) (hH : α → rr_H) (k : ∀ rec : α → Option σ, (∀ a, RR l G mt d lo fx rv w U V uu vv pcH (lvH a) [] (hH a) (rec a)) → ∀ a, RR l G mt d lo fx rv w U V uu vv pcH (lvH a) [] (hH a) (B rec a)) : ∀ (n : Nat) (a : α), RR l G mt d lo fx rv w U V uu vv pcH (lvH a) [] (hH a) (rr_loop n B a) := rr_lpU pcH lvH hH (fun _ => uu) (fun _ => vv) k
theorem TT.by {av : List Value} (hpl : plainName mt.1.cls = true) (hlen : (lg_sl av).length ≤ mt.2.2.1) (hlv : lv_args 0 av = lv) (k : RR l G mt d lo fx rv w U V uu vv 0 lv [] h o) : TT l G mt d lo fx rv w U V uu vv av h o := TT.of hpl hlen (hlv ▸ k)
end RCORE
section RCALL3
variable {σ : Type} {l : Launch} {G : rr_G} {mt mt' : rr_M} {d lo : Nat} {fx fx' : Nat → Bool} {rv : σ → Option Value} {w : σ → rr_H} {U V : σ → Nat} {uu vv d' lo' n idx pc : Nat} {lv : List (Nat × Value)} {st As rest : List Value} {h : rr_H}
/-- what a virtual call's place wants of the tables -/
def rr_vk (own : String) (idx : Nat) (mt' : rr_M) (ci n : Nat) : Prop := rr_cb mt' n ∧ rr_ml own idx mt'.1 ∧ Cond.instanceMethod mt'.1 ∈ rr_ws ∧ Cond.selects mt'.1.cls mt'.1 mt'.1 ∈ rr_ws ∧ ∃ T N, vwCl[ci]? = some (mt'.1.cls, T, N)
def rr_sk (own : String) (idx : Nat) (mt' : rr_M) (n : Nat) : Prop := rr_cb mt' n ∧ rr_ml own idx mt'.1 ∧ Cond.static mt'.1 ∈ rr_ws
theorem rr_vi {b ci : Nat} {fs : List Value} {o' : Option Int32} {k : Int32 → Option σ} (ht : TT l G mt' d' lo' fxA rvI (fun _ => h) z0 z0 0 0 (.ref b :: As) h o') (hk : rr_vk mt.1.cls idx mt' ci n) (hobj : h[b]? = some (some (.inr (ci, fs)))) (hn : As.length = n) (hrm : d' + 1 ≤ d ∧ 8 + (mt'.2.2.1 + 11) + lo' ≤ lo) (hlv : lv.all (fun q => rr_fx fxA q.2) = true) (hrs : rest.all (rr_fx fxA) = true) (hcat : (rest.map fun v => v.category).sum ≤ 8) (hst : st = As.reverse ++ .ref b :: rest) (hd : decode mt.2.1 pc = .ok (.invokevirtual idx, 3))
    (kk : ∀ q, RR l G mt d lo fx rv w U V uu vv (pc + 3) lv (.int q :: rest) h (k q)) : RR l G mt d lo fx rv w U V uu vv pc lv st h (o'.bind k) := by
  obtain ⟨k1, k2, k3, k4, T, N, k5⟩ := hk
  exact rr_callV ht k1 k2 k3 k4 k5 hobj hn hrm (fun _ _ => rfl) hlv hrs hcat hst hd (fun q _ => kk q)
theorem rr_si {o' : Option Int32} {k : Int32 → Option σ} (ht : TT l G mt' d' lo' fxA rvI (fun _ => h) z0 z0 0 0 As h o') (hk : rr_sk mt.1.cls idx mt' n) (hn : As.length = n) (hrm : d' + 1 ≤ d ∧ 8 + (mt'.2.2.1 + 11) + lo' ≤ lo) (hlv : lv.all (fun q => rr_fx fxA q.2) = true) (hrs : rest.all (rr_fx fxA) = true) (hcat : (rest.map fun v => v.category).sum ≤ 8) (hst : st = As.reverse ++ rest) (hd : decode mt.2.1 pc = .ok (.invokestatic idx, 3))
    (kk : ∀ q, RR l G mt d lo fx rv w U V uu vv (pc + 3) lv (.int q :: rest) h (k q)) : RR l G mt d lo fx rv w U V uu vv pc lv st h (o'.bind k) := by
  obtain ⟨k1, k2, k3⟩ := hk
  exact rr_callS ht k1 k2 k3  hn hrm (fun _ _ => rfl) hlv hrs hcat hst hd (fun q _ => kk q)
theorem rr_sj {o' : Option Int64} {k : Int64 → Option σ} (ht : TT l G mt' d' lo' fxA rvL (fun _ => h) z0 z0 0 0 As h o') (hk : rr_sk mt.1.cls idx mt' n) (hn : As.length = n) (hrm : d' + 1 ≤ d ∧ 8 + (mt'.2.2.1 + 11) + lo' ≤ lo) (hlv : lv.all (fun q => rr_fx fxA q.2) = true) (hrs : rest.all (rr_fx fxA) = true) (hcat : (rest.map fun v => v.category).sum ≤ 8) (hst : st = As.reverse ++ rest) (hd : decode mt.2.1 pc = .ok (.invokestatic idx, 3))
    (kk : ∀ q, RR l G mt d lo fx rv w U V uu vv (pc + 3) lv (.long q :: rest) h (k q)) : RR l G mt d lo fx rv w U V uu vv pc lv st h (o'.bind k) := by
  obtain ⟨k1, k2, k3⟩ := hk
  exact rr_callS ht k1 k2 k3  hn hrm (fun _ _ => rfl) hlv hrs hcat hst hd (fun q _ => kk q)
theorem rr_vis {b ci : Nat} {fs : List Value} {W : rr_T → rr_H} {o' : Option (Int32 × rr_T)} {k : Int32 × rr_T → Option σ} (ht : TT l G mt' d' lo' fx' rvIS (fun q => W q.2) z0 z0 0 0 (.ref b :: As) h o') (hk : rr_vk mt.1.cls idx mt' ci n) (hobj : h[b]? = some (some (.inr (ci, fs)))) (hn : As.length = n) (hrm : d' + 1 ≤ d ∧ 8 + (mt'.2.2.1 + 11) + lo' ≤ lo) (hfx : ∀ n, fx n = true → fx' n = true) (hlv : lv.all (fun q => rr_fx fx' q.2) = true) (hrs : rest.all (rr_fx fx') = true) (hcat : (rest.map fun v => v.category).sum ≤ 8) (hst : st = As.reverse ++ .ref b :: rest) (hd : decode mt.2.1 pc = .ok (.invokevirtual idx, 3))
    (kk : ∀ q, RR l G mt d lo fx rv w U V uu vv (pc + 3) lv (.int q.1 :: rest) (W q.2) (k q)) : RR l G mt d lo fx rv w U V uu vv pc lv st h (o'.bind k) := by
  obtain ⟨k1, k2, k3, k4, T, N, k5⟩ := hk
  exact rr_callV ht k1 k2 k3 k4 k5 hobj hn hrm hfx hlv hrs hcat hst hd (fun q _ => kk q)
theorem rr_vs {b ci : Nat} {fs : List Value} {W : rr_T → rr_H} {o' : Option rr_T} {k : rr_T → Option σ} (ht : TT l G mt' d' lo' fx' rvS W z0 z0 0 0 (.ref b :: As) h o') (hk : rr_vk mt.1.cls idx mt' ci n) (hobj : h[b]? = some (some (.inr (ci, fs)))) (hn : As.length = n) (hrm : d' + 1 ≤ d ∧ 8 + (mt'.2.2.1 + 11) + lo' ≤ lo) (hfx : ∀ n, fx n = true → fx' n = true) (hlv : lv.all (fun q => rr_fx fx' q.2) = true) (hrs : rest.all (rr_fx fx') = true) (hcat : (rest.map fun v => v.category).sum ≤ 8) (hst : st = As.reverse ++ .ref b :: rest) (hd : decode mt.2.1 pc = .ok (.invokevirtual idx, 3))
    (kk : ∀ q, RR l G mt d lo fx rv w U V uu vv (pc + 3) lv rest (W q) (k q)) : RR l G mt d lo fx rv w U V uu vv pc lv st h (o'.bind k) := by
  obtain ⟨k1, k2, k3, k4, T, N, k5⟩ := hk
  exact rr_callV ht k1 k2 k3 k4 k5 hobj hn hrm hfx hlv hrs hcat hst hd (fun q _ => kk q)
end RCALL3

/-! ===== more calls: null or a name; methods that make rows; a static one that changes the world ===== -/
def rvO : Option Nat → Option Value := fun r => some (va_rf r)
def rvSU : rr_T × Nat × Nat → Option Value := fun _ => none
def rvIU : Int32 × rr_T × Nat × Nat → Option Value := fun q => some (.int q.1)
/-- the names that keep their addresses: the class's objects and the rows that are never made anew -/
def fxX : Nat → Bool := fun n => decide (n < 34 ∧ n ≠ 19 ∧ n ≠ 20 ∧ (n < 27 ∨ n = 33))
def rr_o {α β : Type} (r : Option α) (a : β) (f : α → β) : β := match r with
  | none => a
  | some x => f x
section XCORE
variable {σ : Type} {l : Launch} {G : rr_G} {mt mt' : rr_M} {d lo : Nat} {fx fx' : Nat → Bool} {rv : σ → Option Value} {w : σ → rr_H} {U V : σ → Nat} {uu vv d' lo' n idx pc : Nat} {lv : List (Nat × Value)} {st As rest : List Value} {h : rr_H}
theorem rr_oc {r : Option Nat} {a : Option σ} {f : Nat → Option σ} (kn : RR l G mt d lo fx rv w U V uu vv pc lv (.null :: st) h a) (ks : ∀ x, RR l G mt d lo fx rv w U V uu vv pc lv (.ref x :: st) h (f x)) : RR l G mt d lo fx rv w U V uu vv pc lv (va_rf r :: st) h (rr_o r a f) := by
  cases r with
  | none => exact kn
  | some x => exact ks x
theorem rr_vo {b ci : Nat} {fs : List Value} {o' : Option (Option Nat)} {k : Option Nat → Option σ} (ht : TT l G mt' d' lo' fxA rvO (fun _ => h) z0 z0 0 0 (.ref b :: As) h o') (hk : rr_vk mt.1.cls idx mt' ci n) (hobj : h[b]? = some (some (.inr (ci, fs)))) (hn : As.length = n) (hrm : d' + 1 ≤ d ∧ 8 + (mt'.2.2.1 + 11) + lo' ≤ lo) (hlv : lv.all (fun q => rr_fx fxA q.2) = true) (hrs : rest.all (rr_fx fxA) = true) (hcat : (rest.map fun v => v.category).sum ≤ 8) (hst : st = As.reverse ++ .ref b :: rest) (hd : decode mt.2.1 pc = .ok (.invokevirtual idx, 3))
    (kk : ∀ q, RR l G mt d lo fx rv w U V uu vv (pc + 3) lv (va_rf q :: rest) h (k q)) : RR l G mt d lo fx rv w U V uu vv pc lv st h (o'.bind k) := by
  obtain ⟨k1, k2, k3, k4, T, N, k5⟩ := hk
  exact rr_callV ht k1 k2 k3 k4 k5 hobj hn hrm (fun _ _ => rfl) hlv hrs hcat hst hd (fun q _ => kk q)
theorem rr_ss {W : rr_T → rr_H} {o' : Option rr_T} {k : rr_T → Option σ} (ht : TT l G mt' d' lo' fx' rvS W z0 z0 0 0 As h o') (hk : rr_sk mt.1.cls idx mt' n) (hn : As.length = n) (hrm : d' + 1 ≤ d ∧ 8 + (mt'.2.2.1 + 11) + lo' ≤ lo) (hfx : ∀ n, fx n = true → fx' n = true) (hlv : lv.all (fun q => rr_fx fx' q.2) = true) (hrs : rest.all (rr_fx fx') = true) (hcat : (rest.map fun v => v.category).sum ≤ 8) (hst : st = As.reverse ++ rest) (hd : decode mt.2.1 pc = .ok (.invokestatic idx, 3))
    (kk : ∀ q, RR l G mt d lo fx rv w U V uu vv (pc + 3) lv rest (W q) (k q)) : RR l G mt d lo fx rv w U V uu vv pc lv st h (o'.bind k) := by
  obtain ⟨k1, k2, k3⟩ := hk
  exact rr_callS ht k1 k2 k3 hn hrm hfx hlv hrs hcat hst hd (fun q _ => kk q)
theorem rr_vsu {b ci : Nat} {fs : List Value} {W : rr_T → rr_H} {o' : Option (rr_T × Nat × Nat)} {k : rr_T × Nat × Nat → Option σ} (ht : TT l G mt' d' lo' fx' rvSU (fun q => W q.1) (fun q => q.2.1) (fun q => q.2.2) uu vv (.ref b :: As) h o') (hk : rr_vk mt.1.cls idx mt' ci n) (hobj : h[b]? = some (some (.inr (ci, fs)))) (hn : As.length = n) (hrm : d' + 1 ≤ d ∧ 8 + (mt'.2.2.1 + 11) + lo' ≤ lo) (hfx : ∀ n, fx n = true → fx' n = true) (hlv : lv.all (fun q => rr_fx fx' q.2) = true) (hrs : rest.all (rr_fx fx') = true) (hcat : (rest.map fun v => v.category).sum ≤ 8) (hst : st = As.reverse ++ .ref b :: rest) (hd : decode mt.2.1 pc = .ok (.invokevirtual idx, 3))
    (kk : ∀ q, RR l G mt d lo fx rv w U V q.2.1 q.2.2 (pc + 3) lv rest (W q.1) (k q)) : RR l G mt d lo fx rv w U V uu vv pc lv st h (o'.bind k) := by
  obtain ⟨k1, k2, k3, k4, T, N, k5⟩ := hk
  refine rr_callV ht k1 k2 k3 k4 k5 hobj hn hrm hfx hlv hrs hcat hst hd (fun q hq => ?_)
  have t1 : uu ≤ q.2.1 := (ht q hq).1
  have t2 : vv ≤ q.2.2 := (ht q hq).2.1
  have e1 : uu + (q.2.1 - uu) = q.2.1 := by omega
  have e2 : vv + (q.2.2 - vv) = q.2.2 := by omega
  show RR l G mt d lo fx rv w U V (uu + (q.2.1 - uu)) (vv + (q.2.2 - vv)) (pc + 3) lv rest (W q.1) (k q)
  rw [e1, e2]
  exact kk q
theorem rr_viu {b ci : Nat} {fs : List Value} {W : rr_T → rr_H} {o' : Option (Int32 × rr_T × Nat × Nat)} {k : Int32 × rr_T × Nat × Nat → Option σ} (ht : TT l G mt' d' lo' fx' rvIU (fun q => W q.2.1) (fun q => q.2.2.1) (fun q => q.2.2.2) uu vv (.ref b :: As) h o') (hk : rr_vk mt.1.cls idx mt' ci n) (hobj : h[b]? = some (some (.inr (ci, fs)))) (hn : As.length = n) (hrm : d' + 1 ≤ d ∧ 8 + (mt'.2.2.1 + 11) + lo' ≤ lo) (hfx : ∀ n, fx n = true → fx' n = true) (hlv : lv.all (fun q => rr_fx fx' q.2) = true) (hrs : rest.all (rr_fx fx') = true) (hcat : (rest.map fun v => v.category).sum ≤ 8) (hst : st = As.reverse ++ .ref b :: rest) (hd : decode mt.2.1 pc = .ok (.invokevirtual idx, 3))
    (kk : ∀ q, RR l G mt d lo fx rv w U V q.2.2.1 q.2.2.2 (pc + 3) lv (.int q.1 :: rest) (W q.2.1) (k q)) : RR l G mt d lo fx rv w U V uu vv pc lv st h (o'.bind k) := by
  obtain ⟨k1, k2, k3, k4, T, N, k5⟩ := hk
  refine rr_callV ht k1 k2 k3 k4 k5 hobj hn hrm hfx hlv hrs hcat hst hd (fun q hq => ?_)
  have t1 : uu ≤ q.2.2.1 := (ht q hq).1
  have t2 : vv ≤ q.2.2.2 := (ht q hq).2.1
  have e1 : uu + (q.2.2.1 - uu) = q.2.2.1 := by omega
  have e2 : vv + (q.2.2.2 - vv) = q.2.2.2 := by omega
  show RR l G mt d lo fx rv w U V (uu + (q.2.2.1 - uu)) (vv + (q.2.2.2 - vv)) (pc + 3) lv (.int q.1 :: rest) (W q.2.1) (k q)
  rw [e1, e2]
  exact kk q
end XCORE
/-! System.arraycopy within the row of types -/
def rr_ak (own : String) (idx : Nat) : Prop := Cond.methodLink own idx arraycopyName ∈ rr_ws ∧ Cond.native arraycopyName ∈ rr_ws ∧ Cond.static arraycopyName ∈ rr_ws ∧ Cond.initialized "java/lang/System" ∈ rr_ws
def xC4 (S : rr_T) (sp dp n : Int32) : rr_T := (S.1, va_up S.2.1 4 (va_cpy (S.2.1 4) (S.2.1 4) sp.toNatClampNeg dp.toNatClampNeg n.toNatClampNeg), S.2.2)
theorem rr_copy4 {σ : Type} {l : Launch} {G : rr_G} {mt : rr_M} {d lo : Nat} {fx : Nat → Bool} {rv : σ → Option Value} {w : σ → rr_H} {U V : σ → Nat} {uu vv pc idx : Nat} {lv : List (Nat × Value)} {st : List Value} {o : Option σ} {P S : rr_T} {sp dp n : Int32} (hk : rr_ak mt.1.cls idx) (h1 : vp_in sp 17) (h2 : vp_in dp 17) (h3 : vp_in n 17) (h4 : sp.toNatClampNeg + n.toNatClampNeg ≤ 16) (h5 : dp.toNatClampNeg + n.toNatClampNeg ≤ 16) (hfr : 1 ≤ d) (hlo : (st.map fun v => v.category).sum + 18 ≤ lo) (hd : decode mt.2.1 pc = .ok (.invokestatic idx, 3)) (kk : RR l G mt d lo fx rv w U V uu vv (pc + 3) lv st (xw P (xC4 S sp dp n)) o) : RR l G mt d lo fx rv w U V uu vv pc lv (.int n :: .int dp :: .ref 4 :: .int sp :: .ref 4 :: st) (xw P S) o := by
  intro q ho
  obtain ⟨k1, k2, K0⟩ := kk q ho
  refine ⟨k1, k2, ?_⟩
  intro p e s m args below meth c ad0 ad A H locs cells slots mc ms ls C X L hcc hs
  obtain ⟨hP, hD, hS, hA, hf⟩ := X
  have hn : (xw P S)[4]? = some (some (.inl (0, 16, .inl (S.2.1 4)))) := rfl
  obtain ⟨a1, a2, a3, a4⟩ := hk
  have C0 := C
  obtain ⟨hx, hb, hml, hown, hts, hr, hl0, hnm, hK⟩ := C
  refine va_copyi hx hb (hml.trans L.1.symm) hown (hts _ a1) (hts _ a2) (hts _ a3) (hts _ a4) hK.1 hP hD hS _ _ 0 0 (rr_at0 hn) (rr_at0 hn) rfl rfl rfl (fun z => h1 (Or.inl z)) (fun z => h2 (Or.inl z)) (fun z => h3 (Or.inl z)) h4 h5 (fun _ _ => rfl) hfr ?_ hd (fun H1 locs1 hP1 hD1 hS1 => ?_)
  · show ((st.map (a_v ad)).map fun v => v.category).sum + (7 + 11) ≤ lo
    rw [List.map_map]
    simpa [Function.comp_def, a_v_cat] using hlo
  have e1 : (a_w G.2.2 ad 0 (xw P S)).set (a_k (xw P S) 4) (ad 4, .inl (G.2.2 0, 16, .inl (va_cpy (S.2.1 4) (S.2.1 4) sp.toNatClampNeg dp.toNatClampNeg n.toNatClampNeg))) = a_w G.2.2 ad 0 (xw P (xC4 S sp dp n)) := rr_set0 (.inl (0, 16, .inl (va_cpy (S.2.1 4) (S.2.1 4) sp.toNatClampNeg dp.toNatClampNeg n.toNatClampNeg))) hn
  exact K0 p e s m args below meth c ad0 ad A H1 locs1 cells slots mc ms ls C0 ⟨e1 ▸ hP1, e1 ▸ hD1, hS1, hA, hf⟩ L hcc hs
theorem c8_49 : rr_ak RX8 49 := ⟨in_rr 359 (by decide +kernel) rfl, in_rr 361 (by decide +kernel) rfl, in_rr 360 (by decide +kernel) rfl, in_rr 59 (by decide +kernel) rfl⟩
theorem cJ7_150 : rr_ak RJ7 150 := ⟨in_rr 543 (by decide +kernel) rfl, in_rr 361 (by decide +kernel) rfl, in_rr 360 (by decide +kernel) rfl, in_rr 59 (by decide +kernel) rfl⟩

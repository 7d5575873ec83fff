/-! ===== the law: the classes as the tables have them ===== -/
theorem ins0 : Cond.instantiable RX0 7 ∈ rr_ws ∧ Cond.initialized RX0 ∈ rr_ws := ⟨in_rr 187 (by decide +kernel) rfl, in_rr 54 (by decide +kernel) rfl⟩
theorem ins1 : Cond.instantiable RX1 10 ∈ rr_ws ∧ Cond.initialized RX1 ∈ rr_ws := ⟨in_rr 279 (by decide +kernel) rfl, in_rr 57 (by decide +kernel) rfl⟩
theorem ins2 : Cond.instantiable RX2 11 ∈ rr_ws ∧ Cond.initialized RX2 ∈ rr_ws := ⟨in_rr 143 (by decide +kernel) rfl, in_rr 53 (by decide +kernel) rfl⟩
theorem ins3 : Cond.instantiable RX3 10 ∈ rr_ws ∧ Cond.initialized RX3 ∈ rr_ws := ⟨in_rr 237 (by decide +kernel) rfl, in_rr 56 (by decide +kernel) rfl⟩
theorem ins4 : Cond.instantiable RX4 2 ∈ rr_ws ∧ Cond.initialized RX4 ∈ rr_ws := ⟨in_rr 127 (by decide +kernel) rfl, in_rr 52 (by decide +kernel) rfl⟩
theorem ins5 : Cond.instantiable RX5 2 ∈ rr_ws ∧ Cond.initialized RX5 ∈ rr_ws := ⟨in_rr 193 (by decide +kernel) rfl, in_rr 55 (by decide +kernel) rfl⟩
theorem ins6 : Cond.instantiable RX6 4 ∈ rr_ws ∧ Cond.initialized RX6 ∈ rr_ws := ⟨in_rr 442 (by decide +kernel) rfl, in_rr 60 (by decide +kernel) rfl⟩
theorem ins7 : Cond.instantiable RX7 2 ∈ rr_ws ∧ Cond.initialized RX7 ∈ rr_ws := ⟨in_rr 110 (by decide +kernel) rfl, in_rr 51 (by decide +kernel) rfl⟩
theorem ins8 : Cond.instantiable RX8 7 ∈ rr_ws ∧ Cond.initialized RX8 ∈ rr_ws := ⟨in_rr 74 (by decide +kernel) rfl, in_rr 50 (by decide +kernel) rfl⟩
theorem ins9 : Cond.instantiable RX9 5 ∈ rr_ws ∧ Cond.initialized RX9 ∈ rr_ws := ⟨in_rr 688 (by decide +kernel) rfl, in_rr 64 (by decide +kernel) rfl⟩
theorem ins10 : Cond.instantiable RX10 9 ∈ rr_ws ∧ Cond.initialized RX10 ∈ rr_ws := ⟨in_rr 66 (by decide +kernel) rfl, in_rr 49 (by decide +kernel) rfl⟩
theorem ins11 : Cond.instantiable RX11 54 ∈ rr_ws ∧ Cond.initialized RX11 ∈ rr_ws := ⟨in_rr 841 (by decide +kernel) rfl, in_rr 58 (by decide +kernel) rfl⟩
theorem lz_arr {args : Array Value} {s : State} {ty : FieldType} (hp : refKind ty = false) (h : (Cond.arrayClass ty).before args s = true) : ∃ cA, ArrOfT s cA ty ∧ va_RA s cA ty := by
  obtain ⟨cA, kA, comp, h1, h2, h3⟩ := Cond.arrayClass_spec h
  refine ⟨cA, fun n z => ⟨(fun k h => by cases h), kA, h2, comp, h3⟩, ?_⟩
  cases ty <;> first | (simp [refKind] at hp; done) | exact h1
theorem lz_arro {s : State} {C : String} (h : va_Nw (.arrayOver (.object C)) s) : ∃ cA, ArrOfT s cA (.object C) ∧ va_RA s cA (.object C) := by
  obtain ⟨comp, cA, kA, h1, -, h3, h4, h5⟩ := Cond.arrayOver_spec h
  exact ⟨cA, fun n z => ⟨(fun k h => by cases h), kA, h3, comp, h4⟩, kA, comp, h3, h4, h1, h5⟩
set_option maxRecDepth 20000 in
theorem lw_K {args : Array Value} {s : State} (hts : ∀ w ∈ lw_tbl, w.before args s = true) : ∃ G : rr_G, rr_K G s := by
  have hw : ∀ w ∈ rr_ws, w.before args s = true := fun w h => hts w (List.mem_filter.mp h).1
  have hn : ∀ w ∈ rr_ns, va_Nw w s := fun w h => by
    have h1 := hts w (List.mem_filter.mp h).1
    have h2 := (List.mem_filter.mp h).2
    match w, h2, h1 with
    | .fieldLinkNest .., _, z => exact va_Nw.of rfl z
    | .methodLinkNest .., _, z => exact va_Nw.of rfl z
    | .arrayOver (.object C), _, z => exact z
  obtain ⟨c0, i0, k0⟩ := u_known (C := RX0) (T := TX0) (N := 7) (n := 7) hw cl0.2.1 (hw _ ins0.1)
  obtain ⟨c1, i1, k1⟩ := u_known (C := RX1) (T := TX1) (N := 10) (n := 10) hw cl1.2.1 (hw _ ins1.1)
  obtain ⟨c2, i2, k2⟩ := u_known (C := RX2) (T := TX2) (N := 11) (n := 11) hw cl2.2.1 (hw _ ins2.1)
  obtain ⟨c3, i3, k3⟩ := u_known (C := RX3) (T := TX3) (N := 10) (n := 10) hw cl3.2.1 (hw _ ins3.1)
  obtain ⟨c4, i4, k4⟩ := u_known (C := RX4) (T := TX4) (N := 2) (n := 2) hw cl4.2.1 (hw _ ins4.1)
  obtain ⟨c5, i5, k5⟩ := u_known (C := RX5) (T := TX5) (N := 2) (n := 2) hw cl5.2.1 (hw _ ins5.1)
  obtain ⟨c6, i6, k6⟩ := u_known (C := RX6) (T := TX6) (N := 4) (n := 4) hw cl6.2.1 (hw _ ins6.1)
  obtain ⟨c7, i7, k7⟩ := u_known (C := RX7) (T := TX7) (N := 2) (n := 2) hw cl7.2.1 (hw _ ins7.1)
  obtain ⟨c8, i8, k8⟩ := u_known (C := RX8) (T := TX8) (N := 7) (n := 7) hw cl8.2.1 (hw _ ins8.1)
  obtain ⟨c9, i9, k9⟩ := u_known (C := RX9) (T := TX9) (N := 5) (n := 5) hw cl9.2.1 (hw _ ins9.1)
  obtain ⟨c10, i10, k10⟩ := u_known (C := RX10) (T := TX10) (N := 9) (n := 9) hw cl10.2.1 (hw _ ins10.1)
  obtain ⟨c11, i11, k11⟩ := u_known (C := RX11) (T := TX11) (N := 54) (n := 54) hw cl11.2.1 (hw _ ins11.1)
  obtain ⟨y0, hy0, gy0⟩ := lz_arr (ty := .int) rfl (hw _ aI)
  obtain ⟨y1, hy1, gy1⟩ := lz_arr (ty := .long) rfl (hw _ aJ)
  obtain ⟨y2, hy2, gy2⟩ := lz_arr (ty := .byte) rfl (hw _ aB)
  obtain ⟨y3, hy3, gy3⟩ := lz_arr (ty := .boolean) rfl (hw _ aZ)
  obtain ⟨y4, hy4, gy4⟩ := lz_arro (hn _ aoR)
  obtain ⟨y5, hy5, gy5⟩ := lz_arro (hn _ aoS)
  refine ⟨(fun k => if k = 0 then c0 else if k = 1 then c1 else if k = 2 then c2 else if k = 3 then c3 else if k = 4 then c4 else if k = 5 then c5 else if k = 6 then c6 else if k = 7 then c7 else if k = 8 then c8 else if k = 9 then c9 else if k = 10 then c10 else c11, fun k => if k = 0 then i0 else if k = 1 then i1 else if k = 2 then i2 else if k = 3 then i3 else if k = 4 then i4 else if k = 5 then i5 else if k = 6 then i6 else if k = 7 then i7 else if k = 8 then i8 else if k = 9 then i9 else if k = 10 then i10 else i11, fun k => if k = 0 then y0 else if k = 1 then y1 else if k = 2 then y2 else if k = 3 then y3 else if k = 4 then y4 else y5), ⟨?_, ?_⟩, hn⟩
  · intro k q hq
    match k, hq with
    | 0, hq => cases hq; exact k0
    | 1, hq => cases hq; exact k1
    | 2, hq => cases hq; exact k2
    | 3, hq => cases hq; exact k3
    | 4, hq => cases hq; exact k4
    | 5, hq => cases hq; exact k5
    | 6, hq => cases hq; exact k6
    | 7, hq => cases hq; exact k7
    | 8, hq => cases hq; exact k8
    | 9, hq => cases hq; exact k9
    | 10, hq => cases hq; exact k10
    | 11, hq => cases hq; exact k11
    | k + 12, hq => simp [vwCl] at hq
  · intro k q hq
    match k, hq with
    | 0, hq => cases hq; exact ⟨hy0, gy0⟩
    | 1, hq => cases hq; exact ⟨hy1, gy1⟩
    | 2, hq => cases hq; exact ⟨hy2, gy2⟩
    | 3, hq => cases hq; exact ⟨hy3, gy3⟩
    | 4, hq => cases hq; exact ⟨hy4, gy4⟩
    | 5, hq => cases hq; exact ⟨hy5, gy5⟩
    | k + 6, hq => simp [rr_tys] at hq
/-! two worlds side by side -/
theorem lz_joinL {A0 : Nat → Prop} {D : va_G} {cl : List vw_C} {wa wb w1 : va_W} {H H1 : Heap} (hP : va_P D cl (wa ++ wb) H) (hD : va_D A0 (wa ++ wb)) (hk : ∀ q : Nat, q < H.size → ¬ va_A wa H.size q → H1[q]? = H[q]?) (hF : ∀ q, va_A wa H.size q → A0 q) (hP1 : va_P D cl w1 H1) (hD1 : va_D (va_A wa H.size) w1) : va_P D cl (w1 ++ wb) H1 ∧ va_D A0 (w1 ++ wb) := by
  have rb : ∀ (k : Nat) (q : Nat × va_E), wb[k]? = some q → (wa ++ wb)[wa.length + k]? = some q := fun k q h => by rw [List.getElem?_append_right (by omega), Nat.add_sub_cancel_left]; exact h
  have ap : ∀ (k : Nat) (q : Nat × va_E), wb[k]? = some q → q.1 < H.size ∧ ¬ va_A wa H.size q.1 := by
    intro k q hq
    have h1 := rb k q hq
    have hl := (hP _ _ h1).lt
    refine ⟨hl, fun h => ?_⟩
    rcases h with ⟨j, e, hj⟩ | h
    · have hjl := (List.getElem?_eq_some_iff.mp hj).1
      have h2 : (wa ++ wb)[j]? = some (q.1, e) := by rw [List.getElem?_append_left hjl]; exact hj
      have := hD.1 _ _ _ _ h1 h2 rfl
      omega
    · omega
  refine ⟨va_P.app hP1 (fun k q hq => (hP _ _ (rb k q hq)).kept (hk q.1 (ap k q hq).1 (ap k q hq).2)), va_D.app (hD1.weaken (fun k q _ h => hF q.1 h)) ⟨fun i j x y hx hy e => ?_, fun k q hq => hD.2 _ _ (rb k q hq)⟩ (fun i j x y hx hy hxy => (ap j y hy).2 (by rw [← hxy]; exact hD1.2 i x hx))⟩
  have := hD.1 _ _ _ _ (rb i x hx) (rb j y hy) e
  omega
theorem lz_joinR {A0 : Nat → Prop} {D : va_G} {cl : List vw_C} {wa wb w1 : va_W} {H H1 : Heap} (hP : va_P D cl (wa ++ wb) H) (hD : va_D A0 (wa ++ wb)) (hk : ∀ q : Nat, q < H.size → ¬ va_A wb H.size q → H1[q]? = H[q]?) (hF : ∀ q, va_A wb H.size q → A0 q) (hP1 : va_P D cl w1 H1) (hD1 : va_D (va_A wb H.size) w1) : va_P D cl (wa ++ w1) H1 ∧ va_D A0 (wa ++ w1) := by
  have ra : ∀ (k : Nat) (q : Nat × va_E), wa[k]? = some q → (wa ++ wb)[k]? = some q := fun k q h => by rw [List.getElem?_append_left (List.getElem?_eq_some_iff.mp h).1]; exact h
  have ap : ∀ (k : Nat) (q : Nat × va_E), wa[k]? = some q → q.1 < H.size ∧ ¬ va_A wb H.size q.1 := by
    intro k q hq
    have h1 := ra k q hq
    have hl := (hP _ _ h1).lt
    have hkl := (List.getElem?_eq_some_iff.mp hq).1
    refine ⟨hl, fun h => ?_⟩
    rcases h with ⟨j, e, hj⟩ | h
    · have h2 : (wa ++ wb)[wa.length + j]? = some (q.1, e) := by rw [List.getElem?_append_right (by omega), Nat.add_sub_cancel_left]; exact hj
      have := hD.1 _ _ _ _ h1 h2 rfl
      omega
    · omega
  refine ⟨va_P.app (fun k q hq => (hP _ _ (ra k q hq)).kept (hk q.1 (ap k q hq).1 (ap k q hq).2)) hP1, va_D.app ⟨fun i j x y hx hy e => hD.1 _ _ _ _ (ra i x hx) (ra j y hy) e, fun k q hq => hD.2 _ _ (ra k q hq)⟩ (hD1.weaken (fun k q _ h => hF q.1 h)) (fun i j x y hx hy hxy => (ap i x hx).2 (by rw [hxy]; exact hD1.2 j y hy))⟩
theorem lz_Pl {D : va_G} {cl : List vw_C} {wa wb : va_W} {H : Heap} (hP : va_P D cl (wa ++ wb) H) : va_P D cl wa H := fun k q h => hP k q (by rw [List.getElem?_append_left (List.getElem?_eq_some_iff.mp h).1]; exact h)
theorem lz_Pr {D : va_G} {cl : List vw_C} {wa wb : va_W} {H : Heap} (hP : va_P D cl (wa ++ wb) H) : va_P D cl wb H := fun k q h => hP (wa.length + k) q (by rw [List.getElem?_append_right (by omega), Nat.add_sub_cancel_left]; exact h)
theorem lz_Dl {A : Nat → Prop} {wa wb : va_W} (hD : va_D A (wa ++ wb)) : va_D A wa := ⟨fun i j x y hx hy e => hD.1 i j x y (by rw [List.getElem?_append_left (List.getElem?_eq_some_iff.mp hx).1]; exact hx) (by rw [List.getElem?_append_left (List.getElem?_eq_some_iff.mp hy).1]; exact hy) e, fun k q h => hD.2 k q (by rw [List.getElem?_append_left (List.getElem?_eq_some_iff.mp h).1]; exact h)⟩
theorem lz_Dr {A : Nat → Prop} {wa wb : va_W} (hD : va_D A (wa ++ wb)) : va_D A wb := ⟨fun i j x y hx hy e => by
    have := hD.1 (wa.length + i) (wa.length + j) x y (by rw [List.getElem?_append_right (by omega), Nat.add_sub_cancel_left]; exact hx) (by rw [List.getElem?_append_right (by omega), Nat.add_sub_cancel_left]; exact hy) e
    omega, fun k q h => hD.2 (wa.length + k) q (by rw [List.getElem?_append_right (by omega), Nat.add_sub_cancel_left]; exact h)⟩
/-- the law's world: the class's cells, then the reference's -/
def lz_S (G : rr_G) (adX adM : Nat → Nat) (s : State) (H : Heap) (locs : List Loc) (hX hM : rr_H) : Prop :=
  va_P (rr_D G) vwCl (a_w G.2.2 adX 0 hX ++ a_w G.2.2 adM 0 hM) H ∧ va_D (fun q => s.heap.size ≤ q) (a_w G.2.2 adX 0 hX ++ a_w G.2.2 adM 0 hM) ∧ va_S (fun q => s.heap.size ≤ q) s.heap H locs
/-- what the law's calls stand on -/
def lz_C (G : rr_G) (p : Program) (s : State) (m : MethodId) (b : Nat) (c : Code) : Prop := p.tables.exec = Jvm.exec ∧ c.code = code ∧ c.maxLocals = 4 ∧ s.vm.findClass RL = some m.cls ∧ (∀ w ∈ rr_ws, w.before #[Value.ref b] s = true) ∧ rr_K G s
section LZ
variable {p : Program} {l : Launch} {e : Env} {s : State} {m : MethodId} {b : Nat} {below : List Frame} {meth : Method} {c : Code} {H : Heap} {locs : List Loc} {cells slots : Nat} {Q : State → Prop}
variable {pc : Nat} {ls : Array Slot} {rest st0 : List Value} {a : Array Value} {mc ms : Nat}
theorem lz_run {σ : Type} {G : rr_G} {fx : Nat → Bool} {rv : σ → Option Value} {w : σ → rr_H} {q : σ} {ad0 : Nat → Nat} {A0 A1 : Nat → Prop} {H0 : Heap} {free : Addr → Prop} (hr : va_Run p l e room_1 s m #[Value.ref b] below meth c H locs cells slots mc ms (F0 m pc ls st0) rest (rr_Q G fx rv w q ad0 A1 a) free) (hS : va_S A0 H0 H locs) (hA : ∀ q, q < H.size → A1 q → A0 q) (hf : ∀ q, free q → A0 q)
    (kk : ∀ (ad : Nat → Nat) (H1 : Heap) (locs1 : List Loc), (∀ n, fx n = true → ad n = ad0 n) → va_P (rr_D G) vwCl (a_w G.2.2 ad 0 (w q)) H1 → va_D A1 (a_w G.2.2 ad 0 (w q)) → (∀ q : Nat, q < H.size → ¬ A1 q → H1[q]? = H[q]?) → va_S A0 H0 H1 locs1 → W p l e room_1 s m #[Value.ref b] below meth c H1 locs1 (cells + mc) (slots + ms) Q (F0 m (pc + 3) ls (((rv q).map (a_v ad)).toList ++ rest))) : W p l e room_1 s m #[Value.ref b] below meth c H locs cells slots Q (F0 m pc ls st0) := by
  intro T hT X
  obtain ⟨v, st₀, t, T', L, h0, X', hL, e1, e2, ⟨⟨ad, hfx, hv, hP, hK, hD⟩, hz, hk⟩, st⟩ := hr T hT X
  cases hv
  rw [h0] at hz hk
  obtain ⟨t2, a1, b1⟩ := kk ad T'.heap (locs ++ L) hfx (by rw [e1]; exact hP) hD (fun q h1 h2 => by rw [e1]; exact hk q h1 h2)
    ⟨Nat.le_trans hS.1 (by rw [e1]; exact hz), fun q h1 h2 => by rw [e1, hk q (Nat.lt_of_lt_of_le h1 hS.1) (fun z => h2 (hA q (Nat.lt_of_lt_of_le h1 hS.1) z))]; exact hS.2.1 q h1 h2, fun q hq => by
      rcases List.mem_append.mp hq with h | h
      · exact hS.2.2 q h
      · exact hf _ (hL q h)⟩ T' rfl X'
  exact ⟨t2, st t2 a1, b1⟩
end LZ
theorem lz_callX {σ : Type} {p : Program} {l : Launch} {e : Env} {s : State} {m : MethodId} {b : Nat} {below : List Frame} {meth : Method} {c : Code} {H : Heap} {locs : List Loc} {cells slots : Nat} {Q : State → Prop} {pc : Nat} {ls : Array Slot} {rest As st : List Value} {G : rr_G} {mt' : rr_M} {d' lo' u' v' n idx ci : Nat} {fx' : Nat → Bool} {rv' : σ → Option Value} {w' : σ → rr_H} {U' V' : σ → Nat} {o' : Option σ} {q' : σ} {adX adM : Nat → Nat} {hX hM : rr_H} {fs : List Value} (C : lz_C G p s m b c) (X : lz_S G adX adM s H locs hX hM) (ht : TT l G mt' d' lo' fx' rv' w' U' V' u' v' (.ref 0 :: As) hX o') (ho : o' = some q') (hk : rr_vk RL idx mt' ci n) (hl : Cond.methodLink RL idx mt'.1 ∈ rr_ws) (hobj : hX[0]? = some (some (.inr (ci, fs)))) (hf0 : fx' 0 = true) (hn : As.length = n) (hnr : ∀ ad : Nat → Nat, As.map (a_v ad) = As) (hrm : d' + 1 ≤ 10 ∧ 8 + (mt'.2.2.1 + 11) + lo' ≤ 368) (hcat : (rest.map fun v => v.category).sum ≤ 8) (hst : st = As.reverse ++ .ref (adX 0) :: rest) (hsz : ls.size = 4) (hd : decode code pc = .ok (.invokevirtual idx, 3)) (hc : cells + (U' q' - u') ≤ 600000) (hs : slots + (V' q' - v') ≤ 7302250)
    (kk : ∀ (ad : Nat → Nat) (H1 : Heap) (locs1 : List Loc), ad 0 = adX 0 → lz_S G ad adM s H1 locs1 (w' q') hM → W p l e room_1 s m #[Value.ref b] below meth c H1 locs1 (cells + (U' q' - u')) (slots + (V' q' - v')) Q (F0 m (pc + 3) ls (((rv' q').map (a_v ad)).toList ++ rest))) : W p l e room_1 s m #[Value.ref b] below meth c H locs cells slots Q (F0 m pc ls st) := by
  obtain ⟨hx, hb, hml, hown, hts, hK⟩ := C
  obtain ⟨hP, hD, hS⟩ := X
  obtain ⟨t1, t2, tM⟩ := ht q' ho
  have hMt := tM adX H.size
  have hP0 := lz_Pl hP
  have hD0 := lz_Dl hD
  have hF : ∀ q, va_A (a_w G.2.2 adX 0 hX) H.size q → s.heap.size ≤ q := fun q hq => hq.elim (fun ⟨i, x, hx⟩ => hD0.2 i _ hx) (fun z => Nat.le_trans hS.1 z)
  have hpre := rr_pre (av := .ref 0 :: As) hP0 hD0 hK
  rw [List.map_cons, hnr] at hpre hMt
  obtain ⟨⟨b1, b2, b3⟩, k2, k3, k4, T, N, k5⟩ := hk
  have hrecv := va_recv hK.1 hP0 k5 (rr_at0 hobj)
  have hl := hl
  have hG : GoodIn rr_ws (wsV RL idx mt'.1.cls mt'.1 (.code mt'.1 mt'.2.1 mt'.2.2.1 mt'.2.2.2 :: rr_ws)) := by
    intro x hx
    rcases List.mem_append.mp (show x ∈ [_, _, _, _] ++ _ from hx) with hx | hx
    · simp only [List.mem_cons, List.not_mem_nil, or_false] at hx
      rcases hx with rfl | rfl | rfl | rfl
      · exact rr_good hl
      · exact rr_good k3
      · exact rr_good k4
      · exact rr_good b1
    · exact rr_goodAll mt' b2 x hx
  refine lz_run (va_runV (C := mt'.1.cls) (As := As) (rest := rest) ⟨hx, hb, hml, hown, hts⟩ hMt (cwV n hts hG rfl rfl rfl ⟨rfl, b3⟩ hrm) ⟨hpre.1, hrecv, hpre.2⟩ rfl hn hsz hst (lv_room hcat) hd ⟨hc, hs⟩) hS (fun q _ h => hF q h) hF (fun ad H1 locs1 hfx1 hP1 hD1 hk1 hS1 => ?_)
  obtain ⟨g1, g2⟩ := lz_joinL hP hD hk1 hF hP1 hD1
  exact kk ad H1 locs1 (hfx1 0 hf0) ⟨g1, g2, hS1⟩
theorem lz_initX {σ : Type} {p : Program} {l : Launch} {e : Env} {s : State} {m : MethodId} {b : Nat} {below : List Frame} {meth : Method} {c : Code} {H : Heap} {locs : List Loc} {cells slots : Nat} {Q : State → Prop} {pc : Nat} {ls : Array Slot} {rest As st : List Value} {G : rr_G} {mt' : rr_M} {d' lo' u' v' n idx : Nat} {fx' : Nat → Bool} {rv' : σ → Option Value} {w' : σ → rr_H} {U' V' : σ → Nat} {o' : Option σ} {q' : σ} {adX adM : Nat → Nat} {hX hM : rr_H} (C : lz_C G p s m b c) (X : lz_S G adX adM s H locs hX hM) (ht : TT l G mt' d' lo' fx' rv' w' U' V' u' v' (.ref 0 :: As) hX o') (ho : o' = some q') (hb : rr_cb mt' n) (hl : Cond.methodLink RL idx mt'.1 ∈ rr_ws) (hi : Cond.instanceMethod mt'.1 ∈ rr_ws) (hy : mt'.1.name = "<init>") (hret : mt'.2.2.2 = none) (hf0 : fx' 0 = true) (hn : As.length = n) (hnr : ∀ ad : Nat → Nat, As.map (a_v ad) = As) (hrm : d' + 1 ≤ 10 ∧ 8 + (mt'.2.2.1 + 11) + lo' ≤ 368) (hcat : (rest.map fun v => v.category).sum ≤ 8) (hst : st = As.reverse ++ .ref (adX 0) :: rest) (hsz : ls.size = 4) (hd : decode code pc = .ok (.invokespecial idx, 3)) (hc : cells + (U' q' - u') ≤ 600000) (hs : slots + (V' q' - v') ≤ 7302250)
    (kk : ∀ (ad : Nat → Nat) (H1 : Heap) (locs1 : List Loc), ad 0 = adX 0 → lz_S G ad adM s H1 locs1 (w' q') hM → W p l e room_1 s m #[Value.ref b] below meth c H1 locs1 (cells + (U' q' - u')) (slots + (V' q' - v')) Q (F0 m (pc + 3) ls (((rv' q').map (a_v ad)).toList ++ rest))) : W p l e room_1 s m #[Value.ref b] below meth c H locs cells slots Q (F0 m pc ls st) := by
  obtain ⟨hx, hbb, hml, hown, hts, hK⟩ := C
  obtain ⟨hP, hD, hS⟩ := X
  obtain ⟨t1, t2, tM⟩ := ht q' ho
  have hMt := tM adX H.size
  have hP0 := lz_Pl hP
  have hD0 := lz_Dl hD
  have hF : ∀ q, va_A (a_w G.2.2 adX 0 hX) H.size q → s.heap.size ≤ q := fun q hq => hq.elim (fun ⟨i, x, hx⟩ => hD0.2 i _ hx) (fun z => Nat.le_trans hS.1 z)
  have hpre := rr_pre (av := .ref 0 :: As) hP0 hD0 hK
  rw [List.map_cons, hnr] at hpre hMt
  obtain ⟨b1, b2, b3⟩ := hb
  obtain ⟨y', cc', nL', ret'⟩ := mt'
  have hret : ret' = none := hret
  subst hret
  refine lz_run (va_runI (As := As) (rest := rest) ⟨hx, hbb, hml, hown, hts⟩ hMt (cwI n hts (rr_goodAll (y', cc', nL', none) b2) rfl rfl rfl (hts _ b1) (hts _ hl) (hts _ hi) hy b3 hrm) hpre rfl hn hsz hst (lv_room hcat) hd ⟨hc, hs⟩) hS (fun q _ h => hF q h) hF (fun ad H1 locs1 hfx1 hP1 hD1 hk1 hS1 => ?_)
  obtain ⟨g1, g2⟩ := lz_joinL hP hD hk1 hF hP1 hD1
  exact kk ad H1 locs1 (hfx1 0 hf0) ⟨g1, g2, hS1⟩
theorem lz_callM {σ : Type} {p : Program} {l : Launch} {e : Env} {s : State} {m : MethodId} {b : Nat} {below : List Frame} {meth : Method} {c : Code} {H : Heap} {locs : List Loc} {cells slots : Nat} {Q : State → Prop} {pc : Nat} {ls : Array Slot} {rest As st : List Value} {G : rr_G} {mt' : rr_M} {d' lo' u' v' n idx ci : Nat} {fx' : Nat → Bool} {rv' : σ → Option Value} {w' : σ → rr_H} {U' V' : σ → Nat} {o' : Option σ} {q' : σ} {adX adM : Nat → Nat} {hX hM : rr_H} {fs : List Value} (C : lz_C G p s m b c) (X : lz_S G adX adM s H locs hX hM) (ht : TT l G mt' d' lo' fx' rv' w' U' V' u' v' (.ref 0 :: As) hM o') (ho : o' = some q') (hk : rr_vk RL idx mt' ci n) (hl : Cond.methodLink RL idx mt'.1 ∈ rr_ws) (hobj : hM[0]? = some (some (.inr (ci, fs)))) (hf0 : fx' 0 = true) (hn : As.length = n) (hnr : ∀ ad : Nat → Nat, As.map (a_v ad) = As) (hrm : d' + 1 ≤ 10 ∧ 8 + (mt'.2.2.1 + 11) + lo' ≤ 368) (hcat : (rest.map fun v => v.category).sum ≤ 8) (hst : st = As.reverse ++ .ref (adM 0) :: rest) (hsz : ls.size = 4) (hd : decode code pc = .ok (.invokevirtual idx, 3)) (hc : cells + (U' q' - u') ≤ 600000) (hs : slots + (V' q' - v') ≤ 7302250)
    (kk : ∀ (ad : Nat → Nat) (H1 : Heap) (locs1 : List Loc), ad 0 = adM 0 → lz_S G adX ad s H1 locs1 hX (w' q') → W p l e room_1 s m #[Value.ref b] below meth c H1 locs1 (cells + (U' q' - u')) (slots + (V' q' - v')) Q (F0 m (pc + 3) ls (((rv' q').map (a_v ad)).toList ++ rest))) : W p l e room_1 s m #[Value.ref b] below meth c H locs cells slots Q (F0 m pc ls st) := by
  obtain ⟨hx, hb, hml, hown, hts, hK⟩ := C
  obtain ⟨hP, hD, hS⟩ := X
  obtain ⟨t1, t2, tM⟩ := ht q' ho
  have hMt := tM adM H.size
  have hP0 := lz_Pr hP
  have hD0 := lz_Dr hD
  have hF : ∀ q, va_A (a_w G.2.2 adM 0 hM) H.size q → s.heap.size ≤ q := fun q hq => hq.elim (fun ⟨i, x, hx⟩ => hD0.2 i _ hx) (fun z => Nat.le_trans hS.1 z)
  have hpre := rr_pre (av := .ref 0 :: As) hP0 hD0 hK
  rw [List.map_cons, hnr] at hpre hMt
  obtain ⟨⟨b1, b2, b3⟩, k2, k3, k4, T, N, k5⟩ := hk
  have hrecv := va_recv hK.1 hP0 k5 (rr_at0 hobj)
  have hl := hl
  have hG : GoodIn rr_ws (wsV RL idx mt'.1.cls mt'.1 (.code mt'.1 mt'.2.1 mt'.2.2.1 mt'.2.2.2 :: rr_ws)) := by
    intro x hx
    rcases List.mem_append.mp (show x ∈ [_, _, _, _] ++ _ from hx) with hx | hx
    · simp only [List.mem_cons, List.not_mem_nil, or_false] at hx
      rcases hx with rfl | rfl | rfl | rfl
      · exact rr_good hl
      · exact rr_good k3
      · exact rr_good k4
      · exact rr_good b1
    · exact rr_goodAll mt' b2 x hx
  refine lz_run (va_runV (C := mt'.1.cls) (As := As) (rest := rest) ⟨hx, hb, hml, hown, hts⟩ hMt (cwV n hts hG rfl rfl rfl ⟨rfl, b3⟩ hrm) ⟨hpre.1, hrecv, hpre.2⟩ rfl hn hsz hst (lv_room hcat) hd ⟨hc, hs⟩) hS (fun q _ h => hF q h) hF (fun ad H1 locs1 hfx1 hP1 hD1 hk1 hS1 => ?_)
  obtain ⟨g1, g2⟩ := lz_joinR hP hD hk1 hF hP1 hD1
  exact kk ad H1 locs1 (hfx1 0 hf0) ⟨g1, g2, hS1⟩
theorem lz_initM {σ : Type} {p : Program} {l : Launch} {e : Env} {s : State} {m : MethodId} {b : Nat} {below : List Frame} {meth : Method} {c : Code} {H : Heap} {locs : List Loc} {cells slots : Nat} {Q : State → Prop} {pc : Nat} {ls : Array Slot} {rest As st : List Value} {G : rr_G} {mt' : rr_M} {d' lo' u' v' n idx : Nat} {fx' : Nat → Bool} {rv' : σ → Option Value} {w' : σ → rr_H} {U' V' : σ → Nat} {o' : Option σ} {q' : σ} {adX adM : Nat → Nat} {hX hM : rr_H} (C : lz_C G p s m b c) (X : lz_S G adX adM s H locs hX hM) (ht : TT l G mt' d' lo' fx' rv' w' U' V' u' v' (.ref 0 :: As) hM o') (ho : o' = some q') (hb : rr_cb mt' n) (hl : Cond.methodLink RL idx mt'.1 ∈ rr_ws) (hi : Cond.instanceMethod mt'.1 ∈ rr_ws) (hy : mt'.1.name = "<init>") (hret : mt'.2.2.2 = none) (hf0 : fx' 0 = true) (hn : As.length = n) (hnr : ∀ ad : Nat → Nat, As.map (a_v ad) = As) (hrm : d' + 1 ≤ 10 ∧ 8 + (mt'.2.2.1 + 11) + lo' ≤ 368) (hcat : (rest.map fun v => v.category).sum ≤ 8) (hst : st = As.reverse ++ .ref (adM 0) :: rest) (hsz : ls.size = 4) (hd : decode code pc = .ok (.invokespecial idx, 3)) (hc : cells + (U' q' - u') ≤ 600000) (hs : slots + (V' q' - v') ≤ 7302250)
    (kk : ∀ (ad : Nat → Nat) (H1 : Heap) (locs1 : List Loc), ad 0 = adM 0 → lz_S G adX ad s H1 locs1 hX (w' q') → W p l e room_1 s m #[Value.ref b] below meth c H1 locs1 (cells + (U' q' - u')) (slots + (V' q' - v')) Q (F0 m (pc + 3) ls (((rv' q').map (a_v ad)).toList ++ rest))) : W p l e room_1 s m #[Value.ref b] below meth c H locs cells slots Q (F0 m pc ls st) := by
  obtain ⟨hx, hbb, hml, hown, hts, hK⟩ := C
  obtain ⟨hP, hD, hS⟩ := X
  obtain ⟨t1, t2, tM⟩ := ht q' ho
  have hMt := tM adM H.size
  have hP0 := lz_Pr hP
  have hD0 := lz_Dr hD
  have hF : ∀ q, va_A (a_w G.2.2 adM 0 hM) H.size q → s.heap.size ≤ q := fun q hq => hq.elim (fun ⟨i, x, hx⟩ => hD0.2 i _ hx) (fun z => Nat.le_trans hS.1 z)
  have hpre := rr_pre (av := .ref 0 :: As) hP0 hD0 hK
  rw [List.map_cons, hnr] at hpre hMt
  obtain ⟨b1, b2, b3⟩ := hb
  obtain ⟨y', cc', nL', ret'⟩ := mt'
  have hret : ret' = none := hret
  subst hret
  refine lz_run (va_runI (As := As) (rest := rest) ⟨hx, hbb, hml, hown, hts⟩ hMt (cwI n hts (rr_goodAll (y', cc', nL', none) b2) rfl rfl rfl (hts _ b1) (hts _ hl) (hts _ hi) hy b3 hrm) hpre rfl hn hsz hst (lv_room hcat) hd ⟨hc, hs⟩) hS (fun q _ h => hF q h) hF (fun ad H1 locs1 hfx1 hP1 hD1 hk1 hS1 => ?_)
  obtain ⟨g1, g2⟩ := lz_joinR hP hD hk1 hF hP1 hD1
  exact kk ad H1 locs1 (hfx1 0 hf0) ⟨g1, g2, hS1⟩
theorem li_9 : Cond.methodLink RL 9 yX10_init ∈ rr_ws ∧ Cond.instanceMethod yX10_init ∈ rr_ws := ⟨in_rr 67 (by decide +kernel) rfl, in_rr 68 (by decide +kernel) rfl⟩
theorem ll_13 : Cond.methodLink RL 13 yX10_kind ∈ rr_ws := in_rr 346 (by decide +kernel) rfl
theorem lv_13 : rr_vk RL 13 mX10_kind 10 1 := ⟨cbX10_kind, Or.inl ll_13, in_rr 347 (by decide +kernel) rfl, in_rr 348 (by decide +kernel) rfl, _, _, rfl⟩
theorem ll_18 : Cond.methodLink RL 18 yX10_field ∈ rr_ws := in_rr 378 (by decide +kernel) rfl
theorem lv_18 : rr_vk RL 18 mX10_field 10 3 := ⟨cbX10_field, Or.inl ll_18, in_rr 379 (by decide +kernel) rfl, in_rr 380 (by decide +kernel) rfl, _, _, rfl⟩
theorem ll_23 : Cond.methodLink RL 23 yX10_input ∈ rr_ws := in_rr 398 (by decide +kernel) rfl
theorem lv_23 : rr_vk RL 23 mX10_input 10 1 := ⟨cbX10_input, Or.inl ll_23, in_rr 399 (by decide +kernel) rfl, in_rr 400 (by decide +kernel) rfl, _, _, rfl⟩
theorem ll_27 : Cond.methodLink RL 27 yX10_bound ∈ rr_ws := in_rr 406 (by decide +kernel) rfl
theorem lv_27 : rr_vk RL 27 mX10_bound 10 1 := ⟨cbX10_bound, Or.inl ll_27, in_rr 407 (by decide +kernel) rfl, in_rr 408 (by decide +kernel) rfl, _, _, rfl⟩
theorem ll_31 : Cond.methodLink RL 31 yX10_rule ∈ rr_ws := in_rr 410 (by decide +kernel) rfl
theorem lv_31 : rr_vk RL 31 mX10_rule 10 4 := ⟨cbX10_rule, Or.inl ll_31, in_rr 411 (by decide +kernel) rfl, in_rr 412 (by decide +kernel) rfl, _, _, rfl⟩
theorem ll_36 : Cond.methodLink RL 36 yX10_clear ∈ rr_ws := in_rr 464 (by decide +kernel) rfl
theorem lv_36 : rr_vk RL 36 mX10_clear 10 0 := ⟨cbX10_clear, Or.inl ll_36, in_rr 465 (by decide +kernel) rfl, in_rr 466 (by decide +kernel) rfl, _, _, rfl⟩
theorem ll_41 : Cond.methodLink RL 41 yX10_about ∈ rr_ws := in_rr 479 (by decide +kernel) rfl
theorem lv_41 : rr_vk RL 41 mX10_about 10 1 := ⟨cbX10_about, Or.inl ll_41, in_rr 480 (by decide +kernel) rfl, in_rr 481 (by decide +kernel) rfl, _, _, rfl⟩
theorem ll_45 : Cond.methodLink RL 45 yX10_many ∈ rr_ws := in_rr 484 (by decide +kernel) rfl
theorem lv_45 : rr_vk RL 45 mX10_many 10 0 := ⟨cbX10_many, Or.inl ll_45, in_rr 485 (by decide +kernel) rfl, in_rr 486 (by decide +kernel) rfl, _, _, rfl⟩
theorem ll_49 : Cond.methodLink RL 49 yX10_kept ∈ rr_ws := in_rr 569 (by decide +kernel) rfl
theorem lv_49 : rr_vk RL 49 mX10_kept 10 0 := ⟨cbX10_kept, Or.inl ll_49, in_rr 570 (by decide +kernel) rfl, in_rr 571 (by decide +kernel) rfl, _, _, rfl⟩
theorem ll_53 : Cond.methodLink RL 53 yX10_choice ∈ rr_ws := in_rr 626 (by decide +kernel) rfl
theorem lv_53 : rr_vk RL 53 mX10_choice 10 2 := ⟨cbX10_choice, Or.inl ll_53, in_rr 627 (by decide +kernel) rfl, in_rr 628 (by decide +kernel) rfl, _, _, rfl⟩
theorem ll_58 : Cond.methodLink RL 58 yX10_object ∈ rr_ws := in_rr 642 (by decide +kernel) rfl
theorem lv_58 : rr_vk RL 58 mX10_object 10 3 := ⟨cbX10_object, Or.inl ll_58, in_rr 643 (by decide +kernel) rfl, in_rr 644 (by decide +kernel) rfl, _, _, rfl⟩
theorem ll_62 : Cond.methodLink RL 62 yX10_put ∈ rr_ws := in_rr 652 (by decide +kernel) rfl
theorem lv_62 : rr_vk RL 62 mX10_put 10 1 := ⟨cbX10_put, Or.inl ll_62, in_rr 653 (by decide +kernel) rfl, in_rr 654 (by decide +kernel) rfl, _, _, rfl⟩
theorem ll_66 : Cond.methodLink RL 66 yX10_empty ∈ rr_ws := in_rr 656 (by decide +kernel) rfl
theorem lv_66 : rr_vk RL 66 mX10_empty 10 0 := ⟨cbX10_empty, Or.inl ll_66, in_rr 657 (by decide +kernel) rfl, in_rr 658 (by decide +kernel) rfl, _, _, rfl⟩
theorem ll_70 : Cond.methodLink RL 70 yX10_rank ∈ rr_ws := in_rr 660 (by decide +kernel) rfl
theorem lv_70 : rr_vk RL 70 mX10_rank 10 0 := ⟨cbX10_rank, Or.inl ll_70, in_rr 661 (by decide +kernel) rfl, in_rr 662 (by decide +kernel) rfl, _, _, rfl⟩
theorem ll_74 : Cond.methodLink RL 74 yX10_step ∈ rr_ws := in_rr 680 (by decide +kernel) rfl
theorem lv_74 : rr_vk RL 74 mX10_step 10 5 := ⟨cbX10_step, Or.inl ll_74, in_rr 681 (by decide +kernel) rfl, in_rr 682 (by decide +kernel) rfl, _, _, rfl⟩
theorem ll_79 : Cond.methodLink RL 79 yX10_erase ∈ rr_ws := in_rr 718 (by decide +kernel) rfl
theorem lv_79 : rr_vk RL 79 mX10_erase 10 0 := ⟨cbX10_erase, Or.inl ll_79, in_rr 719 (by decide +kernel) rfl, in_rr 720 (by decide +kernel) rfl, _, _, rfl⟩
theorem ll_83 : Cond.methodLink RL 83 yX10_ends ∈ rr_ws := in_rr 726 (by decide +kernel) rfl
theorem lv_83 : rr_vk RL 83 mX10_ends 10 0 := ⟨cbX10_ends, Or.inl ll_83, in_rr 727 (by decide +kernel) rfl, in_rr 728 (by decide +kernel) rfl, _, _, rfl⟩
theorem ll_87 : Cond.methodLink RL 87 yX10_end ∈ rr_ws := in_rr 805 (by decide +kernel) rfl
theorem lv_87 : rr_vk RL 87 mX10_end 10 2 := ⟨cbX10_end, Or.inl ll_87, in_rr 806 (by decide +kernel) rfl, in_rr 807 (by decide +kernel) rfl, _, _, rfl⟩
theorem ll_91 : Cond.methodLink RL 91 yX10_look ∈ rr_ws := in_rr 825 (by decide +kernel) rfl
theorem lv_91 : rr_vk RL 91 mX10_look 10 2 := ⟨cbX10_look, Or.inl ll_91, in_rr 826 (by decide +kernel) rfl, in_rr 827 (by decide +kernel) rfl, _, _, rfl⟩
theorem ll_95 : Cond.methodLink RL 95 yX10_endOf ∈ rr_ws := in_rr 833 (by decide +kernel) rfl
theorem lv_95 : rr_vk RL 95 mX10_endOf 10 1 := ⟨cbX10_endOf, Or.inl ll_95, in_rr 834 (by decide +kernel) rfl, in_rr 835 (by decide +kernel) rfl, _, _, rfl⟩
theorem li_12 : Cond.methodLink RL 12 yX11_init ∈ rr_ws ∧ Cond.instanceMethod yX11_init ∈ rr_ws := ⟨in_rr 842 (by decide +kernel) rfl, in_rr 843 (by decide +kernel) rfl⟩
theorem ll_17 : Cond.methodLink RL 17 yX11_kind ∈ rr_ws := in_rr 1013 (by decide +kernel) rfl
theorem lv_17 : rr_vk RL 17 mX11_kind 11 1 := ⟨cbX11_kind, Or.inl ll_17, in_rr 1014 (by decide +kernel) rfl, in_rr 1015 (by decide +kernel) rfl, _, _, rfl⟩
theorem ll_22 : Cond.methodLink RL 22 yX11_field ∈ rr_ws := in_rr 1024 (by decide +kernel) rfl
theorem lv_22 : rr_vk RL 22 mX11_field 11 3 := ⟨cbX11_field, Or.inl ll_22, in_rr 1025 (by decide +kernel) rfl, in_rr 1026 (by decide +kernel) rfl, _, _, rfl⟩
theorem ll_26 : Cond.methodLink RL 26 yX11_input ∈ rr_ws := in_rr 1028 (by decide +kernel) rfl
theorem lv_26 : rr_vk RL 26 mX11_input 11 1 := ⟨cbX11_input, Or.inl ll_26, in_rr 1029 (by decide +kernel) rfl, in_rr 1030 (by decide +kernel) rfl, _, _, rfl⟩
theorem ll_30 : Cond.methodLink RL 30 yX11_bound ∈ rr_ws := in_rr 1032 (by decide +kernel) rfl
theorem lv_30 : rr_vk RL 30 mX11_bound 11 1 := ⟨cbX11_bound, Or.inl ll_30, in_rr 1033 (by decide +kernel) rfl, in_rr 1034 (by decide +kernel) rfl, _, _, rfl⟩
theorem ll_35 : Cond.methodLink RL 35 yX11_rule ∈ rr_ws := in_rr 1036 (by decide +kernel) rfl
theorem lv_35 : rr_vk RL 35 mX11_rule 11 4 := ⟨cbX11_rule, Or.inl ll_35, in_rr 1037 (by decide +kernel) rfl, in_rr 1038 (by decide +kernel) rfl, _, _, rfl⟩
theorem ll_40 : Cond.methodLink RL 40 yX11_clear ∈ rr_ws := in_rr 1048 (by decide +kernel) rfl
theorem lv_40 : rr_vk RL 40 mX11_clear 11 0 := ⟨cbX11_clear, Or.inl ll_40, in_rr 1049 (by decide +kernel) rfl, in_rr 1050 (by decide +kernel) rfl, _, _, rfl⟩
theorem ll_44 : Cond.methodLink RL 44 yX11_about ∈ rr_ws := in_rr 1052 (by decide +kernel) rfl
theorem lv_44 : rr_vk RL 44 mX11_about 11 1 := ⟨cbX11_about, Or.inl ll_44, in_rr 1053 (by decide +kernel) rfl, in_rr 1054 (by decide +kernel) rfl, _, _, rfl⟩
theorem ll_48 : Cond.methodLink RL 48 yX11_many ∈ rr_ws := in_rr 1056 (by decide +kernel) rfl
theorem lv_48 : rr_vk RL 48 mX11_many 11 0 := ⟨cbX11_many, Or.inl ll_48, in_rr 1057 (by decide +kernel) rfl, in_rr 1058 (by decide +kernel) rfl, _, _, rfl⟩
theorem ll_52 : Cond.methodLink RL 52 yX11_kept ∈ rr_ws := in_rr 1112 (by decide +kernel) rfl
theorem lv_52 : rr_vk RL 52 mX11_kept 11 0 := ⟨cbX11_kept, Or.inl ll_52, in_rr 1113 (by decide +kernel) rfl, in_rr 1114 (by decide +kernel) rfl, _, _, rfl⟩
theorem ll_57 : Cond.methodLink RL 57 yX11_choice ∈ rr_ws := in_rr 1116 (by decide +kernel) rfl
theorem lv_57 : rr_vk RL 57 mX11_choice 11 2 := ⟨cbX11_choice, Or.inl ll_57, in_rr 1117 (by decide +kernel) rfl, in_rr 1118 (by decide +kernel) rfl, _, _, rfl⟩
theorem ll_61 : Cond.methodLink RL 61 yX11_object ∈ rr_ws := in_rr 1120 (by decide +kernel) rfl
theorem lv_61 : rr_vk RL 61 mX11_object 11 3 := ⟨cbX11_object, Or.inl ll_61, in_rr 1121 (by decide +kernel) rfl, in_rr 1122 (by decide +kernel) rfl, _, _, rfl⟩
theorem ll_65 : Cond.methodLink RL 65 yX11_put ∈ rr_ws := in_rr 1128 (by decide +kernel) rfl
theorem lv_65 : rr_vk RL 65 mX11_put 11 1 := ⟨cbX11_put, Or.inl ll_65, in_rr 1129 (by decide +kernel) rfl, in_rr 1130 (by decide +kernel) rfl, _, _, rfl⟩
theorem ll_69 : Cond.methodLink RL 69 yX11_empty ∈ rr_ws := in_rr 1132 (by decide +kernel) rfl
theorem lv_69 : rr_vk RL 69 mX11_empty 11 0 := ⟨cbX11_empty, Or.inl ll_69, in_rr 1133 (by decide +kernel) rfl, in_rr 1134 (by decide +kernel) rfl, _, _, rfl⟩
theorem ll_73 : Cond.methodLink RL 73 yX11_rank ∈ rr_ws := in_rr 1136 (by decide +kernel) rfl
theorem lv_73 : rr_vk RL 73 mX11_rank 11 0 := ⟨cbX11_rank, Or.inl ll_73, in_rr 1137 (by decide +kernel) rfl, in_rr 1138 (by decide +kernel) rfl, _, _, rfl⟩
theorem ll_78 : Cond.methodLink RL 78 yX11_step ∈ rr_ws := in_rr 1140 (by decide +kernel) rfl
theorem lv_78 : rr_vk RL 78 mX11_step 11 5 := ⟨cbX11_step, Or.inl ll_78, in_rr 1141 (by decide +kernel) rfl, in_rr 1142 (by decide +kernel) rfl, _, _, rfl⟩
theorem ll_82 : Cond.methodLink RL 82 yX11_erase ∈ rr_ws := in_rr 1144 (by decide +kernel) rfl
theorem lv_82 : rr_vk RL 82 mX11_erase 11 0 := ⟨cbX11_erase, Or.inl ll_82, in_rr 1145 (by decide +kernel) rfl, in_rr 1146 (by decide +kernel) rfl, _, _, rfl⟩
theorem ll_86 : Cond.methodLink RL 86 yX11_ends ∈ rr_ws := in_rr 1148 (by decide +kernel) rfl
theorem lv_86 : rr_vk RL 86 mX11_ends 11 0 := ⟨cbX11_ends, Or.inl ll_86, in_rr 1149 (by decide +kernel) rfl, in_rr 1150 (by decide +kernel) rfl, _, _, rfl⟩
theorem ll_90 : Cond.methodLink RL 90 yX11_end ∈ rr_ws := in_rr 1184 (by decide +kernel) rfl
theorem lv_90 : rr_vk RL 90 mX11_end 11 2 := ⟨cbX11_end, Or.inl ll_90, in_rr 1185 (by decide +kernel) rfl, in_rr 1186 (by decide +kernel) rfl, _, _, rfl⟩
theorem ll_94 : Cond.methodLink RL 94 yX11_look ∈ rr_ws := in_rr 1188 (by decide +kernel) rfl
theorem lv_94 : rr_vk RL 94 mX11_look 11 2 := ⟨cbX11_look, Or.inl ll_94, in_rr 1189 (by decide +kernel) rfl, in_rr 1190 (by decide +kernel) rfl, _, _, rfl⟩
theorem ll_98 : Cond.methodLink RL 98 yX11_endOf ∈ rr_ws := in_rr 1192 (by decide +kernel) rfl
theorem lv_98 : rr_vk RL 98 mX11_endOf 11 1 := ⟨cbX11_endOf, Or.inl ll_98, in_rr 1193 (by decide +kernel) rfl, in_rr 1194 (by decide +kernel) rfl, _, _, rfl⟩

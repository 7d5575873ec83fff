/-! ===== calls ===== -/
section RRUN
variable {p : Program} {l : Launch} {e : Env} {R : Room} {s : State} {m : MethodId} {args : Array Value} {below : List Frame} {meth : Method} {c : Code} {H : Heap} {locs : List Loc} {cells slots : Nat} {Q : State → Prop}
variable {pc : Nat} {ls : Array Slot} {rest st0 : List Value} {a : Array Value} {A0 A1 : Nat → Prop} {H0 : Heap} {mc ms : Nat} {free : Addr → Prop}
theorem rr_run {σ : Type} {G : rr_G} {fx : Nat → Bool} {rv : σ → Option Value} {w : σ → rr_H} {q : σ} {ad0 : Nat → Nat} (hr : va_Run p l e R s m args below meth c H locs cells slots mc ms (F0 m pc ls st0) rest (rr_Q G fx rv w q ad0 A1 a) free) (hS : va_S A0 H0 H locs) (hA : ∀ q, q < H.size → A1 q → A0 q) (hf : ∀ q, free q → A0 q)
    (kk : ∀ (ad : Nat → Nat) (H1 : Heap) (locs1 : List Loc), (∀ n, fx n = true → ad n = ad0 n) → va_P (rr_D G) vwCl (a_w G.2.2 ad 0 (w q)) H1 → va_D A1 (a_w G.2.2 ad 0 (w q)) → va_S A0 H0 H1 locs1 → W p l e R s m args below meth c H1 locs1 (cells + mc) (slots + ms) Q (F0 m (pc + 3) ls (((rv q).map (a_v ad)).toList ++ rest))) : W p l e R s m args below meth c H locs cells slots Q (F0 m pc ls st0) := by
  intro T hT X
  obtain ⟨v, st₀, t, T', L, h0, X', hL, e1, e2, ⟨⟨ad, hfx, hv, hP, hK, hD⟩, hz, hk⟩, st⟩ := hr T hT X
  cases hv
  rw [h0] at hz hk
  obtain ⟨t2, a1, b1⟩ := kk ad T'.heap (locs ++ L) hfx (by rw [e1]; exact hP) hD
    ⟨Nat.le_trans hS.1 (by rw [e1]; exact hz), fun q h1 h2 => by rw [e1, hk q (Nat.lt_of_lt_of_le h1 hS.1) (fun z => h2 (hA q (Nat.lt_of_lt_of_le h1 hS.1) z))]; exact hS.2.1 q h1 h2, fun q hq => by
      rcases List.mem_append.mp hq with h | h
      · exact hS.2.2 q h
      · exact hf _ (hL q h)⟩ T' rfl X'
  exact ⟨t2, st t2 a1, b1⟩
end RRUN
theorem rr_good {x : Cond} (h : x ∈ rr_ws) : x ∈ rr_ws ∧ ((x.onTables && x.keeps) = true ∨ ∃ ty, x = .arrayClass ty) := ⟨h, good_of_word (List.mem_filter.mp h).2⟩
/-- what every call wants of the tables -/
def rr_cb (mt' : rr_M) (n : Nat) : Prop := Cond.initialized mt'.1.cls ∈ rr_ws ∧ Cond.code mt'.1 mt'.2.1 mt'.2.2.1 mt'.2.2.2 ∈ rr_ws ∧ (mt'.1.cls ≠ "java/lang/invoke/MethodHandle" ∧ mt'.1.cls ≠ "java/lang/invoke/VarHandle" ∧ (parseMethodDescriptor mt'.1.desc).map (fun d => d.parameters.length) = some n)
/-- the link: the class's own, or a nest mate's -/
def rr_ml (own : String) (idx : Nat) (y : MethodName) : Prop := Cond.methodLink own idx y ∈ rr_ws ∨ ∃ host, Cond.methodLinkNest own idx y host ∈ rr_ns
theorem rr_goodAll (mt' : rr_M) (h : Cond.code mt'.1 mt'.2.1 mt'.2.2.1 mt'.2.2.2 ∈ rr_ws) : GoodIn rr_ws (.code mt'.1 mt'.2.1 mt'.2.2.1 mt'.2.2.2 :: rr_ws) := fun x hx => (List.mem_cons.mp hx).elim (fun e => by rw [e]; exact rr_good h) rr_good
section RCALL2
variable {σ σ' : Type} {l : Launch} {G : rr_G} {mt mt' : rr_M} {d lo : Nat} {fx fx' : Nat → Bool} {rv : σ → Option Value} {rv' : σ' → Option Value} {w : σ → rr_H} {w' : σ' → rr_H} {U V : σ → Nat} {U' V' : σ' → Nat} {uu vv u' v' d' lo' n idx pc : Nat} {lv : List (Nat × Value)} {st As rest : List Value} {h : rr_H} {o' : Option σ'} {k : σ' → Option σ}
/-- behind a call: the world is the callee's end, the locals and operands are fixed names or numbers -/
theorem rr_back {q : σ} {q' : σ'} {p : Program} {e : Env} {s : State} {m : MethodId} {args a : Array Value} {below : List Frame} {meth : Method} {c : Code} {ad0 ad : Nat → Nat} {A : Nat → Prop} {H : Heap} {locs : List Loc} {cells slots mc ms : Nat} {ls : Array Slot} {st0 : List Value}
    (hr : va_Run p l e { frames := d, cells := mc, slots := ms, locals := lo } s m args below meth c H locs cells slots (U' q' - u') (V' q' - v') (F0 m pc ls st0) (rest.map (a_v ad)) (rr_Q G fx' rv' w' q' ad (va_A (a_w G.2.2 ad 0 h) H.size) a) (va_A (a_w G.2.2 ad 0 h) H.size))
    (C : rr_C G mt p s m args meth c) (X : rr_S G fx ad0 ad A s H locs h) (L : lv_has ls mt.2.2.1 (rr_L ad lv)) (hcc : cells + (U q - uu) ≤ mc) (hs : slots + (V q - vv) ≤ ms) (hfx : ∀ n, fx n = true → fx' n = true) (hlv : lv.all (fun q => rr_fx fx' q.2) = true) (hrs : rest.all (rr_fx fx') = true) (hq : k q' = some q)
    (kk : RR l G mt d lo fx rv w U V (uu + (U' q' - u')) (vv + (V' q' - v')) (pc + 3) lv ((rv' q').toList ++ rest) (w' q') (k q')) : W p l e { frames := d, cells := mc, slots := ms, locals := lo } s m args below meth c H locs cells slots (MQ below (rr_Q G fx rv w q ad0 A) args s mc ms A) (F0 m pc ls st0) := by
  obtain ⟨hP, hD, hS, hA, hf⟩ := X
  obtain ⟨k1, k2, K0⟩ := kk q hq
  have hF : ∀ q, va_A (a_w G.2.2 ad 0 h) H.size q → A q := fun q hq => hq.elim (fun ⟨i, x, hx⟩ => hD.2 i _ hx) (fun z => hA q (Nat.le_trans hS.1 z))
  refine rr_run hr hS (fun q _ h => hF q h) hF (fun ad1 H1 locs1 hfx1 hP1 hD1 hS1 => ?_)
  have pv : ∀ v : Value, rr_fx fx' v = true → a_v ad1 v = a_v ad v := fun v hv => a_v_congr (fun k e => by subst e; exact hfx1 k hv)
  have e1 : rr_L ad1 lv = rr_L ad lv := rr_L_congr (fun q hq => pv _ (List.all_eq_true.mp hlv q hq))
  have e2 : rest.map (a_v ad1) = rest.map (a_v ad) := List.map_congr_left (fun v hv => pv v (List.all_eq_true.mp hrs v hv))
  have K := K0 p e s m args below meth c ad0 ad1 A H1 locs1 (cells + (U' q' - u')) (slots + (V' q' - v')) mc ms ls C ⟨hP1, hD1.weaken (fun _ q _ z => hF q.1 z), hS1, hA, fun n hn => (hfx1 n (hfx n hn)).trans (hf n hn)⟩ (by rw [e1]; exact L) (by omega) (by omega)
  rw [List.map_append, e2] at K
  have e3 : ((rv' q').toList).map (a_v ad1) = ((rv' q').map (a_v ad1)).toList := by cases rv' q' <;> rfl
  rw [e3] at K
  exact K
/-- the callee's start, from the caller's world -/
theorem rr_pre {ad : Nat → Nat} {H : Heap} {s : State} {A : Nat → Prop} {av : List Value} (hP : va_P (rr_D G) vwCl (a_w G.2.2 ad 0 h) H) (hD : va_D A (a_w G.2.2 ad 0 h)) (hK : rr_K G s) : PreS s H (va_Pc (av.map (a_v ad)) (fun U => U.heap.size = H.size ∧ va_P (rr_D G) vwCl (a_w G.2.2 ad 0 h) U.heap ∧ rr_K G U ∧ va_D (fun _ => True) (a_w G.2.2 ad 0 h))) (av.map (a_v ad)) :=
  ⟨fun a U g mk z => by obtain ⟨z0, z1, zP, zK, zD⟩ := z; exact ⟨z0, z1, zP, rr_K.moved (s := U) (U := U.calling g mk a) (State.WarmedH.refl U) zK, zD⟩, fun U hU hW => ⟨rfl, by rw [hU], by rw [hU]; exact hP, rr_K.moved hW hK, hD.weaken (fun _ _ _ _ => trivial)⟩⟩
theorem rr_callV {b ci N : Nat} {T : u_T} {fs : List Value} (ht : TT l G mt' d' lo' fx' rv' w' U' V' u' v' (.ref b :: As) h o') (hb : rr_cb mt' n) (hl : rr_ml mt.1.cls idx mt'.1) (hi : Cond.instanceMethod mt'.1 ∈ rr_ws) (hse : Cond.selects mt'.1.cls mt'.1 mt'.1 ∈ rr_ws) (hc : vwCl[ci]? = some (mt'.1.cls, T, N)) (hobj : h[b]? = some (some (.inr (ci, fs)))) (hn : As.length = n) (hrm : d' + 1 ≤ d ∧ 8 + (mt'.2.2.1 + 11) + lo' ≤ lo) (hfx : ∀ n, fx n = true → fx' n = true) (hlv : lv.all (fun q => rr_fx fx' q.2) = true) (hrs : rest.all (rr_fx fx') = true) (hcat : (rest.map fun v => v.category).sum ≤ 8) (hst : st = As.reverse ++ .ref b :: rest) (hd : decode mt.2.1 pc = .ok (.invokevirtual idx, 3))
    (kk : ∀ q', o' = some q' → RR l G mt d lo fx rv w U V (uu + (U' q' - u')) (vv + (V' q' - v')) (pc + 3) lv ((rv' q').toList ++ rest) (w' q') (k q')) : RR l G mt d lo fx rv w U V uu vv pc lv st h (o'.bind k) := by
  intro q ho
  cases hq : o' with
  | none => rw [hq] at ho; cases ho
  | some q' =>
    rw [hq] at ho
    obtain ⟨t1, t2, tM⟩ := ht q' hq
    have kk := kk q' hq
    obtain ⟨k1, k2, -⟩ := kk q ho
    refine ⟨by omega, by omega, ?_⟩
    intro p e s m args below meth c ad0 ad A H locs cells slots mc ms ls C X L hcc hs
    have X0 := X
    obtain ⟨hP, hD, hS, hA, hf⟩ := X
    have C0 := C
    obtain ⟨hx, hbb, hml, hown, hts, hr, hlo, hnm, hK⟩ := C
    obtain ⟨b1, b2, b3⟩ := hb
    have hM := tM ad H.size
    have hcat' : ((rest.map (a_v ad)).map fun v => v.category).sum ≤ 8 := by rw [List.map_map]; simpa [Function.comp_def, a_v_cat] using hcat
    have hst' : st.map (a_v ad) = (As.map (a_v ad)).reverse ++ .ref (ad b) :: rest.map (a_v ad) := by rw [hst, List.map_append, List.map_reverse]; rfl
    have hpre := rr_pre (av := .ref b :: As) hP hD hK
    have hrecv := va_recv hK.1 hP hc (rr_at0 hobj)
    rcases hl with hl | ⟨host, hl⟩
    · refine rr_back (va_runV (C := mt'.1.cls) (As := As.map (a_v ad)) (rest := rest.map (a_v ad)) ⟨hx, hbb, hml, hown, hts⟩ hM (cwV n hts ?_ rfl rfl rfl ⟨rfl, b3⟩ hrm) ⟨hpre.1, hrecv, hpre.2⟩ rfl (by rw [List.length_map]; exact hn) L.1 hst' (lv_room hcat') hd ⟨by show cells + _ ≤ mc; omega, by show slots + _ ≤ ms; omega⟩) C0 X0 L hcc hs hfx hlv hrs ho kk
      intro x hx
      rcases List.mem_append.mp (show x ∈ [_, _, _, _] ++ _ from hx) with hx | hx
      · simp only [List.mem_cons, List.not_mem_nil, or_false] at hx
        rcases hx with rfl | rfl | rfl | rfl
        · exact rr_good hl
        · exact rr_good hi
        · exact rr_good hse
        · exact rr_good b1
      · exact rr_goodAll mt' b2 x hx
    · exact rr_back (va_runVN (C := mt'.1.cls) (As := As.map (a_v ad)) (rest := rest.map (a_v ad)) ⟨hx, hbb, hml, hown, hts⟩ hM ⟨va_cnB n hts (rr_goodAll mt' b2) rfl rfl rfl (hK.2 _ hl) (hts _ b1) b3 hrm, hts _ hi, hts _ hse⟩ ⟨hpre.1, hrecv, hpre.2⟩ rfl (by rw [List.length_map]; exact hn) L.1 hst' (lv_room hcat') hd ⟨by show cells + _ ≤ mc; omega, by show slots + _ ≤ ms; omega⟩) C0 X0 L hcc hs hfx hlv hrs ho kk
theorem rr_callI {b : Nat} (ht : TT l G mt' d' lo' fx' rv' w' U' V' u' v' (.ref b :: As) h o') (hb : rr_cb mt' n) (hl : rr_ml mt.1.cls idx mt'.1) (hi : Cond.instanceMethod mt'.1 ∈ rr_ws) (hy : mt'.1.name = "<init>") (hret : mt'.2.2.2 = none) (hn : As.length = n) (hrm : d' + 1 ≤ d ∧ 8 + (mt'.2.2.1 + 11) + lo' ≤ lo) (hfx : ∀ n, fx n = true → fx' n = true) (hlv : lv.all (fun q => rr_fx fx' q.2) = true) (hrs : rest.all (rr_fx fx') = true) (hcat : (rest.map fun v => v.category).sum ≤ 8) (hst : st = As.reverse ++ .ref b :: rest) (hd : decode mt.2.1 pc = .ok (.invokespecial idx, 3))
    (kk : ∀ q', o' = some q' → RR l G mt d lo fx rv w U V (uu + (U' q' - u')) (vv + (V' q' - v')) (pc + 3) lv ((rv' q').toList ++ rest) (w' q') (k q')) : RR l G mt d lo fx rv w U V uu vv pc lv st h (o'.bind k) := by
  intro q ho
  cases hq : o' with
  | none => rw [hq] at ho; cases ho
  | some q' =>
    rw [hq] at ho
    obtain ⟨t1, t2, tM⟩ := ht q' hq
    have kk := kk q' hq
    obtain ⟨k1, k2, -⟩ := kk q ho
    refine ⟨by omega, by omega, ?_⟩
    intro p e s m args below meth c ad0 ad A H locs cells slots mc ms ls C X L hcc hs
    have X0 := X
    obtain ⟨hP, hD, hS, hA, hf⟩ := X
    have C0 := C
    obtain ⟨hx, hbb, hml, hown, hts, hr, hlo, hnm, hK⟩ := C
    obtain ⟨b1, b2, b3⟩ := hb
    obtain ⟨y', cc', nL', ret'⟩ := mt'
    have hret : ret' = none := hret
    subst hret
    have hM := tM ad H.size
    have hcat' : ((rest.map (a_v ad)).map fun v => v.category).sum ≤ 8 := by rw [List.map_map]; simpa [Function.comp_def, a_v_cat] using hcat
    have hst' : st.map (a_v ad) = (As.map (a_v ad)).reverse ++ .ref (ad b) :: rest.map (a_v ad) := by rw [hst, List.map_append, List.map_reverse]; rfl
    have hpre := rr_pre (av := .ref b :: As) hP hD hK
    rcases hl with hl | ⟨host, hl⟩
    · exact rr_back (va_runI (As := As.map (a_v ad)) (rest := rest.map (a_v ad)) ⟨hx, hbb, hml, hown, hts⟩ hM (cwI n hts (rr_goodAll (y', cc', nL', none) b2) rfl rfl rfl (hts _ b1) (hts _ hl) (hts _ hi) hy b3 hrm) hpre rfl (by rw [List.length_map]; exact hn) L.1 hst' (lv_room hcat') hd ⟨by show cells + _ ≤ mc; omega, by show slots + _ ≤ ms; omega⟩) C0 X0 L hcc hs hfx hlv hrs ho kk
    · exact rr_back (va_runIN (As := As.map (a_v ad)) (rest := rest.map (a_v ad)) ⟨hx, hbb, hml, hown, hts⟩ hM ⟨va_cnB n hts (rr_goodAll (y', cc', nL', none) b2) rfl rfl rfl (hK.2 _ hl) (hts _ b1) b3 hrm, hy, hts _ hi⟩ hpre rfl (by rw [List.length_map]; exact hn) L.1 hst' (lv_room hcat') hd ⟨by show cells + _ ≤ mc; omega, by show slots + _ ≤ ms; omega⟩) C0 X0 L hcc hs hfx hlv hrs ho kk
theorem rr_callS (ht : TT l G mt' d' lo' fx' rv' w' U' V' u' v' As h o') (hb : rr_cb mt' n) (hl : rr_ml mt.1.cls idx mt'.1) (hi : Cond.static mt'.1 ∈ rr_ws) (hn : As.length = n) (hrm : d' + 1 ≤ d ∧ 8 + (mt'.2.2.1 + 11) + lo' ≤ lo) (hfx : ∀ n, fx n = true → fx' n = true) (hlv : lv.all (fun q => rr_fx fx' q.2) = true) (hrs : rest.all (rr_fx fx') = true) (hcat : (rest.map fun v => v.category).sum ≤ 8) (hst : st = As.reverse ++ rest) (hd : decode mt.2.1 pc = .ok (.invokestatic idx, 3))
    (kk : ∀ q', o' = some q' → RR l G mt d lo fx rv w U V (uu + (U' q' - u')) (vv + (V' q' - v')) (pc + 3) lv ((rv' q').toList ++ rest) (w' q') (k q')) : RR l G mt d lo fx rv w U V uu vv pc lv st h (o'.bind k) := by
  intro q ho
  cases hq : o' with
  | none => rw [hq] at ho; cases ho
  | some q' =>
    rw [hq] at ho
    obtain ⟨t1, t2, tM⟩ := ht q' hq
    have kk := kk q' hq
    obtain ⟨k1, k2, -⟩ := kk q ho
    refine ⟨by omega, by omega, ?_⟩
    intro p e s m args below meth c ad0 ad A H locs cells slots mc ms ls C X L hcc hs
    have X0 := X
    obtain ⟨hP, hD, hS, hA, hf⟩ := X
    have C0 := C
    obtain ⟨hx, hbb, hml, hown, hts, hr, hlo, hnm, hK⟩ := C
    obtain ⟨b1, b2, b3⟩ := hb
    have hM := tM ad H.size
    have hcat' : ((rest.map (a_v ad)).map fun v => v.category).sum ≤ 8 := by rw [List.map_map]; simpa [Function.comp_def, a_v_cat] using hcat
    have hst' : st.map (a_v ad) = (As.map (a_v ad)).reverse ++ rest.map (a_v ad) := by rw [hst, List.map_append, List.map_reverse]
    have hpre := rr_pre (av := As) hP hD hK
    rcases hl with hl | ⟨host, hl⟩
    · exact rr_back (va_runS (As := As.map (a_v ad)) (rest := rest.map (a_v ad)) ⟨hx, hbb, hml, hown, hts⟩ hM ⟨callB_of n hts (rr_goodAll mt' b2) rfl rfl rfl (hts _ b1) (hts _ hl) b3 hrm, hts _ hi⟩ hpre rfl (by rw [List.length_map]; exact hn) L.1 hst' (lv_room hcat') hd ⟨by show cells + _ ≤ mc; omega, by show slots + _ ≤ ms; omega⟩) C0 X0 L hcc hs hfx hlv hrs ho kk
    · exact rr_back (va_runSN (As := As.map (a_v ad)) (rest := rest.map (a_v ad)) ⟨hx, hbb, hml, hown, hts⟩ hM ⟨va_cnB n hts (rr_goodAll mt' b2) rfl rfl rfl (hK.2 _ hl) (hts _ b1) b3 hrm, hts _ hi, trivial⟩ hpre rfl (by rw [List.length_map]; exact hn) L.1 hst' (lv_room hcat') hd ⟨by show cells + _ ≤ mc; omega, by show slots + _ ≤ ms; omega⟩) C0 X0 L hcc hs hfx hlv hrs ho kk
end RCALL2

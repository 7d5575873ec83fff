/-! ===== rows that read and write the world ===== -/
section RHEAP
variable {σ : Type} {l : Launch} {G : rr_G} {mt : rr_M} {d lo : Nat} {fx : Nat → Bool} {rv : σ → Option Value} {w : σ → rr_H} {U V : σ → Nat} {uu vv pc : Nat} {lv : List (Nat × Value)} {st : List Value} {h : rr_H} {o : Option σ}
theorem rr_at0 {cy : Nat → ClassId} {ad : Nat → Nat} {n : Nat} {c : va_E} (hc : h[n]? = some (some c)) : (a_w cy ad 0 h)[a_k h n]? = some (ad n, a_c cy ad c) := by
  have := a_w_at cy ad h 0 n c hc
  rwa [Nat.zero_add] at this
theorem rr_set0 {cy : Nat → ClassId} {ad : Nat → Nat} {n : Nat} {c : va_E} (c' : va_E) (hc : h[n]? = some (some c)) : (a_w cy ad 0 h).set (a_k h n) (ad n, a_c cy ad c') = a_w cy ad 0 (h.set n (some c')) := by
  have := a_w_set cy ad c' h 0 n c hc
  rwa [Nat.zero_add] at this
/-- what a field's row wants of the tables: the class's own link, or a nest mate's -/
def rr_lk (own : String) (idx : Nat) (C : String) (T : u_T) (k : Nat) : Prop := Cond.fieldLink own idx C (T k).2.1 (T k).2.2.1 ∈ rr_ws ∨ ∃ host, Cond.fieldLinkNest own idx C (T k).2.1 (T k).2.2.1 host ∈ rr_ns
/-- what the tables say of class ci -/
def rr_cl (ci : Nat) (C : String) (T : u_T) (N : Nat) (ty : Nat → FieldType) : Prop := vwCl[ci]? = some (C, T, N) ∧ (∀ w ∈ u_ws C T N, w ∈ rr_ws) ∧ (∀ k, k < N → parseFieldDescriptor (T k).2.2.1 = some (ty k)) ∧ (∀ a, a < N → ∀ b, b < N → a ≠ b → (T a).2.1 ≠ (T b).2.1) ∧ ∀ k, k < N → (T k).1 = C
theorem rr_get {ci N idx n k : Nat} {C : String} {T : u_T} {ty : Nat → FieldType} {fs : List Value} {v : Value} (hc : rr_cl ci C T N ty) (hlk : rr_lk mt.1.cls idx C T k) (hk : k < N) (hn : h[n]? = some (some (.inr (ci, fs)))) (hv : fs[k]? = some v) (hd : decode mt.2.1 pc = .ok (.getfield idx, 3)) (kk : RR l G mt d lo fx rv w U V uu vv (pc + 3) lv (v :: st) h o) : RR l G mt d lo fx rv w U V uu vv pc lv (.ref n :: st) h o := by
  intro q ho
  obtain ⟨k1, k2, K0⟩ := kk q ho
  refine ⟨k1, k2, ?_⟩
  intro p e s m args below meth c ad0 ad A H locs cells slots mc ms ls C X L hcc hs
  have K := K0 p e s m args below meth c ad0 ad A H locs cells slots mc ms ls C X L hcc hs
  obtain ⟨hP, hD, hS, hA, hf⟩ := X
  obtain ⟨hx, hb, hml, hown, hts, hr, hlo, hnm, hK⟩ := C
  obtain ⟨c1, c2, c3, c4, c5⟩ := hc
  have hv' : (fs.map (a_v ad))[k]? = some (a_v ad v) := by rw [List.getElem?_map, hv]; rfl
  rcases hlk with hl | ⟨host, hl⟩
  · exact va_get (D := rr_D G) (ci := ci) hx hb hts c2 hown hK.1 hP _ (rr_at0 hn) c1 k hk (hts _ hl) (fun x hx => by rw [c5 k hk] at hx; exact hx) hv' hd K
  · exact va_getN (D := rr_D G) (ci := ci) hx hb hts c2 hown hK.1 hP _ (rr_at0 hn) c1 k hk (va_Nw.use rfl (hK.2 _ hl)) (fun x hx => by rw [c5 k hk] at hx; exact hx) hv' hd K
theorem rr_nar (ad : Nat → Nat) {ty : FieldType} {v : Value} (h : narrow ty v = v) : narrow ty (a_v ad v) = a_v ad v := by
  cases v <;> first | exact h | (cases ty <;> rfl)
theorem rr_fits (ad : Nat → Nat) {ty : FieldType} {v : Value} (h : fits ty v = true) : fits ty (a_v ad v) = true := by
  cases v <;> first | exact h | (cases ty <;> first | exact h | rfl)
theorem rr_put {ci N idx n k : Nat} {C : String} {T : u_T} {ty : Nat → FieldType} {fs : List Value} {v : Value} (hc : rr_cl ci C T N ty) (hlk : rr_lk mt.1.cls idx C T k) (hk : k < N) (hn : h[n]? = some (some (.inr (ci, fs)))) (hfin : (T k).2.2.2 = false) (hnr : narrow (ty k) v = v) (hft : fits (ty k) v = true) (hlen : k < fs.length) (hd : decode mt.2.1 pc = .ok (.putfield idx, 3)) {h' : rr_H} (hh : h.set n (some (.inr (ci, fs.set k v))) = h') (kk : RR l G mt d lo fx rv w U V uu vv (pc + 3) lv st h' o) : RR l G mt d lo fx rv w U V uu vv pc lv (v :: .ref n :: st) h o := by
  intro q ho
  obtain ⟨k1, k2, K0⟩ := kk q ho
  refine ⟨k1, k2, ?_⟩
  intro p e s m args below meth c ad0 ad A H locs cells slots mc ms ls C X L hcc hs
  obtain ⟨hP, hD, hS, hA, hf⟩ := X
  have hC := C
  obtain ⟨hx, hb, hml, hown, hts, hr, hlo, hnm, hK⟩ := C
  obtain ⟨c1, c2, c3, c4, c5⟩ := hc
  have e1 : (a_w G.2.2 ad 0 h).set (a_k h n) (ad n, .inr (ci, (fs.map (a_v ad)).set k (a_v ad v))) = a_w G.2.2 ad 0 h' := by
    rw [← hh, ← rr_set0 (.inr (ci, fs.set k v)) hn]
    simp only [a_c, List.map_set]
  have fin : ∀ (H1 : Heap) (locs1 : List Loc), va_P (rr_D G) vwCl ((a_w G.2.2 ad 0 h).set (a_k h n) (ad n, .inr (ci, (fs.map (a_v ad)).set k (a_v ad v)))) H1 → va_D A ((a_w G.2.2 ad 0 h).set (a_k h n) (ad n, .inr (ci, (fs.map (a_v ad)).set k (a_v ad v)))) → va_S A s.heap H1 locs1 → W p l e { frames := d, cells := mc, slots := ms, locals := lo } s m args below meth c H1 locs1 cells slots (MQ below (rr_Q G fx rv w q ad0 A) args s mc ms A) (F0 m (pc + 3) ls (st.map (a_v ad))) := by
    intro H1 locs1 hP1 hD1 hS1
    rw [e1] at hP1 hD1
    exact K0 p e s m args below meth c ad0 ad A H1 locs1 cells slots mc ms ls hC ⟨hP1, hD1, hS1, hA, hf⟩ L hcc hs
  rcases hlk with hl | ⟨host, hl⟩
  · exact va_put (D := rr_D G) (ci := ci) (ty := ty k) hx hb hts c2 ty c3 c4 hown hK.1 hP hD hS _ (rr_at0 hn) c1 k hk (hts _ hl) (fun x hx => by rw [c5 k hk] at hx; exact hx) hfin (c3 k hk) (rr_nar ad hnr) (rr_fits ad hft) (by rw [List.length_map]; exact hlen) hd fin
  · exact va_putN (D := rr_D G) (ci := ci) (ty := ty k) hx hb hts c2 ty c3 c4 hown hK.1 hP hD hS _ (rr_at0 hn) c1 k hk (va_Nw.use rfl (hK.2 _ hl)) (fun x hx => by rw [c5 k hk] at hx; exact hx) hfin (c3 k hk) (rr_nar ad hnr) (rr_fits ad hft) (by rw [List.length_map]; exact hlen) hd fin
/-- a final field, in the constructor of its class -/
theorem rr_putF {ci N idx n k : Nat} {C : String} {T : u_T} {ty : Nat → FieldType} {fs : List Value} {v : Value} (hc : rr_cl ci C T N ty) (hlk : Cond.fieldLink mt.1.cls idx C (T k).2.1 (T k).2.2.1 ∈ rr_ws) (hk : k < N) (hn : h[n]? = some (some (.inr (ci, fs)))) (hfin : (T k).2.2.2 = true) (hin : mt.1.name = "<init>") (hdc : C = mt.1.cls) (hnr : narrow (ty k) v = v) (hft : fits (ty k) v = true) (hlen : k < fs.length) (hd : decode mt.2.1 pc = .ok (.putfield idx, 3)) {h' : rr_H} (hh : h.set n (some (.inr (ci, fs.set k v))) = h') (kk : RR l G mt d lo fx rv w U V uu vv (pc + 3) lv st h' o) : RR l G mt d lo fx rv w U V uu vv pc lv (v :: .ref n :: st) h o := by
  intro q ho
  obtain ⟨k1, k2, K0⟩ := kk q ho
  refine ⟨k1, k2, ?_⟩
  intro p e s m args below meth c ad0 ad A H locs cells slots mc ms ls C X L hcc hs
  obtain ⟨hP, hD, hS, hA, hf⟩ := X
  have hC := C
  obtain ⟨hx, hb, hml, hown, hts, hr, hlo, hnm, hK⟩ := C
  obtain ⟨c1, c2, c3, c4, c5⟩ := hc
  have e1 : (a_w G.2.2 ad 0 h).set (a_k h n) (ad n, .inr (ci, (fs.map (a_v ad)).set k (a_v ad v))) = a_w G.2.2 ad 0 h' := by
    rw [← hh, ← rr_set0 (.inr (ci, fs.set k v)) hn]
    simp only [a_c, List.map_set]
  refine va_putF (D := rr_D G) (ci := ci) (ty := ty k) hx hb hts c2 ty c3 c4 hown hK.1 hP hD hS _ (rr_at0 hn) c1 k hk (hts _ hlk) (fun x hx => by rw [c5 k hk] at hx; exact hx) hfin (hnm.trans hin) ((c5 k hk).trans hdc) (c3 k hk) (rr_nar ad hnr) (rr_fits ad hft) (by rw [List.length_map]; exact hlen) hd (fun H1 locs1 hP1 hD1 hS1 => ?_)
  rw [e1] at hP1 hD1
  exact K0 p e s m args below meth c ad0 ad A H1 locs1 cells slots mc ms ls hC ⟨hP1, hD1, hS1, hA, hf⟩ L hcc hs
/-! arrays: t is the array's sort, as in rr_tys -/
theorem rr_iald {n len : Nat} {f : Nat → Int32} {i : Int32} (hn : h[n]? = some (some (.inl (0, len, .inl f)))) (hin : vp_in i len) (hd : decode mt.2.1 pc = .ok (.iaload, 1)) (kk : RR l G mt d lo fx rv w U V uu vv (pc + 1) lv (.int (f i.toNatClampNeg) :: st) h o) : RR l G mt d lo fx rv w U V uu vv pc lv (.int i :: .ref n :: st) h o := by
  intro q ho
  obtain ⟨k1, k2, K0⟩ := kk q ho
  refine ⟨k1, k2, ?_⟩
  intro p e s m args below meth c ad0 ad A H locs cells slots mc ms ls C X L hcc hs
  have K := K0 p e s m args below meth c ad0 ad A H locs cells slots mc ms ls C X L hcc hs
  exact va_iald C.1 C.2.1 C.2.2.2.2.2.2.2.2.1 X.1 _ 0 (rr_at0 hn) rfl hin hd K
theorem rr_lald {n len : Nat} {f : Nat → Int64} {i : Int32} (hn : h[n]? = some (some (.inl (1, len, .inr (.inl f))))) (hin : vp_in i len) (hd : decode mt.2.1 pc = .ok (.laload, 1)) (kk : RR l G mt d lo fx rv w U V uu vv (pc + 1) lv (.long (f i.toNatClampNeg) :: st) h o) : RR l G mt d lo fx rv w U V uu vv pc lv (.int i :: .ref n :: st) h o := by
  intro q ho
  obtain ⟨k1, k2, K0⟩ := kk q ho
  refine ⟨k1, k2, ?_⟩
  intro p e s m args below meth c ad0 ad A H locs cells slots mc ms ls C X L hcc hs
  have K := K0 p e s m args below meth c ad0 ad A H locs cells slots mc ms ls C X L hcc hs
  exact va_lald C.1 C.2.1 C.2.2.2.2.2.2.2.2.1 X.1 _ 1 (rr_at0 hn) rfl hin hd K
theorem rr_bald {n len : Nat} {f : Nat → Int32} {i : Int32} (hn : h[n]? = some (some (.inl (2, len, .inl f)))) (hin : vp_in i len) (hd : decode mt.2.1 pc = .ok (.baload, 1)) (kk : RR l G mt d lo fx rv w U V uu vv (pc + 1) lv (.int (f i.toNatClampNeg) :: st) h o) : RR l G mt d lo fx rv w U V uu vv pc lv (.int i :: .ref n :: st) h o := by
  intro q ho
  obtain ⟨k1, k2, K0⟩ := kk q ho
  refine ⟨k1, k2, ?_⟩
  intro p e s m args below meth c ad0 ad A H locs cells slots mc ms ls C X L hcc hs
  have K := K0 p e s m args below meth c ad0 ad A H locs cells slots mc ms ls C X L hcc hs
  exact va_bald C.1 C.2.1 C.2.2.2.2.2.2.2.2.1 X.1 _ 2 (rr_at0 hn) rfl hin hd K
theorem rr_zald {n len : Nat} {f : Nat → Int32} {i : Int32} (hn : h[n]? = some (some (.inl (3, len, .inl f)))) (hin : vp_in i len) (hd : decode mt.2.1 pc = .ok (.baload, 1)) (kk : RR l G mt d lo fx rv w U V uu vv (pc + 1) lv (.int (f i.toNatClampNeg) :: st) h o) : RR l G mt d lo fx rv w U V uu vv pc lv (.int i :: .ref n :: st) h o := by
  intro q ho
  obtain ⟨k1, k2, K0⟩ := kk q ho
  refine ⟨k1, k2, ?_⟩
  intro p e s m args below meth c ad0 ad A H locs cells slots mc ms ls C X L hcc hs
  have K := K0 p e s m args below meth c ad0 ad A H locs cells slots mc ms ls C X L hcc hs
  exact va_zald C.1 C.2.1 C.2.2.2.2.2.2.2.2.1 X.1 _ 3 (rr_at0 hn) rfl hin hd K
theorem rr_aald {n len t : Nat} {f : Nat → Option Nat} {i : Int32} (ht : t = 4 ∨ t = 5) {x : Nat} (hn : h[n]? = some (some (.inl (t, len, .inr (.inr (.inr (.inr f))))))) (hin : vp_in i len) (hx : f i.toNatClampNeg = some x) (hd : decode mt.2.1 pc = .ok (.aaload, 1)) (kk : RR l G mt d lo fx rv w U V uu vv (pc + 1) lv (.ref x :: st) h o) : RR l G mt d lo fx rv w U V uu vv pc lv (.int i :: .ref n :: st) h o := by
  intro q ho
  obtain ⟨k1, k2, K0⟩ := kk q ho
  refine ⟨k1, k2, ?_⟩
  intro p e s m args below meth c ad0 ad A H locs cells slots mc ms ls C X L hcc hs
  have K := K0 p e s m args below meth c ad0 ad A H locs cells slots mc ms ls C X L hcc hs
  rcases ht with rfl | rfl
  · refine va_aldq C.1 C.2.1 C.2.2.2.2.2.2.2.2.1 X.1 _ 4 (rr_at0 hn) rfl hin hd ?_
    rw [hx]; exact K
  · refine va_aldq C.1 C.2.1 C.2.2.2.2.2.2.2.2.1 X.1 _ 5 (rr_at0 hn) rfl hin hd ?_
    rw [hx]; exact K
theorem rr_aaldN {n len t : Nat} {f : Nat → Option Nat} {i : Int32} (ht : t = 4 ∨ t = 5) (hn : h[n]? = some (some (.inl (t, len, .inr (.inr (.inr (.inr f))))))) (hin : vp_in i len) (hx : f i.toNatClampNeg = none) (hd : decode mt.2.1 pc = .ok (.aaload, 1)) (kk : RR l G mt d lo fx rv w U V uu vv (pc + 1) lv (.null :: st) h o) : RR l G mt d lo fx rv w U V uu vv pc lv (.int i :: .ref n :: st) h o := by
  intro q ho
  obtain ⟨k1, k2, K0⟩ := kk q ho
  refine ⟨k1, k2, ?_⟩
  intro p e s m args below meth c ad0 ad A H locs cells slots mc ms ls C X L hcc hs
  have K := K0 p e s m args below meth c ad0 ad A H locs cells slots mc ms ls C X L hcc hs
  rcases ht with rfl | rfl
  · refine va_aldq C.1 C.2.1 C.2.2.2.2.2.2.2.2.1 X.1 _ 4 (rr_at0 hn) rfl hin hd ?_
    rw [hx]; exact K
  · refine va_aldq C.1 C.2.1 C.2.2.2.2.2.2.2.2.1 X.1 _ 5 (rr_at0 hn) rfl hin hd ?_
    rw [hx]; exact K
theorem rr_alen {n t len : Nat} {x : (Nat → Int32) ⊕ (Nat → Int64) ⊕ (Nat → UInt32) ⊕ (Nat → UInt64) ⊕ (Nat → Option Nat)} (ht : t < 6) (hn : h[n]? = some (some (.inl (t, len, x)))) (hd : decode mt.2.1 pc = .ok (.arraylength, 1)) (kk : RR l G mt d lo fx rv w U V uu vv (pc + 1) lv (.int (nI len) :: st) h o) : RR l G mt d lo fx rv w U V uu vv pc lv (.ref n :: st) h o := by
  intro q ho
  obtain ⟨k1, k2, K0⟩ := kk q ho
  refine ⟨k1, k2, ?_⟩
  intro p e s m args below meth c ad0 ad A H locs cells slots mc ms ls C X L hcc hs
  have K := K0 p e s m args below meth c ad0 ad A H locs cells slots mc ms ls C X L hcc hs
  have ht' : ∃ ty, (rr_tys G.2.2)[t]? = some (G.2.2 t, ty) := by
    rcases (show t = 0 ∨ t = 1 ∨ t = 2 ∨ t = 3 ∨ t = 4 ∨ t = 5 by omega) with rfl | rfl | rfl | rfl | rfl | rfl <;> exact ⟨_, rfl⟩
  obtain ⟨ty, ht'⟩ := ht'
  exact va_alen C.1 C.2.1 C.2.2.2.2.2.2.2.2.1 X.1 _ t (rr_at0 hn) ht' rfl hd K
theorem rr_iast {n len : Nat} {f : Nat → Int32} {i x : Int32} (hn : h[n]? = some (some (.inl (0, len, .inl f)))) (hin : vp_in i len) (hd : decode mt.2.1 pc = .ok (.iastore, 1)) {h' : rr_H} (hh : h.set n (some (.inl (0, len, .inl (upd f i.toNatClampNeg x)))) = h') (kk : RR l G mt d lo fx rv w U V uu vv (pc + 1) lv st h' o) : RR l G mt d lo fx rv w U V uu vv pc lv (.int x :: .int i :: .ref n :: st) h o := by
  intro q ho
  obtain ⟨k1, k2, K0⟩ := kk q ho
  refine ⟨k1, k2, ?_⟩
  intro p e s m args below meth c ad0 ad A H locs cells slots mc ms ls C X L hcc hs
  obtain ⟨hP, hD, hS, hA, hf⟩ := X
  refine va_iast C.1 C.2.1 C.2.2.2.2.2.2.2.2.1 hP hD hS _ 0 (rr_at0 hn) rfl hin hd (fun H1 locs1 hP1 hD1 hS1 => ?_)
  have e1 : (a_w G.2.2 ad 0 h).set (a_k h n) (ad n, .inl (G.2.2 0, len, .inl (upd f i.toNatClampNeg x))) = a_w G.2.2 ad 0 h' := by rw [← hh]; exact rr_set0 (.inl (0, len, .inl (upd f i.toNatClampNeg x))) hn
  exact K0 p e s m args below meth c ad0 ad A H1 locs1 cells slots mc ms ls C ⟨e1 ▸ hP1, e1 ▸ hD1, hS1, hA, hf⟩ L hcc hs
theorem rr_bast {n len : Nat} {f : Nat → Int32} {i x : Int32} (hn : h[n]? = some (some (.inl (2, len, .inl f)))) (hin : vp_in i len) (hd : decode mt.2.1 pc = .ok (.bastore, 1)) {h' : rr_H} (hh : h.set n (some (.inl (2, len, .inl (upd f i.toNatClampNeg (vp_nar .byte x))))) = h') (kk : RR l G mt d lo fx rv w U V uu vv (pc + 1) lv st h' o) : RR l G mt d lo fx rv w U V uu vv pc lv (.int x :: .int i :: .ref n :: st) h o := by
  intro q ho
  obtain ⟨k1, k2, K0⟩ := kk q ho
  refine ⟨k1, k2, ?_⟩
  intro p e s m args below meth c ad0 ad A H locs cells slots mc ms ls C X L hcc hs
  obtain ⟨hP, hD, hS, hA, hf⟩ := X
  refine va_bast C.1 C.2.1 C.2.2.2.2.2.2.2.2.1 hP hD hS _ 2 (rr_at0 hn) rfl hin hd (fun H1 locs1 hP1 hD1 hS1 => ?_)
  have e1 : (a_w G.2.2 ad 0 h).set (a_k h n) (ad n, .inl (G.2.2 2, len, .inl (upd f i.toNatClampNeg (vp_nar .byte x)))) = a_w G.2.2 ad 0 h' := by rw [← hh]; exact rr_set0 (.inl (2, len, .inl (upd f i.toNatClampNeg (vp_nar .byte x)))) hn
  exact K0 p e s m args below meth c ad0 ad A H1 locs1 cells slots mc ms ls C ⟨e1 ▸ hP1, e1 ▸ hD1, hS1, hA, hf⟩ L hcc hs
theorem rr_zast {n len : Nat} {f : Nat → Int32} {i x : Int32} (hn : h[n]? = some (some (.inl (3, len, .inl f)))) (hin : vp_in i len) (hd : decode mt.2.1 pc = .ok (.bastore, 1)) {h' : rr_H} (hh : h.set n (some (.inl (3, len, .inl (upd f i.toNatClampNeg (vp_nar .boolean x))))) = h') (kk : RR l G mt d lo fx rv w U V uu vv (pc + 1) lv st h' o) : RR l G mt d lo fx rv w U V uu vv pc lv (.int x :: .int i :: .ref n :: st) h o := by
  intro q ho
  obtain ⟨k1, k2, K0⟩ := kk q ho
  refine ⟨k1, k2, ?_⟩
  intro p e s m args below meth c ad0 ad A H locs cells slots mc ms ls C X L hcc hs
  obtain ⟨hP, hD, hS, hA, hf⟩ := X
  refine va_zast C.1 C.2.1 C.2.2.2.2.2.2.2.2.1 hP hD hS _ 3 (rr_at0 hn) rfl hin hd (fun H1 locs1 hP1 hD1 hS1 => ?_)
  have e1 : (a_w G.2.2 ad 0 h).set (a_k h n) (ad n, .inl (G.2.2 3, len, .inl (upd f i.toNatClampNeg (vp_nar .boolean x)))) = a_w G.2.2 ad 0 h' := by rw [← hh]; exact rr_set0 (.inl (3, len, .inl (upd f i.toNatClampNeg (vp_nar .boolean x)))) hn
  exact K0 p e s m args below meth c ad0 ad A H1 locs1 cells slots mc ms ls C ⟨e1 ▸ hP1, e1 ▸ hD1, hS1, hA, hf⟩ L hcc hs
theorem rr_last {n len : Nat} {f : Nat → Int64} {i : Int32} {x : Int64} (hn : h[n]? = some (some (.inl (1, len, .inr (.inl f))))) (hin : vp_in i len) (hd : decode mt.2.1 pc = .ok (.lastore, 1)) {h' : rr_H} (hh : h.set n (some (.inl (1, len, .inr (.inl (vp_updL f i.toNatClampNeg x))))) = h') (kk : RR l G mt d lo fx rv w U V uu vv (pc + 1) lv st h' o) : RR l G mt d lo fx rv w U V uu vv pc lv (.long x :: .int i :: .ref n :: st) h o := by
  intro q ho
  obtain ⟨k1, k2, K0⟩ := kk q ho
  refine ⟨k1, k2, ?_⟩
  intro p e s m args below meth c ad0 ad A H locs cells slots mc ms ls C X L hcc hs
  obtain ⟨hP, hD, hS, hA, hf⟩ := X
  refine va_last C.1 C.2.1 C.2.2.2.2.2.2.2.2.1 hP hD hS _ 1 (rr_at0 hn) rfl hin hd (fun H1 locs1 hP1 hD1 hS1 => ?_)
  have e1 : (a_w G.2.2 ad 0 h).set (a_k h n) (ad n, .inl (G.2.2 1, len, .inr (.inl (vp_updL f i.toNatClampNeg x)))) = a_w G.2.2 ad 0 h' := by rw [← hh]; exact rr_set0 (.inl (1, len, .inr (.inl (vp_updL f i.toNatClampNeg x)))) hn
  exact K0 p e s m args below meth c ad0 ad A H1 locs1 cells slots mc ms ls C ⟨e1 ▸ hP1, e1 ▸ hD1, hS1, hA, hf⟩ L hcc hs
end RHEAP

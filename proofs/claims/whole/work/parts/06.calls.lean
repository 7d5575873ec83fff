/-! ===== another view of the same cells; new cells; calls ===== -/
def rr_in (k : Nat) : va_E → Prop
  | .inl x => match x.2.2 with
    | .inr (.inr (.inr (.inr f))) => ∃ j, f j = some k
    | _ => False
  | .inr o => Value.ref k ∈ o.2
theorem a_v_congr {ad ad' : Nat → Nat} {v : Value} (h : ∀ k, v = .ref k → ad k = ad' k) : a_v ad v = a_v ad' v := by
  cases v <;> first | rfl | exact congrArg Value.ref (h _ rfl)
theorem a_c_congr {cy : Nat → ClassId} {ad ad' : Nat → Nat} {c : va_E} (h : ∀ k, rr_in k c → ad k = ad' k) : a_c cy ad c = a_c cy ad' c := by
  rcases c with ⟨t, n, f | f | f | f | f⟩ | ⟨ci, fs⟩
  · rfl
  · rfl
  · rfl
  · rfl
  · show (Sum.inl (cy t, n, .inr (.inr (.inr (.inr (fun j => (f j).map ad))))) : va_E) = .inl (cy t, n, .inr (.inr (.inr (.inr (fun j => (f j).map ad')))))
    have e : (fun j => (f j).map ad) = (fun j => (f j).map ad') := by
      funext j
      cases hj : f j with
      | none => rfl
      | some k => exact congrArg some (h k ⟨j, hj⟩)
    rw [e]
  · show (Sum.inr (ci, fs.map (a_v ad)) : va_E) = .inr (ci, fs.map (a_v ad'))
    congr 2
    exact List.map_congr_left (fun v hv => a_v_congr (fun k e => h k (by rw [e] at hv; exact hv)))
def rr_pf (π : Nat → Nat) : Value → Bool
  | .ref k => π k == k
  | _ => true
def rr_fx (fx : Nat → Bool) : Value → Bool
  | .ref k => fx k
  | _ => true
section RCALL
variable {σ : Type} {l : Launch} {G : rr_G} {mt : rr_M} {d lo : Nat} {fx : Nat → Bool} {rv : σ → Option Value} {w : σ → rr_H} {U V : σ → Nat} {uu vv pc : Nat} {lv : List (Nat × Value)} {st : List Value} {h : rr_H} {o : Option σ}
theorem rr_L_congr {ad ad' : Nat → Nat} (hl : ∀ q ∈ lv, a_v ad q.2 = a_v ad' q.2) : rr_L ad lv = rr_L ad' lv := List.map_congr_left (fun q hq => by rw [hl q hq])
/-- another view: name n of h' is name π n of h -/
theorem rr_view {h' : rr_H} (π : Nat → Nat) (hcell : ∀ n c', h'[n]? = some (some c') → ∃ c, h[π n]? = some (some c) ∧ ∀ (cy : Nat → ClassId) (ad : Nat → Nat), a_c cy (fun k => ad (π k)) c' = a_c cy ad c) (hinj : ∀ n n' c c', h'[n]? = some (some c) → h'[n']? = some (some c') → π n = π n' → n = n') (hfx : ∀ n, fx n = true → π n = n) (hlv : lv.all (fun q => rr_pf π q.2) = true) (hst : st.all (rr_pf π) = true) (kk : RR l G mt d lo fx rv w U V uu vv pc lv st h' o) : RR l G mt d lo fx rv w U V uu vv pc lv st h o := by
  intro q ho
  obtain ⟨k1, k2, K0⟩ := kk q ho
  refine ⟨k1, k2, ?_⟩
  intro p e s m args below meth c ad0 ad A H locs cells slots mc ms ls C X L hcc hs
  obtain ⟨hP, hD, hS, hA, hf⟩ := X
  have pv : ∀ v : Value, rr_pf π v = true → a_v (fun k => ad (π k)) v = a_v ad v := by
    intro v hv
    refine a_v_congr (fun k e => ?_)
    subst e
    exact congrArg ad (by simpa [rr_pf] using hv)
  have e1 : rr_L (fun k => ad (π k)) lv = rr_L ad lv := rr_L_congr (fun q hq => pv _ (List.all_eq_true.mp hlv q hq))
  have e2 : st.map (a_v (fun k => ad (π k))) = st.map (a_v ad) := List.map_congr_left (fun v hv => pv v (List.all_eq_true.mp hst v hv))
  rw [a_P_iff] at hP
  rw [a_D_iff] at hD
  have K := K0 p e s m args below meth c ad0 (fun k => ad (π k)) A H locs cells slots mc ms ls C ⟨?_, ?_, hS, hA, fun n hn => by show ad (π n) = ad0 n; rw [hfx n hn]; exact hf n hn⟩ (by rw [e1]; exact L) hcc hs
  · rw [e2] at K; exact K
  · rw [a_P_iff]
    intro n c' hc'
    obtain ⟨c0, h1, h2⟩ := hcell n c' hc'
    rw [h2]
    exact hP _ _ h1
  · rw [a_D_iff]
    refine ⟨fun n n' c c' hc hc' ee => ?_, fun n c hc => ?_⟩
    · obtain ⟨c0, h1, -⟩ := hcell n c hc
      obtain ⟨c1, h2, -⟩ := hcell n' c' hc'
      exact hinj n n' c c' hc hc' (hD.1 _ _ _ _ h1 h2 ee)
    · obtain ⟨c0, h1, -⟩ := hcell n c hc
      exact hD.2 _ _ h1
/-- a new cell comes under a name that nothing refers to -/
theorem rr_grown {ad : Nat → Nat} {cy : Nat → ClassId} {A : Nat → Prop} {n qa : Nat} {cn : va_E} {H1 : Heap} (hn : h[n]? = some none) (hno : ∀ (n' : Nat) (c' : va_E), h[n']? = some (some c') → ¬ rr_in n c') (hcn : ∀ ad : Nat → Nat, a_c cy ad cn = a_c cy (fun k => k) cn)
    (hP1 : va_P (rr_D G) vwCl (a_w cy ad 0 h ++ [(qa, a_c cy (fun k => k) cn)]) H1) (hD1 : va_D A (a_w cy ad 0 h ++ [(qa, a_c cy (fun k => k) cn)])) : va_P (rr_D G) vwCl (a_w cy (va_up ad n qa) 0 (h.set n (some cn))) H1 ∧ va_D A (a_w cy (va_up ad n qa) 0 (h.set n (some cn))) := by
  have hlt : n < h.length := (List.getElem?_eq_some_iff.mp hn).1
  have old : ∀ n' c', n' ≠ n → (h.set n (some cn))[n']? = some (some c') → h[n']? = some (some c') := fun n' c' hne hc => by rwa [List.getElem?_set_ne (fun q => hne q.symm)] at hc
  have new : ∀ c', (h.set n (some cn))[n]? = some (some c') → c' = cn := fun c' hc => by
    rw [List.getElem?_set_self hlt] at hc
    exact (Option.some.inj (Option.some.inj hc)).symm
  have at1 : ∀ n' c', h[n']? = some (some c') → (a_w cy ad 0 h ++ [(qa, a_c cy (fun k => k) cn)])[a_k h n']? = some (ad n', a_c cy ad c') := fun n' c' hc => by
    have h1 := rr_at0 (cy := cy) (ad := ad) hc
    rw [List.getElem?_append_left (List.getElem?_eq_some_iff.mp h1).1]
    exact h1
  have atq : (a_w cy ad 0 h ++ [(qa, a_c cy (fun k => k) cn)])[(a_w cy ad 0 h).length]? = some (qa, a_c cy (fun k => k) cn) := by simp
  have ne1 : ∀ n' c', h[n']? = some (some c') → ad n' ≠ qa := fun n' c' hc ee => by
    have h1 := hD1.1 _ _ _ _ (at1 n' c' hc) atq ee
    have h2 := (List.getElem?_eq_some_iff.mp (rr_at0 (cy := cy) (ad := ad) hc)).1
    omega
  have hnn : ∀ n' c', h[n']? = some (some c') → n' ≠ n := fun n' c' hc ee => by
    subst ee
    rw [hn] at hc
    cases hc
  constructor
  · rw [a_P_iff]
    intro n' c' hc
    by_cases hne : n' = n
    · subst hne
      have := new c' hc
      subst this
      rw [va_up_self, hcn]
      exact hP1 _ _ atq
    · have hc0 := old n' c' hne hc
      rw [va_up_ne _ _ hne, a_c_congr (ad := va_up ad n qa) (ad' := ad) (fun k hk => va_up_ne ad qa (fun e => hno n' c' hc0 (by rw [e] at hk; exact hk)))]
      exact hP1 _ _ (at1 n' c' hc0)
  · rw [a_D_iff]
    refine ⟨fun n1 n2 c1 c2 h1 h2 ee => ?_, fun n1 c1 h1 => ?_⟩
    · by_cases e1 : n1 = n
      · by_cases e2 : n2 = n
        · rw [e1, e2]
        · subst e1
          rw [va_up_self, va_up_ne _ _ e2] at ee
          exact absurd ee.symm (ne1 n2 c2 (old n2 c2 e2 h2))
      · by_cases e2 : n2 = n
        · subst e2
          rw [va_up_self, va_up_ne _ _ e1] at ee
          exact absurd ee (ne1 n1 c1 (old n1 c1 e1 h1))
        · rw [va_up_ne _ _ e1, va_up_ne _ _ e2] at ee
          have g1 := old n1 c1 e1 h1
          have g2 := old n2 c2 e2 h2
          exact a_k_inj h n1 n2 c1 c2 g1 g2 (hD1.1 _ _ _ _ (at1 n1 c1 g1) (at1 n2 c2 g2) ee)
    · by_cases e1 : n1 = n
      · subst e1
        rw [va_up_self]
        exact hD1.2 _ _ atq
      · rw [va_up_ne _ _ e1]
        exact hD1.2 _ _ (at1 n1 c1 (old n1 c1 e1 h1))
theorem rr_up_L {ad : Nat → Nat} {n qa : Nat} (hl : ∀ q ∈ lv, q.2 ≠ .ref n) : rr_L (va_up ad n qa) lv = rr_L ad lv :=
  rr_L_congr (fun q hq => a_v_congr (fun k e => va_up_ne _ _ (fun z => hl q hq (by rw [e, z]))))
theorem rr_up_st {ad : Nat → Nat} {n qa : Nat} (hl : ∀ v ∈ st, v ≠ .ref n) : st.map (a_v (va_up ad n qa)) = st.map (a_v ad) :=
  List.map_congr_left (fun v hv => a_v_congr (fun k e => va_up_ne _ _ (fun z => hl v hv (by rw [e, z]))))
theorem rr_new {ci N idx : Nat} (n : Nat) {C : String} {T : u_T} {ty : Nat → FieldType} {fs : List Value} (hc : rr_cl ci C T N ty) (hcl : Cond.classLink mt.1.cls idx C ∈ rr_ws) (hin : Cond.instantiable C N ∈ rr_ws) (hini : Cond.initialized C ∈ rr_ws) (hfs : ∀ j, j < N → defaultValue (ty j) = vp_V fs j) (hfr : ∀ k, Value.ref k ∉ fs) (hn : h[n]? = some none) (hno : ∀ (n' : Nat) (c' : va_E), h[n']? = some (some c') → ¬ rr_in n c') (hfx : fx n = false) (hlv : ∀ q ∈ lv, q.2 ≠ .ref n) (hst : ∀ v ∈ st, v ≠ .ref n) (hd : decode mt.2.1 pc = .ok (.new idx, 3)) {h' : rr_H} (hh : h.set n (some (.inr (ci, fs))) = h') (kk : RR l G mt d lo fx rv w U V (uu + 1) (vv + N) (pc + 3) lv (.ref n :: st) h' o) : RR l G mt d lo fx rv w U V uu vv pc lv st h o := by
  intro q ho
  obtain ⟨k1, k2, K0⟩ := kk q ho
  refine ⟨by omega, by omega, ?_⟩
  intro p e s m args below meth c ad0 ad A H locs cells slots mc ms ls C X L hcc hs
  obtain ⟨hP, hD, hS, hA, hf⟩ := X
  have hC := C
  obtain ⟨hx, hb, hml, hown, hts, hr, hlo, hnm, hK⟩ := C
  obtain ⟨c1, c2, c3, c4, c5⟩ := hc
  refine va_new (D := rr_D G) (ci := ci) (fs := fs) hx hb hts c2 ty c3 hown (hts _ hcl) (hts _ hin) (hts _ hini) hK.1 hP hD hS hA c1 hfs (by show cells + 1 ≤ mc; omega) (by show slots + N ≤ ms; omega) hd (fun qa H1 hP1 hD1 hS1 => ?_)
  have hfm : ∀ ad : Nat → Nat, fs.map (a_v ad) = fs := fun ad => by
    conv => rhs; rw [← List.map_id fs]
    refine List.map_congr_left (fun v hv => ?_)
    cases v <;> first | rfl | exact absurd hv (hfr _)
  have hcn : ∀ ad : Nat → Nat, a_c G.2.2 ad (.inr (ci, fs)) = .inr (ci, fs) := fun ad => by show (Sum.inr (ci, fs.map (a_v ad)) : va_E) = _; rw [hfm]
  obtain ⟨g1, g2⟩ := rr_grown (G := G) (cn := .inr (ci, fs)) hn hno (fun ad => by rw [hcn, hcn]) (by rw [hcn]; exact hP1) (by rw [hcn]; exact hD1)
  rw [hh] at g1 g2
  have K := K0 p e s m args below meth c ad0 (va_up ad n qa) A H1 locs (cells + 1) (slots + N) mc ms ls hC ⟨g1, g2, hS1, hA, fun k hk => by rw [va_up_ne _ _ (fun z => by rw [z, hfx] at hk; cases hk)]; exact hf k hk⟩ (by rw [rr_up_L hlv]; exact L) (by omega) (by omega)
  rw [List.map_cons, rr_up_st hst] at K
  show W p l e { frames := d, cells := mc, slots := ms, locals := lo } s m args below meth c H1 locs (cells + 1) (slots + N) _ (F0 m (pc + 3) ls (Value.ref qa :: st.map (a_v ad)))
  have e9 : a_v (va_up ad n qa) (.ref n) = .ref qa := congrArg Value.ref (va_up_self ad n qa)
  rw [e9] at K
  exact K
theorem rr_newa {atype : ArrayType} {ty : FieldType} {t N' : Nat} {len : Int32} {x : (Nat → Int32) ⊕ (Nat → Int64) ⊕ (Nat → UInt32) ⊕ (Nat → UInt64) ⊕ (Nat → Option Nat)} (n : Nat) (hty : newarray.typeOf atype = ty) (hprim : refKind ty = false) (htt : ∀ cy : Nat → ClassId, (rr_tys cy)[t]? = some (cy t, ty)) (hx : ∀ cA : ClassId, vp_cell cA (N', x) = arrV cA N' (fun _ => defaultValue ty)) (hxr : ∀ ad : Nat → Nat, a_a ad (N', x) = (N', x)) (harr : Cond.arrayClass ty ∈ rr_ws) (hl0 : ¬ len < 0) (hN : len.toNatClampNeg = N') (hby : N' * componentBytes ty ≤ 536870912) (hn : h[n]? = some none) (hno : ∀ (n' : Nat) (c' : va_E), h[n']? = some (some c') → ¬ rr_in n c') (hfx : fx n = false) (hlv : ∀ q ∈ lv, q.2 ≠ .ref n) (hst : ∀ v ∈ st, v ≠ .ref n) (hd : decode mt.2.1 pc = .ok (.newarray atype, 2)) {h' : rr_H} (hh : h.set n (some (.inl (t, N', x))) = h') (kk : RR l G mt d lo fx rv w U V (uu + 1) (vv + N') (pc + 2) lv (.ref n :: st) h' o) : RR l G mt d lo fx rv w U V uu vv pc lv (.int len :: st) h o := by
  intro q ho
  obtain ⟨k1, k2, K0⟩ := kk q ho
  refine ⟨by omega, by omega, ?_⟩
  intro p e s m args below meth c ad0 ad A H locs cells slots mc ms ls C X L hcc hs
  obtain ⟨hP, hD, hS, hA, hf⟩ := X
  have hC := C
  obtain ⟨hx0, hb, hml, hown, hts, hr, hlo, hnm, hK⟩ := C
  refine va_newa (D := rr_D G) (a0 := (N', x)) hx0 hb (by rw [hty]; exact hts _ harr) hty hK.1 hP hD hS hA hx hl0 hN hby (by show cells + 1 ≤ mc; omega) (by show slots + N' ≤ ms; omega) hd (fun qa cA H1 hK1 hP1 hD1 hS1 => ?_)
  have hcA : cA = G.2.2 t := by
    have r1 := (hK1.2 (rr_tys G.2.2).length (cA, ty) (by simp)).2
    have r2 := (hK.1.2 t _ (htt G.2.2)).2
    cases ty <;> first | (simp [refKind] at hprim; done) | exact Option.some.inj (r1.symm.trans r2)
  subst hcA
  have hcn : ∀ ad : Nat → Nat, a_c G.2.2 ad (.inl (t, N', x)) = .inl (G.2.2 t, N', x) := fun ad => by show (Sum.inl (G.2.2 t, a_a ad (N', x)) : va_E) = _; rw [hxr]
  obtain ⟨g1, g2⟩ := rr_grown (G := G) (cn := .inl (t, N', x)) hn hno (fun ad => by rw [hcn, hcn]) (by rw [hcn]; exact hP1) (by rw [hcn]; exact hD1)
  rw [hh] at g1 g2
  have K := K0 p e s m args below meth c ad0 (va_up ad n qa) A H1 locs (cells + 1) (slots + N') mc ms ls hC ⟨g1, g2, hS1, hA, fun k hk => by rw [va_up_ne _ _ (fun z => by rw [z, hfx] at hk; cases hk)]; exact hf k hk⟩ (by rw [rr_up_L hlv]; exact L) (by omega) (by omega)
  rw [List.map_cons, rr_up_st hst] at K
  show W p l e { frames := d, cells := mc, slots := ms, locals := lo } s m args below meth c H1 locs (cells + 1) (slots + N') _ (F0 m (pc + 2) ls (Value.ref qa :: st.map (a_v ad)))
  have e9 : a_v (va_up ad n qa) (.ref n) = .ref qa := congrArg Value.ref (va_up_self ad n qa)
  rw [e9] at K
  exact K
end RCALL

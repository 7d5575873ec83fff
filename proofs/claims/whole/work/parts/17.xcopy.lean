/-! ===== Arrays.copyOf ===== -/
theorem rr_copyL {σ : Type} {l : Launch} {G : rr_G} {mt : rr_M} {d lo : Nat} {fx : Nat → Bool} {rv : σ → Option Value} {w : σ → rr_H} {U V : σ → Nat} {uu vv pc idx a b n0 n1 : Nat} {f g : Nat → Int64} {lv : List (Nat × Value)} {st : List Value} {h h' : rr_H} {o : Option σ} {sp dp n : Int32} (hk : rr_ak mt.1.cls idx) (ha : h[a]? = some (some (.inl (1, n0, .inr (.inl f))))) (hbb : h[b]? = some (some (.inl (1, n1, .inr (.inl g))))) (h1 : ¬ sp < 0) (h2 : ¬ dp < 0) (h3 : ¬ n < 0) (h4 : sp.toNatClampNeg + n.toNatClampNeg ≤ n0) (h5 : dp.toNatClampNeg + n.toNatClampNeg ≤ n1) (hfr : 1 ≤ d) (hlo : (st.map fun v => v.category).sum + 18 ≤ lo) (hd : decode mt.2.1 pc = .ok (.invokestatic idx, 3)) (hh : h.set b (some (.inl (1, n1, .inr (.inl (va_cpy f g sp.toNatClampNeg dp.toNatClampNeg n.toNatClampNeg))))) = h') (kk : RR l G mt d lo fx rv w U V uu vv (pc + 3) lv st h' o) : RR l G mt d lo fx rv w U V uu vv pc lv (.int n :: .int dp :: .ref b :: .int sp :: .ref a :: st) h o := by
  intro q ho
  obtain ⟨k1, k2, K0⟩ := kk q ho
  refine ⟨k1, k2, ?_⟩
  intro p e s m args below meth c ad0 ad A H locs cells slots mc ms ls C X L hcc hs
  obtain ⟨hP, hD, hS, hA, hf⟩ := X
  obtain ⟨a1, a2, a3, a4⟩ := hk
  have C0 := C
  obtain ⟨hx, hb, hml, hown, hts, hr, hl0, hnm, hK⟩ := C
  refine va_copyl hx hb (hml.trans L.1.symm) hown (hts _ a1) (hts _ a2) (hts _ a3) (hts _ a4) hK.1 hP hD hS _ _ 1 1 (rr_at0 ha) (rr_at0 hbb) rfl rfl rfl h1 h2 h3 h4 h5 (fun _ _ => rfl) hfr ?_ hd (fun H1 locs1 hP1 hD1 hS1 => ?_)
  · show ((st.map (a_v ad)).map fun v => v.category).sum + (7 + 11) ≤ lo
    rw [List.map_map]
    simpa [Function.comp_def, a_v_cat] using hlo
  have e1 : (a_w G.2.2 ad 0 h).set (a_k h b) (ad b, .inl (G.2.2 1, n1, .inr (.inl (va_cpy f g sp.toNatClampNeg dp.toNatClampNeg n.toNatClampNeg)))) = a_w G.2.2 ad 0 h' := by rw [← hh]; exact rr_set0 (.inl (1, n1, .inr (.inl (va_cpy f g sp.toNatClampNeg dp.toNatClampNeg n.toNatClampNeg)))) hbb
  exact K0 p e s m args below meth c ad0 ad A H1 locs1 cells slots mc ms ls C0 ⟨e1 ▸ hP1, e1 ▸ hD1, hS1, hA, hf⟩ L hcc hs
def rvC : Nat × Nat → Option Value := fun _ => some (.ref 56)
/-- a copy of the row a, len long, can be made -/
def gC (S : rr_T) (a : Nat) (len : Int32) : Bool := inb len 100000 && (!decide (len = nI (S.2.2.2 a)) && (inb (jMin (nI (S.2.2.2 a)) len) 100000 && (decide ((jMin (nI (S.2.2.2 a)) len).toNatClampNeg ≤ S.2.2.2 a) && decide ((jMin (nI (S.2.2.2 a)) len).toNatClampNeg ≤ len.toNatClampNeg))))
theorem gC_and {S : rr_T} {a : Nat} {len : Int32} (h : gC S a len = true) : inb len 100000 = true ∧ (¬ len = nI (S.2.2.2 a)) ∧ inb (jMin (nI (S.2.2.2 a)) len) 100000 = true ∧ (jMin (nI (S.2.2.2 a)) len).toNatClampNeg ≤ S.2.2.2 a ∧ (jMin (nI (S.2.2.2 a)) len).toNatClampNeg ≤ len.toNatClampNeg := by
  simp only [gC, Bool.and_eq_true, Bool.not_eq_true', decide_eq_true_eq, decide_eq_false_iff_not] at h
  exact h
set_option maxRecDepth 20000 in
theorem tJ_copyOf_19 {l : Launch} {G : rr_G} (P S : rr_T) (len : Int32) (u v : Nat) (hg : gC S 19 len = true) : TT l G mJ7_copyOf_c38d5 1 40 fxX rvC (fun _ => (xw P S).set 56 (some (.inl (1, len.toNatClampNeg, .inr (.inl (va_cpy (S.2.2.1 19) (fun _ => 0) 0 0 (jMin (nI (S.2.2.2 19)) len).toNatClampNeg)))))) (fun q => q.1) (fun q => q.2) u v [.ref 19, .int len] (xw P S) (some (u + 1, v + len.toNatClampNeg)) := by
  obtain ⟨g1, g2, g3, g4, g5⟩ := gC_and hg
  have hz := inb_in g1
  have hlt : len.toNatClampNeg < 100000 := x_lt hz
  have hm := inb_in g3
  refine TT.by (by decide) (Nat.le_of_ble_eq_true rfl) (lv := [(0, .ref 19), (1, .int len)]) rfl ?_
  refine rr_iload_n dJ7_copyOf_c38d5_0 rfl 1 rfl ?_
  refine rr_aload_n dJ7_copyOf_c38d5_1 rfl 0 rfl ?_
  refine rr_alen (by decide) rfl dJ7_copyOf_c38d5_2 ?_
  refine rr_eq (if_neg g2 : (if len = nI (S.2.2.2 19) then none else some (u + 1, v + len.toNatClampNeg)) = _).symm ?_
  refine rr_icmp_ne (tgt := 14) dJ7_copyOf_c38d5_3 (by decide) (fun _ => ?_) (fun _ => rr_none)
  refine rr_iload_n dJ7_copyOf_c38d5_14 rfl 1 rfl ?_
  refine rr_newa (ty := .long) (t := 1) (N' := len.toNatClampNeg) (x := .inr (.inl (fun _ => 0))) 56 rfl rfl (fun _ => rfl) (fun _ => rfl) (fun _ => rfl) aJ (fun q => hz (Or.inl q)) rfl (by show len.toNatClampNeg * 8 ≤ 536870912; omega) rfl (x_no56 P S) rfl (rr_n56L rfl) (rr_n56S rfl) dJ7_copyOf_c38d5_15 rfl ?_
  refine rr_astore_n (lv' := [(2, .ref 56), (0, .ref 19), (1, .int len)]) dJ7_copyOf_c38d5_17 rfl (by decide) rfl ?_
  refine rr_aload_n dJ7_copyOf_c38d5_18 rfl 1 rfl ?_
  refine rr_iconst (v := 0) dJ7_copyOf_c38d5_19 (by decide) ?_
  refine rr_aload_n dJ7_copyOf_c38d5_20 rfl 0 rfl ?_
  refine rr_iconst (v := 0) dJ7_copyOf_c38d5_21 (by decide) ?_
  refine rr_aload_n dJ7_copyOf_c38d5_22 rfl 1 rfl ?_
  refine rr_alen (t := 1) (len := S.2.2.2 19) (by decide) rfl dJ7_copyOf_c38d5_23 ?_
  refine rr_iload_n dJ7_copyOf_c38d5_24 rfl 2 rfl ?_
  refine rr_mmin mkJ7_304 (Nat.le_of_ble_eq_true rfl) (Nat.le_of_ble_eq_true rfl) dJ7_copyOf_c38d5_25 ?_
  refine rr_copyL (a := 19) (b := 56) (n0 := S.2.2.2 19) (n1 := len.toNatClampNeg) (f := S.2.2.1 19) (g := fun _ => 0) cJ7_150 rfl rfl (by decide) (by decide) (fun q => hm (Or.inl q)) (by rw [show (0 : Int32).toNatClampNeg = 0 from rfl, Nat.zero_add]; exact g4) (by rw [show (0 : Int32).toNatClampNeg = 0 from rfl, Nat.zero_add]; exact g5) (Nat.le_of_ble_eq_true rfl) (Nat.le_of_ble_eq_true rfl) dJ7_copyOf_c38d5_28 (h' := (xw P S).set 56 (some (.inl (1, len.toNatClampNeg, .inr (.inl (va_cpy (S.2.2.1 19) (fun _ => 0) 0 0 (jMin (nI (S.2.2.2 19)) len).toNatClampNeg)))))) rfl ?_
  refine rr_aload_n dJ7_copyOf_c38d5_31 rfl 0 rfl ?_
  exact rr_aret dJ7_copyOf_c38d5_32 rfl (Or.inr ⟨_, rfl⟩) (Or.inr ⟨_, rfl⟩) rfl rfl rfl rfl
set_option maxRecDepth 20000 in
theorem xvc19 {P S : rr_T} {len : Int32} : ∀ (n : Nat) (c' : va_E), (xw P (xCp S 19 len))[n]? = some (some c') → ∃ c, (((xw P S).set 56 (some (.inl (1, len.toNatClampNeg, .inr (.inl (va_cpy (S.2.2.1 19) (fun _ => 0) 0 0 (jMin (nI (S.2.2.2 19)) len).toNatClampNeg)))))).set 18 (some (.inr (5, (xF18 S).set 0 (.ref 56)))))[(xq 19) n]? = some (some c) ∧ ∀ (cy : Nat → ClassId) (ad : Nat → Nat), a_c cy (fun k => ad ((xq 19) k)) c' = a_c cy ad c := by
  intro n c' hc
  exact match n, hc with
    | 0, hc => by have e := Option.some.inj (Option.some.inj hc); subst e; exact ⟨_, rfl, fun _ _ => rfl⟩
    | 1, hc => by have e := Option.some.inj (Option.some.inj hc); subst e; exact ⟨_, rfl, fun _ _ => rfl⟩
    | 2, hc => by have e := Option.some.inj (Option.some.inj hc); subst e; exact ⟨_, rfl, fun _ _ => rfl⟩
    | 3, hc => by have e := Option.some.inj (Option.some.inj hc); subst e; exact ⟨_, rfl, fun _ _ => rfl⟩
    | 4, hc => by have e := Option.some.inj (Option.some.inj hc); subst e; exact ⟨_, rfl, fun _ _ => rfl⟩
    | 5, hc => by have e := Option.some.inj (Option.some.inj hc); subst e; exact ⟨_, rfl, fun _ _ => rfl⟩
    | 6, hc => by have e := Option.some.inj (Option.some.inj hc); subst e; exact ⟨_, rfl, fun _ _ => rfl⟩
    | 7, hc => by have e := Option.some.inj (Option.some.inj hc); subst e; exact ⟨_, rfl, fun _ _ => a_c_congr (fun k ⟨j, hj⟩ => congrArg _ (xRl_pi (a := 19) (by decide) hj))⟩
    | 8, hc => by have e := Option.some.inj (Option.some.inj hc); subst e; exact ⟨_, rfl, fun _ _ => rfl⟩
    | 9, hc => by have e := Option.some.inj (Option.some.inj hc); subst e; exact ⟨_, rfl, fun _ _ => a_c_congr (fun k ⟨j, hj⟩ => congrArg _ (xSl_pi (a := 19) (by decide) hj))⟩
    | 10, hc => by have e := Option.some.inj (Option.some.inj hc); subst e; exact ⟨_, rfl, fun _ _ => rfl⟩
    | 11, hc => by have e := Option.some.inj (Option.some.inj hc); subst e; exact ⟨_, rfl, fun _ _ => rfl⟩
    | 12, hc => by have e := Option.some.inj (Option.some.inj hc); subst e; exact ⟨_, rfl, fun _ _ => rfl⟩
    | 13, hc => by have e := Option.some.inj (Option.some.inj hc); subst e; exact ⟨_, rfl, fun _ _ => rfl⟩
    | 14, hc => by have e := Option.some.inj (Option.some.inj hc); subst e; exact ⟨_, rfl, fun _ _ => rfl⟩
    | 15, hc => by have e := Option.some.inj (Option.some.inj hc); subst e; exact ⟨_, rfl, fun _ _ => rfl⟩
    | 16, hc => by have e := Option.some.inj (Option.some.inj hc); subst e; exact ⟨_, rfl, fun _ _ => rfl⟩
    | 17, hc => by have e := Option.some.inj (Option.some.inj hc); subst e; exact ⟨_, rfl, fun _ _ => rfl⟩
    | 18, hc => by have e := Option.some.inj (Option.some.inj hc); subst e; exact ⟨_, rfl, fun _ _ => rfl⟩
    | 19, hc => by have e := Option.some.inj (Option.some.inj hc); subst e; exact ⟨_, rfl, fun _ _ => rfl⟩
    | 20, hc => by have e := Option.some.inj (Option.some.inj hc); subst e; exact ⟨_, rfl, fun _ _ => rfl⟩
    | 21, hc => by have e := Option.some.inj (Option.some.inj hc); subst e; exact ⟨_, rfl, fun _ _ => rfl⟩
    | 22, hc => by have e := Option.some.inj (Option.some.inj hc); subst e; exact ⟨_, rfl, fun _ _ => rfl⟩
    | 23, hc => by have e := Option.some.inj (Option.some.inj hc); subst e; exact ⟨_, rfl, fun _ _ => rfl⟩
    | 24, hc => by have e := Option.some.inj (Option.some.inj hc); subst e; exact ⟨_, rfl, fun _ _ => rfl⟩
    | 25, hc => by have e := Option.some.inj (Option.some.inj hc); subst e; exact ⟨_, rfl, fun _ _ => rfl⟩
    | 26, hc => by have e := Option.some.inj (Option.some.inj hc); subst e; exact ⟨_, rfl, fun _ _ => rfl⟩
    | 27, hc => by have e := Option.some.inj (Option.some.inj hc); subst e; exact ⟨_, rfl, fun _ _ => rfl⟩
    | 28, hc => by have e := Option.some.inj (Option.some.inj hc); subst e; exact ⟨_, rfl, fun _ _ => rfl⟩
    | 29, hc => by have e := Option.some.inj (Option.some.inj hc); subst e; exact ⟨_, rfl, fun _ _ => rfl⟩
    | 30, hc => by have e := Option.some.inj (Option.some.inj hc); subst e; exact ⟨_, rfl, fun _ _ => rfl⟩
    | 31, hc => by have e := Option.some.inj (Option.some.inj hc); subst e; exact ⟨_, rfl, fun _ _ => rfl⟩
    | 32, hc => by have e := Option.some.inj (Option.some.inj hc); subst e; exact ⟨_, rfl, fun _ _ => rfl⟩
    | 33, hc => by have e := Option.some.inj (Option.some.inj hc); subst e; exact ⟨_, rfl, fun _ _ => rfl⟩
    | 34, hc => by obtain ⟨y, e⟩ := x_if (Option.some.inj hc); subst e; exact ⟨_, congrArg some (if_pos y), fun _ _ => rfl⟩
    | 35, hc => by obtain ⟨y, e⟩ := x_if (Option.some.inj hc); subst e; exact ⟨_, congrArg some (if_pos y), fun _ _ => rfl⟩
    | 36, hc => by obtain ⟨y, e⟩ := x_if (Option.some.inj hc); subst e; exact ⟨_, congrArg some (if_pos y), fun _ _ => rfl⟩
    | 37, hc => by obtain ⟨y, e⟩ := x_if (Option.some.inj hc); subst e; exact ⟨_, congrArg some (if_pos y), fun _ _ => rfl⟩
    | 38, hc => by obtain ⟨y, e⟩ := x_if (Option.some.inj hc); subst e; exact ⟨_, congrArg some (if_pos y), fun _ _ => rfl⟩
    | 39, hc => by obtain ⟨y, e⟩ := x_if (Option.some.inj hc); subst e; exact ⟨_, congrArg some (if_pos y), fun _ _ => rfl⟩
    | 40, hc => by obtain ⟨y, e⟩ := x_if (Option.some.inj hc); subst e; exact ⟨_, congrArg some (if_pos y), fun _ _ => rfl⟩
    | 41, hc => by obtain ⟨y, e⟩ := x_if (Option.some.inj hc); subst e; exact ⟨_, congrArg some (if_pos y), fun _ _ => rfl⟩
    | 42, hc => by obtain ⟨y, e⟩ := x_if (Option.some.inj hc); subst e; exact ⟨_, congrArg some (if_pos y), fun _ _ => rfl⟩
    | 43, hc => by obtain ⟨y, e⟩ := x_if (Option.some.inj hc); subst e; exact ⟨_, congrArg some (if_pos y), fun _ _ => rfl⟩
    | 44, hc => by obtain ⟨y, e⟩ := x_if (Option.some.inj hc); subst e; exact ⟨_, congrArg some (if_pos y), fun _ _ => rfl⟩
    | 45, hc => by obtain ⟨y, e⟩ := x_if (Option.some.inj hc); subst e; exact ⟨_, congrArg some (if_pos y), fun _ _ => rfl⟩
    | 46, hc => by obtain ⟨y, e⟩ := x_if (Option.some.inj hc); subst e; exact ⟨_, congrArg some (if_pos y), fun _ _ => rfl⟩
    | 47, hc => by obtain ⟨y, e⟩ := x_if (Option.some.inj hc); subst e; exact ⟨_, congrArg some (if_pos y), fun _ _ => rfl⟩
    | 48, hc => by obtain ⟨y, e⟩ := x_if (Option.some.inj hc); subst e; exact ⟨_, congrArg some (if_pos y), fun _ _ => rfl⟩
    | 49, hc => by obtain ⟨y, e⟩ := x_if (Option.some.inj hc); subst e; exact ⟨_, congrArg some (if_pos y), fun _ _ => rfl⟩
    | 50, hc => by obtain ⟨y, e⟩ := x_if (Option.some.inj hc); subst e; exact ⟨_, congrArg some (if_pos y), fun _ _ => rfl⟩
    | 51, hc => by obtain ⟨y, e⟩ := x_if (Option.some.inj hc); subst e; exact ⟨_, congrArg some (if_pos y), fun _ _ => rfl⟩
    | 52, hc => by obtain ⟨y, e⟩ := x_if (Option.some.inj hc); subst e; exact ⟨_, congrArg some (if_pos y), fun _ _ => rfl⟩
    | 53, hc => by obtain ⟨y, e⟩ := x_if (Option.some.inj hc); subst e; exact ⟨_, congrArg some (if_pos y), fun _ _ => rfl⟩
    | 54, hc => by obtain ⟨y, e⟩ := x_if (Option.some.inj hc); subst e; exact ⟨_, congrArg some (if_pos y), fun _ _ => rfl⟩
    | 55, hc => by obtain ⟨y, e⟩ := x_if (Option.some.inj hc); subst e; exact ⟨_, congrArg some (if_pos y), fun _ _ => rfl⟩
    | 56, hc => by cases Option.some.inj hc
    | n + 57, hc => by simp [xw] at hc
set_option maxRecDepth 20000 in
theorem x_copy19 {σ : Type} {l : Launch} {G : rr_G} {d lo : Nat} {rv : σ → Option Value} {w : σ → rr_H} {U V : σ → Nat} {uu vv pc : Nat} {lv : List (Nat × Value)} {st : List Value} {o : Option σ} {P S : rr_T} {cc : ByteArray} {y : MethodName} {nL : Nat} {ret : Option FieldType} {len : Int32} (hy : y.cls = RX5) (hg : gC S 19 len = true) (hd2 : 2 ≤ d) (hlo : 62 ≤ lo) (h1 : decode cc pc = .ok (.invokestatic 19, 3)) (h2 : decode cc (pc + 3) = .ok (.putfield 9, 3)) (hl : lv.all (fun q => rr_fx fxX q.2) = true) (hs : st.all (rr_fx fxX) = true) (hct : (st.map fun v => v.category).sum ≤ 7) (hl2 : lv.all (fun q => rr_pf (xq 19) q.2) = true) (hs2 : st.all (rr_pf (xq 19)) = true)
    (kk : RR l G (y, cc, nL, ret) d lo fxX rv w U V (uu + 1) (vv + len.toNatClampNeg) (pc + 6) lv st (xw P (xCp S 19 len)) o) : RR l G (y, cc, nL, ret) d lo fxX rv w U V uu vv pc lv (.int len :: .ref 19 :: .ref 18 :: st) (xw P S) o := by
  obtain ⟨ycls, yn, yd⟩ := y
  have hy : ycls = RX5 := hy
  subst hy
  have hk := s5_19
  refine rr_eq (show o = (some (uu + 1, vv + len.toNatClampNeg) : Option (Nat × Nat)).bind (fun _ => o) from rfl) ?_
  refine rr_callS (As := [.ref 19, .int len]) (rest := .ref 18 :: st) (tJ_copyOf_19 P S len uu vv hg) hk.1 hk.2.1 hk.2.2 rfl ⟨by omega, by show 8 + (3 + 11) + 40 ≤ lo; omega⟩ (fun _ z => z) hl (by show (rr_fx fxX (.ref 18) && st.all (rr_fx fxX)) = true; rw [hs]; rfl) (by show 1 + (st.map fun v => v.category).sum ≤ 8; omega) rfl h1 (fun q hq => ?_)
  cases hq
  have e1 : uu + (uu + 1 - uu) = uu + 1 := by omega
  have e2 : vv + (vv + len.toNatClampNeg - vv) = vv + len.toNatClampNeg := by omega
  show RR l G (_, cc, nL, ret) d lo fxX rv w U V (uu + (uu + 1 - uu)) (vv + (vv + len.toNatClampNeg - vv)) (pc + 3) lv (.ref 56 :: .ref 18 :: st) ((xw P S).set 56 (some (.inl (1, len.toNatClampNeg, .inr (.inl (va_cpy (S.2.2.1 19) (fun _ => 0) 0 0 (jMin (nI (S.2.2.2 19)) len).toNatClampNeg)))))) o
  rw [e1, e2]
  refine rr_put cl5 k5_9 (Nat.le_of_ble_eq_true rfl) rfl rfl rfl rfl (Nat.le_of_ble_eq_true rfl) h2 rfl ?_
  exact rr_view (h' := xw P (xCp S 19 len)) (xq 19) xvc19 (xq_inj rfl) (xq_fx rfl) hl2 hs2 kk
set_option maxRecDepth 20000 in
theorem tJ_copyOf_27 {l : Launch} {G : rr_G} (P S : rr_T) (len : Int32) (u v : Nat) (hg : gC S 27 len = true) : TT l G mJ7_copyOf_c38d5 1 40 fxX rvC (fun _ => (xw P S).set 56 (some (.inl (1, len.toNatClampNeg, .inr (.inl (va_cpy (S.2.2.1 27) (fun _ => 0) 0 0 (jMin (nI (S.2.2.2 27)) len).toNatClampNeg)))))) (fun q => q.1) (fun q => q.2) u v [.ref 27, .int len] (xw P S) (some (u + 1, v + len.toNatClampNeg)) := by
  obtain ⟨g1, g2, g3, g4, g5⟩ := gC_and hg
  have hz := inb_in g1
  have hlt : len.toNatClampNeg < 100000 := x_lt hz
  have hm := inb_in g3
  refine TT.by (by decide) (Nat.le_of_ble_eq_true rfl) (lv := [(0, .ref 27), (1, .int len)]) rfl ?_
  refine rr_iload_n dJ7_copyOf_c38d5_0 rfl 1 rfl ?_
  refine rr_aload_n dJ7_copyOf_c38d5_1 rfl 0 rfl ?_
  refine rr_alen (by decide) rfl dJ7_copyOf_c38d5_2 ?_
  refine rr_eq (if_neg g2 : (if len = nI (S.2.2.2 27) then none else some (u + 1, v + len.toNatClampNeg)) = _).symm ?_
  refine rr_icmp_ne (tgt := 14) dJ7_copyOf_c38d5_3 (by decide) (fun _ => ?_) (fun _ => rr_none)
  refine rr_iload_n dJ7_copyOf_c38d5_14 rfl 1 rfl ?_
  refine rr_newa (ty := .long) (t := 1) (N' := len.toNatClampNeg) (x := .inr (.inl (fun _ => 0))) 56 rfl rfl (fun _ => rfl) (fun _ => rfl) (fun _ => rfl) aJ (fun q => hz (Or.inl q)) rfl (by show len.toNatClampNeg * 8 ≤ 536870912; omega) rfl (x_no56 P S) rfl (rr_n56L rfl) (rr_n56S rfl) dJ7_copyOf_c38d5_15 rfl ?_
  refine rr_astore_n (lv' := [(2, .ref 56), (0, .ref 27), (1, .int len)]) dJ7_copyOf_c38d5_17 rfl (by decide) rfl ?_
  refine rr_aload_n dJ7_copyOf_c38d5_18 rfl 1 rfl ?_
  refine rr_iconst (v := 0) dJ7_copyOf_c38d5_19 (by decide) ?_
  refine rr_aload_n dJ7_copyOf_c38d5_20 rfl 0 rfl ?_
  refine rr_iconst (v := 0) dJ7_copyOf_c38d5_21 (by decide) ?_
  refine rr_aload_n dJ7_copyOf_c38d5_22 rfl 1 rfl ?_
  refine rr_alen (t := 1) (len := S.2.2.2 27) (by decide) rfl dJ7_copyOf_c38d5_23 ?_
  refine rr_iload_n dJ7_copyOf_c38d5_24 rfl 2 rfl ?_
  refine rr_mmin mkJ7_304 (Nat.le_of_ble_eq_true rfl) (Nat.le_of_ble_eq_true rfl) dJ7_copyOf_c38d5_25 ?_
  refine rr_copyL (a := 27) (b := 56) (n0 := S.2.2.2 27) (n1 := len.toNatClampNeg) (f := S.2.2.1 27) (g := fun _ => 0) cJ7_150 rfl rfl (by decide) (by decide) (fun q => hm (Or.inl q)) (by rw [show (0 : Int32).toNatClampNeg = 0 from rfl, Nat.zero_add]; exact g4) (by rw [show (0 : Int32).toNatClampNeg = 0 from rfl, Nat.zero_add]; exact g5) (Nat.le_of_ble_eq_true rfl) (Nat.le_of_ble_eq_true rfl) dJ7_copyOf_c38d5_28 (h' := (xw P S).set 56 (some (.inl (1, len.toNatClampNeg, .inr (.inl (va_cpy (S.2.2.1 27) (fun _ => 0) 0 0 (jMin (nI (S.2.2.2 27)) len).toNatClampNeg)))))) rfl ?_
  refine rr_aload_n dJ7_copyOf_c38d5_31 rfl 0 rfl ?_
  exact rr_aret dJ7_copyOf_c38d5_32 rfl (Or.inr ⟨_, rfl⟩) (Or.inr ⟨_, rfl⟩) rfl rfl rfl rfl
set_option maxRecDepth 20000 in
theorem xvc27 {P S : rr_T} {len : Int32} : ∀ (n : Nat) (c' : va_E), (xw P (xCp S 27 len))[n]? = some (some c') → ∃ c, (((xw P S).set 56 (some (.inl (1, len.toNatClampNeg, .inr (.inl (va_cpy (S.2.2.1 27) (fun _ => 0) 0 0 (jMin (nI (S.2.2.2 27)) len).toNatClampNeg)))))).set 26 (some (.inr (5, (xF26 S).set 0 (.ref 56)))))[(xq 27) n]? = some (some c) ∧ ∀ (cy : Nat → ClassId) (ad : Nat → Nat), a_c cy (fun k => ad ((xq 27) k)) c' = a_c cy ad c := by
  intro n c' hc
  exact match n, hc with
    | 0, hc => by have e := Option.some.inj (Option.some.inj hc); subst e; exact ⟨_, rfl, fun _ _ => rfl⟩
    | 1, hc => by have e := Option.some.inj (Option.some.inj hc); subst e; exact ⟨_, rfl, fun _ _ => rfl⟩
    | 2, hc => by have e := Option.some.inj (Option.some.inj hc); subst e; exact ⟨_, rfl, fun _ _ => rfl⟩
    | 3, hc => by have e := Option.some.inj (Option.some.inj hc); subst e; exact ⟨_, rfl, fun _ _ => rfl⟩
    | 4, hc => by have e := Option.some.inj (Option.some.inj hc); subst e; exact ⟨_, rfl, fun _ _ => rfl⟩
    | 5, hc => by have e := Option.some.inj (Option.some.inj hc); subst e; exact ⟨_, rfl, fun _ _ => rfl⟩
    | 6, hc => by have e := Option.some.inj (Option.some.inj hc); subst e; exact ⟨_, rfl, fun _ _ => rfl⟩
    | 7, hc => by have e := Option.some.inj (Option.some.inj hc); subst e; exact ⟨_, rfl, fun _ _ => a_c_congr (fun k ⟨j, hj⟩ => congrArg _ (xRl_pi (a := 27) (by decide) hj))⟩
    | 8, hc => by have e := Option.some.inj (Option.some.inj hc); subst e; exact ⟨_, rfl, fun _ _ => rfl⟩
    | 9, hc => by have e := Option.some.inj (Option.some.inj hc); subst e; exact ⟨_, rfl, fun _ _ => a_c_congr (fun k ⟨j, hj⟩ => congrArg _ (xSl_pi (a := 27) (by decide) hj))⟩
    | 10, hc => by have e := Option.some.inj (Option.some.inj hc); subst e; exact ⟨_, rfl, fun _ _ => rfl⟩
    | 11, hc => by have e := Option.some.inj (Option.some.inj hc); subst e; exact ⟨_, rfl, fun _ _ => rfl⟩
    | 12, hc => by have e := Option.some.inj (Option.some.inj hc); subst e; exact ⟨_, rfl, fun _ _ => rfl⟩
    | 13, hc => by have e := Option.some.inj (Option.some.inj hc); subst e; exact ⟨_, rfl, fun _ _ => rfl⟩
    | 14, hc => by have e := Option.some.inj (Option.some.inj hc); subst e; exact ⟨_, rfl, fun _ _ => rfl⟩
    | 15, hc => by have e := Option.some.inj (Option.some.inj hc); subst e; exact ⟨_, rfl, fun _ _ => rfl⟩
    | 16, hc => by have e := Option.some.inj (Option.some.inj hc); subst e; exact ⟨_, rfl, fun _ _ => rfl⟩
    | 17, hc => by have e := Option.some.inj (Option.some.inj hc); subst e; exact ⟨_, rfl, fun _ _ => rfl⟩
    | 18, hc => by have e := Option.some.inj (Option.some.inj hc); subst e; exact ⟨_, rfl, fun _ _ => rfl⟩
    | 19, hc => by have e := Option.some.inj (Option.some.inj hc); subst e; exact ⟨_, rfl, fun _ _ => rfl⟩
    | 20, hc => by have e := Option.some.inj (Option.some.inj hc); subst e; exact ⟨_, rfl, fun _ _ => rfl⟩
    | 21, hc => by have e := Option.some.inj (Option.some.inj hc); subst e; exact ⟨_, rfl, fun _ _ => rfl⟩
    | 22, hc => by have e := Option.some.inj (Option.some.inj hc); subst e; exact ⟨_, rfl, fun _ _ => rfl⟩
    | 23, hc => by have e := Option.some.inj (Option.some.inj hc); subst e; exact ⟨_, rfl, fun _ _ => rfl⟩
    | 24, hc => by have e := Option.some.inj (Option.some.inj hc); subst e; exact ⟨_, rfl, fun _ _ => rfl⟩
    | 25, hc => by have e := Option.some.inj (Option.some.inj hc); subst e; exact ⟨_, rfl, fun _ _ => rfl⟩
    | 26, hc => by have e := Option.some.inj (Option.some.inj hc); subst e; exact ⟨_, rfl, fun _ _ => rfl⟩
    | 27, hc => by have e := Option.some.inj (Option.some.inj hc); subst e; exact ⟨_, rfl, fun _ _ => rfl⟩
    | 28, hc => by have e := Option.some.inj (Option.some.inj hc); subst e; exact ⟨_, rfl, fun _ _ => rfl⟩
    | 29, hc => by have e := Option.some.inj (Option.some.inj hc); subst e; exact ⟨_, rfl, fun _ _ => rfl⟩
    | 30, hc => by have e := Option.some.inj (Option.some.inj hc); subst e; exact ⟨_, rfl, fun _ _ => rfl⟩
    | 31, hc => by have e := Option.some.inj (Option.some.inj hc); subst e; exact ⟨_, rfl, fun _ _ => rfl⟩
    | 32, hc => by have e := Option.some.inj (Option.some.inj hc); subst e; exact ⟨_, rfl, fun _ _ => rfl⟩
    | 33, hc => by have e := Option.some.inj (Option.some.inj hc); subst e; exact ⟨_, rfl, fun _ _ => rfl⟩
    | 34, hc => by obtain ⟨y, e⟩ := x_if (Option.some.inj hc); subst e; exact ⟨_, congrArg some (if_pos y), fun _ _ => rfl⟩
    | 35, hc => by obtain ⟨y, e⟩ := x_if (Option.some.inj hc); subst e; exact ⟨_, congrArg some (if_pos y), fun _ _ => rfl⟩
    | 36, hc => by obtain ⟨y, e⟩ := x_if (Option.some.inj hc); subst e; exact ⟨_, congrArg some (if_pos y), fun _ _ => rfl⟩
    | 37, hc => by obtain ⟨y, e⟩ := x_if (Option.some.inj hc); subst e; exact ⟨_, congrArg some (if_pos y), fun _ _ => rfl⟩
    | 38, hc => by obtain ⟨y, e⟩ := x_if (Option.some.inj hc); subst e; exact ⟨_, congrArg some (if_pos y), fun _ _ => rfl⟩
    | 39, hc => by obtain ⟨y, e⟩ := x_if (Option.some.inj hc); subst e; exact ⟨_, congrArg some (if_pos y), fun _ _ => rfl⟩
    | 40, hc => by obtain ⟨y, e⟩ := x_if (Option.some.inj hc); subst e; exact ⟨_, congrArg some (if_pos y), fun _ _ => rfl⟩
    | 41, hc => by obtain ⟨y, e⟩ := x_if (Option.some.inj hc); subst e; exact ⟨_, congrArg some (if_pos y), fun _ _ => rfl⟩
    | 42, hc => by obtain ⟨y, e⟩ := x_if (Option.some.inj hc); subst e; exact ⟨_, congrArg some (if_pos y), fun _ _ => rfl⟩
    | 43, hc => by obtain ⟨y, e⟩ := x_if (Option.some.inj hc); subst e; exact ⟨_, congrArg some (if_pos y), fun _ _ => rfl⟩
    | 44, hc => by obtain ⟨y, e⟩ := x_if (Option.some.inj hc); subst e; exact ⟨_, congrArg some (if_pos y), fun _ _ => rfl⟩
    | 45, hc => by obtain ⟨y, e⟩ := x_if (Option.some.inj hc); subst e; exact ⟨_, congrArg some (if_pos y), fun _ _ => rfl⟩
    | 46, hc => by obtain ⟨y, e⟩ := x_if (Option.some.inj hc); subst e; exact ⟨_, congrArg some (if_pos y), fun _ _ => rfl⟩
    | 47, hc => by obtain ⟨y, e⟩ := x_if (Option.some.inj hc); subst e; exact ⟨_, congrArg some (if_pos y), fun _ _ => rfl⟩
    | 48, hc => by obtain ⟨y, e⟩ := x_if (Option.some.inj hc); subst e; exact ⟨_, congrArg some (if_pos y), fun _ _ => rfl⟩
    | 49, hc => by obtain ⟨y, e⟩ := x_if (Option.some.inj hc); subst e; exact ⟨_, congrArg some (if_pos y), fun _ _ => rfl⟩
    | 50, hc => by obtain ⟨y, e⟩ := x_if (Option.some.inj hc); subst e; exact ⟨_, congrArg some (if_pos y), fun _ _ => rfl⟩
    | 51, hc => by obtain ⟨y, e⟩ := x_if (Option.some.inj hc); subst e; exact ⟨_, congrArg some (if_pos y), fun _ _ => rfl⟩
    | 52, hc => by obtain ⟨y, e⟩ := x_if (Option.some.inj hc); subst e; exact ⟨_, congrArg some (if_pos y), fun _ _ => rfl⟩
    | 53, hc => by obtain ⟨y, e⟩ := x_if (Option.some.inj hc); subst e; exact ⟨_, congrArg some (if_pos y), fun _ _ => rfl⟩
    | 54, hc => by obtain ⟨y, e⟩ := x_if (Option.some.inj hc); subst e; exact ⟨_, congrArg some (if_pos y), fun _ _ => rfl⟩
    | 55, hc => by obtain ⟨y, e⟩ := x_if (Option.some.inj hc); subst e; exact ⟨_, congrArg some (if_pos y), fun _ _ => rfl⟩
    | 56, hc => by cases Option.some.inj hc
    | n + 57, hc => by simp [xw] at hc
set_option maxRecDepth 20000 in
theorem x_copy27 {σ : Type} {l : Launch} {G : rr_G} {d lo : Nat} {rv : σ → Option Value} {w : σ → rr_H} {U V : σ → Nat} {uu vv pc : Nat} {lv : List (Nat × Value)} {st : List Value} {o : Option σ} {P S : rr_T} {cc : ByteArray} {y : MethodName} {nL : Nat} {ret : Option FieldType} {len : Int32} (hy : y.cls = RX5) (hg : gC S 27 len = true) (hd2 : 2 ≤ d) (hlo : 62 ≤ lo) (h1 : decode cc pc = .ok (.invokestatic 19, 3)) (h2 : decode cc (pc + 3) = .ok (.putfield 9, 3)) (hl : lv.all (fun q => rr_fx fxX q.2) = true) (hs : st.all (rr_fx fxX) = true) (hct : (st.map fun v => v.category).sum ≤ 7) (hl2 : lv.all (fun q => rr_pf (xq 27) q.2) = true) (hs2 : st.all (rr_pf (xq 27)) = true)
    (kk : RR l G (y, cc, nL, ret) d lo fxX rv w U V (uu + 1) (vv + len.toNatClampNeg) (pc + 6) lv st (xw P (xCp S 27 len)) o) : RR l G (y, cc, nL, ret) d lo fxX rv w U V uu vv pc lv (.int len :: .ref 27 :: .ref 26 :: st) (xw P S) o := by
  obtain ⟨ycls, yn, yd⟩ := y
  have hy : ycls = RX5 := hy
  subst hy
  have hk := s5_19
  refine rr_eq (show o = (some (uu + 1, vv + len.toNatClampNeg) : Option (Nat × Nat)).bind (fun _ => o) from rfl) ?_
  refine rr_callS (As := [.ref 27, .int len]) (rest := .ref 26 :: st) (tJ_copyOf_27 P S len uu vv hg) hk.1 hk.2.1 hk.2.2 rfl ⟨by omega, by show 8 + (3 + 11) + 40 ≤ lo; omega⟩ (fun _ z => z) hl (by show (rr_fx fxX (.ref 26) && st.all (rr_fx fxX)) = true; rw [hs]; rfl) (by show 1 + (st.map fun v => v.category).sum ≤ 8; omega) rfl h1 (fun q hq => ?_)
  cases hq
  have e1 : uu + (uu + 1 - uu) = uu + 1 := by omega
  have e2 : vv + (vv + len.toNatClampNeg - vv) = vv + len.toNatClampNeg := by omega
  show RR l G (_, cc, nL, ret) d lo fxX rv w U V (uu + (uu + 1 - uu)) (vv + (vv + len.toNatClampNeg - vv)) (pc + 3) lv (.ref 56 :: .ref 26 :: st) ((xw P S).set 56 (some (.inl (1, len.toNatClampNeg, .inr (.inl (va_cpy (S.2.2.1 27) (fun _ => 0) 0 0 (jMin (nI (S.2.2.2 27)) len).toNatClampNeg)))))) o
  rw [e1, e2]
  refine rr_put cl5 k5_9 (Nat.le_of_ble_eq_true rfl) rfl rfl rfl rfl (Nat.le_of_ble_eq_true rfl) h2 rfl ?_
  exact rr_view (h' := xw P (xCp S 27 len)) (xq 27) xvc27 (xq_inj rfl) (xq_fx rfl) hl2 hs2 kk

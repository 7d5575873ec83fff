/-! Math.max, Math.min -/
def jMax (x y : Int32) : Int32 := if x < y then y else x
def jMin (x y : Int32) : Int32 := if y < x then y else x
def rr_kMax (own : String) (idx : Nat) : Prop := Cond.methodLink own idx Lib.Math.max.name ∈ rr_ws ∧ Cond.static Lib.Math.max.name ∈ rr_ws ∧ Cond.initialized "java/lang/Math" ∈ rr_ws ∧ Cond.code Lib.Math.max.name Lib.Math.max.code 2 (some .int) ∈ rr_ws
theorem rr_mmax {σ : Type} {l : Launch} {G : rr_G} {mt : rr_M} {d lo : Nat} {fx : Nat → Bool} {rv : σ → Option Value} {w : σ → rr_H} {U V : σ → Nat} {uu vv pc idx : Nat} {lv : List (Nat × Value)} {st : List Value} {h : rr_H} {o : Option σ} {x y : Int32} (hk : rr_kMax mt.1.cls idx) (hfr : 1 ≤ d) (hlo : (st.map fun v => v.category).sum + 13 ≤ lo) (hd : decode mt.2.1 pc = .ok (.invokestatic idx, 3)) (kk : RR l G mt d lo fx rv w U V uu vv (pc + 3) lv (.int (jMax x y) :: st) h o) : RR l G mt d lo fx rv w U V uu vv pc lv (.int y :: .int x :: st) h o := by
  intro q ho
  obtain ⟨k1, k2, K0⟩ := kk q ho
  refine ⟨k1, k2, ?_⟩
  intro p e s m args below meth c ad0 ad A H locs cells slots mc ms ls C X L hcc hs
  have K := K0 p e s m args below meth c ad0 ad A H locs cells slots mc ms ls C X L hcc hs
  obtain ⟨hx, hb, hml, hown, hts, hr, hl0, hnm, hK⟩ := C
  obtain ⟨a1, a2, a3, a4⟩ := hk
  refine va_mmax hx hb (hml.trans L.1.symm) hown (hts _ a1) (hts _ a2) (hts _ a3) (hts _ a4) hfr ?_ (by show cells ≤ mc; omega) (by show slots ≤ ms; omega) hd K
  show ((st.map (a_v ad)).map fun v => v.category).sum + 13 ≤ lo
  rw [List.map_map]
  simpa [Function.comp_def, a_v_cat] using hlo
def rr_kMin (own : String) (idx : Nat) : Prop := Cond.methodLink own idx Lib.Math.min.name ∈ rr_ws ∧ Cond.static Lib.Math.min.name ∈ rr_ws ∧ Cond.initialized "java/lang/Math" ∈ rr_ws ∧ Cond.code Lib.Math.min.name Lib.Math.min.code 2 (some .int) ∈ rr_ws
theorem rr_mmin {σ : Type} {l : Launch} {G : rr_G} {mt : rr_M} {d lo : Nat} {fx : Nat → Bool} {rv : σ → Option Value} {w : σ → rr_H} {U V : σ → Nat} {uu vv pc idx : Nat} {lv : List (Nat × Value)} {st : List Value} {h : rr_H} {o : Option σ} {x y : Int32} (hk : rr_kMin mt.1.cls idx) (hfr : 1 ≤ d) (hlo : (st.map fun v => v.category).sum + 13 ≤ lo) (hd : decode mt.2.1 pc = .ok (.invokestatic idx, 3)) (kk : RR l G mt d lo fx rv w U V uu vv (pc + 3) lv (.int (jMin x y) :: st) h o) : RR l G mt d lo fx rv w U V uu vv pc lv (.int y :: .int x :: st) h o := by
  intro q ho
  obtain ⟨k1, k2, K0⟩ := kk q ho
  refine ⟨k1, k2, ?_⟩
  intro p e s m args below meth c ad0 ad A H locs cells slots mc ms ls C X L hcc hs
  have K := K0 p e s m args below meth c ad0 ad A H locs cells slots mc ms ls C X L hcc hs
  obtain ⟨hx, hb, hml, hown, hts, hr, hl0, hnm, hK⟩ := C
  obtain ⟨a1, a2, a3, a4⟩ := hk
  refine va_mmin hx hb (hml.trans L.1.symm) hown (hts _ a1) (hts _ a2) (hts _ a3) (hts _ a4) hfr ?_ (by show cells ≤ mc; omega) (by show slots ≤ ms; omega) hd K
  show ((st.map (a_v ad)).map fun v => v.category).sum + 13 ≤ lo
  rw [List.map_map]
  simpa [Function.comp_def, a_v_cat] using hlo
theorem mkJ7_304 : rr_kMin RJ7 304 := ⟨in_rr 540 (by decide +kernel) rfl, in_rr 541 (by decide +kernel) rfl, in_rr 62 (by decide +kernel) rfl, in_rr 542 (by decide +kernel) rfl⟩
theorem mk5_35 : rr_kMin RX5 35 := ⟨in_rr 547 (by decide +kernel) rfl, in_rr 541 (by decide +kernel) rfl, in_rr 62 (by decide +kernel) rfl, in_rr 542 (by decide +kernel) rfl⟩
theorem mk2_90 : rr_kMax RX2 90 := ⟨in_rr 565 (by decide +kernel) rfl, in_rr 566 (by decide +kernel) rfl, in_rr 62 (by decide +kernel) rfl, in_rr 567 (by decide +kernel) rfl⟩
theorem mk7_21 : rr_kMax RX7 21 := ⟨in_rr 594 (by decide +kernel) rfl, in_rr 566 (by decide +kernel) rfl, in_rr 62 (by decide +kernel) rfl, in_rr 567 (by decide +kernel) rfl⟩
theorem mk1_119 : rr_kMin RX1 119 := ⟨in_rr 792 (by decide +kernel) rfl, in_rr 541 (by decide +kernel) rfl, in_rr 62 (by decide +kernel) rfl, in_rr 542 (by decide +kernel) rfl⟩
theorem xR_g {x : Int32} {N : Nat} (y : x.toNatClampNeg < N) (z : vp_in x 6) : 34 ≤ 34 + x.toNatClampNeg ∧ 34 + x.toNatClampNeg < 34 + N ∧ 34 + x.toNatClampNeg < 40 := by
  have : ¬ 6 ≤ x.toNatClampNeg := fun q => z (Or.inr q)
  omega
theorem x_lt {x : Int32} {n : Nat} (z : vp_in x n) : x.toNatClampNeg < n := Nat.not_le.mp (fun q => z (Or.inr q))

/-! ===== a call of the class, of the reference, by its number ===== -/
def xc (op : Nat) (P S : rr_T) (u v : Nat) (a1 a2 a3 a4 a5 : Int32) : Option (Int32 × rr_T × rr_T × Nat × Nat) := match op with
  | 0 => (fX10_kind P S a1).map (fun q => (q.1, P, q.2, u, v))
  | 1 => (fX10_field P S a1 a2 a3).map (fun q => (q.1, P, q.2, u, v))
  | 2 => (fX10_input P S a1).map (fun q => (q.1, P, q.2, u, v))
  | 3 => (fX10_bound P S a1).map (fun q => (q.1, P, q.2, u, v))
  | 4 => fX10_rule P S a1 a2 a3 a4 u v
  | 5 => (fX10_clear P S u v).map (fun q => (q.1, P, q.2.1, q.2.2.1, q.2.2.2))
  | 6 => (fX10_about P S a1).map (fun q => (q, P, S, u, v))
  | 7 => (fX10_many P S u v).map (fun q => (q.1, P, q.2.1, q.2.2.1, q.2.2.2))
  | 8 => (fX10_kept P S u v).map (fun q => (q.1, P, q.2.1, q.2.2.1, q.2.2.2))
  | 9 => (fX10_choice P S a1 a2 u v).map (fun q => (q.1, P, q.2.1, q.2.2.1, q.2.2.2))
  | 10 => (fX10_object P S a1 a2 a3 u v).map (fun q => (q.1, P, q.2.1, q.2.2.1, q.2.2.2))
  | 11 => (fX10_put P S a1).map (fun q => (q.1, P, q.2, u, v))
  | 12 => (fX10_empty P S).map (fun q => (q.1, P, q.2, u, v))
  | 13 => (fX10_rank P S u v).map (fun q => (q.1, P, q.2.1, q.2.2.1, q.2.2.2))
  | 14 => fX10_step P S a1 a2 a3 a4 a5 u v
  | 15 => (fX10_erase P S).map (fun q => (q.1, P, q.2, u, v))
  | 16 => (fX10_ends P S u v).map (fun q => (q.1, P, q.2.1, q.2.2.1, q.2.2.2))
  | 17 => (fX10_end P S a1 a2 u v).map (fun q => (q.1, P, q.2.1, q.2.2.1, q.2.2.2))
  | 18 => (fX10_look P S a1 a2 u v).map (fun q => (q.1, P, q.2.1, q.2.2.1, q.2.2.2))
  | 19 => (fX10_endOf P S a1 u v).map (fun q => (q.1, P, q.2.1, q.2.2.1, q.2.2.2))
  | _ => none
def mc (op : Nat) (M : rr_T) (a1 a2 a3 a4 a5 : Int32) : Option (Int32 × rr_T) := match op with
  | 0 => fM_kind M a1
  | 1 => fM_field M a1 a2 a3
  | 2 => fM_input M a1
  | 3 => fM_bound M a1
  | 4 => fM_rule M a1 a2 a3 a4
  | 5 => fM_clear M
  | 6 => (fM_about M a1).map (fun q => (q, M))
  | 7 => fM_many M
  | 8 => fM_kept M
  | 9 => fM_choice M a1 a2
  | 10 => fM_object M a1 a2 a3
  | 11 => fM_put M a1
  | 12 => fM_empty M
  | 13 => fM_rank M
  | 14 => fM_step M a1 a2 a3 a4 a5
  | 15 => fM_erase M
  | 16 => fM_ends M
  | 17 => fM_end M a1 a2
  | 18 => fM_look M a1 a2
  | 19 => fM_endOf M a1
  | _ => none
/-- the two states go together: the answers are the same, whatever is called; what is made stays in the room -/
def lz_R (R : Nat → rr_T → rr_T → Nat → Nat → rr_T → Prop) : Prop := R 0 xP0 xS0 0 0 mS0 ∧ (∀ k P S u v M, R k P S u v M → u ≤ 599929 ∧ v ≤ 7101406 ∧ R (k + 1) P S u v M) ∧ ∀ op k P S u v M (a1 a2 a3 a4 a5 : Int32), op < 20 → k < 512 → R k P S u v M → ∃ r P' S' u' v' M', xc op P S u v a1 a2 a3 a4 a5 = some (r, P', S', u', v') ∧ mc op M a1 a2 a3 a4 a5 = some (r, M') ∧ R (k + 1) P' S' u' v' M'
theorem lc_tail {p : Program} {l : Launch} {e : Env} {s : State} {m : MethodId} {b : Nat} {below : List Frame} {meth : Method} {c : Code} {H : Heap} {locs : List Loc} {ls : Array Slot} {G : rr_G} {L k u v : Nat} {xs : Nat → Int32} {x3 : Int32} {P S M : rr_T} {adX adM : Nat → Nat} {R : Nat → rr_T → rr_T → Nat → Nat → rr_T → Prop} (C0 : lw_At p s m meth c b L xs) (C : lz_C G p s m b c) (X : lz_S G adX adM s H locs (xw P S) (mw M)) (hl : lv_has ls 4 [(0, .ref b), (1, .ref (adX 0)), (2, .ref (adM 0)), (3, .int x3)]) (hr : R (k + 1) P S u v M) (ih : ∀ (P' S' : rr_T) (u' v' : Nat) (M' : rr_T) (dX dM : Nat → Nat) (H' : Heap) (locs' : List Loc) (ls' : Array Slot), R (k + 1) P' S' u' v' M' → lz_S G dX dM s H' locs' (xw P' S') (mw M') → lv_has ls' 4 [(0, .ref b), (1, .ref (dX 0)), (2, .ref (dM 0)), (3, .int (x3 + 6))] → W p l e room_1 s m #[Value.ref b] below meth c H' locs' (71 + u') (200844 + v') (lw_Z below #[Value.ref b] s) (F0 m 18 ls' [])) : W p l e room_1 s m #[Value.ref b] below meth c H locs (71 + u) (200844 + v) (lw_Z below #[Value.ref b] s) (F0 m 658 ls []) := by
  obtain ⟨hx, hb, hr0, hml, hown, hts, hX, hbl, hlocks, hgv⟩ := C0
  refine lv_iinc (v := x3 + 6) (lv' := [(3, .int (x3 + 6)), (0, .ref b), (1, .ref (adX 0)), (2, .ref (adM 0))]) hx hb dL_law_658 hl (k := 3) rfl rfl (by decide) rfl (fun ls hl => ?_)
  refine lv_goto (tgt := 18) hx hb dL_law_661 (by decide) ?_
  exact ih P S u v M adX adM H locs ls hr X (lv_sub hl [1, 2, 3, 0] rfl)
set_option maxHeartbeats 4000000 in
set_option maxRecDepth 20000 in
theorem lc_kind {p : Program} {l : Launch} {e : Env} {s : State} {m : MethodId} {b : Nat} {below : List Frame} {meth : Method} {c : Code} {H : Heap} {locs : List Loc} {ls : Array Slot} {G : rr_G} {L k u v : Nat} {xs : Nat → Int32} {x3 : Int32} {P S M : rr_T} {adX adM : Nat → Nat} {R : Nat → rr_T → rr_T → Nat → Nat → rr_T → Prop} (C0 : lw_At p s m meth c b L xs) (C : lz_C G p s m b c) (X : lz_S G adX adM s H locs (xw P S) (mw M)) (hl : lv_has ls 4 [(0, .ref b), (1, .ref (adX 0)), (2, .ref (adM 0)), (3, .int x3)]) (hR : lz_R R) (hk : k < 512) (hr : R k P S u v M) (z1 : vp_in (x3 + 1) L) (z2 : vp_in (x3 + 2) L) (z3 : vp_in (x3 + 3) L) (z4 : vp_in (x3 + 4) L) (z5 : vp_in (x3 + 5) L) (ih : ∀ (P' S' : rr_T) (u' v' : Nat) (M' : rr_T) (dX dM : Nat → Nat) (H' : Heap) (locs' : List Loc) (ls' : Array Slot), R (k + 1) P' S' u' v' M' → lz_S G dX dM s H' locs' (xw P' S') (mw M') → lv_has ls' 4 [(0, .ref b), (1, .ref (dX 0)), (2, .ref (dM 0)), (3, .int (x3 + 6))] → W p l e room_1 s m #[Value.ref b] below meth c H' locs' (71 + u') (200844 + v') (lw_Z below #[Value.ref b] s) (F0 m 18 ls' [])) : W p l e room_1 s m #[Value.ref b] below meth c H locs (71 + u) (200844 + v) (lw_Z below #[Value.ref b] s) (F0 m 128 ls []) := by
  obtain ⟨r, P', S', u', v', M', e1, e2, hr'⟩ := hR.2.2 0 k P S u v M (xs (x3 + 1).toNatClampNeg) 0 0 0 0 (by decide) hk hr
  have hu := hR.2.1 _ _ _ _ _ _ hr
  have hu' := hR.2.1 _ _ _ _ _ _ hr'
  have e1 : (fX10_kind P S (xs (x3 + 1).toNatClampNeg)).map (fun q => (q.1, P, q.2, u, v)) = _ := e1
  obtain ⟨q, hq, e1⟩ := Option.map_eq_some_iff.mp e1
  cases e1
  have hq2 : fM_kind M (xs (x3 + 1).toNatClampNeg) = _ := e2
  obtain ⟨hx, hb, hr0, hml, hown, hts, hXs, hbl, hlocks, hgv⟩ := id C0
  have hbA : ¬ (fun q : Nat => s.heap.size ≤ q) b := Nat.not_le.mpr hbl
  refine lv_aload_n hx hb dL_law_128 rfl (lv_at hl 1 rfl) ?_
  refine lv_aload_n hx hb dL_law_129 rfl (lv_at hl 0 rfl) ?_
  refine lv_iload_n hx hb dL_law_130 rfl (lv_at hl 3 rfl) ?_
  refine lv_iconst (v := 1) hx hb dL_law_131 (by decide) ?_
  refine lv_iadd hx hb dL_law_132 ?_
  refine va_sld hx hb hXs hbl hbA X.2.2 z1 dL_law_133 ?_
  refine lz_callX (As := [.int (xs (x3 + 1).toNatClampNeg)]) (rest := []) C X (tX10_kind P S (xs (x3 + 1).toNatClampNeg)) hq lv_13 ll_13 rfl rfl rfl (fun _ => rfl) ⟨Nat.le_of_ble_eq_true rfl, Nat.le_of_ble_eq_true rfl⟩ (Nat.le_of_ble_eq_true rfl) rfl hl.1 dL_law_134 (by show 71 + u + 0 ≤ 600000; have := hu.1; omega) (by show 200844 + v + 0 ≤ 7302250; have := hu.2.1; omega) (fun ad1 H1 locs1 f0 X1 => ?_)
  have X1 : lz_S G ad1 adM s H1 locs1 (xw P q.2) (mw M) := X1
  show W p l e room_1 s m #[Value.ref b] below meth c H1 locs1 (71 + u) (200844 + v) (lw_Z below #[Value.ref b] s) (F0 m 137 ls [.int q.1])
  refine lv_aload_n hx hb dL_law_137 rfl (lv_at hl 2 rfl) ?_
  refine lv_aload_n hx hb dL_law_138 rfl (lv_at hl 0 rfl) ?_
  refine lv_iload_n hx hb dL_law_139 rfl (lv_at hl 3 rfl) ?_
  refine lv_iconst (v := 1) hx hb dL_law_140 (by decide) ?_
  refine lv_iadd hx hb dL_law_141 ?_
  refine va_sld hx hb hXs hbl hbA X1.2.2 z1 dL_law_142 ?_
  refine lz_callM (As := [.int (xs (x3 + 1).toNatClampNeg)]) (rest := [.int q.1]) C X1 (tM_kind M (xs (x3 + 1).toNatClampNeg)) hq2 lv_17 ll_17 rfl rfl rfl (fun _ => rfl) ⟨Nat.le_of_ble_eq_true rfl, Nat.le_of_ble_eq_true rfl⟩ (Nat.le_of_ble_eq_true rfl) rfl hl.1 dL_law_143 (by show 71 + u + 0 ≤ 600000; have := hu'.1; omega) (by show 200844 + v + 0 ≤ 7302250; have := hu'.2.1; omega) (fun ad2 H2 locs2 g0 X2 => ?_)
  have X2 : lz_S G ad1 ad2 s H2 locs2 (xw P q.2) (mw M') := X2
  show W p l e room_1 s m #[Value.ref b] below meth c H2 locs2 (71 + u) (200844 + v) (lw_Z below #[Value.ref b] s) (F0 m 146 ls [.int q.1, .int q.1])
  refine lv_icmp_eq (tgt := 658) hx hb dL_law_146 (by decide) (fun _ => ?_) (fun z => absurd rfl z)
  exact lc_tail C0 C X2 (by rw [f0, g0]; exact hl) hr' ih
set_option maxHeartbeats 4000000 in
set_option maxRecDepth 20000 in
theorem lc_field {p : Program} {l : Launch} {e : Env} {s : State} {m : MethodId} {b : Nat} {below : List Frame} {meth : Method} {c : Code} {H : Heap} {locs : List Loc} {ls : Array Slot} {G : rr_G} {L k u v : Nat} {xs : Nat → Int32} {x3 : Int32} {P S M : rr_T} {adX adM : Nat → Nat} {R : Nat → rr_T → rr_T → Nat → Nat → rr_T → Prop} (C0 : lw_At p s m meth c b L xs) (C : lz_C G p s m b c) (X : lz_S G adX adM s H locs (xw P S) (mw M)) (hl : lv_has ls 4 [(0, .ref b), (1, .ref (adX 0)), (2, .ref (adM 0)), (3, .int x3)]) (hR : lz_R R) (hk : k < 512) (hr : R k P S u v M) (z1 : vp_in (x3 + 1) L) (z2 : vp_in (x3 + 2) L) (z3 : vp_in (x3 + 3) L) (z4 : vp_in (x3 + 4) L) (z5 : vp_in (x3 + 5) L) (ih : ∀ (P' S' : rr_T) (u' v' : Nat) (M' : rr_T) (dX dM : Nat → Nat) (H' : Heap) (locs' : List Loc) (ls' : Array Slot), R (k + 1) P' S' u' v' M' → lz_S G dX dM s H' locs' (xw P' S') (mw M') → lv_has ls' 4 [(0, .ref b), (1, .ref (dX 0)), (2, .ref (dM 0)), (3, .int (x3 + 6))] → W p l e room_1 s m #[Value.ref b] below meth c H' locs' (71 + u') (200844 + v') (lw_Z below #[Value.ref b] s) (F0 m 18 ls' [])) : W p l e room_1 s m #[Value.ref b] below meth c H locs (71 + u) (200844 + v) (lw_Z below #[Value.ref b] s) (F0 m 151 ls []) := by
  obtain ⟨r, P', S', u', v', M', e1, e2, hr'⟩ := hR.2.2 1 k P S u v M (xs (x3 + 1).toNatClampNeg) (xs (x3 + 2).toNatClampNeg) (xs (x3 + 3).toNatClampNeg) 0 0 (by decide) hk hr
  have hu := hR.2.1 _ _ _ _ _ _ hr
  have hu' := hR.2.1 _ _ _ _ _ _ hr'
  have e1 : (fX10_field P S (xs (x3 + 1).toNatClampNeg) (xs (x3 + 2).toNatClampNeg) (xs (x3 + 3).toNatClampNeg)).map (fun q => (q.1, P, q.2, u, v)) = _ := e1
  obtain ⟨q, hq, e1⟩ := Option.map_eq_some_iff.mp e1
  cases e1
  have hq2 : fM_field M (xs (x3 + 1).toNatClampNeg) (xs (x3 + 2).toNatClampNeg) (xs (x3 + 3).toNatClampNeg) = _ := e2
  obtain ⟨hx, hb, hr0, hml, hown, hts, hXs, hbl, hlocks, hgv⟩ := id C0
  have hbA : ¬ (fun q : Nat => s.heap.size ≤ q) b := Nat.not_le.mpr hbl
  refine lv_aload_n hx hb dL_law_151 rfl (lv_at hl 1 rfl) ?_
  refine lv_aload_n hx hb dL_law_152 rfl (lv_at hl 0 rfl) ?_
  refine lv_iload_n hx hb dL_law_153 rfl (lv_at hl 3 rfl) ?_
  refine lv_iconst (v := 1) hx hb dL_law_154 (by decide) ?_
  refine lv_iadd hx hb dL_law_155 ?_
  refine va_sld hx hb hXs hbl hbA X.2.2 z1 dL_law_156 ?_
  refine lv_aload_n hx hb dL_law_157 rfl (lv_at hl 0 rfl) ?_
  refine lv_iload_n hx hb dL_law_158 rfl (lv_at hl 3 rfl) ?_
  refine lv_iconst (v := 2) hx hb dL_law_159 (by decide) ?_
  refine lv_iadd hx hb dL_law_160 ?_
  refine va_sld hx hb hXs hbl hbA X.2.2 z2 dL_law_161 ?_
  refine lv_aload_n hx hb dL_law_162 rfl (lv_at hl 0 rfl) ?_
  refine lv_iload_n hx hb dL_law_163 rfl (lv_at hl 3 rfl) ?_
  refine lv_iconst (v := 3) hx hb dL_law_164 (by decide) ?_
  refine lv_iadd hx hb dL_law_165 ?_
  refine va_sld hx hb hXs hbl hbA X.2.2 z3 dL_law_166 ?_
  refine lz_callX (As := [.int (xs (x3 + 1).toNatClampNeg), .int (xs (x3 + 2).toNatClampNeg), .int (xs (x3 + 3).toNatClampNeg)]) (rest := []) C X (tX10_field P S (xs (x3 + 1).toNatClampNeg) (xs (x3 + 2).toNatClampNeg) (xs (x3 + 3).toNatClampNeg)) hq lv_18 ll_18 rfl rfl rfl (fun _ => rfl) ⟨Nat.le_of_ble_eq_true rfl, Nat.le_of_ble_eq_true rfl⟩ (Nat.le_of_ble_eq_true rfl) rfl hl.1 dL_law_167 (by show 71 + u + 0 ≤ 600000; have := hu.1; omega) (by show 200844 + v + 0 ≤ 7302250; have := hu.2.1; omega) (fun ad1 H1 locs1 f0 X1 => ?_)
  have X1 : lz_S G ad1 adM s H1 locs1 (xw P q.2) (mw M) := X1
  show W p l e room_1 s m #[Value.ref b] below meth c H1 locs1 (71 + u) (200844 + v) (lw_Z below #[Value.ref b] s) (F0 m 170 ls [.int q.1])
  refine lv_aload_n hx hb dL_law_170 rfl (lv_at hl 2 rfl) ?_
  refine lv_aload_n hx hb dL_law_171 rfl (lv_at hl 0 rfl) ?_
  refine lv_iload_n hx hb dL_law_172 rfl (lv_at hl 3 rfl) ?_
  refine lv_iconst (v := 1) hx hb dL_law_173 (by decide) ?_
  refine lv_iadd hx hb dL_law_174 ?_
  refine va_sld hx hb hXs hbl hbA X1.2.2 z1 dL_law_175 ?_
  refine lv_aload_n hx hb dL_law_176 rfl (lv_at hl 0 rfl) ?_
  refine lv_iload_n hx hb dL_law_177 rfl (lv_at hl 3 rfl) ?_
  refine lv_iconst (v := 2) hx hb dL_law_178 (by decide) ?_
  refine lv_iadd hx hb dL_law_179 ?_
  refine va_sld hx hb hXs hbl hbA X1.2.2 z2 dL_law_180 ?_
  refine lv_aload_n hx hb dL_law_181 rfl (lv_at hl 0 rfl) ?_
  refine lv_iload_n hx hb dL_law_182 rfl (lv_at hl 3 rfl) ?_
  refine lv_iconst (v := 3) hx hb dL_law_183 (by decide) ?_
  refine lv_iadd hx hb dL_law_184 ?_
  refine va_sld hx hb hXs hbl hbA X1.2.2 z3 dL_law_185 ?_
  refine lz_callM (As := [.int (xs (x3 + 1).toNatClampNeg), .int (xs (x3 + 2).toNatClampNeg), .int (xs (x3 + 3).toNatClampNeg)]) (rest := [.int q.1]) C X1 (tM_field M (xs (x3 + 1).toNatClampNeg) (xs (x3 + 2).toNatClampNeg) (xs (x3 + 3).toNatClampNeg)) hq2 lv_22 ll_22 rfl rfl rfl (fun _ => rfl) ⟨Nat.le_of_ble_eq_true rfl, Nat.le_of_ble_eq_true rfl⟩ (Nat.le_of_ble_eq_true rfl) rfl hl.1 dL_law_186 (by show 71 + u + 0 ≤ 600000; have := hu'.1; omega) (by show 200844 + v + 0 ≤ 7302250; have := hu'.2.1; omega) (fun ad2 H2 locs2 g0 X2 => ?_)
  have X2 : lz_S G ad1 ad2 s H2 locs2 (xw P q.2) (mw M') := X2
  show W p l e room_1 s m #[Value.ref b] below meth c H2 locs2 (71 + u) (200844 + v) (lw_Z below #[Value.ref b] s) (F0 m 189 ls [.int q.1, .int q.1])
  refine lv_icmp_eq (tgt := 658) hx hb dL_law_189 (by decide) (fun _ => ?_) (fun z => absurd rfl z)
  exact lc_tail C0 C X2 (by rw [f0, g0]; exact hl) hr' ih
set_option maxHeartbeats 4000000 in
set_option maxRecDepth 20000 in
theorem lc_input {p : Program} {l : Launch} {e : Env} {s : State} {m : MethodId} {b : Nat} {below : List Frame} {meth : Method} {c : Code} {H : Heap} {locs : List Loc} {ls : Array Slot} {G : rr_G} {L k u v : Nat} {xs : Nat → Int32} {x3 : Int32} {P S M : rr_T} {adX adM : Nat → Nat} {R : Nat → rr_T → rr_T → Nat → Nat → rr_T → Prop} (C0 : lw_At p s m meth c b L xs) (C : lz_C G p s m b c) (X : lz_S G adX adM s H locs (xw P S) (mw M)) (hl : lv_has ls 4 [(0, .ref b), (1, .ref (adX 0)), (2, .ref (adM 0)), (3, .int x3)]) (hR : lz_R R) (hk : k < 512) (hr : R k P S u v M) (z1 : vp_in (x3 + 1) L) (z2 : vp_in (x3 + 2) L) (z3 : vp_in (x3 + 3) L) (z4 : vp_in (x3 + 4) L) (z5 : vp_in (x3 + 5) L) (ih : ∀ (P' S' : rr_T) (u' v' : Nat) (M' : rr_T) (dX dM : Nat → Nat) (H' : Heap) (locs' : List Loc) (ls' : Array Slot), R (k + 1) P' S' u' v' M' → lz_S G dX dM s H' locs' (xw P' S') (mw M') → lv_has ls' 4 [(0, .ref b), (1, .ref (dX 0)), (2, .ref (dM 0)), (3, .int (x3 + 6))] → W p l e room_1 s m #[Value.ref b] below meth c H' locs' (71 + u') (200844 + v') (lw_Z below #[Value.ref b] s) (F0 m 18 ls' [])) : W p l e room_1 s m #[Value.ref b] below meth c H locs (71 + u) (200844 + v) (lw_Z below #[Value.ref b] s) (F0 m 194 ls []) := by
  obtain ⟨r, P', S', u', v', M', e1, e2, hr'⟩ := hR.2.2 2 k P S u v M (xs (x3 + 1).toNatClampNeg) 0 0 0 0 (by decide) hk hr
  have hu := hR.2.1 _ _ _ _ _ _ hr
  have hu' := hR.2.1 _ _ _ _ _ _ hr'
  have e1 : (fX10_input P S (xs (x3 + 1).toNatClampNeg)).map (fun q => (q.1, P, q.2, u, v)) = _ := e1
  obtain ⟨q, hq, e1⟩ := Option.map_eq_some_iff.mp e1
  cases e1
  have hq2 : fM_input M (xs (x3 + 1).toNatClampNeg) = _ := e2
  obtain ⟨hx, hb, hr0, hml, hown, hts, hXs, hbl, hlocks, hgv⟩ := id C0
  have hbA : ¬ (fun q : Nat => s.heap.size ≤ q) b := Nat.not_le.mpr hbl
  refine lv_aload_n hx hb dL_law_194 rfl (lv_at hl 1 rfl) ?_
  refine lv_aload_n hx hb dL_law_195 rfl (lv_at hl 0 rfl) ?_
  refine lv_iload_n hx hb dL_law_196 rfl (lv_at hl 3 rfl) ?_
  refine lv_iconst (v := 1) hx hb dL_law_197 (by decide) ?_
  refine lv_iadd hx hb dL_law_198 ?_
  refine va_sld hx hb hXs hbl hbA X.2.2 z1 dL_law_199 ?_
  refine lz_callX (As := [.int (xs (x3 + 1).toNatClampNeg)]) (rest := []) C X (tX10_input P S (xs (x3 + 1).toNatClampNeg)) hq lv_23 ll_23 rfl rfl rfl (fun _ => rfl) ⟨Nat.le_of_ble_eq_true rfl, Nat.le_of_ble_eq_true rfl⟩ (Nat.le_of_ble_eq_true rfl) rfl hl.1 dL_law_200 (by show 71 + u + 0 ≤ 600000; have := hu.1; omega) (by show 200844 + v + 0 ≤ 7302250; have := hu.2.1; omega) (fun ad1 H1 locs1 f0 X1 => ?_)
  have X1 : lz_S G ad1 adM s H1 locs1 (xw P q.2) (mw M) := X1
  show W p l e room_1 s m #[Value.ref b] below meth c H1 locs1 (71 + u) (200844 + v) (lw_Z below #[Value.ref b] s) (F0 m 203 ls [.int q.1])
  refine lv_aload_n hx hb dL_law_203 rfl (lv_at hl 2 rfl) ?_
  refine lv_aload_n hx hb dL_law_204 rfl (lv_at hl 0 rfl) ?_
  refine lv_iload_n hx hb dL_law_205 rfl (lv_at hl 3 rfl) ?_
  refine lv_iconst (v := 1) hx hb dL_law_206 (by decide) ?_
  refine lv_iadd hx hb dL_law_207 ?_
  refine va_sld hx hb hXs hbl hbA X1.2.2 z1 dL_law_208 ?_
  refine lz_callM (As := [.int (xs (x3 + 1).toNatClampNeg)]) (rest := [.int q.1]) C X1 (tM_input M (xs (x3 + 1).toNatClampNeg)) hq2 lv_26 ll_26 rfl rfl rfl (fun _ => rfl) ⟨Nat.le_of_ble_eq_true rfl, Nat.le_of_ble_eq_true rfl⟩ (Nat.le_of_ble_eq_true rfl) rfl hl.1 dL_law_209 (by show 71 + u + 0 ≤ 600000; have := hu'.1; omega) (by show 200844 + v + 0 ≤ 7302250; have := hu'.2.1; omega) (fun ad2 H2 locs2 g0 X2 => ?_)
  have X2 : lz_S G ad1 ad2 s H2 locs2 (xw P q.2) (mw M') := X2
  show W p l e room_1 s m #[Value.ref b] below meth c H2 locs2 (71 + u) (200844 + v) (lw_Z below #[Value.ref b] s) (F0 m 212 ls [.int q.1, .int q.1])
  refine lv_icmp_eq (tgt := 658) hx hb dL_law_212 (by decide) (fun _ => ?_) (fun z => absurd rfl z)
  exact lc_tail C0 C X2 (by rw [f0, g0]; exact hl) hr' ih
set_option maxHeartbeats 4000000 in
set_option maxRecDepth 20000 in
theorem lc_bound {p : Program} {l : Launch} {e : Env} {s : State} {m : MethodId} {b : Nat} {below : List Frame} {meth : Method} {c : Code} {H : Heap} {locs : List Loc} {ls : Array Slot} {G : rr_G} {L k u v : Nat} {xs : Nat → Int32} {x3 : Int32} {P S M : rr_T} {adX adM : Nat → Nat} {R : Nat → rr_T → rr_T → Nat → Nat → rr_T → Prop} (C0 : lw_At p s m meth c b L xs) (C : lz_C G p s m b c) (X : lz_S G adX adM s H locs (xw P S) (mw M)) (hl : lv_has ls 4 [(0, .ref b), (1, .ref (adX 0)), (2, .ref (adM 0)), (3, .int x3)]) (hR : lz_R R) (hk : k < 512) (hr : R k P S u v M) (z1 : vp_in (x3 + 1) L) (z2 : vp_in (x3 + 2) L) (z3 : vp_in (x3 + 3) L) (z4 : vp_in (x3 + 4) L) (z5 : vp_in (x3 + 5) L) (ih : ∀ (P' S' : rr_T) (u' v' : Nat) (M' : rr_T) (dX dM : Nat → Nat) (H' : Heap) (locs' : List Loc) (ls' : Array Slot), R (k + 1) P' S' u' v' M' → lz_S G dX dM s H' locs' (xw P' S') (mw M') → lv_has ls' 4 [(0, .ref b), (1, .ref (dX 0)), (2, .ref (dM 0)), (3, .int (x3 + 6))] → W p l e room_1 s m #[Value.ref b] below meth c H' locs' (71 + u') (200844 + v') (lw_Z below #[Value.ref b] s) (F0 m 18 ls' [])) : W p l e room_1 s m #[Value.ref b] below meth c H locs (71 + u) (200844 + v) (lw_Z below #[Value.ref b] s) (F0 m 217 ls []) := by
  obtain ⟨r, P', S', u', v', M', e1, e2, hr'⟩ := hR.2.2 3 k P S u v M (xs (x3 + 1).toNatClampNeg) 0 0 0 0 (by decide) hk hr
  have hu := hR.2.1 _ _ _ _ _ _ hr
  have hu' := hR.2.1 _ _ _ _ _ _ hr'
  have e1 : (fX10_bound P S (xs (x3 + 1).toNatClampNeg)).map (fun q => (q.1, P, q.2, u, v)) = _ := e1
  obtain ⟨q, hq, e1⟩ := Option.map_eq_some_iff.mp e1
  cases e1
  have hq2 : fM_bound M (xs (x3 + 1).toNatClampNeg) = _ := e2
  obtain ⟨hx, hb, hr0, hml, hown, hts, hXs, hbl, hlocks, hgv⟩ := id C0
  have hbA : ¬ (fun q : Nat => s.heap.size ≤ q) b := Nat.not_le.mpr hbl
  refine lv_aload_n hx hb dL_law_217 rfl (lv_at hl 1 rfl) ?_
  refine lv_aload_n hx hb dL_law_218 rfl (lv_at hl 0 rfl) ?_
  refine lv_iload_n hx hb dL_law_219 rfl (lv_at hl 3 rfl) ?_
  refine lv_iconst (v := 1) hx hb dL_law_220 (by decide) ?_
  refine lv_iadd hx hb dL_law_221 ?_
  refine va_sld hx hb hXs hbl hbA X.2.2 z1 dL_law_222 ?_
  refine lz_callX (As := [.int (xs (x3 + 1).toNatClampNeg)]) (rest := []) C X (tX10_bound P S (xs (x3 + 1).toNatClampNeg)) hq lv_27 ll_27 rfl rfl rfl (fun _ => rfl) ⟨Nat.le_of_ble_eq_true rfl, Nat.le_of_ble_eq_true rfl⟩ (Nat.le_of_ble_eq_true rfl) rfl hl.1 dL_law_223 (by show 71 + u + 0 ≤ 600000; have := hu.1; omega) (by show 200844 + v + 0 ≤ 7302250; have := hu.2.1; omega) (fun ad1 H1 locs1 f0 X1 => ?_)
  have X1 : lz_S G ad1 adM s H1 locs1 (xw P q.2) (mw M) := X1
  show W p l e room_1 s m #[Value.ref b] below meth c H1 locs1 (71 + u) (200844 + v) (lw_Z below #[Value.ref b] s) (F0 m 226 ls [.int q.1])
  refine lv_aload_n hx hb dL_law_226 rfl (lv_at hl 2 rfl) ?_
  refine lv_aload_n hx hb dL_law_227 rfl (lv_at hl 0 rfl) ?_
  refine lv_iload_n hx hb dL_law_228 rfl (lv_at hl 3 rfl) ?_
  refine lv_iconst (v := 1) hx hb dL_law_229 (by decide) ?_
  refine lv_iadd hx hb dL_law_230 ?_
  refine va_sld hx hb hXs hbl hbA X1.2.2 z1 dL_law_231 ?_
  refine lz_callM (As := [.int (xs (x3 + 1).toNatClampNeg)]) (rest := [.int q.1]) C X1 (tM_bound M (xs (x3 + 1).toNatClampNeg)) hq2 lv_30 ll_30 rfl rfl rfl (fun _ => rfl) ⟨Nat.le_of_ble_eq_true rfl, Nat.le_of_ble_eq_true rfl⟩ (Nat.le_of_ble_eq_true rfl) rfl hl.1 dL_law_232 (by show 71 + u + 0 ≤ 600000; have := hu'.1; omega) (by show 200844 + v + 0 ≤ 7302250; have := hu'.2.1; omega) (fun ad2 H2 locs2 g0 X2 => ?_)
  have X2 : lz_S G ad1 ad2 s H2 locs2 (xw P q.2) (mw M') := X2
  show W p l e room_1 s m #[Value.ref b] below meth c H2 locs2 (71 + u) (200844 + v) (lw_Z below #[Value.ref b] s) (F0 m 235 ls [.int q.1, .int q.1])
  refine lv_icmp_eq (tgt := 658) hx hb dL_law_235 (by decide) (fun _ => ?_) (fun z => absurd rfl z)
  exact lc_tail C0 C X2 (by rw [f0, g0]; exact hl) hr' ih
set_option maxHeartbeats 4000000 in
set_option maxRecDepth 20000 in
theorem lc_rule {p : Program} {l : Launch} {e : Env} {s : State} {m : MethodId} {b : Nat} {below : List Frame} {meth : Method} {c : Code} {H : Heap} {locs : List Loc} {ls : Array Slot} {G : rr_G} {L k u v : Nat} {xs : Nat → Int32} {x3 : Int32} {P S M : rr_T} {adX adM : Nat → Nat} {R : Nat → rr_T → rr_T → Nat → Nat → rr_T → Prop} (C0 : lw_At p s m meth c b L xs) (C : lz_C G p s m b c) (X : lz_S G adX adM s H locs (xw P S) (mw M)) (hl : lv_has ls 4 [(0, .ref b), (1, .ref (adX 0)), (2, .ref (adM 0)), (3, .int x3)]) (hR : lz_R R) (hk : k < 512) (hr : R k P S u v M) (z1 : vp_in (x3 + 1) L) (z2 : vp_in (x3 + 2) L) (z3 : vp_in (x3 + 3) L) (z4 : vp_in (x3 + 4) L) (z5 : vp_in (x3 + 5) L) (ih : ∀ (P' S' : rr_T) (u' v' : Nat) (M' : rr_T) (dX dM : Nat → Nat) (H' : Heap) (locs' : List Loc) (ls' : Array Slot), R (k + 1) P' S' u' v' M' → lz_S G dX dM s H' locs' (xw P' S') (mw M') → lv_has ls' 4 [(0, .ref b), (1, .ref (dX 0)), (2, .ref (dM 0)), (3, .int (x3 + 6))] → W p l e room_1 s m #[Value.ref b] below meth c H' locs' (71 + u') (200844 + v') (lw_Z below #[Value.ref b] s) (F0 m 18 ls' [])) : W p l e room_1 s m #[Value.ref b] below meth c H locs (71 + u) (200844 + v) (lw_Z below #[Value.ref b] s) (F0 m 240 ls []) := by
  obtain ⟨r, P', S', u', v', M', e1, e2, hr'⟩ := hR.2.2 4 k P S u v M (xs (x3 + 1).toNatClampNeg) (xs (x3 + 2).toNatClampNeg) (xs (x3 + 3).toNatClampNeg) (xs (x3 + 4).toNatClampNeg) 0 (by decide) hk hr
  have hu := hR.2.1 _ _ _ _ _ _ hr
  have hu' := hR.2.1 _ _ _ _ _ _ hr'
  have hq : fX10_rule P S (xs (x3 + 1).toNatClampNeg) (xs (x3 + 2).toNatClampNeg) (xs (x3 + 3).toNatClampNeg) (xs (x3 + 4).toNatClampNeg) u v = _ := e1
  have hq2 : fM_rule M (xs (x3 + 1).toNatClampNeg) (xs (x3 + 2).toNatClampNeg) (xs (x3 + 3).toNatClampNeg) (xs (x3 + 4).toNatClampNeg) = _ := e2
  obtain ⟨hx, hb, hr0, hml, hown, hts, hXs, hbl, hlocks, hgv⟩ := id C0
  have hbA : ¬ (fun q : Nat => s.heap.size ≤ q) b := Nat.not_le.mpr hbl
  refine lv_aload_n hx hb dL_law_240 rfl (lv_at hl 1 rfl) ?_
  refine lv_aload_n hx hb dL_law_241 rfl (lv_at hl 0 rfl) ?_
  refine lv_iload_n hx hb dL_law_242 rfl (lv_at hl 3 rfl) ?_
  refine lv_iconst (v := 1) hx hb dL_law_243 (by decide) ?_
  refine lv_iadd hx hb dL_law_244 ?_
  refine va_sld hx hb hXs hbl hbA X.2.2 z1 dL_law_245 ?_
  refine lv_aload_n hx hb dL_law_246 rfl (lv_at hl 0 rfl) ?_
  refine lv_iload_n hx hb dL_law_247 rfl (lv_at hl 3 rfl) ?_
  refine lv_iconst (v := 2) hx hb dL_law_248 (by decide) ?_
  refine lv_iadd hx hb dL_law_249 ?_
  refine va_sld hx hb hXs hbl hbA X.2.2 z2 dL_law_250 ?_
  refine lv_aload_n hx hb dL_law_251 rfl (lv_at hl 0 rfl) ?_
  refine lv_iload_n hx hb dL_law_252 rfl (lv_at hl 3 rfl) ?_
  refine lv_iconst (v := 3) hx hb dL_law_253 (by decide) ?_
  refine lv_iadd hx hb dL_law_254 ?_
  refine va_sld hx hb hXs hbl hbA X.2.2 z3 dL_law_255 ?_
  refine lv_aload_n hx hb dL_law_256 rfl (lv_at hl 0 rfl) ?_
  refine lv_iload_n hx hb dL_law_257 rfl (lv_at hl 3 rfl) ?_
  refine lv_iconst (v := 4) hx hb dL_law_258 (by decide) ?_
  refine lv_iadd hx hb dL_law_259 ?_
  refine va_sld hx hb hXs hbl hbA X.2.2 z4 dL_law_260 ?_
  have ht := tX10_rule (l := l) (G := G) P S (xs (x3 + 1).toNatClampNeg) (xs (x3 + 2).toNatClampNeg) (xs (x3 + 3).toNatClampNeg) (xs (x3 + 4).toNatClampNeg) u v
  have hu1 : u ≤ u' := (ht _ hq).1
  have hv1 : v ≤ v' := (ht _ hq).2.1
  refine lz_callX (As := [.int (xs (x3 + 1).toNatClampNeg), .int (xs (x3 + 2).toNatClampNeg), .int (xs (x3 + 3).toNatClampNeg), .int (xs (x3 + 4).toNatClampNeg)]) (rest := []) C X ht hq lv_31 ll_31 rfl rfl rfl (fun _ => rfl) ⟨Nat.le_of_ble_eq_true rfl, Nat.le_of_ble_eq_true rfl⟩ (Nat.le_of_ble_eq_true rfl) rfl hl.1 dL_law_261 (by show 71 + u + (u' - u) ≤ 600000; have := hu'.1; omega) (by show 200844 + v + (v' - v) ≤ 7302250; have := hu'.2.1; omega) (fun ad1 H1 locs1 f0 X1 => ?_)
  refine W.widen (k := 71 + u') (n := 200844 + v') (by show 71 + u + (u' - u) ≤ 71 + u'; omega) (by show 200844 + v + (v' - v) ≤ 200844 + v'; omega) ?_
  have X1 : lz_S G ad1 adM s H1 locs1 (xw P' S') (mw M) := X1
  show W p l e room_1 s m #[Value.ref b] below meth c H1 locs1 (71 + u') (200844 + v') (lw_Z below #[Value.ref b] s) (F0 m 264 ls [.int r])
  refine lv_aload_n hx hb dL_law_264 rfl (lv_at hl 2 rfl) ?_
  refine lv_aload_n hx hb dL_law_265 rfl (lv_at hl 0 rfl) ?_
  refine lv_iload_n hx hb dL_law_266 rfl (lv_at hl 3 rfl) ?_
  refine lv_iconst (v := 1) hx hb dL_law_267 (by decide) ?_
  refine lv_iadd hx hb dL_law_268 ?_
  refine va_sld hx hb hXs hbl hbA X1.2.2 z1 dL_law_269 ?_
  refine lv_aload_n hx hb dL_law_270 rfl (lv_at hl 0 rfl) ?_
  refine lv_iload_n hx hb dL_law_271 rfl (lv_at hl 3 rfl) ?_
  refine lv_iconst (v := 2) hx hb dL_law_272 (by decide) ?_
  refine lv_iadd hx hb dL_law_273 ?_
  refine va_sld hx hb hXs hbl hbA X1.2.2 z2 dL_law_274 ?_
  refine lv_aload_n hx hb dL_law_275 rfl (lv_at hl 0 rfl) ?_
  refine lv_iload_n hx hb dL_law_276 rfl (lv_at hl 3 rfl) ?_
  refine lv_iconst (v := 3) hx hb dL_law_277 (by decide) ?_
  refine lv_iadd hx hb dL_law_278 ?_
  refine va_sld hx hb hXs hbl hbA X1.2.2 z3 dL_law_279 ?_
  refine lv_aload_n hx hb dL_law_280 rfl (lv_at hl 0 rfl) ?_
  refine lv_iload_n hx hb dL_law_281 rfl (lv_at hl 3 rfl) ?_
  refine lv_iconst (v := 4) hx hb dL_law_282 (by decide) ?_
  refine lv_iadd hx hb dL_law_283 ?_
  refine va_sld hx hb hXs hbl hbA X1.2.2 z4 dL_law_284 ?_
  refine lz_callM (As := [.int (xs (x3 + 1).toNatClampNeg), .int (xs (x3 + 2).toNatClampNeg), .int (xs (x3 + 3).toNatClampNeg), .int (xs (x3 + 4).toNatClampNeg)]) (rest := [.int r]) C X1 (tM_rule M (xs (x3 + 1).toNatClampNeg) (xs (x3 + 2).toNatClampNeg) (xs (x3 + 3).toNatClampNeg) (xs (x3 + 4).toNatClampNeg)) hq2 lv_35 ll_35 rfl rfl rfl (fun _ => rfl) ⟨Nat.le_of_ble_eq_true rfl, Nat.le_of_ble_eq_true rfl⟩ (Nat.le_of_ble_eq_true rfl) rfl hl.1 dL_law_285 (by show 71 + u' + 0 ≤ 600000; have := hu'.1; omega) (by show 200844 + v' + 0 ≤ 7302250; have := hu'.2.1; omega) (fun ad2 H2 locs2 g0 X2 => ?_)
  have X2 : lz_S G ad1 ad2 s H2 locs2 (xw P' S') (mw M') := X2
  show W p l e room_1 s m #[Value.ref b] below meth c H2 locs2 (71 + u') (200844 + v') (lw_Z below #[Value.ref b] s) (F0 m 288 ls [.int r, .int r])
  refine lv_icmp_eq (tgt := 658) hx hb dL_law_288 (by decide) (fun _ => ?_) (fun z => absurd rfl z)
  exact lc_tail C0 C X2 (by rw [f0, g0]; exact hl) hr' ih
set_option maxHeartbeats 4000000 in
set_option maxRecDepth 20000 in
theorem lc_clear {p : Program} {l : Launch} {e : Env} {s : State} {m : MethodId} {b : Nat} {below : List Frame} {meth : Method} {c : Code} {H : Heap} {locs : List Loc} {ls : Array Slot} {G : rr_G} {L k u v : Nat} {xs : Nat → Int32} {x3 : Int32} {P S M : rr_T} {adX adM : Nat → Nat} {R : Nat → rr_T → rr_T → Nat → Nat → rr_T → Prop} (C0 : lw_At p s m meth c b L xs) (C : lz_C G p s m b c) (X : lz_S G adX adM s H locs (xw P S) (mw M)) (hl : lv_has ls 4 [(0, .ref b), (1, .ref (adX 0)), (2, .ref (adM 0)), (3, .int x3)]) (hR : lz_R R) (hk : k < 512) (hr : R k P S u v M) (z1 : vp_in (x3 + 1) L) (z2 : vp_in (x3 + 2) L) (z3 : vp_in (x3 + 3) L) (z4 : vp_in (x3 + 4) L) (z5 : vp_in (x3 + 5) L) (ih : ∀ (P' S' : rr_T) (u' v' : Nat) (M' : rr_T) (dX dM : Nat → Nat) (H' : Heap) (locs' : List Loc) (ls' : Array Slot), R (k + 1) P' S' u' v' M' → lz_S G dX dM s H' locs' (xw P' S') (mw M') → lv_has ls' 4 [(0, .ref b), (1, .ref (dX 0)), (2, .ref (dM 0)), (3, .int (x3 + 6))] → W p l e room_1 s m #[Value.ref b] below meth c H' locs' (71 + u') (200844 + v') (lw_Z below #[Value.ref b] s) (F0 m 18 ls' [])) : W p l e room_1 s m #[Value.ref b] below meth c H locs (71 + u) (200844 + v) (lw_Z below #[Value.ref b] s) (F0 m 293 ls []) := by
  obtain ⟨r, P', S', u', v', M', e1, e2, hr'⟩ := hR.2.2 5 k P S u v M 0 0 0 0 0 (by decide) hk hr
  have hu := hR.2.1 _ _ _ _ _ _ hr
  have hu' := hR.2.1 _ _ _ _ _ _ hr'
  have e1 : (fX10_clear P S u v).map (fun q => (q.1, P, q.2.1, q.2.2.1, q.2.2.2)) = _ := e1
  obtain ⟨q, hq, e1⟩ := Option.map_eq_some_iff.mp e1
  cases e1
  have hq2 : fM_clear M = _ := e2
  obtain ⟨hx, hb, hr0, hml, hown, hts, hXs, hbl, hlocks, hgv⟩ := id C0
  have hbA : ¬ (fun q : Nat => s.heap.size ≤ q) b := Nat.not_le.mpr hbl
  refine lv_aload_n hx hb dL_law_293 rfl (lv_at hl 1 rfl) ?_
  have ht := tX10_clear (l := l) (G := G) P S u v
  have hu1 : u ≤ q.2.2.1 := (ht _ hq).1
  have hv1 : v ≤ q.2.2.2 := (ht _ hq).2.1
  refine lz_callX (As := []) (rest := []) C X ht hq lv_36 ll_36 rfl rfl rfl (fun _ => rfl) ⟨Nat.le_of_ble_eq_true rfl, Nat.le_of_ble_eq_true rfl⟩ (Nat.le_of_ble_eq_true rfl) rfl hl.1 dL_law_294 (by show 71 + u + (q.2.2.1 - u) ≤ 600000; have := hu'.1; omega) (by show 200844 + v + (q.2.2.2 - v) ≤ 7302250; have := hu'.2.1; omega) (fun ad1 H1 locs1 f0 X1 => ?_)
  refine W.widen (k := 71 + q.2.2.1) (n := 200844 + q.2.2.2) (by show 71 + u + (q.2.2.1 - u) ≤ 71 + q.2.2.1; omega) (by show 200844 + v + (q.2.2.2 - v) ≤ 200844 + q.2.2.2; omega) ?_
  have X1 : lz_S G ad1 adM s H1 locs1 (xw P q.2.1) (mw M) := X1
  show W p l e room_1 s m #[Value.ref b] below meth c H1 locs1 (71 + q.2.2.1) (200844 + q.2.2.2) (lw_Z below #[Value.ref b] s) (F0 m 297 ls [.int q.1])
  refine lv_aload_n hx hb dL_law_297 rfl (lv_at hl 2 rfl) ?_
  refine lz_callM (As := []) (rest := [.int q.1]) C X1 (tM_clear M) hq2 lv_40 ll_40 rfl rfl rfl (fun _ => rfl) ⟨Nat.le_of_ble_eq_true rfl, Nat.le_of_ble_eq_true rfl⟩ (Nat.le_of_ble_eq_true rfl) rfl hl.1 dL_law_298 (by show 71 + q.2.2.1 + 0 ≤ 600000; have := hu'.1; omega) (by show 200844 + q.2.2.2 + 0 ≤ 7302250; have := hu'.2.1; omega) (fun ad2 H2 locs2 g0 X2 => ?_)
  have X2 : lz_S G ad1 ad2 s H2 locs2 (xw P q.2.1) (mw M') := X2
  show W p l e room_1 s m #[Value.ref b] below meth c H2 locs2 (71 + q.2.2.1) (200844 + q.2.2.2) (lw_Z below #[Value.ref b] s) (F0 m 301 ls [.int q.1, .int q.1])
  refine lv_icmp_eq (tgt := 658) hx hb dL_law_301 (by decide) (fun _ => ?_) (fun z => absurd rfl z)
  exact lc_tail C0 C X2 (by rw [f0, g0]; exact hl) hr' ih
set_option maxHeartbeats 4000000 in
set_option maxRecDepth 20000 in
theorem lc_about {p : Program} {l : Launch} {e : Env} {s : State} {m : MethodId} {b : Nat} {below : List Frame} {meth : Method} {c : Code} {H : Heap} {locs : List Loc} {ls : Array Slot} {G : rr_G} {L k u v : Nat} {xs : Nat → Int32} {x3 : Int32} {P S M : rr_T} {adX adM : Nat → Nat} {R : Nat → rr_T → rr_T → Nat → Nat → rr_T → Prop} (C0 : lw_At p s m meth c b L xs) (C : lz_C G p s m b c) (X : lz_S G adX adM s H locs (xw P S) (mw M)) (hl : lv_has ls 4 [(0, .ref b), (1, .ref (adX 0)), (2, .ref (adM 0)), (3, .int x3)]) (hR : lz_R R) (hk : k < 512) (hr : R k P S u v M) (z1 : vp_in (x3 + 1) L) (z2 : vp_in (x3 + 2) L) (z3 : vp_in (x3 + 3) L) (z4 : vp_in (x3 + 4) L) (z5 : vp_in (x3 + 5) L) (ih : ∀ (P' S' : rr_T) (u' v' : Nat) (M' : rr_T) (dX dM : Nat → Nat) (H' : Heap) (locs' : List Loc) (ls' : Array Slot), R (k + 1) P' S' u' v' M' → lz_S G dX dM s H' locs' (xw P' S') (mw M') → lv_has ls' 4 [(0, .ref b), (1, .ref (dX 0)), (2, .ref (dM 0)), (3, .int (x3 + 6))] → W p l e room_1 s m #[Value.ref b] below meth c H' locs' (71 + u') (200844 + v') (lw_Z below #[Value.ref b] s) (F0 m 18 ls' [])) : W p l e room_1 s m #[Value.ref b] below meth c H locs (71 + u) (200844 + v) (lw_Z below #[Value.ref b] s) (F0 m 306 ls []) := by
  obtain ⟨r, P', S', u', v', M', e1, e2, hr'⟩ := hR.2.2 6 k P S u v M (xs (x3 + 1).toNatClampNeg) 0 0 0 0 (by decide) hk hr
  have hu := hR.2.1 _ _ _ _ _ _ hr
  have hu' := hR.2.1 _ _ _ _ _ _ hr'
  have e1 : (fX10_about P S (xs (x3 + 1).toNatClampNeg)).map (fun q => (q, P, S, u, v)) = _ := e1
  obtain ⟨q, hq, e1⟩ := Option.map_eq_some_iff.mp e1
  obtain ⟨e5, e6⟩ := Prod.mk.inj e1
  subst e5
  cases e6
  have e2 : (fM_about M (xs (x3 + 1).toNatClampNeg)).map (fun q => (q, M)) = _ := e2
  obtain ⟨q2, hq2, e2⟩ := Option.map_eq_some_iff.mp e2
  obtain ⟨e3, e4⟩ := Prod.mk.inj e2
  subst e4
  obtain ⟨hx, hb, hr0, hml, hown, hts, hXs, hbl, hlocks, hgv⟩ := id C0
  have hbA : ¬ (fun q : Nat => s.heap.size ≤ q) b := Nat.not_le.mpr hbl
  refine lv_aload_n hx hb dL_law_306 rfl (lv_at hl 1 rfl) ?_
  refine lv_aload_n hx hb dL_law_307 rfl (lv_at hl 0 rfl) ?_
  refine lv_iload_n hx hb dL_law_308 rfl (lv_at hl 3 rfl) ?_
  refine lv_iconst (v := 1) hx hb dL_law_309 (by decide) ?_
  refine lv_iadd hx hb dL_law_310 ?_
  refine va_sld hx hb hXs hbl hbA X.2.2 z1 dL_law_311 ?_
  refine lz_callX (As := [.int (xs (x3 + 1).toNatClampNeg)]) (rest := []) C X (tX10_about P S (xs (x3 + 1).toNatClampNeg)) hq lv_41 ll_41 rfl rfl rfl (fun _ => rfl) ⟨Nat.le_of_ble_eq_true rfl, Nat.le_of_ble_eq_true rfl⟩ (Nat.le_of_ble_eq_true rfl) rfl hl.1 dL_law_312 (by show 71 + u + 0 ≤ 600000; have := hu.1; omega) (by show 200844 + v + 0 ≤ 7302250; have := hu.2.1; omega) (fun ad1 H1 locs1 f0 X1 => ?_)
  have X1 : lz_S G ad1 adM s H1 locs1 (xw P S) (mw M) := X1
  show W p l e room_1 s m #[Value.ref b] below meth c H1 locs1 (71 + u) (200844 + v) (lw_Z below #[Value.ref b] s) (F0 m 315 ls [.int q])
  refine lv_aload_n hx hb dL_law_315 rfl (lv_at hl 2 rfl) ?_
  refine lv_aload_n hx hb dL_law_316 rfl (lv_at hl 0 rfl) ?_
  refine lv_iload_n hx hb dL_law_317 rfl (lv_at hl 3 rfl) ?_
  refine lv_iconst (v := 1) hx hb dL_law_318 (by decide) ?_
  refine lv_iadd hx hb dL_law_319 ?_
  refine va_sld hx hb hXs hbl hbA X1.2.2 z1 dL_law_320 ?_
  refine lz_callM (As := [.int (xs (x3 + 1).toNatClampNeg)]) (rest := [.int q]) C X1 (tM_about M (xs (x3 + 1).toNatClampNeg)) hq2 lv_44 ll_44 rfl rfl rfl (fun _ => rfl) ⟨Nat.le_of_ble_eq_true rfl, Nat.le_of_ble_eq_true rfl⟩ (Nat.le_of_ble_eq_true rfl) rfl hl.1 dL_law_321 (by show 71 + u + 0 ≤ 600000; have := hu'.1; omega) (by show 200844 + v + 0 ≤ 7302250; have := hu'.2.1; omega) (fun ad2 H2 locs2 g0 X2 => ?_)
  have X2 : lz_S G ad1 ad2 s H2 locs2 (xw P S) (mw M) := X2
  show W p l e room_1 s m #[Value.ref b] below meth c H2 locs2 (71 + u) (200844 + v) (lw_Z below #[Value.ref b] s) (F0 m 324 ls [.int q2, .int q])
  refine lv_icmp_eq (tgt := 658) hx hb dL_law_324 (by decide) (fun _ => ?_) (fun z => absurd e3.symm z)
  exact lc_tail C0 C X2 (by rw [f0, g0]; exact hl) hr' ih
set_option maxHeartbeats 4000000 in
set_option maxRecDepth 20000 in
theorem lc_many {p : Program} {l : Launch} {e : Env} {s : State} {m : MethodId} {b : Nat} {below : List Frame} {meth : Method} {c : Code} {H : Heap} {locs : List Loc} {ls : Array Slot} {G : rr_G} {L k u v : Nat} {xs : Nat → Int32} {x3 : Int32} {P S M : rr_T} {adX adM : Nat → Nat} {R : Nat → rr_T → rr_T → Nat → Nat → rr_T → Prop} (C0 : lw_At p s m meth c b L xs) (C : lz_C G p s m b c) (X : lz_S G adX adM s H locs (xw P S) (mw M)) (hl : lv_has ls 4 [(0, .ref b), (1, .ref (adX 0)), (2, .ref (adM 0)), (3, .int x3)]) (hR : lz_R R) (hk : k < 512) (hr : R k P S u v M) (z1 : vp_in (x3 + 1) L) (z2 : vp_in (x3 + 2) L) (z3 : vp_in (x3 + 3) L) (z4 : vp_in (x3 + 4) L) (z5 : vp_in (x3 + 5) L) (ih : ∀ (P' S' : rr_T) (u' v' : Nat) (M' : rr_T) (dX dM : Nat → Nat) (H' : Heap) (locs' : List Loc) (ls' : Array Slot), R (k + 1) P' S' u' v' M' → lz_S G dX dM s H' locs' (xw P' S') (mw M') → lv_has ls' 4 [(0, .ref b), (1, .ref (dX 0)), (2, .ref (dM 0)), (3, .int (x3 + 6))] → W p l e room_1 s m #[Value.ref b] below meth c H' locs' (71 + u') (200844 + v') (lw_Z below #[Value.ref b] s) (F0 m 18 ls' [])) : W p l e room_1 s m #[Value.ref b] below meth c H locs (71 + u) (200844 + v) (lw_Z below #[Value.ref b] s) (F0 m 329 ls []) := by
  obtain ⟨r, P', S', u', v', M', e1, e2, hr'⟩ := hR.2.2 7 k P S u v M 0 0 0 0 0 (by decide) hk hr
  have hu := hR.2.1 _ _ _ _ _ _ hr
  have hu' := hR.2.1 _ _ _ _ _ _ hr'
  have e1 : (fX10_many P S u v).map (fun q => (q.1, P, q.2.1, q.2.2.1, q.2.2.2)) = _ := e1
  obtain ⟨q, hq, e1⟩ := Option.map_eq_some_iff.mp e1
  cases e1
  have hq2 : fM_many M = _ := e2
  obtain ⟨hx, hb, hr0, hml, hown, hts, hXs, hbl, hlocks, hgv⟩ := id C0
  have hbA : ¬ (fun q : Nat => s.heap.size ≤ q) b := Nat.not_le.mpr hbl
  refine lv_aload_n hx hb dL_law_329 rfl (lv_at hl 1 rfl) ?_
  have ht := tX10_many (l := l) (G := G) P S u v
  have hu1 : u ≤ q.2.2.1 := (ht _ hq).1
  have hv1 : v ≤ q.2.2.2 := (ht _ hq).2.1
  refine lz_callX (As := []) (rest := []) C X ht hq lv_45 ll_45 rfl rfl rfl (fun _ => rfl) ⟨Nat.le_of_ble_eq_true rfl, Nat.le_of_ble_eq_true rfl⟩ (Nat.le_of_ble_eq_true rfl) rfl hl.1 dL_law_330 (by show 71 + u + (q.2.2.1 - u) ≤ 600000; have := hu'.1; omega) (by show 200844 + v + (q.2.2.2 - v) ≤ 7302250; have := hu'.2.1; omega) (fun ad1 H1 locs1 f0 X1 => ?_)
  refine W.widen (k := 71 + q.2.2.1) (n := 200844 + q.2.2.2) (by show 71 + u + (q.2.2.1 - u) ≤ 71 + q.2.2.1; omega) (by show 200844 + v + (q.2.2.2 - v) ≤ 200844 + q.2.2.2; omega) ?_
  have X1 : lz_S G ad1 adM s H1 locs1 (xw P q.2.1) (mw M) := X1
  show W p l e room_1 s m #[Value.ref b] below meth c H1 locs1 (71 + q.2.2.1) (200844 + q.2.2.2) (lw_Z below #[Value.ref b] s) (F0 m 333 ls [.int q.1])
  refine lv_aload_n hx hb dL_law_333 rfl (lv_at hl 2 rfl) ?_
  refine lz_callM (As := []) (rest := [.int q.1]) C X1 (tM_many M) hq2 lv_48 ll_48 rfl rfl rfl (fun _ => rfl) ⟨Nat.le_of_ble_eq_true rfl, Nat.le_of_ble_eq_true rfl⟩ (Nat.le_of_ble_eq_true rfl) rfl hl.1 dL_law_334 (by show 71 + q.2.2.1 + 0 ≤ 600000; have := hu'.1; omega) (by show 200844 + q.2.2.2 + 0 ≤ 7302250; have := hu'.2.1; omega) (fun ad2 H2 locs2 g0 X2 => ?_)
  have X2 : lz_S G ad1 ad2 s H2 locs2 (xw P q.2.1) (mw M') := X2
  show W p l e room_1 s m #[Value.ref b] below meth c H2 locs2 (71 + q.2.2.1) (200844 + q.2.2.2) (lw_Z below #[Value.ref b] s) (F0 m 337 ls [.int q.1, .int q.1])
  refine lv_icmp_eq (tgt := 658) hx hb dL_law_337 (by decide) (fun _ => ?_) (fun z => absurd rfl z)
  exact lc_tail C0 C X2 (by rw [f0, g0]; exact hl) hr' ih
set_option maxHeartbeats 4000000 in
set_option maxRecDepth 20000 in
theorem lc_kept {p : Program} {l : Launch} {e : Env} {s : State} {m : MethodId} {b : Nat} {below : List Frame} {meth : Method} {c : Code} {H : Heap} {locs : List Loc} {ls : Array Slot} {G : rr_G} {L k u v : Nat} {xs : Nat → Int32} {x3 : Int32} {P S M : rr_T} {adX adM : Nat → Nat} {R : Nat → rr_T → rr_T → Nat → Nat → rr_T → Prop} (C0 : lw_At p s m meth c b L xs) (C : lz_C G p s m b c) (X : lz_S G adX adM s H locs (xw P S) (mw M)) (hl : lv_has ls 4 [(0, .ref b), (1, .ref (adX 0)), (2, .ref (adM 0)), (3, .int x3)]) (hR : lz_R R) (hk : k < 512) (hr : R k P S u v M) (z1 : vp_in (x3 + 1) L) (z2 : vp_in (x3 + 2) L) (z3 : vp_in (x3 + 3) L) (z4 : vp_in (x3 + 4) L) (z5 : vp_in (x3 + 5) L) (ih : ∀ (P' S' : rr_T) (u' v' : Nat) (M' : rr_T) (dX dM : Nat → Nat) (H' : Heap) (locs' : List Loc) (ls' : Array Slot), R (k + 1) P' S' u' v' M' → lz_S G dX dM s H' locs' (xw P' S') (mw M') → lv_has ls' 4 [(0, .ref b), (1, .ref (dX 0)), (2, .ref (dM 0)), (3, .int (x3 + 6))] → W p l e room_1 s m #[Value.ref b] below meth c H' locs' (71 + u') (200844 + v') (lw_Z below #[Value.ref b] s) (F0 m 18 ls' [])) : W p l e room_1 s m #[Value.ref b] below meth c H locs (71 + u) (200844 + v) (lw_Z below #[Value.ref b] s) (F0 m 342 ls []) := by
  obtain ⟨r, P', S', u', v', M', e1, e2, hr'⟩ := hR.2.2 8 k P S u v M 0 0 0 0 0 (by decide) hk hr
  have hu := hR.2.1 _ _ _ _ _ _ hr
  have hu' := hR.2.1 _ _ _ _ _ _ hr'
  have e1 : (fX10_kept P S u v).map (fun q => (q.1, P, q.2.1, q.2.2.1, q.2.2.2)) = _ := e1
  obtain ⟨q, hq, e1⟩ := Option.map_eq_some_iff.mp e1
  cases e1
  have hq2 : fM_kept M = _ := e2
  obtain ⟨hx, hb, hr0, hml, hown, hts, hXs, hbl, hlocks, hgv⟩ := id C0
  have hbA : ¬ (fun q : Nat => s.heap.size ≤ q) b := Nat.not_le.mpr hbl
  refine lv_aload_n hx hb dL_law_342 rfl (lv_at hl 1 rfl) ?_
  have ht := tX10_kept (l := l) (G := G) P S u v
  have hu1 : u ≤ q.2.2.1 := (ht _ hq).1
  have hv1 : v ≤ q.2.2.2 := (ht _ hq).2.1
  refine lz_callX (As := []) (rest := []) C X ht hq lv_49 ll_49 rfl rfl rfl (fun _ => rfl) ⟨Nat.le_of_ble_eq_true rfl, Nat.le_of_ble_eq_true rfl⟩ (Nat.le_of_ble_eq_true rfl) rfl hl.1 dL_law_343 (by show 71 + u + (q.2.2.1 - u) ≤ 600000; have := hu'.1; omega) (by show 200844 + v + (q.2.2.2 - v) ≤ 7302250; have := hu'.2.1; omega) (fun ad1 H1 locs1 f0 X1 => ?_)
  refine W.widen (k := 71 + q.2.2.1) (n := 200844 + q.2.2.2) (by show 71 + u + (q.2.2.1 - u) ≤ 71 + q.2.2.1; omega) (by show 200844 + v + (q.2.2.2 - v) ≤ 200844 + q.2.2.2; omega) ?_
  have X1 : lz_S G ad1 adM s H1 locs1 (xw P q.2.1) (mw M) := X1
  show W p l e room_1 s m #[Value.ref b] below meth c H1 locs1 (71 + q.2.2.1) (200844 + q.2.2.2) (lw_Z below #[Value.ref b] s) (F0 m 346 ls [.int q.1])
  refine lv_aload_n hx hb dL_law_346 rfl (lv_at hl 2 rfl) ?_
  refine lz_callM (As := []) (rest := [.int q.1]) C X1 (tM_kept M) hq2 lv_52 ll_52 rfl rfl rfl (fun _ => rfl) ⟨Nat.le_of_ble_eq_true rfl, Nat.le_of_ble_eq_true rfl⟩ (Nat.le_of_ble_eq_true rfl) rfl hl.1 dL_law_347 (by show 71 + q.2.2.1 + 0 ≤ 600000; have := hu'.1; omega) (by show 200844 + q.2.2.2 + 0 ≤ 7302250; have := hu'.2.1; omega) (fun ad2 H2 locs2 g0 X2 => ?_)
  have X2 : lz_S G ad1 ad2 s H2 locs2 (xw P q.2.1) (mw M') := X2
  show W p l e room_1 s m #[Value.ref b] below meth c H2 locs2 (71 + q.2.2.1) (200844 + q.2.2.2) (lw_Z below #[Value.ref b] s) (F0 m 350 ls [.int q.1, .int q.1])
  refine lv_icmp_eq (tgt := 658) hx hb dL_law_350 (by decide) (fun _ => ?_) (fun z => absurd rfl z)
  exact lc_tail C0 C X2 (by rw [f0, g0]; exact hl) hr' ih
set_option maxHeartbeats 4000000 in
set_option maxRecDepth 20000 in
theorem lc_choice {p : Program} {l : Launch} {e : Env} {s : State} {m : MethodId} {b : Nat} {below : List Frame} {meth : Method} {c : Code} {H : Heap} {locs : List Loc} {ls : Array Slot} {G : rr_G} {L k u v : Nat} {xs : Nat → Int32} {x3 : Int32} {P S M : rr_T} {adX adM : Nat → Nat} {R : Nat → rr_T → rr_T → Nat → Nat → rr_T → Prop} (C0 : lw_At p s m meth c b L xs) (C : lz_C G p s m b c) (X : lz_S G adX adM s H locs (xw P S) (mw M)) (hl : lv_has ls 4 [(0, .ref b), (1, .ref (adX 0)), (2, .ref (adM 0)), (3, .int x3)]) (hR : lz_R R) (hk : k < 512) (hr : R k P S u v M) (z1 : vp_in (x3 + 1) L) (z2 : vp_in (x3 + 2) L) (z3 : vp_in (x3 + 3) L) (z4 : vp_in (x3 + 4) L) (z5 : vp_in (x3 + 5) L) (ih : ∀ (P' S' : rr_T) (u' v' : Nat) (M' : rr_T) (dX dM : Nat → Nat) (H' : Heap) (locs' : List Loc) (ls' : Array Slot), R (k + 1) P' S' u' v' M' → lz_S G dX dM s H' locs' (xw P' S') (mw M') → lv_has ls' 4 [(0, .ref b), (1, .ref (dX 0)), (2, .ref (dM 0)), (3, .int (x3 + 6))] → W p l e room_1 s m #[Value.ref b] below meth c H' locs' (71 + u') (200844 + v') (lw_Z below #[Value.ref b] s) (F0 m 18 ls' [])) : W p l e room_1 s m #[Value.ref b] below meth c H locs (71 + u) (200844 + v) (lw_Z below #[Value.ref b] s) (F0 m 355 ls []) := by
  obtain ⟨r, P', S', u', v', M', e1, e2, hr'⟩ := hR.2.2 9 k P S u v M (xs (x3 + 1).toNatClampNeg) (xs (x3 + 2).toNatClampNeg) 0 0 0 (by decide) hk hr
  have hu := hR.2.1 _ _ _ _ _ _ hr
  have hu' := hR.2.1 _ _ _ _ _ _ hr'
  have e1 : (fX10_choice P S (xs (x3 + 1).toNatClampNeg) (xs (x3 + 2).toNatClampNeg) u v).map (fun q => (q.1, P, q.2.1, q.2.2.1, q.2.2.2)) = _ := e1
  obtain ⟨q, hq, e1⟩ := Option.map_eq_some_iff.mp e1
  cases e1
  have hq2 : fM_choice M (xs (x3 + 1).toNatClampNeg) (xs (x3 + 2).toNatClampNeg) = _ := e2
  obtain ⟨hx, hb, hr0, hml, hown, hts, hXs, hbl, hlocks, hgv⟩ := id C0
  have hbA : ¬ (fun q : Nat => s.heap.size ≤ q) b := Nat.not_le.mpr hbl
  refine lv_aload_n hx hb dL_law_355 rfl (lv_at hl 1 rfl) ?_
  refine lv_aload_n hx hb dL_law_356 rfl (lv_at hl 0 rfl) ?_
  refine lv_iload_n hx hb dL_law_357 rfl (lv_at hl 3 rfl) ?_
  refine lv_iconst (v := 1) hx hb dL_law_358 (by decide) ?_
  refine lv_iadd hx hb dL_law_359 ?_
  refine va_sld hx hb hXs hbl hbA X.2.2 z1 dL_law_360 ?_
  refine lv_aload_n hx hb dL_law_361 rfl (lv_at hl 0 rfl) ?_
  refine lv_iload_n hx hb dL_law_362 rfl (lv_at hl 3 rfl) ?_
  refine lv_iconst (v := 2) hx hb dL_law_363 (by decide) ?_
  refine lv_iadd hx hb dL_law_364 ?_
  refine va_sld hx hb hXs hbl hbA X.2.2 z2 dL_law_365 ?_
  have ht := tX10_choice (l := l) (G := G) P S (xs (x3 + 1).toNatClampNeg) (xs (x3 + 2).toNatClampNeg) u v
  have hu1 : u ≤ q.2.2.1 := (ht _ hq).1
  have hv1 : v ≤ q.2.2.2 := (ht _ hq).2.1
  refine lz_callX (As := [.int (xs (x3 + 1).toNatClampNeg), .int (xs (x3 + 2).toNatClampNeg)]) (rest := []) C X ht hq lv_53 ll_53 rfl rfl rfl (fun _ => rfl) ⟨Nat.le_of_ble_eq_true rfl, Nat.le_of_ble_eq_true rfl⟩ (Nat.le_of_ble_eq_true rfl) rfl hl.1 dL_law_366 (by show 71 + u + (q.2.2.1 - u) ≤ 600000; have := hu'.1; omega) (by show 200844 + v + (q.2.2.2 - v) ≤ 7302250; have := hu'.2.1; omega) (fun ad1 H1 locs1 f0 X1 => ?_)
  refine W.widen (k := 71 + q.2.2.1) (n := 200844 + q.2.2.2) (by show 71 + u + (q.2.2.1 - u) ≤ 71 + q.2.2.1; omega) (by show 200844 + v + (q.2.2.2 - v) ≤ 200844 + q.2.2.2; omega) ?_
  have X1 : lz_S G ad1 adM s H1 locs1 (xw P q.2.1) (mw M) := X1
  show W p l e room_1 s m #[Value.ref b] below meth c H1 locs1 (71 + q.2.2.1) (200844 + q.2.2.2) (lw_Z below #[Value.ref b] s) (F0 m 369 ls [.int q.1])
  refine lv_aload_n hx hb dL_law_369 rfl (lv_at hl 2 rfl) ?_
  refine lv_aload_n hx hb dL_law_370 rfl (lv_at hl 0 rfl) ?_
  refine lv_iload_n hx hb dL_law_371 rfl (lv_at hl 3 rfl) ?_
  refine lv_iconst (v := 1) hx hb dL_law_372 (by decide) ?_
  refine lv_iadd hx hb dL_law_373 ?_
  refine va_sld hx hb hXs hbl hbA X1.2.2 z1 dL_law_374 ?_
  refine lv_aload_n hx hb dL_law_375 rfl (lv_at hl 0 rfl) ?_
  refine lv_iload_n hx hb dL_law_376 rfl (lv_at hl 3 rfl) ?_
  refine lv_iconst (v := 2) hx hb dL_law_377 (by decide) ?_
  refine lv_iadd hx hb dL_law_378 ?_
  refine va_sld hx hb hXs hbl hbA X1.2.2 z2 dL_law_379 ?_
  refine lz_callM (As := [.int (xs (x3 + 1).toNatClampNeg), .int (xs (x3 + 2).toNatClampNeg)]) (rest := [.int q.1]) C X1 (tM_choice M (xs (x3 + 1).toNatClampNeg) (xs (x3 + 2).toNatClampNeg)) hq2 lv_57 ll_57 rfl rfl rfl (fun _ => rfl) ⟨Nat.le_of_ble_eq_true rfl, Nat.le_of_ble_eq_true rfl⟩ (Nat.le_of_ble_eq_true rfl) rfl hl.1 dL_law_380 (by show 71 + q.2.2.1 + 0 ≤ 600000; have := hu'.1; omega) (by show 200844 + q.2.2.2 + 0 ≤ 7302250; have := hu'.2.1; omega) (fun ad2 H2 locs2 g0 X2 => ?_)
  have X2 : lz_S G ad1 ad2 s H2 locs2 (xw P q.2.1) (mw M') := X2
  show W p l e room_1 s m #[Value.ref b] below meth c H2 locs2 (71 + q.2.2.1) (200844 + q.2.2.2) (lw_Z below #[Value.ref b] s) (F0 m 383 ls [.int q.1, .int q.1])
  refine lv_icmp_eq (tgt := 658) hx hb dL_law_383 (by decide) (fun _ => ?_) (fun z => absurd rfl z)
  exact lc_tail C0 C X2 (by rw [f0, g0]; exact hl) hr' ih
set_option maxHeartbeats 4000000 in
set_option maxRecDepth 20000 in
theorem lc_object {p : Program} {l : Launch} {e : Env} {s : State} {m : MethodId} {b : Nat} {below : List Frame} {meth : Method} {c : Code} {H : Heap} {locs : List Loc} {ls : Array Slot} {G : rr_G} {L k u v : Nat} {xs : Nat → Int32} {x3 : Int32} {P S M : rr_T} {adX adM : Nat → Nat} {R : Nat → rr_T → rr_T → Nat → Nat → rr_T → Prop} (C0 : lw_At p s m meth c b L xs) (C : lz_C G p s m b c) (X : lz_S G adX adM s H locs (xw P S) (mw M)) (hl : lv_has ls 4 [(0, .ref b), (1, .ref (adX 0)), (2, .ref (adM 0)), (3, .int x3)]) (hR : lz_R R) (hk : k < 512) (hr : R k P S u v M) (z1 : vp_in (x3 + 1) L) (z2 : vp_in (x3 + 2) L) (z3 : vp_in (x3 + 3) L) (z4 : vp_in (x3 + 4) L) (z5 : vp_in (x3 + 5) L) (ih : ∀ (P' S' : rr_T) (u' v' : Nat) (M' : rr_T) (dX dM : Nat → Nat) (H' : Heap) (locs' : List Loc) (ls' : Array Slot), R (k + 1) P' S' u' v' M' → lz_S G dX dM s H' locs' (xw P' S') (mw M') → lv_has ls' 4 [(0, .ref b), (1, .ref (dX 0)), (2, .ref (dM 0)), (3, .int (x3 + 6))] → W p l e room_1 s m #[Value.ref b] below meth c H' locs' (71 + u') (200844 + v') (lw_Z below #[Value.ref b] s) (F0 m 18 ls' [])) : W p l e room_1 s m #[Value.ref b] below meth c H locs (71 + u) (200844 + v) (lw_Z below #[Value.ref b] s) (F0 m 388 ls []) := by
  obtain ⟨r, P', S', u', v', M', e1, e2, hr'⟩ := hR.2.2 10 k P S u v M (xs (x3 + 1).toNatClampNeg) (xs (x3 + 2).toNatClampNeg) (xs (x3 + 3).toNatClampNeg) 0 0 (by decide) hk hr
  have hu := hR.2.1 _ _ _ _ _ _ hr
  have hu' := hR.2.1 _ _ _ _ _ _ hr'
  have e1 : (fX10_object P S (xs (x3 + 1).toNatClampNeg) (xs (x3 + 2).toNatClampNeg) (xs (x3 + 3).toNatClampNeg) u v).map (fun q => (q.1, P, q.2.1, q.2.2.1, q.2.2.2)) = _ := e1
  obtain ⟨q, hq, e1⟩ := Option.map_eq_some_iff.mp e1
  cases e1
  have hq2 : fM_object M (xs (x3 + 1).toNatClampNeg) (xs (x3 + 2).toNatClampNeg) (xs (x3 + 3).toNatClampNeg) = _ := e2
  obtain ⟨hx, hb, hr0, hml, hown, hts, hXs, hbl, hlocks, hgv⟩ := id C0
  have hbA : ¬ (fun q : Nat => s.heap.size ≤ q) b := Nat.not_le.mpr hbl
  refine lv_aload_n hx hb dL_law_388 rfl (lv_at hl 1 rfl) ?_
  refine lv_aload_n hx hb dL_law_389 rfl (lv_at hl 0 rfl) ?_
  refine lv_iload_n hx hb dL_law_390 rfl (lv_at hl 3 rfl) ?_
  refine lv_iconst (v := 1) hx hb dL_law_391 (by decide) ?_
  refine lv_iadd hx hb dL_law_392 ?_
  refine va_sld hx hb hXs hbl hbA X.2.2 z1 dL_law_393 ?_
  refine lv_aload_n hx hb dL_law_394 rfl (lv_at hl 0 rfl) ?_
  refine lv_iload_n hx hb dL_law_395 rfl (lv_at hl 3 rfl) ?_
  refine lv_iconst (v := 2) hx hb dL_law_396 (by decide) ?_
  refine lv_iadd hx hb dL_law_397 ?_
  refine va_sld hx hb hXs hbl hbA X.2.2 z2 dL_law_398 ?_
  refine lv_aload_n hx hb dL_law_399 rfl (lv_at hl 0 rfl) ?_
  refine lv_iload_n hx hb dL_law_400 rfl (lv_at hl 3 rfl) ?_
  refine lv_iconst (v := 3) hx hb dL_law_401 (by decide) ?_
  refine lv_iadd hx hb dL_law_402 ?_
  refine va_sld hx hb hXs hbl hbA X.2.2 z3 dL_law_403 ?_
  have ht := tX10_object (l := l) (G := G) P S (xs (x3 + 1).toNatClampNeg) (xs (x3 + 2).toNatClampNeg) (xs (x3 + 3).toNatClampNeg) u v
  have hu1 : u ≤ q.2.2.1 := (ht _ hq).1
  have hv1 : v ≤ q.2.2.2 := (ht _ hq).2.1
  refine lz_callX (As := [.int (xs (x3 + 1).toNatClampNeg), .int (xs (x3 + 2).toNatClampNeg), .int (xs (x3 + 3).toNatClampNeg)]) (rest := []) C X ht hq lv_58 ll_58 rfl rfl rfl (fun _ => rfl) ⟨Nat.le_of_ble_eq_true rfl, Nat.le_of_ble_eq_true rfl⟩ (Nat.le_of_ble_eq_true rfl) rfl hl.1 dL_law_404 (by show 71 + u + (q.2.2.1 - u) ≤ 600000; have := hu'.1; omega) (by show 200844 + v + (q.2.2.2 - v) ≤ 7302250; have := hu'.2.1; omega) (fun ad1 H1 locs1 f0 X1 => ?_)
  refine W.widen (k := 71 + q.2.2.1) (n := 200844 + q.2.2.2) (by show 71 + u + (q.2.2.1 - u) ≤ 71 + q.2.2.1; omega) (by show 200844 + v + (q.2.2.2 - v) ≤ 200844 + q.2.2.2; omega) ?_
  have X1 : lz_S G ad1 adM s H1 locs1 (xw P q.2.1) (mw M) := X1
  show W p l e room_1 s m #[Value.ref b] below meth c H1 locs1 (71 + q.2.2.1) (200844 + q.2.2.2) (lw_Z below #[Value.ref b] s) (F0 m 407 ls [.int q.1])
  refine lv_aload_n hx hb dL_law_407 rfl (lv_at hl 2 rfl) ?_
  refine lv_aload_n hx hb dL_law_408 rfl (lv_at hl 0 rfl) ?_
  refine lv_iload_n hx hb dL_law_409 rfl (lv_at hl 3 rfl) ?_
  refine lv_iconst (v := 1) hx hb dL_law_410 (by decide) ?_
  refine lv_iadd hx hb dL_law_411 ?_
  refine va_sld hx hb hXs hbl hbA X1.2.2 z1 dL_law_412 ?_
  refine lv_aload_n hx hb dL_law_413 rfl (lv_at hl 0 rfl) ?_
  refine lv_iload_n hx hb dL_law_414 rfl (lv_at hl 3 rfl) ?_
  refine lv_iconst (v := 2) hx hb dL_law_415 (by decide) ?_
  refine lv_iadd hx hb dL_law_416 ?_
  refine va_sld hx hb hXs hbl hbA X1.2.2 z2 dL_law_417 ?_
  refine lv_aload_n hx hb dL_law_418 rfl (lv_at hl 0 rfl) ?_
  refine lv_iload_n hx hb dL_law_419 rfl (lv_at hl 3 rfl) ?_
  refine lv_iconst (v := 3) hx hb dL_law_420 (by decide) ?_
  refine lv_iadd hx hb dL_law_421 ?_
  refine va_sld hx hb hXs hbl hbA X1.2.2 z3 dL_law_422 ?_
  refine lz_callM (As := [.int (xs (x3 + 1).toNatClampNeg), .int (xs (x3 + 2).toNatClampNeg), .int (xs (x3 + 3).toNatClampNeg)]) (rest := [.int q.1]) C X1 (tM_object M (xs (x3 + 1).toNatClampNeg) (xs (x3 + 2).toNatClampNeg) (xs (x3 + 3).toNatClampNeg)) hq2 lv_61 ll_61 rfl rfl rfl (fun _ => rfl) ⟨Nat.le_of_ble_eq_true rfl, Nat.le_of_ble_eq_true rfl⟩ (Nat.le_of_ble_eq_true rfl) rfl hl.1 dL_law_423 (by show 71 + q.2.2.1 + 0 ≤ 600000; have := hu'.1; omega) (by show 200844 + q.2.2.2 + 0 ≤ 7302250; have := hu'.2.1; omega) (fun ad2 H2 locs2 g0 X2 => ?_)
  have X2 : lz_S G ad1 ad2 s H2 locs2 (xw P q.2.1) (mw M') := X2
  show W p l e room_1 s m #[Value.ref b] below meth c H2 locs2 (71 + q.2.2.1) (200844 + q.2.2.2) (lw_Z below #[Value.ref b] s) (F0 m 426 ls [.int q.1, .int q.1])
  refine lv_icmp_eq (tgt := 658) hx hb dL_law_426 (by decide) (fun _ => ?_) (fun z => absurd rfl z)
  exact lc_tail C0 C X2 (by rw [f0, g0]; exact hl) hr' ih
set_option maxHeartbeats 4000000 in
set_option maxRecDepth 20000 in
theorem lc_put {p : Program} {l : Launch} {e : Env} {s : State} {m : MethodId} {b : Nat} {below : List Frame} {meth : Method} {c : Code} {H : Heap} {locs : List Loc} {ls : Array Slot} {G : rr_G} {L k u v : Nat} {xs : Nat → Int32} {x3 : Int32} {P S M : rr_T} {adX adM : Nat → Nat} {R : Nat → rr_T → rr_T → Nat → Nat → rr_T → Prop} (C0 : lw_At p s m meth c b L xs) (C : lz_C G p s m b c) (X : lz_S G adX adM s H locs (xw P S) (mw M)) (hl : lv_has ls 4 [(0, .ref b), (1, .ref (adX 0)), (2, .ref (adM 0)), (3, .int x3)]) (hR : lz_R R) (hk : k < 512) (hr : R k P S u v M) (z1 : vp_in (x3 + 1) L) (z2 : vp_in (x3 + 2) L) (z3 : vp_in (x3 + 3) L) (z4 : vp_in (x3 + 4) L) (z5 : vp_in (x3 + 5) L) (ih : ∀ (P' S' : rr_T) (u' v' : Nat) (M' : rr_T) (dX dM : Nat → Nat) (H' : Heap) (locs' : List Loc) (ls' : Array Slot), R (k + 1) P' S' u' v' M' → lz_S G dX dM s H' locs' (xw P' S') (mw M') → lv_has ls' 4 [(0, .ref b), (1, .ref (dX 0)), (2, .ref (dM 0)), (3, .int (x3 + 6))] → W p l e room_1 s m #[Value.ref b] below meth c H' locs' (71 + u') (200844 + v') (lw_Z below #[Value.ref b] s) (F0 m 18 ls' [])) : W p l e room_1 s m #[Value.ref b] below meth c H locs (71 + u) (200844 + v) (lw_Z below #[Value.ref b] s) (F0 m 431 ls []) := by
  obtain ⟨r, P', S', u', v', M', e1, e2, hr'⟩ := hR.2.2 11 k P S u v M (xs (x3 + 1).toNatClampNeg) 0 0 0 0 (by decide) hk hr
  have hu := hR.2.1 _ _ _ _ _ _ hr
  have hu' := hR.2.1 _ _ _ _ _ _ hr'
  have e1 : (fX10_put P S (xs (x3 + 1).toNatClampNeg)).map (fun q => (q.1, P, q.2, u, v)) = _ := e1
  obtain ⟨q, hq, e1⟩ := Option.map_eq_some_iff.mp e1
  cases e1
  have hq2 : fM_put M (xs (x3 + 1).toNatClampNeg) = _ := e2
  obtain ⟨hx, hb, hr0, hml, hown, hts, hXs, hbl, hlocks, hgv⟩ := id C0
  have hbA : ¬ (fun q : Nat => s.heap.size ≤ q) b := Nat.not_le.mpr hbl
  refine lv_aload_n hx hb dL_law_431 rfl (lv_at hl 1 rfl) ?_
  refine lv_aload_n hx hb dL_law_432 rfl (lv_at hl 0 rfl) ?_
  refine lv_iload_n hx hb dL_law_433 rfl (lv_at hl 3 rfl) ?_
  refine lv_iconst (v := 1) hx hb dL_law_434 (by decide) ?_
  refine lv_iadd hx hb dL_law_435 ?_
  refine va_sld hx hb hXs hbl hbA X.2.2 z1 dL_law_436 ?_
  refine lz_callX (As := [.int (xs (x3 + 1).toNatClampNeg)]) (rest := []) C X (tX10_put P S (xs (x3 + 1).toNatClampNeg)) hq lv_62 ll_62 rfl rfl rfl (fun _ => rfl) ⟨Nat.le_of_ble_eq_true rfl, Nat.le_of_ble_eq_true rfl⟩ (Nat.le_of_ble_eq_true rfl) rfl hl.1 dL_law_437 (by show 71 + u + 0 ≤ 600000; have := hu.1; omega) (by show 200844 + v + 0 ≤ 7302250; have := hu.2.1; omega) (fun ad1 H1 locs1 f0 X1 => ?_)
  have X1 : lz_S G ad1 adM s H1 locs1 (xw P q.2) (mw M) := X1
  show W p l e room_1 s m #[Value.ref b] below meth c H1 locs1 (71 + u) (200844 + v) (lw_Z below #[Value.ref b] s) (F0 m 440 ls [.int q.1])
  refine lv_aload_n hx hb dL_law_440 rfl (lv_at hl 2 rfl) ?_
  refine lv_aload_n hx hb dL_law_441 rfl (lv_at hl 0 rfl) ?_
  refine lv_iload_n hx hb dL_law_442 rfl (lv_at hl 3 rfl) ?_
  refine lv_iconst (v := 1) hx hb dL_law_443 (by decide) ?_
  refine lv_iadd hx hb dL_law_444 ?_
  refine va_sld hx hb hXs hbl hbA X1.2.2 z1 dL_law_445 ?_
  refine lz_callM (As := [.int (xs (x3 + 1).toNatClampNeg)]) (rest := [.int q.1]) C X1 (tM_put M (xs (x3 + 1).toNatClampNeg)) hq2 lv_65 ll_65 rfl rfl rfl (fun _ => rfl) ⟨Nat.le_of_ble_eq_true rfl, Nat.le_of_ble_eq_true rfl⟩ (Nat.le_of_ble_eq_true rfl) rfl hl.1 dL_law_446 (by show 71 + u + 0 ≤ 600000; have := hu'.1; omega) (by show 200844 + v + 0 ≤ 7302250; have := hu'.2.1; omega) (fun ad2 H2 locs2 g0 X2 => ?_)
  have X2 : lz_S G ad1 ad2 s H2 locs2 (xw P q.2) (mw M') := X2
  show W p l e room_1 s m #[Value.ref b] below meth c H2 locs2 (71 + u) (200844 + v) (lw_Z below #[Value.ref b] s) (F0 m 449 ls [.int q.1, .int q.1])
  refine lv_icmp_eq (tgt := 658) hx hb dL_law_449 (by decide) (fun _ => ?_) (fun z => absurd rfl z)
  exact lc_tail C0 C X2 (by rw [f0, g0]; exact hl) hr' ih
set_option maxHeartbeats 4000000 in
set_option maxRecDepth 20000 in
theorem lc_empty {p : Program} {l : Launch} {e : Env} {s : State} {m : MethodId} {b : Nat} {below : List Frame} {meth : Method} {c : Code} {H : Heap} {locs : List Loc} {ls : Array Slot} {G : rr_G} {L k u v : Nat} {xs : Nat → Int32} {x3 : Int32} {P S M : rr_T} {adX adM : Nat → Nat} {R : Nat → rr_T → rr_T → Nat → Nat → rr_T → Prop} (C0 : lw_At p s m meth c b L xs) (C : lz_C G p s m b c) (X : lz_S G adX adM s H locs (xw P S) (mw M)) (hl : lv_has ls 4 [(0, .ref b), (1, .ref (adX 0)), (2, .ref (adM 0)), (3, .int x3)]) (hR : lz_R R) (hk : k < 512) (hr : R k P S u v M) (z1 : vp_in (x3 + 1) L) (z2 : vp_in (x3 + 2) L) (z3 : vp_in (x3 + 3) L) (z4 : vp_in (x3 + 4) L) (z5 : vp_in (x3 + 5) L) (ih : ∀ (P' S' : rr_T) (u' v' : Nat) (M' : rr_T) (dX dM : Nat → Nat) (H' : Heap) (locs' : List Loc) (ls' : Array Slot), R (k + 1) P' S' u' v' M' → lz_S G dX dM s H' locs' (xw P' S') (mw M') → lv_has ls' 4 [(0, .ref b), (1, .ref (dX 0)), (2, .ref (dM 0)), (3, .int (x3 + 6))] → W p l e room_1 s m #[Value.ref b] below meth c H' locs' (71 + u') (200844 + v') (lw_Z below #[Value.ref b] s) (F0 m 18 ls' [])) : W p l e room_1 s m #[Value.ref b] below meth c H locs (71 + u) (200844 + v) (lw_Z below #[Value.ref b] s) (F0 m 454 ls []) := by
  obtain ⟨r, P', S', u', v', M', e1, e2, hr'⟩ := hR.2.2 12 k P S u v M 0 0 0 0 0 (by decide) hk hr
  have hu := hR.2.1 _ _ _ _ _ _ hr
  have hu' := hR.2.1 _ _ _ _ _ _ hr'
  have e1 : (fX10_empty P S).map (fun q => (q.1, P, q.2, u, v)) = _ := e1
  obtain ⟨q, hq, e1⟩ := Option.map_eq_some_iff.mp e1
  cases e1
  have hq2 : fM_empty M = _ := e2
  obtain ⟨hx, hb, hr0, hml, hown, hts, hXs, hbl, hlocks, hgv⟩ := id C0
  have hbA : ¬ (fun q : Nat => s.heap.size ≤ q) b := Nat.not_le.mpr hbl
  refine lv_aload_n hx hb dL_law_454 rfl (lv_at hl 1 rfl) ?_
  refine lz_callX (As := []) (rest := []) C X (tX10_empty P S) hq lv_66 ll_66 rfl rfl rfl (fun _ => rfl) ⟨Nat.le_of_ble_eq_true rfl, Nat.le_of_ble_eq_true rfl⟩ (Nat.le_of_ble_eq_true rfl) rfl hl.1 dL_law_455 (by show 71 + u + 0 ≤ 600000; have := hu.1; omega) (by show 200844 + v + 0 ≤ 7302250; have := hu.2.1; omega) (fun ad1 H1 locs1 f0 X1 => ?_)
  have X1 : lz_S G ad1 adM s H1 locs1 (xw P q.2) (mw M) := X1
  show W p l e room_1 s m #[Value.ref b] below meth c H1 locs1 (71 + u) (200844 + v) (lw_Z below #[Value.ref b] s) (F0 m 458 ls [.int q.1])
  refine lv_aload_n hx hb dL_law_458 rfl (lv_at hl 2 rfl) ?_
  refine lz_callM (As := []) (rest := [.int q.1]) C X1 (tM_empty M) hq2 lv_69 ll_69 rfl rfl rfl (fun _ => rfl) ⟨Nat.le_of_ble_eq_true rfl, Nat.le_of_ble_eq_true rfl⟩ (Nat.le_of_ble_eq_true rfl) rfl hl.1 dL_law_459 (by show 71 + u + 0 ≤ 600000; have := hu'.1; omega) (by show 200844 + v + 0 ≤ 7302250; have := hu'.2.1; omega) (fun ad2 H2 locs2 g0 X2 => ?_)
  have X2 : lz_S G ad1 ad2 s H2 locs2 (xw P q.2) (mw M') := X2
  show W p l e room_1 s m #[Value.ref b] below meth c H2 locs2 (71 + u) (200844 + v) (lw_Z below #[Value.ref b] s) (F0 m 462 ls [.int q.1, .int q.1])
  refine lv_icmp_eq (tgt := 658) hx hb dL_law_462 (by decide) (fun _ => ?_) (fun z => absurd rfl z)
  exact lc_tail C0 C X2 (by rw [f0, g0]; exact hl) hr' ih
set_option maxHeartbeats 4000000 in
set_option maxRecDepth 20000 in
theorem lc_rank {p : Program} {l : Launch} {e : Env} {s : State} {m : MethodId} {b : Nat} {below : List Frame} {meth : Method} {c : Code} {H : Heap} {locs : List Loc} {ls : Array Slot} {G : rr_G} {L k u v : Nat} {xs : Nat → Int32} {x3 : Int32} {P S M : rr_T} {adX adM : Nat → Nat} {R : Nat → rr_T → rr_T → Nat → Nat → rr_T → Prop} (C0 : lw_At p s m meth c b L xs) (C : lz_C G p s m b c) (X : lz_S G adX adM s H locs (xw P S) (mw M)) (hl : lv_has ls 4 [(0, .ref b), (1, .ref (adX 0)), (2, .ref (adM 0)), (3, .int x3)]) (hR : lz_R R) (hk : k < 512) (hr : R k P S u v M) (z1 : vp_in (x3 + 1) L) (z2 : vp_in (x3 + 2) L) (z3 : vp_in (x3 + 3) L) (z4 : vp_in (x3 + 4) L) (z5 : vp_in (x3 + 5) L) (ih : ∀ (P' S' : rr_T) (u' v' : Nat) (M' : rr_T) (dX dM : Nat → Nat) (H' : Heap) (locs' : List Loc) (ls' : Array Slot), R (k + 1) P' S' u' v' M' → lz_S G dX dM s H' locs' (xw P' S') (mw M') → lv_has ls' 4 [(0, .ref b), (1, .ref (dX 0)), (2, .ref (dM 0)), (3, .int (x3 + 6))] → W p l e room_1 s m #[Value.ref b] below meth c H' locs' (71 + u') (200844 + v') (lw_Z below #[Value.ref b] s) (F0 m 18 ls' [])) : W p l e room_1 s m #[Value.ref b] below meth c H locs (71 + u) (200844 + v) (lw_Z below #[Value.ref b] s) (F0 m 467 ls []) := by
  obtain ⟨r, P', S', u', v', M', e1, e2, hr'⟩ := hR.2.2 13 k P S u v M 0 0 0 0 0 (by decide) hk hr
  have hu := hR.2.1 _ _ _ _ _ _ hr
  have hu' := hR.2.1 _ _ _ _ _ _ hr'
  have e1 : (fX10_rank P S u v).map (fun q => (q.1, P, q.2.1, q.2.2.1, q.2.2.2)) = _ := e1
  obtain ⟨q, hq, e1⟩ := Option.map_eq_some_iff.mp e1
  cases e1
  have hq2 : fM_rank M = _ := e2
  obtain ⟨hx, hb, hr0, hml, hown, hts, hXs, hbl, hlocks, hgv⟩ := id C0
  have hbA : ¬ (fun q : Nat => s.heap.size ≤ q) b := Nat.not_le.mpr hbl
  refine lv_aload_n hx hb dL_law_467 rfl (lv_at hl 1 rfl) ?_
  have ht := tX10_rank (l := l) (G := G) P S u v
  have hu1 : u ≤ q.2.2.1 := (ht _ hq).1
  have hv1 : v ≤ q.2.2.2 := (ht _ hq).2.1
  refine lz_callX (As := []) (rest := []) C X ht hq lv_70 ll_70 rfl rfl rfl (fun _ => rfl) ⟨Nat.le_of_ble_eq_true rfl, Nat.le_of_ble_eq_true rfl⟩ (Nat.le_of_ble_eq_true rfl) rfl hl.1 dL_law_468 (by show 71 + u + (q.2.2.1 - u) ≤ 600000; have := hu'.1; omega) (by show 200844 + v + (q.2.2.2 - v) ≤ 7302250; have := hu'.2.1; omega) (fun ad1 H1 locs1 f0 X1 => ?_)
  refine W.widen (k := 71 + q.2.2.1) (n := 200844 + q.2.2.2) (by show 71 + u + (q.2.2.1 - u) ≤ 71 + q.2.2.1; omega) (by show 200844 + v + (q.2.2.2 - v) ≤ 200844 + q.2.2.2; omega) ?_
  have X1 : lz_S G ad1 adM s H1 locs1 (xw P q.2.1) (mw M) := X1
  show W p l e room_1 s m #[Value.ref b] below meth c H1 locs1 (71 + q.2.2.1) (200844 + q.2.2.2) (lw_Z below #[Value.ref b] s) (F0 m 471 ls [.int q.1])
  refine lv_aload_n hx hb dL_law_471 rfl (lv_at hl 2 rfl) ?_
  refine lz_callM (As := []) (rest := [.int q.1]) C X1 (tM_rank M) hq2 lv_73 ll_73 rfl rfl rfl (fun _ => rfl) ⟨Nat.le_of_ble_eq_true rfl, Nat.le_of_ble_eq_true rfl⟩ (Nat.le_of_ble_eq_true rfl) rfl hl.1 dL_law_472 (by show 71 + q.2.2.1 + 0 ≤ 600000; have := hu'.1; omega) (by show 200844 + q.2.2.2 + 0 ≤ 7302250; have := hu'.2.1; omega) (fun ad2 H2 locs2 g0 X2 => ?_)
  have X2 : lz_S G ad1 ad2 s H2 locs2 (xw P q.2.1) (mw M') := X2
  show W p l e room_1 s m #[Value.ref b] below meth c H2 locs2 (71 + q.2.2.1) (200844 + q.2.2.2) (lw_Z below #[Value.ref b] s) (F0 m 475 ls [.int q.1, .int q.1])
  refine lv_icmp_eq (tgt := 658) hx hb dL_law_475 (by decide) (fun _ => ?_) (fun z => absurd rfl z)
  exact lc_tail C0 C X2 (by rw [f0, g0]; exact hl) hr' ih
set_option maxHeartbeats 4000000 in
set_option maxRecDepth 20000 in
theorem lc_step {p : Program} {l : Launch} {e : Env} {s : State} {m : MethodId} {b : Nat} {below : List Frame} {meth : Method} {c : Code} {H : Heap} {locs : List Loc} {ls : Array Slot} {G : rr_G} {L k u v : Nat} {xs : Nat → Int32} {x3 : Int32} {P S M : rr_T} {adX adM : Nat → Nat} {R : Nat → rr_T → rr_T → Nat → Nat → rr_T → Prop} (C0 : lw_At p s m meth c b L xs) (C : lz_C G p s m b c) (X : lz_S G adX adM s H locs (xw P S) (mw M)) (hl : lv_has ls 4 [(0, .ref b), (1, .ref (adX 0)), (2, .ref (adM 0)), (3, .int x3)]) (hR : lz_R R) (hk : k < 512) (hr : R k P S u v M) (z1 : vp_in (x3 + 1) L) (z2 : vp_in (x3 + 2) L) (z3 : vp_in (x3 + 3) L) (z4 : vp_in (x3 + 4) L) (z5 : vp_in (x3 + 5) L) (ih : ∀ (P' S' : rr_T) (u' v' : Nat) (M' : rr_T) (dX dM : Nat → Nat) (H' : Heap) (locs' : List Loc) (ls' : Array Slot), R (k + 1) P' S' u' v' M' → lz_S G dX dM s H' locs' (xw P' S') (mw M') → lv_has ls' 4 [(0, .ref b), (1, .ref (dX 0)), (2, .ref (dM 0)), (3, .int (x3 + 6))] → W p l e room_1 s m #[Value.ref b] below meth c H' locs' (71 + u') (200844 + v') (lw_Z below #[Value.ref b] s) (F0 m 18 ls' [])) : W p l e room_1 s m #[Value.ref b] below meth c H locs (71 + u) (200844 + v) (lw_Z below #[Value.ref b] s) (F0 m 480 ls []) := by
  obtain ⟨r, P', S', u', v', M', e1, e2, hr'⟩ := hR.2.2 14 k P S u v M (xs (x3 + 1).toNatClampNeg) (xs (x3 + 2).toNatClampNeg) (xs (x3 + 3).toNatClampNeg) (xs (x3 + 4).toNatClampNeg) (xs (x3 + 5).toNatClampNeg) (by decide) hk hr
  have hu := hR.2.1 _ _ _ _ _ _ hr
  have hu' := hR.2.1 _ _ _ _ _ _ hr'
  have hq : fX10_step P S (xs (x3 + 1).toNatClampNeg) (xs (x3 + 2).toNatClampNeg) (xs (x3 + 3).toNatClampNeg) (xs (x3 + 4).toNatClampNeg) (xs (x3 + 5).toNatClampNeg) u v = _ := e1
  have hq2 : fM_step M (xs (x3 + 1).toNatClampNeg) (xs (x3 + 2).toNatClampNeg) (xs (x3 + 3).toNatClampNeg) (xs (x3 + 4).toNatClampNeg) (xs (x3 + 5).toNatClampNeg) = _ := e2
  obtain ⟨hx, hb, hr0, hml, hown, hts, hXs, hbl, hlocks, hgv⟩ := id C0
  have hbA : ¬ (fun q : Nat => s.heap.size ≤ q) b := Nat.not_le.mpr hbl
  refine lv_aload_n hx hb dL_law_480 rfl (lv_at hl 1 rfl) ?_
  refine lv_aload_n hx hb dL_law_481 rfl (lv_at hl 0 rfl) ?_
  refine lv_iload_n hx hb dL_law_482 rfl (lv_at hl 3 rfl) ?_
  refine lv_iconst (v := 1) hx hb dL_law_483 (by decide) ?_
  refine lv_iadd hx hb dL_law_484 ?_
  refine va_sld hx hb hXs hbl hbA X.2.2 z1 dL_law_485 ?_
  refine lv_aload_n hx hb dL_law_486 rfl (lv_at hl 0 rfl) ?_
  refine lv_iload_n hx hb dL_law_487 rfl (lv_at hl 3 rfl) ?_
  refine lv_iconst (v := 2) hx hb dL_law_488 (by decide) ?_
  refine lv_iadd hx hb dL_law_489 ?_
  refine va_sld hx hb hXs hbl hbA X.2.2 z2 dL_law_490 ?_
  refine lv_aload_n hx hb dL_law_491 rfl (lv_at hl 0 rfl) ?_
  refine lv_iload_n hx hb dL_law_492 rfl (lv_at hl 3 rfl) ?_
  refine lv_iconst (v := 3) hx hb dL_law_493 (by decide) ?_
  refine lv_iadd hx hb dL_law_494 ?_
  refine va_sld hx hb hXs hbl hbA X.2.2 z3 dL_law_495 ?_
  refine lv_aload_n hx hb dL_law_496 rfl (lv_at hl 0 rfl) ?_
  refine lv_iload_n hx hb dL_law_497 rfl (lv_at hl 3 rfl) ?_
  refine lv_iconst (v := 4) hx hb dL_law_498 (by decide) ?_
  refine lv_iadd hx hb dL_law_499 ?_
  refine va_sld hx hb hXs hbl hbA X.2.2 z4 dL_law_500 ?_
  refine lv_aload_n hx hb dL_law_501 rfl (lv_at hl 0 rfl) ?_
  refine lv_iload_n hx hb dL_law_502 rfl (lv_at hl 3 rfl) ?_
  refine lv_iconst (v := 5) hx hb dL_law_503 (by decide) ?_
  refine lv_iadd hx hb dL_law_504 ?_
  refine va_sld hx hb hXs hbl hbA X.2.2 z5 dL_law_505 ?_
  have ht := tX10_step (l := l) (G := G) P S (xs (x3 + 1).toNatClampNeg) (xs (x3 + 2).toNatClampNeg) (xs (x3 + 3).toNatClampNeg) (xs (x3 + 4).toNatClampNeg) (xs (x3 + 5).toNatClampNeg) u v
  have hu1 : u ≤ u' := (ht _ hq).1
  have hv1 : v ≤ v' := (ht _ hq).2.1
  refine lz_callX (As := [.int (xs (x3 + 1).toNatClampNeg), .int (xs (x3 + 2).toNatClampNeg), .int (xs (x3 + 3).toNatClampNeg), .int (xs (x3 + 4).toNatClampNeg), .int (xs (x3 + 5).toNatClampNeg)]) (rest := []) C X ht hq lv_74 ll_74 rfl rfl rfl (fun _ => rfl) ⟨Nat.le_of_ble_eq_true rfl, Nat.le_of_ble_eq_true rfl⟩ (Nat.le_of_ble_eq_true rfl) rfl hl.1 dL_law_506 (by show 71 + u + (u' - u) ≤ 600000; have := hu'.1; omega) (by show 200844 + v + (v' - v) ≤ 7302250; have := hu'.2.1; omega) (fun ad1 H1 locs1 f0 X1 => ?_)
  refine W.widen (k := 71 + u') (n := 200844 + v') (by show 71 + u + (u' - u) ≤ 71 + u'; omega) (by show 200844 + v + (v' - v) ≤ 200844 + v'; omega) ?_
  have X1 : lz_S G ad1 adM s H1 locs1 (xw P' S') (mw M) := X1
  show W p l e room_1 s m #[Value.ref b] below meth c H1 locs1 (71 + u') (200844 + v') (lw_Z below #[Value.ref b] s) (F0 m 509 ls [.int r])
  refine lv_aload_n hx hb dL_law_509 rfl (lv_at hl 2 rfl) ?_
  refine lv_aload_n hx hb dL_law_510 rfl (lv_at hl 0 rfl) ?_
  refine lv_iload_n hx hb dL_law_511 rfl (lv_at hl 3 rfl) ?_
  refine lv_iconst (v := 1) hx hb dL_law_512 (by decide) ?_
  refine lv_iadd hx hb dL_law_513 ?_
  refine va_sld hx hb hXs hbl hbA X1.2.2 z1 dL_law_514 ?_
  refine lv_aload_n hx hb dL_law_515 rfl (lv_at hl 0 rfl) ?_
  refine lv_iload_n hx hb dL_law_516 rfl (lv_at hl 3 rfl) ?_
  refine lv_iconst (v := 2) hx hb dL_law_517 (by decide) ?_
  refine lv_iadd hx hb dL_law_518 ?_
  refine va_sld hx hb hXs hbl hbA X1.2.2 z2 dL_law_519 ?_
  refine lv_aload_n hx hb dL_law_520 rfl (lv_at hl 0 rfl) ?_
  refine lv_iload_n hx hb dL_law_521 rfl (lv_at hl 3 rfl) ?_
  refine lv_iconst (v := 3) hx hb dL_law_522 (by decide) ?_
  refine lv_iadd hx hb dL_law_523 ?_
  refine va_sld hx hb hXs hbl hbA X1.2.2 z3 dL_law_524 ?_
  refine lv_aload_n hx hb dL_law_525 rfl (lv_at hl 0 rfl) ?_
  refine lv_iload_n hx hb dL_law_526 rfl (lv_at hl 3 rfl) ?_
  refine lv_iconst (v := 4) hx hb dL_law_527 (by decide) ?_
  refine lv_iadd hx hb dL_law_528 ?_
  refine va_sld hx hb hXs hbl hbA X1.2.2 z4 dL_law_529 ?_
  refine lv_aload_n hx hb dL_law_530 rfl (lv_at hl 0 rfl) ?_
  refine lv_iload_n hx hb dL_law_531 rfl (lv_at hl 3 rfl) ?_
  refine lv_iconst (v := 5) hx hb dL_law_532 (by decide) ?_
  refine lv_iadd hx hb dL_law_533 ?_
  refine va_sld hx hb hXs hbl hbA X1.2.2 z5 dL_law_534 ?_
  refine lz_callM (As := [.int (xs (x3 + 1).toNatClampNeg), .int (xs (x3 + 2).toNatClampNeg), .int (xs (x3 + 3).toNatClampNeg), .int (xs (x3 + 4).toNatClampNeg), .int (xs (x3 + 5).toNatClampNeg)]) (rest := [.int r]) C X1 (tM_step M (xs (x3 + 1).toNatClampNeg) (xs (x3 + 2).toNatClampNeg) (xs (x3 + 3).toNatClampNeg) (xs (x3 + 4).toNatClampNeg) (xs (x3 + 5).toNatClampNeg)) hq2 lv_78 ll_78 rfl rfl rfl (fun _ => rfl) ⟨Nat.le_of_ble_eq_true rfl, Nat.le_of_ble_eq_true rfl⟩ (Nat.le_of_ble_eq_true rfl) rfl hl.1 dL_law_535 (by show 71 + u' + 0 ≤ 600000; have := hu'.1; omega) (by show 200844 + v' + 0 ≤ 7302250; have := hu'.2.1; omega) (fun ad2 H2 locs2 g0 X2 => ?_)
  have X2 : lz_S G ad1 ad2 s H2 locs2 (xw P' S') (mw M') := X2
  show W p l e room_1 s m #[Value.ref b] below meth c H2 locs2 (71 + u') (200844 + v') (lw_Z below #[Value.ref b] s) (F0 m 538 ls [.int r, .int r])
  refine lv_icmp_eq (tgt := 658) hx hb dL_law_538 (by decide) (fun _ => ?_) (fun z => absurd rfl z)
  exact lc_tail C0 C X2 (by rw [f0, g0]; exact hl) hr' ih
set_option maxHeartbeats 4000000 in
set_option maxRecDepth 20000 in
theorem lc_erase {p : Program} {l : Launch} {e : Env} {s : State} {m : MethodId} {b : Nat} {below : List Frame} {meth : Method} {c : Code} {H : Heap} {locs : List Loc} {ls : Array Slot} {G : rr_G} {L k u v : Nat} {xs : Nat → Int32} {x3 : Int32} {P S M : rr_T} {adX adM : Nat → Nat} {R : Nat → rr_T → rr_T → Nat → Nat → rr_T → Prop} (C0 : lw_At p s m meth c b L xs) (C : lz_C G p s m b c) (X : lz_S G adX adM s H locs (xw P S) (mw M)) (hl : lv_has ls 4 [(0, .ref b), (1, .ref (adX 0)), (2, .ref (adM 0)), (3, .int x3)]) (hR : lz_R R) (hk : k < 512) (hr : R k P S u v M) (z1 : vp_in (x3 + 1) L) (z2 : vp_in (x3 + 2) L) (z3 : vp_in (x3 + 3) L) (z4 : vp_in (x3 + 4) L) (z5 : vp_in (x3 + 5) L) (ih : ∀ (P' S' : rr_T) (u' v' : Nat) (M' : rr_T) (dX dM : Nat → Nat) (H' : Heap) (locs' : List Loc) (ls' : Array Slot), R (k + 1) P' S' u' v' M' → lz_S G dX dM s H' locs' (xw P' S') (mw M') → lv_has ls' 4 [(0, .ref b), (1, .ref (dX 0)), (2, .ref (dM 0)), (3, .int (x3 + 6))] → W p l e room_1 s m #[Value.ref b] below meth c H' locs' (71 + u') (200844 + v') (lw_Z below #[Value.ref b] s) (F0 m 18 ls' [])) : W p l e room_1 s m #[Value.ref b] below meth c H locs (71 + u) (200844 + v) (lw_Z below #[Value.ref b] s) (F0 m 543 ls []) := by
  obtain ⟨r, P', S', u', v', M', e1, e2, hr'⟩ := hR.2.2 15 k P S u v M 0 0 0 0 0 (by decide) hk hr
  have hu := hR.2.1 _ _ _ _ _ _ hr
  have hu' := hR.2.1 _ _ _ _ _ _ hr'
  have e1 : (fX10_erase P S).map (fun q => (q.1, P, q.2, u, v)) = _ := e1
  obtain ⟨q, hq, e1⟩ := Option.map_eq_some_iff.mp e1
  cases e1
  have hq2 : fM_erase M = _ := e2
  obtain ⟨hx, hb, hr0, hml, hown, hts, hXs, hbl, hlocks, hgv⟩ := id C0
  have hbA : ¬ (fun q : Nat => s.heap.size ≤ q) b := Nat.not_le.mpr hbl
  refine lv_aload_n hx hb dL_law_543 rfl (lv_at hl 1 rfl) ?_
  refine lz_callX (As := []) (rest := []) C X (tX10_erase P S) hq lv_79 ll_79 rfl rfl rfl (fun _ => rfl) ⟨Nat.le_of_ble_eq_true rfl, Nat.le_of_ble_eq_true rfl⟩ (Nat.le_of_ble_eq_true rfl) rfl hl.1 dL_law_544 (by show 71 + u + 0 ≤ 600000; have := hu.1; omega) (by show 200844 + v + 0 ≤ 7302250; have := hu.2.1; omega) (fun ad1 H1 locs1 f0 X1 => ?_)
  have X1 : lz_S G ad1 adM s H1 locs1 (xw P q.2) (mw M) := X1
  show W p l e room_1 s m #[Value.ref b] below meth c H1 locs1 (71 + u) (200844 + v) (lw_Z below #[Value.ref b] s) (F0 m 547 ls [.int q.1])
  refine lv_aload_n hx hb dL_law_547 rfl (lv_at hl 2 rfl) ?_
  refine lz_callM (As := []) (rest := [.int q.1]) C X1 (tM_erase M) hq2 lv_82 ll_82 rfl rfl rfl (fun _ => rfl) ⟨Nat.le_of_ble_eq_true rfl, Nat.le_of_ble_eq_true rfl⟩ (Nat.le_of_ble_eq_true rfl) rfl hl.1 dL_law_548 (by show 71 + u + 0 ≤ 600000; have := hu'.1; omega) (by show 200844 + v + 0 ≤ 7302250; have := hu'.2.1; omega) (fun ad2 H2 locs2 g0 X2 => ?_)
  have X2 : lz_S G ad1 ad2 s H2 locs2 (xw P q.2) (mw M') := X2
  show W p l e room_1 s m #[Value.ref b] below meth c H2 locs2 (71 + u) (200844 + v) (lw_Z below #[Value.ref b] s) (F0 m 551 ls [.int q.1, .int q.1])
  refine lv_icmp_eq (tgt := 658) hx hb dL_law_551 (by decide) (fun _ => ?_) (fun z => absurd rfl z)
  exact lc_tail C0 C X2 (by rw [f0, g0]; exact hl) hr' ih
set_option maxHeartbeats 4000000 in
set_option maxRecDepth 20000 in
theorem lc_ends {p : Program} {l : Launch} {e : Env} {s : State} {m : MethodId} {b : Nat} {below : List Frame} {meth : Method} {c : Code} {H : Heap} {locs : List Loc} {ls : Array Slot} {G : rr_G} {L k u v : Nat} {xs : Nat → Int32} {x3 : Int32} {P S M : rr_T} {adX adM : Nat → Nat} {R : Nat → rr_T → rr_T → Nat → Nat → rr_T → Prop} (C0 : lw_At p s m meth c b L xs) (C : lz_C G p s m b c) (X : lz_S G adX adM s H locs (xw P S) (mw M)) (hl : lv_has ls 4 [(0, .ref b), (1, .ref (adX 0)), (2, .ref (adM 0)), (3, .int x3)]) (hR : lz_R R) (hk : k < 512) (hr : R k P S u v M) (z1 : vp_in (x3 + 1) L) (z2 : vp_in (x3 + 2) L) (z3 : vp_in (x3 + 3) L) (z4 : vp_in (x3 + 4) L) (z5 : vp_in (x3 + 5) L) (ih : ∀ (P' S' : rr_T) (u' v' : Nat) (M' : rr_T) (dX dM : Nat → Nat) (H' : Heap) (locs' : List Loc) (ls' : Array Slot), R (k + 1) P' S' u' v' M' → lz_S G dX dM s H' locs' (xw P' S') (mw M') → lv_has ls' 4 [(0, .ref b), (1, .ref (dX 0)), (2, .ref (dM 0)), (3, .int (x3 + 6))] → W p l e room_1 s m #[Value.ref b] below meth c H' locs' (71 + u') (200844 + v') (lw_Z below #[Value.ref b] s) (F0 m 18 ls' [])) : W p l e room_1 s m #[Value.ref b] below meth c H locs (71 + u) (200844 + v) (lw_Z below #[Value.ref b] s) (F0 m 556 ls []) := by
  obtain ⟨r, P', S', u', v', M', e1, e2, hr'⟩ := hR.2.2 16 k P S u v M 0 0 0 0 0 (by decide) hk hr
  have hu := hR.2.1 _ _ _ _ _ _ hr
  have hu' := hR.2.1 _ _ _ _ _ _ hr'
  have e1 : (fX10_ends P S u v).map (fun q => (q.1, P, q.2.1, q.2.2.1, q.2.2.2)) = _ := e1
  obtain ⟨q, hq, e1⟩ := Option.map_eq_some_iff.mp e1
  cases e1
  have hq2 : fM_ends M = _ := e2
  obtain ⟨hx, hb, hr0, hml, hown, hts, hXs, hbl, hlocks, hgv⟩ := id C0
  have hbA : ¬ (fun q : Nat => s.heap.size ≤ q) b := Nat.not_le.mpr hbl
  refine lv_aload_n hx hb dL_law_556 rfl (lv_at hl 1 rfl) ?_
  have ht := tX10_ends (l := l) (G := G) P S u v
  have hu1 : u ≤ q.2.2.1 := (ht _ hq).1
  have hv1 : v ≤ q.2.2.2 := (ht _ hq).2.1
  refine lz_callX (As := []) (rest := []) C X ht hq lv_83 ll_83 rfl rfl rfl (fun _ => rfl) ⟨Nat.le_of_ble_eq_true rfl, Nat.le_of_ble_eq_true rfl⟩ (Nat.le_of_ble_eq_true rfl) rfl hl.1 dL_law_557 (by show 71 + u + (q.2.2.1 - u) ≤ 600000; have := hu'.1; omega) (by show 200844 + v + (q.2.2.2 - v) ≤ 7302250; have := hu'.2.1; omega) (fun ad1 H1 locs1 f0 X1 => ?_)
  refine W.widen (k := 71 + q.2.2.1) (n := 200844 + q.2.2.2) (by show 71 + u + (q.2.2.1 - u) ≤ 71 + q.2.2.1; omega) (by show 200844 + v + (q.2.2.2 - v) ≤ 200844 + q.2.2.2; omega) ?_
  have X1 : lz_S G ad1 adM s H1 locs1 (xw P q.2.1) (mw M) := X1
  show W p l e room_1 s m #[Value.ref b] below meth c H1 locs1 (71 + q.2.2.1) (200844 + q.2.2.2) (lw_Z below #[Value.ref b] s) (F0 m 560 ls [.int q.1])
  refine lv_aload_n hx hb dL_law_560 rfl (lv_at hl 2 rfl) ?_
  refine lz_callM (As := []) (rest := [.int q.1]) C X1 (tM_ends M) hq2 lv_86 ll_86 rfl rfl rfl (fun _ => rfl) ⟨Nat.le_of_ble_eq_true rfl, Nat.le_of_ble_eq_true rfl⟩ (Nat.le_of_ble_eq_true rfl) rfl hl.1 dL_law_561 (by show 71 + q.2.2.1 + 0 ≤ 600000; have := hu'.1; omega) (by show 200844 + q.2.2.2 + 0 ≤ 7302250; have := hu'.2.1; omega) (fun ad2 H2 locs2 g0 X2 => ?_)
  have X2 : lz_S G ad1 ad2 s H2 locs2 (xw P q.2.1) (mw M') := X2
  show W p l e room_1 s m #[Value.ref b] below meth c H2 locs2 (71 + q.2.2.1) (200844 + q.2.2.2) (lw_Z below #[Value.ref b] s) (F0 m 564 ls [.int q.1, .int q.1])
  refine lv_icmp_eq (tgt := 658) hx hb dL_law_564 (by decide) (fun _ => ?_) (fun z => absurd rfl z)
  exact lc_tail C0 C X2 (by rw [f0, g0]; exact hl) hr' ih
set_option maxHeartbeats 4000000 in
set_option maxRecDepth 20000 in
theorem lc_end {p : Program} {l : Launch} {e : Env} {s : State} {m : MethodId} {b : Nat} {below : List Frame} {meth : Method} {c : Code} {H : Heap} {locs : List Loc} {ls : Array Slot} {G : rr_G} {L k u v : Nat} {xs : Nat → Int32} {x3 : Int32} {P S M : rr_T} {adX adM : Nat → Nat} {R : Nat → rr_T → rr_T → Nat → Nat → rr_T → Prop} (C0 : lw_At p s m meth c b L xs) (C : lz_C G p s m b c) (X : lz_S G adX adM s H locs (xw P S) (mw M)) (hl : lv_has ls 4 [(0, .ref b), (1, .ref (adX 0)), (2, .ref (adM 0)), (3, .int x3)]) (hR : lz_R R) (hk : k < 512) (hr : R k P S u v M) (z1 : vp_in (x3 + 1) L) (z2 : vp_in (x3 + 2) L) (z3 : vp_in (x3 + 3) L) (z4 : vp_in (x3 + 4) L) (z5 : vp_in (x3 + 5) L) (ih : ∀ (P' S' : rr_T) (u' v' : Nat) (M' : rr_T) (dX dM : Nat → Nat) (H' : Heap) (locs' : List Loc) (ls' : Array Slot), R (k + 1) P' S' u' v' M' → lz_S G dX dM s H' locs' (xw P' S') (mw M') → lv_has ls' 4 [(0, .ref b), (1, .ref (dX 0)), (2, .ref (dM 0)), (3, .int (x3 + 6))] → W p l e room_1 s m #[Value.ref b] below meth c H' locs' (71 + u') (200844 + v') (lw_Z below #[Value.ref b] s) (F0 m 18 ls' [])) : W p l e room_1 s m #[Value.ref b] below meth c H locs (71 + u) (200844 + v) (lw_Z below #[Value.ref b] s) (F0 m 569 ls []) := by
  obtain ⟨r, P', S', u', v', M', e1, e2, hr'⟩ := hR.2.2 17 k P S u v M (xs (x3 + 1).toNatClampNeg) (xs (x3 + 2).toNatClampNeg) 0 0 0 (by decide) hk hr
  have hu := hR.2.1 _ _ _ _ _ _ hr
  have hu' := hR.2.1 _ _ _ _ _ _ hr'
  have e1 : (fX10_end P S (xs (x3 + 1).toNatClampNeg) (xs (x3 + 2).toNatClampNeg) u v).map (fun q => (q.1, P, q.2.1, q.2.2.1, q.2.2.2)) = _ := e1
  obtain ⟨q, hq, e1⟩ := Option.map_eq_some_iff.mp e1
  cases e1
  have hq2 : fM_end M (xs (x3 + 1).toNatClampNeg) (xs (x3 + 2).toNatClampNeg) = _ := e2
  obtain ⟨hx, hb, hr0, hml, hown, hts, hXs, hbl, hlocks, hgv⟩ := id C0
  have hbA : ¬ (fun q : Nat => s.heap.size ≤ q) b := Nat.not_le.mpr hbl
  refine lv_aload_n hx hb dL_law_569 rfl (lv_at hl 1 rfl) ?_
  refine lv_aload_n hx hb dL_law_570 rfl (lv_at hl 0 rfl) ?_
  refine lv_iload_n hx hb dL_law_571 rfl (lv_at hl 3 rfl) ?_
  refine lv_iconst (v := 1) hx hb dL_law_572 (by decide) ?_
  refine lv_iadd hx hb dL_law_573 ?_
  refine va_sld hx hb hXs hbl hbA X.2.2 z1 dL_law_574 ?_
  refine lv_aload_n hx hb dL_law_575 rfl (lv_at hl 0 rfl) ?_
  refine lv_iload_n hx hb dL_law_576 rfl (lv_at hl 3 rfl) ?_
  refine lv_iconst (v := 2) hx hb dL_law_577 (by decide) ?_
  refine lv_iadd hx hb dL_law_578 ?_
  refine va_sld hx hb hXs hbl hbA X.2.2 z2 dL_law_579 ?_
  have ht := tX10_end (l := l) (G := G) P S (xs (x3 + 1).toNatClampNeg) (xs (x3 + 2).toNatClampNeg) u v
  have hu1 : u ≤ q.2.2.1 := (ht _ hq).1
  have hv1 : v ≤ q.2.2.2 := (ht _ hq).2.1
  refine lz_callX (As := [.int (xs (x3 + 1).toNatClampNeg), .int (xs (x3 + 2).toNatClampNeg)]) (rest := []) C X ht hq lv_87 ll_87 rfl rfl rfl (fun _ => rfl) ⟨Nat.le_of_ble_eq_true rfl, Nat.le_of_ble_eq_true rfl⟩ (Nat.le_of_ble_eq_true rfl) rfl hl.1 dL_law_580 (by show 71 + u + (q.2.2.1 - u) ≤ 600000; have := hu'.1; omega) (by show 200844 + v + (q.2.2.2 - v) ≤ 7302250; have := hu'.2.1; omega) (fun ad1 H1 locs1 f0 X1 => ?_)
  refine W.widen (k := 71 + q.2.2.1) (n := 200844 + q.2.2.2) (by show 71 + u + (q.2.2.1 - u) ≤ 71 + q.2.2.1; omega) (by show 200844 + v + (q.2.2.2 - v) ≤ 200844 + q.2.2.2; omega) ?_
  have X1 : lz_S G ad1 adM s H1 locs1 (xw P q.2.1) (mw M) := X1
  show W p l e room_1 s m #[Value.ref b] below meth c H1 locs1 (71 + q.2.2.1) (200844 + q.2.2.2) (lw_Z below #[Value.ref b] s) (F0 m 583 ls [.int q.1])
  refine lv_aload_n hx hb dL_law_583 rfl (lv_at hl 2 rfl) ?_
  refine lv_aload_n hx hb dL_law_584 rfl (lv_at hl 0 rfl) ?_
  refine lv_iload_n hx hb dL_law_585 rfl (lv_at hl 3 rfl) ?_
  refine lv_iconst (v := 1) hx hb dL_law_586 (by decide) ?_
  refine lv_iadd hx hb dL_law_587 ?_
  refine va_sld hx hb hXs hbl hbA X1.2.2 z1 dL_law_588 ?_
  refine lv_aload_n hx hb dL_law_589 rfl (lv_at hl 0 rfl) ?_
  refine lv_iload_n hx hb dL_law_590 rfl (lv_at hl 3 rfl) ?_
  refine lv_iconst (v := 2) hx hb dL_law_591 (by decide) ?_
  refine lv_iadd hx hb dL_law_592 ?_
  refine va_sld hx hb hXs hbl hbA X1.2.2 z2 dL_law_593 ?_
  refine lz_callM (As := [.int (xs (x3 + 1).toNatClampNeg), .int (xs (x3 + 2).toNatClampNeg)]) (rest := [.int q.1]) C X1 (tM_end M (xs (x3 + 1).toNatClampNeg) (xs (x3 + 2).toNatClampNeg)) hq2 lv_90 ll_90 rfl rfl rfl (fun _ => rfl) ⟨Nat.le_of_ble_eq_true rfl, Nat.le_of_ble_eq_true rfl⟩ (Nat.le_of_ble_eq_true rfl) rfl hl.1 dL_law_594 (by show 71 + q.2.2.1 + 0 ≤ 600000; have := hu'.1; omega) (by show 200844 + q.2.2.2 + 0 ≤ 7302250; have := hu'.2.1; omega) (fun ad2 H2 locs2 g0 X2 => ?_)
  have X2 : lz_S G ad1 ad2 s H2 locs2 (xw P q.2.1) (mw M') := X2
  show W p l e room_1 s m #[Value.ref b] below meth c H2 locs2 (71 + q.2.2.1) (200844 + q.2.2.2) (lw_Z below #[Value.ref b] s) (F0 m 597 ls [.int q.1, .int q.1])
  refine lv_icmp_eq (tgt := 658) hx hb dL_law_597 (by decide) (fun _ => ?_) (fun z => absurd rfl z)
  exact lc_tail C0 C X2 (by rw [f0, g0]; exact hl) hr' ih
set_option maxHeartbeats 4000000 in
set_option maxRecDepth 20000 in
theorem lc_look {p : Program} {l : Launch} {e : Env} {s : State} {m : MethodId} {b : Nat} {below : List Frame} {meth : Method} {c : Code} {H : Heap} {locs : List Loc} {ls : Array Slot} {G : rr_G} {L k u v : Nat} {xs : Nat → Int32} {x3 : Int32} {P S M : rr_T} {adX adM : Nat → Nat} {R : Nat → rr_T → rr_T → Nat → Nat → rr_T → Prop} (C0 : lw_At p s m meth c b L xs) (C : lz_C G p s m b c) (X : lz_S G adX adM s H locs (xw P S) (mw M)) (hl : lv_has ls 4 [(0, .ref b), (1, .ref (adX 0)), (2, .ref (adM 0)), (3, .int x3)]) (hR : lz_R R) (hk : k < 512) (hr : R k P S u v M) (z1 : vp_in (x3 + 1) L) (z2 : vp_in (x3 + 2) L) (z3 : vp_in (x3 + 3) L) (z4 : vp_in (x3 + 4) L) (z5 : vp_in (x3 + 5) L) (ih : ∀ (P' S' : rr_T) (u' v' : Nat) (M' : rr_T) (dX dM : Nat → Nat) (H' : Heap) (locs' : List Loc) (ls' : Array Slot), R (k + 1) P' S' u' v' M' → lz_S G dX dM s H' locs' (xw P' S') (mw M') → lv_has ls' 4 [(0, .ref b), (1, .ref (dX 0)), (2, .ref (dM 0)), (3, .int (x3 + 6))] → W p l e room_1 s m #[Value.ref b] below meth c H' locs' (71 + u') (200844 + v') (lw_Z below #[Value.ref b] s) (F0 m 18 ls' [])) : W p l e room_1 s m #[Value.ref b] below meth c H locs (71 + u) (200844 + v) (lw_Z below #[Value.ref b] s) (F0 m 602 ls []) := by
  obtain ⟨r, P', S', u', v', M', e1, e2, hr'⟩ := hR.2.2 18 k P S u v M (xs (x3 + 1).toNatClampNeg) (xs (x3 + 2).toNatClampNeg) 0 0 0 (by decide) hk hr
  have hu := hR.2.1 _ _ _ _ _ _ hr
  have hu' := hR.2.1 _ _ _ _ _ _ hr'
  have e1 : (fX10_look P S (xs (x3 + 1).toNatClampNeg) (xs (x3 + 2).toNatClampNeg) u v).map (fun q => (q.1, P, q.2.1, q.2.2.1, q.2.2.2)) = _ := e1
  obtain ⟨q, hq, e1⟩ := Option.map_eq_some_iff.mp e1
  cases e1
  have hq2 : fM_look M (xs (x3 + 1).toNatClampNeg) (xs (x3 + 2).toNatClampNeg) = _ := e2
  obtain ⟨hx, hb, hr0, hml, hown, hts, hXs, hbl, hlocks, hgv⟩ := id C0
  have hbA : ¬ (fun q : Nat => s.heap.size ≤ q) b := Nat.not_le.mpr hbl
  refine lv_aload_n hx hb dL_law_602 rfl (lv_at hl 1 rfl) ?_
  refine lv_aload_n hx hb dL_law_603 rfl (lv_at hl 0 rfl) ?_
  refine lv_iload_n hx hb dL_law_604 rfl (lv_at hl 3 rfl) ?_
  refine lv_iconst (v := 1) hx hb dL_law_605 (by decide) ?_
  refine lv_iadd hx hb dL_law_606 ?_
  refine va_sld hx hb hXs hbl hbA X.2.2 z1 dL_law_607 ?_
  refine lv_aload_n hx hb dL_law_608 rfl (lv_at hl 0 rfl) ?_
  refine lv_iload_n hx hb dL_law_609 rfl (lv_at hl 3 rfl) ?_
  refine lv_iconst (v := 2) hx hb dL_law_610 (by decide) ?_
  refine lv_iadd hx hb dL_law_611 ?_
  refine va_sld hx hb hXs hbl hbA X.2.2 z2 dL_law_612 ?_
  have ht := tX10_look (l := l) (G := G) P S (xs (x3 + 1).toNatClampNeg) (xs (x3 + 2).toNatClampNeg) u v
  have hu1 : u ≤ q.2.2.1 := (ht _ hq).1
  have hv1 : v ≤ q.2.2.2 := (ht _ hq).2.1
  refine lz_callX (As := [.int (xs (x3 + 1).toNatClampNeg), .int (xs (x3 + 2).toNatClampNeg)]) (rest := []) C X ht hq lv_91 ll_91 rfl rfl rfl (fun _ => rfl) ⟨Nat.le_of_ble_eq_true rfl, Nat.le_of_ble_eq_true rfl⟩ (Nat.le_of_ble_eq_true rfl) rfl hl.1 dL_law_613 (by show 71 + u + (q.2.2.1 - u) ≤ 600000; have := hu'.1; omega) (by show 200844 + v + (q.2.2.2 - v) ≤ 7302250; have := hu'.2.1; omega) (fun ad1 H1 locs1 f0 X1 => ?_)
  refine W.widen (k := 71 + q.2.2.1) (n := 200844 + q.2.2.2) (by show 71 + u + (q.2.2.1 - u) ≤ 71 + q.2.2.1; omega) (by show 200844 + v + (q.2.2.2 - v) ≤ 200844 + q.2.2.2; omega) ?_
  have X1 : lz_S G ad1 adM s H1 locs1 (xw P q.2.1) (mw M) := X1
  show W p l e room_1 s m #[Value.ref b] below meth c H1 locs1 (71 + q.2.2.1) (200844 + q.2.2.2) (lw_Z below #[Value.ref b] s) (F0 m 616 ls [.int q.1])
  refine lv_aload_n hx hb dL_law_616 rfl (lv_at hl 2 rfl) ?_
  refine lv_aload_n hx hb dL_law_617 rfl (lv_at hl 0 rfl) ?_
  refine lv_iload_n hx hb dL_law_618 rfl (lv_at hl 3 rfl) ?_
  refine lv_iconst (v := 1) hx hb dL_law_619 (by decide) ?_
  refine lv_iadd hx hb dL_law_620 ?_
  refine va_sld hx hb hXs hbl hbA X1.2.2 z1 dL_law_621 ?_
  refine lv_aload_n hx hb dL_law_622 rfl (lv_at hl 0 rfl) ?_
  refine lv_iload_n hx hb dL_law_623 rfl (lv_at hl 3 rfl) ?_
  refine lv_iconst (v := 2) hx hb dL_law_624 (by decide) ?_
  refine lv_iadd hx hb dL_law_625 ?_
  refine va_sld hx hb hXs hbl hbA X1.2.2 z2 dL_law_626 ?_
  refine lz_callM (As := [.int (xs (x3 + 1).toNatClampNeg), .int (xs (x3 + 2).toNatClampNeg)]) (rest := [.int q.1]) C X1 (tM_look M (xs (x3 + 1).toNatClampNeg) (xs (x3 + 2).toNatClampNeg)) hq2 lv_94 ll_94 rfl rfl rfl (fun _ => rfl) ⟨Nat.le_of_ble_eq_true rfl, Nat.le_of_ble_eq_true rfl⟩ (Nat.le_of_ble_eq_true rfl) rfl hl.1 dL_law_627 (by show 71 + q.2.2.1 + 0 ≤ 600000; have := hu'.1; omega) (by show 200844 + q.2.2.2 + 0 ≤ 7302250; have := hu'.2.1; omega) (fun ad2 H2 locs2 g0 X2 => ?_)
  have X2 : lz_S G ad1 ad2 s H2 locs2 (xw P q.2.1) (mw M') := X2
  show W p l e room_1 s m #[Value.ref b] below meth c H2 locs2 (71 + q.2.2.1) (200844 + q.2.2.2) (lw_Z below #[Value.ref b] s) (F0 m 630 ls [.int q.1, .int q.1])
  refine lv_icmp_eq (tgt := 658) hx hb dL_law_630 (by decide) (fun _ => ?_) (fun z => absurd rfl z)
  exact lc_tail C0 C X2 (by rw [f0, g0]; exact hl) hr' ih
set_option maxHeartbeats 4000000 in
set_option maxRecDepth 20000 in
theorem lc_endOf {p : Program} {l : Launch} {e : Env} {s : State} {m : MethodId} {b : Nat} {below : List Frame} {meth : Method} {c : Code} {H : Heap} {locs : List Loc} {ls : Array Slot} {G : rr_G} {L k u v : Nat} {xs : Nat → Int32} {x3 : Int32} {P S M : rr_T} {adX adM : Nat → Nat} {R : Nat → rr_T → rr_T → Nat → Nat → rr_T → Prop} (C0 : lw_At p s m meth c b L xs) (C : lz_C G p s m b c) (X : lz_S G adX adM s H locs (xw P S) (mw M)) (hl : lv_has ls 4 [(0, .ref b), (1, .ref (adX 0)), (2, .ref (adM 0)), (3, .int x3)]) (hR : lz_R R) (hk : k < 512) (hr : R k P S u v M) (z1 : vp_in (x3 + 1) L) (z2 : vp_in (x3 + 2) L) (z3 : vp_in (x3 + 3) L) (z4 : vp_in (x3 + 4) L) (z5 : vp_in (x3 + 5) L) (ih : ∀ (P' S' : rr_T) (u' v' : Nat) (M' : rr_T) (dX dM : Nat → Nat) (H' : Heap) (locs' : List Loc) (ls' : Array Slot), R (k + 1) P' S' u' v' M' → lz_S G dX dM s H' locs' (xw P' S') (mw M') → lv_has ls' 4 [(0, .ref b), (1, .ref (dX 0)), (2, .ref (dM 0)), (3, .int (x3 + 6))] → W p l e room_1 s m #[Value.ref b] below meth c H' locs' (71 + u') (200844 + v') (lw_Z below #[Value.ref b] s) (F0 m 18 ls' [])) : W p l e room_1 s m #[Value.ref b] below meth c H locs (71 + u) (200844 + v) (lw_Z below #[Value.ref b] s) (F0 m 635 ls []) := by
  obtain ⟨r, P', S', u', v', M', e1, e2, hr'⟩ := hR.2.2 19 k P S u v M (xs (x3 + 1).toNatClampNeg) 0 0 0 0 (by decide) hk hr
  have hu := hR.2.1 _ _ _ _ _ _ hr
  have hu' := hR.2.1 _ _ _ _ _ _ hr'
  have e1 : (fX10_endOf P S (xs (x3 + 1).toNatClampNeg) u v).map (fun q => (q.1, P, q.2.1, q.2.2.1, q.2.2.2)) = _ := e1
  obtain ⟨q, hq, e1⟩ := Option.map_eq_some_iff.mp e1
  cases e1
  have hq2 : fM_endOf M (xs (x3 + 1).toNatClampNeg) = _ := e2
  obtain ⟨hx, hb, hr0, hml, hown, hts, hXs, hbl, hlocks, hgv⟩ := id C0
  have hbA : ¬ (fun q : Nat => s.heap.size ≤ q) b := Nat.not_le.mpr hbl
  refine lv_aload_n hx hb dL_law_635 rfl (lv_at hl 1 rfl) ?_
  refine lv_aload_n hx hb dL_law_636 rfl (lv_at hl 0 rfl) ?_
  refine lv_iload_n hx hb dL_law_637 rfl (lv_at hl 3 rfl) ?_
  refine lv_iconst (v := 1) hx hb dL_law_638 (by decide) ?_
  refine lv_iadd hx hb dL_law_639 ?_
  refine va_sld hx hb hXs hbl hbA X.2.2 z1 dL_law_640 ?_
  have ht := tX10_endOf (l := l) (G := G) P S (xs (x3 + 1).toNatClampNeg) u v
  have hu1 : u ≤ q.2.2.1 := (ht _ hq).1
  have hv1 : v ≤ q.2.2.2 := (ht _ hq).2.1
  refine lz_callX (As := [.int (xs (x3 + 1).toNatClampNeg)]) (rest := []) C X ht hq lv_95 ll_95 rfl rfl rfl (fun _ => rfl) ⟨Nat.le_of_ble_eq_true rfl, Nat.le_of_ble_eq_true rfl⟩ (Nat.le_of_ble_eq_true rfl) rfl hl.1 dL_law_641 (by show 71 + u + (q.2.2.1 - u) ≤ 600000; have := hu'.1; omega) (by show 200844 + v + (q.2.2.2 - v) ≤ 7302250; have := hu'.2.1; omega) (fun ad1 H1 locs1 f0 X1 => ?_)
  refine W.widen (k := 71 + q.2.2.1) (n := 200844 + q.2.2.2) (by show 71 + u + (q.2.2.1 - u) ≤ 71 + q.2.2.1; omega) (by show 200844 + v + (q.2.2.2 - v) ≤ 200844 + q.2.2.2; omega) ?_
  have X1 : lz_S G ad1 adM s H1 locs1 (xw P q.2.1) (mw M) := X1
  show W p l e room_1 s m #[Value.ref b] below meth c H1 locs1 (71 + q.2.2.1) (200844 + q.2.2.2) (lw_Z below #[Value.ref b] s) (F0 m 644 ls [.int q.1])
  refine lv_aload_n hx hb dL_law_644 rfl (lv_at hl 2 rfl) ?_
  refine lv_aload_n hx hb dL_law_645 rfl (lv_at hl 0 rfl) ?_
  refine lv_iload_n hx hb dL_law_646 rfl (lv_at hl 3 rfl) ?_
  refine lv_iconst (v := 1) hx hb dL_law_647 (by decide) ?_
  refine lv_iadd hx hb dL_law_648 ?_
  refine va_sld hx hb hXs hbl hbA X1.2.2 z1 dL_law_649 ?_
  refine lz_callM (As := [.int (xs (x3 + 1).toNatClampNeg)]) (rest := [.int q.1]) C X1 (tM_endOf M (xs (x3 + 1).toNatClampNeg)) hq2 lv_98 ll_98 rfl rfl rfl (fun _ => rfl) ⟨Nat.le_of_ble_eq_true rfl, Nat.le_of_ble_eq_true rfl⟩ (Nat.le_of_ble_eq_true rfl) rfl hl.1 dL_law_650 (by show 71 + q.2.2.1 + 0 ≤ 600000; have := hu'.1; omega) (by show 200844 + q.2.2.2 + 0 ≤ 7302250; have := hu'.2.1; omega) (fun ad2 H2 locs2 g0 X2 => ?_)
  have X2 : lz_S G ad1 ad2 s H2 locs2 (xw P q.2.1) (mw M') := X2
  show W p l e room_1 s m #[Value.ref b] below meth c H2 locs2 (71 + q.2.2.1) (200844 + q.2.2.2) (lw_Z below #[Value.ref b] s) (F0 m 653 ls [.int q.1, .int q.1])
  refine lv_icmp_eq (tgt := 658) hx hb dL_law_653 (by decide) (fun _ => ?_) (fun z => absurd rfl z)
  exact lc_tail C0 C X2 (by rw [f0, g0]; exact hl) hr' ih

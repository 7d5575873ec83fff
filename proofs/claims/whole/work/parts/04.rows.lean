/-! ===== rows: an instruction each ===== -/
section RROWS
variable {σ : Type} {l : Launch} {G : rr_G} {mt : rr_M} {d lo : Nat} {fx : Nat → Bool} {rv : σ → Option Value} {w : σ → rr_H} {U V : σ → Nat} {uu vv pc : Nat} {lv : List (Nat × Value)} {st : List Value} {h : rr_H} {o : Option σ}
theorem RR.lift {pc' : Nat} {st' : List Value} (k : RR l G mt d lo fx rv w U V uu vv pc' lv st' h o) (g : ∀ (p : Program) (e : Env) (s : State) (m : MethodId) (args : Array Value) (below : List Frame) (meth : Method) (c : Code) (H : Heap) (locs : List Loc) (cells slots mc ms : Nat) (Q : State → Prop) (ad : Nat → Nat) (ls : Array Slot), rr_C G mt p s m args meth c → lv_has ls mt.2.2.1 (rr_L ad lv) → W p l e { frames := d, cells := mc, slots := ms, locals := lo } s m args below meth c H locs cells slots Q (F0 m pc' ls (st'.map (a_v ad))) → W p l e { frames := d, cells := mc, slots := ms, locals := lo } s m args below meth c H locs cells slots Q (F0 m pc ls (st.map (a_v ad)))) : RR l G mt d lo fx rv w U V uu vv pc lv st h o :=
  fun q ho => ⟨(k q ho).1, (k q ho).2.1, fun p e s m args below meth c ad0 ad A H locs cells slots mc ms ls C S L hc hs => g p e s m args below meth c H locs cells slots mc ms _ ad ls C L ((k q ho).2.2 p e s m args below meth c ad0 ad A H locs cells slots mc ms ls C S L hc hs)⟩
theorem RR.liftL {pc' : Nat} {lv' : List (Nat × Value)} {st' : List Value} (k : RR l G mt d lo fx rv w U V uu vv pc' lv' st' h o) (g : ∀ (p : Program) (e : Env) (s : State) (m : MethodId) (args : Array Value) (below : List Frame) (meth : Method) (c : Code) (H : Heap) (locs : List Loc) (cells slots mc ms : Nat) (Q : State → Prop) (ad : Nat → Nat) (ls : Array Slot), rr_C G mt p s m args meth c → lv_has ls mt.2.2.1 (rr_L ad lv) → (∀ ls' : Array Slot, lv_has ls' mt.2.2.1 (rr_L ad lv') → W p l e { frames := d, cells := mc, slots := ms, locals := lo } s m args below meth c H locs cells slots Q (F0 m pc' ls' (st'.map (a_v ad)))) → W p l e { frames := d, cells := mc, slots := ms, locals := lo } s m args below meth c H locs cells slots Q (F0 m pc ls (st.map (a_v ad)))) : RR l G mt d lo fx rv w U V uu vv pc lv st h o :=
  fun q ho => ⟨(k q ho).1, (k q ho).2.1, fun p e s m args below meth c ad0 ad A H locs cells slots mc ms ls C S L hc hs => g p e s m args below meth c H locs cells slots mc ms _ ad ls C L (fun ls' L' => (k q ho).2.2 p e s m args below meth c ad0 ad A H locs cells slots mc ms ls' C S L' hc hs)⟩
theorem rr_la {ad : Nat → Nat} {ls : Array Slot} {nL i : Nat} {v : Value} (L : lv_has ls nL (rr_L ad lv)) (k : Nat) (hk : lv[k]? = some (i, v)) : ls[i]? = some (.val (a_v ad v)) :=
  lv_at L k (by rw [rr_L, List.getElem?_map, hk]; rfl)
theorem rr_Lf1 (ad : Nat → Nat) (i : Nat) (v : Value) : (i, a_v ad v) :: (rr_L ad lv).filter (fun q => !(q.1 == i) && !(q.1 + 1 == i && q.2.category == 2)) = rr_L ad ((i, v) :: lv.filter (fun q => !(q.1 == i) && !(q.1 + 1 == i && q.2.category == 2))) := by
  simp only [rr_L, List.map_cons, List.filter_map, Function.comp_def, a_v_cat]
theorem rr_Lf2 (ad : Nat → Nat) (i : Nat) (v : Value) : (i, a_v ad v) :: (rr_L ad lv).filter (fun q => !(q.1 == i) && (!(q.1 == i + 1) && !(q.1 + 1 == i && q.2.category == 2))) = rr_L ad ((i, v) :: lv.filter (fun q => !(q.1 == i) && (!(q.1 == i + 1) && !(q.1 + 1 == i && q.2.category == 2)))) := by
  simp only [rr_L, List.map_cons, List.filter_map, Function.comp_def, a_v_cat]
/-- fewer locals, in another order -/
theorem rr_sub (ks : List Nat) {lv' : List (Nat × Value)} (hl : lv_pick lv ks = lv') (k : RR l G mt d lo fx rv w U V uu vv pc lv' st h o) : RR l G mt d lo fx rv w U V uu vv pc lv st h o :=
  k.liftL (fun p e s m args below meth c H locs cells slots mc ms Q ad ls C L K => K ls (lv_sub L ks (by rw [← hl, rr_L, rr_L, lv_pick, lv_pick, List.map_filterMap]; congr 1; funext i; rw [List.getElem?_map])))
theorem rr_iconst {n : Int} {v : Int32} (hd : decode mt.2.1 pc = .ok (.iconst n, 1)) (hv : Int32.ofInt n = v) (k : RR l G mt d lo fx rv w U V uu vv (pc + 1) lv (.int v :: st) h o) : RR l G mt d lo fx rv w U V uu vv (pc) lv st h o :=
  k.lift (fun p e s m args below meth c H locs cells slots mc ms Q ad ls C L K => lv_iconst C.1 C.2.1 hd hv K)
theorem rr_bipush {n : Int} {v : Int32} (hd : decode mt.2.1 pc = .ok (.bipush n, 2)) (hv : (Int8.ofInt n).toInt32 = v) (k : RR l G mt d lo fx rv w U V uu vv (pc + 2) lv (.int v :: st) h o) : RR l G mt d lo fx rv w U V uu vv (pc) lv st h o :=
  k.lift (fun p e s m args below meth c H locs cells slots mc ms Q ad ls C L K => lv_bipush C.1 C.2.1 hd hv K)
theorem rr_sipush {n : Int} {v : Int32} (hd : decode mt.2.1 pc = .ok (.sipush n, 3)) (hv : (Int16.ofInt n).toInt32 = v) (k : RR l G mt d lo fx rv w U V uu vv (pc + 3) lv (.int v :: st) h o) : RR l G mt d lo fx rv w U V uu vv (pc) lv st h o :=
  k.lift (fun p e s m args below meth c H locs cells slots mc ms Q ad ls C L K => lv_sipush C.1 C.2.1 hd hv K)
theorem rr_lconst {n : Fin 2} {v : Int64} (hd : decode mt.2.1 pc = .ok (.lconst n, 1)) (hv : Int64.ofNat (n : Nat) = v) (k : RR l G mt d lo fx rv w U V uu vv (pc + 1) lv (.long v :: st) h o) : RR l G mt d lo fx rv w U V uu vv (pc) lv st h o :=
  k.lift (fun p e s m args below meth c H locs cells slots mc ms Q ad ls C L K => lv_lconst C.1 C.2.1 hd hv K)
theorem rr_iload_n {j : Fin 4} {i : Nat} {x : Int32} (hd : decode mt.2.1 pc = .ok (.iload_n j, 1)) (hi : (j : Nat) = i) (kk : Nat) (hk : lv[kk]? = some (i, .int x)) (k : RR l G mt d lo fx rv w U V uu vv (pc + 1) lv (.int x :: st) h o) : RR l G mt d lo fx rv w U V uu vv (pc) lv st h o :=
  k.lift (fun p e s m args below meth c H locs cells slots mc ms Q ad ls C L K => lv_iload_n C.1 C.2.1 hd hi (rr_la L kk hk) K)
theorem rr_iload {i : Nat} {x : Int32} (hd : decode mt.2.1 pc = .ok (.iload i, 2)) (kk : Nat) (hk : lv[kk]? = some (i, .int x)) (k : RR l G mt d lo fx rv w U V uu vv (pc + 2) lv (.int x :: st) h o) : RR l G mt d lo fx rv w U V uu vv (pc) lv st h o :=
  k.lift (fun p e s m args below meth c H locs cells slots mc ms Q ad ls C L K => lv_iload C.1 C.2.1 hd (rr_la L kk hk) K)
theorem rr_lload_n {j : Fin 4} {i : Nat} {x : Int64} (hd : decode mt.2.1 pc = .ok (.lload_n j, 1)) (hi : (j : Nat) = i) (kk : Nat) (hk : lv[kk]? = some (i, .long x)) (k : RR l G mt d lo fx rv w U V uu vv (pc + 1) lv (.long x :: st) h o) : RR l G mt d lo fx rv w U V uu vv (pc) lv st h o :=
  k.lift (fun p e s m args below meth c H locs cells slots mc ms Q ad ls C L K => lv_lload_n C.1 C.2.1 hd hi (rr_la L kk hk) K)
theorem rr_lload {i : Nat} {x : Int64} (hd : decode mt.2.1 pc = .ok (.lload i, 2)) (kk : Nat) (hk : lv[kk]? = some (i, .long x)) (k : RR l G mt d lo fx rv w U V uu vv (pc + 2) lv (.long x :: st) h o) : RR l G mt d lo fx rv w U V uu vv (pc) lv st h o :=
  k.lift (fun p e s m args below meth c H locs cells slots mc ms Q ad ls C L K => lv_lload C.1 C.2.1 hd (rr_la L kk hk) K)
theorem rr_aload_n {j : Fin 4} {i : Nat} {x : Nat} (hd : decode mt.2.1 pc = .ok (.aload_n j, 1)) (hi : (j : Nat) = i) (kk : Nat) (hk : lv[kk]? = some (i, .ref x)) (k : RR l G mt d lo fx rv w U V uu vv (pc + 1) lv (.ref x :: st) h o) : RR l G mt d lo fx rv w U V uu vv (pc) lv st h o :=
  k.lift (fun p e s m args below meth c H locs cells slots mc ms Q ad ls C L K => lv_aload_n C.1 C.2.1 hd hi (rr_la L kk hk) K)
theorem rr_aload {i : Nat} {x : Nat} (hd : decode mt.2.1 pc = .ok (.aload i, 2)) (kk : Nat) (hk : lv[kk]? = some (i, .ref x)) (k : RR l G mt d lo fx rv w U V uu vv (pc + 2) lv (.ref x :: st) h o) : RR l G mt d lo fx rv w U V uu vv (pc) lv st h o :=
  k.lift (fun p e s m args below meth c H locs cells slots mc ms Q ad ls C L K => lv_aload C.1 C.2.1 hd (rr_la L kk hk) K)
theorem rr_aload_nN {j : Fin 4} {i : Nat} (hd : decode mt.2.1 pc = .ok (.aload_n j, 1)) (hi : (j : Nat) = i) (kk : Nat) (hk : lv[kk]? = some (i, .null)) (k : RR l G mt d lo fx rv w U V uu vv (pc + 1) lv (.null :: st) h o) : RR l G mt d lo fx rv w U V uu vv (pc) lv st h o :=
  k.lift (fun p e s m args below meth c H locs cells slots mc ms Q ad ls C L K => lv_aload_nN C.1 C.2.1 hd hi (rr_la L kk hk) K)
theorem rr_aloadN {i : Nat} (hd : decode mt.2.1 pc = .ok (.aload i, 2)) (kk : Nat) (hk : lv[kk]? = some (i, .null)) (k : RR l G mt d lo fx rv w U V uu vv (pc + 2) lv (.null :: st) h o) : RR l G mt d lo fx rv w U V uu vv (pc) lv st h o :=
  k.lift (fun p e s m args below meth c H locs cells slots mc ms Q ad ls C L K => lv_aloadN C.1 C.2.1 hd (rr_la L kk hk) K)
theorem rr_iadd {x y : Int32} (hd : decode mt.2.1 pc = .ok (.iadd, 1))  (k : RR l G mt d lo fx rv w U V uu vv (pc + 1) lv (.int (x + y) :: st) h o) : RR l G mt d lo fx rv w U V uu vv (pc) lv (.int y :: .int x :: st) h o :=
  k.lift (fun p e s m args below meth c H locs cells slots mc ms Q ad ls C L K => lv_iadd C.1 C.2.1 hd K)
theorem rr_isub {x y : Int32} (hd : decode mt.2.1 pc = .ok (.isub, 1))  (k : RR l G mt d lo fx rv w U V uu vv (pc + 1) lv (.int (x - y) :: st) h o) : RR l G mt d lo fx rv w U V uu vv (pc) lv (.int y :: .int x :: st) h o :=
  k.lift (fun p e s m args below meth c H locs cells slots mc ms Q ad ls C L K => lv_isub C.1 C.2.1 hd K)
theorem rr_imul {x y : Int32} (hd : decode mt.2.1 pc = .ok (.imul, 1))  (k : RR l G mt d lo fx rv w U V uu vv (pc + 1) lv (.int (x * y) :: st) h o) : RR l G mt d lo fx rv w U V uu vv (pc) lv (.int y :: .int x :: st) h o :=
  k.lift (fun p e s m args below meth c H locs cells slots mc ms Q ad ls C L K => lv_imul C.1 C.2.1 hd K)
theorem rr_iand {x y : Int32} (hd : decode mt.2.1 pc = .ok (.iand, 1))  (k : RR l G mt d lo fx rv w U V uu vv (pc + 1) lv (.int (x &&& y) :: st) h o) : RR l G mt d lo fx rv w U V uu vv (pc) lv (.int y :: .int x :: st) h o :=
  k.lift (fun p e s m args below meth c H locs cells slots mc ms Q ad ls C L K => lv_iand C.1 C.2.1 hd K)
theorem rr_ior {x y : Int32} (hd : decode mt.2.1 pc = .ok (.ior, 1))  (k : RR l G mt d lo fx rv w U V uu vv (pc + 1) lv (.int (x ||| y) :: st) h o) : RR l G mt d lo fx rv w U V uu vv (pc) lv (.int y :: .int x :: st) h o :=
  k.lift (fun p e s m args below meth c H locs cells slots mc ms Q ad ls C L K => lv_ior C.1 C.2.1 hd K)
theorem rr_ixor {x y : Int32} (hd : decode mt.2.1 pc = .ok (.ixor, 1))  (k : RR l G mt d lo fx rv w U V uu vv (pc + 1) lv (.int (x ^^^ y) :: st) h o) : RR l G mt d lo fx rv w U V uu vv (pc) lv (.int y :: .int x :: st) h o :=
  k.lift (fun p e s m args below meth c H locs cells slots mc ms Q ad ls C L K => lv_ixor C.1 C.2.1 hd K)
theorem rr_ishl {x y : Int32} (hd : decode mt.2.1 pc = .ok (.ishl, 1))  (k : RR l G mt d lo fx rv w U V uu vv (pc + 1) lv (.int (x <<< (y &&& 31)) :: st) h o) : RR l G mt d lo fx rv w U V uu vv (pc) lv (.int y :: .int x :: st) h o :=
  k.lift (fun p e s m args below meth c H locs cells slots mc ms Q ad ls C L K => lv_ishl C.1 C.2.1 hd K)
theorem rr_ishr {x y : Int32} (hd : decode mt.2.1 pc = .ok (.ishr, 1))  (k : RR l G mt d lo fx rv w U V uu vv (pc + 1) lv (.int (x >>> (y &&& 31)) :: st) h o) : RR l G mt d lo fx rv w U V uu vv (pc) lv (.int y :: .int x :: st) h o :=
  k.lift (fun p e s m args below meth c H locs cells slots mc ms Q ad ls C L K => lv_ishr C.1 C.2.1 hd K)
theorem rr_idiv {x y : Int32} (hd : decode mt.2.1 pc = .ok (.idiv, 1)) (hne : ¬ y = 0) (k : RR l G mt d lo fx rv w U V uu vv (pc + 1) lv (.int (x / y) :: st) h o) : RR l G mt d lo fx rv w U V uu vv (pc) lv (.int y :: .int x :: st) h o :=
  k.lift (fun p e s m args below meth c H locs cells slots mc ms Q ad ls C L K => lv_idiv C.1 C.2.1 hd hne K)
theorem rr_irem {x y : Int32} (hd : decode mt.2.1 pc = .ok (.irem, 1)) (hne : ¬ y = 0) (k : RR l G mt d lo fx rv w U V uu vv (pc + 1) lv (.int (x - x / y * y) :: st) h o) : RR l G mt d lo fx rv w U V uu vv (pc) lv (.int y :: .int x :: st) h o :=
  k.lift (fun p e s m args below meth c H locs cells slots mc ms Q ad ls C L K => lv_irem C.1 C.2.1 hd hne K)
theorem rr_i2l {x : Int32} (hd : decode mt.2.1 pc = .ok (.i2l, 1))  (k : RR l G mt d lo fx rv w U V uu vv (pc + 1) lv (.long x.toInt64 :: st) h o) : RR l G mt d lo fx rv w U V uu vv (pc) lv (.int x :: st) h o :=
  k.lift (fun p e s m args below meth c H locs cells slots mc ms Q ad ls C L K => lv_i2l C.1 C.2.1 hd rfl K)
theorem rr_l2i {x : Int64} (hd : decode mt.2.1 pc = .ok (.l2i, 1))  (k : RR l G mt d lo fx rv w U V uu vv (pc + 1) lv (.int x.toInt32 :: st) h o) : RR l G mt d lo fx rv w U V uu vv (pc) lv (.long x :: st) h o :=
  k.lift (fun p e s m args below meth c H locs cells slots mc ms Q ad ls C L K => lv_l2i C.1 C.2.1 hd rfl K)
theorem rr_i2b {x : Int32} (hd : decode mt.2.1 pc = .ok (.i2b, 1))  (k : RR l G mt d lo fx rv w U V uu vv (pc + 1) lv (.int x.toInt8.toInt32 :: st) h o) : RR l G mt d lo fx rv w U V uu vv (pc) lv (.int x :: st) h o :=
  k.lift (fun p e s m args below meth c H locs cells slots mc ms Q ad ls C L K => lv_i2b C.1 C.2.1 hd rfl K)
theorem rr_lshl {x : Int64} {y : Int32} (hd : decode mt.2.1 pc = .ok (.lshl, 1))  (k : RR l G mt d lo fx rv w U V uu vv (pc + 1) lv (.long (x <<< (y.toInt64 &&& 63)) :: st) h o) : RR l G mt d lo fx rv w U V uu vv (pc) lv (.int y :: .long x :: st) h o :=
  k.lift (fun p e s m args below meth c H locs cells slots mc ms Q ad ls C L K => lv_lshl C.1 C.2.1 hd rfl K)
theorem rr_lshr {x : Int64} {y : Int32} (hd : decode mt.2.1 pc = .ok (.lshr, 1))  (k : RR l G mt d lo fx rv w U V uu vv (pc + 1) lv (.long (x >>> (y.toInt64 &&& 63)) :: st) h o) : RR l G mt d lo fx rv w U V uu vv (pc) lv (.int y :: .long x :: st) h o :=
  k.lift (fun p e s m args below meth c H locs cells slots mc ms Q ad ls C L K => lv_lshr C.1 C.2.1 hd rfl K)
theorem rr_lor {x y : Int64} (hd : decode mt.2.1 pc = .ok (.lor, 1))  (k : RR l G mt d lo fx rv w U V uu vv (pc + 1) lv (.long (x ||| y) :: st) h o) : RR l G mt d lo fx rv w U V uu vv (pc) lv (.long y :: .long x :: st) h o :=
  k.lift (fun p e s m args below meth c H locs cells slots mc ms Q ad ls C L K => lv_lor C.1 C.2.1 hd K)
theorem rr_lcmp {x y : Int64} (hd : decode mt.2.1 pc = .ok (.lcmp, 1))  (k : RR l G mt d lo fx rv w U V uu vv (pc + 1) lv (.int (lg_cmp x y) :: st) h o) : RR l G mt d lo fx rv w U V uu vv (pc) lv (.long y :: .long x :: st) h o :=
  k.lift (fun p e s m args below meth c H locs cells slots mc ms Q ad ls C L K => W.lcmp C.1 C.2.1 hd K)
theorem rr_dup {v : Value} (hd : decode mt.2.1 pc = .ok (.dup, 1)) (hc : v.category = 1) (k : RR l G mt d lo fx rv w U V uu vv (pc + 1) lv (v :: v :: st) h o) : RR l G mt d lo fx rv w U V uu vv (pc) lv (v :: st) h o :=
  k.lift (fun p e s m args below meth c H locs cells slots mc ms Q ad ls C L K => lv_dup C.1 C.2.1 hd (by rw [a_v_cat]; exact hc) K)
theorem rr_dup2 {v u : Value} (hd : decode mt.2.1 pc = .ok (.dup2, 1)) (hc : v.category = 1) (hu : u.category = 1) (k : RR l G mt d lo fx rv w U V uu vv (pc + 1) lv (v :: u :: v :: u :: st) h o) : RR l G mt d lo fx rv w U V uu vv (pc) lv (v :: u :: st) h o :=
  k.lift (fun p e s m args below meth c H locs cells slots mc ms Q ad ls C L K => lv_dup2_11 C.1 C.2.1 hd (by rw [a_v_cat]; exact hc) (by rw [a_v_cat]; exact hu) K)
theorem rr_goto {off : Int} {tgt : Nat} (hd : decode mt.2.1 pc = .ok (.goto off, 3)) (ht : (pc : Int) + off = (tgt : Int)) (k : RR l G mt d lo fx rv w U V uu vv (tgt) lv st h o) : RR l G mt d lo fx rv w U V uu vv (pc) lv st h o :=
  k.lift (fun p e s m args below meth c H locs cells slots mc ms Q ad ls C L K => lv_goto C.1 C.2.1 hd ht K)
theorem rr_ldc {idx : Nat} {v : Int32} (hd : decode mt.2.1 pc = .ok (.ldc idx, 2)) (hw : Cond.constant mt.1.cls idx v ∈ rr_ws) (k : RR l G mt d lo fx rv w U V uu vv (pc + 2) lv (.int v :: st) h o) : RR l G mt d lo fx rv w U V uu vv (pc) lv st h o :=
  k.lift (fun p e s m args below meth c H locs cells slots mc ms Q ad ls C L K => lv_ldc C.1 C.2.1 C.2.2.2.1 (C.2.2.2.2.1 _ hw) hd K)
theorem rr_null  (hd : decode mt.2.1 pc = .ok (.aconst_null, 1))  (k : RR l G mt d lo fx rv w U V uu vv (pc + 1) lv (.null :: st) h o) : RR l G mt d lo fx rv w U V uu vv (pc) lv st h o :=
  k.lift (fun p e s m args below meth c H locs cells slots mc ms Q ad ls C L K => lv_null C.1 C.2.1 hd K)
theorem rr_ifnull {off : Int} {x : Nat} (hd : decode mt.2.1 pc = .ok (.ifnull off, 3))  (k : RR l G mt d lo fx rv w U V uu vv (pc + 3) lv st h o) : RR l G mt d lo fx rv w U V uu vv (pc) lv (.ref x :: st) h o :=
  k.lift (fun p e s m args below meth c H locs cells slots mc ms Q ad ls C L K => lv_ifnull C.1 C.2.1 hd K)
theorem rr_ifnonnull {off : Int} {x tgt : Nat} (hd : decode mt.2.1 pc = .ok (.ifnonnull off, 3)) (ht : (pc : Int) + off = (tgt : Int)) (k : RR l G mt d lo fx rv w U V uu vv (tgt) lv st h o) : RR l G mt d lo fx rv w U V uu vv (pc) lv (.ref x :: st) h o :=
  k.lift (fun p e s m args below meth c H locs cells slots mc ms Q ad ls C L K => lv_ifnonnull C.1 C.2.1 hd ht K)
theorem rr_ifnullN {off : Int} {tgt : Nat} (hd : decode mt.2.1 pc = .ok (.ifnull off, 3)) (ht : (pc : Int) + off = (tgt : Int)) (k : RR l G mt d lo fx rv w U V uu vv (tgt) lv st h o) : RR l G mt d lo fx rv w U V uu vv (pc) lv (.null :: st) h o :=
  k.lift (fun p e s m args below meth c H locs cells slots mc ms Q ad ls C L K => lv_ifnullN C.1 C.2.1 hd ht K)
theorem rr_ifnonnullN {off : Int} (hd : decode mt.2.1 pc = .ok (.ifnonnull off, 3))  (k : RR l G mt d lo fx rv w U V uu vv (pc + 3) lv st h o) : RR l G mt d lo fx rv w U V uu vv (pc) lv (.null :: st) h o :=
  k.lift (fun p e s m args below meth c H locs cells slots mc ms Q ad ls C L K => lv_ifnonnullN C.1 C.2.1 hd K)
theorem rr_tableOut {dflt l0 hi : Int} {offs : Array Int} {len : Nat} {x : Int32} {tgt : Nat} (hd : decode mt.2.1 pc = .ok (.tableswitch dflt l0 hi offs, len)) (hx : x.toInt < l0 ∨ hi < x.toInt) (ht : (pc : Int) + dflt = (tgt : Int)) (k : RR l G mt d lo fx rv w U V uu vv (tgt) lv st h o) : RR l G mt d lo fx rv w U V uu vv (pc) lv (.int x :: st) h o :=
  k.lift (fun p e s m args below meth c H locs cells slots mc ms Q ad ls C L K => lv_tableOut C.1 C.2.1 hd hx ht K)
theorem rr_tableIn {dflt l0 hi : Int} {offs : Array Int} {len : Nat} {x : Int32} {off : Int} {tgt : Nat} (hd : decode mt.2.1 pc = .ok (.tableswitch dflt l0 hi offs, len)) (h1 : ¬ x.toInt < l0) (h2 : ¬ hi < x.toInt) (ho : offs[(x.toInt - l0).toNat]? = some off) (ht : (pc : Int) + off = (tgt : Int)) (k : RR l G mt d lo fx rv w U V uu vv (tgt) lv st h o) : RR l G mt d lo fx rv w U V uu vv (pc) lv (.int x :: st) h o :=
  k.lift (fun p e s m args below meth c H locs cells slots mc ms Q ad ls C L K => lv_tableIn C.1 C.2.1 hd h1 h2 ho ht K)
theorem rr_lookup {dflt : Int} {ps : Array (Int × Int)} {len : Nat} {x : Int32} {off : Int} {tgt : Nat} (hd : decode mt.2.1 pc = .ok (.lookupswitch dflt ps, len)) (hp : (ps.toList.zip (ps.toList.drop 1)).all (fun (a, next) => a.1 < next.1) = true) (ho : Op.lookupswitch.offset ps.toList dflt x.toInt = off) (ht : (pc : Int) + off = (tgt : Int)) (k : RR l G mt d lo fx rv w U V uu vv (tgt) lv st h o) : RR l G mt d lo fx rv w U V uu vv (pc) lv (.int x :: st) h o :=
  k.lift (fun p e s m args below meth c H locs cells slots mc ms Q ad ls C L K => lv_lookup C.1 C.2.1 hd hp ho ht K)
theorem rr_istore_n {j : Fin 4} {i : Nat} {x : Int32} {lv' : List (Nat × Value)} (hd : decode mt.2.1 pc = .ok (.istore_n j, 1)) (hi : (j : Nat) = i) (hn : i < mt.2.2.1) (hl : (i, .int x) :: lv.filter (fun q => !(q.1 == i) && !(q.1 + 1 == i && q.2.category == 2)) = lv') (k : RR l G mt d lo fx rv w U V uu vv (pc + 1) lv' st h o) : RR l G mt d lo fx rv w U V uu vv (pc) lv (.int x :: st) h o :=
  k.liftL (fun p e s m args below meth c H locs cells slots mc ms Q ad ls C L K => lv_istore_n C.1 C.2.1 hd hi L hn (by rw [← hl]; exact rr_Lf1 ad i (.int x)) K)
theorem rr_istore {i : Nat} {x : Int32} {lv' : List (Nat × Value)} (hd : decode mt.2.1 pc = .ok (.istore i, 2))  (hn : i < mt.2.2.1) (hl : (i, .int x) :: lv.filter (fun q => !(q.1 == i) && !(q.1 + 1 == i && q.2.category == 2)) = lv') (k : RR l G mt d lo fx rv w U V uu vv (pc + 2) lv' st h o) : RR l G mt d lo fx rv w U V uu vv (pc) lv (.int x :: st) h o :=
  k.liftL (fun p e s m args below meth c H locs cells slots mc ms Q ad ls C L K => lv_istore C.1 C.2.1 hd  L hn (by rw [← hl]; exact rr_Lf1 ad i (.int x)) K)
theorem rr_lstore_n {j : Fin 4} {i : Nat} {x : Int64} {lv' : List (Nat × Value)} (hd : decode mt.2.1 pc = .ok (.lstore_n j, 1)) (hi : (j : Nat) = i) (hn : i + 1 < mt.2.2.1) (hl : (i, .long x) :: lv.filter (fun q => !(q.1 == i) && (!(q.1 == i + 1) && !(q.1 + 1 == i && q.2.category == 2))) = lv') (k : RR l G mt d lo fx rv w U V uu vv (pc + 1) lv' st h o) : RR l G mt d lo fx rv w U V uu vv (pc) lv (.long x :: st) h o :=
  k.liftL (fun p e s m args below meth c H locs cells slots mc ms Q ad ls C L K => lv_lstore_n C.1 C.2.1 hd hi L hn (by rw [← hl]; exact rr_Lf2 ad i (.long x)) K)
theorem rr_lstore {i : Nat} {x : Int64} {lv' : List (Nat × Value)} (hd : decode mt.2.1 pc = .ok (.lstore i, 2))  (hn : i + 1 < mt.2.2.1) (hl : (i, .long x) :: lv.filter (fun q => !(q.1 == i) && (!(q.1 == i + 1) && !(q.1 + 1 == i && q.2.category == 2))) = lv') (k : RR l G mt d lo fx rv w U V uu vv (pc + 2) lv' st h o) : RR l G mt d lo fx rv w U V uu vv (pc) lv (.long x :: st) h o :=
  k.liftL (fun p e s m args below meth c H locs cells slots mc ms Q ad ls C L K => lv_lstore C.1 C.2.1 hd  L hn (by rw [← hl]; exact rr_Lf2 ad i (.long x)) K)
theorem rr_astore_n {j : Fin 4} {i : Nat} {x : Nat} {lv' : List (Nat × Value)} (hd : decode mt.2.1 pc = .ok (.astore_n j, 1)) (hi : (j : Nat) = i) (hn : i < mt.2.2.1) (hl : (i, .ref x) :: lv.filter (fun q => !(q.1 == i) && !(q.1 + 1 == i && q.2.category == 2)) = lv') (k : RR l G mt d lo fx rv w U V uu vv (pc + 1) lv' st h o) : RR l G mt d lo fx rv w U V uu vv (pc) lv (.ref x :: st) h o :=
  k.liftL (fun p e s m args below meth c H locs cells slots mc ms Q ad ls C L K => lv_astore_n C.1 C.2.1 hd hi L hn (by rw [← hl]; exact rr_Lf1 ad i (.ref x)) K)
theorem rr_astore {i : Nat} {x : Nat} {lv' : List (Nat × Value)} (hd : decode mt.2.1 pc = .ok (.astore i, 2))  (hn : i < mt.2.2.1) (hl : (i, .ref x) :: lv.filter (fun q => !(q.1 == i) && !(q.1 + 1 == i && q.2.category == 2)) = lv') (k : RR l G mt d lo fx rv w U V uu vv (pc + 2) lv' st h o) : RR l G mt d lo fx rv w U V uu vv (pc) lv (.ref x :: st) h o :=
  k.liftL (fun p e s m args below meth c H locs cells slots mc ms Q ad ls C L K => lv_astore C.1 C.2.1 hd  L hn (by rw [← hl]; exact rr_Lf1 ad i (.ref x)) K)
theorem rr_astore_nN {j : Fin 4} {i : Nat} {lv' : List (Nat × Value)} (hd : decode mt.2.1 pc = .ok (.astore_n j, 1)) (hi : (j : Nat) = i) (hn : i < mt.2.2.1) (hl : (i, .null) :: lv.filter (fun q => !(q.1 == i) && !(q.1 + 1 == i && q.2.category == 2)) = lv') (k : RR l G mt d lo fx rv w U V uu vv (pc + 1) lv' st h o) : RR l G mt d lo fx rv w U V uu vv (pc) lv (.null :: st) h o :=
  k.liftL (fun p e s m args below meth c H locs cells slots mc ms Q ad ls C L K => lv_astore_nN C.1 C.2.1 hd hi L hn (by rw [← hl]; exact rr_Lf1 ad i (.null)) K)
theorem rr_astoreN {i : Nat} {lv' : List (Nat × Value)} (hd : decode mt.2.1 pc = .ok (.astore i, 2))  (hn : i < mt.2.2.1) (hl : (i, .null) :: lv.filter (fun q => !(q.1 == i) && !(q.1 + 1 == i && q.2.category == 2)) = lv') (k : RR l G mt d lo fx rv w U V uu vv (pc + 2) lv' st h o) : RR l G mt d lo fx rv w U V uu vv (pc) lv (.null :: st) h o :=
  k.liftL (fun p e s m args below meth c H locs cells slots mc ms Q ad ls C L K => lv_astoreN C.1 C.2.1 hd  L hn (by rw [← hl]; exact rr_Lf1 ad i (.null)) K)
theorem rr_iinc {i : Nat} {n : Int} {x : Int32} {lv' : List (Nat × Value)} (hd : decode mt.2.1 pc = .ok (.iinc i n, 3)) (kk : Nat) (hk : lv[kk]? = some (i, .int x)) (hn : i < mt.2.2.1) (hl : (i, .int (x + Int32.ofInt n)) :: lv.filter (fun q => !(q.1 == i) && !(q.1 + 1 == i && q.2.category == 2)) = lv') (k : RR l G mt d lo fx rv w U V uu vv (pc + 3) lv' st h o) : RR l G mt d lo fx rv w U V uu vv pc lv st h o :=
  k.liftL (fun p e s m args below meth c H locs cells slots mc ms Q ad ls C L K => lv_iinc C.1 C.2.1 hd L (k := kk) (by rw [rr_L, List.getElem?_map, hk]; rfl) rfl hn (by rw [← hl]; exact rr_Lf1 ad i (.int (x + Int32.ofInt n))) K)
theorem rr_if_eq {x : Int32} {a b : Option σ} {off : Int} {tgt : Nat} (hd : decode mt.2.1 pc = .ok (.ifCond .eq off, 3)) (ht : (pc : Int) + off = (tgt : Int)) (kt : x = 0 → RR l G mt d lo fx rv w U V uu vv (tgt) lv st h a) (kf : ¬ x = 0 → RR l G mt d lo fx rv w U V uu vv (pc + 3) lv st h b) : RR l G mt d lo fx rv w U V uu vv (pc) lv (.int x :: st) h (if x = 0 then a else b) := by
  intro q ho
  by_cases c' : x = 0
  · rw [if_pos c'] at ho
    have K := kt c' q ho
    exact ⟨K.1, K.2.1, fun p e s m args below meth c ad0 ad A H locs cells slots mc ms ls C S L hc hs => lv_if_eq C.1 C.2.1 hd ht (fun z => K.2.2 p e s m args below meth c ad0 ad A H locs cells slots mc ms ls C S L hc hs) (fun z => absurd c' z)⟩
  · rw [if_neg c'] at ho
    have K := kf c' q ho
    exact ⟨K.1, K.2.1, fun p e s m args below meth c ad0 ad A H locs cells slots mc ms ls C S L hc hs => lv_if_eq C.1 C.2.1 hd ht (fun z => absurd z c') (fun z => K.2.2 p e s m args below meth c ad0 ad A H locs cells slots mc ms ls C S L hc hs)⟩
theorem rr_if_ne {x : Int32} {a b : Option σ} {off : Int} {tgt : Nat} (hd : decode mt.2.1 pc = .ok (.ifCond .ne off, 3)) (ht : (pc : Int) + off = (tgt : Int)) (kt : ¬ x = 0 → RR l G mt d lo fx rv w U V uu vv (tgt) lv st h b) (kf : x = 0 → RR l G mt d lo fx rv w U V uu vv (pc + 3) lv st h a) : RR l G mt d lo fx rv w U V uu vv (pc) lv (.int x :: st) h (if x = 0 then a else b) := by
  intro q ho
  by_cases c' : x = 0
  · rw [if_pos c'] at ho
    have K := kf c' q ho
    exact ⟨K.1, K.2.1, fun p e s m args below meth c ad0 ad A H locs cells slots mc ms ls C S L hc hs => lv_if_ne C.1 C.2.1 hd ht (fun z => absurd c' z) (fun z => K.2.2 p e s m args below meth c ad0 ad A H locs cells slots mc ms ls C S L hc hs)⟩
  · rw [if_neg c'] at ho
    have K := kt c' q ho
    exact ⟨K.1, K.2.1, fun p e s m args below meth c ad0 ad A H locs cells slots mc ms ls C S L hc hs => lv_if_ne C.1 C.2.1 hd ht (fun z => K.2.2 p e s m args below meth c ad0 ad A H locs cells slots mc ms ls C S L hc hs) (fun z => absurd z c')⟩
theorem rr_if_lt {x : Int32} {a b : Option σ} {off : Int} {tgt : Nat} (hd : decode mt.2.1 pc = .ok (.ifCond .lt off, 3)) (ht : (pc : Int) + off = (tgt : Int)) (kt : x < 0 → RR l G mt d lo fx rv w U V uu vv (tgt) lv st h a) (kf : ¬ x < 0 → RR l G mt d lo fx rv w U V uu vv (pc + 3) lv st h b) : RR l G mt d lo fx rv w U V uu vv (pc) lv (.int x :: st) h (if x < 0 then a else b) := by
  intro q ho
  by_cases c' : x < 0
  · rw [if_pos c'] at ho
    have K := kt c' q ho
    exact ⟨K.1, K.2.1, fun p e s m args below meth c ad0 ad A H locs cells slots mc ms ls C S L hc hs => lv_if_lt C.1 C.2.1 hd ht (fun z => K.2.2 p e s m args below meth c ad0 ad A H locs cells slots mc ms ls C S L hc hs) (fun z => absurd c' z)⟩
  · rw [if_neg c'] at ho
    have K := kf c' q ho
    exact ⟨K.1, K.2.1, fun p e s m args below meth c ad0 ad A H locs cells slots mc ms ls C S L hc hs => lv_if_lt C.1 C.2.1 hd ht (fun z => absurd z c') (fun z => K.2.2 p e s m args below meth c ad0 ad A H locs cells slots mc ms ls C S L hc hs)⟩
theorem rr_if_ge {x : Int32} {a b : Option σ} {off : Int} {tgt : Nat} (hd : decode mt.2.1 pc = .ok (.ifCond .ge off, 3)) (ht : (pc : Int) + off = (tgt : Int)) (kt : 0 ≤ x → RR l G mt d lo fx rv w U V uu vv (tgt) lv st h a) (kf : ¬ 0 ≤ x → RR l G mt d lo fx rv w U V uu vv (pc + 3) lv st h b) : RR l G mt d lo fx rv w U V uu vv (pc) lv (.int x :: st) h (if 0 ≤ x then a else b) := by
  intro q ho
  by_cases c' : 0 ≤ x
  · rw [if_pos c'] at ho
    have K := kt c' q ho
    exact ⟨K.1, K.2.1, fun p e s m args below meth c ad0 ad A H locs cells slots mc ms ls C S L hc hs => lv_if_ge C.1 C.2.1 hd ht (fun z => K.2.2 p e s m args below meth c ad0 ad A H locs cells slots mc ms ls C S L hc hs) (fun z => absurd c' z)⟩
  · rw [if_neg c'] at ho
    have K := kf c' q ho
    exact ⟨K.1, K.2.1, fun p e s m args below meth c ad0 ad A H locs cells slots mc ms ls C S L hc hs => lv_if_ge C.1 C.2.1 hd ht (fun z => absurd z c') (fun z => K.2.2 p e s m args below meth c ad0 ad A H locs cells slots mc ms ls C S L hc hs)⟩
theorem rr_if_gt {x : Int32} {a b : Option σ} {off : Int} {tgt : Nat} (hd : decode mt.2.1 pc = .ok (.ifCond .gt off, 3)) (ht : (pc : Int) + off = (tgt : Int)) (kt : 0 < x → RR l G mt d lo fx rv w U V uu vv (tgt) lv st h a) (kf : ¬ 0 < x → RR l G mt d lo fx rv w U V uu vv (pc + 3) lv st h b) : RR l G mt d lo fx rv w U V uu vv (pc) lv (.int x :: st) h (if 0 < x then a else b) := by
  intro q ho
  by_cases c' : 0 < x
  · rw [if_pos c'] at ho
    have K := kt c' q ho
    exact ⟨K.1, K.2.1, fun p e s m args below meth c ad0 ad A H locs cells slots mc ms ls C S L hc hs => lv_if_gt C.1 C.2.1 hd ht (fun z => K.2.2 p e s m args below meth c ad0 ad A H locs cells slots mc ms ls C S L hc hs) (fun z => absurd c' z)⟩
  · rw [if_neg c'] at ho
    have K := kf c' q ho
    exact ⟨K.1, K.2.1, fun p e s m args below meth c ad0 ad A H locs cells slots mc ms ls C S L hc hs => lv_if_gt C.1 C.2.1 hd ht (fun z => absurd z c') (fun z => K.2.2 p e s m args below meth c ad0 ad A H locs cells slots mc ms ls C S L hc hs)⟩
theorem rr_if_le {x : Int32} {a b : Option σ} {off : Int} {tgt : Nat} (hd : decode mt.2.1 pc = .ok (.ifCond .le off, 3)) (ht : (pc : Int) + off = (tgt : Int)) (kt : x ≤ 0 → RR l G mt d lo fx rv w U V uu vv (tgt) lv st h a) (kf : ¬ x ≤ 0 → RR l G mt d lo fx rv w U V uu vv (pc + 3) lv st h b) : RR l G mt d lo fx rv w U V uu vv (pc) lv (.int x :: st) h (if x ≤ 0 then a else b) := by
  intro q ho
  by_cases c' : x ≤ 0
  · rw [if_pos c'] at ho
    have K := kt c' q ho
    exact ⟨K.1, K.2.1, fun p e s m args below meth c ad0 ad A H locs cells slots mc ms ls C S L hc hs => lv_if_le C.1 C.2.1 hd ht (fun z => K.2.2 p e s m args below meth c ad0 ad A H locs cells slots mc ms ls C S L hc hs) (fun z => absurd c' z)⟩
  · rw [if_neg c'] at ho
    have K := kf c' q ho
    exact ⟨K.1, K.2.1, fun p e s m args below meth c ad0 ad A H locs cells slots mc ms ls C S L hc hs => lv_if_le C.1 C.2.1 hd ht (fun z => absurd z c') (fun z => K.2.2 p e s m args below meth c ad0 ad A H locs cells slots mc ms ls C S L hc hs)⟩
theorem rr_icmp_eq {x y : Int32} {a b : Option σ} {off : Int} {tgt : Nat} (hd : decode mt.2.1 pc = .ok (.if_icmp .eq off, 3)) (ht : (pc : Int) + off = (tgt : Int)) (kt : x = y → RR l G mt d lo fx rv w U V uu vv (tgt) lv st h a) (kf : ¬ x = y → RR l G mt d lo fx rv w U V uu vv (pc + 3) lv st h b) : RR l G mt d lo fx rv w U V uu vv (pc) lv (.int y :: .int x :: st) h (if x = y then a else b) := by
  intro q ho
  by_cases c' : x = y
  · rw [if_pos c'] at ho
    have K := kt c' q ho
    exact ⟨K.1, K.2.1, fun p e s m args below meth c ad0 ad A H locs cells slots mc ms ls C S L hc hs => lv_icmp_eq C.1 C.2.1 hd ht (fun z => K.2.2 p e s m args below meth c ad0 ad A H locs cells slots mc ms ls C S L hc hs) (fun z => absurd c' z)⟩
  · rw [if_neg c'] at ho
    have K := kf c' q ho
    exact ⟨K.1, K.2.1, fun p e s m args below meth c ad0 ad A H locs cells slots mc ms ls C S L hc hs => lv_icmp_eq C.1 C.2.1 hd ht (fun z => absurd z c') (fun z => K.2.2 p e s m args below meth c ad0 ad A H locs cells slots mc ms ls C S L hc hs)⟩
theorem rr_icmp_ne {x y : Int32} {a b : Option σ} {off : Int} {tgt : Nat} (hd : decode mt.2.1 pc = .ok (.if_icmp .ne off, 3)) (ht : (pc : Int) + off = (tgt : Int)) (kt : ¬ x = y → RR l G mt d lo fx rv w U V uu vv (tgt) lv st h b) (kf : x = y → RR l G mt d lo fx rv w U V uu vv (pc + 3) lv st h a) : RR l G mt d lo fx rv w U V uu vv (pc) lv (.int y :: .int x :: st) h (if x = y then a else b) := by
  intro q ho
  by_cases c' : x = y
  · rw [if_pos c'] at ho
    have K := kf c' q ho
    exact ⟨K.1, K.2.1, fun p e s m args below meth c ad0 ad A H locs cells slots mc ms ls C S L hc hs => lv_icmp_ne C.1 C.2.1 hd ht (fun z => absurd c' z) (fun z => K.2.2 p e s m args below meth c ad0 ad A H locs cells slots mc ms ls C S L hc hs)⟩
  · rw [if_neg c'] at ho
    have K := kt c' q ho
    exact ⟨K.1, K.2.1, fun p e s m args below meth c ad0 ad A H locs cells slots mc ms ls C S L hc hs => lv_icmp_ne C.1 C.2.1 hd ht (fun z => K.2.2 p e s m args below meth c ad0 ad A H locs cells slots mc ms ls C S L hc hs) (fun z => absurd z c')⟩
theorem rr_icmp_lt {x y : Int32} {a b : Option σ} {off : Int} {tgt : Nat} (hd : decode mt.2.1 pc = .ok (.if_icmp .lt off, 3)) (ht : (pc : Int) + off = (tgt : Int)) (kt : x < y → RR l G mt d lo fx rv w U V uu vv (tgt) lv st h a) (kf : ¬ x < y → RR l G mt d lo fx rv w U V uu vv (pc + 3) lv st h b) : RR l G mt d lo fx rv w U V uu vv (pc) lv (.int y :: .int x :: st) h (if x < y then a else b) := by
  intro q ho
  by_cases c' : x < y
  · rw [if_pos c'] at ho
    have K := kt c' q ho
    exact ⟨K.1, K.2.1, fun p e s m args below meth c ad0 ad A H locs cells slots mc ms ls C S L hc hs => lv_icmp_lt C.1 C.2.1 hd ht (fun z => K.2.2 p e s m args below meth c ad0 ad A H locs cells slots mc ms ls C S L hc hs) (fun z => absurd c' z)⟩
  · rw [if_neg c'] at ho
    have K := kf c' q ho
    exact ⟨K.1, K.2.1, fun p e s m args below meth c ad0 ad A H locs cells slots mc ms ls C S L hc hs => lv_icmp_lt C.1 C.2.1 hd ht (fun z => absurd z c') (fun z => K.2.2 p e s m args below meth c ad0 ad A H locs cells slots mc ms ls C S L hc hs)⟩
theorem rr_icmp_ge {x y : Int32} {a b : Option σ} {off : Int} {tgt : Nat} (hd : decode mt.2.1 pc = .ok (.if_icmp .ge off, 3)) (ht : (pc : Int) + off = (tgt : Int)) (kt : y ≤ x → RR l G mt d lo fx rv w U V uu vv (tgt) lv st h a) (kf : ¬ y ≤ x → RR l G mt d lo fx rv w U V uu vv (pc + 3) lv st h b) : RR l G mt d lo fx rv w U V uu vv (pc) lv (.int y :: .int x :: st) h (if y ≤ x then a else b) := by
  intro q ho
  by_cases c' : y ≤ x
  · rw [if_pos c'] at ho
    have K := kt c' q ho
    exact ⟨K.1, K.2.1, fun p e s m args below meth c ad0 ad A H locs cells slots mc ms ls C S L hc hs => lv_icmp_ge C.1 C.2.1 hd ht (fun z => K.2.2 p e s m args below meth c ad0 ad A H locs cells slots mc ms ls C S L hc hs) (fun z => absurd c' z)⟩
  · rw [if_neg c'] at ho
    have K := kf c' q ho
    exact ⟨K.1, K.2.1, fun p e s m args below meth c ad0 ad A H locs cells slots mc ms ls C S L hc hs => lv_icmp_ge C.1 C.2.1 hd ht (fun z => absurd z c') (fun z => K.2.2 p e s m args below meth c ad0 ad A H locs cells slots mc ms ls C S L hc hs)⟩
theorem rr_icmp_gt {x y : Int32} {a b : Option σ} {off : Int} {tgt : Nat} (hd : decode mt.2.1 pc = .ok (.if_icmp .gt off, 3)) (ht : (pc : Int) + off = (tgt : Int)) (kt : y < x → RR l G mt d lo fx rv w U V uu vv (tgt) lv st h a) (kf : ¬ y < x → RR l G mt d lo fx rv w U V uu vv (pc + 3) lv st h b) : RR l G mt d lo fx rv w U V uu vv (pc) lv (.int y :: .int x :: st) h (if y < x then a else b) := by
  intro q ho
  by_cases c' : y < x
  · rw [if_pos c'] at ho
    have K := kt c' q ho
    exact ⟨K.1, K.2.1, fun p e s m args below meth c ad0 ad A H locs cells slots mc ms ls C S L hc hs => lv_icmp_gt C.1 C.2.1 hd ht (fun z => K.2.2 p e s m args below meth c ad0 ad A H locs cells slots mc ms ls C S L hc hs) (fun z => absurd c' z)⟩
  · rw [if_neg c'] at ho
    have K := kf c' q ho
    exact ⟨K.1, K.2.1, fun p e s m args below meth c ad0 ad A H locs cells slots mc ms ls C S L hc hs => lv_icmp_gt C.1 C.2.1 hd ht (fun z => absurd z c') (fun z => K.2.2 p e s m args below meth c ad0 ad A H locs cells slots mc ms ls C S L hc hs)⟩
theorem rr_icmp_le {x y : Int32} {a b : Option σ} {off : Int} {tgt : Nat} (hd : decode mt.2.1 pc = .ok (.if_icmp .le off, 3)) (ht : (pc : Int) + off = (tgt : Int)) (kt : x ≤ y → RR l G mt d lo fx rv w U V uu vv (tgt) lv st h a) (kf : ¬ x ≤ y → RR l G mt d lo fx rv w U V uu vv (pc + 3) lv st h b) : RR l G mt d lo fx rv w U V uu vv (pc) lv (.int y :: .int x :: st) h (if x ≤ y then a else b) := by
  intro q ho
  by_cases c' : x ≤ y
  · rw [if_pos c'] at ho
    have K := kt c' q ho
    exact ⟨K.1, K.2.1, fun p e s m args below meth c ad0 ad A H locs cells slots mc ms ls C S L hc hs => lv_icmp_le C.1 C.2.1 hd ht (fun z => K.2.2 p e s m args below meth c ad0 ad A H locs cells slots mc ms ls C S L hc hs) (fun z => absurd c' z)⟩
  · rw [if_neg c'] at ho
    have K := kf c' q ho
    exact ⟨K.1, K.2.1, fun p e s m args below meth c ad0 ad A H locs cells slots mc ms ls C S L hc hs => lv_icmp_le C.1 C.2.1 hd ht (fun z => absurd z c') (fun z => K.2.2 p e s m args below meth c ad0 ad A H locs cells slots mc ms ls C S L hc hs)⟩
/-- o is a choice: either way -/
theorem rr_ite {c : Prop} [Decidable c] {a b : Option σ} (kt : c → RR l G mt d lo fx rv w U V uu vv pc lv st h a) (kf : ¬ c → RR l G mt d lo fx rv w U V uu vv pc lv st h b) : RR l G mt d lo fx rv w U V uu vv pc lv st h (if c then a else b) := by
  by_cases hc : c
  · rw [if_pos hc]; exact kt hc
  · rw [if_neg hc]; exact kf hc
/-- o is guarded -/
theorem rr_if {c : Prop} [Decidable c] {a : Option σ} (kt : c → RR l G mt d lo fx rv w U V uu vv pc lv st h a) : RR l G mt d lo fx rv w U V uu vv pc lv st h (if c then a else none) := rr_ite kt (fun _ q hq => by cases hq)
theorem rr_none : RR l G mt d lo fx rv w U V uu vv pc lv st h none := fun q hq => by cases hq
theorem rr_eq {o' : Option σ} (e : o = o') (k : RR l G mt d lo fx rv w U V uu vv pc lv st h o') : RR l G mt d lo fx rv w U V uu vv pc lv st h o := e ▸ k
theorem rr_heap {h' : rr_H} (e : h = h') (k : RR l G mt d lo fx rv w U V uu vv pc lv st h' o) : RR l G mt d lo fx rv w U V uu vv pc lv st h o := e ▸ k
/-! the ends -/
theorem rr_ret {S : σ} {v : Option Value} (hv : rv S = v) (hw : w S = h) (hu : U S = uu) (hvv : V S = vv) (g : ∀ (p : Program) (e : Env) (s : State) (m : MethodId) (args : Array Value) (below : List Frame) (meth : Method) (c : Code) (H : Heap) (locs : List Loc) (ad : Nat → Nat) (ls : Array Slot) (mc ms : Nat) (Qc : Array Value → State → Outcome → State → Prop) (free : Addr → Prop), rr_C G mt p s m args meth c → (∀ t : State, t.heap = H → s.WarmedH t.vm → Qc args s (.returned (v.map (a_v ad))) t) → (∀ q ∈ locs, free q.base) → W p l e { frames := d, cells := mc, slots := ms, locals := lo } s m args below meth c H locs mc ms (MQ below Qc args s mc ms free) (F0 m pc ls (st.map (a_v ad)))) : RR l G mt d lo fx rv w U V uu vv pc lv st h (some S) := by
  intro q ho
  cases ho
  subst hw
  subst hv
  refine ⟨by omega, by omega, ?_⟩
  intro p e s m args below meth c ad0 ad A H locs cells slots mc ms ls C X L hc hs
  refine W.widen (k := mc) (n := ms) (by omega) (by omega) ?_
  obtain ⟨hP, hD, hS, hA, hf⟩ := X
  exact g p e s m args below meth c H locs ad ls mc ms _ _ C (fun t ht hW => ⟨⟨ad, hf, rfl, by rw [ht]; exact hP, va_K.moved hW.alike C.2.2.2.2.2.2.2.2.1, hD⟩, hS.F ht⟩) hS.2.2
theorem rr_iret {S : σ} {v : Int32} (hd : decode mt.2.1 pc = .ok (.ireturn, 1)) (hr : mt.2.2.2 = some .int) (hv : rv S = some (.int v)) (hw : w S = h) (hu : U S = uu) (hu2 : V S = vv) : RR l G mt d lo fx rv w U V uu vv pc lv [.int v] h (some S) :=
  rr_ret hv hw hu hu2 (fun p e s m args below meth c H locs ad ls mc ms Qc free C hq hf => W.iret C.1 C.2.1 (C.2.2.2.2.2.1.trans hr) hq hf hd C.2.2.2.2.2.2.1)
theorem rr_zret {S : σ} {v : Int32} (hd : decode mt.2.1 pc = .ok (.ireturn, 1)) (hr : mt.2.2.2 = some .boolean) (hn : v &&& 1 = v) (hv : rv S = some (.int v)) (hw : w S = h) (hu : U S = uu) (hu2 : V S = vv) : RR l G mt d lo fx rv w U V uu vv pc lv [.int v] h (some S) :=
  rr_ret hv hw hu hu2 (fun p e s m args below meth c H locs ad ls mc ms Qc free C hq hf => W.zret C.1 C.2.1 (C.2.2.2.2.2.1.trans hr) (by show Value.int (v &&& 1) = .int v; rw [hn]) hq hf hd C.2.2.2.2.2.2.1)
theorem rr_lret {S : σ} {v : Int64} (hd : decode mt.2.1 pc = .ok (.lreturn, 1)) (hr : mt.2.2.2 = some .long) (hv : rv S = some (.long v)) (hw : w S = h) (hu : U S = uu) (hu2 : V S = vv) : RR l G mt d lo fx rv w U V uu vv pc lv [.long v] h (some S) :=
  rr_ret hv hw hu hu2 (fun p e s m args below meth c H locs ad ls mc ms Qc free C hq hf => W.lret C.1 C.2.1 (C.2.2.2.2.2.1.trans hr) hq hf hd C.2.2.2.2.2.2.1)
theorem rr_vret {S : σ} (hd : decode mt.2.1 pc = .ok (.return_, 1)) (hr : mt.2.2.2 = none) (hv : rv S = none) (hw : w S = h) (hu : U S = uu) (hu2 : V S = vv) : RR l G mt d lo fx rv w U V uu vv pc lv [] h (some S) :=
  rr_ret hv hw hu hu2 (fun p e s m args below meth c H locs ad ls mc ms Qc free C hq hf => W.vret C.1 C.2.1 (C.2.2.2.2.2.1.trans hr) hq hf hd C.2.2.2.2.2.2.1)
theorem rr_aret {S : σ} {v : Value} {rt : FieldType} (hd : decode mt.2.1 pc = .ok (.areturn, 1)) (hr : mt.2.2.2 = some rt) (hrt : (∃ n, rt = .object n) ∨ ∃ t, rt = .array t) (hvv : v = .null ∨ ∃ a, v = .ref a) (hv : rv S = some v) (hw : w S = h) (hu : U S = uu) (hu2 : V S = vv) : RR l G mt d lo fx rv w U V uu vv pc lv [v] h (some S) :=
  rr_ret hv hw hu hu2 (fun p e s m args below meth c H locs ad ls mc ms Qc free C hq hf => W.aret (v := a_v ad v) C.1 C.2.1 (C.2.2.2.2.2.1.trans hr) hrt (hvv.elim (fun e => Or.inl (by rw [e]; rfl)) (fun ⟨a, e⟩ => Or.inr ⟨ad a, by rw [e]; rfl⟩)) hq hf hd C.2.2.2.2.2.2.1)
end RROWS

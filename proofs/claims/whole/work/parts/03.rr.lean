/-! ===== worlds by names: a cell's references are names; 'ad' says at which address a name stands ===== -/
abbrev rr_H : Type := List (Option va_E)
def a_v (ad : Nat → Nat) : Value → Value
  | .ref n => .ref (ad n)
  | v => v
def a_a (ad : Nat → Nat) (x : vp_A) : vp_A := (x.1, match x.2 with
  | .inr (.inr (.inr (.inr f))) => .inr (.inr (.inr (.inr (fun j => (f j).map ad))))
  | y => y)
def a_c (cy : Nat → ClassId) (ad : Nat → Nat) : va_E → va_E
  | .inl x => .inl (cy x.1, a_a ad x.2)
  | .inr o => .inr (o.1, o.2.map (a_v ad))
def a_w (cy : Nat → ClassId) (ad : Nat → Nat) : Nat → rr_H → va_W
  | _, [] => []
  | i, none :: t => a_w cy ad (i + 1) t
  | i, some c :: t => (ad i, a_c cy ad c) :: a_w cy ad (i + 1) t
def a_k : rr_H → Nat → Nat
  | [], _ => 0
  | _ :: _, 0 => 0
  | none :: t, n + 1 => a_k t n
  | some _ :: t, n + 1 => a_k t n + 1
theorem a_v_cat (ad : Nat → Nat) (v : Value) : (a_v ad v).category = v.category := by cases v <;> rfl
theorem a_w_at (cy : Nat → ClassId) (ad : Nat → Nat) : ∀ (h : rr_H) (i n : Nat) (c : va_E), h[n]? = some (some c) → (a_w cy ad i h)[a_k h n]? = some (ad (i + n), a_c cy ad c) := by
  intro h
  induction h with
  | nil => intro i n c hc; simp at hc
  | cons x t ih =>
    intro i n c hc
    cases n with
    | zero =>
      cases x with
      | none => simp at hc
      | some d => simp at hc; subst hc; rfl
    | succ n =>
      have h1 := ih (i + 1) n c (by simpa using hc)
      rw [show i + (n + 1) = i + 1 + n by omega]
      cases x with
      | none => exact h1
      | some d => show ((_ : Nat × va_E) :: a_w cy ad (i + 1) t)[a_k t n + 1]? = _; rw [List.getElem?_cons_succ]; exact h1
theorem a_w_set (cy : Nat → ClassId) (ad : Nat → Nat) (c' : va_E) : ∀ (h : rr_H) (i n : Nat) (c : va_E), h[n]? = some (some c) → (a_w cy ad i h).set (a_k h n) (ad (i + n), a_c cy ad c') = a_w cy ad i (h.set n (some c')) := by
  intro h
  induction h with
  | nil => intro i n c hc; simp at hc
  | cons x t ih =>
    intro i n c hc
    cases n with
    | zero =>
      cases x with
      | none => simp at hc
      | some d => rfl
    | succ n =>
      have h1 := ih (i + 1) n c (by simpa using hc)
      rw [show i + (n + 1) = i + 1 + n by omega]
      cases x with
      | none => exact h1
      | some d =>
        show ((ad i, a_c cy ad d) :: a_w cy ad (i + 1) t).set (a_k t n + 1) _ = (ad i, a_c cy ad d) :: a_w cy ad (i + 1) (t.set n (some c'))
        rw [List.set_cons_succ, h1]
theorem a_w_of (cy : Nat → ClassId) (ad : Nat → Nat) : ∀ (h : rr_H) (i k : Nat) (q : Nat × va_E), (a_w cy ad i h)[k]? = some q → ∃ n c, h[n]? = some (some c) ∧ q = (ad (i + n), a_c cy ad c) ∧ a_k h n = k := by
  intro h
  induction h with
  | nil => intro i k q hq; simp [a_w] at hq
  | cons x t ih =>
    intro i k q hq
    cases x with
    | none =>
      obtain ⟨n, c, h1, h2, h3⟩ := ih (i + 1) k q hq
      exact ⟨n + 1, c, by simpa using h1, by rw [h2, show i + 1 + n = i + (n + 1) by omega], h3⟩
    | some d =>
      cases k with
      | zero =>
        have e : (ad i, a_c cy ad d) = q := by simpa [a_w] using hq
        exact ⟨0, d, rfl, e.symm, rfl⟩
      | succ k =>
        have hq' : (a_w cy ad (i + 1) t)[k]? = some q := by simpa [a_w] using hq
        obtain ⟨n, c, h1, h2, h3⟩ := ih (i + 1) k q hq'
        refine ⟨n + 1, c, by simpa using h1, by rw [h2, show i + 1 + n = i + (n + 1) by omega], ?_⟩
        show a_k t n + 1 = k + 1
        rw [h3]
theorem a_k_inj : ∀ (h : rr_H) (n n' : Nat) (c c' : va_E), h[n]? = some (some c) → h[n']? = some (some c') → a_k h n = a_k h n' → n = n' := by
  intro h
  induction h with
  | nil => intro n n' c c' hc; simp at hc
  | cons x t ih =>
    intro n n' c c' hc hc' e
    cases n with
    | zero =>
      cases n' with
      | zero => rfl
      | succ n' =>
        cases x with
        | none => simp at hc
        | some d => exact absurd e (by show ¬ 0 = a_k t n' + 1; omega)
    | succ n =>
      cases n' with
      | zero =>
        cases x with
        | none => simp at hc'
        | some d => exact absurd e (by show ¬ a_k t n + 1 = 0; omega)
      | succ n' =>
        have h1 : a_k t n = a_k t n' := by
          cases x with
          | none => exact e
          | some d => exact Nat.succ.inj e
        rw [ih n n' c c' (by simpa using hc) (by simpa using hc') h1]
theorem a_P_iff {D : va_G} {cl : List vw_C} {cy : Nat → ClassId} {ad : Nat → Nat} {h : rr_H} {H : Heap} : va_P D cl (a_w cy ad 0 h) H ↔ ∀ n c, h[n]? = some (some c) → va_at D cl (ad n, a_c cy ad c) H := by
  constructor
  · intro hP n c hc
    have := hP _ _ (a_w_at cy ad h 0 n c hc)
    rwa [Nat.zero_add] at this
  · intro hq k q hk
    obtain ⟨n, c, h1, h2, -⟩ := a_w_of cy ad h 0 k q hk
    rw [h2, Nat.zero_add]
    exact hq n c h1
theorem a_D_iff {A : Nat → Prop} {cy : Nat → ClassId} {ad : Nat → Nat} {h : rr_H} : va_D A (a_w cy ad 0 h) ↔ (∀ n n' c c', h[n]? = some (some c) → h[n']? = some (some c') → ad n = ad n' → n = n') ∧ ∀ n c, h[n]? = some (some c) → A (ad n) := by
  constructor
  · intro hD
    refine ⟨fun n n' c c' hc hc' e => ?_, fun n c hc => ?_⟩
    · have h1 := a_w_at cy ad h 0 n c hc
      have h2 := a_w_at cy ad h 0 n' c' hc'
      exact a_k_inj h n n' c c' hc hc' (hD.1 _ _ _ _ h1 h2 (by simpa using e))
    · have := hD.2 _ _ (a_w_at cy ad h 0 n c hc)
      simpa using this
  · intro ⟨h1, h2⟩
    refine ⟨fun i j p q hp hq e => ?_, fun k q hk => ?_⟩
    · obtain ⟨n, c, g1, g2, g3⟩ := a_w_of cy ad h 0 i p hp
      obtain ⟨n', c', f1, f2, f3⟩ := a_w_of cy ad h 0 j q hq
      subst g2; subst f2
      have := h1 n n' c c' g1 f1 (by simpa using e)
      subst this
      rw [← g3, ← f3]
    · obtain ⟨n, c, g1, g2, g3⟩ := a_w_of cy ad h 0 k q hk
      subst g2
      simpa using h2 n c g1
/-! ===== what a walk stands on ===== -/
abbrev rr_G : Type := (Nat → ClassId) × (Nat → Nat → Nat) × (Nat → ClassId)
abbrev rr_M : Type := MethodName × ByteArray × Nat × Option FieldType
def rr_ws : List Cond := lw_tbl.filter goodWord
def rr_isN : Cond → Bool
  | .fieldLinkNest .. => true
  | .methodLinkNest .. => true
  | .arrayOver (.object _) => true
  | _ => false
def rr_ns : List Cond := lw_tbl.filter rr_isN
def rr_tys (cy : Nat → ClassId) : List (ClassId × FieldType) := [(cy 0, .int), (cy 1, .long), (cy 2, .byte), (cy 3, .boolean), (cy 4, .object "LazyHeaps$Rule"), (cy 5, .object "LazyHeaps$Step")]
def rr_D (G : rr_G) : va_G := (G.1, G.2.1)
def rr_K (G : rr_G) (U : State) : Prop := va_K (rr_D G) vwCl (rr_tys G.2.2) U ∧ ∀ w ∈ rr_ns, va_Nw w U
theorem rr_K.moved {G : rr_G} {s U : State} (hW : s.WarmedH U.vm) (h : rr_K G s) : rr_K G U := by
  refine ⟨va_K.moved hW.alike h.1, fun w hw => ?_⟩
  have hk := (List.mem_filter.mp hw).2
  have hz := h.2 w hw
  match w, hk, hz with
  | .fieldLinkNest .., _, z => exact va_Nw.warmF hW z
  | .methodLinkNest .., _, z => exact va_Nw.warmM hW z
  | .arrayOver (.object C), _, z => exact va_AO.moved hW.alike z
def rr_C (G : rr_G) (mt : rr_M) (p : Program) (s : State) (m : MethodId) (args : Array Value) (meth : Method) (c : Code) : Prop :=
  p.tables.exec = Jvm.exec ∧ c.code = mt.2.1 ∧ c.maxLocals = mt.2.2.1 ∧ s.vm.findClass mt.1.cls = some m.cls ∧ (∀ w ∈ rr_ws, w.before args s = true) ∧ meth.sig.returnType = mt.2.2.2 ∧ meth.locks = false ∧ meth.name = mt.1.name ∧ rr_K G s
def rr_S (G : rr_G) (fx : Nat → Bool) (ad0 ad : Nat → Nat) (A : Nat → Prop) (s : State) (H : Heap) (locs : List Loc) (h : rr_H) : Prop :=
  va_P (rr_D G) vwCl (a_w G.2.2 ad 0 h) H ∧ va_D A (a_w G.2.2 ad 0 h) ∧ va_S A s.heap H locs ∧ (∀ q, s.heap.size ≤ q → A q) ∧ ∀ n, fx n = true → ad n = ad0 n
def rr_L (ad : Nat → Nat) (lv : List (Nat × Value)) : List (Nat × Value) := lv.map (fun q => (q.1, a_v ad q.2))
def rr_Q {σ : Type} (G : rr_G) (fx : Nat → Bool) (rv : σ → Option Value) (w : σ → rr_H) (q : σ) (ad0 : Nat → Nat) (A : Nat → Prop) : Array Value → State → Outcome → State → Prop := fun _ st oc t =>
  (∃ ad : Nat → Nat, (∀ n, fx n = true → ad n = ad0 n) ∧ oc = .returned ((rv q).map (a_v ad)) ∧ va_P (rr_D G) vwCl (a_w G.2.2 ad 0 (w q)) t.heap ∧ va_K (rr_D G) vwCl (rr_tys G.2.2) t ∧ va_D A (a_w G.2.2 ad 0 (w q))) ∧ va_F A st t
/-- the machine at pc, with these locals and operands, over the world h, with u cells and v slots made so far, comes to the end that o tells (if it tells one) -/
def RR {σ : Type} (l : Launch) (G : rr_G) (mt : rr_M) (d lo : Nat) (fx : Nat → Bool) (rv : σ → Option Value) (w : σ → rr_H) (U V : σ → Nat) (u v pc : Nat) (lv : List (Nat × Value)) (st : List Value) (h : rr_H) (o : Option σ) : Prop :=
  ∀ q, o = some q → u ≤ U q ∧ v ≤ V q ∧ ∀ (p : Program) (e : Env) (s : State) (m : MethodId) (args : Array Value) (below : List Frame) (meth : Method) (c : Code) (ad0 ad : Nat → Nat) (A : Nat → Prop) (H : Heap) (locs : List Loc) (cells slots mc ms : Nat) (ls : Array Slot),
    rr_C G mt p s m args meth c → rr_S G fx ad0 ad A s H locs h → lv_has ls mt.2.2.1 (rr_L ad lv) → cells + (U q - u) ≤ mc → slots + (V q - v) ≤ ms →
    W p l e { frames := d, cells := mc, slots := ms, locals := lo } s m args below meth c H locs cells slots (MQ below (rr_Q G fx rv w q ad0 A) args s mc ms A) (F0 m pc ls (st.map (a_v ad)))
/-- a method, called with av over the world h, comes to the end that o tells; it makes U q - u cells, V q - v slots at the most -/
def TT {σ : Type} (l : Launch) (G : rr_G) (mt : rr_M) (d lo : Nat) (fx : Nat → Bool) (rv : σ → Option Value) (w : σ → rr_H) (U V : σ → Nat) (u v : Nat) (av : List Value) (h : rr_H) (o : Option σ) : Prop :=
  ∀ q, o = some q → u ≤ U q ∧ v ≤ V q ∧ ∀ (ad : Nat → Nat) (sz : Nat), Met l mt.1 (.code mt.1 mt.2.1 mt.2.2.1 mt.2.2.2 :: rr_ws) { frames := d, cells := U q - u, slots := V q - v, locals := lo } (va_Pc (av.map (a_v ad)) (fun U => U.heap.size = sz ∧ va_P (rr_D G) vwCl (a_w G.2.2 ad 0 h) U.heap ∧ rr_K G U ∧ va_D (fun _ => True) (a_w G.2.2 ad 0 h))) (rr_Q G fx rv w q ad (va_A (a_w G.2.2 ad 0 h) sz)) (U q - u) (V q - v) (va_A (a_w G.2.2 ad 0 h) sz)
theorem rr_args (ad : Nat → Nat) : ∀ (av : List Value) (i : Nat), lv_args i (av.map (a_v ad)) = rr_L ad (lv_args i av) := by
  intro av
  induction av with
  | nil => intro i; rfl
  | cons v t ih =>
    intro i
    simp only [List.map_cons, lv_args, a_v_cat, ih]
    first | rfl | (split <;> rfl) | simp [rr_L]
theorem rr_sl (ad : Nat → Nat) : ∀ av : List Value, (lg_sl (av.map (a_v ad))).length = (lg_sl av).length := by
  intro av
  induction av with
  | nil => rfl
  | cons v t ih =>
    simp only [lg_sl, List.map_cons, List.flatMap_cons, List.length_append, a_v_cat] at ih ⊢
    rw [ih]
    split <;> rfl
theorem TT.of {σ : Type} {l : Launch} {G : rr_G} {mt : rr_M} {d lo : Nat} {fx : Nat → Bool} {rv : σ → Option Value} {w : σ → rr_H} {U V : σ → Nat} {u v : Nat} {av : List Value} {h : rr_H} {o : Option σ} (hpl : plainName mt.1.cls = true) (hlen : (lg_sl av).length ≤ mt.2.2.1)
    (k : RR l G mt d lo fx rv w U V u v 0 (lv_args 0 av) [] h o) : TT l G mt d lo fx rv w U V u v av h o := by
  intro q ho
  obtain ⟨k1, k2, K0⟩ := k q ho
  refine ⟨k1, k2, fun ad sz => ?_⟩
  refine Met.ofW (cc := mt.2.1) (maxL := mt.2.2.1) (ret := mt.2.2.2) hpl rfl ?_
  intro p e s m args below meth c s₁ B hml hv
  obtain ⟨rfl, hsz, hP, hK, hD⟩ := hv
  subst hsz
  have hts := atoms_spec (ws := .code mt.1 mt.2.1 mt.2.2.1 mt.2.2.2 :: rr_ws) B.pre
  have hl := lv_entry (av.map (a_v ad)) (n := mt.2.2.1) (by rw [rr_sl]; exact hlen)
  rw [rr_args] at hl
  rw [lg_entry_eq]
  exact K0 p e s m _ below meth c ad ad _ s.heap [] 0 0 _ _ _ ⟨B.exec, B.bytes, hml, findClass_of_methodNamed B.named, fun x hx => hts x (List.mem_cons_of_mem _ hx), B.returns, B.notSynchronized, (name_of_methodNamed B.named B.method).1, hK⟩ ⟨hP, hD.self, va_S.rf, fun q h => Or.inr h, fun _ _ => rfl⟩ hl (by omega) (by omega)

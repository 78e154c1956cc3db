/-! ===== an abstract machine over the kit's rows: ints, references by number, a heap from numbers to cells ===== -/
/-- an int; null; the script; the cell of that number -/
abbrev am_V : Type := Int32 ⊕ Option (Option Nat)
abbrev am_r (k : Nat) : am_V := .inr (some (some k))
/-- an array (of booleans or ints, its length, its contents); an object (its class' number, its fields) -/
abbrev am_E : Type := (Bool × Nat × (Nat → Int32)) ⊕ (Nat × List am_V)
abbrev am_H : Type := Nat → Option am_E
def am_set (h : am_H) (k : Nat) (e : am_E) : am_H := fun j => if j = k then some e else h j
theorem am_set_eq {h : am_H} {k : Nat} {e : am_E} : am_set h k e k = some e := by simp [am_set]
theorem am_set_ne {h : am_H} {k j : Nat} {e : am_E} (n : j ≠ k) : am_set h k e j = h j := by simp [am_set, n]
/-- what a value is in the machine: b the script's cell, ad the cells' addresses -/
def am_cv (b : Nat) (ad : List Nat) (v : am_V) : Option Value := match v with
  | .inl x => some (.int x)
  | .inr none => some .null
  | .inr (some none) => some (.ref b)
  | .inr (some (some k)) => (ad[k]?).map Value.ref
theorem am_cv_i {b : Nat} {ad : List Nat} {x : Int32} {c : Value} (h : am_cv b ad (.inl x) = some c) : c = .int x := (Option.some.inj h).symm
theorem am_cv_r {b : Nat} {ad : List Nat} {k : Nat} {c : Value} (h : am_cv b ad (.inr (some (some k))) = some c) : ∃ a, ad[k]? = some a ∧ c = .ref a := by
  have h : (ad[k]?).map Value.ref = some c := h
  cases hk : ad[k]? with
  | none => rw [hk] at h; cases h
  | some a => rw [hk] at h; exact ⟨a, rfl, (Option.some.inj h).symm⟩
theorem am_cv_cat {b : Nat} {ad : List Nat} {v : am_V} {c : Value} (h : am_cv b ad v = some c) : c.category = 1 := by
  match v, h with
  | .inl x, h => rw [am_cv_i h]; rfl
  | .inr none, h => cases h; rfl
  | .inr (some none), h => cases h; rfl
  | .inr (some (some k)), h => obtain ⟨a, -, rfl⟩ := am_cv_r h; rfl
theorem am_cv_ref {b : Nat} {ad : List Nat} {r : Option (Option Nat)} {c : Value} (h : am_cv b ad (.inr r) = some c) : c = .null ∨ ∃ a, c = .ref a := by
  match r, h with
  | none, h => cases h; exact Or.inl rfl
  | some none, h => cases h; exact Or.inr ⟨_, rfl⟩
  | some (some k), h => obtain ⟨a, -, rfl⟩ := am_cv_r h; exact Or.inr ⟨_, rfl⟩
theorem am_get_pre {ad ad' : List Nat} (h : ad <+: ad') {k a : Nat} (hk : ad[k]? = some a) : ad'[k]? = some a := by
  obtain ⟨t, rfl⟩ := h
  rw [List.getElem?_append_left (List.getElem?_eq_some_iff.mp hk).1]
  exact hk
theorem am_cv_pre {b : Nat} {ad ad' : List Nat} (h : ad <+: ad') {v : am_V} {c : Value} (hv : am_cv b ad v = some c) : am_cv b ad' v = some c := by
  match v, hv with
  | .inl x, hv => exact hv
  | .inr none, hv => exact hv
  | .inr (some none), hv => exact hv
  | .inr (some (some k)), hv =>
    obtain ⟨a, h1, rfl⟩ := am_cv_r hv
    show (ad'[k]?).map Value.ref = _
    rw [am_get_pre h h1]
    rfl
theorem am_map_pre {b : Nat} {ad ad' : List Nat} (h : ad <+: ad') : ∀ {S : List am_V} {st : List Value}, S.map (am_cv b ad) = st.map some → S.map (am_cv b ad') = st.map some
  | [], [], _ => rfl
  | [], _ :: _, e => by simp at e
  | _ :: _, [], e => by simp at e
  | v :: S, c :: st, e => by
    simp only [List.map_cons, List.cons.injEq] at e ⊢
    exact ⟨am_cv_pre h e.1, am_map_pre h e.2⟩
theorem am_cons {f : am_V → Option Value} {v : am_V} {S : List am_V} {st : List Value} (h : (v :: S).map f = st.map some) : ∃ c st', st = c :: st' ∧ f v = some c ∧ S.map f = st'.map some := by
  cases st with
  | nil => simp at h
  | cons c st' =>
    simp only [List.map_cons, List.cons.injEq] at h
    exact ⟨c, st', rfl, h.1, h.2⟩
theorem am_len {f : am_V → Option Value} {S : List am_V} {st : List Value} (h : S.map f = st.map some) : st.length = S.length := by
  have := congrArg List.length h
  simpa using this.symm
theorem am_at_map {f : am_V → Option Value} {S : List am_V} {st : List Value} (h : S.map f = st.map some) {k : Nat} {v : am_V} (hk : S[k]? = some v) : ∃ c, st[k]? = some c ∧ f v = some c := by
  have h1 : (S.map f)[k]? = (st.map some)[k]? := by rw [h]
  rw [List.getElem?_map, List.getElem?_map, hk] at h1
  cases hc : st[k]? with
  | none => rw [hc] at h1; cases h1
  | some c => rw [hc] at h1; exact ⟨c, rfl, Option.some.inj h1⟩
theorem am_set_map {f : am_V → Option Value} {S : List am_V} {st : List Value} (h : S.map f = st.map some) {k : Nat} {v : am_V} {c : Value} (hc : f v = some c) : (S.set k v).map f = (st.set k c).map some := by
  rw [List.map_set, List.map_set, h, hc]
def am_ce (dA : Bool → ClassId) (b : Nat) (ad : List Nat) (e : am_E) (c : va_E) : Prop := match e with
  | .inl a => c = .inl (dA a.1, a.2.1, .inl a.2.2)
  | .inr o => ∃ cs : List Value, o.2.map (am_cv b ad) = cs.map some ∧ c = .inr (o.1, cs)
theorem am_ce_pre {dA : Bool → ClassId} {b : Nat} {ad ad' : List Nat} (h : ad <+: ad') {e : am_E} {c : va_E} (hc : am_ce dA b ad e c) : am_ce dA b ad' e c := by
  match e, hc with
  | .inl a, hc => exact hc
  | .inr o, hc => obtain ⟨cs, h1, h2⟩ := hc; exact ⟨cs, am_map_pre h h1, h2⟩
/-- the abstract heap h is held by the cells ws -/
def am_w (dA : Bool → ClassId) (b : Nat) (ad : List Nat) (h : am_H) (ws : va_W) : Prop := ad = ws.map Prod.fst ∧ ∀ (k : Nat) (e : am_E), h k = some e → ∃ (a : Nat) (c : va_E), ws[k]? = some (a, c) ∧ am_ce dA b ad e c
theorem am_w.addr {dA : Bool → ClassId} {b : Nat} {ad : List Nat} {h : am_H} {ws : va_W} (w : am_w dA b ad h ws) {k a a' : Nat} {c : va_E} (h1 : ws[k]? = some (a, c)) (h2 : ad[k]? = some a') : a = a' := by
  rw [w.1, List.getElem?_map, h1] at h2
  exact Option.some.inj h2
theorem am_w.arr {dA : Bool → ClassId} {b : Nat} {ad : List Nat} {h : am_H} {ws : va_W} (w : am_w dA b ad h ws) {k a : Nat} (ha : ad[k]? = some a) {z : Bool} {n : Nat} {f : Nat → Int32} (hk : h k = some (.inl (z, n, f))) : ws[k]? = some (a, .inl (dA z, n, .inl f)) := by
  obtain ⟨a', c, h1, h2⟩ := w.2 k _ hk
  have h2 : c = .inl (dA z, n, .inl f) := h2
  rw [h1, w.addr h1 ha, h2]
theorem am_w.obj {dA : Bool → ClassId} {b : Nat} {ad : List Nat} {h : am_H} {ws : va_W} (w : am_w dA b ad h ws) {k a : Nat} (ha : ad[k]? = some a) {ci : Nat} {fs : List am_V} (hk : h k = some (.inr (ci, fs))) : ∃ cs : List Value, fs.map (am_cv b ad) = cs.map some ∧ ws[k]? = some (a, .inr (ci, cs)) := by
  obtain ⟨a', c, h1, h2⟩ := w.2 k _ hk
  obtain ⟨cs, h3, h4⟩ : ∃ cs : List Value, fs.map (am_cv b ad) = cs.map some ∧ c = .inr (ci, cs) := h2
  exact ⟨cs, h3, by rw [h1, w.addr h1 ha, h4]⟩
theorem am_w.set {dA : Bool → ClassId} {b : Nat} {ad : List Nat} {h : am_H} {ws : va_W} (w : am_w dA b ad h ws) {k a : Nat} {c0 c : va_E} (hk : ws[k]? = some (a, c0)) {e : am_E} (he : am_ce dA b ad e c) : am_w dA b ad (am_set h k e) (ws.set k (a, c)) := by
  have hl : k < ws.length := (List.getElem?_eq_some_iff.mp hk).1
  refine ⟨?_, fun j e' hj => ?_⟩
  · rw [w.1, List.map_set]
    have h1 : (ws.map Prod.fst)[k]? = some a := by rw [List.getElem?_map, hk]; rfl
    have h2 : k < (ws.map Prod.fst).length := by rw [List.length_map]; exact hl
    rw [List.getElem?_eq_getElem h2] at h1
    have h3 := Option.some.inj h1
    show _ = (ws.map Prod.fst).set k a
    rw [← h3, List.set_getElem_self]
  · by_cases hjk : j = k
    · subst hjk
      rw [am_set_eq] at hj
      cases hj
      exact ⟨a, c, by rw [List.getElem?_set_self hl], he⟩
    · rw [am_set_ne hjk] at hj
      obtain ⟨a', c', h1, h2⟩ := w.2 j e' hj
      exact ⟨a', c', by rw [List.getElem?_set_ne (fun q => hjk q.symm)]; exact h1, h2⟩
theorem am_w.push {dA : Bool → ClassId} {b : Nat} {ad : List Nat} {h : am_H} {ws : va_W} (w : am_w dA b ad h ws) {n q : Nat} {c : va_E} (hn : ad.length = n) {e : am_E} (he : am_ce dA b (ad ++ [q]) e c) : am_w dA b (ad ++ [q]) (am_set h n e) (ws ++ [(q, c)]) := by
  have hl : ws.length = n := by rw [← hn, w.1, List.length_map]
  refine ⟨by rw [List.map_append, ← w.1]; rfl, fun j e' hj => ?_⟩
  by_cases hjk : j = n
  · subst hjk
    rw [am_set_eq] at hj
    cases hj
    exact ⟨q, c, by rw [List.getElem?_append_right (by omega), show j - ws.length = 0 by omega]; rfl, he⟩
  · rw [am_set_ne hjk] at hj
    obtain ⟨a', c', h1, h2⟩ := w.2 j e' hj
    exact ⟨a', c', by rw [List.getElem?_append_left (List.getElem?_eq_some_iff.mp h1).1]; exact h1, am_ce_pre (List.prefix_append ad [q]) h2⟩
/-- the locals -/
def am_l (b : Nat) (ad : List Nat) (nL : Nat) (L : List (Option am_V)) (ls : Array Slot) : Prop := L.length = nL ∧ ∃ lv, lv_has ls nL lv ∧ ∀ (i : Nat) (v : am_V), L[i]? = some (some v) → ∃ c, am_cv b ad v = some c ∧ (i, c) ∈ lv
theorem am_l.pre {b : Nat} {ad ad' : List Nat} {nL : Nat} {L : List (Option am_V)} {ls : Array Slot} (h : am_l b ad nL L ls) (hp : ad <+: ad') : am_l b ad' nL L ls := by
  obtain ⟨h0, lv, h1, h2⟩ := h
  exact ⟨h0, lv, h1, fun i v hi => by obtain ⟨c, e1, e2⟩ := h2 i v hi; exact ⟨c, am_cv_pre hp e1, e2⟩⟩
theorem am_l.at {b : Nat} {ad : List Nat} {nL : Nat} {L : List (Option am_V)} {ls : Array Slot} (h : am_l b ad nL L ls) {i : Nat} {v : am_V} (hi : L[i]? = some (some v)) : ∃ c, am_cv b ad v = some c ∧ ls[i]? = some (.val c) := by
  obtain ⟨-, lv, h1, h2⟩ := h
  obtain ⟨c, e1, e2⟩ := h2 i v hi
  exact ⟨c, e1, h1.2.2 _ e2⟩
theorem am_l.size {b : Nat} {ad : List Nat} {nL : Nat} {L : List (Option am_V)} {ls : Array Slot} (h : am_l b ad nL L ls) : ls.size = nL := by
  obtain ⟨-, lv, h1, h2⟩ := h
  exact h1.1
/-- a list of locals that is held, for a store -/
theorem am_l.lv {b : Nat} {ad : List Nat} {nL : Nat} {L : List (Option am_V)} {ls : Array Slot} (h : am_l b ad nL L ls) : ∃ lv, lv_has ls nL lv ∧ ∀ (i : Nat) (v : am_V) (c : Value), i < nL → am_cv b ad v = some c → ∀ ls', lv_has ls' nL ((i, c) :: lv.filter (fun q => !(q.1 == i) && !(q.1 + 1 == i && q.2.category == 2))) → am_l b ad nL (L.set i (some v)) ls' := by
  obtain ⟨h0, lv, h1, h2⟩ := h
  refine ⟨lv, h1, fun i v c hi hv ls' h' => ⟨by rw [List.length_set]; exact h0, _, h', fun j w hj => ?_⟩⟩
  by_cases hij : i = j
  · subst hij
    rw [List.getElem?_set_self (by omega)] at hj
    cases hj
    exact ⟨c, hv, List.mem_cons_self⟩
  · rw [List.getElem?_set_ne hij] at hj
    obtain ⟨c', e1, e2⟩ := h2 j w hj
    refine ⟨c', e1, List.mem_cons_of_mem _ (List.mem_filter.mpr ⟨e2, ?_⟩)⟩
    have hc := am_cv_cat e1
    simp [hc, Ne.symm hij]
abbrev am_tys (dA : Bool → ClassId) : List (ClassId × FieldType) := [(dA false, .int), (dA true, .boolean)]
/-- a method: its name, its code, how many locals, what it answers -/
abbrev am_Y : Type := MethodName × ByteArray × Nat × Option FieldType
def am_G : List Cond := lw_tbl.filter goodWord
def am_isN : Cond → Bool
  | .fieldLinkNest .. => true
  | .methodLinkNest .. => true
  | _ => false
def am_N : List Cond := lw_tbl.filter am_isN
def am_ws (y : am_Y) : List Cond := .code y.1 y.2.1 y.2.2.1 y.2.2.2 :: am_G
abbrev am_R (d mc ms : Nat) : Room := { frames := d, cells := mc, slots := ms, locals := 37 * d + 3 }
theorem am_goodIn {y : am_Y} {y' : am_Y} (h : Cond.code y'.1 y'.2.1 y'.2.2.1 y'.2.2.2 ∈ am_G) : GoodIn am_G (am_ws y') := by
  intro w hw
  have hw : w ∈ am_G := by
    rcases List.mem_cons.mp hw with rfl | h1
    · exact h
    · exact h1
  exact ⟨hw, good_of_word (List.mem_filter.mp hw).2⟩
theorem am_N_warm {s U : State} (hW : s.WarmedH U.vm) (h : ∀ w ∈ am_N, va_Nw w s) : ∀ w ∈ am_N, va_Nw w U := by
  intro w hw
  have h1 := (List.mem_filter.mp hw).2
  have h2 := h w hw
  cases w <;> first | (simp [am_isN] at h1; done) | exact va_Nw.warmF hW h2 | exact va_Nw.warmM hW h2
theorem am_N_same {s U : State} (hW : s.vm = U.vm) (h : ∀ w ∈ am_N, va_Nw w s) : ∀ w ∈ am_N, va_Nw w U := by
  intro w hw
  have h1 := (List.mem_filter.mp hw).2
  have h2 := h w hw
  cases w <;> first | (simp [am_isN] at h1; done) | exact va_Nw.same rfl hW h2
/-- what stays fixed while a method runs -/
def am_Cx (D : va_G) (dA : Bool → ClassId) (y : am_Y) (X : Option (Nat × (Nat → Int32))) (p : Program) (s : State) (m : MethodId) (args : Array Value) (meth : Method) (c : Code) (A : Nat → Prop) (b : Nat) : Prop :=
  (p.tables.exec = Jvm.exec ∧ c.code = y.2.1 ∧ c.maxLocals = y.2.2.1 ∧ s.vm.findClass y.1.cls = some m.cls) ∧ (meth.sig.returnType = y.2.2.2 ∧ meth.name = y.1.name ∧ meth.locks = false) ∧ (∀ w ∈ am_G, w.before args s = true) ∧ (∀ w ∈ am_N, va_Nw w s) ∧ va_K D vwCl (am_tys dA) s ∧ (∀ q, s.heap.size ≤ q → A q) ∧
  (∀ x, X = some x → va_X b x.1 x.2 s s.heap ∧ b < s.heap.size ∧ ¬ A b)
/-- the world as it is now -/
def am_St (D : va_G) (dA : Bool → ClassId) (b n0 : Nat) (A : Nat → Prop) (s : State) (ad0 : List Nat) (cells : Nat) (h : am_H) (ad : List Nat) (ws : va_W) (H : Heap) (locs : List Loc) : Prop :=
  am_w dA b ad h ws ∧ va_P D vwCl ws H ∧ va_D A ws ∧ va_S A s.heap H locs ∧ ad0 <+: ad ∧ ad.length = n0 + cells
/-- an answer, an instruction that gives it, the stack there -/
def am_rs (b : Nat) (ad : List Nat) (i : Instr) (r : Option am_V) (st : List Value) : Prop := match r with
  | none => i = .return_ ∧ st = []
  | some (.inl x) => i = .ireturn ∧ st = [.int x]
  | some (.inr q) => i = .areturn ∧ ∃ c, am_cv b ad (.inr q) = some c ∧ st = [c]
/-- where the method ends as it should, all is well -/
def am_Rt (l : Launch) (D : va_G) (dA : Bool → ClassId) (y : am_Y) (d mc ms rc rs n0 : Nat) (Qa : Option am_V → am_H → Prop) (p : Program) (e : Env) (s : State) (m : MethodId) (args : Array Value) (below : List Frame) (meth : Method) (c : Code) (A : Nat → Prop) (b : Nat) (ad0 : List Nat) (Q : State → Prop) : Prop :=
  ∀ (pc : Nat) (i : Instr) (r : Option am_V) (h : am_H) (ad : List Nat) (ws : va_W) (H : Heap) (locs : List Loc) (ls : Array Slot) (st : List Value), decode y.2.1 pc = .ok (i, 1) → am_rs b ad i r st → Qa r h → am_St D dA b n0 A s ad0 rc h ad ws H locs → W p l e (am_R d mc ms) s m args below meth c H locs rc rs Q (F0 m pc ls st)
/-- from this place of the method, with these locals, stack and heap, it comes to an end with an answer and a heap as Qa says -/
def am_At (l : Launch) (D : va_G) (dA : Bool → ClassId) (y : am_Y) (d mc ms rc rs n0 : Nat) (X : Option (Nat × (Nat → Int32))) (Qa : Option am_V → am_H → Prop) (cells slots pc : Nat) (L : List (Option am_V)) (S : List am_V) (h : am_H) : Prop :=
  ∀ (p : Program) (e : Env) (s : State) (m : MethodId) (args : Array Value) (below : List Frame) (meth : Method) (c : Code) (A : Nat → Prop) (b : Nat) (ad0 : List Nat) (Q : State → Prop),
    am_Cx D dA y X p s m args meth c A b → am_Rt l D dA y d mc ms rc rs n0 Qa p e s m args below meth c A b ad0 Q →
    ∀ (ad : List Nat) (ws : va_W) (H : Heap) (locs : List Loc) (ls : Array Slot) (st : List Value), am_St D dA b n0 A s ad0 cells h ad ws H locs → am_l b ad y.2.2.1 L ls → S.map (am_cv b ad) = st.map some → W p l e (am_R d mc ms) s m args below meth c H locs cells slots Q (F0 m pc ls st)

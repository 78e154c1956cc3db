/-! ===== the abstract machine's calls: a contract, how it is proved, how it is used ===== -/
/-- a method's contract: from any machine state that holds this abstract heap it ends, with an answer and a heap as Qa says -/
def am_Qc (D : va_G) (dA : Bool → ClassId) (b mc n0 : Nat) (ad : List Nat) (ws : va_W) (sz : Nat) (Qa : Option am_V → am_H → Prop) : Array Value → State → Outcome → State → Prop := fun _ st oc t =>
  (∃ (r : Option am_V) (h' : am_H) (rv : Option Value) (ad' : List Nat) (ws' : va_W), oc = .returned rv ∧ Qa r h' ∧ r.map (am_cv b ad') = rv.map some ∧ am_w dA b ad' h' ws' ∧ ad <+: ad' ∧ ad'.length = n0 + mc ∧ va_P D vwCl ws' t.heap ∧ va_D (va_A ws sz) ws') ∧ va_F (va_A ws sz) st t
def am_B (D : va_G) (dA : Bool → ClassId) (ws : va_W) (sz : Nat) (U : State) : Prop := U.heap.size = sz ∧ va_P D vwCl ws U.heap ∧ va_K D vwCl (am_tys dA) U ∧ (∀ w ∈ am_N, va_Nw w U) ∧ va_D (fun _ => True) ws
def am_Ct (l : Launch) (D : va_G) (dA : Bool → ClassId) (y : am_Y) (d mc ms n0 : Nat) (av : List am_V) (h : am_H) (Qa : Option am_V → am_H → Prop) : Prop :=
  ∀ (b : Nat) (ad : List Nat) (ws : va_W) (vs : List Value) (sz : Nat), am_w dA b ad h ws → ad.length = n0 → av.map (am_cv b ad) = vs.map some → Met l y.1 (am_ws y) (am_R d mc ms) (va_Pc vs (am_B D dA ws sz)) (am_Qc D dA b mc n0 ad ws sz Qa) mc ms (va_A ws sz)
def am_rok (ret : Option FieldType) (r : Option am_V) : Prop := match r with
  | none => ret = none
  | some (.inl x) => ∃ ty, ret = some ty ∧ narrow ty (.int x) = .int x
  | some (.inr _) => ∃ C, ret = some (.object C)
theorem am_sl : ∀ (vs : List Value), (∀ v ∈ vs, v.category = 1) → (lg_sl vs).length = vs.length
  | [], _ => rfl
  | v :: vs, h => by
    have h1 : v.category = 1 := h v List.mem_cons_self
    have h2 := am_sl vs (fun w hw => h w (List.mem_cons_of_mem _ hw))
    unfold lg_sl at h2 ⊢
    rw [List.flatMap_cons, List.length_append, h2, h1]
    simp
    omega
theorem am_args : ∀ (vs : List Value) (k i : Nat) (c : Value), (∀ v ∈ vs, v.category = 1) → vs[i]? = some c → (k + i, c) ∈ lv_args k vs
  | [], _, _, _, _, h => by simp at h
  | v :: vs, k, 0, c, hc, h => by
    have h : some v = some c := by simpa using h
    cases h
    exact List.mem_cons_self
  | v :: vs, k, i + 1, c, hc, h => by
    have h : vs[i]? = some c := by simpa using h
    have h1 : v.category = 1 := hc v List.mem_cons_self
    have h2 := am_args vs (k + 1) i c (fun w hw => hc w (List.mem_cons_of_mem _ hw)) h
    have h3 : lv_args k (v :: vs) = (k, v) :: lv_args (if v.category = 2 then k + 2 else k + 1) vs := rfl
    rw [h3, h1, if_neg (by decide), show k + (i + 1) = k + 1 + i by omega]
    exact List.mem_cons_of_mem _ h2
theorem am_cats {b : Nat} {ad : List Nat} {av : List am_V} {vs : List Value} (h : av.map (am_cv b ad) = vs.map some) : ∀ v ∈ vs, v.category = 1 := by
  intro v hv
  have h1 : some v ∈ vs.map some := List.mem_map.mpr ⟨v, hv, rfl⟩
  rw [← h] at h1
  obtain ⟨w, -, h2⟩ := List.mem_map.mp h1
  exact am_cv_cat h2
/-- the locals at a method's start -/
abbrev am_ent (n : Nat) (av : List am_V) : List (Option am_V) := av.map some ++ List.replicate (n - av.length) none
set_option maxHeartbeats 4000000 in
theorem am_Ct.of {l : Launch} {D : va_G} {dA : Bool → ClassId} {y : am_Y} {d mc ms n0 : Nat} {av : List am_V} {h : am_H} {Qa : Option am_V → am_H → Prop} (hy : plainName y.1.cls = true) (hr : ∀ r h', Qa r h' → am_rok y.2.2.2 r) (hn : av.length ≤ y.2.2.1)
    (body : am_At l D dA y d mc ms mc ms n0 none Qa 0 0 0 (am_ent y.2.2.1 av) [] h) : am_Ct l D dA y d mc ms n0 av h Qa := by
  intro b ad ws vs sz hw hlen hv
  refine Met.ofW (cc := y.2.1) (maxL := y.2.2.1) (ret := y.2.2.2) hy rfl ?_
  intro p e s m args below meth c s₁ B hml hPc
  obtain ⟨rfl, hsz, hP, hK, hN, hD0⟩ := hPc
  have hts := atoms_spec (ws := am_ws y) B.pre
  have hown : s.vm.findClass y.1.cls = some m.cls := findClass_of_methodNamed B.named
  have hin : meth.name = y.1.name := (name_of_methodNamed B.named B.method).1
  subst hsz
  have hD := hD0.self (sz := s.heap.size)
  have hS : va_S (va_A ws s.heap.size) s.heap s.heap [] := va_S.rf
  have hcat := am_cats hv
  have hvl : vs.length = av.length := am_len hv
  have hl := lv_entry vs (n := y.2.2.1) (by rw [am_sl vs hcat, hvl]; exact hn)
  rw [lg_entry_eq]
  have hCx : am_Cx D dA y none p s m vs.toArray meth c (va_A ws s.heap.size) b := ⟨⟨B.exec, B.bytes, hml, hown⟩, ⟨B.returns, hin, B.notSynchronized⟩, fun w hw => hts w (List.mem_cons_of_mem _ hw), hN, hK, fun q h => Or.inr h, fun x hx => by cases hx⟩
  refine body p e s m _ below meth c (va_A ws s.heap.size) b ad _ hCx ?_ ad ws s.heap [] _ [] ⟨hw, hP, hD, hS, List.prefix_rfl, hlen⟩ ⟨?_, _, hl, ?_⟩ rfl
  · intro pc i r h' ad' ws' H' locs' ls' st' hdg hrs hq hst
    obtain ⟨hw', hP', hD', hS', hpre', hlen'⟩ := hst
    have hro := hr r h' hq
    have hq2 : ∀ (rv : Option Value), r.map (am_cv b ad') = rv.map some → ∀ t : State, t.heap = H' → s.WarmedH t.vm → am_Qc D dA b mc n0 ad ws s.heap.size Qa vs.toArray s (.returned rv) t := fun rv hrv t ht hW => ⟨⟨r, h', rv, ad', ws', rfl, hq, hrv, hw', hpre', hlen', by rw [ht]; exact hP', hD'⟩, hS'.F ht⟩
    match r, hrs, hro, hq2 with
    | none, hrs, hro, hq2 =>
      obtain ⟨rfl, rfl⟩ := hrs
      exact W.vret B.exec B.bytes (B.returns.trans hro) (hq2 none rfl) hS'.2.2 hdg B.notSynchronized
    | some (.inl x), hrs, hro, hq2 =>
      obtain ⟨rfl, rfl⟩ := hrs
      obtain ⟨ty, h1, h2⟩ := hro
      exact W.zret B.exec B.bytes (B.returns.trans h1) h2 (hq2 (some (.int x)) rfl) hS'.2.2 hdg B.notSynchronized
    | some (.inr q), hrs, hro, hq2 =>
      obtain ⟨rfl, cv, h1, rfl⟩ := hrs
      obtain ⟨C, h2⟩ := hro
      exact W.aret B.exec B.bytes (B.returns.trans h2) (Or.inl ⟨C, rfl⟩) (am_cv_ref h1) (hq2 (some cv) (by simp only [Option.map_some, h1])) hS'.2.2 hdg B.notSynchronized
  · rw [List.length_append, List.length_map, List.length_replicate]
    omega
  · intro i v hi
    have hi1 : i < av.length := by
      rcases Nat.lt_or_ge i av.length with g | g
      · exact g
      · rw [List.getElem?_append_right (by rw [List.length_map]; exact g), List.getElem?_replicate] at hi
        split at hi <;> cases hi
    rw [List.getElem?_append_left (by rw [List.length_map]; exact hi1), List.getElem?_map] at hi
    cases hav : av[i]? with
    | none => rw [hav] at hi; cases hi
    | some w =>
      rw [hav] at hi
      cases hi
      obtain ⟨cv, h1, h2⟩ := am_at_map hv hav
      refine ⟨cv, h2, ?_⟩
      have h3 := am_args vs 0 i cv hcat h1
      rwa [Nat.zero_add] at h3
/-- a weaker end -/
theorem am_Ct.mono {l : Launch} {D : va_G} {dA : Bool → ClassId} {y : am_Y} {d mc ms n0 : Nat} {av : List am_V} {h : am_H} {Qa Qb : Option am_V → am_H → Prop} (hc : am_Ct l D dA y d mc ms n0 av h Qa) (hq : ∀ r h', Qa r h' → Qb r h') : am_Ct l D dA y d mc ms n0 av h Qb := by
  intro b ad ws vs sz hw hlen hv
  have h1 := hc b ad ws vs sz hw hlen hv
  intro p e ha hcas hk s m args below hf happ hP hK
  obtain ⟨t, o, h2, h3, h4, ⟨⟨r, h', rv, ad', ws', g1, g2, g3⟩, g4⟩, h6⟩ := h1 p e ha hcas hk s m args below hf happ hP hK
  exact ⟨t, o, h2, h3, h4, ⟨⟨r, h', rv, ad', ws', g1, hq _ _ g2, g3⟩, g4⟩, h6⟩
/-- what the tables say of a method that is called -/
def am_my (y : am_Y) (n : Nat) : Prop := Cond.code y.1 y.2.1 y.2.2.1 y.2.2.2 ∈ am_G ∧ Cond.initialized y.1.cls ∈ am_G ∧ (y.1.cls ≠ "java/lang/invoke/MethodHandle" ∧ y.1.cls ≠ "java/lang/invoke/VarHandle" ∧ (parseMethodDescriptor y.1.desc).map (fun d => d.parameters.length) = some n) ∧ y.2.2.1 ≤ 18
def am_mv (y : am_Y) (n ci : Nat) : Prop := am_my y n ∧ Cond.instanceMethod y.1 ∈ am_G ∧ Cond.selects y.1.cls y.1 y.1 ∈ am_G ∧ ∃ T N, vwCl[ci]? = some (y.1.cls, T, N)
def am_mi (y : am_Y) (n : Nat) : Prop := am_my y n ∧ Cond.instanceMethod y.1 ∈ am_G ∧ y.1.name = "<init>" ∧ y.2.2.2 = none
def am_ms (y : am_Y) (n : Nat) : Prop := am_my y n ∧ Cond.static y.1 ∈ am_G
section AMC
variable {l : Launch} {D : va_G} {dA : Bool → ClassId} {y : am_Y} {d mc ms rc rs n0 : Nat} {X : Option (Nat × (Nat → Int32))} {Qa : Option am_V → am_H → Prop} {cells slots pc q : Nat} {L : List (Option am_V)} {S : List am_V} {h : am_H}
theorem am_blind {D : va_G} {dA : Bool → ClassId} {ws : va_W} {sz : Nat} {vs : List Value} : FrameBlind (va_Pc vs (am_B D dA ws sz)) := fun a U g mk hq => by
  obtain ⟨q0, q1, qP, qK, qN, qD⟩ := hq
  exact ⟨q0, q1, qP, va_K.moved (u := U) (U := U.calling g mk a) (Vm.Alike.refl U.vm) qK, am_N_same (s := U) (U := U.calling g mk a) rfl qN, qD⟩
set_option maxHeartbeats 4000000 in
theorem am_aft {p : Program} {e : Env} {s : State} {m : MethodId} {args : Array Value} {below : List Frame} {meth : Method} {c : Code} {A : Nat → Prop} {b : Nat} {ad0 ad : List Nat} {Q : State → Prop} {ws : va_W} {H : Heap} {locs : List Loc} {ls : Array Slot} {st0 rest : List Value} {mc' ms' : Nat} {Qb : Option am_V → am_H → Prop} {a : Array Value}
    (hC : am_Cx D dA y X p s m args meth c A b) (hR : am_Rt l D dA y d mc ms rc rs n0 Qa p e s m args below meth c A b ad0 Q) (hS : am_St D dA b n0 A s ad0 cells h ad ws H locs) (hl : am_l b ad y.2.2.1 L ls) (hst : S.map (am_cv b ad) = rest.map some)
    (hr : va_Run p l e (am_R d mc ms) s m args below meth c H locs cells slots mc' ms' (F0 m pc ls st0) rest (am_Qc D dA b mc' (n0 + cells) ad ws H.size Qb a) (va_A ws H.size))
    (kk : ∀ r h', Qb r h' → am_At l D dA y d mc ms rc rs n0 X Qa (cells + mc') (slots + ms') (pc + 3) L (r.toList ++ S) h') : W p l e (am_R d mc ms) s m args below meth c H locs cells slots Q (F0 m pc ls st0) := by
  intro T hT Xs
  obtain ⟨v, st₀, t, T', Lc, h0, X', hL, e1, e2, ⟨⟨r, h', rv, ad', ws', hv, hq, hrv, hw', hpre, hln, hP', hD'⟩, hz, hk⟩, stp⟩ := hr T hT Xs
  cases hv
  rw [h0] at hz hk
  obtain ⟨hw1, hP, hD, hS1, hpre0, hlen⟩ := hS
  have hA : ∀ q, va_A ws H.size q → A q := by
    intro q hq
    rcases hq with ⟨k, e, hq⟩ | hq
    · exact hD.2 k _ hq
    · exact hC.2.2.2.2.2.1 q (Nat.le_trans hS1.1 hq)
  have hS2 : va_S A s.heap T'.heap (locs ++ Lc) := ⟨Nat.le_trans hS1.1 (by rw [e1]; exact hz), fun q h1 h2 => by rw [e1, hk q (Nat.lt_of_lt_of_le h1 hS1.1) (fun z => h2 (hA q z))]; exact hS1.2.1 q h1 h2, fun q hq => by
      rcases List.mem_append.mp hq with h | h
      · exact hS1.2.2 q h
      · exact hA _ (hL q h)⟩
  have hst2 : (r.toList ++ S).map (am_cv b ad') = (v.toList ++ rest).map some := by
    rw [List.map_append, List.map_append, am_map_pre hpre hst]
    congr 1
    cases r with
    | none => cases v with
      | none => rfl
      | some v => simp at hrv
    | some r => cases v with
      | none => simp at hrv
      | some v =>
        have hrv : some (am_cv b ad' r) = some (some v) := hrv
        simp only [Option.toList, List.map_cons, List.map_nil, Option.some.inj hrv]
  have := kk r h' hq p e s m args below meth c A b ad0 Q hC hR ad' ws' T'.heap (locs ++ Lc) ls (v.toList ++ rest) ⟨hw', by rw [e1]; exact hP', hD'.weaken (fun _ _ _ hq => hA _ hq), hS2, hpre0.trans hpre, by omega⟩ (hl.pre hpre) hst2
  obtain ⟨t2, a1, b1⟩ := this T' rfl X'
  exact ⟨t2, stp t2 a1, b1⟩
theorem am_room {d d' mL : Nat} (hd : d' + 1 ≤ d) (hm : mL ≤ 18) : 8 + (mL + 11) + (37 * d' + 3) ≤ 37 * d + 3 := by omega
set_option maxHeartbeats 4000000 in
theorem am_callV {y' : am_Y} {d' mc' ms' n r ci idx : Nat} {fs av rest : List am_V} {Qb : Option am_V → am_H → Prop} (hM : am_Ct l D dA y' d' mc' ms' (n0 + cells) (am_r r :: av) h Qb) (K : am_mv y' n ci) (hlk : Cond.methodLink y.1.cls idx y'.1 ∈ am_G) (hdg : decode y.2.1 pc = .ok (.invokevirtual idx, 3)) (hq : q = pc) (hn : av.length = n) (hst0 : S = av.reverse ++ am_r r :: rest) (hrest : rest.length ≤ 8) (hc : h r = some (.inr (ci, fs))) (hd : d' + 1 ≤ d) (hm1 : cells + mc' ≤ mc) (hm2 : slots + ms' ≤ ms)
    (kk : ∀ r h', Qb r h' → am_At l D dA y d mc ms rc rs n0 X Qa (cells + mc') (slots + ms') (pc + 3) L (r.toList ++ rest) h') : am_At l D dA y d mc ms rc rs n0 X Qa cells slots q L S h := by
  subst hq
  subst hst0
  intro p e s m args below meth c A b ad0 Q hC hR ad ws H locs ls st hS hl hst
  obtain ⟨st1, st2, rfl, hs1, hs2⟩ := am_map_app hst
  obtain ⟨c1, st3, rfl, er, hs3⟩ := am_cons hs2
  obtain ⟨a, ha, hca⟩ := am_cv_r er
  subst hca
  obtain ⟨hw1, hP, hD, hS1, hpre, hlen⟩ := id hS
  obtain ⟨cs, g1, g2⟩ := hw1.obj ha hc
  obtain ⟨⟨k1, k2, k3, k4⟩, k5, k6, T, N, k7⟩ := K
  have hav : (am_r r :: av).map (am_cv b ad) = (Value.ref a :: st1.reverse).map some := by
    rw [List.map_cons, List.map_cons, er, List.map_reverse, ← hs1, List.map_reverse, List.reverse_reverse]
  have hM' := hM b ad ws (Value.ref a :: st1.reverse) H.size hw1 hlen hav
  refine am_aft hC hR hS hl hs3 (va_runV (As := st1.reverse) (rest := st3) ⟨hC.1.1, hC.1.2.1, hC.1.2.2.1, hC.1.2.2.2, hC.2.2.1⟩ hM' ⟨callB_of n hC.2.2.1 (am_goodIn (y := y) k1) rfl rfl rfl (hC.2.2.1 _ k2) (hC.2.2.1 _ hlk) k3 ⟨hd, am_room hd k4⟩, hC.2.2.1 _ k5, hC.2.2.1 _ k6⟩ ⟨am_blind, va_recv hC.2.2.2.2.1 hP k7 g2, fun U hU hW => ⟨rfl, by rw [hU], by rw [hU]; exact hP, va_K.moved hW.alike hC.2.2.2.2.1, am_N_warm hW hC.2.2.2.1, hD.weaken (fun _ _ _ _ => trivial)⟩⟩ rfl ?_ hl.size ?_ (lv_room ?_) hdg ⟨hm1, hm2⟩) kk
  · have := am_len hs1
    rw [List.length_reverse, this, List.length_reverse]
    exact hn
  · rw [List.reverse_reverse]
  · rw [am_sum1 hs3]
    exact hrest
set_option maxHeartbeats 4000000 in
theorem am_callI {y' : am_Y} {d' mc' ms' n r idx : Nat} {av rest : List am_V} {Qb : Option am_V → am_H → Prop} (hM : am_Ct l D dA y' d' mc' ms' (n0 + cells) (am_r r :: av) h Qb) (K : am_mi y' n) (hlk : Cond.methodLink y.1.cls idx y'.1 ∈ am_G) (hdg : decode y.2.1 pc = .ok (.invokespecial idx, 3)) (hq : q = pc) (hn : av.length = n) (hst0 : S = av.reverse ++ am_r r :: rest) (hrest : rest.length ≤ 8) (hd : d' + 1 ≤ d) (hm1 : cells + mc' ≤ mc) (hm2 : slots + ms' ≤ ms)
    (kk : ∀ r h', Qb r h' → am_At l D dA y d mc ms rc rs n0 X Qa (cells + mc') (slots + ms') (pc + 3) L (r.toList ++ rest) h') : am_At l D dA y d mc ms rc rs n0 X Qa cells slots q L S h := by
  subst hq
  subst hst0
  intro p e s m args below meth c A b ad0 Q hC hR ad ws H locs ls st hS hl hst
  obtain ⟨st1, st2, rfl, hs1, hs2⟩ := am_map_app hst
  obtain ⟨c1, st3, rfl, er, hs3⟩ := am_cons hs2
  obtain ⟨a, ha, hca⟩ := am_cv_r er
  subst hca
  obtain ⟨hw1, hP, hD, hS1, hpre, hlen⟩ := id hS
  obtain ⟨⟨k1, k2, k3, k4⟩, k5, k6, k7⟩ := K
  rw [k7] at k1
  have hav : (am_r r :: av).map (am_cv b ad) = (Value.ref a :: st1.reverse).map some := by
    rw [List.map_cons, List.map_cons, er, List.map_reverse, ← hs1, List.map_reverse, List.reverse_reverse]
  have hM' := hM b ad ws (Value.ref a :: st1.reverse) H.size hw1 hlen hav
  refine am_aft hC hR hS hl hs3 (va_runI (As := st1.reverse) (rest := st3) ⟨hC.1.1, hC.1.2.1, hC.1.2.2.1, hC.1.2.2.2, hC.2.2.1⟩ hM' ⟨callB_of n hC.2.2.1 (am_goodIn (y := y) (by rw [k7]; exact k1)) (by rw [am_ws, k7]) rfl rfl (hC.2.2.1 _ k2) (hC.2.2.1 _ hlk) k3 ⟨hd, am_room hd k4⟩, k6, hC.2.2.1 _ k5⟩ ⟨am_blind, fun U hU hW => ⟨rfl, by rw [hU], by rw [hU]; exact hP, va_K.moved hW.alike hC.2.2.2.2.1, am_N_warm hW hC.2.2.2.1, hD.weaken (fun _ _ _ _ => trivial)⟩⟩ rfl ?_ hl.size ?_ (lv_room ?_) hdg ⟨hm1, hm2⟩) kk
  · have := am_len hs1
    rw [List.length_reverse, this, List.length_reverse]
    exact hn
  · rw [List.reverse_reverse]
  · rw [am_sum1 hs3]
    exact hrest
set_option maxHeartbeats 4000000 in
theorem am_callS {y' : am_Y} {d' mc' ms' n idx : Nat} {av rest : List am_V} {Qb : Option am_V → am_H → Prop} (hM : am_Ct l D dA y' d' mc' ms' (n0 + cells) av h Qb) (K : am_ms y' n) (hlk : Cond.methodLink y.1.cls idx y'.1 ∈ am_G) (hdg : decode y.2.1 pc = .ok (.invokestatic idx, 3)) (hq : q = pc) (hn : av.length = n) (hst0 : S = av.reverse ++ rest) (hrest : rest.length ≤ 8) (hd : d' + 1 ≤ d) (hm1 : cells + mc' ≤ mc) (hm2 : slots + ms' ≤ ms)
    (kk : ∀ r h', Qb r h' → am_At l D dA y d mc ms rc rs n0 X Qa (cells + mc') (slots + ms') (pc + 3) L (r.toList ++ rest) h') : am_At l D dA y d mc ms rc rs n0 X Qa cells slots q L S h := by
  subst hq
  subst hst0
  intro p e s m args below meth c A b ad0 Q hC hR ad ws H locs ls st hS hl hst
  obtain ⟨st1, st3, rfl, hs1, hs3⟩ := am_map_app hst
  obtain ⟨hw1, hP, hD, hS1, hpre, hlen⟩ := id hS
  obtain ⟨⟨k1, k2, k3, k4⟩, k5⟩ := K
  have hav : av.map (am_cv b ad) = (st1.reverse).map some := by
    rw [List.map_reverse, ← hs1, List.map_reverse, List.reverse_reverse]
  have hM' := hM b ad ws st1.reverse H.size hw1 hlen hav
  refine am_aft hC hR hS hl hs3 (va_runS (As := st1.reverse) (rest := st3) ⟨hC.1.1, hC.1.2.1, hC.1.2.2.1, hC.1.2.2.2, hC.2.2.1⟩ hM' ⟨callB_of n hC.2.2.1 (am_goodIn (y := y) k1) rfl rfl rfl (hC.2.2.1 _ k2) (hC.2.2.1 _ hlk) k3 ⟨hd, am_room hd k4⟩, hC.2.2.1 _ k5⟩ ⟨am_blind, fun U hU hW => ⟨rfl, by rw [hU], by rw [hU]; exact hP, va_K.moved hW.alike hC.2.2.2.2.1, am_N_warm hW hC.2.2.2.1, hD.weaken (fun _ _ _ _ => trivial)⟩⟩ rfl ?_ hl.size ?_ (lv_room ?_) hdg ⟨hm1, hm2⟩) kk
  · have := am_len hs1
    rw [List.length_reverse, this, List.length_reverse]
    exact hn
  · rw [List.reverse_reverse]
  · rw [am_sum1 hs3]
    exact hrest
set_option maxHeartbeats 4000000 in
theorem am_callSN {y' : am_Y} {host : String} {d' mc' ms' n idx : Nat} {av rest : List am_V} {Qb : Option am_V → am_H → Prop} (hM : am_Ct l D dA y' d' mc' ms' (n0 + cells) av h Qb) (K : am_ms y' n) (hlk : Cond.methodLinkNest y.1.cls idx y'.1 host ∈ am_N) (hdg : decode y.2.1 pc = .ok (.invokestatic idx, 3)) (hq : q = pc) (hn : av.length = n) (hst0 : S = av.reverse ++ rest) (hrest : rest.length ≤ 8) (hd : d' + 1 ≤ d) (hm1 : cells + mc' ≤ mc) (hm2 : slots + ms' ≤ ms)
    (kk : ∀ r h', Qb r h' → am_At l D dA y d mc ms rc rs n0 X Qa (cells + mc') (slots + ms') (pc + 3) L (r.toList ++ rest) h') : am_At l D dA y d mc ms rc rs n0 X Qa cells slots q L S h := by
  subst hq
  subst hst0
  intro p e s m args below meth c A b ad0 Q hC hR ad ws H locs ls st hS hl hst
  obtain ⟨st1, st3, rfl, hs1, hs3⟩ := am_map_app hst
  obtain ⟨hw1, hP, hD, hS1, hpre, hlen⟩ := id hS
  obtain ⟨⟨k1, k2, k3, k4⟩, k5⟩ := K
  have hav : av.map (am_cv b ad) = (st1.reverse).map some := by
    rw [List.map_reverse, ← hs1, List.map_reverse, List.reverse_reverse]
  have hM' := hM b ad ws st1.reverse H.size hw1 hlen hav
  refine am_aft hC hR hS hl hs3 (va_runSN (As := st1.reverse) (rest := st3) ⟨hC.1.1, hC.1.2.1, hC.1.2.2.1, hC.1.2.2.2, hC.2.2.1⟩ hM' ⟨va_cnB n hC.2.2.1 (am_goodIn (y := y) k1) rfl rfl rfl (hC.2.2.2.1 _ hlk) (hC.2.2.1 _ k2) k3 ⟨hd, am_room hd k4⟩, hC.2.2.1 _ k5, trivial⟩ ⟨am_blind, fun U hU hW => ⟨rfl, by rw [hU], by rw [hU]; exact hP, va_K.moved hW.alike hC.2.2.2.2.1, am_N_warm hW hC.2.2.2.1, hD.weaken (fun _ _ _ _ => trivial)⟩⟩ rfl ?_ hl.size ?_ (lv_room ?_) hdg ⟨hm1, hm2⟩) kk
  · have := am_len hs1
    rw [List.length_reverse, this, List.length_reverse]
    exact hn
  · rw [List.reverse_reverse]
  · rw [am_sum1 hs3]
    exact hrest
/-- Object's own constructor -/
theorem am_obj {r idx : Nat} {rest : List am_V} (hlk : Cond.methodLink y.1.cls idx objectInit ∈ am_G) (h1 : Cond.instanceMethod objectInit ∈ am_G) (h2 : Cond.code objectInit ⟨#[0xb1]⟩ 1 none ∈ am_G) (hdg : decode y.2.1 pc = .ok (.invokespecial idx, 3)) (hq : q = pc) (hrest : rest.length ≤ 8) (hd : 1 ≤ d)
    (kk : am_At l D dA y d mc ms rc rs n0 X Qa cells slots (pc + 3) L rest h) : am_At l D dA y d mc ms rc rs n0 X Qa cells slots q L (am_r r :: rest) h := by
  subst hq
  intro p e s m args below meth c A b ad0 Q hC hR ad ws H locs ls st hS hl hst
  obtain ⟨c1, st3, rfl, er, hs3⟩ := am_cons hst
  obtain ⟨a, ha, hca⟩ := am_cv_r er
  subst hca
  refine W.objInit hC.1.1 hC.1.2.1 hC.1.2.2.2 (hC.2.2.1 _ hlk) (hC.2.2.1 _ h1) (hC.2.2.1 _ h2) rfl (hl.size.trans hC.1.2.2.1.symm) rfl hdg hd ?_ ?_
  · show 2 * 0 + _ + 12 ≤ 37 * d + 3
    rw [am_sum1 hs3]
    omega
  · exact kk p e s m args below meth c A b ad0 Q hC hR ad ws H locs ls st3 hS hl hs3
theorem am_min {idx : Nat} {x z : Int32} {rest : List am_V} (hlk : Cond.methodLink y.1.cls idx Lib.Math.min.name ∈ am_G) (h1 : Cond.static Lib.Math.min.name ∈ am_G) (h2 : Cond.initialized "java/lang/Math" ∈ am_G) (h3 : Cond.code Lib.Math.min.name Lib.Math.min.code 2 (some .int) ∈ am_G) (hdg : decode y.2.1 pc = .ok (.invokestatic idx, 3)) (hq : q = pc) (hrest : rest.length ≤ 8) (hd : 1 ≤ d) (hm1 : cells ≤ mc) (hm2 : slots ≤ ms)
    (kk : am_At l D dA y d mc ms rc rs n0 X Qa cells slots (pc + 3) L (.inl (if z < x then z else x) :: rest) h) : am_At l D dA y d mc ms rc rs n0 X Qa cells slots q L (.inl z :: .inl x :: rest) h := by
  subst hq
  intro p e s m args below meth c A b ad0 Q hC hR ad ws H locs ls st hS hl hst
  obtain ⟨c1, st, rfl, e1, hst⟩ := am_cons hst
  obtain ⟨c2, st, rfl, e2, hst⟩ := am_cons hst
  rw [am_cv_i e1, am_cv_i e2]
  refine va_mmin hC.1.1 hC.1.2.1 (hC.1.2.2.1.trans hl.size.symm) hC.1.2.2.2 (hC.2.2.1 _ hlk) (hC.2.2.1 _ h1) (hC.2.2.1 _ h2) (hC.2.2.1 _ h3) hd ?_ hm1 hm2 hdg (kk p e s m args below meth c A b ad0 Q hC hR ad ws H locs ls _ hS hl (by simp only [List.map_cons, hst]; rfl))
  show _ + 13 ≤ 37 * d + 3
  rw [am_sum1 hst]
  omega
set_option maxHeartbeats 4000000 in
theorem am_copy {idx r0 r1 m0 m1 sp dp n : Nat} {f g : Nat → Int32} {rest : List am_V} (hlk : Cond.methodLink y.1.cls idx arraycopyName ∈ am_G) (h1 : Cond.native arraycopyName ∈ am_G) (h2 : Cond.static arraycopyName ∈ am_G) (h3 : Cond.initialized "java/lang/System" ∈ am_G) (hdg : decode y.2.1 pc = .ok (.invokestatic idx, 3)) (hq : q = pc) (hrest : rest.length ≤ 8) (hd : 1 ≤ d) (hc0 : h r0 = some (.inl (false, m0, f))) (hc1 : h r1 = some (.inl (false, m1, g))) (hb0 : sp + n ≤ m0) (hb1 : dp + n ≤ m1) (hb2 : m0 < 2 ^ 31) (hb3 : m1 < 2 ^ 31)
    (kk : am_At l D dA y d mc ms rc rs n0 X Qa cells slots (pc + 3) L rest (am_set h r1 (.inl (false, m1, va_cpy f g sp dp n)))) : am_At l D dA y d mc ms rc rs n0 X Qa cells slots q L (.inl (nI n) :: .inl (nI dp) :: am_r r1 :: .inl (nI sp) :: am_r r0 :: rest) h := by
  subst hq
  intro p e s m args below meth c A b ad0 Q hC hR ad ws H locs ls st hS hl hst
  obtain ⟨c1, st, rfl, e1, hst1⟩ := am_cons hst
  obtain ⟨c2, st, rfl, e2, hst2⟩ := am_cons hst1
  obtain ⟨c3, st, rfl, e3, hst3⟩ := am_cons hst2
  obtain ⟨c4, st, rfl, e4, hst4⟩ := am_cons hst3
  obtain ⟨c5, st, rfl, e5, hst5⟩ := am_cons hst4
  obtain ⟨a1, ha1, hca1⟩ := am_cv_r e3
  obtain ⟨a0, ha0, hca0⟩ := am_cv_r e5
  rw [am_cv_i e1, am_cv_i e2, am_cv_i e4, hca1, hca0]
  obtain ⟨hw1, hP, hD, hS1, hpre, hlen⟩ := id hS
  have g0 := hw1.arr ha0 hc0
  have g1 := hw1.arr ha1 hc1
  have k1 : (nI sp).toNatClampNeg = sp := nI_clamp (by omega)
  have k2 : (nI dp).toNatClampNeg = dp := nI_clamp (by omega)
  have k3 : (nI n).toNatClampNeg = n := nI_clamp (by omega)
  refine va_copyi hC.1.1 hC.1.2.1 (hC.1.2.2.1.trans hl.size.symm) hC.1.2.2.2 (hC.2.2.1 _ hlk) (hC.2.2.1 _ h1) (hC.2.2.1 _ h2) (hC.2.2.1 _ h3) hC.2.2.2.2.1 hP hD hS1 r0 r1 0 0 g0 g1 rfl rfl rfl (nI_pos (by omega)) (nI_pos (by omega)) (nI_pos (by omega)) (by rw [k1, k3]; exact hb0) (by rw [k2, k3]; exact hb1) (fun _ _ => rfl) hd ?_ hdg (fun H1 locs1 hP1 hD1 hS2 => kk p e s m args below meth c A b ad0 Q hC hR ad _ H1 locs1 ls _ ⟨hw1.set g1 ?_, hP1, hD1, hS2, hpre, hlen⟩ hl hst5)
  · show _ + (nativeFrameWords "java/lang/System" "arraycopy" 5 + 11) ≤ 37 * d + 3
    rw [am_sum1 hst5]
    have : nativeFrameWords "java/lang/System" "arraycopy" 5 ≤ 20 := by decide
    omega
  · rw [k1, k2, k3]
    rfl
end AMC

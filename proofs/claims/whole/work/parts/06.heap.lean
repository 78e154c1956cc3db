/-! ===== the abstract machine's rows: the heap ===== -/
theorem am_in {w : Cond} (k : Nat) (h : lw_tbl[k]? = some w) (hg : goodWord w = true) : w ∈ am_G := List.mem_filter.mpr ⟨List.mem_of_getElem? h, hg⟩
theorem am_inN {w : Cond} (k : Nat) (h : lw_tbl[k]? = some w) (hg : am_isN w = true) : w ∈ am_N := List.mem_filter.mpr ⟨List.mem_of_getElem? h, hg⟩
/-- a class of the tables -/
def am_cl (ci : Nat) (C : String) (T : u_T) (N : Nat) : Prop := vwCl[ci]? = some (C, T, N) ∧ (∀ w ∈ u_ws C T N, w ∈ am_G) ∧ (∃ ty0 : Nat → FieldType, ∀ k, k < N → parseFieldDescriptor (T k).2.2.1 = some (ty0 k)) ∧ (∀ a, a < N → ∀ b, b < N → a ≠ b → (T a).2.1 ≠ (T b).2.1)
/-- a place of a class' constants is a field -/
def am_fl (own : String) (idx ci k : Nat) (fin : Bool) (ty : FieldType) : Prop := ∃ (C : String) (T : u_T) (N : Nat), am_cl ci C T N ∧ k < N ∧ Cond.fieldLink own idx (T k).1 (T k).2.1 (T k).2.2.1 ∈ am_G ∧ (T k).2.2.2 = fin ∧ parseFieldDescriptor (T k).2.2.1 = some ty ∧ (T k).1 = own
def am_fn (own : String) (idx ci k : Nat) (host : String) : Prop := ∃ (C : String) (T : u_T) (N : Nat), am_cl ci C T N ∧ k < N ∧ Cond.fieldLinkNest own idx (T k).1 (T k).2.1 (T k).2.2.1 host ∈ am_N
def am_fit (ty : FieldType) (v : am_V) : Prop := ∀ (b : Nat) (ad : List Nat) (c : Value), am_cv b ad v = some c → narrow ty c = c ∧ fits ty c = true
theorem am_fit_i (x : Int32) : am_fit .int (.inl x) := fun b ad c h => by rw [am_cv_i h]; exact ⟨rfl, rfl⟩
theorem am_fit_0 : am_fit .boolean (.inl 0) := fun b ad c h => by rw [am_cv_i h]; exact ⟨rfl, rfl⟩
theorem am_fit_1 : am_fit .boolean (.inl 1) := fun b ad c h => by rw [am_cv_i h]; exact ⟨rfl, rfl⟩
theorem am_fit_o (C : String) (k : Nat) : am_fit (.object C) (am_r k) := fun b ad c h => by obtain ⟨a, -, rfl⟩ := am_cv_r h; exact ⟨rfl, rfl⟩
theorem am_fit_a (t : FieldType) (k : Nat) : am_fit (.array t) (am_r k) := fun b ad c h => by obtain ⟨a, -, rfl⟩ := am_cv_r h; exact ⟨rfl, rfl⟩
theorem am_map_app {f : am_V → Option Value} {S1 S2 : List am_V} {st : List Value} (h : (S1 ++ S2).map f = st.map some) : ∃ st1 st2, st = st1 ++ st2 ∧ S1.map f = st1.map some ∧ S2.map f = st2.map some := by
  refine ⟨st.take S1.length, st.drop S1.length, (List.take_append_drop _ _).symm, ?_, ?_⟩
  · rw [List.map_take, ← h, ← List.map_take, List.take_left]
  · rw [List.map_drop, ← h, ← List.map_drop, List.drop_left]
theorem am_sum1 {b : Nat} {ad : List Nat} : ∀ {S : List am_V} {st : List Value}, S.map (am_cv b ad) = st.map some → (st.map fun v => v.category).sum = S.length
  | [], [], _ => rfl
  | [], _ :: _, e => by simp at e
  | _ :: _, [], e => by simp at e
  | v :: S, c :: st, e => by
    simp only [List.map_cons, List.cons.injEq] at e
    simp only [List.map_cons, List.sum_cons, List.length_cons, am_cv_cat e.1, am_sum1 e.2]
    omega
section AMH
variable {l : Launch} {D : va_G} {dA : Bool → ClassId} {y : am_Y} {d mc ms rc rs n0 : Nat} {X : Option (Nat × (Nat → Int32))} {Qa : Option am_V → am_H → Prop} {cells slots pc q : Nat} {L : List (Option am_V)} {S : List am_V} {h : am_H}
theorem am_get {idx ci k r : Nat} {fin : Bool} {ty : FieldType} {fs : List am_V} {v : am_V} (F : am_fl y.1.cls idx ci k fin ty) (hdg : decode y.2.1 pc = .ok (.getfield idx, 3)) (hq : q = pc) (hc : h r = some (.inr (ci, fs))) (hv : fs[k]? = some v) (kk : am_At l D dA y d mc ms rc rs n0 X Qa cells slots (pc + 3) L (v :: S) h) : am_At l D dA y d mc ms rc rs n0 X Qa cells slots q L (am_r r :: S) h := by
  subst hq
  intro p e s m args below meth c A b ad0 Q hC hR ad ws H locs ls st hS hl hst
  obtain ⟨c1, st, rfl, er, hst2⟩ := am_cons hst
  obtain ⟨a, ha, hca⟩ := am_cv_r er
  subst hca
  obtain ⟨C, T, N, ⟨hcl, hin, -, -⟩, hk, hw, -⟩ := F
  obtain ⟨hw1, hP, hD, hS1, hpre, hlen⟩ := id hS
  obtain ⟨cs, g1, g2⟩ := hw1.obj ha hc
  obtain ⟨cv, g3, g4⟩ := am_at_map g1 hv
  exact va_get hC.1.1 hC.1.2.1 hC.2.2.1 hin hC.1.2.2.2 hC.2.2.2.2.1 hP r g2 hcl k hk (hC.2.2.1 _ hw) (fun _ h9 => h9) g3 hdg (kk p e s m args below meth c A b ad0 Q hC hR ad ws H locs ls _ hS hl (by simp only [List.map_cons, hst2, g4]))
theorem am_getN {idx ci k r : Nat} {host : String} {fs : List am_V} {v : am_V} (F : am_fn y.1.cls idx ci k host) (hdg : decode y.2.1 pc = .ok (.getfield idx, 3)) (hq : q = pc) (hc : h r = some (.inr (ci, fs))) (hv : fs[k]? = some v) (kk : am_At l D dA y d mc ms rc rs n0 X Qa cells slots (pc + 3) L (v :: S) h) : am_At l D dA y d mc ms rc rs n0 X Qa cells slots q L (am_r r :: S) h := by
  subst hq
  intro p e s m args below meth c A b ad0 Q hC hR ad ws H locs ls st hS hl hst
  obtain ⟨c1, st, rfl, er, hst2⟩ := am_cons hst
  obtain ⟨a, ha, hca⟩ := am_cv_r er
  subst hca
  obtain ⟨C, T, N, ⟨hcl, hin, -, -⟩, hk, hw⟩ := F
  obtain ⟨hw1, hP, hD, hS1, hpre, hlen⟩ := id hS
  obtain ⟨cs, g1, g2⟩ := hw1.obj ha hc
  obtain ⟨cv, g3, g4⟩ := am_at_map g1 hv
  exact va_getN hC.1.1 hC.1.2.1 hC.2.2.1 hin hC.1.2.2.2 hC.2.2.2.2.1 hP r g2 hcl k hk (va_Nw.use rfl (hC.2.2.2.1 _ hw)) (fun _ h9 => h9) g3 hdg (kk p e s m args below meth c A b ad0 Q hC hR ad ws H locs ls _ hS hl (by simp only [List.map_cons, hst2, g4]))
theorem am_put {idx ci k r : Nat} {ty : FieldType} {fs : List am_V} {v : am_V} (F : am_fl y.1.cls idx ci k false ty) (hdg : decode y.2.1 pc = .ok (.putfield idx, 3)) (hq : q = pc) (hc : h r = some (.inr (ci, fs))) (hf : am_fit ty v) (hk2 : Nat.blt k fs.length = true) (kk : am_At l D dA y d mc ms rc rs n0 X Qa cells slots (pc + 3) L S (am_set h r (.inr (ci, fs.set k v)))) : am_At l D dA y d mc ms rc rs n0 X Qa cells slots q L (v :: am_r r :: S) h := by
  subst hq
  intro p e s m args below meth c A b ad0 Q hC hR ad ws H locs ls st hS hl hst
  obtain ⟨cv, st, rfl, ev, hst1⟩ := am_cons hst
  obtain ⟨c1, st, rfl, er, hst2⟩ := am_cons hst1
  obtain ⟨a, ha, hca⟩ := am_cv_r er
  subst hca
  obtain ⟨C, T, N, ⟨hcl, hin, ⟨ty0, hty⟩, hnm⟩, hk, hw, hfin, hpd, -⟩ := F
  obtain ⟨hw1, hP, hD, hS1, hpre, hlen⟩ := id hS
  obtain ⟨cs, g1, g2⟩ := hw1.obj ha hc
  obtain ⟨hf1, hf2⟩ := hf b ad cv ev
  exact va_put hC.1.1 hC.1.2.1 hC.2.2.1 hin ty0 hty hnm hC.1.2.2.2 hC.2.2.2.2.1 hP hD hS1 r g2 hcl k hk (hC.2.2.1 _ hw) (fun _ h9 => h9) hfin hpd hf1 hf2 (by rw [am_len g1]; exact Nat.blt_eq.mp hk2) hdg (fun H1 locs1 hP1 hD1 hS2 => kk p e s m args below meth c A b ad0 Q hC hR ad _ H1 locs1 ls _ ⟨hw1.set g2 ⟨_, am_set_map g1 ev, rfl⟩, hP1, hD1, hS2, hpre, hlen⟩ hl hst2)
theorem am_putF {idx ci k r : Nat} {ty : FieldType} {fs : List am_V} {v : am_V} (F : am_fl y.1.cls idx ci k true ty) (hi : y.1.name = "<init>") (hdg : decode y.2.1 pc = .ok (.putfield idx, 3)) (hq : q = pc) (hc : h r = some (.inr (ci, fs))) (hf : am_fit ty v) (hk2 : Nat.blt k fs.length = true) (kk : am_At l D dA y d mc ms rc rs n0 X Qa cells slots (pc + 3) L S (am_set h r (.inr (ci, fs.set k v)))) : am_At l D dA y d mc ms rc rs n0 X Qa cells slots q L (v :: am_r r :: S) h := by
  subst hq
  intro p e s m args below meth c A b ad0 Q hC hR ad ws H locs ls st hS hl hst
  obtain ⟨cv, st, rfl, ev, hst1⟩ := am_cons hst
  obtain ⟨c1, st, rfl, er, hst2⟩ := am_cons hst1
  obtain ⟨a, ha, hca⟩ := am_cv_r er
  subst hca
  obtain ⟨C, T, N, ⟨hcl, hin, ⟨ty0, hty⟩, hnm⟩, hk, hw, hfin, hpd, hdcl⟩ := F
  obtain ⟨hw1, hP, hD, hS1, hpre, hlen⟩ := id hS
  obtain ⟨cs, g1, g2⟩ := hw1.obj ha hc
  obtain ⟨hf1, hf2⟩ := hf b ad cv ev
  exact va_putF hC.1.1 hC.1.2.1 hC.2.2.1 hin ty0 hty hnm hC.1.2.2.2 hC.2.2.2.2.1 hP hD hS1 r g2 hcl k hk (hC.2.2.1 _ hw) (fun _ h9 => h9) hfin (hC.2.1.2.1.trans hi) hdcl hpd hf1 hf2 (by rw [am_len g1]; exact Nat.blt_eq.mp hk2) hdg (fun H1 locs1 hP1 hD1 hS2 => kk p e s m args below meth c A b ad0 Q hC hR ad _ H1 locs1 ls _ ⟨hw1.set g2 ⟨_, am_set_map g1 ev, rfl⟩, hP1, hD1, hS2, hpre, hlen⟩ hl hst2)
theorem am_iald {k r n : Nat} {f : Nat → Int32} (hdg : decode y.2.1 pc = .ok (.iaload, 1)) (hq : q = pc) (hc : h r = some (.inl (false, n, f))) (hk : k < n) (hn : n < 2 ^ 31) (kk : am_At l D dA y d mc ms rc rs n0 X Qa cells slots (pc + 1) L (.inl (f k) :: S) h) : am_At l D dA y d mc ms rc rs n0 X Qa cells slots q L (.inl (nI k) :: am_r r :: S) h := by
  subst hq
  intro p e s m args below meth c A b ad0 Q hC hR ad ws H locs ls st hS hl hst
  obtain ⟨ci, st, rfl, ei, hst1⟩ := am_cons hst
  obtain ⟨c1, st, rfl, er, hst2⟩ := am_cons hst1
  obtain ⟨a, ha, hca⟩ := am_cv_r er
  subst hca
  obtain ⟨hw1, hP, hD, hS1, hpre, hlen⟩ := id hS
  have g2 := hw1.arr ha hc
  rw [am_cv_i ei]
  refine va_iald hC.1.1 hC.1.2.1 hC.2.2.2.2.1 hP r 0 g2 rfl (vp_in_nI hk hn) hdg (kk p e s m args below meth c A b ad0 Q hC hR ad ws H locs ls _ hS hl ?_)
  rw [nI_clamp (by omega)]
  simp only [List.map_cons, hst2]
  rfl
theorem am_zald {k r n : Nat} {f : Nat → Int32} (hdg : decode y.2.1 pc = .ok (.baload, 1)) (hq : q = pc) (hc : h r = some (.inl (true, n, f))) (hk : k < n) (hn : n < 2 ^ 31) (kk : am_At l D dA y d mc ms rc rs n0 X Qa cells slots (pc + 1) L (.inl (f k) :: S) h) : am_At l D dA y d mc ms rc rs n0 X Qa cells slots q L (.inl (nI k) :: am_r r :: S) h := by
  subst hq
  intro p e s m args below meth c A b ad0 Q hC hR ad ws H locs ls st hS hl hst
  obtain ⟨ci, st, rfl, ei, hst1⟩ := am_cons hst
  obtain ⟨c1, st, rfl, er, hst2⟩ := am_cons hst1
  obtain ⟨a, ha, hca⟩ := am_cv_r er
  subst hca
  obtain ⟨hw1, hP, hD, hS1, hpre, hlen⟩ := id hS
  have g2 := hw1.arr ha hc
  rw [am_cv_i ei]
  refine va_zald hC.1.1 hC.1.2.1 hC.2.2.2.2.1 hP r 1 g2 rfl (vp_in_nI hk hn) hdg (kk p e s m args below meth c A b ad0 Q hC hR ad ws H locs ls _ hS hl ?_)
  rw [nI_clamp (by omega)]
  simp only [List.map_cons, hst2]
  rfl
theorem am_iast {k r n : Nat} {x : Int32} {f : Nat → Int32} (hdg : decode y.2.1 pc = .ok (.iastore, 1)) (hq : q = pc) (hc : h r = some (.inl (false, n, f))) (hk : k < n) (hn : n < 2 ^ 31) (kk : am_At l D dA y d mc ms rc rs n0 X Qa cells slots (pc + 1) L S (am_set h r (.inl (false, n, upd f k x)))) : am_At l D dA y d mc ms rc rs n0 X Qa cells slots q L (.inl x :: .inl (nI k) :: am_r r :: S) h := by
  subst hq
  intro p e s m args below meth c A b ad0 Q hC hR ad ws H locs ls st hS hl hst
  obtain ⟨cx, st, rfl, ex, hst0⟩ := am_cons hst
  obtain ⟨ci, st, rfl, ei, hst1⟩ := am_cons hst0
  obtain ⟨c1, st, rfl, er, hst2⟩ := am_cons hst1
  obtain ⟨a, ha, hca⟩ := am_cv_r er
  subst hca
  obtain ⟨hw1, hP, hD, hS1, hpre, hlen⟩ := id hS
  have g2 := hw1.arr ha hc
  rw [am_cv_i ei, am_cv_i ex]
  refine va_iast hC.1.1 hC.1.2.1 hC.2.2.2.2.1 hP hD hS1 r 0 g2 rfl (vp_in_nI hk hn) hdg (fun H1 locs1 hP1 hD1 hS2 => kk p e s m args below meth c A b ad0 Q hC hR ad _ H1 locs1 ls _ ⟨hw1.set g2 ?_, hP1, hD1, hS2, hpre, hlen⟩ hl hst2)
  rw [nI_clamp (by omega)]
  rfl
theorem am_zast {k r n : Nat} {x : Int32} {f : Nat → Int32} (hdg : decode y.2.1 pc = .ok (.bastore, 1)) (hq : q = pc) (hc : h r = some (.inl (true, n, f))) (hk : k < n) (hn : n < 2 ^ 31) (kk : am_At l D dA y d mc ms rc rs n0 X Qa cells slots (pc + 1) L S (am_set h r (.inl (true, n, upd f k (vp_nar .boolean x))))) : am_At l D dA y d mc ms rc rs n0 X Qa cells slots q L (.inl x :: .inl (nI k) :: am_r r :: S) h := by
  subst hq
  intro p e s m args below meth c A b ad0 Q hC hR ad ws H locs ls st hS hl hst
  obtain ⟨cx, st, rfl, ex, hst0⟩ := am_cons hst
  obtain ⟨ci, st, rfl, ei, hst1⟩ := am_cons hst0
  obtain ⟨c1, st, rfl, er, hst2⟩ := am_cons hst1
  obtain ⟨a, ha, hca⟩ := am_cv_r er
  subst hca
  obtain ⟨hw1, hP, hD, hS1, hpre, hlen⟩ := id hS
  have g2 := hw1.arr ha hc
  rw [am_cv_i ei, am_cv_i ex]
  refine va_zast hC.1.1 hC.1.2.1 hC.2.2.2.2.1 hP hD hS1 r 1 g2 rfl (vp_in_nI hk hn) hdg (fun H1 locs1 hP1 hD1 hS2 => kk p e s m args below meth c A b ad0 Q hC hR ad _ H1 locs1 ls _ ⟨hw1.set g2 ?_, hP1, hD1, hS2, hpre, hlen⟩ hl hst2)
  rw [nI_clamp (by omega)]
  rfl
theorem am_alen {r n : Nat} {z : Bool} {f : Nat → Int32} (hdg : decode y.2.1 pc = .ok (.arraylength, 1)) (hq : q = pc) (hc : h r = some (.inl (z, n, f))) (kk : am_At l D dA y d mc ms rc rs n0 X Qa cells slots (pc + 1) L (.inl (nI n) :: S) h) : am_At l D dA y d mc ms rc rs n0 X Qa cells slots q L (am_r r :: S) h := by
  subst hq
  intro p e s m args below meth c A b ad0 Q hC hR ad ws H locs ls st hS hl hst
  obtain ⟨c1, st, rfl, er, hst2⟩ := am_cons hst
  obtain ⟨a, ha, hca⟩ := am_cv_r er
  subst hca
  obtain ⟨hw1, hP, hD, hS1, hpre, hlen⟩ := id hS
  have g2 := hw1.arr ha hc
  have hk := kk p e s m args below meth c A b ad0 Q hC hR ad ws H locs ls (.int (nI n) :: st) hS hl (by simp only [List.map_cons, hst2]; rfl)
  cases z with
  | false => exact va_alen (v := nI n) hC.1.1 hC.1.2.1 hC.2.2.2.2.1 hP r 0 g2 rfl rfl hdg hk
  | true => exact va_alen (v := nI n) hC.1.1 hC.1.2.1 hC.2.2.2.2.1 hP r 1 g2 rfl rfl hdg hk
theorem am_sld {k n : Nat} {f : Nat → Int32} (hdg : decode y.2.1 pc = .ok (.iaload, 1)) (hq : q = pc) (hX : X = some (n, f)) (hk : k < n) (hn : n < 2 ^ 31) (kk : am_At l D dA y d mc ms rc rs n0 X Qa cells slots (pc + 1) L (.inl (f k) :: S) h) : am_At l D dA y d mc ms rc rs n0 X Qa cells slots q L (.inl (nI k) :: .inr (some none) :: S) h := by
  subst hq
  intro p e s m args below meth c A b ad0 Q hC hR ad ws H locs ls st hS hl hst
  obtain ⟨ci, st, rfl, ei, hst1⟩ := am_cons hst
  obtain ⟨c1, st, rfl, er, hst2⟩ := am_cons hst1
  obtain ⟨hw1, hP, hD, hS1, hpre, hlen⟩ := id hS
  have er : some (Value.ref b) = some c1 := er
  cases er
  rw [am_cv_i ei]
  obtain ⟨x1, x2, x3⟩ := hC.2.2.2.2.2.2 _ hX
  refine va_sld hC.1.1 hC.1.2.1 x1 x2 x3 hS1 (vp_in_nI hk hn) hdg (kk p e s m args below meth c A b ad0 Q hC hR ad ws H locs ls _ hS hl ?_)
  rw [nI_clamp (by omega)]
  simp only [List.map_cons, hst2]
  rfl
theorem am_slen {n : Nat} {f : Nat → Int32} (hdg : decode y.2.1 pc = .ok (.arraylength, 1)) (hq : q = pc) (hX : X = some (n, f)) (kk : am_At l D dA y d mc ms rc rs n0 X Qa cells slots (pc + 1) L (.inl (nI n) :: S) h) : am_At l D dA y d mc ms rc rs n0 X Qa cells slots q L (.inr (some none) :: S) h := by
  subst hq
  intro p e s m args below meth c A b ad0 Q hC hR ad ws H locs ls st hS hl hst
  obtain ⟨c1, st, rfl, er, hst2⟩ := am_cons hst
  obtain ⟨hw1, hP, hD, hS1, hpre, hlen⟩ := id hS
  have er : some (Value.ref b) = some c1 := er
  cases er
  obtain ⟨x1, x2, x3⟩ := hC.2.2.2.2.2.2 _ hX
  exact va_slen hC.1.1 hC.1.2.1 x1 x2 x3 hS1 hdg (kk p e s m args below meth c A b ad0 Q hC hR ad ws H locs ls _ hS hl (by simp only [List.map_cons, hst2]; rfl))
theorem am_new {idx ci N : Nat} {C : String} {T : u_T} {fs : List am_V} {cs : List Value} (hcl : am_cl ci C T N) (hl1 : Cond.classLink y.1.cls idx C ∈ am_G) (hl2 : Cond.instantiable C N ∈ am_G) (hl3 : Cond.initialized C ∈ am_G) (ty : Nat → FieldType) (hty : ∀ k, k < N → parseFieldDescriptor (T k).2.2.1 = some (ty k)) (hfs : ∀ j, j < N → defaultValue (ty j) = vp_V cs j) (hcs : ∀ b ad, fs.map (am_cv b ad) = cs.map some) (hdg : decode y.2.1 pc = .ok (.new idx, 3)) (hq : q = pc) (hm1 : cells + 1 ≤ mc) (hm2 : slots + N ≤ ms) (kk : am_At l D dA y d mc ms rc rs n0 X Qa (cells + 1) (slots + N) (pc + 3) L (am_r (n0 + cells) :: S) (am_set h (n0 + cells) (.inr (ci, fs)))) : am_At l D dA y d mc ms rc rs n0 X Qa cells slots q L S h := by
  subst hq
  intro p e s m args below meth c A b ad0 Q hC hR ad ws H locs ls st hS hl hst
  obtain ⟨hw1, hP, hD, hS1, hpre, hlen⟩ := id hS
  obtain ⟨hcl1, hin, -, -⟩ := hcl
  refine va_new hC.1.1 hC.1.2.1 hC.2.2.1 hin ty hty hC.1.2.2.2 (hC.2.2.1 _ hl1) (hC.2.2.1 _ hl2) (hC.2.2.1 _ hl3) hC.2.2.2.2.1 hP hD hS1 hC.2.2.2.2.2.1 hcl1 hfs hm1 hm2 hdg (fun qa H1 hP1 hD1 hS2 => kk p e s m args below meth c A b ad0 Q hC hR (ad ++ [qa]) _ H1 locs ls _ ⟨hw1.push hlen ⟨cs, hcs _ _, rfl⟩, hP1, hD1, hS2, hpre.trans (List.prefix_append _ _), by rw [List.length_append, hlen]; rfl⟩ (hl.pre (List.prefix_append _ _)) ?_)
  have e1 : am_cv b (ad ++ [qa]) (am_r (n0 + cells)) = some (.ref qa) := by
    show ((ad ++ [qa])[n0 + cells]?).map Value.ref = _
    rw [← hlen, List.getElem?_append_right (Nat.le_refl _), Nat.sub_self]
    rfl
  simp only [List.map_cons, e1, am_map_pre (List.prefix_append ad [qa]) hst]
theorem am_newai {N : Nat} (hw : Cond.arrayClass .int ∈ am_G) (hN : N < 2 ^ 24) (hdg : decode y.2.1 pc = .ok (.newarray .int, 2)) (hq : q = pc) (hm1 : cells + 1 ≤ mc) (hm2 : slots + N ≤ ms) (kk : am_At l D dA y d mc ms rc rs n0 X Qa (cells + 1) (slots + N) (pc + 2) L (am_r (n0 + cells) :: S) (am_set h (n0 + cells) (.inl (false, N, fun _ => 0)))) : am_At l D dA y d mc ms rc rs n0 X Qa cells slots q L (.inl (nI N) :: S) h := by
  subst hq
  intro p e s m args below meth c A b ad0 Q hC hR ad ws H locs ls st hS hl hst
  obtain ⟨ci, st, rfl, ei, hst1⟩ := am_cons hst
  obtain ⟨hw1, hP, hD, hS1, hpre, hlen⟩ := id hS
  rw [am_cv_i ei]
  refine va_newa (atype := .int) (ty := .int) (a0 := (N, .inl fun _ => 0)) hC.1.1 hC.1.2.1 (hC.2.2.1 _ hw) rfl hC.2.2.2.2.1 hP hD hS1 hC.2.2.2.2.2.1 (fun cA => rfl) (nI_pos (by omega)) (nI_clamp (by omega)) (Nat.le_trans (Nat.mul_le_mul_left N (show componentBytes .int ≤ 8 by decide)) (by omega)) hm1 hm2 hdg (fun qa cA H1 hK1 hP1 hD1 hS2 => ?_)
  have hcA : cA = dA false := by
    have r1 : s.vm.findClass _ = some cA := (hK1.2 2 (cA, .int) rfl).2
    have r2 : s.vm.findClass _ = some (dA false) := (hC.2.2.2.2.1.2 0 (dA false, .int) rfl).2
    exact Option.some.inj (r1.symm.trans r2)
  subst hcA
  refine kk p e s m args below meth c A b ad0 Q hC hR (ad ++ [qa]) _ H1 locs ls _ ⟨hw1.push hlen rfl, hP1, hD1, hS2, hpre.trans (List.prefix_append _ _), by rw [List.length_append, hlen]; rfl⟩ (hl.pre (List.prefix_append _ _)) ?_
  have e1 : am_cv b (ad ++ [qa]) (am_r (n0 + cells)) = some (.ref qa) := by
    show ((ad ++ [qa])[n0 + cells]?).map Value.ref = _
    rw [← hlen, List.getElem?_append_right (Nat.le_refl _), Nat.sub_self]
    rfl
  simp only [List.map_cons, e1, am_map_pre (List.prefix_append ad [qa]) hst1]
theorem am_newaz {N : Nat} (hw : Cond.arrayClass .boolean ∈ am_G) (hN : N < 2 ^ 24) (hdg : decode y.2.1 pc = .ok (.newarray .boolean, 2)) (hq : q = pc) (hm1 : cells + 1 ≤ mc) (hm2 : slots + N ≤ ms) (kk : am_At l D dA y d mc ms rc rs n0 X Qa (cells + 1) (slots + N) (pc + 2) L (am_r (n0 + cells) :: S) (am_set h (n0 + cells) (.inl (true, N, fun _ => 0)))) : am_At l D dA y d mc ms rc rs n0 X Qa cells slots q L (.inl (nI N) :: S) h := by
  subst hq
  intro p e s m args below meth c A b ad0 Q hC hR ad ws H locs ls st hS hl hst
  obtain ⟨ci, st, rfl, ei, hst1⟩ := am_cons hst
  obtain ⟨hw1, hP, hD, hS1, hpre, hlen⟩ := id hS
  rw [am_cv_i ei]
  refine va_newa (atype := .boolean) (ty := .boolean) (a0 := (N, .inl fun _ => 0)) hC.1.1 hC.1.2.1 (hC.2.2.1 _ hw) rfl hC.2.2.2.2.1 hP hD hS1 hC.2.2.2.2.2.1 (fun cA => rfl) (nI_pos (by omega)) (nI_clamp (by omega)) (Nat.le_trans (Nat.mul_le_mul_left N (show componentBytes .boolean ≤ 8 by decide)) (by omega)) hm1 hm2 hdg (fun qa cA H1 hK1 hP1 hD1 hS2 => ?_)
  have hcA : cA = dA true := by
    have r1 : s.vm.findClass _ = some cA := (hK1.2 2 (cA, .boolean) rfl).2
    have r2 : s.vm.findClass _ = some (dA true) := (hC.2.2.2.2.1.2 1 (dA true, .boolean) rfl).2
    exact Option.some.inj (r1.symm.trans r2)
  subst hcA
  refine kk p e s m args below meth c A b ad0 Q hC hR (ad ++ [qa]) _ H1 locs ls _ ⟨hw1.push hlen rfl, hP1, hD1, hS2, hpre.trans (List.prefix_append _ _), by rw [List.length_append, hlen]; rfl⟩ (hl.pre (List.prefix_append _ _)) ?_
  have e1 : am_cv b (ad ++ [qa]) (am_r (n0 + cells)) = some (.ref qa) := by
    show ((ad ++ [qa])[n0 + cells]?).map Value.ref = _
    rw [← hlen, List.getElem?_append_right (Nat.le_refl _), Nat.sub_self]
    rfl
  simp only [List.map_cons, e1, am_map_pre (List.prefix_append ad [qa]) hst1]
end AMH

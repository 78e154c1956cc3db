/-! ===== the makings ===== -/
section CTOR
variable {l : Launch} {D : va_G} {dA : Bool → ClassId}
theorem am_nai {y : am_Y} {d mc ms rc rs n0 : Nat} {X : Option (Nat × (Nat → Int32))} {Qa : Option am_V → am_H → Prop} {cells slots pc q : Nat} {L : List (Option am_V)} {S : List am_V} {h : am_H} {k c' s' N : Nat} (hk : n0 + cells = k) (hc : cells + 1 = c') (hs : slots + N = s') (hN : N < 2 ^ 24) (hdg : decode y.2.1 pc = .ok (.newarray .int, 2)) (hq : q = pc) (hm1 : c' ≤ mc) (hm2 : s' ≤ ms) (kk : am_At l D dA y d mc ms rc rs n0 X Qa c' s' (pc + 2) L (am_r k :: S) (am_set h k (.inl (false, N, fun _ => 0)))) : am_At l D dA y d mc ms rc rs n0 X Qa cells slots q L (.inl (nI N) :: S) h := by
  subst hk; subst hc; subst hs
  exact am_newai wd_ai hN hdg hq hm1 hm2 kk
theorem am_naz {y : am_Y} {d mc ms rc rs n0 : Nat} {X : Option (Nat × (Nat → Int32))} {Qa : Option am_V → am_H → Prop} {cells slots pc q : Nat} {L : List (Option am_V)} {S : List am_V} {h : am_H} {k c' s' N : Nat} (hk : n0 + cells = k) (hc : cells + 1 = c') (hs : slots + N = s') (hN : N < 2 ^ 24) (hdg : decode y.2.1 pc = .ok (.newarray .boolean, 2)) (hq : q = pc) (hm1 : c' ≤ mc) (hm2 : s' ≤ ms) (kk : am_At l D dA y d mc ms rc rs n0 X Qa c' s' (pc + 2) L (am_r k :: S) (am_set h k (.inl (true, N, fun _ => 0)))) : am_At l D dA y d mc ms rc rs n0 X Qa cells slots q L (.inl (nI N) :: S) h := by
  subst hk; subst hc; subst hs
  exact am_newaz wd_az hN hdg hq hm1 hm2 kk
theorem am_iv {y : am_Y} {d mc ms rc rs n0 : Nat} {X : Option (Nat × (Nat → Int32))} {Qa : Option am_V → am_H → Prop} {cells slots pc q : Nat} {L : List (Option am_V)} {S : List am_V} {h : am_H} {y' : am_Y} {d' mc' ms' n r idx n1 c' s' : Nat} {av rest : List am_V} {P : am_H → Prop} (hM : am_Ct l D dA y' d' mc' ms' n1 (am_r r :: av) h (am_qv P)) (hk : n0 + cells = n1) (hc : cells + mc' = c') (hs : slots + ms' = s') (K : am_mi y' n) (hlk : Cond.methodLink y.1.cls idx y'.1 ∈ am_G) (hdg : decode y.2.1 pc = .ok (.invokespecial idx, 3)) (hq : q = pc) (hn : av.length = n) (hst0 : S = av.reverse ++ am_r r :: rest) (hrest : Nat.ble rest.length 8 = true) (hd : d' + 1 ≤ d) (hm1 : c' ≤ mc) (hm2 : s' ≤ ms) (kk : ∀ h', P h' → am_At l D dA y d mc ms rc rs n0 X Qa c' s' (pc + 3) L rest h') : am_At l D dA y d mc ms rc rs n0 X Qa cells slots q L S h := by
  subst hk; subst hc; subst hs
  exact am_callI hM K hlk hdg hq hn hst0 (Nat.le_of_ble_eq_true hrest) hd hm1 hm2 (fun r h' hq => by obtain ⟨rfl, hx⟩ := hq; exact kk h' hx)
theorem am_nX0 {y : am_Y} {d mc ms rc rs n0 : Nat} {X : Option (Nat × (Nat → Int32))} {Qa : Option am_V → am_H → Prop} {cells slots pc q : Nat} {L : List (Option am_V)} {S : List am_V} {h : am_H} {idx k c' s' : Nat} (hk : n0 + cells = k) (hc : cells + 1 = c') (hs : slots + 8 = s') (hl1 : Cond.classLink y.1.cls idx RX0 ∈ am_G) (hdg : decode y.2.1 pc = .ok (.new idx, 3)) (hq : q = pc) (hm1 : c' ≤ mc) (hm2 : s' ≤ ms) (kk : am_At l D dA y d mc ms rc rs n0 X Qa c' s' (pc + 3) L (am_r k :: S) (am_set h k (.inr (0, [.inr none, .inr none, .inr none, .inl 0, .inl 0, .inl 0, .inl 0, .inl 0])))) : am_At l D dA y d mc ms rc rs n0 X Qa cells slots q L S h := by
  subst hk; subst hc; subst hs
  exact am_new (fs := [.inr none, .inr none, .inr none, .inl 0, .inl 0, .inl 0, .inl 0, .inl 0]) (cs := [.null, .null, .null, .int 0, .int 0, .int 0, .int 0, .int 0]) cl0 hl1 wd_is_X0 wd_in_X0 tyX0 tyX0_ok (fun j hj => match j, hj with | 0, _ => rfl | 1, _ => rfl | 2, _ => rfl | 3, _ => rfl | 4, _ => rfl | 5, _ => rfl | 6, _ => rfl | 7, _ => rfl | j + 8, hj => absurd hj (by omega)) (fun b ad => rfl) hdg hq hm1 hm2 kk
theorem am_nX1 {y : am_Y} {d mc ms rc rs n0 : Nat} {X : Option (Nat × (Nat → Int32))} {Qa : Option am_V → am_H → Prop} {cells slots pc q : Nat} {L : List (Option am_V)} {S : List am_V} {h : am_H} {idx k c' s' : Nat} (hk : n0 + cells = k) (hc : cells + 1 = c') (hs : slots + 2 = s') (hl1 : Cond.classLink y.1.cls idx RX1 ∈ am_G) (hdg : decode y.2.1 pc = .ok (.new idx, 3)) (hq : q = pc) (hm1 : c' ≤ mc) (hm2 : s' ≤ ms) (kk : am_At l D dA y d mc ms rc rs n0 X Qa c' s' (pc + 3) L (am_r k :: S) (am_set h k (.inr (1, [.inr none, .inl 0])))) : am_At l D dA y d mc ms rc rs n0 X Qa cells slots q L S h := by
  subst hk; subst hc; subst hs
  exact am_new (fs := [.inr none, .inl 0]) (cs := [.null, .int 0]) cl1 hl1 wd_is_X1 wd_in_X1 tyX1 tyX1_ok (fun j hj => match j, hj with | 0, _ => rfl | 1, _ => rfl | j + 2, hj => absurd hj (by omega)) (fun b ad => rfl) hdg hq hm1 hm2 kk
theorem am_nX2 {y : am_Y} {d mc ms rc rs n0 : Nat} {X : Option (Nat × (Nat → Int32))} {Qa : Option am_V → am_H → Prop} {cells slots pc q : Nat} {L : List (Option am_V)} {S : List am_V} {h : am_H} {idx k c' s' : Nat} (hk : n0 + cells = k) (hc : cells + 1 = c') (hs : slots + 3 = s') (hl1 : Cond.classLink y.1.cls idx RX2 ∈ am_G) (hdg : decode y.2.1 pc = .ok (.new idx, 3)) (hq : q = pc) (hm1 : c' ≤ mc) (hm2 : s' ≤ ms) (kk : am_At l D dA y d mc ms rc rs n0 X Qa c' s' (pc + 3) L (am_r k :: S) (am_set h k (.inr (2, [.inr none, .inl 0, .inl 0])))) : am_At l D dA y d mc ms rc rs n0 X Qa cells slots q L S h := by
  subst hk; subst hc; subst hs
  exact am_new (fs := [.inr none, .inl 0, .inl 0]) (cs := [.null, .int 0, .int 0]) cl2 hl1 wd_is_X2 wd_in_X2 tyX2 tyX2_ok (fun j hj => match j, hj with | 0, _ => rfl | 1, _ => rfl | 2, _ => rfl | j + 3, hj => absurd hj (by omega)) (fun b ad => rfl) hdg hq hm1 hm2 kk
theorem am_nX3 {y : am_Y} {d mc ms rc rs n0 : Nat} {X : Option (Nat × (Nat → Int32))} {Qa : Option am_V → am_H → Prop} {cells slots pc q : Nat} {L : List (Option am_V)} {S : List am_V} {h : am_H} {idx k c' s' : Nat} (hk : n0 + cells = k) (hc : cells + 1 = c') (hs : slots + 2 = s') (hl1 : Cond.classLink y.1.cls idx RX3 ∈ am_G) (hdg : decode y.2.1 pc = .ok (.new idx, 3)) (hq : q = pc) (hm1 : c' ≤ mc) (hm2 : s' ≤ ms) (kk : am_At l D dA y d mc ms rc rs n0 X Qa c' s' (pc + 3) L (am_r k :: S) (am_set h k (.inr (3, [.inr none, .inl 0])))) : am_At l D dA y d mc ms rc rs n0 X Qa cells slots q L S h := by
  subst hk; subst hc; subst hs
  exact am_new (fs := [.inr none, .inl 0]) (cs := [.null, .int 0]) cl3 hl1 wd_is_X3 wd_in_X3 tyX3 tyX3_ok (fun j hj => match j, hj with | 0, _ => rfl | 1, _ => rfl | j + 2, hj => absurd hj (by omega)) (fun b ad => rfl) hdg hq hm1 hm2 kk
theorem am_nX4 {y : am_Y} {d mc ms rc rs n0 : Nat} {X : Option (Nat × (Nat → Int32))} {Qa : Option am_V → am_H → Prop} {cells slots pc q : Nat} {L : List (Option am_V)} {S : List am_V} {h : am_H} {idx k c' s' : Nat} (hk : n0 + cells = k) (hc : cells + 1 = c') (hs : slots + 6 = s') (hl1 : Cond.classLink y.1.cls idx RX4 ∈ am_G) (hdg : decode y.2.1 pc = .ok (.new idx, 3)) (hq : q = pc) (hm1 : c' ≤ mc) (hm2 : s' ≤ ms) (kk : am_At l D dA y d mc ms rc rs n0 X Qa c' s' (pc + 3) L (am_r k :: S) (am_set h k (.inr (4, [.inr none, .inr none, .inr none, .inl 0, .inl 0, .inl 0])))) : am_At l D dA y d mc ms rc rs n0 X Qa cells slots q L S h := by
  subst hk; subst hc; subst hs
  exact am_new (fs := [.inr none, .inr none, .inr none, .inl 0, .inl 0, .inl 0]) (cs := [.null, .null, .null, .int 0, .int 0, .int 0]) cl4 hl1 wd_is_X4 wd_in_X4 tyX4 tyX4_ok (fun j hj => match j, hj with | 0, _ => rfl | 1, _ => rfl | 2, _ => rfl | 3, _ => rfl | 4, _ => rfl | 5, _ => rfl | j + 6, hj => absurd hj (by omega)) (fun b ad => rfl) hdg hq hm1 hm2 kk
theorem am_nX5 {y : am_Y} {d mc ms rc rs n0 : Nat} {X : Option (Nat × (Nat → Int32))} {Qa : Option am_V → am_H → Prop} {cells slots pc q : Nat} {L : List (Option am_V)} {S : List am_V} {h : am_H} {idx k c' s' : Nat} (hk : n0 + cells = k) (hc : cells + 1 = c') (hs : slots + 8 = s') (hl1 : Cond.classLink y.1.cls idx RX5 ∈ am_G) (hdg : decode y.2.1 pc = .ok (.new idx, 3)) (hq : q = pc) (hm1 : c' ≤ mc) (hm2 : s' ≤ ms) (kk : am_At l D dA y d mc ms rc rs n0 X Qa c' s' (pc + 3) L (am_r k :: S) (am_set h k (.inr (5, [.inr none, .inr none, .inr none, .inr none, .inl 0, .inl 0, .inl 0, .inl 0])))) : am_At l D dA y d mc ms rc rs n0 X Qa cells slots q L S h := by
  subst hk; subst hc; subst hs
  exact am_new (fs := [.inr none, .inr none, .inr none, .inr none, .inl 0, .inl 0, .inl 0, .inl 0]) (cs := [.null, .null, .null, .null, .int 0, .int 0, .int 0, .int 0]) cl5 hl1 wd_is_X5 wd_in_X5 tyX5 tyX5_ok (fun j hj => match j, hj with | 0, _ => rfl | 1, _ => rfl | 2, _ => rfl | 3, _ => rfl | 4, _ => rfl | 5, _ => rfl | 6, _ => rfl | 7, _ => rfl | j + 8, hj => absurd hj (by omega)) (fun b ad => rfl) hdg hq hm1 hm2 kk
theorem am_nX6 {y : am_Y} {d mc ms rc rs n0 : Nat} {X : Option (Nat × (Nat → Int32))} {Qa : Option am_V → am_H → Prop} {cells slots pc q : Nat} {L : List (Option am_V)} {S : List am_V} {h : am_H} {idx k c' s' : Nat} (hk : n0 + cells = k) (hc : cells + 1 = c') (hs : slots + 14 = s') (hl1 : Cond.classLink y.1.cls idx RX6 ∈ am_G) (hdg : decode y.2.1 pc = .ok (.new idx, 3)) (hq : q = pc) (hm1 : c' ≤ mc) (hm2 : s' ≤ ms) (kk : am_At l D dA y d mc ms rc rs n0 X Qa c' s' (pc + 3) L (am_r k :: S) (am_set h k (.inr (6, [.inr none, .inr none, .inr none, .inr none, .inr none, .inr none, .inr none, .inr none, .inr none, .inr none, .inl 0, .inr none, .inr none, .inl 0])))) : am_At l D dA y d mc ms rc rs n0 X Qa cells slots q L S h := by
  subst hk; subst hc; subst hs
  exact am_new (fs := [.inr none, .inr none, .inr none, .inr none, .inr none, .inr none, .inr none, .inr none, .inr none, .inr none, .inl 0, .inr none, .inr none, .inl 0]) (cs := [.null, .null, .null, .null, .null, .null, .null, .null, .null, .null, .int 0, .null, .null, .int 0]) cl6 hl1 wd_is_X6 wd_in_X6 tyX6 tyX6_ok (fun j hj => match j, hj with | 0, _ => rfl | 1, _ => rfl | 2, _ => rfl | 3, _ => rfl | 4, _ => rfl | 5, _ => rfl | 6, _ => rfl | 7, _ => rfl | 8, _ => rfl | 9, _ => rfl | 10, _ => rfl | 11, _ => rfl | 12, _ => rfl | 13, _ => rfl | j + 14, hj => absurd hj (by omega)) (fun b ad => rfl) hdg hq hm1 hm2 kk
theorem am_nX7 {y : am_Y} {d mc ms rc rs n0 : Nat} {X : Option (Nat × (Nat → Int32))} {Qa : Option am_V → am_H → Prop} {cells slots pc q : Nat} {L : List (Option am_V)} {S : List am_V} {h : am_H} {idx k c' s' : Nat} (hk : n0 + cells = k) (hc : cells + 1 = c') (hs : slots + 8 = s') (hl1 : Cond.classLink y.1.cls idx RX7 ∈ am_G) (hdg : decode y.2.1 pc = .ok (.new idx, 3)) (hq : q = pc) (hm1 : c' ≤ mc) (hm2 : s' ≤ ms) (kk : am_At l D dA y d mc ms rc rs n0 X Qa c' s' (pc + 3) L (am_r k :: S) (am_set h k (.inr (7, [.inr none, .inr none, .inr none, .inr none, .inr none, .inr none, .inr none, .inl 0])))) : am_At l D dA y d mc ms rc rs n0 X Qa cells slots q L S h := by
  subst hk; subst hc; subst hs
  exact am_new (fs := [.inr none, .inr none, .inr none, .inr none, .inr none, .inr none, .inr none, .inl 0]) (cs := [.null, .null, .null, .null, .null, .null, .null, .int 0]) cl7 hl1 wd_is_X7 wd_in_X7 tyX7 tyX7_ok (fun j hj => match j, hj with | 0, _ => rfl | 1, _ => rfl | 2, _ => rfl | 3, _ => rfl | 4, _ => rfl | 5, _ => rfl | 6, _ => rfl | 7, _ => rfl | j + 8, hj => absurd hj (by omega)) (fun b ad => rfl) hdg hq hm1 hm2 kk
theorem am_nX8 {y : am_Y} {d mc ms rc rs n0 : Nat} {X : Option (Nat × (Nat → Int32))} {Qa : Option am_V → am_H → Prop} {cells slots pc q : Nat} {L : List (Option am_V)} {S : List am_V} {h : am_H} {idx k c' s' : Nat} (hk : n0 + cells = k) (hc : cells + 1 = c') (hs : slots + 7 = s') (hl1 : Cond.classLink y.1.cls idx RX8 ∈ am_G) (hdg : decode y.2.1 pc = .ok (.new idx, 3)) (hq : q = pc) (hm1 : c' ≤ mc) (hm2 : s' ≤ ms) (kk : am_At l D dA y d mc ms rc rs n0 X Qa c' s' (pc + 3) L (am_r k :: S) (am_set h k (.inr (8, [.inr none, .inr none, .inr none, .inr none, .inr none, .inr none, .inl 0])))) : am_At l D dA y d mc ms rc rs n0 X Qa cells slots q L S h := by
  subst hk; subst hc; subst hs
  exact am_new (fs := [.inr none, .inr none, .inr none, .inr none, .inr none, .inr none, .inl 0]) (cs := [.null, .null, .null, .null, .null, .null, .int 0]) cl8 hl1 wd_is_X8 wd_in_X8 tyX8 tyX8_ok (fun j hj => match j, hj with | 0, _ => rfl | 1, _ => rfl | 2, _ => rfl | 3, _ => rfl | 4, _ => rfl | 5, _ => rfl | 6, _ => rfl | j + 7, hj => absurd hj (by omega)) (fun b ad => rfl) hdg hq hm1 hm2 kk
theorem am_nX9 {y : am_Y} {d mc ms rc rs n0 : Nat} {X : Option (Nat × (Nat → Int32))} {Qa : Option am_V → am_H → Prop} {cells slots pc q : Nat} {L : List (Option am_V)} {S : List am_V} {h : am_H} {idx k c' s' : Nat} (hk : n0 + cells = k) (hc : cells + 1 = c') (hs : slots + 5 = s') (hl1 : Cond.classLink y.1.cls idx RX9 ∈ am_G) (hdg : decode y.2.1 pc = .ok (.new idx, 3)) (hq : q = pc) (hm1 : c' ≤ mc) (hm2 : s' ≤ ms) (kk : am_At l D dA y d mc ms rc rs n0 X Qa c' s' (pc + 3) L (am_r k :: S) (am_set h k (.inr (9, [.inr none, .inr none, .inr none, .inr none, .inr none])))) : am_At l D dA y d mc ms rc rs n0 X Qa cells slots q L S h := by
  subst hk; subst hc; subst hs
  exact am_new (fs := [.inr none, .inr none, .inr none, .inr none, .inr none]) (cs := [.null, .null, .null, .null, .null]) cl9 hl1 wd_is_X9 wd_in_X9 tyX9 tyX9_ok (fun j hj => match j, hj with | 0, _ => rfl | 1, _ => rfl | 2, _ => rfl | 3, _ => rfl | 4, _ => rfl | j + 5, hj => absurd hj (by omega)) (fun b ad => rfl) hdg hq hm1 hm2 kk
theorem am_nX10 {y : am_Y} {d mc ms rc rs n0 : Nat} {X : Option (Nat × (Nat → Int32))} {Qa : Option am_V → am_H → Prop} {cells slots pc q : Nat} {L : List (Option am_V)} {S : List am_V} {h : am_H} {idx k c' s' : Nat} (hk : n0 + cells = k) (hc : cells + 1 = c') (hs : slots + 23 = s') (hl1 : Cond.classLink y.1.cls idx RX10 ∈ am_G) (hdg : decode y.2.1 pc = .ok (.new idx, 3)) (hq : q = pc) (hm1 : c' ≤ mc) (hm2 : s' ≤ ms) (kk : am_At l D dA y d mc ms rc rs n0 X Qa c' s' (pc + 3) L (am_r k :: S) (am_set h k (.inr (10, [.inr none, .inl 0, .inr none, .inl 0, .inr none, .inr none, .inr none, .inl 0, .inl 0, .inl 0, .inl 0, .inl 0, .inl 0, .inl 0, .inr none, .inr none, .inr none, .inr none, .inr none, .inr none, .inr none, .inr none, .inl 0])))) : am_At l D dA y d mc ms rc rs n0 X Qa cells slots q L S h := by
  subst hk; subst hc; subst hs
  exact am_new (fs := [.inr none, .inl 0, .inr none, .inl 0, .inr none, .inr none, .inr none, .inl 0, .inl 0, .inl 0, .inl 0, .inl 0, .inl 0, .inl 0, .inr none, .inr none, .inr none, .inr none, .inr none, .inr none, .inr none, .inr none, .inl 0]) (cs := [.null, .int 0, .null, .int 0, .null, .null, .null, .int 0, .int 0, .int 0, .int 0, .int 0, .int 0, .int 0, .null, .null, .null, .null, .null, .null, .null, .null, .int 0]) cl10 hl1 wd_is_X10 wd_in_X10 tyX10 tyX10_ok (fun j hj => match j, hj with | 0, _ => rfl | 1, _ => rfl | 2, _ => rfl | 3, _ => rfl | 4, _ => rfl | 5, _ => rfl | 6, _ => rfl | 7, _ => rfl | 8, _ => rfl | 9, _ => rfl | 10, _ => rfl | 11, _ => rfl | 12, _ => rfl | 13, _ => rfl | 14, _ => rfl | 15, _ => rfl | 16, _ => rfl | 17, _ => rfl | 18, _ => rfl | 19, _ => rfl | 20, _ => rfl | 21, _ => rfl | 22, _ => rfl | j + 23, hj => absurd hj (by omega)) (fun b ad => rfl) hdg hq hm1 hm2 kk
set_option maxHeartbeats 4000000 in
set_option maxRecDepth 100000 in
theorem t_X1_init (d : Nat) (n0 : Nat) {r a : Nat} {h : am_H} (hr : h r = some (.inr (1, [.inr none, .inl 0]))) (hd : 1 ≤ d) : am_Ct l D dA m_X1_init d 0 0 n0 [am_r r, am_r a] h (am_qv fun h' => h' r = some (.inr (1, [am_r a, .inl (nI 0)])) ∧ ∀ j, j ≠ r → h' j = h j) := by
  refine am_Cv (by decide +kernel) rfl rfl ?_
  refine am_aload_n dX1_init_0 rfl rfl ?_
  refine am_obj l_X1_3 wd_oi wd_oc dX1_init_1 rfl (by decide) (by omega) ?_
  refine am_aload_n dX1_init_4 rfl rfl ?_
  refine am_aload_n dX1_init_5 rfl rfl ?_
  refine am_putF f_X1_9 rfl dX1_init_6 rfl hr (am_fit_o _ _) rfl ?_
  refine am_aload_n dX1_init_9 rfl rfl ?_
  refine am_iconst (v := nI 0) dX1_init_10 rfl (by decide +kernel) ?_
  refine am_put f_X1_15 dX1_init_11 rfl am_set_eq (am_fit_i _) rfl ?_
  exact am_rv dX1_init_14 rfl rfl rfl ⟨am_set_eq, fun j b => ((am_set_ne (by omega)).trans (am_set_ne (by omega)))⟩
set_option maxHeartbeats 4000000 in
set_option maxRecDepth 100000 in
theorem t_X2_init (d : Nat) (n0 : Nat) {r a : Nat} {h : am_H} (hr : h r = some (.inr (2, [.inr none, .inl 0, .inl 0]))) (hd : 1 ≤ d) : am_Ct l D dA m_X2_init d 0 0 n0 [am_r r, am_r a] h (am_qv fun h' => h' r = some (.inr (2, [am_r a, .inl (nI 0), .inl (nI 0)])) ∧ ∀ j, j ≠ r → h' j = h j) := by
  refine am_Cv (by decide +kernel) rfl rfl ?_
  refine am_aload_n dX2_init_0 rfl rfl ?_
  refine am_obj l_X2_3 wd_oi wd_oc dX2_init_1 rfl (by decide) (by omega) ?_
  refine am_aload_n dX2_init_4 rfl rfl ?_
  refine am_aload_n dX2_init_5 rfl rfl ?_
  refine am_putF f_X2_9 rfl dX2_init_6 rfl hr (am_fit_o _ _) rfl ?_
  refine am_aload_n dX2_init_9 rfl rfl ?_
  refine am_iconst (v := nI 0) dX2_init_10 rfl (by decide +kernel) ?_
  refine am_put f_X2_15 dX2_init_11 rfl am_set_eq (am_fit_i _) rfl ?_
  refine am_aload_n dX2_init_14 rfl rfl ?_
  refine am_iconst (v := nI 0) dX2_init_15 rfl (by decide +kernel) ?_
  refine am_put f_X2_19 dX2_init_16 rfl am_set_eq (am_fit_i _) rfl ?_
  exact am_rv dX2_init_19 rfl rfl rfl ⟨am_set_eq, fun j b => ((am_set_ne (by omega)).trans ((am_set_ne (by omega)).trans (am_set_ne (by omega))))⟩
set_option maxHeartbeats 4000000 in
set_option maxRecDepth 100000 in
theorem t_X3_init (d : Nat) {n0 r N : Nat} {h : am_H} (hr : h r = some (.inr (3, [.inr none, .inl 0]))) (hrn : r < n0) (hN : N < 2 ^ 24) (hd : 1 ≤ d) : am_Ct l D dA m_X3_init d 1 N n0 [am_r r, .inl (nI N)] h (am_qv fun h' => h' r = some (rwO n0 0) ∧ h' (n0) = some (.inl (false, N, fun _ => 0)) ∧ ∀ j, j < n0 → j ≠ r → h' j = h j) := by
  refine am_Cv (by decide +kernel) rfl rfl ?_
  refine am_aload_n dX3_init_0 rfl rfl ?_
  refine am_obj l_X3_3 wd_oi wd_oc dX3_init_1 rfl (by decide) (by omega) ?_
  refine am_aload_n dX3_init_4 rfl rfl ?_
  refine am_iload_n dX3_init_5 rfl rfl ?_
  refine am_nai (k := n0) (c' := 1) (s' := 0 + N) (by omega) (by omega) (by omega) (by omega) dX3_init_6 rfl (by omega) (by omega) ?_
  refine am_putF f_X3_9 rfl dX3_init_8 rfl ((am_set_ne (by omega)).trans hr) (am_fit_a _ _) rfl ?_
  refine am_aload_n dX3_init_11 rfl rfl ?_
  refine am_iconst (v := nI 0) dX3_init_12 rfl (by decide +kernel) ?_
  refine am_put f_X3_15 dX3_init_13 rfl am_set_eq (am_fit_i _) rfl ?_
  exact am_rv dX3_init_16 rfl rfl (by omega) ⟨am_set_eq, ((am_set_ne (by omega)).trans ((am_set_ne (by omega)).trans am_set_eq)), fun j a b => ((am_set_ne (by omega)).trans ((am_set_ne (by omega)).trans (am_set_ne (by omega))))⟩
set_option maxHeartbeats 4000000 in
set_option maxRecDepth 100000 in
theorem t_X4_init (d : Nat) {n0 r a N : Nat} {h : am_H} (hr : h r = some (.inr (4, [.inr none, .inr none, .inr none, .inl 0, .inl 0, .inl 0]))) (hrn : r < n0) (hN : N < 2 ^ 24) (hd : 1 ≤ d) : am_Ct l D dA m_X4_init d 2 (4096 + N) n0 [am_r r, am_r a, .inl (nI N)] h (am_qv fun h' => h' r = some (.inr (4, [am_r a, am_r n0, am_r (n0 + 1), .inl (nI 0), .inl (nI 0), .inl (nI 0)])) ∧ h' (n0) = some (.inl (false, 4096, fun _ => 0)) ∧ h' (n0 + 1) = some (.inl (false, N, fun _ => 0)) ∧ ∀ j, j < n0 → j ≠ r → h' j = h j) := by
  refine am_Cv (by decide +kernel) rfl rfl ?_
  refine am_aload_n dX4_init_0 rfl rfl ?_
  refine am_obj l_X4_3 wd_oi wd_oc dX4_init_1 rfl (by decide) (by omega) ?_
  refine am_aload_n dX4_init_4 rfl rfl ?_
  refine am_aload_n dX4_init_5 rfl rfl ?_
  refine am_putF f_X4_9 rfl dX4_init_6 rfl hr (am_fit_o _ _) rfl ?_
  refine am_aload_n dX4_init_9 rfl rfl ?_
  refine am_sipush (v := nI 4096) dX4_init_10 rfl (by decide +kernel) ?_
  refine am_nai (k := n0) (c' := 1) (s' := 4096) (by omega) (by omega) (by omega) (by omega) dX4_init_13 rfl (by omega) (by omega) ?_
  refine am_putF f_X4_15 rfl dX4_init_15 rfl ((am_set_ne (by omega)).trans am_set_eq) (am_fit_a _ _) rfl ?_
  refine am_aload_n dX4_init_18 rfl rfl ?_
  refine am_iload_n dX4_init_19 rfl rfl ?_
  refine am_nai (k := n0 + 1) (c' := 2) (s' := 4096 + N) (by omega) (by omega) (by omega) (by omega) dX4_init_20 rfl (by omega) (by omega) ?_
  refine am_putF f_X4_19 rfl dX4_init_22 rfl ((am_set_ne (by omega)).trans am_set_eq) (am_fit_a _ _) rfl ?_
  refine am_aload_n dX4_init_25 rfl rfl ?_
  refine am_iconst (v := nI 0) dX4_init_26 rfl (by decide +kernel) ?_
  refine am_put f_X4_22 dX4_init_27 rfl am_set_eq (am_fit_i _) rfl ?_
  refine am_aload_n dX4_init_30 rfl rfl ?_
  refine am_iconst (v := nI 0) dX4_init_31 rfl (by decide +kernel) ?_
  refine am_put f_X4_26 dX4_init_32 rfl am_set_eq (am_fit_i _) rfl ?_
  refine am_aload_n dX4_init_35 rfl rfl ?_
  refine am_iconst (v := nI 0) dX4_init_36 rfl (by decide +kernel) ?_
  refine am_put f_X4_29 dX4_init_37 rfl am_set_eq (am_fit_i _) rfl ?_
  exact am_rv dX4_init_40 rfl rfl (by omega) ⟨am_set_eq, ((am_set_ne (by omega)).trans ((am_set_ne (by omega)).trans ((am_set_ne (by omega)).trans ((am_set_ne (by omega)).trans ((am_set_ne (by omega)).trans ((am_set_ne (by omega)).trans am_set_eq)))))), ((am_set_ne (by omega)).trans ((am_set_ne (by omega)).trans ((am_set_ne (by omega)).trans ((am_set_ne (by omega)).trans am_set_eq)))), fun j a b => ((am_set_ne (by omega)).trans ((am_set_ne (by omega)).trans ((am_set_ne (by omega)).trans ((am_set_ne (by omega)).trans ((am_set_ne (by omega)).trans ((am_set_ne (by omega)).trans ((am_set_ne (by omega)).trans (am_set_ne (by omega)))))))))⟩
set_option maxHeartbeats 4000000 in
set_option maxRecDepth 100000 in
theorem t_X5_init (d : Nat) {n0 r N : Nat} {h : am_H} (hr : h r = some (.inr (5, [.inr none, .inr none, .inr none, .inr none, .inl 0, .inl 0, .inl 0, .inl 0]))) (hrn : r < n0) (hN : N < 10000) (hd : 1 ≤ d) : am_Ct l D dA m_X5_init d 4 (7 * N) n0 [am_r r, .inl (nI N)] h (am_qv fun h' => h' r = some (.inr (5, [am_r n0, am_r (n0 + 1), am_r (n0 + 2), am_r (n0 + 3), .inl (nI 0), .inl (nI 0), .inl (nI 0), .inl (nI 0)])) ∧ h' (n0) = some (.inl (false, N, fun _ => 0)) ∧ h' (n0 + 1) = some (.inl (false, 2 * N, fun _ => 0)) ∧ h' (n0 + 2) = some (.inl (false, 2 * N, fun _ => 0)) ∧ h' (n0 + 3) = some (.inl (false, 2 * N, fun _ => 0)) ∧ ∀ j, j < n0 → j ≠ r → h' j = h j) := by
  refine am_Cv (by decide +kernel) rfl rfl ?_
  refine am_aload_n dX5_init_0 rfl rfl ?_
  refine am_obj l_X5_1 wd_oi wd_oc dX5_init_1 rfl (by decide) (by omega) ?_
  refine am_aload_n dX5_init_4 rfl rfl ?_
  refine am_iload_n dX5_init_5 rfl rfl ?_
  refine am_nai (k := n0) (c' := 1) (s' := 0 + N) (by omega) (by omega) (by omega) (by omega) dX5_init_6 rfl (by omega) (by omega) ?_
  refine am_putF f_X5_7 rfl dX5_init_8 rfl ((am_set_ne (by omega)).trans hr) (am_fit_a _ _) rfl ?_
  refine am_aload_n dX5_init_11 rfl rfl ?_
  refine am_iconst (v := nI 2) dX5_init_12 rfl (by decide +kernel) ?_
  refine am_iload_n dX5_init_13 rfl rfl ?_
  refine am_imul dX5_init_14 rfl ?_
  rw [pk_mul]
  refine am_nai (k := n0 + 1) (c' := 2) (s' := 0 + N + 2 * N) (by omega) (by omega) (by omega) (by omega) dX5_init_15 rfl (by omega) (by omega) ?_
  refine am_putF f_X5_13 rfl dX5_init_17 rfl ((am_set_ne (by omega)).trans am_set_eq) (am_fit_a _ _) rfl ?_
  refine am_aload_n dX5_init_20 rfl rfl ?_
  refine am_iconst (v := nI 2) dX5_init_21 rfl (by decide +kernel) ?_
  refine am_iload_n dX5_init_22 rfl rfl ?_
  refine am_imul dX5_init_23 rfl ?_
  rw [pk_mul]
  refine am_nai (k := n0 + 2) (c' := 3) (s' := 0 + N + 2 * N + 2 * N) (by omega) (by omega) (by omega) (by omega) dX5_init_24 rfl (by omega) (by omega) ?_
  refine am_putF f_X5_16 rfl dX5_init_26 rfl ((am_set_ne (by omega)).trans am_set_eq) (am_fit_a _ _) rfl ?_
  refine am_aload_n dX5_init_29 rfl rfl ?_
  refine am_iconst (v := nI 2) dX5_init_30 rfl (by decide +kernel) ?_
  refine am_iload_n dX5_init_31 rfl rfl ?_
  refine am_imul dX5_init_32 rfl ?_
  rw [pk_mul]
  refine am_nai (k := n0 + 3) (c' := 4) (s' := 0 + N + 2 * N + 2 * N + 2 * N) (by omega) (by omega) (by omega) (by omega) dX5_init_33 rfl (by omega) (by omega) ?_
  refine am_putF f_X5_19 rfl dX5_init_35 rfl ((am_set_ne (by omega)).trans am_set_eq) (am_fit_a _ _) rfl ?_
  refine am_aload_n dX5_init_38 rfl rfl ?_
  refine am_iconst (v := nI 0) dX5_init_39 rfl (by decide +kernel) ?_
  refine am_put f_X5_22 dX5_init_40 rfl am_set_eq (am_fit_i _) rfl ?_
  refine am_aload_n dX5_init_43 rfl rfl ?_
  refine am_iconst (v := nI 0) dX5_init_44 rfl (by decide +kernel) ?_
  refine am_put f_X5_26 dX5_init_45 rfl am_set_eq (am_fit_i _) rfl ?_
  refine am_aload_n dX5_init_48 rfl rfl ?_
  refine am_iconst (v := nI 0) dX5_init_49 rfl (by decide +kernel) ?_
  refine am_put f_X5_29 dX5_init_50 rfl am_set_eq (am_fit_i _) rfl ?_
  refine am_aload_n dX5_init_53 rfl rfl ?_
  refine am_iconst (v := nI 0) dX5_init_54 rfl (by decide +kernel) ?_
  refine am_put f_X5_32 dX5_init_55 rfl am_set_eq (am_fit_i _) rfl ?_
  exact am_rv dX5_init_58 rfl rfl (by omega) ⟨am_set_eq, ((am_set_ne (by omega)).trans ((am_set_ne (by omega)).trans ((am_set_ne (by omega)).trans ((am_set_ne (by omega)).trans ((am_set_ne (by omega)).trans ((am_set_ne (by omega)).trans ((am_set_ne (by omega)).trans ((am_set_ne (by omega)).trans ((am_set_ne (by omega)).trans ((am_set_ne (by omega)).trans ((am_set_ne (by omega)).trans am_set_eq))))))))))), ((am_set_ne (by omega)).trans ((am_set_ne (by omega)).trans ((am_set_ne (by omega)).trans ((am_set_ne (by omega)).trans ((am_set_ne (by omega)).trans ((am_set_ne (by omega)).trans ((am_set_ne (by omega)).trans ((am_set_ne (by omega)).trans ((am_set_ne (by omega)).trans am_set_eq))))))))), ((am_set_ne (by omega)).trans ((am_set_ne (by omega)).trans ((am_set_ne (by omega)).trans ((am_set_ne (by omega)).trans ((am_set_ne (by omega)).trans ((am_set_ne (by omega)).trans ((am_set_ne (by omega)).trans am_set_eq))))))), ((am_set_ne (by omega)).trans ((am_set_ne (by omega)).trans ((am_set_ne (by omega)).trans ((am_set_ne (by omega)).trans ((am_set_ne (by omega)).trans am_set_eq))))), fun j a b => ((am_set_ne (by omega)).trans ((am_set_ne (by omega)).trans ((am_set_ne (by omega)).trans ((am_set_ne (by omega)).trans ((am_set_ne (by omega)).trans ((am_set_ne (by omega)).trans ((am_set_ne (by omega)).trans ((am_set_ne (by omega)).trans ((am_set_ne (by omega)).trans ((am_set_ne (by omega)).trans ((am_set_ne (by omega)).trans (am_set_ne (by omega)))))))))))))⟩
set_option maxHeartbeats 4000000 in
set_option maxRecDepth 100000 in
theorem t_X7_init (d : Nat) {r N : Nat} {h : am_H} (hr : h r = some (.inr (7, [.inr none, .inr none, .inr none, .inr none, .inr none, .inr none, .inr none, .inl 0]))) (hN : N < 10000) (hd : 1 ≤ d) : am_Ct l D dA m_X7_init d 7 (4 * N + 51) (r + 1) [am_r r, .inl (nI N)] h (am_qv fun h' => h' r = some (trO r (-1)) ∧ h' (r + 1) = some (.inl (false, N, fun _ => 0)) ∧ h' (r + 2) = some (.inl (false, N, fun _ => 0)) ∧ h' (r + 3) = some (.inl (false, N, fun _ => 0)) ∧ h' (r + 4) = some (.inl (false, N, fun _ => 0)) ∧ h' (r + 5) = some (.inl (false, 17, fun _ => 0)) ∧ h' (r + 6) = some (.inl (false, 17, fun _ => 0)) ∧ h' (r + 7) = some (.inl (false, 17, fun _ => 0)) ∧ ∀ j, j < r → h' j = h j) := by
  refine am_Cv (by decide +kernel) rfl rfl ?_
  refine am_aload_n dX7_init_0 rfl rfl ?_
  refine am_obj l_X7_3 wd_oi wd_oc dX7_init_1 rfl (by decide) (by omega) ?_
  refine am_aload_n dX7_init_4 rfl rfl ?_
  refine am_iload_n dX7_init_5 rfl rfl ?_
  refine am_nai (k := r + 1) (c' := 1) (s' := 0 + N) (by omega) (by omega) (by omega) (by omega) dX7_init_6 rfl (by omega) (by omega) ?_
  refine am_putF f_X7_9 rfl dX7_init_8 rfl ((am_set_ne (by omega)).trans hr) (am_fit_a _ _) rfl ?_
  refine am_aload_n dX7_init_11 rfl rfl ?_
  refine am_iload_n dX7_init_12 rfl rfl ?_
  refine am_nai (k := r + 2) (c' := 2) (s' := 0 + N + N) (by omega) (by omega) (by omega) (by omega) dX7_init_13 rfl (by omega) (by omega) ?_
  refine am_putF f_X7_15 rfl dX7_init_15 rfl ((am_set_ne (by omega)).trans am_set_eq) (am_fit_a _ _) rfl ?_
  refine am_aload_n dX7_init_18 rfl rfl ?_
  refine am_iload_n dX7_init_19 rfl rfl ?_
  refine am_nai (k := r + 3) (c' := 3) (s' := 0 + N + N + N) (by omega) (by omega) (by omega) (by omega) dX7_init_20 rfl (by omega) (by omega) ?_
  refine am_putF f_X7_18 rfl dX7_init_22 rfl ((am_set_ne (by omega)).trans am_set_eq) (am_fit_a _ _) rfl ?_
  refine am_aload_n dX7_init_25 rfl rfl ?_
  refine am_iload_n dX7_init_26 rfl rfl ?_
  refine am_nai (k := r + 4) (c' := 4) (s' := 0 + N + N + N + N) (by omega) (by omega) (by omega) (by omega) dX7_init_27 rfl (by omega) (by omega) ?_
  refine am_putF f_X7_21 rfl dX7_init_29 rfl ((am_set_ne (by omega)).trans am_set_eq) (am_fit_a _ _) rfl ?_
  refine am_aload_n dX7_init_32 rfl rfl ?_
  refine am_bipush (v := nI 17) dX7_init_33 rfl (by decide +kernel) ?_
  refine am_nai (k := r + 5) (c' := 5) (s' := 17 + N + N + N + N) (by omega) (by omega) (by omega) (by omega) dX7_init_35 rfl (by omega) (by omega) ?_
  refine am_putF f_X7_24 rfl dX7_init_37 rfl ((am_set_ne (by omega)).trans am_set_eq) (am_fit_a _ _) rfl ?_
  refine am_aload_n dX7_init_40 rfl rfl ?_
  refine am_bipush (v := nI 17) dX7_init_41 rfl (by decide +kernel) ?_
  refine am_nai (k := r + 6) (c' := 6) (s' := 34 + N + N + N + N) (by omega) (by omega) (by omega) (by omega) dX7_init_43 rfl (by omega) (by omega) ?_
  refine am_putF f_X7_27 rfl dX7_init_45 rfl ((am_set_ne (by omega)).trans am_set_eq) (am_fit_a _ _) rfl ?_
  refine am_aload_n dX7_init_48 rfl rfl ?_
  refine am_bipush (v := nI 17) dX7_init_49 rfl (by decide +kernel) ?_
  refine am_nai (k := r + 7) (c' := 7) (s' := 51 + N + N + N + N) (by omega) (by omega) (by omega) (by omega) dX7_init_51 rfl (by omega) (by omega) ?_
  refine am_putF f_X7_30 rfl dX7_init_53 rfl ((am_set_ne (by omega)).trans am_set_eq) (am_fit_a _ _) rfl ?_
  refine am_aload_n dX7_init_56 rfl rfl ?_
  refine am_iconst (v := -1) dX7_init_57 rfl (by decide +kernel) ?_
  refine am_put f_X7_33 dX7_init_58 rfl am_set_eq (am_fit_i _) rfl ?_
  exact am_rv dX7_init_61 rfl rfl (by omega) ⟨am_set_eq, ((am_set_ne (by omega)).trans ((am_set_ne (by omega)).trans ((am_set_ne (by omega)).trans ((am_set_ne (by omega)).trans ((am_set_ne (by omega)).trans ((am_set_ne (by omega)).trans ((am_set_ne (by omega)).trans ((am_set_ne (by omega)).trans ((am_set_ne (by omega)).trans ((am_set_ne (by omega)).trans ((am_set_ne (by omega)).trans ((am_set_ne (by omega)).trans ((am_set_ne (by omega)).trans ((am_set_ne (by omega)).trans am_set_eq)))))))))))))), ((am_set_ne (by omega)).trans ((am_set_ne (by omega)).trans ((am_set_ne (by omega)).trans ((am_set_ne (by omega)).trans ((am_set_ne (by omega)).trans ((am_set_ne (by omega)).trans ((am_set_ne (by omega)).trans ((am_set_ne (by omega)).trans ((am_set_ne (by omega)).trans ((am_set_ne (by omega)).trans ((am_set_ne (by omega)).trans ((am_set_ne (by omega)).trans am_set_eq)))))))))))), ((am_set_ne (by omega)).trans ((am_set_ne (by omega)).trans ((am_set_ne (by omega)).trans ((am_set_ne (by omega)).trans ((am_set_ne (by omega)).trans ((am_set_ne (by omega)).trans ((am_set_ne (by omega)).trans ((am_set_ne (by omega)).trans ((am_set_ne (by omega)).trans ((am_set_ne (by omega)).trans am_set_eq)))))))))), ((am_set_ne (by omega)).trans ((am_set_ne (by omega)).trans ((am_set_ne (by omega)).trans ((am_set_ne (by omega)).trans ((am_set_ne (by omega)).trans ((am_set_ne (by omega)).trans ((am_set_ne (by omega)).trans ((am_set_ne (by omega)).trans am_set_eq)))))))), ((am_set_ne (by omega)).trans ((am_set_ne (by omega)).trans ((am_set_ne (by omega)).trans ((am_set_ne (by omega)).trans ((am_set_ne (by omega)).trans ((am_set_ne (by omega)).trans am_set_eq)))))), ((am_set_ne (by omega)).trans ((am_set_ne (by omega)).trans ((am_set_ne (by omega)).trans ((am_set_ne (by omega)).trans am_set_eq)))), ((am_set_ne (by omega)).trans ((am_set_ne (by omega)).trans am_set_eq)), fun j a => ((am_set_ne (by omega)).trans ((am_set_ne (by omega)).trans ((am_set_ne (by omega)).trans ((am_set_ne (by omega)).trans ((am_set_ne (by omega)).trans ((am_set_ne (by omega)).trans ((am_set_ne (by omega)).trans ((am_set_ne (by omega)).trans ((am_set_ne (by omega)).trans ((am_set_ne (by omega)).trans ((am_set_ne (by omega)).trans ((am_set_ne (by omega)).trans ((am_set_ne (by omega)).trans ((am_set_ne (by omega)).trans (am_set_ne (by omega))))))))))))))))⟩
theorem tsh_of {h : am_H} {r N : Nat} (x : h r = some (trO r (-1)) ∧ h (r + 1) = some (.inl (false, N, fun _ => 0)) ∧ h (r + 2) = some (.inl (false, N, fun _ => 0)) ∧ h (r + 3) = some (.inl (false, N, fun _ => 0)) ∧ h (r + 4) = some (.inl (false, N, fun _ => 0)) ∧ h (r + 5) = some (.inl (false, 17, fun _ => 0)) ∧ h (r + 6) = some (.inl (false, 17, fun _ => 0)) ∧ h (r + 7) = some (.inl (false, 17, fun _ => 0))) : tsh h r N ∧ lnA h (r + 1) N zN := ⟨⟨⟨_, x.1⟩, ⟨_, x.2.1⟩, ⟨_, x.2.2.1⟩, ⟨_, x.2.2.2.1⟩, ⟨_, x.2.2.2.2.1⟩, ⟨_, x.2.2.2.2.2.1⟩, ⟨_, x.2.2.2.2.2.2.1⟩, ⟨_, x.2.2.2.2.2.2.2⟩⟩, ⟨_, x.2.1, fun s hs => ⟨rfl, Nat.zero_le _⟩⟩⟩
set_option maxHeartbeats 4000000 in
set_option maxRecDepth 100000 in
theorem t_X0_init (d : Nat) {h : am_H} (hr : h 5 = some (.inr (0, [.inr none, .inr none, .inr none, .inl 0, .inl 0, .inl 0, .inl 0, .inl 0]))) (hd : 2 ≤ d) : am_Ct l D dA m_X0_init d 24 2349 6 [am_r 5] h (am_qv fun h' => h' 5 = some (acO false 0 0 0 0) ∧ tsh h' 6 19 ∧ tsh h' 14 510 ∧ tsh h' 22 14 ∧ lnA h' 7 19 zN ∧ lnA h' 15 510 zN ∧ lnA h' 23 14 zN ∧ ∀ j, j < 5 → h' j = h j) := by
  refine am_Cv (by decide +kernel) rfl rfl ?_
  refine am_aload_n dX0_init_0 rfl rfl ?_
  refine am_obj l_X0_3 wd_oi wd_oc dX0_init_1 rfl (by decide) (by omega) ?_
  refine am_aload_n dX0_init_4 rfl rfl ?_
  refine am_nX7 (k := 6) (c' := 1) (s' := 8) (by omega) (by omega) (by omega) c_X0_9 dX0_init_5 rfl (by omega) (by omega) ?_
  refine am_dup dX0_init_8 rfl ?_
  refine am_bipush (v := nI 19) dX0_init_9 rfl (by decide +kernel) ?_
  refine am_iv (n1 := 7) (c' := 8) (s' := 135) (t_X7_init (d - 1) (r := 6) (N := 19) am_set_eq (by omega) (by omega)) (by omega) (by omega) (by omega) k_X7_init l_X0_11 dX0_init_11 rfl rfl rfl rfl (by omega) (by omega) (by omega) (fun g0 hx => ?_)
  have hx0 := hx
  obtain ⟨x1, x2, x3, x4, x5, x6, x7, x8, F0⟩ := hx
  have T0 := tsh_of ⟨x1, x2, x3, x4, x5, x6, x7, x8⟩
  have m0 := (F0 5 (by omega)).trans ((am_set_ne (by omega)).trans hr)
  clear hx0 x1 x2 x3 x4 x5 x6 x7 x8
  refine am_putF f_X0_14 rfl dX0_init_14 rfl m0 (am_fit_o _ _) rfl ?_
  refine am_aload_n dX0_init_17 rfl rfl ?_
  refine am_nX7 (k := 14) (c' := 9) (s' := 143) (by omega) (by omega) (by omega) c_X0_9 dX0_init_18 rfl (by omega) (by omega) ?_
  refine am_dup dX0_init_21 rfl ?_
  refine am_sipush (v := nI 510) dX0_init_22 rfl (by decide +kernel) ?_
  refine am_iv (n1 := 15) (c' := 16) (s' := 2234) (t_X7_init (d - 1) (r := 14) (N := 510) am_set_eq (by omega) (by omega)) (by omega) (by omega) (by omega) k_X7_init l_X0_11 dX0_init_25 rfl rfl rfl rfl (by omega) (by omega) (by omega) (fun g1 hx => ?_)
  have hx1 := hx
  obtain ⟨x1, x2, x3, x4, x5, x6, x7, x8, F1⟩ := hx
  have T1 := tsh_of ⟨x1, x2, x3, x4, x5, x6, x7, x8⟩
  have m1 := (F1 5 (by omega)).trans ((am_set_ne (by omega)).trans am_set_eq)
  clear hx1 x1 x2 x3 x4 x5 x6 x7 x8
  refine am_putF f_X0_20 rfl dX0_init_28 rfl m1 (am_fit_o _ _) rfl ?_
  refine am_aload_n dX0_init_31 rfl rfl ?_
  refine am_nX7 (k := 22) (c' := 17) (s' := 2242) (by omega) (by omega) (by omega) c_X0_9 dX0_init_32 rfl (by omega) (by omega) ?_
  refine am_dup dX0_init_35 rfl ?_
  refine am_bipush (v := nI 14) dX0_init_36 rfl (by decide +kernel) ?_
  refine am_iv (n1 := 23) (c' := 24) (s' := 2349) (t_X7_init (d - 1) (r := 22) (N := 14) am_set_eq (by omega) (by omega)) (by omega) (by omega) (by omega) k_X7_init l_X0_11 dX0_init_38 rfl rfl rfl rfl (by omega) (by omega) (by omega) (fun g2 hx => ?_)
  have hx2 := hx
  obtain ⟨x1, x2, x3, x4, x5, x6, x7, x8, F2⟩ := hx
  have T2 := tsh_of ⟨x1, x2, x3, x4, x5, x6, x7, x8⟩
  have m2 := (F2 5 (by omega)).trans ((am_set_ne (by omega)).trans am_set_eq)
  clear hx2 x1 x2 x3 x4 x5 x6 x7 x8
  refine am_putF f_X0_23 rfl dX0_init_41 rfl m2 (am_fit_o _ _) rfl ?_
  refine am_aload_n dX0_init_44 rfl rfl ?_
  refine am_iconst (v := nI 0) dX0_init_45 rfl (by decide +kernel) ?_
  refine am_put f_X0_26 dX0_init_46 rfl am_set_eq am_fit_0 rfl ?_
  refine am_aload_n dX0_init_49 rfl rfl ?_
  refine am_iconst (v := nI 0) dX0_init_50 rfl (by decide +kernel) ?_
  refine am_put f_X0_30 dX0_init_51 rfl am_set_eq (am_fit_i _) rfl ?_
  refine am_aload_n dX0_init_54 rfl rfl ?_
  refine am_iconst (v := nI 0) dX0_init_55 rfl (by decide +kernel) ?_
  refine am_put f_X0_34 dX0_init_56 rfl am_set_eq (am_fit_i _) rfl ?_
  refine am_aload_n dX0_init_59 rfl rfl ?_
  refine am_iconst (v := nI 0) dX0_init_60 rfl (by decide +kernel) ?_
  refine am_put f_X0_37 dX0_init_61 rfl am_set_eq (am_fit_i _) rfl ?_
  refine am_aload_n dX0_init_64 rfl rfl ?_
  refine am_iconst (v := nI 0) dX0_init_65 rfl (by decide +kernel) ?_
  refine am_put f_X0_40 dX0_init_66 rfl am_set_eq (am_fit_i _) rfl ?_
  have G1 : ∀ j, j < 14 → j ≠ 5 → g1 j = g0 j := fun j a b => (F1 j a).trans ((am_set_ne (by omega)).trans (am_set_ne (by omega)))
  have G2 : ∀ j, j < 22 → j ≠ 5 → g2 j = g1 j := fun j a b => (F2 j a).trans ((am_set_ne (by omega)).trans (am_set_ne (by omega)))
  exact am_rv dX0_init_69 rfl rfl rfl ⟨am_set_eq, T0.1.at (fun j a b => ((am_set_ne (by omega)).trans ((am_set_ne (by omega)).trans ((am_set_ne (by omega)).trans ((am_set_ne (by omega)).trans ((am_set_ne (by omega)).trans (am_set_ne (by omega))))))).trans ((G2 j (by omega) (by omega)).trans (G1 j (by omega) (by omega)))), T1.1.at (fun j a b => ((am_set_ne (by omega)).trans ((am_set_ne (by omega)).trans ((am_set_ne (by omega)).trans ((am_set_ne (by omega)).trans ((am_set_ne (by omega)).trans (am_set_ne (by omega))))))).trans (G2 j (by omega) (by omega))), T2.1.at (fun j a b => ((am_set_ne (by omega)).trans ((am_set_ne (by omega)).trans ((am_set_ne (by omega)).trans ((am_set_ne (by omega)).trans ((am_set_ne (by omega)).trans (am_set_ne (by omega)))))))), T0.2.at (((am_set_ne (by omega)).trans ((am_set_ne (by omega)).trans ((am_set_ne (by omega)).trans ((am_set_ne (by omega)).trans ((am_set_ne (by omega)).trans (am_set_ne (by omega))))))).trans ((G2 _ (by omega) (by omega)).trans (G1 _ (by omega) (by omega)))), T1.2.at (((am_set_ne (by omega)).trans ((am_set_ne (by omega)).trans ((am_set_ne (by omega)).trans ((am_set_ne (by omega)).trans ((am_set_ne (by omega)).trans (am_set_ne (by omega))))))).trans (G2 _ (by omega) (by omega))), T2.2.at ((am_set_ne (by omega)).trans ((am_set_ne (by omega)).trans ((am_set_ne (by omega)).trans ((am_set_ne (by omega)).trans ((am_set_ne (by omega)).trans (am_set_ne (by omega))))))), fun j a => ((am_set_ne (by omega)).trans ((am_set_ne (by omega)).trans ((am_set_ne (by omega)).trans ((am_set_ne (by omega)).trans ((am_set_ne (by omega)).trans (am_set_ne (by omega))))))).trans ((G2 j (by omega) (by omega)).trans ((G1 j (by omega) (by omega)).trans ((F0 j (by omega)).trans (am_set_ne (by omega)))))⟩
set_option maxHeartbeats 4000000 in
set_option maxRecDepth 100000 in
theorem t_X8_init (d : Nat) {h : am_H} (hr : h 30 = some (.inr (8, [.inr none, .inr none, .inr none, .inr none, .inr none, .inr none, .inl 0]))) (ha : h 5 = some (acO false 0 0 0 0)) (hd : 2 ≤ d) : am_Ct l D dA m_X8_init d 1 3 31 [am_r 30, am_r 1, am_r 3, am_r 5] h (am_qv fun h' => h' 30 = some (unO 0) ∧ h' 31 = some (.inr (2, [am_r 1, .inl (nI 0), .inl (nI 0)])) ∧ ∀ j, j < 30 → h' j = h j) := by
  refine am_Cv (by decide +kernel) rfl rfl ?_
  refine am_aload_n dX8_init_0 rfl rfl ?_
  refine am_obj l_X8_3 wd_oi wd_oc dX8_init_1 rfl (by decide) (by omega) ?_
  refine am_aload_n dX8_init_4 rfl rfl ?_
  refine am_nX2 (k := 31) (c' := 1) (s' := 3) (by omega) (by omega) (by omega) c_X8_9 dX8_init_5 rfl (by omega) (by omega) ?_
  refine am_dup dX8_init_8 rfl ?_
  refine am_aload_n dX8_init_9 rfl rfl ?_
  refine am_iv (n1 := 32) (c' := 1) (s' := 3) (t_X2_init (d - 1) _ (r := 31) (a := 1) am_set_eq (by omega)) (by omega) (by omega) (by omega) k_X2_init l_X8_11 dX8_init_10 rfl rfl rfl rfl (by omega) (by omega) (by omega) (fun g0 hx => ?_)
  obtain ⟨x1, F0⟩ := hx
  have m0 := (F0 30 (by omega)).trans ((am_set_ne (by omega)).trans hr)
  have a0 := (F0 5 (by omega)).trans ((am_set_ne (by omega)).trans ha)
  refine am_putF f_X8_14 rfl dX8_init_13 rfl m0 (am_fit_o _ _) rfl ?_
  refine am_aload_n dX8_init_16 rfl rfl ?_
  refine am_aload_n dX8_init_17 rfl rfl ?_
  refine am_putF f_X8_20 rfl dX8_init_18 rfl am_set_eq (am_fit_o _ _) rfl ?_
  refine am_aload_n dX8_init_21 rfl rfl ?_
  refine am_aload_n dX8_init_22 rfl rfl ?_
  refine am_putF f_X8_24 rfl dX8_init_23 rfl am_set_eq (am_fit_o _ _) rfl ?_
  refine am_aload_n dX8_init_26 rfl rfl ?_
  refine am_aload_n dX8_init_27 rfl rfl ?_
  refine am_iconst (v := nI 0) dX8_init_28 rfl (by decide +kernel) ?_
  refine am_vr (t_X0_tree0 (d - 1) _ ((am_set_ne (by omega)).trans ((am_set_ne (by omega)).trans ((am_set_ne (by omega)).trans a0)))) k_X0_tree l_X8_28 dX8_init_29 rfl rfl rfl rfl ((am_set_ne (by omega)).trans ((am_set_ne (by omega)).trans ((am_set_ne (by omega)).trans a0))) (by omega) (by omega) (by omega) (fun z q hx => ?_)
  obtain ⟨rfl, hh⟩ := hx
  obtain rfl := hh.symm
  refine am_putF f_X8_34 rfl dX8_init_32 rfl am_set_eq (am_fit_o _ _) rfl ?_
  refine am_aload_n dX8_init_35 rfl rfl ?_
  refine am_aload_n dX8_init_36 rfl rfl ?_
  refine am_iconst (v := nI 1) dX8_init_37 rfl (by decide +kernel) ?_
  refine am_vr (t_X0_tree1 (d - 1) _ ((am_set_ne (by omega)).trans ((am_set_ne (by omega)).trans ((am_set_ne (by omega)).trans ((am_set_ne (by omega)).trans a0))))) k_X0_tree l_X8_28 dX8_init_38 rfl rfl rfl rfl ((am_set_ne (by omega)).trans ((am_set_ne (by omega)).trans ((am_set_ne (by omega)).trans ((am_set_ne (by omega)).trans a0)))) (by omega) (by omega) (by omega) (fun z q hx => ?_)
  obtain ⟨rfl, hh⟩ := hx
  obtain rfl := hh.symm
  refine am_putF f_X8_38 rfl dX8_init_41 rfl am_set_eq (am_fit_o _ _) rfl ?_
  refine am_aload_n dX8_init_44 rfl rfl ?_
  refine am_aload_n dX8_init_45 rfl rfl ?_
  refine am_iconst (v := nI 2) dX8_init_46 rfl (by decide +kernel) ?_
  refine am_vr (t_X0_tree2 (d - 1) _ ((am_set_ne (by omega)).trans ((am_set_ne (by omega)).trans ((am_set_ne (by omega)).trans ((am_set_ne (by omega)).trans ((am_set_ne (by omega)).trans a0)))))) k_X0_tree l_X8_28 dX8_init_47 rfl rfl rfl rfl ((am_set_ne (by omega)).trans ((am_set_ne (by omega)).trans ((am_set_ne (by omega)).trans ((am_set_ne (by omega)).trans ((am_set_ne (by omega)).trans a0))))) (by omega) (by omega) (by omega) (fun z q hx => ?_)
  obtain ⟨rfl, hh⟩ := hx
  obtain rfl := hh.symm
  refine am_putF f_X8_41 rfl dX8_init_50 rfl am_set_eq (am_fit_o _ _) rfl ?_
  refine am_aload_n dX8_init_53 rfl rfl ?_
  refine am_iconst (v := nI 0) dX8_init_54 rfl (by decide +kernel) ?_
  refine am_put f_X8_44 dX8_init_55 rfl am_set_eq (am_fit_i _) rfl ?_
  exact am_rv dX8_init_58 rfl rfl rfl ⟨am_set_eq, ((am_set_ne (by omega)).trans ((am_set_ne (by omega)).trans ((am_set_ne (by omega)).trans ((am_set_ne (by omega)).trans ((am_set_ne (by omega)).trans ((am_set_ne (by omega)).trans ((am_set_ne (by omega)).trans x1))))))), fun j a => ((am_set_ne (by omega)).trans ((am_set_ne (by omega)).trans ((am_set_ne (by omega)).trans ((am_set_ne (by omega)).trans ((am_set_ne (by omega)).trans ((am_set_ne (by omega)).trans (am_set_ne (by omega)))))))).trans ((F0 j (by omega)).trans (am_set_ne (by omega)))⟩
set_option maxHeartbeats 4000000 in
set_option maxRecDepth 100000 in
theorem t_X6_init (d : Nat) {h : am_H} (hr : h 32 = some (.inr (6, [.inr none, .inr none, .inr none, .inr none, .inr none, .inr none, .inr none, .inr none, .inr none, .inr none, .inl 0, .inr none, .inr none, .inl 0]))) (ha : h 5 = some (acO false 0 0 0 0)) (hd : 2 ≤ d) : am_Ct l D dA m_X6_init d 13 13502 33 [am_r 32, am_r 1, am_r 3, am_r 5] h (am_qv fun h' => h' 32 = some (pkO 0 0) ∧ h' 33 = some (.inr (1, [am_r 3, .inl (nI 0)])) ∧ h' 34 = some (.inr (4, [am_r 1, am_r 35, am_r 36, .inl (nI 0), .inl (nI 0), .inl (nI 0)])) ∧ ars h' 35 4096 ∧ ars h' 36 4000 ∧ mgs h' ∧ ars h' 42 400 ∧ ars h' 43 400 ∧ ars h' 44 510 ∧ ars h' 45 510 ∧ ∀ j, j < 32 → h' j = h j) := by
  refine am_Cv (by decide +kernel) rfl rfl ?_
  refine am_aload_n dX6_init_0 rfl rfl ?_
  refine am_obj l_X6_3 wd_oi wd_oc dX6_init_1 rfl (by decide) (by omega) ?_
  refine am_aload_n dX6_init_4 rfl rfl ?_
  refine am_aload_n dX6_init_5 rfl rfl ?_
  refine am_putF f_X6_9 rfl dX6_init_6 rfl hr (am_fit_o _ _) rfl ?_
  refine am_aload_n dX6_init_9 rfl rfl ?_
  refine am_aload_n dX6_init_10 rfl rfl ?_
  refine am_putF f_X6_15 rfl dX6_init_11 rfl am_set_eq (am_fit_o _ _) rfl ?_
  refine am_aload_n dX6_init_14 rfl rfl ?_
  refine am_nX1 (k := 33) (c' := 1) (s' := 2) (by omega) (by omega) (by omega) c_X6_19 dX6_init_15 rfl (by omega) (by omega) ?_
  refine am_dup dX6_init_18 rfl ?_
  refine am_aload_n dX6_init_19 rfl rfl ?_
  refine am_iv (n1 := 34) (c' := 1) (s' := 2) (t_X1_init (d - 1) _ (r := 33) (a := 3) am_set_eq (by omega)) (by omega) (by omega) (by omega) k_X1_init l_X6_21 dX6_init_20 rfl rfl rfl rfl (by omega) (by omega) (by omega) (fun g0 hx => ?_)
  obtain ⟨x1, F0⟩ := hx
  have m0 := (F0 32 (by omega)).trans ((am_set_ne (by omega)).trans am_set_eq)
  have a0 := (F0 5 (by omega)).trans ((am_set_ne (by omega)).trans ((am_set_ne (by omega)).trans ((am_set_ne (by omega)).trans ha)))
  have E0 : ∀ j, j < 32 → g0 j = h j := fun j a => (F0 j (by omega)).trans ((am_set_ne (by omega)).trans ((am_set_ne (by omega)).trans (am_set_ne (by omega))))
  refine am_putF f_X6_24 rfl dX6_init_23 rfl m0 (am_fit_o _ _) rfl ?_
  refine am_aload_n dX6_init_26 rfl rfl ?_
  refine am_nX4 (k := 34) (c' := 2) (s' := 8) (by omega) (by omega) (by omega) c_X6_28 dX6_init_27 rfl (by omega) (by omega) ?_
  refine am_dup dX6_init_30 rfl ?_
  refine am_aload_n dX6_init_31 rfl rfl ?_
  refine am_sipush (v := nI 4000) dX6_init_32 rfl (by decide +kernel) ?_
  refine am_iv (n1 := 35) (c' := 4) (s' := 8104) (t_X4_init (d - 1) (r := 34) (a := 1) (N := 4000) am_set_eq (by omega) (by omega) (by omega)) (by omega) (by omega) (by omega) k_X4_init l_X6_30 dX6_init_35 rfl rfl rfl rfl (by omega) (by omega) (by omega) (fun g1 hx => ?_)
  obtain ⟨y1, y2, y3, F1⟩ := hx
  have m1 := (F1 32 (by omega) (by omega)).trans ((am_set_ne (by omega)).trans am_set_eq)
  have a1 := (F1 5 (by omega) (by omega)).trans ((am_set_ne (by omega)).trans ((am_set_ne (by omega)).trans a0))
  have s1 := (F1 33 (by omega) (by omega)).trans ((am_set_ne (by omega)).trans ((am_set_ne (by omega)).trans x1))
  have E1 : ∀ j, j < 32 → g1 j = h j := fun j a => (F1 j (by omega) (by omega)).trans (((am_set_ne (by omega)).trans (am_set_ne (by omega))).trans (E0 j a))
  refine am_putF f_X6_33 rfl dX6_init_38 rfl m1 (am_fit_o _ _) rfl ?_
  refine am_aload_n dX6_init_41 rfl rfl ?_
  refine am_nX5 (k := 37) (c' := 5) (s' := 8112) (by omega) (by omega) (by omega) c_X6_37 dX6_init_42 rfl (by omega) (by omega) ?_
  refine am_dup dX6_init_45 rfl ?_
  refine am_sipush (v := nI 510) dX6_init_46 rfl (by decide +kernel) ?_
  refine am_iv (n1 := 38) (c' := 9) (s' := 11682) (t_X5_init (d - 1) (r := 37) (N := 510) am_set_eq (by omega) (by omega) (by omega)) (by omega) (by omega) (by omega) k_X5_init l_X6_39 dX6_init_49 rfl rfl rfl rfl (by omega) (by omega) (by omega) (fun g2 hx => ?_)
  obtain ⟨z1, z2, z3, z4, z5, F2⟩ := hx
  have m2 := (F2 32 (by omega) (by omega)).trans ((am_set_ne (by omega)).trans am_set_eq)
  have a2 := (F2 5 (by omega) (by omega)).trans ((am_set_ne (by omega)).trans ((am_set_ne (by omega)).trans a1))
  have s2 := (F2 33 (by omega) (by omega)).trans ((am_set_ne (by omega)).trans ((am_set_ne (by omega)).trans s1))
  have u1 := (F2 34 (by omega) (by omega)).trans ((am_set_ne (by omega)).trans ((am_set_ne (by omega)).trans y1))
  have u2 := (F2 35 (by omega) (by omega)).trans ((am_set_ne (by omega)).trans ((am_set_ne (by omega)).trans y2))
  have u3 := (F2 36 (by omega) (by omega)).trans ((am_set_ne (by omega)).trans ((am_set_ne (by omega)).trans y3))
  have E2 : ∀ j, j < 32 → g2 j = h j := fun j a => (F2 j (by omega) (by omega)).trans (((am_set_ne (by omega)).trans (am_set_ne (by omega))).trans (E1 j a))
  have M2 : mgs g2 := ⟨⟨_, _, _, _, z1⟩, ⟨_, z2⟩, ⟨_, z3⟩, ⟨_, z4⟩, ⟨_, z5⟩⟩
  refine am_putF f_X6_42 rfl dX6_init_52 rfl m2 (am_fit_o _ _) rfl ?_
  refine am_aload_n dX6_init_55 rfl rfl ?_
  refine am_aload_n dX6_init_56 rfl rfl ?_
  refine am_iconst (v := nI 0) dX6_init_57 rfl (by decide +kernel) ?_
  refine am_vr (t_X0_tree0 (d - 1) _ ((am_set_ne (by omega)).trans a2)) k_X0_tree l_X6_46 dX6_init_58 rfl rfl rfl rfl ((am_set_ne (by omega)).trans a2) (by omega) (by omega) (by omega) (fun z q hx => ?_)
  obtain ⟨rfl, hh⟩ := hx
  obtain rfl := hh.symm
  refine am_putF f_X6_52 rfl dX6_init_61 rfl am_set_eq (am_fit_o _ _) rfl ?_
  refine am_aload_n dX6_init_64 rfl rfl ?_
  refine am_aload_n dX6_init_65 rfl rfl ?_
  refine am_iconst (v := nI 1) dX6_init_66 rfl (by decide +kernel) ?_
  refine am_vr (t_X0_tree1 (d - 1) _ ((am_set_ne (by omega)).trans ((am_set_ne (by omega)).trans a2))) k_X0_tree l_X6_46 dX6_init_67 rfl rfl rfl rfl ((am_set_ne (by omega)).trans ((am_set_ne (by omega)).trans a2)) (by omega) (by omega) (by omega) (fun z q hx => ?_)
  obtain ⟨rfl, hh⟩ := hx
  obtain rfl := hh.symm
  refine am_putF f_X6_56 rfl dX6_init_70 rfl am_set_eq (am_fit_o _ _) rfl ?_
  refine am_aload_n dX6_init_73 rfl rfl ?_
  refine am_aload_n dX6_init_74 rfl rfl ?_
  refine am_iconst (v := nI 2) dX6_init_75 rfl (by decide +kernel) ?_
  refine am_vr (t_X0_tree2 (d - 1) _ ((am_set_ne (by omega)).trans ((am_set_ne (by omega)).trans ((am_set_ne (by omega)).trans a2)))) k_X0_tree l_X6_46 dX6_init_76 rfl rfl rfl rfl ((am_set_ne (by omega)).trans ((am_set_ne (by omega)).trans ((am_set_ne (by omega)).trans a2))) (by omega) (by omega) (by omega) (fun z q hx => ?_)
  obtain ⟨rfl, hh⟩ := hx
  obtain rfl := hh.symm
  refine am_putF f_X6_59 rfl dX6_init_79 rfl am_set_eq (am_fit_o _ _) rfl ?_
  refine am_aload_n dX6_init_82 rfl rfl ?_
  refine am_sipush (v := nI 400) dX6_init_83 rfl (by decide +kernel) ?_
  refine am_nai (k := 42) (c' := 10) (s' := 12082) (by omega) (by omega) (by omega) (by omega) dX6_init_86 rfl (by omega) (by omega) ?_
  refine am_putF f_X6_62 rfl dX6_init_88 rfl ((am_set_ne (by omega)).trans am_set_eq) (am_fit_a _ _) rfl ?_
  refine am_aload_n dX6_init_91 rfl rfl ?_
  refine am_sipush (v := nI 400) dX6_init_92 rfl (by decide +kernel) ?_
  refine am_nai (k := 43) (c' := 11) (s' := 12482) (by omega) (by omega) (by omega) (by omega) dX6_init_95 rfl (by omega) (by omega) ?_
  refine am_putF f_X6_66 rfl dX6_init_97 rfl ((am_set_ne (by omega)).trans am_set_eq) (am_fit_a _ _) rfl ?_
  refine am_aload_n dX6_init_100 rfl rfl ?_
  refine am_iconst (v := nI 0) dX6_init_101 rfl (by decide +kernel) ?_
  refine am_put f_X6_69 dX6_init_102 rfl am_set_eq (am_fit_i _) rfl ?_
  refine am_aload_n dX6_init_105 rfl rfl ?_
  refine am_sipush (v := nI 510) dX6_init_106 rfl (by decide +kernel) ?_
  refine am_nai (k := 44) (c' := 12) (s' := 12992) (by omega) (by omega) (by omega) (by omega) dX6_init_109 rfl (by omega) (by omega) ?_
  refine am_putF f_X6_73 rfl dX6_init_111 rfl ((am_set_ne (by omega)).trans am_set_eq) (am_fit_a _ _) rfl ?_
  refine am_aload_n dX6_init_114 rfl rfl ?_
  refine am_sipush (v := nI 510) dX6_init_115 rfl (by decide +kernel) ?_
  refine am_nai (k := 45) (c' := 13) (s' := 13502) (by omega) (by omega) (by omega) (by omega) dX6_init_118 rfl (by omega) (by omega) ?_
  refine am_putF f_X6_76 rfl dX6_init_120 rfl ((am_set_ne (by omega)).trans am_set_eq) (am_fit_a _ _) rfl ?_
  refine am_aload_n dX6_init_123 rfl rfl ?_
  refine am_iconst (v := nI 0) dX6_init_124 rfl (by decide +kernel) ?_
  refine am_put f_X6_79 dX6_init_125 rfl am_set_eq (am_fit_i _) rfl ?_
  exact am_rv dX6_init_128 rfl rfl rfl ⟨am_set_eq, ((am_set_ne (by omega)).trans ((am_set_ne (by omega)).trans ((am_set_ne (by omega)).trans ((am_set_ne (by omega)).trans ((am_set_ne (by omega)).trans ((am_set_ne (by omega)).trans ((am_set_ne (by omega)).trans ((am_set_ne (by omega)).trans ((am_set_ne (by omega)).trans ((am_set_ne (by omega)).trans ((am_set_ne (by omega)).trans ((am_set_ne (by omega)).trans ((am_set_ne (by omega)).trans ((am_set_ne (by omega)).trans s2)))))))))))))), ((am_set_ne (by omega)).trans ((am_set_ne (by omega)).trans ((am_set_ne (by omega)).trans ((am_set_ne (by omega)).trans ((am_set_ne (by omega)).trans ((am_set_ne (by omega)).trans ((am_set_ne (by omega)).trans ((am_set_ne (by omega)).trans ((am_set_ne (by omega)).trans ((am_set_ne (by omega)).trans ((am_set_ne (by omega)).trans ((am_set_ne (by omega)).trans ((am_set_ne (by omega)).trans ((am_set_ne (by omega)).trans u1)))))))))))))), ⟨_, ((am_set_ne (by omega)).trans ((am_set_ne (by omega)).trans ((am_set_ne (by omega)).trans ((am_set_ne (by omega)).trans ((am_set_ne (by omega)).trans ((am_set_ne (by omega)).trans ((am_set_ne (by omega)).trans ((am_set_ne (by omega)).trans ((am_set_ne (by omega)).trans ((am_set_ne (by omega)).trans ((am_set_ne (by omega)).trans ((am_set_ne (by omega)).trans ((am_set_ne (by omega)).trans ((am_set_ne (by omega)).trans u2))))))))))))))⟩, ⟨_, ((am_set_ne (by omega)).trans ((am_set_ne (by omega)).trans ((am_set_ne (by omega)).trans ((am_set_ne (by omega)).trans ((am_set_ne (by omega)).trans ((am_set_ne (by omega)).trans ((am_set_ne (by omega)).trans ((am_set_ne (by omega)).trans ((am_set_ne (by omega)).trans ((am_set_ne (by omega)).trans ((am_set_ne (by omega)).trans ((am_set_ne (by omega)).trans ((am_set_ne (by omega)).trans ((am_set_ne (by omega)).trans u3))))))))))))))⟩, M2.at (fun j a b => ((am_set_ne (by omega)).trans ((am_set_ne (by omega)).trans ((am_set_ne (by omega)).trans ((am_set_ne (by omega)).trans ((am_set_ne (by omega)).trans ((am_set_ne (by omega)).trans ((am_set_ne (by omega)).trans ((am_set_ne (by omega)).trans ((am_set_ne (by omega)).trans ((am_set_ne (by omega)).trans ((am_set_ne (by omega)).trans ((am_set_ne (by omega)).trans ((am_set_ne (by omega)).trans (am_set_ne (by omega)))))))))))))))), ⟨_, ((am_set_ne (by omega)).trans ((am_set_ne (by omega)).trans ((am_set_ne (by omega)).trans ((am_set_ne (by omega)).trans ((am_set_ne (by omega)).trans ((am_set_ne (by omega)).trans ((am_set_ne (by omega)).trans ((am_set_ne (by omega)).trans ((am_set_ne (by omega)).trans am_set_eq)))))))))⟩, ⟨_, ((am_set_ne (by omega)).trans ((am_set_ne (by omega)).trans ((am_set_ne (by omega)).trans ((am_set_ne (by omega)).trans ((am_set_ne (by omega)).trans ((am_set_ne (by omega)).trans ((am_set_ne (by omega)).trans am_set_eq)))))))⟩, ⟨_, ((am_set_ne (by omega)).trans ((am_set_ne (by omega)).trans ((am_set_ne (by omega)).trans ((am_set_ne (by omega)).trans am_set_eq))))⟩, ⟨_, ((am_set_ne (by omega)).trans ((am_set_ne (by omega)).trans am_set_eq))⟩, fun j a => ((am_set_ne (by omega)).trans ((am_set_ne (by omega)).trans ((am_set_ne (by omega)).trans ((am_set_ne (by omega)).trans ((am_set_ne (by omega)).trans ((am_set_ne (by omega)).trans ((am_set_ne (by omega)).trans ((am_set_ne (by omega)).trans ((am_set_ne (by omega)).trans ((am_set_ne (by omega)).trans ((am_set_ne (by omega)).trans ((am_set_ne (by omega)).trans ((am_set_ne (by omega)).trans (am_set_ne (by omega))))))))))))))).trans (E2 j a)⟩
/-- a new object's state -/
def s0 : sS := (fun _ => 0, 0, [], false, 0, 0, 0, 0, (zN, zN, zN))
theorem s0_ok : OK s0 := ⟨Nat.zero_le _, fun v hv => absurd hv (by simp [s0, tpL]), Nat.zero_le _, fun v hv => absurd hv (by simp [s0]), Nat.zero_le _⟩
set_option maxHeartbeats 4000000 in
set_option maxRecDepth 100000 in
theorem t_X9_init (d : Nat) {h : am_H} (hr : h 0 = some (.inr (9, [.inr none, .inr none, .inr none, .inr none, .inr none]))) (hd : 3 ≤ d) : am_Ct l D dA m_X9_init d 45 31887 1 [am_r 0] h (am_qv fun h' => CL h' s0) := by
  refine am_Cv (by decide +kernel) rfl rfl ?_
  refine am_aload_n dX9_init_0 rfl rfl ?_
  refine am_obj l_X9_1 wd_oi wd_oc dX9_init_1 rfl (by decide) (by omega) ?_
  refine am_aload_n dX9_init_4 rfl rfl ?_
  refine am_nX3 (k := 1) (c' := 1) (s' := 2) (by omega) (by omega) (by omega) c_X9_7 dX9_init_5 rfl (by omega) (by omega) ?_
  refine am_dup dX9_init_8 rfl ?_
  refine am_sipush (v := nI 4000) dX9_init_9 rfl (by decide +kernel) ?_
  refine am_iv (n1 := 2) (c' := 2) (s' := 4002) (t_X3_init (d - 1) (r := 1) (N := 4000) am_set_eq (by omega) (by omega) (by omega)) (by omega) (by omega) (by omega) k_X3_init l_X9_11 dX9_init_12 rfl rfl rfl rfl (by omega) (by omega) (by omega) (fun g0 hx => ?_)
  obtain ⟨t1, t2, F0⟩ := hx
  have m0 := (F0 0 (by omega) (by omega)).trans ((am_set_ne (by omega)).trans hr)
  refine am_putF f_X9_14 rfl dX9_init_15 rfl m0 (am_fit_o _ _) rfl ?_
  refine am_aload_n dX9_init_18 rfl rfl ?_
  refine am_nX3 (k := 3) (c' := 3) (s' := 4004) (by omega) (by omega) (by omega) c_X9_7 dX9_init_19 rfl (by omega) (by omega) ?_
  refine am_dup dX9_init_22 rfl ?_
  refine am_sipush (v := nI 12000) dX9_init_23 rfl (by decide +kernel) ?_
  refine am_iv (n1 := 4) (c' := 4) (s' := 16004) (t_X3_init (d - 1) (r := 3) (N := 12000) am_set_eq (by omega) (by omega) (by omega)) (by omega) (by omega) (by omega) k_X3_init l_X9_11 dX9_init_26 rfl rfl rfl rfl (by omega) (by omega) (by omega) (fun g1 hx => ?_)
  obtain ⟨p1, p2, F1⟩ := hx
  have m1 := (F1 0 (by omega) (by omega)).trans ((am_set_ne (by omega)).trans am_set_eq)
  have t3 := (F1 1 (by omega) (by omega)).trans ((am_set_ne (by omega)).trans ((am_set_ne (by omega)).trans t1))
  have t4 := (F1 2 (by omega) (by omega)).trans ((am_set_ne (by omega)).trans ((am_set_ne (by omega)).trans t2))
  refine am_putF f_X9_18 rfl dX9_init_29 rfl m1 (am_fit_o _ _) rfl ?_
  refine am_aload_n dX9_init_32 rfl rfl ?_
  refine am_nX0 (k := 5) (c' := 5) (s' := 16012) (by omega) (by omega) (by omega) c_X9_21 dX9_init_33 rfl (by omega) (by omega) ?_
  refine am_dup dX9_init_36 rfl ?_
  refine am_iv (n1 := 6) (c' := 29) (s' := 18361) (t_X0_init (d - 1) am_set_eq (by omega)) (by omega) (by omega) (by omega) k_X0_init l_X9_23 dX9_init_37 rfl rfl rfl rfl (by omega) (by omega) (by omega) (fun g2 hx => ?_)
  obtain ⟨a1, b1, b2, b3, e1, e2, e3, F2⟩ := hx
  have m2 := (F2 0 (by omega)).trans ((am_set_ne (by omega)).trans am_set_eq)
  have t5 := (F2 1 (by omega)).trans ((am_set_ne (by omega)).trans ((am_set_ne (by omega)).trans t3))
  have t6 := (F2 2 (by omega)).trans ((am_set_ne (by omega)).trans ((am_set_ne (by omega)).trans t4))
  have p3 := (F2 3 (by omega)).trans ((am_set_ne (by omega)).trans ((am_set_ne (by omega)).trans p1))
  have p4 := (F2 4 (by omega)).trans ((am_set_ne (by omega)).trans ((am_set_ne (by omega)).trans p2))
  refine am_putF f_X9_24 rfl dX9_init_40 rfl m2 (am_fit_o _ _) rfl ?_
  refine am_aload_n dX9_init_43 rfl rfl ?_
  refine am_nX8 (k := 30) (c' := 30) (s' := 18368) (by omega) (by omega) (by omega) c_X9_28 dX9_init_44 rfl (by omega) (by omega) ?_
  refine am_dup dX9_init_47 rfl ?_
  refine am_aload_n dX9_init_48 rfl rfl ?_
  refine am_get f_X9_14 dX9_init_49 rfl ((am_set_ne (by omega)).trans am_set_eq) rfl ?_
  refine am_aload_n dX9_init_52 rfl rfl ?_
  refine am_get f_X9_18 dX9_init_53 rfl ((am_set_ne (by omega)).trans am_set_eq) rfl ?_
  refine am_aload_n dX9_init_56 rfl rfl ?_
  refine am_get f_X9_24 dX9_init_57 rfl ((am_set_ne (by omega)).trans am_set_eq) rfl ?_
  refine am_iv (n1 := 31) (c' := 31) (s' := 18371) (t_X8_init (d - 1) am_set_eq ((am_set_ne (by omega)).trans ((am_set_ne (by omega)).trans a1)) (by omega)) (by omega) (by omega) (by omega) k_X8_init l_X9_30 dX9_init_60 rfl rfl rfl rfl (by omega) (by omega) (by omega) (fun g3 hx => ?_)
  obtain ⟨v1, v2, F3⟩ := hx
  have m3 := (F3 0 (by omega)).trans ((am_set_ne (by omega)).trans am_set_eq)
  have t3 := (F3 1 (by omega)).trans ((am_set_ne (by omega)).trans ((am_set_ne (by omega)).trans t5))
  have ta3 := (F3 2 (by omega)).trans ((am_set_ne (by omega)).trans ((am_set_ne (by omega)).trans t6))
  have p3 := (F3 3 (by omega)).trans ((am_set_ne (by omega)).trans ((am_set_ne (by omega)).trans p3))
  have pa3 := (F3 4 (by omega)).trans ((am_set_ne (by omega)).trans ((am_set_ne (by omega)).trans p4))
  have ac3 := (F3 5 (by omega)).trans ((am_set_ne (by omega)).trans ((am_set_ne (by omega)).trans a1))
  have G3 : ∀ j, 5 < j → j < 30 → g3 j = g2 j := fun j a b => (F3 j b).trans ((am_set_ne (by omega)).trans (am_set_ne (by omega)))
  refine am_putF f_X9_33 rfl dX9_init_63 rfl m3 (am_fit_o _ _) rfl ?_
  refine am_aload_n dX9_init_66 rfl rfl ?_
  refine am_nX6 (k := 32) (c' := 32) (s' := 18385) (by omega) (by omega) (by omega) c_X9_37 dX9_init_67 rfl (by omega) (by omega) ?_
  refine am_dup dX9_init_70 rfl ?_
  refine am_aload_n dX9_init_71 rfl rfl ?_
  refine am_get f_X9_14 dX9_init_72 rfl ((am_set_ne (by omega)).trans am_set_eq) rfl ?_
  refine am_aload_n dX9_init_75 rfl rfl ?_
  refine am_get f_X9_18 dX9_init_76 rfl ((am_set_ne (by omega)).trans am_set_eq) rfl ?_
  refine am_aload_n dX9_init_79 rfl rfl ?_
  refine am_get f_X9_24 dX9_init_80 rfl ((am_set_ne (by omega)).trans am_set_eq) rfl ?_
  refine am_iv (n1 := 33) (c' := 45) (s' := 31887) (t_X6_init (d - 1) am_set_eq ((am_set_ne (by omega)).trans ((am_set_ne (by omega)).trans ac3)) (by omega)) (by omega) (by omega) (by omega) k_X6_init l_X9_39 dX9_init_83 rfl rfl rfl rfl (by omega) (by omega) (by omega) (fun g4 hx => ?_)
  obtain ⟨w1, w2, w3, w4, w5, w6, w7, w8, w9, w10, F4⟩ := hx
  have m4 := (F4 0 (by omega)).trans ((am_set_ne (by omega)).trans am_set_eq)
  have t4 := (F4 1 (by omega)).trans ((am_set_ne (by omega)).trans ((am_set_ne (by omega)).trans t3))
  have ta4 := (F4 2 (by omega)).trans ((am_set_ne (by omega)).trans ((am_set_ne (by omega)).trans ta3))
  have p4 := (F4 3 (by omega)).trans ((am_set_ne (by omega)).trans ((am_set_ne (by omega)).trans p3))
  have pa4 := (F4 4 (by omega)).trans ((am_set_ne (by omega)).trans ((am_set_ne (by omega)).trans pa3))
  have ac4 := (F4 5 (by omega)).trans ((am_set_ne (by omega)).trans ((am_set_ne (by omega)).trans ac3))
  have u4 := (F4 30 (by omega)).trans ((am_set_ne (by omega)).trans ((am_set_ne (by omega)).trans v1))
  have us4 := (F4 31 (by omega)).trans ((am_set_ne (by omega)).trans ((am_set_ne (by omega)).trans v2))
  have G4 : ∀ j, 5 < j → j < 30 → g4 j = g2 j := fun j a b => (F4 j (by omega)).trans (((am_set_ne (by omega)).trans (am_set_ne (by omega))).trans (G3 j a b))
  refine am_putF f_X9_40 rfl dX9_init_86 rfl m4 (am_fit_o _ _) rfl ?_
  exact am_rv dX9_init_89 rfl rfl rfl ⟨⟨am_set_eq, rws_tpL ((am_set_ne (by omega)).trans t4) ((am_set_ne (by omega)).trans ta4), ⟨_, ((am_set_ne (by omega)).trans p4), ((am_set_ne (by omega)).trans pa4), fun i v hi => absurd hi (by simp [s0])⟩, ((am_set_ne (by omega)).trans ac4), b1.at (fun j a b => (am_set_ne (by omega)).trans (G4 j (by omega) (by omega))), b2.at (fun j a b => (am_set_ne (by omega)).trans (G4 j (by omega) (by omega))), b3.at (fun j a b => (am_set_ne (by omega)).trans (G4 j (by omega) (by omega))), e1.at ((am_set_ne (by omega)).trans (G4 _ (by omega) (by omega))), e2.at ((am_set_ne (by omega)).trans (G4 _ (by omega) (by omega))), e3.at ((am_set_ne (by omega)).trans (G4 _ (by omega) (by omega))), ⟨_, ((am_set_ne (by omega)).trans u4)⟩, ⟨_, _, ((am_set_ne (by omega)).trans us4)⟩, ⟨_, _, (am_set_ne (by omega)).trans w1⟩, ⟨_, (am_set_ne (by omega)).trans w2⟩, ⟨_, _, _, (am_set_ne (by omega)).trans w3⟩, w4.at (am_set_ne (by omega)), w5.at (am_set_ne (by omega)), w6.at (fun j a b => (am_set_ne (by omega))), w7.at (am_set_ne (by omega)), w8.at (am_set_ne (by omega)), w9.at (am_set_ne (by omega)), w10.at (am_set_ne (by omega))⟩, ((am_set_ne (by omega)).trans ta4)⟩
set_option maxHeartbeats 4000000 in
set_option maxRecDepth 100000 in
theorem t_X10_init (d : Nat) {h : am_H} (hr : h 46 = some (.inr (10, [.inr none, .inl 0, .inr none, .inl 0, .inr none, .inr none, .inr none, .inl 0, .inl 0, .inl 0, .inl 0, .inl 0, .inl 0, .inl 0, .inr none, .inr none, .inr none, .inr none, .inr none, .inr none, .inr none, .inr none, .inl 0]))) (hd : 1 ≤ d) : am_Ct l D dA m_X10_init d 13 38203 47 [am_r 46] h (am_qv fun h' => MD h' s0 ∧ ∀ j, j < 46 → h' j = h j) := by
  refine am_Cv (by decide +kernel) rfl rfl ?_
  refine am_aload_n dX10_init_0 rfl rfl ?_
  refine am_obj l_X10_1 wd_oi wd_oc dX10_init_1 rfl (by decide) (by omega) ?_
  refine am_aload_n dX10_init_4 rfl rfl ?_
  refine am_sipush (v := nI 4000) dX10_init_5 rfl (by decide +kernel) ?_
  refine am_nai (k := 47) (c' := 1) (s' := 4000) (by omega) (by omega) (by omega) (by omega) dX10_init_8 rfl (by omega) (by omega) ?_
  refine am_putF f_X10_7 rfl dX10_init_10 rfl ((am_set_ne (by omega)).trans hr) (am_fit_a _ _) rfl ?_
  refine am_aload_n dX10_init_13 rfl rfl ?_
  refine am_sipush (v := nI 16000) dX10_init_14 rfl (by decide +kernel) ?_
  refine am_nai (k := 48) (c' := 2) (s' := 20000) (by omega) (by omega) (by omega) (by omega) dX10_init_17 rfl (by omega) (by omega) ?_
  refine am_putF f_X10_13 rfl dX10_init_19 rfl ((am_set_ne (by omega)).trans am_set_eq) (am_fit_a _ _) rfl ?_
  refine am_aload_n dX10_init_22 rfl rfl ?_
  refine am_sipush (v := nI 1800) dX10_init_23 rfl (by decide +kernel) ?_
  refine am_nai (k := 49) (c' := 3) (s' := 21800) (by omega) (by omega) (by omega) (by omega) dX10_init_26 rfl (by omega) (by omega) ?_
  refine am_putF f_X10_16 rfl dX10_init_28 rfl ((am_set_ne (by omega)).trans am_set_eq) (am_fit_a _ _) rfl ?_
  refine am_aload_n dX10_init_31 rfl rfl ?_
  refine am_sipush (v := nI 1800) dX10_init_32 rfl (by decide +kernel) ?_
  refine am_nai (k := 50) (c' := 4) (s' := 23600) (by omega) (by omega) (by omega) (by omega) dX10_init_35 rfl (by omega) (by omega) ?_
  refine am_putF f_X10_19 rfl dX10_init_37 rfl ((am_set_ne (by omega)).trans am_set_eq) (am_fit_a _ _) rfl ?_
  refine am_aload_n dX10_init_40 rfl rfl ?_
  refine am_iconst (v := nI 3) dX10_init_41 rfl (by decide +kernel) ?_
  refine am_nai (k := 51) (c' := 5) (s' := 23603) (by omega) (by omega) (by omega) (by omega) dX10_init_42 rfl (by omega) (by omega) ?_
  refine am_putF f_X10_22 rfl dX10_init_44 rfl ((am_set_ne (by omega)).trans am_set_eq) (am_fit_a _ _) rfl ?_
  refine am_aload_n dX10_init_47 rfl rfl ?_
  refine am_sipush (v := nI 4000) dX10_init_48 rfl (by decide +kernel) ?_
  refine am_nai (k := 52) (c' := 6) (s' := 27603) (by omega) (by omega) (by omega) (by omega) dX10_init_51 rfl (by omega) (by omega) ?_
  refine am_putF f_X10_25 rfl dX10_init_53 rfl ((am_set_ne (by omega)).trans am_set_eq) (am_fit_a _ _) rfl ?_
  refine am_aload_n dX10_init_56 rfl rfl ?_
  refine am_sipush (v := nI 4000) dX10_init_57 rfl (by decide +kernel) ?_
  refine am_nai (k := 53) (c' := 7) (s' := 31603) (by omega) (by omega) (by omega) (by omega) dX10_init_60 rfl (by omega) (by omega) ?_
  refine am_putF f_X10_28 rfl dX10_init_62 rfl ((am_set_ne (by omega)).trans am_set_eq) (am_fit_a _ _) rfl ?_
  refine am_aload_n dX10_init_65 rfl rfl ?_
  refine am_sipush (v := nI 1200) dX10_init_66 rfl (by decide +kernel) ?_
  refine am_nai (k := 54) (c' := 8) (s' := 32803) (by omega) (by omega) (by omega) (by omega) dX10_init_69 rfl (by omega) (by omega) ?_
  refine am_putF f_X10_31 rfl dX10_init_71 rfl ((am_set_ne (by omega)).trans am_set_eq) (am_fit_a _ _) rfl ?_
  refine am_aload_n dX10_init_74 rfl rfl ?_
  refine am_sipush (v := nI 1200) dX10_init_75 rfl (by decide +kernel) ?_
  refine am_nai (k := 55) (c' := 9) (s' := 34003) (by omega) (by omega) (by omega) (by omega) dX10_init_78 rfl (by omega) (by omega) ?_
  refine am_putF f_X10_34 rfl dX10_init_80 rfl ((am_set_ne (by omega)).trans am_set_eq) (am_fit_a _ _) rfl ?_
  refine am_aload_n dX10_init_83 rfl rfl ?_
  refine am_sipush (v := nI 1200) dX10_init_84 rfl (by decide +kernel) ?_
  refine am_naz (k := 56) (c' := 10) (s' := 35203) (by omega) (by omega) (by omega) (by omega) dX10_init_87 rfl (by omega) (by omega) ?_
  refine am_putF f_X10_37 rfl dX10_init_89 rfl ((am_set_ne (by omega)).trans am_set_eq) (am_fit_a _ _) rfl ?_
  refine am_aload_n dX10_init_92 rfl rfl ?_
  refine am_sipush (v := nI 600) dX10_init_93 rfl (by decide +kernel) ?_
  refine am_nai (k := 57) (c' := 11) (s' := 35803) (by omega) (by omega) (by omega) (by omega) dX10_init_96 rfl (by omega) (by omega) ?_
  refine am_putF f_X10_41 rfl dX10_init_98 rfl ((am_set_ne (by omega)).trans am_set_eq) (am_fit_a _ _) rfl ?_
  refine am_aload_n dX10_init_101 rfl rfl ?_
  refine am_sipush (v := nI 1200) dX10_init_102 rfl (by decide +kernel) ?_
  refine am_nai (k := 58) (c' := 12) (s' := 37003) (by omega) (by omega) (by omega) (by omega) dX10_init_105 rfl (by omega) (by omega) ?_
  refine am_putF f_X10_44 rfl dX10_init_107 rfl ((am_set_ne (by omega)).trans am_set_eq) (am_fit_a _ _) rfl ?_
  refine am_aload_n dX10_init_110 rfl rfl ?_
  refine am_sipush (v := nI 1200) dX10_init_111 rfl (by decide +kernel) ?_
  refine am_nai (k := 59) (c' := 13) (s' := 38203) (by omega) (by omega) (by omega) (by omega) dX10_init_114 rfl (by omega) (by omega) ?_
  refine am_putF f_X10_47 rfl dX10_init_116 rfl ((am_set_ne (by omega)).trans am_set_eq) (am_fit_a _ _) rfl ?_
  exact am_rv dX10_init_119 rfl rfl rfl ⟨⟨⟨0, 0, 0, am_set_eq⟩, ((am_set_ne (by omega)).trans ((am_set_ne (by omega)).trans ((am_set_ne (by omega)).trans ((am_set_ne (by omega)).trans ((am_set_ne (by omega)).trans ((am_set_ne (by omega)).trans ((am_set_ne (by omega)).trans ((am_set_ne (by omega)).trans ((am_set_ne (by omega)).trans ((am_set_ne (by omega)).trans ((am_set_ne (by omega)).trans ((am_set_ne (by omega)).trans ((am_set_ne (by omega)).trans ((am_set_ne (by omega)).trans ((am_set_ne (by omega)).trans ((am_set_ne (by omega)).trans ((am_set_ne (by omega)).trans ((am_set_ne (by omega)).trans ((am_set_ne (by omega)).trans ((am_set_ne (by omega)).trans ((am_set_ne (by omega)).trans ((am_set_ne (by omega)).trans ((am_set_ne (by omega)).trans ((am_set_ne (by omega)).trans ((am_set_ne (by omega)).trans am_set_eq))))))))))))))))))))))))), ⟨_, ((am_set_ne (by omega)).trans ((am_set_ne (by omega)).trans ((am_set_ne (by omega)).trans ((am_set_ne (by omega)).trans ((am_set_ne (by omega)).trans ((am_set_ne (by omega)).trans ((am_set_ne (by omega)).trans ((am_set_ne (by omega)).trans ((am_set_ne (by omega)).trans ((am_set_ne (by omega)).trans ((am_set_ne (by omega)).trans ((am_set_ne (by omega)).trans ((am_set_ne (by omega)).trans ((am_set_ne (by omega)).trans ((am_set_ne (by omega)).trans ((am_set_ne (by omega)).trans ((am_set_ne (by omega)).trans ((am_set_ne (by omega)).trans ((am_set_ne (by omega)).trans ((am_set_ne (by omega)).trans ((am_set_ne (by omega)).trans ((am_set_ne (by omega)).trans ((am_set_ne (by omega)).trans am_set_eq))))))))))))))))))))))), fun i v hi => absurd hi (by simp [s0])⟩, ⟨_, ((am_set_ne (by omega)).trans ((am_set_ne (by omega)).trans ((am_set_ne (by omega)).trans ((am_set_ne (by omega)).trans ((am_set_ne (by omega)).trans ((am_set_ne (by omega)).trans ((am_set_ne (by omega)).trans ((am_set_ne (by omega)).trans ((am_set_ne (by omega)).trans ((am_set_ne (by omega)).trans ((am_set_ne (by omega)).trans ((am_set_ne (by omega)).trans ((am_set_ne (by omega)).trans ((am_set_ne (by omega)).trans ((am_set_ne (by omega)).trans ((am_set_ne (by omega)).trans ((am_set_ne (by omega)).trans ((am_set_ne (by omega)).trans ((am_set_ne (by omega)).trans ((am_set_ne (by omega)).trans ((am_set_ne (by omega)).trans am_set_eq))))))))))))))))))))), fun q => absurd q (Nat.lt_irrefl 0)⟩, ⟨_, ((am_set_ne (by omega)).trans ((am_set_ne (by omega)).trans ((am_set_ne (by omega)).trans ((am_set_ne (by omega)).trans ((am_set_ne (by omega)).trans ((am_set_ne (by omega)).trans ((am_set_ne (by omega)).trans ((am_set_ne (by omega)).trans ((am_set_ne (by omega)).trans ((am_set_ne (by omega)).trans ((am_set_ne (by omega)).trans ((am_set_ne (by omega)).trans ((am_set_ne (by omega)).trans ((am_set_ne (by omega)).trans ((am_set_ne (by omega)).trans ((am_set_ne (by omega)).trans ((am_set_ne (by omega)).trans ((am_set_ne (by omega)).trans ((am_set_ne (by omega)).trans am_set_eq)))))))))))))))))))⟩, ⟨_, ((am_set_ne (by omega)).trans ((am_set_ne (by omega)).trans ((am_set_ne (by omega)).trans ((am_set_ne (by omega)).trans ((am_set_ne (by omega)).trans ((am_set_ne (by omega)).trans ((am_set_ne (by omega)).trans ((am_set_ne (by omega)).trans ((am_set_ne (by omega)).trans ((am_set_ne (by omega)).trans ((am_set_ne (by omega)).trans ((am_set_ne (by omega)).trans ((am_set_ne (by omega)).trans ((am_set_ne (by omega)).trans ((am_set_ne (by omega)).trans ((am_set_ne (by omega)).trans ((am_set_ne (by omega)).trans am_set_eq)))))))))))))))))⟩, ⟨_, ((am_set_ne (by omega)).trans ((am_set_ne (by omega)).trans ((am_set_ne (by omega)).trans ((am_set_ne (by omega)).trans ((am_set_ne (by omega)).trans ((am_set_ne (by omega)).trans ((am_set_ne (by omega)).trans ((am_set_ne (by omega)).trans ((am_set_ne (by omega)).trans ((am_set_ne (by omega)).trans ((am_set_ne (by omega)).trans ((am_set_ne (by omega)).trans ((am_set_ne (by omega)).trans ((am_set_ne (by omega)).trans ((am_set_ne (by omega)).trans am_set_eq)))))))))))))))⟩, ⟨_, ((am_set_ne (by omega)).trans ((am_set_ne (by omega)).trans ((am_set_ne (by omega)).trans ((am_set_ne (by omega)).trans ((am_set_ne (by omega)).trans ((am_set_ne (by omega)).trans ((am_set_ne (by omega)).trans ((am_set_ne (by omega)).trans ((am_set_ne (by omega)).trans ((am_set_ne (by omega)).trans ((am_set_ne (by omega)).trans ((am_set_ne (by omega)).trans ((am_set_ne (by omega)).trans am_set_eq)))))))))))))⟩, ⟨_, ((am_set_ne (by omega)).trans ((am_set_ne (by omega)).trans ((am_set_ne (by omega)).trans ((am_set_ne (by omega)).trans ((am_set_ne (by omega)).trans ((am_set_ne (by omega)).trans ((am_set_ne (by omega)).trans ((am_set_ne (by omega)).trans ((am_set_ne (by omega)).trans ((am_set_ne (by omega)).trans ((am_set_ne (by omega)).trans am_set_eq)))))))))))⟩, ⟨_, ((am_set_ne (by omega)).trans ((am_set_ne (by omega)).trans ((am_set_ne (by omega)).trans ((am_set_ne (by omega)).trans ((am_set_ne (by omega)).trans ((am_set_ne (by omega)).trans ((am_set_ne (by omega)).trans ((am_set_ne (by omega)).trans ((am_set_ne (by omega)).trans am_set_eq)))))))))⟩, ⟨_, ((am_set_ne (by omega)).trans ((am_set_ne (by omega)).trans ((am_set_ne (by omega)).trans ((am_set_ne (by omega)).trans ((am_set_ne (by omega)).trans ((am_set_ne (by omega)).trans ((am_set_ne (by omega)).trans am_set_eq)))))))⟩, ⟨_, ((am_set_ne (by omega)).trans ((am_set_ne (by omega)).trans ((am_set_ne (by omega)).trans ((am_set_ne (by omega)).trans ((am_set_ne (by omega)).trans am_set_eq)))))⟩, ⟨_, ((am_set_ne (by omega)).trans ((am_set_ne (by omega)).trans ((am_set_ne (by omega)).trans am_set_eq)))⟩, ⟨_, ((am_set_ne (by omega)).trans am_set_eq)⟩⟩, fun j a => ((am_set_ne (by omega)).trans ((am_set_ne (by omega)).trans ((am_set_ne (by omega)).trans ((am_set_ne (by omega)).trans ((am_set_ne (by omega)).trans ((am_set_ne (by omega)).trans ((am_set_ne (by omega)).trans ((am_set_ne (by omega)).trans ((am_set_ne (by omega)).trans ((am_set_ne (by omega)).trans ((am_set_ne (by omega)).trans ((am_set_ne (by omega)).trans ((am_set_ne (by omega)).trans ((am_set_ne (by omega)).trans ((am_set_ne (by omega)).trans ((am_set_ne (by omega)).trans ((am_set_ne (by omega)).trans ((am_set_ne (by omega)).trans ((am_set_ne (by omega)).trans ((am_set_ne (by omega)).trans ((am_set_ne (by omega)).trans ((am_set_ne (by omega)).trans ((am_set_ne (by omega)).trans ((am_set_ne (by omega)).trans ((am_set_ne (by omega)).trans (am_set_ne (by omega)))))))))))))))))))))))))))⟩
end CTOR

/-! ===== contracts by the kind of their answer ===== -/
def am_qi (P : Int32 → am_H → Prop) : Option am_V → am_H → Prop := fun r h' => ∃ x, r = some (.inl x) ∧ P x h'
def am_qv (P : am_H → Prop) : Option am_V → am_H → Prop := fun r h' => r = none ∧ P h'
def am_qr (P : Nat → am_H → Prop) : Option am_V → am_H → Prop := fun r h' => ∃ x, r = some (am_r x) ∧ P x h'
section AMU
variable {l : Launch} {D : va_G} {dA : Bool → ClassId} {y : am_Y} {d mc ms rc rs n0 : Nat} {X : Option (Nat × (Nat → Int32))} {Qa : Option am_V → am_H → Prop} {cells slots pc q : Nat} {L : List (Option am_V)} {S av : List am_V} {h : am_H}
theorem am_Ci {P : Int32 → am_H → Prop} (hy : plainName y.1.cls = true) (hr : y.2.2.2 = some .int) (hn : Nat.ble av.length y.2.2.1 = true)
    (body : am_At l D dA y d mc ms mc ms n0 none (am_qi P) 0 0 0 (am_ent y.2.2.1 av) [] h) : am_Ct l D dA y d mc ms n0 av h (am_qi P) :=
  am_Ct.of hy (fun r h' hq => by obtain ⟨x, rfl, -⟩ := hq; exact ⟨.int, hr, rfl⟩) (Nat.le_of_ble_eq_true hn) body
theorem am_Cz {P : Int32 → am_H → Prop} (hy : plainName y.1.cls = true) (hr : y.2.2.2 = some .boolean) (hz : ∀ x h', P x h' → x = 0 ∨ x = 1) (hn : Nat.ble av.length y.2.2.1 = true)
    (body : am_At l D dA y d mc ms mc ms n0 none (am_qi P) 0 0 0 (am_ent y.2.2.1 av) [] h) : am_Ct l D dA y d mc ms n0 av h (am_qi P) :=
  am_Ct.of hy (fun r h' hq => by
    obtain ⟨x, rfl, hx⟩ := hq
    rcases hz x h' hx with rfl | rfl
    · exact ⟨.boolean, hr, rfl⟩
    · exact ⟨.boolean, hr, rfl⟩) (Nat.le_of_ble_eq_true hn) body
theorem am_Cv {P : am_H → Prop} (hy : plainName y.1.cls = true) (hr : y.2.2.2 = none) (hn : Nat.ble av.length y.2.2.1 = true)
    (body : am_At l D dA y d mc ms mc ms n0 none (am_qv P) 0 0 0 (am_ent y.2.2.1 av) [] h) : am_Ct l D dA y d mc ms n0 av h (am_qv P) :=
  am_Ct.of hy (fun r h' hq => by obtain ⟨rfl, -⟩ := hq; exact hr) (Nat.le_of_ble_eq_true hn) body
theorem am_Cr {P : Nat → am_H → Prop} {C : String} (hy : plainName y.1.cls = true) (hr : y.2.2.2 = some (.object C)) (hn : Nat.ble av.length y.2.2.1 = true)
    (body : am_At l D dA y d mc ms mc ms n0 none (am_qr P) 0 0 0 (am_ent y.2.2.1 av) [] h) : am_Ct l D dA y d mc ms n0 av h (am_qr P) :=
  am_Ct.of hy (fun r h' hq => by obtain ⟨x, rfl, -⟩ := hq; exact ⟨C, hr⟩) (Nat.le_of_ble_eq_true hn) body
theorem am_ri {P : Int32 → am_H → Prop} {x : Int32} (hdg : decode y.2.1 pc = .ok (.ireturn, 1)) (hq : q = pc) (hc : cells = rc) (hs : slots = rs) (hQ : P x h) : am_At l D dA y d mc ms rc rs n0 X (am_qi P) cells slots q L [.inl x] h := am_iret hdg hq hc hs ⟨x, rfl, hQ⟩
theorem am_rr {P : Nat → am_H → Prop} {x : Nat} (hdg : decode y.2.1 pc = .ok (.areturn, 1)) (hq : q = pc) (hc : cells = rc) (hs : slots = rs) (hQ : P x h) : am_At l D dA y d mc ms rc rs n0 X (am_qr P) cells slots q L [am_r x] h := am_aret hdg hq hc hs ⟨x, rfl, hQ⟩
theorem am_rv {P : am_H → Prop} (hdg : decode y.2.1 pc = .ok (.return_, 1)) (hq : q = pc) (hc : cells = rc) (hs : slots = rs) (hQ : P h) : am_At l D dA y d mc ms rc rs n0 X (am_qv P) cells slots q L [] h := am_vret hdg hq hc hs ⟨rfl, hQ⟩
/-- calls of methods that make nothing -/
theorem am_vi {y' : am_Y} {d' n r ci idx : Nat} {fs rest : List am_V} {P : Int32 → am_H → Prop} (hM : am_Ct l D dA y' d' 0 0 (n0 + cells) (am_r r :: av) h (am_qi P)) (K : am_mv y' n ci) (hlk : Cond.methodLink y.1.cls idx y'.1 ∈ am_G) (hdg : decode y.2.1 pc = .ok (.invokevirtual idx, 3)) (hq : q = pc) (hn : av.length = n) (hst0 : S = av.reverse ++ am_r r :: rest) (hrest : Nat.ble rest.length 8 = true) (hc : h r = some (.inr (ci, fs))) (hd : d' + 1 ≤ d) (hm1 : cells ≤ mc) (hm2 : slots ≤ ms)
    (kk : ∀ x h', P x h' → am_At l D dA y d mc ms rc rs n0 X Qa cells slots (pc + 3) L (.inl x :: rest) h') : am_At l D dA y d mc ms rc rs n0 X Qa cells slots q L S h :=
  am_callV hM K hlk hdg hq hn hst0 (Nat.le_of_ble_eq_true hrest) hc hd hm1 hm2 (fun r h' hq => by obtain ⟨x, rfl, hx⟩ := hq; exact kk x h' hx)
theorem am_vv {y' : am_Y} {d' n r ci idx : Nat} {fs rest : List am_V} {P : am_H → Prop} (hM : am_Ct l D dA y' d' 0 0 (n0 + cells) (am_r r :: av) h (am_qv P)) (K : am_mv y' n ci) (hlk : Cond.methodLink y.1.cls idx y'.1 ∈ am_G) (hdg : decode y.2.1 pc = .ok (.invokevirtual idx, 3)) (hq : q = pc) (hn : av.length = n) (hst0 : S = av.reverse ++ am_r r :: rest) (hrest : Nat.ble rest.length 8 = true) (hc : h r = some (.inr (ci, fs))) (hd : d' + 1 ≤ d) (hm1 : cells ≤ mc) (hm2 : slots ≤ ms)
    (kk : ∀ h', P h' → am_At l D dA y d mc ms rc rs n0 X Qa cells slots (pc + 3) L rest h') : am_At l D dA y d mc ms rc rs n0 X Qa cells slots q L S h :=
  am_callV hM K hlk hdg hq hn hst0 (Nat.le_of_ble_eq_true hrest) hc hd hm1 hm2 (fun r h' hq => by obtain ⟨rfl, hx⟩ := hq; exact kk h' hx)
theorem am_vr {y' : am_Y} {d' n r ci idx : Nat} {fs rest : List am_V} {P : Nat → am_H → Prop} (hM : am_Ct l D dA y' d' 0 0 (n0 + cells) (am_r r :: av) h (am_qr P)) (K : am_mv y' n ci) (hlk : Cond.methodLink y.1.cls idx y'.1 ∈ am_G) (hdg : decode y.2.1 pc = .ok (.invokevirtual idx, 3)) (hq : q = pc) (hn : av.length = n) (hst0 : S = av.reverse ++ am_r r :: rest) (hrest : Nat.ble rest.length 8 = true) (hc : h r = some (.inr (ci, fs))) (hd : d' + 1 ≤ d) (hm1 : cells ≤ mc) (hm2 : slots ≤ ms)
    (kk : ∀ x h', P x h' → am_At l D dA y d mc ms rc rs n0 X Qa cells slots (pc + 3) L (am_r x :: rest) h') : am_At l D dA y d mc ms rc rs n0 X Qa cells slots q L S h :=
  am_callV hM K hlk hdg hq hn hst0 (Nat.le_of_ble_eq_true hrest) hc hd hm1 hm2 (fun r h' hq => by obtain ⟨x, rfl, hx⟩ := hq; exact kk x h' hx)
theorem am_si {y' : am_Y} {d' n idx : Nat} {rest : List am_V} {P : Int32 → am_H → Prop} (hM : am_Ct l D dA y' d' 0 0 (n0 + cells) av h (am_qi P)) (K : am_ms y' n) (hlk : Cond.methodLink y.1.cls idx y'.1 ∈ am_G) (hdg : decode y.2.1 pc = .ok (.invokestatic idx, 3)) (hq : q = pc) (hn : av.length = n) (hst0 : S = av.reverse ++ rest) (hrest : Nat.ble rest.length 8 = true) (hd : d' + 1 ≤ d) (hm1 : cells ≤ mc) (hm2 : slots ≤ ms)
    (kk : ∀ x h', P x h' → am_At l D dA y d mc ms rc rs n0 X Qa cells slots (pc + 3) L (.inl x :: rest) h') : am_At l D dA y d mc ms rc rs n0 X Qa cells slots q L S h :=
  am_callS hM K hlk hdg hq hn hst0 (Nat.le_of_ble_eq_true hrest) hd hm1 hm2 (fun r h' hq => by obtain ⟨x, rfl, hx⟩ := hq; exact kk x h' hx)
theorem am_sv {y' : am_Y} {d' n idx : Nat} {rest : List am_V} {P : am_H → Prop} (hM : am_Ct l D dA y' d' 0 0 (n0 + cells) av h (am_qv P)) (K : am_ms y' n) (hlk : Cond.methodLink y.1.cls idx y'.1 ∈ am_G) (hdg : decode y.2.1 pc = .ok (.invokestatic idx, 3)) (hq : q = pc) (hn : av.length = n) (hst0 : S = av.reverse ++ rest) (hrest : Nat.ble rest.length 8 = true) (hd : d' + 1 ≤ d) (hm1 : cells ≤ mc) (hm2 : slots ≤ ms)
    (kk : ∀ h', P h' → am_At l D dA y d mc ms rc rs n0 X Qa cells slots (pc + 3) L rest h') : am_At l D dA y d mc ms rc rs n0 X Qa cells slots q L S h :=
  am_callS hM K hlk hdg hq hn hst0 (Nat.le_of_ble_eq_true hrest) hd hm1 hm2 (fun r h' hq => by obtain ⟨rfl, hx⟩ := hq; exact kk h' hx)
theorem am_sin {y' : am_Y} {host : String} {d' n idx : Nat} {rest : List am_V} {P : Int32 → am_H → Prop} (hM : am_Ct l D dA y' d' 0 0 (n0 + cells) av h (am_qi P)) (K : am_ms y' n) (hlk : Cond.methodLinkNest y.1.cls idx y'.1 host ∈ am_N) (hdg : decode y.2.1 pc = .ok (.invokestatic idx, 3)) (hq : q = pc) (hn : av.length = n) (hst0 : S = av.reverse ++ rest) (hrest : Nat.ble rest.length 8 = true) (hd : d' + 1 ≤ d) (hm1 : cells ≤ mc) (hm2 : slots ≤ ms)
    (kk : ∀ x h', P x h' → am_At l D dA y d mc ms rc rs n0 X Qa cells slots (pc + 3) L (.inl x :: rest) h') : am_At l D dA y d mc ms rc rs n0 X Qa cells slots q L S h :=
  am_callSN hM K hlk hdg hq hn hst0 (Nat.le_of_ble_eq_true hrest) hd hm1 hm2 (fun r h' hq => by obtain ⟨x, rfl, hx⟩ := hq; exact kk x h' hx)
/-- the same place with other names for what is there -/
theorem am_eq {L' : List (Option am_V)} {S' : List am_V} {h' : am_H} {q' : Nat} (hp : q = q') (hL : L = L') (hS : S = S') (hh : h = h') (k : am_At l D dA y d mc ms rc rs n0 X Qa cells slots q' L' S' h') : am_At l D dA y d mc ms rc rs n0 X Qa cells slots q L S h := by
  subst hp; subst hL; subst hS; subst hh; exact k
end AMU
/-! ===== booleans; places of a row ===== -/
def am_bz (b : Bool) : Int32 := if b then nI 1 else nI 0
theorem am_bz_01 (b : Bool) : am_bz b = 0 ∨ am_bz b = 1 := by cases b; exact Or.inl (by decide +kernel); exact Or.inr (by decide +kernel)
theorem am_bz_f {b : Bool} (h : am_bz b = 0) : b = false := by cases b; rfl; exact absurd h (by decide +kernel)
theorem am_bz_t {b : Bool} (h : ¬ am_bz b = 0) : b = true := by cases b; exact absurd (by decide +kernel) h; rfl
section AMB
variable {l : Launch} {D : va_G} {dA : Bool → ClassId} {y : am_Y} {d mc ms rc rs n0 : Nat} {X : Option (Nat × (Nat → Int32))} {Qa : Option am_V → am_H → Prop} {cells slots pc q : Nat} {L : List (Option am_V)} {S av : List am_V} {h : am_H}
theorem am_bif_eq {b : Bool} {off : Int} (tgt : Nat) (hdg : decode y.2.1 pc = .ok (.ifCond .eq off, 3)) (hq : q = pc) (ht : (pc : Int) + off = (tgt : Int)) (kt : b = false → am_At l D dA y d mc ms rc rs n0 X Qa cells slots tgt L S h) (kf : b = true → am_At l D dA y d mc ms rc rs n0 X Qa cells slots (pc + 3) L S h) : am_At l D dA y d mc ms rc rs n0 X Qa cells slots q L (.inl (am_bz b) :: S) h :=
  am_if_eq tgt hdg hq ht (fun g => kt (am_bz_f g)) (fun g => kf (am_bz_t g))
theorem am_bif_ne {b : Bool} {off : Int} (tgt : Nat) (hdg : decode y.2.1 pc = .ok (.ifCond .ne off, 3)) (hq : q = pc) (ht : (pc : Int) + off = (tgt : Int)) (kt : b = true → am_At l D dA y d mc ms rc rs n0 X Qa cells slots tgt L S h) (kf : b = false → am_At l D dA y d mc ms rc rs n0 X Qa cells slots (pc + 3) L S h) : am_At l D dA y d mc ms rc rs n0 X Qa cells slots q L (.inl (am_bz b) :: S) h :=
  am_if_ne tgt hdg hq ht (fun g => kt (am_bz_t g)) (fun g => kf (am_bz_f g))
end AMB
/-- the place that an index is, of a row of c -/
def ix (i : Int32) (c : Nat) : Option Nat := if 0 ≤ i.toInt ∧ i.toInt < c then some i.toInt.toNat else none
theorem ix_in {c k : Nat} (h : k < c) (hc : c < 2 ^ 31) : ix (nI k) c = some k := by
  unfold ix
  rw [nI_toInt (by omega), if_pos (by omega)]
  rfl
theorem ix_neg {i : Int32} {c : Nat} (h : i < 0) : ix i c = none := by
  unfold ix
  have h1 := Int32.lt_iff_toInt_lt.mp h
  rw [Int32.toInt_zero] at h1
  rw [if_neg (by omega)]
theorem ix_big {i : Int32} {c : Nat} (h : nI c ≤ i) (hc : c < 2 ^ 31) : ix i c = none := by
  unfold ix
  have h1 := Int32.le_iff_toInt_le.mp h
  rw [nI_toInt hc] at h1
  rw [if_neg (by omega)]
theorem ix_of {i : Int32} {c : Nat} (h0 : ¬ i < 0) (h : ¬ nI c ≤ i) (hc : c < 2 ^ 31) : ∃ k, k < c ∧ i = nI k := by
  rcases pk_ix i hc with g | g | g
  · exact absurd g h0
  · exact absurd g h
  · exact g
theorem ix_some {i : Int32} {c k : Nat} (h : ix i c = some k) : k < c ∧ i = nI k := by
  unfold ix at h
  split at h
  · rename_i g
    cases h
    refine ⟨by omega, ?_⟩
    have h1 := Int32.toInt_lt i
    apply Int32.toInt_inj.mp
    rw [nI_toInt (by omega)]
    omega
  · cases h
theorem ix_none {i : Int32} {c : Nat} (h : ix i c = none) (hc : c < 2 ^ 31) : i < 0 ∨ nI c ≤ i := by
  rcases pk_ix i hc with g | g | ⟨k, g1, rfl⟩
  · exact Or.inl g
  · exact Or.inr g
  · rw [ix_in g1 hc] at h
    cases h

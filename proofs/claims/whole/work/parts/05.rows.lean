/-! ===== the abstract machine's rows: no heap ===== -/
section AMR
variable {l : Launch} {D : va_G} {dA : Bool → ClassId} {y : am_Y} {d mc ms rc rs n0 : Nat} {X : Option (Nat × (Nat → Int32))} {Qa : Option am_V → am_H → Prop} {cells slots pc q : Nat} {L : List (Option am_V)} {S : List am_V} {h : am_H}
theorem am_iadd {x z : Int32} (hdg : decode y.2.1 pc = .ok (.iadd, 1)) (hq : q = pc) (k : am_At l D dA y d mc ms rc rs n0 X Qa cells slots (pc + 1) L (.inl (x + z) :: S) h) : am_At l D dA y d mc ms rc rs n0 X Qa cells slots q L (.inl z :: .inl x :: S) h := by
  subst hq
  intro p e s m args below meth c A b ad0 Q hC hR ad ws H locs ls st hS hl hst
  obtain ⟨c1, st, rfl, e1, hst⟩ := am_cons hst
  obtain ⟨c2, st, rfl, e2, hst⟩ := am_cons hst
  rw [am_cv_i e1, am_cv_i e2]
  exact lv_iadd hC.1.1 hC.1.2.1 hdg (k p e s m args below meth c A b ad0 Q hC hR ad ws H locs ls _ hS hl (by simp only [List.map_cons, hst]; rfl))
theorem am_isub {x z : Int32} (hdg : decode y.2.1 pc = .ok (.isub, 1)) (hq : q = pc) (k : am_At l D dA y d mc ms rc rs n0 X Qa cells slots (pc + 1) L (.inl (x - z) :: S) h) : am_At l D dA y d mc ms rc rs n0 X Qa cells slots q L (.inl z :: .inl x :: S) h := by
  subst hq
  intro p e s m args below meth c A b ad0 Q hC hR ad ws H locs ls st hS hl hst
  obtain ⟨c1, st, rfl, e1, hst⟩ := am_cons hst
  obtain ⟨c2, st, rfl, e2, hst⟩ := am_cons hst
  rw [am_cv_i e1, am_cv_i e2]
  exact lv_isub hC.1.1 hC.1.2.1 hdg (k p e s m args below meth c A b ad0 Q hC hR ad ws H locs ls _ hS hl (by simp only [List.map_cons, hst]; rfl))
theorem am_imul {x z : Int32} (hdg : decode y.2.1 pc = .ok (.imul, 1)) (hq : q = pc) (k : am_At l D dA y d mc ms rc rs n0 X Qa cells slots (pc + 1) L (.inl (x * z) :: S) h) : am_At l D dA y d mc ms rc rs n0 X Qa cells slots q L (.inl z :: .inl x :: S) h := by
  subst hq
  intro p e s m args below meth c A b ad0 Q hC hR ad ws H locs ls st hS hl hst
  obtain ⟨c1, st, rfl, e1, hst⟩ := am_cons hst
  obtain ⟨c2, st, rfl, e2, hst⟩ := am_cons hst
  rw [am_cv_i e1, am_cv_i e2]
  exact lv_imul hC.1.1 hC.1.2.1 hdg (k p e s m args below meth c A b ad0 Q hC hR ad ws H locs ls _ hS hl (by simp only [List.map_cons, hst]; rfl))
theorem am_iand {x z : Int32} (hdg : decode y.2.1 pc = .ok (.iand, 1)) (hq : q = pc) (k : am_At l D dA y d mc ms rc rs n0 X Qa cells slots (pc + 1) L (.inl (x &&& z) :: S) h) : am_At l D dA y d mc ms rc rs n0 X Qa cells slots q L (.inl z :: .inl x :: S) h := by
  subst hq
  intro p e s m args below meth c A b ad0 Q hC hR ad ws H locs ls st hS hl hst
  obtain ⟨c1, st, rfl, e1, hst⟩ := am_cons hst
  obtain ⟨c2, st, rfl, e2, hst⟩ := am_cons hst
  rw [am_cv_i e1, am_cv_i e2]
  exact lv_iand hC.1.1 hC.1.2.1 hdg (k p e s m args below meth c A b ad0 Q hC hR ad ws H locs ls _ hS hl (by simp only [List.map_cons, hst]; rfl))
theorem am_ior {x z : Int32} (hdg : decode y.2.1 pc = .ok (.ior, 1)) (hq : q = pc) (k : am_At l D dA y d mc ms rc rs n0 X Qa cells slots (pc + 1) L (.inl (x ||| z) :: S) h) : am_At l D dA y d mc ms rc rs n0 X Qa cells slots q L (.inl z :: .inl x :: S) h := by
  subst hq
  intro p e s m args below meth c A b ad0 Q hC hR ad ws H locs ls st hS hl hst
  obtain ⟨c1, st, rfl, e1, hst⟩ := am_cons hst
  obtain ⟨c2, st, rfl, e2, hst⟩ := am_cons hst
  rw [am_cv_i e1, am_cv_i e2]
  exact lv_ior hC.1.1 hC.1.2.1 hdg (k p e s m args below meth c A b ad0 Q hC hR ad ws H locs ls _ hS hl (by simp only [List.map_cons, hst]; rfl))
theorem am_ishl {x z : Int32} (hdg : decode y.2.1 pc = .ok (.ishl, 1)) (hq : q = pc) (k : am_At l D dA y d mc ms rc rs n0 X Qa cells slots (pc + 1) L (.inl (x <<< (z &&& 31)) :: S) h) : am_At l D dA y d mc ms rc rs n0 X Qa cells slots q L (.inl z :: .inl x :: S) h := by
  subst hq
  intro p e s m args below meth c A b ad0 Q hC hR ad ws H locs ls st hS hl hst
  obtain ⟨c1, st, rfl, e1, hst⟩ := am_cons hst
  obtain ⟨c2, st, rfl, e2, hst⟩ := am_cons hst
  rw [am_cv_i e1, am_cv_i e2]
  exact lv_ishl hC.1.1 hC.1.2.1 hdg (k p e s m args below meth c A b ad0 Q hC hR ad ws H locs ls _ hS hl (by simp only [List.map_cons, hst]; rfl))
theorem am_ishr {x z : Int32} (hdg : decode y.2.1 pc = .ok (.ishr, 1)) (hq : q = pc) (k : am_At l D dA y d mc ms rc rs n0 X Qa cells slots (pc + 1) L (.inl (x >>> (z &&& 31)) :: S) h) : am_At l D dA y d mc ms rc rs n0 X Qa cells slots q L (.inl z :: .inl x :: S) h := by
  subst hq
  intro p e s m args below meth c A b ad0 Q hC hR ad ws H locs ls st hS hl hst
  obtain ⟨c1, st, rfl, e1, hst⟩ := am_cons hst
  obtain ⟨c2, st, rfl, e2, hst⟩ := am_cons hst
  rw [am_cv_i e1, am_cv_i e2]
  exact lv_ishr hC.1.1 hC.1.2.1 hdg (k p e s m args below meth c A b ad0 Q hC hR ad ws H locs ls _ hS hl (by simp only [List.map_cons, hst]; rfl))
theorem am_idiv {x z : Int32} (hdg : decode y.2.1 pc = .ok (.idiv, 1)) (hq : q = pc) (hz : ¬ z = 0) (k : am_At l D dA y d mc ms rc rs n0 X Qa cells slots (pc + 1) L (.inl (x / z) :: S) h) : am_At l D dA y d mc ms rc rs n0 X Qa cells slots q L (.inl z :: .inl x :: S) h := by
  subst hq
  intro p e s m args below meth c A b ad0 Q hC hR ad ws H locs ls st hS hl hst
  obtain ⟨c1, st, rfl, e1, hst⟩ := am_cons hst
  obtain ⟨c2, st, rfl, e2, hst⟩ := am_cons hst
  rw [am_cv_i e1, am_cv_i e2]
  exact lv_idiv hC.1.1 hC.1.2.1 hdg hz (k p e s m args below meth c A b ad0 Q hC hR ad ws H locs ls _ hS hl (by simp only [List.map_cons, hst]; rfl))
theorem am_irem {x z : Int32} (hdg : decode y.2.1 pc = .ok (.irem, 1)) (hq : q = pc) (hz : ¬ z = 0) (k : am_At l D dA y d mc ms rc rs n0 X Qa cells slots (pc + 1) L (.inl (x - x / z * z) :: S) h) : am_At l D dA y d mc ms rc rs n0 X Qa cells slots q L (.inl z :: .inl x :: S) h := by
  subst hq
  intro p e s m args below meth c A b ad0 Q hC hR ad ws H locs ls st hS hl hst
  obtain ⟨c1, st, rfl, e1, hst⟩ := am_cons hst
  obtain ⟨c2, st, rfl, e2, hst⟩ := am_cons hst
  rw [am_cv_i e1, am_cv_i e2]
  exact lv_irem hC.1.1 hC.1.2.1 hdg hz (k p e s m args below meth c A b ad0 Q hC hR ad ws H locs ls _ hS hl (by simp only [List.map_cons, hst]; rfl))
theorem am_iconst {n : Int} {v : Int32} (hdg : decode y.2.1 pc = .ok (.iconst n, 1)) (hq : q = pc) (hv : Int32.ofInt n = v) (k : am_At l D dA y d mc ms rc rs n0 X Qa cells slots (pc + 1) L (.inl v :: S) h) : am_At l D dA y d mc ms rc rs n0 X Qa cells slots q L S h := by
  subst hq
  intro p e s m args below meth c A b ad0 Q hC hR ad ws H locs ls st hS hl hst
  exact lv_iconst hC.1.1 hC.1.2.1 hdg hv (k p e s m args below meth c A b ad0 Q hC hR ad ws H locs ls _ hS hl (by simp only [List.map_cons, hst]; rfl))
theorem am_bipush {n : Int} {v : Int32} (hdg : decode y.2.1 pc = .ok (.bipush n, 2)) (hq : q = pc) (hv : (Int8.ofInt n).toInt32 = v) (k : am_At l D dA y d mc ms rc rs n0 X Qa cells slots (pc + 2) L (.inl v :: S) h) : am_At l D dA y d mc ms rc rs n0 X Qa cells slots q L S h := by
  subst hq
  intro p e s m args below meth c A b ad0 Q hC hR ad ws H locs ls st hS hl hst
  exact lv_bipush hC.1.1 hC.1.2.1 hdg hv (k p e s m args below meth c A b ad0 Q hC hR ad ws H locs ls _ hS hl (by simp only [List.map_cons, hst]; rfl))
theorem am_sipush {n : Int} {v : Int32} (hdg : decode y.2.1 pc = .ok (.sipush n, 3)) (hq : q = pc) (hv : (Int16.ofInt n).toInt32 = v) (k : am_At l D dA y d mc ms rc rs n0 X Qa cells slots (pc + 3) L (.inl v :: S) h) : am_At l D dA y d mc ms rc rs n0 X Qa cells slots q L S h := by
  subst hq
  intro p e s m args below meth c A b ad0 Q hC hR ad ws H locs ls st hS hl hst
  exact lv_sipush hC.1.1 hC.1.2.1 hdg hv (k p e s m args below meth c A b ad0 Q hC hR ad ws H locs ls _ hS hl (by simp only [List.map_cons, hst]; rfl))
theorem am_ldc {i : Nat} {v : Int32} (hdg : decode y.2.1 pc = .ok (.ldc i, 2)) (hq : q = pc) (hw : Cond.constant y.1.cls i v ∈ am_G) (k : am_At l D dA y d mc ms rc rs n0 X Qa cells slots (pc + 2) L (.inl v :: S) h) : am_At l D dA y d mc ms rc rs n0 X Qa cells slots q L S h := by
  subst hq
  intro p e s m args below meth c A b ad0 Q hC hR ad ws H locs ls st hS hl hst
  exact lv_ldc hC.1.1 hC.1.2.1 hC.1.2.2.2 (hC.2.2.1 _ hw) hdg (k p e s m args below meth c A b ad0 Q hC hR ad ws H locs ls _ hS hl (by simp only [List.map_cons, hst]; rfl))
theorem am_iload_n {i : Fin 4} {x : Int32} (hdg : decode y.2.1 pc = .ok (.iload_n i, 1)) (hq : q = pc) (hL : L[(i : Nat)]? = some (some (.inl x))) (k : am_At l D dA y d mc ms rc rs n0 X Qa cells slots (pc + 1) L (.inl x :: S) h) : am_At l D dA y d mc ms rc rs n0 X Qa cells slots q L S h := by
  subst hq
  intro p e s m args below meth c A b ad0 Q hC hR ad ws H locs ls st hS hl hst
  obtain ⟨c1, e1, g1⟩ := hl.at hL
  rw [am_cv_i e1] at g1
  exact lv_iload_n hC.1.1 hC.1.2.1 hdg rfl g1 (k p e s m args below meth c A b ad0 Q hC hR ad ws H locs ls _ hS hl (by simp only [List.map_cons, hst]; rfl))
theorem am_iload {i : Nat} {x : Int32} (hdg : decode y.2.1 pc = .ok (.iload i, 2)) (hq : q = pc) (hL : L[i]? = some (some (.inl x))) (k : am_At l D dA y d mc ms rc rs n0 X Qa cells slots (pc + 2) L (.inl x :: S) h) : am_At l D dA y d mc ms rc rs n0 X Qa cells slots q L S h := by
  subst hq
  intro p e s m args below meth c A b ad0 Q hC hR ad ws H locs ls st hS hl hst
  obtain ⟨c1, e1, g1⟩ := hl.at hL
  rw [am_cv_i e1] at g1
  exact lv_iload hC.1.1 hC.1.2.1 hdg g1 (k p e s m args below meth c A b ad0 Q hC hR ad ws H locs ls _ hS hl (by simp only [List.map_cons, hst]; rfl))
theorem am_aload_n {i : Fin 4} {r : Option Nat} (hdg : decode y.2.1 pc = .ok (.aload_n i, 1)) (hq : q = pc) (hL : L[(i : Nat)]? = some (some (.inr (some r)))) (k : am_At l D dA y d mc ms rc rs n0 X Qa cells slots (pc + 1) L (.inr (some r) :: S) h) : am_At l D dA y d mc ms rc rs n0 X Qa cells slots q L S h := by
  subst hq
  intro p e s m args below meth c A b ad0 Q hC hR ad ws H locs ls st hS hl hst
  obtain ⟨c1, e1, g1⟩ := hl.at hL
  obtain ⟨a, rfl⟩ : ∃ a, c1 = .ref a := by
    cases r with
    | none => exact ⟨b, (Option.some.inj e1).symm⟩
    | some r => obtain ⟨a, -, e⟩ := am_cv_r e1; exact ⟨a, e⟩
  exact lv_aload_n hC.1.1 hC.1.2.1 hdg rfl g1 (k p e s m args below meth c A b ad0 Q hC hR ad ws H locs ls _ hS hl (by simp only [List.map_cons, hst, e1]))
theorem am_istore_n {i : Fin 4} {x : Int32} (hdg : decode y.2.1 pc = .ok (.istore_n i, 1)) (hq : q = pc) (hn : Nat.blt (i : Nat) L.length = true) (k : am_At l D dA y d mc ms rc rs n0 X Qa cells slots (pc + 1) (L.set (i : Nat) (some (.inl x))) S h) : am_At l D dA y d mc ms rc rs n0 X Qa cells slots q L (.inl x :: S) h := by
  subst hq
  intro p e s m args below meth c A b ad0 Q hC hR ad ws H locs ls st hS hl hst
  obtain ⟨c1, st, rfl, e1, hst⟩ := am_cons hst
  rw [am_cv_i e1]
  obtain ⟨lv, g1, g2⟩ := hl.lv
  have hi : (i : Nat) < y.2.2.1 := by rw [← hl.1]; exact Nat.blt_eq.mp hn
  exact lv_istore_n hC.1.1 hC.1.2.1 hdg rfl g1 hi rfl (fun ls' h' => (k p e s m args below meth c A b ad0 Q hC hR ad ws H locs ls' _ hS (g2 _ (.inl x) _ hi rfl ls' h') hst))
theorem am_istore {i : Nat} {x : Int32} (hdg : decode y.2.1 pc = .ok (.istore i, 2)) (hq : q = pc) (hn : Nat.blt i L.length = true) (k : am_At l D dA y d mc ms rc rs n0 X Qa cells slots (pc + 2) (L.set i (some (.inl x))) S h) : am_At l D dA y d mc ms rc rs n0 X Qa cells slots q L (.inl x :: S) h := by
  subst hq
  intro p e s m args below meth c A b ad0 Q hC hR ad ws H locs ls st hS hl hst
  obtain ⟨c1, st, rfl, e1, hst⟩ := am_cons hst
  rw [am_cv_i e1]
  obtain ⟨lv, g1, g2⟩ := hl.lv
  have hi : i < y.2.2.1 := by rw [← hl.1]; exact Nat.blt_eq.mp hn
  exact lv_istore hC.1.1 hC.1.2.1 hdg g1 hi rfl (fun ls' h' => (k p e s m args below meth c A b ad0 Q hC hR ad ws H locs ls' _ hS (g2 _ (.inl x) _ hi rfl ls' h') hst))
theorem am_astore_n {i : Fin 4} {r : Nat} (hdg : decode y.2.1 pc = .ok (.astore_n i, 1)) (hq : q = pc) (hn : Nat.blt (i : Nat) L.length = true) (k : am_At l D dA y d mc ms rc rs n0 X Qa cells slots (pc + 1) (L.set (i : Nat) (some (am_r r))) S h) : am_At l D dA y d mc ms rc rs n0 X Qa cells slots q L (am_r r :: S) h := by
  subst hq
  intro p e s m args below meth c A b ad0 Q hC hR ad ws H locs ls st hS hl hst
  obtain ⟨c1, st, rfl, e1, hst2⟩ := am_cons hst
  obtain ⟨a, ha, rfl⟩ := am_cv_r e1
  obtain ⟨lv, g1, g2⟩ := hl.lv
  have hi : (i : Nat) < y.2.2.1 := by rw [← hl.1]; exact Nat.blt_eq.mp hn
  exact lv_astore_n hC.1.1 hC.1.2.1 hdg rfl g1 hi rfl (fun ls' h' => (k p e s m args below meth c A b ad0 Q hC hR ad ws H locs ls' _ hS (g2 _ (am_r r) _ hi e1 ls' h') hst2))
theorem am_iinc {i : Nat} {n : Int} {x v : Int32} (hdg : decode y.2.1 pc = .ok (.iinc i n, 3)) (hq : q = pc) (hL : L[i]? = some (some (.inl x))) (hv : x + Int32.ofInt n = v) (k : am_At l D dA y d mc ms rc rs n0 X Qa cells slots (pc + 3) (L.set i (some (.inl v))) S h) : am_At l D dA y d mc ms rc rs n0 X Qa cells slots q L S h := by
  subst hq
  intro p e s m args below meth c A b ad0 Q hC hR ad ws H locs ls st hS hl hst
  have hl0 := hl
  obtain ⟨h0, lv0, g1, g2⟩ := hl0
  obtain ⟨c1, e1, e2⟩ := g2 i _ hL
  rw [am_cv_i e1] at e2
  obtain ⟨k0, hk0⟩ := List.getElem?_of_mem e2
  have hi : i < y.2.2.1 := by rw [← h0]; exact (List.getElem?_eq_some_iff.mp hL).1
  refine lv_iinc hC.1.1 hC.1.2.1 hdg g1 hk0 hv hi rfl (fun ls' h' => k p e s m args below meth c A b ad0 Q hC hR ad ws H locs ls' st hS ⟨by rw [List.length_set]; exact h0, _, h', fun j w hj => ?_⟩ hst)
  by_cases hij : i = j
  · subst hij
    rw [List.getElem?_set_self (by omega)] at hj
    cases hj
    exact ⟨_, rfl, List.mem_cons_self⟩
  · rw [List.getElem?_set_ne hij] at hj
    obtain ⟨c', e1, e2⟩ := g2 j w hj
    refine ⟨c', e1, List.mem_cons_of_mem _ (List.mem_filter.mpr ⟨e2, ?_⟩)⟩
    have hc := am_cv_cat e1
    simp [hc, Ne.symm hij]
theorem am_dup {v : am_V} (hdg : decode y.2.1 pc = .ok (.dup, 1)) (hq : q = pc) (k : am_At l D dA y d mc ms rc rs n0 X Qa cells slots (pc + 1) L (v :: v :: S) h) : am_At l D dA y d mc ms rc rs n0 X Qa cells slots q L (v :: S) h := by
  subst hq
  intro p e s m args below meth c A b ad0 Q hC hR ad ws H locs ls st hS hl hst
  obtain ⟨c1, st, rfl, e1, hst⟩ := am_cons hst
  exact lv_dup hC.1.1 hC.1.2.1 hdg (am_cv_cat e1) (k p e s m args below meth c A b ad0 Q hC hR ad ws H locs ls _ hS hl (by simp only [List.map_cons, hst, e1]))
theorem am_pop {v : am_V} (hdg : decode y.2.1 pc = .ok (.pop, 1)) (hq : q = pc) (k : am_At l D dA y d mc ms rc rs n0 X Qa cells slots (pc + 1) L S h) : am_At l D dA y d mc ms rc rs n0 X Qa cells slots q L (v :: S) h := by
  subst hq
  intro p e s m args below meth c A b ad0 Q hC hR ad ws H locs ls st hS hl hst
  obtain ⟨c1, st, rfl, e1, hst⟩ := am_cons hst
  exact lv_pop hC.1.1 hC.1.2.1 hdg (am_cv_cat e1) (k p e s m args below meth c A b ad0 Q hC hR ad ws H locs ls _ hS hl hst)
theorem am_dup2 {v w : am_V} (hdg : decode y.2.1 pc = .ok (.dup2, 1)) (hq : q = pc) (k : am_At l D dA y d mc ms rc rs n0 X Qa cells slots (pc + 1) L (v :: w :: v :: w :: S) h) : am_At l D dA y d mc ms rc rs n0 X Qa cells slots q L (v :: w :: S) h := by
  subst hq
  intro p e s m args below meth c A b ad0 Q hC hR ad ws H locs ls st hS hl hst
  obtain ⟨c1, st, rfl, e1, hst⟩ := am_cons hst
  obtain ⟨c2, st, rfl, e2, hst⟩ := am_cons hst
  exact lv_dup2_11 hC.1.1 hC.1.2.1 hdg (am_cv_cat e1) (am_cv_cat e2) (k p e s m args below meth c A b ad0 Q hC hR ad ws H locs ls _ hS hl (by simp only [List.map_cons, hst, e1, e2]))
theorem am_goto {off : Int} (tgt : Nat) (hdg : decode y.2.1 pc = .ok (.goto off, 3)) (hq : q = pc) (ht : (pc : Int) + off = (tgt : Int)) (k : am_At l D dA y d mc ms rc rs n0 X Qa cells slots tgt L S h) : am_At l D dA y d mc ms rc rs n0 X Qa cells slots q L S h := by
  subst hq
  intro p e s m args below meth c A b ad0 Q hC hR ad ws H locs ls st hS hl hst
  exact lv_goto hC.1.1 hC.1.2.1 hdg ht (k p e s m args below meth c A b ad0 Q hC hR ad ws H locs ls _ hS hl hst)
theorem am_if_eq {x : Int32} {off : Int} (tgt : Nat) (hdg : decode y.2.1 pc = .ok (.ifCond .eq off, 3)) (hq : q = pc) (ht : (pc : Int) + off = (tgt : Int)) (kt : x = 0 → am_At l D dA y d mc ms rc rs n0 X Qa cells slots tgt L S h) (kf : ¬ x = 0 → am_At l D dA y d mc ms rc rs n0 X Qa cells slots (pc + 3) L S h) : am_At l D dA y d mc ms rc rs n0 X Qa cells slots q L (.inl x :: S) h := by
  subst hq
  intro p e s m args below meth c A b ad0 Q hC hR ad ws H locs ls st hS hl hst
  obtain ⟨c1, st, rfl, e1, hst⟩ := am_cons hst
  rw [am_cv_i e1]
  exact lv_if_eq hC.1.1 hC.1.2.1 hdg ht (fun g => (kt g p e s m args below meth c A b ad0 Q hC hR ad ws H locs ls _ hS hl hst)) (fun g => (kf g p e s m args below meth c A b ad0 Q hC hR ad ws H locs ls _ hS hl hst))
theorem am_if_ne {x : Int32} {off : Int} (tgt : Nat) (hdg : decode y.2.1 pc = .ok (.ifCond .ne off, 3)) (hq : q = pc) (ht : (pc : Int) + off = (tgt : Int)) (kt : ¬ x = 0 → am_At l D dA y d mc ms rc rs n0 X Qa cells slots tgt L S h) (kf : x = 0 → am_At l D dA y d mc ms rc rs n0 X Qa cells slots (pc + 3) L S h) : am_At l D dA y d mc ms rc rs n0 X Qa cells slots q L (.inl x :: S) h := by
  subst hq
  intro p e s m args below meth c A b ad0 Q hC hR ad ws H locs ls st hS hl hst
  obtain ⟨c1, st, rfl, e1, hst⟩ := am_cons hst
  rw [am_cv_i e1]
  exact lv_if_ne hC.1.1 hC.1.2.1 hdg ht (fun g => (kt g p e s m args below meth c A b ad0 Q hC hR ad ws H locs ls _ hS hl hst)) (fun g => (kf g p e s m args below meth c A b ad0 Q hC hR ad ws H locs ls _ hS hl hst))
theorem am_if_lt {x : Int32} {off : Int} (tgt : Nat) (hdg : decode y.2.1 pc = .ok (.ifCond .lt off, 3)) (hq : q = pc) (ht : (pc : Int) + off = (tgt : Int)) (kt : x < 0 → am_At l D dA y d mc ms rc rs n0 X Qa cells slots tgt L S h) (kf : ¬ x < 0 → am_At l D dA y d mc ms rc rs n0 X Qa cells slots (pc + 3) L S h) : am_At l D dA y d mc ms rc rs n0 X Qa cells slots q L (.inl x :: S) h := by
  subst hq
  intro p e s m args below meth c A b ad0 Q hC hR ad ws H locs ls st hS hl hst
  obtain ⟨c1, st, rfl, e1, hst⟩ := am_cons hst
  rw [am_cv_i e1]
  exact lv_if_lt hC.1.1 hC.1.2.1 hdg ht (fun g => (kt g p e s m args below meth c A b ad0 Q hC hR ad ws H locs ls _ hS hl hst)) (fun g => (kf g p e s m args below meth c A b ad0 Q hC hR ad ws H locs ls _ hS hl hst))
theorem am_if_le {x : Int32} {off : Int} (tgt : Nat) (hdg : decode y.2.1 pc = .ok (.ifCond .le off, 3)) (hq : q = pc) (ht : (pc : Int) + off = (tgt : Int)) (kt : x ≤ 0 → am_At l D dA y d mc ms rc rs n0 X Qa cells slots tgt L S h) (kf : ¬ x ≤ 0 → am_At l D dA y d mc ms rc rs n0 X Qa cells slots (pc + 3) L S h) : am_At l D dA y d mc ms rc rs n0 X Qa cells slots q L (.inl x :: S) h := by
  subst hq
  intro p e s m args below meth c A b ad0 Q hC hR ad ws H locs ls st hS hl hst
  obtain ⟨c1, st, rfl, e1, hst⟩ := am_cons hst
  rw [am_cv_i e1]
  exact lv_if_le hC.1.1 hC.1.2.1 hdg ht (fun g => (kt g p e s m args below meth c A b ad0 Q hC hR ad ws H locs ls _ hS hl hst)) (fun g => (kf g p e s m args below meth c A b ad0 Q hC hR ad ws H locs ls _ hS hl hst))
theorem am_icmp_eq {x z : Int32} {off : Int} (tgt : Nat) (hdg : decode y.2.1 pc = .ok (.if_icmp .eq off, 3)) (hq : q = pc) (ht : (pc : Int) + off = (tgt : Int)) (kt : x = z → am_At l D dA y d mc ms rc rs n0 X Qa cells slots tgt L S h) (kf : ¬ x = z → am_At l D dA y d mc ms rc rs n0 X Qa cells slots (pc + 3) L S h) : am_At l D dA y d mc ms rc rs n0 X Qa cells slots q L (.inl z :: .inl x :: S) h := by
  subst hq
  intro p e s m args below meth c A b ad0 Q hC hR ad ws H locs ls st hS hl hst
  obtain ⟨c1, st, rfl, e1, hst⟩ := am_cons hst
  obtain ⟨c2, st, rfl, e2, hst⟩ := am_cons hst
  rw [am_cv_i e1, am_cv_i e2]
  exact lv_icmp_eq hC.1.1 hC.1.2.1 hdg ht (fun g => (kt g p e s m args below meth c A b ad0 Q hC hR ad ws H locs ls _ hS hl hst)) (fun g => (kf g p e s m args below meth c A b ad0 Q hC hR ad ws H locs ls _ hS hl hst))
theorem am_icmp_ne {x z : Int32} {off : Int} (tgt : Nat) (hdg : decode y.2.1 pc = .ok (.if_icmp .ne off, 3)) (hq : q = pc) (ht : (pc : Int) + off = (tgt : Int)) (kt : ¬ x = z → am_At l D dA y d mc ms rc rs n0 X Qa cells slots tgt L S h) (kf : x = z → am_At l D dA y d mc ms rc rs n0 X Qa cells slots (pc + 3) L S h) : am_At l D dA y d mc ms rc rs n0 X Qa cells slots q L (.inl z :: .inl x :: S) h := by
  subst hq
  intro p e s m args below meth c A b ad0 Q hC hR ad ws H locs ls st hS hl hst
  obtain ⟨c1, st, rfl, e1, hst⟩ := am_cons hst
  obtain ⟨c2, st, rfl, e2, hst⟩ := am_cons hst
  rw [am_cv_i e1, am_cv_i e2]
  exact lv_icmp_ne hC.1.1 hC.1.2.1 hdg ht (fun g => (kt g p e s m args below meth c A b ad0 Q hC hR ad ws H locs ls _ hS hl hst)) (fun g => (kf g p e s m args below meth c A b ad0 Q hC hR ad ws H locs ls _ hS hl hst))
theorem am_icmp_lt {x z : Int32} {off : Int} (tgt : Nat) (hdg : decode y.2.1 pc = .ok (.if_icmp .lt off, 3)) (hq : q = pc) (ht : (pc : Int) + off = (tgt : Int)) (kt : x < z → am_At l D dA y d mc ms rc rs n0 X Qa cells slots tgt L S h) (kf : ¬ x < z → am_At l D dA y d mc ms rc rs n0 X Qa cells slots (pc + 3) L S h) : am_At l D dA y d mc ms rc rs n0 X Qa cells slots q L (.inl z :: .inl x :: S) h := by
  subst hq
  intro p e s m args below meth c A b ad0 Q hC hR ad ws H locs ls st hS hl hst
  obtain ⟨c1, st, rfl, e1, hst⟩ := am_cons hst
  obtain ⟨c2, st, rfl, e2, hst⟩ := am_cons hst
  rw [am_cv_i e1, am_cv_i e2]
  exact lv_icmp_lt hC.1.1 hC.1.2.1 hdg ht (fun g => (kt g p e s m args below meth c A b ad0 Q hC hR ad ws H locs ls _ hS hl hst)) (fun g => (kf g p e s m args below meth c A b ad0 Q hC hR ad ws H locs ls _ hS hl hst))
theorem am_icmp_ge {x z : Int32} {off : Int} (tgt : Nat) (hdg : decode y.2.1 pc = .ok (.if_icmp .ge off, 3)) (hq : q = pc) (ht : (pc : Int) + off = (tgt : Int)) (kt : z ≤ x → am_At l D dA y d mc ms rc rs n0 X Qa cells slots tgt L S h) (kf : ¬ z ≤ x → am_At l D dA y d mc ms rc rs n0 X Qa cells slots (pc + 3) L S h) : am_At l D dA y d mc ms rc rs n0 X Qa cells slots q L (.inl z :: .inl x :: S) h := by
  subst hq
  intro p e s m args below meth c A b ad0 Q hC hR ad ws H locs ls st hS hl hst
  obtain ⟨c1, st, rfl, e1, hst⟩ := am_cons hst
  obtain ⟨c2, st, rfl, e2, hst⟩ := am_cons hst
  rw [am_cv_i e1, am_cv_i e2]
  exact lv_icmp_ge hC.1.1 hC.1.2.1 hdg ht (fun g => (kt g p e s m args below meth c A b ad0 Q hC hR ad ws H locs ls _ hS hl hst)) (fun g => (kf g p e s m args below meth c A b ad0 Q hC hR ad ws H locs ls _ hS hl hst))
theorem am_icmp_gt {x z : Int32} {off : Int} (tgt : Nat) (hdg : decode y.2.1 pc = .ok (.if_icmp .gt off, 3)) (hq : q = pc) (ht : (pc : Int) + off = (tgt : Int)) (kt : z < x → am_At l D dA y d mc ms rc rs n0 X Qa cells slots tgt L S h) (kf : ¬ z < x → am_At l D dA y d mc ms rc rs n0 X Qa cells slots (pc + 3) L S h) : am_At l D dA y d mc ms rc rs n0 X Qa cells slots q L (.inl z :: .inl x :: S) h := by
  subst hq
  intro p e s m args below meth c A b ad0 Q hC hR ad ws H locs ls st hS hl hst
  obtain ⟨c1, st, rfl, e1, hst⟩ := am_cons hst
  obtain ⟨c2, st, rfl, e2, hst⟩ := am_cons hst
  rw [am_cv_i e1, am_cv_i e2]
  exact lv_icmp_gt hC.1.1 hC.1.2.1 hdg ht (fun g => (kt g p e s m args below meth c A b ad0 Q hC hR ad ws H locs ls _ hS hl hst)) (fun g => (kf g p e s m args below meth c A b ad0 Q hC hR ad ws H locs ls _ hS hl hst))
theorem am_icmp_le {x z : Int32} {off : Int} (tgt : Nat) (hdg : decode y.2.1 pc = .ok (.if_icmp .le off, 3)) (hq : q = pc) (ht : (pc : Int) + off = (tgt : Int)) (kt : x ≤ z → am_At l D dA y d mc ms rc rs n0 X Qa cells slots tgt L S h) (kf : ¬ x ≤ z → am_At l D dA y d mc ms rc rs n0 X Qa cells slots (pc + 3) L S h) : am_At l D dA y d mc ms rc rs n0 X Qa cells slots q L (.inl z :: .inl x :: S) h := by
  subst hq
  intro p e s m args below meth c A b ad0 Q hC hR ad ws H locs ls st hS hl hst
  obtain ⟨c1, st, rfl, e1, hst⟩ := am_cons hst
  obtain ⟨c2, st, rfl, e2, hst⟩ := am_cons hst
  rw [am_cv_i e1, am_cv_i e2]
  exact lv_icmp_le hC.1.1 hC.1.2.1 hdg ht (fun g => (kt g p e s m args below meth c A b ad0 Q hC hR ad ws H locs ls _ hS hl hst)) (fun g => (kf g p e s m args below meth c A b ad0 Q hC hR ad ws H locs ls _ hS hl hst))
theorem am_ncmp_eq {a z : Nat} {off : Int} (tgt : Nat) (hdg : decode y.2.1 pc = .ok (.if_icmp .eq off, 3)) (hq : q = pc) (ht : (pc : Int) + off = (tgt : Int)) (ha : a < 2 ^ 31) (hz : z < 2 ^ 31) (kt : a = z → am_At l D dA y d mc ms rc rs n0 X Qa cells slots tgt L S h) (kf : ¬ a = z → am_At l D dA y d mc ms rc rs n0 X Qa cells slots (pc + 3) L S h) : am_At l D dA y d mc ms rc rs n0 X Qa cells slots q L (.inl (nI z) :: .inl (nI a) :: S) h :=
  am_icmp_eq tgt hdg hq ht (fun g => kt ((nI_eq ha hz).mp g)) (fun g => kf (fun g2 => g ((nI_eq ha hz).mpr g2)))
theorem am_ncmp_ne {a z : Nat} {off : Int} (tgt : Nat) (hdg : decode y.2.1 pc = .ok (.if_icmp .ne off, 3)) (hq : q = pc) (ht : (pc : Int) + off = (tgt : Int)) (ha : a < 2 ^ 31) (hz : z < 2 ^ 31) (kt : ¬ a = z → am_At l D dA y d mc ms rc rs n0 X Qa cells slots tgt L S h) (kf : a = z → am_At l D dA y d mc ms rc rs n0 X Qa cells slots (pc + 3) L S h) : am_At l D dA y d mc ms rc rs n0 X Qa cells slots q L (.inl (nI z) :: .inl (nI a) :: S) h :=
  am_icmp_ne tgt hdg hq ht (fun g => kt (fun g2 => g ((nI_eq ha hz).mpr g2))) (fun g => kf ((nI_eq ha hz).mp g))
theorem am_ncmp_lt {a z : Nat} {off : Int} (tgt : Nat) (hdg : decode y.2.1 pc = .ok (.if_icmp .lt off, 3)) (hq : q = pc) (ht : (pc : Int) + off = (tgt : Int)) (ha : a < 2 ^ 31) (hz : z < 2 ^ 31) (kt : a < z → am_At l D dA y d mc ms rc rs n0 X Qa cells slots tgt L S h) (kf : z ≤ a → am_At l D dA y d mc ms rc rs n0 X Qa cells slots (pc + 3) L S h) : am_At l D dA y d mc ms rc rs n0 X Qa cells slots q L (.inl (nI z) :: .inl (nI a) :: S) h :=
  am_icmp_lt tgt hdg hq ht (fun g => kt ((nI_ltI ha hz).mp g)) (fun g => kf (Nat.not_lt.mp (fun g2 => g ((nI_ltI ha hz).mpr g2))))
theorem am_ncmp_ge {a z : Nat} {off : Int} (tgt : Nat) (hdg : decode y.2.1 pc = .ok (.if_icmp .ge off, 3)) (hq : q = pc) (ht : (pc : Int) + off = (tgt : Int)) (ha : a < 2 ^ 31) (hz : z < 2 ^ 31) (kt : z ≤ a → am_At l D dA y d mc ms rc rs n0 X Qa cells slots tgt L S h) (kf : a < z → am_At l D dA y d mc ms rc rs n0 X Qa cells slots (pc + 3) L S h) : am_At l D dA y d mc ms rc rs n0 X Qa cells slots q L (.inl (nI z) :: .inl (nI a) :: S) h :=
  am_icmp_ge tgt hdg hq ht (fun g => kt ((nI_leI hz ha).mp g)) (fun g => kf (Nat.not_le.mp (fun g2 => g ((nI_leI hz ha).mpr g2))))
theorem am_ncmp_gt {a z : Nat} {off : Int} (tgt : Nat) (hdg : decode y.2.1 pc = .ok (.if_icmp .gt off, 3)) (hq : q = pc) (ht : (pc : Int) + off = (tgt : Int)) (ha : a < 2 ^ 31) (hz : z < 2 ^ 31) (kt : z < a → am_At l D dA y d mc ms rc rs n0 X Qa cells slots tgt L S h) (kf : a ≤ z → am_At l D dA y d mc ms rc rs n0 X Qa cells slots (pc + 3) L S h) : am_At l D dA y d mc ms rc rs n0 X Qa cells slots q L (.inl (nI z) :: .inl (nI a) :: S) h :=
  am_icmp_gt tgt hdg hq ht (fun g => kt ((nI_ltI hz ha).mp g)) (fun g => kf (Nat.not_lt.mp (fun g2 => g ((nI_ltI hz ha).mpr g2))))
theorem am_ncmp_le {a z : Nat} {off : Int} (tgt : Nat) (hdg : decode y.2.1 pc = .ok (.if_icmp .le off, 3)) (hq : q = pc) (ht : (pc : Int) + off = (tgt : Int)) (ha : a < 2 ^ 31) (hz : z < 2 ^ 31) (kt : a ≤ z → am_At l D dA y d mc ms rc rs n0 X Qa cells slots tgt L S h) (kf : z < a → am_At l D dA y d mc ms rc rs n0 X Qa cells slots (pc + 3) L S h) : am_At l D dA y d mc ms rc rs n0 X Qa cells slots q L (.inl (nI z) :: .inl (nI a) :: S) h :=
  am_icmp_le tgt hdg hq ht (fun g => kt ((nI_leI ha hz).mp g)) (fun g => kf (Nat.not_le.mp (fun g2 => g ((nI_leI ha hz).mpr g2))))
theorem am_nif_eq {a : Nat} {off : Int} (tgt : Nat) (hdg : decode y.2.1 pc = .ok (.ifCond .eq off, 3)) (hq : q = pc) (ht : (pc : Int) + off = (tgt : Int)) (ha : a < 2 ^ 31) (kt : a = 0 → am_At l D dA y d mc ms rc rs n0 X Qa cells slots tgt L S h) (kf : 0 < a → am_At l D dA y d mc ms rc rs n0 X Qa cells slots (pc + 3) L S h) : am_At l D dA y d mc ms rc rs n0 X Qa cells slots q L (.inl (nI a) :: S) h :=
  am_if_eq tgt hdg hq ht (fun g => kt (by rcases Nat.eq_zero_or_pos a with e | e; exact e; exact absurd g (nI_ne0 e ha))) (fun g => kf (by rcases Nat.eq_zero_or_pos a with e | e; exact absurd (by rw [e]; exact nI_0) g; exact e))
theorem am_nif_ne {a : Nat} {off : Int} (tgt : Nat) (hdg : decode y.2.1 pc = .ok (.ifCond .ne off, 3)) (hq : q = pc) (ht : (pc : Int) + off = (tgt : Int)) (ha : a < 2 ^ 31) (kt : 0 < a → am_At l D dA y d mc ms rc rs n0 X Qa cells slots tgt L S h) (kf : a = 0 → am_At l D dA y d mc ms rc rs n0 X Qa cells slots (pc + 3) L S h) : am_At l D dA y d mc ms rc rs n0 X Qa cells slots q L (.inl (nI a) :: S) h :=
  am_if_ne tgt hdg hq ht (fun g => kt (by rcases Nat.eq_zero_or_pos a with e | e; exact absurd (by rw [e]; exact nI_0) g; exact e)) (fun g => kf (by rcases Nat.eq_zero_or_pos a with e | e; exact e; exact absurd g (nI_ne0 e ha)))
theorem am_nif_lt {a : Nat} {off : Int} (tgt : Nat) (hdg : decode y.2.1 pc = .ok (.ifCond .lt off, 3)) (hq : q = pc) (ht : (pc : Int) + off = (tgt : Int)) (ha : a < 2 ^ 31) (kf : am_At l D dA y d mc ms rc rs n0 X Qa cells slots (pc + 3) L S h) : am_At l D dA y d mc ms rc rs n0 X Qa cells slots q L (.inl (nI a) :: S) h :=
  am_if_lt tgt hdg hq ht (fun g => absurd g (nI_pos ha)) (fun _ => kf)
theorem am_nif_le {a : Nat} {off : Int} (tgt : Nat) (hdg : decode y.2.1 pc = .ok (.ifCond .le off, 3)) (hq : q = pc) (ht : (pc : Int) + off = (tgt : Int)) (ha : a < 2 ^ 31) (kt : a = 0 → am_At l D dA y d mc ms rc rs n0 X Qa cells slots tgt L S h) (kf : 0 < a → am_At l D dA y d mc ms rc rs n0 X Qa cells slots (pc + 3) L S h) : am_At l D dA y d mc ms rc rs n0 X Qa cells slots q L (.inl (nI a) :: S) h :=
  am_if_le tgt hdg hq ht (fun g => kt (by rcases Nat.eq_zero_or_pos a with e | e; exact e; exact absurd g (nI_nle e ha))) (fun g => kf (by rcases Nat.eq_zero_or_pos a with e | e; exact absurd (by rw [e, nI_0]; decide) g; exact e))
theorem am_swOut {dflt lo hi : Int} {offs : Array Int} {len : Nat} {x : Int32} (tgt : Nat) (hdg : decode y.2.1 pc = .ok (.tableswitch dflt lo hi offs, len)) (hq : q = pc) (hx : x.toInt < lo ∨ hi < x.toInt) (ht : (pc : Int) + dflt = (tgt : Int)) (k : am_At l D dA y d mc ms rc rs n0 X Qa cells slots tgt L S h) : am_At l D dA y d mc ms rc rs n0 X Qa cells slots q L (.inl x :: S) h := by
  subst hq
  intro p e s m args below meth c A b ad0 Q hC hR ad ws H locs ls st hS hl hst
  obtain ⟨c1, st, rfl, e1, hst⟩ := am_cons hst
  rw [am_cv_i e1]
  exact lv_tableOut hC.1.1 hC.1.2.1 hdg hx ht (k p e s m args below meth c A b ad0 Q hC hR ad ws H locs ls _ hS hl hst)
theorem am_swIn {dflt lo hi off : Int} {offs : Array Int} {len : Nat} {x : Int32} (tgt : Nat) (hdg : decode y.2.1 pc = .ok (.tableswitch dflt lo hi offs, len)) (hq : q = pc) (h1 : ¬ x.toInt < lo) (h2 : ¬ hi < x.toInt) (ho : offs[(x.toInt - lo).toNat]? = some off) (ht : (pc : Int) + off = (tgt : Int)) (k : am_At l D dA y d mc ms rc rs n0 X Qa cells slots tgt L S h) : am_At l D dA y d mc ms rc rs n0 X Qa cells slots q L (.inl x :: S) h := by
  subst hq
  intro p e s m args below meth c A b ad0 Q hC hR ad ws H locs ls st hS hl hst
  obtain ⟨c1, st, rfl, e1, hst⟩ := am_cons hst
  rw [am_cv_i e1]
  exact lv_tableIn hC.1.1 hC.1.2.1 hdg h1 h2 ho ht (k p e s m args below meth c A b ad0 Q hC hR ad ws H locs ls _ hS hl hst)
theorem am_ret {i : Instr} {r : Option am_V} (hdg : decode y.2.1 pc = .ok (i, 1)) (hq : q = pc) (hc : cells = rc) (hs : slots = rs) (hi : ∀ b ad st, S.map (am_cv b ad) = st.map some → am_rs b ad i r st) (hQ : Qa r h) : am_At l D dA y d mc ms rc rs n0 X Qa cells slots q L S h := by
  subst hq
  intro p e s m args below meth c A b ad0 Q hC hR ad ws H locs ls st hS hl hst
  subst hc
  subst hs
  exact hR _ i r h ad ws H locs ls st hdg (hi b ad st hst) hQ hS
theorem am_iret {x : Int32} (hdg : decode y.2.1 pc = .ok (.ireturn, 1)) (hq : q = pc) (hc : cells = rc) (hs : slots = rs) (hQ : Qa (some (.inl x)) h) : am_At l D dA y d mc ms rc rs n0 X Qa cells slots q L [.inl x] h :=
  am_ret hdg hq hc hs (fun b ad st hst => by obtain ⟨c1, st, rfl, e1, hst⟩ := am_cons hst; cases st with
    | nil => exact ⟨rfl, by rw [am_cv_i e1]⟩
    | cons => simp at hst) hQ
theorem am_aret {r : Option (Option Nat)} (hdg : decode y.2.1 pc = .ok (.areturn, 1)) (hq : q = pc) (hc : cells = rc) (hs : slots = rs) (hQ : Qa (some (.inr r)) h) : am_At l D dA y d mc ms rc rs n0 X Qa cells slots q L [.inr r] h :=
  am_ret hdg hq hc hs (fun b ad st hst => by obtain ⟨c1, st, rfl, e1, hst⟩ := am_cons hst; cases st with
    | nil => exact ⟨rfl, c1, e1, rfl⟩
    | cons => simp at hst) hQ
theorem am_vret (hdg : decode y.2.1 pc = .ok (.return_, 1)) (hq : q = pc) (hc : cells = rc) (hs : slots = rs) (hQ : Qa none h) : am_At l D dA y d mc ms rc rs n0 X Qa cells slots q L [] h :=
  am_ret hdg hq hc hs (fun b ad st hst => by cases st with
    | nil => exact ⟨rfl, rfl⟩
    | cons => simp at hst) hQ
end AMR

/-! ===== the desk itself ===== -/
section DESK
variable {l : Launch} {D : va_G} {dA : Bool → ClassId}
theorem ix_gt {i : Int32} {c : Nat} (h : nI c < i) (hc : c < 2 ^ 31) : ix i (c + 1) = none := by
  unfold ix
  rw [if_neg]
  intro ⟨a, b⟩
  have := Int32.lt_iff_toInt_lt.mp h
  rw [nI_toInt hc] at this
  omega
theorem ix_le {i : Int32} {c : Nat} (h0 : ¬ i < 0) (h : ¬ nI c < i) (hc : c + 1 < 2 ^ 31) : ∃ k, k ≤ c ∧ i = nI k ∧ ix i (c + 1) = some k := by
  obtain ⟨j, hj, rfl⟩ := nI_of h0
  have : j ≤ c := by
    by_cases g : j ≤ c
    · exact g
    · exact absurd (nI_lt (by omega) hj) h
  exact ⟨j, this, rfl, ix_in (by omega) hc⟩
/-- the bytes that stand on the tape -/
def tpL (f : Nat → Int32) (c : Nat) : List Int32 := (List.range c).map f
theorem tpL_len (f : Nat → Int32) (c : Nat) : (tpL f c).length = c := by unfold tpL; rw [List.length_map, List.length_range]
theorem tpL_at {f : Nat → Int32} {c i : Nat} {v : Int32} (h : (tpL f c)[i]? = some v) : i < c ∧ f i = v := by
  unfold tpL at h
  rw [List.getElem?_map] at h
  by_cases g : i < c
  · rw [List.getElem?_range g] at h
    exact ⟨g, by simpa using h⟩
  · rw [List.getElem?_eq_none (by rw [List.length_range]; omega)] at h
    cases h
theorem tpL_in {f : Nat → Int32} {c i : Nat} (h : i < c) : (tpL f c)[i]? = some (f i) := by
  unfold tpL
  rw [List.getElem?_map, List.getElem?_range h]
  rfl
theorem tpL_byt {f : Nat → Int32} {c : Nat} : byt (tpL f c) ↔ ∀ i, i < c → ∃ b, b < 256 ∧ f i = nI b := by
  constructor
  · intro h i hi
    exact h (f i) (List.mem_of_getElem? (tpL_in hi))
  · intro h v hv
    unfold tpL at hv
    obtain ⟨i, hi, rfl⟩ := List.mem_map.mp hv
    exact h i (List.mem_range.mp hi)
theorem rws_tpL {h : am_H} {f : Nat → Int32} {c : Nat} (h1 : h 1 = some (rwO 2 c)) (h2 : h 2 = some (.inl (false, 4000, f))) : rws h 1 2 4000 (tpL f c) := ⟨f, by rw [tpL_len]; exact h1, h2, fun i v hi => (tpL_at hi).2⟩
/-- what a desk is: tape, its count, what is made, told, blocks, codes, copies, bits, lengths -/
abbrev sS : Type := (Nat → Int32) × Nat × List Int32 × Bool × Nat × Nat × Nat × Nat × l3
def CL (h : am_H) (S : sS) : Prop := cls h (tpL S.1 S.2.1) S.2.2.1 S.2.2.2.1 S.2.2.2.2.1 S.2.2.2.2.2.1 S.2.2.2.2.2.2.1 S.2.2.2.2.2.2.2.1 S.2.2.2.2.2.2.2.2 ∧ h 2 = some (.inl (false, 4000, S.1))
def OK (S : sS) : Prop := S.2.1 ≤ 4000 ∧ byt (tpL S.1 S.2.1) ∧ S.2.2.1.length ≤ 12000 ∧ byt S.2.2.1 ∧ S.2.2.2.2.1 ≤ 8000
theorem CL.c1 {h : am_H} {S : sS} (x : CL h S) : h 1 = some (rwO 2 S.2.1) := by
  obtain ⟨g, a, -, -⟩ := x.1.tpe
  rw [tpL_len] at a
  exact a
theorem cls.at {h h' : am_H} {tp tp' md : List Int32} {op : Bool} {bl co cp bi : Nat} {ls : l3} (cl : cls h tp md op bl co cp bi ls) (f5 : am_fr h h' [1, 2]) (e : rws h' 1 2 4000 tp') : cls h' tp' md op bl co cp bi ls := ⟨(f5 0 (by simp)).trans cl.c0, e, cl.prd.at (f5 3 (by simp)) (f5 4 (by simp)), (f5 5 (by simp)).trans cl.acc, cl.sT.at (fun j _ _ => f5 j (by simp; omega)), cl.sC.at (fun j _ _ => f5 j (by simp; omega)), cl.sP.at (fun j _ _ => f5 j (by simp; omega)), cl.lT.at (f5 7 (by simp)), cl.lC.at (f5 15 (by simp)), cl.lP.at (f5 23 (by simp)), by rw [f5 30 (by simp)]; exact cl.unp, by rw [f5 31 (by simp)]; exact cl.src, by rw [f5 32 (by simp)]; exact cl.pck, by rw [f5 33 (by simp)]; exact cl.snk0, by rw [f5 34 (by simp)]; exact cl.fnd, cl.f35.at (f5 35 (by simp)), cl.f36.at (f5 36 (by simp)), cl.mrg.at (fun j _ _ => f5 j (by simp; omega)), cl.p42.at (f5 42 (by simp)), cl.p43.at (f5 43 (by simp)), cl.p44.at (f5 44 (by simp)), cl.p45.at (f5 45 (by simp))⟩
theorem CL.tp {h h' : am_H} {f f' : Nat → Int32} {c c' : Nat} {r : List Int32 × Bool × Nat × Nat × Nat × Nat × l3} (x : CL h (f, c, r)) (f5 : am_fr h h' [1, 2]) (e1 : h' 1 = some (rwO 2 c')) (e2 : h' 2 = some (.inl (false, 4000, f'))) : CL h' (f', c', r) := ⟨x.1.at f5 (rws_tpL e1 e2), e2⟩
def wb (x : Int32) (s : Nat) : Int32 := (x >>> (nI s &&& 31)) &&& nI 255
def wd4 (f : Nat → Int32) (c : Nat) (x : Int32) : Nat → Int32 := upd (upd (upd (upd f c (wb x 24)) (c + 1) (wb x 16)) (c + 2) (wb x 8)) (c + 3) (wb x 0)
def filF (f : Nat → Int32) (c : Nat) (v : Int32) : Nat → Nat → Int32
  | 0 => f
  | i + 1 => upd (filF f c v i) (c + i) v
def bckF (f : Nat → Int32) (md : List Int32) : Nat → Int32 := fun j => if j < md.length then md.getD j 0 else f j
def oFeed (a b c d e : Int32) (S : sS) : Int32 × sS := if S.2.1 + 20 ≤ 4000 then (nI (S.2.1 + 20), (wd4 (wd4 (wd4 (wd4 (wd4 S.1 S.2.1 a) (S.2.1 + 4) b) (S.2.1 + 8) c) (S.2.1 + 12) d) (S.2.1 + 16) e, S.2.1 + 20, S.2.2)) else (-1, S)
def oFill (v n : Int32) (S : sS) : Int32 × sS := match ix v 256, ix n (4000 - S.2.1 + 1) with
  | some _, some m => (nI (S.2.1 + m), (filF S.1 S.2.1 v m, S.2.1 + m, S.2.2))
  | _, _ => (-1, S)
def oPeek (i : Int32) (S : sS) : Int32 := match ix i S.2.1 with | some k => S.1 k | none => -1
def oPoke (i v : Int32) (S : sS) : Bool × sS := match ix i S.2.1, ix v 256 with
  | some k, some _ => (true, (upd S.1 k v, S.2))
  | _, _ => (false, S)
def oClear (S : sS) : sS := (S.1, 0, S.2.2)
noncomputable def rdS (f : Nat → Int32) (k w : Nat) (ls : l3) : (Nat × Nat × List Int32 × Nat × Nat) × Nat × l3 := unpR f (8 * k) w w 0 [] 0 0 0 ls
noncomputable def oRead (n s : Int32) (S : sS) : Int32 × sS := match ix n (S.2.1 + 1), ix s 8001 with
  | some k, some w => (nI (rdS S.1 k w S.2.2.2.2.2.2.2.2).1.1, (S.1, S.2.1, (rdS S.1 k w S.2.2.2.2.2.2.2.2).1.2.2.1, true, (rdS S.1 k w S.2.2.2.2.2.2.2.2).2.1, (rdS S.1 k w S.2.2.2.2.2.2.2.2).1.2.2.2.1, (rdS S.1 k w S.2.2.2.2.2.2.2.2).1.2.2.2.2, (rdS S.1 k w S.2.2.2.2.2.2.2.2).1.2.1, (rdS S.1 k w S.2.2.2.2.2.2.2.2).2.2))
  | _, _ => (-1, S)
def wtS (f : Nat → Int32) (c k : Nat) (ls : l3) : Nat × (List Int32 × Nat) × Nat × Nat × Nat × l3 := wrS (tpL f c) k ls k
def oWrite (n : Int32) (S : sS) : Int32 × sS := match ix n (S.2.1 + 1) with
  | some k => (nI (wtS S.1 S.2.1 k S.2.2.2.2.2.2.2.2).2.1.1.length, (S.1, S.2.1, (wtS S.1 S.2.1 k S.2.2.2.2.2.2.2.2).2.1.1, true, (wtS S.1 S.2.1 k S.2.2.2.2.2.2.2.2).2.2.1, (wtS S.1 S.2.1 k S.2.2.2.2.2.2.2.2).2.2.2.1, (wtS S.1 S.2.1 k S.2.2.2.2.2.2.2.2).2.2.2.2.1, (wtS S.1 S.2.1 k S.2.2.2.2.2.2.2.2).2.1.2, (wtS S.1 S.2.1 k S.2.2.2.2.2.2.2.2).2.2.2.2.2))
  | none => (-1, S)
def oBack (S : sS) : Int32 × sS := if S.2.2.1.length ≤ 4000 then (nI S.2.2.1.length, (bckF S.1 S.2.2.1, S.2.2.1.length, S.2.2)) else (-1, S)
def oOut (i : Int32) (S : sS) : Int32 := match ix i S.2.2.1.length with | some k => S.2.2.1.getD k 0 | none => -1
def oTold (i : Int32) (S : sS) : Int32 := tld S.2.2.2.1 S.2.2.2.2.1 S.2.2.2.2.2.1 S.2.2.2.2.2.2.1 S.2.2.2.2.2.2.2.1 i
def oLen (t s : Int32) (S : sS) : Int32 := if S.2.2.2.2.1 = 0 then -1 else match ix t 3 with
  | some 0 => (match ix s 19 with | some k => nI (S.2.2.2.2.2.2.2.2.1 k) | none => -1)
  | some 1 => (match ix s 510 with | some k => nI (S.2.2.2.2.2.2.2.2.2.1 k) | none => -1)
  | some _ => (match ix s 14 with | some k => nI (S.2.2.2.2.2.2.2.2.2.2 k) | none => -1)
  | none => -1
set_option maxHeartbeats 4000000 in
set_option maxRecDepth 100000 in
theorem t_addWord (d n0 : Nat) {h : am_H} {f : Nat → Int32} {c : Nat} (hr : h 1 = some (rwO 2 c)) (ha : h 2 = some (.inl (false, 4000, f))) (hc : c + 4 ≤ 4000) (x : Int32) (hd : 1 ≤ d) : am_Ct l D dA m_X3_addWord d 0 0 n0 [am_r 1, .inl x] h (am_qv fun h' => am_fr h h' [1, 2] ∧ h' 1 = some (rwO 2 (c + 4)) ∧ h' 2 = some (.inl (false, 4000, wd4 f c x))) := by
  refine am_Cv (by decide +kernel) rfl rfl ?_
  refine am_bipush (v := nI 24) dX3_addWord_0 rfl (by decide +kernel) ?_
  refine am_istore_n dX3_addWord_2 rfl rfl ?_
  refine am_iload_n dX3_addWord_3 rfl rfl ?_
  refine am_nif_lt 24 dX3_addWord_4 rfl rfl (by omega) ?_
  refine am_aload_n dX3_addWord_7 rfl rfl ?_
  refine am_iload_n dX3_addWord_8 rfl rfl ?_
  refine am_iload_n dX3_addWord_9 rfl rfl ?_
  refine am_ishr dX3_addWord_10 rfl ?_
  refine am_sipush (v := nI 255) dX3_addWord_11 rfl (by decide +kernel) ?_
  refine am_iand dX3_addWord_14 rfl ?_
  refine am_vv (t_X3_add (d - 1) _ hr ha (by omega) (by omega) (by omega) (wb x 24)) k_X3_add l_X3_23 dX3_addWord_15 rfl rfl rfl rfl hr (by omega) (Nat.le_refl _) (Nat.le_refl _) (fun g0 hx => ?_)
  have fr0 : am_fr h g0 [1, 2] := by rw [hx]; exact (am_fr.rf.set (by simp)).set (by simp)
  have r0 : g0 1 = some (rwO 2 (c + 0 + 1)) := by rw [hx]; exact am_set_eq
  have a0 : g0 2 = some (.inl (false, 4000, upd f (c + 0) (wb x 24))) := by rw [hx]; exact (am_set_ne (by omega)).trans am_set_eq
  clear hx
  refine am_iinc (n := (-8)) dX3_addWord_18 rfl rfl (by decide +kernel : nI 24 + Int32.ofInt (-8) = nI 16) ?_
  refine am_goto 3 dX3_addWord_21 rfl rfl ?_
  refine am_iload_n dX3_addWord_3 rfl rfl ?_
  refine am_nif_lt 24 dX3_addWord_4 rfl rfl (by omega) ?_
  refine am_aload_n dX3_addWord_7 rfl rfl ?_
  refine am_iload_n dX3_addWord_8 rfl rfl ?_
  refine am_iload_n dX3_addWord_9 rfl rfl ?_
  refine am_ishr dX3_addWord_10 rfl ?_
  refine am_sipush (v := nI 255) dX3_addWord_11 rfl (by decide +kernel) ?_
  refine am_iand dX3_addWord_14 rfl ?_
  refine am_vv (t_X3_add (d - 1) _ r0 a0 (by omega) (by omega) (by omega) (wb x 16)) k_X3_add l_X3_23 dX3_addWord_15 rfl rfl rfl rfl r0 (by omega) (Nat.le_refl _) (Nat.le_refl _) (fun g1 hx => ?_)
  have fr1 : am_fr g0 g1 [1, 2] := by rw [hx]; exact (am_fr.rf.set (by simp)).set (by simp)
  have r1 : g1 1 = some (rwO 2 (c + 1 + 1)) := by rw [hx]; exact am_set_eq
  have a1 : g1 2 = some (.inl (false, 4000, upd (upd f (c + 0) (wb x 24)) (c + 1) (wb x 16))) := by rw [hx]; exact (am_set_ne (by omega)).trans am_set_eq
  clear hx
  refine am_iinc (n := (-8)) dX3_addWord_18 rfl rfl (by decide +kernel : nI 16 + Int32.ofInt (-8) = nI 8) ?_
  refine am_goto 3 dX3_addWord_21 rfl rfl ?_
  refine am_iload_n dX3_addWord_3 rfl rfl ?_
  refine am_nif_lt 24 dX3_addWord_4 rfl rfl (by omega) ?_
  refine am_aload_n dX3_addWord_7 rfl rfl ?_
  refine am_iload_n dX3_addWord_8 rfl rfl ?_
  refine am_iload_n dX3_addWord_9 rfl rfl ?_
  refine am_ishr dX3_addWord_10 rfl ?_
  refine am_sipush (v := nI 255) dX3_addWord_11 rfl (by decide +kernel) ?_
  refine am_iand dX3_addWord_14 rfl ?_
  refine am_vv (t_X3_add (d - 1) _ r1 a1 (by omega) (by omega) (by omega) (wb x 8)) k_X3_add l_X3_23 dX3_addWord_15 rfl rfl rfl rfl r1 (by omega) (Nat.le_refl _) (Nat.le_refl _) (fun g2 hx => ?_)
  have fr2 : am_fr g1 g2 [1, 2] := by rw [hx]; exact (am_fr.rf.set (by simp)).set (by simp)
  have r2 : g2 1 = some (rwO 2 (c + 2 + 1)) := by rw [hx]; exact am_set_eq
  have a2 : g2 2 = some (.inl (false, 4000, upd (upd (upd f (c + 0) (wb x 24)) (c + 1) (wb x 16)) (c + 2) (wb x 8))) := by rw [hx]; exact (am_set_ne (by omega)).trans am_set_eq
  clear hx
  refine am_iinc (n := (-8)) dX3_addWord_18 rfl rfl (by decide +kernel : nI 8 + Int32.ofInt (-8) = nI 0) ?_
  refine am_goto 3 dX3_addWord_21 rfl rfl ?_
  refine am_iload_n dX3_addWord_3 rfl rfl ?_
  refine am_nif_lt 24 dX3_addWord_4 rfl rfl (by omega) ?_
  refine am_aload_n dX3_addWord_7 rfl rfl ?_
  refine am_iload_n dX3_addWord_8 rfl rfl ?_
  refine am_iload_n dX3_addWord_9 rfl rfl ?_
  refine am_ishr dX3_addWord_10 rfl ?_
  refine am_sipush (v := nI 255) dX3_addWord_11 rfl (by decide +kernel) ?_
  refine am_iand dX3_addWord_14 rfl ?_
  refine am_vv (t_X3_add (d - 1) _ r2 a2 (by omega) (by omega) (by omega) (wb x 0)) k_X3_add l_X3_23 dX3_addWord_15 rfl rfl rfl rfl r2 (by omega) (Nat.le_refl _) (Nat.le_refl _) (fun g3 hx => ?_)
  have fr3 : am_fr g2 g3 [1, 2] := by rw [hx]; exact (am_fr.rf.set (by simp)).set (by simp)
  have r3 : g3 1 = some (rwO 2 (c + 3 + 1)) := by rw [hx]; exact am_set_eq
  have a3 : g3 2 = some (.inl (false, 4000, upd (upd (upd (upd f (c + 0) (wb x 24)) (c + 1) (wb x 16)) (c + 2) (wb x 8)) (c + 3) (wb x 0))) := by rw [hx]; exact (am_set_ne (by omega)).trans am_set_eq
  clear hx
  refine am_iinc (n := (-8)) dX3_addWord_18 rfl rfl (by decide +kernel : nI 0 + Int32.ofInt (-8) = -8) ?_
  refine am_goto 3 dX3_addWord_21 rfl rfl ?_
  refine am_iload_n dX3_addWord_3 rfl rfl ?_
  refine am_if_lt 24 dX3_addWord_4 rfl rfl (fun _ => ?_) (fun g => absurd (by decide +kernel) g)
  exact am_rv dX3_addWord_24 rfl rfl rfl ⟨((fr0.tr fr1 (by simp)).tr fr2 (by simp)).tr fr3 (by simp), r3, a3⟩
set_option maxHeartbeats 4000000 in
set_option maxRecDepth 100000 in
theorem t_become (d n0 : Nat) {h : am_H} {f : Nat → Int32} {c : Nat} (hr : h 1 = some (rwO 2 c)) (ha : h 2 = some (.inl (false, 4000, f))) {md : List Int32} (hm : rws h 3 4 12000 md) (hml : md.length ≤ 4000) (hd : 1 ≤ d) : am_Ct l D dA m_X3_become d 0 0 n0 [am_r 1, am_r 3] h (am_qv fun h' => am_fr h h' [1, 2] ∧ h' 1 = some (rwO 2 md.length) ∧ h' 2 = some (.inl (false, 4000, bckF f md))) := by
  refine am_Cv (by decide +kernel) rfl rfl ?_
  obtain ⟨g, ho, hb, hg⟩ := hm
  refine am_aload_n dX3_become_0 rfl rfl ?_
  refine am_aload_n dX3_become_1 rfl rfl ?_
  refine am_get f_X3_15 dX3_become_2 rfl ho rfl ?_
  refine am_aload_n dX3_become_5 rfl rfl ?_
  refine am_get f_X3_9 dX3_become_6 rfl hr rfl ?_
  refine am_alen dX3_become_9 rfl ha ?_
  refine am_min l_X3_27 wd_mins wd_mini wd_minc dX3_become_10 rfl (Nat.le_of_ble_eq_true rfl) (by omega) (Nat.le_refl _) (Nat.le_refl _) ?_
  rw [if_neg (fun z => absurd (nI_le hml (by omega)) (Int32.not_le.mpr z))]
  refine am_put f_X3_15 dX3_become_13 rfl hr (am_fit_i _) rfl ?_
  refine am_aload_n dX3_become_16 rfl rfl ?_
  refine am_get f_X3_9 dX3_become_17 rfl ((am_set_ne (by omega)).trans ho) rfl ?_
  refine am_iconst (v := nI 0) dX3_become_20 rfl (by decide +kernel) ?_
  refine am_aload_n dX3_become_21 rfl rfl ?_
  refine am_get f_X3_9 dX3_become_22 rfl am_set_eq rfl ?_
  refine am_iconst (v := nI 0) dX3_become_25 rfl (by decide +kernel) ?_
  refine am_aload_n dX3_become_26 rfl rfl ?_
  refine am_get f_X3_15 dX3_become_27 rfl am_set_eq rfl ?_
  refine am_copy l_X3_33 wd_cpn wd_cps wd_cpi dX3_become_30 rfl (Nat.le_of_ble_eq_true rfl) (by omega) ((am_set_ne (by omega)).trans hb) ((am_set_ne (by omega)).trans ha) (sp := 0) (dp := 0) (n := md.length) (by omega) (by omega) (by omega) (by omega) ?_
  refine am_rv dX3_become_33 rfl rfl rfl ⟨(am_fr.rf.set (by simp)).set (by simp), (am_set_ne (by omega)).trans am_set_eq, am_set_eq.trans (congrArg (fun z => some (Sum.inl (false, 4000, z))) (funext fun j => ?_))⟩
  unfold va_cpy bckF
  by_cases z : j < md.length
  · rw [if_pos ⟨Nat.zero_le _, by omega⟩, if_pos z, Nat.zero_add, Nat.sub_zero, hg j (md[j]) (List.getElem?_eq_getElem z), List.getD_eq_getElem?_getD, List.getElem?_eq_getElem z]
    rfl
  · rw [if_neg (fun q => z (by omega)), if_neg z]
set_option maxHeartbeats 4000000 in
set_option maxRecDepth 100000 in
theorem t_X9_isByte (d n0 : Nat) {h : am_H} (v : Int32) : am_Ct l D dA m_X9_isByte d 0 0 n0 [.inl v] h (am_qi fun x h' => x = am_bz (ix v 256).isSome ∧ h' = h) := by
  refine am_Cz (by decide +kernel) rfl (fun x h' hx => by rw [hx.1]; exact am_bz_01 _) rfl ?_
  refine am_iload_n dX9_isByte_0 rfl rfl ?_
  refine am_if_lt 15 dX9_isByte_1 rfl rfl (fun hc => ?_) (fun hc => ?_)
  · refine am_iconst (v := nI 0) dX9_isByte_15 rfl (by decide +kernel) ?_
    exact am_ri dX9_isByte_16 rfl rfl rfl ⟨by rw [ix_neg hc]; rfl, rfl⟩
  · refine am_iload_n dX9_isByte_4 rfl rfl ?_
    refine am_sipush (v := nI 256) dX9_isByte_5 rfl (by decide +kernel) ?_
    refine am_icmp_ge 15 dX9_isByte_8 rfl rfl (fun hc2 => ?_) (fun hc2 => ?_)
    · refine am_iconst (v := nI 0) dX9_isByte_15 rfl (by decide +kernel) ?_
      exact am_ri dX9_isByte_16 rfl rfl rfl ⟨by rw [ix_big hc2 (by omega)]; rfl, rfl⟩
    · obtain ⟨j, hj, rfl⟩ := ix_of hc hc2 (by omega)
      refine am_iconst (v := nI 1) dX9_isByte_11 rfl (by decide +kernel) ?_
      refine am_goto 16 dX9_isByte_12 rfl rfl ?_
      exact am_ri dX9_isByte_16 rfl rfl rfl ⟨by rw [ix_in hj (by omega)]; rfl, rfl⟩
set_option maxHeartbeats 4000000 in
set_option maxRecDepth 100000 in
theorem t_X9_isOnTape (d n0 : Nat) {h : am_H} {f : Nat → Int32} {c : Nat} {md : List Int32} {op : Bool} {bl co cp bi : Nat} {ls : l3} (x : CL h (f, c, md, op, bl, co, cp, bi, ls)) (ok : OK (f, c, md, op, bl, co, cp, bi, ls)) (n : Int32) (hd : 1 ≤ d) : am_Ct l D dA m_X9_isOnTape d 0 0 n0 [am_r 0, .inl n] h (am_qi fun x h' => x = am_bz (ix n (c + 1)).isSome ∧ h' = h) := by
  refine am_Cz (by decide +kernel) rfl (fun x h' hx => by rw [hx.1]; exact am_bz_01 _) rfl ?_
  have hc4 : c ≤ 4000 := ok.1
  refine am_iload_n dX9_isOnTape_0 rfl rfl ?_
  refine am_if_lt 19 dX9_isOnTape_1 rfl rfl (fun hc => ?_) (fun hc => ?_)
  · refine am_iconst (v := nI 0) dX9_isOnTape_19 rfl (by decide +kernel) ?_
    exact am_ri dX9_isOnTape_20 rfl rfl rfl ⟨by rw [ix_neg hc]; rfl, rfl⟩
  · refine am_iload_n dX9_isOnTape_4 rfl rfl ?_
    refine am_aload_n dX9_isOnTape_5 rfl rfl ?_
    refine am_get f_X9_14 dX9_isOnTape_6 rfl x.1.c0 rfl ?_
    refine am_vi (t_X3_count (d - 1) _ x.c1) k_X3_count l_X9_51 dX9_isOnTape_9 rfl rfl rfl rfl x.c1 (by omega) (Nat.le_refl _) (Nat.le_refl _) (fun x h1 hx => ?_)
    obtain ⟨rfl, hh⟩ := hx
    obtain rfl := hh.symm
    refine am_icmp_gt 19 dX9_isOnTape_12 rfl rfl (fun hc2 => ?_) (fun hc2 => ?_)
    · refine am_iconst (v := nI 0) dX9_isOnTape_19 rfl (by decide +kernel) ?_
      exact am_ri dX9_isOnTape_20 rfl rfl rfl ⟨by rw [ix_gt hc2 (by show c < _; omega)]; rfl, rfl⟩
    · obtain ⟨j, hj, rfl, e⟩ := ix_le hc hc2 (by show c + 1 < _; omega)
      refine am_iconst (v := nI 1) dX9_isOnTape_15 rfl (by decide +kernel) ?_
      refine am_goto 20 dX9_isOnTape_16 rfl rfl ?_
      exact am_ri dX9_isOnTape_20 rfl rfl rfl ⟨by rw [e]; rfl, rfl⟩
set_option maxHeartbeats 4000000 in
set_option maxRecDepth 100000 in
theorem t_X9_feed (d n0 : Nat) {h : am_H} {f : Nat → Int32} {c : Nat} {md : List Int32} {op : Bool} {bl co cp bi : Nat} {ls : l3} (x : CL h (f, c, md, op, bl, co, cp, bi, ls)) (ok : OK (f, c, md, op, bl, co, cp, bi, ls)) (a1 a2 a3 a4 a5 : Int32) (hd : 2 ≤ d) : am_Ct l D dA m_X9_feed d 0 0 n0 [am_r 0, .inl a1, .inl a2, .inl a3, .inl a4, .inl a5] h (am_qi fun x h' => x = (oFeed a1 a2 a3 a4 a5 (f, c, md, op, bl, co, cp, bi, ls)).1 ∧ CL h' (oFeed a1 a2 a3 a4 a5 (f, c, md, op, bl, co, cp, bi, ls)).2 ∧ ∀ j, 46 ≤ j → h' j = h j) := by
  refine am_Ci (by decide +kernel) rfl rfl ?_
  have hc4 : c ≤ 4000 := ok.1
  refine am_aload_n dX9_feed_0 rfl rfl ?_
  refine am_get f_X9_14 dX9_feed_1 rfl x.1.c0 rfl ?_
  refine am_bipush (v := nI 20) dX9_feed_4 rfl (by decide +kernel) ?_
  refine am_vi (t_X3_hasRoomFor (d - 1) _ x.c1 x.2 (by omega) (by omega) hc4 (nI 20)) k_X3_hasRoomFor l_X9_44 dX9_feed_6 rfl rfl rfl rfl x.c1 (by omega) (Nat.le_refl _) (Nat.le_refl _) (fun z h1 hx => ?_)
  obtain ⟨rfl, hh⟩ := hx
  obtain rfl := hh.symm
  refine am_bif_ne 14 dX9_feed_9 rfl rfl (fun hc => ?_) (fun hc => ?_)
  · have g0 : c + 20 ≤ 4000 := by have := (nI_leI (a := 20) (b := 4000 - c) (by omega) (by omega)).mp (of_decide_eq_true hc); omega
    refine am_aload_n dX9_feed_14 rfl rfl ?_
    refine am_get f_X9_14 dX9_feed_15 rfl x.1.c0 rfl ?_
    refine am_iload_n dX9_feed_18 rfl rfl ?_
    refine am_vv (t_addWord (d - 1) _ x.c1 x.2 (by show c + 4 ≤ 4000; omega) a1 (by omega)) k_X3_addWord l_X9_48 dX9_feed_19 rfl rfl rfl rfl x.c1 (by omega) (Nat.le_refl _) (Nat.le_refl _) (fun h1 hx => ?_)
    obtain ⟨f1, r1, e1⟩ := hx
    have F1 : am_fr h h1 [1, 2] := f1
    refine am_aload_n dX9_feed_22 rfl rfl ?_
    refine am_get f_X9_14 dX9_feed_23 rfl ((F1 0 (by simp)).trans x.1.c0) rfl ?_
    refine am_iload_n dX9_feed_26 rfl rfl ?_
    refine am_vv (t_addWord (d - 1) _ r1 e1 (by show c + 4 + 4 ≤ 4000; omega) a2 (by omega)) k_X3_addWord l_X9_48 dX9_feed_27 rfl rfl rfl rfl r1 (by omega) (Nat.le_refl _) (Nat.le_refl _) (fun h2 hx => ?_)
    obtain ⟨f2, r2, e2⟩ := hx
    have F2 : am_fr h h2 [1, 2] := F1.tr f2 (by simp)
    refine am_aload_n dX9_feed_30 rfl rfl ?_
    refine am_get f_X9_14 dX9_feed_31 rfl ((F2 0 (by simp)).trans x.1.c0) rfl ?_
    refine am_iload_n dX9_feed_34 rfl rfl ?_
    refine am_vv (t_addWord (d - 1) _ r2 e2 (by show c + 8 + 4 ≤ 4000; omega) a3 (by omega)) k_X3_addWord l_X9_48 dX9_feed_35 rfl rfl rfl rfl r2 (by omega) (Nat.le_refl _) (Nat.le_refl _) (fun h3 hx => ?_)
    obtain ⟨f3, r3, e3⟩ := hx
    have F3 : am_fr h h3 [1, 2] := F2.tr f3 (by simp)
    refine am_aload_n dX9_feed_38 rfl rfl ?_
    refine am_get f_X9_14 dX9_feed_39 rfl ((F3 0 (by simp)).trans x.1.c0) rfl ?_
    refine am_iload dX9_feed_42 rfl rfl ?_
    refine am_vv (t_addWord (d - 1) _ r3 e3 (by show c + 12 + 4 ≤ 4000; omega) a4 (by omega)) k_X3_addWord l_X9_48 dX9_feed_44 rfl rfl rfl rfl r3 (by omega) (Nat.le_refl _) (Nat.le_refl _) (fun h4 hx => ?_)
    obtain ⟨f4, r4, e4⟩ := hx
    have F4 : am_fr h h4 [1, 2] := F3.tr f4 (by simp)
    refine am_aload_n dX9_feed_47 rfl rfl ?_
    refine am_get f_X9_14 dX9_feed_48 rfl ((F4 0 (by simp)).trans x.1.c0) rfl ?_
    refine am_iload dX9_feed_51 rfl rfl ?_
    refine am_vv (t_addWord (d - 1) _ r4 e4 (by show c + 16 + 4 ≤ 4000; omega) a5 (by omega)) k_X3_addWord l_X9_48 dX9_feed_53 rfl rfl rfl rfl r4 (by omega) (Nat.le_refl _) (Nat.le_refl _) (fun h5 hx => ?_)
    obtain ⟨f5, r5, e5⟩ := hx
    have F5 : am_fr h h5 [1, 2] := F4.tr f5 (by simp)
    refine am_aload_n dX9_feed_56 rfl rfl ?_
    refine am_get f_X9_14 dX9_feed_57 rfl ((F5 0 (by simp)).trans x.1.c0) rfl ?_
    refine am_vi (t_X3_count (d - 1) _ r5) k_X3_count l_X9_51 dX9_feed_60 rfl rfl rfl rfl r5 (by omega) (Nat.le_refl _) (Nat.le_refl _) (fun z h6 hx => ?_)
    obtain ⟨rfl, hh⟩ := hx
    obtain rfl := hh.symm
    exact am_ri dX9_feed_63 rfl rfl rfl ⟨by unfold oFeed; rw [if_pos (by exact g0)], by unfold oFeed; rw [if_pos (by exact g0)]; exact x.tp F5 r5 e5, fun j hj => F5 j (by simp; omega)⟩
  · have g0 : ¬ c + 20 ≤ 4000 := fun z => absurd ((nI_leI (a := 20) (b := 4000 - c) (by omega) (by omega)).mpr (by omega)) (of_decide_eq_false hc)
    refine am_iconst (v := -1) dX9_feed_12 rfl (by decide +kernel) ?_
    exact am_ri dX9_feed_13 rfl rfl rfl ⟨by unfold oFeed; rw [if_neg (by exact g0)], by unfold oFeed; rw [if_neg (by exact g0)]; exact x, fun j hj => rfl⟩
set_option maxHeartbeats 4000000 in
set_option maxRecDepth 100000 in
theorem t_X9_fill (d n0 : Nat) {h : am_H} {f : Nat → Int32} {c : Nat} {md : List Int32} {op : Bool} {bl co cp bi : Nat} {ls : l3} (x : CL h (f, c, md, op, bl, co, cp, bi, ls)) (ok : OK (f, c, md, op, bl, co, cp, bi, ls)) (v n : Int32) (hd : 2 ≤ d) : am_Ct l D dA m_X9_fill d 0 0 n0 [am_r 0, .inl v, .inl n] h (am_qi fun x h' => x = (oFill v n (f, c, md, op, bl, co, cp, bi, ls)).1 ∧ CL h' (oFill v n (f, c, md, op, bl, co, cp, bi, ls)).2 ∧ ∀ j, 46 ≤ j → h' j = h j) := by
  refine am_Ci (by decide +kernel) rfl rfl ?_
  have hc4 : c ≤ 4000 := ok.1
  refine am_iload_n dX9_fill_0 rfl rfl ?_
  refine am_if_lt 22 dX9_fill_1 rfl rfl (fun hc => ?_) (fun hc => ?_)
  · skip
    have e : oFill v n (f, c, md, op, bl, co, cp, bi, ls) = (-1, (f, c, md, op, bl, co, cp, bi, ls)) := by
      unfold oFill
      rw [ix_neg hc]; cases ix v 256 <;> rfl
    refine am_iconst (v := -1) dX9_fill_22 rfl (by decide +kernel) ?_
    exact am_ri dX9_fill_23 rfl rfl rfl ⟨by rw [e], by rw [e]; exact x, fun j hj => rfl⟩
  · refine am_iload_n dX9_fill_4 rfl rfl ?_
    refine am_si (t_X9_isByte (d - 1) _ v) k_X9_isByte l_X9_55 dX9_fill_5 rfl rfl rfl rfl (by omega) (Nat.le_refl _) (Nat.le_refl _) (fun z h1 hx => ?_)
    obtain ⟨rfl, hh⟩ := hx
    obtain rfl := hh.symm
    refine am_bif_eq 22 dX9_fill_8 rfl rfl (fun hb => ?_) (fun hb => ?_)
    · skip
      have e : oFill v n (f, c, md, op, bl, co, cp, bi, ls) = (-1, (f, c, md, op, bl, co, cp, bi, ls)) := by
        unfold oFill
        rw [Option.isSome_eq_false_iff.mp hb |> Option.isNone_iff_eq_none.mp]
      refine am_iconst (v := -1) dX9_fill_22 rfl (by decide +kernel) ?_
      exact am_ri dX9_fill_23 rfl rfl rfl ⟨by rw [e], by rw [e]; exact x, fun j hj => rfl⟩
    · refine am_aload_n dX9_fill_11 rfl rfl ?_
      refine am_get f_X9_14 dX9_fill_12 rfl x.1.c0 rfl ?_
      refine am_iload_n dX9_fill_15 rfl rfl ?_
      refine am_vi (t_X3_hasRoomFor (d - 1) _ x.c1 x.2 (by omega) (by omega) hc4 n) k_X3_hasRoomFor l_X9_44 dX9_fill_16 rfl rfl rfl rfl x.c1 (by omega) (Nat.le_refl _) (Nat.le_refl _) (fun z h1 hx => ?_)
      obtain ⟨rfl, hh⟩ := hx
      obtain rfl := hh.symm
      refine am_bif_ne 24 dX9_fill_19 rfl rfl (fun hr => ?_) (fun hr => ?_)
      · obtain ⟨b, hb2⟩ := Option.isSome_iff_exists.mp hb
        obtain ⟨m, hm, rfl, em⟩ := ix_le (c := 4000 - c) hc (Int32.not_lt.mpr (of_decide_eq_true hr)) (by omega)
        have e : oFill v (nI m) (f, c, md, op, bl, co, cp, bi, ls) = (nI (c + m), (filF f c v m, c + m, md, op, bl, co, cp, bi, ls)) := by
          unfold oFill
          rw [hb2, em]
        rw [e]
        refine am_iconst (v := nI 0) dX9_fill_24 rfl (by decide +kernel) ?_
        refine am_istore_n dX9_fill_25 rfl rfl ?_
        have loop : ∀ (q i : Nat) (H : am_H), i + q = m → am_fr h H [1, 2] → H 1 = some (rwO 2 (c + i)) → H 2 = some (.inl (false, 4000, filF f c v i)) → am_At l D dA m_X9_fill d 0 0 0 0 n0 none (am_qi fun x h' => x = (nI (c + m), (filF f c v m, c + m, md, op, bl, co, cp, bi, ls)).1 ∧ CL h' (nI (c + m), (filF f c v m, c + m, md, op, bl, co, cp, bi, ls)).2 ∧ ∀ j, 46 ≤ j → h' j = h j) 0 0 26 [some (am_r 0), some (.inl v), some (.inl (nI m)), some (.inl (nI i))] [] H := by
          intro q
          induction q with
          | zero =>
            intro i H hi F h1 h2
            obtain rfl : i = m := by omega
            have h0 := (F 0 (by simp)).trans x.1.c0
            refine am_iload_n dX9_fill_26 rfl rfl ?_
            refine am_iload_n dX9_fill_27 rfl rfl ?_
            refine am_ncmp_ge 45 dX9_fill_28 rfl rfl (by omega) (by omega) (fun hc => ?_) (fun hc => ?_)
            · refine am_aload_n dX9_fill_45 rfl rfl ?_
              refine am_get f_X9_14 dX9_fill_46 rfl h0 rfl ?_
              refine am_vi (t_X3_count (d - 1) _ h1) k_X3_count l_X9_51 dX9_fill_49 rfl rfl rfl rfl h1 (by omega) (Nat.le_refl _) (Nat.le_refl _) (fun z h6 hx => ?_)
              obtain ⟨rfl, hh⟩ := hx
              obtain rfl := hh.symm
              exact am_ri dX9_fill_52 rfl rfl rfl ⟨rfl, x.tp F h1 h2, fun j hj => F j (by simp; omega)⟩
            · omega
          | succ q ih =>
            intro i H hi F h1 h2
            have h0 := (F 0 (by simp)).trans x.1.c0
            refine am_iload_n dX9_fill_26 rfl rfl ?_
            refine am_iload_n dX9_fill_27 rfl rfl ?_
            refine am_ncmp_ge 45 dX9_fill_28 rfl rfl (by omega) (by omega) (fun hc => ?_) (fun hc => ?_)
            · omega
            · refine am_aload_n dX9_fill_31 rfl rfl ?_
              refine am_get f_X9_14 dX9_fill_32 rfl h0 rfl ?_
              refine am_iload_n dX9_fill_35 rfl rfl ?_
              refine am_vv (t_X3_add (d - 1) _ h1 h2 (by omega) (by omega) (by omega) v) k_X3_add l_X9_58 dX9_fill_36 rfl rfl rfl rfl h1 (by omega) (Nat.le_refl _) (Nat.le_refl _) (fun g hx => ?_)
              have F2 : am_fr H g [1, 2] := by rw [hx]; exact (am_fr.rf.set (by simp)).set (by simp)
              have r2 : g 1 = some (rwO 2 (c + (i + 1))) := by rw [hx]; exact am_set_eq
              have a2 : g 2 = some (.inl (false, 4000, filF f c v (i + 1))) := by rw [hx]; exact (am_set_ne (by omega)).trans am_set_eq
              refine am_iinc (n := 1) dX9_fill_39 rfl rfl (nI_1 i) ?_
              refine am_goto 26 dX9_fill_42 rfl rfl ?_
              exact ih (i + 1) g (by omega) (F.tr F2 (by simp)) r2 a2
        exact loop m 0 h (by omega) am_fr.rf x.c1 x.2
      · skip
        have e : oFill v n (f, c, md, op, bl, co, cp, bi, ls) = (-1, (f, c, md, op, bl, co, cp, bi, ls)) := by
          unfold oFill
          rw [ix_gt (c := 4000 - c) (Int32.not_le.mp (of_decide_eq_false hr)) (by omega)]; cases ix v 256 <;> rfl
        refine am_iconst (v := -1) dX9_fill_22 rfl (by decide +kernel) ?_
        exact am_ri dX9_fill_23 rfl rfl rfl ⟨by rw [e], by rw [e]; exact x, fun j hj => rfl⟩
set_option maxHeartbeats 4000000 in
set_option maxRecDepth 100000 in
theorem t_X9_peek (d n0 : Nat) {h : am_H} {f : Nat → Int32} {c : Nat} {md : List Int32} {op : Bool} {bl co cp bi : Nat} {ls : l3} (x : CL h (f, c, md, op, bl, co, cp, bi, ls)) (ok : OK (f, c, md, op, bl, co, cp, bi, ls)) (i : Int32) (hd : 2 ≤ d) : am_Ct l D dA m_X9_peek d 0 0 n0 [am_r 0, .inl i] h (am_qi fun x h' => x = oPeek i (f, c, md, op, bl, co, cp, bi, ls) ∧ h' = h) := by
  refine am_Ci (by decide +kernel) rfl rfl ?_
  refine am_aload_n dX9_peek_0 rfl rfl ?_
  refine am_get f_X9_14 dX9_peek_1 rfl x.1.c0 rfl ?_
  refine am_iload_n dX9_peek_4 rfl rfl ?_
  refine am_vi (t_X3_at (d - 1) _ x.c1 x.2 (by omega) (by omega) ok.1 (by omega) i) k_X3_at l_X9_61 dX9_peek_5 rfl rfl rfl rfl x.c1 (by omega) (Nat.le_refl _) (Nat.le_refl _) (fun z h1 hx => ?_)
  obtain ⟨rfl, hh⟩ := hx
  obtain rfl := hh.symm
  exact am_ri dX9_peek_8 rfl rfl rfl ⟨rfl, rfl⟩
set_option maxHeartbeats 4000000 in
set_option maxRecDepth 100000 in
theorem t_X9_poke (d n0 : Nat) {h : am_H} {f : Nat → Int32} {c : Nat} {md : List Int32} {op : Bool} {bl co cp bi : Nat} {ls : l3} (x : CL h (f, c, md, op, bl, co, cp, bi, ls)) (ok : OK (f, c, md, op, bl, co, cp, bi, ls)) (i v : Int32) (hd : 2 ≤ d) : am_Ct l D dA m_X9_poke d 0 0 n0 [am_r 0, .inl i, .inl v] h (am_qi fun x h' => x = am_bz (oPoke i v (f, c, md, op, bl, co, cp, bi, ls)).1 ∧ CL h' (oPoke i v (f, c, md, op, bl, co, cp, bi, ls)).2 ∧ ∀ j, 46 ≤ j → h' j = h j) := by
  refine am_Cz (by decide +kernel) rfl (fun x h' hx => by rw [hx.1]; exact am_bz_01 _) rfl ?_
  have hc4 : c ≤ 4000 := ok.1
  refine am_aload_n dX9_poke_0 rfl rfl ?_
  refine am_get f_X9_14 dX9_poke_1 rfl x.1.c0 rfl ?_
  refine am_iload_n dX9_poke_4 rfl rfl ?_
  refine am_vi (t_X3_has (d - 1) _ x.c1 (by show c < _; omega) i) k_X3_has l_X9_65 dX9_poke_5 rfl rfl rfl rfl x.c1 (by omega) (Nat.le_refl _) (Nat.le_refl _) (fun z h1 hx => ?_)
  obtain ⟨rfl, hh⟩ := hx
  obtain rfl := hh.symm
  refine am_bif_eq 18 dX9_poke_8 rfl rfl (fun hc => ?_) (fun hc => ?_)
  · skip
    have e : oPoke i v (f, c, md, op, bl, co, cp, bi, ls) = (false, (f, c, md, op, bl, co, cp, bi, ls)) := by
      unfold oPoke
      rw [Option.isSome_eq_false_iff.mp hc |> Option.isNone_iff_eq_none.mp]
    refine am_iconst (v := nI 0) dX9_poke_18 rfl (by decide +kernel) ?_
    exact am_ri dX9_poke_19 rfl rfl rfl ⟨by rw [e]; rfl, by rw [e]; exact x, fun j hj => rfl⟩
  · refine am_iload_n dX9_poke_11 rfl rfl ?_
    refine am_si (t_X9_isByte (d - 1) _ v) k_X9_isByte l_X9_55 dX9_poke_12 rfl rfl rfl rfl (by omega) (Nat.le_refl _) (Nat.le_refl _) (fun z h1 hx => ?_)
    obtain ⟨rfl, hh⟩ := hx
    obtain rfl := hh.symm
    refine am_bif_ne 20 dX9_poke_15 rfl rfl (fun hb => ?_) (fun hb => ?_)
    · obtain ⟨b, hb2⟩ := Option.isSome_iff_exists.mp hb
      obtain ⟨q, hq⟩ := Option.isSome_iff_exists.mp hc
      have e : oPoke i v (f, c, md, op, bl, co, cp, bi, ls) = (true, (upd f q v, c, md, op, bl, co, cp, bi, ls)) := by
        unfold oPoke
        rw [hb2]
        have hq : ix i c = some q := hq
        simp only [hq]
      refine am_aload_n dX9_poke_20 rfl rfl ?_
      refine am_get f_X9_14 dX9_poke_21 rfl x.1.c0 rfl ?_
      refine am_iload_n dX9_poke_24 rfl rfl ?_
      refine am_iload_n dX9_poke_25 rfl rfl ?_
      refine am_vv (t_X3_change (d - 1) _ x.c1 x.2 (by omega) (by omega) hc4 (by omega) i v) k_X3_change l_X9_68 dX9_poke_26 rfl rfl rfl rfl x.c1 (by omega) (Nat.le_refl _) (Nat.le_refl _) (fun g hx => ?_)
      have hg := hx.1 q hq
      refine am_iconst (v := nI 1) dX9_poke_29 rfl (by decide +kernel) ?_
      exact am_ri dX9_poke_30 rfl rfl rfl ⟨by rw [e]; rfl, by rw [e]; exact x.tp (by rw [hg]; exact am_fr.rf.set (by simp)) (by rw [hg]; exact (am_set_ne (by omega)).trans x.c1) (by rw [hg]; exact am_set_eq), fun j hj => by rw [hg]; exact am_set_ne (by omega)⟩
    · skip
      have e : oPoke i v (f, c, md, op, bl, co, cp, bi, ls) = (false, (f, c, md, op, bl, co, cp, bi, ls)) := by
        unfold oPoke
        rw [Option.isSome_eq_false_iff.mp hb |> Option.isNone_iff_eq_none.mp]; cases ix i c <;> rfl
      refine am_iconst (v := nI 0) dX9_poke_18 rfl (by decide +kernel) ?_
      exact am_ri dX9_poke_19 rfl rfl rfl ⟨by rw [e]; rfl, by rw [e]; exact x, fun j hj => rfl⟩
set_option maxHeartbeats 4000000 in
set_option maxRecDepth 100000 in
theorem t_X9_clear (d n0 : Nat) {h : am_H} {f : Nat → Int32} {c : Nat} {md : List Int32} {op : Bool} {bl co cp bi : Nat} {ls : l3} (x : CL h (f, c, md, op, bl, co, cp, bi, ls)) (ok : OK (f, c, md, op, bl, co, cp, bi, ls)) (hd : 2 ≤ d) : am_Ct l D dA m_X9_clear d 0 0 n0 [am_r 0] h (am_qv fun h' => CL h' (oClear (f, c, md, op, bl, co, cp, bi, ls)) ∧ ∀ j, 46 ≤ j → h' j = h j) := by
  refine am_Cv (by decide +kernel) rfl rfl ?_
  refine am_aload_n dX9_clear_0 rfl rfl ?_
  refine am_get f_X9_14 dX9_clear_1 rfl x.1.c0 rfl ?_
  refine am_vv (t_X3_empty (d - 1) _ x.c1) k_X3_empty l_X9_72 dX9_clear_4 rfl rfl rfl rfl x.c1 (by omega) (Nat.le_refl _) (Nat.le_refl _) (fun g hg => ?_)
  exact am_rv dX9_clear_7 rfl rfl rfl ⟨x.tp (by rw [hg]; exact am_fr.rf.set (by simp)) (by rw [hg]; exact am_set_eq) (by rw [hg]; exact (am_set_ne (by omega)).trans x.2), fun j hj => by rw [hg]; exact am_set_ne (by omega)⟩
set_option maxHeartbeats 4000000 in
set_option maxRecDepth 100000 in
theorem t_X9_made (d n0 : Nat) {h : am_H} {f : Nat → Int32} {c : Nat} {md : List Int32} {op : Bool} {bl co cp bi : Nat} {ls : l3} (x : CL h (f, c, md, op, bl, co, cp, bi, ls)) (ok : OK (f, c, md, op, bl, co, cp, bi, ls)) (hd : 2 ≤ d) : am_Ct l D dA m_X9_made d 0 0 n0 [am_r 0] h (am_qi fun x h' => x = nI md.length ∧ h' = h) := by
  refine am_Ci (by decide +kernel) rfl rfl ?_
  obtain ⟨pg, p1, p2, p3⟩ := x.1.prd
  refine am_aload_n dX9_made_0 rfl rfl ?_
  refine am_get f_X9_18 dX9_made_1 rfl x.1.c0 rfl ?_
  refine am_vi (t_count (d - 1) _ x.1.prd) k_X3_count l_X9_51 dX9_made_4 rfl rfl rfl rfl p1 (by omega) (Nat.le_refl _) (Nat.le_refl _) (fun z h1 hx => ?_)
  obtain ⟨rfl, hh⟩ := hx
  obtain rfl := hh.symm
  exact am_ri dX9_made_7 rfl rfl rfl ⟨rfl, rfl⟩
set_option maxHeartbeats 4000000 in
set_option maxRecDepth 100000 in
theorem t_X9_out (d n0 : Nat) {h : am_H} {f : Nat → Int32} {c : Nat} {md : List Int32} {op : Bool} {bl co cp bi : Nat} {ls : l3} (x : CL h (f, c, md, op, bl, co, cp, bi, ls)) (ok : OK (f, c, md, op, bl, co, cp, bi, ls)) (i : Int32) (hd : 2 ≤ d) : am_Ct l D dA m_X9_out d 0 0 n0 [am_r 0, .inl i] h (am_qi fun x h' => x = oOut i (f, c, md, op, bl, co, cp, bi, ls) ∧ h' = h) := by
  refine am_Ci (by decide +kernel) rfl rfl ?_
  obtain ⟨pg, p1, p2, p3⟩ := x.1.prd
  refine am_aload_n dX9_out_0 rfl rfl ?_
  refine am_get f_X9_18 dX9_out_1 rfl x.1.c0 rfl ?_
  refine am_iload_n dX9_out_4 rfl rfl ?_
  refine am_vi (t_at (d - 1) _ x.1.prd (by omega) (by omega) ok.2.2.1 (by omega) i) k_X3_at l_X9_61 dX9_out_5 rfl rfl rfl rfl p1 (by omega) (Nat.le_refl _) (Nat.le_refl _) (fun z h1 hx => ?_)
  obtain ⟨rfl, hh⟩ := hx
  obtain rfl := hh.symm
  exact am_ri dX9_out_8 rfl rfl rfl ⟨rfl, rfl⟩
set_option maxHeartbeats 4000000 in
set_option maxRecDepth 100000 in
theorem t_X9_told (d n0 : Nat) {h : am_H} {f : Nat → Int32} {c : Nat} {md : List Int32} {op : Bool} {bl co cp bi : Nat} {ls : l3} (x : CL h (f, c, md, op, bl, co, cp, bi, ls)) (ok : OK (f, c, md, op, bl, co, cp, bi, ls)) (i : Int32) (hd : 2 ≤ d) : am_Ct l D dA m_X9_told d 0 0 n0 [am_r 0, .inl i] h (am_qi fun x h' => x = oTold i (f, c, md, op, bl, co, cp, bi, ls) ∧ h' = h) := by
  refine am_Ci (by decide +kernel) rfl rfl ?_
  refine am_aload_n dX9_told_0 rfl rfl ?_
  refine am_get f_X9_24 dX9_told_1 rfl x.1.c0 rfl ?_
  refine am_iload_n dX9_told_4 rfl rfl ?_
  refine am_vi (t_X0_number (d - 1) _ x.1.acc i) k_X0_number l_X9_89 dX9_told_5 rfl rfl rfl rfl x.1.acc (by omega) (Nat.le_refl _) (Nat.le_refl _) (fun z h1 hx => ?_)
  obtain ⟨rfl, hh⟩ := hx
  obtain rfl := hh.symm
  exact am_ri dX9_told_8 rfl rfl rfl ⟨rfl, rfl⟩
set_option maxHeartbeats 4000000 in
set_option maxRecDepth 100000 in
theorem t_X9_length (d n0 : Nat) {h : am_H} {f : Nat → Int32} {c : Nat} {md : List Int32} {op : Bool} {bl co cp bi : Nat} {ls : l3} (x : CL h (f, c, md, op, bl, co, cp, bi, ls)) (ok : OK (f, c, md, op, bl, co, cp, bi, ls)) (t s : Int32) (hd : 2 ≤ d) : am_Ct l D dA m_X9_length d 0 0 n0 [am_r 0, .inl t, .inl s] h (am_qi fun x h' => x = oLen t s (f, c, md, op, bl, co, cp, bi, ls) ∧ h' = h) := by
  refine am_Ci (by decide +kernel) rfl rfl ?_
  have hbl : bl ≤ 8000 := ok.2.2.2.2
  refine am_aload_n dX9_length_0 rfl rfl ?_
  refine am_get f_X9_24 dX9_length_1 rfl x.1.c0 rfl ?_
  refine am_vi (t_X0_hasBlock (d - 1) _ x.1.acc (by show bl < _; omega)) k_X0_hasBlock l_X9_92 dX9_length_4 rfl rfl rfl rfl x.1.acc (by omega) (Nat.le_refl _) (Nat.le_refl _) (fun z h1 hx => ?_)
  obtain ⟨rfl, hh⟩ := hx
  obtain rfl := hh.symm
  refine am_bif_eq 19 dX9_length_7 rfl rfl (fun hc => ?_) (fun hc => ?_)
  · skip
    have e : oLen t s (f, c, md, op, bl, co, cp, bi, ls) = -1 := by
      unfold oLen
      rw [if_pos (by have := of_decide_eq_false hc; show bl = 0; have : ¬ 0 < bl := this; omega)]
    refine am_iconst (v := -1) dX9_length_19 rfl (by decide +kernel) ?_
    exact am_ri dX9_length_20 rfl rfl rfl ⟨e.symm, rfl⟩
  · have hb0 : ¬ bl = 0 := by have : 0 < bl := of_decide_eq_true hc; omega
    refine am_iload_n dX9_length_10 rfl rfl ?_
    refine am_if_lt 19 dX9_length_11 rfl rfl (fun h0 => ?_) (fun h0 => ?_)
    · skip
      have e : oLen t s (f, c, md, op, bl, co, cp, bi, ls) = -1 := by
        unfold oLen
        rw [if_neg (by exact hb0), ix_neg h0]
      refine am_iconst (v := -1) dX9_length_19 rfl (by decide +kernel) ?_
      exact am_ri dX9_length_20 rfl rfl rfl ⟨e.symm, rfl⟩
    · refine am_iload_n dX9_length_14 rfl rfl ?_
      refine am_iconst (v := nI 3) dX9_length_15 rfl (by decide +kernel) ?_
      refine am_icmp_lt 21 dX9_length_16 rfl rfl (fun h3 => ?_) (fun h3 => ?_)
      · obtain ⟨j, hj, rfl⟩ := ix_of h0 (Int32.not_le.mpr h3) (by omega)
        have ej : ix (nI j) 3 = some j := ix_in hj (by omega)
        refine am_aload_n dX9_length_21 rfl rfl ?_
        refine am_get f_X9_24 dX9_length_22 rfl x.1.c0 rfl ?_
        refine am_iload_n dX9_length_25 rfl rfl ?_
        obtain rfl | rfl | rfl : j = 0 ∨ j = 1 ∨ j = 2 := by omega
        · obtain ⟨⟨al, ht⟩, -⟩ := x.1.sT
          obtain ⟨lf, hl1, hl2⟩ := x.1.lT
          refine am_vr (t_X0_tree0 (d - 1) _ x.1.acc) k_X0_tree l_X9_96 dX9_length_26 rfl rfl rfl rfl x.1.acc (by omega) (Nat.le_refl _) (Nat.le_refl _) (fun z h1 hx => ?_)
          obtain ⟨rfl, hh⟩ := hx
          obtain rfl := hh.symm
          refine am_iload_n dX9_length_29 rfl rfl ?_
          refine am_vi (t_X7_lengthOf (d - 1) _ ht hl1 (by omega) (by omega) s) k_X7_lengthOf l_X9_100 dX9_length_30 rfl rfl rfl rfl ht (by omega) (Nat.le_refl _) (Nat.le_refl _) (fun z h1 hx => ?_)
          obtain ⟨rfl, hh⟩ := hx
          obtain rfl := hh.symm
          have e : oLen (nI 0) s (f, c, md, op, bl, co, cp, bi, ls) = (match ix s 19 with | some k => lf k | none => -1) := by
            unfold oLen
            rw [if_neg (by exact hb0), ej]
            show (match ix s 19 with | some k => nI (ls.1 k) | none => -1) = _
            cases hs : ix s 19 with
            | none => rfl
            | some k => exact (hl2 k (ix_some hs).1).1.symm
          exact am_ri dX9_length_33 rfl rfl rfl ⟨e.symm, rfl⟩
        · obtain ⟨⟨al, ht⟩, -⟩ := x.1.sC
          obtain ⟨lf, hl1, hl2⟩ := x.1.lC
          refine am_vr (t_X0_tree1 (d - 1) _ x.1.acc) k_X0_tree l_X9_96 dX9_length_26 rfl rfl rfl rfl x.1.acc (by omega) (Nat.le_refl _) (Nat.le_refl _) (fun z h1 hx => ?_)
          obtain ⟨rfl, hh⟩ := hx
          obtain rfl := hh.symm
          refine am_iload_n dX9_length_29 rfl rfl ?_
          refine am_vi (t_X7_lengthOf (d - 1) _ ht hl1 (by omega) (by omega) s) k_X7_lengthOf l_X9_100 dX9_length_30 rfl rfl rfl rfl ht (by omega) (Nat.le_refl _) (Nat.le_refl _) (fun z h1 hx => ?_)
          obtain ⟨rfl, hh⟩ := hx
          obtain rfl := hh.symm
          have e : oLen (nI 1) s (f, c, md, op, bl, co, cp, bi, ls) = (match ix s 510 with | some k => lf k | none => -1) := by
            unfold oLen
            rw [if_neg (by exact hb0), ej]
            show (match ix s 510 with | some k => nI (ls.2.1 k) | none => -1) = _
            cases hs : ix s 510 with
            | none => rfl
            | some k => exact (hl2 k (ix_some hs).1).1.symm
          exact am_ri dX9_length_33 rfl rfl rfl ⟨e.symm, rfl⟩
        · obtain ⟨⟨al, ht⟩, -⟩ := x.1.sP
          obtain ⟨lf, hl1, hl2⟩ := x.1.lP
          refine am_vr (t_X0_tree2 (d - 1) _ x.1.acc) k_X0_tree l_X9_96 dX9_length_26 rfl rfl rfl rfl x.1.acc (by omega) (Nat.le_refl _) (Nat.le_refl _) (fun z h1 hx => ?_)
          obtain ⟨rfl, hh⟩ := hx
          obtain rfl := hh.symm
          refine am_iload_n dX9_length_29 rfl rfl ?_
          refine am_vi (t_X7_lengthOf (d - 1) _ ht hl1 (by omega) (by omega) s) k_X7_lengthOf l_X9_100 dX9_length_30 rfl rfl rfl rfl ht (by omega) (Nat.le_refl _) (Nat.le_refl _) (fun z h1 hx => ?_)
          obtain ⟨rfl, hh⟩ := hx
          obtain rfl := hh.symm
          have e : oLen (nI 2) s (f, c, md, op, bl, co, cp, bi, ls) = (match ix s 14 with | some k => lf k | none => -1) := by
            unfold oLen
            rw [if_neg (by exact hb0), ej]
            show (match ix s 14 with | some k => nI (ls.2.2 k) | none => -1) = _
            cases hs : ix s 14 with
            | none => rfl
            | some k => exact (hl2 k (ix_some hs).1).1.symm
          exact am_ri dX9_length_33 rfl rfl rfl ⟨e.symm, rfl⟩
      · skip
        have e : oLen t s (f, c, md, op, bl, co, cp, bi, ls) = -1 := by
          unfold oLen
          rw [if_neg (by exact hb0), ix_big (c := 3) (Int32.not_lt.mp h3) (by omega)]
        refine am_iconst (v := -1) dX9_length_19 rfl (by decide +kernel) ?_
        exact am_ri dX9_length_20 rfl rfl rfl ⟨e.symm, rfl⟩
set_option maxHeartbeats 4000000 in
set_option maxRecDepth 100000 in
theorem t_X9_read (d n0 : Nat) {h : am_H} {f : Nat → Int32} {c : Nat} {md : List Int32} {op : Bool} {bl co cp bi : Nat} {ls : l3} (x : CL h (f, c, md, op, bl, co, cp, bi, ls)) (ok : OK (f, c, md, op, bl, co, cp, bi, ls)) (n s : Int32) (hd : 8 ≤ d) : am_Ct l D dA m_X9_read d 0 0 n0 [am_r 0, .inl n, .inl s] h (am_qi fun x h' => x = (oRead n s (f, c, md, op, bl, co, cp, bi, ls)).1 ∧ CL h' (oRead n s (f, c, md, op, bl, co, cp, bi, ls)).2 ∧ ∀ j, 46 ≤ j → h' j = h j) := by
  refine am_Ci (by decide +kernel) rfl rfl ?_
  have hc4 : c ≤ 4000 := ok.1
  obtain ⟨wa0, hu⟩ := x.1.unp
  obtain ⟨u0, v0, hsr⟩ := x.1.src
  refine am_aload_n dX9_read_0 rfl rfl ?_
  refine am_iload_n dX9_read_1 rfl rfl ?_
  refine am_vi (t_X9_isOnTape (d - 1) _ x ok n (by omega)) k_X9_isOnTape l_X9_75 dX9_read_2 rfl rfl rfl rfl x.1.c0 (by omega) (Nat.le_refl _) (Nat.le_refl _) (fun z h1 hx => ?_)
  obtain ⟨rfl, hh⟩ := hx
  obtain rfl := hh.symm
  refine am_bif_eq 19 dX9_read_5 rfl rfl (fun hc => ?_) (fun hc => ?_)
  · skip
    have e : oRead n s (f, c, md, op, bl, co, cp, bi, ls) = (-1, (f, c, md, op, bl, co, cp, bi, ls)) := by
      unfold oRead
      rw [show ix n (c + 1) = none from Option.isSome_eq_false_iff.mp hc |> Option.isNone_iff_eq_none.mp]
    refine am_iconst (v := -1) dX9_read_19 rfl (by decide +kernel) ?_
    exact am_ri dX9_read_20 rfl rfl rfl ⟨by rw [e], by rw [e]; exact x, fun j hj => rfl⟩
  · refine am_iload_n dX9_read_8 rfl rfl ?_
    refine am_if_lt 19 dX9_read_9 rfl rfl (fun h0 => ?_) (fun h0 => ?_)
    · skip
      have e : oRead n s (f, c, md, op, bl, co, cp, bi, ls) = (-1, (f, c, md, op, bl, co, cp, bi, ls)) := by
        unfold oRead
        rw [ix_neg h0]; cases ix n (c + 1) <;> rfl
      refine am_iconst (v := -1) dX9_read_19 rfl (by decide +kernel) ?_
      exact am_ri dX9_read_20 rfl rfl rfl ⟨by rw [e], by rw [e]; exact x, fun j hj => rfl⟩
    · refine am_iload_n dX9_read_12 rfl rfl ?_
      refine am_sipush (v := nI 8000) dX9_read_13 rfl (by decide +kernel) ?_
      refine am_icmp_le 21 dX9_read_16 rfl rfl (fun h3 => ?_) (fun h3 => ?_)
      · obtain ⟨kk, hk⟩ := Option.isSome_iff_exists.mp hc
        obtain ⟨w, hw, rfl, ew⟩ := ix_le h0 (Int32.not_lt.mpr h3) (by omega)
        obtain ⟨hk1, rfl⟩ := ix_some hk
        have e : oRead (nI kk) (nI w) (f, c, md, op, bl, co, cp, bi, ls) = (nI (rdS f kk w ls).1.1, (f, c, (rdS f kk w ls).1.2.2.1, true, (rdS f kk w ls).2.1, (rdS f kk w ls).1.2.2.2.1, (rdS f kk w ls).1.2.2.2.2, (rdS f kk w ls).1.2.1, (rdS f kk w ls).2.2)) := by
          unfold oRead
          have hk : ix (nI kk) (c + 1) = some kk := hk
          simp only [hk, ew]
        rw [e]
        refine am_aload_n dX9_read_21 rfl rfl ?_
        refine am_get f_X9_33 dX9_read_22 rfl x.1.c0 rfl ?_
        refine am_iload_n dX9_read_25 rfl rfl ?_
        refine am_iload_n dX9_read_26 rfl rfl ?_
        refine am_vi (t_X8_unpack (d - 1) _ hu hsr x.c1 x.2 hc4 x.1.prd x.1.acc x.1.sT x.1.sC x.1.sP x.1.lT x.1.lC x.1.lP (n := kk) (wa := w) (by show kk ≤ c; omega) hw (by omega)) k_X8_unpack l_X9_78 dX9_read_27 rfl rfl rfl rfl hu (by omega) (Nat.le_refl _) (Nat.le_refl _) (fun z g hx => ?_)
        obtain ⟨rfl, F, u1, u2, u3, u4, u5, u6, ⟨u7, u8, u9⟩, v1, v2, v3⟩ := hx
        have cl := x.1
        exact am_ri dX9_read_30 rfl rfl rfl ⟨rfl, ⟨⟨(F 0 (by simp)).trans cl.c0, cl.tpe.at (F 1 (by simp)) (F 2 (by simp)), u4, u6, u7, u8, u9, v1, v2, v3, ⟨_, u1⟩, ⟨_, _, u2⟩, by rw [F 32 (by simp)]; exact cl.pck, by rw [F 33 (by simp)]; exact cl.snk0, by rw [F 34 (by simp)]; exact cl.fnd, cl.f35.at (F 35 (by simp)), cl.f36.at (F 36 (by simp)), cl.mrg.at (fun j _ _ => F j (by simp; omega)), cl.p42.at (F 42 (by simp)), cl.p43.at (F 43 (by simp)), cl.p44.at (F 44 (by simp)), cl.p45.at (F 45 (by simp))⟩, (F 2 (by simp)).trans x.2⟩, fun j hj => F j (by simp; omega)⟩
      · skip
        have e : oRead n s (f, c, md, op, bl, co, cp, bi, ls) = (-1, (f, c, md, op, bl, co, cp, bi, ls)) := by
          unfold oRead
          rw [ix_gt (c := 8000) (Int32.not_le.mp h3) (by omega)]; cases ix n (c + 1) <;> rfl
        refine am_iconst (v := -1) dX9_read_19 rfl (by decide +kernel) ?_
        exact am_ri dX9_read_20 rfl rfl rfl ⟨by rw [e], by rw [e]; exact x, fun j hj => rfl⟩
set_option maxHeartbeats 4000000 in
set_option maxRecDepth 100000 in
theorem t_X9_write (d n0 : Nat) {h : am_H} {f : Nat → Int32} {c : Nat} {md : List Int32} {op : Bool} {bl co cp bi : Nat} {ls : l3} (x : CL h (f, c, md, op, bl, co, cp, bi, ls)) (ok : OK (f, c, md, op, bl, co, cp, bi, ls)) (n : Int32) (hd : 8 ≤ d) : am_Ct l D dA m_X9_write d 0 0 n0 [am_r 0, .inl n] h (am_qi fun x h' => x = (oWrite n (f, c, md, op, bl, co, cp, bi, ls)).1 ∧ CL h' (oWrite n (f, c, md, op, bl, co, cp, bi, ls)).2 ∧ ∀ j, 46 ≤ j → h' j = h j) := by
  refine am_Ci (by decide +kernel) rfl rfl ?_
  have hc4 : c ≤ 4000 := ok.1
  obtain ⟨cc, tc, hpk⟩ := x.1.pck
  refine am_aload_n dX9_write_0 rfl rfl ?_
  refine am_iload_n dX9_write_1 rfl rfl ?_
  refine am_vi (t_X9_isOnTape (d - 1) _ x ok n (by omega)) k_X9_isOnTape l_X9_75 dX9_write_2 rfl rfl rfl rfl x.1.c0 (by omega) (Nat.le_refl _) (Nat.le_refl _) (fun z h1 hx => ?_)
  obtain ⟨rfl, hh⟩ := hx
  obtain rfl := hh.symm
  refine am_bif_ne 10 dX9_write_5 rfl rfl (fun hc => ?_) (fun hc => ?_)
  · obtain ⟨kk, hk⟩ := Option.isSome_iff_exists.mp hc
    obtain ⟨hk1, rfl⟩ := ix_some hk
    have e : oWrite (nI kk) (f, c, md, op, bl, co, cp, bi, ls) = (nI (wtS f c kk ls).2.1.1.length, (f, c, (wtS f c kk ls).2.1.1, true, (wtS f c kk ls).2.2.1, (wtS f c kk ls).2.2.2.1, (wtS f c kk ls).2.2.2.2.1, (wtS f c kk ls).2.1.2, (wtS f c kk ls).2.2.2.2.2)) := by
      unfold oWrite
      have hk : ix (nI kk) (c + 1) = some kk := hk
      simp only [hk]
    rw [e]
    refine am_aload_n dX9_write_10 rfl rfl ?_
    refine am_get f_X9_40 dX9_write_11 rfl x.1.c0 rfl ?_
    refine am_iload_n dX9_write_14 rfl rfl ?_
    refine am_vv (t_X6_pack (d - 1) _ x.1 (by rw [tpL_len]; exact hc4) ok.2.1 (n := kk) (by rw [tpL_len]; show kk ≤ c; omega) (by omega)) k_X6_pack l_X9_82 dX9_write_15 rfl rfl rfl rfl hpk (by omega) (Nat.le_refl _) (Nat.le_refl _) (fun g hx => ?_)
    obtain ⟨cl, -, F⟩ := hx
    obtain ⟨pg, p1, p2, p3⟩ := cl.prd
    refine am_aload_n dX9_write_18 rfl rfl ?_
    refine am_get f_X9_18 dX9_write_19 rfl cl.c0 rfl ?_
    refine am_vi (t_count (d - 1) _ cl.prd) k_X3_count l_X9_51 dX9_write_22 rfl rfl rfl rfl p1 (by omega) (Nat.le_refl _) (Nat.le_refl _) (fun z h6 hx => ?_)
    obtain ⟨rfl, hh⟩ := hx
    obtain rfl := hh.symm
    exact am_ri dX9_write_25 rfl rfl rfl ⟨rfl, ⟨cl, (F 2 (Or.inr rfl)).trans x.2⟩, fun j hj => F j (Or.inl hj)⟩
  · have e : oWrite n (f, c, md, op, bl, co, cp, bi, ls) = (-1, (f, c, md, op, bl, co, cp, bi, ls)) := by
      unfold oWrite
      rw [show ix n (c + 1) = none from Option.isSome_eq_false_iff.mp hc |> Option.isNone_iff_eq_none.mp]
    refine am_iconst (v := -1) dX9_write_8 rfl (by decide +kernel) ?_
    exact am_ri dX9_write_9 rfl rfl rfl ⟨by rw [e], by rw [e]; exact x, fun j hj => rfl⟩
set_option maxHeartbeats 4000000 in
set_option maxRecDepth 100000 in
theorem t_X9_back (d n0 : Nat) {h : am_H} {f : Nat → Int32} {c : Nat} {md : List Int32} {op : Bool} {bl co cp bi : Nat} {ls : l3} (x : CL h (f, c, md, op, bl, co, cp, bi, ls)) (ok : OK (f, c, md, op, bl, co, cp, bi, ls)) (hd : 2 ≤ d) : am_Ct l D dA m_X9_back d 0 0 n0 [am_r 0] h (am_qi fun x h' => x = (oBack (f, c, md, op, bl, co, cp, bi, ls)).1 ∧ CL h' (oBack (f, c, md, op, bl, co, cp, bi, ls)).2 ∧ ∀ j, 46 ≤ j → h' j = h j) := by
  refine am_Ci (by decide +kernel) rfl rfl ?_
  have hml : md.length ≤ 12000 := ok.2.2.1
  obtain ⟨pg, p1, p2, p3⟩ := x.1.prd
  refine am_aload_n dX9_back_0 rfl rfl ?_
  refine am_get f_X9_18 dX9_back_1 rfl x.1.c0 rfl ?_
  refine am_vi (t_count (d - 1) _ x.1.prd) k_X3_count l_X9_51 dX9_back_4 rfl rfl rfl rfl p1 (by omega) (Nat.le_refl _) (Nat.le_refl _) (fun z h1 hx => ?_)
  obtain ⟨rfl, hh⟩ := hx
  obtain rfl := hh.symm
  refine am_sipush (v := nI 4000) dX9_back_7 rfl (by decide +kernel) ?_
  refine am_ncmp_le 15 dX9_back_10 rfl rfl (by show md.length < _; omega) (by omega) (fun hc => ?_) (fun hc => ?_)
  · have e : oBack (f, c, md, op, bl, co, cp, bi, ls) = (nI md.length, (bckF f md, md.length, md, op, bl, co, cp, bi, ls)) := by
      unfold oBack
      rw [if_pos (by exact hc)]
    rw [e]
    refine am_aload_n dX9_back_15 rfl rfl ?_
    refine am_get f_X9_14 dX9_back_16 rfl x.1.c0 rfl ?_
    refine am_aload_n dX9_back_19 rfl rfl ?_
    refine am_get f_X9_18 dX9_back_20 rfl x.1.c0 rfl ?_
    refine am_vv (t_become (d - 1) _ x.c1 x.2 x.1.prd hc (by omega)) k_X3_become l_X9_85 dX9_back_23 rfl rfl rfl rfl x.c1 (by omega) (Nat.le_refl _) (Nat.le_refl _) (fun g hx => ?_)
    obtain ⟨F, e1, e2⟩ := hx
    refine am_aload_n dX9_back_26 rfl rfl ?_
    refine am_get f_X9_14 dX9_back_27 rfl ((F 0 (by simp)).trans x.1.c0) rfl ?_
    refine am_vi (t_X3_count (d - 1) _ e1) k_X3_count l_X9_51 dX9_back_30 rfl rfl rfl rfl e1 (by omega) (Nat.le_refl _) (Nat.le_refl _) (fun z h6 hx => ?_)
    obtain ⟨rfl, hh⟩ := hx
    obtain rfl := hh.symm
    exact am_ri dX9_back_33 rfl rfl rfl ⟨rfl, x.tp F e1 e2, fun j hj => F j (by simp; omega)⟩
  · have e : oBack (f, c, md, op, bl, co, cp, bi, ls) = (-1, (f, c, md, op, bl, co, cp, bi, ls)) := by
      unfold oBack
      rw [if_neg (by exact Nat.not_le.mpr hc)]
    refine am_iconst (v := -1) dX9_back_13 rfl (by decide +kernel) ?_
    exact am_ri dX9_back_14 rfl rfl rfl ⟨by rw [e], by rw [e]; exact x, fun j hj => rfl⟩
end DESK

/-! ===== Account ===== -/
section ACCT
variable {l : Launch} {D : va_G} {dA : Bool → ClassId}
abbrev acO (op : Bool) (bl co cp bi : Nat) : am_E := .inr (0, [am_r 6, am_r 14, am_r 22, .inl (am_bz op), .inl (nI bl), .inl (nI co), .inl (nI cp), .inl (nI bi)])
theorem am_fit_b (x : Bool) : am_fit .boolean (.inl (am_bz x)) := fun b ad c h => by
  rw [am_cv_i h]
  cases x
  · exact ⟨by decide +kernel, by decide +kernel⟩
  · exact ⟨by decide +kernel, by decide +kernel⟩
/-- the shape of a cell that is an array of ints -/
def ars (h : am_H) (k n : Nat) : Prop := ∃ f : Nat → Int32, h k = some (.inl (false, n, f))
theorem ars.at {h h' : am_H} {k n : Nat} (a : ars h k n) (e : h' k = h k) : ars h' k n := by
  obtain ⟨f, hf⟩ := a
  exact ⟨f, e.trans hf⟩
theorem ars.of {h : am_H} {k n : Nat} {f : Nat → Int32} (e : h k = some (.inl (false, n, f))) : ars h k n := ⟨f, e⟩
/-- the shape of a tree -/
def tsh (h : am_H) (t m : Nat) : Prop := (∃ al, h t = some (trO t al)) ∧ ars h (t + 1) m ∧ ars h (t + 2) m ∧ ars h (t + 3) m ∧ ars h (t + 4) m ∧ ars h (t + 5) 17 ∧ ars h (t + 6) 17 ∧ ars h (t + 7) 17
/-- a tree that is wiped -/
def wpd (h : am_H) (t m : Nat) : Prop := h t = some (trO t (-1)) ∧ (∃ f : Nat → Int32, h (t + 1) = some (.inl (false, m, f)) ∧ ∀ j, j < m → f j = nI 0) ∧ ∃ g : Nat → Int32, h (t + 3) = some (.inl (false, m, g)) ∧ ∀ j, j < m → g j = nI 0
theorem wpd.at {h h' : am_H} {t m : Nat} (a : wpd h t m) (e : ∀ j, t ≤ j → j ≤ t + 7 → h' j = h j) : wpd h' t m := by
  obtain ⟨a1, ⟨f, a2, a3⟩, g, a4, a5⟩ := a
  exact ⟨(e _ (by omega) (by omega)).trans a1, ⟨f, (e _ (by omega) (by omega)).trans a2, a3⟩, g, (e _ (by omega) (by omega)).trans a4, a5⟩
theorem tsh.at {h h' : am_H} {t m : Nat} (a : tsh h t m) (e : ∀ j, t ≤ j → j ≤ t + 7 → h' j = h j) : tsh h' t m := by
  obtain ⟨⟨al, a1⟩, b1, b2, b3, b4, b5, b6, b7⟩ := a
  exact ⟨⟨al, (e _ (by omega) (by omega)).trans a1⟩, b1.at (e _ (by omega) (by omega)), b2.at (e _ (by omega) (by omega)), b3.at (e _ (by omega) (by omega)), b4.at (e _ (by omega) (by omega)), b5.at (e _ (by omega) (by omega)), b6.at (e _ (by omega) (by omega)), b7.at (e _ (by omega) (by omega))⟩
/-- wiping a tree: what changes -/
theorem t_wipe (d n0 : Nat) {h : am_H} {t m : Nat} (ht : tsh h t m) (hm : m < 2 ^ 20) (hd : 1 ≤ d) : am_Ct l D dA m_X7_wipe d 0 0 n0 [am_r t] h (am_qv fun h' => am_fr h h' [t, t + 1, t + 3] ∧ wpd h' t m ∧ tsh h' t m) := by
  obtain ⟨⟨al, a1⟩, ⟨f1, b1⟩, b2, ⟨f3, b3⟩, b4, b5, b6, b7⟩ := ht
  refine (t_X7_wipe d n0 a1 b1 hm b3 hd).mono (fun r h' hq => ⟨hq.1, ?_⟩)
  have e := hq.2
  have hfr : am_fr h h' [t, t + 1, t + 3] := by rw [e]; exact ((am_fr.rf.set (by simp)).set (by simp)).set (by simp)
  have e0 : h' t = some (trO t (-1)) := by rw [e]; exact am_set_eq
  have e1 : h' (t + 1) = some (.inl (false, m, fun j => if j < m then nI 0 else f1 j)) := by rw [e]; exact (am_set_ne (by omega)).trans ((am_set_ne (by omega)).trans am_set_eq)
  have e3 : h' (t + 3) = some (.inl (false, m, fun j => if j < m then nI 0 else f3 j)) := by rw [e]; exact (am_set_ne (by omega)).trans am_set_eq
  exact ⟨hfr, ⟨e0, ⟨_, e1, fun j hj => if_pos hj⟩, _, e3, fun j hj => if_pos hj⟩, ⟨_, e0⟩, ⟨_, e1⟩, b2.at (hfr _ (by simp)), ⟨_, e3⟩, b4.at (hfr _ (by simp)), b5.at (hfr _ (by simp)), b6.at (hfr _ (by simp)), b7.at (hfr _ (by simp))⟩
set_option maxHeartbeats 4000000 in
set_option maxRecDepth 100000 in
theorem t_X0_open (d n0 : Nat) {h : am_H} {op : Bool} {bl co cp bi : Nat} (ha : h 5 = some (acO op bl co cp bi)) : am_Ct l D dA m_X0_open d 0 0 n0 [am_r 5] h (am_qv fun h' => h' = am_set h 5 (acO true 0 0 0 0)) := by
  refine am_Cv (by decide +kernel) rfl rfl ?_
  refine am_aload_n dX0_open_0 rfl rfl ?_
  refine am_iconst (v := nI 1) dX0_open_1 rfl (by decide +kernel) ?_
  refine am_put f_X0_26 dX0_open_2 rfl ha (am_fit_b true) rfl ?_
  refine am_aload_n dX0_open_5 rfl rfl ?_
  refine am_iconst (v := nI 0) dX0_open_6 rfl (by decide +kernel) ?_
  refine am_put f_X0_30 dX0_open_7 rfl am_set_eq (am_fit_i _) rfl ?_
  refine am_aload_n dX0_open_10 rfl rfl ?_
  refine am_iconst (v := nI 0) dX0_open_11 rfl (by decide +kernel) ?_
  refine am_put f_X0_34 dX0_open_12 rfl am_set_eq (am_fit_i _) rfl ?_
  refine am_aload_n dX0_open_15 rfl rfl ?_
  refine am_iconst (v := nI 0) dX0_open_16 rfl (by decide +kernel) ?_
  refine am_put f_X0_37 dX0_open_17 rfl am_set_eq (am_fit_i _) rfl ?_
  refine am_aload_n dX0_open_20 rfl rfl ?_
  refine am_iconst (v := nI 0) dX0_open_21 rfl (by decide +kernel) ?_
  refine am_put f_X0_40 dX0_open_22 rfl am_set_eq (am_fit_i _) rfl ?_
  exact am_rv dX0_open_25 rfl rfl rfl (by rw [am_set_set, am_set_set, am_set_set, am_set_set]; rfl)
set_option maxHeartbeats 4000000 in
set_option maxRecDepth 100000 in
theorem t_X0_countByte (d n0 : Nat) {h : am_H} {op : Bool} {bl co cp bi : Nat} (ha : h 5 = some (acO op bl co cp bi)) : am_Ct l D dA m_X0_countByte d 0 0 n0 [am_r 5] h (am_qv fun h' => h' = am_set h 5 (acO op bl (co + 1) cp bi)) := by
  refine am_Cv (by decide +kernel) rfl rfl ?_
  refine am_aload_n dX0_countByte_0 rfl rfl ?_
  refine am_dup dX0_countByte_1 rfl ?_
  refine am_get f_X0_34 dX0_countByte_2 rfl ha rfl ?_
  refine am_iconst (v := nI 1) dX0_countByte_5 rfl (by decide +kernel) ?_
  refine am_iadd dX0_countByte_6 rfl ?_
  rw [nI_add]
  refine am_put f_X0_34 dX0_countByte_7 rfl ha (am_fit_i _) rfl ?_
  exact am_rv dX0_countByte_10 rfl rfl rfl rfl
set_option maxHeartbeats 4000000 in
set_option maxRecDepth 100000 in
theorem t_X0_countCopy (d n0 : Nat) {h : am_H} {op : Bool} {bl co cp bi : Nat} (ha : h 5 = some (acO op bl co cp bi)) : am_Ct l D dA m_X0_countCopy d 0 0 n0 [am_r 5] h (am_qv fun h' => h' = am_set h 5 (acO op bl (co + 1) (cp + 1) bi)) := by
  refine am_Cv (by decide +kernel) rfl rfl ?_
  refine am_aload_n dX0_countCopy_0 rfl rfl ?_
  refine am_dup dX0_countCopy_1 rfl ?_
  refine am_get f_X0_34 dX0_countCopy_2 rfl ha rfl ?_
  refine am_iconst (v := nI 1) dX0_countCopy_5 rfl (by decide +kernel) ?_
  refine am_iadd dX0_countCopy_6 rfl ?_
  rw [nI_add]
  refine am_put f_X0_34 dX0_countCopy_7 rfl ha (am_fit_i _) rfl ?_
  refine am_aload_n dX0_countCopy_10 rfl rfl ?_
  refine am_dup dX0_countCopy_11 rfl ?_
  refine am_get f_X0_37 dX0_countCopy_12 rfl am_set_eq rfl ?_
  refine am_iconst (v := nI 1) dX0_countCopy_15 rfl (by decide +kernel) ?_
  refine am_iadd dX0_countCopy_16 rfl ?_
  rw [nI_add]
  refine am_put f_X0_37 dX0_countCopy_17 rfl am_set_eq (am_fit_i _) rfl ?_
  exact am_rv dX0_countCopy_20 rfl rfl rfl (by rw [am_set_set]; rfl)
set_option maxHeartbeats 4000000 in
set_option maxRecDepth 100000 in
theorem t_X0_close (d n0 : Nat) {h : am_H} {op : Bool} {bl co cp bi : Nat} (ha : h 5 = some (acO op bl co cp bi)) (n : Nat) : am_Ct l D dA m_X0_close d 0 0 n0 [am_r 5, .inl (nI n)] h (am_qv fun h' => h' = am_set h 5 (acO op bl co cp n)) := by
  refine am_Cv (by decide +kernel) rfl rfl ?_
  refine am_aload_n dX0_close_0 rfl rfl ?_
  refine am_iload_n dX0_close_1 rfl rfl ?_
  refine am_put f_X0_40 dX0_close_2 rfl ha (am_fit_i _) rfl ?_
  exact am_rv dX0_close_5 rfl rfl rfl rfl
set_option maxHeartbeats 4000000 in
set_option maxRecDepth 100000 in
theorem t_X0_hasBlock (d n0 : Nat) {h : am_H} {op : Bool} {bl co cp bi : Nat} (ha : h 5 = some (acO op bl co cp bi)) (hb : bl < 2 ^ 31) : am_Ct l D dA m_X0_hasBlock d 0 0 n0 [am_r 5] h (am_qi fun x h' => x = am_bz (decide (0 < bl)) ∧ h' = h) := by
  refine am_Cz (by decide +kernel) rfl (fun x h' hx => by rw [hx.1]; exact am_bz_01 _) rfl ?_
  refine am_aload_n dX0_hasBlock_0 rfl rfl ?_
  refine am_get f_X0_30 dX0_hasBlock_1 rfl ha rfl ?_
  refine am_nif_le 11 dX0_hasBlock_4 rfl rfl (by omega) (fun hc => ?_) (fun hc => ?_)
  · refine am_iconst (v := nI 0) dX0_hasBlock_11 rfl (by decide +kernel) ?_
    exact am_ri dX0_hasBlock_12 rfl rfl rfl ⟨by rw [decide_eq_false (by omega)]; rfl, rfl⟩
  · refine am_iconst (v := nI 1) dX0_hasBlock_7 rfl (by decide +kernel) ?_
    refine am_goto 12 dX0_hasBlock_8 rfl rfl ?_
    exact am_ri dX0_hasBlock_12 rfl rfl rfl ⟨by rw [decide_eq_true hc]; rfl, rfl⟩
set_option maxHeartbeats 4000000 in
set_option maxRecDepth 100000 in
theorem t_X0_tree0 (d n0 : Nat) {h : am_H} {op : Bool} {bl co cp bi : Nat} (ha : h 5 = some (acO op bl co cp bi)) : am_Ct l D dA m_X0_tree d 0 0 n0 [am_r 5, .inl (nI 0)] h (am_qr fun x h' => x = 6 ∧ h' = h) := by
  refine am_Cr (by decide +kernel) rfl rfl ?_
  refine am_iload_n dX0_tree_0 rfl rfl ?_
  refine am_nif_ne 11 dX0_tree_1 rfl rfl (by omega) (fun hc => ?_) (fun hc => ?_)
  · omega
  · refine am_aload_n dX0_tree_4 rfl rfl ?_
    refine am_get f_X0_14 dX0_tree_5 rfl ha rfl ?_
    refine am_goto 27 dX0_tree_8 rfl rfl ?_
    exact am_rr dX0_tree_27 rfl rfl rfl ⟨rfl, rfl⟩
set_option maxHeartbeats 4000000 in
set_option maxRecDepth 100000 in
theorem t_X0_tree1 (d n0 : Nat) {h : am_H} {op : Bool} {bl co cp bi : Nat} (ha : h 5 = some (acO op bl co cp bi)) : am_Ct l D dA m_X0_tree d 0 0 n0 [am_r 5, .inl (nI 1)] h (am_qr fun x h' => x = 14 ∧ h' = h) := by
  refine am_Cr (by decide +kernel) rfl rfl ?_
  refine am_iload_n dX0_tree_0 rfl rfl ?_
  refine am_nif_ne 11 dX0_tree_1 rfl rfl (by omega) (fun hc => ?_) (fun hc => ?_)
  · refine am_iload_n dX0_tree_11 rfl rfl ?_
    refine am_iconst (v := nI 1) dX0_tree_12 rfl (by decide +kernel) ?_
    refine am_ncmp_ne 23 dX0_tree_13 rfl rfl (by omega) (by omega) (fun hc => ?_) (fun hc => ?_)
    · omega
    · refine am_aload_n dX0_tree_16 rfl rfl ?_
      refine am_get f_X0_20 dX0_tree_17 rfl ha rfl ?_
      refine am_goto 27 dX0_tree_20 rfl rfl ?_
      exact am_rr dX0_tree_27 rfl rfl rfl ⟨rfl, rfl⟩
  · omega
set_option maxHeartbeats 4000000 in
set_option maxRecDepth 100000 in
theorem t_X0_tree2 (d n0 : Nat) {h : am_H} {op : Bool} {bl co cp bi : Nat} (ha : h 5 = some (acO op bl co cp bi)) : am_Ct l D dA m_X0_tree d 0 0 n0 [am_r 5, .inl (nI 2)] h (am_qr fun x h' => x = 22 ∧ h' = h) := by
  refine am_Cr (by decide +kernel) rfl rfl ?_
  refine am_iload_n dX0_tree_0 rfl rfl ?_
  refine am_nif_ne 11 dX0_tree_1 rfl rfl (by omega) (fun hc => ?_) (fun hc => ?_)
  · refine am_iload_n dX0_tree_11 rfl rfl ?_
    refine am_iconst (v := nI 1) dX0_tree_12 rfl (by decide +kernel) ?_
    refine am_ncmp_ne 23 dX0_tree_13 rfl rfl (by omega) (by omega) (fun hc => ?_) (fun hc => ?_)
    · refine am_aload_n dX0_tree_23 rfl rfl ?_
      refine am_get f_X0_23 dX0_tree_24 rfl ha rfl ?_
      exact am_rr dX0_tree_27 rfl rfl rfl ⟨rfl, rfl⟩
    · omega
  · omega
def tld (op : Bool) (bl co cp bi : Nat) (i : Int32) : Int32 := if op then (match ix i 4 with | some 0 => nI bl | some 1 => nI co | some 2 => nI cp | some _ => nI bi | none => -1) else -1
set_option maxHeartbeats 4000000 in
set_option maxRecDepth 100000 in
theorem t_X0_number (d n0 : Nat) {h : am_H} {op : Bool} {bl co cp bi : Nat} (ha : h 5 = some (acO op bl co cp bi)) (i : Int32) : am_Ct l D dA m_X0_number d 0 0 n0 [am_r 5, .inl i] h (am_qi fun x h' => x = tld op bl co cp bi i ∧ h' = h) := by
  refine am_Ci (by decide +kernel) rfl rfl ?_
  refine am_aload_n dX0_number_0 rfl rfl ?_
  refine am_get f_X0_26 dX0_number_1 rfl ha rfl ?_
  refine am_bif_ne 9 dX0_number_4 rfl rfl (fun hc => ?_) (fun hc => ?_)
  · subst hc
    refine am_iload_n dX0_number_9 rfl rfl ?_
    cases hi : ix i 4 with
    | none =>
      have hi2 := ix_none hi (by decide)
      refine am_swOut 60 dX0_number_10 rfl ?_ rfl ?_
      · rcases hi2 with g | g
        · have := Int32.lt_iff_toInt_lt.mp g
          rw [Int32.toInt_zero] at this
          exact Or.inl this
        · have := Int32.le_iff_toInt_le.mp g
          rw [nI_toInt (by decide)] at this
          exact Or.inr (by omega)
      · refine am_iconst (v := -1) dX0_number_60 rfl (by decide +kernel) ?_
        exact am_ri dX0_number_61 rfl rfl rfl ⟨by unfold tld; rw [if_pos rfl, hi], rfl⟩
    | some j =>
      obtain ⟨hj, rfl⟩ := ix_some hi
      have e : (nI j).toInt = (j : Int) := nI_toInt (by omega)
      rcases (show j = 0 ∨ j = 1 ∨ j = 2 ∨ j = 3 by omega) with rfl | rfl | rfl | rfl
      · refine am_swIn 40 dX0_number_10 rfl (by rw [e]; decide) (by rw [e]; decide) (by rw [e]; rfl) rfl ?_
        refine am_aload_n dX0_number_40 rfl rfl ?_
        refine am_get f_X0_30 dX0_number_41 rfl ha rfl ?_
        exact am_ri dX0_number_44 rfl rfl rfl ⟨by unfold tld; rw [if_pos rfl, hi]; rfl, rfl⟩
      · refine am_swIn 45 dX0_number_10 rfl (by rw [e]; decide) (by rw [e]; decide) (by rw [e]; rfl) rfl ?_
        refine am_aload_n dX0_number_45 rfl rfl ?_
        refine am_get f_X0_34 dX0_number_46 rfl ha rfl ?_
        exact am_ri dX0_number_49 rfl rfl rfl ⟨by unfold tld; rw [if_pos rfl, hi]; rfl, rfl⟩
      · refine am_swIn 50 dX0_number_10 rfl (by rw [e]; decide) (by rw [e]; decide) (by rw [e]; rfl) rfl ?_
        refine am_aload_n dX0_number_50 rfl rfl ?_
        refine am_get f_X0_37 dX0_number_51 rfl ha rfl ?_
        exact am_ri dX0_number_54 rfl rfl rfl ⟨by unfold tld; rw [if_pos rfl, hi]; rfl, rfl⟩
      · refine am_swIn 55 dX0_number_10 rfl (by rw [e]; decide) (by rw [e]; decide) (by rw [e]; rfl) rfl ?_
        refine am_aload_n dX0_number_55 rfl rfl ?_
        refine am_get f_X0_40 dX0_number_56 rfl ha rfl ?_
        exact am_ri dX0_number_59 rfl rfl rfl ⟨by unfold tld; rw [if_pos rfl, hi]; rfl, rfl⟩
  · subst hc
    refine am_iconst (v := -1) dX0_number_7 rfl (by decide +kernel) ?_
    exact am_ri dX0_number_8 rfl rfl rfl ⟨rfl, rfl⟩
set_option maxHeartbeats 4000000 in
set_option maxRecDepth 100000 in
theorem t_X0_beginBlock (d n0 : Nat) {h : am_H} {op : Bool} {bl co cp bi : Nat} (ha : h 5 = some (acO op bl co cp bi)) (hT : tsh h 6 19) (hC : tsh h 14 510) (hP : tsh h 22 14) (hd : 2 ≤ d) : am_Ct l D dA m_X0_beginBlock d 0 0 n0 [am_r 5] h (am_qv fun h' => am_fr h h' [5, 6, 7, 9, 14, 15, 17, 22, 23, 25] ∧ h' 5 = some (acO op (bl + 1) co cp bi) ∧ (wpd h' 6 19 ∧ tsh h' 6 19) ∧ (wpd h' 14 510 ∧ tsh h' 14 510) ∧ (wpd h' 22 14 ∧ tsh h' 22 14)) := by
  refine am_Cv (by decide +kernel) rfl rfl ?_
  refine am_aload_n dX0_beginBlock_0 rfl rfl ?_
  refine am_dup dX0_beginBlock_1 rfl ?_
  refine am_get f_X0_30 dX0_beginBlock_2 rfl ha rfl ?_
  refine am_iconst (v := nI 1) dX0_beginBlock_5 rfl (by decide +kernel) ?_
  refine am_iadd dX0_beginBlock_6 rfl ?_
  rw [nI_add]
  refine am_put f_X0_30 dX0_beginBlock_7 rfl ha (am_fit_i _) rfl ?_
  obtain ⟨h1, e1⟩ : ∃ h1, h1 = am_set h 5 (.inr (0, ([am_r 6, am_r 14, am_r 22, .inl (am_bz op), .inl (nI bl), .inl (nI co), .inl (nI cp), .inl (nI bi)] : List am_V).set 4 (.inl (nI (bl + 1))))) := ⟨_, rfl⟩
  rw [← e1]
  have f1 : am_fr h h1 [5] := by rw [e1]; exact am_fr.rf.set (by simp)
  have g5 : h1 5 = some (acO op (bl + 1) co cp bi) := by rw [e1]; exact am_set_eq
  have hT := hT.at (h' := h1) (fun j a b => f1 j (by simp; omega))
  have hC := hC.at (h' := h1) (fun j a b => f1 j (by simp; omega))
  have hP := hP.at (h' := h1) (fun j a b => f1 j (by simp; omega))
  obtain ⟨al6, t6⟩ := hT.1
  refine am_aload_n dX0_beginBlock_10 rfl rfl ?_
  refine am_get f_X0_14 dX0_beginBlock_11 rfl g5 rfl ?_
  refine am_vv (t_wipe (d - 1) _ hT (by omega) (by omega)) k_X7_wipe l_X0_43 dX0_beginBlock_14 rfl rfl rfl rfl t6 (by omega) (Nat.le_refl _) (Nat.le_refl _) (fun h2 hx => ?_)
  obtain ⟨f2, w6, s6⟩ := hx
  have g5 := (f2 5 (by simp)).trans g5
  have hC := hC.at (h' := h2) (fun j a b => f2 j (by simp; omega))
  have hP := hP.at (h' := h2) (fun j a b => f2 j (by simp; omega))
  obtain ⟨al14, t14⟩ := hC.1
  refine am_aload_n dX0_beginBlock_17 rfl rfl ?_
  refine am_get f_X0_20 dX0_beginBlock_18 rfl g5 rfl ?_
  refine am_vv (t_wipe (d - 1) _ hC (by omega) (by omega)) k_X7_wipe l_X0_43 dX0_beginBlock_21 rfl rfl rfl rfl t14 (by omega) (Nat.le_refl _) (Nat.le_refl _) (fun h3 hx => ?_)
  obtain ⟨f3, w14, s14⟩ := hx
  have g5 := (f3 5 (by simp)).trans g5
  have w6 := w6.at (h' := h3) (fun j a b => f3 j (by simp; omega))
  have s6 := s6.at (h' := h3) (fun j a b => f3 j (by simp; omega))
  have hP := hP.at (h' := h3) (fun j a b => f3 j (by simp; omega))
  obtain ⟨al22, t22⟩ := hP.1
  refine am_aload_n dX0_beginBlock_24 rfl rfl ?_
  refine am_get f_X0_23 dX0_beginBlock_25 rfl g5 rfl ?_
  refine am_vv (t_wipe (d - 1) _ hP (by omega) (by omega)) k_X7_wipe l_X0_43 dX0_beginBlock_28 rfl rfl rfl rfl t22 (by omega) (Nat.le_refl _) (Nat.le_refl _) (fun h4 hx => ?_)
  obtain ⟨f4, w22, s22⟩ := hx
  refine am_rv dX0_beginBlock_31 rfl rfl rfl ⟨fun j hj => ?_, (f4 5 (by simp)).trans g5, ⟨w6.at (fun j a b => f4 j (by simp; omega)), s6.at (fun j a b => f4 j (by simp; omega))⟩, ⟨w14.at (fun j a b => f4 j (by simp; omega)), s14.at (fun j a b => f4 j (by simp; omega))⟩, w22, s22⟩
  simp only [List.mem_cons, List.not_mem_nil, or_false, not_or] at hj
  rw [f4 j (by simp; omega), f3 j (by simp; omega), f2 j (by simp; omega), f1 j (by simp; omega)]
end ACCT

/-! ===== Unpacker: codes ===== -/
section UNP
variable {l : Launch} {D : va_G} {dA : Bool → ClassId}
abbrev unO (wa : Nat) : am_E := .inr (8, [am_r 31, am_r 3, am_r 5, am_r 6, am_r 14, am_r 22, .inl (nI wa)])
set_option maxHeartbeats 4000000 in
set_option maxRecDepth 100000 in
theorem t_X9_bitsBehind (d n0 : Nat) {h : am_H} {y : Nat} (hy : y < 2 ^ 20) : am_Ct l D dA m_X9_bitsBehind d 0 0 n0 [.inl (nI y)] h (am_qi fun x h' => x = nI (bbh y) ∧ h' = h) := by
  refine am_Ci (by decide +kernel) rfl rfl ?_
  refine am_iload_n dX9_bitsBehind_0 rfl rfl ?_
  refine am_iconst (v := nI 1) dX9_bitsBehind_1 rfl (by decide +kernel) ?_
  refine am_ncmp_ne 9 dX9_bitsBehind_2 rfl rfl (by omega) (by omega) (fun hc => ?_) (fun hc => ?_)
  · refine am_iload_n dX9_bitsBehind_9 rfl rfl ?_
    refine am_iconst (v := nI 2) dX9_bitsBehind_10 rfl (by decide +kernel) ?_
    refine am_ncmp_ne 19 dX9_bitsBehind_11 rfl rfl (by omega) (by omega) (fun hc => ?_) (fun hc => ?_)
    · refine am_iconst (v := nI 0) dX9_bitsBehind_19 rfl (by decide +kernel) ?_
      exact am_ri dX9_bitsBehind_20 rfl rfl rfl ⟨by unfold bbh; rw [if_neg (by assumption), if_neg hc], rfl⟩
    · refine am_bipush (v := nI 9) dX9_bitsBehind_14 rfl (by decide +kernel) ?_
      refine am_goto 20 dX9_bitsBehind_16 rfl rfl ?_
      exact am_ri dX9_bitsBehind_20 rfl rfl rfl ⟨by unfold bbh; rw [if_neg (by assumption), if_pos hc], rfl⟩
  · refine am_iconst (v := nI 4) dX9_bitsBehind_5 rfl (by decide +kernel) ?_
    refine am_goto 20 dX9_bitsBehind_6 rfl rfl ?_
    exact am_ri dX9_bitsBehind_20 rfl rfl rfl ⟨by unfold bbh; rw [if_pos hc], rfl⟩
set_option maxHeartbeats 4000000 in
set_option maxRecDepth 100000 in
theorem t_X9_leastOf (d n0 : Nat) {h : am_H} {y : Nat} (hy : y < 2 ^ 20) : am_Ct l D dA m_X9_leastOf d 0 0 n0 [.inl (nI y)] h (am_qi fun x h' => x = nI (lsf y) ∧ h' = h) := by
  refine am_Ci (by decide +kernel) rfl rfl ?_
  refine am_iload_n dX9_leastOf_0 rfl rfl ?_
  refine am_iconst (v := nI 1) dX9_leastOf_1 rfl (by decide +kernel) ?_
  refine am_ncmp_ne 9 dX9_leastOf_2 rfl rfl (by omega) (by omega) (fun hc => ?_) (fun hc => ?_)
  · refine am_iload_n dX9_leastOf_9 rfl rfl ?_
    refine am_iconst (v := nI 2) dX9_leastOf_10 rfl (by decide +kernel) ?_
    refine am_ncmp_ne 19 dX9_leastOf_11 rfl rfl (by omega) (by omega) (fun hc => ?_) (fun hc => ?_)
    · refine am_iconst (v := nI 1) dX9_leastOf_19 rfl (by decide +kernel) ?_
      exact am_ri dX9_leastOf_20 rfl rfl rfl ⟨by unfold lsf; rw [if_neg (by assumption), if_neg hc], rfl⟩
    · refine am_bipush (v := nI 20) dX9_leastOf_14 rfl (by decide +kernel) ?_
      refine am_goto 20 dX9_leastOf_16 rfl rfl ?_
      exact am_ri dX9_leastOf_20 rfl rfl rfl ⟨by unfold lsf; rw [if_neg (by assumption), if_pos hc], rfl⟩
  · refine am_iconst (v := nI 3) dX9_leastOf_5 rfl (by decide +kernel) ?_
    refine am_goto 20 dX9_leastOf_6 rfl rfl ?_
    exact am_ri dX9_leastOf_20 rfl rfl rfl ⟨by unfold lsf; rw [if_pos hc], rfl⟩
set_option maxHeartbeats 4000000 in
set_option maxRecDepth 100000 in
theorem t_X8_wantsMore (d n0 : Nat) {h : am_H} {wa : Nat} (hu : h 30 = some (unO wa)) {bs : List Int32} (hp : rws h 3 4 12000 bs) (hwa : wa < 2 ^ 20) (hbl : bs.length < 2 ^ 20) (hd : 1 ≤ d) : am_Ct l D dA m_X8_wantsMore d 0 0 n0 [am_r 30] h (am_qi fun x h' => x = am_bz (decide (bs.length < wa)) ∧ h' = h) := by
  refine am_Cz (by decide +kernel) rfl (fun x h' hx => by rw [hx.1]; exact am_bz_01 _) rfl ?_
  have p3 := hp.choose_spec.1
  refine am_aload_n dX8_wantsMore_0 rfl rfl ?_
  refine am_get f_X8_20 dX8_wantsMore_1 rfl hu rfl ?_
  refine am_vi (t_count (d - 1) _ hp) k_X3_count l_X8_73 dX8_wantsMore_4 rfl rfl rfl rfl p3 (by omega) (Nat.le_refl _) (Nat.le_refl _) (fun x h1 hx => ?_)
  obtain ⟨rfl, hh⟩ := hx
  obtain rfl := hh.symm
  refine am_aload_n dX8_wantsMore_7 rfl rfl ?_
  refine am_get f_X8_44 dX8_wantsMore_8 rfl hu rfl ?_
  refine am_ncmp_ge 18 dX8_wantsMore_11 rfl rfl (by omega) (by omega) (fun hc => ?_) (fun hc => ?_)
  · refine am_iconst (v := nI 0) dX8_wantsMore_18 rfl (by decide +kernel) ?_
    exact am_ri dX8_wantsMore_19 rfl rfl rfl ⟨by rw [decide_eq_false (by omega)]; rfl, rfl⟩
  · refine am_iconst (v := nI 1) dX8_wantsMore_14 rfl (by decide +kernel) ?_
    refine am_goto 19 dX8_wantsMore_15 rfl rfl ?_
    exact am_ri dX8_wantsMore_19 rfl rfl rfl ⟨by rw [decide_eq_true hc]; rfl, rfl⟩
set_option maxHeartbeats 4000000 in
set_option maxRecDepth 100000 in
theorem t_X8_copy (d n0 : Nat) {h : am_H} {wa : Nat} (hu : h 30 = some (unO wa)) {bs : List Int32} (hp : rws h 3 4 12000 bs) {op : Bool} {bl co cp bi : Nat} (hac : h 5 = some (acO op bl co cp bi)) (hwa : wa ≤ 8000) (hbl : bs.length ≤ wa) {ln dd : Nat} (hln : ln ≤ 256) (hdd : 1 ≤ dd) (hdd2 : dd ≤ bs.length) (hd : 2 ≤ d) : am_Ct l D dA m_X8_copy d 0 0 n0 [am_r 30, .inl (nI ln), .inl (nI dd)] h (am_qi fun x h' => x = nI (if wa - bs.length < ln then 5 else 0) ∧ am_fr h h' [3, 4, 5] ∧ rws h' 3 4 12000 (cpl bs dd (min ln (wa - bs.length))) ∧ h' 5 = some (acO op bl (co + 1) (cp + 1) bi)) := by
  refine am_Ci (by decide +kernel) rfl rfl ?_
  refine am_aload_n dX8_copy_0 rfl rfl ?_
  refine am_get f_X8_24 dX8_copy_1 rfl hu rfl ?_
  refine am_vv (t_X0_countCopy (d - 1) _ hac) k_X0_countCopy l_X8_145 dX8_copy_4 rfl rfl rfl rfl hac (by omega) (Nat.le_refl _) (Nat.le_refl _) (fun h1 hx => ?_)
  have f1 : am_fr h h1 [5] := by rw [hx]; exact am_fr.rf.set (by simp)
  have g5 : h1 5 = some (acO op bl (co + 1) (cp + 1) bi) := by rw [hx]; exact am_set_eq
  have hu1 := (f1 30 (by simp)).trans hu
  have hp1 := hp.at (h' := h1) (f1 3 (by simp)) (f1 4 (by simp))
  have p3 := hp1.choose_spec.1
  refine am_aload_n dX8_copy_7 rfl rfl ?_
  refine am_get f_X8_44 dX8_copy_8 rfl hu1 rfl ?_
  refine am_aload_n dX8_copy_11 rfl rfl ?_
  refine am_get f_X8_20 dX8_copy_12 rfl hu1 rfl ?_
  refine am_vi (t_count (d - 1) _ hp1) k_X3_count l_X8_73 dX8_copy_15 rfl rfl rfl rfl p3 (by omega) (Nat.le_refl _) (Nat.le_refl _) (fun x h2 hx2 => ?_)
  obtain ⟨rfl, hh⟩ := hx2
  obtain rfl := hh.symm
  refine am_isub dX8_copy_18 rfl ?_
  rw [pk_sub hbl]
  refine am_istore_n dX8_copy_19 rfl rfl ?_
  refine am_iconst (v := nI 0) dX8_copy_20 rfl (by decide +kernel) ?_
  refine am_istore dX8_copy_21 rfl rfl ?_
  have loop : ∀ (q i : Nat) (H : am_H), i + q = min ln (wa - bs.length) → am_fr h H [3, 4, 5] → H 5 = some (acO op bl (co + 1) (cp + 1) bi) → rws H 3 4 12000 (cpl bs dd i) → am_At l D dA m_X8_copy d 0 0 0 0 n0 none (am_qi fun x h' => x = nI (if wa - bs.length < ln then 5 else 0) ∧ am_fr h h' [3, 4, 5] ∧ rws h' 3 4 12000 (cpl bs dd (min ln (wa - bs.length))) ∧ h' 5 = some (acO op bl (co + 1) (cp + 1) bi)) 0 0 23 [some (am_r 30), some (.inl (nI ln)), some (.inl (nI dd)), some (.inl (nI (wa - bs.length))), some (.inl (nI i))] [] H := by
    intro q
    induction q with
    | zero =>
      intro i H hi hfr g5 hw
      have hi : i = min ln (wa - bs.length) := by omega
      refine am_iload dX8_copy_23 rfl rfl ?_
      refine am_iload_n dX8_copy_25 rfl rfl ?_
      refine am_ncmp_ge 64 dX8_copy_26 rfl rfl (by omega) (by omega) (fun hc => ?_) (fun hc => ?_)
      · refine am_iload_n dX8_copy_64 rfl rfl ?_
        refine am_iload_n dX8_copy_65 rfl rfl ?_
        refine am_ncmp_le 73 dX8_copy_66 rfl rfl (by omega) (by omega) (fun hc => ?_) (fun hc => ?_)
        · refine am_iconst (v := nI 0) dX8_copy_73 rfl (by decide +kernel) ?_
          exact am_ri dX8_copy_74 rfl rfl rfl ⟨by rw [if_neg (by omega)], hfr, by rw [← hi]; exact hw, g5⟩
        · refine am_iconst (v := nI 5) dX8_copy_69 rfl (by decide +kernel) ?_
          refine am_goto 74 dX8_copy_70 rfl rfl ?_
          exact am_ri dX8_copy_74 rfl rfl rfl ⟨by rw [if_pos hc], hfr, by rw [← hi]; exact hw, g5⟩
      · refine am_iload dX8_copy_29 rfl rfl ?_
        refine am_iload_n dX8_copy_31 rfl rfl ?_
        refine am_ncmp_ge 64 dX8_copy_32 rfl rfl (by omega) (by omega) (fun hc => ?_) (fun hc => ?_)
        · refine am_iload_n dX8_copy_64 rfl rfl ?_
          refine am_iload_n dX8_copy_65 rfl rfl ?_
          refine am_ncmp_le 73 dX8_copy_66 rfl rfl (by omega) (by omega) (fun hc => ?_) (fun hc => ?_)
          · refine am_iconst (v := nI 0) dX8_copy_73 rfl (by decide +kernel) ?_
            exact am_ri dX8_copy_74 rfl rfl rfl ⟨by rw [if_neg (by omega)], hfr, by rw [← hi]; exact hw, g5⟩
          · refine am_iconst (v := nI 5) dX8_copy_69 rfl (by decide +kernel) ?_
            refine am_goto 74 dX8_copy_70 rfl rfl ?_
            exact am_ri dX8_copy_74 rfl rfl rfl ⟨by rw [if_pos hc], hfr, by rw [← hi]; exact hw, g5⟩
        · omega
    | succ q ih =>
      intro i H hi hfr g5 hw
      have hcl := cpl_len bs dd i
      have hu := (hfr 30 (by simp)).trans hu
      have p3 := hw.choose_spec.1
      refine am_iload dX8_copy_23 rfl rfl ?_
      refine am_iload_n dX8_copy_25 rfl rfl ?_
      refine am_ncmp_ge 64 dX8_copy_26 rfl rfl (by omega) (by omega) (fun hc => ?_) (fun hc => ?_)
      · omega
      · refine am_iload dX8_copy_29 rfl rfl ?_
        refine am_iload_n dX8_copy_31 rfl rfl ?_
        refine am_ncmp_ge 64 dX8_copy_32 rfl rfl (by omega) (by omega) (fun hc => ?_) (fun hc => ?_)
        · omega
        · refine am_aload_n dX8_copy_35 rfl rfl ?_
          refine am_get f_X8_20 dX8_copy_36 rfl hu rfl ?_
          refine am_aload_n dX8_copy_39 rfl rfl ?_
          refine am_get f_X8_20 dX8_copy_40 rfl hu rfl ?_
          refine am_aload_n dX8_copy_43 rfl rfl ?_
          refine am_get f_X8_20 dX8_copy_44 rfl hu rfl ?_
          refine am_vi (t_count (d - 1) _ hw) k_X3_count l_X8_73 dX8_copy_47 rfl rfl rfl rfl p3 (by omega) (Nat.le_refl _) (Nat.le_refl _) (fun x h1 hx => ?_)
          obtain ⟨rfl, hh⟩ := hx
          obtain rfl := hh.symm
          refine am_iload_n dX8_copy_50 rfl rfl ?_
          refine am_isub dX8_copy_51 rfl ?_
          rw [pk_sub (by omega)]
          refine am_vi (t_at (d - 1) _ hw (by decide) (by decide) (by omega) (by omega) (nI ((cpl bs dd i).length - dd))) k_X3_at l_X8_148 dX8_copy_52 rfl rfl rfl rfl p3 (by omega) (Nat.le_refl _) (Nat.le_refl _) (fun x h1 hx => ?_)
          obtain ⟨rfl, hh⟩ := hx
          obtain rfl := hh.symm
          rw [ix_in (by omega) (by omega)]
          refine am_vv (t_add (d - 1) _ hw (by decide) (by decide) (by omega) _) k_X3_add l_X8_133 dX8_copy_55 rfl rfl rfl rfl p3 (by omega) (Nat.le_refl _) (Nat.le_refl _) (fun h3 hx => ?_)
          obtain ⟨f3, w3⟩ := hx
          refine am_iinc (n := 1) dX8_copy_58 rfl rfl (nI_1 i) ?_
          refine am_goto 23 dX8_copy_61 rfl rfl ?_
          exact ih (i + 1) h3 (by omega) (hfr.tr f3 (by simp)) ((f3 5 (by simp)).trans g5) w3
  exact loop (min ln (wa - bs.length)) 0 h1 (by omega) (am_fr.rf.tr f1 (by simp)) g5 hp1
end UNP

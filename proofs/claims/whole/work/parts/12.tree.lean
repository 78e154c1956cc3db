/-! ===== Tree ===== -/
section TREE
variable {l : Launch} {D : va_G} {dA : Bool → ClassId}
abbrev trO (t : Nat) (al : Int32) : am_E := .inr (7, [am_r (t + 1), am_r (t + 2), am_r (t + 3), am_r (t + 4), am_r (t + 5), am_r (t + 6), am_r (t + 7), .inl al])
/-- the lengths up to the last one above 0 -/
def lst (len : Nat → Nat) : Nat → Nat
  | 0 => 0
  | n + 1 => if len n = 0 then lst len n else n + 1
/-- how many lengths 0 stand in a row, up to a limit -/
def zrs (len : Nat → Nat) (s : Nat) : Nat → Nat
  | 0 => 0
  | k + 1 => if len s = 0 then zrs len (s + 1) k + 1 else 0
/-- the codes of a tree are made -/
def stl (h : am_H) (t m : Nat) (len : Nat → Nat) : Prop := ∃ cf orf ct fc fp : Nat → Int32, h (t + 2) = some (.inl (false, m, cf)) ∧ h (t + 4) = some (.inl (false, m, orf)) ∧ h (t + 5) = some (.inl (false, 17, ct)) ∧ h (t + 6) = some (.inl (false, 17, fc)) ∧ h (t + 7) = some (.inl (false, 17, fp)) ∧ (∀ n, 1 ≤ n → n ≤ 16 → ct n = nI (cnt len n m) ∧ fc n = nI (frst len m n) ∧ fp n = nI (plc len m n)) ∧ ∀ s, s < m → len s ≠ 0 → cf s = nI (frst len m (len s) + cnt len (len s) s) ∧ orf (plc len m (len s) + cnt len (len s) s) = nI s
set_option maxHeartbeats 4000000 in
set_option maxRecDepth 100000 in
theorem t_fill (d n0 : Nat) {h : am_H} {a n : Nat} {f : Nat → Int32} (ha : h a = some (.inl (false, n, f))) (hn : n < 2 ^ 31) (v : Int32) : am_Ct l D dA m_J7_fill_53178 d 0 0 n0 [am_r a, .inl v] h (am_qv fun h' => h' = am_set h a (.inl (false, n, fun j => if j < n then v else f j))) := by
  refine am_Cv (by decide +kernel) rfl rfl ?_
  refine am_iconst (v := nI 0) dJ7_fill_53178_0 rfl (by decide +kernel) ?_
  refine am_istore_n dJ7_fill_53178_1 rfl rfl ?_
  refine am_aload_n dJ7_fill_53178_2 rfl rfl ?_
  refine am_alen dJ7_fill_53178_3 rfl ha ?_
  refine am_istore_n dJ7_fill_53178_4 rfl rfl ?_
  have loop : ∀ (q i : Nat), i + q = n → am_At l D dA m_J7_fill_53178 d 0 0 0 0 n0 none (am_qv fun h' => h' = am_set h a (.inl (false, n, fun j => if j < n then v else f j))) 0 0 5 [some (am_r a), some (.inl v), some (.inl (nI i)), some (.inl (nI n))] [] (am_set h a (.inl (false, n, fun j => if j < i then v else f j))) := by
    intro q
    induction q with
    | zero =>
      intro i hi
      obtain rfl : i = n := by omega
      refine am_iload_n dJ7_fill_53178_5 rfl rfl ?_
      refine am_iload_n dJ7_fill_53178_6 rfl rfl ?_
      refine am_ncmp_ge 20 dJ7_fill_53178_7 rfl rfl (by omega) (by omega) (fun hc => ?_) (fun hc => ?_)
      · exact am_rv dJ7_fill_53178_20 rfl rfl rfl rfl
      · omega
    | succ q ih =>
      intro i hi
      refine am_iload_n dJ7_fill_53178_5 rfl rfl ?_
      refine am_iload_n dJ7_fill_53178_6 rfl rfl ?_
      refine am_ncmp_ge 20 dJ7_fill_53178_7 rfl rfl (by omega) (by omega) (fun hc => ?_) (fun hc => ?_)
      · omega
      · refine am_aload_n dJ7_fill_53178_10 rfl rfl ?_
        refine am_iload_n dJ7_fill_53178_11 rfl rfl ?_
        refine am_iload_n dJ7_fill_53178_12 rfl rfl ?_
        refine am_iast dJ7_fill_53178_13 rfl am_set_eq (by omega) (by omega) ?_
        refine am_iinc (n := 1) dJ7_fill_53178_14 rfl rfl (nI_1 i) ?_
        refine am_goto 5 dJ7_fill_53178_17 rfl rfl ?_
        rw [am_set_set]
        refine am_eq rfl rfl rfl ?_ (ih (i + 1) (by omega))
        congr 4
        funext j
        by_cases hj : j = i
        · subst hj; rw [upd_eq, if_pos (by omega)]
        · rw [upd_ne hj]
          by_cases g : j < i
          · rw [if_pos g, if_pos (by omega)]
          · rw [if_neg g, if_neg (by omega)]
  refine am_eq rfl rfl rfl ?_ (loop n 0 (by omega))
  rw [show (fun j => if j < 0 then v else f j) = f from funext fun j => if_neg (Nat.not_lt_zero j)]
  exact (am_set_self ha).symm
set_option maxHeartbeats 4000000 in
set_option maxRecDepth 100000 in
theorem t_X7_symbols (d n0 : Nat) {h : am_H} {t : Nat} {al : Int32} (ht : h t = some (trO t al)) {m : Nat} {lf : Nat → Int32} (h1 : h (t + 1) = some (.inl (false, m, lf))) (hm : m < 2 ^ 20) : am_Ct l D dA m_X7_symbols d 0 0 n0 [am_r t] h (am_qi fun x h' => x = nI m ∧ h' = h) := by
  refine am_Ci (by decide +kernel) rfl rfl ?_
  refine am_aload_n dX7_symbols_0 rfl rfl ?_
  refine am_get f_X7_9 dX7_symbols_1 rfl ht rfl ?_
  refine am_alen dX7_symbols_4 rfl h1 ?_
  exact am_ri dX7_symbols_5 rfl rfl rfl ⟨rfl, rfl⟩
set_option maxHeartbeats 4000000 in
set_option maxRecDepth 100000 in
theorem t_X7_has (d n0 : Nat) {h : am_H} {t : Nat} {al : Int32} (ht : h t = some (trO t al)) {m : Nat} {lf : Nat → Int32} (h1 : h (t + 1) = some (.inl (false, m, lf))) (hm : m < 2 ^ 20) (i : Int32) : am_Ct l D dA m_X7_has d 0 0 n0 [am_r t, .inl i] h (am_qi fun x h' => x = am_bz (ix i m).isSome ∧ h' = h) := by
  refine am_Cz (by decide +kernel) rfl (fun x h' hx => by rw [hx.1]; exact am_bz_01 _) rfl ?_
  refine am_iload_n dX7_has_0 rfl rfl ?_
  refine am_if_lt 17 dX7_has_1 rfl rfl (fun h0 => ?_) (fun h0 => ?_)
  · refine am_iconst (v := nI 0) dX7_has_17 rfl (by decide +kernel) ?_
    exact am_ri dX7_has_18 rfl rfl rfl ⟨by rw [ix_neg h0]; rfl, rfl⟩
  · refine am_iload_n dX7_has_4 rfl rfl ?_
    refine am_aload_n dX7_has_5 rfl rfl ?_
    refine am_get f_X7_9 dX7_has_6 rfl ht rfl ?_
    refine am_alen dX7_has_9 rfl h1 ?_
    refine am_icmp_ge 17 dX7_has_10 rfl rfl (fun h2 => ?_) (fun h2 => ?_)
    · refine am_iconst (v := nI 0) dX7_has_17 rfl (by decide +kernel) ?_
      exact am_ri dX7_has_18 rfl rfl rfl ⟨by rw [ix_big h2 (by omega)]; rfl, rfl⟩
    · refine am_iconst (v := nI 1) dX7_has_13 rfl (by decide +kernel) ?_
      refine am_goto 18 dX7_has_14 rfl rfl ?_
      exact am_ri dX7_has_18 rfl rfl rfl ⟨by obtain ⟨j, hj, rfl⟩ := ix_of h0 h2 (by omega); rw [ix_in hj (by omega)]; rfl, rfl⟩
set_option maxHeartbeats 4000000 in
set_option maxRecDepth 100000 in
theorem t_X7_lengthOf (d n0 : Nat) {h : am_H} {t : Nat} {al : Int32} (ht : h t = some (trO t al)) {m : Nat} {lf : Nat → Int32} (h1 : h (t + 1) = some (.inl (false, m, lf))) (hm : m < 2 ^ 20) (hd : 1 ≤ d) (i : Int32) : am_Ct l D dA m_X7_lengthOf d 0 0 n0 [am_r t, .inl i] h (am_qi fun x h' => x = (match ix i m with | some k => lf k | none => -1) ∧ h' = h) := by
  refine am_Ci (by decide +kernel) rfl rfl ?_
  refine am_aload_n dX7_lengthOf_0 rfl rfl ?_
  refine am_iload_n dX7_lengthOf_1 rfl rfl ?_
  refine am_vi (t_X7_has (d - 1) _ ht h1 hm i) k_X7_has l_X7_43 dX7_lengthOf_2 rfl rfl rfl rfl ht (by omega) (Nat.le_refl _) (Nat.le_refl _) (fun x h1 hx => ?_)
  obtain ⟨rfl, rfl⟩ := hx
  refine am_bif_eq 17 dX7_lengthOf_5 rfl rfl (fun hc => ?_) (fun hc => ?_)
  · refine am_iconst (v := -1) dX7_lengthOf_17 rfl (by decide +kernel) ?_
    exact am_ri dX7_lengthOf_18 rfl rfl rfl ⟨by rw [Option.isSome_eq_false_iff.mp hc |> Option.isNone_iff_eq_none.mp], rfl⟩
  · obtain ⟨j, hj⟩ := Option.isSome_iff_exists.mp hc
    obtain ⟨hj1, rfl⟩ := ix_some hj
    refine am_aload_n dX7_lengthOf_8 rfl rfl ?_
    refine am_get f_X7_9 dX7_lengthOf_9 rfl ht rfl ?_
    refine am_iload_n dX7_lengthOf_12 rfl rfl ?_
    refine am_iald dX7_lengthOf_13 rfl h1 (by omega) (by omega) ?_
    refine am_goto 18 dX7_lengthOf_14 rfl rfl ?_
    exact am_ri dX7_lengthOf_18 rfl rfl rfl ⟨by rw [hj], rfl⟩
set_option maxHeartbeats 4000000 in
set_option maxRecDepth 100000 in
theorem t_X7_codeOf (d n0 : Nat) {h : am_H} {t : Nat} {al : Int32} (ht : h t = some (trO t al)) {m : Nat} {lf : Nat → Int32} (h1 : h (t + 1) = some (.inl (false, m, lf))) (hm : m < 2 ^ 20) {g : Nat → Int32} (h2 : h (t + 2) = some (.inl (false, m, g))) (hd : 1 ≤ d) (i : Int32) : am_Ct l D dA m_X7_codeOf d 0 0 n0 [am_r t, .inl i] h (am_qi fun x h' => x = (match ix i m with | some k => g k | none => nI 0) ∧ h' = h) := by
  refine am_Ci (by decide +kernel) rfl rfl ?_
  refine am_aload_n dX7_codeOf_0 rfl rfl ?_
  refine am_iload_n dX7_codeOf_1 rfl rfl ?_
  refine am_vi (t_X7_has (d - 1) _ ht h1 hm i) k_X7_has l_X7_43 dX7_codeOf_2 rfl rfl rfl rfl ht (by omega) (Nat.le_refl _) (Nat.le_refl _) (fun x h1 hx => ?_)
  obtain ⟨rfl, rfl⟩ := hx
  refine am_bif_eq 17 dX7_codeOf_5 rfl rfl (fun hc => ?_) (fun hc => ?_)
  · refine am_iconst (v := nI 0) dX7_codeOf_17 rfl (by decide +kernel) ?_
    exact am_ri dX7_codeOf_18 rfl rfl rfl ⟨by rw [Option.isSome_eq_false_iff.mp hc |> Option.isNone_iff_eq_none.mp], rfl⟩
  · obtain ⟨j, hj⟩ := Option.isSome_iff_exists.mp hc
    obtain ⟨hj1, rfl⟩ := ix_some hj
    refine am_aload_n dX7_codeOf_8 rfl rfl ?_
    refine am_get f_X7_15 dX7_codeOf_9 rfl ht rfl ?_
    refine am_iload_n dX7_codeOf_12 rfl rfl ?_
    refine am_iald dX7_codeOf_13 rfl h2 (by omega) (by omega) ?_
    refine am_goto 18 dX7_codeOf_14 rfl rfl ?_
    exact am_ri dX7_codeOf_18 rfl rfl rfl ⟨by rw [hj], rfl⟩
set_option maxHeartbeats 4000000 in
set_option maxRecDepth 100000 in
theorem t_X7_usesOf (d n0 : Nat) {h : am_H} {t : Nat} {al : Int32} (ht : h t = some (trO t al)) {m : Nat} {lf : Nat → Int32} (h1 : h (t + 1) = some (.inl (false, m, lf))) (hm : m < 2 ^ 20) {g : Nat → Int32} (h2 : h (t + 3) = some (.inl (false, m, g))) (hd : 1 ≤ d) (i : Int32) : am_Ct l D dA m_X7_usesOf d 0 0 n0 [am_r t, .inl i] h (am_qi fun x h' => x = (match ix i m with | some k => g k | none => nI 0) ∧ h' = h) := by
  refine am_Ci (by decide +kernel) rfl rfl ?_
  refine am_aload_n dX7_usesOf_0 rfl rfl ?_
  refine am_iload_n dX7_usesOf_1 rfl rfl ?_
  refine am_vi (t_X7_has (d - 1) _ ht h1 hm i) k_X7_has l_X7_43 dX7_usesOf_2 rfl rfl rfl rfl ht (by omega) (Nat.le_refl _) (Nat.le_refl _) (fun x h1 hx => ?_)
  obtain ⟨rfl, rfl⟩ := hx
  refine am_bif_eq 17 dX7_usesOf_5 rfl rfl (fun hc => ?_) (fun hc => ?_)
  · refine am_iconst (v := nI 0) dX7_usesOf_17 rfl (by decide +kernel) ?_
    exact am_ri dX7_usesOf_18 rfl rfl rfl ⟨by rw [Option.isSome_eq_false_iff.mp hc |> Option.isNone_iff_eq_none.mp], rfl⟩
  · obtain ⟨j, hj⟩ := Option.isSome_iff_exists.mp hc
    obtain ⟨hj1, rfl⟩ := ix_some hj
    refine am_aload_n dX7_usesOf_8 rfl rfl ?_
    refine am_get f_X7_18 dX7_usesOf_9 rfl ht rfl ?_
    refine am_iload_n dX7_usesOf_12 rfl rfl ?_
    refine am_iald dX7_usesOf_13 rfl h2 (by omega) (by omega) ?_
    refine am_goto 18 dX7_usesOf_14 rfl rfl ?_
    exact am_ri dX7_usesOf_18 rfl rfl rfl ⟨by rw [hj], rfl⟩
set_option maxHeartbeats 4000000 in
set_option maxRecDepth 100000 in
theorem t_X7_alone (d n0 : Nat) {h : am_H} {t : Nat} {al : Int32} (ht : h t = some (trO t al)) : am_Ct l D dA m_X7_alone d 0 0 n0 [am_r t] h (am_qi fun x h' => x = al ∧ h' = h) := by
  refine am_Ci (by decide +kernel) rfl rfl ?_
  refine am_aload_n dX7_alone_0 rfl rfl ?_
  refine am_get f_X7_33 dX7_alone_1 rfl ht rfl ?_
  exact am_ri dX7_alone_4 rfl rfl rfl ⟨rfl, rfl⟩
set_option maxHeartbeats 4000000 in
set_option maxRecDepth 100000 in
theorem t_X7_isAlone (d n0 : Nat) {h : am_H} {t : Nat} {al : Int32} (ht : h t = some (trO t al)) : am_Ct l D dA m_X7_isAlone d 0 0 n0 [am_r t] h (am_qi fun x h' => x = am_bz (decide (al ≠ -1)) ∧ h' = h) := by
  refine am_Cz (by decide +kernel) rfl (fun x h' hx => by rw [hx.1]; exact am_bz_01 _) rfl ?_
  refine am_aload_n dX7_isAlone_0 rfl rfl ?_
  refine am_get f_X7_33 dX7_isAlone_1 rfl ht rfl ?_
  refine am_iconst (v := -1) dX7_isAlone_4 rfl (by decide +kernel) ?_
  refine am_icmp_eq 12 dX7_isAlone_5 rfl rfl (fun hc => ?_) (fun hc => ?_)
  · refine am_iconst (v := nI 0) dX7_isAlone_12 rfl (by decide +kernel) ?_
    exact am_ri dX7_isAlone_13 rfl rfl rfl ⟨by rw [decide_eq_false (fun g => g hc)]; rfl, rfl⟩
  · refine am_iconst (v := nI 1) dX7_isAlone_8 rfl (by decide +kernel) ?_
    refine am_goto 13 dX7_isAlone_9 rfl rfl ?_
    exact am_ri dX7_isAlone_13 rfl rfl rfl ⟨by rw [decide_eq_true hc]; rfl, rfl⟩
set_option maxHeartbeats 4000000 in
set_option maxRecDepth 100000 in
theorem t_X7_setAlone (d n0 : Nat) {h : am_H} {t : Nat} {al : Int32} (ht : h t = some (trO t al)) (v : Int32) : am_Ct l D dA m_X7_setAlone d 0 0 n0 [am_r t, .inl v] h (am_qv fun h' => h' = am_set h t (trO t v)) := by
  refine am_Cv (by decide +kernel) rfl rfl ?_
  refine am_aload_n dX7_setAlone_0 rfl rfl ?_
  refine am_iload_n dX7_setAlone_1 rfl rfl ?_
  refine am_put f_X7_33 dX7_setAlone_2 rfl ht (am_fit_i _) rfl ?_
  exact am_rv dX7_setAlone_5 rfl rfl rfl rfl
set_option maxHeartbeats 4000000 in
set_option maxRecDepth 100000 in
theorem t_X7_use (d n0 : Nat) {h : am_H} {t : Nat} {al : Int32} (ht : h t = some (trO t al)) {m : Nat} {lf : Nat → Int32} (h1 : h (t + 1) = some (.inl (false, m, lf))) (hm : m < 2 ^ 20) {g : Nat → Int32} (h3 : h (t + 3) = some (.inl (false, m, g))) (hd : 1 ≤ d) {s : Nat} (hs : s < m) : am_Ct l D dA m_X7_use d 0 0 n0 [am_r t, .inl (nI s)] h (am_qv fun h' => h' = am_set h (t + 3) (.inl (false, m, upd g s (g s + nI 1)))) := by
  refine am_Cv (by decide +kernel) rfl rfl ?_
  refine am_aload_n dX7_use_0 rfl rfl ?_
  refine am_iload_n dX7_use_1 rfl rfl ?_
  refine am_vi (t_X7_has (d - 1) _ ht h1 hm (nI s)) k_X7_has l_X7_43 dX7_use_2 rfl rfl rfl rfl ht (by omega) (Nat.le_refl _) (Nat.le_refl _) (fun x h1 hx => ?_)
  obtain ⟨rfl, rfl⟩ := hx
  rw [ix_in hs (by omega)]
  refine am_bif_eq 18 dX7_use_5 rfl rfl (fun hc => ?_) (fun hc => ?_)
  · cases hc
  · refine am_aload_n dX7_use_8 rfl rfl ?_
    refine am_get f_X7_18 dX7_use_9 rfl ht rfl ?_
    refine am_iload_n dX7_use_12 rfl rfl ?_
    refine am_dup2 dX7_use_13 rfl ?_
    refine am_iald dX7_use_14 rfl h3 (by omega) (by omega) ?_
    refine am_iconst (v := nI 1) dX7_use_15 rfl (by decide +kernel) ?_
    refine am_iadd dX7_use_16 rfl ?_
    refine am_iast dX7_use_17 rfl h3 (by omega) (by omega) ?_
    exact am_rv dX7_use_18 rfl rfl rfl rfl
set_option maxHeartbeats 4000000 in
set_option maxRecDepth 100000 in
theorem t_X7_setLength (d n0 : Nat) {h : am_H} {t : Nat} {al : Int32} (ht : h t = some (trO t al)) {m : Nat} {lf : Nat → Int32} (h1 : h (t + 1) = some (.inl (false, m, lf))) (hm : m < 2 ^ 20) (hd : 1 ≤ d) {s n : Nat} (hs : s < m) (hn : n ≤ 16) : am_Ct l D dA m_X7_setLength d 0 0 n0 [am_r t, .inl (nI s), .inl (nI n)] h (am_qv fun h' => h' = am_set h (t + 1) (.inl (false, m, upd lf s (nI n)))) := by
  refine am_Cv (by decide +kernel) rfl rfl ?_
  refine am_aload_n dX7_setLength_0 rfl rfl ?_
  refine am_iload_n dX7_setLength_1 rfl rfl ?_
  refine am_vi (t_X7_has (d - 1) _ ht h1 hm (nI s)) k_X7_has l_X7_43 dX7_setLength_2 rfl rfl rfl rfl ht (by omega) (Nat.le_refl _) (Nat.le_refl _) (fun x h1 hx => ?_)
  obtain ⟨rfl, rfl⟩ := hx
  rw [ix_in hs (by omega)]
  refine am_bif_eq 25 dX7_setLength_5 rfl rfl (fun hc => ?_) (fun hc => ?_)
  · cases hc
  · refine am_iload_n dX7_setLength_8 rfl rfl ?_
    refine am_nif_lt 25 dX7_setLength_9 rfl rfl (by omega) ?_
    refine am_iload_n dX7_setLength_12 rfl rfl ?_
    refine am_bipush (v := nI 16) dX7_setLength_13 rfl (by decide +kernel) ?_
    refine am_ncmp_gt 25 dX7_setLength_15 rfl rfl (by omega) (by omega) (fun hc => ?_) (fun hc => ?_)
    · omega
    · refine am_aload_n dX7_setLength_18 rfl rfl ?_
      refine am_get f_X7_9 dX7_setLength_19 rfl ht rfl ?_
      refine am_iload_n dX7_setLength_22 rfl rfl ?_
      refine am_iload_n dX7_setLength_23 rfl rfl ?_
      refine am_iast dX7_setLength_24 rfl h1 (by omega) (by omega) ?_
      exact am_rv dX7_setLength_25 rfl rfl rfl rfl
set_option maxHeartbeats 4000000 in
set_option maxRecDepth 100000 in
theorem t_X7_lengthsInUse (d n0 : Nat) {h : am_H} {t : Nat} {al : Int32} (ht : h t = some (trO t al)) {m : Nat} {lf : Nat → Int32} (h1 : h (t + 1) = some (.inl (false, m, lf))) (hm : m < 2 ^ 20) {len : Nat → Nat} (hlf : ∀ s, s < m → lf s = nI (len s)) (hle : ∀ s, s < m → len s ≤ 16) : am_Ct l D dA m_X7_lengthsInUse d 0 0 n0 [am_r t] h (am_qi fun x h' => x = nI (lst len m) ∧ h' = h) := by
  refine am_Ci (by decide +kernel) rfl rfl ?_
  refine am_aload_n dX7_lengthsInUse_0 rfl rfl ?_
  refine am_get f_X7_9 dX7_lengthsInUse_1 rfl ht rfl ?_
  refine am_alen dX7_lengthsInUse_4 rfl h1 ?_
  refine am_istore_n dX7_lengthsInUse_5 rfl rfl ?_
  have loop : ∀ (n : Nat), n ≤ m → am_At l D dA m_X7_lengthsInUse d 0 0 0 0 n0 none (am_qi fun x h' => x = nI (lst len n) ∧ h' = h) 0 0 6 [some (am_r t), some (.inl (nI n))] [] h := by
    intro n
    induction n with
    | zero =>
      intro _
      refine am_iload_n dX7_lengthsInUse_6 rfl rfl ?_
      refine am_nif_le 29 dX7_lengthsInUse_7 rfl rfl (by omega) (fun hc => ?_) (fun hc => ?_)
      · refine am_iconst (v := nI 0) dX7_lengthsInUse_29 rfl (by decide +kernel) ?_
        exact am_ri dX7_lengthsInUse_30 rfl rfl rfl ⟨rfl, rfl⟩
      · omega
    | succ n ih =>
      intro hn
      refine am_iload_n dX7_lengthsInUse_6 rfl rfl ?_
      refine am_nif_le 29 dX7_lengthsInUse_7 rfl rfl (by omega) (fun hc => ?_) (fun hc => ?_)
      · omega
      · refine am_aload_n dX7_lengthsInUse_10 rfl rfl ?_
        refine am_get f_X7_9 dX7_lengthsInUse_11 rfl ht rfl ?_
        refine am_iload_n dX7_lengthsInUse_14 rfl rfl ?_
        refine am_iconst (v := nI 1) dX7_lengthsInUse_15 rfl (by decide +kernel) ?_
        refine am_isub dX7_lengthsInUse_16 rfl ?_
        rw [show nI (n + 1) - nI 1 = nI n from pk_sub (by omega)]
        refine am_iald dX7_lengthsInUse_17 rfl h1 (by omega) (by omega) ?_
        rw [hlf n (by omega)]
        have := hle n (by omega)
        refine am_nif_le 23 dX7_lengthsInUse_18 rfl rfl (by omega) (fun hc => ?_) (fun hc => ?_)
        · refine am_iinc (n := (-1)) dX7_lengthsInUse_23 rfl rfl (pk_m1 n) ?_
          refine am_goto 6 dX7_lengthsInUse_26 rfl rfl ?_
          have e : lst len (n + 1) = lst len n := if_pos hc
          rw [e]
          exact ih (by omega)
        · refine am_iload_n dX7_lengthsInUse_21 rfl rfl ?_
          exact am_ri dX7_lengthsInUse_22 rfl rfl rfl ⟨by rw [show lst len (n + 1) = n + 1 from if_neg (by omega)], rfl⟩
  exact loop m (Nat.le_refl m)
set_option maxHeartbeats 4000000 in
set_option maxRecDepth 100000 in
theorem t_X7_zerosFrom (d n0 : Nat) {h : am_H} {t : Nat} {al : Int32} (ht : h t = some (trO t al)) {m : Nat} {lf : Nat → Int32} (h1 : h (t + 1) = some (.inl (false, m, lf))) (hm : m < 2 ^ 20) {len : Nat → Nat} (hlf : ∀ s, s < m → lf s = nI (len s)) (hle : ∀ s, s < m → len s ≤ 16) (hd : 2 ≤ d) {s lim : Nat} (hs : s + lim ≤ m) : am_Ct l D dA m_X7_zerosFrom d 0 0 n0 [am_r t, .inl (nI s), .inl (nI lim)] h (am_qi fun x h' => x = nI (zrs len s lim) ∧ h' = h) := by
  refine am_Ci (by decide +kernel) rfl rfl ?_
  refine am_iconst (v := nI 0) dX7_zerosFrom_0 rfl (by decide +kernel) ?_
  refine am_istore_n dX7_zerosFrom_1 rfl rfl ?_
  have loop : ∀ (q n : Nat), n + q = lim → zrs len s lim = n + zrs len (s + n) q → am_At l D dA m_X7_zerosFrom d 0 0 0 0 n0 none (am_qi fun x h' => x = nI (zrs len s lim) ∧ h' = h) 0 0 2 [some (am_r t), some (.inl (nI s)), some (.inl (nI lim)), some (.inl (nI n))] [] h := by
    intro q
    induction q with
    | zero =>
      intro n hn hz
      refine am_iload_n dX7_zerosFrom_2 rfl rfl ?_
      refine am_iload_n dX7_zerosFrom_3 rfl rfl ?_
      refine am_ncmp_ge 25 dX7_zerosFrom_4 rfl rfl (by omega) (by omega) (fun hc => ?_) (fun hc => ?_)
      · refine am_iload_n dX7_zerosFrom_25 rfl rfl ?_
        exact am_ri dX7_zerosFrom_26 rfl rfl rfl ⟨by rw [hz]; congr 1; show lim = n + 0; omega, rfl⟩
      · omega
    | succ q ih =>
      intro n hn hz
      refine am_iload_n dX7_zerosFrom_2 rfl rfl ?_
      refine am_iload_n dX7_zerosFrom_3 rfl rfl ?_
      refine am_ncmp_ge 25 dX7_zerosFrom_4 rfl rfl (by omega) (by omega) (fun hc => ?_) (fun hc => ?_)
      · omega
      · refine am_aload_n dX7_zerosFrom_7 rfl rfl ?_
        refine am_iload_n dX7_zerosFrom_8 rfl rfl ?_
        refine am_iload_n dX7_zerosFrom_9 rfl rfl ?_
        refine am_iadd dX7_zerosFrom_10 rfl ?_
        rw [nI_add]
        refine am_vi (t_X7_lengthOf (d - 1) _ ht h1 hm (by omega) (nI (s + n))) k_X7_lengthOf l_X7_47 dX7_zerosFrom_11 rfl rfl rfl rfl ht (by omega) (Nat.le_refl _) (Nat.le_refl _) (fun x h1 hx => ?_)
        obtain ⟨rfl, rfl⟩ := hx
        rw [ix_in (by omega) (by omega)]
        simp only []
        rw [hlf (s + n) (by omega)]
        have := hle (s + n) (by omega)
        refine am_nif_eq 19 dX7_zerosFrom_14 rfl rfl (by omega) (fun hc => ?_) (fun hc => ?_)
        · refine am_iinc (n := 1) dX7_zerosFrom_19 rfl rfl (nI_1 n) ?_
          refine am_goto 2 dX7_zerosFrom_22 rfl rfl ?_
          refine ih (n + 1) (by omega) ?_
          rw [hz]
          show n + (if len (s + n) = 0 then zrs len (s + n + 1) q + 1 else 0) = _
          rw [if_pos hc]
          show n + (zrs len (s + n + 1) q + 1) = n + 1 + zrs len (s + (n + 1)) q
          rw [show s + (n + 1) = s + n + 1 by omega]
          omega
        · refine am_iload_n dX7_zerosFrom_17 rfl rfl ?_
          exact am_ri dX7_zerosFrom_18 rfl rfl rfl ⟨by rw [hz]; show nI n = nI (n + (if len (s + n) = 0 then _ else 0)); rw [if_neg (by omega)]; rfl, rfl⟩
  exact loop lim 0 (by omega) (by rw [Nat.zero_add]; rfl)
set_option maxHeartbeats 4000000 in
set_option maxRecDepth 100000 in
theorem t_X7_symbolOf (d n0 : Nat) {h : am_H} {t : Nat} {al : Int32} (ht : h t = some (trO t al)) {m : Nat} (hm : m < 2 ^ 20) {len : Nat → Nat} (hle : ∀ s, s < m → len s ≤ 16) (hs : stl h t m len) {v n : Nat} (hn : 1 ≤ n) (hn2 : n ≤ 16) (hv : v < 2 ^ 17) (hv2 : frst len m n ≤ v) : am_Ct l D dA m_X7_symbolOf d 0 0 n0 [am_r t, .inl (nI v), .inl (nI n)] h (am_qi fun x h' => h' = h ∧ (frst len m n + cnt len n m ≤ v → x = -1) ∧ ∀ s, s < m → len s = n → v = frst len m n + cnt len n s → x = nI s) := by
  refine am_Ci (by decide +kernel) rfl rfl ?_
  obtain ⟨cf, orf, ct, fc, fp, h2, h4, h5, h6, h7, hT, hO⟩ := hs
  obtain ⟨e1, e2, e3⟩ := hT n hn hn2
  have c1 := cnt_le len n m
  have c2 := plc_le len m n
  rw [if_neg (by omega)] at c2
  refine am_iload_n dX7_symbolOf_0 rfl rfl ?_
  refine am_aload_n dX7_symbolOf_1 rfl rfl ?_
  refine am_get f_X7_27 dX7_symbolOf_2 rfl ht rfl ?_
  refine am_iload_n dX7_symbolOf_5 rfl rfl ?_
  refine am_iald dX7_symbolOf_6 rfl h6 (by omega) (by omega) ?_
  rw [e2]
  refine am_isub dX7_symbolOf_7 rfl ?_
  rw [pk_sub hv2]
  refine am_istore_n dX7_symbolOf_8 rfl rfl ?_
  refine am_iload_n dX7_symbolOf_9 rfl rfl ?_
  refine am_nif_lt 23 dX7_symbolOf_10 rfl rfl (by omega) ?_
  refine am_iload_n dX7_symbolOf_13 rfl rfl ?_
  refine am_aload_n dX7_symbolOf_14 rfl rfl ?_
  refine am_get f_X7_24 dX7_symbolOf_15 rfl ht rfl ?_
  refine am_iload_n dX7_symbolOf_18 rfl rfl ?_
  refine am_iald dX7_symbolOf_19 rfl h5 (by omega) (by omega) ?_
  rw [e1]
  refine am_ncmp_lt 25 dX7_symbolOf_20 rfl rfl (by omega) (by omega) (fun hc => ?_) (fun hc => ?_)
  · refine am_aload_n dX7_symbolOf_25 rfl rfl ?_
    refine am_get f_X7_21 dX7_symbolOf_26 rfl ht rfl ?_
    refine am_aload_n dX7_symbolOf_29 rfl rfl ?_
    refine am_get f_X7_30 dX7_symbolOf_30 rfl ht rfl ?_
    refine am_iload_n dX7_symbolOf_33 rfl rfl ?_
    refine am_iald dX7_symbolOf_34 rfl h7 (by omega) (by omega) ?_
    rw [e3]
    refine am_iload_n dX7_symbolOf_35 rfl rfl ?_
    refine am_iadd dX7_symbolOf_36 rfl ?_
    rw [nI_add]
    refine am_iald dX7_symbolOf_37 rfl h4 (by omega) (by omega) ?_
    exact am_ri dX7_symbolOf_38 rfl rfl rfl ⟨rfl, fun g => by omega, fun s hs hl hv3 => by
      have := (hO s hs (by omega)).2
      rw [hl] at this
      rw [← this]
      congr 1
      omega⟩
  · refine am_iconst (v := -1) dX7_symbolOf_23 rfl (by decide +kernel) ?_
    exact am_ri dX7_symbolOf_24 rfl rfl rfl ⟨rfl, fun _ => rfl, fun s hs hl hv3 => by
      have := cnt_lt hs hl
      omega⟩
end TREE

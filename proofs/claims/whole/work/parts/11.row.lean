/-! ===== ByteRow ===== -/
section ROW
variable {l : Launch} {D : va_G} {dA : Bool → ClassId}
set_option maxHeartbeats 4000000 in
set_option maxRecDepth 100000 in
theorem t_X3_count (d n0 : Nat) {h : am_H} {r a c : Nat} (hr : h r = some (.inr (3, [am_r a, .inl (nI c)]))) : am_Ct l D dA m_X3_count d 0 0 n0 [am_r r] h (am_qi fun x h' => x = nI c ∧ h' = h) := by
  refine am_Ci (by decide +kernel) rfl rfl ?_
  refine am_aload_n dX3_count_0 rfl rfl ?_
  refine am_get f_X3_15 dX3_count_1 rfl hr rfl ?_
  exact am_ri dX3_count_4 rfl rfl rfl ⟨rfl, rfl⟩
set_option maxHeartbeats 4000000 in
set_option maxRecDepth 100000 in
theorem t_X3_hasRoomFor (d n0 : Nat) {h : am_H} {r a c : Nat} (hr : h r = some (.inr (3, [am_r a, .inl (nI c)]))) {n : Nat} {f : Nat → Int32} (ha : h a = some (.inl (false, n, f))) (hne : a ≠ r) (hn : n < 2 ^ 31) (hcn : c ≤ n) (v : Int32) : am_Ct l D dA m_X3_hasRoomFor d 0 0 n0 [am_r r, .inl v] h (am_qi fun x h' => x = am_bz (decide (v ≤ nI (n - c))) ∧ h' = h) := by
  refine am_Cz (by decide +kernel) rfl (fun x h' hx => by rw [hx.1]; exact am_bz_01 _) rfl ?_
  refine am_iload_n dX3_hasRoomFor_0 rfl rfl ?_
  refine am_aload_n dX3_hasRoomFor_1 rfl rfl ?_
  refine am_get f_X3_9 dX3_hasRoomFor_2 rfl hr rfl ?_
  refine am_alen dX3_hasRoomFor_5 rfl ha ?_
  refine am_aload_n dX3_hasRoomFor_6 rfl rfl ?_
  refine am_get f_X3_15 dX3_hasRoomFor_7 rfl hr rfl ?_
  refine am_isub dX3_hasRoomFor_10 rfl ?_
  rw [pk_sub hcn]
  refine am_icmp_gt 18 dX3_hasRoomFor_11 rfl rfl (fun hc => ?_) (fun hc => ?_)
  · refine am_iconst (v := nI 0) dX3_hasRoomFor_18 rfl (by decide +kernel) ?_
    exact am_ri dX3_hasRoomFor_19 rfl rfl rfl ⟨by rw [decide_eq_false (fun g => absurd g (Int32.not_le.mpr hc))]; rfl, rfl⟩
  · refine am_iconst (v := nI 1) dX3_hasRoomFor_14 rfl (by decide +kernel) ?_
    refine am_goto 19 dX3_hasRoomFor_15 rfl rfl ?_
    exact am_ri dX3_hasRoomFor_19 rfl rfl rfl ⟨by rw [decide_eq_true (Int32.not_lt.mp hc)]; rfl, rfl⟩
set_option maxHeartbeats 4000000 in
set_option maxRecDepth 100000 in
theorem t_X3_has (d n0 : Nat) {h : am_H} {r a c : Nat} (hr : h r = some (.inr (3, [am_r a, .inl (nI c)]))) (hc : c < 2 ^ 31) (i : Int32) : am_Ct l D dA m_X3_has d 0 0 n0 [am_r r, .inl i] h (am_qi fun x h' => x = am_bz (ix i c).isSome ∧ h' = h) := by
  refine am_Cz (by decide +kernel) rfl (fun x h' hx => by rw [hx.1]; exact am_bz_01 _) rfl ?_
  refine am_iload_n dX3_has_0 rfl rfl ?_
  refine am_if_lt 16 dX3_has_1 rfl rfl (fun h0 => ?_) (fun h0 => ?_)
  · refine am_iconst (v := nI 0) dX3_has_16 rfl (by decide +kernel) ?_
    exact am_ri dX3_has_17 rfl rfl rfl ⟨by rw [ix_neg h0]; rfl, rfl⟩
  · refine am_iload_n dX3_has_4 rfl rfl ?_
    refine am_aload_n dX3_has_5 rfl rfl ?_
    refine am_get f_X3_15 dX3_has_6 rfl hr rfl ?_
    refine am_icmp_ge 16 dX3_has_9 rfl rfl (fun h1 => ?_) (fun h1 => ?_)
    · refine am_iconst (v := nI 0) dX3_has_16 rfl (by decide +kernel) ?_
      exact am_ri dX3_has_17 rfl rfl rfl ⟨by rw [ix_big h1 hc]; rfl, rfl⟩
    · refine am_iconst (v := nI 1) dX3_has_12 rfl (by decide +kernel) ?_
      refine am_goto 17 dX3_has_13 rfl rfl ?_
      exact am_ri dX3_has_17 rfl rfl rfl ⟨by obtain ⟨j, hj, rfl⟩ := ix_of h0 h1 hc; rw [ix_in hj hc]; rfl, rfl⟩
set_option maxHeartbeats 4000000 in
set_option maxRecDepth 100000 in
theorem t_X3_at (d n0 : Nat) {h : am_H} {r a c : Nat} (hr : h r = some (.inr (3, [am_r a, .inl (nI c)]))) {n : Nat} {f : Nat → Int32} (ha : h a = some (.inl (false, n, f))) (hne : a ≠ r) (hn : n < 2 ^ 31) (hcn : c ≤ n) (hd : 1 ≤ d) (i : Int32) : am_Ct l D dA m_X3_at d 0 0 n0 [am_r r, .inl i] h (am_qi fun x h' => x = (match ix i c with | some k => f k | none => -1) ∧ h' = h) := by
  refine am_Ci (by decide +kernel) rfl rfl ?_
  refine am_aload_n dX3_at_0 rfl rfl ?_
  refine am_iload_n dX3_at_1 rfl rfl ?_
  refine am_vi (t_X3_has (d - 1) _ hr (by omega) i) k_X3_has l_X3_19 dX3_at_2 rfl rfl rfl rfl hr (by omega) (Nat.le_refl _) (Nat.le_refl _) (fun x h1 hx => ?_)
  obtain ⟨rfl, rfl⟩ := hx
  refine am_bif_eq 17 dX3_at_5 rfl rfl (fun hc => ?_) (fun hc => ?_)
  · refine am_iconst (v := -1) dX3_at_17 rfl (by decide +kernel) ?_
    exact am_ri dX3_at_18 rfl rfl rfl ⟨by rw [Option.isSome_eq_false_iff.mp hc |> Option.isNone_iff_eq_none.mp], rfl⟩
  · obtain ⟨j, hj⟩ := Option.isSome_iff_exists.mp hc
    obtain ⟨hj1, rfl⟩ := ix_some hj
    refine am_aload_n dX3_at_8 rfl rfl ?_
    refine am_get f_X3_9 dX3_at_9 rfl hr rfl ?_
    refine am_iload_n dX3_at_12 rfl rfl ?_
    refine am_iald dX3_at_13 rfl ha (by omega) (by omega) ?_
    refine am_goto 18 dX3_at_14 rfl rfl ?_
    exact am_ri dX3_at_18 rfl rfl rfl ⟨by rw [hj], rfl⟩
set_option maxHeartbeats 4000000 in
set_option maxRecDepth 100000 in
theorem t_X3_change (d n0 : Nat) {h : am_H} {r a c : Nat} (hr : h r = some (.inr (3, [am_r a, .inl (nI c)]))) {n : Nat} {f : Nat → Int32} (ha : h a = some (.inl (false, n, f))) (hne : a ≠ r) (hn : n < 2 ^ 31) (hcn : c ≤ n) (hd : 1 ≤ d) (i v : Int32) : am_Ct l D dA m_X3_change d 0 0 n0 [am_r r, .inl i, .inl v] h (am_qv fun h' => (∀ k, ix i c = some k → h' = am_set h a (.inl (false, n, upd f k v))) ∧ (ix i c = none → h' = h)) := by
  refine am_Cv (by decide +kernel) rfl rfl ?_
  refine am_aload_n dX3_change_0 rfl rfl ?_
  refine am_iload_n dX3_change_1 rfl rfl ?_
  refine am_vi (t_X3_has (d - 1) _ hr (by omega) i) k_X3_has l_X3_19 dX3_change_2 rfl rfl rfl rfl hr (by omega) (Nat.le_refl _) (Nat.le_refl _) (fun x h1 hx => ?_)
  obtain ⟨rfl, rfl⟩ := hx
  refine am_bif_eq 15 dX3_change_5 rfl rfl (fun hc => ?_) (fun hc => ?_)
  · exact am_rv dX3_change_15 rfl rfl rfl ⟨fun k hk => (by rw [hk] at hc; cases hc), fun _ => rfl⟩
  · obtain ⟨j, hj⟩ := Option.isSome_iff_exists.mp hc
    obtain ⟨hj1, rfl⟩ := ix_some hj
    refine am_aload_n dX3_change_8 rfl rfl ?_
    refine am_get f_X3_9 dX3_change_9 rfl hr rfl ?_
    refine am_iload_n dX3_change_12 rfl rfl ?_
    refine am_iload_n dX3_change_13 rfl rfl ?_
    refine am_iast dX3_change_14 rfl ha (by omega) (by omega) ?_
    exact am_rv dX3_change_15 rfl rfl rfl ⟨fun k hk => (by rw [hj] at hk; cases hk; rfl), fun hk => (by rw [hj] at hk; cases hk)⟩
set_option maxHeartbeats 4000000 in
set_option maxRecDepth 100000 in
theorem t_X3_add (d n0 : Nat) {h : am_H} {r a c : Nat} (hr : h r = some (.inr (3, [am_r a, .inl (nI c)]))) {n : Nat} {f : Nat → Int32} (ha : h a = some (.inl (false, n, f))) (hne : a ≠ r) (hn : n < 2 ^ 31) (hcn : c < n) (v : Int32) : am_Ct l D dA m_X3_add d 0 0 n0 [am_r r, .inl v] h (am_qv fun h' => h' = am_set (am_set h a (.inl (false, n, upd f c v))) r (.inr (3, [am_r a, .inl (nI (c + 1))]))) := by
  refine am_Cv (by decide +kernel) rfl rfl ?_
  refine am_aload_n dX3_add_0 rfl rfl ?_
  refine am_get f_X3_15 dX3_add_1 rfl hr rfl ?_
  refine am_aload_n dX3_add_4 rfl rfl ?_
  refine am_get f_X3_9 dX3_add_5 rfl hr rfl ?_
  refine am_alen dX3_add_8 rfl ha ?_
  refine am_ncmp_ge 32 dX3_add_9 rfl rfl (by omega) (by omega) (fun hc => ?_) (fun hc => ?_)
  · omega
  · refine am_aload_n dX3_add_12 rfl rfl ?_
    refine am_get f_X3_9 dX3_add_13 rfl hr rfl ?_
    refine am_aload_n dX3_add_16 rfl rfl ?_
    refine am_get f_X3_15 dX3_add_17 rfl hr rfl ?_
    refine am_iload_n dX3_add_20 rfl rfl ?_
    refine am_iast dX3_add_21 rfl ha (by omega) (by omega) ?_
    refine am_aload_n dX3_add_22 rfl rfl ?_
    refine am_dup dX3_add_23 rfl ?_
    refine am_get f_X3_15 dX3_add_24 rfl ((am_set_ne (Ne.symm hne)).trans hr) rfl ?_
    refine am_iconst (v := nI 1) dX3_add_27 rfl (by decide +kernel) ?_
    refine am_iadd dX3_add_28 rfl ?_
    refine am_put f_X3_15 dX3_add_29 rfl ((am_set_ne (Ne.symm hne)).trans hr) (am_fit_i _) rfl ?_
    exact am_rv dX3_add_32 rfl rfl rfl (by rw [nI_add]; rfl)
set_option maxHeartbeats 4000000 in
set_option maxRecDepth 100000 in
theorem t_X3_mixIntoLast (d n0 : Nat) {h : am_H} {r a c : Nat} (hr : h r = some (.inr (3, [am_r a, .inl (nI c)]))) {n : Nat} {f : Nat → Int32} (ha : h a = some (.inl (false, n, f))) (hne : a ≠ r) (hn : n < 2 ^ 31) (hcn : c ≤ n) (hc0 : 0 < c) (v : Int32) : am_Ct l D dA m_X3_mixIntoLast d 0 0 n0 [am_r r, .inl v] h (am_qv fun h' => h' = am_set h a (.inl (false, n, upd f (c - 1) (f (c - 1) ||| v)))) := by
  refine am_Cv (by decide +kernel) rfl rfl ?_
  refine am_aload_n dX3_mixIntoLast_0 rfl rfl ?_
  refine am_get f_X3_15 dX3_mixIntoLast_1 rfl hr rfl ?_
  refine am_nif_le 22 dX3_mixIntoLast_4 rfl rfl (by omega) (fun hc => ?_) (fun hc => ?_)
  · omega
  · refine am_aload_n dX3_mixIntoLast_7 rfl rfl ?_
    refine am_get f_X3_9 dX3_mixIntoLast_8 rfl hr rfl ?_
    refine am_aload_n dX3_mixIntoLast_11 rfl rfl ?_
    refine am_get f_X3_15 dX3_mixIntoLast_12 rfl hr rfl ?_
    refine am_iconst (v := nI 1) dX3_mixIntoLast_15 rfl (by decide +kernel) ?_
    refine am_isub dX3_mixIntoLast_16 rfl ?_
    rw [pk_sub (by omega)]
    refine am_dup2 dX3_mixIntoLast_17 rfl ?_
    refine am_iald dX3_mixIntoLast_18 rfl ha (by omega) (by omega) ?_
    refine am_iload_n dX3_mixIntoLast_19 rfl rfl ?_
    refine am_ior dX3_mixIntoLast_20 rfl ?_
    refine am_iast dX3_mixIntoLast_21 rfl ha (by omega) (by omega) ?_
    exact am_rv dX3_mixIntoLast_22 rfl rfl rfl rfl
set_option maxHeartbeats 4000000 in
set_option maxRecDepth 100000 in
theorem t_X3_empty (d n0 : Nat) {h : am_H} {r a c : Nat} (hr : h r = some (.inr (3, [am_r a, .inl (nI c)]))) : am_Ct l D dA m_X3_empty d 0 0 n0 [am_r r] h (am_qv fun h' => h' = am_set h r (.inr (3, [am_r a, .inl (nI 0)]))) := by
  refine am_Cv (by decide +kernel) rfl rfl ?_
  refine am_aload_n dX3_empty_0 rfl rfl ?_
  refine am_iconst (v := nI 0) dX3_empty_1 rfl (by decide +kernel) ?_
  refine am_put f_X3_15 dX3_empty_2 rfl hr (am_fit_i _) rfl ?_
  exact am_rv dX3_empty_5 rfl rfl rfl rfl
end ROW

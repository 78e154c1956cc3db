/-! ===== the reference: bits and trees ===== -/
section MOD1
variable {l : Launch} {D : va_G} {dA : Bool → ClassId}
abbrev mO (ct md : Nat) (to : Bool) (bl co cp bi en fa tc : Nat) : am_E := .inr (10, [am_r 47, .inl (nI ct), am_r 48, .inl (nI md), am_r 49, am_r 50, am_r 51, .inl (am_bz to), .inl (nI bl), .inl (nI co), .inl (nI cp), .inl (nI bi), .inl (nI en), .inl (nI fa), am_r 52, am_r 53, am_r 54, am_r 55, am_r 56, am_r 57, am_r 58, am_r 59, .inl (nI tc)])
def sym (t : Nat) : Nat := if t = 0 then 19 else if t = 1 then 510 else 14
theorem sym_le (t : Nat) : sym t ≤ 510 ∧ 14 ≤ sym t := by
  unfold sym
  split
  · omega
  · split <;> omega
theorem frstM {len : Nat → Nat} {m : Nat} (hm : m ≤ 510) (hl : ∀ s, s < m → len s ≤ 16) {n : Nat} (hn : n ≤ 16) : frst len m n < 2 ^ 25 := by
  have h1 := smk_frst len m n hn
  have h2 := smk_le_krf len m hl n (by omega)
  have h3 := krf_le len m
  have h4 : 1 ≤ 2 ^ (16 - n) := Nat.one_le_two_pow
  have h5 : frst len m n * 1 ≤ frst len m n * 2 ^ (16 - n) := Nat.mul_le_mul_left _ h4
  have h6 : m * 2 ^ 15 ≤ 510 * 2 ^ 15 := Nat.mul_le_mul_right _ hm
  omega
set_option maxHeartbeats 4000000 in
set_option maxRecDepth 100000 in
theorem t_X10_symbols (d n0 : Nat) {h : am_H} {t : Nat} (ht : t ≤ 2) : am_Ct l D dA m_X10_symbols d 0 0 n0 [.inl (nI t)] h (am_qi fun x h' => x = nI (sym t) ∧ h' = h) := by
  refine am_Ci (by decide +kernel) rfl rfl ?_
  refine am_iload_n dX10_symbols_0 rfl rfl ?_
  refine am_nif_ne 9 dX10_symbols_1 rfl rfl (by omega) (fun hc => ?_) (fun hc => ?_)
  · refine am_iload_n dX10_symbols_9 rfl rfl ?_
    refine am_iconst (v := nI 1) dX10_symbols_10 rfl (by decide +kernel) ?_
    refine am_ncmp_ne 20 dX10_symbols_11 rfl rfl (by omega) (by omega) (fun hc => ?_) (fun hc => ?_)
    · refine am_bipush (v := nI 14) dX10_symbols_20 rfl (by decide +kernel) ?_
      exact am_ri dX10_symbols_22 rfl rfl rfl ⟨by unfold sym; rw [if_neg (by omega), if_neg (by omega)], rfl⟩
    · refine am_sipush (v := nI 510) dX10_symbols_14 rfl (by decide +kernel) ?_
      refine am_goto 22 dX10_symbols_17 rfl rfl ?_
      exact am_ri dX10_symbols_22 rfl rfl rfl ⟨by unfold sym; rw [if_neg (by omega), if_pos (by omega)], rfl⟩
  · refine am_bipush (v := nI 19) dX10_symbols_4 rfl (by decide +kernel) ?_
    refine am_goto 22 dX10_symbols_6 rfl rfl ?_
    exact am_ri dX10_symbols_22 rfl rfl rfl ⟨by unfold sym; rw [if_pos (by omega)], rfl⟩
set_option maxHeartbeats 4000000 in
set_option maxRecDepth 100000 in
theorem t_X10_fails (d n0 : Nat) {h : am_H} {ct md : Nat} {to : Bool} {bl co cp bi en fa tc : Nat} (hm : h 46 = some (mO ct md to bl co cp bi en fa tc)) (hfa : fa < 2 ^ 31) {v : Nat} : am_Ct l D dA m_X10_fails d 0 0 n0 [am_r 46, .inl (nI v)] h (am_qv fun h' => h' = am_set h 46 (mO ct md to bl co cp bi en (if fa = 0 then v else fa) tc)) := by
  refine am_Cv (by decide +kernel) rfl rfl ?_
  refine am_aload_n dX10_fails_0 rfl rfl ?_
  refine am_aload_n dX10_fails_1 rfl rfl ?_
  refine am_get f_X10_73 dX10_fails_2 rfl hm rfl ?_
  refine am_nif_ne 12 dX10_fails_5 rfl rfl (by omega) (fun hc => ?_) (fun hc => ?_)
  · refine am_aload_n dX10_fails_12 rfl rfl ?_
    refine am_get f_X10_73 dX10_fails_13 rfl hm rfl ?_
    refine am_put f_X10_73 dX10_fails_16 rfl hm (am_fit_i _) rfl ?_
    exact am_rv dX10_fails_19 rfl rfl rfl (by rw [if_neg (by omega)]; rfl)
  · refine am_iload_n dX10_fails_8 rfl rfl ?_
    refine am_goto 16 dX10_fails_9 rfl rfl ?_
    refine am_put f_X10_73 dX10_fails_16 rfl hm (am_fit_i _) rfl ?_
    exact am_rv dX10_fails_19 rfl rfl rfl (by rw [if_pos hc]; rfl)
set_option maxHeartbeats 4000000 in
set_option maxRecDepth 100000 in
theorem t_X10_take (d n0 : Nat) {h : am_H} {ct md : Nat} {to : Bool} {bl co cp bi en tc : Nat} (hm : h 46 = some (mO ct md to bl co cp bi en 0 tc)) {f : Nat → Int32} (hf : h 47 = some (.inl (false, 4000, f))) (hE : en ≤ 32000) (hk : bi ≤ en) {n : Nat} (hn : n ≤ 16) (hd : 1 ≤ d) : am_Ct l D dA m_X10_take d 0 0 n0 [am_r 46, .inl (nI n)] h (am_qi fun x h' => (bi + n ≤ en → x = nI (num f bi n) ∧ h' = am_set h 46 (mO ct md to bl co cp (bi + n) en 0 tc)) ∧ (en < bi + n → x = nI (num f bi (en - bi)) ∧ h' = am_set h 46 (mO ct md to bl co cp en en 1 tc))) := by
  refine am_Ci (by decide +kernel) rfl rfl ?_
  refine am_iconst (v := nI 0) dX10_take_0 rfl (by decide +kernel) ?_
  refine am_istore_n dX10_take_1 rfl rfl ?_
  refine am_iconst (v := nI 0) dX10_take_2 rfl (by decide +kernel) ?_
  refine am_istore_n dX10_take_3 rfl rfl ?_
  have loop : ∀ (q i : Nat), i + q = n → bi + i ≤ en → am_At l D dA m_X10_take d 0 0 0 0 n0 none (am_qi fun x h' => (bi + n ≤ en → x = nI (num f bi n) ∧ h' = am_set h 46 (mO ct md to bl co cp (bi + n) en 0 tc)) ∧ (en < bi + n → x = nI (num f bi (en - bi)) ∧ h' = am_set h 46 (mO ct md to bl co cp en en 1 tc))) 0 0 4 [some (am_r 46), some (.inl (nI n)), some (.inl (nI (num f bi i))), some (.inl (nI i))] [] (am_set h 46 (mO ct md to bl co cp (bi + i) en 0 tc)) := by
    intro q
    induction q with
    | zero =>
      intro i hi hEk
      obtain rfl : i = n := by omega
      refine am_iload_n dX10_take_4 rfl rfl ?_
      refine am_iload_n dX10_take_5 rfl rfl ?_
      refine am_ncmp_ge 81 dX10_take_6 rfl rfl (by omega) (by omega) (fun hc => ?_) (fun hc => ?_)
      · refine am_iload_n dX10_take_81 rfl rfl ?_
        exact am_ri dX10_take_82 rfl rfl rfl ⟨fun _ => ⟨rfl, rfl⟩, fun g => by omega⟩
      · omega
    | succ q ih =>
      intro i hi hEk
      have hnl := num_lt f bi i
      have hp : 2 ^ i ≤ 2 ^ 15 := Nat.pow_le_pow_right (by omega) (by omega)
      refine am_iload_n dX10_take_4 rfl rfl ?_
      refine am_iload_n dX10_take_5 rfl rfl ?_
      refine am_ncmp_ge 81 dX10_take_6 rfl rfl (by omega) (by omega) (fun hc => ?_) (fun hc => ?_)
      · omega
      · refine am_aload_n dX10_take_9 rfl rfl ?_
        refine am_get f_X10_73 dX10_take_10 rfl am_set_eq rfl ?_
        refine am_nif_ne 81 dX10_take_13 rfl rfl (by omega) (fun hf0 => ?_) (fun hf0 => ?_)
        · omega
        · refine am_aload_n dX10_take_16 rfl rfl ?_
          refine am_get f_X10_70 dX10_take_17 rfl am_set_eq rfl ?_
          refine am_aload_n dX10_take_20 rfl rfl ?_
          refine am_get f_X10_83 dX10_take_21 rfl am_set_eq rfl ?_
          refine am_ncmp_ne 35 dX10_take_24 rfl rfl (by omega) (by omega) (fun he => ?_) (fun he => ?_)
          · refine am_iload_n dX10_take_35 rfl rfl ?_
            refine am_iconst (v := nI 1) dX10_take_36 rfl (by decide +kernel) ?_
            refine am_ishl dX10_take_37 rfl ?_
            refine am_aload_n dX10_take_38 rfl rfl ?_
            refine am_get f_X10_7 dX10_take_39 rfl am_set_eq rfl ?_
            refine am_aload_n dX10_take_42 rfl rfl ?_
            refine am_get f_X10_70 dX10_take_43 rfl am_set_eq rfl ?_
            refine am_bipush (v := nI 8) dX10_take_46 rfl (by decide +kernel) ?_
            refine am_idiv dX10_take_48 rfl (by decide +kernel) ?_
            rw [pk_div (by omega) (by omega) (by omega)]
            refine am_iald dX10_take_49 rfl ((am_set_ne (by omega)).trans hf) (by omega) (by omega) ?_
            refine am_bipush (v := nI 7) dX10_take_50 rfl (by decide +kernel) ?_
            refine am_aload_n dX10_take_52 rfl rfl ?_
            refine am_get f_X10_70 dX10_take_53 rfl am_set_eq rfl ?_
            refine am_bipush (v := nI 8) dX10_take_56 rfl (by decide +kernel) ?_
            refine am_irem dX10_take_58 rfl (by decide +kernel) ?_
            rw [pk_rem (by omega) (by omega) (by omega)]
            refine am_isub dX10_take_59 rfl ?_
            rw [pk_sub (by omega)]
            refine am_ishr dX10_take_60 rfl ?_
            refine am_iconst (v := nI 1) dX10_take_61 rfl (by decide +kernel) ?_
            refine am_iand dX10_take_62 rfl ?_
            rw [bt_and f (bi + i)]
            refine am_ior dX10_take_63 rfl ?_
            rw [nI_or1 (by omega) (bt_lt f (bi + i))]
            refine am_istore_n dX10_take_64 rfl rfl ?_
            refine am_aload_n dX10_take_65 rfl rfl ?_
            refine am_dup dX10_take_66 rfl ?_
            refine am_get f_X10_70 dX10_take_67 rfl am_set_eq rfl ?_
            refine am_iconst (v := nI 1) dX10_take_70 rfl (by decide +kernel) ?_
            refine am_iadd dX10_take_71 rfl ?_
            rw [nI_add]
            refine am_put f_X10_70 dX10_take_72 rfl am_set_eq (am_fit_i _) rfl ?_
            refine am_iinc (n := 1) dX10_take_75 rfl rfl (nI_1 i) ?_
            refine am_goto 4 dX10_take_78 rfl rfl ?_
            rw [am_set_set]
            exact ih (i + 1) (by omega) (by omega)
          · refine am_aload_n dX10_take_27 rfl rfl ?_
            refine am_iconst (v := nI 1) dX10_take_28 rfl (by decide +kernel) ?_
            refine am_vv (t_X10_fails (d - 1) _ am_set_eq (by omega) (v := 1)) k_X10_fails l_X10_86 dX10_take_29 rfl rfl rfl rfl am_set_eq (by omega) (Nat.le_refl _) (Nat.le_refl _) (fun h1 hx => ?_)
            rw [am_set_set, if_pos rfl] at hx
            subst hx
            refine am_goto 75 dX10_take_32 rfl rfl ?_
            refine am_iinc (n := 1) dX10_take_75 rfl rfl (nI_1 i) ?_
            refine am_goto 4 dX10_take_78 rfl rfl ?_
            refine am_iload_n dX10_take_4 rfl rfl ?_
            refine am_iload_n dX10_take_5 rfl rfl ?_
            refine am_ncmp_ge 81 dX10_take_6 rfl rfl (by omega) (by omega) (fun h7 => ?_) (fun h7 => ?_)
            · refine am_iload_n dX10_take_81 rfl rfl ?_
              exact am_ri dX10_take_82 rfl rfl rfl ⟨fun g => by omega, fun _ => ⟨by rw [show en - bi = i by omega], by rw [he]⟩⟩
            · refine am_aload_n dX10_take_9 rfl rfl ?_
              refine am_get f_X10_73 dX10_take_10 rfl am_set_eq rfl ?_
              refine am_nif_ne 81 dX10_take_13 rfl rfl (by omega) (fun h8 => ?_) (fun h8 => ?_)
              · refine am_iload_n dX10_take_81 rfl rfl ?_
                exact am_ri dX10_take_82 rfl rfl rfl ⟨fun g => by omega, fun _ => ⟨by rw [show en - bi = i by omega], by rw [he]⟩⟩
              · omega
  refine am_eq rfl rfl rfl ?_ (loop n 0 (by omega) (by omega))
  exact (am_set_self hm).symm
set_option maxHeartbeats 4000000 in
set_option maxRecDepth 100000 in
theorem t_X10_take1 (d n0 : Nat) {h : am_H} {ct md : Nat} {to : Bool} {bl co cp bi en fa tc : Nat} (hm : h 46 = some (mO ct md to bl co cp bi en fa tc)) (hfa : 0 < fa) (hfb : fa < 2 ^ 31) {n : Nat} (hn : n ≤ 16) : am_Ct l D dA m_X10_take d 0 0 n0 [am_r 46, .inl (nI n)] h (am_qi fun x h' => x = nI 0 ∧ h' = h) := by
  refine am_Ci (by decide +kernel) rfl rfl ?_
  refine am_iconst (v := nI 0) dX10_take_0 rfl (by decide +kernel) ?_
  refine am_istore_n dX10_take_1 rfl rfl ?_
  refine am_iconst (v := nI 0) dX10_take_2 rfl (by decide +kernel) ?_
  refine am_istore_n dX10_take_3 rfl rfl ?_
  refine am_iload_n dX10_take_4 rfl rfl ?_
  refine am_iload_n dX10_take_5 rfl rfl ?_
  refine am_ncmp_ge 81 dX10_take_6 rfl rfl (by omega) (by omega) (fun h7 => ?_) (fun h7 => ?_)
  · refine am_iload_n dX10_take_81 rfl rfl ?_
    exact am_ri dX10_take_82 rfl rfl rfl ⟨rfl, rfl⟩
  · refine am_aload_n dX10_take_9 rfl rfl ?_
    refine am_get f_X10_73 dX10_take_10 rfl hm rfl ?_
    refine am_nif_ne 81 dX10_take_13 rfl rfl (by omega) (fun h8 => ?_) (fun h8 => ?_)
    · refine am_iload_n dX10_take_81 rfl rfl ?_
      exact am_ri dX10_take_82 rfl rfl rfl ⟨rfl, rfl⟩
    · omega
set_option maxHeartbeats 4000000 in
set_option maxRecDepth 100000 in
theorem t_X10_number (d n0 : Nat) {h : am_H} {ct md : Nat} {to : Bool} {bl co cp bi en fa tc : Nat} (hm : h 46 = some (mO ct md to bl co cp bi en fa tc)) {t : Nat} (ht : t ≤ 2) {gl : Nat → Int32} (h9 : h 49 = some (.inl (false, 1800, gl))) {len : Nat → Nat} (hgl : ∀ s, s < sym t → gl (600 * t + s) = nI (len s)) (hle : ∀ s, s < sym t → len s ≤ 16) {gc : Nat → Int32} (h50 : h 50 = some (.inl (false, 1800, gc))) (hd : 1 ≤ d) : am_Ct l D dA m_X10_number d 0 0 n0 [am_r 46, .inl (nI t)] h (am_qv fun h' => ∃ gc', h' = am_set h 50 (.inl (false, 1800, gc')) ∧ (∀ s, s < sym t → 1 ≤ len s → gc' (600 * t + s) = nI (cdN len (sym t) s)) ∧ ∀ j, (∀ s, s < sym t → j ≠ 600 * t + s) → gc' j = gc j) := by
  refine am_Cv (by decide +kernel) rfl rfl ?_
  have hsy := sym_le t
  refine am_iconst (v := nI 0) dX10_number_0 rfl (by decide +kernel) ?_
  refine am_istore_n dX10_number_1 rfl rfl ?_
  refine am_iconst (v := nI 1) dX10_number_2 rfl (by decide +kernel) ?_
  refine am_istore_n dX10_number_3 rfl rfl ?_
  have loop : ∀ (q i : Nat) (gq : Nat → Int32) (x4 : Option am_V), i + q = 16 → (∀ s, s < sym t → 1 ≤ len s → len s ≤ i → gq (600 * t + s) = nI (cdN len (sym t) s)) → (∀ j, (∀ s, s < sym t → j ≠ 600 * t + s) → gq j = gc j) → am_At l D dA m_X10_number d 0 0 0 0 n0 none (am_qv fun h' => ∃ gc', h' = am_set h 50 (.inl (false, 1800, gc')) ∧ (∀ s, s < sym t → 1 ≤ len s → gc' (600 * t + s) = nI (cdN len (sym t) s)) ∧ ∀ j, (∀ s, s < sym t → j ≠ 600 * t + s) → gc' j = gc j) 0 0 4 [some (am_r 46), some (.inl (nI t)), some (.inl (nI (frst len (sym t) i + (if i = 0 then 0 else cnt len i (sym t))))), some (.inl (nI (i + 1))), x4] [] (am_set h 50 (.inl (false, 1800, gq))) := by
    intro q
    induction q with
    | zero =>
      intro i gq x4 hi h1 h2
      refine am_iload_n dX10_number_4 rfl rfl ?_
      refine am_bipush (v := nI 16) dX10_number_5 rfl (by decide +kernel) ?_
      refine am_ncmp_gt 72 dX10_number_7 rfl rfl (by omega) (by omega) (fun hc => ?_) (fun hc => ?_)
      · exact am_rv dX10_number_72 rfl rfl rfl ⟨gq, rfl, fun s hs hl => h1 s hs hl (by have := hle s hs; omega), h2⟩
      · omega
    | succ q ih =>
      intro i gq x4 hi h1 h2
      have hf1 := frstM hsy.1 hle (n := i) (by omega)
      have hf2 := frstM hsy.1 hle (n := i + 1) (by omega)
      have hc1 := cnt_le len i (sym t)
      refine am_iload_n dX10_number_4 rfl rfl ?_
      refine am_bipush (v := nI 16) dX10_number_5 rfl (by decide +kernel) ?_
      refine am_ncmp_gt 72 dX10_number_7 rfl rfl (by omega) (by omega) (fun hc => ?_) (fun hc => ?_)
      · omega
      · refine am_iload_n dX10_number_10 rfl rfl ?_
        refine am_iconst (v := nI 1) dX10_number_11 rfl (by decide +kernel) ?_
        refine am_ishl dX10_number_12 rfl ?_
        rw [am_m31 (by omega), pk_shlN (nI 1) 1 (am_smod (by omega)) (by split <;> omega), show (frst len (sym t) i + if i = 0 then 0 else cnt len i (sym t)) * 2 ^ 1 = frst len (sym t) (i + 1) + cnt len (i + 1) 0 from (by show _ = 2 * (frst len (sym t) i + if i = 0 then 0 else cnt len i (sym t)) + 0; omega)]
        refine am_istore_n dX10_number_13 rfl rfl ?_
        refine am_iconst (v := nI 0) dX10_number_14 rfl (by decide +kernel) ?_
        refine am_istore dX10_number_15 rfl rfl ?_
        have inner : ∀ (p s : Nat) (g2 : Nat → Int32), s + p = sym t → (∀ z, z < sym t → 1 ≤ len z → (len z ≤ i ∨ (len z = i + 1 ∧ z < s)) → g2 (600 * t + z) = nI (cdN len (sym t) z)) → (∀ j, (∀ s, s < sym t → j ≠ 600 * t + s) → g2 j = gc j) → am_At l D dA m_X10_number d 0 0 0 0 n0 none (am_qv fun h' => ∃ gc', h' = am_set h 50 (.inl (false, 1800, gc')) ∧ (∀ s, s < sym t → 1 ≤ len s → gc' (600 * t + s) = nI (cdN len (sym t) s)) ∧ ∀ j, (∀ s, s < sym t → j ≠ 600 * t + s) → gc' j = gc j) 0 0 17 [some (am_r 46), some (.inl (nI t)), some (.inl (nI (frst len (sym t) (i + 1) + cnt len (i + 1) s))), some (.inl (nI (i + 1))), some (.inl (nI s))] [] (am_set h 50 (.inl (false, 1800, g2))) := by
          intro p
          induction p with
          | zero =>
            intro s g2 hs k1 k2
            obtain rfl : s = sym t := by omega
            refine am_iload dX10_number_17 rfl rfl ?_
            refine am_iload_n dX10_number_19 rfl rfl ?_
            refine am_si (t_X10_symbols (d - 1) _ ht) k_X10_symbols l_X10_79 dX10_number_20 rfl rfl rfl rfl (by omega) (Nat.le_refl _) (Nat.le_refl _) (fun x h1 hx => ?_)
            obtain ⟨rfl, hh⟩ := hx
            obtain rfl := hh.symm
            refine am_ncmp_ge 66 dX10_number_23 rfl rfl (by omega) (by omega) (fun hc => ?_) (fun hc => ?_)
            · refine am_iinc (n := 1) dX10_number_66 rfl rfl (nI_1 (i + 1)) ?_
              refine am_goto 4 dX10_number_69 rfl rfl ?_
              exact ih (i + 1) g2 _ (by omega) (fun z hz a b => k1 z hz a (by omega)) k2
            · omega
          | succ p ihp =>
            intro s g2 hs k1 k2
            have hc2 := cnt_le len (i + 1) s
            refine am_iload dX10_number_17 rfl rfl ?_
            refine am_iload_n dX10_number_19 rfl rfl ?_
            refine am_si (t_X10_symbols (d - 1) _ ht) k_X10_symbols l_X10_79 dX10_number_20 rfl rfl rfl rfl (by omega) (Nat.le_refl _) (Nat.le_refl _) (fun x h1 hx => ?_)
            obtain ⟨rfl, hh⟩ := hx
            obtain rfl := hh.symm
            refine am_ncmp_ge 66 dX10_number_23 rfl rfl (by omega) (by omega) (fun hc => ?_) (fun hc => ?_)
            · omega
            · refine am_aload_n dX10_number_26 rfl rfl ?_
              refine am_get f_X10_16 dX10_number_27 rfl ((am_set_ne (by omega)).trans hm) rfl ?_
              refine am_sipush (v := nI 600) dX10_number_30 rfl (by decide +kernel) ?_
              refine am_iload_n dX10_number_33 rfl rfl ?_
              refine am_imul dX10_number_34 rfl ?_
              refine am_iload dX10_number_35 rfl rfl ?_
              refine am_iadd dX10_number_37 rfl ?_
              rw [pk_mul, nI_add]
              refine am_iald dX10_number_38 rfl ((am_set_ne (by omega)).trans h9) (by omega) (by omega) ?_
              rw [hgl s (by omega)]
              refine am_iload_n dX10_number_39 rfl rfl ?_
              have hls := hle s (by omega)
              refine am_ncmp_ne 60 dX10_number_40 rfl rfl (by omega) (by omega) (fun hc => ?_) (fun hc => ?_)
              · refine am_iinc (n := 1) dX10_number_60 rfl rfl (nI_1 s) ?_
                refine am_goto 17 dX10_number_63 rfl rfl ?_
                rw [show cnt len (i + 1) s = cnt len (i + 1) (s + 1) from (by show _ = cnt len (i + 1) s + (if len s = i + 1 then 1 else 0); rw [if_neg hc]; omega)]
                exact ihp (s + 1) g2 (by omega) (fun z hz a b => k1 z hz a (by rcases b with b | ⟨b, c⟩; exact Or.inl b; by_cases zz : z = s; exact absurd (zz ▸ b) hc; exact Or.inr ⟨b, by omega⟩)) k2
              · refine am_aload_n dX10_number_43 rfl rfl ?_
                refine am_get f_X10_19 dX10_number_44 rfl ((am_set_ne (by omega)).trans hm) rfl ?_
                refine am_sipush (v := nI 600) dX10_number_47 rfl (by decide +kernel) ?_
                refine am_iload_n dX10_number_50 rfl rfl ?_
                refine am_imul dX10_number_51 rfl ?_
                refine am_iload dX10_number_52 rfl rfl ?_
                refine am_iadd dX10_number_54 rfl ?_
                rw [pk_mul, nI_add]
                refine am_iload_n dX10_number_55 rfl rfl ?_
                refine am_iast dX10_number_56 rfl am_set_eq (by omega) (by omega) ?_
                refine am_iinc (n := 1) dX10_number_57 rfl rfl (nI_1 _) ?_
                rw [am_set_set]
                refine am_iinc (n := 1) dX10_number_60 rfl rfl (nI_1 s) ?_
                refine am_goto 17 dX10_number_63 rfl rfl ?_
                rw [show frst len (sym t) (i + 1) + cnt len (i + 1) s + 1 = frst len (sym t) (i + 1) + cnt len (i + 1) (s + 1) from (by show _ = _ + (cnt len (i + 1) s + (if len s = i + 1 then 1 else 0)); rw [if_pos hc]; omega)]
                refine ihp (s + 1) _ (by omega) (fun z hz a b => ?_) (fun j hj => ?_)
                · by_cases zz : z = s
                  · subst zz
                    rw [upd_eq]
                    unfold cdN
                    rw [hc]
                  · rw [upd_ne (by omega)]
                    exact k1 z hz a (by rcases b with b | ⟨b, c⟩; exact Or.inl b; exact Or.inr ⟨b, by omega⟩)
                · rw [upd_ne (hj s (by omega))]
                  exact k2 j hj
        exact inner (sym t) 0 gq (by omega) (fun z hz a b => h1 z hz a (by rcases b with b | ⟨b, c⟩; exact b; omega)) h2
  refine am_eq rfl rfl rfl ?_ (loop 16 0 gc _ (by omega) (fun s hs a b => by omega) (fun j hj => rfl))
  exact (am_set_self h50).symm
set_option maxHeartbeats 4000000 in
set_option maxRecDepth 100000 in
theorem t_X10_complete (d n0 : Nat) {h : am_H} {ct md : Nat} {to : Bool} {bl co cp bi en tc : Nat} (hm : h 46 = some (mO ct md to bl co cp bi en 0 tc)) {t : Nat} (ht : t ≤ 2) {gl : Nat → Int32} (h9 : h 49 = some (.inl (false, 1800, gl))) {len : Nat → Nat} (hgl : ∀ s, s < sym t → gl (600 * t + s) = nI (len s)) (hle : ∀ s, s < sym t → len s ≤ 16) {gc : Nat → Int32} (h50 : h 50 = some (.inl (false, 1800, gc))) (hd : 2 ≤ d) : am_Ct l D dA m_X10_complete d 0 0 n0 [am_r 46, .inl (nI t)] h (am_qv fun h' => ∃ gc', h' = am_set (am_set h 46 (mO ct md to bl co cp bi en (if krf len (sym t) = 65536 then 0 else 2) tc)) 50 (.inl (false, 1800, gc')) ∧ (∀ s, s < sym t → 1 ≤ len s → gc' (600 * t + s) = nI (cdN len (sym t) s)) ∧ ∀ j, (∀ s, s < sym t → j ≠ 600 * t + s) → gc' j = gc j) := by
  refine am_Cv (by decide +kernel) rfl rfl ?_
  have hsy := sym_le t
  refine am_iconst (v := nI 0) dX10_complete_0 rfl (by decide +kernel) ?_
  refine am_istore_n dX10_complete_1 rfl rfl ?_
  refine am_iconst (v := nI 0) dX10_complete_2 rfl (by decide +kernel) ?_
  refine am_istore_n dX10_complete_3 rfl rfl ?_
  have loop : ∀ (q s : Nat) (x4 : Option am_V), s + q = sym t → am_At l D dA m_X10_complete d 0 0 0 0 n0 none (am_qv fun h' => ∃ gc', h' = am_set (am_set h 46 (mO ct md to bl co cp bi en (if krf len (sym t) = 65536 then 0 else 2) tc)) 50 (.inl (false, 1800, gc')) ∧ (∀ s, s < sym t → 1 ≤ len s → gc' (600 * t + s) = nI (cdN len (sym t) s)) ∧ ∀ j, (∀ s, s < sym t → j ≠ 600 * t + s) → gc' j = gc j) 0 0 4 [some (am_r 46), some (.inl (nI t)), some (.inl (nI (krf len s))), some (.inl (nI s)), x4] [] h := by
    intro q
    induction q with
    | zero =>
      intro s x4 hs
      obtain rfl : s = sym t := by omega
      have hkl := krf_le len (sym t)
      have hkm : sym t * 2 ^ 15 ≤ 510 * 2 ^ 15 := Nat.mul_le_mul_right _ hsy.1
      refine am_iload_n dX10_complete_4 rfl rfl ?_
      refine am_iload_n dX10_complete_5 rfl rfl ?_
      refine am_si (t_X10_symbols (d - 1) _ ht) k_X10_symbols l_X10_79 dX10_complete_6 rfl rfl rfl rfl (by omega) (Nat.le_refl _) (Nat.le_refl _) (fun x h1 hx => ?_)
      obtain ⟨rfl, hh⟩ := hx
      obtain rfl := hh.symm
      refine am_ncmp_ge 49 dX10_complete_9 rfl rfl (by omega) (by omega) (fun hc => ?_) (fun hc => ?_)
      · refine am_iload_n dX10_complete_49 rfl rfl ?_
        refine am_ldc dX10_complete_50 rfl wd_k_X10_93 ?_
        rw [show (65536 : Int32) = nI 65536 by decide +kernel]
        refine am_ncmp_eq 60 dX10_complete_52 rfl rfl (by omega) (by omega) (fun hk => ?_) (fun hk => ?_)
        · refine am_aload_n dX10_complete_60 rfl rfl ?_
          refine am_iload_n dX10_complete_61 rfl rfl ?_
          refine am_vv (t_X10_number (d - 1) _ hm ht h9 hgl hle h50 (by omega)) k_X10_number l_X10_94 dX10_complete_62 rfl rfl rfl rfl hm (by omega) (Nat.le_refl _) (Nat.le_refl _) (fun h1 hx => ?_)
          exact am_rv dX10_complete_65 rfl rfl rfl (by rw [if_pos hk, am_set_self hm]; exact hx)
        · refine am_aload_n dX10_complete_55 rfl rfl ?_
          refine am_iconst (v := nI 2) dX10_complete_56 rfl (by decide +kernel) ?_
          refine am_vv (t_X10_fails (d - 1) _ hm (by omega) (v := 2)) k_X10_fails l_X10_86 dX10_complete_57 rfl rfl rfl rfl hm (by omega) (Nat.le_refl _) (Nat.le_refl _) (fun h1 hx => ?_)
          rw [if_pos rfl] at hx
          subst hx
          refine am_aload_n dX10_complete_60 rfl rfl ?_
          refine am_iload_n dX10_complete_61 rfl rfl ?_
          refine am_vv (t_X10_number (d - 1) _ am_set_eq ht ((am_set_ne (by omega)).trans h9) hgl hle ((am_set_ne (by omega)).trans h50) (by omega)) k_X10_number l_X10_94 dX10_complete_62 rfl rfl rfl rfl am_set_eq (by omega) (Nat.le_refl _) (Nat.le_refl _) (fun h1 hx => ?_)
          exact am_rv dX10_complete_65 rfl rfl rfl (by rw [if_neg hk]; exact hx)
      · omega
    | succ q ih =>
      intro s x4 hs
      have hls := hle s (by omega)
      have hkl := krf_le len s
      have hkm : s * 2 ^ 15 ≤ 510 * 2 ^ 15 := Nat.mul_le_mul_right _ (by omega)
      refine am_iload_n dX10_complete_4 rfl rfl ?_
      refine am_iload_n dX10_complete_5 rfl rfl ?_
      refine am_si (t_X10_symbols (d - 1) _ ht) k_X10_symbols l_X10_79 dX10_complete_6 rfl rfl rfl rfl (by omega) (Nat.le_refl _) (Nat.le_refl _) (fun x h1 hx => ?_)
      obtain ⟨rfl, hh⟩ := hx
      obtain rfl := hh.symm
      refine am_ncmp_ge 49 dX10_complete_9 rfl rfl (by omega) (by omega) (fun hc => ?_) (fun hc => ?_)
      · omega
      · refine am_aload_n dX10_complete_12 rfl rfl ?_
        refine am_get f_X10_16 dX10_complete_13 rfl hm rfl ?_
        refine am_sipush (v := nI 600) dX10_complete_16 rfl (by decide +kernel) ?_
        refine am_iload_n dX10_complete_19 rfl rfl ?_
        refine am_imul dX10_complete_20 rfl ?_
        refine am_iload_n dX10_complete_21 rfl rfl ?_
        refine am_iadd dX10_complete_22 rfl ?_
        rw [pk_mul, nI_add]
        refine am_iald dX10_complete_23 rfl h9 (by omega) (by omega) ?_
        rw [hgl s (by omega)]
        refine am_istore dX10_complete_24 rfl rfl ?_
        refine am_iload_n dX10_complete_26 rfl rfl ?_
        refine am_iload dX10_complete_27 rfl rfl ?_
        refine am_nif_ne 36 dX10_complete_29 rfl rfl (by omega) (fun h0 => ?_) (fun h0 => ?_)
        · refine am_ldc dX10_complete_36 rfl wd_k_X10_93 ?_
          refine am_iload dX10_complete_38 rfl rfl ?_
          refine am_ishr dX10_complete_40 rfl ?_
          rw [show (65536 : Int32) = nI 65536 by decide +kernel, am_m31 (by omega), pk_shrN (by omega) (nI (len s)) (len s) (am_smod (by omega))]
          refine am_iadd dX10_complete_41 rfl ?_
          rw [nI_add, show krf len s + 65536 / 2 ^ len s = krf len (s + 1) from (by show _ = krf len s + (if len s = 0 then 0 else 2 ^ (16 - len s)); rw [if_neg (by omega), ← Nat.pow_div (m := 16) (by omega) (by omega)])]
          refine am_istore_n dX10_complete_42 rfl rfl ?_
          refine am_iinc (n := 1) dX10_complete_43 rfl rfl (nI_1 s) ?_
          refine am_goto 4 dX10_complete_46 rfl rfl ?_
          exact ih (s + 1) _ (by omega)
        · refine am_iconst (v := nI 0) dX10_complete_32 rfl (by decide +kernel) ?_
          refine am_goto 41 dX10_complete_33 rfl rfl ?_
          refine am_iadd dX10_complete_41 rfl ?_
          rw [nI_add, show krf len s + 0 = krf len (s + 1) from (by show _ = krf len s + (if len s = 0 then 0 else 2 ^ (16 - len s)); rw [if_pos h0])]
          refine am_istore_n dX10_complete_42 rfl rfl ?_
          refine am_iinc (n := 1) dX10_complete_43 rfl rfl (nI_1 s) ?_
          refine am_goto 4 dX10_complete_46 rfl rfl ?_
          exact ih (s + 1) _ (by omega)
  exact loop (sym t) 0 _ (by omega)
end MOD1

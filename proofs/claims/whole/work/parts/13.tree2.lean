/-! ===== Tree: wipe, number, settle ===== -/
section TREE2
variable {l : Launch} {D : va_G} {dA : Bool → ClassId}
set_option maxHeartbeats 4000000 in
set_option maxRecDepth 100000 in
theorem t_X7_wipe (d n0 : Nat) {h : am_H} {t : Nat} {al : Int32} (ht : h t = some (trO t al)) {m : Nat} {lf : Nat → Int32} (h1 : h (t + 1) = some (.inl (false, m, lf))) (hm : m < 2 ^ 20) {g : Nat → Int32} (h3 : h (t + 3) = some (.inl (false, m, g))) (hd : 1 ≤ d) : am_Ct l D dA m_X7_wipe d 0 0 n0 [am_r t] h (am_qv fun h' => h' = am_set (am_set (am_set h (t + 1) (.inl (false, m, fun j => if j < m then nI 0 else lf j))) (t + 3) (.inl (false, m, fun j => if j < m then nI 0 else g j))) t (trO t (-1))) := by
  refine am_Cv (by decide +kernel) rfl rfl ?_
  refine am_aload_n dX7_wipe_0 rfl rfl ?_
  refine am_get f_X7_9 dX7_wipe_1 rfl ht rfl ?_
  refine am_iconst (v := nI 0) dX7_wipe_4 rfl (by decide +kernel) ?_
  refine am_sv (t_fill (d - 1) _ h1 (by omega) (nI 0)) k_J7_fill_53178 l_X7_37 dX7_wipe_5 rfl rfl rfl rfl (by omega) (Nat.le_refl _) (Nat.le_refl _) (fun h2 hx => ?_)
  subst hx
  refine am_aload_n dX7_wipe_8 rfl rfl ?_
  refine am_get f_X7_18 dX7_wipe_9 rfl ((am_set_ne (by omega)).trans ht) rfl ?_
  refine am_iconst (v := nI 0) dX7_wipe_12 rfl (by decide +kernel) ?_
  refine am_sv (t_fill (d - 1) _ ((am_set_ne (by omega)).trans h3) (by omega) (nI 0)) k_J7_fill_53178 l_X7_37 dX7_wipe_13 rfl rfl rfl rfl (by omega) (Nat.le_refl _) (Nat.le_refl _) (fun h2 hx => ?_)
  subst hx
  refine am_aload_n dX7_wipe_16 rfl rfl ?_
  refine am_iconst (v := -1) dX7_wipe_17 rfl (by decide +kernel) ?_
  refine am_put f_X7_33 dX7_wipe_18 rfl ((am_set_ne (by omega)).trans ((am_set_ne (by omega)).trans ht)) (am_fit_i _) rfl ?_
  exact am_rv dX7_wipe_21 rfl rfl rfl rfl
theorem plc_mono (len : Nat → Nat) (m : Nat) {l n : Nat} (hl : 1 ≤ l) (h : l < n) : plc len m l + cnt len l m ≤ plc len m n := by
  induction n with
  | zero => omega
  | succ n ih =>
    show _ ≤ plc len m n + _
    by_cases g : l = n
    · subst g
      rw [if_neg (by omega)]
      exact Nat.le_refl _
    · have := ih (by omega)
      omega
theorem plc_ne {len : Nat → Nat} {m s i : Nat} (hs : s < i) (hi : i < m) (h1 : len s ≠ 0) (h2 : len i ≠ 0) : plc len m (len s) + cnt len (len s) s ≠ plc len m (len i) + cnt len (len i) i := by
  intro e
  rcases Nat.lt_trichotomy (len s) (len i) with g | g | g
  · have a := plc_mono len m (by omega) g
    have b := cnt_lt (show s < m by omega) (rfl : len s = len s)
    omega
  · rw [← g] at e
    have b := cnt_lt hs (rfl : len s = len s)
    omega
  · have a := plc_mono len m (by omega) g
    have b := cnt_lt hi (rfl : len i = len i)
    omega
set_option maxHeartbeats 4000000 in
set_option maxRecDepth 100000 in
theorem t_X7_number (d n0 : Nat) {h : am_H} {t : Nat} {al : Int32} (ht : h t = some (trO t al)) {m : Nat} {lf : Nat → Int32} (h1 : h (t + 1) = some (.inl (false, m, lf))) (hm : m < 2 ^ 20) {len : Nat → Nat} (hlf : ∀ s, s < m → lf s = nI (len s)) (hle : ∀ s, s < m → len s ≤ 16) {cf orf ct fc fp : Nat → Int32} (h2 : h (t + 2) = some (.inl (false, m, cf))) (h4 : h (t + 4) = some (.inl (false, m, orf))) (h5 : h (t + 5) = some (.inl (false, 17, ct))) (h6 : h (t + 6) = some (.inl (false, 17, fc))) (h7 : h (t + 7) = some (.inl (false, 17, fp))) (hT : ∀ n, 1 ≤ n → n ≤ 16 → fc n = nI (frst len m n) ∧ fp n = nI (plc len m n)) (hd : 1 ≤ d) : am_Ct l D dA m_X7_number d 0 0 n0 [am_r t] h (am_qv fun h' => am_fr h h' [t + 2, t + 4, t + 5] ∧ stl h' t m len) := by
  refine am_Cv (by decide +kernel) rfl rfl ?_
  refine am_aload_n dX7_number_0 rfl rfl ?_
  refine am_get f_X7_24 dX7_number_1 rfl ht rfl ?_
  refine am_iconst (v := nI 0) dX7_number_4 rfl (by decide +kernel) ?_
  refine am_sv (t_fill (d - 1) _ h5 (by omega) (nI 0)) k_J7_fill_53178 l_X7_37 dX7_number_5 rfl rfl rfl rfl (by omega) (Nat.le_refl _) (Nat.le_refl _) (fun h2 hx => ?_)
  subst hx
  refine am_iconst (v := nI 0) dX7_number_8 rfl (by decide +kernel) ?_
  refine am_istore_n dX7_number_9 rfl rfl ?_
  have loop : ∀ (q i : Nat) (x2 : Option am_V) (H : am_H) (g cf orf : Nat → Int32), i + q = m → am_fr h H [t + 2, t + 4, t + 5] → H (t + 5) = some (.inl (false, 17, g)) → H (t + 2) = some (.inl (false, m, cf)) → H (t + 4) = some (.inl (false, m, orf)) → (∀ n, 1 ≤ n → n ≤ 16 → g n = nI (cnt len n i)) → (∀ s, s < i → len s ≠ 0 → cf s = nI (frst len m (len s) + cnt len (len s) s) ∧ orf (plc len m (len s) + cnt len (len s) s) = nI s) → am_At l D dA m_X7_number d 0 0 0 0 n0 none (am_qv fun h' => am_fr h h' [t + 2, t + 4, t + 5] ∧ stl h' t m len) 0 0 10 [some (am_r t), some (.inl (nI i)), x2] [] H := by
    intro q
    induction q with
    | zero =>
      intro i x2 H g cf orf hi hfr g5 g2 g4 hg hO
      obtain rfl : i = m := by omega
      have ht := (hfr t (by simp)).trans ht
      have h1 := (hfr (t + 1) (by simp)).trans h1
      have h6 := (hfr (t + 6) (by simp)).trans h6
      have h7 := (hfr (t + 7) (by simp)).trans h7
      refine am_iload_n dX7_number_10 rfl rfl ?_
      refine am_aload_n dX7_number_11 rfl rfl ?_
      refine am_get f_X7_9 dX7_number_12 rfl ht rfl ?_
      refine am_alen dX7_number_15 rfl h1 ?_
      refine am_ncmp_ge 84 dX7_number_16 rfl rfl (by omega) (by omega) (fun hc => ?_) (fun hc => ?_)
      · exact am_rv dX7_number_84 rfl rfl rfl ⟨hfr, cf, orf, g, fc, fp, g2, g4, g5, h6, h7, fun n a b => ⟨hg n a b, hT n a b⟩, hO⟩
      · omega
    | succ q ih =>
      intro i x2 H g cf orf hi hfr g5 g2 g4 hg hO
      have ht := (hfr t (by simp)).trans ht
      have h1 := (hfr (t + 1) (by simp)).trans h1
      have h6 := (hfr (t + 6) (by simp)).trans h6
      have h7 := (hfr (t + 7) (by simp)).trans h7
      refine am_iload_n dX7_number_10 rfl rfl ?_
      refine am_aload_n dX7_number_11 rfl rfl ?_
      refine am_get f_X7_9 dX7_number_12 rfl ht rfl ?_
      refine am_alen dX7_number_15 rfl h1 ?_
      refine am_ncmp_ge 84 dX7_number_16 rfl rfl (by omega) (by omega) (fun hc => ?_) (fun hc => ?_)
      · omega
      · refine am_aload_n dX7_number_19 rfl rfl ?_
        refine am_get f_X7_9 dX7_number_20 rfl ht rfl ?_
        refine am_iload_n dX7_number_23 rfl rfl ?_
        refine am_iald dX7_number_24 rfl h1 (by omega) (by omega) ?_
        rw [hlf i (by omega)]
        have hli := hle i (by omega)
        refine am_istore_n dX7_number_25 rfl rfl ?_
        refine am_iload_n dX7_number_26 rfl rfl ?_
        refine am_nif_le 78 dX7_number_27 rfl rfl (by omega) (fun hc => ?_) (fun hc => ?_)
        · refine am_iinc (n := 1) dX7_number_78 rfl rfl (nI_1 i) ?_
          refine am_goto 10 dX7_number_81 rfl rfl ?_
          refine ih (i + 1) _ H g cf orf (by omega) hfr g5 g2 g4 (fun n a b => ?_) (fun s a b => ?_)
          · rw [hg n a b]
            show _ = nI (cnt len n i + _)
            rw [if_neg (by omega)]
            rfl
          · by_cases e : s = i
            · rw [e] at b; exact absurd hc b
            · exact hO s (by omega) b
        · obtain ⟨e6, e7⟩ := hT (len i) (by omega) hli
          have e5 := hg (len i) (by omega) hli
          have hpl := plc_lt (m := m) (s := i) (by omega : len i ≠ 0) (by omega) rfl
          refine am_aload_n dX7_number_30 rfl rfl ?_
          refine am_get f_X7_15 dX7_number_31 rfl ht rfl ?_
          refine am_iload_n dX7_number_34 rfl rfl ?_
          refine am_aload_n dX7_number_35 rfl rfl ?_
          refine am_get f_X7_27 dX7_number_36 rfl ht rfl ?_
          refine am_iload_n dX7_number_39 rfl rfl ?_
          refine am_iald dX7_number_40 rfl h6 (by omega) (by omega) ?_
          refine am_aload_n dX7_number_41 rfl rfl ?_
          refine am_get f_X7_24 dX7_number_42 rfl ht rfl ?_
          refine am_iload_n dX7_number_45 rfl rfl ?_
          refine am_iald dX7_number_46 rfl g5 (by omega) (by omega) ?_
          rw [e6, e5]
          refine am_iadd dX7_number_47 rfl ?_
          rw [nI_add]
          refine am_iast dX7_number_48 rfl g2 (by omega) (by omega) ?_
          refine am_aload_n dX7_number_49 rfl rfl ?_
          refine am_get f_X7_21 dX7_number_50 rfl ((am_set_ne (by omega)).trans ht) rfl ?_
          refine am_aload_n dX7_number_53 rfl rfl ?_
          refine am_get f_X7_30 dX7_number_54 rfl ((am_set_ne (by omega)).trans ht) rfl ?_
          refine am_iload_n dX7_number_57 rfl rfl ?_
          refine am_iald dX7_number_58 rfl ((am_set_ne (by omega)).trans h7) (by omega) (by omega) ?_
          refine am_aload_n dX7_number_59 rfl rfl ?_
          refine am_get f_X7_24 dX7_number_60 rfl ((am_set_ne (by omega)).trans ht) rfl ?_
          refine am_iload_n dX7_number_63 rfl rfl ?_
          refine am_iald dX7_number_64 rfl ((am_set_ne (by omega)).trans g5) (by omega) (by omega) ?_
          rw [e7, e5]
          refine am_iadd dX7_number_65 rfl ?_
          rw [nI_add]
          refine am_iload_n dX7_number_66 rfl rfl ?_
          refine am_iast dX7_number_67 rfl ((am_set_ne (by omega)).trans g4) (by omega) (by omega) ?_
          refine am_aload_n dX7_number_68 rfl rfl ?_
          refine am_get f_X7_24 dX7_number_69 rfl ((am_set_ne (by omega)).trans ((am_set_ne (by omega)).trans ht)) rfl ?_
          refine am_iload_n dX7_number_72 rfl rfl ?_
          refine am_dup2 dX7_number_73 rfl ?_
          refine am_iald dX7_number_74 rfl ((am_set_ne (by omega)).trans ((am_set_ne (by omega)).trans g5)) (by omega) (by omega) ?_
          refine am_iconst (v := nI 1) dX7_number_75 rfl (by decide +kernel) ?_
          refine am_iadd dX7_number_76 rfl ?_
          rw [e5, nI_add]
          refine am_iast dX7_number_77 rfl ((am_set_ne (by omega)).trans ((am_set_ne (by omega)).trans g5)) (by omega) (by omega) ?_
          refine am_iinc (n := 1) dX7_number_78 rfl rfl (nI_1 i) ?_
          refine am_goto 10 dX7_number_81 rfl rfl ?_
          refine ih (i + 1) _ _ _ _ _ (by omega) (((hfr.set (by simp)).set (by simp)).set (by simp)) am_set_eq ((am_set_ne (by omega)).trans ((am_set_ne (by omega)).trans am_set_eq)) ((am_set_ne (by omega)).trans am_set_eq) (fun n a b => ?_) (fun s a b => ?_)
          · show _ = nI (cnt len n i + _)
            by_cases e : n = len i
            · subst e; rw [upd_eq, if_pos rfl]
            · rw [upd_ne e, if_neg (fun z => e z.symm), hg n a b]; rfl
          · by_cases e : s = i
            · subst e
              rw [upd_eq, upd_eq]
              exact ⟨rfl, rfl⟩
            · have hsi : s < i := by omega
              rw [upd_ne e, upd_ne (plc_ne hsi (by omega) b (by omega))]
              exact hO s hsi b
  refine loop m 0 _ _ _ cf orf (by omega) (am_fr.rf.set (by simp)) am_set_eq ((am_set_ne (by omega)).trans h2) ((am_set_ne (by omega)).trans h4) (fun n a b => ?_) (fun s a _ => absurd a (Nat.not_lt_zero s))
  rw [if_pos (by omega)]
  rfl
set_option maxHeartbeats 4000000 in
set_option maxRecDepth 100000 in
theorem t_X7_settle (d n0 : Nat) {h : am_H} {t : Nat} {al : Int32} (ht : h t = some (trO t al)) {m : Nat} {lf : Nat → Int32} (h1 : h (t + 1) = some (.inl (false, m, lf))) (hm : m < 2 ^ 20) (hm2 : m ≤ 1000) {len : Nat → Nat} (hlf : ∀ s, s < m → lf s = nI (len s)) (hle : ∀ s, s < m → len s ≤ 16) {cf orf ct fc fp : Nat → Int32} (h2 : h (t + 2) = some (.inl (false, m, cf))) (h4 : h (t + 4) = some (.inl (false, m, orf))) (h5 : h (t + 5) = some (.inl (false, 17, ct))) (h6 : h (t + 6) = some (.inl (false, 17, fc))) (h7 : h (t + 7) = some (.inl (false, 17, fp))) (hd : 2 ≤ d) : am_Ct l D dA m_X7_settle d 0 0 n0 [am_r t] h (am_qi fun x h' => x = am_bz (decide (krf len m = 65536)) ∧ am_fr h h' [t + 2, t + 4, t + 5, t + 6, t + 7] ∧ (krf len m = 65536 → stl h' t m len) ∧ (∃ cf orf ct fc fp : Nat → Int32, h' (t + 2) = some (.inl (false, m, cf)) ∧ h' (t + 4) = some (.inl (false, m, orf)) ∧ h' (t + 5) = some (.inl (false, 17, ct)) ∧ h' (t + 6) = some (.inl (false, 17, fc)) ∧ h' (t + 7) = some (.inl (false, 17, fp)))) := by
  refine am_Cz (by decide +kernel) rfl (fun x h' hx => by rw [hx.1]; exact am_bz_01 _) rfl ?_
  refine am_aload_n dX7_settle_0 rfl rfl ?_
  refine am_get f_X7_24 dX7_settle_1 rfl ht rfl ?_
  refine am_iconst (v := nI 0) dX7_settle_4 rfl (by decide +kernel) ?_
  refine am_sv (t_fill (d - 1) _ h5 (by omega) (nI 0)) k_J7_fill_53178 l_X7_37 dX7_settle_5 rfl rfl rfl rfl (by omega) (Nat.le_refl _) (Nat.le_refl _) (fun h2 hx => ?_)
  subst hx
  refine am_aload_n dX7_settle_8 rfl rfl ?_
  refine am_get f_X7_9 dX7_settle_9 rfl ((am_set_ne (by omega)).trans ht) rfl ?_
  refine am_astore_n dX7_settle_12 rfl rfl ?_
  refine am_aload_n dX7_settle_13 rfl rfl ?_
  refine am_alen dX7_settle_14 rfl ((am_set_ne (by omega)).trans h1) ?_
  refine am_istore_n dX7_settle_15 rfl rfl ?_
  refine am_iconst (v := nI 0) dX7_settle_16 rfl (by decide +kernel) ?_
  refine am_istore_n dX7_settle_17 rfl rfl ?_
  have hA : ∀ (q i : Nat) (x4 : Option am_V) (g : Nat → Int32), i + q = m → (∀ n, n ≤ 16 → g n = nI (cnt len n i)) → (∀ (x4 : Option am_V) (g : Nat → Int32), (∀ n, n ≤ 16 → g n = nI (cnt len n m)) → am_At l D dA m_X7_settle d 0 0 0 0 n0 none (am_qi fun x h' => x = am_bz (decide (krf len m = 65536)) ∧ am_fr h h' [t + 2, t + 4, t + 5, t + 6, t + 7] ∧ (krf len m = 65536 → stl h' t m len) ∧ (∃ cf orf ct fc fp : Nat → Int32, h' (t + 2) = some (.inl (false, m, cf)) ∧ h' (t + 4) = some (.inl (false, m, orf)) ∧ h' (t + 5) = some (.inl (false, 17, ct)) ∧ h' (t + 6) = some (.inl (false, 17, fc)) ∧ h' (t + 7) = some (.inl (false, 17, fp)))) 0 0 45 [some (am_r t), some (am_r (t + 1)), some (.inl (nI m)), some (.inl (nI m)), x4] [] (am_set h (t + 5) (.inl (false, 17, g)))) → am_At l D dA m_X7_settle d 0 0 0 0 n0 none (am_qi fun x h' => x = am_bz (decide (krf len m = 65536)) ∧ am_fr h h' [t + 2, t + 4, t + 5, t + 6, t + 7] ∧ (krf len m = 65536 → stl h' t m len) ∧ (∃ cf orf ct fc fp : Nat → Int32, h' (t + 2) = some (.inl (false, m, cf)) ∧ h' (t + 4) = some (.inl (false, m, orf)) ∧ h' (t + 5) = some (.inl (false, 17, ct)) ∧ h' (t + 6) = some (.inl (false, 17, fc)) ∧ h' (t + 7) = some (.inl (false, 17, fp)))) 0 0 18 [some (am_r t), some (am_r (t + 1)), some (.inl (nI m)), some (.inl (nI i)), x4] [] (am_set h (t + 5) (.inl (false, 17, g))) := by
    intro q
    induction q with
    | zero =>
      intro i x4 g hi hg K
      obtain rfl : i = m := by omega
      refine am_iload_n dX7_settle_18 rfl rfl ?_
      refine am_iload_n dX7_settle_19 rfl rfl ?_
      refine am_ncmp_ge 45 dX7_settle_20 rfl rfl (by omega) (by omega) (fun hc => ?_) (fun hc => ?_)
      · exact K x4 g hg
      · omega
    | succ q ih =>
      intro i x4 g hi hg K
      refine am_iload_n dX7_settle_18 rfl rfl ?_
      refine am_iload_n dX7_settle_19 rfl rfl ?_
      refine am_ncmp_ge 45 dX7_settle_20 rfl rfl (by omega) (by omega) (fun hc => ?_) (fun hc => ?_)
      · omega
      · refine am_aload_n dX7_settle_23 rfl rfl ?_
        refine am_iload_n dX7_settle_24 rfl rfl ?_
        refine am_iald dX7_settle_25 rfl ((am_set_ne (by omega)).trans h1) (by omega) (by omega) ?_
        rw [hlf i (by omega)]
        have hli := hle i (by omega)
        refine am_istore dX7_settle_26 rfl rfl ?_
        refine am_aload_n dX7_settle_28 rfl rfl ?_
        refine am_get f_X7_24 dX7_settle_29 rfl ((am_set_ne (by omega)).trans ht) rfl ?_
        refine am_iload dX7_settle_32 rfl rfl ?_
        refine am_dup2 dX7_settle_34 rfl ?_
        refine am_iald dX7_settle_35 rfl am_set_eq (by omega) (by omega) ?_
        refine am_iconst (v := nI 1) dX7_settle_36 rfl (by decide +kernel) ?_
        refine am_iadd dX7_settle_37 rfl ?_
        rw [hg (len i) hli, nI_add]
        refine am_iast dX7_settle_38 rfl am_set_eq (by omega) (by omega) ?_
        refine am_iinc (n := 1) dX7_settle_39 rfl rfl (nI_1 i) ?_
        refine am_goto 18 dX7_settle_42 rfl rfl ?_
        rw [am_set_set]
        refine ih (i + 1) _ _ (by omega) (fun n b => ?_) K
        show _ = nI (cnt len n i + _)
        by_cases e : n = len i
        · subst e; rw [upd_eq, if_pos rfl]
        · rw [upd_ne e, if_neg (fun z => e z.symm), hg n b]; rfl
  refine hA m 0 _ _ (by omega) (fun n b => by rw [if_pos (by omega)]; rfl) (fun x4 g hg => ?_)
  refine am_iconst (v := nI 0) dX7_settle_45 rfl (by decide +kernel) ?_
  refine am_istore_n dX7_settle_46 rfl rfl ?_
  refine am_iconst (v := nI 0) dX7_settle_47 rfl (by decide +kernel) ?_
  refine am_istore_n dX7_settle_48 rfl rfl ?_
  refine am_iconst (v := nI 1) dX7_settle_49 rfl (by decide +kernel) ?_
  refine am_istore_n dX7_settle_50 rfl rfl ?_
  have hB : ∀ (q n : Nat) (x4 : Option am_V) (H : am_H) (fc fp : Nat → Int32), n + q = 17 → 1 ≤ n → am_fr h H [t + 5, t + 6, t + 7] → H (t + 5) = some (.inl (false, 17, g)) → H (t + 6) = some (.inl (false, 17, fc)) → H (t + 7) = some (.inl (false, 17, fp)) → (∀ n', 1 ≤ n' → n' < n → fc n' = nI (frst len m n') ∧ fp n' = nI (plc len m n')) → am_At l D dA m_X7_settle d 0 0 0 0 n0 none (am_qi fun x h' => x = am_bz (decide (krf len m = 65536)) ∧ am_fr h h' [t + 2, t + 4, t + 5, t + 6, t + 7] ∧ (krf len m = 65536 → stl h' t m len) ∧ (∃ cf orf ct fc fp : Nat → Int32, h' (t + 2) = some (.inl (false, m, cf)) ∧ h' (t + 4) = some (.inl (false, m, orf)) ∧ h' (t + 5) = some (.inl (false, 17, ct)) ∧ h' (t + 6) = some (.inl (false, 17, fc)) ∧ h' (t + 7) = some (.inl (false, 17, fp)))) 0 0 51 [some (am_r t), some (.inl (nI (smk len m n))), some (.inl (nI (plc len m n))), some (.inl (nI n)), x4] [] H := by
    intro q
    induction q with
    | zero =>
      intro n x4 H fc fp hn hn1 hfr g5 g6 g7 hT
      obtain rfl : n = 17 := by omega
      have ht := (hfr t (by simp)).trans ht
      have h1 := (hfr (t + 1) (by simp)).trans h1
      have h2 := (hfr (t + 2) (by simp)).trans h2
      have h4 := (hfr (t + 4) (by simp)).trans h4
      have hk := krf_le len m
      rw [krf_smk len m hle] at hk
      refine am_iload_n dX7_settle_51 rfl rfl ?_
      refine am_bipush (v := nI 16) dX7_settle_52 rfl (by decide +kernel) ?_
      refine am_ncmp_gt 105 dX7_settle_54 rfl rfl (by omega) (by omega) (fun hc => ?_) (fun hc => ?_)
      · refine am_iload_n dX7_settle_105 rfl rfl ?_
        refine am_ldc dX7_settle_106 rfl wd_k_X7_51 ?_
        rw [show (65536 : Int32) = nI 65536 by decide +kernel]
        refine am_ncmp_eq 113 dX7_settle_108 rfl rfl (by omega) (by omega) (fun hc => ?_) (fun hc => ?_)
        · refine am_aload_n dX7_settle_113 rfl rfl ?_
          refine am_vv (t_X7_number (d - 1) _ ht h1 hm hlf hle h2 h4 g5 g6 g7 (fun n' a b => hT n' a (by omega)) (by omega)) k_X7_number l_X7_52 dX7_settle_114 rfl rfl rfl rfl ht (by omega) (Nat.le_refl _) (Nat.le_refl _) (fun h3 hx => ?_)
          obtain ⟨hf3, hs⟩ := hx
          refine am_iconst (v := nI 1) dX7_settle_117 rfl (by decide +kernel) ?_
          exact am_ri dX7_settle_118 rfl rfl rfl ⟨by rw [krf_smk len m hle, decide_eq_true hc]; rfl, fun j hj => (hf3 j (by simp at hj ⊢; omega)).trans (hfr j (by simp at hj ⊢; omega)), fun _ => hs, by
            obtain ⟨cf, orf, ct, fc, fp, a1, a2, a3, a4, a5, -⟩ := hs
            exact ⟨cf, orf, ct, fc, fp, a1, a2, a3, a4, a5⟩⟩
        · refine am_iconst (v := nI 0) dX7_settle_111 rfl (by decide +kernel) ?_
          exact am_ri dX7_settle_112 rfl rfl rfl ⟨by rw [krf_smk len m hle, decide_eq_false hc]; rfl, fun j hj => hfr j (by simp at hj ⊢; omega), fun e => absurd (by rw [← krf_smk len m hle]; exact e) hc, cf, orf, g, fc, fp, h2, h4, g5, g6, g7⟩
      · omega
    | succ q ih =>
      intro n x4 H fc fp hn hn1 hfr g5 g6 g7 hT
      have ht := (hfr t (by simp)).trans ht
      have hk := krf_le len m
      have hk1 := smk_le_krf len m hle n (by omega)
      have hk2 := smk_le_krf len m hle (n + 1) (by omega)
      have e5 := hg n (by omega)
      have e1 : smk len m (n + 1) = smk len m n + cnt len n m * 2 ^ (16 - n) := by show _ + _ = _; rw [if_neg (by omega)]
      have e2 : plc len m (n + 1) = plc len m n + cnt len n m := by show _ + _ = _; rw [if_neg (by omega)]
      have c1 := plc_le len m n
      rw [if_neg (by omega)] at c1
      refine am_iload_n dX7_settle_51 rfl rfl ?_
      refine am_bipush (v := nI 16) dX7_settle_52 rfl (by decide +kernel) ?_
      refine am_ncmp_gt 105 dX7_settle_54 rfl rfl (by omega) (by omega) (fun hc => ?_) (fun hc => ?_)
      · omega
      · refine am_aload_n dX7_settle_57 rfl rfl ?_
        refine am_get f_X7_27 dX7_settle_58 rfl ht rfl ?_
        refine am_iload_n dX7_settle_61 rfl rfl ?_
        refine am_iload_n dX7_settle_62 rfl rfl ?_
        refine am_bipush (v := nI 16) dX7_settle_63 rfl (by decide +kernel) ?_
        refine am_iload_n dX7_settle_65 rfl rfl ?_
        refine am_isub dX7_settle_66 rfl ?_
        rw [pk_sub (by omega)]
        refine am_ishr dX7_settle_67 rfl ?_
        rw [show (nI (smk len m n)) >>> (nI (16 - n) &&& 31) = nI (frst len m n) by
          rw [am_m31 (by omega), pk_shrN (by omega) (nI (16 - n)) (16 - n) (am_smod (by omega)), smk_frst len m n (by omega), Nat.mul_div_cancel _ (Nat.pow_pos (by omega))]]
        refine am_iast dX7_settle_68 rfl g6 (by omega) (by omega) ?_
        refine am_aload_n dX7_settle_69 rfl rfl ?_
        refine am_get f_X7_30 dX7_settle_70 rfl ((am_set_ne (by omega)).trans ht) rfl ?_
        refine am_iload_n dX7_settle_73 rfl rfl ?_
        refine am_iload_n dX7_settle_74 rfl rfl ?_
        refine am_iast dX7_settle_75 rfl ((am_set_ne (by omega)).trans g7) (by omega) (by omega) ?_
        refine am_iload_n dX7_settle_76 rfl rfl ?_
        refine am_aload_n dX7_settle_77 rfl rfl ?_
        refine am_get f_X7_24 dX7_settle_78 rfl ((am_set_ne (by omega)).trans ((am_set_ne (by omega)).trans ht)) rfl ?_
        refine am_iload_n dX7_settle_81 rfl rfl ?_
        refine am_iald dX7_settle_82 rfl ((am_set_ne (by omega)).trans ((am_set_ne (by omega)).trans g5)) (by omega) (by omega) ?_
        refine am_bipush (v := nI 16) dX7_settle_83 rfl (by decide +kernel) ?_
        refine am_iload_n dX7_settle_85 rfl rfl ?_
        rw [e5]
        refine am_isub dX7_settle_86 rfl ?_
        rw [pk_sub (by omega)]
        refine am_ishl dX7_settle_87 rfl ?_
        rw [show (nI (cnt len n m)) <<< (nI (16 - n) &&& 31) = nI (cnt len n m * 2 ^ (16 - n)) by
          rw [am_m31 (by omega), pk_shlN (nI (16 - n)) (16 - n) (am_smod (by omega)) (by omega)]]
        refine am_iadd dX7_settle_88 rfl ?_
        rw [nI_add, ← e1]
        refine am_istore_n dX7_settle_89 rfl rfl ?_
        refine am_iload_n dX7_settle_90 rfl rfl ?_
        refine am_aload_n dX7_settle_91 rfl rfl ?_
        refine am_get f_X7_24 dX7_settle_92 rfl ((am_set_ne (by omega)).trans ((am_set_ne (by omega)).trans ht)) rfl ?_
        refine am_iload_n dX7_settle_95 rfl rfl ?_
        refine am_iald dX7_settle_96 rfl ((am_set_ne (by omega)).trans ((am_set_ne (by omega)).trans g5)) (by omega) (by omega) ?_
        rw [e5]
        refine am_iadd dX7_settle_97 rfl ?_
        rw [nI_add, ← e2]
        refine am_istore_n dX7_settle_98 rfl rfl ?_
        refine am_iinc (n := 1) dX7_settle_99 rfl rfl (nI_1 n) ?_
        refine am_goto 51 dX7_settle_102 rfl rfl ?_
        refine ih (n + 1) _ _ _ _ (by omega) (by omega) ((hfr.set (by simp)).set (by simp)) ((am_set_ne (by omega)).trans ((am_set_ne (by omega)).trans g5)) ((am_set_ne (by omega)).trans am_set_eq) am_set_eq (fun n' a b => ?_)
        by_cases e : n' = n
        · subst e; rw [upd_eq, upd_eq]; exact ⟨rfl, rfl⟩
        · rw [upd_ne e, upd_ne e]; exact hT n' a (by omega)
  exact hB 16 1 _ _ fc fp (by omega) (by omega) (am_fr.rf.set (by simp)) am_set_eq ((am_set_ne (by omega)).trans h6) ((am_set_ne (by omega)).trans h7) (fun n' a b => by omega)
end TREE2

/-! ===== the reference: codes read ===== -/
section MOD5
variable {l : Launch} {D : va_G} {dA : Bool → ClassId}
/-- the row of what the reference makes -/
def mrw (h : am_H) (bs : List Int32) : Prop := ∃ g : Nat → Int32, h 48 = some (.inl (false, 16000, g)) ∧ ∀ i v, bs[i]? = some v → g i = v
theorem mrw.at {h h' : am_H} {bs : List Int32} (x : mrw h bs) (e : h' 48 = h 48) : mrw h' bs := by
  obtain ⟨g, a, b⟩ := x
  exact ⟨g, e.trans a, b⟩
theorem mrw.push {h' : am_H} {bs : List Int32} {g : Nat → Int32} {v : Int32} (b : ∀ i v, bs[i]? = some v → g i = v) (e : h' 48 = some (.inl (false, 16000, upd g bs.length v))) : mrw h' (bs ++ [v]) := by
  refine ⟨_, e, fun i x hi => ?_⟩
  by_cases c : i < bs.length
  · rw [List.getElem?_append_left c] at hi
    rw [upd_ne (by omega)]
    exact b i x hi
  · rw [List.getElem?_append_right (by omega)] at hi
    have hz : i - bs.length < 1 := (List.getElem?_eq_some_iff.mp hi).1
    have hi2 : i = bs.length := by omega
    subst hi2
    rw [Nat.sub_self] at hi
    cases hi
    exact upd_eq
set_option maxHeartbeats 4000000 in
set_option maxRecDepth 100000 in
theorem t_X10_clearTrees (d n0 : Nat) {h : am_H} {ct md : Nat} {to : Bool} {bl co cp bi en fa tc : Nat} (hm : h 46 = some (mO ct md to bl co cp bi en fa tc)) {gl ga : Nat → Int32} (h49 : h 49 = some (.inl (false, 1800, gl))) (h51 : h 51 = some (.inl (false, 3, ga))) : am_Ct l D dA m_X10_clearTrees d 0 0 n0 [am_r 46] h (am_qv fun h' => ∃ gl' ga', h' = am_set (am_set h 49 (.inl (false, 1800, gl'))) 51 (.inl (false, 3, ga')) ∧ (∀ j, j < 1800 → gl' j = nI 0) ∧ ∀ j, j < 3 → ga' j = -1) := by
  refine am_Cv (by decide +kernel) rfl rfl ?_
  refine am_iconst (v := nI 0) dX10_clearTrees_0 rfl (by decide +kernel) ?_
  refine am_istore_n dX10_clearTrees_1 rfl rfl ?_
  have loop2 : ∀ (q i : Nat) (g g2 : Nat → Int32), i + q = 3 → (∀ j, j < 1800 → g j = nI 0) → (∀ j, j < i → g2 j = -1) → am_At l D dA m_X10_clearTrees d 0 0 0 0 n0 none (am_qv fun h' => ∃ gl' ga', h' = am_set (am_set h 49 (.inl (false, 1800, gl'))) 51 (.inl (false, 3, ga')) ∧ (∀ j, j < 1800 → gl' j = nI 0) ∧ ∀ j, j < 3 → ga' j = -1) 0 0 24 [some (am_r 46), some (.inl (nI i))] [] (am_set (am_set h 49 (.inl (false, 1800, g))) 51 (.inl (false, 3, g2))) := by
    intro q
    induction q with
    | zero =>
      intro i g g2 hi h1 h2
      refine am_iload_n dX10_clearTrees_24 rfl rfl ?_
      refine am_iconst (v := nI 3) dX10_clearTrees_25 rfl (by decide +kernel) ?_
      refine am_ncmp_ge 42 dX10_clearTrees_26 rfl rfl (by omega) (by omega) (fun hc => ?_) (fun hc => ?_)
      · exact am_rv dX10_clearTrees_42 rfl rfl rfl ⟨g, g2, rfl, h1, fun j hj => h2 j (by omega)⟩
      · omega
    | succ q ih =>
      intro i g g2 hi h1 h2
      refine am_iload_n dX10_clearTrees_24 rfl rfl ?_
      refine am_iconst (v := nI 3) dX10_clearTrees_25 rfl (by decide +kernel) ?_
      refine am_ncmp_ge 42 dX10_clearTrees_26 rfl rfl (by omega) (by omega) (fun hc => ?_) (fun hc => ?_)
      · omega
      · refine am_aload_n dX10_clearTrees_29 rfl rfl ?_
        refine am_get f_X10_22 dX10_clearTrees_30 rfl ((am_set_ne (by omega)).trans ((am_set_ne (by omega)).trans hm)) rfl ?_
        refine am_iload_n dX10_clearTrees_33 rfl rfl ?_
        refine am_iconst (v := -1) dX10_clearTrees_34 rfl (by decide +kernel) ?_
        refine am_iast dX10_clearTrees_35 rfl am_set_eq (by omega) (by omega) ?_
        refine am_iinc (n := 1) dX10_clearTrees_36 rfl rfl (nI_1 i) ?_
        refine am_goto 24 dX10_clearTrees_39 rfl rfl ?_
        rw [am_set_set]
        refine ih (i + 1) g _ (by omega) h1 (fun j hj => ?_)
        by_cases z : j = i
        · subst z; exact upd_eq
        · rw [upd_ne z]; exact h2 j (by omega)
  have loop1 : ∀ (q i : Nat) (g : Nat → Int32), i + q = 1800 → (∀ j, j < i → g j = nI 0) → am_At l D dA m_X10_clearTrees d 0 0 0 0 n0 none (am_qv fun h' => ∃ gl' ga', h' = am_set (am_set h 49 (.inl (false, 1800, gl'))) 51 (.inl (false, 3, ga')) ∧ (∀ j, j < 1800 → gl' j = nI 0) ∧ ∀ j, j < 3 → ga' j = -1) 0 0 2 [some (am_r 46), some (.inl (nI i))] [] (am_set h 49 (.inl (false, 1800, g))) := by
    intro q
    induction q with
    | zero =>
      intro i g hi h1
      refine am_iload_n dX10_clearTrees_2 rfl rfl ?_
      refine am_sipush (v := nI 1800) dX10_clearTrees_3 rfl (by decide +kernel) ?_
      refine am_ncmp_ge 22 dX10_clearTrees_6 rfl rfl (by omega) (by omega) (fun hc => ?_) (fun hc => ?_)
      · refine am_iconst (v := nI 0) dX10_clearTrees_22 rfl (by decide +kernel) ?_
        refine am_istore_n dX10_clearTrees_23 rfl rfl ?_
        refine am_eq rfl rfl rfl ?_ (loop2 3 0 g ga (by omega) (fun j hj => h1 j (by omega)) (fun j hj => by omega))
        exact (am_set_self ((am_set_ne (by omega)).trans h51)).symm
      · omega
    | succ q ih =>
      intro i g hi h1
      refine am_iload_n dX10_clearTrees_2 rfl rfl ?_
      refine am_sipush (v := nI 1800) dX10_clearTrees_3 rfl (by decide +kernel) ?_
      refine am_ncmp_ge 22 dX10_clearTrees_6 rfl rfl (by omega) (by omega) (fun hc => ?_) (fun hc => ?_)
      · omega
      · refine am_aload_n dX10_clearTrees_9 rfl rfl ?_
        refine am_get f_X10_16 dX10_clearTrees_10 rfl ((am_set_ne (by omega)).trans hm) rfl ?_
        refine am_iload_n dX10_clearTrees_13 rfl rfl ?_
        refine am_iconst (v := nI 0) dX10_clearTrees_14 rfl (by decide +kernel) ?_
        refine am_iast dX10_clearTrees_15 rfl am_set_eq (by omega) (by omega) ?_
        refine am_iinc (n := 1) dX10_clearTrees_16 rfl rfl (nI_1 i) ?_
        refine am_goto 2 dX10_clearTrees_19 rfl rfl ?_
        rw [am_set_set]
        refine ih (i + 1) _ (by omega) (fun j hj => ?_)
        by_cases z : j = i
        · subst z; exact upd_eq
        · rw [upd_ne z]; exact h1 j (by omega)
  refine am_eq rfl rfl rfl ?_ (loop1 1800 0 gl (by omega) (fun j hj => by omega))
  exact (am_set_self h49).symm
set_option maxHeartbeats 4000000 in
set_option maxRecDepth 100000 in
theorem t_X10_begin (d n0 : Nat) {h : am_H} {ct md : Nat} {to : Bool} {bl co cp bi en fa tc : Nat} (hm : h 46 = some (mO ct md to bl co cp bi en fa tc)) {gl ga : Nat → Int32} (h49 : h 49 = some (.inl (false, 1800, gl))) (h51 : h 51 = some (.inl (false, 3, ga))) (hd : 1 ≤ d) : am_Ct l D dA m_X10_begin d 0 0 n0 [am_r 46] h (am_qv fun h' => ∃ gl' ga', h' = am_set (am_set (am_set h 46 (mO ct 0 true 0 0 0 0 en 0 tc)) 49 (.inl (false, 1800, gl'))) 51 (.inl (false, 3, ga')) ∧ (∀ j, j < 1800 → gl' j = nI 0) ∧ ∀ j, j < 3 → ga' j = -1) := by
  refine am_Cv (by decide +kernel) rfl rfl ?_
  refine am_aload_n dX10_begin_0 rfl rfl ?_
  refine am_iconst (v := nI 0) dX10_begin_1 rfl (by decide +kernel) ?_
  refine am_put f_X10_54 dX10_begin_2 rfl hm (am_fit_i _) rfl ?_
  refine am_aload_n dX10_begin_5 rfl rfl ?_
  refine am_iconst (v := nI 1) dX10_begin_6 rfl (by decide +kernel) ?_
  refine am_put f_X10_57 dX10_begin_7 rfl am_set_eq (am_fit_b true) rfl ?_
  refine am_aload_n dX10_begin_10 rfl rfl ?_
  refine am_iconst (v := nI 0) dX10_begin_11 rfl (by decide +kernel) ?_
  refine am_put f_X10_61 dX10_begin_12 rfl am_set_eq (am_fit_i _) rfl ?_
  refine am_aload_n dX10_begin_15 rfl rfl ?_
  refine am_iconst (v := nI 0) dX10_begin_16 rfl (by decide +kernel) ?_
  refine am_put f_X10_64 dX10_begin_17 rfl am_set_eq (am_fit_i _) rfl ?_
  refine am_aload_n dX10_begin_20 rfl rfl ?_
  refine am_iconst (v := nI 0) dX10_begin_21 rfl (by decide +kernel) ?_
  refine am_put f_X10_67 dX10_begin_22 rfl am_set_eq (am_fit_i _) rfl ?_
  refine am_aload_n dX10_begin_25 rfl rfl ?_
  refine am_iconst (v := nI 0) dX10_begin_26 rfl (by decide +kernel) ?_
  refine am_put f_X10_70 dX10_begin_27 rfl am_set_eq (am_fit_i _) rfl ?_
  refine am_aload_n dX10_begin_30 rfl rfl ?_
  refine am_iconst (v := nI 0) dX10_begin_31 rfl (by decide +kernel) ?_
  refine am_put f_X10_73 dX10_begin_32 rfl am_set_eq (am_fit_i _) rfl ?_
  refine am_aload_n dX10_begin_35 rfl rfl ?_
  rw [am_set_set, am_set_set, am_set_set, am_set_set, am_set_set, am_set_set]
  obtain ⟨H, eH⟩ : ∃ H, H = am_set h 46 (mO ct 0 true 0 0 0 0 en 0 tc) := ⟨_, rfl⟩
  refine am_eq rfl rfl rfl (h' := H) (by rw [eH]; rfl) ?_
  have m1 : H 46 = some (mO ct 0 true 0 0 0 0 en 0 tc) := by rw [eH]; exact am_set_eq
  refine am_vv (t_X10_clearTrees (d - 1) _ m1 (by rw [eH]; exact (am_set_ne (by omega)).trans h49) (by rw [eH]; exact (am_set_ne (by omega)).trans h51)) k_X10_clearTrees l_X10_76 dX10_begin_36 rfl rfl rfl rfl m1 (by omega) (Nat.le_refl _) (Nat.le_refl _) (fun h1 hx => ?_)
  exact am_rv dX10_begin_39 rfl rfl rfl (by rw [eH] at hx; exact hx)
set_option maxHeartbeats 4000000 in
set_option maxRecDepth 100000 in
theorem t_X10_one (d n0 : Nat) {h : am_H} {ct : Nat} {to : Bool} {bl co cp bi en tc : Nat} {bs : List Int32} {gl gc ga : Nat → Int32} (X : rdH h h (mO ct bs.length to bl co cp bi en 0 tc) gl gc ga) (hw : mrw h bs) {f : Nat → Int32} (hf : h 47 = some (.inl (false, 4000, f))) (hE : en ≤ 32000) (hk : bi ≤ en) {alC alP : Int32} {lenC lenP : Nat → Nat} (hC : mrd gl gc ga 1 alC lenC) (hP : mrd gl gc ga 2 alP lenP) {wa : Nat} (hwa : wa ≤ 8000) (hbl : bs.length < wa) (hd : 3 ≤ d) : am_Ct l D dA m_X10_one d 0 0 n0 [am_r 46, .inl (nI wa)] h (am_qv fun h' => am_fr h h' [46, 48] ∧ h' 46 = some (mO ct (oneR lenC alC lenP alP f en wa bi bs co cp).2.2.1.length to bl (oneR lenC alC lenP alP f en wa bi bs co cp).2.2.2.1 (oneR lenC alC lenP alP f en wa bi bs co cp).2.2.2.2 (oneR lenC alC lenP alP f en wa bi bs co cp).2.1 en (oneR lenC alC lenP alP f en wa bi bs co cp).1 tc) ∧ mrw h' (oneR lenC alC lenP alP f en wa bi bs co cp).2.2.1 ∧ (oneR lenC alC lenP alP f en wa bi bs co cp).2.1 ≤ en) := by
  refine am_Cv (by decide +kernel) rfl rfl ?_
  obtain ⟨g, hg, hgb⟩ := id hw
  have hS1 : SR lenC (sym 1) alC f bi (sy lenC 510 alC f bi).1 (sy lenC 510 alC f bi).2 := sy_m hC f bi
  obtain ⟨w1, ew1⟩ : ∃ w, w = (sy lenC 510 alC f bi).1 := ⟨_, rfl⟩
  obtain ⟨y1, ey1⟩ : ∃ y, y = (sy lenC 510 alC f bi).2 := ⟨_, rfl⟩
  rw [← ew1, ← ey1] at hS1
  have hwy1 := SR_w hS1
  have hs1 : sym 1 = 510 := rfl
  have hs2 : sym 2 = 14 := rfl
  refine am_aload_n dX10_one_0 rfl rfl ?_
  refine am_iconst (v := nI 1) dX10_one_1 rfl (by decide +kernel) ?_
  refine am_vi (t_X10_symbol (d - 1) _ X hf hE hk (t := 1) (by omega) hC hS1 (by omega)) k_X10_symbol l_X10_104 dX10_one_2 rfl rfl rfl rfl X.2.1 (by omega) (Nat.le_refl _) (Nat.le_refl _) (fun z h1 hx => ?_)
  obtain ⟨hx1, hx2⟩ := hx
  by_cases hE1 : bi + w1 ≤ en
  · obtain ⟨rfl, rfl⟩ := hx1 hE1
    have Z := X.m (mO ct bs.length to bl co cp (bi + w1) en 0 tc)
    refine am_istore_n dX10_one_5 rfl rfl ?_
    refine am_aload_n dX10_one_6 rfl rfl ?_
    refine am_get f_X10_73 dX10_one_7 rfl Z.2.1 rfl ?_
    refine am_nif_eq 14 dX10_one_10 rfl rfl (by omega) (fun h10 => ?_) (fun h10 => ?_)
    · refine am_iload_n dX10_one_14 rfl rfl ?_
      refine am_sipush (v := nI 256) dX10_one_15 rfl (by decide +kernel) ?_
      refine am_ncmp_ge 52 dX10_one_18 rfl rfl (by omega) (by omega) (fun h256 => ?_) (fun h256 => ?_)
      · have hS2 : SR lenP (sym 2) alP f (bi + w1) (sy lenP 14 alP f (bi + w1)).1 (sy lenP 14 alP f (bi + w1)).2 := sy_m hP f (bi + w1)
        obtain ⟨w2, ew2⟩ : ∃ w, w = (sy lenP 14 alP f (bi + w1)).1 := ⟨_, rfl⟩
        obtain ⟨y2, ey2⟩ : ∃ y, y = (sy lenP 14 alP f (bi + w1)).2 := ⟨_, rfl⟩
        rw [← ew2, ← ey2] at hS2
        have hwy2 := SR_w hS2
        obtain ⟨H1, eH1⟩ : ∃ H1, H1 = am_set h 46 (mO ct bs.length to bl co cp (bi + w1) en 0 tc) := ⟨_, rfl⟩
        have F1 : am_fr h H1 [46, 48] := by rw [eH1]; exact am_fr.rf.set (by simp)
        have Z' : rdH H1 H1 (mO ct bs.length to bl co cp (bi + w1) en 0 tc) gl gc ga := by rw [eH1]; exact ⟨am_fr.rf, Z.2⟩
        have hw1 : mrw H1 bs := hw.at (by rw [eH1]; exact am_set_ne (by omega))
        rw [← eH1]
        clear eH1 Z
        refine am_aload_n dX10_one_52 rfl rfl ?_
        refine am_iconst (v := nI 2) dX10_one_53 rfl (by decide +kernel) ?_
        refine am_vi (t_X10_symbol (d - 1) _ Z' ((F1 47 (by simp)).trans hf) hE hE1 (t := 2) (by omega) hP hS2 (by omega)) k_X10_symbol l_X10_104 dX10_one_54 rfl rfl rfl rfl Z'.2.1 (by omega) (Nat.le_refl _) (Nat.le_refl _) (fun z h2 hx => ?_)
        obtain ⟨hy1, hy2⟩ := hx
        have eo : (oneR lenC alC lenP alP f en wa bi bs co cp) = (if en < bi + w1 + w2 + (y2 - 1) then (1, en, bs, co, cp) else if bs.length < dst f (bi + w1 + w2) y2 then (4, bi + w1 + w2 + (y2 - 1), bs, co, cp) else ((if wa - bs.length < y1 - 253 then 5 else 0), bi + w1 + w2 + (y2 - 1), cpl bs (dst f (bi + w1 + w2) y2) (min (y1 - 253) (wa - bs.length)), co + 1, cp + 1)) := by
          unfold oneR
          rw [← ew1, ← ey1, ← ew2, ← ey2, if_neg (by omega), if_neg (by omega)]
        have ret104 : ∀ (F kb : Nat) (H : am_H) (x3 x4 x5 : Option am_V), am_fr h H [46, 48] → H 46 = some (mO ct bs.length to bl co cp kb en F tc) → mrw H bs → (oneR lenC alC lenP alP f en wa bi bs co cp) = (F, kb, bs, co, cp) → kb ≤ en → 0 < F → F < 10 → am_At l D dA m_X10_one d 0 0 0 0 n0 none (am_qv fun h' => am_fr h h' [46, 48] ∧ h' 46 = some (mO ct (oneR lenC alC lenP alP f en wa bi bs co cp).2.2.1.length to bl (oneR lenC alC lenP alP f en wa bi bs co cp).2.2.2.1 (oneR lenC alC lenP alP f en wa bi bs co cp).2.2.2.2 (oneR lenC alC lenP alP f en wa bi bs co cp).2.1 en (oneR lenC alC lenP alP f en wa bi bs co cp).1 tc) ∧ mrw h' (oneR lenC alC lenP alP f en wa bi bs co cp).2.2.1 ∧ (oneR lenC alC lenP alP f en wa bi bs co cp).2.1 ≤ en) 0 0 104 [some (am_r 46), some (.inl (nI wa)), some (.inl (nI y1)), x3, x4, x5] [] H := by
          intro F kb H x3 x4 x5 hF hm2 hw2 he hkb hF0 hF1
          refine am_aload_n dX10_one_104 rfl rfl ?_
          refine am_get f_X10_73 dX10_one_105 rfl hm2 rfl ?_
          refine am_nif_eq 112 dX10_one_108 rfl rfl (by omega) (fun hz => ?_) (fun hz => ?_)
          · omega
          · exact am_rv dX10_one_111 rfl rfl rfl ⟨hF, by rw [he]; exact hm2, by rw [he]; exact hw2, by rw [he]; exact hkb⟩
        have ret83 : ∀ (F kb : Nat) (H : am_H) (x3 x4 x5 : Option am_V), am_fr h H [46, 48] → H 46 = some (mO ct bs.length to bl co cp kb en F tc) → mrw H bs → (oneR lenC alC lenP alP f en wa bi bs co cp) = (F, kb, bs, co, cp) → kb ≤ en → 0 < F → F < 10 → am_At l D dA m_X10_one d 0 0 0 0 n0 none (am_qv fun h' => am_fr h h' [46, 48] ∧ h' 46 = some (mO ct (oneR lenC alC lenP alP f en wa bi bs co cp).2.2.1.length to bl (oneR lenC alC lenP alP f en wa bi bs co cp).2.2.2.1 (oneR lenC alC lenP alP f en wa bi bs co cp).2.2.2.2 (oneR lenC alC lenP alP f en wa bi bs co cp).2.1 en (oneR lenC alC lenP alP f en wa bi bs co cp).1 tc) ∧ mrw h' (oneR lenC alC lenP alP f en wa bi bs co cp).2.2.1 ∧ (oneR lenC alC lenP alP f en wa bi bs co cp).2.1 ≤ en) 0 0 83 [some (am_r 46), some (.inl (nI wa)), some (.inl (nI y1)), x3, x4, x5] [] H := by
          intro F kb H x3 x4 x5 hF hm2 hw2 he hkb hF0 hF1
          refine am_aload_n dX10_one_83 rfl rfl ?_
          refine am_get f_X10_73 dX10_one_84 rfl hm2 rfl ?_
          refine am_nif_ne 104 dX10_one_87 rfl rfl (by omega) (fun hz => ?_) (fun hz => ?_)
          · exact ret104 F kb H _ _ _ hF hm2 hw2 he hkb hF0 hF1
          · omega
        have go : ∀ (kb far : Nat) (H : am_H) (x5 : Option am_V), am_fr h H [46, 48] → H 46 = some (mO ct bs.length to bl co cp kb en 0 tc) → mrw H bs → kb = bi + w1 + w2 + (y2 - 1) → kb ≤ en → far = dst f (bi + w1 + w2) y2 → 1 ≤ far → far < 2 ^ 20 → am_At l D dA m_X10_one d 0 0 0 0 n0 none (am_qv fun h' => am_fr h h' [46, 48] ∧ h' 46 = some (mO ct (oneR lenC alC lenP alP f en wa bi bs co cp).2.2.1.length to bl (oneR lenC alC lenP alP f en wa bi bs co cp).2.2.2.1 (oneR lenC alC lenP alP f en wa bi bs co cp).2.2.2.2 (oneR lenC alC lenP alP f en wa bi bs co cp).2.1 en (oneR lenC alC lenP alP f en wa bi bs co cp).1 tc) ∧ mrw h' (oneR lenC alC lenP alP f en wa bi bs co cp).2.2.1 ∧ (oneR lenC alC lenP alP f en wa bi bs co cp).2.1 ≤ en) 0 0 83 [some (am_r 46), some (.inl (nI wa)), some (.inl (nI y1)), some (.inl (nI y2)), some (.inl (nI far)), x5] [] H := by
          intro kb far H x5 hF hm2 hw2 hkb hke hfar hf1 hf2
          rw [if_neg (by omega), ← hfar, ← hkb] at eo
          refine am_aload_n dX10_one_83 rfl rfl ?_
          refine am_get f_X10_73 dX10_one_84 rfl hm2 rfl ?_
          refine am_nif_ne 104 dX10_one_87 rfl rfl (by omega) (fun hz => ?_) (fun hz => ?_)
          · omega
          · refine am_iload dX10_one_90 rfl rfl ?_
            refine am_aload_n dX10_one_92 rfl rfl ?_
            refine am_get f_X10_54 dX10_one_93 rfl hm2 rfl ?_
            refine am_ncmp_le 104 dX10_one_96 rfl rfl (by omega) (by omega) (fun hfm => ?_) (fun hfm => ?_)
            · refine am_aload_n dX10_one_104 rfl rfl ?_
              refine am_get f_X10_73 dX10_one_105 rfl hm2 rfl ?_
              refine am_nif_eq 112 dX10_one_108 rfl rfl (by omega) (fun hz2 => ?_) (fun hz2 => ?_)
              · rw [if_neg (by omega)] at eo
                refine am_aload_n dX10_one_112 rfl rfl ?_
                refine am_dup dX10_one_113 rfl ?_
                refine am_get f_X10_64 dX10_one_114 rfl hm2 rfl ?_
                refine am_iconst (v := nI 1) dX10_one_117 rfl (by decide +kernel) ?_
                refine am_iadd dX10_one_118 rfl ?_
                rw [nI_add]
                refine am_put f_X10_64 dX10_one_119 rfl hm2 (am_fit_i _) rfl ?_
                refine am_aload_n dX10_one_122 rfl rfl ?_
                refine am_dup dX10_one_123 rfl ?_
                refine am_get f_X10_67 dX10_one_124 rfl am_set_eq rfl ?_
                refine am_iconst (v := nI 1) dX10_one_127 rfl (by decide +kernel) ?_
                refine am_iadd dX10_one_128 rfl ?_
                rw [nI_add]
                refine am_put f_X10_67 dX10_one_129 rfl am_set_eq (am_fit_i _) rfl ?_
                refine am_iconst (v := nI 0) dX10_one_132 rfl (by decide +kernel) ?_
                refine am_istore dX10_one_133 rfl rfl ?_
                rw [am_set_set]
                have loop : ∀ (q i : Nat) (H : am_H), i + q = min (y1 - 253) (wa - bs.length) → am_fr h H [46, 48] → H 46 = some (mO ct (bs.length + i) to bl (co + 1) (cp + 1) kb en 0 tc) → mrw H (cpl bs far i) → am_At l D dA m_X10_one d 0 0 0 0 n0 none (am_qv fun h' => am_fr h h' [46, 48] ∧ h' 46 = some (mO ct (oneR lenC alC lenP alP f en wa bi bs co cp).2.2.1.length to bl (oneR lenC alC lenP alP f en wa bi bs co cp).2.2.2.1 (oneR lenC alC lenP alP f en wa bi bs co cp).2.2.2.2 (oneR lenC alC lenP alP f en wa bi bs co cp).2.1 en (oneR lenC alC lenP alP f en wa bi bs co cp).1 tc) ∧ mrw h' (oneR lenC alC lenP alP f en wa bi bs co cp).2.2.1 ∧ (oneR lenC alC lenP alP f en wa bi bs co cp).2.1 ≤ en) 0 0 135 [some (am_r 46), some (.inl (nI wa)), some (.inl (nI y1)), some (.inl (nI y2)), some (.inl (nI far)), some (.inl (nI i))] [] H := by
                  intro q
                  induction q with
                  | zero =>
                    intro i H hi F m3 w3
                    rw [Nat.add_zero] at hi
                    rw [← hi] at eo
                    refine am_iload dX10_one_135 rfl rfl ?_
                    refine am_iload_n dX10_one_137 rfl rfl ?_
                    refine am_sipush (v := nI 253) dX10_one_138 rfl (by decide +kernel) ?_
                    refine am_isub dX10_one_141 rfl ?_
                    rw [pk_sub (by omega)]
                    refine am_ncmp_ge 205 dX10_one_142 rfl rfl (by omega) (by omega) (fun h142 => ?_) (fun h142 => ?_)
                    · exact am_rv dX10_one_205 rfl rfl rfl ⟨F, by rw [eo, if_neg (by omega)]; dsimp only; rw [cpl_len]; exact m3, by rw [eo]; exact w3, by rw [eo]; exact hke⟩
                    · refine am_aload_n dX10_one_145 rfl rfl ?_
                      refine am_get f_X10_73 dX10_one_146 rfl m3 rfl ?_
                      refine am_nif_ne 205 dX10_one_149 rfl rfl (by omega) (fun h149 => ?_) (fun h149 => ?_)
                      · omega
                      · refine am_aload_n dX10_one_152 rfl rfl ?_
                        refine am_get f_X10_54 dX10_one_153 rfl m3 rfl ?_
                        refine am_iload_n dX10_one_156 rfl rfl ?_
                        refine am_ncmp_ne 168 dX10_one_157 rfl rfl (by omega) (by omega) (fun h157 => ?_) (fun h157 => ?_)
                        · omega
                        · refine am_aload_n dX10_one_160 rfl rfl ?_
                          refine am_iconst (v := nI 5) dX10_one_161 rfl (by decide +kernel) ?_
                          refine am_vv (t_X10_fails (d - 1) _ m3 (by omega) (v := 5)) k_X10_fails l_X10_86 dX10_one_162 rfl rfl rfl rfl m3 (by omega) (Nat.le_refl _) (Nat.le_refl _) (fun h6 hx => ?_)
                          rw [if_pos rfl] at hx
                          have m4 : h6 46 = some (mO ct (bs.length + i) to bl (co + 1) (cp + 1) kb en 5 tc) := by rw [hx]; exact am_set_eq
                          have w4 : mrw h6 (cpl bs far i) := w3.at (by rw [hx]; exact am_set_ne (by omega))
                          have F4 : am_fr h h6 [46, 48] := by rw [hx]; exact F.set (by simp)
                          clear hx
                          refine am_goto 199 dX10_one_165 rfl rfl ?_
                          refine am_iinc (n := 1) dX10_one_199 rfl rfl (nI_1 i) ?_
                          refine am_goto 135 dX10_one_202 rfl rfl ?_
                          refine am_iload dX10_one_135 rfl rfl ?_
                          refine am_iload_n dX10_one_137 rfl rfl ?_
                          refine am_sipush (v := nI 253) dX10_one_138 rfl (by decide +kernel) ?_
                          refine am_isub dX10_one_141 rfl ?_
                          rw [pk_sub (by omega)]
                          refine am_ncmp_ge 205 dX10_one_142 rfl rfl (by omega) (by omega) (fun h143 => ?_) (fun h143 => ?_)
                          · exact am_rv dX10_one_205 rfl rfl rfl ⟨F4, by rw [eo, if_pos (by omega)]; dsimp only; rw [cpl_len]; exact m4, by rw [eo]; exact w4, by rw [eo]; exact hke⟩
                          · refine am_aload_n dX10_one_145 rfl rfl ?_
                            refine am_get f_X10_73 dX10_one_146 rfl m4 rfl ?_
                            refine am_nif_ne 205 dX10_one_149 rfl rfl (by omega) (fun h150 => ?_) (fun h150 => ?_)
                            · exact am_rv dX10_one_205 rfl rfl rfl ⟨F4, by rw [eo, if_pos (by omega)]; dsimp only; rw [cpl_len]; exact m4, by rw [eo]; exact w4, by rw [eo]; exact hke⟩
                            · omega
                  | succ q ih =>
                    intro i H hi F m3 w3
                    obtain ⟨g3, w4, w5⟩ := id w3
                    have hcl := cpl_len bs far i
                    refine am_iload dX10_one_135 rfl rfl ?_
                    refine am_iload_n dX10_one_137 rfl rfl ?_
                    refine am_sipush (v := nI 253) dX10_one_138 rfl (by decide +kernel) ?_
                    refine am_isub dX10_one_141 rfl ?_
                    rw [pk_sub (by omega)]
                    refine am_ncmp_ge 205 dX10_one_142 rfl rfl (by omega) (by omega) (fun h142 => ?_) (fun h142 => ?_)
                    · omega
                    · refine am_aload_n dX10_one_145 rfl rfl ?_
                      refine am_get f_X10_73 dX10_one_146 rfl m3 rfl ?_
                      refine am_nif_ne 205 dX10_one_149 rfl rfl (by omega) (fun h149 => ?_) (fun h149 => ?_)
                      · omega
                      · refine am_aload_n dX10_one_152 rfl rfl ?_
                        refine am_get f_X10_54 dX10_one_153 rfl m3 rfl ?_
                        refine am_iload_n dX10_one_156 rfl rfl ?_
                        refine am_ncmp_ne 168 dX10_one_157 rfl rfl (by omega) (by omega) (fun h157 => ?_) (fun h157 => ?_)
                        · refine am_aload_n dX10_one_168 rfl rfl ?_
                          refine am_get f_X10_13 dX10_one_169 rfl m3 rfl ?_
                          refine am_aload_n dX10_one_172 rfl rfl ?_
                          refine am_get f_X10_54 dX10_one_173 rfl m3 rfl ?_
                          refine am_aload_n dX10_one_176 rfl rfl ?_
                          refine am_get f_X10_13 dX10_one_177 rfl m3 rfl ?_
                          refine am_aload_n dX10_one_180 rfl rfl ?_
                          refine am_get f_X10_54 dX10_one_181 rfl m3 rfl ?_
                          refine am_iload dX10_one_184 rfl rfl ?_
                          refine am_isub dX10_one_186 rfl ?_
                          rw [pk_sub (by omega)]
                          refine am_iald dX10_one_187 rfl w4 (by omega) (by omega) ?_
                          have hgf : g3 (bs.length + i - far) = (cpl bs far i).getD ((cpl bs far i).length - far) 0 := by
                            rw [hcl, List.getD_eq_getElem?_getD]
                            have hlt : bs.length + i - far < (cpl bs far i).length := by omega
                            rw [List.getElem?_eq_getElem hlt]
                            exact w5 _ _ (List.getElem?_eq_getElem hlt)
                          rw [hgf]
                          refine am_iast dX10_one_188 rfl w4 (by omega) (by omega) ?_
                          refine am_aload_n dX10_one_189 rfl rfl ?_
                          refine am_dup dX10_one_190 rfl ?_
                          refine am_get f_X10_54 dX10_one_191 rfl ((am_set_ne (by omega)).trans m3) rfl ?_
                          refine am_iconst (v := nI 1) dX10_one_194 rfl (by decide +kernel) ?_
                          refine am_iadd dX10_one_195 rfl ?_
                          rw [nI_add]
                          refine am_put f_X10_54 dX10_one_196 rfl ((am_set_ne (by omega)).trans m3) (am_fit_i _) rfl ?_
                          refine am_iinc (n := 1) dX10_one_199 rfl rfl (nI_1 i) ?_
                          refine am_goto 135 dX10_one_202 rfl rfl ?_
                          refine ih (i + 1) _ (by omega) ((F.set (by simp)).set (by simp)) am_set_eq ?_
                          exact mrw.push w5 (by rw [hcl]; exact (am_set_ne (by omega)).trans am_set_eq)
                        · omega
                exact loop (min (y1 - 253) (wa - bs.length)) 0 _ (by omega) (hF.set (by simp)) am_set_eq (hw2.at (am_set_ne (by omega)))
              · omega
            · rw [if_pos (by omega)] at eo
              refine am_aload_n dX10_one_99 rfl rfl ?_
              refine am_iconst (v := nI 4) dX10_one_100 rfl (by decide +kernel) ?_
              refine am_vv (t_X10_fails (d - 1) _ hm2 (by omega) (v := 4)) k_X10_fails l_X10_86 dX10_one_101 rfl rfl rfl rfl hm2 (by omega) (Nat.le_refl _) (Nat.le_refl _) (fun h6 hx => ?_)
              rw [if_pos rfl] at hx
              exact ret104 4 kb h6 _ _ _ (by rw [hx]; exact hF.set (by simp)) (by rw [hx]; exact am_set_eq) (hw2.at (by rw [hx]; exact am_set_ne (by omega))) eo hke (by omega) (by omega)
        by_cases hE2 : bi + w1 + w2 ≤ en
        · obtain ⟨rfl, rfl⟩ := hy1 hE2
          have F2 : am_fr h (am_set H1 46 (mO ct bs.length to bl co cp (bi + w1 + w2) en 0 tc)) [46, 48] := F1.set (by simp)
          have Z2 := Z'.m (mO ct bs.length to bl co cp (bi + w1 + w2) en 0 tc)
          have W2 : mrw (am_set H1 46 (mO ct bs.length to bl co cp (bi + w1 + w2) en 0 tc)) bs := hw1.at (am_set_ne (by omega))
          refine am_istore_n dX10_one_57 rfl rfl ?_
          refine am_iload_n dX10_one_58 rfl rfl ?_
          refine am_nif_ne 66 dX10_one_59 rfl rfl (by omega) (fun hp => ?_) (fun hp => ?_)
          · refine am_iconst (v := nI 1) dX10_one_66 rfl (by decide +kernel) ?_
            refine am_iload_n dX10_one_67 rfl rfl ?_
            refine am_iconst (v := nI 1) dX10_one_68 rfl (by decide +kernel) ?_
            refine am_isub dX10_one_69 rfl ?_
            rw [pk_sub (by omega)]
            refine am_ishl dX10_one_70 rfl ?_
            rw [am_m31 (by omega), pk_shlN (n := 1) (nI (y2 - 1)) (y2 - 1) (am_smod (by omega)) (by have : 2 ^ (y2 - 1) ≤ 2 ^ 13 := Nat.pow_le_pow_right (by omega) (by omega); omega), Nat.one_mul]
            refine am_aload_n dX10_one_71 rfl rfl ?_
            refine am_iload_n dX10_one_72 rfl rfl ?_
            refine am_iconst (v := nI 1) dX10_one_73 rfl (by decide +kernel) ?_
            refine am_isub dX10_one_74 rfl ?_
            rw [pk_sub (by omega)]
            refine am_vi (t_X10_take (d - 1) _ Z2.2.1 ((F2 47 (by simp)).trans hf) hE hE2 (n := y2 - 1) (by omega) (by omega)) k_X10_take l_X10_90 dX10_one_75 rfl rfl rfl rfl Z2.2.1 (by omega) (Nat.le_refl _) (Nat.le_refl _) (fun z h4 hx => ?_)
            obtain ⟨hz1, hz2⟩ := hx
            have pw : 2 ^ (y2 - 1) ≤ 2 ^ 13 := Nat.pow_le_pow_right (by omega) (by omega)
            by_cases hE3 : bi + w1 + w2 + (y2 - 1) ≤ en
            · obtain ⟨rfl, rfl⟩ := hz1 hE3
              have hnl := num_lt f (bi + w1 + w2) (y2 - 1)
              refine am_iadd dX10_one_78 rfl ?_
              rw [nI_add]
              refine am_iconst (v := nI 1) dX10_one_79 rfl (by decide +kernel) ?_
              refine am_iadd dX10_one_80 rfl ?_
              rw [nI_add]
              refine am_istore dX10_one_81 rfl rfl ?_
              exact go _ _ _ _ (F2.set (by simp)) am_set_eq (W2.at (am_set_ne (by omega))) rfl hE3 (by unfold dst; rw [if_neg (by omega)]) (by omega) (by omega)
            · obtain ⟨rfl, rfl⟩ := hz2 (by omega)
              rw [if_pos (by omega)] at eo
              refine am_iadd dX10_one_78 rfl ?_
              refine am_iconst (v := nI 1) dX10_one_79 rfl (by decide +kernel) ?_
              refine am_iadd dX10_one_80 rfl ?_
              refine am_istore dX10_one_81 rfl rfl ?_
              exact ret83 1 en _ _ _ _ (F2.set (by simp)) am_set_eq (W2.at (am_set_ne (by omega))) eo (Nat.le_refl _) (by omega) (by omega)
          · refine am_iconst (v := nI 1) dX10_one_62 rfl (by decide +kernel) ?_
            refine am_goto 81 dX10_one_63 rfl rfl ?_
            refine am_istore dX10_one_81 rfl rfl ?_
            exact go (bi + w1 + w2) 1 _ _ F2 Z2.2.1 W2 (by omega) hE2 (by unfold dst; rw [if_pos hp]) (by omega) (by omega)
        · obtain ⟨rfl, rfl⟩ := hy2 (by omega)
          rw [if_pos (by omega)] at eo
          have F2 : am_fr h (am_set H1 46 (mO ct bs.length to bl co cp en en 1 tc)) [46, 48] := F1.set (by simp)
          have Z2 := Z'.m (mO ct bs.length to bl co cp en en 1 tc)
          refine am_istore_n dX10_one_57 rfl rfl ?_
          refine am_iload_n dX10_one_58 rfl rfl ?_
          refine am_nif_ne 66 dX10_one_59 rfl rfl (by omega) (fun hp => ?_) (fun hp => ?_)
          · omega
          · refine am_iconst (v := nI 1) dX10_one_62 rfl (by decide +kernel) ?_
            refine am_goto 81 dX10_one_63 rfl rfl ?_
            refine am_istore dX10_one_81 rfl rfl ?_
            exact ret83 1 en _ _ _ _ F2 Z2.2.1 (hw1.at (am_set_ne (by omega))) eo (Nat.le_refl _) (by omega) (by omega)
      · have eo : (oneR lenC alC lenP alP f en wa bi bs co cp) = (0, bi + w1, bs ++ [nI y1], co + 1, cp) := by
          unfold oneR
          rw [← ew1, ← ey1, if_neg (by omega), if_pos (by omega)]
        refine am_aload_n dX10_one_21 rfl rfl ?_
        refine am_dup dX10_one_22 rfl ?_
        refine am_get f_X10_64 dX10_one_23 rfl Z.2.1 rfl ?_
        refine am_iconst (v := nI 1) dX10_one_26 rfl (by decide +kernel) ?_
        refine am_iadd dX10_one_27 rfl ?_
        rw [nI_add]
        refine am_put f_X10_64 dX10_one_28 rfl Z.2.1 (am_fit_i _) rfl ?_
        refine am_aload_n dX10_one_31 rfl rfl ?_
        refine am_get f_X10_13 dX10_one_32 rfl am_set_eq rfl ?_
        refine am_aload_n dX10_one_35 rfl rfl ?_
        refine am_get f_X10_54 dX10_one_36 rfl am_set_eq rfl ?_
        refine am_iload_n dX10_one_39 rfl rfl ?_
        refine am_iast dX10_one_40 rfl ((am_set_ne (by omega)).trans ((am_set_ne (by omega)).trans hg)) (by omega) (by omega) ?_
        refine am_aload_n dX10_one_41 rfl rfl ?_
        refine am_dup dX10_one_42 rfl ?_
        refine am_get f_X10_54 dX10_one_43 rfl ((am_set_ne (by omega)).trans am_set_eq) rfl ?_
        refine am_iconst (v := nI 1) dX10_one_46 rfl (by decide +kernel) ?_
        refine am_iadd dX10_one_47 rfl ?_
        rw [nI_add]
        refine am_put f_X10_54 dX10_one_48 rfl ((am_set_ne (by omega)).trans am_set_eq) (am_fit_i _) rfl ?_
        exact am_rv dX10_one_51 rfl rfl rfl ⟨(((am_fr.rf.set (by simp)).set (by simp)).set (by simp)).set (by simp), by rw [eo]; dsimp only; rw [List.length_append]; exact am_set_eq, by rw [eo]; exact mrw.push hgb ((am_set_ne (by omega)).trans am_set_eq), by rw [eo]; exact hE1⟩
    · omega
  · obtain ⟨rfl, rfl⟩ := hx2 (by omega)
    have eo : (oneR lenC alC lenP alP f en wa bi bs co cp) = (1, en, bs, co, cp) := by
      unfold oneR
      rw [← ew1, if_pos (by omega)]
    have Z := X.m (mO ct bs.length to bl co cp en en 1 tc)
    refine am_istore_n dX10_one_5 rfl rfl ?_
    refine am_aload_n dX10_one_6 rfl rfl ?_
    refine am_get f_X10_73 dX10_one_7 rfl Z.2.1 rfl ?_
    refine am_nif_eq 14 dX10_one_10 rfl rfl (by omega) (fun h10 => ?_) (fun h10 => ?_)
    · omega
    · exact am_rv dX10_one_13 rfl rfl rfl ⟨am_fr.rf.set (by simp), by rw [eo]; exact am_set_eq, by rw [eo]; exact hw.at (am_set_ne (by omega)), by rw [eo]; exact Nat.le_refl _⟩
end MOD5

/-! ===== Merger: merge, measure, shape ===== -/
section MERG2
variable {l : Launch} {D : va_G} {dA : Bool → ClassId}
/-- merging as the class does it: next symbol, next merged node, weights, parents; behind j of them -/
def mqS (m : Nat) (lv : Nat → Nat) (c : Nat) (w0 : Nat → Nat) : Nat → Nat × Nat × (Nat → Nat) × (Nat → Nat)
  | 0 => (0, m, w0, fun _ => 0)
  | j + 1 => ((tk lv (mqS m lv c w0 j).2.2.1 c (tk lv (mqS m lv c w0 j).2.2.1 c (mqS m lv c w0 j).1 (mqS m lv c w0 j).2.1 (m + j)).2.1 (tk lv (mqS m lv c w0 j).2.2.1 c (mqS m lv c w0 j).1 (mqS m lv c w0 j).2.1 (m + j)).2.2 (m + j)).2.1, (tk lv (mqS m lv c w0 j).2.2.1 c (tk lv (mqS m lv c w0 j).2.2.1 c (mqS m lv c w0 j).1 (mqS m lv c w0 j).2.1 (m + j)).2.1 (tk lv (mqS m lv c w0 j).2.2.1 c (mqS m lv c w0 j).1 (mqS m lv c w0 j).2.1 (m + j)).2.2 (m + j)).2.2,
    updN (mqS m lv c w0 j).2.2.1 (m + j) ((mqS m lv c w0 j).2.2.1 (tk lv (mqS m lv c w0 j).2.2.1 c (mqS m lv c w0 j).1 (mqS m lv c w0 j).2.1 (m + j)).1 + (mqS m lv c w0 j).2.2.1 (tk lv (mqS m lv c w0 j).2.2.1 c (tk lv (mqS m lv c w0 j).2.2.1 c (mqS m lv c w0 j).1 (mqS m lv c w0 j).2.1 (m + j)).2.1 (tk lv (mqS m lv c w0 j).2.2.1 c (mqS m lv c w0 j).1 (mqS m lv c w0 j).2.1 (m + j)).2.2 (m + j)).1),
    updN (updN (mqS m lv c w0 j).2.2.2 (tk lv (mqS m lv c w0 j).2.2.1 c (mqS m lv c w0 j).1 (mqS m lv c w0 j).2.1 (m + j)).1 (m + j)) (tk lv (mqS m lv c w0 j).2.2.1 c (tk lv (mqS m lv c w0 j).2.2.1 c (mqS m lv c w0 j).1 (mqS m lv c w0 j).2.1 (m + j)).2.1 (tk lv (mqS m lv c w0 j).2.2.1 c (mqS m lv c w0 j).1 (mqS m lv c w0 j).2.1 (m + j)).2.2 (m + j)).1 (m + j))
/-- what keeps merging within its rows -/
def mqK (m : Nat) (lv : Nat → Nat) (c : Nat) (w0 : Nat → Nat) : Prop := ∀ (j : Nat), j + 1 < c → ∀ (nl nm : Nat) (w up : Nat → Nat), mqS m lv c w0 j = (nl, nm, w, up) → nl ≤ c ∧ nm ≤ m + j ∧ (∀ k, k < m + j → w k < 2 ^ 20) ∧ (tk lv w c nl nm (m + j)).1 < m + j ∧ (tk lv w c nl nm (m + j)).2.1 ≤ c ∧ (tk lv w c nl nm (m + j)).2.2 ≤ m + j ∧ (tk lv w c (tk lv w c nl nm (m + j)).2.1 (tk lv w c nl nm (m + j)).2.2 (m + j)).1 < m + j
/-- an array holds parents -/
def upA (h : am_H) (a N : Nat) (up : Nat → Nat) : Prop := ∃ f : Nat → Int32, h a = some (.inl (false, N, f)) ∧ ∀ k, up k ≠ 0 → f k = nI (up k)
theorem upA.at {h h' : am_H} {a N : Nat} {v : Nat → Nat} (x : upA h a N v) (e : h' a = h a) : upA h' a N v := by
  obtain ⟨f, h1, h2⟩ := x
  exact ⟨f, e.trans h1, h2⟩
set_option maxHeartbeats 4000000 in
set_option maxRecDepth 100000 in
theorem t_X5_merge (d n0 : Nat) {h : am_H} {c m : Nat} {u1 u2 u3 : Int32} (hg : h 37 = some (mgO (nI c) u1 u2 u3)) {lv w0 : Nat → Nat} (hl : nmA h 38 510 c lv) (hw : nmA h 39 1020 m w0) (h40 : ars h 40 1020) (hc : 1 ≤ c) (hcm : c ≤ m) (hm : m ≤ 510) (hlv : ∀ j, j < c → lv j < m) (hK : mqK m lv c w0) (hd : 1 ≤ d) : am_Ct l D dA m_X5_merge d 0 0 n0 [am_r 37, .inl (nI m)] h (am_qv fun h' => am_fr h h' [37, 39, 40] ∧ (∃ u1 u2, h' 37 = some (mgO (nI c) u1 u2 (nI (m + (c - 1))))) ∧ ars h' 39 1020 ∧ upA h' 40 1020 (mqS m lv c w0 (c - 1)).2.2.2) := by
  refine am_Cv (by decide +kernel) rfl rfl ?_
  obtain ⟨pf0, h40⟩ := h40
  obtain ⟨wf0, h39, hwf0⟩ := hw
  refine am_aload_n dX5_merge_0 rfl rfl ?_
  refine am_iconst (v := nI 0) dX5_merge_1 rfl (by decide +kernel) ?_
  refine am_put f_X5_26 dX5_merge_2 rfl hg (am_fit_i _) rfl ?_
  refine am_aload_n dX5_merge_5 rfl rfl ?_
  refine am_iload_n dX5_merge_6 rfl rfl ?_
  refine am_put f_X5_29 dX5_merge_7 rfl am_set_eq (am_fit_i _) rfl ?_
  refine am_aload_n dX5_merge_10 rfl rfl ?_
  refine am_iload_n dX5_merge_11 rfl rfl ?_
  refine am_put f_X5_32 dX5_merge_12 rfl am_set_eq (am_fit_i _) rfl ?_
  refine am_iconst (v := nI 1) dX5_merge_15 rfl (by decide +kernel) ?_
  refine am_istore_n dX5_merge_16 rfl rfl ?_
  have loop : ∀ (q j : Nat) (x3 x4 : Option am_V) (H : am_H) (nl nm : Nat) (w up : Nat → Nat), j + 1 + q = c → mqS m lv c w0 j = (nl, nm, w, up) → am_fr h H [37, 39, 40] → H 37 = some (mgO (nI c) (nI nl) (nI nm) (nI (m + j))) → nmA H 39 1020 (m + j) w → upA H 40 1020 up → am_At l D dA m_X5_merge d 0 0 0 0 n0 none (am_qv fun h' => am_fr h h' [37, 39, 40] ∧ (∃ u1 u2, h' 37 = some (mgO (nI c) u1 u2 (nI (m + (c - 1))))) ∧ ars h' 39 1020 ∧ upA h' 40 1020 (mqS m lv c w0 (c - 1)).2.2.2) 0 0 17 [some (am_r 37), some (.inl (nI m)), some (.inl (nI (j + 1))), x3, x4] [] H := by
    intro q
    induction q with
    | zero =>
      intro j x3 x4 H nl nm w up hj hS hfr g37 g39 g40
      refine am_iload_n dX5_merge_17 rfl rfl ?_
      refine am_aload_n dX5_merge_18 rfl rfl ?_
      refine am_get f_X5_22 dX5_merge_19 rfl g37 rfl ?_
      refine am_ncmp_ge 108 dX5_merge_22 rfl rfl (by omega) (by omega) (fun hc => ?_) (fun hc => ?_)
      · have ej : j = c - 1 := by omega
        exact am_rv dX5_merge_108 rfl rfl rfl ⟨hfr, ⟨_, _, by rw [← ej]; exact g37⟩, g39.ars, by rw [← ej, hS]; exact g40⟩
      · omega
    | succ q ih =>
      intro j x3 x4 H nl nm w up hj hS hfr g37 g39 g40
      obtain ⟨k1, k2, k3, k4, k5, k6, k7⟩ := hK j (by omega) nl nm w up hS
      have hnext : mqS m lv c w0 (j + 1) = ((tk lv w c (tk lv w c nl nm (m + j)).2.1 (tk lv w c nl nm (m + j)).2.2 (m + j)).2.1, (tk lv w c (tk lv w c nl nm (m + j)).2.1 (tk lv w c nl nm (m + j)).2.2 (m + j)).2.2, updN w (m + j) (w (tk lv w c nl nm (m + j)).1 + w (tk lv w c (tk lv w c nl nm (m + j)).2.1 (tk lv w c nl nm (m + j)).2.2 (m + j)).1), updN (updN up (tk lv w c nl nm (m + j)).1 (m + j)) (tk lv w c (tk lv w c nl nm (m + j)).2.1 (tk lv w c nl nm (m + j)).2.2 (m + j)).1 (m + j)) := by
        rw [mqS, hS]
      obtain ⟨⟨a, nl1, nm1⟩, e1⟩ : ∃ p, p = tk lv w c nl nm (m + j) := ⟨_, rfl⟩
      rw [← e1] at k4 k5 k6 k7 hnext
      dsimp only at k4 k5 k6 k7 hnext
      obtain ⟨⟨b, nl2, nm2⟩, e2⟩ : ∃ p, p = tk lv w c nl1 nm1 (m + j) := ⟨_, rfl⟩
      rw [← e2] at k7 hnext
      dsimp only at k7 hnext
      have hlH := hl.at (h' := H) (hfr 38 (by simp))
      have wa := k3 a k4
      have wb := k3 b k7
      obtain ⟨wf, a39, hwf⟩ := id g39
      refine am_iload_n dX5_merge_17 rfl rfl ?_
      refine am_aload_n dX5_merge_18 rfl rfl ?_
      refine am_get f_X5_22 dX5_merge_19 rfl g37 rfl ?_
      refine am_ncmp_ge 108 dX5_merge_22 rfl rfl (by omega) (by omega) (fun hc => ?_) (fun hc => ?_)
      · omega
      · refine am_aload_n dX5_merge_25 rfl rfl ?_
        refine am_get f_X5_32 dX5_merge_26 rfl g37 rfl ?_
        refine am_aload_n dX5_merge_29 rfl rfl ?_
        refine am_get f_X5_13 dX5_merge_30 rfl g37 rfl ?_
        refine am_alen dX5_merge_33 rfl a39 ?_
        refine am_ncmp_ge 108 dX5_merge_34 rfl rfl (by omega) (by omega) (fun hc => ?_) (fun hc => ?_)
        · omega
        · refine am_aload_n dX5_merge_37 rfl rfl ?_
          refine am_vi (t_X5_takeLeast (d - 1) _ g37 hlH g39 (by omega) k1 k2 (by omega) (fun j hj => by have := hlv j hj; omega) (fun k hk => by have := k3 k hk; omega)) k_X5_takeLeast l_X5_66 dX5_merge_38 rfl rfl rfl rfl g37 (by omega) (Nat.le_refl _) (Nat.le_refl _) (fun x h1 hx => ?_)
          rw [← e1] at hx
          dsimp only at hx
          obtain ⟨rfl, f1, g37⟩ := hx
          have hl1 := hlH.at (h' := h1) (f1 38 (by simp))
          have g39 := g39.at (h' := h1) (f1 39 (by simp))
          have g40 := g40.at (h' := h1) (f1 40 (by simp))
          refine am_istore_n dX5_merge_41 rfl rfl ?_
          refine am_aload_n dX5_merge_42 rfl rfl ?_
          refine am_vi (t_X5_takeLeast (d - 1) _ g37 hl1 g39 (by omega) k5 k6 (by omega) (fun j hj => by have := hlv j hj; omega) (fun k hk => by have := k3 k hk; omega)) k_X5_takeLeast l_X5_66 dX5_merge_43 rfl rfl rfl rfl g37 (by omega) (Nat.le_refl _) (Nat.le_refl _) (fun x h2 hx => ?_)
          rw [← e2] at hx
          dsimp only at hx
          obtain ⟨rfl, f2, g37⟩ := hx
          obtain ⟨wf, g39, hwf⟩ := g39.at (h' := h2) (f2 39 (by simp))
          obtain ⟨pf, g40, hpf⟩ := g40.at (h' := h2) (f2 40 (by simp))
          refine am_istore dX5_merge_46 rfl rfl ?_
          refine am_aload_n dX5_merge_48 rfl rfl ?_
          refine am_get f_X5_13 dX5_merge_49 rfl g37 rfl ?_
          refine am_aload_n dX5_merge_52 rfl rfl ?_
          refine am_get f_X5_32 dX5_merge_53 rfl g37 rfl ?_
          refine am_aload_n dX5_merge_56 rfl rfl ?_
          refine am_get f_X5_13 dX5_merge_57 rfl g37 rfl ?_
          refine am_iload_n dX5_merge_60 rfl rfl ?_
          refine am_iald dX5_merge_61 rfl g39 (by omega) (by omega) ?_
          refine am_aload_n dX5_merge_62 rfl rfl ?_
          refine am_get f_X5_13 dX5_merge_63 rfl g37 rfl ?_
          refine am_iload dX5_merge_66 rfl rfl ?_
          refine am_iald dX5_merge_68 rfl g39 (by omega) (by omega) ?_
          rw [hwf a k4, hwf b k7]
          refine am_iadd dX5_merge_69 rfl ?_
          rw [nI_add]
          refine am_iast dX5_merge_70 rfl g39 (by omega) (by omega) ?_
          refine am_aload_n dX5_merge_71 rfl rfl ?_
          refine am_get f_X5_16 dX5_merge_72 rfl ((am_set_ne (by decide)).trans g37) rfl ?_
          refine am_iload_n dX5_merge_75 rfl rfl ?_
          refine am_aload_n dX5_merge_76 rfl rfl ?_
          refine am_get f_X5_32 dX5_merge_77 rfl ((am_set_ne (by decide)).trans g37) rfl ?_
          refine am_iast dX5_merge_80 rfl ((am_set_ne (by decide)).trans g40) (by omega) (by omega) ?_
          refine am_aload_n dX5_merge_81 rfl rfl ?_
          refine am_get f_X5_16 dX5_merge_82 rfl ((am_set_ne (by decide)).trans ((am_set_ne (by decide)).trans g37)) rfl ?_
          refine am_iload dX5_merge_85 rfl rfl ?_
          refine am_aload_n dX5_merge_87 rfl rfl ?_
          refine am_get f_X5_32 dX5_merge_88 rfl ((am_set_ne (by decide)).trans ((am_set_ne (by decide)).trans g37)) rfl ?_
          refine am_iast dX5_merge_91 rfl am_set_eq (by omega) (by omega) ?_
          refine am_aload_n dX5_merge_92 rfl rfl ?_
          refine am_dup dX5_merge_93 rfl ?_
          refine am_get f_X5_32 dX5_merge_94 rfl ((am_set_ne (by decide)).trans ((am_set_ne (by decide)).trans ((am_set_ne (by decide)).trans g37))) rfl ?_
          refine am_iconst (v := nI 1) dX5_merge_97 rfl (by decide +kernel) ?_
          refine am_iadd dX5_merge_98 rfl ?_
          rw [nI_add]
          refine am_put f_X5_32 dX5_merge_99 rfl ((am_set_ne (by decide)).trans ((am_set_ne (by decide)).trans ((am_set_ne (by decide)).trans g37))) (am_fit_i _) rfl ?_
          refine am_iinc (n := 1) dX5_merge_102 rfl rfl (nI_1 (j + 1)) ?_
          refine am_goto 17 dX5_merge_105 rfl rfl ?_
          refine ih (j + 1) _ _ _ nl2 nm2 _ _ (by omega) hnext ((((((hfr.tr f1 (by simp)).tr f2 (by simp)).set (by simp)).set (by simp)).set (by simp)).set (by simp)) am_set_eq ⟨_, (am_set_ne (by decide)).trans ((am_set_ne (by decide)).trans ((am_set_ne (by decide)).trans am_set_eq)), fun i hi => ?_⟩ ⟨_, (am_set_ne (by decide)).trans am_set_eq, fun i hi => ?_⟩
          · by_cases e : i = m + j
            · subst e; rw [upd_eq, updN_eq]
            · rw [upd_ne e, updN_ne e]; exact hwf i (by omega)
          · by_cases eb : i = b
            · subst eb; rw [upd_eq, updN_eq]
            · rw [updN_ne eb] at hi
              rw [upd_ne eb, updN_ne eb]
              by_cases ea : i = a
              · subst ea; rw [upd_eq, updN_eq]
              · rw [updN_ne ea] at hi
                rw [upd_ne ea, updN_ne ea]; exact hpf i hi
  exact loop (c - 1) 0 _ _ _ 0 m w0 (fun _ => 0) (by omega) rfl (((am_fr.rf.set (by simp)).set (by simp)).set (by simp)) am_set_eq ⟨wf0, (am_set_ne (by decide)).trans ((am_set_ne (by decide)).trans ((am_set_ne (by decide)).trans h39)), fun i hi => hwf0 i hi⟩ ⟨pf0, (am_set_ne (by decide)).trans ((am_set_ne (by decide)).trans ((am_set_ne (by decide)).trans h40)), fun i hi => absurd rfl hi⟩
set_option maxHeartbeats 4000000 in
set_option maxRecDepth 100000 in
theorem t_X5_measure (d n0 : Nat) {h : am_H} {c m nc : Nat} {u1 u2 : Int32} (hg : h 37 = some (mgO (nI c) u1 u2 (nI nc))) {lv up dq : Nat → Nat} (hl : nmA h 38 510 c lv) (h40 : upA h 40 1020 up) (h41 : ars h 41 1020) {t : Nat} {al : Int32} (ht : h t = some (trO t al)) (ht37 : t + 7 < 37) (h1 : lnA h (t + 1) m (fun _ => 0)) (hm : m ≤ 510) (hm1 : 1 ≤ m) (hnc : m < nc) (hnc2 : nc ≤ 1020) (hc : c ≤ 510) (hlv : ∀ j, j < c → lv j < m) (hin : ∀ k, m ≤ k → k + 1 < nc → k < up k ∧ up k < nc ∧ dq k = dq (up k) + 1) (hrt : dq (nc - 1) = 0) (hlf : ∀ j, j < c → m ≤ up (lv j) ∧ up (lv j) < nc ∧ dq (lv j) = dq (up (lv j)) + 1 ∧ dq (lv j) ≤ 16) (hdb : ∀ k, m ≤ k → k < nc → dq k < 2 ^ 20) {len : Nat → Nat} (hlen : ∀ j, j < c → len (lv j) = dq (lv j)) (hlen0 : ∀ s, s < m → (∀ j, j < c → lv j ≠ s) → len s = 0) (hd : 2 ≤ d) : am_Ct l D dA m_X5_measure d 0 0 n0 [am_r 37, am_r t] h (am_qv fun h' => am_fr h h' [41, t + 1] ∧ ars h' 41 1020 ∧ lnA h' (t + 1) m len) := by
  refine am_Cv (by decide +kernel) rfl rfl ?_
  obtain ⟨lf, h38, hlf2⟩ := hl
  obtain ⟨pf, h40, hpf⟩ := h40
  obtain ⟨df0, h41⟩ := h41
  obtain ⟨l0, h1, hl0⟩ := h1
  refine am_aload_n dX5_measure_0 rfl rfl ?_
  refine am_get f_X5_19 dX5_measure_1 rfl hg rfl ?_
  refine am_aload_n dX5_measure_4 rfl rfl ?_
  refine am_get f_X5_32 dX5_measure_5 rfl hg rfl ?_
  refine am_iconst (v := nI 1) dX5_measure_8 rfl (by decide +kernel) ?_
  refine am_isub dX5_measure_9 rfl ?_
  rw [pk_sub (by omega)]
  refine am_iconst (v := nI 0) dX5_measure_10 rfl (by decide +kernel) ?_
  refine am_iast dX5_measure_11 rfl h41 (by omega) (by omega) ?_
  refine am_aload_n dX5_measure_12 rfl rfl ?_
  refine am_get f_X5_32 dX5_measure_13 rfl ((am_set_ne (by omega)).trans hg) rfl ?_
  refine am_iconst (v := nI 2) dX5_measure_16 rfl (by decide +kernel) ?_
  refine am_isub dX5_measure_17 rfl ?_
  rw [pk_sub (by omega)]
  refine am_istore_n dX5_measure_18 rfl rfl ?_
  have two : ∀ (q i : Nat) (H : am_H) (df lg : Nat → Int32), i + q = c → am_fr h H [41, t + 1] → H 41 = some (.inl (false, 1020, df)) → (∀ k, m ≤ k → k < nc → df k = nI (dq k)) → H (t + 1) = some (.inl (false, m, lg)) → (∀ j, j < i → lg (lv j) = nI (dq (lv j))) → (∀ s, s < m → (∀ j, j < i → lv j ≠ s) → lg s = nI 0) → am_At l D dA m_X5_measure d 0 0 0 0 n0 none (am_qv fun h' => am_fr h h' [41, t + 1] ∧ ars h' 41 1020 ∧ lnA h' (t + 1) m len) 0 0 54 [some (am_r 37), some (am_r t), some (.inl (nI i))] [] H := by
    intro q
    induction q with
    | zero =>
      intro i H df lg hi hfr g41 hdf g1 hl1 hl2
      have hgH := (hfr 37 (by simp; omega)).trans hg
      refine am_iload_n dX5_measure_54 rfl rfl ?_
      refine am_aload_n dX5_measure_55 rfl rfl ?_
      refine am_get f_X5_22 dX5_measure_56 rfl hgH rfl ?_
      refine am_ncmp_ge 96 dX5_measure_59 rfl rfl (by omega) (by omega) (fun hc => ?_) (fun hc => ?_)
      · obtain rfl : i = c := by omega
        refine am_rv dX5_measure_96 rfl rfl rfl ⟨hfr, ⟨_, g41⟩, lg, g1, fun s hs => ?_⟩
        by_cases e : ∃ j, j < i ∧ lv j = s
        · obtain ⟨j, hj, rfl⟩ := e
          rw [hlen j hj]
          exact ⟨hl1 j hj, (hlf j hj).2.2.2⟩
        · have e2 : ∀ j, j < i → lv j ≠ s := fun j hj z => e ⟨j, hj, z⟩
          rw [hlen0 s hs e2]
          exact ⟨hl2 s hs e2, by omega⟩
      · omega
    | succ q ih =>
      intro i H df lg hi hfr g41 hdf g1 hl1 hl2
      have hgH := (hfr 37 (by simp; omega)).trans hg
      have h38H := (hfr 38 (by simp; omega)).trans h38
      have h40H := (hfr 40 (by simp; omega)).trans h40
      have htH := (hfr t (by simp; omega)).trans ht
      obtain ⟨q1, q2, q3, q4⟩ := hlf i (by omega)
      have hli := hlv i (by omega)
      refine am_iload_n dX5_measure_54 rfl rfl ?_
      refine am_aload_n dX5_measure_55 rfl rfl ?_
      refine am_get f_X5_22 dX5_measure_56 rfl hgH rfl ?_
      refine am_ncmp_ge 96 dX5_measure_59 rfl rfl (by omega) (by omega) (fun hc => ?_) (fun hc => ?_)
      · omega
      · refine am_aload_n dX5_measure_62 rfl rfl ?_
        refine am_aload_n dX5_measure_63 rfl rfl ?_
        refine am_get f_X5_7 dX5_measure_64 rfl hgH rfl ?_
        refine am_iload_n dX5_measure_67 rfl rfl ?_
        refine am_iald dX5_measure_68 rfl h38H (by omega) (by omega) ?_
        rw [hlf2 i (by omega)]
        refine am_aload_n dX5_measure_69 rfl rfl ?_
        refine am_get f_X5_19 dX5_measure_70 rfl hgH rfl ?_
        refine am_aload_n dX5_measure_73 rfl rfl ?_
        refine am_get f_X5_16 dX5_measure_74 rfl hgH rfl ?_
        refine am_aload_n dX5_measure_77 rfl rfl ?_
        refine am_get f_X5_7 dX5_measure_78 rfl hgH rfl ?_
        refine am_iload_n dX5_measure_81 rfl rfl ?_
        refine am_iald dX5_measure_82 rfl h38H (by omega) (by omega) ?_
        rw [hlf2 i (by omega)]
        refine am_iald dX5_measure_83 rfl h40H (by omega) (by omega) ?_
        rw [hpf (lv i) (by omega)]
        refine am_iald dX5_measure_84 rfl g41 (by omega) (by omega) ?_
        rw [hdf _ q1 q2]
        refine am_iconst (v := nI 1) dX5_measure_85 rfl (by decide +kernel) ?_
        refine am_iadd dX5_measure_86 rfl ?_
        rw [nI_add, ← q3]
        refine am_vv (t_X7_setLength (d - 1) _ htH g1 (by omega) (by omega) (s := lv i) (by omega) q4) k_X7_setLength l_X5_69 dX5_measure_87 rfl rfl rfl rfl htH (by omega) (Nat.le_refl _) (Nat.le_refl _) (fun h2 hx => ?_)
        have f2 : am_fr H h2 [t + 1] := by rw [hx]; exact am_fr.rf.set (by simp)
        have e2 : h2 (t + 1) = some (.inl (false, m, upd lg (lv i) (nI (dq (lv i))))) := by rw [hx]; exact am_set_eq
        refine am_iinc (n := 1) dX5_measure_90 rfl rfl (nI_1 i) ?_
        refine am_goto 54 dX5_measure_93 rfl rfl ?_
        refine ih (i + 1) h2 df _ (by omega) (hfr.tr f2 (by simp)) ((f2 41 (by simp; omega)).trans g41) hdf e2 (fun j hj => ?_) (fun s hs hj => ?_)
        · by_cases e : lv j = lv i
          · rw [e, upd_eq]
          · rw [upd_ne e]
            refine hl1 j ?_
            rcases Nat.lt_or_ge j i with g | g
            · exact g
            · exact absurd (show lv j = lv i by rw [show j = i by omega]) e
        · rw [upd_ne (fun z => hj i (by omega) z.symm)]
          exact hl2 s hs (fun j hj2 => hj j (by omega))
  have one : ∀ (q : Nat) (H : am_H) (df : Nat → Int32), m - 1 + q + 1 < nc → True → am_fr h H [41] → H 41 = some (.inl (false, 1020, df)) → (∀ k, m - 1 + q < k → k < nc → df k = nI (dq k)) → m - 1 + q < nc → am_At l D dA m_X5_measure d 0 0 0 0 n0 none (am_qv fun h' => am_fr h h' [41, t + 1] ∧ ars h' 41 1020 ∧ lnA h' (t + 1) m len) 0 0 19 [some (am_r 37), some (am_r t), some (.inl (nI (m - 1 + q)))] [] H := by
    intro q
    induction q with
    | zero =>
      intro H df _ _ hfr g41 hdf hq
      have htH := (hfr t (by simp; omega)).trans ht
      have h1H := (hfr (t + 1) (by simp; omega)).trans h1
      refine am_iload_n dX5_measure_19 rfl rfl ?_
      refine am_aload_n dX5_measure_20 rfl rfl ?_
      refine am_vi (t_X7_symbols (d - 1) _ htH h1H (by omega)) k_X7_symbols l_X5_45 dX5_measure_21 rfl rfl rfl rfl htH (by omega) (Nat.le_refl _) (Nat.le_refl _) (fun x h1 hx => ?_)
      obtain ⟨rfl, hh⟩ := hx
      obtain rfl := hh.symm
      refine am_ncmp_lt 52 dX5_measure_24 rfl rfl (by omega) (by omega) (fun hc => ?_) (fun hc => ?_)
      · refine am_iconst (v := nI 0) dX5_measure_52 rfl (by decide +kernel) ?_
        refine am_istore_n dX5_measure_53 rfl rfl ?_
        exact two c 0 H df l0 (by omega) (am_fr.rf.tr hfr (by simp)) g41 (fun k a b => hdf k (by omega) b) h1H (fun j hj => absurd hj (Nat.not_lt_zero j)) (fun s hs _ => (hl0 s hs).1)
      · omega
    | succ q ih =>
      intro H df hq1 _ hfr g41 hdf hq
      have hgH := (hfr 37 (by simp)).trans hg
      have h40H := (hfr 40 (by simp)).trans h40
      have htH := (hfr t (by simp; omega)).trans ht
      have h1H := (hfr (t + 1) (by simp; omega)).trans h1
      obtain ⟨q1, q2, q3⟩ := hin (m - 1 + (q + 1)) (by omega) (by omega)
      refine am_iload_n dX5_measure_19 rfl rfl ?_
      refine am_aload_n dX5_measure_20 rfl rfl ?_
      refine am_vi (t_X7_symbols (d - 1) _ htH h1H (by omega)) k_X7_symbols l_X5_45 dX5_measure_21 rfl rfl rfl rfl htH (by omega) (Nat.le_refl _) (Nat.le_refl _) (fun x h1 hx => ?_)
      obtain ⟨rfl, hh⟩ := hx
      obtain rfl := hh.symm
      refine am_ncmp_lt 52 dX5_measure_24 rfl rfl (by omega) (by omega) (fun hc => ?_) (fun hc => ?_)
      · omega
      · refine am_aload_n dX5_measure_27 rfl rfl ?_
        refine am_get f_X5_19 dX5_measure_28 rfl hgH rfl ?_
        refine am_iload_n dX5_measure_31 rfl rfl ?_
        refine am_aload_n dX5_measure_32 rfl rfl ?_
        refine am_get f_X5_19 dX5_measure_33 rfl hgH rfl ?_
        refine am_aload_n dX5_measure_36 rfl rfl ?_
        refine am_get f_X5_16 dX5_measure_37 rfl hgH rfl ?_
        refine am_iload_n dX5_measure_40 rfl rfl ?_
        refine am_iald dX5_measure_41 rfl h40H (by omega) (by omega) ?_
        rw [hpf (m - 1 + (q + 1)) (by omega)]
        refine am_iald dX5_measure_42 rfl g41 (by omega) (by omega) ?_
        rw [hdf _ (by omega) q2]
        refine am_iconst (v := nI 1) dX5_measure_43 rfl (by decide +kernel) ?_
        refine am_iadd dX5_measure_44 rfl ?_
        rw [nI_add, ← q3]
        refine am_iast dX5_measure_45 rfl g41 (by omega) (by omega) ?_
        refine am_iinc (n := (-1)) dX5_measure_46 rfl rfl (am_dec1 _) ?_
        refine am_goto 19 dX5_measure_49 rfl rfl ?_
        rw [show nI (m - 1 + (q + 1)) - nI 1 = nI (m - 1 + q) from (pk_sub (by omega)).trans (by congr 1)]
        refine ih _ _ (by omega) trivial (hfr.set (by simp)) am_set_eq (fun k a b => ?_) (by omega)
        by_cases e : k = m - 1 + (q + 1)
        · subst e; rw [upd_eq]
        · rw [upd_ne e]; exact hdf k (by omega) b
  have := one (nc - 2 - (m - 1)) (am_set h 41 (.inl (false, 1020, upd df0 (nc - 1) (nI 0)))) _ (by omega) trivial (am_fr.rf.set (by simp)) am_set_eq (fun k a b => ?_) (by omega)
  · rw [show m - 1 + (nc - 2 - (m - 1)) = nc - 2 by omega] at this
    exact this
  · rw [show k = nc - 1 by omega, upd_eq, hrt]
end MERG2

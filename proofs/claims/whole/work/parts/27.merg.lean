/-! ===== Merger ===== -/
section MERG
variable {l : Launch} {D : va_G} {dA : Bool → ClassId}
abbrev mgO (a b c e : Int32) : am_E := .inr (5, [am_r 38, am_r 39, am_r 40, am_r 41, .inl a, .inl b, .inl c, .inl e])
/-- the place of a symbol among those in order of weight -/
def insP (w : Nat → Nat) (s : Nat) (lv : Nat → Nat) : Nat → Nat
  | 0 => 0
  | p + 1 => if w s < w (lv p) then insP w s lv p else p + 1
def insF (w : Nat → Nat) (s : Nat) (lv : Nat → Nat) (c : Nat) : Nat → Nat := fun j => if j < insP w s lv c then lv j else if j = insP w s lv c then s else lv (j - 1)
def srtS (w : Nat → Nat) : Nat → (Nat → Nat) × Nat
  | 0 => (fun _ => 0, 0)
  | i + 1 => if 0 < w i then (insF w i (srtS w i).1 (srtS w i).2, (srtS w i).2 + 1) else srtS w i
theorem srtS_le (w : Nat → Nat) : ∀ i, (srtS w i).2 ≤ i
  | 0 => Nat.le_refl _
  | i + 1 => by
    have := srtS_le w i
    rw [srtS]
    split
    · dsimp only; omega
    · omega
theorem insP_le (w : Nat → Nat) (s : Nat) (lv : Nat → Nat) : ∀ c, insP w s lv c ≤ c
  | 0 => Nat.le_refl _
  | p + 1 => by
    have := insP_le w s lv p
    unfold insP
    split <;> omega
theorem srtS_lt (w : Nat → Nat) : ∀ i j, j < (srtS w i).2 → (srtS w i).1 j < i
  | 0, j, h => absurd h (Nat.not_lt_zero j)
  | i + 1, j, h => by
    have ih := srtS_lt w i
    rw [srtS] at h ⊢
    by_cases g : 0 < w i
    · rw [if_pos g] at h ⊢
      have hp := insP_le w i (srtS w i).1 (srtS w i).2
      dsimp only at h ⊢
      unfold insF
      split
      · have := ih j (by omega); omega
      · split
        · omega
        · have := ih (j - 1) (by omega); omega
    · rw [if_neg g] at h ⊢
      have := ih j h
      omega
/-- an array holds numbers, as far as n -/
def nmA (h : am_H) (a N : Nat) (n : Nat) (v : Nat → Nat) : Prop := ∃ f : Nat → Int32, h a = some (.inl (false, N, f)) ∧ ∀ j, j < n → f j = nI (v j)
theorem nmA.at {h h' : am_H} {a N n : Nat} {v : Nat → Nat} (x : nmA h a N n v) (e : h' a = h a) : nmA h' a N n v := by
  obtain ⟨f, h1, h2⟩ := x
  exact ⟨f, e.trans h1, h2⟩
theorem nmA.ars {h : am_H} {a N n : Nat} {v : Nat → Nat} (x : nmA h a N n v) : ars h a N := by
  obtain ⟨f, h1, h2⟩ := x
  exact ⟨f, h1⟩
set_option maxHeartbeats 4000000 in
set_option maxRecDepth 100000 in
theorem t_X5_insertLeaf (d n0 : Nat) {h : am_H} {c s : Nat} {u1 u2 u3 : Int32} (hg : h 37 = some (mgO (nI c) u1 u2 u3)) {lv w : Nat → Nat} (hl : nmA h 38 510 c lv) (hw : nmA h 39 1020 (s + 1) w) (hc : c < 510) (hs : s < 510) (hlv : ∀ j, j < c → lv j < s) (hwb : ∀ k, k ≤ s → w k < 2 ^ 31) : am_Ct l D dA m_X5_insertLeaf d 0 0 n0 [am_r 37, .inl (nI s)] h (am_qv fun h' => am_fr h h' [37, 38] ∧ h' 37 = some (mgO (nI (c + 1)) u1 u2 u3) ∧ nmA h' 38 510 (c + 1) (insF w s lv c)) := by
  refine am_Cv (by decide +kernel) rfl rfl ?_
  obtain ⟨lf, h38, hlf⟩ := hl
  obtain ⟨wf, h39, hwf⟩ := hw
  refine am_aload_n dX5_insertLeaf_0 rfl rfl ?_
  refine am_get f_X5_22 dX5_insertLeaf_1 rfl hg rfl ?_
  refine am_istore_n dX5_insertLeaf_4 rfl rfl ?_
  have loop : ∀ (p : Nat) (f : Nat → Int32), p ≤ c → (∀ j, j < p → f j = nI (lv j)) → (∀ j, p < j → j ≤ c → f j = nI (lv (j - 1))) → insP w s lv c = insP w s lv p → am_At l D dA m_X5_insertLeaf d 0 0 0 0 n0 none (am_qv fun h' => am_fr h h' [37, 38] ∧ h' 37 = some (mgO (nI (c + 1)) u1 u2 u3) ∧ nmA h' 38 510 (c + 1) (insF w s lv c)) 0 0 5 [some (am_r 37), some (.inl (nI s)), some (.inl (nI p))] [] (am_set h 38 (.inl (false, 510, f))) := by
    intro p
    have fin : ∀ (p : Nat) (f : Nat → Int32), p ≤ c → (∀ j, j < p → f j = nI (lv j)) → (∀ j, p < j → j ≤ c → f j = nI (lv (j - 1))) → insP w s lv c = p → am_At l D dA m_X5_insertLeaf d 0 0 0 0 n0 none (am_qv fun h' => am_fr h h' [37, 38] ∧ h' 37 = some (mgO (nI (c + 1)) u1 u2 u3) ∧ nmA h' 38 510 (c + 1) (insF w s lv c)) 0 0 51 [some (am_r 37), some (.inl (nI s)), some (.inl (nI p))] [] (am_set h 38 (.inl (false, 510, f))) := by
      intro p f hp h1 h2 h3
      refine am_aload_n dX5_insertLeaf_51 rfl rfl ?_
      refine am_get f_X5_7 dX5_insertLeaf_52 rfl ((am_set_ne (by decide)).trans hg) rfl ?_
      refine am_iload_n dX5_insertLeaf_55 rfl rfl ?_
      refine am_iload_n dX5_insertLeaf_56 rfl rfl ?_
      refine am_iast dX5_insertLeaf_57 rfl am_set_eq (by omega) (by omega) ?_
      refine am_aload_n dX5_insertLeaf_58 rfl rfl ?_
      refine am_dup dX5_insertLeaf_59 rfl ?_
      refine am_get f_X5_22 dX5_insertLeaf_60 rfl ((am_set_ne (by decide)).trans ((am_set_ne (by decide)).trans hg)) rfl ?_
      refine am_iconst (v := nI 1) dX5_insertLeaf_63 rfl (by decide +kernel) ?_
      refine am_iadd dX5_insertLeaf_64 rfl ?_
      rw [nI_add]
      refine am_put f_X5_22 dX5_insertLeaf_65 rfl ((am_set_ne (by decide)).trans ((am_set_ne (by decide)).trans hg)) (am_fit_i _) rfl ?_
      refine am_rv dX5_insertLeaf_68 rfl rfl rfl ⟨((am_fr.rf.set (by simp)).set (by simp)).set (by simp), am_set_eq, _, (am_set_ne (by decide)).trans am_set_eq, fun j hj => ?_⟩
      unfold insF
      rw [h3]
      by_cases e : j = p
      · subst e; rw [upd_eq, if_neg (by omega), if_pos rfl]
      · rw [upd_ne e]
        by_cases g : j < p
        · rw [if_pos g]; exact h1 j g
        · rw [if_neg g, if_neg e]; exact h2 j (by omega) (by omega)
    induction p with
    | zero =>
      intro f hp h1 h2 h3
      refine am_iload_n dX5_insertLeaf_5 rfl rfl ?_
      refine am_nif_le 51 dX5_insertLeaf_6 rfl rfl (by omega) (fun hc => ?_) (fun hc => ?_)
      · exact fin 0 f hp h1 h2 h3
      · omega
    | succ p ih =>
      intro f hp h1 h2 h3
      have hlp := hlv p (by omega)
      refine am_iload_n dX5_insertLeaf_5 rfl rfl ?_
      refine am_nif_le 51 dX5_insertLeaf_6 rfl rfl (by omega) (fun hc => ?_) (fun hc => ?_)
      · omega
      · refine am_aload_n dX5_insertLeaf_9 rfl rfl ?_
        refine am_get f_X5_13 dX5_insertLeaf_10 rfl ((am_set_ne (by decide)).trans hg) rfl ?_
        refine am_aload_n dX5_insertLeaf_13 rfl rfl ?_
        refine am_get f_X5_7 dX5_insertLeaf_14 rfl ((am_set_ne (by decide)).trans hg) rfl ?_
        refine am_iload_n dX5_insertLeaf_17 rfl rfl ?_
        refine am_iconst (v := nI 1) dX5_insertLeaf_18 rfl (by decide +kernel) ?_
        refine am_isub dX5_insertLeaf_19 rfl ?_
        rw [show nI (p + 1) - nI 1 = nI p from pk_sub (by omega)]
        refine am_iald dX5_insertLeaf_20 rfl am_set_eq (by omega) (by omega) ?_
        rw [h1 p (by omega)]
        refine am_iald dX5_insertLeaf_21 rfl ((am_set_ne (by decide)).trans h39) (by omega) (by omega) ?_
        rw [hwf (lv p) (by omega)]
        refine am_aload_n dX5_insertLeaf_22 rfl rfl ?_
        refine am_get f_X5_13 dX5_insertLeaf_23 rfl ((am_set_ne (by decide)).trans hg) rfl ?_
        refine am_iload_n dX5_insertLeaf_26 rfl rfl ?_
        refine am_iald dX5_insertLeaf_27 rfl ((am_set_ne (by decide)).trans h39) (by omega) (by omega) ?_
        rw [hwf s (by omega)]
        have b1 := hwb (lv p) (by omega)
        have b2 := hwb s (Nat.le_refl s)
        refine am_ncmp_le 51 dX5_insertLeaf_28 rfl rfl (by omega) (by omega) (fun hc => ?_) (fun hc => ?_)
        · refine fin (p + 1) f hp h1 h2 ?_
          rw [h3]
          exact if_neg (by omega)
        · refine am_aload_n dX5_insertLeaf_31 rfl rfl ?_
          refine am_get f_X5_7 dX5_insertLeaf_32 rfl ((am_set_ne (by decide)).trans hg) rfl ?_
          refine am_iload_n dX5_insertLeaf_35 rfl rfl ?_
          refine am_aload_n dX5_insertLeaf_36 rfl rfl ?_
          refine am_get f_X5_7 dX5_insertLeaf_37 rfl ((am_set_ne (by decide)).trans hg) rfl ?_
          refine am_iload_n dX5_insertLeaf_40 rfl rfl ?_
          refine am_iconst (v := nI 1) dX5_insertLeaf_41 rfl (by decide +kernel) ?_
          refine am_isub dX5_insertLeaf_42 rfl ?_
          rw [show nI (p + 1) - nI 1 = nI p from pk_sub (by omega)]
          refine am_iald dX5_insertLeaf_43 rfl am_set_eq (by omega) (by omega) ?_
          rw [h1 p (by omega)]
          refine am_iast dX5_insertLeaf_44 rfl am_set_eq (by omega) (by omega) ?_
          refine am_iinc (n := (-1)) dX5_insertLeaf_45 rfl rfl (am_dec1 _) ?_
          refine am_goto 5 dX5_insertLeaf_48 rfl rfl ?_
          rw [am_set_set, show nI (p + 1) - nI 1 = nI p from pk_sub (by omega)]
          refine ih _ (by omega) (fun j hj => ?_) (fun j hj1 hj2 => ?_) ?_
          · rw [upd_ne (by omega)]; exact h1 j (by omega)
          · by_cases e : j = p + 1
            · subst e; rw [upd_eq]; rfl
            · rw [upd_ne e]; exact h2 j (by omega) hj2
          · rw [h3]; exact if_pos hc
  refine am_eq rfl rfl rfl (am_set_self h38).symm (loop c lf (Nat.le_refl c) hlf (fun j a b => by omega) rfl)
set_option maxHeartbeats 4000000 in
set_option maxRecDepth 100000 in
theorem t_X5_sortLeaves (d n0 : Nat) {h : am_H} {u0 u1 u2 u3 : Int32} (hg : h 37 = some (mgO u0 u1 u2 u3)) (h38 : ars h 38 510) (h39 : ars h 39 1020) {t m : Nat} {al : Int32} (ht : h t = some (trO t al)) (hm : m ≤ 510) (ht37 : t + 7 < 37) (h1 : ars h (t + 1) m) {w : Nat → Nat} (h3 : nmA h (t + 3) m m w) (hwb : ∀ k, k < m → w k < 2 ^ 31) (hd : 2 ≤ d) : am_Ct l D dA m_X5_sortLeaves d 0 0 n0 [am_r 37, am_r t] h (am_qv fun h' => am_fr h h' [37, 38, 39] ∧ h' 37 = some (mgO (nI (srtS w m).2) u1 u2 u3) ∧ nmA h' 38 510 (srtS w m).2 (srtS w m).1 ∧ nmA h' 39 1020 m w) := by
  refine am_Cv (by decide +kernel) rfl rfl ?_
  obtain ⟨l1, h1⟩ := h1
  obtain ⟨uf, h3, huf⟩ := h3
  obtain ⟨lf, h38⟩ := h38
  obtain ⟨wf, h39⟩ := h39
  refine am_aload_n dX5_sortLeaves_0 rfl rfl ?_
  refine am_iconst (v := nI 0) dX5_sortLeaves_1 rfl (by decide +kernel) ?_
  refine am_put f_X5_22 dX5_sortLeaves_2 rfl hg (am_fit_i _) rfl ?_
  refine am_iconst (v := nI 0) dX5_sortLeaves_5 rfl (by decide +kernel) ?_
  refine am_istore_n dX5_sortLeaves_6 rfl rfl ?_
  have loop : ∀ (q i : Nat) (H : am_H), i + q = m → am_fr h H [37, 38, 39] → H 37 = some (mgO (nI (srtS w i).2) u1 u2 u3) → nmA H 38 510 (srtS w i).2 (srtS w i).1 → nmA H 39 1020 i w → am_At l D dA m_X5_sortLeaves d 0 0 0 0 n0 none (am_qv fun h' => am_fr h h' [37, 38, 39] ∧ h' 37 = some (mgO (nI (srtS w m).2) u1 u2 u3) ∧ nmA h' 38 510 (srtS w m).2 (srtS w m).1 ∧ nmA h' 39 1020 m w) 0 0 7 [some (am_r 37), some (am_r t), some (.inl (nI i))] [] H := by
    intro q
    induction q with
    | zero =>
      intro i H hi hfr g37 g38 g39
      obtain rfl : i = m := by omega
      have htH := (hfr t (by simp; omega)).trans ht
      have h1H := (hfr (t + 1) (by simp; omega)).trans h1
      refine am_iload_n dX5_sortLeaves_7 rfl rfl ?_
      refine am_aload_n dX5_sortLeaves_8 rfl rfl ?_
      refine am_vi (t_X7_symbols (d - 1) _ htH h1H (by omega)) k_X7_symbols l_X5_45 dX5_sortLeaves_9 rfl rfl rfl rfl htH (by omega) (Nat.le_refl _) (Nat.le_refl _) (fun x h1 hx => ?_)
      obtain ⟨rfl, hh⟩ := hx
      obtain rfl := hh.symm
      refine am_ncmp_ge 55 dX5_sortLeaves_12 rfl rfl (by omega) (by omega) (fun hc => ?_) (fun hc => ?_)
      · exact am_rv dX5_sortLeaves_55 rfl rfl rfl ⟨hfr, g37, g38, g39⟩
      · omega
    | succ q ih =>
      intro i H hi hfr g37 g38 g39
      have htH := (hfr t (by simp; omega)).trans ht
      have h1H := (hfr (t + 1) (by simp; omega)).trans h1
      have h3H := (hfr (t + 3) (by simp; omega)).trans h3
      obtain ⟨lf, g38, hlf⟩ := g38
      obtain ⟨wf, g39, hwf⟩ := g39
      have hsl := srtS_le w i
      refine am_iload_n dX5_sortLeaves_7 rfl rfl ?_
      refine am_aload_n dX5_sortLeaves_8 rfl rfl ?_
      refine am_vi (t_X7_symbols (d - 1) _ htH h1H (by omega)) k_X7_symbols l_X5_45 dX5_sortLeaves_9 rfl rfl rfl rfl htH (by omega) (Nat.le_refl _) (Nat.le_refl _) (fun x h1 hx => ?_)
      obtain ⟨rfl, hh⟩ := hx
      obtain rfl := hh.symm
      refine am_ncmp_ge 55 dX5_sortLeaves_12 rfl rfl (by omega) (by omega) (fun hc => ?_) (fun hc => ?_)
      · omega
      · refine am_iload_n dX5_sortLeaves_15 rfl rfl ?_
        refine am_aload_n dX5_sortLeaves_16 rfl rfl ?_
        refine am_get f_X5_7 dX5_sortLeaves_17 rfl g37 rfl ?_
        refine am_alen dX5_sortLeaves_20 rfl g38 ?_
        refine am_ncmp_ge 55 dX5_sortLeaves_21 rfl rfl (by omega) (by omega) (fun hc => ?_) (fun hc => ?_)
        · omega
        · refine am_aload_n dX5_sortLeaves_24 rfl rfl ?_
          refine am_get f_X5_13 dX5_sortLeaves_25 rfl g37 rfl ?_
          refine am_iload_n dX5_sortLeaves_28 rfl rfl ?_
          refine am_aload_n dX5_sortLeaves_29 rfl rfl ?_
          refine am_iload_n dX5_sortLeaves_30 rfl rfl ?_
          refine am_vi (t_X7_usesOf (d - 1) _ htH h1H (by omega) h3H (by omega) (nI i)) k_X7_usesOf l_X5_59 dX5_sortLeaves_31 rfl rfl rfl rfl htH (by omega) (Nat.le_refl _) (Nat.le_refl _) (fun x h1 hx => ?_)
          obtain ⟨rfl, hh⟩ := hx
          obtain rfl := hh.symm
          rw [ix_in (by omega) (by omega)]
          dsimp only
          rw [huf i (by omega)]
          refine am_iast dX5_sortLeaves_34 rfl g39 (by omega) (by omega) ?_
          refine am_aload_n dX5_sortLeaves_35 rfl rfl ?_
          refine am_get f_X5_13 dX5_sortLeaves_36 rfl ((am_set_ne (by omega)).trans g37) rfl ?_
          refine am_iload_n dX5_sortLeaves_39 rfl rfl ?_
          refine am_iald dX5_sortLeaves_40 rfl am_set_eq (by omega) (by omega) ?_
          rw [upd_eq]
          have hwi := hwb i (by omega)
          obtain ⟨H2, e2⟩ : ∃ H2, H2 = am_set H 39 (.inl (false, 1020, upd wf i (nI (w i)))) := ⟨_, rfl⟩
          rw [← e2]
          have f2 : am_fr H H2 [39] := by rw [e2]; exact am_fr.rf.set (by simp)
          have w2 : nmA H2 39 1020 (i + 1) w := ⟨_, by rw [e2]; exact am_set_eq, fun j hj => by
            by_cases e : j = i
            · subst e; exact upd_eq
            · rw [upd_ne e]; exact hwf j (by omega)⟩
          have k37 := (f2 37 (by simp)).trans g37
          have k38 : nmA H2 38 510 (srtS w i).2 (srtS w i).1 := ⟨lf, (f2 38 (by simp)).trans g38, hlf⟩
          refine am_nif_le 49 dX5_sortLeaves_41 rfl rfl (by omega) (fun hc => ?_) (fun hc => ?_)
          · refine am_iinc (n := 1) dX5_sortLeaves_49 rfl rfl (nI_1 i) ?_
            refine am_goto 7 dX5_sortLeaves_52 rfl rfl ?_
            have e : srtS w (i + 1) = srtS w i := by rw [srtS, if_neg (by omega)]
            exact ih (i + 1) H2 (by omega) (hfr.tr f2 (by simp)) (by rw [e]; exact k37) (by rw [e]; exact k38) w2
          · refine am_aload_n dX5_sortLeaves_44 rfl rfl ?_
            refine am_iload_n dX5_sortLeaves_45 rfl rfl ?_
            refine am_vv (t_X5_insertLeaf (d - 1) _ k37 k38 w2 (by omega) (by omega) (fun j hj => srtS_lt w i j hj) (fun k hk => hwb k (by omega))) k_X5_insertLeaf l_X5_63 dX5_sortLeaves_46 rfl rfl rfl rfl k37 (by omega) (Nat.le_refl _) (Nat.le_refl _) (fun h5 hx => ?_)
            obtain ⟨f5, a5, b5⟩ := hx
            refine am_iinc (n := 1) dX5_sortLeaves_49 rfl rfl (nI_1 i) ?_
            refine am_goto 7 dX5_sortLeaves_52 rfl rfl ?_
            have e : srtS w (i + 1) = (insF w i (srtS w i).1 (srtS w i).2, (srtS w i).2 + 1) := by rw [srtS, if_pos hc]
            exact ih (i + 1) h5 (by omega) ((hfr.tr f2 (by simp)).tr f5 (by simp)) (by rw [e]; exact a5) (by rw [e]; exact b5) (w2.at (f5 39 (by simp)))
  exact loop m 0 _ (by omega) (am_fr.rf.set (by simp)) am_set_eq ⟨lf, (am_set_ne (by decide)).trans h38, fun j hj => absurd hj (Nat.not_lt_zero j)⟩ ⟨wf, (am_set_ne (by decide)).trans h39, fun j hj => absurd hj (Nat.not_lt_zero j)⟩
/-- the least node: the first of the symbols in order, or the first of the merged ones -/
def tk (lv w : Nat → Nat) (c nl nm nc : Nat) : Nat × Nat × Nat := if nl < c ∧ (nm < nc → w (lv nl) ≤ w nm) then (lv nl, nl + 1, nm) else (nm, nl, nm + 1)
set_option maxHeartbeats 4000000 in
set_option maxRecDepth 100000 in
theorem t_X5_takeLeast (d n0 : Nat) {h : am_H} {c nl nm nc : Nat} (hg : h 37 = some (mgO (nI c) (nI nl) (nI nm) (nI nc))) {lv w : Nat → Nat} (hl : nmA h 38 510 c lv) (hw : nmA h 39 1020 nc w) (hc : c ≤ 510) (hnl : nl ≤ c) (hnm : nm ≤ nc) (hnc : nc ≤ 1020) (hlv : ∀ j, j < c → lv j < nc) (hwb : ∀ k, k < nc → w k < 2 ^ 31) : am_Ct l D dA m_X5_takeLeast d 0 0 n0 [am_r 37] h (am_qi fun x h' => x = nI (tk lv w c nl nm nc).1 ∧ am_fr h h' [37] ∧ h' 37 = some (mgO (nI c) (nI (tk lv w c nl nm nc).2.1) (nI (tk lv w c nl nm nc).2.2) (nI nc))) := by
  refine am_Ci (by decide +kernel) rfl rfl ?_
  obtain ⟨lf, h38, hlf⟩ := hl
  obtain ⟨wf, h39, hwf⟩ := hw
  refine am_aload_n dX5_takeLeast_0 rfl rfl ?_
  refine am_get f_X5_29 dX5_takeLeast_1 rfl hg rfl ?_
  refine am_aload_n dX5_takeLeast_4 rfl rfl ?_
  refine am_get f_X5_32 dX5_takeLeast_5 rfl hg rfl ?_
  have leaf : nl < c → tk lv w c nl nm nc = (lv nl, nl + 1, nm) → ∀ (x1 x2 : Option am_V), am_At l D dA m_X5_takeLeast d 0 0 0 0 n0 none (am_qi fun x h' => x = nI (tk lv w c nl nm nc).1 ∧ am_fr h h' [37] ∧ h' 37 = some (mgO (nI c) (nI (tk lv w c nl nm nc).2.1) (nI (tk lv w c nl nm nc).2.2) (nI nc))) 0 0 68 [some (am_r 37), x1, x2] [] h := by
    intro h1 e x1 x2
    refine am_aload_n dX5_takeLeast_68 rfl rfl ?_
    refine am_dup dX5_takeLeast_69 rfl ?_
    refine am_get f_X5_26 dX5_takeLeast_70 rfl hg rfl ?_
    refine am_iconst (v := nI 1) dX5_takeLeast_73 rfl (by decide +kernel) ?_
    refine am_iadd dX5_takeLeast_74 rfl ?_
    rw [nI_add]
    refine am_put f_X5_26 dX5_takeLeast_75 rfl hg (am_fit_i _) rfl ?_
    refine am_aload_n dX5_takeLeast_78 rfl rfl ?_
    refine am_get f_X5_7 dX5_takeLeast_79 rfl am_set_eq rfl ?_
    refine am_aload_n dX5_takeLeast_82 rfl rfl ?_
    refine am_get f_X5_26 dX5_takeLeast_83 rfl am_set_eq rfl ?_
    refine am_iconst (v := nI 1) dX5_takeLeast_86 rfl (by decide +kernel) ?_
    refine am_isub dX5_takeLeast_87 rfl ?_
    rw [show nI (nl + 1) - nI 1 = nI nl from pk_sub (by omega)]
    refine am_iald dX5_takeLeast_88 rfl ((am_set_ne (by decide)).trans h38) (by omega) (by omega) ?_
    rw [hlf nl h1]
    exact am_ri dX5_takeLeast_89 rfl rfl rfl (by rw [e]; exact ⟨rfl, am_fr.rf.set (by simp), am_set_eq⟩)
  have node : tk lv w c nl nm nc = (nm, nl, nm + 1) → ∀ (x1 x2 : Option am_V), am_At l D dA m_X5_takeLeast d 0 0 0 0 n0 none (am_qi fun x h' => x = nI (tk lv w c nl nm nc).1 ∧ am_fr h h' [37] ∧ h' 37 = some (mgO (nI c) (nI (tk lv w c nl nm nc).2.1) (nI (tk lv w c nl nm nc).2.2) (nI nc))) 0 0 90 [some (am_r 37), x1, x2] [] h := by
    intro e x1 x2
    refine am_aload_n dX5_takeLeast_90 rfl rfl ?_
    refine am_dup dX5_takeLeast_91 rfl ?_
    refine am_get f_X5_29 dX5_takeLeast_92 rfl hg rfl ?_
    refine am_iconst (v := nI 1) dX5_takeLeast_95 rfl (by decide +kernel) ?_
    refine am_iadd dX5_takeLeast_96 rfl ?_
    rw [nI_add]
    refine am_put f_X5_29 dX5_takeLeast_97 rfl hg (am_fit_i _) rfl ?_
    refine am_aload_n dX5_takeLeast_100 rfl rfl ?_
    refine am_get f_X5_29 dX5_takeLeast_101 rfl am_set_eq rfl ?_
    refine am_iconst (v := nI 1) dX5_takeLeast_104 rfl (by decide +kernel) ?_
    refine am_isub dX5_takeLeast_105 rfl ?_
    rw [show nI (nm + 1) - nI 1 = nI nm from pk_sub (by omega)]
    exact am_ri dX5_takeLeast_106 rfl rfl rfl (by rw [e]; exact ⟨rfl, am_fr.rf.set (by simp), am_set_eq⟩)
  refine am_ncmp_ge 15 dX5_takeLeast_8 rfl rfl (by omega) (by omega) (fun hc => ?_) (fun hc => ?_)
  · refine am_iconst (v := nI 0) dX5_takeLeast_15 rfl (by decide +kernel) ?_
    refine am_istore_n dX5_takeLeast_16 rfl rfl ?_
    refine am_aload_n dX5_takeLeast_17 rfl rfl ?_
    refine am_get f_X5_26 dX5_takeLeast_18 rfl hg rfl ?_
    refine am_aload_n dX5_takeLeast_21 rfl rfl ?_
    refine am_get f_X5_22 dX5_takeLeast_22 rfl hg rfl ?_
    refine am_ncmp_ge 32 dX5_takeLeast_25 rfl rfl (by omega) (by omega) (fun hc => ?_) (fun hc => ?_)
    · refine am_iconst (v := nI 0) dX5_takeLeast_32 rfl (by decide +kernel) ?_
      refine am_istore_n dX5_takeLeast_33 rfl rfl ?_
      refine am_iload_n dX5_takeLeast_34 rfl rfl ?_
      refine am_nif_eq 90 dX5_takeLeast_35 rfl rfl (by omega) (fun hc => ?_) (fun hc => ?_)
      · exact node (if_neg (by omega)) _ _
      · omega
    · refine am_iconst (v := nI 1) dX5_takeLeast_28 rfl (by decide +kernel) ?_
      refine am_goto 33 dX5_takeLeast_29 rfl rfl ?_
      refine am_istore_n dX5_takeLeast_33 rfl rfl ?_
      refine am_iload_n dX5_takeLeast_34 rfl rfl ?_
      refine am_nif_eq 90 dX5_takeLeast_35 rfl rfl (by omega) (fun hc => ?_) (fun hc => ?_)
      · omega
      · refine am_iload_n dX5_takeLeast_38 rfl rfl ?_
        refine am_nif_eq 68 dX5_takeLeast_39 rfl rfl (by omega) (fun hc => ?_) (fun hc => ?_)
        · exact leaf (by omega) (if_pos ⟨by omega, fun _ => by omega⟩) _ _
        · omega
  · refine am_iconst (v := nI 1) dX5_takeLeast_11 rfl (by decide +kernel) ?_
    refine am_goto 16 dX5_takeLeast_12 rfl rfl ?_
    refine am_istore_n dX5_takeLeast_16 rfl rfl ?_
    refine am_aload_n dX5_takeLeast_17 rfl rfl ?_
    refine am_get f_X5_26 dX5_takeLeast_18 rfl hg rfl ?_
    refine am_aload_n dX5_takeLeast_21 rfl rfl ?_
    refine am_get f_X5_22 dX5_takeLeast_22 rfl hg rfl ?_
    refine am_ncmp_ge 32 dX5_takeLeast_25 rfl rfl (by omega) (by omega) (fun hc => ?_) (fun hc => ?_)
    · refine am_iconst (v := nI 0) dX5_takeLeast_32 rfl (by decide +kernel) ?_
      refine am_istore_n dX5_takeLeast_33 rfl rfl ?_
      refine am_iload_n dX5_takeLeast_34 rfl rfl ?_
      refine am_nif_eq 90 dX5_takeLeast_35 rfl rfl (by omega) (fun hc => ?_) (fun hc => ?_)
      · exact node (if_neg (by omega)) _ _
      · omega
    · refine am_iconst (v := nI 1) dX5_takeLeast_28 rfl (by decide +kernel) ?_
      refine am_goto 33 dX5_takeLeast_29 rfl rfl ?_
      refine am_istore_n dX5_takeLeast_33 rfl rfl ?_
      refine am_iload_n dX5_takeLeast_34 rfl rfl ?_
      refine am_nif_eq 90 dX5_takeLeast_35 rfl rfl (by omega) (fun hc => ?_) (fun hc => ?_)
      · omega
      · refine am_iload_n dX5_takeLeast_38 rfl rfl ?_
        refine am_nif_eq 68 dX5_takeLeast_39 rfl rfl (by omega) (fun hc => ?_) (fun hc => ?_)
        · omega
        · refine am_aload_n dX5_takeLeast_42 rfl rfl ?_
          refine am_get f_X5_13 dX5_takeLeast_43 rfl hg rfl ?_
          refine am_aload_n dX5_takeLeast_46 rfl rfl ?_
          refine am_get f_X5_7 dX5_takeLeast_47 rfl hg rfl ?_
          refine am_aload_n dX5_takeLeast_50 rfl rfl ?_
          refine am_get f_X5_26 dX5_takeLeast_51 rfl hg rfl ?_
          refine am_iald dX5_takeLeast_54 rfl h38 (by omega) (by omega) ?_
          rw [hlf nl (by omega)]
          have hln := hlv nl (by omega)
          refine am_iald dX5_takeLeast_55 rfl h39 (by omega) (by omega) ?_
          rw [hwf (lv nl) hln]
          refine am_aload_n dX5_takeLeast_56 rfl rfl ?_
          refine am_get f_X5_13 dX5_takeLeast_57 rfl hg rfl ?_
          refine am_aload_n dX5_takeLeast_60 rfl rfl ?_
          refine am_get f_X5_29 dX5_takeLeast_61 rfl hg rfl ?_
          refine am_iald dX5_takeLeast_64 rfl h39 (by omega) (by omega) ?_
          rw [hwf nm (by omega)]
          have b1 := hwb (lv nl) hln
          have b2 := hwb nm (by omega)
          refine am_ncmp_gt 90 dX5_takeLeast_65 rfl rfl (by omega) (by omega) (fun hc => ?_) (fun hc => ?_)
          · exact node (if_neg (by omega)) _ _
          · exact leaf (by omega) (if_pos ⟨by omega, fun _ => by omega⟩) _ _
end MERG

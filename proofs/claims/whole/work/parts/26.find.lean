/-! ===== CopyFinder ===== -/
section FIND
variable {l : Launch} {D : va_G} {dA : Bool → ClassId}
/-- a byte of the tape -/
def tb (tp : List Int32) (p : Nat) : Int32 := tp.getD p 0
def chn (tp : List Int32) (p : Nat) : Nat := (tb tp p * nI 961 + tb tp (p + 1) * nI 31 + tb tp (p + 2)).toBitVec.toNat % 4096
theorem chn_lt (tp : List Int32) (p : Nat) : chn tp p < 4096 := Nat.mod_lt _ (by decide)
/-- the latest place of a chain below p -/
def prv (ch : Nat → Nat) (c : Nat) : Nat → Int32
  | 0 => -1
  | p + 1 => if ch p = c then nI p else prv ch c p
theorem prv_cases (ch : Nat → Nat) (c : Nat) : ∀ p, (prv ch c p = -1 ∧ ∀ a, a < p → ch a ≠ c) ∨ ∃ a, a < p ∧ prv ch c p = nI a ∧ ch a = c ∧ ∀ b, a < b → b < p → ch b ≠ c
  | 0 => Or.inl ⟨rfl, fun a h => by omega⟩
  | p + 1 => by
    by_cases g : ch p = c
    · exact Or.inr ⟨p, by omega, if_pos g, g, fun b h1 h2 => by omega⟩
    · have e : prv ch c (p + 1) = prv ch c p := if_neg g
      rw [e]
      rcases prv_cases ch c p with ⟨h1, h2⟩ | ⟨a, h1, h2, h3, h4⟩
      · refine Or.inl ⟨h1, fun a ha => ?_⟩
        by_cases ea : a = p
        · rw [ea]; exact g
        · exact h2 a (by omega)
      · refine Or.inr ⟨a, by omega, h2, h3, fun b hb1 hb2 => ?_⟩
        by_cases eb : b = p
        · rw [eb]; exact g
        · exact h4 b hb1 (by omega)
/-- how many bytes are the same, up to a limit -/
def smR (tp : List Int32) (a b : Nat) : Nat → Nat
  | 0 => 0
  | q + 1 => if tb tp a = tb tp b then smR tp (a + 1) (b + 1) q + 1 else 0
theorem smR_le (tp : List Int32) : ∀ (q a b : Nat), smR tp a b q ≤ q
  | 0, _, _ => Nat.le_refl _
  | q + 1, a, b => by
    have := smR_le tp q (a + 1) (b + 1)
    unfold smR
    split <;> omega
theorem smR_at (tp : List Int32) : ∀ (q a b i : Nat), i < smR tp a b q → tb tp (a + i) = tb tp (b + i)
  | 0, a, b, i, h => absurd h (Nat.not_lt_zero i)
  | q + 1, a, b, i, h => by
    unfold smR at h
    split at h
    · rename_i g
      cases i with
      | zero => exact g
      | succ i =>
        have := smR_at tp q (a + 1) (b + 1) i (by omega)
        rwa [show a + 1 + i = a + (i + 1) by omega, show b + 1 + i = b + (i + 1) by omega] at this
    · omega
theorem smR_chn {tp : List Int32} {a b q : Nat} (h : 3 ≤ smR tp a b q) : chn tp a = chn tp b := by
  have h0 := smR_at tp q a b 0 (by omega)
  have h1 := smR_at tp q a b 1 (by omega)
  have h2 := smR_at tp q a b 2 (by omega)
  simp only [Nat.add_zero] at h0
  unfold chn
  rw [h0, h1, h2]
/-- the longest copy at p among the distances up to D: its length (2: none), its distance -/
def bst (tp : List Int32) (n p : Nat) : Nat → Nat × Nat
  | 0 => (2, 0)
  | D + 1 => if (bst tp n p D).1 < smR tp (p - (D + 1)) p (min 256 (n - p)) then (smR tp (p - (D + 1)) p (min 256 (n - p)), D + 1) else bst tp n p D
theorem bst_ok (tp : List Int32) (n p : Nat) : ∀ D, 2 ≤ (bst tp n p D).1 ∧ (bst tp n p D).2 ≤ D ∧ ((bst tp n p D).2 = 0 → (bst tp n p D).1 = 2) ∧ (0 < (bst tp n p D).2 → 3 ≤ (bst tp n p D).1 ∧ (bst tp n p D).1 ≤ min 256 (n - p))
  | 0 => ⟨Nat.le_refl _, Nat.le_refl _, fun _ => rfl, fun h => absurd h (Nat.lt_irrefl 0)⟩
  | D + 1 => by
    have ih := bst_ok tp n p D
    have hs := smR_le tp (min 256 (n - p)) (p - (D + 1)) p
    rw [bst]
    split
    · rename_i g
      exact ⟨by dsimp only; omega, Nat.le_refl _, fun h => absurd h (Nat.succ_ne_zero D), fun _ => ⟨by dsimp only; omega, hs⟩⟩
    · exact ⟨ih.1, by omega, ih.2.2.1, ih.2.2.2⟩
theorem bst_skip {tp : List Int32} {n p D : Nat} : ∀ (k : Nat), (∀ d, D < d → d ≤ D + k → chn tp (p - d) ≠ chn tp p) → bst tp n p (D + k) = bst tp n p D
  | 0, _ => rfl
  | k + 1, h => by
    have ih := bst_skip (n := n) k (fun d h1 h2 => h d h1 (by omega))
    show (if (bst tp n p (D + k)).1 < smR tp (p - (D + k + 1)) p (min 256 (n - p)) then _ else bst tp n p (D + k)) = _
    rw [if_neg, ih]
    intro g
    have := (bst_ok tp n p (D + k)).1
    exact h (D + k + 1) (by omega) (by omega) (smR_chn (q := min 256 (n - p)) (by omega))
theorem bst_full {tp : List Int32} {n p D : Nat} (hf : min 256 (n - p) ≤ (bst tp n p D).1) : ∀ (k : Nat), bst tp n p (D + k) = bst tp n p D
  | 0 => rfl
  | k + 1 => by
    have ih := bst_full hf k
    show (if (bst tp n p (D + k)).1 < smR tp (p - (D + k + 1)) p (min 256 (n - p)) then _ else bst tp n p (D + k)) = _
    rw [if_neg, ih]
    have := smR_le tp (min 256 (n - p)) (p - (D + k + 1)) p
    rw [ih]
    omega
abbrev fnO (en ln di : Nat) : am_E := .inr (4, [am_r 1, am_r 35, am_r 36, .inl (nI en), .inl (nI ln), .inl (nI di)])
set_option maxHeartbeats 4000000 in
set_option maxRecDepth 100000 in
theorem t_X4_chainOf (d n0 : Nat) {h : am_H} {en : Nat} {ln di : Int32} (hf : h 34 = some (.inr (4, [am_r 1, am_r 35, am_r 36, .inl (nI en), .inl ln, .inl di]))) {tp : List Int32} (hp : rws h 1 2 4000 tp) (htl : tp.length ≤ 4000) {p : Nat} (hpl : p + 3 ≤ tp.length) (hd : 2 ≤ d) : am_Ct l D dA m_X4_chainOf d 0 0 n0 [am_r 34, .inl (nI p)] h (am_qi fun x h' => x = nI (chn tp p) ∧ h' = h) := by
  refine am_Ci (by decide +kernel) rfl rfl ?_
  have p3 := hp.choose_spec.1
  refine am_aload_n dX4_chainOf_0 rfl rfl ?_
  refine am_get f_X4_9 dX4_chainOf_1 rfl hf rfl ?_
  refine am_iload_n dX4_chainOf_4 rfl rfl ?_
  refine am_vi (t_at (d - 1) _ hp (by decide) (by decide) (by omega) (by omega) (nI (p))) k_X3_at l_X4_48 dX4_chainOf_5 rfl rfl rfl rfl p3 (by omega) (Nat.le_refl _) (Nat.le_refl _) (fun x h1 hx => ?_)
  obtain ⟨rfl, hh⟩ := hx
  obtain rfl := hh.symm
  rw [ix_in (by omega) (by omega)]
  dsimp only
  refine am_sipush (v := nI 961) dX4_chainOf_8 rfl (by decide +kernel) ?_
  refine am_imul dX4_chainOf_11 rfl ?_
  refine am_aload_n dX4_chainOf_12 rfl rfl ?_
  refine am_get f_X4_9 dX4_chainOf_13 rfl hf rfl ?_
  refine am_iload_n dX4_chainOf_16 rfl rfl ?_
  refine am_iconst (v := nI 1) dX4_chainOf_17 rfl (by decide +kernel) ?_
  refine am_iadd dX4_chainOf_18 rfl ?_
  rw [nI_add]
  refine am_vi (t_at (d - 1) _ hp (by decide) (by decide) (by omega) (by omega) (nI (p + 1))) k_X3_at l_X4_48 dX4_chainOf_19 rfl rfl rfl rfl p3 (by omega) (Nat.le_refl _) (Nat.le_refl _) (fun x h1 hx => ?_)
  obtain ⟨rfl, hh⟩ := hx
  obtain rfl := hh.symm
  rw [ix_in (by omega) (by omega)]
  dsimp only
  refine am_bipush (v := nI 31) dX4_chainOf_22 rfl (by decide +kernel) ?_
  refine am_imul dX4_chainOf_24 rfl ?_
  refine am_iadd dX4_chainOf_25 rfl ?_
  refine am_aload_n dX4_chainOf_26 rfl rfl ?_
  refine am_get f_X4_9 dX4_chainOf_27 rfl hf rfl ?_
  refine am_iload_n dX4_chainOf_30 rfl rfl ?_
  refine am_iconst (v := nI 2) dX4_chainOf_31 rfl (by decide +kernel) ?_
  refine am_iadd dX4_chainOf_32 rfl ?_
  rw [nI_add]
  refine am_vi (t_at (d - 1) _ hp (by decide) (by decide) (by omega) (by omega) (nI (p + 2))) k_X3_at l_X4_48 dX4_chainOf_33 rfl rfl rfl rfl p3 (by omega) (Nat.le_refl _) (Nat.le_refl _) (fun x h1 hx => ?_)
  obtain ⟨rfl, hh⟩ := hx
  obtain rfl := hh.symm
  rw [ix_in (by omega) (by omega)]
  dsimp only
  refine am_iadd dX4_chainOf_36 rfl ?_
  refine am_sipush (v := nI 4095) dX4_chainOf_37 rfl (by decide +kernel) ?_
  refine am_iand dX4_chainOf_40 rfl ?_
  exact am_ri dX4_chainOf_41 rfl rfl rfl ⟨pk_and _ (m := nI 4095) 12 (by decide +kernel), rfl⟩
set_option maxHeartbeats 4000000 in
set_option maxRecDepth 100000 in
theorem t_X4_sameBytes (d n0 : Nat) {h : am_H} {en : Nat} {ln di : Int32} (hf : h 34 = some (.inr (4, [am_r 1, am_r 35, am_r 36, .inl (nI en), .inl ln, .inl di]))) {tp : List Int32} (hp : rws h 1 2 4000 tp) (htl : tp.length ≤ 4000) {a b q : Nat} (ha : a + q ≤ tp.length) (hb : b + q ≤ tp.length) (hd : 2 ≤ d) : am_Ct l D dA m_X4_sameBytes d 0 0 n0 [am_r 34, .inl (nI a), .inl (nI b), .inl (nI q)] h (am_qi fun x h' => x = nI (smR tp a b q) ∧ h' = h) := by
  refine am_Ci (by decide +kernel) rfl rfl ?_
  have p3 := hp.choose_spec.1
  refine am_iconst (v := nI 0) dX4_sameBytes_0 rfl (by decide +kernel) ?_
  refine am_istore dX4_sameBytes_1 rfl rfl ?_
  have loop : ∀ (r i : Nat), i + r = q → smR tp a b q = i + smR tp (a + i) (b + i) r → am_At l D dA m_X4_sameBytes d 0 0 0 0 n0 none (am_qi fun x h' => x = nI (smR tp a b q) ∧ h' = h) 0 0 3 [some (am_r 34), some (.inl (nI a)), some (.inl (nI b)), some (.inl (nI q)), some (.inl (nI i))] [] h := by
    intro r
    induction r with
    | zero =>
      intro i hi hz
      refine am_iload dX4_sameBytes_3 rfl rfl ?_
      refine am_iload_n dX4_sameBytes_5 rfl rfl ?_
      refine am_ncmp_ge 43 dX4_sameBytes_6 rfl rfl (by omega) (by omega) (fun hc => ?_) (fun hc => ?_)
      · refine am_iload_n dX4_sameBytes_43 rfl rfl ?_
        exact am_ri dX4_sameBytes_44 rfl rfl rfl ⟨by rw [hz]; congr 1; show q = i + 0; omega, rfl⟩
      · omega
    | succ r ih =>
      intro i hi hz
      refine am_iload dX4_sameBytes_3 rfl rfl ?_
      refine am_iload_n dX4_sameBytes_5 rfl rfl ?_
      refine am_ncmp_ge 43 dX4_sameBytes_6 rfl rfl (by omega) (by omega) (fun hc => ?_) (fun hc => ?_)
      · omega
      · refine am_aload_n dX4_sameBytes_9 rfl rfl ?_
        refine am_get f_X4_9 dX4_sameBytes_10 rfl hf rfl ?_
        refine am_iload_n dX4_sameBytes_13 rfl rfl ?_
        refine am_iload dX4_sameBytes_14 rfl rfl ?_
        refine am_iadd dX4_sameBytes_16 rfl ?_
        rw [nI_add]
        refine am_vi (t_at (d - 1) _ hp (by decide) (by decide) (by omega) (by omega) (nI (a + i))) k_X3_at l_X4_48 dX4_sameBytes_17 rfl rfl rfl rfl p3 (by omega) (Nat.le_refl _) (Nat.le_refl _) (fun x h1 hx => ?_)
        obtain ⟨rfl, hh⟩ := hx
        obtain rfl := hh.symm
        rw [ix_in (by omega) (by omega)]
        dsimp only
        refine am_aload_n dX4_sameBytes_20 rfl rfl ?_
        refine am_get f_X4_9 dX4_sameBytes_21 rfl hf rfl ?_
        refine am_iload_n dX4_sameBytes_24 rfl rfl ?_
        refine am_iload dX4_sameBytes_25 rfl rfl ?_
        refine am_iadd dX4_sameBytes_27 rfl ?_
        rw [nI_add]
        refine am_vi (t_at (d - 1) _ hp (by decide) (by decide) (by omega) (by omega) (nI (b + i))) k_X3_at l_X4_48 dX4_sameBytes_28 rfl rfl rfl rfl p3 (by omega) (Nat.le_refl _) (Nat.le_refl _) (fun x h1 hx => ?_)
        obtain ⟨rfl, hh⟩ := hx
        obtain rfl := hh.symm
        rw [ix_in (by omega) (by omega)]
        dsimp only
        refine am_icmp_eq 37 dX4_sameBytes_31 rfl rfl (fun hc => ?_) (fun hc => ?_)
        · refine am_iinc (n := 1) dX4_sameBytes_37 rfl rfl (nI_1 i) ?_
          refine am_goto 3 dX4_sameBytes_40 rfl rfl ?_
          have hc : tb tp (a + i) = tb tp (b + i) := hc
          refine ih (i + 1) (by omega) ?_
          rw [hz]
          show i + (if tb tp (a + i) = tb tp (b + i) then smR tp (a + i + 1) (b + i + 1) r + 1 else 0) = _
          rw [if_pos hc, show a + (i + 1) = a + i + 1 by omega, show b + (i + 1) = b + i + 1 by omega]
          omega
        · have hc : ¬ tb tp (a + i) = tb tp (b + i) := hc
          refine am_iload dX4_sameBytes_34 rfl rfl ?_
          exact am_ri dX4_sameBytes_36 rfl rfl rfl ⟨by rw [hz]; show nI i = nI (i + (if tb tp (a + i) = tb tp (b + i) then _ else 0)); rw [if_neg hc]; rfl, rfl⟩
  exact loop q 0 (by omega) (by rw [Nat.zero_add]; rfl)
/-- the chains are made -/
def chs (h : am_H) (tp : List Int32) (n : Nat) : Prop := ars h 35 4096 ∧ ∃ ea : Nat → Int32, h 36 = some (.inl (false, 4000, ea)) ∧ ∀ p, p + 3 ≤ n → ea p = prv (chn tp) (chn tp p) p
theorem chs.at {h h' : am_H} {tp : List Int32} {n : Nat} (a : chs h tp n) (e1 : h' 35 = h 35) (e2 : h' 36 = h 36) : chs h' tp n := by
  obtain ⟨a1, ea, a2, a3⟩ := a
  exact ⟨a1.at e1, ea, e2.trans a2, a3⟩
set_option maxHeartbeats 4000000 in
set_option maxRecDepth 100000 in
theorem t_X4_open (d n0 : Nat) {h : am_H} {en ln di : Int32} (hf : h 34 = some (.inr (4, [am_r 1, am_r 35, am_r 36, .inl en, .inl ln, .inl di]))) (h35 : ars h 35 4096) (h36 : ars h 36 4000) {tp : List Int32} (hp : rws h 1 2 4000 tp) (htl : tp.length ≤ 4000) {n : Nat} (hn : n ≤ tp.length) (hd : 3 ≤ d) : am_Ct l D dA m_X4_open d 0 0 n0 [am_r 34, .inl (nI n)] h (am_qv fun h' => am_fr h h' [34, 35, 36] ∧ (∃ ln di, h' 34 = some (.inr (4, [am_r 1, am_r 35, am_r 36, .inl (nI n), .inl ln, .inl di]))) ∧ chs h' tp n) := by
  refine am_Cv (by decide +kernel) rfl rfl ?_
  obtain ⟨l0, h35⟩ := h35
  obtain ⟨e0, h36⟩ := h36
  refine am_aload_n dX4_open_0 rfl rfl ?_
  refine am_iload_n dX4_open_1 rfl rfl ?_
  refine am_aload_n dX4_open_2 rfl rfl ?_
  refine am_get f_X4_19 dX4_open_3 rfl hf rfl ?_
  refine am_alen dX4_open_6 rfl h36 ?_
  refine am_min l_X4_32 wd_mins wd_mini wd_minc dX4_open_7 rfl (Nat.le_of_ble_eq_true rfl) (by omega) (Nat.le_refl _) (Nat.le_refl _) ?_
  rw [if_neg (nI_nlt (by omega) (by omega))]
  refine am_put f_X4_22 dX4_open_10 rfl hf (am_fit_i _) rfl ?_
  obtain ⟨h1, e1⟩ : ∃ h1, h1 = am_set h 34 (.inr (4, ([am_r 1, am_r 35, am_r 36, .inl en, .inl ln, .inl di] : List am_V).set 3 (.inl (nI n)))) := ⟨_, rfl⟩
  rw [← e1]
  have f1 : am_fr h h1 [34] := by rw [e1]; exact am_fr.rf.set (by simp)
  have g1 : h1 34 = some (.inr (4, [am_r 1, am_r 35, am_r 36, .inl (nI n), .inl ln, .inl di])) := by rw [e1]; exact am_set_eq
  have h35 := (f1 35 (by simp)).trans h35
  have h36 := (f1 36 (by simp)).trans h36
  have hp := hp.at (h' := h1) (f1 1 (by simp)) (f1 2 (by simp))
  refine am_aload_n dX4_open_13 rfl rfl ?_
  refine am_get f_X4_15 dX4_open_14 rfl g1 rfl ?_
  refine am_iconst (v := -1) dX4_open_17 rfl (by decide +kernel) ?_
  refine am_sv (t_fill (d - 1) _ h35 (by decide) (-1)) k_J7_fill_53178 l_X4_38 dX4_open_18 rfl rfl rfl rfl (by omega) (Nat.le_refl _) (Nat.le_refl _) (fun h2 hx => ?_)
  have f2 : am_fr h1 h2 [35] := by rw [hx]; exact am_fr.rf.set (by simp)
  have h35b : h2 35 = some (.inl (false, 4096, fun j => if j < 4096 then -1 else l0 j)) := by rw [hx]; exact am_set_eq
  refine am_iconst (v := nI 0) dX4_open_21 rfl (by decide +kernel) ?_
  refine am_istore_n dX4_open_22 rfl rfl ?_
  have loop : ∀ (q p : Nat) (x3 : Option am_V) (H : am_H) (lt ea : Nat → Int32), p + q = n - 2 → am_fr h1 H [35, 36] → H 35 = some (.inl (false, 4096, lt)) → H 36 = some (.inl (false, 4000, ea)) → (∀ c, c < 4096 → lt c = prv (chn tp) c p) → (∀ p', p' < p → ea p' = prv (chn tp) (chn tp p') p') → am_At l D dA m_X4_open d 0 0 0 0 n0 none (am_qv fun h' => am_fr h h' [34, 35, 36] ∧ (∃ ln di, h' 34 = some (.inr (4, [am_r 1, am_r 35, am_r 36, .inl (nI n), .inl ln, .inl di]))) ∧ chs h' tp n) 0 0 23 [some (am_r 34), some (.inl (nI n)), some (.inl (nI p)), x3] [] H := by
    intro q
    induction q with
    | zero =>
      intro p x3 H lt ea hq hfr g35 g36 hlt hea
      have g34 := (hfr 34 (by simp)).trans g1
      refine am_iload_n dX4_open_23 rfl rfl ?_
      refine am_iconst (v := nI 3) dX4_open_24 rfl (by decide +kernel) ?_
      refine am_iadd dX4_open_25 rfl ?_
      rw [nI_add]
      refine am_aload_n dX4_open_26 rfl rfl ?_
      refine am_get f_X4_22 dX4_open_27 rfl g34 rfl ?_
      refine am_ncmp_gt 64 dX4_open_30 rfl rfl (by omega) (by omega) (fun hc => ?_) (fun hc => ?_)
      · exact am_rv dX4_open_64 rfl rfl rfl ⟨am_fr.tr (am_fr.rf.tr f1 (by simp)) hfr (by simp), ⟨_, _, g34⟩, ⟨_, g35⟩, ea, g36, fun p' hp' => hea p' (by omega)⟩
      · omega
    | succ q ih =>
      intro p x3 H lt ea hq hfr g35 g36 hlt hea
      have g34 := (hfr 34 (by simp)).trans g1
      have hpH := hp.at (h' := H) (hfr 1 (by simp)) (hfr 2 (by simp))
      have hcl := chn_lt tp p
      refine am_iload_n dX4_open_23 rfl rfl ?_
      refine am_iconst (v := nI 3) dX4_open_24 rfl (by decide +kernel) ?_
      refine am_iadd dX4_open_25 rfl ?_
      rw [nI_add]
      refine am_aload_n dX4_open_26 rfl rfl ?_
      refine am_get f_X4_22 dX4_open_27 rfl g34 rfl ?_
      refine am_ncmp_gt 64 dX4_open_30 rfl rfl (by omega) (by omega) (fun hc => ?_) (fun hc => ?_)
      · omega
      · refine am_aload_n dX4_open_33 rfl rfl ?_
        refine am_iload_n dX4_open_34 rfl rfl ?_
        refine am_vi (t_X4_chainOf (d - 1) _ g34 hpH htl (p := p) (by omega) (by omega)) k_X4_chainOf l_X4_44 dX4_open_35 rfl rfl rfl rfl g34 (by omega) (Nat.le_refl _) (Nat.le_refl _) (fun x h1 hx => ?_)
        obtain ⟨rfl, hh⟩ := hx
        obtain rfl := hh.symm
        refine am_istore_n dX4_open_38 rfl rfl ?_
        refine am_aload_n dX4_open_39 rfl rfl ?_
        refine am_get f_X4_19 dX4_open_40 rfl g34 rfl ?_
        refine am_iload_n dX4_open_43 rfl rfl ?_
        refine am_aload_n dX4_open_44 rfl rfl ?_
        refine am_get f_X4_15 dX4_open_45 rfl g34 rfl ?_
        refine am_iload_n dX4_open_48 rfl rfl ?_
        refine am_iald dX4_open_49 rfl g35 (by omega) (by omega) ?_
        refine am_iast dX4_open_50 rfl g36 (by omega) (by omega) ?_
        refine am_aload_n dX4_open_51 rfl rfl ?_
        refine am_get f_X4_15 dX4_open_52 rfl ((am_set_ne (by omega)).trans g34) rfl ?_
        refine am_iload_n dX4_open_55 rfl rfl ?_
        refine am_iload_n dX4_open_56 rfl rfl ?_
        refine am_iast dX4_open_57 rfl ((am_set_ne (by omega)).trans g35) (by omega) (by omega) ?_
        refine am_iinc (n := 1) dX4_open_58 rfl rfl (nI_1 p) ?_
        refine am_goto 23 dX4_open_61 rfl rfl ?_
        refine ih (p + 1) _ _ _ _ (by omega) ((hfr.set (by simp)).set (by simp)) am_set_eq ((am_set_ne (by decide)).trans am_set_eq) (fun c hc => ?_) (fun p' hp' => ?_)
        · show _ = (if chn tp p = c then nI p else prv (chn tp) c p)
          by_cases e : c = chn tp p
          · subst e; rw [upd_eq, if_pos rfl]
          · rw [upd_ne e, if_neg (fun z => e z.symm)]; exact hlt c hc
        · by_cases e : p' = p
          · subst e; rw [upd_eq]; exact hlt _ hcl
          · rw [upd_ne e]; exact hea p' (by omega)
  refine loop (n - 2) 0 _ h2 _ e0 (by omega) (am_fr.rf.tr f2 (by simp)) h35b ((f2 36 (by simp)).trans h36) (fun c hc => ?_) (fun p' hp' => by omega)
  rw [if_pos hc]
  rfl
set_option maxHeartbeats 4000000 in
set_option maxRecDepth 100000 in
theorem t_X4_find (d n0 : Nat) {h : am_H} {en : Nat} {ln di : Int32} (hf : h 34 = some (.inr (4, [am_r 1, am_r 35, am_r 36, .inl (nI en), .inl ln, .inl di]))) {tp : List Int32} (hp : rws h 1 2 4000 tp) (htl : tp.length ≤ 4000) (hen : en ≤ tp.length) (hch : chs h tp en) {p : Nat} (hpe : p < en) (hd : 3 ≤ d) : am_Ct l D dA m_X4_find d 0 0 n0 [am_r 34, .inl (nI p)] h (am_qi fun x h' => am_fr h h' [34] ∧ x = am_bz (decide (0 < (bst tp en p p).2)) ∧ ∃ di', h' 34 = some (.inr (4, [am_r 1, am_r 35, am_r 36, .inl (nI en), .inl (nI (bst tp en p p).1), .inl di'])) ∧ (0 < (bst tp en p p).2 → di' = nI (bst tp en p p).2)) := by
  refine am_Cz (by decide +kernel) rfl (fun x h' hx => by rw [hx.2.1]; exact am_bz_01 _) rfl ?_
  obtain ⟨h35, ea, h36, hea⟩ := hch
  refine am_aload_n dX4_find_0 rfl rfl ?_
  refine am_iconst (v := nI 2) dX4_find_1 rfl (by decide +kernel) ?_
  refine am_put f_X4_26 dX4_find_2 rfl hf (am_fit_i _) rfl ?_
  obtain ⟨h1, e1⟩ : ∃ h1, h1 = am_set h 34 (.inr (4, ([am_r 1, am_r 35, am_r 36, .inl (nI en), .inl ln, .inl di] : List am_V).set 4 (.inl (nI 2)))) := ⟨_, rfl⟩
  rw [← e1]
  have f1 : am_fr h h1 [34] := by rw [e1]; exact am_fr.rf.set (by simp)
  have g1 : h1 34 = some (.inr (4, [am_r 1, am_r 35, am_r 36, .inl (nI en), .inl (nI 2), .inl di])) := by rw [e1]; exact am_set_eq
  have h36 := (f1 36 (by simp)).trans h36
  have hp := hp.at (h' := h1) (f1 1 (by simp)) (f1 2 (by simp))
  clear e1
  refine am_sipush (v := nI 256) dX4_find_5 rfl (by decide +kernel) ?_
  refine am_aload_n dX4_find_8 rfl rfl ?_
  refine am_get f_X4_22 dX4_find_9 rfl g1 rfl ?_
  refine am_iload_n dX4_find_12 rfl rfl ?_
  refine am_isub dX4_find_13 rfl ?_
  rw [pk_sub (by omega)]
  refine am_min l_X4_32 wd_mins wd_mini wd_minc dX4_find_14 rfl (Nat.le_of_ble_eq_true rfl) (by omega) (Nat.le_refl _) (Nat.le_refl _) ?_
  rw [show (if nI (en - p) < nI 256 then nI (en - p) else nI 256) = nI (min 256 (en - p)) by
    by_cases g : en - p < 256
    · rw [if_pos (nI_lt g (by omega)), Nat.min_eq_right (by omega)]
    · rw [if_neg (nI_nlt (by omega) (by omega)), Nat.min_eq_left (by omega)]]
  obtain ⟨lim, elim⟩ : ∃ lim, lim = min 256 (en - p) := ⟨_, rfl⟩
  rw [← elim]
  have hok := bst_ok tp en p p
  rw [← elim] at hok
  refine am_istore_n dX4_find_17 rfl rfl ?_
  refine am_iload_n dX4_find_18 rfl rfl ?_
  refine am_nif_lt 27 dX4_find_19 rfl rfl (by omega) ?_
  refine am_iload_n dX4_find_22 rfl rfl ?_
  refine am_iconst (v := nI 3) dX4_find_23 rfl (by decide +kernel) ?_
  refine am_ncmp_ge 29 dX4_find_24 rfl rfl (by omega) (by omega) (fun hc => ?_) (fun hc => ?_)
  · refine am_aload_n dX4_find_29 rfl rfl ?_
    refine am_get f_X4_19 dX4_find_30 rfl g1 rfl ?_
    refine am_iload_n dX4_find_33 rfl rfl ?_
    refine am_iald dX4_find_34 rfl h36 (by omega) (by omega) ?_
    rw [hea p (by omega)]
    refine am_istore_n dX4_find_35 rfl rfl ?_
    refine am_iconst (v := nI 0) dX4_find_36 rfl (by decide +kernel) ?_
    refine am_istore dX4_find_37 rfl rfl ?_
    have fin : ∀ (H : am_H) (x3 x4 x5 : Option am_V) (Dd : Nat) (di' : Int32), bst tp en p p = bst tp en p Dd → am_fr h H [34] → H 34 = some (.inr (4, [am_r 1, am_r 35, am_r 36, .inl (nI en), .inl (nI (bst tp en p Dd).1), .inl di'])) → (0 < (bst tp en p Dd).2 → di' = nI (bst tp en p Dd).2) → am_At l D dA m_X4_find d 0 0 0 0 n0 none (am_qi fun x h' => am_fr h h' [34] ∧ x = am_bz (decide (0 < (bst tp en p p).2)) ∧ ∃ di', h' 34 = some (.inr (4, [am_r 1, am_r 35, am_r 36, .inl (nI en), .inl (nI (bst tp en p p).1), .inl di'])) ∧ (0 < (bst tp en p p).2 → di' = nI (bst tp en p p).2)) 0 0 113 [some (am_r 34), some (.inl (nI p)), some (.inl (nI lim)), x3, x4, x5] [] H := by
      intro H x3 x4 x5 Dd di' hB hfr g34 hdi
      rw [← hB] at g34 hdi
      refine am_aload_n dX4_find_113 rfl rfl ?_
      refine am_get f_X4_26 dX4_find_114 rfl g34 rfl ?_
      refine am_iconst (v := nI 3) dX4_find_117 rfl (by decide +kernel) ?_
      have hb1 : (bst tp en p p).1 < 2 ^ 31 := by
        rcases Nat.eq_zero_or_pos (bst tp en p p).2 with g | g
        · rw [hok.2.2.1 g]; decide
        · have := (hok.2.2.2 g).2; omega
      refine am_ncmp_lt 125 dX4_find_118 rfl rfl (by omega) (by omega) (fun hc => ?_) (fun hc => ?_)
      · refine am_iconst (v := nI 0) dX4_find_125 rfl (by decide +kernel) ?_
        exact am_ri dX4_find_126 rfl rfl rfl ⟨hfr, by
          rw [decide_eq_false]
          · rfl
          · intro g
            have := (hok.2.2.2 g).1
            omega, di', g34, hdi⟩
      · refine am_iconst (v := nI 1) dX4_find_121 rfl (by decide +kernel) ?_
        refine am_goto 126 dX4_find_122 rfl rfl ?_
        exact am_ri dX4_find_126 rfl rfl rfl ⟨hfr, by
          rw [decide_eq_true]
          · rfl
          · rcases Nat.eq_zero_or_pos (bst tp en p p).2 with g | g
            · have := hok.2.2.1 g; omega
            · exact g, di', g34, hdi⟩
    have loop : ∀ (q i Dd : Nat) (x5 : Option am_V) (H : am_H) (di' : Int32), Dd + q = p → i ≤ Dd → am_fr h H [34] → H 34 = some (.inr (4, [am_r 1, am_r 35, am_r 36, .inl (nI en), .inl (nI (bst tp en p Dd).1), .inl di'])) → (0 < (bst tp en p Dd).2 → di' = nI (bst tp en p Dd).2) → am_At l D dA m_X4_find d 0 0 0 0 n0 none (am_qi fun x h' => am_fr h h' [34] ∧ x = am_bz (decide (0 < (bst tp en p p).2)) ∧ ∃ di', h' 34 = some (.inr (4, [am_r 1, am_r 35, am_r 36, .inl (nI en), .inl (nI (bst tp en p p).1), .inl di'])) ∧ (0 < (bst tp en p p).2 → di' = nI (bst tp en p p).2)) 0 0 39 [some (am_r 34), some (.inl (nI p)), some (.inl (nI lim)), some (.inl (prv (chn tp) (chn tp p) (p - Dd))), some (.inl (nI i)), x5] [] H := by
      intro q
      induction q using Nat.strongRecOn with
      | _ q ih =>
      intro i Dd x5 H di' hq hi hfr g34 hdi
      have h36H := (hfr 36 (by simp)).trans ((f1 36 (by simp)).symm.trans h36)
      have hpH := hp.at (h' := H) ((hfr 1 (by simp)).trans (f1 1 (by simp)).symm) ((hfr 2 (by simp)).trans (f1 2 (by simp)).symm)
      have hbd := bst_ok tp en p Dd
      rw [← elim] at hbd
      have hb1 : (bst tp en p Dd).1 < 2 ^ 31 := by
        rcases Nat.eq_zero_or_pos (bst tp en p Dd).2 with g | g
        · rw [hbd.2.2.1 g]; decide
        · have := (hbd.2.2.2 g).2; omega
      have skipAll : (∀ a, a < p - Dd → chn tp a ≠ chn tp p) → bst tp en p p = bst tp en p Dd := fun hs => by
        have := bst_skip (tp := tp) (n := en) (p := p) (D := Dd) (p - Dd) (fun dd a b => by
          by_cases e : dd ≤ p
          · exact hs (p - dd) (by omega)
          · omega)
        rwa [show Dd + (p - Dd) = p by omega] at this
      refine am_iload dX4_find_39 rfl rfl ?_
      refine am_iload_n dX4_find_41 rfl rfl ?_
      refine am_ncmp_ge 113 dX4_find_42 rfl rfl (by omega) (by omega) (fun hip => ?_) (fun hip => ?_)
      · exact fin H _ _ _ Dd di' (skipAll (fun a ha => by omega)) hfr g34 hdi
      · refine am_iload_n dX4_find_45 rfl rfl ?_
        rcases prv_cases (chn tp) (chn tp p) (p - Dd) with ⟨z1, z2⟩ | ⟨a, z1, z2, z3, z4⟩
        · rw [z1]
          refine am_if_lt 113 dX4_find_46 rfl rfl (fun hc => ?_) (fun hc => ?_)
          · exact fin H _ _ _ Dd di' (skipAll z2) hfr g34 hdi
          · exact absurd (by decide +kernel) hc
        · rw [z2]
          refine am_nif_lt 113 dX4_find_46 rfl rfl (by omega) ?_
          refine am_aload_n dX4_find_49 rfl rfl ?_
          refine am_get f_X4_26 dX4_find_50 rfl g34 rfl ?_
          refine am_iload_n dX4_find_53 rfl rfl ?_
          refine am_ncmp_ge 113 dX4_find_54 rfl rfl (by omega) (by omega) (fun hfull => ?_) (fun hfull => ?_)
          · refine fin H _ _ _ Dd di' ?_ hfr g34 hdi
            have := bst_full (tp := tp) (n := en) (p := p) (D := Dd) (by rw [← elim]; exact hfull) (p - Dd)
            rwa [show Dd + (p - Dd) = p by omega] at this
          · refine am_iload_n dX4_find_57 rfl rfl ?_
            refine am_iload_n dX4_find_58 rfl rfl ?_
            refine am_isub dX4_find_59 rfl ?_
            rw [pk_sub (by omega)]
            refine am_sipush (v := nI 8191) dX4_find_60 rfl (by decide +kernel) ?_
            refine am_ncmp_le 69 dX4_find_63 rfl rfl (by omega) (by omega) (fun hc => ?_) (fun hc => ?_)
            · have hsl := smR_le tp lim a p
              refine am_aload_n dX4_find_69 rfl rfl ?_
              refine am_iload_n dX4_find_70 rfl rfl ?_
              refine am_iload_n dX4_find_71 rfl rfl ?_
              refine am_iload_n dX4_find_72 rfl rfl ?_
              refine am_vi (t_X4_sameBytes (d - 1) _ g34 hpH htl (a := a) (b := p) (q := lim) (by omega) (by omega) (by omega)) k_X4_sameBytes l_X4_53 dX4_find_73 rfl rfl rfl rfl g34 (by omega) (Nat.le_refl _) (Nat.le_refl _) (fun x h1 hx => ?_)
              obtain ⟨rfl, hh⟩ := hx
              obtain rfl := hh.symm
              have hstep : bst tp en p (p - a) = if (bst tp en p Dd).1 < smR tp a p lim then (smR tp a p lim, p - a) else bst tp en p Dd := by
                have e0 := bst_skip (tp := tp) (n := en) (p := p) (D := Dd) (p - a - 1 - Dd) (fun dd x y => z4 (p - dd) (by omega) (by omega))
                rw [show Dd + (p - a - 1 - Dd) = p - a - 1 by omega] at e0
                have e1 : p - a = p - a - 1 + 1 := by omega
                rw [e1, bst, e0, ← elim, show p - (p - a - 1 + 1) = a by omega]
              refine am_istore dX4_find_76 rfl rfl ?_
              refine am_iload dX4_find_78 rfl rfl ?_
              refine am_aload_n dX4_find_80 rfl rfl ?_
              refine am_get f_X4_26 dX4_find_81 rfl g34 rfl ?_
              refine am_ncmp_le 100 dX4_find_84 rfl rfl (by omega) (by omega) (fun hc => ?_) (fun hc => ?_)
              · rw [if_neg (by omega)] at hstep
                refine am_aload_n dX4_find_100 rfl rfl ?_
                refine am_get f_X4_19 dX4_find_101 rfl g34 rfl ?_
                refine am_iload_n dX4_find_104 rfl rfl ?_
                refine am_iald dX4_find_105 rfl h36H (by omega) (by omega) ?_
                rw [hea a (by omega), z3]
                refine am_istore_n dX4_find_106 rfl rfl ?_
                refine am_iinc (n := 1) dX4_find_107 rfl rfl (nI_1 i) ?_
                refine am_goto 39 dX4_find_110 rfl rfl ?_
                have := ih (p - (p - a)) (by omega) (i + 1) (p - a) (some (.inl (nI (smR tp a p lim)))) H di' (by omega) (by omega) hfr (by rw [hstep]; exact g34) (by rw [hstep]; exact hdi)
                rw [show p - (p - a) = a by omega] at this
                exact this
              · rw [if_pos hc] at hstep
                refine am_aload_n dX4_find_87 rfl rfl ?_
                refine am_iload dX4_find_88 rfl rfl ?_
                refine am_put f_X4_26 dX4_find_90 rfl g34 (am_fit_i _) rfl ?_
                refine am_aload_n dX4_find_93 rfl rfl ?_
                refine am_iload_n dX4_find_94 rfl rfl ?_
                refine am_iload_n dX4_find_95 rfl rfl ?_
                refine am_isub dX4_find_96 rfl ?_
                rw [pk_sub (by omega)]
                refine am_put f_X4_29 dX4_find_97 rfl am_set_eq (am_fit_i _) rfl ?_
                refine am_aload_n dX4_find_100 rfl rfl ?_
                refine am_get f_X4_19 dX4_find_101 rfl am_set_eq rfl ?_
                refine am_iload_n dX4_find_104 rfl rfl ?_
                refine am_iald dX4_find_105 rfl ((am_set_ne (by omega)).trans ((am_set_ne (by omega)).trans h36H)) (by omega) (by omega) ?_
                rw [hea a (by omega), z3]
                refine am_istore_n dX4_find_106 rfl rfl ?_
                refine am_iinc (n := 1) dX4_find_107 rfl rfl (nI_1 i) ?_
                refine am_goto 39 dX4_find_110 rfl rfl ?_
                have key : ∀ (H9 : am_H), am_fr h H9 [34] → H9 34 = some (.inr (4, [am_r 1, am_r 35, am_r 36, .inl (nI en), .inl (nI (smR tp a p lim)), .inl (nI (p - a))])) → am_At l D dA m_X4_find d 0 0 0 0 n0 none (am_qi fun x h' => am_fr h h' [34] ∧ x = am_bz (decide (0 < (bst tp en p p).2)) ∧ ∃ di', h' 34 = some (.inr (4, [am_r 1, am_r 35, am_r 36, .inl (nI en), .inl (nI (bst tp en p p).1), .inl di'])) ∧ (0 < (bst tp en p p).2 → di' = nI (bst tp en p p).2)) 0 0 39 [some (am_r 34), some (.inl (nI p)), some (.inl (nI lim)), some (.inl (prv (chn tp) (chn tp p) a)), some (.inl (nI (i + 1))), some (.inl (nI (smR tp a p lim)))] [] H9 := by
                  intro H9 f9 g9
                  have := ih (p - (p - a)) (by omega) (i + 1) (p - a) (some (.inl (nI (smR tp a p lim)))) H9 (nI (p - a)) (by omega) (by omega) f9 (by rw [hstep]; exact g9) (by rw [hstep]; exact fun _ => rfl)
                  rw [show p - (p - a) = a by omega] at this
                  exact this
                exact key _ ((hfr.set (by simp)).set (by simp)) am_set_eq
            · omega
    have := loop p 0 0 none h1 di (by omega) (by omega) f1 g1 (fun g => absurd g (Nat.lt_irrefl 0))
    exact this
  · have hz : bst tp en p p = (2, 0) := by
      rcases Nat.eq_zero_or_pos (bst tp en p p).2 with g | g
      · exact Prod.ext (hok.2.2.1 g) g
      · have := hok.2.2.2 g; omega
    refine am_iconst (v := nI 0) dX4_find_27 rfl (by decide +kernel) ?_
    exact am_ri dX4_find_28 rfl rfl rfl (by rw [hz]; exact ⟨f1, rfl, di, g1, fun g => absurd g (Nat.lt_irrefl 0)⟩)
set_option maxHeartbeats 4000000 in
set_option maxRecDepth 100000 in
theorem t_X4_foundLength (d n0 : Nat) {h : am_H} {en ln di : Int32} (hf : h 34 = some (.inr (4, [am_r 1, am_r 35, am_r 36, .inl en, .inl ln, .inl di]))) : am_Ct l D dA m_X4_foundLength d 0 0 n0 [am_r 34] h (am_qi fun x h' => x = ln ∧ h' = h) := by
  refine am_Ci (by decide +kernel) rfl rfl ?_
  refine am_aload_n dX4_foundLength_0 rfl rfl ?_
  refine am_get f_X4_26 dX4_foundLength_1 rfl hf rfl ?_
  exact am_ri dX4_foundLength_4 rfl rfl rfl ⟨rfl, rfl⟩
set_option maxHeartbeats 4000000 in
set_option maxRecDepth 100000 in
theorem t_X4_foundDistance (d n0 : Nat) {h : am_H} {en ln di : Int32} (hf : h 34 = some (.inr (4, [am_r 1, am_r 35, am_r 36, .inl en, .inl ln, .inl di]))) : am_Ct l D dA m_X4_foundDistance d 0 0 n0 [am_r 34] h (am_qi fun x h' => x = di ∧ h' = h) := by
  refine am_Ci (by decide +kernel) rfl rfl ?_
  refine am_aload_n dX4_foundDistance_0 rfl rfl ?_
  refine am_get f_X4_29 dX4_foundDistance_1 rfl hf rfl ?_
  exact am_ri dX4_foundDistance_4 rfl rfl rfl ⟨rfl, rfl⟩
end FIND

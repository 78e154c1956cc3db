/-! ===== BitSink ===== -/
section SINK
variable {l : Launch} {D : va_G} {dA : Bool → ClassId}
abbrev skO (g : Nat) : am_E := .inr (1, [am_r 3, .inl (nI g)])
theorem am_dec1 (x : Int32) : x + Int32.ofInt (-1) = x - nI 1 := by rw [Int32.sub_eq_add_neg, show -nI 1 = Int32.ofInt (-1) by decide +kernel]
/-- bits mixed into the last byte -/
def orl (bs : List Int32) (x : Int32) : List Int32 := bs.set (bs.length - 1) (bs.getD (bs.length - 1) 0 ||| x)
theorem orl_len (bs : List Int32) (x : Int32) : (orl bs x).length = bs.length := by simp [orl]
/-- a bit behind what is given -/
def gv1 (s : List Int32 × Nat) (b : Nat) : List Int32 × Nat := (orl (if s.2 % 8 = 0 then s.1 ++ [nI 0] else s.1) (nI (b * 2 ^ (7 - s.2 % 8))), s.2 + 1)
/-- a number of b bits behind what is given -/
def gvR (v : Nat) : Nat → List Int32 × Nat → List Int32 × Nat
  | 0, s => s
  | b + 1, s => gvR v b (gv1 s (v / 2 ^ b % 2))
theorem gvR_2 (v : Nat) : ∀ (b : Nat) (s : List Int32 × Nat), (gvR v b s).2 = s.2 + b
  | 0, _ => rfl
  | b + 1, s => by
    show (gvR v b (gv1 s _)).2 = _
    rw [gvR_2 v b]
    show s.2 + 1 + b = _
    omega
/-- the sink's world: s the bytes and how many bits are given -/
def snk (h : am_H) (s : List Int32 × Nat) : Prop := h 33 = some (skO s.2) ∧ rws h 3 4 12000 s.1 ∧ s.1.length = (s.2 + 7) / 8
theorem snk.at {h h' : am_H} {s : List Int32 × Nat} (a : snk h s) (e1 : h' 33 = h 33) (e2 : h' 3 = h 3) (e3 : h' 4 = h 4) : snk h' s := ⟨e1.trans a.1, a.2.1.at e2 e3, a.2.2⟩
theorem t_mix (d n0 : Nat) {h : am_H} {r a n : Nat} {bs : List Int32} (w : rws h r a n bs) (hra : a ≠ r) (hn : n < 2 ^ 20) (hl : bs.length ≤ n) (h0 : 0 < bs.length) (v : Int32) : am_Ct l D dA m_X3_mixIntoLast d 0 0 n0 [am_r r, .inl v] h (am_qv fun h' => am_fr h h' [r, a] ∧ rws h' r a n (orl bs v)) := by
  obtain ⟨g, a1, a2, a3⟩ := w
  refine (t_X3_mixIntoLast d n0 a1 a2 hra (by omega) hl h0 v).mono (fun q h' hq => ⟨hq.1, ?_⟩)
  have e := hq.2
  refine ⟨by rw [e]; exact am_fr.rf.set (by simp), upd g (bs.length - 1) (g (bs.length - 1) ||| v), ?_, ?_, ?_⟩
  · rw [e, am_set_ne hra.symm, orl_len]; exact a1
  · rw [e, am_set_eq]
  · intro i x hi
    unfold orl at hi
    by_cases c : i = bs.length - 1
    · subst c
      rw [List.getElem?_set_self (by omega)] at hi
      cases hi
      rw [upd_eq, a3 (bs.length - 1) (bs[bs.length - 1]) (List.getElem?_eq_getElem (by omega)), List.getD_eq_getElem?_getD, List.getElem?_eq_getElem (by omega)]
      rfl
    · rw [List.getElem?_set_ne (fun q => c q.symm)] at hi
      rw [upd_ne c]
      exact a3 i x hi
set_option maxHeartbeats 4000000 in
set_option maxRecDepth 100000 in
theorem t_X1_open (d n0 : Nat) {h : am_H} {g : Int32} (hs : h 33 = some (.inr (1, [am_r 3, .inl g]))) {bs : List Int32} (hp : rws h 3 4 12000 bs) (hd : 1 ≤ d) : am_Ct l D dA m_X1_open d 0 0 n0 [am_r 33] h (am_qv fun h' => am_fr h h' [3, 33] ∧ snk h' ([], 0)) := by
  refine am_Cv (by decide +kernel) rfl rfl ?_
  have p3 := hp.choose_spec.1
  refine am_aload_n dX1_open_0 rfl rfl ?_
  refine am_get f_X1_9 dX1_open_1 rfl hs rfl ?_
  refine am_vv (t_empty (d - 1) _ hp (by decide)) k_X3_empty l_X1_19 dX1_open_4 rfl rfl rfl rfl p3 (by omega) (Nat.le_refl _) (Nat.le_refl _) (fun h1 hx => ?_)
  obtain ⟨f1, w1⟩ := hx
  have hs1 := (f1 33 (by simp)).trans hs
  refine am_aload_n dX1_open_7 rfl rfl ?_
  refine am_iconst (v := nI 0) dX1_open_8 rfl (by decide +kernel) ?_
  refine am_put f_X1_15 dX1_open_9 rfl hs1 (am_fit_i _) rfl ?_
  exact am_rv dX1_open_12 rfl rfl rfl ⟨(am_fr.rf.tr f1 (by simp)).set (by simp), am_set_eq, w1.at (am_set_ne (by decide)) (am_set_ne (by decide)), rfl⟩
set_option maxHeartbeats 4000000 in
set_option maxRecDepth 100000 in
theorem t_X1_given (d n0 : Nat) {h : am_H} {s : List Int32 × Nat} (hk : snk h s) : am_Ct l D dA m_X1_given d 0 0 n0 [am_r 33] h (am_qi fun x h' => x = nI s.2 ∧ h' = h) := by
  refine am_Ci (by decide +kernel) rfl rfl ?_
  refine am_aload_n dX1_given_0 rfl rfl ?_
  refine am_get f_X1_15 dX1_given_1 rfl hk.1 rfl ?_
  exact am_ri dX1_given_4 rfl rfl rfl ⟨rfl, rfl⟩
set_option maxHeartbeats 4000000 in
set_option maxRecDepth 100000 in
theorem t_X1_give (d n0 : Nat) {h : am_H} {s : List Int32 × Nat} (hk : snk h s) {v b : Nat} (hv : v < 2 ^ 31) (hb : b ≤ 16) (hg : s.2 + b ≤ 96000) (hd : 1 ≤ d) : am_Ct l D dA m_X1_give d 0 0 n0 [am_r 33, .inl (nI v), .inl (nI b)] h (am_qv fun h' => am_fr h h' [3, 4, 33] ∧ snk h' (gvR v b s)) := by
  refine am_Cv (by decide +kernel) rfl rfl ?_
  refine am_iload_n dX1_give_0 rfl rfl ?_
  refine am_iconst (v := nI 1) dX1_give_1 rfl (by decide +kernel) ?_
  refine am_isub dX1_give_2 rfl ?_
  refine am_istore_n dX1_give_3 rfl rfl ?_
  have loop : ∀ (q : Nat) (s' : List Int32 × Nat) (H : am_H), gvR v q s' = gvR v b s → q ≤ 16 → s'.2 + q ≤ 96000 → am_fr h H [3, 4, 33] → snk H s' → am_At l D dA m_X1_give d 0 0 0 0 n0 none (am_qv fun h' => am_fr h h' [3, 4, 33] ∧ snk h' (gvR v b s)) 0 0 4 [some (am_r 33), some (.inl (nI v)), some (.inl (nI b)), some (.inl (nI q - nI 1))] [] H := by
    intro q
    induction q with
    | zero =>
      intro s' H hR hq hg hfr hk
      refine am_iload_n dX1_give_4 rfl rfl ?_
      refine am_if_lt 65 dX1_give_5 rfl rfl (fun hc => ?_) (fun hc => ?_)
      · exact am_rv dX1_give_65 rfl rfl rfl ⟨hfr, by rw [← hR]; exact hk⟩
      · exact absurd (by decide +kernel) hc
    | succ q ih =>
      intro s' H hR hq hg hfr hk
      have hgm : s'.2 % 8 < 8 := Nat.mod_lt _ (by decide)
      have hp7 : 2 ^ (7 - s'.2 % 8) ≤ 2 ^ 7 := Nat.pow_le_pow_right (by omega) (by omega)
      rw [show nI (q + 1) - nI 1 = nI q from pk_sub (by omega)]
      refine am_iload_n dX1_give_4 rfl rfl ?_
      refine am_nif_lt 65 dX1_give_5 rfl rfl (by omega) ?_
      refine am_aload_n dX1_give_8 rfl rfl ?_
      refine am_get f_X1_15 dX1_give_9 rfl hk.1 rfl ?_
      refine am_bipush (v := nI 7) dX1_give_12 rfl (by decide +kernel) ?_
      refine am_iand dX1_give_14 rfl ?_
      rw [pk_andN (by omega) (m := nI 7) 3 (by decide +kernel), show (2 : Nat) ^ 3 = 8 from rfl]
      have rest : ∀ (H1 : am_H) (bs1 : List Int32), bs1 = (if s'.2 % 8 = 0 then s'.1 ++ [nI 0] else s'.1) → am_fr h H1 [3, 4, 33] → H1 33 = some (skO s'.2) → rws H1 3 4 12000 bs1 → am_At l D dA m_X1_give d 0 0 0 0 n0 none (am_qv fun h' => am_fr h h' [3, 4, 33] ∧ snk h' (gvR v b s)) 0 0 26 [some (am_r 33), some (.inl (nI v)), some (.inl (nI b)), some (.inl (nI q))] [] H1 := by
        intro H1 bs1 eb hf1 g33 w1
        have hl := hk.2.2
        have hbl : bs1.length = (s'.2 + 1 + 7) / 8 := by
          rw [eb]
          split
          · rw [List.length_append, hl]
            show _ + 1 = _
            omega
          · rw [hl]; omega
        have p3 := w1.choose_spec.1
        refine am_aload_n dX1_give_26 rfl rfl ?_
        refine am_get f_X1_9 dX1_give_27 rfl g33 rfl ?_
        refine am_iload_n dX1_give_30 rfl rfl ?_
        refine am_iload_n dX1_give_31 rfl rfl ?_
        refine am_ishr dX1_give_32 rfl ?_
        rw [am_m31 (by omega), pk_shrN hv (nI q) q (am_smod (by omega))]
        refine am_iconst (v := nI 1) dX1_give_33 rfl (by decide +kernel) ?_
        refine am_iand dX1_give_34 rfl ?_
        rw [pk_andN (Nat.lt_of_le_of_lt (Nat.div_le_self v (2 ^ q)) (by omega)) (m := nI 1) 1 (by decide +kernel), show (2 : Nat) ^ 1 = 2 from rfl]
        have hb2 : v / 2 ^ q % 2 < 2 := Nat.mod_lt _ (by decide)
        refine am_bipush (v := nI 7) dX1_give_35 rfl (by decide +kernel) ?_
        refine am_aload_n dX1_give_37 rfl rfl ?_
        refine am_get f_X1_15 dX1_give_38 rfl g33 rfl ?_
        refine am_bipush (v := nI 7) dX1_give_41 rfl (by decide +kernel) ?_
        refine am_iand dX1_give_43 rfl ?_
        rw [pk_andN (by omega) (m := nI 7) 3 (by decide +kernel), show (2 : Nat) ^ 3 = 8 from rfl]
        refine am_isub dX1_give_44 rfl ?_
        rw [pk_sub (by omega)]
        refine am_ishl dX1_give_45 rfl ?_
        have hbs : v / 2 ^ q % 2 * 2 ^ (7 - s'.2 % 8) < 2 ^ 32 := by
          have : v / 2 ^ q % 2 * 2 ^ (7 - s'.2 % 8) ≤ 1 * 2 ^ 7 := Nat.mul_le_mul (by omega) hp7
          omega
        rw [am_m31 (by omega), pk_shlN (nI (7 - s'.2 % 8)) (7 - s'.2 % 8) (am_smod (by omega)) hbs]
        refine am_vv (t_mix (d - 1) _ w1 (by decide) (by decide) (by omega) (by omega) _) k_X3_mixIntoLast l_X1_28 dX1_give_46 rfl rfl rfl rfl p3 (by omega) (Nat.le_refl _) (Nat.le_refl _) (fun h2 hx => ?_)
        obtain ⟨f2, w2⟩ := hx
        have g2 := (f2 33 (by simp)).trans g33
        refine am_aload_n dX1_give_49 rfl rfl ?_
        refine am_dup dX1_give_50 rfl ?_
        refine am_get f_X1_15 dX1_give_51 rfl g2 rfl ?_
        refine am_iconst (v := nI 1) dX1_give_54 rfl (by decide +kernel) ?_
        refine am_iadd dX1_give_55 rfl ?_
        rw [nI_add]
        refine am_put f_X1_15 dX1_give_56 rfl g2 (am_fit_i _) rfl ?_
        refine am_iinc (n := (-1)) dX1_give_59 rfl rfl (am_dec1 (nI q)) ?_
        refine am_goto 4 dX1_give_62 rfl rfl ?_
        exact ih (gv1 s' (v / 2 ^ q % 2)) _ hR (by omega) (by show s'.2 + 1 + q ≤ _; omega) (((hf1.tr f2 (by simp))).set (by simp)) ⟨am_set_eq, by
          show rws _ 3 4 12000 (orl _ _)
          rw [← eb]
          exact w2.at (am_set_ne (by decide)) (am_set_ne (by decide)), by
          show (orl _ _).length = (s'.2 + 1 + 7) / 8
          rw [orl_len, ← eb]
          exact hbl⟩
      refine am_nif_ne 26 dX1_give_15 rfl rfl (by omega) (fun hc => ?_) (fun hc => ?_)
      · exact rest H s'.1 (by rw [if_neg (by omega)]) hfr hk.1 hk.2.1
      · have hl := hk.2.2
        refine am_aload_n dX1_give_18 rfl rfl ?_
        refine am_get f_X1_9 dX1_give_19 rfl hk.1 rfl ?_
        refine am_iconst (v := nI 0) dX1_give_22 rfl (by decide +kernel) ?_
        refine am_vv (t_add (d - 1) _ hk.2.1 (by decide) (by decide) (by omega) (nI 0)) k_X3_add l_X1_24 dX1_give_23 rfl rfl rfl rfl hk.2.1.choose_spec.1 (by omega) (Nat.le_refl _) (Nat.le_refl _) (fun h1 hx => ?_)
        obtain ⟨f1, w1⟩ := hx
        exact rest h1 _ (by rw [if_pos hc]) (hfr.tr f1 (by simp)) ((f1 33 (by simp)).trans hk.1) w1
  exact loop b s h rfl hb hg am_fr.rf hk
/-- a symbol's code -/
def cdN (len : Nat → Nat) (m y : Nat) : Nat := frst len m (len y) + cnt len (len y) y
def gsR (len : Nat → Nat) (m : Nat) (al : Int32) (y : Nat) (s : List Int32 × Nat) : List Int32 × Nat := if al = -1 then gvR (cdN len m y) (len y) s else s
/-- a tree is fit to be written by -/
def wdy (h : am_H) (t m : Nat) (al : Int32) (len : Nat → Nat) : Prop := h t = some (trO t al) ∧ lnA h (t + 1) m len ∧ (al = -1 → stl h t m len ∧ krf len m = 65536)
theorem wdy.at {h h' : am_H} {t m : Nat} {al : Int32} {len : Nat → Nat} (a : wdy h t m al len) (e : ∀ j, t ≤ j → j ≤ t + 7 → h' j = h j) : wdy h' t m al len := ⟨(e _ (by omega) (by omega)).trans a.1, a.2.1.at (e _ (by omega) (by omega)), fun g => ⟨(a.2.2 g).1.keep (fun j x y => e j (by omega) (by omega)), (a.2.2 g).2⟩⟩
theorem frst_lt {len : Nat → Nat} {m n : Nat} (h : ∀ s, s < m → len s ≤ 16) (hk : krf len m = 65536) (h1 : 1 ≤ n) (hn : n ≤ 16) : frst len m n + cnt len n m ≤ 65536 := by
  have h2 := smk_le_krf len m h (n + 1) (by omega)
  have h3 : smk len m (n + 1) = smk len m n + cnt len n m * 2 ^ (16 - n) := by show _ + _ = _; rw [if_neg (by omega)]
  rw [smk_frst len m n hn, ← Nat.add_mul] at h3
  have : (frst len m n + cnt len n m) * 1 ≤ (frst len m n + cnt len n m) * 2 ^ (16 - n) := Nat.mul_le_mul_left _ (Nat.pow_pos (by omega))
  omega
set_option maxHeartbeats 4000000 in
set_option maxRecDepth 100000 in
theorem t_X1_giveSymbol (d n0 : Nat) {h : am_H} {s : List Int32 × Nat} (hk : snk h s) {t m y : Nat} {al : Int32} {len : Nat → Nat} (hw : wdy h t m al len) (hm : m ≤ 510) (hy : y < m) (hl0 : al = -1 → 0 < len y) (hg : s.2 + len y ≤ 96000) (hd : 2 ≤ d) : am_Ct l D dA m_X1_giveSymbol d 0 0 n0 [am_r 33, am_r t, .inl (nI y)] h (am_qv fun h' => am_fr h h' [3, 4, 33] ∧ snk h' (gsR len m al y s)) := by
  refine am_Cv (by decide +kernel) rfl rfl ?_
  obtain ⟨ht, ⟨lf, h1, h2⟩, hst⟩ := hw
  refine am_aload_n dX1_giveSymbol_0 rfl rfl ?_
  refine am_vi (t_X7_isAlone (d - 1) _ ht) k_X7_isAlone l_X1_31 dX1_giveSymbol_1 rfl rfl rfl rfl ht (by omega) (Nat.le_refl _) (Nat.le_refl _) (fun x h1 hx => ?_)
  obtain ⟨rfl, hh⟩ := hx
  obtain rfl := hh.symm
  refine am_bif_ne 21 dX1_giveSymbol_4 rfl rfl (fun hc => ?_) (fun hc => ?_)
  · have hal : al ≠ -1 := by simpa using hc
    exact am_rv dX1_giveSymbol_21 rfl rfl rfl ⟨am_fr.rf, by unfold gsR; rw [if_neg hal]; exact hk⟩
  · have hal : al = -1 := by simpa using hc
    obtain ⟨⟨cf, orf, ct, fc, fp, c2, c4, c5, c6, c7, hT, hO⟩, hkr⟩ := hst hal
    have hl := hl0 hal
    have hl16 := (h2 y hy).2
    have e1 := (hO y hy (by omega)).1
    have e2 := frst_lt (n := len y) (fun s hs => (h2 s hs).2) hkr (by omega) hl16
    have e3 := cnt_lt hy (rfl : len y = len y)
    refine am_aload_n dX1_giveSymbol_7 rfl rfl ?_
    refine am_aload_n dX1_giveSymbol_8 rfl rfl ?_
    refine am_iload_n dX1_giveSymbol_9 rfl rfl ?_
    refine am_vi (t_X7_codeOf (d - 1) _ ht h1 (by omega) c2 (by omega) (nI y)) k_X7_codeOf l_X1_37 dX1_giveSymbol_10 rfl rfl rfl rfl ht (by omega) (Nat.le_refl _) (Nat.le_refl _) (fun x h1 hx => ?_)
    obtain ⟨rfl, hh⟩ := hx
    obtain rfl := hh.symm
    rw [ix_in hy (by omega)]
    dsimp only
    rw [e1]
    refine am_aload_n dX1_giveSymbol_13 rfl rfl ?_
    refine am_iload_n dX1_giveSymbol_14 rfl rfl ?_
    refine am_vi (t_X7_lengthOf (d - 1) _ ht h1 (by omega) (by omega) (nI y)) k_X7_lengthOf l_X1_41 dX1_giveSymbol_15 rfl rfl rfl rfl ht (by omega) (Nat.le_refl _) (Nat.le_refl _) (fun x h1 hx => ?_)
    obtain ⟨rfl, hh⟩ := hx
    obtain rfl := hh.symm
    rw [ix_in hy (by omega)]
    dsimp only
    rw [(h2 y hy).1]
    refine am_vv (t_X1_give (d - 1) _ hk (v := frst len m (len y) + cnt len (len y) y) (by omega) hl16 hg (by omega)) k_X1_give l_X1_44 dX1_giveSymbol_18 rfl rfl rfl rfl hk.1 (by omega) (Nat.le_refl _) (Nat.le_refl _) (fun h3 hx => ?_)
    exact am_rv dX1_giveSymbol_21 rfl rfl rfl ⟨hx.1, by unfold gsR; rw [if_pos hal]; exact hx.2⟩
def onR : Nat → List Int32 × Nat → List Int32 × Nat
  | 0, s => s
  | q + 1, s => onR q (gvR 1 1 s)
theorem onR_2 : ∀ (q : Nat) (s : List Int32 × Nat), (onR q s).2 = s.2 + q
  | 0, _ => rfl
  | q + 1, s => by
    show (onR q _).2 = _
    rw [onR_2 q, gvR_2]
    omega
def glR (v : Nat) (s : List Int32 × Nat) : List Int32 × Nat := if v < 7 then gvR v 3 s else gvR 0 1 (onR (v - 7) (gvR 7 3 s))
theorem glR_2 (v : Nat) (s : List Int32 × Nat) : (glR v s).2 = s.2 + (if v < 7 then 3 else v - 3) := by
  unfold glR
  split
  · rw [gvR_2]
  · rw [gvR_2, onR_2, gvR_2]
    omega
set_option maxHeartbeats 4000000 in
set_option maxRecDepth 100000 in
theorem t_X1_giveLength (d n0 : Nat) {h : am_H} {s : List Int32 × Nat} (hk : snk h s) {v : Nat} (hv : v ≤ 16) (hg : s.2 + 13 ≤ 96000) (hd : 2 ≤ d) : am_Ct l D dA m_X1_giveLength d 0 0 n0 [am_r 33, .inl (nI v)] h (am_qv fun h' => am_fr h h' [3, 4, 33] ∧ snk h' (glR v s)) := by
  refine am_Cv (by decide +kernel) rfl rfl ?_
  refine am_aload_n dX1_giveLength_0 rfl rfl ?_
  refine am_iload_n dX1_giveLength_1 rfl rfl ?_
  refine am_bipush (v := nI 7) dX1_giveLength_2 rfl (by decide +kernel) ?_
  refine am_min l_X1_48 wd_mins wd_mini wd_minc dX1_giveLength_4 rfl (Nat.le_of_ble_eq_true rfl) (by omega) (Nat.le_refl _) (Nat.le_refl _) ?_
  by_cases hv7 : v < 7
  · rw [if_neg (nI_nlt (by omega) (by omega))]
    refine am_iconst (v := nI 3) dX1_giveLength_7 rfl (by decide +kernel) ?_
    refine am_vv (t_X1_give (d - 1) _ hk (v := v) (b := 3) (by omega) (by omega) (by omega) (by omega)) k_X1_give l_X1_44 dX1_giveLength_8 rfl rfl rfl rfl hk.1 (by omega) (Nat.le_refl _) (Nat.le_refl _) (fun h1 hx => ?_)
    obtain ⟨f1, k1⟩ := hx
    refine am_iload_n dX1_giveLength_11 rfl rfl ?_
    refine am_bipush (v := nI 7) dX1_giveLength_12 rfl (by decide +kernel) ?_
    refine am_ncmp_lt 43 dX1_giveLength_14 rfl rfl (by omega) (by omega) (fun hc => ?_) (fun hc => ?_)
    · exact am_rv dX1_giveLength_43 rfl rfl rfl ⟨f1, by unfold glR; rw [if_pos hv7]; exact k1⟩
    · omega
  · rw [show (if nI 7 < nI v then nI 7 else nI v) = nI 7 by
      by_cases g : 7 < v
      · rw [if_pos (nI_lt g (by omega))]
      · rw [if_neg (nI_nlt (by omega) (by omega)), show v = 7 by omega]]
    refine am_iconst (v := nI 3) dX1_giveLength_7 rfl (by decide +kernel) ?_
    refine am_vv (t_X1_give (d - 1) _ hk (v := 7) (b := 3) (by omega) (by omega) (by omega) (by omega)) k_X1_give l_X1_44 dX1_giveLength_8 rfl rfl rfl rfl hk.1 (by omega) (Nat.le_refl _) (Nat.le_refl _) (fun h1 hx => ?_)
    obtain ⟨f1, k1⟩ := hx
    refine am_iload_n dX1_giveLength_11 rfl rfl ?_
    refine am_bipush (v := nI 7) dX1_giveLength_12 rfl (by decide +kernel) ?_
    refine am_ncmp_lt 43 dX1_giveLength_14 rfl rfl (by omega) (by omega) (fun hc => ?_) (fun hc => ?_)
    · omega
    · refine am_bipush (v := nI 7) dX1_giveLength_17 rfl (by decide +kernel) ?_
      refine am_istore_n dX1_giveLength_19 rfl rfl ?_
      have loop : ∀ (q i : Nat) (s' : List Int32 × Nat) (H : am_H), onR q s' = onR (v - 7) (gvR 7 3 s) → i + q = v → 7 ≤ i → s'.2 = s.2 + 3 + (i - 7) → am_fr h H [3, 4, 33] → snk H s' → am_At l D dA m_X1_giveLength d 0 0 0 0 n0 none (am_qv fun h' => am_fr h h' [3, 4, 33] ∧ snk h' (glR v s)) 0 0 20 [some (am_r 33), some (.inl (nI v)), some (.inl (nI i))] [] H := by
        intro q
        induction q with
        | zero =>
          intro i s' H hR hq hi hs hfr hk
          have hR : s' = _ := hR
          refine am_iload_n dX1_giveLength_20 rfl rfl ?_
          refine am_iload_n dX1_giveLength_21 rfl rfl ?_
          refine am_ncmp_ge 37 dX1_giveLength_22 rfl rfl (by omega) (by omega) (fun hc => ?_) (fun hc => ?_)
          · refine am_aload_n dX1_giveLength_37 rfl rfl ?_
            refine am_iconst (v := nI 0) dX1_giveLength_38 rfl (by decide +kernel) ?_
            refine am_iconst (v := nI 1) dX1_giveLength_39 rfl (by decide +kernel) ?_
            refine am_vv (t_X1_give (d - 1) _ hk (v := 0) (b := 1) (by omega) (by omega) (by omega) (by omega)) k_X1_give l_X1_44 dX1_giveLength_40 rfl rfl rfl rfl hk.1 (by omega) (Nat.le_refl _) (Nat.le_refl _) (fun h2 hx => ?_)
            exact am_rv dX1_giveLength_43 rfl rfl rfl ⟨hfr.tr hx.1 (by simp), by unfold glR; rw [if_neg hv7, ← hR]; exact hx.2⟩
          · omega
        | succ q ih =>
          intro i s' H hR hq hi hs hfr hk
          refine am_iload_n dX1_giveLength_20 rfl rfl ?_
          refine am_iload_n dX1_giveLength_21 rfl rfl ?_
          refine am_ncmp_ge 37 dX1_giveLength_22 rfl rfl (by omega) (by omega) (fun hc => ?_) (fun hc => ?_)
          · omega
          · refine am_aload_n dX1_giveLength_25 rfl rfl ?_
            refine am_iconst (v := nI 1) dX1_giveLength_26 rfl (by decide +kernel) ?_
            refine am_iconst (v := nI 1) dX1_giveLength_27 rfl (by decide +kernel) ?_
            refine am_vv (t_X1_give (d - 1) _ hk (v := 1) (b := 1) (by omega) (by omega) (by omega) (by omega)) k_X1_give l_X1_44 dX1_giveLength_28 rfl rfl rfl rfl hk.1 (by omega) (Nat.le_refl _) (Nat.le_refl _) (fun h2 hx => ?_)
            obtain ⟨f2, k2⟩ := hx
            refine am_iinc (n := 1) dX1_giveLength_31 rfl rfl (nI_1 i) ?_
            refine am_goto 20 dX1_giveLength_34 rfl rfl ?_
            exact ih (i + 1) _ h2 hR (by omega) (by omega) (by rw [gvR_2]; omega) (hfr.tr f2 (by simp)) k2
      exact loop (v - 7) 7 _ h1 rfl (by omega) (by omega) (by rw [gvR_2]) f1 k1
set_option maxHeartbeats 4000000 in
set_option maxRecDepth 100000 in
theorem t_X1_giveAlone (d n0 : Nat) {h : am_H} {s : List Int32 × Nat} (hk : snk h s) {y b : Nat} (hy : y < 2 ^ 20) (hb : b ≤ 16) (hg : s.2 + 2 * b ≤ 96000) (hd : 2 ≤ d) : am_Ct l D dA m_X1_giveAlone d 0 0 n0 [am_r 33, .inl (nI y), .inl (nI b)] h (am_qv fun h' => am_fr h h' [3, 4, 33] ∧ snk h' (gvR y b (gvR 0 b s))) := by
  refine am_Cv (by decide +kernel) rfl rfl ?_
  refine am_aload_n dX1_giveAlone_0 rfl rfl ?_
  refine am_iconst (v := nI 0) dX1_giveAlone_1 rfl (by decide +kernel) ?_
  refine am_iload_n dX1_giveAlone_2 rfl rfl ?_
  refine am_vv (t_X1_give (d - 1) _ hk (v := 0) (b := b) (by omega) hb (by omega) (by omega)) k_X1_give l_X1_44 dX1_giveAlone_3 rfl rfl rfl rfl hk.1 (by omega) (Nat.le_refl _) (Nat.le_refl _) (fun h1 hx => ?_)
  obtain ⟨f1, k1⟩ := hx
  refine am_aload_n dX1_giveAlone_6 rfl rfl ?_
  refine am_iload_n dX1_giveAlone_7 rfl rfl ?_
  refine am_iload_n dX1_giveAlone_8 rfl rfl ?_
  refine am_vv (t_X1_give (d - 1) _ k1 (v := y) (b := b) (by omega) hb (by rw [gvR_2]; omega) (by omega)) k_X1_give l_X1_44 dX1_giveAlone_9 rfl rfl rfl rfl k1.1 (by omega) (Nat.le_refl _) (Nat.le_refl _) (fun h2 hx => ?_)
  exact am_rv dX1_giveAlone_12 rfl rfl rfl ⟨f1.tr hx.1 (by simp), hx.2⟩
end SINK

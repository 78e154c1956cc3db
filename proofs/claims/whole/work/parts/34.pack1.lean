/-! ===== Packer: codes ===== -/
section PACK1
variable {l : Launch} {D : va_G} {dA : Bool → ClassId}
/-- the symbol of P that a distance has -/
def rkA (dd : Nat) : Nat → Nat → Nat
  | 0, _ => 13
  | q + 1, y => if dd ≤ 2 ^ y then y else rkA dd q (y + 1)
def rk (dd : Nat) : Nat := rkA dd 14 0
theorem rkA_lt (dd : Nat) : ∀ (q y : Nat), y + q = 14 → rkA dd q y < 14
  | 0, _, _ => by show 13 < 14; omega
  | q + 1, y, h => by
    unfold rkA
    split
    · omega
    · exact rkA_lt dd q (y + 1) (by omega)
theorem rk_lt (dd : Nat) : rk dd < 14 := rkA_lt dd 14 0 (by omega)
theorem rkA_spec (dd : Nat) : ∀ (q y : Nat), y + q = 14 → (0 < y → 2 ^ (y - 1) < dd) → dd ≤ 8192 → dd ≤ 2 ^ rkA dd q y ∧ (0 < rkA dd q y → 2 ^ (rkA dd q y - 1) < dd)
  | 0, y, h, h1, h2 => by
    have : y = 14 := by omega
    subst this
    have := h1 (by omega)
    exact ⟨h2, fun _ => by show 2 ^ 12 < dd; omega⟩
  | q + 1, y, h, h1, h2 => by
    unfold rkA
    by_cases g : dd ≤ 2 ^ y
    · rw [if_pos g]; exact ⟨g, h1⟩
    · rw [if_neg g]
      exact rkA_spec dd q (y + 1) (by omega) (fun _ => by rw [Nat.add_sub_cancel]; omega) h2
theorem rk_spec {dd : Nat} (h : dd ≤ 8192) : dd ≤ 2 ^ rk dd ∧ (0 < rk dd → 2 ^ (rk dd - 1) < dd) := rkA_spec dd 14 0 (by omega) (fun g => absurd g (Nat.lt_irrefl 0)) h
/-- how often a symbol is among codes -/
def cno : List Nat → Nat → Nat
  | [], _ => 0
  | x :: l, y => (if x = y then 1 else 0) + cno l y
theorem cno_snoc (x y : Nat) : ∀ l, cno (l ++ [x]) y = cno l y + (if x = y then 1 else 0)
  | [] => by show (if x = y then 1 else 0) + 0 = 0 + _; omega
  | z :: l => by
    show _ + cno (l ++ [x]) y = _ + cno l y + _
    rw [cno_snoc x y l]
    omega
theorem cno_upd (l : List Nat) (x : Nat) : cno (l ++ [x]) = updN (cno l) x (cno l x + 1) := by
  funext y
  rw [cno_snoc]
  by_cases e : y = x
  · subst e; rw [updN_eq, if_pos rfl]
  · rw [updN_ne e, if_neg (fun z => e z.symm)]; rfl
/-- the code at a place: symbol, distance (0: none); how far it goes -/
def tn (tp : List Int32) (p : Nat) : Nat := (tb tp p).toBitVec.toNat
def cdA (tp : List Int32) (n p : Nat) : Nat × Nat := if 0 < (bst tp n p p).2 then ((bst tp n p p).1 + 253, (bst tp n p p).2) else (tn tp p, 0)
def stA (tp : List Int32) (n p : Nat) : Nat := if 0 < (bst tp n p p).2 then (bst tp n p p).1 else 1
/-- i codes from a place on, and the place behind them -/
def gtS (tp : List Int32) (n p0 : Nat) : Nat → List (Nat × Nat) × Nat
  | 0 => ([], p0)
  | i + 1 => if n ≤ (gtS tp n p0 i).2 then gtS tp n p0 i else ((gtS tp n p0 i).1 ++ [cdA tp n (gtS tp n p0 i).2], (gtS tp n p0 i).2 + stA tp n (gtS tp n p0 i).2)
/-- the copies' symbols of P -/
def pds (l : List (Nat × Nat)) : List Nat := (l.filter (fun x => decide (0 < x.2))).map (fun x => rk x.2)
/-- bytes -/
def byt (tp : List Int32) : Prop := ∀ v ∈ tp, ∃ b, b < 256 ∧ v = nI b
theorem byt_at {tp : List Int32} (h : byt tp) {p : Nat} (hp : p < tp.length) : tn tp p < 256 ∧ tb tp p = nI (tn tp p) := by
  have e : tb tp p = tp[p] := by
    unfold tb
    rw [List.getD_eq_getElem?_getD, List.getElem?_eq_getElem hp]
    rfl
  obtain ⟨b, hb, hv⟩ := h tp[p] (List.getElem_mem hp)
  have e2 : tn tp p = b := by
    unfold tn
    rw [e, hv]
    exact pk_tn (by omega)
  rw [e2, e]
  exact ⟨hb, hv⟩
theorem cdA_lt {tp : List Int32} {n p : Nat} (hb : byt tp) (hn : n ≤ tp.length) (hp : p < n) : (cdA tp n p).1 < 510 ∧ (cdA tp n p).2 ≤ p ∧ 1 ≤ stA tp n p ∧ p + stA tp n p ≤ n ∧ ((cdA tp n p).2 = 0 → (cdA tp n p).1 < 256 ∧ stA tp n p = 1) ∧ (0 < (cdA tp n p).2 → 256 ≤ (cdA tp n p).1 ∧ 3 ≤ stA tp n p) := by
  have ok := bst_ok tp n p p
  have bb := (byt_at hb (show p < tp.length by omega)).1
  unfold cdA stA
  by_cases g : 0 < (bst tp n p p).2
  · have := ok.2.2.2 g
    rw [if_pos g, if_pos g]
    dsimp only
    omega
  · rw [if_neg g, if_neg g]
    dsimp only
    omega
theorem gtS_ok {tp : List Int32} {n p0 : Nat} (hb : byt tp) (hn : n ≤ tp.length) (hp0 : p0 ≤ n) : ∀ i, (gtS tp n p0 i).2 ≤ n ∧ (gtS tp n p0 i).1.length ≤ i ∧ p0 + (gtS tp n p0 i).1.length ≤ (gtS tp n p0 i).2 ∧ ((gtS tp n p0 i).2 < n → (gtS tp n p0 i).1.length = i) ∧ ∀ x ∈ (gtS tp n p0 i).1, x.1 < 510 ∧ x.2 ≤ 4000 ∨ 4000 < n
  | 0 => ⟨hp0, Nat.le_refl _, Nat.le_refl _, fun _ => rfl, fun x hx => by simp [gtS] at hx⟩
  | i + 1 => by
    have ih := gtS_ok hb hn hp0 i
    rw [gtS]
    split
    · exact ⟨ih.1, by omega, ih.2.2.1, fun g => by omega, ih.2.2.2.2⟩
    · rename_i g
      have c := cdA_lt hb hn (show (gtS tp n p0 i).2 < n by omega)
      refine ⟨c.2.2.2.1, ?_, ?_, fun _ => ?_, fun x hx => ?_⟩
      · rw [List.length_append]; show _ + 1 ≤ _; omega
      · rw [List.length_append]; show _ + (_ + 1) ≤ _; omega
      · rw [List.length_append]; show _ + 1 = _; have := ih.2.2.2.1 (by omega); omega
      · rcases List.mem_append.mp hx with h | h
        · exact ih.2.2.2.2 x h
        · rw [List.mem_singleton.mp h]
          by_cases z : 4000 < n
          · exact Or.inr z
          · exact Or.inl ⟨c.1, by omega⟩
theorem stA_cd {tp : List Int32} {n p : Nat} : stA tp n p = if 0 < (cdA tp n p).2 then (cdA tp n p).1 - 253 else 1 := by
  unfold stA cdA
  by_cases g : 0 < (bst tp n p p).2
  · rw [if_pos g, if_pos g, if_pos g]; dsimp only; omega
  · rw [if_neg g, if_neg g, if_neg (Nat.lt_irrefl 0)]
abbrev pkO (cc tc : Int32) : am_E := .inr (6, [am_r 1, am_r 33, am_r 5, am_r 34, am_r 37, am_r 6, am_r 14, am_r 22, am_r 42, am_r 43, .inl cc, am_r 44, am_r 45, .inl tc])
set_option maxHeartbeats 4000000 in
set_option maxRecDepth 100000 in
theorem t_X6_distanceSymbol (d n0 : Nat) {h : am_H} {dd : Nat} (hdd : dd < 2 ^ 20) : am_Ct l D dA m_X6_distanceSymbol d 0 0 n0 [.inl (nI dd)] h (am_qi fun x h' => x = nI (rk dd) ∧ h' = h) := by
  refine am_Ci (by decide +kernel) rfl rfl ?_
  refine am_iconst (v := nI 0) dX6_distanceSymbol_0 rfl (by decide +kernel) ?_
  refine am_istore_n dX6_distanceSymbol_1 rfl rfl ?_
  have loop : ∀ (q y : Nat), y + q = 14 → rkA dd q y = rk dd → am_At l D dA m_X6_distanceSymbol d 0 0 0 0 n0 none (am_qi fun x h' => x = nI (rk dd) ∧ h' = h) 0 0 2 [some (.inl (nI dd)), some (.inl (nI y))] [] h := by
    intro q
    induction q with
    | zero =>
      intro y hy hR
      refine am_iload_n dX6_distanceSymbol_2 rfl rfl ?_
      refine am_bipush (v := nI 14) dX6_distanceSymbol_3 rfl (by decide +kernel) ?_
      refine am_ncmp_ge 23 dX6_distanceSymbol_5 rfl rfl (by omega) (by omega) (fun hc => ?_) (fun hc => ?_)
      · refine am_bipush (v := nI 13) dX6_distanceSymbol_23 rfl (by decide +kernel) ?_
        exact am_ri dX6_distanceSymbol_25 rfl rfl rfl ⟨by rw [← hR]; rfl, rfl⟩
      · omega
    | succ q ih =>
      intro y hy hR
      have hp : 2 ^ y ≤ 2 ^ 13 := Nat.pow_le_pow_right (by omega) (by omega)
      have hR : (if dd ≤ 2 ^ y then y else rkA dd q (y + 1)) = rk dd := hR
      refine am_iload_n dX6_distanceSymbol_2 rfl rfl ?_
      refine am_bipush (v := nI 14) dX6_distanceSymbol_3 rfl (by decide +kernel) ?_
      refine am_ncmp_ge 23 dX6_distanceSymbol_5 rfl rfl (by omega) (by omega) (fun hc => ?_) (fun hc => ?_)
      · omega
      · refine am_iload_n dX6_distanceSymbol_8 rfl rfl ?_
        refine am_iconst (v := nI 1) dX6_distanceSymbol_9 rfl (by decide +kernel) ?_
        refine am_iload_n dX6_distanceSymbol_10 rfl rfl ?_
        refine am_ishl dX6_distanceSymbol_11 rfl ?_
        rw [am_m31 (by omega), pk_shlN (nI y) y (am_smod (by omega)) (by omega), Nat.one_mul]
        refine am_ncmp_gt 17 dX6_distanceSymbol_12 rfl rfl (by omega) (by omega) (fun hc => ?_) (fun hc => ?_)
        · refine am_iinc (n := 1) dX6_distanceSymbol_17 rfl rfl (nI_1 y) ?_
          refine am_goto 2 dX6_distanceSymbol_20 rfl rfl ?_
          rw [if_neg (by omega)] at hR
          exact ih (y + 1) (by omega) hR
        · refine am_iload_n dX6_distanceSymbol_15 rfl rfl ?_
          exact am_ri dX6_distanceSymbol_16 rfl rfl rfl ⟨by rw [← hR, if_pos hc], rfl⟩
  exact loop 14 0 (by omega) rfl
/-- rows that hold codes -/
def cdsA (h : am_H) (l : List (Nat × Nat)) : Prop := ∃ f g : Nat → Int32, h 42 = some (.inl (false, 400, f)) ∧ h 43 = some (.inl (false, 400, g)) ∧ ∀ i x, l[i]? = some x → f i = nI x.1 ∧ (0 < x.2 → g i = nI x.2)
theorem cdsA.at {h h' : am_H} {l : List (Nat × Nat)} (x : cdsA h l) (e1 : h' 42 = h 42) (e2 : h' 43 = h 43) : cdsA h' l := by
  obtain ⟨f, g, x1, x2, x3⟩ := x
  exact ⟨f, g, e1.trans x1, e2.trans x2, x3⟩
theorem snoc_get {α : Type} {l : List α} {y x : α} {i : Nat} (h : (l ++ [y])[i]? = some x) : l[i]? = some x ∨ (i = l.length ∧ x = y) := by
  by_cases c : i < l.length
  · rw [List.getElem?_append_left c] at h; exact Or.inl h
  · rw [List.getElem?_append_right (by omega)] at h
    have hz : i - l.length < 1 := (List.getElem?_eq_some_iff.mp h).1
    have hi : i = l.length := by omega
    rw [hi, Nat.sub_self] at h
    cases h
    exact Or.inr ⟨hi, rfl⟩
set_option maxHeartbeats 4000000 in
set_option maxRecDepth 100000 in
theorem t_X6_gatherCodes (d n0 : Nat) {h : am_H} {cc tc : Int32} (hk : h 32 = some (pkO cc tc)) {n : Nat} {ln di : Int32} (hf : h 34 = some (.inr (4, [am_r 1, am_r 35, am_r 36, .inl (nI n), .inl ln, .inl di]))) {tp : List Int32} (hp : rws h 1 2 4000 tp) (htl : tp.length ≤ 4000) (hbt : byt tp) (hn : n ≤ tp.length) (hch : chs h tp n) (h42 : ars h 42 400) (h43 : ars h 43 400) {alC alP : Int32} (hC : h 14 = some (trO 14 alC)) (hC1 : ars h 15 510) (hC3 : nmA h 17 510 510 (fun _ => 0)) (hP : h 22 = some (trO 22 alP)) (hP1 : ars h 23 14) (hP3 : nmA h 25 14 14 (fun _ => 0)) {op : Bool} {bl co cp bi : Nat} (hac : h 5 = some (acO op bl co cp bi)) {p0 : Nat} (hp0 : p0 ≤ n) (hd : 4 ≤ d) : am_Ct l D dA m_X6_gatherCodes d 0 0 n0 [am_r 32, .inl (nI p0), .inl (nI n)] h (am_qi fun x h' => x = nI (gtS tp n p0 400).2 ∧ am_fr h h' [32, 34, 42, 43, 5, 17, 25] ∧ h' 32 = some (pkO (nI (gtS tp n p0 400).1.length) tc) ∧ (∃ ln di, h' 34 = some (.inr (4, [am_r 1, am_r 35, am_r 36, .inl (nI n), .inl ln, .inl di]))) ∧ cdsA h' (gtS tp n p0 400).1 ∧ nmA h' 17 510 510 (cno ((gtS tp n p0 400).1.map Prod.fst)) ∧ nmA h' 25 14 14 (cno (pds (gtS tp n p0 400).1)) ∧ h' 5 = some (acO op bl (co + (gtS tp n p0 400).1.length) (cp + (pds (gtS tp n p0 400).1).length) bi)) := by
  refine am_Ci (by decide +kernel) rfl rfl ?_
  obtain ⟨yf0, h42⟩ := h42
  obtain ⟨df0, h43⟩ := h43
  obtain ⟨cl1, hC1⟩ := hC1
  obtain ⟨pl1, hP1⟩ := hP1
  refine am_iload_n dX6_gatherCodes_0 rfl rfl ?_
  refine am_istore_n dX6_gatherCodes_1 rfl rfl ?_
  refine am_aload_n dX6_gatherCodes_2 rfl rfl ?_
  refine am_iconst (v := nI 0) dX6_gatherCodes_3 rfl (by decide +kernel) ?_
  refine am_put f_X6_69 dX6_gatherCodes_4 rfl hk (am_fit_i _) rfl ?_
  refine am_iconst (v := nI 0) dX6_gatherCodes_7 rfl (by decide +kernel) ?_
  refine am_istore dX6_gatherCodes_8 rfl rfl ?_
  have loop : ∀ (q i : Nat) (H : am_H), i + q = 400 → (gtS tp n p0 i).1.length = i ∨ n ≤ (gtS tp n p0 i).2 → am_fr h H [32, 34, 42, 43, 5, 17, 25] → H 32 = some (pkO (nI (gtS tp n p0 i).1.length) tc) → (∃ ln di, H 34 = some (.inr (4, [am_r 1, am_r 35, am_r 36, .inl (nI n), .inl ln, .inl di]))) → cdsA H (gtS tp n p0 i).1 → nmA H 17 510 510 (cno ((gtS tp n p0 i).1.map Prod.fst)) → nmA H 25 14 14 (cno (pds (gtS tp n p0 i).1)) → H 5 = some (acO op bl (co + (gtS tp n p0 i).1.length) (cp + (pds (gtS tp n p0 i).1).length) bi) → am_At l D dA m_X6_gatherCodes d 0 0 0 0 n0 none (am_qi fun x h' => x = nI (gtS tp n p0 400).2 ∧ am_fr h h' [32, 34, 42, 43, 5, 17, 25] ∧ h' 32 = some (pkO (nI (gtS tp n p0 400).1.length) tc) ∧ (∃ ln di, h' 34 = some (.inr (4, [am_r 1, am_r 35, am_r 36, .inl (nI n), .inl ln, .inl di]))) ∧ cdsA h' (gtS tp n p0 400).1 ∧ nmA h' 17 510 510 (cno ((gtS tp n p0 400).1.map Prod.fst)) ∧ nmA h' 25 14 14 (cno (pds (gtS tp n p0 400).1)) ∧ h' 5 = some (acO op bl (co + (gtS tp n p0 400).1.length) (cp + (pds (gtS tp n p0 400).1).length) bi)) 0 0 10 [some (am_r 32), some (.inl (nI p0)), some (.inl (nI n)), some (.inl (nI (gtS tp n p0 i).2)), some (.inl (nI i))] [] H := by
    have gtop : ∀ (r i : Nat), n ≤ (gtS tp n p0 i).2 → gtS tp n p0 (i + r) = gtS tp n p0 i := by
      intro r i hi
      induction r with
      | zero => rfl
      | succ r ih =>
        show gtS tp n p0 (i + r + 1) = _
        rw [gtS, ih, if_pos hi]
    intro q
    induction q with
    | zero =>
      intro i H hq hl hfr g32 g34 gc g17 g25 g5
      obtain rfl : i = 400 := by omega
      refine am_iload dX6_gatherCodes_10 rfl rfl ?_
      refine am_sipush (v := nI 400) dX6_gatherCodes_12 rfl (by decide +kernel) ?_
      refine am_ncmp_ge 158 dX6_gatherCodes_15 rfl rfl (by omega) (by omega) (fun hc => ?_) (fun hc => ?_)
      · refine am_iload_n dX6_gatherCodes_158 rfl rfl ?_
        exact am_ri dX6_gatherCodes_159 rfl rfl rfl ⟨rfl, hfr, g32, g34, gc, g17, g25, g5⟩
      · omega
    | succ q ih =>
      intro i H hq hl hfr g32 g34 gc g17 g25 g5
      have gok := gtS_ok hbt hn hp0 i
      refine am_iload dX6_gatherCodes_10 rfl rfl ?_
      refine am_sipush (v := nI 400) dX6_gatherCodes_12 rfl (by decide +kernel) ?_
      refine am_ncmp_ge 158 dX6_gatherCodes_15 rfl rfl (by omega) (by omega) (fun hc => ?_) (fun hc => ?_)
      · omega
      · refine am_iload_n dX6_gatherCodes_18 rfl rfl ?_
        refine am_iload_n dX6_gatherCodes_19 rfl rfl ?_
        refine am_ncmp_ge 158 dX6_gatherCodes_20 rfl rfl (by omega) (by omega) (fun hc => ?_) (fun hc => ?_)
        · have e := gtop (400 - i) i hc
          rw [show i + (400 - i) = 400 by omega] at e
          refine am_iload_n dX6_gatherCodes_158 rfl rfl ?_
          exact am_ri dX6_gatherCodes_159 rfl rfl rfl (by rw [e]; exact ⟨rfl, hfr, g32, g34, gc, g17, g25, g5⟩)
        · have hpl : (gtS tp n p0 i).2 < n := hc
          have hln : (gtS tp n p0 i).1.length = i := gok.2.2.2.1 hpl
          have cd := cdA_lt hbt hn hpl
          have stc := stA_cd (tp := tp) (n := n) (p := (gtS tp n p0 i).2)
          have hnext : gtS tp n p0 (i + 1) = ((gtS tp n p0 i).1 ++ [cdA tp n (gtS tp n p0 i).2], (gtS tp n p0 i).2 + stA tp n (gtS tp n p0 i).2) := by rw [gtS, if_neg (by omega)]
          have bok := bst_ok tp n (gtS tp n p0 i).2 (gtS tp n p0 i).2
          obtain ⟨ln', di', g34⟩ := g34
          have hpH := hp.at (h' := H) (hfr 1 (by simp)) (hfr 2 (by simp))
          have hchH := hch.at (h' := H) (hfr 35 (by simp)) (hfr 36 (by simp))
          have tC := (hfr 14 (by simp)).trans hC
          have tC1 := (hfr 15 (by simp)).trans hC1
          have tP := (hfr 22 (by simp)).trans hP
          have tP1 := (hfr 23 (by simp)).trans hP1
          rw [hln] at g32 g5
          generalize hs : gtS tp n p0 i = s at *
          obtain ⟨cl, pl⟩ := s
          dsimp only at hpl hln cd stc hnext bok gc g17 g25 g5 gok
          refine am_aload_n dX6_gatherCodes_23 rfl rfl ?_
          refine am_get f_X6_33 dX6_gatherCodes_24 rfl g32 rfl ?_
          refine am_iload_n dX6_gatherCodes_27 rfl rfl ?_
          refine am_vi (t_X4_find (d - 1) _ g34 hpH htl hn hchH hpl (by omega)) k_X4_find l_X6_112 dX6_gatherCodes_28 rfl rfl rfl rfl g34 (by omega) (Nat.le_refl _) (Nat.le_refl _) (fun x h1 hx => ?_)
          obtain ⟨f1, rfl, di2, k34, hdi⟩ := hx
          have k32 := (f1 32 (by simp)).trans g32
          obtain ⟨yf, dfn, y42, d43, hyd⟩ := gc.at (h' := h1) (f1 42 (by simp)) (f1 43 (by simp))
          have k17 := g17.at (h' := h1) (f1 17 (by simp))
          have k25 := g25.at (h' := h1) (f1 25 (by simp))
          have k5 := (f1 5 (by simp)).trans g5
          have tC := (f1 14 (by simp)).trans tC
          have tC1 := (f1 15 (by simp)).trans tC1
          have tP := (f1 22 (by simp)).trans tP
          have tP1 := (f1 23 (by simp)).trans tP1
          have hp1 := hpH.at (h' := h1) (f1 1 (by simp)) (f1 2 (by simp))
          have F1 : am_fr h h1 [32, 34, 42, 43, 5, 17, 25] := hfr.tr f1 (by simp)
          have tail : ∀ (H9 : am_H) (dfn9 : Nat → Int32), am_fr h H9 [32, 34, 42, 43, 5, 17, 25] → H9 32 = some (pkO (nI i) tc) → (∃ ln di, H9 34 = some (.inr (4, [am_r 1, am_r 35, am_r 36, .inl (nI n), .inl ln, .inl di]))) → H9 42 = some (.inl (false, 400, upd yf i (nI (cdA tp n pl).1))) → H9 43 = some (.inl (false, 400, dfn9)) → (∀ j, j ≠ i → dfn9 j = dfn j) → (0 < (cdA tp n pl).2 → dfn9 i = nI (cdA tp n pl).2) → nmA H9 17 510 510 (cno (cl.map Prod.fst)) → nmA H9 25 14 14 (cno (pds (cl ++ [cdA tp n pl]))) → H9 5 = some (acO op bl (co + (i + 1)) (cp + (pds (cl ++ [cdA tp n pl])).length) bi) → am_At l D dA m_X6_gatherCodes d 0 0 0 0 n0 none (am_qi fun x h' => x = nI (gtS tp n p0 400).2 ∧ am_fr h h' [32, 34, 42, 43, 5, 17, 25] ∧ h' 32 = some (pkO (nI (gtS tp n p0 400).1.length) tc) ∧ (∃ ln di, h' 34 = some (.inr (4, [am_r 1, am_r 35, am_r 36, .inl (nI n), .inl ln, .inl di]))) ∧ cdsA h' (gtS tp n p0 400).1 ∧ nmA h' 17 510 510 (cno ((gtS tp n p0 400).1.map Prod.fst)) ∧ nmA h' 25 14 14 (cno (pds (gtS tp n p0 400).1)) ∧ h' 5 = some (acO op bl (co + (gtS tp n p0 400).1.length) (cp + (pds (gtS tp n p0 400).1).length) bi)) 0 0 128 [some (am_r 32), some (.inl (nI p0)), some (.inl (nI n)), some (.inl (nI (pl + stA tp n pl))), some (.inl (nI i))] [] H9 := by
            intro H9 dfn9 F9 z32 z34 z42 z43 zd1 zd2 z17 z25 z5
            have tC9 := (F9 14 (by simp)).trans hC
            have tC91 := (F9 15 (by simp)).trans hC1
            obtain ⟨uf, z17, huf⟩ := z17
            refine am_aload_n dX6_gatherCodes_128 rfl rfl ?_
            refine am_get f_X6_56 dX6_gatherCodes_129 rfl z32 rfl ?_
            refine am_aload_n dX6_gatherCodes_132 rfl rfl ?_
            refine am_get f_X6_62 dX6_gatherCodes_133 rfl z32 rfl ?_
            refine am_iload dX6_gatherCodes_136 rfl rfl ?_
            refine am_iald dX6_gatherCodes_138 rfl z42 (by omega) (by omega) ?_
            rw [upd_eq]
            refine am_vv (t_X7_use (d - 1) _ tC9 tC91 (by omega) z17 (by omega) (s := (cdA tp n pl).1) (by omega)) k_X7_use l_X6_126 dX6_gatherCodes_139 rfl rfl rfl rfl tC9 (by omega) (Nat.le_refl _) (Nat.le_refl _) (fun h10 hx => ?_)
            have f10 : am_fr H9 h10 [17] := by rw [hx]; exact am_fr.rf.set (by simp)
            have q17 : nmA h10 17 510 510 (cno ((cl ++ [cdA tp n pl]).map Prod.fst)) := by
              refine ⟨upd uf (cdA tp n pl).1 (uf (cdA tp n pl).1 + nI 1), by rw [hx]; exact am_set_eq, fun j hj => ?_⟩
              rw [List.map_append, show [cdA tp n pl].map Prod.fst = [(cdA tp n pl).1] from rfl, cno_upd]
              by_cases e : j = (cdA tp n pl).1
              · subst e; rw [upd_eq, updN_eq, huf _ hj, nI_add]
              · rw [upd_ne e, updN_ne e]; exact huf j hj
            have z32 := (f10 32 (by simp)).trans z32
            refine am_aload_n dX6_gatherCodes_142 rfl rfl ?_
            refine am_dup dX6_gatherCodes_143 rfl ?_
            refine am_get f_X6_69 dX6_gatherCodes_144 rfl z32 rfl ?_
            refine am_iconst (v := nI 1) dX6_gatherCodes_147 rfl (by decide +kernel) ?_
            refine am_iadd dX6_gatherCodes_148 rfl ?_
            rw [nI_add]
            refine am_put f_X6_69 dX6_gatherCodes_149 rfl z32 (am_fit_i _) rfl ?_
            refine am_iinc (n := 1) dX6_gatherCodes_152 rfl rfl (nI_1 i) ?_
            refine am_goto 10 dX6_gatherCodes_155 rfl rfl ?_
            have FF := (F9.tr f10 (by simp)).set (k := 32) (e := .inr (6, ([am_r 1, am_r 33, am_r 5, am_r 34, am_r 37, am_r 6, am_r 14, am_r 22, am_r 42, am_r 43, .inl (nI i), am_r 44, am_r 45, .inl tc] : List am_V).set 10 (.inl (nI (i + 1))))) (by simp)
            have := ih (i + 1) _ (by omega) (by rw [hnext]; exact Or.inl (by rw [List.length_append, hln]; rfl)) FF (by rw [hnext, List.length_append, hln]; exact am_set_eq) (by obtain ⟨l9, d9, z34⟩ := z34; exact ⟨l9, d9, (am_set_ne (by decide)).trans ((f10 34 (by simp)).trans z34)⟩) (by
              rw [hnext]
              refine ⟨_, dfn9, (am_set_ne (by decide)).trans ((f10 42 (by simp)).trans z42), (am_set_ne (by decide)).trans ((f10 43 (by simp)).trans z43), fun j x hj => ?_⟩
              rcases snoc_get hj with g | ⟨g1, g2⟩
              · have hji : j ≠ i := by have := (List.getElem?_eq_some_iff.mp g).1; omega
                rw [upd_ne hji, zd1 j hji]
                exact hyd j x g
              · rw [g1, hln, upd_eq, g2]
                exact ⟨rfl, zd2⟩) (by rw [hnext]; exact q17.at (am_set_ne (by decide))) (by rw [hnext]; exact (z25.at (f10 25 (by simp))).at (am_set_ne (by decide))) (by rw [hnext, List.length_append, hln]; exact (am_set_ne (by decide)).trans ((f10 5 (by simp)).trans z5))
            rw [hnext] at this
            exact this
          refine am_bif_eq 103 dX6_gatherCodes_31 rfl rfl (fun hcf => ?_) (fun hcf => ?_)
          · have hcf : ¬ 0 < (bst tp n pl pl).2 := by simpa using hcf
            have ecd : cdA tp n pl = (tn tp pl, 0) := by unfold cdA; rw [if_neg hcf]
            have est : stA tp n pl = 1 := by unfold stA; rw [if_neg hcf]
            have hby := byt_at hbt (show pl < tp.length by omega)
            have p1 := hp1.choose_spec.1
            refine am_aload_n dX6_gatherCodes_103 rfl rfl ?_
            refine am_get f_X6_62 dX6_gatherCodes_104 rfl k32 rfl ?_
            refine am_iload dX6_gatherCodes_107 rfl rfl ?_
            refine am_aload_n dX6_gatherCodes_109 rfl rfl ?_
            refine am_get f_X6_9 dX6_gatherCodes_110 rfl k32 rfl ?_
            refine am_iload_n dX6_gatherCodes_113 rfl rfl ?_
            refine am_vi (t_at (d - 1) _ hp1 (by decide) (by decide) (by omega) (by omega) (nI pl)) k_X3_at l_X6_134 dX6_gatherCodes_114 rfl rfl rfl rfl p1 (by omega) (Nat.le_refl _) (Nat.le_refl _) (fun x h2 hx => ?_)
            obtain ⟨rfl, hh⟩ := hx
            obtain rfl := hh.symm
            rw [ix_in (by omega) (by omega)]
            dsimp only
            rw [show tp.getD pl 0 = nI (tn tp pl) from hby.2]
            refine am_iast dX6_gatherCodes_117 rfl y42 (by omega) (by omega) ?_
            refine am_iinc (n := 1) dX6_gatherCodes_118 rfl rfl (nI_1 pl) ?_
            refine am_aload_n dX6_gatherCodes_121 rfl rfl ?_
            refine am_get f_X6_15 dX6_gatherCodes_122 rfl ((am_set_ne (by decide)).trans k32) rfl ?_
            refine am_vv (t_X0_countByte (d - 1) _ ((am_set_ne (by decide)).trans k5)) k_X0_countByte l_X6_139 dX6_gatherCodes_125 rfl rfl rfl rfl ((am_set_ne (by decide)).trans k5) (by omega) (Nat.le_refl _) (Nat.le_refl _) (fun h3 hx => ?_)
            have f3 : am_fr h1 h3 [42, 5] := by rw [hx]; exact (am_fr.rf.set (by simp)).set (by simp)
            have z42 : h3 42 = some (.inl (false, 400, upd yf i (nI (tn tp pl)))) := by rw [hx]; exact (am_set_ne (by decide)).trans am_set_eq
            have z5 : h3 5 = some (acO op bl (co + i + 1) (cp + (pds cl).length) bi) := by rw [hx]; exact am_set_eq
            have epd : pds (cl ++ [cdA tp n pl]) = pds cl := by unfold pds; rw [List.filter_append, ecd]; simp
            have := tail h3 dfn (F1.tr f3 (by simp)) ((f3 32 (by simp)).trans k32) ⟨_, _, (f3 34 (by simp)).trans k34⟩ (by rw [ecd]; exact z42) ((f3 43 (by simp)).trans d43) (fun j _ => rfl) (fun g => by rw [ecd] at g; exact absurd g (Nat.lt_irrefl 0)) (k17.at (f3 17 (by simp))) (by rw [epd]; exact k25.at (f3 25 (by simp))) (by rw [epd]; exact z5)
            rw [est] at this
            exact this
          · have hcf : 0 < (bst tp n pl pl).2 := by simpa using hcf
            have ecd : cdA tp n pl = ((bst tp n pl pl).1 + 253, (bst tp n pl pl).2) := by unfold cdA; rw [if_pos hcf]
            have est : stA tp n pl = (bst tp n pl pl).1 := by unfold stA; rw [if_pos hcf]
            have hb3 := bok.2.2.2 hcf
            have hb2 := bok.2.1
            have hdi := hdi hcf
            subst hdi
            have hrk := rk_lt (bst tp n pl pl).2
            refine am_aload_n dX6_gatherCodes_34 rfl rfl ?_
            refine am_get f_X6_62 dX6_gatherCodes_35 rfl k32 rfl ?_
            refine am_iload dX6_gatherCodes_38 rfl rfl ?_
            refine am_aload_n dX6_gatherCodes_40 rfl rfl ?_
            refine am_get f_X6_33 dX6_gatherCodes_41 rfl k32 rfl ?_
            refine am_vi (t_X4_foundLength (d - 1) _ k34) k_X4_foundLength l_X6_116 dX6_gatherCodes_44 rfl rfl rfl rfl k34 (by omega) (Nat.le_refl _) (Nat.le_refl _) (fun x h2 hx => ?_)
            obtain ⟨rfl, hh⟩ := hx
            obtain rfl := hh.symm
            refine am_sipush (v := nI 253) dX6_gatherCodes_47 rfl (by decide +kernel) ?_
            refine am_iadd dX6_gatherCodes_50 rfl ?_
            rw [nI_add]
            refine am_iast dX6_gatherCodes_51 rfl y42 (by omega) (by omega) ?_
            refine am_aload_n dX6_gatherCodes_52 rfl rfl ?_
            refine am_get f_X6_66 dX6_gatherCodes_53 rfl ((am_set_ne (by decide)).trans k32) rfl ?_
            refine am_iload dX6_gatherCodes_56 rfl rfl ?_
            refine am_aload_n dX6_gatherCodes_58 rfl rfl ?_
            refine am_get f_X6_33 dX6_gatherCodes_59 rfl ((am_set_ne (by decide)).trans k32) rfl ?_
            refine am_vi (t_X4_foundDistance (d - 1) _ ((am_set_ne (by decide)).trans k34)) k_X4_foundDistance l_X6_119 dX6_gatherCodes_62 rfl rfl rfl rfl ((am_set_ne (by decide)).trans k34) (by omega) (Nat.le_refl _) (Nat.le_refl _) (fun x h2 hx => ?_)
            obtain ⟨rfl, hh⟩ := hx
            obtain rfl := hh.symm
            refine am_iast dX6_gatherCodes_65 rfl ((am_set_ne (by decide)).trans d43) (by omega) (by omega) ?_
            refine am_iload_n dX6_gatherCodes_66 rfl rfl ?_
            refine am_aload_n dX6_gatherCodes_67 rfl rfl ?_
            refine am_get f_X6_33 dX6_gatherCodes_68 rfl ((am_set_ne (by decide)).trans ((am_set_ne (by decide)).trans k32)) rfl ?_
            refine am_vi (t_X4_foundLength (d - 1) _ ((am_set_ne (by decide)).trans ((am_set_ne (by decide)).trans k34))) k_X4_foundLength l_X6_116 dX6_gatherCodes_71 rfl rfl rfl rfl ((am_set_ne (by decide)).trans ((am_set_ne (by decide)).trans k34)) (by omega) (Nat.le_refl _) (Nat.le_refl _) (fun x h2 hx => ?_)
            obtain ⟨rfl, hh⟩ := hx
            obtain rfl := hh.symm
            refine am_iadd dX6_gatherCodes_74 rfl ?_
            rw [nI_add]
            refine am_istore_n dX6_gatherCodes_75 rfl rfl ?_
            refine am_aload_n dX6_gatherCodes_76 rfl rfl ?_
            refine am_get f_X6_59 dX6_gatherCodes_77 rfl ((am_set_ne (by decide)).trans ((am_set_ne (by decide)).trans k32)) rfl ?_
            refine am_aload_n dX6_gatherCodes_80 rfl rfl ?_
            refine am_get f_X6_66 dX6_gatherCodes_81 rfl ((am_set_ne (by decide)).trans ((am_set_ne (by decide)).trans k32)) rfl ?_
            refine am_iload dX6_gatherCodes_84 rfl rfl ?_
            refine am_iald dX6_gatherCodes_86 rfl am_set_eq (by omega) (by omega) ?_
            rw [upd_eq]
            refine am_si (t_X6_distanceSymbol (d - 1) _ (dd := (bst tp n pl pl).2) (by omega)) k_X6_distanceSymbol l_X6_122 dX6_gatherCodes_87 rfl rfl rfl rfl (by omega) (Nat.le_refl _) (Nat.le_refl _) (fun x h2 hx => ?_)
            obtain ⟨rfl, hh⟩ := hx
            obtain rfl := hh.symm
            obtain ⟨H5, e5⟩ : ∃ H5, H5 = am_set (am_set h1 42 (.inl (false, 400, upd yf i (nI ((bst tp n pl pl).1 + 253))))) 43 (.inl (false, 400, upd dfn i (nI (bst tp n pl pl).2))) := ⟨_, rfl⟩
            rw [← e5]
            have f5 : am_fr h1 H5 [42, 43] := by rw [e5]; exact (am_fr.rf.set (by simp)).set (by simp)
            have z42 : H5 42 = some (.inl (false, 400, upd yf i (nI ((bst tp n pl pl).1 + 253)))) := by rw [e5]; exact (am_set_ne (by decide)).trans am_set_eq
            have z43 : H5 43 = some (.inl (false, 400, upd dfn i (nI (bst tp n pl pl).2))) := by rw [e5]; exact am_set_eq
            have tP5 := (f5 22 (by simp)).trans tP
            have tP51 := (f5 23 (by simp)).trans tP1
            have k325 := (f5 32 (by simp)).trans k32
            have k55 := (f5 5 (by simp)).trans k5
            obtain ⟨pu, z25, hpu⟩ := k25.at (h' := H5) (f5 25 (by simp))
            refine am_vv (t_X7_use (d - 1) _ tP5 tP51 (by omega) z25 (by omega) (s := rk (bst tp n pl pl).2) hrk) k_X7_use l_X6_126 dX6_gatherCodes_90 rfl rfl rfl rfl tP5 (by omega) (Nat.le_refl _) (Nat.le_refl _) (fun h6 hx => ?_)
            have f6 : am_fr H5 h6 [25] := by rw [hx]; exact am_fr.rf.set (by simp)
            have epd : pds (cl ++ [cdA tp n pl]) = pds cl ++ [rk (bst tp n pl pl).2] := by unfold pds; rw [List.filter_append, ecd]; simp [hcf]
            have q25 : nmA h6 25 14 14 (cno (pds (cl ++ [cdA tp n pl]))) := by
              refine ⟨upd pu (rk (bst tp n pl pl).2) (pu (rk (bst tp n pl pl).2) + nI 1), by rw [hx]; exact am_set_eq, fun j hj => ?_⟩
              rw [epd, cno_upd]
              by_cases e : j = rk (bst tp n pl pl).2
              · subst e; rw [upd_eq, updN_eq, hpu _ hj, nI_add]
              · rw [upd_ne e, updN_ne e]; exact hpu j hj
            have k326 := (f6 32 (by simp)).trans k325
            have k56 := (f6 5 (by simp)).trans k55
            refine am_aload_n dX6_gatherCodes_93 rfl rfl ?_
            refine am_get f_X6_15 dX6_gatherCodes_94 rfl k326 rfl ?_
            refine am_vv (t_X0_countCopy (d - 1) _ k56) k_X0_countCopy l_X6_131 dX6_gatherCodes_97 rfl rfl rfl rfl k56 (by omega) (Nat.le_refl _) (Nat.le_refl _) (fun h7 hx => ?_)
            have f7 : am_fr h6 h7 [5] := by rw [hx]; exact am_fr.rf.set (by simp)
            have z5 : h7 5 = some (acO op bl (co + i + 1) (cp + (pds cl).length + 1) bi) := by rw [hx]; exact am_set_eq
            have F7 : am_fr h h7 [32, 34, 42, 43, 5, 17, 25] := ((F1.tr f5 (by simp)).tr f6 (by simp)).tr f7 (by simp)
            refine am_goto 128 dX6_gatherCodes_100 rfl rfl ?_
            have := tail h7 (upd dfn i (nI (bst tp n pl pl).2)) F7 ((f7 32 (by simp)).trans k326) ⟨_, _, (f7 34 (by simp)).trans ((f6 34 (by simp)).trans ((f5 34 (by simp)).trans k34))⟩ (by rw [ecd]; exact (f7 42 (by simp)).trans ((f6 42 (by simp)).trans z42)) ((f7 43 (by simp)).trans ((f6 43 (by simp)).trans z43)) (fun j hj => upd_ne hj) (fun _ => by rw [ecd]; exact upd_eq) (((k17.at (f5 17 (by simp))).at (f6 17 (by simp))).at (f7 17 (by simp))) (q25.at (f7 25 (by simp))) (by rw [epd, List.length_append]; exact z5)
            rw [est] at this
            exact this
  exact loop 400 0 _ (by omega) (Or.inl rfl) (am_fr.rf.set (by simp)) am_set_eq ⟨_, _, (am_set_ne (by decide)).trans hf⟩ ⟨yf0, df0, (am_set_ne (by decide)).trans h42, (am_set_ne (by decide)).trans h43, fun i x hx => by simp [gtS] at hx⟩ (hC3.at (am_set_ne (by decide))) (hP3.at (am_set_ne (by decide))) ((am_set_ne (by decide)).trans hac)
end PACK1

/-! ===== pure: bytes stay bytes ===== -/
theorem nI_or {a b : Nat} (ha : a < 2 ^ 31) (hb : b < 2 ^ 31) : nI a ||| nI b = nI (a ||| b) := by
  apply Int32.toBitVec_inj.mp
  apply BitVec.eq_of_toNat_eq
  rw [Int32.toBitVec_or, BitVec.toNat_or, pk_tn (by omega), pk_tn (by omega), pk_tn (by have := Nat.or_lt_two_pow ha hb; omega)]
theorem byt_app {a b : List Int32} (ha : byt a) (hb : byt b) : byt (a ++ b) := fun v hv => by
  rcases List.mem_append.mp hv with e | e
  · exact ha v e
  · exact hb v e
theorem byt_1 {b : Nat} (h : b < 256) : byt [nI b] := fun v hv => ⟨b, h, List.mem_singleton.mp hv⟩
theorem byt_getD {a : List Int32} (ha : byt a) (i : Nat) : ∃ b, b < 256 ∧ a.getD i 0 = nI b := by
  rw [List.getD_eq_getElem?_getD]
  cases e : a[i]? with
  | none => exact ⟨0, by omega, rfl⟩
  | some v => exact ha v (List.mem_of_getElem? e)
theorem byt_orl {a : List Int32} (ha : byt a) {b : Nat} (h : b < 256) : byt (orl a (nI b)) := fun v hv => by
  unfold orl at hv
  rcases List.mem_or_eq_of_mem_set hv with e | e
  · exact ha v e
  · obtain ⟨c, hc, e2⟩ := byt_getD ha (a.length - 1)
    rw [e2, nI_or (by omega) (by omega)] at e
    exact ⟨_, Nat.or_lt_two_pow (n := 8) hc h, e⟩
theorem byt_gv1 {s : List Int32 × Nat} (hs : byt s.1) {b : Nat} (h : b < 2) : byt (gv1 s b).1 := by
  unfold gv1
  refine byt_orl ?_ ?_
  · split
    · exact byt_app hs (byt_1 (by omega))
    · exact hs
  · have : 2 ^ (7 - s.2 % 8) ≤ 2 ^ 7 := Nat.pow_le_pow_right (by omega) (by omega)
    have : b * 2 ^ (7 - s.2 % 8) ≤ 1 * 2 ^ 7 := Nat.mul_le_mul (by omega) this
    omega
/-- the rows that writing makes are as long as the bits say -/
theorem gv1_len {s : List Int32 × Nat} (h : s.1.length = (s.2 + 7) / 8) (b : Nat) : (gv1 s b).1.length = ((gv1 s b).2 + 7) / 8 := by
  unfold gv1
  show (orl _ _).length = (s.2 + 1 + 7) / 8
  rw [orl_len]
  split
  · rw [List.length_append]
    show s.1.length + 1 = _
    omega
  · omega
def wP (s : List Int32 × Nat) : Prop := byt s.1 ∧ s.1.length = (s.2 + 7) / 8
theorem wP_gvR (v : Nat) : ∀ (b : Nat) (s : List Int32 × Nat), wP s → wP (gvR v b s)
  | 0, _, hs => hs
  | b + 1, s, hs => wP_gvR v b _ ⟨byt_gv1 hs.1 (Nat.mod_lt _ (by omega)), gv1_len hs.2 _⟩
theorem wP_gsR (len : Nat → Nat) (m : Nat) (al : Int32) (y : Nat) (s : List Int32 × Nat) (hs : wP s) : wP (gsR len m al y s) := by
  unfold gsR
  split
  · exact wP_gvR _ _ _ hs
  · exact hs
theorem wP_onR : ∀ (q : Nat) (s : List Int32 × Nat), wP s → wP (onR q s)
  | 0, _, hs => hs
  | q + 1, s, hs => wP_onR q _ (wP_gvR _ _ _ hs)
theorem wP_glR (v : Nat) (s : List Int32 × Nat) (hs : wP s) : wP (glR v s) := by
  unfold glR
  split
  · exact wP_gvR _ _ _ hs
  · exact wP_gvR _ _ _ (wP_onR _ _ (wP_gvR _ _ _ hs))
theorem wP_pdR (len : Nat → Nat) (al : Int32) (dd : Nat) (s : List Int32 × Nat) (hs : wP s) : wP (pdR len al dd s) := by
  unfold pdR
  split
  · exact wP_gsR _ _ _ _ _ hs
  · exact wP_gvR _ _ _ (wP_gsR _ _ _ _ _ hs)
theorem wP_ttR (len : Nat → Nat) (gp : Bool) (n : Nat) : ∀ (q i : Nat) (s : List Int32 × Nat), wP s → wP (ttR len gp n q i s)
  | 0, _, _, hs => hs
  | q + 1, i, s, hs => by
    rw [ttR]
    split
    · exact hs
    · split
      · exact wP_ttR len gp n q _ _ (wP_gvR _ _ _ (wP_glR _ _ hs))
      · exact wP_ttR len gp n q _ _ (wP_glR _ _ hs)
theorem wP_tTr (len : Nat → Nat) (al : Int32) (m b : Nat) (gp : Bool) (s : List Int32 × Nat) (hs : wP s) : wP (tTr len al m b gp s) := by
  unfold tTr
  split
  · exact wP_ttR _ _ _ _ _ _ (wP_gvR _ _ _ hs)
  · exact wP_gvR _ _ _ (wP_gvR _ _ _ hs)
theorem wP_tcR (lenT : Nat → Nat) (alT : Int32) : ∀ (l : List (Nat × Nat)) (s : List Int32 × Nat), wP s → wP (tcR lenT alT l s)
  | [], _, hs => hs
  | x :: r, s, hs => by
    rw [tcR]
    exact wP_tcR lenT alT r _ (wP_gvR _ _ _ (wP_gsR _ _ _ _ _ hs))
theorem wP_tCr (lenC : Nat → Nat) (alC : Int32) (lenT : Nat → Nat) (alT : Int32) (tl : List (Nat × Nat)) (s : List Int32 × Nat) (hs : wP s) : wP (tCr lenC alC lenT alT tl s) := by
  unfold tCr
  split
  · exact wP_tcR _ _ _ _ (wP_gvR _ _ _ hs)
  · exact wP_gvR _ _ _ (wP_gvR _ _ _ hs)
theorem wP_cdR (lenC : Nat → Nat) (alC : Int32) (lenP : Nat → Nat) (alP : Int32) : ∀ (l : List (Nat × Nat)) (s : List Int32 × Nat), wP s → wP (cdR lenC alC lenP alP l s)
  | [], _, hs => hs
  | x :: r, s, hs => by
    rw [cdR]
    refine wP_cdR lenC alC lenP alP r _ ?_
    split
    · exact wP_pdR _ _ _ _ (wP_gsR _ _ _ _ _ hs)
    · exact wP_gsR _ _ _ _ _ hs
theorem wP_bwR (cs : List (Nat × Nat)) (s : List Int32 × Nat) (hs : wP s) : wP (bwR cs s) := by
  unfold bwR pbR
  exact wP_cdR _ _ _ _ _ _ (wP_tTr _ _ _ _ _ _ (wP_tCr _ _ _ _ _ _ (wP_tTr _ _ _ _ _ _ (wP_gvR _ _ _ hs))))
theorem wP_wrS (tp : List Int32) (n : Nat) (ls0 : l3) : ∀ b, wP (wrS tp n ls0 b).2.1
  | 0 => ⟨fun v hv => by simp [wrS] at hv, by rw [wrS]; show 0 = (0 + 7) / 8; omega⟩
  | b + 1 => by
    have ih := wP_wrS tp n ls0 b
    rw [wrS]
    split
    · exact ih
    · exact wP_bwR _ _ ih
theorem byt_cpl {bs : List Int32} (h : byt bs) (dd : Nat) : ∀ q, byt (cpl bs dd q)
  | 0 => h
  | q + 1 => byt_app (byt_cpl h dd q) (fun v hv => by rw [List.mem_singleton.mp hv]; exact byt_getD (byt_cpl h dd q) _)
/-- bytes, and no more than wanted -/
def bw8 (wa : Nat) (bs : List Int32) : Prop := byt bs ∧ bs.length ≤ wa
set_option maxRecDepth 100000 in
theorem oneR_by (lenC : Nat → Nat) (alC : Int32) (lenP : Nat → Nat) (alP : Int32) (f : Nat → Int32) (E wa k : Nat) (bs : List Int32) (co cp : Nat) (h : bw8 wa bs) (hl : bs.length < wa) : bw8 wa (oneR lenC alC lenP alP f E wa k bs co cp).2.2.1 := by
  unfold oneR
  split
  · exact h
  · split
    · rename_i g
      exact ⟨byt_app h.1 (byt_1 g), by rw [List.length_append]; show _ + 1 ≤ _; omega⟩
    · split
      · exact h
      · split
        · exact h
        · exact ⟨byt_cpl h.1 _ _, by rw [cpl_len]; have := Nat.min_le_right ((sy lenC 510 alC f k).2 - 253) (wa - bs.length); omega⟩
theorem cdsR_by (lenC : Nat → Nat) (alC : Int32) (lenP : Nat → Nat) (alP : Int32) (f : Nat → Int32) (E wa : Nat) : ∀ (q k : Nat) (bs : List Int32) (co cp : Nat), bw8 wa bs → bw8 wa (cdsR lenC alC lenP alP f E wa q k bs co cp).2.2.1
  | 0, _, _, _, _, h => h
  | q + 1, k, bs, co, cp, h => by
    rw [cdsR]
    split
    · exact h
    · rename_i g
      have o := oneR_by lenC alC lenP alP f E wa k bs co cp h (by omega)
      split
      · exact cdsR_by lenC alC lenP alP f E wa q _ _ _ _ o
      · exact o
theorem blkR_by (f : Nat → Int32) (E wa k : Nat) (bs : List Int32) (co cp : Nat) (h : bw8 wa bs) : bw8 wa (blkR f E wa k bs co cp).1.2.2.1 := by
  unfold blkR
  split
  · exact h
  · split
    · exact h
    · split
      · exact h
      · split
        · exact h
        · split
          · exact h
          · exact cdsR_by _ _ _ _ _ _ _ _ _ _ _ _ h
theorem unpR_by (f : Nat → Int32) (E wa : Nat) : ∀ (q k : Nat) (bs : List Int32) (co cp bl : Nat) (ls : l3), bw8 wa bs → bw8 wa (unpR f E wa q k bs co cp bl ls).1.2.2.1
  | 0, _, _, _, _, _, _, h => h
  | q + 1, k, bs, co, cp, bl, ls, h => by
    rw [unpR]
    split
    · exact h
    · have o := blkR_by f E wa k bs co cp h
      split
      · exact unpR_by f E wa q _ _ _ _ _ _ o
      · exact o
/-! what a call leaves is well again -/
theorem OK_of {f : Nat → Int32} {c : Nat} {r : List Int32 × Bool × Nat × Nat × Nat × Nat × l3} {f' : Nat → Int32} {c' : Nat} (h : OK (f, c, r)) (hc : c' ≤ 4000) (hf : ∀ i, i < c' → ∃ b, b < 256 ∧ f' i = nI b) : OK (f', c', r) := ⟨hc, tpL_byt.mpr hf, h.2.2⟩
theorem wb_byt (x : Int32) (s : Nat) : ∃ b, b < 256 ∧ wb x s = nI b := pk_andE _ (m := nI 255) 8 (by decide +kernel)
theorem wd4_byt {f : Nat → Int32} {c : Nat} (x : Int32) (h : ∀ i, i < c → ∃ b, b < 256 ∧ f i = nI b) : ∀ i, i < c + 4 → ∃ b, b < 256 ∧ wd4 f c x i = nI b := by
  intro i hi
  unfold wd4
  by_cases e3 : i = c + 3
  · subst e3; rw [upd_eq]; exact wb_byt _ _
  · rw [upd_ne e3]
    by_cases e2 : i = c + 2
    · subst e2; rw [upd_eq]; exact wb_byt _ _
    · rw [upd_ne e2]
      by_cases e1 : i = c + 1
      · subst e1; rw [upd_eq]; exact wb_byt _ _
      · rw [upd_ne e1]
        by_cases e0 : i = c
        · subst e0; rw [upd_eq]; exact wb_byt _ _
        · rw [upd_ne e0]; exact h i (by omega)
theorem OK_feed (a b c d e : Int32) {S : sS} (h : OK S) : OK (oFeed a b c d e S).2 := by
  obtain ⟨f, n, r⟩ := S
  unfold oFeed
  split
  · rename_i g
    exact OK_of h g (wd4_byt e (wd4_byt d (wd4_byt c (wd4_byt b (wd4_byt a (tpL_byt.mp h.2.1))))))
  · exact h
theorem filF_byt {f : Nat → Int32} {c : Nat} {b : Nat} (hb : b < 256) (h : ∀ i, i < c → ∃ b, b < 256 ∧ f i = nI b) : ∀ m i, i < c + m → ∃ q, q < 256 ∧ filF f c (nI b) m i = nI q
  | 0, i, hi => h i hi
  | m + 1, i, hi => by
    show ∃ q, q < 256 ∧ upd (filF f c (nI b) m) (c + m) (nI b) i = nI q
    by_cases e : i = c + m
    · subst e; rw [upd_eq]; exact ⟨b, hb, rfl⟩
    · rw [upd_ne e]; exact filF_byt hb h m i (by omega)
theorem OK_fill (v n : Int32) {S : sS} (h : OK S) : OK (oFill v n S).2 := by
  obtain ⟨f, c, r⟩ := S
  unfold oFill
  split
  · rename_i b m hb hm
    obtain ⟨hb1, rfl⟩ := ix_some hb
    have hm1 := (ix_some hm).1
    have hc : c ≤ 4000 := h.1
    have hm2 : m < 4000 - c + 1 := hm1
    exact OK_of h (show c + m ≤ 4000 by omega) (filF_byt hb1 (tpL_byt.mp h.2.1) m)
  · exact h
theorem OK_poke (i v : Int32) {S : sS} (h : OK S) : OK (oPoke i v S).2 := by
  obtain ⟨f, c, r⟩ := S
  unfold oPoke
  split
  · rename_i k b hk hb
    obtain ⟨hb1, rfl⟩ := ix_some hb
    refine OK_of h h.1 (fun j hj => ?_)
    by_cases e : j = k
    · subst e; rw [upd_eq]; exact ⟨b, hb1, rfl⟩
    · rw [upd_ne e]; exact tpL_byt.mp h.2.1 j hj
  · exact h
theorem OK_clear {S : sS} (h : OK S) : OK (oClear S) := by
  obtain ⟨f, c, r⟩ := S
  exact OK_of h (Nat.zero_le _) (fun i hi => by omega)
theorem OK_back {S : sS} (h : OK S) : OK (oBack S).2 := by
  obtain ⟨f, c, md, r⟩ := S
  unfold oBack
  split
  · rename_i g
    refine OK_of h g (fun j hj => ?_)
    show ∃ b, b < 256 ∧ bckF f md j = nI b
    unfold bckF
    rw [if_pos hj]
    exact byt_getD h.2.2.2.1 j
  · exact h
theorem OK_read (n s : Int32) {S : sS} (h : OK S) : OK (oRead n s S).2 := by
  obtain ⟨f, c, md, op, bl, co, cp, bi, ls⟩ := S
  unfold oRead
  split
  · rename_i k w hk hw
    have hw1 := (ix_some hw).1
    have b := unpR_by f (8 * k) w w 0 [] 0 0 0 ls ⟨fun v hv => by simp at hv, Nat.zero_le _⟩
    have l := (unpR_bl f (8 * k) w w 0 [] 0 0 0 ls).2
    exact ⟨h.1, h.2.1, Nat.le_trans b.2 (by omega), b.1, Nat.le_trans l (by omega)⟩
  · exact h
theorem OK_write (n : Int32) {S : sS} (h : OK S) : OK (oWrite n S).2 := by
  obtain ⟨f, c, md, op, bl, co, cp, bi, ls⟩ := S
  unfold oWrite
  split
  · rename_i k hk
    have hk1 : k < c + 1 := (ix_some hk).1
    have hc : c ≤ 4000 := h.1
    have b := wP_wrS (tpL f c) k ls k
    have o := wrS_ok (tp := tpL f c) (n := k) (ls0 := ls) h.2.1 (by rw [tpL_len]; omega) (by omega) k
    have e1 : (wrS (tpL f c) k ls k).2.1.2 ≤ 96000 - 400 := by
      have o1 := o.1
      have o2 := o.2.1
      have o3 := o.2.2.1
      omega
    refine ⟨h.1, h.2.1, ?_, b.1, Nat.le_trans o.2.2.1 (by omega)⟩
    show (wrS (tpL f c) k ls k).2.1.1.length ≤ 12000
    rw [b.2]
    omega
  · exact h

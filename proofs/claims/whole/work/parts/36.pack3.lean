/-! ===== Packer: bits of a block ===== -/
section PACK3
variable {l : Launch} {D : va_G} {dA : Bool → ClassId}
/-- a distance behind what is given -/
def pdR (len : Nat → Nat) (al : Int32) (dd : Nat) (s : List Int32 × Nat) : List Int32 × Nat := if rk dd = 0 then gsR len 14 al (rk dd) s else gvR (dd - 1 - 2 ^ (rk dd - 1)) (rk dd - 1) (gsR len 14 al (rk dd) s)
theorem gsR_2 (len : Nat → Nat) (m : Nat) (al : Int32) (y : Nat) (s : List Int32 × Nat) : (gsR len m al y s).2 = s.2 + (if al = -1 then len y else 0) := by
  unfold gsR
  split
  · rw [gvR_2]
  · rfl
theorem pdR_2 (len : Nat → Nat) (al : Int32) (dd : Nat) (s : List Int32 × Nat) : (pdR len al dd s).2 = s.2 + (if al = -1 then len (rk dd) else 0) + (rk dd - 1) := by
  unfold pdR
  split
  · rw [gsR_2]; omega
  · rw [gvR_2, gsR_2]
/-- lengths behind what is given -/
def ttR (len : Nat → Nat) (gp : Bool) (n : Nat) : Nat → Nat → List Int32 × Nat → List Int32 × Nat
  | 0, _, s => s
  | q + 1, i, s => if n ≤ i then s else if gp = true ∧ i = 2 then ttR len gp n q (i + zrs len (i + 1) 3 + 1) (gvR (zrs len (i + 1) 3) 2 (glR (len i) s)) else ttR len gp n q (i + 1) (glR (len i) s)
/-- a tree behind what is given -/
def tTr (len : Nat → Nat) (al : Int32) (m b : Nat) (gp : Bool) (s : List Int32 × Nat) : List Int32 × Nat := if al = -1 then ttR len gp (lst len m) (lst len m) 0 (gvR (lst len m) b s) else gvR al.toBitVec.toNat b (gvR 0 b s)
/-- what tells C -/
def tcR (lenT : Nat → Nat) (alT : Int32) : List (Nat × Nat) → List Int32 × Nat → List Int32 × Nat
  | [], s => s
  | x :: r, s => tcR lenT alT r (gvR x.2 (bbh x.1) (gsR lenT 19 alT x.1 s))
def tCr (lenC : Nat → Nat) (alC : Int32) (lenT : Nat → Nat) (alT : Int32) (tl : List (Nat × Nat)) (s : List Int32 × Nat) : List Int32 × Nat := if alC = -1 then tcR lenT alT tl (gvR (lst lenC 510) 9 s) else gvR alC.toBitVec.toNat 9 (gvR 0 9 s)
/-- codes behind what is given -/
def cdR (lenC : Nat → Nat) (alC : Int32) (lenP : Nat → Nat) (alP : Int32) : List (Nat × Nat) → List Int32 × Nat → List Int32 × Nat
  | [], s => s
  | x :: r, s => cdR lenC alC lenP alP r (if 256 ≤ x.1 then pdR lenP alP x.2 (gsR lenC 510 alC x.1 s) else gsR lenC 510 alC x.1 s)
theorem tcR_mono (lenT : Nat → Nat) (alT : Int32) : ∀ (l : List (Nat × Nat)) (s : List Int32 × Nat), s.2 ≤ (tcR lenT alT l s).2
  | [], _ => Nat.le_refl _
  | x :: r, s => by
    have h1 := tcR_mono lenT alT r (gvR x.2 (bbh x.1) (gsR lenT 19 alT x.1 s))
    rw [gvR_2, gsR_2] at h1
    show _ ≤ (tcR lenT alT r _).2
    omega
theorem cdR_mono (lenC : Nat → Nat) (alC : Int32) (lenP : Nat → Nat) (alP : Int32) : ∀ (l : List (Nat × Nat)) (s : List Int32 × Nat), s.2 ≤ (cdR lenC alC lenP alP l s).2
  | [], _ => Nat.le_refl _
  | x :: r, s => by
    have h1 := cdR_mono lenC alC lenP alP r (if 256 ≤ x.1 then pdR lenP alP x.2 (gsR lenC 510 alC x.1 s) else gsR lenC 510 alC x.1 s)
    show _ ≤ (cdR lenC alC lenP alP r _).2
    refine Nat.le_trans ?_ h1
    split
    · rw [pdR_2, gsR_2]; omega
    · rw [gsR_2]; omega
theorem ttR_le (len : Nat → Nat) (gp : Bool) (n : Nat) (K : Nat) (hK : ∀ i, (if len i < 7 then 3 else len i - 3) ≤ K) : ∀ (q i : Nat) (s : List Int32 × Nat), s.2 ≤ (ttR len gp n q i s).2 ∧ (ttR len gp n q i s).2 ≤ s.2 + (n - i) * K + (if i ≤ 2 then 2 else 0)
  | 0, i, s => ⟨Nat.le_refl _, by show s.2 ≤ _; omega⟩
  | q + 1, i, s => by
    unfold ttR
    have hi := hK i
    have g2 := glR_2 (len i) s
    by_cases h1 : n ≤ i
    · rw [if_pos h1]; exact ⟨Nat.le_refl _, by omega⟩
    · rw [if_neg h1]
      have e1 : (n - i) * K = (n - (i + 1)) * K + K := by
        rw [show n - i = (n - (i + 1)) + 1 by omega, Nat.succ_mul]
      by_cases h2 : gp = true ∧ i = 2
      · rw [if_pos h2]
        have ih := ttR_le len gp n K hK q (i + zrs len (i + 1) 3 + 1) (gvR (zrs len (i + 1) 3) 2 (glR (len i) s))
        rw [gvR_2, g2] at ih
        have e2 : (n - (i + zrs len (i + 1) 3 + 1)) * K ≤ (n - (i + 1)) * K := Nat.mul_le_mul_right _ (by omega)
        have h3 := h2.2
        rw [if_neg (show ¬ i + zrs len (i + 1) 3 + 1 ≤ 2 by omega)] at ih
        rw [if_pos (show i ≤ 2 by omega)]
        omega
      · rw [if_neg h2]
        have ih := ttR_le len gp n K hK q (i + 1) (glR (len i) s)
        rw [g2] at ih
        have : (if i + 1 ≤ 2 then 2 else 0) ≤ (if i ≤ 2 then 2 else 0) := by split <;> split <;> omega
        omega
set_option maxHeartbeats 4000000 in
set_option maxRecDepth 100000 in
theorem t_X6_packDistance (d n0 : Nat) {h : am_H} {cc tc : Int32} (hk : h 32 = some (pkO cc tc)) {s : List Int32 × Nat} (hs : snk h s) {al : Int32} {len : Nat → Nat} (hP : wdy h 22 14 al len) {dd : Nat} (hdd : 1 ≤ dd) (hdd2 : dd ≤ 8192) (hl0 : al = -1 → 0 < len (rk dd)) (hg : s.2 + 40 ≤ 96000) (hd : 3 ≤ d) : am_Ct l D dA m_X6_packDistance d 0 0 n0 [am_r 32, .inl (nI dd)] h (am_qv fun h' => am_fr h h' [3, 4, 33] ∧ snk h' (pdR len al dd s)) := by
  refine am_Cv (by decide +kernel) rfl rfl ?_
  have hrk := rk_lt dd
  have hsp := rk_spec hdd2
  have hp : 2 ^ (rk dd - 1) ≤ 2 ^ 12 := Nat.pow_le_pow_right (by omega) (by omega)
  have hl16 := (hP.2.1.choose_spec.2 (rk dd) hrk).2
  refine am_iload_n dX6_packDistance_0 rfl rfl ?_
  refine am_si (t_X6_distanceSymbol (d - 1) _ (dd := dd) (by omega)) k_X6_distanceSymbol l_X6_122 dX6_packDistance_1 rfl rfl rfl rfl (by omega) (Nat.le_refl _) (Nat.le_refl _) (fun x h1 hx => ?_)
  obtain ⟨rfl, hh⟩ := hx
  obtain rfl := hh.symm
  refine am_istore_n dX6_packDistance_4 rfl rfl ?_
  refine am_aload_n dX6_packDistance_5 rfl rfl ?_
  refine am_get f_X6_24 dX6_packDistance_6 rfl hk rfl ?_
  refine am_aload_n dX6_packDistance_9 rfl rfl ?_
  refine am_get f_X6_59 dX6_packDistance_10 rfl hk rfl ?_
  refine am_iload_n dX6_packDistance_13 rfl rfl ?_
  refine am_vv (t_X1_giveSymbol (d - 1) _ hs hP (by omega) hrk hl0 (by omega) (by omega)) k_X1_giveSymbol l_X6_168 dX6_packDistance_14 rfl rfl rfl rfl hs.1 (by omega) (Nat.le_refl _) (Nat.le_refl _) (fun h1 hx => ?_)
  obtain ⟨f1, s1⟩ := hx
  have hk1 := (f1 32 (by simp)).trans hk
  have hb := gsR_2 len 14 al (rk dd) s
  have hb2 : (if al = -1 then len (rk dd) else 0) ≤ 16 := by split <;> omega
  refine am_iload_n dX6_packDistance_17 rfl rfl ?_
  refine am_nif_le 40 dX6_packDistance_18 rfl rfl (by omega) (fun hc => ?_) (fun hc => ?_)
  · exact am_rv dX6_packDistance_40 rfl rfl rfl ⟨f1, by unfold pdR; rw [if_pos hc]; exact s1⟩
  · refine am_aload_n dX6_packDistance_21 rfl rfl ?_
    refine am_get f_X6_24 dX6_packDistance_22 rfl hk1 rfl ?_
    refine am_iload_n dX6_packDistance_25 rfl rfl ?_
    refine am_iconst (v := nI 1) dX6_packDistance_26 rfl (by decide +kernel) ?_
    refine am_isub dX6_packDistance_27 rfl ?_
    rw [pk_sub hdd]
    refine am_iconst (v := nI 1) dX6_packDistance_28 rfl (by decide +kernel) ?_
    refine am_iload_n dX6_packDistance_29 rfl rfl ?_
    refine am_iconst (v := nI 1) dX6_packDistance_30 rfl (by decide +kernel) ?_
    refine am_isub dX6_packDistance_31 rfl ?_
    rw [pk_sub (by omega)]
    refine am_ishl dX6_packDistance_32 rfl ?_
    rw [am_m31 (by omega), pk_shlN (nI (rk dd - 1)) (rk dd - 1) (am_smod (by omega)) (by omega), Nat.one_mul]
    refine am_isub dX6_packDistance_33 rfl ?_
    rw [pk_sub (by have := hsp.2 hc; omega)]
    refine am_iload_n dX6_packDistance_34 rfl rfl ?_
    refine am_iconst (v := nI 1) dX6_packDistance_35 rfl (by decide +kernel) ?_
    refine am_isub dX6_packDistance_36 rfl ?_
    rw [pk_sub (by omega)]
    refine am_vv (t_X1_give (d - 1) _ s1 (v := dd - 1 - 2 ^ (rk dd - 1)) (b := rk dd - 1) (Nat.lt_of_le_of_lt (Nat.sub_le _ _) (by omega)) (by omega) (by omega) (by omega)) k_X1_give l_X6_158 dX6_packDistance_37 rfl rfl rfl rfl s1.1 (by omega) (Nat.le_refl _) (Nat.le_refl _) (fun h2 hx => ?_)
    exact am_rv dX6_packDistance_40 rfl rfl rfl ⟨f1.tr hx.1 (by simp), by unfold pdR; rw [if_neg (by omega)]; exact hx.2⟩
set_option maxHeartbeats 4000000 in
set_option maxRecDepth 100000 in
theorem t_X6_tellTree (d n0 : Nat) {h : am_H} {cc tc : Int32} (hk : h 32 = some (pkO cc tc)) {s : List Int32 × Nat} (hs : snk h s) {t m b : Nat} {gp : Bool} {al : Int32} {len : Nat → Nat} (hT : wdy h t m al len) (hm : m ≤ 19) (hgp : gp = true → m = 19) (ht : t + 7 < 30) (ht5 : 5 < t) (hb : b ≤ 9) (hal : al ≠ -1 → ∃ y, y < m ∧ al = nI y) (hg : s.2 + 300 ≤ 96000) (hd : 4 ≤ d) : am_Ct l D dA m_X6_tellTree d 0 0 n0 [am_r 32, am_r t, .inl (nI b), .inl (am_bz gp)] h (am_qv fun h' => am_fr h h' [3, 4, 33] ∧ snk h' (tTr len al m b gp s)) := by
  refine am_Cv (by decide +kernel) rfl rfl ?_
  obtain ⟨lf, h1, hlf⟩ := id hT.2.1
  refine am_aload_n dX6_tellTree_0 rfl rfl ?_
  refine am_vi (t_X7_isAlone (d - 1) _ hT.1) k_X7_isAlone l_X6_175 dX6_tellTree_1 rfl rfl rfl rfl hT.1 (by omega) (Nat.le_refl _) (Nat.le_refl _) (fun x h1 hx => ?_)
  obtain ⟨rfl, hh⟩ := hx
  obtain rfl := hh.symm
  refine am_bif_eq 20 dX6_tellTree_4 rfl rfl (fun hca => ?_) (fun hca => ?_)
  · have hca : al = -1 := by simpa using hca
    have hnle := lst_le len m
    refine am_aload_n dX6_tellTree_20 rfl rfl ?_
    refine am_vi (t_X7_lengthsInUse (d - 1) _ hT.1 h1 (by omega) (fun s hs => (hlf s hs).1) (fun s hs => (hlf s hs).2)) k_X7_lengthsInUse l_X6_142 dX6_tellTree_21 rfl rfl rfl rfl hT.1 (by omega) (Nat.le_refl _) (Nat.le_refl _) (fun x h1 hx => ?_)
    obtain ⟨rfl, hh⟩ := hx
    obtain rfl := hh.symm
    refine am_istore dX6_tellTree_24 rfl rfl ?_
    refine am_aload_n dX6_tellTree_26 rfl rfl ?_
    refine am_get f_X6_24 dX6_tellTree_27 rfl hk rfl ?_
    refine am_iload dX6_tellTree_30 rfl rfl ?_
    refine am_iload_n dX6_tellTree_32 rfl rfl ?_
    refine am_vv (t_X1_give (d - 1) _ hs (v := lst len m) (b := b) (by omega) (by omega) (by omega) (by omega)) k_X1_give l_X6_158 dX6_tellTree_33 rfl rfl rfl rfl hs.1 (by omega) (Nat.le_refl _) (Nat.le_refl _) (fun h2 hx => ?_)
    obtain ⟨f2, s2⟩ := hx
    have hk2 := (f2 32 (by simp)).trans hk
    refine am_iconst (v := nI 0) dX6_tellTree_36 rfl (by decide +kernel) ?_
    refine am_istore dX6_tellTree_37 rfl rfl ?_
    have loop : ∀ (q i : Nat) (x6 : Option am_V) (s' : List Int32 × Nat) (H : am_H), lst len m ≤ i + q → i ≤ 40 → ttR len gp (lst len m) q i s' = ttR len gp (lst len m) (lst len m) 0 (gvR (lst len m) b s) → s'.2 ≤ s.2 + 9 + 15 * i → am_fr h H [3, 4, 33] → snk H s' → am_At l D dA m_X6_tellTree d 0 0 0 0 n0 none (am_qv fun h' => am_fr h h' [3, 4, 33] ∧ snk h' (tTr len al m b gp s)) 0 0 39 [some (am_r 32), some (am_r t), some (.inl (nI b)), some (.inl (am_bz gp)), some (.inl (nI (lst len m))), some (.inl (nI i)), x6] [] H := by
      intro q
      induction q with
      | zero =>
        intro i x6 s' H hq hi hR hb' hfr hs'
        have hR : s' = _ := hR
        refine am_iload dX6_tellTree_39 rfl rfl ?_
        refine am_iload dX6_tellTree_41 rfl rfl ?_
        refine am_ncmp_ge 103 dX6_tellTree_43 rfl rfl (by omega) (by omega) (fun hc => ?_) (fun hc => ?_)
        · exact am_rv dX6_tellTree_103 rfl rfl rfl ⟨hfr, by unfold tTr; rw [if_pos hca, ← hR]; exact hs'⟩
        · omega
      | succ q ih =>
        intro i x6 s' H hq hi hR hb' hfr hs'
        rw [ttR] at hR
        have hkH := (hfr 32 (by simp)).trans hk
        have htH := (hfr t (by simp; omega)).trans hT.1
        have h1H := (hfr (t + 1) (by simp; omega)).trans h1
        refine am_iload dX6_tellTree_39 rfl rfl ?_
        refine am_iload dX6_tellTree_41 rfl rfl ?_
        refine am_ncmp_ge 103 dX6_tellTree_43 rfl rfl (by omega) (by omega) (fun hc => ?_) (fun hc => ?_)
        · rw [if_pos hc] at hR
          exact am_rv dX6_tellTree_103 rfl rfl rfl ⟨hfr, by unfold tTr; rw [if_pos hca, ← hR]; exact hs'⟩
        · rw [if_neg (by omega)] at hR
          have hli := hlf i (by omega)
          refine am_aload_n dX6_tellTree_46 rfl rfl ?_
          refine am_get f_X6_24 dX6_tellTree_47 rfl hkH rfl ?_
          refine am_aload_n dX6_tellTree_50 rfl rfl ?_
          refine am_iload dX6_tellTree_51 rfl rfl ?_
          refine am_vi (t_X7_lengthOf (d - 1) _ htH h1H (by omega) (by omega) (nI i)) k_X7_lengthOf l_X6_148 dX6_tellTree_53 rfl rfl rfl rfl htH (by omega) (Nat.le_refl _) (Nat.le_refl _) (fun x h1 hx => ?_)
          obtain ⟨rfl, hh⟩ := hx
          obtain rfl := hh.symm
          rw [ix_in (by omega) (by omega)]
          dsimp only
          rw [hli.1]
          refine am_vv (t_X1_giveLength (d - 1) _ hs' hli.2 (by omega) (by omega)) k_X1_giveLength l_X6_185 dX6_tellTree_56 rfl rfl rfl rfl hs'.1 (by omega) (Nat.le_refl _) (Nat.le_refl _) (fun h3 hx => ?_)
          obtain ⟨f3, s3⟩ := hx
          have g2 := glR_2 (len i) s'
          have g3 : (if len i < 7 then 3 else len i - 3) ≤ 13 := by split <;> omega
          have hk3 := (f3 32 (by simp)).trans hkH
          have ht3 := (f3 t (by simp; omega)).trans htH
          have h13 := (f3 (t + 1) (by simp; omega)).trans h1H
          refine am_iload_n dX6_tellTree_59 rfl rfl ?_
          refine am_bif_eq 97 dX6_tellTree_60 rfl rfl (fun hcg => ?_) (fun hcg => ?_)
          · rw [if_neg (by rw [hcg]; simp)] at hR
            refine am_iinc (n := 1) dX6_tellTree_97 rfl rfl (nI_1 i) ?_
            refine am_goto 39 dX6_tellTree_100 rfl rfl ?_
            exact ih (i + 1) _ _ h3 (by omega) (by omega) hR (by omega) (hfr.tr f3 (by simp)) s3
          · refine am_iload dX6_tellTree_63 rfl rfl ?_
            refine am_iconst (v := nI 2) dX6_tellTree_65 rfl (by decide +kernel) ?_
            refine am_ncmp_ne 97 dX6_tellTree_66 rfl rfl (by omega) (by omega) (fun hc2 => ?_) (fun hc2 => ?_)
            · rw [if_neg (by omega)] at hR
              refine am_iinc (n := 1) dX6_tellTree_97 rfl rfl (nI_1 i) ?_
              refine am_goto 39 dX6_tellTree_100 rfl rfl ?_
              exact ih (i + 1) _ _ h3 (by omega) (by omega) hR (by omega) (hfr.tr f3 (by simp)) s3
            · rw [if_pos ⟨hcg, hc2⟩] at hR
              have hm19 := hgp hcg
              have hz3 := zrs_le len 3 (i + 1)
              refine am_aload_n dX6_tellTree_69 rfl rfl ?_
              refine am_iload dX6_tellTree_70 rfl rfl ?_
              refine am_iconst (v := nI 1) dX6_tellTree_72 rfl (by decide +kernel) ?_
              refine am_iadd dX6_tellTree_73 rfl ?_
              rw [nI_add]
              refine am_iconst (v := nI 3) dX6_tellTree_74 rfl (by decide +kernel) ?_
              refine am_vi (t_X7_zerosFrom (d - 1) _ ht3 h13 (by omega) (fun s hs => (hlf s hs).1) (fun s hs => (hlf s hs).2) (by omega) (s := i + 1) (lim := 3) (by omega)) k_X7_zerosFrom l_X6_145 dX6_tellTree_75 rfl rfl rfl rfl ht3 (by omega) (Nat.le_refl _) (Nat.le_refl _) (fun x h1 hx => ?_)
              obtain ⟨rfl, hh⟩ := hx
              obtain rfl := hh.symm
              refine am_istore dX6_tellTree_78 rfl rfl ?_
              refine am_aload_n dX6_tellTree_80 rfl rfl ?_
              refine am_get f_X6_24 dX6_tellTree_81 rfl hk3 rfl ?_
              refine am_iload dX6_tellTree_84 rfl rfl ?_
              refine am_iconst (v := nI 2) dX6_tellTree_86 rfl (by decide +kernel) ?_
              refine am_vv (t_X1_give (d - 1) _ s3 (v := zrs len (i + 1) 3) (b := 2) (by omega) (by omega) (by omega) (by omega)) k_X1_give l_X6_158 dX6_tellTree_87 rfl rfl rfl rfl s3.1 (by omega) (Nat.le_refl _) (Nat.le_refl _) (fun h4 hx => ?_)
              obtain ⟨f4, s4⟩ := hx
              have g4 := gvR_2 (zrs len (i + 1) 3) 2 (glR (len i) s')
              refine am_iload dX6_tellTree_90 rfl rfl ?_
              refine am_iload dX6_tellTree_92 rfl rfl ?_
              refine am_iadd dX6_tellTree_94 rfl ?_
              rw [nI_add]
              refine am_istore dX6_tellTree_95 rfl rfl ?_
              refine am_iinc (n := 1) dX6_tellTree_97 rfl rfl (nI_1 _) ?_
              refine am_goto 39 dX6_tellTree_100 rfl rfl ?_
              exact ih _ _ _ h4 (by omega) (by omega) hR (by omega) ((hfr.tr f3 (by simp)).tr f4 (by simp)) s4
    exact loop (lst len m) 0 _ _ h2 (by omega) (by omega) rfl (by rw [gvR_2]; omega) f2 s2
  · have hca : al ≠ -1 := by simpa using hca
    obtain ⟨y, hy, ey⟩ := hal hca
    refine am_aload_n dX6_tellTree_7 rfl rfl ?_
    refine am_get f_X6_24 dX6_tellTree_8 rfl hk rfl ?_
    refine am_aload_n dX6_tellTree_11 rfl rfl ?_
    refine am_vi (t_X7_alone (d - 1) _ hT.1) k_X7_alone l_X6_179 dX6_tellTree_12 rfl rfl rfl rfl hT.1 (by omega) (Nat.le_refl _) (Nat.le_refl _) (fun x h1 hx => ?_)
    obtain ⟨rfl, hh⟩ := hx
    obtain rfl := hh.symm
    rw [ey]
    refine am_iload_n dX6_tellTree_15 rfl rfl ?_
    refine am_vv (t_X1_giveAlone (d - 1) _ hs (y := y) (b := b) (by omega) (by omega) (by omega) (by omega)) k_X1_giveAlone l_X6_182 dX6_tellTree_16 rfl rfl rfl rfl hs.1 (by omega) (Nat.le_refl _) (Nat.le_refl _) (fun h2 hx => ?_)
    exact am_rv dX6_tellTree_19 rfl rfl rfl ⟨hx.1, by unfold tTr; rw [if_neg (by rw [← ey]; exact hca), pk_tn (by omega)]; exact hx.2⟩
set_option maxHeartbeats 4000000 in
set_option maxRecDepth 100000 in
theorem t_X6_tellTreeC (d n0 : Nat) {h : am_H} {cc : Int32} {tl : List (Nat × Nat)} (hS : telS h cc tl) {s : List Int32 × Nat} (hs : snk h s) {alC alT : Int32} {lenC lenT : Nat → Nat} (hC : wdy h 14 510 alC lenC) (hT : wdy h 6 19 alT lenT) (hal : alC ≠ -1 → ∃ y, y < 510 ∧ alC = nI y) (htl : tl.length ≤ 510) (hok : ∀ x ∈ tl, x.1 < 19 ∧ x.2 < 512 ∧ (alT = -1 → 0 < lenT x.1)) (hz : alT ≠ -1 → ∀ y, lenT y = 0) (hg : s.2 + 20 ≤ 96000) (hg2 : (tCr lenC alC lenT alT tl s).2 ≤ 96000) (hd : 4 ≤ d) : am_Ct l D dA m_X6_tellTreeC d 0 0 n0 [am_r 32] h (am_qv fun h' => am_fr h h' [3, 4, 33] ∧ snk h' (tCr lenC alC lenT alT tl s)) := by
  refine am_Cv (by decide +kernel) rfl rfl ?_
  obtain ⟨hk, ⟨tf, ef, h44, h45, htf⟩, -⟩ := hS
  obtain ⟨lf, h1, hlf⟩ := id hC.2.1
  have hT16 := fun y hy => (hT.2.1.choose_spec.2 y hy).2
  refine am_aload_n dX6_tellTreeC_0 rfl rfl ?_
  refine am_get f_X6_56 dX6_tellTreeC_1 rfl hk rfl ?_
  refine am_vi (t_X7_isAlone (d - 1) _ hC.1) k_X7_isAlone l_X6_175 dX6_tellTreeC_4 rfl rfl rfl rfl hC.1 (by omega) (Nat.le_refl _) (Nat.le_refl _) (fun x h1 hx => ?_)
  obtain ⟨rfl, hh⟩ := hx
  obtain rfl := hh.symm
  refine am_bif_eq 27 dX6_tellTreeC_7 rfl rfl (fun hca => ?_) (fun hca => ?_)
  · have hca : alC = -1 := by simpa using hca
    have hnle := lst_le lenC 510
    have eT : tCr lenC alC lenT alT tl s = tcR lenT alT tl (gvR (lst lenC 510) 9 s) := by unfold tCr; rw [if_pos hca]
    refine am_aload_n dX6_tellTreeC_27 rfl rfl ?_
    refine am_get f_X6_24 dX6_tellTreeC_28 rfl hk rfl ?_
    refine am_aload_n dX6_tellTreeC_31 rfl rfl ?_
    refine am_get f_X6_56 dX6_tellTreeC_32 rfl hk rfl ?_
    refine am_vi (t_X7_lengthsInUse (d - 1) _ hC.1 h1 (by omega) (fun s hs => (hlf s hs).1) (fun s hs => (hlf s hs).2)) k_X7_lengthsInUse l_X6_142 dX6_tellTreeC_35 rfl rfl rfl rfl hC.1 (by omega) (Nat.le_refl _) (Nat.le_refl _) (fun x h1 hx => ?_)
    obtain ⟨rfl, hh⟩ := hx
    obtain rfl := hh.symm
    refine am_bipush (v := nI 9) dX6_tellTreeC_38 rfl (by decide +kernel) ?_
    refine am_vv (t_X1_give (d - 1) _ hs (v := lst lenC 510) (b := 9) (by omega) (by omega) (by omega) (by omega)) k_X1_give l_X6_158 dX6_tellTreeC_40 rfl rfl rfl rfl hs.1 (by omega) (Nat.le_refl _) (Nat.le_refl _) (fun h2 hx => ?_)
    obtain ⟨f2, s2⟩ := hx
    refine am_iconst (v := nI 0) dX6_tellTreeC_43 rfl (by decide +kernel) ?_
    refine am_istore_n dX6_tellTreeC_44 rfl rfl ?_
    have loop : ∀ (r : List (Nat × Nat)) (i : Nat) (s' : List Int32 × Nat) (H : am_H), tl.drop i = r → tcR lenT alT r s' = tcR lenT alT tl (gvR (lst lenC 510) 9 s) → i ≤ tl.length → am_fr h H [3, 4, 33] → snk H s' → am_At l D dA m_X6_tellTreeC d 0 0 0 0 n0 none (am_qv fun h' => am_fr h h' [3, 4, 33] ∧ snk h' (tCr lenC alC lenT alT tl s)) 0 0 45 [some (am_r 32), some (.inl (nI i))] [] H := by
      intro r
      induction r with
      | nil =>
        intro i s' H hr hR hi hfr hs'
        have hR : s' = _ := hR
        have hkH := (hfr 32 (by simp)).trans hk
        have hil : tl.length ≤ i := by
          have := congrArg List.length hr
          rw [List.length_drop] at this
          have e0 : ([] : List (Nat × Nat)).length = 0 := rfl
          omega
        refine am_iload_n dX6_tellTreeC_45 rfl rfl ?_
        refine am_aload_n dX6_tellTreeC_46 rfl rfl ?_
        refine am_get f_X6_79 dX6_tellTreeC_47 rfl hkH rfl ?_
        refine am_ncmp_ge 98 dX6_tellTreeC_50 rfl rfl (by omega) (by omega) (fun hc => ?_) (fun hc => ?_)
        · exact am_rv dX6_tellTreeC_98 rfl rfl rfl ⟨hfr, by rw [eT, ← hR]; exact hs'⟩
        · omega
      | cons x r ih =>
        intro i s' H hr hR hi hfr hs'
        have hx0 : tl[i]? = some x := by
          have := congrArg (fun z => z[0]?) hr
          simpa using this
        have hil : i < tl.length := (List.getElem?_eq_some_iff.mp hx0).1
        obtain ⟨ok1, ok2, ok3⟩ := hok x (List.mem_of_getElem? hx0)
        have hr2 : tl.drop (i + 1) = r := by
          rw [← List.tail_drop, hr]
          rfl
        have hkH := (hfr 32 (by simp)).trans hk
        have h44H := (hfr 44 (by simp)).trans h44
        have h45H := (hfr 45 (by simp)).trans h45
        have hTH := hT.at (h' := H) (fun j a b => hfr j (by simp; omega))
        obtain ⟨e1, e2⟩ := htf i x hx0
        have hb9 : bbh x.1 ≤ 9 := by unfold bbh; split; omega; split <;> omega
        have hmn := tcR_mono lenT alT r (gvR x.2 (bbh x.1) (gsR lenT 19 alT x.1 s'))
        have hR : tcR lenT alT r (gvR x.2 (bbh x.1) (gsR lenT 19 alT x.1 s')) = _ := hR
        rw [hR, ← eT] at hmn
        have g1 := gvR_2 x.2 (bbh x.1) (gsR lenT 19 alT x.1 s')
        have g2 := gsR_2 lenT 19 alT x.1 s'
        have hlx : s'.2 + lenT x.1 ≤ 96000 := by
          by_cases z : alT = -1
          · rw [if_pos z] at g2; omega
          · rw [hz z x.1]; omega
        refine am_iload_n dX6_tellTreeC_45 rfl rfl ?_
        refine am_aload_n dX6_tellTreeC_46 rfl rfl ?_
        refine am_get f_X6_79 dX6_tellTreeC_47 rfl hkH rfl ?_
        refine am_ncmp_ge 98 dX6_tellTreeC_50 rfl rfl (by omega) (by omega) (fun hc => ?_) (fun hc => ?_)
        · omega
        · refine am_aload_n dX6_tellTreeC_53 rfl rfl ?_
          refine am_get f_X6_24 dX6_tellTreeC_54 rfl hkH rfl ?_
          refine am_aload_n dX6_tellTreeC_57 rfl rfl ?_
          refine am_get f_X6_52 dX6_tellTreeC_58 rfl hkH rfl ?_
          refine am_aload_n dX6_tellTreeC_61 rfl rfl ?_
          refine am_get f_X6_73 dX6_tellTreeC_62 rfl hkH rfl ?_
          refine am_iload_n dX6_tellTreeC_65 rfl rfl ?_
          refine am_iald dX6_tellTreeC_66 rfl h44H (by omega) (by omega) ?_
          rw [e1]
          refine am_vv (t_X1_giveSymbol (d - 1) _ hs' hTH (by omega) ok1 ok3 hlx (by omega)) k_X1_giveSymbol l_X6_168 dX6_tellTreeC_67 rfl rfl rfl rfl hs'.1 (by omega) (Nat.le_refl _) (Nat.le_refl _) (fun h3 hx => ?_)
          obtain ⟨f3, s3⟩ := hx
          have hk3 := (f3 32 (by simp)).trans hkH
          have h443 := (f3 44 (by simp)).trans h44H
          have h453 := (f3 45 (by simp)).trans h45H
          refine am_aload_n dX6_tellTreeC_70 rfl rfl ?_
          refine am_get f_X6_24 dX6_tellTreeC_71 rfl hk3 rfl ?_
          refine am_aload_n dX6_tellTreeC_74 rfl rfl ?_
          refine am_get f_X6_76 dX6_tellTreeC_75 rfl hk3 rfl ?_
          refine am_iload_n dX6_tellTreeC_78 rfl rfl ?_
          refine am_iald dX6_tellTreeC_79 rfl h453 (by omega) (by omega) ?_
          refine am_aload_n dX6_tellTreeC_80 rfl rfl ?_
          refine am_get f_X6_73 dX6_tellTreeC_81 rfl hk3 rfl ?_
          refine am_iload_n dX6_tellTreeC_84 rfl rfl ?_
          refine am_iald dX6_tellTreeC_85 rfl h443 (by omega) (by omega) ?_
          rw [e1, e2]
          refine am_sin (t_X9_bitsBehind (d - 1) _ (y := x.1) (by omega)) k_X9_bitsBehind l_X6_188 dX6_tellTreeC_86 rfl rfl rfl rfl (by omega) (Nat.le_refl _) (Nat.le_refl _) (fun x9 h9 hx => ?_)
          obtain ⟨rfl, hh⟩ := hx
          obtain rfl := hh.symm
          refine am_vv (t_X1_give (d - 1) _ s3 (v := x.2) (b := bbh x.1) (by omega) (by omega) (by omega) (by omega)) k_X1_give l_X6_158 dX6_tellTreeC_89 rfl rfl rfl rfl s3.1 (by omega) (Nat.le_refl _) (Nat.le_refl _) (fun h4 hx => ?_)
          obtain ⟨f4, s4⟩ := hx
          refine am_iinc (n := 1) dX6_tellTreeC_92 rfl rfl (nI_1 i) ?_
          refine am_goto 45 dX6_tellTreeC_95 rfl rfl ?_
          exact ih (i + 1) _ h4 hr2 hR (by omega) ((hfr.tr f3 (by simp)).tr f4 (by simp)) s4
    exact loop tl 0 _ h2 rfl rfl (Nat.zero_le _) f2 s2
  · have hca : alC ≠ -1 := by simpa using hca
    obtain ⟨y, hy, ey⟩ := hal hca
    refine am_aload_n dX6_tellTreeC_10 rfl rfl ?_
    refine am_get f_X6_24 dX6_tellTreeC_11 rfl hk rfl ?_
    refine am_aload_n dX6_tellTreeC_14 rfl rfl ?_
    refine am_get f_X6_56 dX6_tellTreeC_15 rfl hk rfl ?_
    refine am_vi (t_X7_alone (d - 1) _ hC.1) k_X7_alone l_X6_179 dX6_tellTreeC_18 rfl rfl rfl rfl hC.1 (by omega) (Nat.le_refl _) (Nat.le_refl _) (fun x h1 hx => ?_)
    obtain ⟨rfl, hh⟩ := hx
    obtain rfl := hh.symm
    rw [ey]
    refine am_bipush (v := nI 9) dX6_tellTreeC_21 rfl (by decide +kernel) ?_
    refine am_vv (t_X1_giveAlone (d - 1) _ hs (y := y) (b := 9) (by omega) (by omega) (by omega) (by omega)) k_X1_giveAlone l_X6_182 dX6_tellTreeC_23 rfl rfl rfl rfl hs.1 (by omega) (Nat.le_refl _) (Nat.le_refl _) (fun h2 hx => ?_)
    exact am_rv dX6_tellTreeC_26 rfl rfl rfl ⟨hx.1, by unfold tCr; rw [if_neg (by rw [← ey]; exact hca), pk_tn (by omega)]; exact hx.2⟩
end PACK3

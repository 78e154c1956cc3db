/-! ===== Packer.packBlock ===== -/
section PACK4
variable {l : Launch} {D : va_G} {dA : Bool → ClassId}
theorem tTr_mono (len : Nat → Nat) (al : Int32) (m b : Nat) (gp : Bool) (s : List Int32 × Nat) (hK : ∀ i, len i ≤ 16) : s.2 ≤ (tTr len al m b gp s).2 := by
  unfold tTr
  split
  · have := (ttR_le len gp (lst len m) 13 (fun i => by have := hK i; split <;> omega) (lst len m) 0 (gvR (lst len m) b s)).1
    rw [gvR_2] at this
    omega
  · rw [gvR_2, gvR_2]; omega
theorem tCr_mono (lenC : Nat → Nat) (alC : Int32) (lenT : Nat → Nat) (alT : Int32) (tl : List (Nat × Nat)) (s : List Int32 × Nat) : s.2 + 9 ≤ (tCr lenC alC lenT alT tl s).2 := by
  unfold tCr
  split
  · have := tcR_mono lenT alT tl (gvR (lst lenC 510) 9 s)
    rw [gvR_2] at this
    omega
  · rw [gvR_2, gvR_2]; omega
/-- a block behind what is given -/
def pbR (cs : List (Nat × Nat)) (tl : List (Nat × Nat)) (lenT : Nat → Nat) (alT : Int32) (lenC : Nat → Nat) (alC : Int32) (lenP : Nat → Nat) (alP : Int32) (s : List Int32 × Nat) : List Int32 × Nat := cdR lenC alC lenP alP cs (tTr lenP alP 14 4 false (tCr lenC alC lenT alT tl (tTr lenT alT 19 5 true (gvR cs.length 16 s))))
set_option maxHeartbeats 4000000 in
set_option maxRecDepth 100000 in
theorem t_X6_packBlock (d n0 : Nat) {h : am_H} {cs tl : List (Nat × Nat)} (hS : telS h (nI cs.length) tl) (hcs : cdsA h cs) {s : List Int32 × Nat} (hs : snk h s) {alT alC alP : Int32} {lenT lenC lenP : Nat → Nat} (hT : wdy h 6 19 alT lenT) (hC : wdy h 14 510 alC lenC) (hP : wdy h 22 14 alP lenP) (haT : alT ≠ -1 → ∃ y, y < 19 ∧ alT = nI y) (haC : alC ≠ -1 → ∃ y, y < 510 ∧ alC = nI y) (haP : alP ≠ -1 → ∃ y, y < 14 ∧ alP = nI y) (htl : tl.length ≤ 510) (hok : ∀ x ∈ tl, x.1 < 19 ∧ x.2 < 512 ∧ (alT = -1 → 0 < lenT x.1)) (hzT : alT ≠ -1 → ∀ y, lenT y = 0) (hzC : alC ≠ -1 → ∀ y, lenC y = 0) (hlT : ∀ y, lenT y ≤ 16) (hlP : ∀ y, lenP y ≤ 16) (hcl : cs.length ≤ 400) (hcok : ∀ x ∈ cs, x.1 < 510 ∧ (alC = -1 → 0 < lenC x.1) ∧ (256 ≤ x.1 → 1 ≤ x.2 ∧ x.2 ≤ 8192 ∧ (alP = -1 → 0 < lenP (rk x.2)))) (hg : (pbR cs tl lenT alT lenC alC lenP alP s).2 + 400 ≤ 96000) (hd : 5 ≤ d) : am_Ct l D dA m_X6_packBlock d 0 0 n0 [am_r 32] h (am_qv fun h' => am_fr h h' [3, 4, 33] ∧ snk h' (pbR cs tl lenT alT lenC alC lenP alP s)) := by
  refine am_Cv (by decide +kernel) rfl rfl ?_
  have hk := hS.1
  have m1 := gvR_2 cs.length 16 s
  have m2 := tTr_mono lenT alT 19 5 true (gvR cs.length 16 s) hlT
  have m3 := tCr_mono lenC alC lenT alT tl (tTr lenT alT 19 5 true (gvR cs.length 16 s))
  have m4 := tTr_mono lenP alP 14 4 false (tCr lenC alC lenT alT tl (tTr lenT alT 19 5 true (gvR cs.length 16 s))) hlP
  have m5 := cdR_mono lenC alC lenP alP cs (tTr lenP alP 14 4 false (tCr lenC alC lenT alT tl (tTr lenT alT 19 5 true (gvR cs.length 16 s))))
  unfold pbR at hg
  refine am_aload_n dX6_packBlock_0 rfl rfl ?_
  refine am_get f_X6_24 dX6_packBlock_1 rfl hk rfl ?_
  refine am_aload_n dX6_packBlock_4 rfl rfl ?_
  refine am_get f_X6_69 dX6_packBlock_5 rfl hk rfl ?_
  refine am_bipush (v := nI 16) dX6_packBlock_8 rfl (by decide +kernel) ?_
  refine am_vv (t_X1_give (d - 1) _ hs (v := cs.length) (b := 16) (by omega) (by omega) (by omega) (by omega)) k_X1_give l_X6_158 dX6_packBlock_10 rfl rfl rfl rfl hs.1 (by omega) (Nat.le_refl _) (Nat.le_refl _) (fun h1 hx => ?_)
  obtain ⟨f1, s1⟩ := hx
  have hk1 := (f1 32 (by simp)).trans hk
  have hT1 := hT.at (h' := h1) (fun j a b => f1 j (by simp; omega))
  refine am_aload_n dX6_packBlock_13 rfl rfl ?_
  refine am_aload_n dX6_packBlock_14 rfl rfl ?_
  refine am_get f_X6_52 dX6_packBlock_15 rfl hk1 rfl ?_
  refine am_iconst (v := nI 5) dX6_packBlock_18 rfl (by decide +kernel) ?_
  refine am_iconst (v := nI 1) dX6_packBlock_19 rfl (by decide +kernel) ?_
  rw [show nI 1 = am_bz true from rfl]
  refine am_vv (t_X6_tellTree (d - 1) _ hk1 s1 hT1 (by omega) (fun _ => rfl) (by omega) (by omega) (by omega) haT (by omega) (by omega)) k_X6_tellTree l_X6_161 dX6_packBlock_20 rfl rfl rfl rfl hk1 (by omega) (Nat.le_refl _) (Nat.le_refl _) (fun h2 hx => ?_)
  obtain ⟨f2, s2⟩ := hx
  have F2 := f1.tr f2 (by simp)
  have hk2 := (F2 32 (by simp)).trans hk
  have hT2 := hT.at (h' := h2) (fun j a b => F2 j (by simp; omega))
  have hC2 := hC.at (h' := h2) (fun j a b => F2 j (by simp; omega))
  have hS2 : telS h2 (nI cs.length) tl := ⟨hk2, hS.2.1.at (F2 44 (by simp)) (F2 45 (by simp)), hS.2.2.at (F2 9 (by simp))⟩
  refine am_aload_n dX6_packBlock_23 rfl rfl ?_
  refine am_vv (t_X6_tellTreeC (d - 1) _ hS2 s2 hC2 hT2 haC htl hok hzT (by omega) (by omega) (by omega)) k_X6_tellTreeC l_X6_165 dX6_packBlock_24 rfl rfl rfl rfl hk2 (by omega) (Nat.le_refl _) (Nat.le_refl _) (fun h3 hx => ?_)
  obtain ⟨f3, s3⟩ := hx
  have F3 := F2.tr f3 (by simp)
  have hk3 := (F3 32 (by simp)).trans hk
  have hP3 := hP.at (h' := h3) (fun j a b => F3 j (by simp; omega))
  refine am_aload_n dX6_packBlock_27 rfl rfl ?_
  refine am_aload_n dX6_packBlock_28 rfl rfl ?_
  refine am_get f_X6_59 dX6_packBlock_29 rfl hk3 rfl ?_
  refine am_iconst (v := nI 4) dX6_packBlock_32 rfl (by decide +kernel) ?_
  refine am_iconst (v := nI 0) dX6_packBlock_33 rfl (by decide +kernel) ?_
  rw [show nI 0 = am_bz false from rfl]
  refine am_vv (t_X6_tellTree (d - 1) _ hk3 s3 hP3 (by omega) (fun g => by cases g) (by omega) (by omega) (by omega) haP (by omega) (by omega)) k_X6_tellTree l_X6_161 dX6_packBlock_34 rfl rfl rfl rfl hk3 (by omega) (Nat.le_refl _) (Nat.le_refl _) (fun h4 hx => ?_)
  obtain ⟨f4, s4⟩ := hx
  have F4 := F3.tr f4 (by simp)
  obtain ⟨yf, df, h42, h43, hyd⟩ := hcs
  refine am_iconst (v := nI 0) dX6_packBlock_37 rfl (by decide +kernel) ?_
  refine am_istore_n dX6_packBlock_38 rfl rfl ?_
  have loop : ∀ (r : List (Nat × Nat)) (i : Nat) (s' : List Int32 × Nat) (H : am_H), cs.drop i = r → cdR lenC alC lenP alP r s' = (pbR cs tl lenT alT lenC alC lenP alP s) → i ≤ cs.length → am_fr h H [3, 4, 33] → snk H s' → am_At l D dA m_X6_packBlock d 0 0 0 0 n0 none (am_qv fun h' => am_fr h h' [3, 4, 33] ∧ snk h' (pbR cs tl lenT alT lenC alC lenP alP s)) 0 0 39 [some (am_r 32), some (.inl (nI i))] [] H := by
    intro r
    induction r with
    | nil =>
      intro i s' H hr hR hi hfr hs'
      have hR : s' = _ := hR
      have hkH := (hfr 32 (by simp)).trans hk
      have hil : cs.length ≤ i := by
        have := congrArg List.length hr
        rw [List.length_drop] at this
        have e0 : ([] : List (Nat × Nat)).length = 0 := rfl
        omega
      refine am_iload_n dX6_packBlock_39 rfl rfl ?_
      refine am_aload_n dX6_packBlock_40 rfl rfl ?_
      refine am_get f_X6_69 dX6_packBlock_41 rfl hkH rfl ?_
      refine am_ncmp_ge 92 dX6_packBlock_44 rfl rfl (by omega) (by omega) (fun hc => ?_) (fun hc => ?_)
      · exact am_rv dX6_packBlock_92 rfl rfl rfl ⟨hfr, by rw [← hR]; exact hs'⟩
      · omega
    | cons x r ih =>
      intro i s' H hr hR hi hfr hs'
      have hx0 : cs[i]? = some x := by
        have := congrArg (fun z => z[0]?) hr
        simpa using this
      have hil : i < cs.length := (List.getElem?_eq_some_iff.mp hx0).1
      obtain ⟨ok1, ok2, ok3⟩ := hcok x (List.mem_of_getElem? hx0)
      have hr2 : cs.drop (i + 1) = r := by
        rw [← List.tail_drop, hr]
        rfl
      have hkH := (hfr 32 (by simp)).trans hk
      have h42H := (hfr 42 (by simp)).trans h42
      have h43H := (hfr 43 (by simp)).trans h43
      have hCH := hC.at (h' := H) (fun j a b => hfr j (by simp; omega))
      have hPH := hP.at (h' := H) (fun j a b => hfr j (by simp; omega))
      obtain ⟨e1, e2⟩ := hyd i x hx0
      have hR : cdR lenC alC lenP alP r (if 256 ≤ x.1 then pdR lenP alP x.2 (gsR lenC 510 alC x.1 s') else gsR lenC 510 alC x.1 s') = _ := hR
      have hmn := cdR_mono lenC alC lenP alP r (if 256 ≤ x.1 then pdR lenP alP x.2 (gsR lenC 510 alC x.1 s') else gsR lenC 510 alC x.1 s')
      rw [hR] at hmn
      unfold pbR at hmn
      have g2 := gsR_2 lenC 510 alC x.1 s'
      have g3 : (gsR lenC 510 alC x.1 s').2 ≤ (if 256 ≤ x.1 then pdR lenP alP x.2 (gsR lenC 510 alC x.1 s') else gsR lenC 510 alC x.1 s').2 := by
        split
        · rw [pdR_2]; omega
        · exact Nat.le_refl _
      have hlx : s'.2 + lenC x.1 ≤ 96000 := by
        by_cases z : alC = -1
        · rw [if_pos z] at g2; omega
        · rw [hzC z x.1]; omega
      refine am_iload_n dX6_packBlock_39 rfl rfl ?_
      refine am_aload_n dX6_packBlock_40 rfl rfl ?_
      refine am_get f_X6_69 dX6_packBlock_41 rfl hkH rfl ?_
      refine am_ncmp_ge 92 dX6_packBlock_44 rfl rfl (by omega) (by omega) (fun hc => ?_) (fun hc => ?_)
      · omega
      · refine am_aload_n dX6_packBlock_47 rfl rfl ?_
        refine am_get f_X6_24 dX6_packBlock_48 rfl hkH rfl ?_
        refine am_aload_n dX6_packBlock_51 rfl rfl ?_
        refine am_get f_X6_56 dX6_packBlock_52 rfl hkH rfl ?_
        refine am_aload_n dX6_packBlock_55 rfl rfl ?_
        refine am_get f_X6_62 dX6_packBlock_56 rfl hkH rfl ?_
        refine am_iload_n dX6_packBlock_59 rfl rfl ?_
        refine am_iald dX6_packBlock_60 rfl h42H (by omega) (by omega) ?_
        rw [e1]
        refine am_vv (t_X1_giveSymbol (d - 1) _ hs' hCH (by omega) ok1 ok2 hlx (by omega)) k_X1_giveSymbol l_X6_168 dX6_packBlock_61 rfl rfl rfl rfl hs'.1 (by omega) (Nat.le_refl _) (Nat.le_refl _) (fun h5 hx => ?_)
        obtain ⟨f5, s5⟩ := hx
        have hk5 := (f5 32 (by simp)).trans hkH
        have h425 := (f5 42 (by simp)).trans h42H
        have h435 := (f5 43 (by simp)).trans h43H
        have hP5 := hPH.at (h' := h5) (fun j a b => f5 j (by simp; omega))
        refine am_aload_n dX6_packBlock_64 rfl rfl ?_
        refine am_get f_X6_62 dX6_packBlock_65 rfl hk5 rfl ?_
        refine am_iload_n dX6_packBlock_68 rfl rfl ?_
        refine am_iald dX6_packBlock_69 rfl h425 (by omega) (by omega) ?_
        rw [e1]
        refine am_sipush (v := nI 256) dX6_packBlock_70 rfl (by decide +kernel) ?_
        refine am_ncmp_lt 86 dX6_packBlock_73 rfl rfl (by omega) (by omega) (fun hc => ?_) (fun hc => ?_)
        · rw [if_neg (by omega)] at hR
          refine am_iinc (n := 1) dX6_packBlock_86 rfl rfl (nI_1 i) ?_
          refine am_goto 39 dX6_packBlock_89 rfl rfl ?_
          exact ih (i + 1) _ h5 hr2 hR (by omega) (hfr.tr f5 (by simp)) s5
        · rw [if_pos hc] at hR
          obtain ⟨q1, q2, q3⟩ := ok3 hc
          refine am_aload_n dX6_packBlock_76 rfl rfl ?_
          refine am_aload_n dX6_packBlock_77 rfl rfl ?_
          refine am_get f_X6_66 dX6_packBlock_78 rfl hk5 rfl ?_
          refine am_iload_n dX6_packBlock_81 rfl rfl ?_
          refine am_iald dX6_packBlock_82 rfl h435 (by omega) (by omega) ?_
          rw [e2 (by omega)]
          refine am_vv (t_X6_packDistance (d - 1) _ hk5 s5 hP5 q1 q2 q3 (by omega) (by omega)) k_X6_packDistance l_X6_172 dX6_packBlock_83 rfl rfl rfl rfl hk5 (by omega) (Nat.le_refl _) (Nat.le_refl _) (fun h6 hx => ?_)
          obtain ⟨f6, s6⟩ := hx
          refine am_iinc (n := 1) dX6_packBlock_86 rfl rfl (nI_1 i) ?_
          refine am_goto 39 dX6_packBlock_89 rfl rfl ?_
          exact ih (i + 1) _ h6 hr2 hR (by omega) ((hfr.tr f5 (by simp)).tr f6 (by simp)) s6
  exact loop cs 0 _ h4 rfl rfl (Nat.zero_le _) F4 s4
end PACK4

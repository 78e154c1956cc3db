/-! ===== Packer: what tells C ===== -/
section PACK2
variable {l : Launch} {D : va_G} {dA : Bool → ClassId}
/-- rows that hold what tells C -/
def tlA (h : am_H) (l : List (Nat × Nat)) : Prop := ∃ f g : Nat → Int32, h 44 = some (.inl (false, 510, f)) ∧ h 45 = some (.inl (false, 510, g)) ∧ ∀ i x, l[i]? = some x → f i = nI x.1 ∧ g i = nI x.2
theorem tlA.at {h h' : am_H} {l : List (Nat × Nat)} (x : tlA h l) (e1 : h' 44 = h 44) (e2 : h' 45 = h 45) : tlA h' l := by
  obtain ⟨f, g, x1, x2, x3⟩ := x
  exact ⟨f, g, e1.trans x1, e2.trans x2, x3⟩
def telS (h : am_H) (cc : Int32) (l : List (Nat × Nat)) : Prop := h 32 = some (pkO cc (nI l.length)) ∧ tlA h l ∧ nmA h 9 19 19 (cno (l.map Prod.fst))
/-- a row of z lengths 0 -/
def zt (z : Nat) : List (Nat × Nat) := if 20 ≤ z then [(2, z - 20)] else if 18 < z then [(0, 0), (1, 15)] else if 3 ≤ z then [(1, z - 3)] else List.replicate z (0, 0)
/-- what tells lengths, up to the n-th -/
def tel (len : Nat → Nat) (n : Nat) : Nat → Nat → List (Nat × Nat)
  | 0, _ => []
  | q + 1, i => if n ≤ i then [] else if zrs len i (n - i) = 0 then (len i + 2, 0) :: tel len n q (i + 1) else zt (zrs len i (n - i)) ++ tel len n q (i + zrs len i (n - i))
theorem zrs_le (len : Nat → Nat) : ∀ (k s : Nat), zrs len s k ≤ k
  | 0, _ => Nat.le_refl _
  | k + 1, s => by
    have := zrs_le len k (s + 1)
    unfold zrs
    split <;> omega
theorem zt_len {z : Nat} (h : 0 < z) : (zt z).length ≤ z := by
  unfold zt
  split
  · exact h
  · split
    · show 2 ≤ z; omega
    · split
      · exact h
      · rw [List.length_replicate]; exact Nat.le_refl _
set_option maxHeartbeats 4000000 in
set_option maxRecDepth 100000 in
theorem t_X6_addTeller (d n0 : Nat) {h : am_H} {cc : Int32} {ls : List (Nat × Nat)} (hS : telS h cc ls) {alT : Int32} (hT : h 6 = some (trO 6 alT)) (hT1 : ars h 7 19) (hl : ls.length < 510) {y e : Nat} (hy : y < 19) (hd : 2 ≤ d) : am_Ct l D dA m_X6_addTeller d 0 0 n0 [am_r 32, .inl (nI y), .inl (nI e)] h (am_qv fun h' => am_fr h h' [32, 44, 45, 9] ∧ telS h' cc (ls ++ [(y, e)])) := by
  refine am_Cv (by decide +kernel) rfl rfl ?_
  obtain ⟨hk, ⟨f, g, h44, h45, hfg⟩, uf, h9, huf⟩ := hS
  obtain ⟨l7, hT1⟩ := hT1
  refine am_aload_n dX6_addTeller_0 rfl rfl ?_
  refine am_get f_X6_79 dX6_addTeller_1 rfl hk rfl ?_
  refine am_aload_n dX6_addTeller_4 rfl rfl ?_
  refine am_get f_X6_73 dX6_addTeller_5 rfl hk rfl ?_
  refine am_alen dX6_addTeller_8 rfl h44 ?_
  refine am_ncmp_ge 50 dX6_addTeller_9 rfl rfl (by omega) (by omega) (fun hc => ?_) (fun hc => ?_)
  · omega
  · refine am_aload_n dX6_addTeller_12 rfl rfl ?_
    refine am_get f_X6_73 dX6_addTeller_13 rfl hk rfl ?_
    refine am_aload_n dX6_addTeller_16 rfl rfl ?_
    refine am_get f_X6_79 dX6_addTeller_17 rfl hk rfl ?_
    refine am_iload_n dX6_addTeller_20 rfl rfl ?_
    refine am_iast dX6_addTeller_21 rfl h44 (by omega) (by omega) ?_
    refine am_aload_n dX6_addTeller_22 rfl rfl ?_
    refine am_get f_X6_76 dX6_addTeller_23 rfl ((am_set_ne (by decide)).trans hk) rfl ?_
    refine am_aload_n dX6_addTeller_26 rfl rfl ?_
    refine am_get f_X6_79 dX6_addTeller_27 rfl ((am_set_ne (by decide)).trans hk) rfl ?_
    refine am_iload_n dX6_addTeller_30 rfl rfl ?_
    refine am_iast dX6_addTeller_31 rfl ((am_set_ne (by decide)).trans h45) (by omega) (by omega) ?_
    refine am_aload_n dX6_addTeller_32 rfl rfl ?_
    refine am_dup dX6_addTeller_33 rfl ?_
    refine am_get f_X6_79 dX6_addTeller_34 rfl ((am_set_ne (by decide)).trans ((am_set_ne (by decide)).trans hk)) rfl ?_
    refine am_iconst (v := nI 1) dX6_addTeller_37 rfl (by decide +kernel) ?_
    refine am_iadd dX6_addTeller_38 rfl ?_
    rw [nI_add]
    refine am_put f_X6_79 dX6_addTeller_39 rfl ((am_set_ne (by decide)).trans ((am_set_ne (by decide)).trans hk)) (am_fit_i _) rfl ?_
    refine am_aload_n dX6_addTeller_42 rfl rfl ?_
    refine am_get f_X6_52 dX6_addTeller_43 rfl am_set_eq rfl ?_
    refine am_iload_n dX6_addTeller_46 rfl rfl ?_
    obtain ⟨H1, e1⟩ : ∃ H1, H1 = am_set (am_set (am_set h 44 (.inl (false, 510, upd f ls.length (nI y)))) 45 (.inl (false, 510, upd g ls.length (nI e)))) 32 (.inr (6, ([am_r 1, am_r 33, am_r 5, am_r 34, am_r 37, am_r 6, am_r 14, am_r 22, am_r 42, am_r 43, .inl cc, am_r 44, am_r 45, .inl (nI ls.length)] : List am_V).set 13 (.inl (nI (ls.length + 1))))) := ⟨_, rfl⟩
    rw [← e1]
    have f1 : am_fr h H1 [44, 45, 32] := by rw [e1]; exact ((am_fr.rf.set (by simp)).set (by simp)).set (by simp)
    have z32 : H1 32 = some (pkO cc (nI (ls.length + 1))) := by rw [e1]; exact am_set_eq
    have z44 : H1 44 = some (.inl (false, 510, upd f ls.length (nI y))) := by rw [e1]; exact (am_set_ne (by decide)).trans ((am_set_ne (by decide)).trans am_set_eq)
    have z45 : H1 45 = some (.inl (false, 510, upd g ls.length (nI e))) := by rw [e1]; exact (am_set_ne (by decide)).trans am_set_eq
    have z6 := (f1 6 (by simp)).trans hT
    have z7 := (f1 7 (by simp)).trans hT1
    have z9 := (f1 9 (by simp)).trans h9
    refine am_vv (t_X7_use (d - 1) _ z6 z7 (by omega) z9 (by omega) (s := y) hy) k_X7_use l_X6_126 dX6_addTeller_47 rfl rfl rfl rfl z6 (by omega) (Nat.le_refl _) (Nat.le_refl _) (fun h2 hx => ?_)
    have f2 : am_fr H1 h2 [9] := by rw [hx]; exact am_fr.rf.set (by simp)
    refine am_rv dX6_addTeller_50 rfl rfl rfl ⟨(am_fr.rf.tr f1 (by simp)).tr f2 (by simp), ?_, ⟨_, _, (f2 44 (by simp)).trans z44, (f2 45 (by simp)).trans z45, fun i x hx => ?_⟩, _, by rw [hx]; exact am_set_eq, fun j hj => ?_⟩
    · rw [List.length_append]; exact (f2 32 (by simp)).trans z32
    · rcases snoc_get hx with g1 | ⟨g1, g2⟩
      · have hi : i ≠ ls.length := by have := (List.getElem?_eq_some_iff.mp g1).1; omega
        rw [upd_ne hi, upd_ne hi]
        exact hfg i x g1
      · rw [g1, g2, upd_eq, upd_eq]
        exact ⟨rfl, rfl⟩
    · rw [List.map_append, show [(y, e)].map Prod.fst = [y] from rfl, cno_upd]
      by_cases e9 : j = y
      · subst e9; rw [upd_eq, updN_eq, huf _ hj, nI_add]
      · rw [upd_ne e9, updN_ne e9]; exact huf j hj
set_option maxHeartbeats 4000000 in
set_option maxRecDepth 100000 in
theorem t_X6_addZeros (d n0 : Nat) {h : am_H} {cc : Int32} {ls : List (Nat × Nat)} (hS : telS h cc ls) {alT : Int32} (hT : h 6 = some (trO 6 alT)) (hT1 : ars h 7 19) {z : Nat} (hz0 : 0 < z) (hz : z < 600) (hl : ls.length + z ≤ 510) (hd : 3 ≤ d) : am_Ct l D dA m_X6_addZeros d 0 0 n0 [am_r 32, .inl (nI z)] h (am_qv fun h' => am_fr h h' [32, 44, 45, 9] ∧ telS h' cc (ls ++ zt z)) := by
  refine am_Cv (by decide +kernel) rfl rfl ?_
  refine am_iload_n dX6_addZeros_0 rfl rfl ?_
  refine am_bipush (v := nI 20) dX6_addZeros_1 rfl (by decide +kernel) ?_
  refine am_ncmp_lt 18 dX6_addZeros_3 rfl rfl (by omega) (by omega) (fun h20 => ?_) (fun h20 => ?_)
  · refine am_iload_n dX6_addZeros_18 rfl rfl ?_
    refine am_bipush (v := nI 18) dX6_addZeros_19 rfl (by decide +kernel) ?_
    refine am_ncmp_le 40 dX6_addZeros_21 rfl rfl (by omega) (by omega) (fun h18 => ?_) (fun h18 => ?_)
    · refine am_iload_n dX6_addZeros_40 rfl rfl ?_
      refine am_iconst (v := nI 3) dX6_addZeros_41 rfl (by decide +kernel) ?_
      refine am_ncmp_lt 56 dX6_addZeros_42 rfl rfl (by omega) (by omega) (fun h3 => ?_) (fun h3 => ?_)
      · have ez : zt z = List.replicate z (0, 0) := by unfold zt; rw [if_neg (by omega), if_neg (by omega), if_neg (by omega)]
        refine am_iconst (v := nI 0) dX6_addZeros_56 rfl (by decide +kernel) ?_
        refine am_istore_n dX6_addZeros_57 rfl rfl ?_
        have loop : ∀ (q i : Nat) (H : am_H), i + q = z → am_fr h H [32, 44, 45, 9] → telS H cc (ls ++ List.replicate i (0, 0)) → am_At l D dA m_X6_addZeros d 0 0 0 0 n0 none (am_qv fun h' => am_fr h h' [32, 44, 45, 9] ∧ telS h' cc (ls ++ zt z)) 0 0 58 [some (am_r 32), some (.inl (nI z)), some (.inl (nI i))] [] H := by
          intro q
          induction q with
          | zero =>
            intro i H hi hfr hs
            obtain rfl : i = z := by omega
            refine am_iload_n dX6_addZeros_58 rfl rfl ?_
            refine am_iload_n dX6_addZeros_59 rfl rfl ?_
            refine am_ncmp_ge 75 dX6_addZeros_60 rfl rfl (by omega) (by omega) (fun hc => ?_) (fun hc => ?_)
            · exact am_rv dX6_addZeros_75 rfl rfl rfl ⟨hfr, by rw [ez]; exact hs⟩
            · omega
          | succ q ih =>
            intro i H hi hfr hs
            have hTH := (hfr 6 (by simp)).trans hT
            have hT1H := hT1.at (h' := H) (hfr 7 (by simp))
            refine am_iload_n dX6_addZeros_58 rfl rfl ?_
            refine am_iload_n dX6_addZeros_59 rfl rfl ?_
            refine am_ncmp_ge 75 dX6_addZeros_60 rfl rfl (by omega) (by omega) (fun hc => ?_) (fun hc => ?_)
            · omega
            · refine am_aload_n dX6_addZeros_63 rfl rfl ?_
              refine am_iconst (v := nI 0) dX6_addZeros_64 rfl (by decide +kernel) ?_
              refine am_iconst (v := nI 0) dX6_addZeros_65 rfl (by decide +kernel) ?_
              refine am_vv (t_X6_addTeller (d - 1) _ hs hTH hT1H (by rw [List.length_append, List.length_replicate]; omega) (y := 0) (e := 0) (by omega) (by omega)) k_X6_addTeller l_X6_151 dX6_addZeros_66 rfl rfl rfl rfl hs.1 (by omega) (Nat.le_refl _) (Nat.le_refl _) (fun h1 hx => ?_)
              obtain ⟨f1, s1⟩ := hx
              rw [List.append_assoc, ← List.replicate_succ'] at s1
              refine am_iinc (n := 1) dX6_addZeros_69 rfl rfl (nI_1 i) ?_
              refine am_goto 58 dX6_addZeros_72 rfl rfl ?_
              exact ih (i + 1) h1 (by omega) (hfr.tr f1 (by simp)) s1
        exact loop z 0 h (by omega) am_fr.rf (by rw [show List.replicate 0 ((0, 0) : Nat × Nat) = [] from rfl, List.append_nil]; exact hS)
      · have ez : zt z = [(1, z - 3)] := by unfold zt; rw [if_neg (by omega), if_neg (by omega), if_pos (by omega)]
        refine am_aload_n dX6_addZeros_45 rfl rfl ?_
        refine am_iconst (v := nI 1) dX6_addZeros_46 rfl (by decide +kernel) ?_
        refine am_iload_n dX6_addZeros_47 rfl rfl ?_
        refine am_iconst (v := nI 3) dX6_addZeros_48 rfl (by decide +kernel) ?_
        refine am_isub dX6_addZeros_49 rfl ?_
        rw [pk_sub (by omega)]
        refine am_vv (t_X6_addTeller (d - 1) _ hS hT hT1 (by omega) (y := 1) (e := z - 3) (by omega) (by omega)) k_X6_addTeller l_X6_151 dX6_addZeros_50 rfl rfl rfl rfl hS.1 (by omega) (Nat.le_refl _) (Nat.le_refl _) (fun h1 hx => ?_)
        refine am_goto 75 dX6_addZeros_53 rfl rfl ?_
        exact am_rv dX6_addZeros_75 rfl rfl rfl ⟨hx.1, by rw [ez]; exact hx.2⟩
    · have ez : zt z = [(0, 0), (1, 15)] := by unfold zt; rw [if_neg (by omega), if_pos (by omega)]
      refine am_aload_n dX6_addZeros_24 rfl rfl ?_
      refine am_iconst (v := nI 0) dX6_addZeros_25 rfl (by decide +kernel) ?_
      refine am_iconst (v := nI 0) dX6_addZeros_26 rfl (by decide +kernel) ?_
      refine am_vv (t_X6_addTeller (d - 1) _ hS hT hT1 (by omega) (y := 0) (e := 0) (by omega) (by omega)) k_X6_addTeller l_X6_151 dX6_addZeros_27 rfl rfl rfl rfl hS.1 (by omega) (Nat.le_refl _) (Nat.le_refl _) (fun h1 hx => ?_)
      obtain ⟨f1, s1⟩ := hx
      have hT2 := (f1 6 (by simp)).trans hT
      have hT12 := hT1.at (h' := h1) (f1 7 (by simp))
      refine am_aload_n dX6_addZeros_30 rfl rfl ?_
      refine am_iconst (v := nI 1) dX6_addZeros_31 rfl (by decide +kernel) ?_
      refine am_bipush (v := nI 15) dX6_addZeros_32 rfl (by decide +kernel) ?_
      refine am_vv (t_X6_addTeller (d - 1) _ s1 hT2 hT12 (by rw [List.length_append]; show ls.length + 1 < 510; omega) (y := 1) (e := 15) (by omega) (by omega)) k_X6_addTeller l_X6_151 dX6_addZeros_34 rfl rfl rfl rfl s1.1 (by omega) (Nat.le_refl _) (Nat.le_refl _) (fun h2 hx => ?_)
      refine am_goto 75 dX6_addZeros_37 rfl rfl ?_
      exact am_rv dX6_addZeros_75 rfl rfl rfl ⟨f1.tr hx.1 (by simp), by rw [ez]; have := hx.2; rw [List.append_assoc] at this; exact this⟩
  · have ez : zt z = [(2, z - 20)] := by unfold zt; rw [if_pos (by omega)]
    refine am_aload_n dX6_addZeros_6 rfl rfl ?_
    refine am_iconst (v := nI 2) dX6_addZeros_7 rfl (by decide +kernel) ?_
    refine am_iload_n dX6_addZeros_8 rfl rfl ?_
    refine am_bipush (v := nI 20) dX6_addZeros_9 rfl (by decide +kernel) ?_
    refine am_isub dX6_addZeros_11 rfl ?_
    rw [pk_sub (by omega)]
    refine am_vv (t_X6_addTeller (d - 1) _ hS hT hT1 (by omega) (y := 2) (e := z - 20) (by omega) (by omega)) k_X6_addTeller l_X6_151 dX6_addZeros_12 rfl rfl rfl rfl hS.1 (by omega) (Nat.le_refl _) (Nat.le_refl _) (fun h1 hx => ?_)
    refine am_goto 75 dX6_addZeros_15 rfl rfl ?_
    exact am_rv dX6_addZeros_75 rfl rfl rfl ⟨hx.1, by rw [ez]; exact hx.2⟩
theorem lst_le (len : Nat → Nat) : ∀ n, lst len n ≤ n
  | 0 => Nat.le_refl _
  | n + 1 => by
    have := lst_le len n
    unfold lst
    split <;> omega
set_option maxHeartbeats 4000000 in
set_option maxRecDepth 100000 in
theorem t_X6_gatherTellers (d n0 : Nat) {h : am_H} {cc tc : Int32} (hk : h 32 = some (pkO cc tc)) (h44 : ars h 44 510) (h45 : ars h 45 510) {alT alC : Int32} (hT : h 6 = some (trO 6 alT)) (hT1 : ars h 7 19) (h9 : nmA h 9 19 19 (fun _ => 0)) (hC : h 14 = some (trO 14 alC)) {len : Nat → Nat} (hln : lnA h 15 510 len) (hd : 4 ≤ d) : am_Ct l D dA m_X6_gatherTellers d 0 0 n0 [am_r 32] h (am_qv fun h' => am_fr h h' [32, 44, 45, 9] ∧ telS h' cc (tel len (lst len 510) (lst len 510) 0)) := by
  refine am_Cv (by decide +kernel) rfl rfl ?_
  obtain ⟨f0, h44⟩ := h44
  obtain ⟨g0, h45⟩ := h45
  obtain ⟨lf, h15, hlf⟩ := hln
  have hnle := lst_le len 510
  refine am_aload_n dX6_gatherTellers_0 rfl rfl ?_
  refine am_iconst (v := nI 0) dX6_gatherTellers_1 rfl (by decide +kernel) ?_
  refine am_put f_X6_79 dX6_gatherTellers_2 rfl hk (am_fit_i _) rfl ?_
  refine am_aload_n dX6_gatherTellers_5 rfl rfl ?_
  refine am_get f_X6_56 dX6_gatherTellers_6 rfl am_set_eq rfl ?_
  refine am_vi (t_X7_lengthsInUse (d - 1) _ ((am_set_ne (by decide)).trans hC) ((am_set_ne (by decide)).trans h15) (by omega) (fun s hs => (hlf s hs).1) (fun s hs => (hlf s hs).2)) k_X7_lengthsInUse l_X6_142 dX6_gatherTellers_9 rfl rfl rfl rfl ((am_set_ne (by decide)).trans hC) (by omega) (Nat.le_refl _) (Nat.le_refl _) (fun x h1 hx => ?_)
  obtain ⟨rfl, hh⟩ := hx
  obtain rfl := hh.symm
  obtain ⟨n, en⟩ : ∃ n, n = lst len 510 := ⟨_, rfl⟩
  rw [← en]
  rw [← en] at hnle
  refine am_istore_n dX6_gatherTellers_12 rfl rfl ?_
  refine am_iconst (v := nI 0) dX6_gatherTellers_13 rfl (by decide +kernel) ?_
  refine am_istore_n dX6_gatherTellers_14 rfl rfl ?_
  have loop : ∀ (q i : Nat) (x3 : Option am_V) (H : am_H) (acc : List (Nat × Nat)), n ≤ i + q → i ≤ n → acc ++ tel len n q i = tel len n n 0 → acc.length ≤ i → am_fr h H [32, 44, 45, 9] → telS H cc acc → am_At l D dA m_X6_gatherTellers d 0 0 0 0 n0 none (am_qv fun h' => am_fr h h' [32, 44, 45, 9] ∧ telS h' cc (tel len n n 0)) 0 0 15 [some (am_r 32), some (.inl (nI n)), some (.inl (nI i)), x3] [] H := by
    intro q
    induction q with
    | zero =>
      intro i x3 H acc hq hi hR hl hfr hs
      rw [tel, List.append_nil] at hR
      refine am_iload_n dX6_gatherTellers_15 rfl rfl ?_
      refine am_iload_n dX6_gatherTellers_16 rfl rfl ?_
      refine am_ncmp_ge 71 dX6_gatherTellers_17 rfl rfl (by omega) (by omega) (fun hc => ?_) (fun hc => ?_)
      · exact am_rv dX6_gatherTellers_71 rfl rfl rfl ⟨hfr, by rw [← hR]; exact hs⟩
      · omega
    | succ q ih =>
      intro i x3 H acc hq hi hR hl hfr hs
      have hTH := (hfr 6 (by simp)).trans hT
      have hT1H := hT1.at (h' := H) (hfr 7 (by simp))
      have hCH := (hfr 14 (by simp)).trans hC
      have h15H := (hfr 15 (by simp)).trans h15
      rw [tel] at hR
      refine am_iload_n dX6_gatherTellers_15 rfl rfl ?_
      refine am_iload_n dX6_gatherTellers_16 rfl rfl ?_
      refine am_ncmp_ge 71 dX6_gatherTellers_17 rfl rfl (by omega) (by omega) (fun hc => ?_) (fun hc => ?_)
      · rw [if_pos hc, List.append_nil] at hR
        exact am_rv dX6_gatherTellers_71 rfl rfl rfl ⟨hfr, by rw [← hR]; exact hs⟩
      · rw [if_neg (by omega)] at hR
        have hzl := zrs_le len (n - i) i
        refine am_aload_n dX6_gatherTellers_20 rfl rfl ?_
        refine am_get f_X6_56 dX6_gatherTellers_21 rfl hs.1 rfl ?_
        refine am_iload_n dX6_gatherTellers_24 rfl rfl ?_
        refine am_iload_n dX6_gatherTellers_25 rfl rfl ?_
        refine am_iload_n dX6_gatherTellers_26 rfl rfl ?_
        refine am_isub dX6_gatherTellers_27 rfl ?_
        rw [pk_sub (by omega)]
        refine am_vi (t_X7_zerosFrom (d - 1) _ hCH h15H (by omega) (fun s hs => (hlf s hs).1) (fun s hs => (hlf s hs).2) (by omega) (s := i) (lim := n - i) (by omega)) k_X7_zerosFrom l_X6_145 dX6_gatherTellers_28 rfl rfl rfl rfl hCH (by omega) (Nat.le_refl _) (Nat.le_refl _) (fun x h1 hx => ?_)
        obtain ⟨rfl, hh⟩ := hx
        obtain rfl := hh.symm
        refine am_istore_n dX6_gatherTellers_31 rfl rfl ?_
        refine am_iload_n dX6_gatherTellers_32 rfl rfl ?_
        refine am_nif_ne 54 dX6_gatherTellers_33 rfl rfl (by omega) (fun hc => ?_) (fun hc => ?_)
        · rw [if_neg (by omega)] at hR
          have hzt := zt_len hc
          refine am_aload_n dX6_gatherTellers_54 rfl rfl ?_
          refine am_iload_n dX6_gatherTellers_55 rfl rfl ?_
          refine am_vv (t_X6_addZeros (d - 1) _ hs hTH hT1H hc (by omega) (by omega) (by omega)) k_X6_addZeros l_X6_155 dX6_gatherTellers_56 rfl rfl rfl rfl hs.1 (by omega) (Nat.le_refl _) (Nat.le_refl _) (fun h1 hx => ?_)
          obtain ⟨f1, s1⟩ := hx
          refine am_iload_n dX6_gatherTellers_59 rfl rfl ?_
          refine am_iload_n dX6_gatherTellers_60 rfl rfl ?_
          refine am_iconst (v := nI 1) dX6_gatherTellers_61 rfl (by decide +kernel) ?_
          refine am_isub dX6_gatherTellers_62 rfl ?_
          rw [pk_sub (by omega)]
          refine am_iadd dX6_gatherTellers_63 rfl ?_
          rw [nI_add]
          refine am_istore_n dX6_gatherTellers_64 rfl rfl ?_
          refine am_iinc (n := 1) dX6_gatherTellers_65 rfl rfl (nI_1 _) ?_
          refine am_goto 15 dX6_gatherTellers_68 rfl rfl ?_
          rw [show i + (zrs len i (n - i) - 1) + 1 = i + zrs len i (n - i) by omega]
          exact ih _ _ h1 (acc ++ zt (zrs len i (n - i))) (by omega) (by omega) (by rw [List.append_assoc]; exact hR) (by rw [List.length_append]; omega) (hfr.tr f1 (by simp)) s1
        · rw [if_pos hc] at hR
          have hli := hlf i (by omega)
          refine am_aload_n dX6_gatherTellers_36 rfl rfl ?_
          refine am_aload_n dX6_gatherTellers_37 rfl rfl ?_
          refine am_get f_X6_56 dX6_gatherTellers_38 rfl hs.1 rfl ?_
          refine am_iload_n dX6_gatherTellers_41 rfl rfl ?_
          refine am_vi (t_X7_lengthOf (d - 1) _ hCH h15H (by omega) (by omega) (nI i)) k_X7_lengthOf l_X6_148 dX6_gatherTellers_42 rfl rfl rfl rfl hCH (by omega) (Nat.le_refl _) (Nat.le_refl _) (fun x h1 hx => ?_)
          obtain ⟨rfl, hh⟩ := hx
          obtain rfl := hh.symm
          rw [ix_in (by omega) (by omega)]
          dsimp only
          rw [hli.1]
          refine am_iconst (v := nI 2) dX6_gatherTellers_45 rfl (by decide +kernel) ?_
          refine am_iadd dX6_gatherTellers_46 rfl ?_
          rw [nI_add]
          refine am_iconst (v := nI 0) dX6_gatherTellers_47 rfl (by decide +kernel) ?_
          refine am_vv (t_X6_addTeller (d - 1) _ hs hTH hT1H (by omega) (y := len i + 2) (e := 0) (by omega) (by omega)) k_X6_addTeller l_X6_151 dX6_gatherTellers_48 rfl rfl rfl rfl hs.1 (by omega) (Nat.le_refl _) (Nat.le_refl _) (fun h1 hx => ?_)
          obtain ⟨f1, s1⟩ := hx
          refine am_goto 65 dX6_gatherTellers_51 rfl rfl ?_
          refine am_iinc (n := 1) dX6_gatherTellers_65 rfl rfl (nI_1 i) ?_
          refine am_goto 15 dX6_gatherTellers_68 rfl rfl ?_
          exact ih (i + 1) _ h1 _ (by omega) (by omega) (by rw [List.append_assoc]; exact hR) (by rw [List.length_append]; show _ + 1 ≤ _; omega) (hfr.tr f1 (by simp)) s1
  exact loop n 0 _ _ [] (by omega) (by omega) rfl (Nat.le_refl 0) (am_fr.rf.set (by simp)) ⟨am_set_eq, ⟨f0, g0, (am_set_ne (by decide)).trans h44, (am_set_ne (by decide)).trans h45, fun i x hx => by simp at hx⟩, h9.at (am_set_ne (by decide))⟩
end PACK2

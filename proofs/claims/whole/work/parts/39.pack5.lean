/-! ===== Packer.pack ===== -/
section PACK5
variable {l : Launch} {D : va_G} {dA : Bool → ClassId}
/-- what stands behind b blocks: place, bits given, blocks, codes, copies, lengths -/
def wrS (tp : List Int32) (n : Nat) (ls0 : l3) : Nat → Nat × (List Int32 × Nat) × Nat × Nat × Nat × l3
  | 0 => (0, ([], 0), 0, 0, 0, ls0)
  | b + 1 => if n ≤ (wrS tp n ls0 b).1 then wrS tp n ls0 b else ((gtS tp n (wrS tp n ls0 b).1 400).2, bwR (gtS tp n (wrS tp n ls0 b).1 400).1 (wrS tp n ls0 b).2.1, (wrS tp n ls0 b).2.2.1 + 1, (wrS tp n ls0 b).2.2.2.1 + (gtS tp n (wrS tp n ls0 b).1 400).1.length, (wrS tp n ls0 b).2.2.2.2.1 + (pds (gtS tp n (wrS tp n ls0 b).1 400).1).length, (hlen 19 (bwT (gtS tp n (wrS tp n ls0 b).1 400).1), hlen 510 (bwC (gtS tp n (wrS tp n ls0 b).1 400).1), hlen 14 (bwP (gtS tp n (wrS tp n ls0 b).1 400).1)))
theorem wrS_s {tp : List Int32} {n : Nat} {ls0 : l3} {b : Nat} (h : ¬ n ≤ (wrS tp n ls0 b).1) : wrS tp n ls0 (b + 1) = ((gtS tp n (wrS tp n ls0 b).1 400).2, bwR (gtS tp n (wrS tp n ls0 b).1 400).1 (wrS tp n ls0 b).2.1, (wrS tp n ls0 b).2.2.1 + 1, (wrS tp n ls0 b).2.2.2.1 + (gtS tp n (wrS tp n ls0 b).1 400).1.length, (wrS tp n ls0 b).2.2.2.2.1 + (pds (gtS tp n (wrS tp n ls0 b).1 400).1).length, (hlen 19 (bwT (gtS tp n (wrS tp n ls0 b).1 400).1), hlen 510 (bwC (gtS tp n (wrS tp n ls0 b).1 400).1), hlen 14 (bwP (gtS tp n (wrS tp n ls0 b).1 400).1))) := by
  rw [wrS, if_neg h]
theorem wrS_stop {tp : List Int32} {n : Nat} {ls0 : l3} {b : Nat} (h : n ≤ (wrS tp n ls0 b).1) : ∀ q, wrS tp n ls0 (b + q) = wrS tp n ls0 b
  | 0 => rfl
  | q + 1 => by
    have ih := wrS_stop h q
    show wrS tp n ls0 (b + q + 1) = _
    rw [wrS, ih, if_pos h]
set_option maxRecDepth 100000 in
theorem wrS_ok {tp : List Int32} {n : Nat} {ls0 : l3} (hb : byt tp) (hn : n ≤ tp.length) (hn4 : n ≤ 4000) : ∀ b, (wrS tp n ls0 b).1 ≤ n ∧ (wrS tp n ls0 b).2.1.2 ≤ 12 * (wrS tp n ls0 b).1 + 4010 * (wrS tp n ls0 b).2.2.1 ∧ (wrS tp n ls0 b).2.2.1 ≤ 10 ∧ ((wrS tp n ls0 b).1 < n → 400 * b ≤ (wrS tp n ls0 b).1 ∧ (wrS tp n ls0 b).2.2.1 = b)
  | 0 => ⟨Nat.zero_le _, Nat.zero_le _, Nat.zero_le _, fun _ => ⟨Nat.zero_le _, rfl⟩⟩
  | b + 1 => by
    obtain ⟨i1, i2, i3, i4⟩ := wrS_ok (ls0 := ls0) hb hn hn4 b
    by_cases g : n ≤ (wrS tp n ls0 b).1
    · have e := wrS_stop g 1
      rw [e]
      exact ⟨i1, i2, i3, fun z => by omega⟩
    · have i5 := i4 (by omega)
      rw [wrS_s g]
      have o := gtS_ok hb hn i1 400
      have c := gtS_cost hb hn i1 400
      have l := bwR_le (cs := (gtS tp n (wrS tp n ls0 b).1 400).1) o.2.1 (fun x hx => (gtS_mem hb hn i1 hn4 400 x hx).1) (wrS tp n ls0 b).2.1
      obtain ⟨G, eG⟩ : ∃ G, G = gtS tp n (wrS tp n ls0 b).1 400 := ⟨_, rfl⟩
      obtain ⟨W, eW⟩ : ∃ W, W = wrS tp n ls0 b := ⟨_, rfl⟩
      rw [← eG] at o c l ⊢
      rw [← eW] at i1 i2 i3 i4 i5 o c l g ⊢
      clear eG eW
      refine ⟨o.1, ?_, ?_, fun z => ⟨?_, ?_⟩⟩
      · show (bwR G.1 W.2.1).2 ≤ 12 * G.2 + 4010 * (W.2.2.1 + 1)
        generalize (bwR G.1 W.2.1).2 = B at l ⊢
        generalize lsm (fun x => if 256 ≤ x.1 then 36 else 12) G.1 = M at l c
        omega
      · show W.2.2.1 + 1 ≤ 10
        omega
      · have := o.2.2.2.1 z
        show 400 * (b + 1) ≤ G.2
        omega
      · show W.2.2.1 + 1 = b + 1
        omega
/-- the class's cells -/
def cls (h : am_H) (tp md : List Int32) (op : Bool) (bl co cp bi : Nat) (ls : l3) : Prop := (h 0 = some (.inr (9, [am_r 1, am_r 3, am_r 5, am_r 30, am_r 32]))) ∧ (rws h 1 2 4000 tp) ∧ (rws h 3 4 12000 md) ∧ (h 5 = some (acO op bl co cp bi)) ∧ (tsh h 6 19) ∧ (tsh h 14 510) ∧ (tsh h 22 14) ∧ (lnA h 7 19 ls.1) ∧ (lnA h 15 510 ls.2.1) ∧ (lnA h 23 14 ls.2.2) ∧ (∃ wa, h 30 = some (unO wa)) ∧ (∃ u v : Int32, h 31 = some (.inr (2, [am_r 1, .inl u, .inl v]))) ∧ (∃ cc tc, h 32 = some (pkO cc tc)) ∧ (∃ g : Int32, h 33 = some (.inr (1, [am_r 3, .inl g]))) ∧ (∃ en ln di : Int32, h 34 = some (.inr (4, [am_r 1, am_r 35, am_r 36, .inl en, .inl ln, .inl di]))) ∧ (ars h 35 4096) ∧ (ars h 36 4000) ∧ (mgs h) ∧ (ars h 42 400) ∧ (ars h 43 400) ∧ (ars h 44 510) ∧ (ars h 45 510)
theorem cls.c0 {h : am_H} {tp md : List Int32} {op : Bool} {bl co cp bi : Nat} {ls : l3} (x : cls h tp md op bl co cp bi ls) : h 0 = some (.inr (9, [am_r 1, am_r 3, am_r 5, am_r 30, am_r 32])) := x.1
theorem cls.tpe {h : am_H} {tp md : List Int32} {op : Bool} {bl co cp bi : Nat} {ls : l3} (x : cls h tp md op bl co cp bi ls) : rws h 1 2 4000 tp := x.2.1
theorem cls.prd {h : am_H} {tp md : List Int32} {op : Bool} {bl co cp bi : Nat} {ls : l3} (x : cls h tp md op bl co cp bi ls) : rws h 3 4 12000 md := x.2.2.1
theorem cls.acc {h : am_H} {tp md : List Int32} {op : Bool} {bl co cp bi : Nat} {ls : l3} (x : cls h tp md op bl co cp bi ls) : h 5 = some (acO op bl co cp bi) := x.2.2.2.1
theorem cls.sT {h : am_H} {tp md : List Int32} {op : Bool} {bl co cp bi : Nat} {ls : l3} (x : cls h tp md op bl co cp bi ls) : tsh h 6 19 := x.2.2.2.2.1
theorem cls.sC {h : am_H} {tp md : List Int32} {op : Bool} {bl co cp bi : Nat} {ls : l3} (x : cls h tp md op bl co cp bi ls) : tsh h 14 510 := x.2.2.2.2.2.1
theorem cls.sP {h : am_H} {tp md : List Int32} {op : Bool} {bl co cp bi : Nat} {ls : l3} (x : cls h tp md op bl co cp bi ls) : tsh h 22 14 := x.2.2.2.2.2.2.1
theorem cls.lT {h : am_H} {tp md : List Int32} {op : Bool} {bl co cp bi : Nat} {ls : l3} (x : cls h tp md op bl co cp bi ls) : lnA h 7 19 ls.1 := x.2.2.2.2.2.2.2.1
theorem cls.lC {h : am_H} {tp md : List Int32} {op : Bool} {bl co cp bi : Nat} {ls : l3} (x : cls h tp md op bl co cp bi ls) : lnA h 15 510 ls.2.1 := x.2.2.2.2.2.2.2.2.1
theorem cls.lP {h : am_H} {tp md : List Int32} {op : Bool} {bl co cp bi : Nat} {ls : l3} (x : cls h tp md op bl co cp bi ls) : lnA h 23 14 ls.2.2 := x.2.2.2.2.2.2.2.2.2.1
theorem cls.unp {h : am_H} {tp md : List Int32} {op : Bool} {bl co cp bi : Nat} {ls : l3} (x : cls h tp md op bl co cp bi ls) : ∃ wa, h 30 = some (unO wa) := x.2.2.2.2.2.2.2.2.2.2.1
theorem cls.src {h : am_H} {tp md : List Int32} {op : Bool} {bl co cp bi : Nat} {ls : l3} (x : cls h tp md op bl co cp bi ls) : ∃ u v : Int32, h 31 = some (.inr (2, [am_r 1, .inl u, .inl v])) := x.2.2.2.2.2.2.2.2.2.2.2.1
theorem cls.pck {h : am_H} {tp md : List Int32} {op : Bool} {bl co cp bi : Nat} {ls : l3} (x : cls h tp md op bl co cp bi ls) : ∃ cc tc, h 32 = some (pkO cc tc) := x.2.2.2.2.2.2.2.2.2.2.2.2.1
theorem cls.snk0 {h : am_H} {tp md : List Int32} {op : Bool} {bl co cp bi : Nat} {ls : l3} (x : cls h tp md op bl co cp bi ls) : ∃ g : Int32, h 33 = some (.inr (1, [am_r 3, .inl g])) := x.2.2.2.2.2.2.2.2.2.2.2.2.2.1
theorem cls.fnd {h : am_H} {tp md : List Int32} {op : Bool} {bl co cp bi : Nat} {ls : l3} (x : cls h tp md op bl co cp bi ls) : ∃ en ln di : Int32, h 34 = some (.inr (4, [am_r 1, am_r 35, am_r 36, .inl en, .inl ln, .inl di])) := x.2.2.2.2.2.2.2.2.2.2.2.2.2.2.1
theorem cls.f35 {h : am_H} {tp md : List Int32} {op : Bool} {bl co cp bi : Nat} {ls : l3} (x : cls h tp md op bl co cp bi ls) : ars h 35 4096 := x.2.2.2.2.2.2.2.2.2.2.2.2.2.2.2.1
theorem cls.f36 {h : am_H} {tp md : List Int32} {op : Bool} {bl co cp bi : Nat} {ls : l3} (x : cls h tp md op bl co cp bi ls) : ars h 36 4000 := x.2.2.2.2.2.2.2.2.2.2.2.2.2.2.2.2.1
theorem cls.mrg {h : am_H} {tp md : List Int32} {op : Bool} {bl co cp bi : Nat} {ls : l3} (x : cls h tp md op bl co cp bi ls) : mgs h := x.2.2.2.2.2.2.2.2.2.2.2.2.2.2.2.2.2.1
theorem cls.p42 {h : am_H} {tp md : List Int32} {op : Bool} {bl co cp bi : Nat} {ls : l3} (x : cls h tp md op bl co cp bi ls) : ars h 42 400 := x.2.2.2.2.2.2.2.2.2.2.2.2.2.2.2.2.2.2.1
theorem cls.p43 {h : am_H} {tp md : List Int32} {op : Bool} {bl co cp bi : Nat} {ls : l3} (x : cls h tp md op bl co cp bi ls) : ars h 43 400 := x.2.2.2.2.2.2.2.2.2.2.2.2.2.2.2.2.2.2.2.1
theorem cls.p44 {h : am_H} {tp md : List Int32} {op : Bool} {bl co cp bi : Nat} {ls : l3} (x : cls h tp md op bl co cp bi ls) : ars h 44 510 := x.2.2.2.2.2.2.2.2.2.2.2.2.2.2.2.2.2.2.2.2.1
theorem cls.p45 {h : am_H} {tp md : List Int32} {op : Bool} {bl co cp bi : Nat} {ls : l3} (x : cls h tp md op bl co cp bi ls) : ars h 45 510 := x.2.2.2.2.2.2.2.2.2.2.2.2.2.2.2.2.2.2.2.2.2
theorem am_fr.mono {h h' : am_H} {F F' : List Nat} (a : am_fr h h' F) (s : ∀ j, j ∈ F → j ∈ F') : am_fr h h' F' := fun j hj => a j (fun g => hj (s j g))
theorem wpd.nm {h : am_H} {t m : Nat} (a : wpd h t m) : nmA h (t + 3) m m (fun _ => 0) := by
  obtain ⟨-, -, g, e, f⟩ := a
  exact ⟨g, e, f⟩
theorem wdy.tsh {h : am_H} {t m : Nat} {al : Int32} {len : Nat → Nat} (a : wdy h t m al len) : h t = some (trO t al) := a.1
set_option maxHeartbeats 4000000 in
set_option maxRecDepth 100000 in
theorem t_X6_pack (d n0 : Nat) {h : am_H} {tp md : List Int32} {op : Bool} {bl co cp bi : Nat} {ls0 : l3} (hc : cls h tp md op bl co cp bi ls0) (htl : tp.length ≤ 4000) (hbt : byt tp) {n : Nat} (hn : n ≤ tp.length) (hd : 6 ≤ d) : am_Ct l D dA m_X6_pack d 0 0 n0 [am_r 32, .inl (nI n)] h (am_qv fun h' => cls h' tp (wrS tp n ls0 n).2.1.1 true (wrS tp n ls0 n).2.2.1 (wrS tp n ls0 n).2.2.2.1 (wrS tp n ls0 n).2.2.2.2.1 (wrS tp n ls0 n).2.1.2 (wrS tp n ls0 n).2.2.2.2.2 ∧ (wrS tp n ls0 n).2.1.1.length = ((wrS tp n ls0 n).2.1.2 + 7) / 8 ∧ ∀ j, 46 ≤ j ∨ j = 2 → h' j = h j) := by
  refine am_Cv (by decide +kernel) rfl rfl ?_
  obtain ⟨cc, tc, hk⟩ := hc.pck
  obtain ⟨g0, hs0⟩ := hc.snk0
  obtain ⟨en0, ln0, di0, hf0⟩ := hc.fnd
  refine am_aload_n dX6_pack_0 rfl rfl ?_
  refine am_get f_X6_24 dX6_pack_1 rfl hk rfl ?_
  refine am_vv (t_X1_open (d - 1) _ hs0 hc.prd (by omega)) k_X1_open l_X6_82 dX6_pack_4 rfl rfl rfl rfl hs0 (by omega) (Nat.le_refl _) (Nat.le_refl _) (fun h1 hx => ?_)
  obtain ⟨f1, s1⟩ := hx
  have hk1 := (f1 32 (by simp)).trans hk
  have ha1 := (f1 5 (by simp)).trans hc.acc
  refine am_aload_n dX6_pack_7 rfl rfl ?_
  refine am_get f_X6_15 dX6_pack_8 rfl hk1 rfl ?_
  refine am_vv (t_X0_open (d - 1) _ ha1) k_X0_open l_X6_85 dX6_pack_11 rfl rfl rfl rfl ha1 (by omega) (Nat.le_refl _) (Nat.le_refl _) (fun h2 hx => ?_)
  have f2 : am_fr h1 h2 [5] := by rw [hx]; exact (am_fr.rf (F := [5])).set (by simp)
  have ha2 : h2 5 = some (acO true 0 0 0 0) := by rw [hx]; exact am_set_eq
  have F2 : am_fr h h2 [3, 33, 5] := (f1.mono (by simp)).tr f2 (by simp)
  have s2 : snk h2 ([], 0) := ⟨(f2 33 (by simp)).trans s1.1, s1.2.1.at (f2 3 (by simp)) (f2 4 (by simp)), s1.2.2⟩
  have hk2 := (F2 32 (by simp)).trans hk
  have hf2 := (F2 34 (by simp)).trans hf0
  clear hx
  refine am_aload_n dX6_pack_14 rfl rfl ?_
  refine am_get f_X6_33 dX6_pack_15 rfl hk2 rfl ?_
  refine am_iload_n dX6_pack_18 rfl rfl ?_
  refine am_vv (t_X4_open (d - 1) _ hf2 (hc.f35.at (F2 35 (by simp))) (hc.f36.at (F2 36 (by simp))) (hc.tpe.at (F2 1 (by simp)) (F2 2 (by simp))) htl hn (by omega)) k_X4_open l_X6_86 dX6_pack_19 rfl rfl rfl rfl hf2 (by omega) (Nat.le_refl _) (Nat.le_refl _) (fun h3 hx => ?_)
  obtain ⟨f3, hf3, ch3⟩ := hx
  have F3 : am_fr h h3 [3, 33, 5, 34, 35, 36] := (F2.mono (by simp)).tr f3 (by simp)
  refine am_iconst (v := nI 0) dX6_pack_22 rfl (by decide +kernel) ?_
  refine am_istore_n dX6_pack_23 rfl rfl ?_
  refine am_iconst (v := nI 0) dX6_pack_24 rfl (by decide +kernel) ?_
  refine am_istore_n dX6_pack_25 rfl rfl ?_
  have loop : ∀ (q b : Nat) (H : am_H), b + q = n → cls H tp (wrS tp n ls0 b).2.1.1 true (wrS tp n ls0 b).2.2.1 (wrS tp n ls0 b).2.2.2.1 (wrS tp n ls0 b).2.2.2.2.1 0 (wrS tp n ls0 b).2.2.2.2.2 → snk H (wrS tp n ls0 b).2.1 → (∃ ln di, H 34 = some (.inr (4, [am_r 1, am_r 35, am_r 36, .inl (nI n), .inl ln, .inl di]))) → chs H tp n → (∀ j, 46 ≤ j ∨ j = 2 → H j = h j) → am_At l D dA m_X6_pack d 0 0 0 0 n0 none (am_qv fun h' => cls h' tp (wrS tp n ls0 n).2.1.1 true (wrS tp n ls0 n).2.2.1 (wrS tp n ls0 n).2.2.2.1 (wrS tp n ls0 n).2.2.2.2.1 (wrS tp n ls0 n).2.1.2 (wrS tp n ls0 n).2.2.2.2.2 ∧ (wrS tp n ls0 n).2.1.1.length = ((wrS tp n ls0 n).2.1.2 + 7) / 8 ∧ ∀ j, 46 ≤ j ∨ j = 2 → h' j = h j) 0 0 26 [some (am_r 32), some (.inl (nI n)), some (.inl (nI (wrS tp n ls0 b).1)), some (.inl (nI b))] [] H := by
    intro q
    induction q with
    | zero =>
      intro b H hbq cl sn hfd hch hhi
      have hbn : b = n := by omega
      subst hbn
      obtain ⟨cc', tc', hkH⟩ := cl.pck
      have ok := wrS_ok (ls0 := ls0) hbt hn (by omega) b
      refine am_iload_n dX6_pack_26 rfl rfl ?_
      refine am_iload_n dX6_pack_27 rfl rfl ?_
      refine am_ncmp_ge 97 dX6_pack_28 rfl rfl (by omega) (by omega) (fun hc => ?_) (fun hc => ?_)
      · skip
        refine am_aload_n dX6_pack_97 rfl rfl ?_
        refine am_get f_X6_15 dX6_pack_98 rfl hkH rfl ?_
        refine am_aload_n dX6_pack_101 rfl rfl ?_
        refine am_get f_X6_24 dX6_pack_102 rfl hkH rfl ?_
        refine am_vi (t_X1_given (d - 1) _ sn) k_X1_given l_X6_105 dX6_pack_105 rfl rfl rfl rfl sn.1 (by omega) (Nat.le_refl _) (Nat.le_refl _) (fun x h1 hx => ?_)
        obtain ⟨rfl, hh⟩ := hx
        obtain rfl := hh.symm
        refine am_vv (t_X0_close (d - 1) _ cl.acc _) k_X0_close l_X6_109 dX6_pack_108 rfl rfl rfl rfl cl.acc (by omega) (Nat.le_refl _) (Nat.le_refl _) (fun h5 hx => ?_)
        have f5 : ∀ j, j ≠ 5 → h5 j = H j := fun j hj => by rw [hx]; exact am_set_ne hj
        have a5 := (congrFun hx 5).trans am_set_eq
        clear hx
        have CL : cls h5 tp _ true _ _ _ _ _ := ⟨(f5 _ (by omega)).trans cl.c0, cl.tpe.at (f5 _ (by omega)) (f5 _ (by omega)), cl.prd.at (f5 _ (by omega)) (f5 _ (by omega)), a5, cl.sT.at (fun j _ _ => f5 j (by omega)), cl.sC.at (fun j _ _ => f5 j (by omega)), cl.sP.at (fun j _ _ => f5 j (by omega)), cl.lT.at (f5 _ (by omega)), cl.lC.at (f5 _ (by omega)), cl.lP.at (f5 _ (by omega)), by rw [f5 _ (by omega)]; exact cl.unp, by rw [f5 _ (by omega)]; exact cl.src, by rw [f5 _ (by omega)]; exact cl.pck, by rw [f5 _ (by omega)]; exact cl.snk0, by rw [f5 _ (by omega)]; exact cl.fnd, cl.f35.at (f5 _ (by omega)), cl.f36.at (f5 _ (by omega)), cl.mrg.at (fun j _ _ => f5 j (by omega)), cl.p42.at (f5 _ (by omega)), cl.p43.at (f5 _ (by omega)), cl.p44.at (f5 _ (by omega)), cl.p45.at (f5 _ (by omega))⟩
        exact am_rv dX6_pack_111 rfl rfl rfl ⟨CL, sn.2.2, fun j hj => (f5 j (by omega)).trans (hhi j hj)⟩
      · omega
    | succ q ih =>
      intro b H hbq cl sn hfd hch hhi
      obtain ⟨cc', tc', hkH⟩ := cl.pck
      have ok := wrS_ok (ls0 := ls0) hbt hn (by omega) b
      have okn := wrS_ok (ls0 := ls0) hbt hn (by omega) (b + 1)
      refine am_iload_n dX6_pack_26 rfl rfl ?_
      refine am_iload_n dX6_pack_27 rfl rfl ?_
      refine am_ncmp_ge 97 dX6_pack_28 rfl rfl (by omega) (by omega) (fun hc => ?_) (fun hc => ?_)
      · omega
      · refine am_iload_n dX6_pack_31 rfl rfl ?_
        refine am_iload_n dX6_pack_32 rfl rfl ?_
        refine am_ncmp_ge 97 dX6_pack_33 rfl rfl (by omega) (by omega) (fun hc => ?_) (fun hc => ?_)
        · have est : wrS tp n ls0 n = (wrS tp n ls0 b) := by have z := wrS_stop hc (n - b); rw [show b + (n - b) = n by omega] at z; exact z
          refine am_aload_n dX6_pack_97 rfl rfl ?_
          refine am_get f_X6_15 dX6_pack_98 rfl hkH rfl ?_
          refine am_aload_n dX6_pack_101 rfl rfl ?_
          refine am_get f_X6_24 dX6_pack_102 rfl hkH rfl ?_
          refine am_vi (t_X1_given (d - 1) _ sn) k_X1_given l_X6_105 dX6_pack_105 rfl rfl rfl rfl sn.1 (by omega) (Nat.le_refl _) (Nat.le_refl _) (fun x h1 hx => ?_)
          obtain ⟨rfl, hh⟩ := hx
          obtain rfl := hh.symm
          refine am_vv (t_X0_close (d - 1) _ cl.acc _) k_X0_close l_X6_109 dX6_pack_108 rfl rfl rfl rfl cl.acc (by omega) (Nat.le_refl _) (Nat.le_refl _) (fun h5 hx => ?_)
          have f5 : ∀ j, j ≠ 5 → h5 j = H j := fun j hj => by rw [hx]; exact am_set_ne hj
          have a5 := (congrFun hx 5).trans am_set_eq
          clear hx
          have CL : cls h5 tp _ true _ _ _ _ _ := ⟨(f5 _ (by omega)).trans cl.c0, cl.tpe.at (f5 _ (by omega)) (f5 _ (by omega)), cl.prd.at (f5 _ (by omega)) (f5 _ (by omega)), a5, cl.sT.at (fun j _ _ => f5 j (by omega)), cl.sC.at (fun j _ _ => f5 j (by omega)), cl.sP.at (fun j _ _ => f5 j (by omega)), cl.lT.at (f5 _ (by omega)), cl.lC.at (f5 _ (by omega)), cl.lP.at (f5 _ (by omega)), by rw [f5 _ (by omega)]; exact cl.unp, by rw [f5 _ (by omega)]; exact cl.src, by rw [f5 _ (by omega)]; exact cl.pck, by rw [f5 _ (by omega)]; exact cl.snk0, by rw [f5 _ (by omega)]; exact cl.fnd, cl.f35.at (f5 _ (by omega)), cl.f36.at (f5 _ (by omega)), cl.mrg.at (fun j _ _ => f5 j (by omega)), cl.p42.at (f5 _ (by omega)), cl.p43.at (f5 _ (by omega)), cl.p44.at (f5 _ (by omega)), cl.p45.at (f5 _ (by omega))⟩
          exact am_rv dX6_pack_111 rfl rfl rfl ⟨by rw [est]; exact CL, by rw [est]; exact sn.2.2, fun j hj => (f5 j (by omega)).trans (hhi j hj)⟩
        · have hns : ¬ n ≤ (wrS tp n ls0 b).1 := by omega
          have est := wrS_s hns
          refine am_aload_n dX6_pack_36 rfl rfl ?_
          refine am_get f_X6_15 dX6_pack_37 rfl hkH rfl ?_
          refine am_vv (t_X0_beginBlock (d - 1) _ cl.acc cl.sT cl.sC cl.sP (by omega)) k_X0_beginBlock l_X6_88 dX6_pack_40 rfl rfl rfl rfl cl.acc (by omega) (Nat.le_refl _) (Nat.le_refl _) (fun h4 hx => ?_)
          obtain ⟨f4, ha4, ⟨wT4, sT4⟩, ⟨wC4, sC4⟩, ⟨wP4, sP4⟩⟩ := hx
          have hk4 := (f4 32 (by simp)).trans hkH
          obtain ⟨ln', di', hfH⟩ := hfd
          have hf4 := (f4 34 (by simp)).trans hfH
          obtain ⟨hx1, ea, hx3, hx4⟩ := hch
          have ch4 : chs h4 tp n := ⟨hx1.at (f4 35 (by simp)), ea, (f4 36 (by simp)).trans hx3, hx4⟩
          have tp4 := cl.tpe.at (f4 1 (by simp)) (f4 2 (by simp))
          refine am_aload_n dX6_pack_43 rfl rfl ?_
          refine am_iload_n dX6_pack_44 rfl rfl ?_
          refine am_iload_n dX6_pack_45 rfl rfl ?_
          refine am_vi (t_X6_gatherCodes (d - 1) _ hk4 hf4 tp4 htl hbt hn ch4 (cl.p42.at (f4 42 (by simp))) (cl.p43.at (f4 43 (by simp))) wC4.1 sC4.2.1 wC4.nm wP4.1 sP4.2.1 wP4.nm ha4 ok.1 (by omega)) k_X6_gatherCodes l_X6_91 dX6_pack_46 rfl rfl rfl rfl hk4 (by omega) (Nat.le_refl _) (Nat.le_refl _) (fun x h5 hx => ?_)
          obtain ⟨rfl, f5, hk5, hf5, cd5, u5, v5, ha5⟩ := hx
          have go := gtS_ok hbt hn ok.1 400
          have gm := gtS_mem hbt hn ok.1 (by omega) 400
          obtain ⟨G, eG⟩ : ∃ G, G = gtS tp n (wrS tp n ls0 b).1 400 := ⟨_, rfl⟩
          rw [← eG] at go gm hk5 cd5 u5 v5 ha5 est ⊢
          obtain ⟨w1, w2, w3, w4, w5, w6⟩ := bw_ok (cs := G.1) go.2.1 (fun x hx => (gm x hx).1)
          have C5 : h5 14 = some (trO 14 (-1)) := (f5 14 (by simp)).trans wC4.1
          have sC5 : tsh h5 14 510 := by
            obtain ⟨a0, a1, a2, a3, a4, a5, a6, a7⟩ := sC4
            exact ⟨⟨_, C5⟩, a1.at (f5 _ (by simp)), a2.at (f5 _ (by simp)), u5.ars, a4.at (f5 _ (by simp)), a5.at (f5 _ (by simp)), a6.at (f5 _ (by simp)), a7.at (f5 _ (by simp))⟩
          have m4 : mgs h5 := cl.mrg.at (fun j _ _ => (f5 j (by simp; omega)).trans (f4 j (by simp; omega)))
          obtain ⟨x1, x2, x3, x4, m5⟩ := m4.1
          refine am_istore_n dX6_pack_49 rfl rfl ?_
          refine am_aload_n dX6_pack_50 rfl rfl ?_
          refine am_get f_X6_42 dX6_pack_51 rfl hk5 rfl ?_
          refine am_aload_n dX6_pack_54 rfl rfl ?_
          refine am_get f_X6_56 dX6_pack_55 rfl hk5 rfl ?_
          refine am_vv (t_X5_shape (d - 1) _ m4 (t := 14) (m := 510) (by omega) (by omega) (by omega) C5 sC5 (wC4.ln.at (f5 _ (by simp))) (w := bwC G.1) u5 w1 (by omega)) k_X5_shape l_X6_95 dX6_pack_58 rfl rfl rfl rfl m5 (by omega) (Nat.le_refl _) (Nat.le_refl _) (fun h6 hx => ?_)
          obtain ⟨f6, m6, C6, sC6⟩ := hx
          have F6 := (f5.mono (F' := [32, 34, 42, 43, 5, 17, 25, 37, 38, 39, 40, 41, 14, 15, 16, 18, 19, 20, 21]) (by simp)).tr f6 (by simp)
          have hk6 := (f6 32 (by simp)).trans hk5
          have P6 : h6 22 = some (trO 22 (-1)) := (f6 22 (by simp)).trans ((f5 22 (by simp)).trans wP4.1)
          have v6 := v5.at (f6 25 (by simp))
          have sP6 : tsh h6 22 14 := by
            obtain ⟨a0, a1, a2, a3, a4, a5, a6, a7⟩ := sP4
            exact ⟨⟨_, P6⟩, a1.at (F6 _ (by simp)), a2.at (F6 _ (by simp)), v6.ars, a4.at (F6 _ (by simp)), a5.at (F6 _ (by simp)), a6.at (F6 _ (by simp)), a7.at (F6 _ (by simp))⟩
          obtain ⟨y1, y2, y3, y4, m6'⟩ := m6.1
          refine am_aload_n dX6_pack_61 rfl rfl ?_
          refine am_get f_X6_42 dX6_pack_62 rfl hk6 rfl ?_
          refine am_aload_n dX6_pack_65 rfl rfl ?_
          refine am_get f_X6_59 dX6_pack_66 rfl hk6 rfl ?_
          refine am_vv (t_X5_shape (d - 1) _ m6 (t := 22) (m := 14) (by omega) (by omega) (by omega) P6 sP6 (wP4.ln.at (F6 _ (by simp))) (w := bwP G.1) v6 w2 (by omega)) k_X5_shape l_X6_95 dX6_pack_69 rfl rfl rfl rfl m6' (by omega) (Nat.le_refl _) (Nat.le_refl _) (fun h7 hx => ?_)
          obtain ⟨f7, m7, P7, sP7⟩ := hx
          have F7 := (F6.mono (F' := [32, 34, 42, 43, 5, 17, 25, 37, 38, 39, 40, 41, 14, 15, 16, 18, 19, 20, 21, 22, 23, 24, 26, 27, 28, 29]) (by simp)).tr f7 (by simp)
          have hk7 := (f7 32 (by simp)).trans hk6
          have C7 := C6.at (h' := h7) (fun j a b => f7 j (by simp; omega))
          have sC7 := sC6.at (h' := h7) (fun j a b => f7 j (by simp; omega))
          have wT7 := wT4.at (h' := h7) (fun j a b => F7 j (by simp; omega))
          have sT7 := sT4.at (h' := h7) (fun j a b => F7 j (by simp; omega))
          refine am_aload_n dX6_pack_72 rfl rfl ?_
          refine am_vv (t_X6_gatherTellers (d - 1) _ hk7 ((cl.p44.at (f4 44 (by simp))).at (F7 44 (by simp))) ((cl.p45.at (f4 45 (by simp))).at (F7 45 (by simp))) wT7.1 sT7.2.1 wT7.nm C7.1 C7.2.1 (by omega)) k_X6_gatherTellers l_X6_99 dX6_pack_73 rfl rfl rfl rfl hk7 (by omega) (Nat.le_refl _) (Nat.le_refl _) (fun h8 hx => ?_)
          obtain ⟨f8, t8⟩ := hx
          have F8 := (F7.mono (F' := [32, 34, 42, 43, 5, 17, 25, 37, 38, 39, 40, 41, 14, 15, 16, 18, 19, 20, 21, 22, 23, 24, 26, 27, 28, 29, 44, 45, 9]) (by simp)).tr f8 (by simp)
          have t8 : telS h8 (nI G.1.length) (btl G.1) := t8
          have hk8 := t8.1
          have T8 : h8 6 = some (trO 6 (-1)) := (f8 6 (by simp)).trans wT7.1
          have sT8 : tsh h8 6 19 := by
            obtain ⟨a0, a1, a2, a3, a4, a5, a6, a7⟩ := sT7
            exact ⟨⟨_, T8⟩, a1.at (f8 _ (by simp)), a2.at (f8 _ (by simp)), t8.2.2.ars, a4.at (f8 _ (by simp)), a5.at (f8 _ (by simp)), a6.at (f8 _ (by simp)), a7.at (f8 _ (by simp))⟩
          have m8 : mgs h8 := m7.at (fun j _ _ => f8 j (by simp; omega))
          obtain ⟨z1, z2, z3, z4, m8'⟩ := m8.1
          refine am_aload_n dX6_pack_76 rfl rfl ?_
          refine am_get f_X6_42 dX6_pack_77 rfl hk8 rfl ?_
          refine am_aload_n dX6_pack_80 rfl rfl ?_
          refine am_get f_X6_52 dX6_pack_81 rfl hk8 rfl ?_
          refine am_vv (t_X5_shape (d - 1) _ m8 (t := 6) (m := 19) (by omega) (by omega) (by omega) T8 sT8 (wT7.ln.at (f8 _ (by simp))) (w := bwT G.1) t8.2.2 w3 (by omega)) k_X5_shape l_X6_95 dX6_pack_84 rfl rfl rfl rfl m8' (by omega) (Nat.le_refl _) (Nat.le_refl _) (fun h9 hx => ?_)
          obtain ⟨f9, m9, T9, sT9⟩ := hx
          have F9 := (F8.mono (F' := [32, 34, 42, 43, 5, 17, 25, 37, 38, 39, 40, 41, 14, 15, 16, 18, 19, 20, 21, 22, 23, 24, 26, 27, 28, 29, 44, 45, 9, 6, 7, 8, 10, 11, 12, 13]) (by simp)).tr f9 (by simp)
          have hk9 := (f9 32 (by simp)).trans hk8
          have t9 : telS h9 (nI G.1.length) (btl G.1) := ⟨hk9, t8.2.1.at (f9 44 (by simp)) (f9 45 (by simp)), t8.2.2.at (f9 9 (by simp))⟩
          have C9 := C7.at (h' := h9) (fun j a b => (f9 j (by simp; omega)).trans (f8 j (by simp; omega)))
          have sC9 := sC7.at (h' := h9) (fun j a b => (f9 j (by simp; omega)).trans (f8 j (by simp; omega)))
          have P9 := P7.at (h' := h9) (fun j a b => (f9 j (by simp; omega)).trans (f8 j (by simp; omega)))
          have sP9 := sP7.at (h' := h9) (fun j a b => (f9 j (by simp; omega)).trans (f8 j (by simp; omega)))
          have cd9 : cdsA h9 G.1 := by
            obtain ⟨q1, q2, q3, q4, q5⟩ := cd5
            exact ⟨q1, q2, (f9 42 (by simp)).trans ((f8 42 (by simp)).trans ((f7 42 (by simp)).trans ((f6 42 (by simp)).trans q3))), (f9 43 (by simp)).trans ((f8 43 (by simp)).trans ((f7 43 (by simp)).trans ((f6 43 (by simp)).trans q4))), q5⟩
          have sn9 : snk h9 (wrS tp n ls0 b).2.1 := ⟨(F9 33 (by simp)).trans ((f4 33 (by simp)).trans sn.1), (sn.2.1.at (f4 3 (by simp)) (f4 4 (by simp))).at (F9 3 (by simp)) (F9 4 (by simp)), sn.2.2⟩
          have lC := hlen_le (m := 510) (w := bwC G.1) (by omega) w1
          have lP := hlen_le (m := 14) (w := bwP G.1) (by omega) w2
          have lT := hlen_le (m := 19) (w := bwT G.1) (by omega) w3
          have bits : (bwR G.1 (wrS tp n ls0 b).2.1).2 + 400 ≤ 96000 := by
            rw [est] at okn
            have := okn.2.1
            have := okn.2.2.1
            have := okn.1
            dsimp only at *
            omega
          refine am_aload_n dX6_pack_87 rfl rfl ?_
          refine am_vv (t_X6_packBlock (d - 1) _ t9 cd9 sn9 T9 C9 P9 (fun z => (hal_one (by omega) z).1) (fun z => (hal_one (by omega) z).1) (fun z => (hal_one (by omega) z).1) w4 (fun x hx => ⟨(w5 x hx).1, (w5 x hx).2, fun z => (hlen_pos (by omega) (by omega) z (w5 x hx).1 (cno_pos (List.mem_map_of_mem hx))).2⟩) (fun z => (hal_one (by omega) z).2) (fun z => (hal_one (by omega) z).2) (fun y => by have := lT y; omega) (fun y => by have := lP y; omega) go.2.1 (fun x hx => ⟨(gm x hx).1, fun z => (hlen_pos (by omega) (by omega) z (gm x hx).1 (cno_pos (List.mem_map_of_mem hx))).2, fun z => ⟨(gm x hx).2.2.1 z, by have := (gm x hx).2.1; omega, fun z2 => (hlen_pos (by omega) (by omega) z2 (rk_lt _) (cno_pos (pds_mem hx ((gm x hx).2.2.1 z)))).2⟩⟩) bits (by omega)) k_X6_packBlock l_X6_102 dX6_pack_88 rfl rfl rfl rfl hk9 (by omega) (Nat.le_refl _) (Nat.le_refl _) (fun h10 hx => ?_)
          obtain ⟨f10, s10⟩ := hx
          have F10 := (F9.mono (F' := 3 :: 4 :: 33 :: [32, 34, 42, 43, 5, 17, 25, 37, 38, 39, 40, 41, 14, 15, 16, 18, 19, 20, 21, 22, 23, 24, 26, 27, 28, 29, 44, 45, 9, 6, 7, 8, 10, 11, 12, 13]) (by simp)).tr f10 (by simp)
          have F11 := (f4.mono (F' := 3 :: 4 :: 33 :: [32, 34, 42, 43, 5, 17, 25, 37, 38, 39, 40, 41, 14, 15, 16, 18, 19, 20, 21, 22, 23, 24, 26, 27, 28, 29, 44, 45, 9, 6, 7, 8, 10, 11, 12, 13]) (by simp)).tr F10 (by simp)
          have s10 : snk h10 (bwR G.1 (wrS tp n ls0 b).2.1) := s10
          have T10 := T9.at (h' := h10) (fun j a b => f10 j (by simp; omega))
          have C10 := C9.at (h' := h10) (fun j a b => f10 j (by simp; omega))
          have P10 := P9.at (h' := h10) (fun j a b => f10 j (by simp; omega))
          have hf10 : ∃ ln di, h10 34 = some (.inr (4, [am_r 1, am_r 35, am_r 36, .inl (nI n), .inl ln, .inl di])) := by
            obtain ⟨a1, a2, a3⟩ := hf5
            exact ⟨a1, a2, (f10 34 (by simp)).trans ((f9 34 (by simp)).trans ((f8 34 (by simp)).trans ((f7 34 (by simp)).trans ((f6 34 (by simp)).trans a3))))⟩
          have ha10 := (f10 5 (by simp)).trans ((f9 5 (by simp)).trans ((f8 5 (by simp)).trans ((f7 5 (by simp)).trans ((f6 5 (by simp)).trans ha5))))
          have cl10 : cls h10 tp (bwR G.1 (wrS tp n ls0 b).2.1).1 true _ _ _ 0 (hlen 19 (bwT G.1), hlen 510 (bwC G.1), hlen 14 (bwP G.1)) := ⟨(F11 0 (by simp)).trans cl.c0, cl.tpe.at (F11 1 (by simp)) (F11 2 (by simp)), s10.2.1, ha10, sT9.at (h' := h10) (fun j a b => f10 j (by simp; omega)), sC9.at (h' := h10) (fun j a b => f10 j (by simp; omega)), sP9.at (h' := h10) (fun j a b => f10 j (by simp; omega)), T10.2.1, C10.2.1, P10.2.1, by rw [F11 30 (by simp)]; exact cl.unp, by rw [F11 31 (by simp)]; exact cl.src, ⟨_, _, (f10 32 (by simp)).trans hk9⟩, ⟨_, s10.1⟩, (by obtain ⟨a1, a2, a3⟩ := hf10; exact ⟨_, a1, a2, a3⟩), cl.f35.at (F11 35 (by simp)), cl.f36.at (F11 36 (by simp)), m9.at (fun j a b => f10 j (by simp; omega)), (by obtain ⟨q1, q2, q3, q4, q5⟩ := cd9; exact ⟨q1, (f10 42 (by simp)).trans q3⟩), (by obtain ⟨q1, q2, q3, q4, q5⟩ := cd9; exact ⟨q2, (f10 43 (by simp)).trans q4⟩), (by obtain ⟨q1, q2, q3, q4, q5⟩ := t9.2.1; exact ⟨q1, (f10 44 (by simp)).trans q3⟩), (by obtain ⟨q1, q2, q3, q4, q5⟩ := t9.2.1; exact ⟨q2, (f10 45 (by simp)).trans q4⟩)⟩
          refine am_iinc (n := 1) dX6_pack_91 rfl rfl (nI_1 b) ?_
          refine am_goto 26 dX6_pack_94 rfl rfl ?_
          have fin := ih (b + 1) h10 (by omega)
          rw [est] at fin
          exact fin cl10 s10 hf10 ⟨hx1.at (F11 35 (by simp)), ea, (F11 36 (by simp)).trans hx3, hx4⟩ (fun j hj => (F11 j (by simp; omega)).trans (hhi j hj))
  refine loop n 0 h3 (by omega) ?_ ⟨(f3 33 (by simp)).trans s2.1, s2.2.1.at (f3 3 (by simp)) (f3 4 (by simp)), s2.2.2⟩ hf3 ch3 (fun j hj => F3 j (by simp; omega))
  exact ⟨(F3 0 (by simp)).trans hc.c0, hc.tpe.at (F3 1 (by simp)) (F3 2 (by simp)), s2.2.1.at (f3 3 (by simp)) (f3 4 (by simp)), (f3 5 (by simp)).trans ha2, hc.sT.at (fun j _ _ => F3 j (by simp; omega)), hc.sC.at (fun j _ _ => F3 j (by simp; omega)), hc.sP.at (fun j _ _ => F3 j (by simp; omega)), hc.lT.at (F3 _ (by simp)), hc.lC.at (F3 _ (by simp)), hc.lP.at (F3 _ (by simp)), by rw [F3 30 (by simp)]; exact hc.unp, by rw [F3 31 (by simp)]; exact hc.src, by rw [F3 32 (by simp)]; exact hc.pck, ⟨_, (f3 33 (by simp)).trans s2.1⟩, (by obtain ⟨a1, a2, a3⟩ := hf3; exact ⟨_, a1, a2, a3⟩), ch3.1, (by obtain ⟨_, ea, q1, _⟩ := ch3; exact ⟨ea, q1⟩), hc.mrg.at (fun j _ _ => F3 j (by simp; omega)), hc.p42.at (F3 _ (by simp)), hc.p43.at (F3 _ (by simp)), hc.p44.at (F3 _ (by simp)), hc.p45.at (F3 _ (by simp))⟩
end PACK5

/-! ===== the reference: write ===== -/
section MOD13
variable {l : Launch} {D : va_G} {dA : Bool → ClassId}
theorem am_iincW {y : am_Y} {d mc ms rc rs n0 : Nat} {X : Option (Nat × (Nat → Int32))} {Qa : Option am_V → am_H → Prop} {cells slots pc q : Nat} {L : List (Option am_V)} {S : List am_V} {h : am_H} {i : Nat} {n : Int} {x v : Int32} (hdg : decode y.2.1 pc = .ok (.iinc i n, 6)) (hq : q = pc) (hL : L[i]? = some (some (.inl x))) (hv : x + Int32.ofInt n = v) (k : am_At l D dA y d mc ms rc rs n0 X Qa cells slots (pc + 6) (L.set i (some (.inl v))) S h) : am_At l D dA y d mc ms rc rs n0 X Qa cells slots q L S h := by
  subst hq
  intro p e s m args below meth c A b ad0 Q hC hR ad ws H locs ls st hS hl hst
  have hl0 := hl
  obtain ⟨h0, lv0, g1, g2⟩ := hl0
  obtain ⟨c1, e1, e2⟩ := g2 i _ hL
  rw [am_cv_i e1] at e2
  obtain ⟨k0, hk0⟩ := List.getElem?_of_mem e2
  have hi : i < y.2.2.1 := by rw [← h0]; exact (List.getElem?_eq_some_iff.mp hL).1
  refine lv_iincW hC.1.1 hC.1.2.1 hdg g1 hk0 hv hi rfl (fun ls' h' => k p e s m args below meth c A b ad0 Q hC hR ad ws H locs ls' st hS ⟨by rw [List.length_set]; exact h0, _, h', fun j w hj => ?_⟩ hst)
  by_cases hij : i = j
  · subst hij
    rw [List.getElem?_set_self (by omega)] at hj
    cases hj
    exact ⟨_, rfl, List.mem_cons_self⟩
  · rw [List.getElem?_set_ne hij] at hj
    obtain ⟨c', e1, e2⟩ := g2 j w hj
    refine ⟨c', e1, List.mem_cons_of_mem _ (List.mem_filter.mpr ⟨e2, ?_⟩)⟩
    have hc := am_cv_cat e1
    simp [hc, Ne.symm hij]
theorem gtS_add (tp : List Int32) (n p0 i : Nat) : ∀ j, gtS tp n p0 (i + j) = ((gtS tp n p0 i).1 ++ (gtS tp n (gtS tp n p0 i).2 j).1, (gtS tp n (gtS tp n p0 i).2 j).2)
  | 0 => by show gtS tp n p0 i = ((gtS tp n p0 i).1 ++ [], (gtS tp n p0 i).2); rw [List.append_nil]
  | j + 1 => by
    have ih := gtS_add tp n p0 i j
    have e2 : (gtS tp n p0 (i + j)).2 = (gtS tp n (gtS tp n p0 i).2 j).2 := by rw [ih]
    by_cases g : n ≤ (gtS tp n p0 (i + j)).2
    · have a := gtS_stop g 1
      have b := gtS_stop (p0 := (gtS tp n p0 i).2) (by rw [← e2]; exact g) 1
      rw [← Nat.add_assoc, a, b]
      exact ih
    · have a := gtS_snoc g
      have b := gtS_snoc (p0 := (gtS tp n p0 i).2) (i := j) (by rw [← e2]; exact g)
      rw [← Nat.add_assoc, a, b, e2]
      rw [ih]
      rw [List.append_assoc]
theorem wrS_pos (tp : List Int32) (n : Nat) (ls : l3) : ∀ b, (wrS tp n ls b).1 = (gtS tp n 0 (400 * b)).2
  | 0 => rfl
  | b + 1 => by
    have ih := wrS_pos tp n ls b
    rw [Nat.mul_succ]
    by_cases g : n ≤ (wrS tp n ls b).1
    · rw [wrS_stop g 1, gtS_stop (by rw [← ih]; exact g) 400, ih]
    · rw [wrS_s g, gtS_add, ← ih]
set_option maxRecDepth 100000 in
theorem wrS_cut {tp : List Int32} {n : Nat} {ls : l3} (hb : byt tp) (hn : n ≤ tp.length) (b : Nat) : (n ≤ (wrS tp n ls b).1 → (gtS tp n 0 n).1.length ≤ 400 * b) ∧ (¬ n ≤ (wrS tp n ls b).1 → 400 * b < (gtS tp n 0 n).1.length ∧ (∀ i x, (gtS tp n (wrS tp n ls b).1 400).1[i]? = some x → (gtS tp n 0 n).1[400 * b + i]? = some x) ∧ 400 * b + (gtS tp n (wrS tp n ls b).1 400).1.length ≤ (gtS tp n 0 n).1.length ∧ ((gtS tp n (wrS tp n ls b).1 400).1.length = 400 ∨ (gtS tp n (wrS tp n ls b).1 400).1.length < 400 ∧ 400 * b + (gtS tp n (wrS tp n ls b).1 400).1.length = (gtS tp n 0 n).1.length)) := by
  have o := gtS_ok hb hn (Nat.zero_le n) n
  have hF : n ≤ (gtS tp n 0 n).2 := by
    refine Nat.le_of_not_lt (fun z => ?_)
    have := o.2.2.2.1 z
    omega
  have e := gtS_add tp n 0 (400 * b) (400 + n)
  rw [show 400 * b + (400 + n) = n + (400 * b + 400) by omega, gtS_stop hF, ← wrS_pos tp n ls b] at e
  have e1 : (gtS tp n 0 n).1 = (gtS tp n 0 (400 * b)).1 ++ (gtS tp n (wrS tp n ls b).1 (400 + n)).1 := congrArg Prod.fst e
  have o1 := gtS_ok hb hn (Nat.zero_le n) (400 * b)
  rw [← wrS_pos tp n ls b] at o1
  have w1 : (wrS tp n ls b).1 ≤ n := o1.1
  have o2 := gtS_ok hb hn w1 400
  refine ⟨fun g => ?_, fun g => ?_⟩
  · rw [show 400 + n = 0 + (400 + n) by omega, gtS_stop (p0 := (wrS tp n ls b).1) (i := 0) g] at e1
    rw [e1, List.length_append]
    show _ + 0 ≤ _
    omega
  · have l1 : (gtS tp n 0 (400 * b)).1.length = 400 * b := o1.2.2.2.1 (by omega)
    rw [gtS_add tp n _ 400 n] at e1
    have e1 : (gtS tp n 0 n).1 = (gtS tp n 0 (400 * b)).1 ++ ((gtS tp n (wrS tp n ls b).1 400).1 ++ (gtS tp n (gtS tp n (wrS tp n ls b).1 400).2 n).1) := e1
    have e3 := gtS_add tp n (wrS tp n ls b).1 1 399
    have e4 := gtS_snoc (tp := tp) (n := n) (p0 := (wrS tp n ls b).1) (i := 0) g
    have l2 : 0 < (gtS tp n (wrS tp n ls b).1 400).1.length := by
      have e5 := congrArg (fun z => z.1.length) e3
      have e6 := congrArg (fun z => z.1.length) e4
      simp only [List.length_append, List.length_cons, List.length_nil] at e5 e6
      change (gtS tp n (wrS tp n ls b).1 400).1.length = _ at e5
      change (gtS tp n (wrS tp n ls b).1 1).1.length = _ at e6
      rw [e5, e6]
      exact Nat.lt_of_lt_of_le (Nat.succ_pos _) (Nat.le_add_right _ _)
    have l3 : (gtS tp n 0 n).1.length = 400 * b + ((gtS tp n (wrS tp n ls b).1 400).1.length + (gtS tp n (gtS tp n (wrS tp n ls b).1 400).2 n).1.length) := by
      rw [e1, List.length_append, List.length_append, l1]
    refine ⟨by omega, fun i x hx => ?_, by omega, ?_⟩
    · have hi := (List.getElem?_eq_some_iff.mp hx).1
      rw [e1, List.getElem?_append_right (by omega), l1, show 400 * b + i - 400 * b = i by omega, List.getElem?_append_left hi]
      exact hx
    · by_cases z : (gtS tp n (wrS tp n ls b).1 400).2 < n
      · exact Or.inl (o2.2.2.2.1 z)
      · have e5 := gtS_stop (tp := tp) (n := n) (p0 := (gtS tp n (wrS tp n ls b).1 400).2) (i := 0) (Nat.le_of_not_lt z) n
        rw [Nat.zero_add] at e5
        rw [e5] at l3
        have l3 : (gtS tp n 0 n).1.length = 400 * b + ((gtS tp n (wrS tp n ls b).1 400).1.length + 0) := l3
        have := o2.2.1
        by_cases q : (gtS tp n (wrS tp n ls b).1 400).1.length = 400
        · exact Or.inl q
        · exact Or.inr ⟨by omega, by omega⟩
theorem bwH.rf {h H : am_H} {ct : Nat} {to : Bool} {bl co cp en fa tc : Nat} {s : List Int32 × Nat} {gl gc ga : Nat → Int32} (x : bwH h H ct to bl co cp en fa tc s gl gc ga) : bwH H H ct to bl co cp en fa tc s gl gc ga := ⟨am_fr.rf, x.2⟩
theorem bwH.on {h H H' : am_H} {ct : Nat} {to : Bool} {bl co cp en fa tc bl' co' cp' tc' : Nat} {s s' : List Int32 × Nat} {gl gc ga gl' gc' ga' : Nat → Int32} (x : bwH h H ct to bl co cp en fa tc s gl gc ga) (y : bwH H H' ct to bl' co' cp' en fa tc' s' gl' gc' ga') : bwH h H' ct to bl' co' cp' en fa tc' s' gl' gc' ga' := ⟨x.1.tr y.1 (fun _ z => z), y.2⟩
set_option maxHeartbeats 4000000 in
set_option maxRecDepth 100000 in
theorem t_X10_write (d n0 : Nat) {h : am_H} {f : Nat → Int32} {c : Nat} {md : List Int32} {op : Bool} {bl co cp bi : Nat} {ls : l3} (x : MD h (f, c, md, op, bl, co, cp, bi, ls)) (ok : OK (f, c, md, op, bl, co, cp, bi, ls)) (n : Int32) (hd : 5 ≤ d) : am_Ct l D dA m_X10_write d 0 0 n0 [am_r 46, .inl n] h (am_qi fun x h' => x = (oWrite n (f, c, md, op, bl, co, cp, bi, ls)).1 ∧ MD h' (oWrite n (f, c, md, op, bl, co, cp, bi, ls)).2 ∧ ∀ j, j < 46 → h' j = h j) := by
  refine am_Ci (by decide +kernel) rfl rfl ?_
  have hc4 : c ≤ 4000 := ok.1
  obtain ⟨⟨en, fa0, tc0, hm⟩, hf, hw, ⟨gl0, h49, -⟩, ⟨gc0, h50⟩, ⟨ga0, h51⟩, m52, m53, m54, m55, m56, m57, m58, m59⟩ := id x
  have hf : h 47 = some (.inl (false, 4000, f)) := hf
  have hm : h 46 = some (mO c md.length op bl co cp bi en fa0 tc0) := hm
  refine am_iload_n dX10_write_0 rfl rfl ?_
  refine am_if_lt 12 dX10_write_1 rfl rfl (fun h0 => ?_) (fun h0 => ?_)
  · skip
    have e : oWrite n (f, c, md, op, bl, co, cp, bi, ls) = (-1, (f, c, md, op, bl, co, cp, bi, ls)) := by
      unfold oWrite
      rw [ix_neg h0]
    refine am_iconst (v := -1) dX10_write_12 rfl (by decide +kernel) ?_
    exact am_ri dX10_write_13 rfl rfl rfl ⟨by rw [e], by rw [e]; exact x, fun j hj => rfl⟩
  · refine am_iload_n dX10_write_4 rfl rfl ?_
    refine am_aload_n dX10_write_5 rfl rfl ?_
    refine am_get f_X10_50 dX10_write_6 rfl hm rfl ?_
    refine am_icmp_le 14 dX10_write_9 rfl rfl (fun h1 => ?_) (fun h1 => ?_)
    · obtain ⟨kk, hk1, rfl, ek⟩ := ix_le (c := c) h0 (Int32.not_lt.mpr h1) (by omega)
      have e : oWrite (nI kk) (f, c, md, op, bl, co, cp, bi, ls) = (nI (wtS f c kk ls).2.1.1.length, (f, c, (wtS f c kk ls).2.1.1, true, (wtS f c kk ls).2.2.1, (wtS f c kk ls).2.2.2.1, (wtS f c kk ls).2.2.2.2.1, (wtS f c kk ls).2.1.2, (wtS f c kk ls).2.2.2.2.2)) := by
        unfold oWrite
        have ek : ix (nI kk) (c + 1) = some kk := ek
        simp only [ek]
      rw [e]
      clear e
      have etl : (tpL f c).length = c := tpL_len f c
      have hbt : byt (tpL f c) := ok.2.1
      obtain ⟨U, eU⟩ : ∃ U, U = wtS f c kk ls := ⟨_, rfl⟩
      rw [← eU]
      have eU : U = wrS (tpL f c) kk ls kk := eU
      refine am_aload_n dX10_write_14 rfl rfl ?_
      refine am_vv (t_X10_begin (d - 1) _ hm h49 h51 (by omega)) k_X10_begin l_X10_107 dX10_write_15 rfl rfl rfl rfl hm (by omega) (Nat.le_refl _) (Nat.le_refl _) (fun h1 hx => ?_)
      obtain ⟨gl1, ga1, e1, z1, z2⟩ := hx
      have F1 : am_fr h h1 [46, 49, 51] := by rw [e1]; exact ((am_fr.rf.set (by simp)).set (by simp)).set (by simp)
      have a46 : h1 46 = some (mO c 0 true 0 0 0 0 en 0 tc0) := by rw [e1]; exact (am_set_ne (by omega)).trans ((am_set_ne (by omega)).trans am_set_eq)
      have a49 : h1 49 = some (.inl (false, 1800, gl1)) := by rw [e1]; exact (am_set_ne (by omega)).trans am_set_eq
      have a51 : h1 51 = some (.inl (false, 3, ga1)) := by rw [e1]; exact am_set_eq
      have a47 := (F1 47 (by simp)).trans hf
      clear e1
      refine am_aload_n dX10_write_18 rfl rfl ?_
      refine am_iload_n dX10_write_19 rfl rfl ?_
      refine am_vi (t_X10_cut (d - 1) _ a46 a47 (m52.at (F1 52 (by simp))) (m53.at (F1 53 (by simp))) (n := kk) (c := c) hk1 hc4 hbt (by omega)) k_X10_cut l_X10_157 dX10_write_20 rfl rfl rfl rfl a46 (by omega) (Nat.le_refl _) (Nat.le_refl _) (fun z h2 hx => ?_)
      obtain ⟨rfl, F2, ⟨fc, fd, c52, c53, hcd⟩⟩ := hx
      have wc := fun b => wrS_cut (ls := ls) hbt (show kk ≤ (tpL f c).length by omega) b
      have oL := gtS_ok hbt (show kk ≤ (tpL f c).length by omega) (Nat.zero_le kk) kk
      have hLn : (gtS (tpL f c) kk 0 kk).1.length ≤ 4000 := by have := oL.2.1; omega
      obtain ⟨L, eL⟩ : ∃ L, L = (gtS (tpL f c) kk 0 kk).1 := ⟨_, rfl⟩
      rw [← eL] at hcd hLn ⊢
      simp only [← eL] at wc
      clear oL
      have X0 : bwH h2 h2 c true 0 0 0 en 0 tc0 ([], 0) gl1 gc0 ga1 := by
        refine ⟨am_fr.rf, ⟨am_fr.rf, (F2 46 (by simp)).trans a46, ?_, wP_wrS (tpL f c) kk ls 0⟩, (F2 49 (by simp)).trans a49, (F2 50 (by simp)).trans ((F1 50 (by simp)).trans h50), (F2 51 (by simp)).trans a51, ⟨(m54.at (F1 54 (by simp))).at (F2 54 (by simp)), (m55.at (F1 55 (by simp))).at (F2 55 (by simp)), by rw [F2 56 (by simp), F1 56 (by simp)]; exact m56⟩, (m57.at (F1 57 (by simp))).at (F2 57 (by simp)), (m58.at (F1 58 (by simp))).at (F2 58 (by simp)), (m59.at (F1 59 (by simp))).at (F2 59 (by simp))⟩
        obtain ⟨g, hg, -⟩ := hw
        exact ⟨g, (F2 48 (by simp)).trans ((F1 48 (by simp)).trans hg), fun i v hi => by simp at hi⟩
      refine am_istore_n dX10_write_23 rfl rfl ?_
      refine am_iconst (v := nI 0) dX10_write_24 rfl (by decide +kernel) ?_
      refine am_istore_n dX10_write_25 rfl rfl ?_
      have fin : ∀ (b : Nat) (H : am_H) (tc : Nat) (gl gc ga : Nat → Int32), U = (wrS (tpL f c) kk ls b) → bwH h2 H c true (wrS (tpL f c) kk ls b).2.2.1 (wrS (tpL f c) kk ls b).2.2.2.1 (wrS (tpL f c) kk ls b).2.2.2.2.1 en 0 tc (wrS (tpL f c) kk ls b).2.1 gl gc ga → (0 < (wrS (tpL f c) kk ls b).2.2.1 → lnM gl (wrS (tpL f c) kk ls b).2.2.2.2.2) → am_At l D dA m_X10_write d 0 0 0 0 n0 none (am_qi fun x h' => x = (nI U.2.1.1.length, (f, c, U.2.1.1, true, U.2.2.1, U.2.2.2.1, U.2.2.2.2.1, U.2.1.2, U.2.2.2.2.2)).1 ∧ MD h' (nI U.2.1.1.length, (f, c, U.2.1.1, true, U.2.2.1, U.2.2.2.1, U.2.2.2.2.1, U.2.1.2, U.2.2.2.2.2)).2 ∧ ∀ j, j < 46 → h' j = h j) 0 0 63 [some (am_r 46), some (.inl (nI kk)), some (.inl (nI L.length)), some (.inl (nI (400 * b)))] [] H := by
        intro b H tc gl gc ga hU Z hl
        rw [← hU] at Z hl
        refine am_aload_n dX10_write_63 rfl rfl ?_
        refine am_get f_X10_54 dX10_write_64 rfl Z.2.1.2.1 rfl ?_
        exact am_ri dX10_write_67 rfl rfl rfl ⟨rfl, ⟨⟨en, 0, tc, Z.2.1.2.1⟩, (Z.1 47 (by simp [frW])).trans ((F2 47 (by simp)).trans a47), Z.2.1.2.2.1, ⟨gl, Z.2.2.1, hl⟩, ⟨gc, Z.2.2.2.1⟩, ⟨ga, Z.2.2.2.2.1⟩, ⟨fc, (Z.1 52 (by simp [frW])).trans c52⟩, ⟨fd, (Z.1 53 (by simp [frW])).trans c53⟩, Z.2.2.2.2.2.1.1, Z.2.2.2.2.2.1.2.1, Z.2.2.2.2.2.1.2.2, Z.2.2.2.2.2.2.1, Z.2.2.2.2.2.2.2.1, Z.2.2.2.2.2.2.2.2⟩, fun j hj => (Z.1 j (by simp [frW]; omega)).trans ((F2 j (by simp; omega)).trans (F1 j (by simp; omega)))⟩
      have loop : ∀ (q b : Nat) (H : am_H) (tc : Nat) (gl gc ga : Nat → Int32), b + q = kk → bwH h2 H c true (wrS (tpL f c) kk ls b).2.2.1 (wrS (tpL f c) kk ls b).2.2.2.1 (wrS (tpL f c) kk ls b).2.2.2.2.1 en 0 tc (wrS (tpL f c) kk ls b).2.1 gl gc ga → (0 < (wrS (tpL f c) kk ls b).2.2.1 → lnM gl (wrS (tpL f c) kk ls b).2.2.2.2.2) → am_At l D dA m_X10_write d 0 0 0 0 n0 none (am_qi fun x h' => x = (nI U.2.1.1.length, (f, c, U.2.1.1, true, U.2.2.1, U.2.2.2.1, U.2.2.2.2.1, U.2.1.2, U.2.2.2.2.2)).1 ∧ MD h' (nI U.2.1.1.length, (f, c, U.2.1.1, true, U.2.2.1, U.2.2.2.1, U.2.2.2.2.1, U.2.1.2, U.2.2.2.2.2)).2 ∧ ∀ j, j < 46 → h' j = h j) 0 0 26 [some (am_r 46), some (.inl (nI kk)), some (.inl (nI L.length)), some (.inl (nI (400 * b)))] [] H := by
        intro q
        induction q with
        | zero =>
          intro b H tc gl gc ga hq Z hl
          obtain rfl : b = kk := by omega
          have wo := wrS_ok (ls0 := ls) hbt (show b ≤ (tpL f c).length by omega) (by omega) b
          have hst : b ≤ (wrS (tpL f c) b ls b).1 := by
            refine Nat.le_of_not_lt (fun z => ?_)
            have := (wo.2.2.2 z).1
            omega
          have hLb := (wc b).1 hst
          refine am_iload_n dX10_write_26 rfl rfl ?_
          refine am_iload_n dX10_write_27 rfl rfl ?_
          refine am_ncmp_ge 63 dX10_write_28 rfl rfl (by omega) (by omega) (fun hc => ?_) (fun hc => ?_)
          · exact fin b H tc gl gc ga eU Z hl
          · omega
        | succ q ih =>
          intro b H tc gl gc ga hq Z hl
          have wo := wrS_ok (ls0 := ls) hbt (show kk ≤ (tpL f c).length by omega) (by omega) b
          have wo1 := wrS_ok (ls0 := ls) hbt (show kk ≤ (tpL f c).length by omega) (by omega) (b + 1)
          by_cases g : kk ≤ (wrS (tpL f c) kk ls b).1
          · have hLb := (wc b).1 g
            have est : wrS (tpL f c) kk ls kk = (wrS (tpL f c) kk ls b) := by have z := wrS_stop g (kk - b); rw [show b + (kk - b) = kk by omega] at z; exact z
            refine am_iload_n dX10_write_26 rfl rfl ?_
            refine am_iload_n dX10_write_27 rfl rfl ?_
            refine am_ncmp_ge 63 dX10_write_28 rfl rfl (by omega) (by omega) (fun hc => ?_) (fun hc => ?_)
            · exact fin b H tc gl gc ga (eU.trans est) Z hl
            · omega
          · obtain ⟨q1, q2, q3, q4⟩ := (wc b).2 g
            have gm := gtS_mem hbt (show kk ≤ (tpL f c).length by omega) wo.1 (by omega) 400
            have gl4 := (gtS_ok hbt (show kk ≤ (tpL f c).length by omega) wo.1 400).2.1
            have ew := wrS_s g
            obtain ⟨G, eG⟩ : ∃ G, G = (gtS (tpL f c) kk (wrS (tpL f c) kk ls b).1 400).1 := ⟨_, rfl⟩
            rw [← eG] at q2 q3 q4 gm gl4 ew
            have hbits : (bwR G (wrS (tpL f c) kk ls b).2.1).2 + 400 ≤ 96000 := by
              have e5 : (wrS (tpL f c) kk ls (b + 1)).2.1 = bwR G (wrS (tpL f c) kk ls b).2.1 := by rw [ew]
              have t1 := wo1.1
              have t2 := wo1.2.1
              have t3 := wo1.2.2.1
              rw [e5] at t2
              omega
            have nxt : ∀ (H' : am_H), (∃ tc' gl' gc' ga', bwH H H' c true ((wrS (tpL f c) kk ls b).2.2.1 + 1) ((wrS (tpL f c) kk ls b).2.2.2.1 + G.length) ((wrS (tpL f c) kk ls b).2.2.2.2.1 + (pds G).length) en 0 tc' (bwR G (wrS (tpL f c) kk ls b).2.1) gl' gc' ga' ∧ lnM gl' (hlen 19 (bwT G), hlen 510 (bwC G), hlen 14 (bwP G))) → am_At l D dA m_X10_write d 0 0 0 0 n0 none (am_qi fun x h' => x = (nI U.2.1.1.length, (f, c, U.2.1.1, true, U.2.2.1, U.2.2.2.1, U.2.2.2.2.1, U.2.1.2, U.2.2.2.2.2)).1 ∧ MD h' (nI U.2.1.1.length, (f, c, U.2.1.1, true, U.2.2.1, U.2.2.2.1, U.2.2.2.2.1, U.2.1.2, U.2.2.2.2.2)).2 ∧ ∀ j, j < 46 → h' j = h j) 0 0 54 [some (am_r 46), some (.inl (nI kk)), some (.inl (nI L.length)), some (.inl (nI (400 * b)))] [] H' := by
              intro H' hx
              obtain ⟨tc', gl', gc', ga', Y, ln'⟩ := hx
              refine am_iincW (v := nI (400 * (b + 1))) dX10_write_54 rfl rfl (by rw [show Int32.ofInt 400 = nI 400 by decide +kernel, nI_add, Nat.mul_succ]) ?_
              refine am_goto 26 dX10_write_60 rfl rfl ?_
              refine ih (b + 1) H' tc' gl' gc' ga' (by omega) ?_ ?_
              · rw [ew]; exact Z.on Y
              · rw [ew]; exact fun _ => ln'
            refine am_iload_n dX10_write_26 rfl rfl ?_
            refine am_iload_n dX10_write_27 rfl rfl ?_
            refine am_ncmp_ge 63 dX10_write_28 rfl rfl (by omega) (by omega) (fun hc => ?_) (fun hc => ?_)
            · omega
            · refine am_aload_n dX10_write_31 rfl rfl ?_
              refine am_iload_n dX10_write_32 rfl rfl ?_
              refine am_iload_n dX10_write_33 rfl rfl ?_
              refine am_iload_n dX10_write_34 rfl rfl ?_
              refine am_isub dX10_write_35 rfl ?_
              rw [pk_sub (by omega)]
              refine am_sipush (v := nI 400) dX10_write_36 rfl (by decide +kernel) ?_
              refine am_ncmp_ge 48 dX10_write_39 rfl rfl (by omega) (by omega) (fun h4 => ?_) (fun h4 => ?_)
              · refine am_sipush (v := nI 400) dX10_write_48 rfl (by decide +kernel) ?_
                have eg : G.length = 400 := by omega
                rw [show nI 400 = nI G.length by rw [eg]]
                refine am_vv (t_X10_block (d - 1) _ Z.rf (cs := G) (fr := 400 * b) (fc := fc) (fd := fd) ((Z.1 52 (by simp [frW])).trans c52) ((Z.1 53 (by simp [frW])).trans c53) (fun i x hx => hcd _ x (q2 i x hx)) (by omega) gl4 gm hbits (by omega)) k_X10_block l_X10_160 dX10_write_51 rfl rfl rfl rfl Z.2.1.2.1 (by omega) (Nat.le_refl _) (Nat.le_refl _) (fun h7 hx => ?_)
                exact nxt h7 hx
              · refine am_iload_n dX10_write_42 rfl rfl ?_
                refine am_iload_n dX10_write_43 rfl rfl ?_
                refine am_isub dX10_write_44 rfl ?_
                have eg : L.length - 400 * b = G.length := by omega
                rw [pk_sub (by omega), eg]
                refine am_goto 51 dX10_write_45 rfl rfl ?_
                refine am_vv (t_X10_block (d - 1) _ Z.rf (cs := G) (fr := 400 * b) (fc := fc) (fd := fd) ((Z.1 52 (by simp [frW])).trans c52) ((Z.1 53 (by simp [frW])).trans c53) (fun i x hx => hcd _ x (q2 i x hx)) (by omega) gl4 gm hbits (by omega)) k_X10_block l_X10_160 dX10_write_51 rfl rfl rfl rfl Z.2.1.2.1 (by omega) (Nat.le_refl _) (Nat.le_refl _) (fun h7 hx => ?_)
                exact nxt h7 hx
      exact loop kk 0 h2 tc0 gl1 gc0 ga1 (by omega) X0 (fun z => absurd z (Nat.lt_irrefl 0))
    · skip
      have e : oWrite n (f, c, md, op, bl, co, cp, bi, ls) = (-1, (f, c, md, op, bl, co, cp, bi, ls)) := by
        unfold oWrite
        rw [show ix n (c + 1) = none from ix_gt (Int32.not_le.mp h1) (by show c < _; omega)]
      refine am_iconst (v := -1) dX10_write_12 rfl (by decide +kernel) ?_
      exact am_ri dX10_write_13 rfl rfl rfl ⟨by rw [e], by rw [e]; exact x, fun j hj => rfl⟩
end MOD13

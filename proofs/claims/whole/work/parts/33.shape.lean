/-! ===== Merger.shape ===== -/
section SHAPE
variable {l : Launch} {D : va_G} {dA : Bool → ClassId}
theorem ins_sum (w : Nat → Nat) (s : Nat) (lv : Nat → Nat) (c : Nat) : ss (fun j => w (insF w s lv c j)) 0 (c + 1) = ss (fun j => w (lv j)) 0 c + w s := by
  have p0 := insP_le w s lv c
  generalize hq : insP w s lv c = q at p0
  have hv : ∀ j, insF w s lv c j = if j < q then lv j else if j = q then s else lv (j - 1) := fun j => by unfold insF; rw [hq]
  rw [show c + 1 = q + ((c - q) + 1) by omega, ss_add, ss_head, show c = q + (c - q) by omega, ss_add]
  have e1 : ss (fun j => w (insF w s lv (q + (c - q)) j)) 0 q = ss (fun j => w (lv j)) 0 q := ss_congr (fun j _ hj => by rw [show q + (c - q) = c by omega, hv j, if_pos (by omega)])
  have e2 : ss (fun j => w (insF w s lv (q + (c - q)) j)) (0 + q + 1) (q + (c - q) - q) = ss (fun j => w (lv j)) (0 + q) (c - q) := by
    rw [ss_shift, ss_shift (fun j => w (lv j)), show q + (c - q) - q = c - q by omega]
    refine ss_congr (fun j _ hj => ?_)
    rw [show q + (c - q) = c by omega, hv, if_neg (by omega), if_neg (by omega), show 0 + q + 1 + j - 1 = 0 + q + j by omega]
  have e3 : w (insF w s lv (q + (c - q)) (0 + q)) = w s := by
    rw [show q + (c - q) = c by omega, hv, if_neg (by omega), if_pos (by omega)]
  rw [e1, e2, e3]
  omega
theorem srt_sum (w : Nat → Nat) : ∀ i, ss (fun j => w ((srtS w i).1 j)) 0 (srtS w i).2 = ss w 0 i
  | 0 => rfl
  | i + 1 => by
    have ih := srt_sum w i
    show _ = ss w 0 i + w (0 + i)
    rw [srtS, Nat.zero_add]
    by_cases g : 0 < w i
    · rw [if_pos g]
      dsimp only
      rw [ins_sum, ih]
    · rw [if_neg g, ih]
      omega
theorem srt_SS (w : Nat → Nat) (m : Nat) : SS (srtS w m).1 w (srtS w m).2 0 m m = ss w 0 m := by
  unfold SS
  rw [Nat.sub_self, Nat.sub_zero, srt_sum]
  rfl
/-- of symbols with these numbers of times: the one alone, or -1; the lengths -/
def hal (m : Nat) (w : Nat → Nat) : Int32 := if 2 ≤ (srtS w m).2 then -1 else nI (if (srtS w m).2 = 0 then 0 else (srtS w m).1 0)
def hup (m : Nat) (w : Nat → Nat) : Nat → Nat := (mqS m (srtS w m).1 (srtS w m).2 w ((srtS w m).2 - 1)).2.2.2
def hlen (m : Nat) (w : Nat → Nat) : Nat → Nat := if 2 ≤ (srtS w m).2 then tln2 m w (m + ((srtS w m).2 - 1)) (hup m w) else fun _ => 0
/-- the merger's shape -/
def mgs (h : am_H) : Prop := (∃ a b c e, h 37 = some (mgO a b c e)) ∧ ars h 38 510 ∧ ars h 39 1020 ∧ ars h 40 1020 ∧ ars h 41 1020
theorem mgs.at {h h' : am_H} (x : mgs h) (e : ∀ j, 37 ≤ j → j ≤ 41 → h' j = h j) : mgs h' := by
  obtain ⟨⟨a, b, c, d, x1⟩, x2, x3, x4, x5⟩ := x
  exact ⟨⟨a, b, c, d, (e _ (by omega) (by omega)).trans x1⟩, x2.at (e _ (by omega) (by omega)), x3.at (e _ (by omega) (by omega)), x4.at (e _ (by omega) (by omega)), x5.at (e _ (by omega) (by omega))⟩
theorem hlen_le {m : Nat} {w : Nat → Nat} (hm : 1 ≤ m) (hW : ss w 0 m < 610) (s : Nat) : hlen m w s ≤ 12 := by
  unfold hlen
  split
  · rename_i g
    have T := tre_of hm (srd_all w m) g
    unfold tln2
    split
    · rename_i z
      exact tre_le T (by rw [srt_SS]; exact hW) ((tre_use T (srd_all w m) z.1).mpr z.2)
    · omega
  · show 0 ≤ 12
    omega
theorem hlen_pos {m : Nat} {w : Nat → Nat} (hm : 1 ≤ m) (hm2 : m ≤ 510) (hc : hal m w = -1) {s : Nat} (hs : s < m) (hw : 0 < w s) : 2 ≤ (srtS w m).2 ∧ 0 < hlen m w s := by
  have h2 : 2 ≤ (srtS w m).2 := by
    unfold hal at hc
    split at hc
    · assumption
    · rename_i g
      exfalso
      by_cases z : (srtS w m).2 = 0
      · obtain ⟨j, hj, -⟩ := (srd_all w m).2.2 s hs hw
        omega
      · rw [if_neg z] at hc
        obtain ⟨j, hj, hjs⟩ := (srd_all w m).2.2 s hs hw
        have hj0 : j = 0 := by omega
        rw [hj0] at hjs
        have hlt := srtS_lt w m 0 (by omega)
        exact am_nm1 (by omega) hc
  refine ⟨h2, ?_⟩
  have T := tre_of hm (srd_all w m) h2
  unfold hlen
  rw [if_pos h2]
  unfold tln2
  rw [if_pos ⟨hs, hw⟩]
  have hu : ∀ v, (mqS m (srtS w m).1 (srtS w m).2 w ((srtS w m).2 - 1)).2.2.2 v ≠ 0 → v < (mqS m (srtS w m).1 (srtS w m).2 w ((srtS w m).2 - 1)).2.2.2 v ∧ (mqS m (srtS w m).1 (srtS w m).2 w ((srtS w m).2 - 1)).2.2.2 v < m + ((srtS w m).2 - 1) := fun v hv => ⟨(T.2.2.2.2.2.2.1 v hv).1, (T.2.2.2.2.2.2.1 v hv).2.2.1⟩
  have := dpF_up hu ((tre_use T (srd_all w m) hs).mpr hw)
  unfold hup
  omega
set_option maxHeartbeats 4000000 in
set_option maxRecDepth 100000 in
theorem t_X5_shape (d n0 : Nat) {h : am_H} (hg : mgs h) {t m : Nat} (hm : m ≤ 510) (hm1 : 1 ≤ m) (ht37 : t + 7 < 37) (ht : h t = some (trO t (-1))) (hsh : tsh h t m) (h1 : lnA h (t + 1) m (fun _ => 0)) {w : Nat → Nat} (h3 : nmA h (t + 3) m m w) (hW : ss w 0 m < 610) (hd : 3 ≤ d) : am_Ct l D dA m_X5_shape d 0 0 n0 [am_r 37, am_r t] h (am_qv fun h' => am_fr h h' [37, 38, 39, 40, 41, t, t + 1, t + 2, t + 4, t + 5, t + 6, t + 7] ∧ mgs h' ∧ wdy h' t m (hal m w) (hlen m w) ∧ tsh h' t m) := by
  refine am_Cv (by decide +kernel) rfl rfl ?_
  have hwb : ∀ k, k < m → w k < 610 := fun k hk => by
    have e := ss_upd w 0 hk
    have : w k ≤ ss w 0 m := by omega
    omega
  have hsd := srd_all w m
  obtain ⟨⟨q0, q1, q2, q3, hg⟩, s38, s39, s40, s41⟩ := hg
  obtain ⟨-, b1, b2, b3, b4, b5, b6, b7⟩ := id hsh
  refine am_aload_n dX5_shape_0 rfl rfl ?_
  refine am_aload_n dX5_shape_1 rfl rfl ?_
  refine am_vv (t_X5_sortLeaves (d - 1) _ hg s38 s39 ht hm ht37 b1 h3 (fun k hk => by have := hwb k hk; omega) (by omega)) k_X5_sortLeaves l_X5_35 dX5_shape_2 rfl rfl rfl rfl hg (by omega) (Nat.le_refl _) (Nat.le_refl _) (fun h1b hx => ?_)
  obtain ⟨f1, g37, g38, g39⟩ := hx
  have hcm := srtS_le w m
  have ht1 := (f1 t (by simp; omega)).trans ht
  have h1b' := h1.at (h' := h1b) (f1 (t + 1) (by simp; omega))
  have s40 := s40.at (h' := h1b) (f1 40 (by simp))
  have s41 := s41.at (h' := h1b) (f1 41 (by simp))
  have b1 := b1.at (h' := h1b) (f1 _ (by simp; omega))
  have b2 := b2.at (h' := h1b) (f1 _ (by simp; omega))
  have b3 := b3.at (h' := h1b) (f1 _ (by simp; omega))
  have b4 := b4.at (h' := h1b) (f1 _ (by simp; omega))
  have b5 := b5.at (h' := h1b) (f1 _ (by simp; omega))
  have b6 := b6.at (h' := h1b) (f1 _ (by simp; omega))
  have b7 := b7.at (h' := h1b) (f1 _ (by simp; omega))
  obtain ⟨lf1, c1, hlf1⟩ := id h1b'
  obtain ⟨vf, c38, hvf⟩ := id g38
  refine am_aload_n dX5_shape_5 rfl rfl ?_
  refine am_get f_X5_22 dX5_shape_6 rfl g37 rfl ?_
  refine am_iconst (v := nI 2) dX5_shape_9 rfl (by decide +kernel) ?_
  refine am_ncmp_ge 35 dX5_shape_10 rfl rfl (by omega) (by omega) (fun hc => ?_) (fun hc => ?_)
  · have T := tre_of hm1 hsd hc
    have hWs := srt_SS w m
    have hK := mqK_of hm1 hsd (fun k hk => by have := hwb k hk; omega) (by omega)
    refine am_aload_n dX5_shape_35 rfl rfl ?_
    refine am_aload_n dX5_shape_36 rfl rfl ?_
    refine am_vi (t_X7_symbols (d - 1) _ ht1 c1 (by omega)) k_X7_symbols l_X5_45 dX5_shape_37 rfl rfl rfl rfl ht1 (by omega) (Nat.le_refl _) (Nat.le_refl _) (fun x h1 hx => ?_)
    obtain ⟨rfl, hh⟩ := hx
    obtain rfl := hh.symm
    refine am_vv (t_X5_merge (d - 1) _ g37 g38 g39 s40 (by omega) hcm hm (fun j hj => (hsd.1 j hj).1) hK (by omega)) k_X5_merge l_X5_49 dX5_shape_40 rfl rfl rfl rfl g37 (by omega) (Nat.le_refl _) (Nat.le_refl _) (fun h2 hx => ?_)
    obtain ⟨f2, ⟨v1, v2, k37⟩, k39, k40⟩ := hx
    have ht2 := (f2 t (by simp; omega)).trans ht1
    have h1c := h1b'.at (h' := h2) (f2 (t + 1) (by simp; omega))
    have k38 := g38.at (h' := h2) (f2 38 (by simp))
    have s41 := s41.at (h' := h2) (f2 41 (by simp))
    have hu : ∀ v, hup m w v ≠ 0 → v < hup m w v ∧ hup m w v < m + ((srtS w m).2 - 1) := fun v hv => ⟨(T.2.2.2.2.2.2.1 v hv).1, (T.2.2.2.2.2.2.1 v hv).2.2.1⟩
    have hlv : ∀ j, j < (srtS w m).2 → (srtS w m).1 j < m := fun j hj => (hsd.1 j hj).1
    have hle : hlen m w = tln2 m w (m + ((srtS w m).2 - 1)) (hup m w) := by unfold hlen; rw [if_pos hc]
    refine am_aload_n dX5_shape_43 rfl rfl ?_
    refine am_aload_n dX5_shape_44 rfl rfl ?_
    refine am_vv (t_X5_measure (d - 1) _ k37 k38 k40 s41 ht2 ht37 h1c hm hm1 (by omega) (by omega) (by omega) hlv (dq := dpF (hup m w) (m + ((srtS w m).2 - 1))) (len := hlen m w) (fun k a b => by
      have z := T.2.2.2.2.1 k a b
      exact ⟨(hu k z).1, (hu k z).2, dpF_up hu z⟩) (dpF_0 T.2.2.1) (fun j hj => by
      have z := T.2.2.2.2.2.1 j hj
      have y := T.2.2.2.2.2.2.1 _ z
      exact ⟨y.2.1, y.2.2.1, dpF_up hu z, by have := tre_le T (by omega) z; unfold hup; omega⟩) (fun k a b => by
      by_cases z : hup m w k = 0
      · rw [dpF_0 z]; decide
      · have := tre_le T (by omega) z
        unfold hup
        omega) (fun j hj => by
      rw [hle]
      unfold tln2
      rw [if_pos ⟨hlv j hj, (hsd.1 j hj).2⟩]) (fun s hs hn => by
      rw [hle]
      unfold tln2
      rw [if_neg]
      intro z
      obtain ⟨j, hj, e⟩ := hsd.2.2 s hs z.2
      exact hn j hj e) (by omega)) k_X5_measure l_X5_52 dX5_shape_45 rfl rfl rfl rfl k37 (by omega) (Nat.le_refl _) (Nat.le_refl _) (fun h3b hx => ?_)
    obtain ⟨f3, k41, kln⟩ := hx
    have ht3 := (f3 t (by simp; omega)).trans ht2
    obtain ⟨e2, b2⟩ := (b2.at (f2 _ (by simp; omega))).at (f3 _ (by simp; omega))
    have b3 := (b3.at (f2 _ (by simp; omega))).at (h' := h3b) (f3 _ (by simp; omega))
    obtain ⟨e4, b4⟩ := (b4.at (f2 _ (by simp; omega))).at (f3 _ (by simp; omega))
    obtain ⟨e5, b5⟩ := (b5.at (f2 _ (by simp; omega))).at (f3 _ (by simp; omega))
    obtain ⟨e6, b6⟩ := (b6.at (f2 _ (by simp; omega))).at (f3 _ (by simp; omega))
    obtain ⟨e7, b7⟩ := (b7.at (f2 _ (by simp; omega))).at (f3 _ (by simp; omega))
    obtain ⟨lf3, c3, hlf3⟩ := id kln
    have hkr : krf (hlen m w) m = 65536 := by rw [hle]; exact tre_krf T hm1 hc hsd (by omega)
    refine am_aload_n dX5_shape_48 rfl rfl ?_
    refine am_vi (t_X7_settle (d - 1) _ ht3 c3 (by omega) (by omega) (fun s hs => (hlf3 s hs).1) (fun s hs => (hlf3 s hs).2) b2 b4 b5 b6 b7 (by omega)) k_X7_settle l_X5_55 dX5_shape_49 rfl rfl rfl rfl ht3 (by omega) (Nat.le_refl _) (Nat.le_refl _) (fun x h4 hx => ?_)
    obtain ⟨rfl, f4, hst, c2, c4, c5, c6, c7, d2, d4, d5, d6, d7⟩ := hx
    refine am_pop dX5_shape_52 rfl ?_
    have hal1 : hal m w = -1 := by unfold hal; rw [if_pos hc]
    refine am_rv dX5_shape_53 rfl rfl rfl ⟨fun j hj => ?_, ⟨⟨_, _, _, _, (f4 37 (by simp; omega)).trans ((f3 37 (by simp; omega)).trans k37)⟩, (k38.ars.at (f3 38 (by simp; omega))).at (f4 38 (by simp; omega)), (k39.at (f3 39 (by simp; omega))).at (f4 39 (by simp; omega)), (s40.at (h' := h1b) rfl |> fun _ => by
      obtain ⟨pf, p1, -⟩ := k40
      exact (ars.of p1).at (f3 40 (by simp; omega)) |>.at (f4 40 (by simp; omega))), k41.at (f4 41 (by simp; omega))⟩, ⟨by rw [hal1]; exact (f4 t (by simp)).trans ht3, kln.at (f4 (t + 1) (by simp)), fun _ => ⟨hst hkr, hkr⟩⟩, ⟨⟨_, (f4 t (by simp)).trans ht3⟩, ⟨_, (f4 (t + 1) (by simp)).trans c3⟩, ⟨_, d2⟩, b3.at (f4 (t + 3) (by simp)), ⟨_, d4⟩, ⟨_, d5⟩, ⟨_, d6⟩, ⟨_, d7⟩⟩⟩
    simp only [List.mem_cons, List.not_mem_nil, or_false, not_or] at hj
    rw [f4 j (by simp; omega), f3 j (by simp; omega), f2 j (by simp; omega), f1 j (by simp; omega)]
  · have hlz : hlen m w = fun _ => 0 := by unfold hlen; rw [if_neg (by omega)]
    have alone : ∀ (L : List (Option am_V)) (y : Nat), nI y = hal m w → y < 2 ^ 31 → am_At l D dA m_X5_shape d 0 0 0 0 n0 none (am_qv fun h' => am_fr h h' [37, 38, 39, 40, 41, t, t + 1, t + 2, t + 4, t + 5, t + 6, t + 7] ∧ mgs h' ∧ wdy h' t m (hal m w) (hlen m w) ∧ tsh h' t m) 0 0 31 L [.inl (nI y), am_r t] h1b := by
      intro L y hy hyb
      refine am_vv (t_X7_setAlone (d - 1) _ ht1 (nI y)) k_X7_setAlone l_X5_39 dX5_shape_31 rfl rfl rfl rfl ht1 (by omega) (Nat.le_refl _) (Nat.le_refl _) (fun h5 hx => ?_)
      have f5 : am_fr h1b h5 [t] := by rw [hx]; exact am_fr.rf.set (by simp)
      have e5 : h5 t = some (trO t (nI y)) := by rw [hx]; exact am_set_eq
      refine am_rv dX5_shape_34 rfl rfl rfl ⟨fun j hj => ?_, ⟨⟨_, _, _, _, (f5 37 (by simp; omega)).trans g37⟩, g38.ars.at (f5 38 (by simp; omega)), g39.ars.at (f5 39 (by simp; omega)), s40.at (f5 40 (by simp; omega)), s41.at (f5 41 (by simp; omega))⟩, ⟨by rw [← hy]; exact e5, by rw [hlz]; exact h1b'.at (f5 (t + 1) (by simp)), fun g => absurd (hy.trans g) (am_nm1 hyb)⟩, ⟨⟨_, e5⟩, b1.at (f5 _ (by simp)), b2.at (f5 _ (by simp)), b3.at (f5 _ (by simp)), b4.at (f5 _ (by simp)), b5.at (f5 _ (by simp)), b6.at (f5 _ (by simp)), b7.at (f5 _ (by simp))⟩⟩
      simp only [List.mem_cons, List.not_mem_nil, or_false, not_or] at hj
      rw [f5 j (by simp; omega), f1 j (by simp; omega)]
    refine am_aload_n dX5_shape_13 rfl rfl ?_
    refine am_aload_n dX5_shape_14 rfl rfl ?_
    refine am_get f_X5_22 dX5_shape_15 rfl g37 rfl ?_
    refine am_nif_ne 25 dX5_shape_18 rfl rfl (by omega) (fun hz => ?_) (fun hz => ?_)
    · refine am_aload_n dX5_shape_25 rfl rfl ?_
      refine am_get f_X5_7 dX5_shape_26 rfl g37 rfl ?_
      refine am_iconst (v := nI 0) dX5_shape_29 rfl (by decide +kernel) ?_
      refine am_iald (k := 0) dX5_shape_30 rfl c38 (by omega) (by omega) ?_
      rw [hvf 0 hz]
      have := (hsd.1 0 hz).1
      exact alone _ _ (by unfold hal; rw [if_neg (by omega), if_neg (by omega)]) (by omega)
    · refine am_iconst (v := nI 0) dX5_shape_21 rfl (by decide +kernel) ?_
      refine am_goto 31 dX5_shape_22 rfl rfl ?_
      exact alone _ 0 (by unfold hal; rw [if_neg (by omega), if_pos hz]) (by omega)
end SHAPE

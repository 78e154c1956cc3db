/-! ===== the reference: trees read ===== -/
section MOD2
variable {l : Launch} {D : va_G} {dA : Bool → ClassId}
def mrd (gl gc ga : Nat → Int32) (t : Nat) (al : Int32) (len : Nat → Nat) : Prop := ga t = al ∧ (∀ s, s < sym t → gl (600 * t + s) = nI (len s) ∧ len s ≤ 16) ∧ (al = -1 → krf len (sym t) = 65536 ∧ ∀ s, s < sym t → 1 ≤ len s → gc (600 * t + s) = nI (cdN len (sym t) s)) ∧ (al ≠ -1 → ∃ s, s < sym t ∧ al = nI s)
/-- the cells that reading trees changes -/
def rdH (h H : am_H) (e : am_E) (gl gc ga : Nat → Int32) : Prop := am_fr h H [46, 49, 50, 51] ∧ H 46 = some e ∧ H 49 = some (.inl (false, 1800, gl)) ∧ H 50 = some (.inl (false, 1800, gc)) ∧ H 51 = some (.inl (false, 3, ga))
theorem rdH.m {h H : am_H} {e : am_E} {gl gc ga : Nat → Int32} (x : rdH h H e gl gc ga) (e' : am_E) : rdH h (am_set H 46 e') e' gl gc ga := ⟨x.1.set (by simp), am_set_eq, (am_set_ne (by omega)).trans x.2.2.1, (am_set_ne (by omega)).trans x.2.2.2.1, (am_set_ne (by omega)).trans x.2.2.2.2⟩
theorem rdH.ln {h H : am_H} {e : am_E} {gl gc ga : Nat → Int32} (x : rdH h H e gl gc ga) (g : Nat → Int32) : rdH h (am_set H 49 (.inl (false, 1800, g))) e g gc ga := ⟨x.1.set (by simp), (am_set_ne (by omega)).trans x.2.1, am_set_eq, (am_set_ne (by omega)).trans x.2.2.2.1, (am_set_ne (by omega)).trans x.2.2.2.2⟩
theorem rdH.c {h H : am_H} {e : am_E} {gl gc ga : Nat → Int32} (x : rdH h H e gl gc ga) (g : Nat → Int32) : rdH h (am_set H 50 (.inl (false, 1800, g))) e gl g ga := ⟨x.1.set (by simp), (am_set_ne (by omega)).trans x.2.1, (am_set_ne (by omega)).trans x.2.2.1, am_set_eq, (am_set_ne (by omega)).trans x.2.2.2.2⟩
theorem rdH.a {h H : am_H} {e : am_E} {gl gc ga : Nat → Int32} (x : rdH h H e gl gc ga) (g : Nat → Int32) : rdH h (am_set H 51 (.inl (false, 3, g))) e gl gc g := ⟨x.1.set (by simp), (am_set_ne (by omega)).trans x.2.1, (am_set_ne (by omega)).trans x.2.2.1, (am_set_ne (by omega)).trans x.2.2.2.1, am_set_eq⟩
theorem rdH.tp {h H : am_H} {e : am_E} {gl gc ga : Nat → Int32} (x : rdH h H e gl gc ga) {j : Nat} (hj : j ∉ [46, 49, 50, 51]) : H j = h j := x.1 j hj
set_option maxHeartbeats 4000000 in
set_option maxRecDepth 100000 in
theorem t_X10_symbol (d n0 : Nat) {h : am_H} {ct md : Nat} {to : Bool} {bl co cp bi en tc : Nat} {gl gc ga : Nat → Int32} (X : rdH h h (mO ct md to bl co cp bi en 0 tc) gl gc ga) {f : Nat → Int32} (hf : h 47 = some (.inl (false, 4000, f))) (hE : en ≤ 32000) (hk : bi ≤ en) {t : Nat} (ht : t ≤ 2) {al : Int32} {len : Nat → Nat} (hr : mrd gl gc ga t al len) {w y : Nat} (hSR : SR len (sym t) al f bi w y) (hd : 2 ≤ d) : am_Ct l D dA m_X10_symbol d 0 0 n0 [am_r 46, .inl (nI t)] h (am_qi fun x h' => (bi + w ≤ en → x = nI y ∧ h' = am_set h 46 (mO ct md to bl co cp (bi + w) en 0 tc)) ∧ (en < bi + w → x = nI 0 ∧ h' = am_set h 46 (mO ct md to bl co cp en en 1 tc))) := by
  refine am_Ci (by decide +kernel) rfl rfl ?_
  have hsy := sym_le t
  obtain ⟨r1, r2, r3, r4⟩ := hr
  obtain ⟨hy, hSR⟩ := hSR
  refine am_aload_n dX10_symbol_0 rfl rfl ?_
  refine am_get f_X10_22 dX10_symbol_1 rfl X.2.1 rfl ?_
  refine am_iload_n dX10_symbol_4 rfl rfl ?_
  refine am_iald dX10_symbol_5 rfl X.2.2.2.2 (by omega) (by omega) ?_
  rw [r1]
  refine am_iconst (v := -1) dX10_symbol_6 rfl (by decide +kernel) ?_
  refine am_icmp_eq 17 dX10_symbol_7 rfl rfl (fun hc => ?_) (fun hc => ?_)
  · obtain ⟨hw, hdec⟩ : len y = w ∧ dec len (sym t) f bi w (cnt len w y) := by
      rcases hSR with ⟨g, -⟩ | ⟨-, hw, hdec⟩
      · exact absurd hc g
      · exact ⟨hw, hdec⟩
    obtain ⟨-, r3⟩ := r3 hc
    obtain ⟨d1, d2, d3, d4, d5⟩ := id hdec
    refine am_iconst (v := nI 0) dX10_symbol_17 rfl (by decide +kernel) ?_
    refine am_istore_n dX10_symbol_18 rfl rfl ?_
    refine am_iconst (v := nI 1) dX10_symbol_19 rfl (by decide +kernel) ?_
    refine am_istore_n dX10_symbol_20 rfl rfl ?_
    have loop : ∀ (q i : Nat) (x4 : Option am_V), i + 1 + q = w → bi + i ≤ en → am_At l D dA m_X10_symbol d 0 0 0 0 n0 none (am_qi fun x h' => (bi + w ≤ en → x = nI y ∧ h' = am_set h 46 (mO ct md to bl co cp (bi + w) en 0 tc)) ∧ (en < bi + w → x = nI 0 ∧ h' = am_set h 46 (mO ct md to bl co cp en en 1 tc))) 0 0 21 [some (am_r 46), some (.inl (nI t)), some (.inl (nI (num f bi i))), some (.inl (nI (i + 1))), x4] [] (am_set h 46 (mO ct md to bl co cp (bi + i) en 0 tc)) := by
      intro q
      induction q with
      | zero =>
        intro i x4 hi hEk
        have hnl := num_lt f bi i
        have hp : 2 ^ i ≤ 2 ^ 15 := Nat.pow_le_pow_right (by omega) (by omega)
        have Y := X.m (mO ct md to bl co cp (bi + i) en 0 tc)
        refine am_iload_n dX10_symbol_21 rfl rfl ?_
        refine am_bipush (v := nI 16) dX10_symbol_22 rfl (by decide +kernel) ?_
        refine am_ncmp_gt 112 dX10_symbol_24 rfl rfl (by omega) (by omega) (fun hc => ?_) (fun hc => ?_)
        · omega
        · refine am_aload_n dX10_symbol_27 rfl rfl ?_
          refine am_get f_X10_73 dX10_symbol_28 rfl Y.2.1 rfl ?_
          refine am_nif_ne 112 dX10_symbol_31 rfl rfl (by omega) (fun hz => ?_) (fun hz => ?_)
          · omega
          · refine am_iload_n dX10_symbol_34 rfl rfl ?_
            refine am_iconst (v := nI 1) dX10_symbol_35 rfl (by decide +kernel) ?_
            refine am_ishl dX10_symbol_36 rfl ?_
            refine am_aload_n dX10_symbol_37 rfl rfl ?_
            refine am_iconst (v := nI 1) dX10_symbol_38 rfl (by decide +kernel) ?_
            refine am_vi (t_X10_take (d - 1) _ Y.2.1 ((Y.tp (by simp)).trans hf) hE hEk (n := 1) (by omega) (by omega)) k_X10_take l_X10_90 dX10_symbol_39 rfl rfl rfl rfl Y.2.1 (by omega) (Nat.le_refl _) (Nat.le_refl _) (fun x h1 hx => ?_)
            obtain ⟨hx1, hx2⟩ := hx
            by_cases hE1 : bi + i + 1 ≤ en
            · obtain ⟨rfl, rfl⟩ := hx1 hE1
              rw [am_set_set, num_1]
              refine am_ior dX10_symbol_42 rfl ?_
              rw [nI_or1 (by omega) (bt_lt f (bi + i)), show 2 * num f bi i + bt f (bi + i) = num f bi (i + 1) from rfl]
              refine am_istore_n dX10_symbol_43 rfl rfl ?_
              refine am_iconst (v := nI 0) dX10_symbol_44 rfl (by decide +kernel) ?_
              refine am_istore dX10_symbol_45 rfl rfl ?_
              have hnl2 := num_lt f bi (i + 1)
              have hp2 : 2 ^ (i + 1) ≤ 2 ^ 16 := Nat.pow_le_pow_right (by omega) (by omega)
              have hf1 := frstM (len := len) (m := sym t) hsy.1 (fun s hs => (r2 s hs).2) (n := i + 1) (by omega)
              have Z := X.m (mO ct md to bl co cp (bi + i + 1) en 0 tc)
              have inner : ∀ (p s : Nat), s + p = sym t → (i + 1 = w → s ≤ y) → am_At l D dA m_X10_symbol d 0 0 0 0 n0 none (am_qi fun x h' => (bi + w ≤ en → x = nI y ∧ h' = am_set h 46 (mO ct md to bl co cp (bi + w) en 0 tc)) ∧ (en < bi + w → x = nI 0 ∧ h' = am_set h 46 (mO ct md to bl co cp en en 1 tc))) 0 0 47 [some (am_r 46), some (.inl (nI t)), some (.inl (nI (num f bi (i + 1)))), some (.inl (nI (i + 1))), some (.inl (nI s))] [] (am_set h 46 (mO ct md to bl co cp (bi + i + 1) en 0 tc)) := by
                intro p
                induction p with
                | zero =>
                  intro s hs hys
                  refine am_iload dX10_symbol_47 rfl rfl ?_
                  refine am_iload_n dX10_symbol_49 rfl rfl ?_
                  refine am_si (t_X10_symbols (d - 1) _ ht) k_X10_symbols l_X10_79 dX10_symbol_50 rfl rfl rfl rfl (by omega) (Nat.le_refl _) (Nat.le_refl _) (fun x h1 hx => ?_)
                  obtain ⟨rfl, hh⟩ := hx
                  obtain rfl := hh.symm
                  refine am_ncmp_ge 106 dX10_symbol_53 rfl rfl (by omega) (by omega) (fun hc => ?_) (fun hc => ?_)
                  · have := hys (by omega)
                    omega
                  · omega
                | succ p ihp =>
                  intro s hs hys
                  have hc2 := cnt_le len (i + 1) s
                  obtain ⟨q1, q2⟩ := r2 s (by omega)
                  refine am_iload dX10_symbol_47 rfl rfl ?_
                  refine am_iload_n dX10_symbol_49 rfl rfl ?_
                  refine am_si (t_X10_symbols (d - 1) _ ht) k_X10_symbols l_X10_79 dX10_symbol_50 rfl rfl rfl rfl (by omega) (Nat.le_refl _) (Nat.le_refl _) (fun x h1 hx => ?_)
                  obtain ⟨rfl, hh⟩ := hx
                  obtain rfl := hh.symm
                  refine am_ncmp_ge 106 dX10_symbol_53 rfl rfl (by omega) (by omega) (fun hc => ?_) (fun hc => ?_)
                  · omega
                  · refine am_aload_n dX10_symbol_56 rfl rfl ?_
                    refine am_get f_X10_73 dX10_symbol_57 rfl Z.2.1 rfl ?_
                    refine am_nif_ne 106 dX10_symbol_60 rfl rfl (by omega) (fun hz2 => ?_) (fun hz2 => ?_)
                    · omega
                    · refine am_aload_n dX10_symbol_63 rfl rfl ?_
                      refine am_get f_X10_16 dX10_symbol_64 rfl Z.2.1 rfl ?_
                      refine am_sipush (v := nI 600) dX10_symbol_67 rfl (by decide +kernel) ?_
                      refine am_iload_n dX10_symbol_70 rfl rfl ?_
                      refine am_imul dX10_symbol_71 rfl ?_
                      refine am_iload dX10_symbol_72 rfl rfl ?_
                      refine am_iadd dX10_symbol_74 rfl ?_
                      rw [pk_mul, nI_add]
                      refine am_iald dX10_symbol_75 rfl Z.2.2.1 (by omega) (by omega) ?_
                      rw [q1]
                      refine am_iload_n dX10_symbol_76 rfl rfl ?_
                      refine am_ncmp_ne 100 dX10_symbol_77 rfl rfl (by omega) (by omega) (fun hln => ?_) (fun hln => ?_)
                      · refine am_iinc (n := 1) dX10_symbol_100 rfl rfl (nI_1 s) ?_
                        refine am_goto 47 dX10_symbol_103 rfl rfl ?_
                        refine ihp (s + 1) (by omega) (fun g => ?_)
                        have := hys g
                        by_cases zz : s = y
                        · subst zz; omega
                        · omega
                      · refine am_aload_n dX10_symbol_80 rfl rfl ?_
                        refine am_get f_X10_19 dX10_symbol_81 rfl Z.2.1 rfl ?_
                        refine am_sipush (v := nI 600) dX10_symbol_84 rfl (by decide +kernel) ?_
                        refine am_iload_n dX10_symbol_87 rfl rfl ?_
                        refine am_imul dX10_symbol_88 rfl ?_
                        refine am_iload dX10_symbol_89 rfl rfl ?_
                        refine am_iadd dX10_symbol_91 rfl ?_
                        rw [pk_mul, nI_add]
                        refine am_iald dX10_symbol_92 rfl Z.2.2.2.1 (by omega) (by omega) ?_
                        rw [r3 s (by omega) (by omega)]
                        refine am_iload_n dX10_symbol_93 rfl rfl ?_
                        have hcd : cdN len (sym t) s = frst len (sym t) (i + 1) + cnt len (i + 1) s := by unfold cdN; rw [hln]
                        rw [hcd]
                        refine am_ncmp_ne 100 dX10_symbol_94 rfl rfl (by omega) (by omega) (fun hv => ?_) (fun hv => ?_)
                        · refine am_iinc (n := 1) dX10_symbol_100 rfl rfl (nI_1 s) ?_
                          refine am_goto 47 dX10_symbol_103 rfl rfl ?_
                          refine ihp (s + 1) (by omega) (fun g => ?_)
                          have := hys g
                          by_cases zz : s = y
                          · subst zz; rw [g] at hv; omega
                          · omega
                        · have hiw : i + 1 = w := by omega
                          have hsy2 : s = y := by
                            rw [hiw] at hv hln
                            exact cnt_inj hln hw (by omega)
                          subst hsy2
                          refine am_iload dX10_symbol_97 rfl rfl ?_
                          exact am_ri dX10_symbol_99 rfl rfl rfl ⟨fun _ => ⟨rfl, by rw [← hiw]; rfl⟩, fun g => by omega⟩
              exact inner (sym t) 0 (by omega) (fun _ => Nat.zero_le _)
            · obtain ⟨rfl, rfl⟩ := hx2 (by omega)
              rw [am_set_set]
              refine am_ior dX10_symbol_42 rfl ?_
              refine am_istore_n dX10_symbol_43 rfl rfl ?_
              refine am_iconst (v := nI 0) dX10_symbol_44 rfl (by decide +kernel) ?_
              refine am_istore dX10_symbol_45 rfl rfl ?_
              have Z := X.m (mO ct md to bl co cp en en 1 tc)
              refine am_iload dX10_symbol_47 rfl rfl ?_
              refine am_iload_n dX10_symbol_49 rfl rfl ?_
              refine am_si (t_X10_symbols (d - 1) _ ht) k_X10_symbols l_X10_79 dX10_symbol_50 rfl rfl rfl rfl (by omega) (Nat.le_refl _) (Nat.le_refl _) (fun x h1 hx => ?_)
              obtain ⟨rfl, hh⟩ := hx
              obtain rfl := hh.symm
              refine am_ncmp_ge 106 dX10_symbol_53 rfl rfl (by omega) (by omega) (fun hq => ?_) (fun hq => ?_)
              · omega
              · refine am_aload_n dX10_symbol_56 rfl rfl ?_
                refine am_get f_X10_73 dX10_symbol_57 rfl Z.2.1 rfl ?_
                refine am_nif_ne 106 dX10_symbol_60 rfl rfl (by omega) (fun hz2 => ?_) (fun hz2 => ?_)
                · refine am_iinc (n := 1) dX10_symbol_106 rfl rfl (nI_1 (i + 1)) ?_
                  refine am_goto 21 dX10_symbol_109 rfl rfl ?_
                  refine am_iload_n dX10_symbol_21 rfl rfl ?_
                  refine am_bipush (v := nI 16) dX10_symbol_22 rfl (by decide +kernel) ?_
                  refine am_ncmp_gt 112 dX10_symbol_24 rfl rfl (by omega) (by omega) (fun h16 => ?_) (fun h16 => ?_)
                  · refine am_iconst (v := nI 0) dX10_symbol_112 rfl (by decide +kernel) ?_
                    exact am_ri dX10_symbol_113 rfl rfl rfl ⟨fun g => by omega, fun _ => ⟨rfl, rfl⟩⟩
                  · refine am_aload_n dX10_symbol_27 rfl rfl ?_
                    refine am_get f_X10_73 dX10_symbol_28 rfl Z.2.1 rfl ?_
                    refine am_nif_ne 112 dX10_symbol_31 rfl rfl (by omega) (fun hz3 => ?_) (fun hz3 => ?_)
                    · refine am_iconst (v := nI 0) dX10_symbol_112 rfl (by decide +kernel) ?_
                      exact am_ri dX10_symbol_113 rfl rfl rfl ⟨fun g => by omega, fun _ => ⟨rfl, rfl⟩⟩
                    · omega
                · omega
      | succ q ih =>
        intro i x4 hi hEk
        have hnl := num_lt f bi i
        have hp : 2 ^ i ≤ 2 ^ 15 := Nat.pow_le_pow_right (by omega) (by omega)
        have Y := X.m (mO ct md to bl co cp (bi + i) en 0 tc)
        refine am_iload_n dX10_symbol_21 rfl rfl ?_
        refine am_bipush (v := nI 16) dX10_symbol_22 rfl (by decide +kernel) ?_
        refine am_ncmp_gt 112 dX10_symbol_24 rfl rfl (by omega) (by omega) (fun hc => ?_) (fun hc => ?_)
        · omega
        · refine am_aload_n dX10_symbol_27 rfl rfl ?_
          refine am_get f_X10_73 dX10_symbol_28 rfl Y.2.1 rfl ?_
          refine am_nif_ne 112 dX10_symbol_31 rfl rfl (by omega) (fun hz => ?_) (fun hz => ?_)
          · omega
          · refine am_iload_n dX10_symbol_34 rfl rfl ?_
            refine am_iconst (v := nI 1) dX10_symbol_35 rfl (by decide +kernel) ?_
            refine am_ishl dX10_symbol_36 rfl ?_
            refine am_aload_n dX10_symbol_37 rfl rfl ?_
            refine am_iconst (v := nI 1) dX10_symbol_38 rfl (by decide +kernel) ?_
            refine am_vi (t_X10_take (d - 1) _ Y.2.1 ((Y.tp (by simp)).trans hf) hE hEk (n := 1) (by omega) (by omega)) k_X10_take l_X10_90 dX10_symbol_39 rfl rfl rfl rfl Y.2.1 (by omega) (Nat.le_refl _) (Nat.le_refl _) (fun x h1 hx => ?_)
            obtain ⟨hx1, hx2⟩ := hx
            by_cases hE1 : bi + i + 1 ≤ en
            · obtain ⟨rfl, rfl⟩ := hx1 hE1
              rw [am_set_set, num_1]
              refine am_ior dX10_symbol_42 rfl ?_
              rw [nI_or1 (by omega) (bt_lt f (bi + i)), show 2 * num f bi i + bt f (bi + i) = num f bi (i + 1) from rfl]
              refine am_istore_n dX10_symbol_43 rfl rfl ?_
              refine am_iconst (v := nI 0) dX10_symbol_44 rfl (by decide +kernel) ?_
              refine am_istore dX10_symbol_45 rfl rfl ?_
              have hnl2 := num_lt f bi (i + 1)
              have hp2 : 2 ^ (i + 1) ≤ 2 ^ 16 := Nat.pow_le_pow_right (by omega) (by omega)
              have hf1 := frstM (len := len) (m := sym t) hsy.1 (fun s hs => (r2 s hs).2) (n := i + 1) (by omega)
              have Z := X.m (mO ct md to bl co cp (bi + i + 1) en 0 tc)
              have inner : ∀ (p s : Nat), s + p = sym t → (i + 1 = w → s ≤ y) → am_At l D dA m_X10_symbol d 0 0 0 0 n0 none (am_qi fun x h' => (bi + w ≤ en → x = nI y ∧ h' = am_set h 46 (mO ct md to bl co cp (bi + w) en 0 tc)) ∧ (en < bi + w → x = nI 0 ∧ h' = am_set h 46 (mO ct md to bl co cp en en 1 tc))) 0 0 47 [some (am_r 46), some (.inl (nI t)), some (.inl (nI (num f bi (i + 1)))), some (.inl (nI (i + 1))), some (.inl (nI s))] [] (am_set h 46 (mO ct md to bl co cp (bi + i + 1) en 0 tc)) := by
                intro p
                induction p with
                | zero =>
                  intro s hs hys
                  refine am_iload dX10_symbol_47 rfl rfl ?_
                  refine am_iload_n dX10_symbol_49 rfl rfl ?_
                  refine am_si (t_X10_symbols (d - 1) _ ht) k_X10_symbols l_X10_79 dX10_symbol_50 rfl rfl rfl rfl (by omega) (Nat.le_refl _) (Nat.le_refl _) (fun x h1 hx => ?_)
                  obtain ⟨rfl, hh⟩ := hx
                  obtain rfl := hh.symm
                  refine am_ncmp_ge 106 dX10_symbol_53 rfl rfl (by omega) (by omega) (fun hc => ?_) (fun hc => ?_)
                  · refine am_iinc (n := 1) dX10_symbol_106 rfl rfl (nI_1 (i + 1)) ?_
                    refine am_goto 21 dX10_symbol_109 rfl rfl ?_
                    exact ih (i + 1) _ (by omega) (by omega)
                  · omega
                | succ p ihp =>
                  intro s hs hys
                  have hc2 := cnt_le len (i + 1) s
                  obtain ⟨q1, q2⟩ := r2 s (by omega)
                  refine am_iload dX10_symbol_47 rfl rfl ?_
                  refine am_iload_n dX10_symbol_49 rfl rfl ?_
                  refine am_si (t_X10_symbols (d - 1) _ ht) k_X10_symbols l_X10_79 dX10_symbol_50 rfl rfl rfl rfl (by omega) (Nat.le_refl _) (Nat.le_refl _) (fun x h1 hx => ?_)
                  obtain ⟨rfl, hh⟩ := hx
                  obtain rfl := hh.symm
                  refine am_ncmp_ge 106 dX10_symbol_53 rfl rfl (by omega) (by omega) (fun hc => ?_) (fun hc => ?_)
                  · omega
                  · refine am_aload_n dX10_symbol_56 rfl rfl ?_
                    refine am_get f_X10_73 dX10_symbol_57 rfl Z.2.1 rfl ?_
                    refine am_nif_ne 106 dX10_symbol_60 rfl rfl (by omega) (fun hz2 => ?_) (fun hz2 => ?_)
                    · omega
                    · refine am_aload_n dX10_symbol_63 rfl rfl ?_
                      refine am_get f_X10_16 dX10_symbol_64 rfl Z.2.1 rfl ?_
                      refine am_sipush (v := nI 600) dX10_symbol_67 rfl (by decide +kernel) ?_
                      refine am_iload_n dX10_symbol_70 rfl rfl ?_
                      refine am_imul dX10_symbol_71 rfl ?_
                      refine am_iload dX10_symbol_72 rfl rfl ?_
                      refine am_iadd dX10_symbol_74 rfl ?_
                      rw [pk_mul, nI_add]
                      refine am_iald dX10_symbol_75 rfl Z.2.2.1 (by omega) (by omega) ?_
                      rw [q1]
                      refine am_iload_n dX10_symbol_76 rfl rfl ?_
                      refine am_ncmp_ne 100 dX10_symbol_77 rfl rfl (by omega) (by omega) (fun hln => ?_) (fun hln => ?_)
                      · refine am_iinc (n := 1) dX10_symbol_100 rfl rfl (nI_1 s) ?_
                        refine am_goto 47 dX10_symbol_103 rfl rfl ?_
                        refine ihp (s + 1) (by omega) (fun g => ?_)
                        have := hys g
                        by_cases zz : s = y
                        · subst zz; omega
                        · omega
                      · refine am_aload_n dX10_symbol_80 rfl rfl ?_
                        refine am_get f_X10_19 dX10_symbol_81 rfl Z.2.1 rfl ?_
                        refine am_sipush (v := nI 600) dX10_symbol_84 rfl (by decide +kernel) ?_
                        refine am_iload_n dX10_symbol_87 rfl rfl ?_
                        refine am_imul dX10_symbol_88 rfl ?_
                        refine am_iload dX10_symbol_89 rfl rfl ?_
                        refine am_iadd dX10_symbol_91 rfl ?_
                        rw [pk_mul, nI_add]
                        refine am_iald dX10_symbol_92 rfl Z.2.2.2.1 (by omega) (by omega) ?_
                        rw [r3 s (by omega) (by omega)]
                        refine am_iload_n dX10_symbol_93 rfl rfl ?_
                        have hcd : cdN len (sym t) s = frst len (sym t) (i + 1) + cnt len (i + 1) s := by unfold cdN; rw [hln]
                        rw [hcd]
                        refine am_ncmp_ne 100 dX10_symbol_94 rfl rfl (by omega) (by omega) (fun hv => ?_) (fun hv => ?_)
                        · refine am_iinc (n := 1) dX10_symbol_100 rfl rfl (nI_1 s) ?_
                          refine am_goto 47 dX10_symbol_103 rfl rfl ?_
                          refine ihp (s + 1) (by omega) (fun g => ?_)
                          have := hys g
                          by_cases zz : s = y
                          · subst zz; rw [g] at hv; omega
                          · omega
                        · exfalso
                          have g1 := d3 (i + 1) (by omega) (by omega)
                          have g2 := cnt_lt (len := len) (n := i + 1) (s := s) (m := sym t) (by omega) hln
                          omega
              exact inner (sym t) 0 (by omega) (fun _ => Nat.zero_le _)
            · obtain ⟨rfl, rfl⟩ := hx2 (by omega)
              rw [am_set_set]
              refine am_ior dX10_symbol_42 rfl ?_
              refine am_istore_n dX10_symbol_43 rfl rfl ?_
              refine am_iconst (v := nI 0) dX10_symbol_44 rfl (by decide +kernel) ?_
              refine am_istore dX10_symbol_45 rfl rfl ?_
              have Z := X.m (mO ct md to bl co cp en en 1 tc)
              refine am_iload dX10_symbol_47 rfl rfl ?_
              refine am_iload_n dX10_symbol_49 rfl rfl ?_
              refine am_si (t_X10_symbols (d - 1) _ ht) k_X10_symbols l_X10_79 dX10_symbol_50 rfl rfl rfl rfl (by omega) (Nat.le_refl _) (Nat.le_refl _) (fun x h1 hx => ?_)
              obtain ⟨rfl, hh⟩ := hx
              obtain rfl := hh.symm
              refine am_ncmp_ge 106 dX10_symbol_53 rfl rfl (by omega) (by omega) (fun hq => ?_) (fun hq => ?_)
              · omega
              · refine am_aload_n dX10_symbol_56 rfl rfl ?_
                refine am_get f_X10_73 dX10_symbol_57 rfl Z.2.1 rfl ?_
                refine am_nif_ne 106 dX10_symbol_60 rfl rfl (by omega) (fun hz2 => ?_) (fun hz2 => ?_)
                · refine am_iinc (n := 1) dX10_symbol_106 rfl rfl (nI_1 (i + 1)) ?_
                  refine am_goto 21 dX10_symbol_109 rfl rfl ?_
                  refine am_iload_n dX10_symbol_21 rfl rfl ?_
                  refine am_bipush (v := nI 16) dX10_symbol_22 rfl (by decide +kernel) ?_
                  refine am_ncmp_gt 112 dX10_symbol_24 rfl rfl (by omega) (by omega) (fun h16 => ?_) (fun h16 => ?_)
                  · refine am_iconst (v := nI 0) dX10_symbol_112 rfl (by decide +kernel) ?_
                    exact am_ri dX10_symbol_113 rfl rfl rfl ⟨fun g => by omega, fun _ => ⟨rfl, rfl⟩⟩
                  · refine am_aload_n dX10_symbol_27 rfl rfl ?_
                    refine am_get f_X10_73 dX10_symbol_28 rfl Z.2.1 rfl ?_
                    refine am_nif_ne 112 dX10_symbol_31 rfl rfl (by omega) (fun hz3 => ?_) (fun hz3 => ?_)
                    · refine am_iconst (v := nI 0) dX10_symbol_112 rfl (by decide +kernel) ?_
                      exact am_ri dX10_symbol_113 rfl rfl rfl ⟨fun g => by omega, fun _ => ⟨rfl, rfl⟩⟩
                    · omega
                · omega
    refine am_eq rfl rfl rfl ?_ (loop (w - 1) 0 _ (by omega) (by omega))
    exact (am_set_self X.2.1).symm
  · obtain ⟨g2, g3⟩ : al = nI y ∧ w = 0 := by
      rcases hSR with ⟨-, g2, g3⟩ | ⟨g, -⟩
      · exact ⟨g2, g3⟩
      · exact absurd g hc
    subst g3
    refine am_aload_n dX10_symbol_10 rfl rfl ?_
    refine am_get f_X10_22 dX10_symbol_11 rfl X.2.1 rfl ?_
    refine am_iload_n dX10_symbol_14 rfl rfl ?_
    refine am_iald dX10_symbol_15 rfl X.2.2.2.2 (by omega) (by omega) ?_
    rw [r1, g2]
    exact am_ri dX10_symbol_16 rfl rfl rfl ⟨fun _ => ⟨rfl, (am_set_self X.2.1).symm⟩, fun g => by omega⟩
set_option maxHeartbeats 4000000 in
set_option maxRecDepth 100000 in
theorem t_X10_many (d n0 : Nat) {h : am_H} {ct md : Nat} {to : Bool} {bl co cp bi en tc : Nat} {gl gc ga : Nat → Int32} (X : rdH h h (mO ct md to bl co cp bi en 0 tc) gl gc ga) {f : Nat → Int32} (hf : h 47 = some (.inl (false, 4000, f))) (hE : en ≤ 32000) (hk : bi ≤ en) {t nb : Nat} (ht : t ≤ 2) (hnb : nb ≤ 9) (hnb1 : 1 ≤ nb) (hd : 2 ≤ d) : am_Ct l D dA m_X10_many d 0 0 n0 [am_r 46, .inl (nI t), .inl (nI nb)] h (am_qi fun x h' => ∃ ga' F k' n', x = nI n' ∧ h' = am_set (am_set h 46 (mO ct md to bl co cp k' en F tc)) 51 (.inl (false, 3, ga')) ∧ (∀ j, j ≠ t → ga' j = ga j) ∧ ((en < bi + nb ∧ F = 1 ∧ k' = en ∧ n' = 0) ∨ (bi + nb ≤ en ∧ sym t < num f bi nb ∧ F = 3 ∧ k' = bi + nb ∧ n' = 0) ∨ (bi + nb ≤ en ∧ num f bi nb = 0 ∧ en < bi + nb + nb ∧ F = 1 ∧ k' = en ∧ n' = 0) ∨ (bi + nb + nb ≤ en ∧ num f bi nb = 0 ∧ sym t ≤ num f (bi + nb) nb ∧ F = 3 ∧ k' = bi + nb + nb ∧ n' = 0) ∨ (bi + nb + nb ≤ en ∧ num f bi nb = 0 ∧ num f (bi + nb) nb < sym t ∧ F = 0 ∧ k' = bi + nb + nb ∧ n' = 0 ∧ ga' t = nI (num f (bi + nb) nb)) ∨ (bi + nb ≤ en ∧ 0 < num f bi nb ∧ num f bi nb ≤ sym t ∧ F = 0 ∧ k' = bi + nb ∧ n' = num f bi nb ∧ ga' t = ga t))) := by
  refine am_Ci (by decide +kernel) rfl rfl ?_
  have hsy := sym_le t
  have p9 : 2 ^ nb ≤ 2 ^ 9 := Nat.pow_le_pow_right (by omega) hnb
  refine am_aload_n dX10_many_0 rfl rfl ?_
  refine am_iload_n dX10_many_1 rfl rfl ?_
  refine am_vi (t_X10_take (d - 1) _ X.2.1 hf hE hk (n := nb) (by omega) (by omega)) k_X10_take l_X10_90 dX10_many_2 rfl rfl rfl rfl X.2.1 (by omega) (Nat.le_refl _) (Nat.le_refl _) (fun x h1 hx => ?_)
  obtain ⟨hx1, hx2⟩ := hx
  by_cases hA : bi + nb ≤ en
  · obtain ⟨rfl, rfl⟩ := hx1 hA
    have Y := X.m (mO ct md to bl co cp (bi + nb) en 0 tc)
    have hnl := num_lt f bi nb
    refine am_istore_n dX10_many_5 rfl rfl ?_
    refine am_aload_n dX10_many_6 rfl rfl ?_
    refine am_get f_X10_73 dX10_many_7 rfl Y.2.1 rfl ?_
    refine am_nif_ne 46 dX10_many_10 rfl rfl (by omega) (fun hz => ?_) (fun hz => ?_)
    · omega
    · refine am_iload_n dX10_many_13 rfl rfl ?_
      refine am_nif_ne 46 dX10_many_14 rfl rfl (by omega) (fun hn0 => ?_) (fun hn0 => ?_)
      · refine am_iload_n dX10_many_46 rfl rfl ?_
        refine am_iload_n dX10_many_47 rfl rfl ?_
        refine am_si (t_X10_symbols (d - 1) _ ht) k_X10_symbols l_X10_79 dX10_many_48 rfl rfl rfl rfl (by omega) (Nat.le_refl _) (Nat.le_refl _) (fun x h1 hx => ?_)
        obtain ⟨rfl, hh⟩ := hx
        obtain rfl := hh.symm
        refine am_ncmp_le 59 dX10_many_51 rfl rfl (by omega) (by omega) (fun hm => ?_) (fun hm => ?_)
        · refine am_aload_n dX10_many_59 rfl rfl ?_
          refine am_get f_X10_73 dX10_many_60 rfl Y.2.1 rfl ?_
          refine am_nif_ne 70 dX10_many_63 rfl rfl (by omega) (fun hz2 => ?_) (fun hz2 => ?_)
          · omega
          · refine am_iload_n dX10_many_66 rfl rfl ?_
            refine am_goto 71 dX10_many_67 rfl rfl ?_
            exact am_ri dX10_many_71 rfl rfl rfl ⟨ga, 0, bi + nb, num f bi nb, rfl, (by rw [am_set_self (Y.2.2.2.2)]), fun _ _ => rfl, Or.inr (Or.inr (Or.inr (Or.inr (Or.inr ⟨hA, hn0, hm, rfl, rfl, rfl, rfl⟩))))⟩
        · refine am_aload_n dX10_many_54 rfl rfl ?_
          refine am_iconst (v := nI 3) dX10_many_55 rfl (by decide +kernel) ?_
          refine am_vv (t_X10_fails (d - 1) _ Y.2.1 (by omega) (v := 3)) k_X10_fails l_X10_86 dX10_many_56 rfl rfl rfl rfl Y.2.1 (by omega) (Nat.le_refl _) (Nat.le_refl _) (fun h1 hx => ?_)
          rw [am_set_set, if_pos rfl] at hx
          subst hx
          have Z := X.m (mO ct md to bl co cp (bi + nb) en 3 tc)
          refine am_aload_n dX10_many_59 rfl rfl ?_
          refine am_get f_X10_73 dX10_many_60 rfl Z.2.1 rfl ?_
          refine am_nif_ne 70 dX10_many_63 rfl rfl (by omega) (fun hz2 => ?_) (fun hz2 => ?_)
          · refine am_iconst (v := nI 0) dX10_many_70 rfl (by decide +kernel) ?_
            exact am_ri dX10_many_71 rfl rfl rfl ⟨ga, 3, bi + nb, 0, rfl, (by rw [am_set_self Z.2.2.2.2]), fun _ _ => rfl, Or.inr (Or.inl ⟨hA, hm, rfl, rfl, rfl⟩)⟩
          · omega
      · refine am_aload_n dX10_many_17 rfl rfl ?_
        refine am_iload_n dX10_many_18 rfl rfl ?_
        refine am_vi (t_X10_take (d - 1) _ Y.2.1 ((Y.tp (by simp)).trans hf) hE (by omega) (n := nb) (by omega) (by omega)) k_X10_take l_X10_90 dX10_many_19 rfl rfl rfl rfl Y.2.1 (by omega) (Nat.le_refl _) (Nat.le_refl _) (fun z h2 hx => ?_)
        obtain ⟨hx3, hx4⟩ := hx
        rw [hn0]
        by_cases hB : bi + nb + nb ≤ en
        · obtain ⟨rfl, rfl⟩ := hx3 hB
          rw [am_set_set]
          have Z := X.m (mO ct md to bl co cp (bi + nb + nb) en 0 tc)
          have hnl2 := num_lt f (bi + nb) nb
          refine am_istore dX10_many_22 rfl rfl ?_
          refine am_iload dX10_many_24 rfl rfl ?_
          refine am_iload_n dX10_many_26 rfl rfl ?_
          refine am_si (t_X10_symbols (d - 1) _ ht) k_X10_symbols l_X10_79 dX10_many_27 rfl rfl rfl rfl (by omega) (Nat.le_refl _) (Nat.le_refl _) (fun x h1 hx => ?_)
          obtain ⟨rfl, hh⟩ := hx
          obtain rfl := hh.symm
          refine am_ncmp_lt 38 dX10_many_30 rfl rfl (by omega) (by omega) (fun hl2 => ?_) (fun hl2 => ?_)
          · skip
            refine am_aload_n dX10_many_38 rfl rfl ?_
            refine am_get f_X10_22 dX10_many_39 rfl Z.2.1 rfl ?_
            refine am_iload_n dX10_many_42 rfl rfl ?_
            refine am_iload dX10_many_43 rfl rfl ?_
            refine am_iast dX10_many_45 rfl Z.2.2.2.2 (by omega) (by omega) ?_
            have V := Z.a (upd ga t (nI (num f (bi + nb) nb)))
            refine am_iload_n dX10_many_46 rfl rfl ?_
            refine am_iload_n dX10_many_47 rfl rfl ?_
            refine am_si (t_X10_symbols (d - 1) _ ht) k_X10_symbols l_X10_79 dX10_many_48 rfl rfl rfl rfl (by omega) (Nat.le_refl _) (Nat.le_refl _) (fun x h1 hx => ?_)
            obtain ⟨rfl, hh⟩ := hx
            obtain rfl := hh.symm
            refine am_ncmp_le 59 dX10_many_51 rfl rfl (by omega) (by omega) (fun hm => ?_) (fun hm => ?_)
            · refine am_aload_n dX10_many_59 rfl rfl ?_
              refine am_get f_X10_73 dX10_many_60 rfl V.2.1 rfl ?_
              refine am_nif_ne 70 dX10_many_63 rfl rfl (by omega) (fun hz2 => ?_) (fun hz2 => ?_)
              · omega
              · refine am_iload_n dX10_many_66 rfl rfl ?_
                refine am_goto 71 dX10_many_67 rfl rfl ?_
                exact am_ri dX10_many_71 rfl rfl rfl ⟨(upd ga t (nI (num f (bi + nb) nb))), 0, bi + nb + nb, 0, rfl, rfl, fun j hj => upd_ne hj, Or.inr (Or.inr (Or.inr (Or.inr (Or.inl ⟨hB, rfl, hl2, rfl, rfl, rfl, upd_eq⟩))))⟩
            · omega
          · refine am_aload_n dX10_many_33 rfl rfl ?_
            refine am_iconst (v := nI 3) dX10_many_34 rfl (by decide +kernel) ?_
            refine am_vv (t_X10_fails (d - 1) _ Z.2.1 (by omega) (v := 3)) k_X10_fails l_X10_86 dX10_many_35 rfl rfl rfl rfl Z.2.1 (by omega) (Nat.le_refl _) (Nat.le_refl _) (fun h1 hx => ?_)
            rw [am_set_set, if_pos rfl] at hx
            subst hx
            have Z3 := X.m (mO ct md to bl co cp (bi + nb + nb) en 3 tc)
            refine am_aload_n dX10_many_38 rfl rfl ?_
            refine am_get f_X10_22 dX10_many_39 rfl Z3.2.1 rfl ?_
            refine am_iload_n dX10_many_42 rfl rfl ?_
            refine am_iload dX10_many_43 rfl rfl ?_
            refine am_iast dX10_many_45 rfl Z3.2.2.2.2 (by omega) (by omega) ?_
            have V := Z3.a (upd ga t (nI (num f (bi + nb) nb)))
            refine am_iload_n dX10_many_46 rfl rfl ?_
            refine am_iload_n dX10_many_47 rfl rfl ?_
            refine am_si (t_X10_symbols (d - 1) _ ht) k_X10_symbols l_X10_79 dX10_many_48 rfl rfl rfl rfl (by omega) (Nat.le_refl _) (Nat.le_refl _) (fun x h1 hx => ?_)
            obtain ⟨rfl, hh⟩ := hx
            obtain rfl := hh.symm
            refine am_ncmp_le 59 dX10_many_51 rfl rfl (by omega) (by omega) (fun hm => ?_) (fun hm => ?_)
            · refine am_aload_n dX10_many_59 rfl rfl ?_
              refine am_get f_X10_73 dX10_many_60 rfl V.2.1 rfl ?_
              refine am_nif_ne 70 dX10_many_63 rfl rfl (by omega) (fun hz2 => ?_) (fun hz2 => ?_)
              · refine am_iconst (v := nI 0) dX10_many_70 rfl (by decide +kernel) ?_
                exact am_ri dX10_many_71 rfl rfl rfl ⟨(upd ga t (nI (num f (bi + nb) nb))), 3, bi + nb + nb, 0, rfl, rfl, fun j hj => upd_ne hj, Or.inr (Or.inr (Or.inr (Or.inl ⟨hB, rfl, by omega, rfl, rfl, rfl⟩)))⟩
              · omega
            · omega
        · obtain ⟨rfl, rfl⟩ := hx4 (by omega)
          rw [am_set_set]
          have Z := X.m (mO ct md to bl co cp en en 1 tc)
          have hnl2 := num_lt f (bi + nb) (en - (bi + nb))
          have pp : 2 ^ (en - (bi + nb)) ≤ 2 ^ nb := Nat.pow_le_pow_right (by omega) (by omega)
          refine am_istore dX10_many_22 rfl rfl ?_
          refine am_iload dX10_many_24 rfl rfl ?_
          refine am_iload_n dX10_many_26 rfl rfl ?_
          refine am_si (t_X10_symbols (d - 1) _ ht) k_X10_symbols l_X10_79 dX10_many_27 rfl rfl rfl rfl (by omega) (Nat.le_refl _) (Nat.le_refl _) (fun x h1 hx => ?_)
          obtain ⟨rfl, hh⟩ := hx
          obtain rfl := hh.symm
          refine am_ncmp_lt 38 dX10_many_30 rfl rfl (by omega) (by omega) (fun hl2 => ?_) (fun hl2 => ?_)
          · skip
            refine am_aload_n dX10_many_38 rfl rfl ?_
            refine am_get f_X10_22 dX10_many_39 rfl Z.2.1 rfl ?_
            refine am_iload_n dX10_many_42 rfl rfl ?_
            refine am_iload dX10_many_43 rfl rfl ?_
            refine am_iast dX10_many_45 rfl Z.2.2.2.2 (by omega) (by omega) ?_
            have V := Z.a (upd ga t (nI (num f (bi + nb) (en - (bi + nb)))))
            refine am_iload_n dX10_many_46 rfl rfl ?_
            refine am_iload_n dX10_many_47 rfl rfl ?_
            refine am_si (t_X10_symbols (d - 1) _ ht) k_X10_symbols l_X10_79 dX10_many_48 rfl rfl rfl rfl (by omega) (Nat.le_refl _) (Nat.le_refl _) (fun x h1 hx => ?_)
            obtain ⟨rfl, hh⟩ := hx
            obtain rfl := hh.symm
            refine am_ncmp_le 59 dX10_many_51 rfl rfl (by omega) (by omega) (fun hm => ?_) (fun hm => ?_)
            · refine am_aload_n dX10_many_59 rfl rfl ?_
              refine am_get f_X10_73 dX10_many_60 rfl V.2.1 rfl ?_
              refine am_nif_ne 70 dX10_many_63 rfl rfl (by omega) (fun hz2 => ?_) (fun hz2 => ?_)
              · refine am_iconst (v := nI 0) dX10_many_70 rfl (by decide +kernel) ?_
                exact am_ri dX10_many_71 rfl rfl rfl ⟨(upd ga t (nI (num f (bi + nb) (en - (bi + nb))))), 1, en, 0, rfl, rfl, fun j hj => upd_ne hj, Or.inr (Or.inr (Or.inl ⟨hA, rfl, by omega, rfl, rfl, rfl⟩))⟩
              · omega
            · omega
          · refine am_aload_n dX10_many_33 rfl rfl ?_
            refine am_iconst (v := nI 3) dX10_many_34 rfl (by decide +kernel) ?_
            refine am_vv (t_X10_fails (d - 1) _ Z.2.1 (by omega) (v := 3)) k_X10_fails l_X10_86 dX10_many_35 rfl rfl rfl rfl Z.2.1 (by omega) (Nat.le_refl _) (Nat.le_refl _) (fun h1 hx => ?_)
            rw [am_set_set, if_neg (by omega)] at hx
            subst hx
            refine am_aload_n dX10_many_38 rfl rfl ?_
            refine am_get f_X10_22 dX10_many_39 rfl Z.2.1 rfl ?_
            refine am_iload_n dX10_many_42 rfl rfl ?_
            refine am_iload dX10_many_43 rfl rfl ?_
            refine am_iast dX10_many_45 rfl Z.2.2.2.2 (by omega) (by omega) ?_
            have V := Z.a (upd ga t (nI (num f (bi + nb) (en - (bi + nb)))))
            refine am_iload_n dX10_many_46 rfl rfl ?_
            refine am_iload_n dX10_many_47 rfl rfl ?_
            refine am_si (t_X10_symbols (d - 1) _ ht) k_X10_symbols l_X10_79 dX10_many_48 rfl rfl rfl rfl (by omega) (Nat.le_refl _) (Nat.le_refl _) (fun x h1 hx => ?_)
            obtain ⟨rfl, hh⟩ := hx
            obtain rfl := hh.symm
            refine am_ncmp_le 59 dX10_many_51 rfl rfl (by omega) (by omega) (fun hm => ?_) (fun hm => ?_)
            · refine am_aload_n dX10_many_59 rfl rfl ?_
              refine am_get f_X10_73 dX10_many_60 rfl V.2.1 rfl ?_
              refine am_nif_ne 70 dX10_many_63 rfl rfl (by omega) (fun hz2 => ?_) (fun hz2 => ?_)
              · refine am_iconst (v := nI 0) dX10_many_70 rfl (by decide +kernel) ?_
                exact am_ri dX10_many_71 rfl rfl rfl ⟨(upd ga t (nI (num f (bi + nb) (en - (bi + nb))))), 1, en, 0, rfl, rfl, fun j hj => upd_ne hj, Or.inr (Or.inr (Or.inl ⟨hA, rfl, by omega, rfl, rfl, rfl⟩))⟩
              · omega
            · omega
  · obtain ⟨rfl, rfl⟩ := hx2 (by omega)
    have Y := X.m (mO ct md to bl co cp en en 1 tc)
    have hnl := num_lt f bi (en - bi)
    have pp : 2 ^ (en - bi) ≤ 2 ^ nb := Nat.pow_le_pow_right (by omega) (by omega)
    refine am_istore_n dX10_many_5 rfl rfl ?_
    refine am_aload_n dX10_many_6 rfl rfl ?_
    refine am_get f_X10_73 dX10_many_7 rfl Y.2.1 rfl ?_
    refine am_nif_ne 46 dX10_many_10 rfl rfl (by omega) (fun hz => ?_) (fun hz => ?_)
    · refine am_iload_n dX10_many_46 rfl rfl ?_
      refine am_iload_n dX10_many_47 rfl rfl ?_
      refine am_si (t_X10_symbols (d - 1) _ ht) k_X10_symbols l_X10_79 dX10_many_48 rfl rfl rfl rfl (by omega) (Nat.le_refl _) (Nat.le_refl _) (fun x h1 hx => ?_)
      obtain ⟨rfl, hh⟩ := hx
      obtain rfl := hh.symm
      refine am_ncmp_le 59 dX10_many_51 rfl rfl (by omega) (by omega) (fun hm => ?_) (fun hm => ?_)
      · refine am_aload_n dX10_many_59 rfl rfl ?_
        refine am_get f_X10_73 dX10_many_60 rfl Y.2.1 rfl ?_
        refine am_nif_ne 70 dX10_many_63 rfl rfl (by omega) (fun hz2 => ?_) (fun hz2 => ?_)
        · refine am_iconst (v := nI 0) dX10_many_70 rfl (by decide +kernel) ?_
          exact am_ri dX10_many_71 rfl rfl rfl ⟨ga, 1, en, 0, rfl, (by rw [am_set_self Y.2.2.2.2]), fun _ _ => rfl, Or.inl ⟨by omega, rfl, rfl, rfl⟩⟩
        · omega
      · refine am_aload_n dX10_many_54 rfl rfl ?_
        refine am_iconst (v := nI 3) dX10_many_55 rfl (by decide +kernel) ?_
        refine am_vv (t_X10_fails (d - 1) _ Y.2.1 (by omega) (v := 3)) k_X10_fails l_X10_86 dX10_many_56 rfl rfl rfl rfl Y.2.1 (by omega) (Nat.le_refl _) (Nat.le_refl _) (fun h1 hx => ?_)
        rw [am_set_set, if_neg (by omega)] at hx
        subst hx
        refine am_aload_n dX10_many_59 rfl rfl ?_
        refine am_get f_X10_73 dX10_many_60 rfl Y.2.1 rfl ?_
        refine am_nif_ne 70 dX10_many_63 rfl rfl (by omega) (fun hz2 => ?_) (fun hz2 => ?_)
        · refine am_iconst (v := nI 0) dX10_many_70 rfl (by decide +kernel) ?_
          exact am_ri dX10_many_71 rfl rfl rfl ⟨ga, 1, en, 0, rfl, (by rw [am_set_self Y.2.2.2.2]), fun _ _ => rfl, Or.inl ⟨by omega, rfl, rfl, rfl⟩⟩
        · omega
    · omega
end MOD2

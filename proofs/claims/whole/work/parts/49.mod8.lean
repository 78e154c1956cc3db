/-! ===== the reference: giving bits ===== -/
section MOD8
variable {l : Launch} {D : va_G} {dA : Bool → ClassId}
theorem nI_m1 (b : Nat) : nI b + Int32.ofInt (-1) = nI b - nI 1 := by
  rw [Int32.sub_eq_add_neg]
  rfl
/-- the reference's row and its bits -/
def gvH (h H : am_H) (ct : Nat) (to : Bool) (bl co cp en fa tc : Nat) (s : List Int32 × Nat) : Prop := am_fr h H [46, 48] ∧ H 46 = some (mO ct s.1.length to bl co cp s.2 en fa tc) ∧ mrw H s.1 ∧ wP s
theorem gvH.rf {h H : am_H} {ct : Nat} {to : Bool} {bl co cp en fa tc : Nat} {s : List Int32 × Nat} (x : gvH h H ct to bl co cp en fa tc s) : gvH H H ct to bl co cp en fa tc s := ⟨am_fr.rf, x.2⟩
theorem gvH.tr {h H H' : am_H} {ct : Nat} {to : Bool} {bl co cp en fa tc bl' co' cp' en' fa' tc' : Nat} {s s' : List Int32 × Nat} (x : gvH h H ct to bl co cp en fa tc s) (y : gvH H H' ct to bl' co' cp' en' fa' tc' s') : gvH h H' ct to bl' co' cp' en' fa' tc' s' := ⟨x.1.tr y.1 (fun _ h => h), y.2⟩
theorem mrw.mix {h' : am_H} {bs : List Int32} {g : Nat → Int32} {v : Int32} (b : ∀ i v, bs[i]? = some v → g i = v) (h0 : 0 < bs.length) (e : h' 48 = some (.inl (false, 16000, upd g (bs.length - 1) (g (bs.length - 1) ||| v)))) : mrw h' (orl bs v) := by
  refine ⟨_, e, fun i x hi => ?_⟩
  unfold orl at hi
  have hgl : g (bs.length - 1) = bs.getD (bs.length - 1) 0 := by
    have hlt : bs.length - 1 < bs.length := by omega
    rw [List.getD_eq_getElem?_getD, List.getElem?_eq_getElem hlt]
    exact b _ _ (List.getElem?_eq_getElem hlt)
  by_cases z : i = bs.length - 1
  · subst z
    rw [List.getElem?_set_self (by omega)] at hi
    rw [upd_eq, hgl]
    exact Option.some.inj hi
  · rw [List.getElem?_set_ne (fun q => z q.symm)] at hi
    rw [upd_ne z]
    exact b i x hi
set_option maxHeartbeats 4000000 in
set_option maxRecDepth 100000 in
theorem t_X10_give (d n0 : Nat) {h : am_H} {ct : Nat} {to : Bool} {bl co cp en fa tc : Nat} {s : List Int32 × Nat} (X : gvH h h ct to bl co cp en fa tc s) {v n : Nat} (hv : v < 2 ^ 31) (hn : n ≤ 16) (hg : s.2 + n ≤ 96000) : am_Ct l D dA m_X10_give d 0 0 n0 [am_r 46, .inl (nI v), .inl (nI n)] h (am_qv fun h' => gvH h h' ct to bl co cp en fa tc (gvR v n s)) := by
  refine am_Cv (by decide +kernel) rfl rfl ?_
  refine am_iload_n dX10_give_0 rfl rfl ?_
  refine am_iconst (v := nI 1) dX10_give_1 rfl (by decide +kernel) ?_
  refine am_isub dX10_give_2 rfl ?_
  refine am_istore_n dX10_give_3 rfl rfl ?_
  have loop : ∀ (b : Nat) (s' : List Int32 × Nat) (H : am_H), gvR v b s' = gvR v n s → b ≤ 16 → s'.2 + b ≤ 96000 → gvH h H ct to bl co cp en fa tc s' → am_At l D dA m_X10_give d 0 0 0 0 n0 none (am_qv fun h' => gvH h h' ct to bl co cp en fa tc (gvR v n s)) 0 0 4 [some (am_r 46), some (.inl (nI v)), some (.inl (nI n)), some (.inl (nI b - nI 1))] [] H := by
    intro b
    induction b with
    | zero =>
      intro s' H hR hb hg2 Z
      have hR : s' = gvR v n s := hR
      rw [show nI 0 - nI 1 = (-1 : Int32) by decide +kernel]
      refine am_iload_n dX10_give_4 rfl rfl ?_
      refine am_if_lt 84 dX10_give_5 rfl rfl (fun _ => ?_) (fun g => absurd (by decide +kernel) g)
      exact am_rv dX10_give_84 rfl rfl rfl (by rw [← hR]; exact Z)
    | succ b ih =>
      intro s' H hR hb hg2 Z
      rw [pk_sub (by omega), Nat.add_sub_cancel]
      have hR : gvR v b (gv1 s' (v / 2 ^ b % 2)) = gvR v n s := hR
      obtain ⟨Z1, Z2, ⟨g, Z3, Z4⟩, Z5⟩ := id Z
      have hl := Z5.2
      have go : ∀ (H1 : am_H) (bs : List Int32) (g1 : Nat → Int32), am_fr h H1 [46, 48] → H1 46 = some (mO ct bs.length to bl co cp s'.2 en fa tc) → H1 48 = some (.inl (false, 16000, g1)) → (∀ i v, bs[i]? = some v → g1 i = v) → bs = (if s'.2 % 8 = 0 then s'.1 ++ [nI 0] else s'.1) → 0 < bs.length → bs.length < 16000 → am_At l D dA m_X10_give d 0 0 0 0 n0 none (am_qv fun h' => gvH h h' ct to bl co cp en fa tc (gvR v n s)) 0 0 38 [some (am_r 46), some (.inl (nI v)), some (.inl (nI n)), some (.inl (nI b))] [] H1 := by
        intro H1 bs g1 F m1 o1 ob ebs hb0 hb1
        refine am_aload_n dX10_give_38 rfl rfl ?_
        refine am_get f_X10_13 dX10_give_39 rfl m1 rfl ?_
        refine am_aload_n dX10_give_42 rfl rfl ?_
        refine am_get f_X10_54 dX10_give_43 rfl m1 rfl ?_
        refine am_iconst (v := nI 1) dX10_give_46 rfl (by decide +kernel) ?_
        refine am_isub dX10_give_47 rfl ?_
        rw [pk_sub (by omega)]
        refine am_dup2 dX10_give_48 rfl ?_
        refine am_iald dX10_give_49 rfl o1 (by omega) (by omega) ?_
        refine am_iload_n dX10_give_50 rfl rfl ?_
        refine am_iload_n dX10_give_51 rfl rfl ?_
        refine am_ishr dX10_give_52 rfl ?_
        rw [am_m31 (by omega), pk_shrN hv (nI b) b (am_smod (by omega))]
        refine am_iconst (v := nI 1) dX10_give_53 rfl (by decide +kernel) ?_
        refine am_iand dX10_give_54 rfl ?_
        rw [pk_andN (by have := Nat.div_le_self v (2 ^ b); omega) (m := nI 1) 1 (by decide +kernel)]
        refine am_bipush (v := nI 7) dX10_give_55 rfl (by decide +kernel) ?_
        refine am_aload_n dX10_give_57 rfl rfl ?_
        refine am_get f_X10_70 dX10_give_58 rfl m1 rfl ?_
        refine am_bipush (v := nI 8) dX10_give_61 rfl (by decide +kernel) ?_
        refine am_irem dX10_give_63 rfl (by decide +kernel) ?_
        rw [pk_rem (by omega) (by omega) (by omega)]
        refine am_isub dX10_give_64 rfl ?_
        rw [pk_sub (by omega)]
        refine am_ishl dX10_give_65 rfl ?_
        have p7 : 2 ^ (7 - s'.2 % 8) ≤ 2 ^ 7 := Nat.pow_le_pow_right (by omega) (by omega)
        have q2 : v / 2 ^ b % 2 < 2 := Nat.mod_lt _ (by omega)
        have q3 : v / 2 ^ b % 2 * 2 ^ (7 - s'.2 % 8) ≤ 1 * 2 ^ 7 := Nat.mul_le_mul (by omega) p7
        rw [am_m31 (by omega), show (2 : Nat) ^ 1 = 2 from rfl, pk_shlN (nI (7 - s'.2 % 8)) (7 - s'.2 % 8) (am_smod (by omega)) (by omega)]
        refine am_ior dX10_give_66 rfl ?_
        refine am_iast dX10_give_67 rfl o1 (by omega) (by omega) ?_
        refine am_aload_n dX10_give_68 rfl rfl ?_
        refine am_dup dX10_give_69 rfl ?_
        refine am_get f_X10_70 dX10_give_70 rfl ((am_set_ne (by omega)).trans m1) rfl ?_
        refine am_iconst (v := nI 1) dX10_give_73 rfl (by decide +kernel) ?_
        refine am_iadd dX10_give_74 rfl ?_
        rw [nI_add]
        refine am_put f_X10_70 dX10_give_75 rfl ((am_set_ne (by omega)).trans m1) (am_fit_i _) rfl ?_
        refine am_iinc (n := (-1)) dX10_give_78 rfl rfl (nI_m1 b) ?_
        refine am_goto 4 dX10_give_81 rfl rfl ?_
        have W := Z5
        have e1 : (gv1 s' (v / 2 ^ b % 2)).1 = orl bs (nI (v / 2 ^ b % 2 * 2 ^ (7 - s'.2 % 8))) := by unfold gv1; rw [ebs]
        refine ih (gv1 s' (v / 2 ^ b % 2)) _ hR (by omega) (by show s'.2 + 1 + b ≤ 96000; omega) ⟨(F.set (by simp)).set (by simp), ?_, ?_, byt_gv1 Z5.1 q2, gv1_len Z5.2 _⟩
        · rw [am_set_eq, e1, orl_len]
          rfl
        · rw [e1]
          exact mrw.mix ob hb0 ((am_set_ne (by omega)).trans am_set_eq)
      refine am_iload_n dX10_give_4 rfl rfl ?_
      refine am_nif_lt 84 dX10_give_5 rfl rfl (by omega) ?_
      refine am_aload_n dX10_give_8 rfl rfl ?_
      refine am_get f_X10_70 dX10_give_9 rfl Z2 rfl ?_
      refine am_bipush (v := nI 8) dX10_give_12 rfl (by decide +kernel) ?_
      refine am_irem dX10_give_14 rfl (by decide +kernel) ?_
      rw [pk_rem (by omega) (by omega) (by omega)]
      refine am_nif_ne 38 dX10_give_15 rfl rfl (by omega) (fun hm8 => ?_) (fun hm8 => ?_)
      · exact go H s'.1 g Z1 Z2 Z3 Z4 (by rw [if_neg (by omega)]) (by omega) (by omega)
      · refine am_aload_n dX10_give_18 rfl rfl ?_
        refine am_get f_X10_13 dX10_give_19 rfl Z2 rfl ?_
        refine am_aload_n dX10_give_22 rfl rfl ?_
        refine am_get f_X10_54 dX10_give_23 rfl Z2 rfl ?_
        refine am_iconst (v := nI 0) dX10_give_26 rfl (by decide +kernel) ?_
        refine am_iast dX10_give_27 rfl Z3 (by omega) (by omega) ?_
        refine am_aload_n dX10_give_28 rfl rfl ?_
        refine am_dup dX10_give_29 rfl ?_
        refine am_get f_X10_54 dX10_give_30 rfl ((am_set_ne (by omega)).trans Z2) rfl ?_
        refine am_iconst (v := nI 1) dX10_give_33 rfl (by decide +kernel) ?_
        refine am_iadd dX10_give_34 rfl ?_
        rw [nI_add]
        refine am_put f_X10_54 dX10_give_35 rfl ((am_set_ne (by omega)).trans Z2) (am_fit_i _) rfl ?_
        refine go _ (s'.1 ++ [nI 0]) (upd g s'.1.length (nI 0)) ((Z1.set (by simp)).set (by simp)) (by rw [List.length_append]; exact am_set_eq) ((am_set_ne (by omega)).trans am_set_eq) (fun i x hi => ?_) (by rw [if_pos hm8]) (by rw [List.length_append]; show 0 < _ + 1; omega) (by rw [List.length_append]; show _ + 1 < _; omega)
        obtain ⟨g2, e2, p2⟩ := mrw.push (h' := fun j => if j = 48 then some (.inl (false, 16000, upd g s'.1.length (nI 0))) else none) Z4 (by rfl)
        have e2 : some (Sum.inl (false, 16000, upd g s'.1.length (nI 0))) = some (Sum.inl (false, 16000, g2)) := e2
        cases e2
        exact p2 i x hi
  exact loop n s h rfl hn hg X
set_option maxHeartbeats 4000000 in
set_option maxRecDepth 100000 in
theorem t_X10_giveSymbol (d n0 : Nat) {h : am_H} {ct : Nat} {to : Bool} {bl co cp en fa tc : Nat} {s : List Int32 × Nat} (X : gvH h h ct to bl co cp en fa tc s) {t : Nat} (ht : t ≤ 2) {gl gc ga : Nat → Int32} (h49 : h 49 = some (.inl (false, 1800, gl))) (h51 : h 51 = some (.inl (false, 3, ga))) {al : Int32} {len : Nat → Nat} (hr : mrd gl gc ga t al len) (h50 : h 50 = some (.inl (false, 1800, gc))) {y : Nat} (hy : y < sym t) (hl0 : al = -1 → 0 < len y) (hg : s.2 + 16 ≤ 96000) (hd : 1 ≤ d) : am_Ct l D dA m_X10_giveSymbol d 0 0 n0 [am_r 46, .inl (nI t), .inl (nI y)] h (am_qv fun h' => gvH h h' ct to bl co cp en fa tc (gsR len (sym t) al y s)) := by
  refine am_Cv (by decide +kernel) rfl rfl ?_
  have hsy := sym_le t
  obtain ⟨r1, r2, r3, r4⟩ := hr
  refine am_aload_n dX10_giveSymbol_0 rfl rfl ?_
  refine am_get f_X10_22 dX10_giveSymbol_1 rfl X.2.1 rfl ?_
  refine am_iload_n dX10_giveSymbol_4 rfl rfl ?_
  refine am_iald dX10_giveSymbol_5 rfl h51 (by omega) (by omega) ?_
  rw [r1]
  refine am_iconst (v := -1) dX10_giveSymbol_6 rfl (by decide +kernel) ?_
  refine am_icmp_ne 38 dX10_giveSymbol_7 rfl rfl (fun hc => ?_) (fun hc => ?_)
  · exact am_rv dX10_giveSymbol_38 rfl rfl rfl (by unfold gsR; rw [if_neg hc]; exact X)
  · obtain ⟨-, r3⟩ := r3 hc
    refine am_aload_n dX10_giveSymbol_10 rfl rfl ?_
    refine am_aload_n dX10_giveSymbol_11 rfl rfl ?_
    refine am_get f_X10_19 dX10_giveSymbol_12 rfl X.2.1 rfl ?_
    refine am_sipush (v := nI 600) dX10_giveSymbol_15 rfl (by decide +kernel) ?_
    refine am_iload_n dX10_giveSymbol_18 rfl rfl ?_
    refine am_imul dX10_giveSymbol_19 rfl ?_
    refine am_iload_n dX10_giveSymbol_20 rfl rfl ?_
    refine am_iadd dX10_giveSymbol_21 rfl ?_
    rw [pk_mul, nI_add]
    refine am_iald dX10_giveSymbol_22 rfl h50 (by omega) (by omega) ?_
    rw [r3 y hy (hl0 hc)]
    refine am_aload_n dX10_giveSymbol_23 rfl rfl ?_
    refine am_get f_X10_16 dX10_giveSymbol_24 rfl X.2.1 rfl ?_
    refine am_sipush (v := nI 600) dX10_giveSymbol_27 rfl (by decide +kernel) ?_
    refine am_iload_n dX10_giveSymbol_30 rfl rfl ?_
    refine am_imul dX10_giveSymbol_31 rfl ?_
    refine am_iload_n dX10_giveSymbol_32 rfl rfl ?_
    refine am_iadd dX10_giveSymbol_33 rfl ?_
    rw [pk_mul, nI_add]
    refine am_iald dX10_giveSymbol_34 rfl h49 (by omega) (by omega) ?_
    rw [(r2 y hy).1]
    have hl := (r2 y hy).2
    have f1 := frstM (len := len) (m := sym t) hsy.1 (fun s hs => (r2 s hs).2) (n := len y) hl
    have f2 := cnt_le len (len y) y
    refine am_vv (t_X10_give (d - 1) _ X (v := cdN len (sym t) y) (n := len y) (by unfold cdN; omega) hl (by omega)) k_X10_give l_X10_139 dX10_giveSymbol_35 rfl rfl rfl rfl X.2.1 (by omega) (Nat.le_refl _) (Nat.le_refl _) (fun h1 hx => ?_)
    exact am_rv dX10_giveSymbol_38 rfl rfl rfl (by unfold gsR; rw [if_pos hc]; exact hx)
set_option maxHeartbeats 4000000 in
set_option maxRecDepth 100000 in
theorem t_X10_last (d n0 : Nat) {h : am_H} {ct md : Nat} {to : Bool} {bl co cp bi en fa tc : Nat} (hm : h 46 = some (mO ct md to bl co cp bi en fa tc)) {t : Nat} (ht : t ≤ 2) {gl : Nat → Int32} (h49 : h 49 = some (.inl (false, 1800, gl))) {len : Nat → Nat} (hgl : ∀ s, s < sym t → gl (600 * t + s) = nI (len s) ∧ len s ≤ 16) (hd : 1 ≤ d) : am_Ct l D dA m_X10_last d 0 0 n0 [am_r 46, .inl (nI t)] h (am_qi fun x h' => x = nI (lst len (sym t)) ∧ h' = h) := by
  refine am_Ci (by decide +kernel) rfl rfl ?_
  have hsy := sym_le t
  refine am_iload_n dX10_last_0 rfl rfl ?_
  refine am_si (t_X10_symbols (d - 1) _ ht) k_X10_symbols l_X10_79 dX10_last_1 rfl rfl rfl rfl (by omega) (Nat.le_refl _) (Nat.le_refl _) (fun x h1 hx => ?_)
  obtain ⟨rfl, hh⟩ := hx
  obtain rfl := hh.symm
  refine am_istore_n dX10_last_4 rfl rfl ?_
  have loop : ∀ (n : Nat), n ≤ sym t → lst len n = lst len (sym t) → am_At l D dA m_X10_last d 0 0 0 0 n0 none (am_qi fun x h' => x = nI (lst len (sym t)) ∧ h' = h) 0 0 5 [some (am_r 46), some (.inl (nI t)), some (.inl (nI n))] [] h := by
    intro n
    induction n with
    | zero =>
      intro hn he
      have he : 0 = lst len (sym t) := he
      refine am_iload_n dX10_last_5 rfl rfl ?_
      refine am_nif_le 32 dX10_last_6 rfl rfl (by omega) (fun hc => ?_) (fun hc => ?_)
      · refine am_iload_n dX10_last_32 rfl rfl ?_
        exact am_ri dX10_last_33 rfl rfl rfl ⟨by rw [he], rfl⟩
      · omega
    | succ n ih =>
      intro hn he
      obtain ⟨q1, q2⟩ := hgl n (by omega)
      refine am_iload_n dX10_last_5 rfl rfl ?_
      refine am_nif_le 32 dX10_last_6 rfl rfl (by omega) (fun hc => ?_) (fun hc => ?_)
      · omega
      · refine am_aload_n dX10_last_9 rfl rfl ?_
        refine am_get f_X10_16 dX10_last_10 rfl hm rfl ?_
        refine am_sipush (v := nI 600) dX10_last_13 rfl (by decide +kernel) ?_
        refine am_iload_n dX10_last_16 rfl rfl ?_
        refine am_imul dX10_last_17 rfl ?_
        refine am_iload_n dX10_last_18 rfl rfl ?_
        refine am_iadd dX10_last_19 rfl ?_
        rw [pk_mul, nI_add]
        refine am_iconst (v := nI 1) dX10_last_20 rfl (by decide +kernel) ?_
        refine am_isub dX10_last_21 rfl ?_
        rw [pk_sub (by omega), show 600 * t + (n + 1) - 1 = 600 * t + n by omega]
        refine am_iald dX10_last_22 rfl h49 (by omega) (by omega) ?_
        rw [q1]
        refine am_nif_ne 32 dX10_last_23 rfl rfl (by omega) (fun hz => ?_) (fun hz => ?_)
        · refine am_iload_n dX10_last_32 rfl rfl ?_
          exact am_ri dX10_last_33 rfl rfl rfl ⟨by rw [← he, lst, if_neg (by omega)], rfl⟩
        · rw [lst, if_pos hz] at he
          refine am_iinc (n := (-1)) dX10_last_26 rfl rfl (by rw [nI_m1, pk_sub (by omega), Nat.add_sub_cancel]) ?_
          refine am_goto 5 dX10_last_29 rfl rfl ?_
          exact ih (by omega) he
  exact loop (sym t) (Nat.le_refl _) rfl
set_option maxHeartbeats 4000000 in
set_option maxRecDepth 100000 in
theorem t_X10_rank (d n0 : Nat) {h : am_H} {dd : Nat} (h1 : 1 ≤ dd) (h2 : dd ≤ 8192) : am_Ct l D dA m_X10_rank d 0 0 n0 [.inl (nI dd)] h (am_qi fun x h' => x = nI (rk dd) ∧ h' = h) := by
  refine am_Ci (by decide +kernel) rfl rfl ?_
  have sp := rk_spec h2
  have lt := rk_lt dd
  refine am_iconst (v := nI 0) dX10_rank_0 rfl (by decide +kernel) ?_
  refine am_istore_n dX10_rank_1 rfl rfl ?_
  refine am_iload_n dX10_rank_2 rfl rfl ?_
  refine am_iconst (v := nI 1) dX10_rank_3 rfl (by decide +kernel) ?_
  refine am_isub dX10_rank_4 rfl ?_
  rw [pk_sub h1]
  refine am_istore_n dX10_rank_5 rfl rfl ?_
  have loop : ∀ (q p : Nat), p + q = rk dd → am_At l D dA m_X10_rank d 0 0 0 0 n0 none (am_qi fun x h' => x = nI (rk dd) ∧ h' = h) 0 0 6 [some (.inl (nI dd)), some (.inl (nI p)), some (.inl (nI ((dd - 1) / 2 ^ p)))] [] h := by
    intro q
    induction q with
    | zero =>
      intro p hp
      obtain rfl : p = rk dd := by omega
      have z : (dd - 1) / 2 ^ rk dd = 0 := Nat.div_eq_of_lt (by omega)
      rw [z]
      refine am_iload_n dX10_rank_6 rfl rfl ?_
      refine am_nif_le 20 dX10_rank_7 rfl rfl (by omega) (fun hc => ?_) (fun hc => ?_)
      · refine am_iload_n dX10_rank_20 rfl rfl ?_
        exact am_ri dX10_rank_21 rfl rfl rfl ⟨rfl, rfl⟩
      · omega
    | succ q ih =>
      intro p hp
      have s2 := sp.2 (by omega)
      have s3 : 2 ^ p ≤ 2 ^ (rk dd - 1) := Nat.pow_le_pow_right (by omega) (by omega)
      have z : 0 < (dd - 1) / 2 ^ p := Nat.div_pos (by omega) (Nat.two_pow_pos p)
      have z2 := Nat.div_le_self (dd - 1) (2 ^ p)
      refine am_iload_n dX10_rank_6 rfl rfl ?_
      refine am_nif_le 20 dX10_rank_7 rfl rfl (by omega) (fun hc => ?_) (fun hc => ?_)
      · omega
      · refine am_iinc (n := 1) dX10_rank_10 rfl rfl (nI_1 p) ?_
        refine am_iload_n dX10_rank_13 rfl rfl ?_
        refine am_iconst (v := nI 1) dX10_rank_14 rfl (by decide +kernel) ?_
        refine am_ishr dX10_rank_15 rfl ?_
        rw [am_m31 (by omega), pk_shrN (by omega) (nI 1) 1 (am_smod (by omega)), Nat.div_div_eq_div_mul, ← Nat.pow_add]
        refine am_istore_n dX10_rank_16 rfl rfl ?_
        refine am_goto 6 dX10_rank_17 rfl rfl ?_
        exact ih (p + 1) (by omega)
  have L0 := loop (rk dd) 0 (by omega)
  rw [Nat.pow_zero, Nat.div_one] at L0
  exact L0
set_option maxHeartbeats 4000000 in
set_option maxRecDepth 100000 in
theorem t_X10_clearTimes (d n0 : Nat) {h : am_H} {ct md : Nat} {to : Bool} {bl co cp bi en fa tc : Nat} (hm : h 46 = some (mO ct md to bl co cp bi en fa tc)) (h57 : ars h 57 600) : am_Ct l D dA m_X10_clearTimes d 0 0 n0 [am_r 46] h (am_qv fun h' => ∃ g, h' = am_set h 57 (.inl (false, 600, g)) ∧ ∀ j, j < 600 → g j = nI 0) := by
  refine am_Cv (by decide +kernel) rfl rfl ?_
  obtain ⟨g0, h57⟩ := h57
  refine am_iconst (v := nI 0) dX10_clearTimes_0 rfl (by decide +kernel) ?_
  refine am_istore_n dX10_clearTimes_1 rfl rfl ?_
  have loop : ∀ (q i : Nat) (g : Nat → Int32), i + q = 600 → (∀ j, j < i → g j = nI 0) → am_At l D dA m_X10_clearTimes d 0 0 0 0 n0 none (am_qv fun h' => ∃ g, h' = am_set h 57 (.inl (false, 600, g)) ∧ ∀ j, j < 600 → g j = nI 0) 0 0 2 [some (am_r 46), some (.inl (nI i))] [] (am_set h 57 (.inl (false, 600, g))) := by
    intro q
    induction q with
    | zero =>
      intro i g hi h1
      refine am_iload_n dX10_clearTimes_2 rfl rfl ?_
      refine am_sipush (v := nI 600) dX10_clearTimes_3 rfl (by decide +kernel) ?_
      refine am_ncmp_ge 22 dX10_clearTimes_6 rfl rfl (by omega) (by omega) (fun hc => ?_) (fun hc => ?_)
      · exact am_rv dX10_clearTimes_22 rfl rfl rfl ⟨g, rfl, fun j hj => h1 j (by omega)⟩
      · omega
    | succ q ih =>
      intro i g hi h1
      refine am_iload_n dX10_clearTimes_2 rfl rfl ?_
      refine am_sipush (v := nI 600) dX10_clearTimes_3 rfl (by decide +kernel) ?_
      refine am_ncmp_ge 22 dX10_clearTimes_6 rfl rfl (by omega) (by omega) (fun hc => ?_) (fun hc => ?_)
      · omega
      · refine am_aload_n dX10_clearTimes_9 rfl rfl ?_
        refine am_get f_X10_41 dX10_clearTimes_10 rfl ((am_set_ne (by omega)).trans hm) rfl ?_
        refine am_iload_n dX10_clearTimes_13 rfl rfl ?_
        refine am_iconst (v := nI 0) dX10_clearTimes_14 rfl (by decide +kernel) ?_
        refine am_iast dX10_clearTimes_15 rfl am_set_eq (by omega) (by omega) ?_
        refine am_iinc (n := 1) dX10_clearTimes_16 rfl rfl (nI_1 i) ?_
        refine am_goto 2 dX10_clearTimes_19 rfl rfl ?_
        rw [am_set_set]
        refine ih (i + 1) _ (by omega) (fun j hj => ?_)
        by_cases z : j = i
        · subst z; exact upd_eq
        · rw [upd_ne z]; exact h1 j (by omega)
  refine am_eq rfl rfl rfl ?_ (loop 600 0 g0 (by omega) (fun j hj => by omega))
  exact (am_set_self h57).symm
set_option maxHeartbeats 4000000 in
set_option maxRecDepth 100000 in
theorem t_X10_same (d n0 : Nat) {h : am_H} {ct md : Nat} {to : Bool} {bl co cp bi en fa tc : Nat} (hm : h 46 = some (mO ct md to bl co cp bi en fa tc)) {f : Nat → Int32} (hf : h 47 = some (.inl (false, 4000, f))) {p dd n c : Nat} (hn : n ≤ c) (hc4 : c ≤ 4000) (hp : p ≤ n) (hdd : dd ≤ p) : am_Ct l D dA m_X10_same d 0 0 n0 [am_r 46, .inl (nI p), .inl (nI dd), .inl (nI n)] h (am_qi fun x h' => x = nI (smR (tpL f c) (p - dd) p (min 256 (n - p))) ∧ h' = h) := by
  refine am_Ci (by decide +kernel) rfl rfl ?_
  have tbe : ∀ i, i < c → tb (tpL f c) i = f i := fun i hi => by
    unfold tb
    rw [List.getD_eq_getElem?_getD, tpL_in hi]
    rfl
  refine am_iconst (v := nI 0) dX10_same_0 rfl (by decide +kernel) ?_
  refine am_istore dX10_same_1 rfl rfl ?_
  have loop : ∀ (q i : Nat), i + q = min 256 (n - p) → i + smR (tpL f c) (p - dd + i) (p + i) q = smR (tpL f c) (p - dd) p (min 256 (n - p)) → am_At l D dA m_X10_same d 0 0 0 0 n0 none (am_qi fun x h' => x = nI (smR (tpL f c) (p - dd) p (min 256 (n - p))) ∧ h' = h) 0 0 3 [some (am_r 46), some (.inl (nI p)), some (.inl (nI dd)), some (.inl (nI n)), some (.inl (nI i))] [] h := by
    intro q
    induction q with
    | zero =>
      intro i hi he
      have he : i + 0 = _ := he
      rw [Nat.add_zero] at he hi
      refine am_iload dX10_same_3 rfl rfl ?_
      refine am_sipush (v := nI 256) dX10_same_5 rfl (by decide +kernel) ?_
      refine am_ncmp_ge 48 dX10_same_8 rfl rfl (by omega) (by omega) (fun hc => ?_) (fun hc => ?_)
      · refine am_iload dX10_same_48 rfl rfl ?_
        exact am_ri dX10_same_50 rfl rfl rfl ⟨by rw [← he], rfl⟩
      · refine am_iload_n dX10_same_11 rfl rfl ?_
        refine am_iload dX10_same_12 rfl rfl ?_
        refine am_iadd dX10_same_14 rfl ?_
        rw [nI_add]
        refine am_iload_n dX10_same_15 rfl rfl ?_
        refine am_ncmp_ge 48 dX10_same_16 rfl rfl (by omega) (by omega) (fun hn2 => ?_) (fun hn2 => ?_)
        · refine am_iload dX10_same_48 rfl rfl ?_
          exact am_ri dX10_same_50 rfl rfl rfl ⟨by rw [← he], rfl⟩
        · omega
    | succ q ih =>
      intro i hi he
      rw [smR, tbe _ (by omega), tbe _ (by omega)] at he
      refine am_iload dX10_same_3 rfl rfl ?_
      refine am_sipush (v := nI 256) dX10_same_5 rfl (by decide +kernel) ?_
      refine am_ncmp_ge 48 dX10_same_8 rfl rfl (by omega) (by omega) (fun hc => ?_) (fun hc => ?_)
      · omega
      · refine am_iload_n dX10_same_11 rfl rfl ?_
        refine am_iload dX10_same_12 rfl rfl ?_
        refine am_iadd dX10_same_14 rfl ?_
        rw [nI_add]
        refine am_iload_n dX10_same_15 rfl rfl ?_
        refine am_ncmp_ge 48 dX10_same_16 rfl rfl (by omega) (by omega) (fun hn2 => ?_) (fun hn2 => ?_)
        · omega
        · refine am_aload_n dX10_same_19 rfl rfl ?_
          refine am_get f_X10_7 dX10_same_20 rfl hm rfl ?_
          refine am_iload_n dX10_same_23 rfl rfl ?_
          refine am_iload dX10_same_24 rfl rfl ?_
          refine am_iadd dX10_same_26 rfl ?_
          rw [nI_add]
          refine am_iald dX10_same_27 rfl hf (by omega) (by omega) ?_
          refine am_aload_n dX10_same_28 rfl rfl ?_
          refine am_get f_X10_7 dX10_same_29 rfl hm rfl ?_
          refine am_iload_n dX10_same_32 rfl rfl ?_
          refine am_iload dX10_same_33 rfl rfl ?_
          refine am_iadd dX10_same_35 rfl ?_
          rw [nI_add]
          refine am_iload_n dX10_same_36 rfl rfl ?_
          refine am_isub dX10_same_37 rfl ?_
          rw [pk_sub (by omega), show p + i - dd = p - dd + i by omega]
          refine am_iald dX10_same_38 rfl hf (by omega) (by omega) ?_
          refine am_icmp_ne 48 dX10_same_39 rfl rfl (fun hq => ?_) (fun hq => ?_)
          · rw [if_neg (fun z => hq z.symm)] at he
            refine am_iload dX10_same_48 rfl rfl ?_
            exact am_ri dX10_same_50 rfl rfl rfl ⟨by rw [← he]; rfl, rfl⟩
          · rw [if_pos hq.symm] at he
            refine am_iinc (n := 1) dX10_same_42 rfl rfl (nI_1 i) ?_
            refine am_goto 3 dX10_same_45 rfl rfl ?_
            exact ih (i + 1) (by omega) (by rw [show p - dd + (i + 1) = p - dd + i + 1 by omega, show p + (i + 1) = p + i + 1 by omega]; omega)
  exact loop (min 256 (n - p)) 0 (by omega) (by rw [Nat.zero_add]; rfl)
/-- what tells C, in the reference: its numbers, their bits, how often -/
def tlM (h : am_H) (l : List (Nat × Nat)) : Prop := (∃ f g : Nat → Int32, h 58 = some (.inl (false, 1200, f)) ∧ h 59 = some (.inl (false, 1200, g)) ∧ ∀ i x, l[i]? = some x → f i = nI x.1 ∧ g i = nI x.2) ∧ nmA h 57 600 600 (cno (l.map Prod.fst))
theorem tlM.at {h h' : am_H} {l : List (Nat × Nat)} (x : tlM h l) (e : ∀ j, 57 ≤ j → j ≤ 59 → h' j = h j) : tlM h' l := by
  obtain ⟨⟨f, g, a, b, c⟩, d⟩ := x
  exact ⟨⟨f, g, (e _ (by omega) (by omega)).trans a, (e _ (by omega) (by omega)).trans b, c⟩, d.at (e _ (by omega) (by omega))⟩
set_option maxHeartbeats 4000000 in
set_option maxRecDepth 100000 in
theorem t_X10_tell (d n0 : Nat) {h : am_H} {ct md : Nat} {to : Bool} {bl co cp bi en fa : Nat} {ls : List (Nat × Nat)} (hm : h 46 = some (mO ct md to bl co cp bi en fa ls.length)) (hT : tlM h ls) (hl : ls.length < 1200) {y e : Nat} (hy : y < 600) : am_Ct l D dA m_X10_tell d 0 0 n0 [am_r 46, .inl (nI y), .inl (nI e)] h (am_qv fun h' => am_fr h h' [46, 57, 58, 59] ∧ h' 46 = some (mO ct md to bl co cp bi en fa (ls ++ [(y, e)]).length) ∧ tlM h' (ls ++ [(y, e)])) := by
  refine am_Cv (by decide +kernel) rfl rfl ?_
  obtain ⟨⟨f, g, h58, h59, hfg⟩, w7, h57, hw7⟩ := hT
  refine am_aload_n dX10_tell_0 rfl rfl ?_
  refine am_get f_X10_44 dX10_tell_1 rfl hm rfl ?_
  refine am_aload_n dX10_tell_4 rfl rfl ?_
  refine am_get f_X10_127 dX10_tell_5 rfl hm rfl ?_
  refine am_iload_n dX10_tell_8 rfl rfl ?_
  refine am_iast dX10_tell_9 rfl h58 (by omega) (by omega) ?_
  refine am_aload_n dX10_tell_10 rfl rfl ?_
  refine am_get f_X10_47 dX10_tell_11 rfl ((am_set_ne (by omega)).trans hm) rfl ?_
  refine am_aload_n dX10_tell_14 rfl rfl ?_
  refine am_get f_X10_127 dX10_tell_15 rfl ((am_set_ne (by omega)).trans hm) rfl ?_
  refine am_iload_n dX10_tell_18 rfl rfl ?_
  refine am_iast dX10_tell_19 rfl ((am_set_ne (by omega)).trans h59) (by omega) (by omega) ?_
  refine am_aload_n dX10_tell_20 rfl rfl ?_
  refine am_dup dX10_tell_21 rfl ?_
  refine am_get f_X10_127 dX10_tell_22 rfl ((am_set_ne (by omega)).trans ((am_set_ne (by omega)).trans hm)) rfl ?_
  refine am_iconst (v := nI 1) dX10_tell_25 rfl (by decide +kernel) ?_
  refine am_iadd dX10_tell_26 rfl ?_
  rw [nI_add]
  refine am_put f_X10_127 dX10_tell_27 rfl ((am_set_ne (by omega)).trans ((am_set_ne (by omega)).trans hm)) (am_fit_i _) rfl ?_
  refine am_aload_n dX10_tell_30 rfl rfl ?_
  refine am_get f_X10_41 dX10_tell_31 rfl am_set_eq rfl ?_
  refine am_iload_n dX10_tell_34 rfl rfl ?_
  refine am_dup2 dX10_tell_35 rfl ?_
  refine am_iald dX10_tell_36 rfl ((am_set_ne (by omega)).trans ((am_set_ne (by omega)).trans ((am_set_ne (by omega)).trans h57))) (by omega) (by omega) ?_
  rw [hw7 y hy]
  refine am_iconst (v := nI 1) dX10_tell_37 rfl (by decide +kernel) ?_
  refine am_iadd dX10_tell_38 rfl ?_
  rw [nI_add]
  refine am_iast dX10_tell_39 rfl ((am_set_ne (by omega)).trans ((am_set_ne (by omega)).trans ((am_set_ne (by omega)).trans h57))) (by omega) (by omega) ?_
  refine am_rv dX10_tell_40 rfl rfl rfl ⟨(((am_fr.rf.set (by simp)).set (by simp)).set (by simp)).set (by simp), (am_set_ne (by omega)).trans (by rw [am_set_eq, List.length_append]; rfl), ⟨_, _, (am_set_ne (by omega)).trans ((am_set_ne (by omega)).trans ((am_set_ne (by omega)).trans am_set_eq)), (am_set_ne (by omega)).trans ((am_set_ne (by omega)).trans am_set_eq), fun i x hi => ?_⟩, _, am_set_eq, fun j hj => ?_⟩
  · by_cases c : i < ls.length
    · rw [List.getElem?_append_left c] at hi
      rw [upd_ne (by omega), upd_ne (by omega)]
      exact hfg i x hi
    · rw [List.getElem?_append_right (by omega)] at hi
      have hz : i - ls.length < 1 := (List.getElem?_eq_some_iff.mp hi).1
      have hi2 : i = ls.length := by omega
      subst hi2
      rw [Nat.sub_self] at hi
      cases hi
      exact ⟨upd_eq, upd_eq⟩
  · rw [List.map_append]
    show _ = nI (cno (ls.map Prod.fst ++ [y]) j)
    rw [cno_upd]
    by_cases z : j = y
    · subst z; rw [upd_eq, updN_eq]
    · rw [upd_ne z, updN_ne z]; exact hw7 j hj
end MOD8

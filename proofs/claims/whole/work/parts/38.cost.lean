/-! ===== pure: what a block costs ===== -/
def lsm (f : Nat × Nat → Nat) : List (Nat × Nat) → Nat
  | [] => 0
  | x :: r => f x + lsm f r
theorem lsm_app (f : Nat × Nat → Nat) : ∀ a b, lsm f (a ++ b) = lsm f a + lsm f b
  | [], b => by show lsm f b = 0 + lsm f b; omega
  | x :: a, b => by show f x + lsm f (a ++ b) = f x + lsm f a + lsm f b; rw [lsm_app f a b]; omega
theorem lsm_add (f g : Nat × Nat → Nat) : ∀ l, lsm (fun x => f x + g x) l = lsm f l + lsm g l
  | [] => rfl
  | x :: r => by show f x + g x + lsm _ r = f x + lsm f r + (g x + lsm g r); rw [lsm_add f g r]; omega
theorem cno_pos {x : Nat} : ∀ {l : List Nat}, x ∈ l → 0 < cno l x
  | [], h => by simp at h
  | z :: l, h => by
    show 0 < (if z = x then 1 else 0) + cno l x
    rcases List.mem_cons.mp h with e | e
    · rw [if_pos e.symm]; omega
    · have := cno_pos e; omega
theorem cno_ss (m : Nat) : ∀ l : List Nat, (∀ x ∈ l, x < m) → ss (cno l) 0 m = l.length
  | [], _ => ss_0 (fun _ _ _ => rfl)
  | z :: l, h => by
    have ih := cno_ss m l (fun x hx => h x (List.mem_cons_of_mem _ hx))
    have hz := h z List.mem_cons_self
    have e : ss (cno (z :: l)) 0 m = ss (updN (cno l) z (cno l z + 1)) 0 m := ss_congr (fun y _ _ => by
      show (if z = y then 1 else 0) + cno l y = _
      by_cases g : y = z
      · subst g; rw [updN_eq, if_pos rfl]; omega
      · rw [updN_ne g, if_neg (fun q => g q.symm)]; omega)
    have s1 := ss_upd (cno l) (cno l z + 1) hz
    rw [e, List.length_cons]
    omega
theorem cno_sum (f : Nat → Nat) (m : Nat) : ∀ l : List (Nat × Nat), (∀ x ∈ l, x.1 < m) → lsm (fun x => f x.1) l = ss (fun y => cno (l.map Prod.fst) y * f y) 0 m
  | [], _ => by
    show 0 = _
    rw [ss_0]
    intro i _ _
    show 0 * f i = 0
    omega
  | x :: r, h => by
    have ih := cno_sum f m r (fun x hx => h x (List.mem_cons_of_mem _ hx))
    have hx := h x List.mem_cons_self
    have e : ss (fun y => cno ((x :: r).map Prod.fst) y * f y) 0 m = ss (updN (fun y => cno (r.map Prod.fst) y * f y) x.1 (cno (r.map Prod.fst) x.1 * f x.1 + f x.1)) 0 m := ss_congr (fun y _ _ => by
      show ((if x.1 = y then 1 else 0) + cno (r.map Prod.fst) y) * f y = _
      by_cases g : y = x.1
      · subst g; rw [updN_eq, if_pos rfl, Nat.add_mul]; omega
      · rw [updN_ne g, if_neg (fun q => g q.symm), Nat.zero_add])
    have s1 := ss_upd (fun y => cno (r.map Prod.fst) y * f y) (cno (r.map Prod.fst) x.1 * f x.1 + f x.1) hx
    show f x.1 + lsm _ r = _
    rw [e, ih]
    omega
theorem hal_two {m : Nat} {w : Nat → Nat} (hm : m ≤ 510) (h : hal m w = -1) : 2 ≤ (srtS w m).2 := by
  unfold hal at h
  split at h
  · assumption
  · exfalso
    split at h
    · exact am_nm1 (by decide) h
    · rename_i g1 g2
      have := srtS_lt w m 0 (by omega)
      exact am_nm1 (by omega) h
theorem hal_one {m : Nat} {w : Nat → Nat} (hm1 : 1 ≤ m) (h : hal m w ≠ -1) : (∃ y, y < m ∧ hal m w = nI y) ∧ ∀ y, hlen m w y = 0 := by
  have h2 : ¬ 2 ≤ (srtS w m).2 := fun g => h (by unfold hal; rw [if_pos g])
  refine ⟨⟨if (srtS w m).2 = 0 then 0 else (srtS w m).1 0, ?_, by unfold hal; rw [if_neg h2]⟩, fun y => by unfold hlen; rw [if_neg h2]⟩
  split
  · omega
  · exact srtS_lt w m 0 (by omega)
theorem zt_ok {z : Nat} (h0 : 0 < z) (hz : z ≤ 510) : lsm (fun x => bbh x.1) (zt z) ≤ 2 * z ∧ ∀ x ∈ zt z, x.1 < 19 ∧ x.2 < 512 := by
  unfold zt
  split
  · refine ⟨by show 9 + 0 ≤ 2 * z; omega, fun x hx => ?_⟩
    rw [List.mem_singleton.mp hx]
    exact ⟨by show 2 < 19; omega, by show z - 20 < 512; omega⟩
  · split
    · refine ⟨by show 0 + (4 + 0) ≤ 2 * z; omega, fun x hx => ?_⟩
      rcases List.mem_cons.mp hx with e | e
      · rw [e]; exact ⟨by decide, by decide⟩
      · rw [List.mem_singleton.mp e]; exact ⟨by decide, by decide⟩
    · split
      · refine ⟨by show 4 + 0 ≤ 2 * z; omega, fun x hx => ?_⟩
        rw [List.mem_singleton.mp hx]
        exact ⟨by show 1 < 19; omega, by show z - 3 < 512; omega⟩
      · refine ⟨?_, fun x hx => ?_⟩
        · have : ∀ k, lsm (fun x => bbh x.1) (List.replicate k ((0, 0) : Nat × Nat)) = 0 := by
            intro k
            induction k with
            | zero => rfl
            | succ k ih => rw [List.replicate_succ]; show 0 + lsm _ _ = 0; rw [ih]
          rw [this]
          omega
        · rw [List.eq_of_mem_replicate hx]; exact ⟨by decide, by decide⟩
theorem tel_ok {len : Nat → Nat} {n : Nat} (hl : ∀ i, len i ≤ 16) (hn : n ≤ 510) : ∀ (q i : Nat), (tel len n q i).length ≤ n - i ∧ lsm (fun x => bbh x.1) (tel len n q i) ≤ 2 * (n - i) ∧ ∀ x ∈ tel len n q i, x.1 < 19 ∧ x.2 < 512
  | 0, i => ⟨Nat.zero_le _, Nat.zero_le _, fun x hx => by simp [tel] at hx⟩
  | q + 1, i => by
    unfold tel
    by_cases h1 : n ≤ i
    · rw [if_pos h1]; exact ⟨Nat.zero_le _, Nat.zero_le _, fun x hx => by simp at hx⟩
    · rw [if_neg h1]
      have hz := zrs_le len (n - i) i
      by_cases h2 : zrs len i (n - i) = 0
      · rw [if_pos h2]
        have ih := tel_ok hl hn q (i + 1)
        have hb : bbh (len i + 2) ≤ 9 := by unfold bbh; split; omega; split <;> omega
        have hb2 : bbh (len i + 2) ≤ 2 ∨ len i = 0 := by
          by_cases z : len i = 0
          · exact Or.inr z
          · left; unfold bbh; rw [if_neg (by omega), if_neg (by omega)]; omega
        have hnz : len i ≠ 0 := by
          intro z
          have : zrs len i (n - i) = zrs len (i + 1) (n - i - 1) + 1 := by
            rw [show n - i = (n - i - 1) + 1 by omega]
            show (if len i = 0 then _ else _) = _
            rw [if_pos z]
            rfl
          omega
        refine ⟨by rw [List.length_cons]; omega, by show bbh (len i + 2) + lsm _ _ ≤ _; omega, fun x hx => ?_⟩
        rcases List.mem_cons.mp hx with e | e
        · rw [e]; have := hl i; exact ⟨by show len i + 2 < 19; omega, by show 0 < 512; omega⟩
        · exact ih.2.2 x e
      · rw [if_neg h2]
        have ih := tel_ok hl hn q (i + zrs len i (n - i))
        have zo := zt_ok (z := zrs len i (n - i)) (by omega) (by omega)
        have zl := zt_len (z := zrs len i (n - i)) (by omega)
        refine ⟨by rw [List.length_append]; omega, by rw [lsm_app]; omega, fun x hx => ?_⟩
        rcases List.mem_append.mp hx with e | e
        · exact zo.2 x e
        · exact ih.2.2 x e
theorem tcR_2 (lenT : Nat → Nat) (alT : Int32) : ∀ (l : List (Nat × Nat)) (s : List Int32 × Nat), (tcR lenT alT l s).2 = s.2 + lsm (fun x => (if alT = -1 then lenT x.1 else 0) + bbh x.1) l
  | [], _ => rfl
  | x :: r, s => by
    show (tcR lenT alT r _).2 = s.2 + (((if alT = -1 then lenT x.1 else 0) + bbh x.1) + lsm _ r)
    rw [tcR_2 lenT alT r, gvR_2, gsR_2]
    omega
theorem cdR_2 (lenC : Nat → Nat) (alC : Int32) (lenP : Nat → Nat) (alP : Int32) (hC : ∀ y, lenC y ≤ 12) (hP : ∀ y, lenP y ≤ 12) : ∀ (l : List (Nat × Nat)) (s : List Int32 × Nat), (cdR lenC alC lenP alP l s).2 ≤ s.2 + lsm (fun x => if 256 ≤ x.1 then 36 else 12) l
  | [], _ => Nat.le_refl _
  | x :: r, s => by
    have ih := cdR_2 lenC alC lenP alP hC hP r (if 256 ≤ x.1 then pdR lenP alP x.2 (gsR lenC 510 alC x.1 s) else gsR lenC 510 alC x.1 s)
    have c1 := hC x.1
    have c2 := hP (rk x.2)
    have c3 := rk_lt x.2
    have d1 : (if alC = -1 then lenC x.1 else 0) ≤ 12 := by split <;> omega
    have d2 : (if alP = -1 then lenP (rk x.2) else 0) ≤ 12 := by split <;> omega
    show (cdR lenC alC lenP alP r _).2 ≤ s.2 + ((if 256 ≤ x.1 then 36 else 12) + lsm _ r)
    by_cases g : 256 ≤ x.1
    · rw [if_pos g] at ih ⊢
      rw [pdR_2, gsR_2] at ih
      rw [if_pos g]
      omega
    · rw [if_neg g] at ih ⊢
      rw [gsR_2] at ih
      rw [if_neg g]
      omega
theorem gtS_cost {tp : List Int32} {n p0 : Nat} (hb : byt tp) (hn : n ≤ tp.length) (hp0 : p0 ≤ n) : ∀ i, lsm (fun x => if 256 ≤ x.1 then 36 else 12) (gtS tp n p0 i).1 + 12 * p0 ≤ 12 * (gtS tp n p0 i).2
  | 0 => by show 0 + 12 * p0 ≤ 12 * p0; omega
  | i + 1 => by
    have ih := gtS_cost hb hn hp0 i
    have ok := gtS_ok hb hn hp0 i
    rw [gtS]
    split
    · exact ih
    · rename_i g
      have c := cdA_lt hb hn (show (gtS tp n p0 i).2 < n by omega)
      dsimp only
      rw [lsm_app]
      show _ + ((if 256 ≤ (cdA tp n (gtS tp n p0 i).2).1 then 36 else 12) + 0) + _ ≤ _
      by_cases z : 0 < (cdA tp n (gtS tp n p0 i).2).2
      · have := c.2.2.2.2.2 z
        rw [if_pos this.1]
        omega
      · have := c.2.2.2.2.1 (by omega)
        rw [if_neg (by omega)]
        omega
theorem gtS_mem {tp : List Int32} {n p0 : Nat} (hb : byt tp) (hn : n ≤ tp.length) (hp0 : p0 ≤ n) (hn4 : n ≤ 4000) : ∀ i, ∀ x ∈ (gtS tp n p0 i).1, x.1 < 510 ∧ x.2 ≤ 4000 ∧ (256 ≤ x.1 → 0 < x.2) ∧ (0 < x.2 → 256 ≤ x.1)
  | 0 => fun x hx => by simp [gtS] at hx
  | i + 1 => by
    have ih := gtS_mem hb hn hp0 hn4 i
    have ok := gtS_ok hb hn hp0 i
    rw [gtS]
    split
    · exact ih
    · rename_i g
      have c := cdA_lt hb hn (show (gtS tp n p0 i).2 < n by omega)
      intro x hx
      rcases List.mem_append.mp hx with e | e
      · exact ih x e
      · rw [List.mem_singleton.mp e]
        refine ⟨c.1, by omega, fun g2 => ?_, fun g2 => (c.2.2.2.2.2 g2).1⟩
        by_cases z : 0 < (cdA tp n (gtS tp n p0 i).2).2
        · exact z
        · have := c.2.2.2.2.1 (by omega); omega
theorem pds_le : ∀ l : List (Nat × Nat), (pds l).length ≤ l.length := fun l => by
  unfold pds
  rw [List.length_map]
  exact List.length_filter_le _ _
theorem pds_lt : ∀ l : List (Nat × Nat), ∀ y ∈ pds l, y < 14 := fun l y hy => by
  unfold pds at hy
  obtain ⟨x, -, rfl⟩ := List.mem_map.mp hy
  exact rk_lt _
theorem pds_mem {l : List (Nat × Nat)} {x : Nat × Nat} (hx : x ∈ l) (h : 0 < x.2) : rk x.2 ∈ pds l := by
  unfold pds
  exact List.mem_map.mpr ⟨x, List.mem_filter.mpr ⟨hx, by simpa using h⟩, rfl⟩
/-- the trees of a block's codes, what tells C -/
def bwC (cs : List (Nat × Nat)) : Nat → Nat := cno (cs.map Prod.fst)
def bwP (cs : List (Nat × Nat)) : Nat → Nat := cno (pds cs)
def btl (cs : List (Nat × Nat)) : List (Nat × Nat) := tel (hlen 510 (bwC cs)) (lst (hlen 510 (bwC cs)) 510) (lst (hlen 510 (bwC cs)) 510) 0
def bwT (cs : List (Nat × Nat)) : Nat → Nat := cno ((btl cs).map Prod.fst)
def bwR (cs : List (Nat × Nat)) (s : List Int32 × Nat) : List Int32 × Nat := pbR cs (btl cs) (hlen 19 (bwT cs)) (hal 19 (bwT cs)) (hlen 510 (bwC cs)) (hal 510 (bwC cs)) (hlen 14 (bwP cs)) (hal 14 (bwP cs)) s
theorem bw_ok {cs : List (Nat × Nat)} (hl : cs.length ≤ 400) (h : ∀ x ∈ cs, x.1 < 510) : ss (bwC cs) 0 510 < 610 ∧ ss (bwP cs) 0 14 < 610 ∧ ss (bwT cs) 0 19 < 610 ∧ (btl cs).length ≤ 510 ∧ (∀ x ∈ btl cs, x.1 < 19 ∧ x.2 < 512) ∧ lsm (fun x => bbh x.1) (btl cs) ≤ 1020 := by
  have c1 : ss (bwC cs) 0 510 = cs.length := by
    unfold bwC
    rw [cno_ss 510 _ (fun y hy => by obtain ⟨x, hx, rfl⟩ := List.mem_map.mp hy; exact h x hx), List.length_map]
  have c2 : ss (bwP cs) 0 14 = (pds cs).length := cno_ss 14 _ (pds_lt cs)
  have c3 := pds_le cs
  have hle : ∀ i, hlen 510 (bwC cs) i ≤ 16 := fun i => by have := hlen_le (m := 510) (w := bwC cs) (by omega) (by omega) i; omega
  have hn := lst_le (hlen 510 (bwC cs)) 510
  have t := tel_ok hle hn (lst (hlen 510 (bwC cs)) 510) 0
  have c4 : ss (bwT cs) 0 19 = (btl cs).length := by
    unfold bwT
    rw [cno_ss 19 _ (fun y hy => by obtain ⟨x, hx, rfl⟩ := List.mem_map.mp hy; exact (t.2.2 x hx).1), List.length_map]
  have t1 : (btl cs).length ≤ _ := t.1
  have t2 : lsm (fun x => bbh x.1) (btl cs) ≤ _ := t.2.1
  exact ⟨by omega, by omega, by omega, by omega, t.2.2, by omega⟩
theorem tTr_le {len : Nat → Nat} {al : Int32} {m b : Nat} {gp : Bool} (s : List Int32 × Nat) (hK : ∀ i, len i ≤ 12) (hm : m ≤ 19) (hb : b ≤ 5) : (tTr len al m b gp s).2 ≤ s.2 + 178 := by
  unfold tTr
  have hl := lst_le len m
  split
  · have := (ttR_le len gp (lst len m) 9 (fun i => by have := hK i; split <;> omega) (lst len m) 0 (gvR (lst len m) b s)).2
    rw [gvR_2, if_pos (by omega)] at this
    omega
  · rw [gvR_2, gvR_2]; omega
/-- a block's bits -/
theorem bwR_le {cs : List (Nat × Nat)} (hl : cs.length ≤ 400) (h : ∀ x ∈ cs, x.1 < 510) (s : List Int32 × Nat) : (bwR cs s).2 ≤ s.2 + lsm (fun x => if 256 ≤ x.1 then 36 else 12) cs + 4010 := by
  obtain ⟨w1, w2, w3, w4, w5, w6⟩ := bw_ok hl h
  have lC := hlen_le (m := 510) (w := bwC cs) (by omega) w1
  have lP := hlen_le (m := 14) (w := bwP cs) (by omega) w2
  have lT := hlen_le (m := 19) (w := bwT cs) (by omega) w3
  have e1 := cdR_2 (hlen 510 (bwC cs)) (hal 510 (bwC cs)) (hlen 14 (bwP cs)) (hal 14 (bwP cs)) lC lP cs (tTr (hlen 14 (bwP cs)) (hal 14 (bwP cs)) 14 4 false (tCr (hlen 510 (bwC cs)) (hal 510 (bwC cs)) (hlen 19 (bwT cs)) (hal 19 (bwT cs)) (btl cs) (tTr (hlen 19 (bwT cs)) (hal 19 (bwT cs)) 19 5 true (gvR cs.length 16 s))))
  have e2 := tTr_le (len := hlen 14 (bwP cs)) (al := hal 14 (bwP cs)) (m := 14) (b := 4) (gp := false) (tCr (hlen 510 (bwC cs)) (hal 510 (bwC cs)) (hlen 19 (bwT cs)) (hal 19 (bwT cs)) (btl cs) (tTr (hlen 19 (bwT cs)) (hal 19 (bwT cs)) 19 5 true (gvR cs.length 16 s))) lP (by omega) (by omega)
  have e3 : (tCr (hlen 510 (bwC cs)) (hal 510 (bwC cs)) (hlen 19 (bwT cs)) (hal 19 (bwT cs)) (btl cs) (tTr (hlen 19 (bwT cs)) (hal 19 (bwT cs)) 19 5 true (gvR cs.length 16 s))).2 ≤ (tTr (hlen 19 (bwT cs)) (hal 19 (bwT cs)) 19 5 true (gvR cs.length 16 s)).2 + 3638 := by
    unfold tCr
    split
    · rw [tcR_2, gvR_2, lsm_add]
      have k : lsm (fun x => if hal 19 (bwT cs) = -1 then hlen 19 (bwT cs) x.1 else 0) (btl cs) ≤ 2600 := by
        by_cases g : hal 19 (bwT cs) = -1
        · have g2 := hal_two (by omega) g
          have e : (fun x : Nat × Nat => if hal 19 (bwT cs) = -1 then hlen 19 (bwT cs) x.1 else 0) = fun x => hlen 19 (bwT cs) x.1 := funext fun x => if_pos g
          rw [e, cno_sum (hlen 19 (bwT cs)) 19 (btl cs) (fun x hx => (w5 x hx).1)]
          have T := tre_of (m := 19) (by omega) (srd_all (bwT cs) 19) g2
          have hW : SS (srtS (bwT cs) 19).1 (bwT cs) (srtS (bwT cs) 19).2 0 19 19 ≤ 510 := by
            rw [srt_SS]
            unfold bwT
            rw [cno_ss 19 _ (fun y hy => by obtain ⟨x, hx, rfl⟩ := List.mem_map.mp hy; exact (w5 x hx).1), List.length_map]
            exact w4
          have c := tre_cheap T (by omega) g2 (srd_all (bwT cs) 19) (srtS_le (bwT cs) 19) hW
          refine Nat.le_trans (Nat.le_of_eq ?_) c
          refine ss_congr (fun y _ _ => ?_)
          show cno ((btl cs).map Prod.fst) y * hlen 19 (bwT cs) y = bwT cs y * _
          unfold hlen
          rw [if_pos g2]
          rfl
        · have e : ∀ l : List (Nat × Nat), lsm (fun x => if hal 19 (bwT cs) = -1 then hlen 19 (bwT cs) x.1 else 0) l = 0 := by
            intro l
            induction l with
            | nil => rfl
            | cons x r ih => show (if _ then _ else 0) + lsm _ r = 0; rw [if_neg g, ih]
          rw [e]
          omega
      omega
    · rw [gvR_2, gvR_2]; omega
  have e4 := tTr_le (len := hlen 19 (bwT cs)) (al := hal 19 (bwT cs)) (m := 19) (b := 5) (gp := true) (gvR cs.length 16 s) lT (by omega) (by omega)
  have e5 := gvR_2 cs.length 16 s
  unfold bwR pbR
  omega

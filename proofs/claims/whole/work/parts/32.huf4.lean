/-! ===== pure: the lengths of merging make a complete tree; what they cost ===== -/
theorem ss_add (g : Nat → Nat) (a n : Nat) : ∀ r, ss g a (n + r) = ss g a n + ss g (a + n) r
  | 0 => rfl
  | r + 1 => by
    show ss g a (n + r) + g (a + (n + r)) = ss g a n + (ss g (a + n) r + g (a + n + r))
    rw [ss_add g a n r, Nat.add_assoc a n r]
    omega
theorem krf_ss (len : Nat → Nat) : ∀ m, krf len m = ss (fun s => if len s = 0 then 0 else 2 ^ (16 - len s)) 0 m
  | 0 => rfl
  | m + 1 => by
    show krf len m + _ = ss _ 0 m + _
    rw [krf_ss len m, Nat.zero_add]
section TRE
variable {m : Nat} {lv : Nat → Nat} {c : Nat} {w0 : Nat → Nat} {W N : Nat} {w up : Nat → Nat}
theorem tre_root (T : tre m lv c w0 W N w up) (hm : 1 ≤ m) (hc : 2 ≤ c) (φ : Nat → Nat) {a b : Nat} (hab : a ≠ b) (ha : up a = N - 1) (hb : up b = N - 1) (hall : ∀ v, up v = N - 1 → v = a ∨ v = b) : ss (frn m up φ (N - 1)) 0 N = φ a + φ b := by
  obtain ⟨t1, t2, t3, t4, t5, t6, t7, t8, t9, t10⟩ := T
  have za := t7 a (by omega)
  have zb := t7 b (by omega)
  have e : ss (frn m up φ (N - 1)) 0 N = ss (updN (updN (fun _ => 0) a (φ a)) b (φ b)) 0 N := ss_congr (fun v _ hv => by
    by_cases eb : v = b
    · subst eb
      rw [updN_eq]
      unfold frn
      rw [if_pos ⟨by omega, by omega, by omega⟩]
    · rw [updN_ne eb]
      by_cases ea : v = a
      · subst ea
        rw [updN_eq]
        unfold frn
        rw [if_pos ⟨by omega, by omega, by omega⟩]
      · rw [updN_ne ea]
        unfold frn
        rw [if_neg]
        rintro ⟨g1, g2, -⟩
        rcases hall v (Nat.le_antisymm (Nat.le_sub_one_of_lt (t7 v g1).2.2.1) g2) with z | z
        · exact ea z
        · exact eb z)
  have s2 := ss_upd (updN (fun _ => 0) a (φ a)) (φ b) (N := N) (i := b) (by omega)
  have s1 := ss_upd (fun _ => 0) (φ a) (N := N) (i := a) (by omega)
  have v2 : updN (fun _ => 0) a (φ a) b = 0 := by rw [updN_ne (fun q => hab q.symm)]
  have z0 : ss (fun _ => 0) 0 N = 0 := ss_0 (fun _ _ _ => rfl)
  rw [e]
  omega
theorem tre_down (T : tre m lv c w0 W N w up) (hm : 1 ≤ m) (hc : 2 ≤ c) (φ : Nat → Nat) (F : Nat → Nat) (h0 : ∀ a b, a ≠ b → up a = N - 1 → up b = N - 1 → w (N - 1) = w a + w b → φ a + φ b = F (N - 1)) (hs : ∀ k a b, m ≤ k → k + 1 < N → up a = k → up b = k → w k = w a + w b → F (k + 1) + φ a + φ b = F k + φ k) : ∀ i, i < N - m → ss (frn m up φ (N - 1 - i)) 0 N = F (N - 1 - i)
  | 0, h => by
    obtain ⟨a, b, q1, q2, q3, q4, q5⟩ := T.2.2.2.2.2.2.2.1 (N - 1) (by omega) (by omega)
    rw [Nat.sub_zero, tre_root T hm hc φ q1 q2 q3 q4]
    exact h0 a b q1 q2 q3 q5
  | i + 1, h => by
    have ih := tre_down T hm hc φ F h0 hs i (by omega)
    obtain ⟨a, b, q1, q2, q3, q4, q5⟩ := T.2.2.2.2.2.2.2.1 (N - 1 - (i + 1)) (by omega) (by omega)
    have st := frn_step T hm φ (k := N - 1 - (i + 1)) (by omega) (by omega) q1 q2 q3 q4
    have st2 := hs (N - 1 - (i + 1)) a b (by omega) (by omega) q2 q3 q5
    rw [show N - 1 - (i + 1) + 1 = N - 1 - i by omega] at st st2
    omega
theorem tre_m (T : tre m lv c w0 W N w up) (φ : Nat → Nat) : ss (frn m up φ m) 0 N = ss (fun v => if up v ≠ 0 then φ v else 0) 0 m := by
  obtain ⟨t1, t2, t3, t4, t5, t6, t7, t8, t9, t10⟩ := T
  rw [show N = m + (c - 1) from t1, ss_add, ss_0 (a := 0 + m), Nat.add_zero]
  · refine ss_congr (fun v _ hv => ?_)
    unfold frn
    by_cases g : up v ≠ 0
    · rw [if_pos ⟨g, (t7 v g).2.1, Or.inl (by omega)⟩, if_pos g]
    · rw [if_neg (fun z => g z.1), if_neg g]
  · intro v h1 h2
    unfold frn
    rw [if_neg (by omega)]
/-- the lengths -/
def tln2 (m : Nat) (w0 : Nat → Nat) (N : Nat) (up : Nat → Nat) : Nat → Nat := fun s => if s < m ∧ 0 < w0 s then dpF up N s else 0
theorem tre_use (T : tre m lv c w0 W N w up) (h : srd w0 lv c m) {s : Nat} (hs : s < m) : up s ≠ 0 ↔ 0 < w0 s := by
  obtain ⟨t1, t2, t3, t4, t5, t6, t7, t8, t9, t10⟩ := T
  constructor
  · intro g
    rcases (t7 s g).2.2.2.2 with ⟨i, hi, rfl⟩ | z
    · exact (h.1 i hi).2
    · omega
  · intro g
    obtain ⟨j, hj, rfl⟩ := h.2.2 s hs g
    exact t6 j hj
theorem tre_krf (T : tre m lv c w0 W N w up) (hm : 1 ≤ m) (hc : 2 ≤ c) (h : srd w0 lv c m) (hW : W < 610) : krf (tln2 m w0 N up) m = 65536 := by
  have hu : ∀ v, up v ≠ 0 → v < up v ∧ up v < N := fun v hv => ⟨(T.2.2.2.2.2.2.1 v hv).1, (T.2.2.2.2.2.2.1 v hv).2.2.1⟩
  have hN := T.1
  have d1 := tre_down T hm hc (fun v => 2 ^ (16 - dpF up N v)) (fun _ => 65536) (fun a b q1 q2 q3 q4 => by
    have ea := dpF_up hu (k := a) (by omega)
    have eb := dpF_up hu (k := b) (by omega)
    rw [q2, dpF_0 T.2.2.1] at ea
    rw [q3, dpF_0 T.2.2.1] at eb
    try dsimp only
    rw [ea, eb]) (fun k a b q1 q2 q3 q4 q5 => by
    have ea := dpF_up hu (k := a) (by omega)
    have eb := dpF_up hu (k := b) (by omega)
    have la := tre_le T hW (v := a) (by omega)
    rw [q3] at ea
    rw [q4] at eb
    try dsimp only
    rw [ea, eb, show 16 - dpF up N k = (16 - (dpF up N k + 1)) + 1 by omega, Nat.pow_succ]
    omega) (N - 1 - m) (by omega)
  rw [show N - 1 - (N - 1 - m) = m by omega, tre_m T] at d1
  rw [krf_ss, ← d1]
  refine ss_congr (fun s _ hs => ?_)
  have hs : s < m := by omega
  show (if tln2 m w0 N up s = 0 then 0 else 2 ^ (16 - tln2 m w0 N up s)) = (if up s ≠ 0 then 2 ^ (16 - dpF up N s) else 0)
  by_cases g : 0 < w0 s
  · have gu := (tre_use T h hs).mpr g
    have e0 := dpF_up hu gu
    have e : tln2 m w0 N up s = dpF up N s := if_pos ⟨hs, g⟩
    rw [e, if_pos gu, if_neg (by omega)]
  · have gu : ¬ up s ≠ 0 := fun z => g ((tre_use T h hs).mp z)
    have e : tln2 m w0 N up s = 0 := if_neg (fun z => g z.2)
    rw [e, if_neg gu, if_pos rfl]
theorem tre_cost (T : tre m lv c w0 W N w up) (hm : 1 ≤ m) (hc : 2 ≤ c) (h : srd w0 lv c m) : ss (fun s => w0 s * tln2 m w0 N up s) 0 m = ss w m (c - 1) := by
  have hu : ∀ v, up v ≠ 0 → v < up v ∧ up v < N := fun v hv => ⟨(T.2.2.2.2.2.2.1 v hv).1, (T.2.2.2.2.2.2.1 v hv).2.2.1⟩
  have hN := T.1
  have d1 := tre_down T hm hc (fun v => w v * dpF up N v) (fun k => ss w k (N - k)) (fun a b q1 q2 q3 q4 => by
    have ea := dpF_up hu (k := a) (by omega)
    have eb := dpF_up hu (k := b) (by omega)
    rw [q2, dpF_0 T.2.2.1] at ea
    rw [q3, dpF_0 T.2.2.1] at eb
    try dsimp only
    rw [ea, eb, show N - (N - 1) = 0 + 1 by omega]
    show _ = 0 + w (N - 1 + 0)
    rw [show N - 1 + 0 = N - 1 from rfl, q4]
    omega) (fun k a b q1 q2 q3 q4 q5 => by
    have ea := dpF_up hu (k := a) (by omega)
    have eb := dpF_up hu (k := b) (by omega)
    rw [q3] at ea
    rw [q4] at eb
    try dsimp only
    rw [ea, eb, show N - k = (N - (k + 1)) + 1 by omega, ss_head, q5]
    rw [Nat.mul_succ, Nat.mul_succ, Nat.add_mul]
    omega) (N - 1 - m) (by omega)
  rw [show N - 1 - (N - 1 - m) = m by omega, tre_m T] at d1
  rw [show N - m = c - 1 by omega] at d1
  rw [← d1]
  refine ss_congr (fun s _ hs => ?_)
  have hs : s < m := by omega
  show w0 s * tln2 m w0 N up s = (if up s ≠ 0 then w s * dpF up N s else 0)
  by_cases g : 0 < w0 s
  · have e : tln2 m w0 N up s = dpF up N s := if_pos ⟨hs, g⟩
    rw [e, if_pos ((tre_use T h hs).mpr g), T.2.1 s hs]
  · have gu : ¬ up s ≠ 0 := fun z => g ((tre_use T h hs).mp z)
    have e : tln2 m w0 N up s = 0 := if_neg (fun z => g z.2)
    rw [e, if_neg gu, Nat.mul_zero]
theorem ss_mono {g g' : Nat → Nat} : ∀ {n a : Nat}, (∀ i, a ≤ i → i < a + n → g i ≤ g' i) → ss g a n ≤ ss g' a n
  | 0, _, _ => Nat.le_refl _
  | n + 1, a, h => by
    have h1 := ss_mono (n := n) (a := a) (fun i h1 h2 => h i h1 (by omega))
    have h2 := h (a + n) (by omega) (by omega)
    show ss g a n + g (a + n) ≤ ss g' a n + g' (a + n)
    omega
theorem ss_shift (g : Nat → Nat) (a : Nat) : ∀ n, ss g a n = ss (fun i => g (a + i)) 0 n
  | 0 => rfl
  | n + 1 => by
    show ss g a n + g (a + n) = ss _ 0 n + g (a + (0 + n))
    rw [ss_shift g a n, Nat.zero_add]
/-- few symbols cost little -/
theorem tre_cheap (T : tre m lv c w0 W N w up) (hm : 1 ≤ m) (hc : 2 ≤ c) (h : srd w0 lv c m) (hc19 : c ≤ 19) (hW : W ≤ 510) : ss (fun s => w0 s * tln2 m w0 N up s) 0 m ≤ 2600 := by
  rw [tre_cost T hm hc h, ss_shift]
  have h1 : ss (fun i => w (m + i)) 0 (c - 1) ≤ ss (fun i => 1020 / (c - i)) 0 (c - 1) := ss_mono (fun i _ hi => by
    have := T.2.2.2.2.2.2.2.2.2 (m + i) (by omega) (by have := T.1; omega)
    rw [show m + i - m = i by omega] at this
    rw [Nat.le_div_iff_mul_le (by omega), Nat.mul_comm]
    omega)
  have h2 : ∀ c : Fin 20, ss (fun i => 1020 / (c.1 - i)) 0 (c.1 - 1) ≤ 2600 := by decide +kernel
  exact Nat.le_trans h1 (h2 ⟨c, by omega⟩)
end TRE

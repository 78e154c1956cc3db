/-! ===== pure: the tree that comes of merging ===== -/
theorem INV_all {m : Nat} {lv : Nat → Nat} {c : Nat} {w0 : Nat → Nat} (hm : 1 ≤ m) (h : srd w0 lv c m) : ∀ j, j < c → ∃ e, INV m lv c w0 (SS lv w0 c 0 m m) j (mqS m lv c w0 j).1 (mqS m lv c w0 j).2.1 (mqS m lv c w0 j).2.2.1 (mqS m lv c w0 j).2.2.2 e ∧ (0 < j → (mqS m lv c w0 j).2.1 < m + j)
  | 0, _ => ⟨0, INV_0 h, fun g => absurd g (Nat.lt_irrefl 0)⟩
  | j + 1, hj => by
    obtain ⟨e, I, -⟩ := INV_all hm h j (by omega)
    have S := INV_S hm I hj (e1 := rfl) (e2 := rfl)
    obtain ⟨-, -, -, -, s5, -, -, -, -, -, s11⟩ := S
    exact ⟨_, s11, fun _ => by
      show (tk _ _ _ _ _ _).2.2 < _
      have : (tk lv (mqS m lv c w0 j).2.2.1 c (tk lv (mqS m lv c w0 j).2.2.1 c (mqS m lv c w0 j).1 (mqS m lv c w0 j).2.1 (m + j)).2.1 (tk lv (mqS m lv c w0 j).2.2.1 c (mqS m lv c w0 j).1 (mqS m lv c w0 j).2.1 (m + j)).2.2 (m + j)).2.2 ≤ m + j := s5
      omega⟩
theorem mqK_of {m : Nat} {lv : Nat → Nat} {c : Nat} {w0 : Nat → Nat} (hm : 1 ≤ m) (h : srd w0 lv c m) (hw : ∀ k, k < m → w0 k < 2 ^ 18) (hW : SS lv w0 c 0 m m < 2 ^ 18) : mqK m lv c w0 := by
  intro j hj nl nm w up hS
  obtain ⟨e, I, -⟩ := INV_all hm h j (by omega)
  rw [hS] at I
  dsimp only at I
  have S := INV_S hm I hj (a := (tk lv w c nl nm (m + j)).1) (nl1 := (tk lv w c nl nm (m + j)).2.1) (nm1 := (tk lv w c nl nm (m + j)).2.2) (b := (tk lv w c (tk lv w c nl nm (m + j)).2.1 (tk lv w c nl nm (m + j)).2.2 (m + j)).1) (nl2 := (tk lv w c (tk lv w c nl nm (m + j)).2.1 (tk lv w c nl nm (m + j)).2.2 (m + j)).2.1) (nm2 := (tk lv w c (tk lv w c nl nm (m + j)).2.1 (tk lv w c nl nm (m + j)).2.2 (m + j)).2.2) rfl rfl
  obtain ⟨i1, i2, i3, i4, i5, i6, i7, i8, i9, i10, i11, i12, i13, i14⟩ := I
  refine ⟨i1.1, i1.2.2.1, fun k hk => ?_, S.1, S.2.1, S.2.2.1, S.2.2.2.1⟩
  by_cases g : k < m
  · rw [i3 k g]
    have := hw k g
    omega
  · have z := i14 k (by omega) hk
    have z2 : 1 * w k ≤ (c - (k - m)) * w k := Nat.mul_le_mul_right _ (by omega)
    omega
/-- how far a node is from the root -/
def dpF (up : Nat → Nat) : Nat → Nat → Nat
  | 0, _ => 0
  | q + 1, k => if up k = 0 then 0 else dpF up q (up k) + 1
theorem dpF_stab {up : Nat → Nat} {N : Nat} (hu : ∀ v, up v ≠ 0 → v < up v ∧ up v < N) : ∀ (q q' k : Nat), N ≤ k + q → N ≤ k + q' → dpF up q k = dpF up q' k
  | 0, q', k, h1, h2 => by
    have hk : up k = 0 := by
      by_cases z : up k = 0
      · exact z
      · have := hu k z; omega
    cases q' with
    | zero => rfl
    | succ q' => show 0 = (if up k = 0 then 0 else _); rw [if_pos hk]
  | q + 1, q', k, h1, h2 => by
    show (if up k = 0 then 0 else dpF up q (up k) + 1) = _
    by_cases z : up k = 0
    · rw [if_pos z]
      cases q' with
      | zero => rfl
      | succ q' => show 0 = (if up k = 0 then 0 else _); rw [if_pos z]
    · rw [if_neg z]
      have y := hu k z
      cases q' with
      | zero => omega
      | succ q' =>
        show _ = (if up k = 0 then 0 else dpF up q' (up k) + 1)
        rw [if_neg z, dpF_stab hu q q' (up k) (by omega) (by omega)]
theorem dpF_up {up : Nat → Nat} {N k : Nat} (hu : ∀ v, up v ≠ 0 → v < up v ∧ up v < N) (hk : up k ≠ 0) : dpF up N k = dpF up N (up k) + 1 := by
  have y := hu k hk
  obtain ⟨n, rfl⟩ : ∃ n, N = n + 1 := ⟨N - 1, by omega⟩
  show (if up k = 0 then 0 else dpF up n (up k) + 1) = _
  rw [if_neg hk, dpF_stab hu n (n + 1) (up k) (by omega) (by omega)]
theorem dpF_0 {up : Nat → Nat} {N k : Nat} (hk : up k = 0) : dpF up N k = 0 := by
  cases N with
  | zero => rfl
  | succ n => show (if up k = 0 then 0 else _) = 0; rw [if_pos hk]
/-- what the merged tree is: N nodes, the last one the root -/
def tre (m : Nat) (lv : Nat → Nat) (c : Nat) (w0 : Nat → Nat) (W N : Nat) (w up : Nat → Nat) : Prop :=
  N = m + (c - 1) ∧ (∀ k, k < m → w k = w0 k) ∧ up (N - 1) = 0 ∧ w (N - 1) = W ∧ (∀ k, m ≤ k → k + 1 < N → up k ≠ 0) ∧ (∀ i, i < c → up (lv i) ≠ 0) ∧ (∀ v, up v ≠ 0 → v < up v ∧ m ≤ up v ∧ up v < N ∧ 1 ≤ w v ∧ ((∃ i, i < c ∧ v = lv i) ∨ m ≤ v)) ∧ (∀ p, m ≤ p → p < N → ∃ a b, a ≠ b ∧ up a = p ∧ up b = p ∧ (∀ v, up v = p → v = a ∨ v = b) ∧ w p = w a + w b) ∧ (∀ v, up v ≠ 0 → up (up v) ≠ 0 → w (up v) + w v ≤ w (up (up v))) ∧ (∀ p, m ≤ p → p < N → (c - (p - m)) * w p ≤ 2 * W)
theorem tre_of {m : Nat} {lv : Nat → Nat} {c : Nat} {w0 : Nat → Nat} (hm : 1 ≤ m) (h : srd w0 lv c m) (hc : 2 ≤ c) : tre m lv c w0 (SS lv w0 c 0 m m) (m + (c - 1)) (mqS m lv c w0 (c - 1)).2.2.1 (mqS m lv c w0 (c - 1)).2.2.2 := by
  obtain ⟨e, I, hn⟩ := INV_all hm h (c - 1) (by omega)
  have hn := hn (by omega)
  obtain ⟨i1, i2, i3, i4, i5, i6, i7, i8, i9, i10, i11, i12, i13, i14⟩ := I
  have hnl : (mqS m lv c w0 (c - 1)).1 = c := by have := i1.1; omega
  have hnm : (mqS m lv c w0 (c - 1)).2.1 = m + (c - 1) - 1 := by have := i1.1; have := i1.2.2.1; omega
  have hroot : ∀ v, Ac lv c (mqS m lv c w0 (c - 1)).1 (mqS m lv c w0 (c - 1)).2.1 (m + (c - 1)) v ↔ v = m + (c - 1) - 1 := fun v => by
    rw [hnl, hnm]
    constructor
    · rintro (⟨i, a1, a2, -⟩ | ⟨a1, a2⟩)
      · omega
      · omega
    · rintro rfl
      exact Or.inr ⟨Nat.le_refl _, by omega⟩
  have hm1 := i1.2.1
  refine ⟨rfl, i3, ?_, ?_, fun k h1 h2 => i8 k (Or.inr ⟨h1, by omega⟩) (fun z => by have := (hroot k).mp z; omega), fun i hi => i8 (lv i) (Or.inl ⟨i, Nat.zero_le _, hi, rfl⟩) (fun z => by
    have := (hroot (lv i)).mp z
    have := i1.2.2.2.1 i hi
    omega), fun v hv => ?_, i10, i12, i14⟩
  · by_cases z : (mqS m lv c w0 (c - 1)).2.2.2 (m + (c - 1) - 1) = 0
    · exact z
    · exact absurd ((hroot _).mpr rfl) (i7 _ z).2.2.2
  · unfold SS at i13
    rw [hnl, hnm, Nat.sub_self, show m + (c - 1) - (m + (c - 1) - 1) = 0 + 1 by omega] at i13
    simp only [ss] at i13
    rw [Nat.add_zero] at i13
    unfold SS
    omega
  · have z := i7 v hv
    have y := i9 v hv
    refine ⟨z.1, z.2.1, z.2.2.1, i11 v y, ?_⟩
    rcases y with ⟨i, -, a2, rfl⟩ | ⟨a1, a2⟩
    · exact Or.inl ⟨i, a2, rfl⟩
    · exact Or.inr a1
/-- Fibonacci's numbers -/
def fb : Nat → Nat
  | 0 => 1
  | 1 => 2
  | n + 2 => fb (n + 1) + fb n
theorem fb_mono : ∀ k, fb k ≤ fb (k + 1)
  | 0 => by decide
  | k + 1 => Nat.le_add_right _ _
theorem fb_le {a b : Nat} (h : a ≤ b) : fb a ≤ fb b := by
  induction b with
  | zero => rw [Nat.le_zero.mp h]; exact Nat.le_refl _
  | succ b ih =>
    by_cases e : a = b + 1
    · rw [e]; exact Nat.le_refl _
    · exact Nat.le_trans (ih (by omega)) (fb_mono b)
theorem tre_fb {m : Nat} {lv : Nat → Nat} {c : Nat} {w0 : Nat → Nat} {W N : Nat} {w up : Nat → Nat} (T : tre m lv c w0 W N w up) : ∀ (n v : Nat), up v ≠ 0 → dpF up N v = n + 1 → (∀ x y, x ≤ w v → y ≤ w (up v) → ∀ F : Nat → Nat, F 0 = x → F 1 = y → (∀ i, F (i + 2) = F (i + 1) + F i) → F (n + 1) ≤ W) := by
  obtain ⟨t1, t2, t3, t4, t5, t6, t7, t8, t9, t10⟩ := T
  have hu : ∀ v, up v ≠ 0 → v < up v ∧ up v < N := fun v hv => ⟨(t7 v hv).1, (t7 v hv).2.2.1⟩
  intro n
  induction n with
  | zero =>
    intro v hv hd x y hx hy F f0 f1 f2
    rw [dpF_up hu hv] at hd
    have hr : up v = N - 1 := by
      have z := t7 v hv
      by_cases g : up v = N - 1
      · exact g
      · have z2 := t5 (up v) z.2.1 (by omega)
        rw [dpF_up hu z2] at hd
        omega
    rw [hr, t4] at hy
    show F 1 ≤ W
    omega
  | succ n ih =>
    intro v hv hd x y hx hy F f0 f1 f2
    rw [dpF_up hu hv] at hd
    have hv2 : up (up v) ≠ 0 := fun z => by rw [dpF_0 z] at hd; omega
    have := ih (up v) hv2 (by omega) y (x + y) hy (by have := t9 v hv hv2; omega) (fun i => F (i + 1)) f1 (by rw [f2 0, f1, f0]; omega) (fun i => f2 (i + 1))
    exact this
theorem tre_le {m : Nat} {lv : Nat → Nat} {c : Nat} {w0 : Nat → Nat} {W N : Nat} {w up : Nat → Nat} (T : tre m lv c w0 W N w up) (hW : W < 610) {v : Nat} (hv : up v ≠ 0) : dpF up N v ≤ 12 := by
  obtain ⟨t1, t2, t3, t4, t5, t6, t7, t8, t9, t10⟩ := id T
  have hu : ∀ v, up v ≠ 0 → v < up v ∧ up v < N := fun v hv => ⟨(t7 v hv).1, (t7 v hv).2.2.1⟩
  have h1 := dpF_up hu hv
  have z := t7 v hv
  have hw2 : 2 ≤ w (up v) := by
    obtain ⟨a, b, q1, q2, q3, q4, q5⟩ := t8 (up v) z.2.1 z.2.2.1
    have wa := (t7 a (by rw [q2]; have := z.1; omega)).2.2.2.1
    have wb := (t7 b (by rw [q3]; have := z.1; omega)).2.2.2.1
    omega
  have h2 := tre_fb T (dpF up N (up v)) v hv h1 1 2 z.2.2.2.1 hw2 fb rfl rfl (fun i => rfl)
  rcases Nat.lt_or_ge 12 (dpF up N v) with g | g
  · have h3 := fb_le (a := 13) (b := dpF up N (up v) + 1) (by omega)
    have h4 : fb 13 = 610 := by decide
    omega
  · exact g
/-! sums over the nodes -/
theorem ss_upd (g : Nat → Nat) (x : Nat) : ∀ {N i : Nat}, i < N → ss (updN g i x) 0 N + g i = ss g 0 N + x
  | 0, i, h => absurd h (Nat.not_lt_zero i)
  | N + 1, i, h => by
    show ss (updN g i x) 0 N + updN g i x (0 + N) + g i = ss g 0 N + g (0 + N) + x
    rw [Nat.zero_add]
    by_cases e : i = N
    · subst e
      rw [updN_eq, ss_congr (g := updN g i x) (g' := g) (fun j _ h2 => updN_ne (by omega))]
      omega
    · have := ss_upd g x (N := N) (i := i) (by omega)
      rw [updN_ne (fun q => e q.symm)]
      omega
theorem ss_0 {g : Nat → Nat} : ∀ {n a : Nat}, (∀ i, a ≤ i → i < a + n → g i = 0) → ss g a n = 0
  | 0, _, _ => rfl
  | n + 1, a, h => by
    show ss g a n + _ = 0
    rw [ss_0 (fun i h1 h2 => h i h1 (by omega)), h (a + n) (by omega) (by omega)]
/-- the nodes whose parent is k or above, and that are symbols or below k -/
def frn (m : Nat) (up φ : Nat → Nat) (k : Nat) : Nat → Nat := fun v => if up v ≠ 0 ∧ k ≤ up v ∧ (v < m ∨ v < k) then φ v else 0
theorem frn_step {m : Nat} {lv : Nat → Nat} {c : Nat} {w0 : Nat → Nat} {W N : Nat} {w up : Nat → Nat} (T : tre m lv c w0 W N w up) (hm : 1 ≤ m) (φ : Nat → Nat) {k a b : Nat} (hk : m ≤ k) (hkN : k + 1 < N) (hab : a ≠ b) (ha : up a = k) (hb : up b = k) (hall : ∀ v, up v = k → v = a ∨ v = b) : ss (frn m up φ k) 0 N + φ k = ss (frn m up φ (k + 1)) 0 N + φ a + φ b := by
  obtain ⟨t1, t2, t3, t4, t5, t6, t7, t8, t9, t10⟩ := T
  have hk0 := t5 k hk hkN
  have zk := t7 k hk0
  have hk00 : k ≠ 0 := by omega
  have za := t7 a (by omega)
  have zb := t7 b (by omega)
  have e : ss (frn m up φ k) 0 N = ss (updN (updN (updN (frn m up φ (k + 1)) k 0) a (φ a)) b (φ b)) 0 N := ss_congr (fun v _ hv => by
    by_cases eb : v = b
    · subst eb
      rw [updN_eq]
      unfold frn
      rw [if_pos ⟨by omega, by omega, by omega⟩]
    · rw [updN_ne eb]
      by_cases ea : v = a
      · subst ea
        rw [updN_eq]
        unfold frn
        rw [if_pos ⟨by omega, by omega, by omega⟩]
      · rw [updN_ne ea]
        by_cases ek : v = k
        · subst ek
          rw [updN_eq]
          unfold frn
          rw [if_neg (by omega)]
        · rw [updN_ne ek]
          unfold frn
          have hne : up v ≠ k := fun q => by rcases hall v q with z | z; exact ea z; exact eb z
          by_cases g : up v ≠ 0 ∧ k ≤ up v ∧ (v < m ∨ v < k)
          · rw [if_pos g, if_pos ⟨g.1, by omega, by omega⟩]
          · rw [if_neg g, if_neg (by omega)])
  have s3 := ss_upd (updN (updN (frn m up φ (k + 1)) k 0) a (φ a)) (φ b) (N := N) (i := b) (by omega)
  have s2 := ss_upd (updN (frn m up φ (k + 1)) k 0) (φ a) (N := N) (i := a) (by omega)
  have s1 := ss_upd (frn m up φ (k + 1)) 0 (N := N) (i := k) (by omega)
  have v3 : updN (updN (frn m up φ (k + 1)) k 0) a (φ a) b = 0 := by
    rw [updN_ne (fun q => hab q.symm), updN_ne (by omega)]
    unfold frn
    rw [if_neg (by omega)]
  have v2 : updN (frn m up φ (k + 1)) k 0 a = 0 := by
    rw [updN_ne (by omega)]
    unfold frn
    rw [if_neg (by omega)]
  have v1 : frn m up φ (k + 1) k = φ k := by
    unfold frn
    rw [if_pos ⟨hk0, by omega, by omega⟩]
  rw [e]
  omega

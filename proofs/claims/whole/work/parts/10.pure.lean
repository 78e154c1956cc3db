/-! ===== pure: heaps but for some cells ===== -/
def am_fr (h0 h' : am_H) (F : List Nat) : Prop := ∀ j, j ∉ F → h' j = h0 j
theorem am_fr.rf {h : am_H} {F : List Nat} : am_fr h h F := fun _ _ => rfl
theorem am_fr.set {h0 h' : am_H} {F : List Nat} {k : Nat} {e : am_E} (h : am_fr h0 h' F) (hk : k ∈ F) : am_fr h0 (am_set h' k e) F := fun j hj => by
  have n : j ≠ k := fun q => hj (by rw [q]; exact hk)
  rw [am_set_ne n]
  exact h j hj
theorem am_fr.tr {h0 h1 h2 : am_H} {F G : List Nat} (a : am_fr h0 h1 F) (b : am_fr h1 h2 G) (hs : ∀ j, j ∈ G → j ∈ F) : am_fr h0 h2 F := fun j hj => by
  rw [b j (fun q => hj (hs j q))]
  exact a j hj
theorem am_set_set {h : am_H} {k : Nat} {e e' : am_E} : am_set (am_set h k e) k e' = am_set h k e' := by
  funext j
  by_cases hj : j = k <;> simp [am_set, hj]
theorem am_set_comm {h : am_H} {k k' : Nat} {e e' : am_E} (n : k ≠ k') : am_set (am_set h k e) k' e' = am_set (am_set h k' e') k e := by
  funext j
  by_cases hj : j = k
  · subst hj
    simp [am_set, n]
  · simp [am_set, hj]
theorem am_set_self {h : am_H} {k : Nat} {e : am_E} (hk : h k = some e) : am_set h k e = h := by
  funext j
  by_cases hj : j = k
  · subst hj
    simp [am_set, hk]
  · simp [am_set, hj]
theorem upd_eq {f : Nat → Int32} {k : Nat} {x : Int32} : upd f k x k = x := by simp [upd]
theorem upd_ne {f : Nat → Int32} {k j : Nat} {x : Int32} (h : j ≠ k) : upd f k x j = f j := by simp [upd, h]
/-! ===== pure: trees of codes ===== -/
/-- how many of the first m symbols have the length n -/
def cnt (len : Nat → Nat) (n : Nat) : Nat → Nat
  | 0 => 0
  | m + 1 => cnt len n m + (if len m = n then 1 else 0)
/-- the first code of length n -/
def frst (len : Nat → Nat) (m : Nat) : Nat → Nat
  | 0 => 0
  | n + 1 => 2 * (frst len m n + (if n = 0 then 0 else cnt len n m))
/-- how many symbols have a code shorter than n -/
def plc (len : Nat → Nat) (m : Nat) : Nat → Nat
  | 0 => 0
  | n + 1 => plc len m n + (if n = 0 then 0 else cnt len n m)
def smk (len : Nat → Nat) (m : Nat) : Nat → Nat
  | 0 => 0
  | n + 1 => smk len m n + (if n = 0 then 0 else cnt len n m * 2 ^ (16 - n))
def krf (len : Nat → Nat) : Nat → Nat
  | 0 => 0
  | m + 1 => krf len m + (if len m = 0 then 0 else 2 ^ (16 - len m))
theorem cnt_le (len : Nat → Nat) (n m : Nat) : cnt len n m ≤ m := by
  induction m with
  | zero => exact Nat.le_refl _
  | succ m ih => unfold cnt; split <;> omega
theorem cnt_mono (len : Nat → Nat) (n : Nat) {a b : Nat} (h : a ≤ b) : cnt len n a ≤ cnt len n b := by
  induction b with
  | zero => rw [Nat.le_zero.mp h]; exact Nat.le_refl _
  | succ b ih =>
    by_cases g : a = b + 1
    · rw [g]; exact Nat.le_refl _
    · have := ih (by omega)
      show _ ≤ cnt len n b + _
      omega
theorem cnt_lt {len : Nat → Nat} {n s m : Nat} (hs : s < m) (hl : len s = n) : cnt len n s < cnt len n m := by
  have h1 : cnt len n (s + 1) ≤ cnt len n m := cnt_mono len n hs
  have h2 : cnt len n (s + 1) = cnt len n s + 1 := by show _ + _ = _; rw [if_pos hl]
  omega
theorem cnt_nth {len : Nat → Nat} {n : Nat} : ∀ {m j : Nat}, j < cnt len n m → ∃ s, s < m ∧ len s = n ∧ cnt len n s = j
  | 0, j, h => absurd h (Nat.not_lt_zero _)
  | m + 1, j, h => by
    have h : j < cnt len n m + (if len m = n then 1 else 0) := h
    by_cases g : j < cnt len n m
    · obtain ⟨s, h1, h2, h3⟩ := cnt_nth g
      exact ⟨s, by omega, h2, h3⟩
    · split at h
      · rename_i hl
        exact ⟨m, by omega, hl, by omega⟩
      · omega
theorem cnt_inj {len : Nat → Nat} {n s t : Nat} (hs : len s = n) (ht : len t = n) (h : cnt len n s = cnt len n t) : s = t := by
  rcases Nat.lt_trichotomy s t with g | g | g
  · have := cnt_lt g hs; omega
  · exact g
  · have := cnt_lt g ht; omega
theorem cnt_congr {len len' : Nat → Nat} {n : Nat} : ∀ {m : Nat}, (∀ s, s < m → len s = len' s) → cnt len n m = cnt len' n m
  | 0, _ => rfl
  | m + 1, h => by
    show cnt len n m + _ = cnt len' n m + _
    rw [cnt_congr (fun s hs => h s (by omega)), h m (by omega)]
theorem frst_congr {len len' : Nat → Nat} {m : Nat} (h : ∀ s, s < m → len s = len' s) : ∀ n, frst len m n = frst len' m n
  | 0 => rfl
  | n + 1 => by
    show 2 * _ = 2 * _
    rw [frst_congr h n, cnt_congr h]
theorem smk_frst (len : Nat → Nat) (m : Nat) : ∀ n, n ≤ 16 → smk len m n = frst len m n * 2 ^ (16 - n)
  | 0, _ => by simp [smk, frst]
  | n + 1, h => by
    have ih := smk_frst len m n (by omega)
    show smk len m n + _ = 2 * _ * _
    rw [ih]
    have e : 2 ^ (16 - n) = 2 * 2 ^ (16 - (n + 1)) := by
      rw [show 16 - n = (16 - (n + 1)) + 1 by omega, Nat.pow_succ, Nat.mul_comm]
    split
    · rename_i g
      subst g
      simp [frst]
    · rw [e]
      generalize 2 ^ (16 - (n + 1)) = u
      rw [Nat.mul_comm 2 (frst len m n + cnt len n m), Nat.mul_assoc, Nat.add_mul]
theorem smk_17 (len : Nat → Nat) (m : Nat) : smk len m 17 = frst len m 16 + cnt len 16 m := by
  show smk len m 16 + _ = _
  rw [smk_frst len m 16 (by omega)]
  simp
theorem smk_succ (len : Nat → Nat) (m : Nat) : ∀ n, smk len (m + 1) n = smk len m n + (if 1 ≤ len m ∧ len m < n then 2 ^ (16 - len m) else 0)
  | 0 => by simp [smk]
  | n + 1 => by
    have ih := smk_succ len m n
    show smk len (m + 1) n + (if n = 0 then 0 else cnt len n (m + 1) * 2 ^ (16 - n)) = smk len m n + (if n = 0 then 0 else cnt len n m * 2 ^ (16 - n)) + _
    rw [ih]
    by_cases h0 : n = 0
    · subst h0
      rw [if_pos rfl, if_pos rfl, if_neg (by omega), if_neg (by omega)]
    · rw [if_neg h0, if_neg h0]
      show _ + (cnt len n m + (if len m = n then 1 else 0)) * _ = _
      by_cases h1 : len m = n
      · rw [if_pos h1, if_neg (by omega), if_pos (by omega), Nat.add_mul, h1]
        omega
      · rw [if_neg h1, Nat.add_zero]
        by_cases h2 : 1 ≤ len m ∧ len m < n
        · rw [if_pos h2, if_pos (by omega)]
          omega
        · rw [if_neg h2, if_neg (by omega)]
          omega
theorem krf_smk (len : Nat → Nat) : ∀ m, (∀ s, s < m → len s ≤ 16) → krf len m = smk len m 17
  | 0, _ => by
    have : ∀ n, smk len 0 n = 0 := by
      intro n
      induction n with
      | zero => rfl
      | succ n ih => show smk len 0 n + _ = 0; rw [ih]; split <;> simp [cnt]
    rw [this]
    rfl
  | m + 1, h => by
    rw [smk_succ, ← krf_smk len m (fun s hs => h s (by omega))]
    show krf len m + _ = _
    have := h m (by omega)
    by_cases g : len m = 0
    · rw [if_pos g, if_neg (by omega)]
    · rw [if_neg g, if_pos (by omega)]
theorem smk_le_krf (len : Nat → Nat) (m : Nat) (h : ∀ s, s < m → len s ≤ 16) (n : Nat) (hn : n ≤ 17) : smk len m n ≤ krf len m := by
  rw [krf_smk len m h]
  have : ∀ k, smk len m (17 - k) ≤ smk len m 17 := by
    intro k
    induction k with
    | zero => exact Nat.le_refl _
    | succ k ih =>
      by_cases g : k < 17
      · have e : 17 - k = (17 - (k + 1)) + 1 := by omega
        rw [e] at ih
        exact Nat.le_trans (Nat.le_add_right _ _) ih
      · rw [show 17 - (k + 1) = 17 - k by omega]; exact ih
  have h1 := this (17 - n)
  rwa [show 17 - (17 - n) = n by omega] at h1
theorem krf_le (len : Nat → Nat) : ∀ m, krf len m ≤ m * 2 ^ 15
  | 0 => Nat.zero_le _
  | m + 1 => by
    have ih := krf_le len m
    show krf len m + _ ≤ _
    have h1 : (if len m = 0 then 0 else 2 ^ (16 - len m)) ≤ 2 ^ 15 := by
      split
      · omega
      · exact Nat.pow_le_pow_right (by omega) (by omega)
    have e : (m + 1) * 2 ^ 15 = m * 2 ^ 15 + 2 ^ 15 := Nat.succ_mul _ _
    omega
theorem plc_le (len : Nat → Nat) (m : Nat) : ∀ n, plc len m n + (if n = 0 then 0 else cnt len n m) ≤ m := by
  intro n
  induction m generalizing n with
  | zero =>
    have : ∀ n, plc len 0 n = 0 := by
      intro n
      induction n with
      | zero => rfl
      | succ n ih => show plc len 0 n + _ = 0; rw [ih]; split <;> simp [cnt]
    rw [this]
    split <;> simp [cnt]
  | succ m ih =>
    have key : ∀ n, plc len (m + 1) n = plc len m n + (if 1 ≤ len m ∧ len m < n then 1 else 0) := by
      intro n
      induction n with
      | zero => simp [plc]
      | succ n ih2 =>
        show plc len (m + 1) n + (if n = 0 then 0 else cnt len n (m + 1)) = plc len m n + (if n = 0 then 0 else cnt len n m) + _
        rw [ih2]
        by_cases h0 : n = 0
        · subst h0
          rw [if_pos rfl, if_pos rfl, if_neg (by omega), if_neg (by omega)]
        · rw [if_neg h0, if_neg h0]
          show _ + (cnt len n m + (if len m = n then 1 else 0)) = _
          by_cases h1 : len m = n
          · rw [if_pos h1, if_neg (by omega), if_pos (by omega)]; omega
          · rw [if_neg h1]
            by_cases h2 : 1 ≤ len m ∧ len m < n
            · rw [if_pos h2, if_pos (by omega)]; omega
            · rw [if_neg h2, if_neg (by omega)]; omega
    have h1 := ih n
    rw [key n]
    by_cases h0 : n = 0
    · subst h0
      simp [plc]
    · rw [if_neg h0] at h1 ⊢
      show _ + (cnt len n m + (if len m = n then 1 else 0)) ≤ _
      by_cases h2 : len m = n
      · rw [if_pos h2, if_neg (by omega)]; omega
      · rw [if_neg h2]
        split <;> omega
theorem plc_lt {len : Nat → Nat} {m n s : Nat} (hn : n ≠ 0) (hs : s < m) (hl : len s = n) : plc len m n + cnt len n s < m := by
  have h1 := plc_le len m n
  rw [if_neg hn] at h1
  have h2 := cnt_lt hs hl
  omega
/-! ===== pure: bits ===== -/
/-- bit k of a row -/
def bt (f : Nat → Int32) (k : Nat) : Nat := (f (k / 8) >>> (nI (7 - k % 8) &&& 31)).toBitVec.toNat % 2
theorem bt_lt (f : Nat → Int32) (k : Nat) : bt f k < 2 := Nat.mod_lt _ (by decide)
/-- the number of n bits from bit k on -/
def num (f : Nat → Int32) (k : Nat) : Nat → Nat
  | 0 => 0
  | n + 1 => 2 * num f k n + bt f (k + n)
theorem num_lt (f : Nat → Int32) (k : Nat) : ∀ n, num f k n < 2 ^ n
  | 0 => Nat.lt_of_sub_pos (by exact Nat.one_pos)
  | n + 1 => by
    have h1 := num_lt f k n
    have h2 := bt_lt f (k + n)
    show 2 * _ + _ < _
    rw [Nat.pow_succ]
    omega
theorem bt_and (f : Nat → Int32) (k : Nat) : (f (k / 8) >>> (nI (7 - k % 8) &&& 31)) &&& nI 1 = nI (bt f k) := pk_and _ (m := nI 1) 1 (by decide +kernel)
theorem nI_or1 {v b : Nat} (hv : 2 * v + 1 < 2 ^ 31) (hb : b < 2) : (nI v <<< (nI 1 &&& 31)) ||| nI b = nI (2 * v + b) := by
  rw [show (nI 1 &&& 31 : Int32) = nI 1 by decide +kernel, pk_shlN (n := v) (nI 1) 1 (by decide +kernel) (by omega)]
  apply Int32.toBitVec_inj.mp
  apply BitVec.eq_of_toNat_eq
  rw [Int32.toBitVec_or, BitVec.toNat_or, pk_tn (by omega), pk_tn (by omega), pk_tn (by omega)]
  rw [Nat.mul_comm v, show 2 * v = 2 ^ 1 * v by rfl]
  exact (Nat.two_pow_add_eq_or_of_lt (i := 1) (by simpa using hb) v).symm
/-- where a code of a tree ends: the first length at which the bits are one -/
def dec (len : Nat → Nat) (m : Nat) (f : Nat → Int32) (k n j : Nat) : Prop := 1 ≤ n ∧ n ≤ 16 ∧ (∀ n', 1 ≤ n' → n' < n → frst len m n' + cnt len n' m ≤ num f k n') ∧ num f k n = frst len m n + j ∧ j < cnt len n m
theorem dec_ge {len : Nat → Nat} {m : Nat} {f : Nat → Int32} {k : Nat} : ∀ {n : Nat}, (∀ n', 1 ≤ n' → n' < n → frst len m n' + cnt len n' m ≤ num f k n') → frst len m n ≤ num f k n
  | 0, _ => Nat.zero_le _
  | 1, _ => Nat.zero_le _
  | n + 2, h => by
    have h1 := h (n + 1) (by omega) (by omega)
    show 2 * (frst len m (n + 1) + (if n + 1 = 0 then 0 else cnt len (n + 1) m)) ≤ 2 * num f k (n + 1) + _
    rw [if_neg (by omega)]
    omega
/-- in a complete tree every row of bits begins with a code -/
theorem dec_ex {len : Nat → Nat} {m : Nat} (hl : ∀ s, s < m → len s ≤ 16) (hk : krf len m = 65536) (f : Nat → Int32) (k : Nat) : ∃ n j, dec len m f k n j := by
  have key : ∀ q n, n + q = 17 → 1 ≤ n → (∀ n', 1 ≤ n' → n' < n → frst len m n' + cnt len n' m ≤ num f k n') → ∃ n j, dec len m f k n j := by
    intro q
    induction q with
    | zero =>
      intro n hn h1 h
      have h2 := h 16 (by omega) (by omega)
      rw [← smk_17, ← krf_smk len m hl, hk] at h2
      have := num_lt f k 16
      omega
    | succ q ih =>
      intro n hn h1 h
      have h2 := dec_ge h
      by_cases g : num f k n < frst len m n + cnt len n m
      · exact ⟨n, num f k n - frst len m n, h1, by omega, h, by omega, by omega⟩
      · refine ih (n + 1) (by omega) (by omega) (fun n' a b => ?_)
        by_cases e : n' = n
        · subst e; omega
        · exact h n' a (by omega)
  exact key 16 1 (by omega) (by omega) (fun n' a b => by omega)

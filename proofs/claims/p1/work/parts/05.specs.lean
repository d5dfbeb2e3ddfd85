def zs_in (v lo hi : Int64) : Int32 := if v < lo then 0 else if hi < v then 0 else 1
theorem zcmp_lt {x y : Int64} : lg_cmp x y < 0 ↔ x < y := by
  unfold lg_cmp
  split
  · next h => exact ⟨fun h2 => absurd h2 (by decide), fun h2 => absurd h2 (Int64.not_lt.mpr (Int64.le_of_lt h))⟩
  · next h =>
    split
    · next h2 => subst h2; exact ⟨fun h3 => absurd h3 (by decide), fun h3 => absurd h3 (Int64.lt_irrefl)⟩
    · next h2 => exact ⟨fun _ => by rw [gt_iff_lt, Int64.lt_iff_toInt_lt] at h; rw [Int64.lt_iff_toInt_lt]; have h5 : x.toInt ≠ y.toInt := fun h4 => h2 (Int64.toInt_inj.mp h4); omega, fun _ => by decide⟩
theorem zcmp_gt {x y : Int64} : 0 < lg_cmp x y ↔ y < x := by
  unfold lg_cmp
  split
  · next h => exact ⟨fun _ => h, fun _ => by decide⟩
  · next h =>
    split
    · next h2 => exact ⟨fun h3 => absurd h3 (by decide), fun h3 => absurd h3 h⟩
    · next h2 => exact ⟨fun h3 => absurd h3 (by decide), fun h3 => absurd h3 h⟩
theorem zin_e {v : Int64} (h : ¬ lg_cmp v 0 < 0) : 0 < lg_cmp v (-1) := by
  rw [zcmp_lt, Int64.lt_iff_toInt_lt] at h
  rw [zcmp_gt, Int64.lt_iff_toInt_lt]
  have e1 : (0 : Int64).toInt = 0 := by decide
  have e2 : (-1 : Int64).toInt = -1 := by decide
  omega
theorem zin_1 {v lo hi : Int64} (c : lg_cmp v lo < 0) : (0 : Int32) = zs_in v lo hi := by
  rw [zs_in, if_pos (zcmp_lt.mp c)]
theorem zin_2 {v lo hi : Int64} (c : ¬ lg_cmp v lo < 0) (c2 : 0 < lg_cmp v hi) : (0 : Int32) = zs_in v lo hi := by
  rw [zs_in, if_neg (fun h => c (zcmp_lt.mpr h)), if_pos (zcmp_gt.mp c2)]
theorem zin_3 {v lo hi : Int64} (c : ¬ lg_cmp v lo < 0) (c2 : ¬ 0 < lg_cmp v hi) : (1 : Int32) = zs_in v lo hi := by
  rw [zs_in, if_neg (fun h => c (zcmp_lt.mpr h)), if_neg (fun h => c2 (zcmp_gt.mpr h))]
theorem zs_in32 (w lo hi : Int32) {a b : Int64} (ha : lo.toInt64 = a) (hb : hi.toInt64 = b) : zs_in w.toInt64 a b = if w < lo then 0 else if hi < w then 0 else 1 := by
  subst ha; subst hb
  simp only [zs_in, Int64.lt_iff_toInt_lt, Int32.lt_iff_toInt_lt, Int32.toInt_toInt64]
def zs_lexeme (w : Int32) : Int32 := if zs_in w.toInt64 0 5 = 0 then -2 else -1
theorem zs_lexeme_eq (w : Int32) : zs_lexeme w = if w < 0 then -2 else if w ≤ 5 then -1 else -2 := by
  rw [zs_lexeme, zs_in32 w 0 5 (by decide) (by decide)]
  by_cases h : w < 0
  · simp [h]
  · by_cases h2 : (5 : Int32) < w
    · simp [h, h2, Int32.not_le.mpr h2]
    · simp [h, h2, Int32.not_lt.mp h2]
def zs_write (w : Int32) : Int32 := if zs_in w.toInt64 0 1 = 0 then -2 else -4
theorem zs_write_eq (w : Int32) : zs_write w = if w = 0 then -4 else if w = 1 then -4 else -2 := by
  rw [zs_write, zs_in32 w 0 1 (by decide) (by decide)]
  by_cases h : w = 0
  · subst h; decide
  · by_cases h2 : w = 1
    · subst h2; decide
    · rw [if_neg h, if_neg h2]
      by_cases h3 : w < 0
      · simp [h3]
      · by_cases h4 : (1 : Int32) < w
        · simp [h3, h4]
        · exfalso
          rw [Int32.lt_iff_toInt_lt] at h3 h4
          have e0 : (0 : Int32).toInt = 0 := by decide
          have e1 : (1 : Int32).toInt = 1 := by decide
          have g0 : w.toInt ≠ 0 := fun q => h (Int32.toInt_inj.mp (q.trans e0.symm))
          have g1 : w.toInt ≠ 1 := fun q => h2 (Int32.toInt_inj.mp (q.trans e1.symm))
          omega
def zs_count (w : Int32) : Int32 := if 0 ≤ w.toInt ∧ w.toInt ≤ 4 then 0 else -2
theorem zs_count_out {w : Int32} (h : w.toInt < 0 ∨ 4 < w.toInt) : (-2 : Int32) = zs_count w := by
  rw [zs_count, if_neg (by omega)]
theorem zsw4 (x : Int32) : x = 0 ∨ x = 1 ∨ x = 2 ∨ x = 3 ∨ x = 4 ∨ (x.toInt < 0 ∨ 4 < x.toInt) := by
  by_cases h : x.toInt < 0 ∨ 4 < x.toInt
  · exact Or.inr (Or.inr (Or.inr (Or.inr (Or.inr h))))
  · have e0 : (0 : Int32).toInt = 0 := by decide
    have e1 : (1 : Int32).toInt = 1 := by decide
    have e2 : (2 : Int32).toInt = 2 := by decide
    have e3 : (3 : Int32).toInt = 3 := by decide
    have e4 : (4 : Int32).toInt = 4 := by decide
    rcases (show x.toInt = 0 ∨ x.toInt = 1 ∨ x.toInt = 2 ∨ x.toInt = 3 ∨ x.toInt = 4 by omega) with h | h | h | h | h
    · exact Or.inl (Int32.toInt_inj.mp (h.trans e0.symm))
    · exact Or.inr (Or.inl (Int32.toInt_inj.mp (h.trans e1.symm)))
    · exact Or.inr (Or.inr (Or.inl (Int32.toInt_inj.mp (h.trans e2.symm))))
    · exact Or.inr (Or.inr (Or.inr (Or.inl (Int32.toInt_inj.mp (h.trans e3.symm)))))
    · exact Or.inr (Or.inr (Or.inr (Or.inr (Or.inl (Int32.toInt_inj.mp (h.trans e4.symm))))))
def zs_type (w : Int32) : Int32 := if zs_in w.toInt64 0 16 = 0 then -2 else w
theorem zs_type_eq (w : Int32) : zs_type w = if w < 0 then -2 else if w ≤ 16 then w else -2 := by
  rw [zs_type, zs_in32 w 0 16 (by decide) (by decide)]
  by_cases h : w < 0
  · simp [h]
  · by_cases h2 : (16 : Int32) < w
    · simp [h, h2, Int32.not_le.mpr h2]
    · simp [h, h2, Int32.not_lt.mp h2]
def zs_space (b w : Int32) : Int32 := if zs_in w.toInt64 0 80 = 0 then -2 else b + w
theorem zs_space_eq (b w : Int32) : zs_space b w = if w < 0 then -2 else if w ≤ 80 then b + w else -2 := by
  rw [zs_space, zs_in32 w 0 80 (by decide) (by decide)]
  by_cases h : w < 0
  · simp [h]
  · by_cases h2 : (80 : Int32) < w
    · simp [h, h2, Int32.not_le.mpr h2]
    · simp [h, h2, Int32.not_lt.mp h2]
theorem zbd {w hi : Int32} {b : Int64} (hb : hi.toInt64 = b) (h : ¬ zs_in w.toInt64 0 b = 0) : 0 ≤ w.toInt ∧ w.toInt ≤ hi.toInt := by
  rw [zs_in32 w 0 hi (by decide) hb] at h
  by_cases h1 : w < 0
  · rw [if_pos h1] at h; exact absurd rfl h
  · rw [if_neg h1] at h
    by_cases h2 : hi < w
    · rw [if_pos h2] at h; exact absurd rfl h
    · rw [Int32.lt_iff_toInt_lt] at h1 h2
      have e0 : (0 : Int32).toInt = 0 := by decide
      omega
theorem zbc {w hi : Int32} (h1 : ¬ w < 0) (h2 : w ≤ hi) : 0 ≤ w.toInt ∧ w.toInt ≤ hi.toInt := by
  rw [Int32.lt_iff_toInt_lt] at h1
  rw [Int32.le_iff_toInt_le] at h2
  have e0 : (0 : Int32).toInt = 0 := by decide
  omega
theorem zadd {a b : Int32} (h1 : 0 ≤ a.toInt) (h2 : a.toInt ≤ 3000) (h3 : 0 ≤ b.toInt) (h4 : b.toInt ≤ 3000) : (a + b).toInt = a.toInt + b.toInt := by
  rw [Int32.toInt_add, Int.bmod_eq_of_le] <;> omega
theorem z1 : (1 : Int32).toInt = 1 := by decide
theorem z0 : (0 : Int32).toInt = 0 := by decide
theorem zsuc {x : Int32} (h1 : 0 ≤ x.toInt) (h2 : x.toInt ≤ 3000) : (x + 1).toInt = x.toInt + 1 := by
  rw [zadd h1 h2 (by decide) (by decide), z1]
theorem zinb {x : Int32} (h1 : 0 ≤ x.toInt) (h2 : x.toInt ≤ 2999) : vp_in x 3000 := vp_in_iff.mpr ⟨h1, by omega⟩
theorem zn3 {x : Int32} (h2 : x.toInt ≤ 2999) : ¬ (3000 : Int32) ≤ x := fun h => by
  rw [Int32.le_iff_toInt_le] at h
  have e : (3000 : Int32).toInt = 3000 := by decide
  omega
theorem zn4 {x : Int32} (h2 : x.toInt ≤ 3000) : ¬ (3000 : Int32) < x := fun h => by
  rw [Int32.lt_iff_toInt_lt] at h
  have e : (3000 : Int32).toInt = 3000 := by decide
  omega
theorem zn5 {x : Int32} (h2 : x.toInt ≤ 3000) : x ≤ (3000 : Int32) := Int32.not_lt.mp (zn4 h2)
theorem zge {x n : Int32} (h : x.toInt + (0 : Nat) = n.toInt) : n ≤ x := Int32.le_iff_toInt_le.mpr (by omega)
theorem znge {x n : Int32} {k : Nat} (h : x.toInt + (k + 1 : Nat) = n.toInt) : ¬ n ≤ x := fun h2 => by
  rw [Int32.le_iff_toInt_le] at h2
  omega
theorem zeq {x n : Int32} (h : x.toInt + (0 : Nat) = n.toInt) : x = n := Int32.toInt_inj.mp (by omega)

/-! THE PURE SIDE: a plant's half hour, on values read off the world -/
def kI (k : Nat) : Int32 := Int32.ofNat k
theorem kI_succ (k : Nat) : kI k + 1 = kI (k + 1) := (Int32.ofNat_add k 1).symm
theorem kI_int {k : Nat} (h : k < 2147483648) : (kI k).toInt = k := Int32.toInt_ofNat_of_lt h
theorem kI_nat {k : Nat} (h : k < 2147483648) : (kI k).toNatClampNeg = k := Int32.toNatClampNeg_ofNat_of_lt h
theorem kI_of {x : Int32} {k : Nat} (h : x.toInt = k) : x = kI k := by
  apply Int32.toInt_inj.mp
  rw [kI_int (by have := Int32.toInt_lt x; omega), h]
theorem kI_3 (k w : Nat) : 3 * kI k + kI w = kI (3 * k + w) := by
  unfold kI
  rw [show (3 : Int32) = Int32.ofNat 3 from rfl, ← Int32.ofNat_mul, ← Int32.ofNat_add]
theorem kI_12 (k : Nat) : 12 + kI k = kI (12 + k) := by
  unfold kI
  rw [show (12 : Int32) = Int32.ofNat 12 from rfl, ← Int32.ofNat_add]
theorem kI_48 (k s : Nat) : 48 * kI k + kI s = kI (48 * k + s) := by
  unfold kI
  rw [show (48 : Int32) = Int32.ofNat 48 from rfl, ← Int32.ofNat_mul, ← Int32.ofNat_add]
theorem j_add {a b : Int32} (h0 : -2147483648 ≤ a.toInt + b.toInt) (h1 : a.toInt + b.toInt < 2147483648) : (a + b).toInt = a.toInt + b.toInt := by
  rw [Int32.toInt_add, Int.bmod_def]; omega
theorem j_sub {a b : Int32} (h0 : -2147483648 ≤ a.toInt - b.toInt) (h1 : a.toInt - b.toInt < 2147483648) : (a - b).toInt = a.toInt - b.toInt := by
  rw [Int32.toInt_sub, Int.bmod_def]; omega
theorem j_mul {a b : Int32} {lo hi : Int} (h0 : lo ≤ a.toInt * b.toInt ∧ a.toInt * b.toInt ≤ hi) (hl : -2147483648 ≤ lo) (hh : hi < 2147483648) : (a * b).toInt = a.toInt * b.toInt := by
  rw [Int32.toInt_mul, Int.bmod_def]; omega
theorem t_np {a b : Int} (h : a ≤ 0) (k : 0 ≤ b) : a.tdiv b ≤ 0 := by
  have := Int.tdiv_nonneg (a := -a) (b := b) (by omega) k
  rw [Int.neg_tdiv] at this
  omega
theorem j_div {a b : Int32} (h : 0 < b.toInt) : (a / b).toInt = a.toInt.tdiv b.toInt := by
  rw [Int32.toInt_div, Int.bmod_def]
  have h1 := Int32.le_toInt a
  have h2 := Int32.toInt_lt a
  have h3 : (a.toInt.tdiv b.toInt).natAbs ≤ a.toInt.natAbs := by
    rw [Int.natAbs_tdiv]; exact Nat.div_le_self _ _
  have h4 : 0 ≤ a.toInt → 0 ≤ a.toInt.tdiv b.toInt := fun h0 => Int.tdiv_nonneg h0 (by omega)
  have h5 : a.toInt ≤ 0 → a.toInt.tdiv b.toInt ≤ 0 := fun h0 => t_np h0 (by omega)
  omega
/-- a number within bounds -/
def bd (lo hi : Int) (x : Int32) : Prop := lo ≤ x.toInt ∧ x.toInt ≤ hi
theorem bd_k {lo hi : Int} {x : Int32} (n : Int) (h : x.toInt = n) (h0 : lo ≤ n) (h1 : n ≤ hi) : bd lo hi x := ⟨by omega, by omega⟩
theorem bd.mono {lo hi lo' hi' : Int} {x : Int32} (h : bd lo hi x) (h0 : lo' ≤ lo) (h1 : hi ≤ hi') : bd lo' hi' x := ⟨by have := h.1; omega, by have := h.2; omega⟩
theorem bd_add {a b c d : Int} {x y : Int32} (h : bd a b x) (k : bd c d y) (h0 : -2147483648 ≤ a + c) (h1 : b + d < 2147483648) : bd (a + c) (b + d) (x + y) ∧ (x + y).toInt = x.toInt + y.toInt := by
  have e := j_add (a := x) (b := y) (by have := h.1; have := k.1; omega) (by have := h.2; have := k.2; omega)
  exact ⟨⟨by rw [e]; have := h.1; have := k.1; omega, by rw [e]; have := h.2; have := k.2; omega⟩, e⟩
theorem bd_sub {a b c d : Int} {x y : Int32} (h : bd a b x) (k : bd c d y) (h0 : -2147483648 ≤ a - d) (h1 : b - c < 2147483648) : bd (a - d) (b - c) (x - y) ∧ (x - y).toInt = x.toInt - y.toInt := by
  have e := j_sub (a := x) (b := y) (by have := h.1; have := k.2; omega) (by have := h.2; have := k.1; omega)
  exact ⟨⟨by rw [e]; have := h.1; have := k.2; omega, by rw [e]; have := h.2; have := k.1; omega⟩, e⟩
theorem bd_mul {b d : Int} {x y : Int32} (h : bd 0 b x) (k : bd 0 d y) (h1 : b * d < 2147483648) : bd 0 (b * d) (x * y) ∧ (x * y).toInt = x.toInt * y.toInt := by
  have h3 : 0 ≤ x.toInt * y.toInt := Int.mul_nonneg h.1 k.1
  have h4 : x.toInt * y.toInt ≤ b * d := Int.mul_le_mul h.2 k.2 k.1 (by have := h.1; have := h.2; omega)
  have e := j_mul (a := x) (b := y) (lo := 0) (hi := b * d) ⟨h3, h4⟩ (by omega) h1
  exact ⟨⟨by rw [e]; exact h3, by rw [e]; exact h4⟩, e⟩
theorem bd_mulN {b d : Int} {x y : Int32} (h : bd 0 b x) (k : bd d 0 y) (h1 : -2147483648 ≤ b * d) : bd (b * d) 0 (x * y) ∧ (x * y).toInt = x.toInt * y.toInt := by
  have h3 : 0 ≤ x.toInt * (-y.toInt) := Int.mul_nonneg h.1 (by have := k.2; omega)
  have h4 : x.toInt * (-y.toInt) ≤ b * (-d) := Int.mul_le_mul h.2 (by have := k.1; omega) (by have := k.2; omega) (by have := h.1; have := h.2; omega)
  rw [Int.mul_neg] at h3 h4
  rw [Int.mul_neg] at h4
  have e := j_mul (a := x) (b := y) (lo := b * d) (hi := 0) ⟨by omega, by omega⟩ h1 (by omega)
  exact ⟨⟨by rw [e]; omega, by rw [e]; omega⟩, e⟩
theorem bd_div {b d : Int} {x y : Int32} (h : bd 0 b x) (k : 0 < d ∧ d ≤ y.toInt) : bd 0 (b / d) (x / y) := by
  have e := j_div (a := x) (b := y) (by omega)
  have h1 : x.toInt.tdiv y.toInt = x.toInt / y.toInt := Int.tdiv_eq_ediv_of_nonneg h.1
  refine ⟨by rw [e, h1]; exact Int.ediv_nonneg h.1 (by omega), ?_⟩
  rw [e, h1]
  have h2 : x.toInt / y.toInt ≤ x.toInt / d := by
    apply Int.le_ediv_of_mul_le k.1
    have h5 := Int.ediv_mul_le x.toInt (b := y.toInt) (by omega)
    have h6 : x.toInt / y.toInt * d ≤ x.toInt / y.toInt * y.toInt := Int.mul_le_mul_of_nonneg_left k.2 (Int.ediv_nonneg h.1 (by omega))
    omega
  have h3 : x.toInt / d ≤ b / d := Int.ediv_le_ediv k.1 h.2
  omega
theorem bd_divN {b : Int} {x y : Int32} (h : bd b 0 x) (k : 0 < y.toInt) : (x / y).toInt ≤ 0 := by
  rw [j_div k]
  exact t_np h.2 (by omega)
/-- settings: 0 counts and rates, 1 areas, 2 pressures, 3 capacities, 4 demands, 5 prices; rows: 0 fouling, 1 wear, 2 left, 3 levels -/
abbrev Vw := Nat → Nat → Int32
def cS (σ : Sg) : Vw
  | 0, j => if j < 4 then rI σ 1 (5 + j) else 0
  | 1, j => if j < 4 then rI σ 2 j else 0
  | 2, j => if j < 4 then rI σ 3 j else 0
  | 3, j => if j < 3 then rI σ 4 j else 0
  | 4, j => if j < 144 then rI σ (6 + j / 48) (j % 48) else 0
  | 5, j => if j < 48 then rI σ 9 j else 0
  | _, _ => 0
def mS (σ : Sg) : Vw
  | 0, 0 => rI σ 19 4
  | 0, 1 => rI σ 19 8
  | 0, 2 => rI σ 19 10
  | 0, 3 => rI σ 19 11
  | 1, j => if j < 4 then rI σ 22 j else 0
  | 2, j => if j < 4 then rI σ 23 j else 0
  | 3, j => if j < 3 then rI σ 24 j else 0
  | 4, j => if j < 144 then rI σ 25 j else 0
  | 5, j => if j < 48 then rI σ 27 j else 0
  | _, _ => 0
def cR (r : Nat) (σ : Sg) : Vw
  | 0, j => if j < 4 then rI σ (sid r + 1) j else 0
  | 1, j => if j < 4 then rI σ (sid r + 2) j else 0
  | 2, j => if j < 4 then rI σ (sid r + 3) j else 0
  | 3, j => if j < 3 then rI σ (sid r + 4) j else 0
  | _, _ => 0
def mR (σ : Sg) : Vw
  | 0, j => if j < 4 then rI σ 20 (3 * j) else 0
  | 1, j => if j < 4 then rI σ 20 (3 * j + 1) else 0
  | 2, j => if j < 4 then rI σ 20 (3 * j + 2) else 0
  | 3, j => if j < 3 then rI σ 20 (12 + j) else 0
  | _, _ => 0
def ps (f : Nat → Int32) : Nat → Int32
  | 0 => 0
  | k + 1 => ps f k + f k
/-- what a train makes, takes, needs -/
def pG (S : Vw) (f : Int32) (j : Nat) : Int32 := if S 0 2 ≤ S 2 j then S 1 j * (S 2 j - S 0 2) * (100 - f) / 500 else 0
def pK (S : Vw) (g : Int32) : Int32 := (g * 100 + S 0 3 - 1) / S 0 3
def pE (S : Vw) (k : Int32) (j : Nat) : Int32 := (k * S 2 j + 19) / 20
def pF (S : Vw) (j : Nat) : Int32 := if 45 < S 2 j then (if 55 < S 2 j then 3 else 2) else 1
/-- settings and rows within the document's bounds -/
def BS (S : Vw) : Prop := bd 0 4 (S 0 0) ∧ bd 0 3 (S 0 1) ∧ bd 20 35 (S 0 2) ∧ bd 30 60 (S 0 3) ∧ ∀ j, bd 0 20 (S 1 j) ∧ bd 0 70 (S 2 j) ∧ bd 0 2000 (S 3 j) ∧ bd 0 200 (S 4 j) ∧ bd 0 99 (S 5 j)
def BR (S w : Vw) : Prop := ∀ j, bd 0 90 (w 0 j) ∧ bd 0 20 (w 1 j) ∧ bd 0 6 (w 2 j) ∧ (0 ≤ (w 3 j).toInt ∧ (w 3 j).toInt ≤ (S 3 j).toInt) ∧ ((S 0 1).toInt ≤ j → w 3 j = 0)
theorem pG_b {S : Vw} {f : Int32} {j : Nat} (h : BS S) (hf : bd 0 90 f) : bd 0 200 (pG S f j) := by
  unfold pG
  split
  · rename_i hc
    rw [i_le] at hc
    have h1 := bd_sub (h.2.2.2.2 j).2.1 h.2.2.1 (by decide) (by decide)
    have h2 : bd 0 50 (S 2 j - S 0 2) := ⟨by rw [h1.2]; omega, h1.1.2⟩
    have h3 := bd_mul (h.2.2.2.2 j).1 h2 (by decide)
    have h4 := bd_sub (x := 100) (bd_k 100 rfl (by decide) (by decide) : bd 100 100 _) hf (by decide) (by decide)
    have h5 := bd_mul h3.1 (h4.1.mono (lo' := 0) (hi' := 100) (by decide) (by decide)) (by decide)
    exact (bd_div (d := 500) h5.1 ⟨by decide, by decide⟩).mono (by decide) (by decide)
  · exact bd_k 0 rfl (by decide) (by decide)
theorem pK_b {S : Vw} {g : Int32} (h : BS S) (hg : bd 0 200 g) : bd 0 668 (pK S g) := by
  unfold pK
  have h1 := bd_mul (y := 100) hg (bd_k 100 rfl (by decide) (by decide) : bd 0 100 _) (by decide)
  have h2 := bd_add h1.1 h.2.2.2.1 (by decide) (by decide)
  have h3 := bd_sub (y := 1) h2.1 (bd_k 1 rfl (by decide) (by decide) : bd 1 1 _) (by decide) (by decide)
  exact (bd_div (d := 30) (h3.1.mono (lo' := 0) (by decide) (Int.le_refl _)) ⟨by decide, h.2.2.2.1.1⟩).mono (by decide) (by decide)
theorem pE_b {S : Vw} {k : Int32} {j : Nat} (h : BS S) (hk : bd 0 668 k) : bd 0 2339 (pE S k j) := by
  unfold pE
  have h1 := bd_mul hk (h.2.2.2.2 j).2.1 (by decide)
  have h2 := bd_add (y := 19) h1.1 (bd_k 19 rfl (by decide) (by decide) : bd 19 19 _) (by decide) (by decide)
  exact (bd_div (d := 20) (h2.1.mono (lo' := 0) (by decide) (Int.le_refl _)) ⟨by decide, by decide⟩).mono (by decide) (by decide)

def pz (f : Nat → Int) : Nat → Int
  | 0 => 0
  | k + 1 => pz f k + f k
theorem pz_0 (f : Nat → Int) : pz f 0 = 0 := rfl
theorem ps_b {f : Nat → Int32} {B : Int} (hB : 0 ≤ B ∧ B ≤ 100000) (hf : ∀ j, bd 0 B (f j)) : ∀ n : Nat, n ≤ 4 → bd 0 (n * B) (ps f n) ∧ (ps f n).toInt = pz (fun j => (f j).toInt) n
  | 0, _ => ⟨bd_k 0 rfl (by omega) (by omega), rfl⟩
  | n + 1, hn => by
    have h1 := ps_b hB hf n (by omega)
    have h3 : (n : Int) * B ≤ 3 * 100000 := Int.mul_le_mul (by omega) hB.2 hB.1 (by omega)
    have h2 := bd_add h1.1 (hf n) (by decide) (by omega)
    have h4 : (n : Int) * B + B = ((n + 1 : Nat) : Int) * B := by rw [Int.natCast_add, Int.add_mul]; omega
    rw [h4] at h2
    exact ⟨h2.1.mono (by omega) (Int.le_refl _), by rw [ps, h2.2, h1.2]; rfl⟩
theorem bd_0 {lo hi : Int} (h0 : lo ≤ 0) (h1 : 0 ≤ hi) : bd lo hi 0 := bd_k 0 rfl h0 h1
theorem tM_b {S w : Vw} {on : Int32} (hB : BS S) (hw : BR S w) (j : Nat) : bd 0 200 (tM S w on j) := by
  unfold tM; split
  · split
    · exact bd_0 (by decide) (by decide)
    · exact pG_b hB (hw j).1
  · exact bd_0 (by decide) (by decide)
theorem tK_b {S w : Vw} {on : Int32} (hB : BS S) (hw : BR S w) (j : Nat) : bd 0 668 (tK S w on j) := by
  unfold tK; split
  · split
    · exact bd_0 (by decide) (by decide)
    · exact pK_b hB (pG_b hB (hw j).1)
  · exact bd_0 (by decide) (by decide)
theorem tE_b {S w : Vw} {on : Int32} (hB : BS S) (hw : BR S w) (j : Nat) : bd 0 2339 (tE S w on j) := by
  unfold tE; split
  · split
    · exact bd_0 (by decide) (by decide)
    · exact pE_b hB (pK_b hB (pG_b hB (hw j).1))
  · exact bd_0 (by decide) (by decide)
theorem nB {n : Nat} {B : Int} (h : n ≤ 4) (hB : 0 ≤ B) : (n : Int) * B ≤ 4 * B := Int.mul_le_mul_of_nonneg_right (by omega) hB
theorem hP_b {S w : Vw} {on : Int32} (hB : BS S) (hw : BR S w) : bd 0 800 (hP S w on) := (ps_b (B := 200) (by decide) (tM_b hB hw) _ (nT_i hB).2).1.mono (by decide) (nB (nT_i hB).2 (by decide))
theorem hK_b {S w : Vw} {on : Int32} (hB : BS S) (hw : BR S w) : bd 0 2672 (hK S w on) := (ps_b (B := 668) (by decide) (tK_b hB hw) _ (nT_i hB).2).1.mono (by decide) (nB (nT_i hB).2 (by decide))
theorem hE_b {S w : Vw} {on : Int32} (hB : BS S) (hw : BR S w) : bd 0 9356 (hE S w on) := (ps_b (B := 2339) (by decide) (tE_b hB hw) _ (nT_i hB).2).1.mono (by decide) (nB (nT_i hB).2 (by decide))
/-- what the half hour costs -/
theorem cost_b {S w : Vw} {on : Int32} {s : Nat} (hB : BS S) (hw : BR S w) : bd 0 1000000 (hE S w on * S 5 s) := (bd_mul (hE_b hB hw) (hB.2.2.2.2 s).2.2.2.2 (by decide)).1.mono (by decide) (by decide)
theorem hB_i' {S w : Vw} {on : Int32} (hB : BS S) (hw : BR S w) : ∀ n : Nat, n ≤ 4 → (ps (fun j => tK S w on j - tM S w on j) n).toInt = (ps (tK S w on) n).toInt - (ps (tM S w on) n).toInt
  | 0, _ => rfl
  | n + 1, hn => by
    have h1 := hB_i' (on := on) hB hw n (by omega)
    have h2 := (ps_b (B := 200) (by decide) (tM_b (on := on) hB hw) n (by omega)).1
    have h3 := (ps_b (B := 668) (by decide) (tK_b (on := on) hB hw) n (by omega)).1
    have h4 := tM_b (on := on) hB hw n
    have h5 := tK_b (on := on) hB hw n
    have h6 : (n : Int) * 200 ≤ 800 := by omega
    have h7 : (n : Int) * 668 ≤ 2672 := by omega
    unfold bd at h2 h3 h4 h5
    have e1 := j_sub (a := tK S w on n) (b := tM S w on n) (by omega) (by omega)
    have e2 := j_add (a := ps (fun j => tK S w on j - tM S w on j) n) (b := tK S w on n - tM S w on n) (by omega) (by omega)
    have e3 := j_add (a := ps (tK S w on) n) (b := tK S w on n) (by omega) (by omega)
    have e4 := j_add (a := ps (tM S w on) n) (b := tM S w on n) (by omega) (by omega)
    rw [ps, ps, ps, e2, e3, e4, e1]
    omega
theorem hB_i {S w : Vw} {on : Int32} (hB : BS S) (hw : BR S w) : (hB_ S w on).toInt = (hK S w on).toInt - (hP S w on).toInt := hB_i' hB hw _ (nT_i hB).2
theorem cap_b {S w : Vw} (hB : BS S) (hw : BR S w) (k : Nat) : (S 3 k - w 3 k).toInt = (S 3 k).toInt - (w 3 k).toInt ∧ 0 ≤ (w 3 k).toInt ∧ (w 3 k).toInt ≤ (S 3 k).toInt ∧ (S 3 k).toInt ≤ 2000 := by
  have h1 := (hB.2.2.2.2 k).2.2.1
  have h2 := (hw k).2.2.2.1
  unfold bd at h1
  exact ⟨j_sub (by omega) (by omega), h2.1, h2.2, h1.2⟩
theorem po_b {S w : Vw} {on : Int32} (hB : BS S) (hw : BR S w) (k : Nat) (hr : bd 0 800 (rs S w on k)) : 0 ≤ (po S w on k).toInt ∧ (po S w on k).toInt ≤ (S 3 k).toInt - (w 3 k).toInt ∧ (po S w on k).toInt ≤ (rs S w on k).toInt := by
  have h := cap_b hB hw k
  unfold bd at hr
  unfold po
  split
  · rename_i c
    rw [i_lt] at c
    omega
  · rename_i c
    rw [i_lt] at c
    omega
theorem rs_b {S w : Vw} {on : Int32} (hB : BS S) (hw : BR S w) : ∀ k, bd 0 800 (rs S w on k)
  | 0 => hP_b hB hw
  | k + 1 => by
    have h1 := rs_b (on := on) hB hw k
    have h2 := po_b hB hw k h1
    have e : rs S w on (k + 1) = rs S w on k - po S w on k := rfl
    unfold bd at h1
    have e2 := j_sub (a := rs S w on k) (b := po S w on k) (by omega) (by omega)
    unfold bd
    rw [e, e2]
    omega
theorem rs_s {S w : Vw} {on : Int32} (hB : BS S) (hw : BR S w) (k : Nat) : (rs S w on (k + 1)).toInt = (rs S w on k).toInt - (po S w on k).toInt := by
  have h1 := rs_b (on := on) hB hw k
  have h2 := po_b hB hw k h1
  have e : rs S w on (k + 1) = rs S w on k - po S w on k := rfl
  unfold bd at h1
  rw [e, j_sub (by omega) (by omega)]
theorem l1_b {S w : Vw} {on : Int32} (hB : BS S) (hw : BR S w) (k : Nat) : (l1 S w on k).toInt = (w 3 k).toInt + (po S w on k).toInt ∧ 0 ≤ (l1 S w on k).toInt ∧ (l1 S w on k).toInt ≤ (S 3 k).toInt ∧ (l1 S w on k).toInt ≤ 2000 := by
  have h1 := rs_b (on := on) hB hw k
  have h2 := po_b hB hw k h1
  have h3 := cap_b hB hw k
  have e : (l1 S w on k).toInt = (w 3 k).toInt + (po S w on k).toInt := j_add (by omega) (by omega)
  exact ⟨e, by omega, by omega, by omega⟩
theorem gv_b {S w : Vw} {on : Int32} {s : Nat} (hB : BS S) (hw : BR S w) (k : Nat) : bd 0 200 (gv S w on s k) ∧ bd 0 200 (wa S s k) ∧ (gv S w on s k).toInt ≤ (l1 S w on k).toInt ∧ (gv S w on s k).toInt ≤ (wa S s k).toInt := by
  have h1 := l1_b (on := on) hB hw k
  have h2 : bd 0 200 (wa S s k) := (hB.2.2.2.2 _).2.2.2.1
  have h3 := h2
  unfold bd at h3 ⊢
  unfold gv
  split
  · rename_i c; rw [i_lt] at c; omega
  · rename_i c; rw [i_lt] at c; omega
theorem l2_b {S w : Vw} {on : Int32} {s : Nat} (hB : BS S) (hw : BR S w) (k : Nat) : (l2 S w on s k).toInt = (l1 S w on k).toInt - (gv S w on s k).toInt ∧ 0 ≤ (l2 S w on s k).toInt ∧ (l2 S w on s k).toInt ≤ (S 3 k).toInt := by
  have h1 := l1_b (on := on) hB hw k
  have h2 := gv_b (on := on) (s := s) hB hw k
  have h3 := h2.1
  unfold bd at h3
  have e : (l2 S w on s k).toInt = (l1 S w on k).toInt - (gv S w on s k).toInt := j_sub (by omega) (by omega)
  exact ⟨e, by omega, by omega⟩
theorem mi_b {S w : Vw} {on : Int32} {s : Nat} (hB : BS S) (hw : BR S w) (k : Nat) : (mi S w on s k).toInt = (wa S s k).toInt - (gv S w on s k).toInt := by
  have h2 := gv_b (on := on) (s := s) hB hw k
  have h3 := h2.1
  have h4 := h2.2.1
  unfold bd at h3 h4
  exact j_sub (by omega) (by omega)
theorem hG_i {S w : Vw} {on : Int32} {s : Nat} (hB : BS S) (hw : BR S w) : (hG S w on s).toInt = pz (fun k => (gv S w on s k).toInt) (nK S) ∧ bd 0 800 (hG S w on s) := by
  have h := ps_b (B := 200) (by decide) (fun k => (gv_b (on := on) (s := s) hB hw k).1) (nK S) (by have := (nK_i hB).2; omega)
  exact ⟨h.2, h.1.mono (by decide) (nB (by have := (nK_i hB).2; omega) (by decide))⟩
theorem hD_i {S w : Vw} {s : Nat} (hB : BS S) (hw : BR S w) : (hD S s).toInt = pz (fun k => (wa S s k).toInt) (nK S) ∧ bd 0 800 (hD S s) := by
  have h := ps_b (B := 200) (by decide) (fun k => (gv_b (on := 0) (s := s) hB hw k).2.1) (nK S) (by have := (nK_i hB).2; omega)
  exact ⟨h.2, h.1.mono (by decide) (nB (by have := (nK_i hB).2; omega) (by decide))⟩
/-- no water is lost -/
theorem keep {S w : Vw} {on : Int32} {s : Nat} (hB : BS S) (hw : BR S w) : ∀ n, pz (fun k => (l2 S w on s k).toInt) n = pz (fun k => (w 3 k).toInt) n + ((hP S w on).toInt - (rs S w on n).toInt) - pz (fun k => (gv S w on s k).toInt) n
  | 0 => by
    show (0 : Int) = 0 + ((hP S w on).toInt - (hP S w on).toInt) - 0
    omega
  | n + 1 => by
    have h1 := keep (on := on) (s := s) hB hw n
    have h2 := (l2_b (on := on) (s := s) hB hw n).1
    have h3 := (l1_b (on := on) hB hw n).1
    have h4 := rs_s (on := on) hB hw n
    rw [pz, pz, pz, h1, h4]
    omega
theorem al_iff {S w : Vw} {on : Int32} {s : Nat} (hB : BS S) (hw : BR S w) : ∀ n, pz (fun k => (gv S w on s k).toInt) n ≤ pz (fun k => (wa S s k).toInt) n ∧ (al S w on s n = 0 ↔ ¬ pz (fun k => (gv S w on s k).toInt) n = pz (fun k => (wa S s k).toInt) n)
  | 0 => by
    rw [pz_0, pz_0, al]
    exact ⟨by decide, fun h => absurd h (by decide), fun h => absurd rfl h⟩
  | n + 1 => by
    have h1 := al_iff (on := on) (s := s) hB hw n
    have h2 := (gv_b (on := on) (s := s) hB hw n).2.2.2
    rw [pz, pz, al]
    refine ⟨by omega, ?_⟩
    by_cases c : al S w on s n = 0
    · rw [if_pos c]
      have h3 := h1.2.mp c
      exact ⟨fun _ => by omega, fun _ => rfl⟩
    · rw [if_neg c]
      have h3 : pz (fun k => (gv S w on s k).toInt) n = pz (fun k => (wa S s k).toInt) n := Classical.byContradiction fun q => c (h1.2.mpr q)
      by_cases c2 : gv S w on s n = wa S s n
      · rw [if_pos c2, c2]
        exact ⟨fun h => absurd h (by decide), fun h => absurd (by omega) h⟩
      · rw [if_neg c2]
        refine ⟨fun _ => ?_, fun _ => rfl⟩
        have : (gv S w on s n).toInt ≠ (wa S s n).toInt := fun q => c2 (Int32.toInt_inj.mp q)
        omega
theorem lack_iff {S w : Vw} {on : Int32} {s : Nat} (hB : BS S) (hw : BR S w) : hD S s - hG S w on s = 0 ↔ ¬ al S w on s (nK S) = 0 := by
  have h1 := al_iff (on := on) (s := s) hB hw (nK S)
  have h2 := hG_i (on := on) (s := s) hB hw
  have h3 := hD_i (s := s) hB hw
  have h4 := h2.2
  have h5 := h3.2
  unfold bd at h4 h5
  have e := j_sub (a := hD S s) (b := hG S w on s) (by omega) (by omega)
  rw [h1.2, ← h2.1, ← h3.1]
  constructor
  · intro h
    rw [h] at e
    have h0 : (0 : Int32).toInt = 0 := rfl
    omega
  · intro h
    apply Int32.toInt_inj.mp
    have h0 : (0 : Int32).toInt = 0 := rfl
    omega
theorem tF_b {S w : Vw} {on : Int32} (hw : BR S w) (j : Nat) : bd 0 90 (tF S w on j) := by
  have h := hw j
  unfold tF
  split
  · split
    · exact h.1
    · have h1 : bd 1 3 (pF S j) := by
        unfold pF
        split
        · split <;> exact ⟨by decide, by decide⟩
        · exact ⟨by decide, by decide⟩
      have h2 := bd_add h.1 h1 (by decide) (by decide)
      split
      · rename_i c
        rw [i_lt] at c
        have h0 : (90 : Int32).toInt = 90 := rfl
        exact ⟨by have := h2.1.1; omega, by omega⟩
      · exact bd_k 90 rfl (by decide) (by decide)
  · split
    · have h1 := bd_div (y := 4) (d := 4) h.1 ⟨by decide, by decide⟩
      exact (bd_add h1 h.2.1 (by decide) (by decide)).1.mono (by decide) (by decide)
    · exact h.1
theorem tW_b {S w : Vw} (hw : BR S w) (j : Nat) : bd 0 20 (tW w j) := by
  have h := hw j
  unfold tW
  split
  · exact h.2.1
  · split
    · have h2 := bd_add (y := 1) h.2.1 (bd_k 1 rfl (by decide) (by decide) : bd 1 1 _) (by decide) (by decide)
      split
      · rename_i c
        rw [i_lt] at c
        have h0 : (20 : Int32).toInt = 20 := rfl
        exact ⟨by have := h2.1.1; omega, by omega⟩
      · exact bd_k 20 rfl (by decide) (by decide)
    · exact h.2.1
theorem tL_b {S w : Vw} (hw : BR S w) (j : Nat) : bd 0 6 (tL w j) := by
  have h := hw j
  unfold tL
  split
  · exact h.2.2.1
  · rename_i c
    have h2 := bd_sub (y := 1) h.2.2.1 (bd_k 1 rfl (by decide) (by decide) : bd 1 1 _) (by decide) (by decide)
    have h3 := i_nle0 c
    have h4 : (1 : Int32).toInt = 1 := rfl
    have h5 := h.2.2.1.2
    refine ⟨by rw [h2.2]; omega, by rw [h2.2]; omega⟩
theorem nx_b {S w : Vw} {on : Int32} {s : Nat} (hB : BS S) (hw : BR S w) : BR S (nx S w on s) := by
  intro j
  have h := hw j
  refine ⟨?_, ?_, ?_, ?_, ?_⟩
  · show bd 0 90 (if j < nT S then tF S w on j else w 0 j)
    split
    · exact tF_b hw j
    · exact h.1
  · show bd 0 20 (if j < nT S then tW w j else w 1 j)
    split
    · exact tW_b hw j
    · exact h.2.1
  · show bd 0 6 (if j < nT S then tL w j else w 2 j)
    split
    · exact tL_b hw j
    · exact h.2.2.1
  · show 0 ≤ (if j < nK S then l2 S w on s j else w 3 j).toInt ∧ (if j < nK S then l2 S w on s j else w 3 j).toInt ≤ _
    split
    · exact (l2_b hB hw j).2
    · exact h.2.2.2.1
  · intro hj
    show (if j < nK S then l2 S w on s j else w 3 j) = 0
    rw [if_neg (by have := (nK_i hB).1; omega)]
    exact h.2.2.2.2 hj

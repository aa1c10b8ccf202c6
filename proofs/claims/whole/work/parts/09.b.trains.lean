theorem rI_eq (σ : Sg) (i j : Nat) (x : Int32) : rI (sI σ i j x) i j = x := by rw [rI_sI, if_pos ⟨rfl, rfl⟩]
theorem rI_ne {σ : Sg} {i j i' j' : Nat} {x : Int32} (h : i' ≠ i ∨ j' ≠ j) : rI (sI σ i j x) i' j' = rI σ i' j' := by rw [rI_sI, if_neg (by omega)]
/-- the class's side holds the settings S; the state r holds the row w -/
def Sc (σ : Sg) (S : Vw) : Prop := (rI σ 1 5 = S 0 0 ∧ rI σ 1 6 = S 0 1 ∧ rI σ 1 7 = S 0 2 ∧ rI σ 1 8 = S 0 3) ∧ (∀ j, j < 4 → rI σ 2 j = S 1 j ∧ rI σ 3 j = S 2 j) ∧ (∀ j, j < 3 → rI σ 4 j = S 3 j) ∧ (∀ t, t < 3 → ∀ s, s < 48 → rI σ (6 + t) s = S 4 (48 * t + s)) ∧ (∀ s, s < 48 → rI σ 9 s = S 5 s)
def Rc (r : Nat) (σ : Sg) (w : Vw) : Prop := (∀ j, j < 4 → rI σ (sid r + 1) j = w 0 j ∧ rI σ (sid r + 2) j = w 1 j ∧ rI σ (sid r + 3) j = w 2 j) ∧ ∀ j, j < 3 → rI σ (sid r + 4) j = w 3 j
/-- the model's side -/
def Sm (σ : Sg) (S : Vw) : Prop := (rI σ 19 4 = S 0 0 ∧ rI σ 19 8 = S 0 1 ∧ rI σ 19 10 = S 0 2 ∧ rI σ 19 11 = S 0 3) ∧ (∀ j, j < 4 → rI σ 22 j = S 1 j ∧ rI σ 23 j = S 2 j) ∧ (∀ j, j < 3 → rI σ 24 j = S 3 j) ∧ (∀ j, j < 144 → rI σ 25 j = S 4 j) ∧ (∀ s, s < 48 → rI σ 27 s = S 5 s)
def Rm (σ : Sg) (w : Vw) : Prop := (∀ j, j < 4 → rI σ 20 (3 * j) = w 0 j ∧ rI σ 20 (3 * j + 1) = w 1 j ∧ rI σ 20 (3 * j + 2) = w 2 j) ∧ ∀ j, j < 3 → rI σ 20 (12 + j) = w 3 j
theorem Sc.of {σ σ' : Sg} {S : Vw} (h : Sc σ S) (e : ∀ k j, k < 10 → rI σ' k j = rI σ k j) : Sc σ' S := by
  obtain ⟨⟨a, b, c, d⟩, f, g, i, k⟩ := h
  refine ⟨⟨?_, ?_, ?_, ?_⟩, fun j hj => ⟨?_, ?_⟩, fun j hj => ?_, fun t ht s hs => ?_, fun s hs => ?_⟩
  · rw [e _ _ (by decide), a]
  · rw [e _ _ (by decide), b]
  · rw [e _ _ (by decide), c]
  · rw [e _ _ (by decide), d]
  · rw [e _ _ (by decide), (f j hj).1]
  · rw [e _ _ (by decide), (f j hj).2]
  · rw [e _ _ (by decide), g j hj]
  · rw [e _ _ (by omega), i t ht s hs]
  · rw [e _ _ (by decide), k s hs]
theorem Sc.fr {r : Nat} {a b : Sg} {S : Vw} (h : Sc a S) (f : Fr r a b) : Sc b S := h.of (fun _ _ hk => f.lo (by omega))
theorem Sm.ml {a b : Sg} {S : Vw} (h : Sm a S) (f : Ml a b) : Sm b S := by
  obtain ⟨⟨h1, h2, h3, h4⟩, h5, h6, h7, h8⟩ := h
  have e := f.1
  refine ⟨⟨?_, ?_, ?_, ?_⟩, fun j hj => ⟨?_, ?_⟩, fun j hj => ?_, fun t ht => ?_, fun s hs => ?_⟩
  · rw [e _ _ (by decide) (by decide) (by decide) (by omega), h1]
  · rw [e _ _ (by decide) (by decide) (by decide) (by omega), h2]
  · rw [e _ _ (by decide) (by decide) (by decide) (by omega), h3]
  · rw [e _ _ (by decide) (by decide) (by decide) (by omega), h4]
  · rw [e _ _ (by decide) (by decide) (by decide) (by omega), (h5 j hj).1]
  · rw [e _ _ (by decide) (by decide) (by decide) (by omega), (h5 j hj).2]
  · rw [e _ _ (by decide) (by decide) (by decide) (by omega), h6 j hj]
  · rw [e _ _ (by decide) (by decide) (by decide) (by omega), h7 t ht]
  · rw [e _ _ (by decide) (by decide) (by decide) (by omega), h8 s hs]
/-- a train's half hour -/
def tF (S w : Vw) (on : Int32) (j : Nat) : Int32 := if w 2 j ≤ 0 then (if on = 0 then w 0 j else (if w 0 j + pF S j < 90 then w 0 j + pF S j else 90)) else (if w 2 j - 1 = 0 then w 0 j / 4 + w 1 j else w 0 j)
def tW (w : Vw) (j : Nat) : Int32 := if w 2 j ≤ 0 then w 1 j else (if w 2 j - 1 = 0 then (if w 1 j + 1 < 20 then w 1 j + 1 else 20) else w 1 j)
def tL (w : Vw) (j : Nat) : Int32 := if w 2 j ≤ 0 then w 2 j else w 2 j - 1
def tM (S w : Vw) (on : Int32) (j : Nat) : Int32 := if w 2 j ≤ 0 then (if on = 0 then 0 else pG S (w 0 j) j) else 0
def tK (S w : Vw) (on : Int32) (j : Nat) : Int32 := if w 2 j ≤ 0 then (if on = 0 then 0 else pK S (pG S (w 0 j) j)) else 0
def tE (S w : Vw) (on : Int32) (j : Nat) : Int32 := if w 2 j ≤ 0 then (if on = 0 then 0 else pE S (pK S (pG S (w 0 j) j)) j) else 0
/-- the row when k trains are through -/
def tr (S w : Vw) (on : Int32) (k : Nat) : Vw
  | 0, j => if j < k then tF S w on j else w 0 j
  | 1, j => if j < k then tW w j else w 1 j
  | 2, j => if j < k then tL w j else w 2 j
  | i, j => w i j
theorem i_nle0 {x : Int32} (h : ¬ x ≤ 0) : 0 < x.toInt := by
  rw [i_le] at h
  have h0 : (0 : Int32).toInt = 0 := rfl
  omega
theorem Rc.set {r k : Nat} {σ σ' : Sg} {S w : Vw} {on : Int32} (h : Rc r σ (tr S w on k)) (hF : ∀ j, rI σ' (sid r + 1) j = if j = k then tF S w on k else rI σ (sid r + 1) j) (hW : ∀ j, rI σ' (sid r + 2) j = if j = k then tW w k else rI σ (sid r + 2) j) (hL : ∀ j, rI σ' (sid r + 3) j = if j = k then tL w k else rI σ (sid r + 3) j) (hV : ∀ j, rI σ' (sid r + 4) j = rI σ (sid r + 4) j) : Rc r σ' (tr S w on (k + 1)) := by
  refine ⟨fun j hj => ?_, fun j hj => by rw [hV, h.2 j hj]; rfl⟩
  have h1 := h.1 j hj
  rw [hF, hW, hL, h1.1, h1.2.1, h1.2.2]
  by_cases e : j = k
  · subst e
    simp only [if_true, tr]
    rw [if_pos (Nat.lt_succ_self j), if_pos (Nat.lt_succ_self j), if_pos (Nat.lt_succ_self j)]
    exact ⟨rfl, rfl, rfl⟩
  · rw [if_neg e, if_neg e, if_neg e]
    simp only [tr]
    by_cases e2 : j < k
    · rw [if_pos e2, if_pos e2, if_pos e2, if_pos (by omega), if_pos (by omega), if_pos (by omega)]
      exact ⟨rfl, rfl, rfl⟩
    · rw [if_neg e2, if_neg e2, if_neg e2, if_neg (by omega), if_neg (by omega), if_neg (by omega)]
      exact ⟨rfl, rfl, rfl⟩
theorem tr_at {S w : Vw} {on : Int32} {k : Nat} : tr S w on k 0 k = w 0 k ∧ tr S w on k 1 k = w 1 k ∧ tr S w on k 2 k = w 2 k := by
  simp [tr]
theorem go_c {r k : Nat} {σ : Sg} {S w : Vw} {on : Int32} (h : Rc r σ (tr S w on k)) (hk : k < 4) (hl : ¬ w 2 k ≤ 0) : Rc r (f_X4_goOnCleaning r (kI k) σ) (tr S w on (k + 1)) ∧ ∀ j, rI (f_X4_goOnCleaning r (kI k) σ) (sid r) j = rI σ (sid r) j := by
  have h1 := h.1 k hk
  rw [tr_at.1, tr_at.2.1, tr_at.2.2] at h1
  have e1 : tF S w on k = if w 2 k - 1 = 0 then w 0 k / 4 + w 1 k else w 0 k := by unfold tF; rw [if_neg hl]
  have e2 : tW w k = if w 2 k - 1 = 0 then (if w 1 k + 1 < 20 then w 1 k + 1 else 20) else w 1 k := by unfold tW; rw [if_neg hl]
  have e3 : tL w k = w 2 k - 1 := by unfold tL; rw [if_neg hl]
  unfold f_X4_goOnCleaning
  rw [kI_nat (by omega)]
  simp (disch := omega) only [rI_eq, rI_ne]
  rw [h1.1, h1.2.1, h1.2.2]
  by_cases c : w 2 k - 1 = 0
  · rw [if_pos c] at e1 e2 ⊢
    refine ⟨h.set (fun j => ?_) (fun j => ?_) (fun j => ?_) (fun j => ?_), fun j => ?_⟩
    · simp (disch := omega) only [rI_ne]
      by_cases e : j = k
      · subst e; simp (disch := omega) only [rI_eq, if_true]; exact e1.symm
      · simp (disch := omega) only [rI_ne, if_neg e]
    · by_cases e : j = k
      · subst e; simp (disch := omega) only [rI_eq, if_true]; exact e2.symm
      · simp (disch := omega) only [rI_ne, if_neg e]
    · by_cases e : j = k
      · subst e; simp (disch := omega) only [rI_eq, rI_ne, if_true]; exact e3.symm
      · simp (disch := omega) only [rI_ne, if_neg e]
    · simp (disch := omega) only [rI_ne]
    · simp (disch := omega) only [rI_ne]
  · rw [if_neg c] at e1 e2 ⊢
    refine ⟨h.set (fun j => ?_) (fun j => ?_) (fun j => ?_) (fun j => ?_), fun j => ?_⟩
    · simp (disch := omega) only [rI_ne]
      by_cases e : j = k
      · subst e; rw [if_pos rfl, h1.1, e1]
      · rw [if_neg e]
    · simp (disch := omega) only [rI_ne]
      by_cases e : j = k
      · subst e; rw [if_pos rfl, h1.2.1, e2]
      · rw [if_neg e]
    · by_cases e : j = k
      · subst e; simp (disch := omega) only [rI_eq, if_true]; exact e3.symm
      · simp (disch := omega) only [rI_ne, if_neg e]
    · simp (disch := omega) only [rI_ne]
    · simp (disch := omega) only [rI_ne]
theorem pG_c {σ : Sg} {S : Vw} {k : Nat} (h : Sc σ S) (hk : k < 4) (f : Int32) : f_X3_productAt (kI k) f σ = pG S f k := by
  unfold f_X3_productAt pG
  rw [kI_nat (by omega), (h.2.1 k hk).1, (h.2.1 k hk).2, h.1.2.2.1]
theorem pK_c {σ : Sg} {S : Vw} (h : Sc σ S) (hB : BS S) (g : Int32) : f_X3_feedFor g σ = pK S g := by
  unfold f_X3_feedFor pK
  rw [h.1.2.2.2, if_pos]
  rw [i_lt]
  have := hB.2.2.2.1.1
  have h0 : (0 : Int32).toInt = 0 := rfl
  omega
theorem pE_c {σ : Sg} {S : Vw} {k : Nat} (h : Sc σ S) (hk : k < 4) (f : Int32) : f_X3_energyFor (kI k) f σ = pE S f k := by
  unfold f_X3_energyFor pE
  rw [kI_nat (by omega), (h.2.1 k hk).2]
theorem pF_c {σ : Sg} {S : Vw} {k : Nat} (h : Sc σ S) (hk : k < 4) : f_X3_foulingStep (kI k) σ = pF S k := by
  unfold f_X3_foulingStep pF
  rw [kI_nat (by omega), (h.2.1 k hk).2]
theorem run_c {r k : Nat} {σ : Sg} {S w : Vw} {on : Int32} (hS : Sc σ S) (hB : BS S) (h : Rc r σ (tr S w on k)) (hk : k < 4) (hl : w 2 k ≤ 0) (ho : ¬ on = 0) : Rc r (f_X4_runTrain r (kI k) σ).2 (tr S w on (k + 1)) ∧ (f_X4_runTrain r (kI k) σ).1 = tE S w on k ∧ rI (f_X4_runTrain r (kI k) σ).2 (sid r) 5 = rI σ (sid r) 5 + tM S w on k ∧ rI (f_X4_runTrain r (kI k) σ).2 (sid r) 6 = rI σ (sid r) 6 + tK S w on k ∧ rI (f_X4_runTrain r (kI k) σ).2 (sid r) 7 = rI σ (sid r) 7 + (tK S w on k - tM S w on k) := by
  have h1 := h.1 k hk
  rw [tr_at.1, tr_at.2.1, tr_at.2.2] at h1
  have e1 : tF S w on k = if w 0 k + pF S k < 90 then w 0 k + pF S k else 90 := by unfold tF; rw [if_pos hl, if_neg ho]
  have e2 : tW w k = w 1 k := by unfold tW; rw [if_pos hl]
  have e3 : tL w k = w 2 k := by unfold tL; rw [if_pos hl]
  have e4 : tM S w on k = pG S (w 0 k) k := by unfold tM; rw [if_pos hl, if_neg ho]
  have e5 : tK S w on k = pK S (pG S (w 0 k) k) := by unfold tK; rw [if_pos hl, if_neg ho]
  have e6 : tE S w on k = pE S (pK S (pG S (w 0 k) k)) k := by unfold tE; rw [if_pos hl, if_neg ho]
  have hf := fr_X4_runTrain r (kI k) σ
  have hS2 := hS.fr hf
  have hE : (f_X4_runTrain r (kI k) σ).1 = pE S (pK S (pG S (w 0 k) k)) k := by
    have : (f_X4_runTrain r (kI k) σ).1 = f_X3_energyFor (kI k) (f_X3_feedFor (f_X3_productAt (kI k) (rI σ (sid r + 1) (kI k).toNatClampNeg) σ) σ) (f_X4_runTrain r (kI k) σ).2 := rfl
    rw [this, kI_nat (by omega), pG_c hS hk, pK_c hS hB, pE_c hS2 hk, h1.1]
  rw [hE, e4, e5, e6]
  unfold f_X4_runTrain
  dsimp only
  rw [kI_nat (by omega), pG_c hS hk, pK_c hS hB]
  rw [pF_c (S := S) (hS.fr (r := r) (by (repeat first | exact Fr.refl | refine Fr.sI ?_ (by omega)))) hk]
  simp (disch := omega) only [rI_eq, rI_ne]
  rw [h1.1]
  refine ⟨h.set (fun j => ?_) (fun j => ?_) (fun j => ?_) (fun j => ?_), ?_⟩
  · by_cases e : j = k
    · subst e; simp (disch := omega) only [rI_eq, if_true]; exact e1.symm
    · simp (disch := omega) only [rI_ne, if_neg e]
  · simp (disch := omega) only [rI_ne]
    by_cases e : j = k
    · subst e; rw [if_pos rfl, h1.2.1, e2]
    · rw [if_neg e]
  · simp (disch := omega) only [rI_ne]
    by_cases e : j = k
    · subst e; rw [if_pos rfl, h1.2.2, e3]
    · rw [if_neg e]
  · simp (disch := omega) only [rI_ne]
  · first | exact ⟨trivial, trivial, trivial, trivial⟩ | exact ⟨trivial, rfl, rfl, rfl⟩ | exact ⟨rfl, rfl, rfl, rfl⟩ | simp

def nT (S : Vw) : Nat := (S 0 0).toInt.toNat
def nK (S : Vw) : Nat := (S 0 1).toInt.toNat
/-- sums of the trains; the rest after k tanks; what is poured, given, short -/
def hP (S w : Vw) (on : Int32) : Int32 := ps (tM S w on) (nT S)
def hK (S w : Vw) (on : Int32) : Int32 := ps (tK S w on) (nT S)
def hB_ (S w : Vw) (on : Int32) : Int32 := ps (fun j => tK S w on j - tM S w on j) (nT S)
def hE (S w : Vw) (on : Int32) : Int32 := ps (tE S w on) (nT S)
def rs (S w : Vw) (on : Int32) : Nat → Int32
  | 0 => hP S w on
  | k + 1 => rs S w on k - (if S 3 k - w 3 k < rs S w on k then S 3 k - w 3 k else rs S w on k)
def po (S w : Vw) (on : Int32) (k : Nat) : Int32 := if S 3 k - w 3 k < rs S w on k then S 3 k - w 3 k else rs S w on k
def l1 (S w : Vw) (on : Int32) (k : Nat) : Int32 := w 3 k + po S w on k
def wa (S : Vw) (s : Nat) (k : Nat) : Int32 := S 4 (48 * k + s)
def gv (S w : Vw) (on : Int32) (s : Nat) (k : Nat) : Int32 := if l1 S w on k < wa S s k then l1 S w on k else wa S s k
def l2 (S w : Vw) (on : Int32) (s : Nat) (k : Nat) : Int32 := l1 S w on k - gv S w on s k
def mi (S w : Vw) (on : Int32) (s : Nat) (k : Nat) : Int32 := wa S s k - gv S w on s k
def hG (S w : Vw) (on : Int32) (s : Nat) : Int32 := ps (gv S w on s) (nK S)
def hD (S : Vw) (s : Nat) : Int32 := ps (wa S s) (nK S)
/-- the row after the half hour -/
def nx (S w : Vw) (on : Int32) (s : Nat) : Vw
  | 3, j => if j < nK S then l2 S w on s j else w 3 j
  | i, j => tr S w on (nT S) i j
theorem nT_i {S : Vw} (hB : BS S) : (S 0 0).toInt = nT S ∧ nT S ≤ 4 := by
  have h := hB.1
  unfold nT; unfold bd at h; omega
theorem nK_i {S : Vw} (hB : BS S) : (S 0 1).toInt = nK S ∧ nK S ≤ 3 := by
  have h := hB.2.1
  unfold nK; unfold bd at h; omega
theorem k_le {x : Int32} {n k : Nat} (h : x.toInt = n) (hk : k < 1000000) : x ≤ kI k ↔ n ≤ k := by
  rw [i_le, h, kI_int (by omega)]; omega
theorem lp_loop {r : Nat} {S w : Vw} {slot on : Int32} (hB : BS S) : ∀ (n k : Nat) (e : Int32) (σ : Sg), k + n = 5 → k ≤ nT S → Sc σ S → Rc r σ (tr S w on k) → rI σ (sid r) 5 = ps (tM S w on) k → rI σ (sid r) 6 = ps (tK S w on) k → rI σ (sid r) 7 = ps (fun j => tK S w on j - tM S w on j) k → e = ps (tE S w on) k →
    ∃ σ', f_X4_letPass_l21 r slot on n (kI k) e σ = f_X4_serve r slot (f_X4_pour r (sI σ' (sid r) 8 (hE S w on * rI σ' 9 slot.toNatClampNeg))) ∧ Fr r σ σ' ∧ Rc r σ' (tr S w on (nT S)) ∧ rI σ' (sid r) 5 = hP S w on ∧ rI σ' (sid r) 6 = hK S w on ∧ rI σ' (sid r) 7 = hB_ S w on ∧ (∀ j, rI σ' (sid r + 5) j = rI σ (sid r + 5) j)
  | 0, k, e, σ, h0, h1, hS, hR, h5, h6, h7, he => absurd h0 (by have := (nT_i hB).2; omega)
  | n + 1, k, e, σ, h0, h1, hS, hR, h5, h6, h7, he => by
    have hT := nT_i hB
    rw [f_X4_letPass_l21, hS.1.1]
    by_cases c : nT S ≤ k
    · rw [if_pos ((k_le hT.1 (by omega)).mpr c)]
      have e1 : k = nT S := by omega
      subst e1
      exact ⟨σ, by rw [he]; rfl, Fr.refl, hR, h5, h6, h7, fun _ => rfl⟩
    · rw [if_neg (fun x => c ((k_le hT.1 (by omega)).mp x)), kI_nat (by omega)]
      have h3 := (hR.1 k (by omega)).2.2
      rw [tr_at.2.2] at h3
      rw [h3]
      by_cases c2 : w 2 k ≤ 0
      · rw [if_pos c2]
        by_cases c3 : on = 0
        · rw [if_pos c3, kI_succ]
          have eM : tM S w on k = 0 := by unfold tM; rw [if_pos c2, if_pos c3]
          have eK : tK S w on k = 0 := by unfold tK; rw [if_pos c2, if_pos c3]
          have eE : tE S w on k = 0 := by unfold tE; rw [if_pos c2, if_pos c3]
          refine lp_loop hB n (k + 1) e σ (by omega) (by omega) hS ?_ ?_ ?_ ?_ ?_
          · have e1 : tF S w on k = w 0 k := by unfold tF; rw [if_pos c2, if_pos c3]
            have e2 : tW w k = w 1 k := by unfold tW; rw [if_pos c2]
            have e3 : tL w k = w 2 k := by unfold tL; rw [if_pos c2]
            have h1 := hR.1 k (by omega)
            rw [tr_at.1, tr_at.2.1, tr_at.2.2] at h1
            refine hR.set (fun j => ?_) (fun j => ?_) (fun j => ?_) (fun j => rfl)
            · by_cases q : j = k
              · rw [if_pos q, e1, ← h1.1, q]
              · rw [if_neg q]
            · by_cases q : j = k
              · rw [if_pos q, e2, ← h1.2.1, q]
              · rw [if_neg q]
            · by_cases q : j = k
              · rw [if_pos q, e3, ← h1.2.2, q]
              · rw [if_neg q]
          · rw [ps, eM, h5, Int32.add_zero]
          · rw [ps, eK, h6, Int32.add_zero]
          · rw [ps, eM, eK, h7]; simp
          · rw [ps, eE, he, Int32.add_zero]
        · rw [if_neg c3, kI_succ]
          have hr := run_c hS hB hR (by omega) c2 c3
          have hf := fr_X4_runTrain r (kI k) σ
          have h9 : ∀ j, rI (f_X4_runTrain r (kI k) σ).2 (sid r + 5) j = rI σ (sid r + 5) j := by
            intro j
            unfold f_X4_runTrain
            dsimp only
            simp (disch := omega) only [rI_ne]
          obtain ⟨σ', q1, q2, q3, q4, q5, q6, q7⟩ := lp_loop (r := r) (S := S) (w := w) (slot := slot) (on := on) hB n (k + 1) (e + (f_X4_runTrain r (kI k) σ).1) (f_X4_runTrain r (kI k) σ).2 (by omega) (by omega) (hS.fr hf) hr.1 (by rw [hr.2.2.1, h5]; rfl) (by rw [hr.2.2.2.1, h6]; rfl) (by rw [hr.2.2.2.2, h7]; rfl) (by rw [hr.2.1, he]; rfl)
          exact ⟨σ', q1, hf.trans q2, q3, q4, q5, q6, fun j => (q7 j).trans (h9 j)⟩
      · rw [if_neg c2, kI_succ]
        have hr := go_c (on := on) (S := S) hR (by omega) c2
        have hf := fr_X4_goOnCleaning r (kI k) σ
        have eM : tM S w on k = 0 := by unfold tM; rw [if_neg c2]
        have eK : tK S w on k = 0 := by unfold tK; rw [if_neg c2]
        have eE : tE S w on k = 0 := by unfold tE; rw [if_neg c2]
        have h9 : ∀ j, rI (f_X4_goOnCleaning r (kI k) σ) (sid r + 5) j = rI σ (sid r + 5) j := by
          intro j
          unfold f_X4_goOnCleaning
          split <;> simp (disch := omega) only [rI_ne]
        obtain ⟨σ', q1, q2, q3, q4, q5, q6, q7⟩ := lp_loop (r := r) (S := S) (w := w) (slot := slot) (on := on) hB n (k + 1) e (f_X4_goOnCleaning r (kI k) σ) (by omega) (by omega) (hS.fr hf) hr.1 (by rw [hr.2, h5, ps, eM, Int32.add_zero]) (by rw [hr.2, h6, ps, eK, Int32.add_zero]) (by rw [hr.2, h7, ps, eM, eK]; simp) (by rw [ps, eE, he, Int32.add_zero])
        exact ⟨σ', q1, hf.trans q2, q3, q4, q5, q6, fun j => (q7 j).trans (h9 j)⟩
theorem pour_loop {r : Nat} {S w : Vw} {on : Int32} (hB : BS S) : ∀ (n k : Nat) (x : Int32) (σ : Sg), k + n = 4 → k ≤ nK S → Sc σ S → (∀ j, j < 3 → rI σ (sid r + 4) j = if j < k then l1 S w on j else w 3 j) → x = rs S w on k →
    ∃ σ', f_X4_pour_l7 r n (kI k) x σ = sI σ' (sid r) 9 (rs S w on (nK S)) ∧ σ'.2 = σ.2 ∧ (∀ i j, i ≠ sid r + 4 → rI σ' i j = rI σ i j) ∧ (∀ j, j < 3 → rI σ' (sid r + 4) j = if j < nK S then l1 S w on j else w 3 j)
  | 0, k, x, σ, h0, h1, hS, hl, hx => absurd h0 (by have := (nK_i hB).2; omega)
  | n + 1, k, x, σ, h0, h1, hS, hl, hx => by
    have hsr : 33 ≤ sid r := by unfold sid; omega
    have hT := nK_i hB
    rw [f_X4_pour_l7, hS.1.2.1]
    by_cases c : nK S ≤ k
    · rw [if_pos ((k_le hT.1 (by omega)).mpr c)]
      have e1 : k = nK S := by omega
      subst e1
      exact ⟨σ, by rw [hx], rfl, fun _ _ _ => rfl, hl⟩
    · rw [if_neg (fun x => c ((k_le hT.1 (by omega)).mp x)), kI_nat (by omega), hS.2.2.1 k (by omega), hl k (by omega), if_neg (Nat.lt_irrefl k), hx, kI_succ]
      obtain ⟨σ', q1, q2, q3, q4⟩ := pour_loop (r := r) (S := S) (w := w) (on := on) hB n (k + 1) (rs S w on (k + 1)) (sI σ (sid r + 4) k (l1 S w on k)) (by omega) (by omega) (hS.of (fun i j hi => rI_ne (by omega))) (fun j hj => by
        by_cases q : j = k
        · subst q; rw [rI_eq, if_pos (by omega)]
        · rw [rI_ne (by omega), hl j hj]
          by_cases q2 : j < k
          · rw [if_pos q2, if_pos (by omega)]
          · rw [if_neg q2, if_neg (by omega)]) rfl
      exact ⟨σ', q1, q2, fun i j hi => (q3 i j hi).trans (rI_ne (by omega)), q4⟩
theorem serve_loop {r : Nat} {S w : Vw} {on : Int32} {s : Nat} (hs : s < 48) (hB : BS S) : ∀ (n k : Nat) (σ : Sg), k + n = 4 → k ≤ nK S → Sc σ S → (∀ j, j < 3 → rI σ (sid r + 4) j = if j < k then l2 S w on s j else if j < nK S then l1 S w on j else w 3 j) → rI σ (sid r) 10 = ps (gv S w on s) k → rI σ (sid r) 11 = ps (wa S s) k →
    ∃ σ', f_X4_serve_l12 r (kI s) n (kI k) σ = sI σ' (sid r) 12 (hD S s - hG S w on s) ∧ σ'.2 = σ.2 ∧ (∀ i j, i ≠ sid r + 4 → i ≠ sid r + 5 → ¬ (i = sid r ∧ (j = 10 ∨ j = 11)) → rI σ' i j = rI σ i j) ∧ (∀ j, j < 3 → rI σ' (sid r + 4) j = if j < nK S then l2 S w on s j else w 3 j) ∧ rI σ' (sid r) 10 = hG S w on s ∧ rI σ' (sid r) 11 = hD S s ∧ ∀ j, rI σ' (sid r + 5) j = if k ≤ j ∧ j < nK S then mi S w on s j else rI σ (sid r + 5) j
  | 0, k, σ, h0, h1, hS, hl, h10, h11 => absurd h0 (by have := (nK_i hB).2; omega)
  | n + 1, k, σ, h0, h1, hS, hl, h10, h11 => by
    have hsr : 33 ≤ sid r := by unfold sid; omega
    have hT := nK_i hB
    rw [f_X4_serve_l12, hS.1.2.1]
    by_cases c : nK S ≤ k
    · rw [if_pos ((k_le hT.1 (by omega)).mpr c)]
      have e1 : k = nK S := by omega
      subst e1
      refine ⟨σ, by rw [h10, h11]; rfl, rfl, fun _ _ _ _ _ => rfl, fun j hj => ?_, h10, h11, fun j => by rw [if_neg (by omega)]⟩
      rw [hl j hj]
      by_cases q : j < nK S
      · rw [if_pos q, if_pos q]
      · rw [if_neg q, if_neg q, if_neg q]
    · rw [if_neg (fun x => c ((k_le hT.1 (by omega)).mp x)), kI_nat (by omega), kI_nat (by omega)]
      simp (disch := omega) only [rI_eq, rI_ne]
      have e1 : rI σ (6 + k) s = wa S s k := by rw [hS.2.2.2.1 k (by omega) s hs]; rfl
      have e2 : rI σ (sid r + 4) k = l1 S w on k := by rw [hl k (by omega), if_neg (Nat.lt_irrefl k), if_pos (by omega)]
      rw [e1, e2, h10, h11, kI_succ]
      obtain ⟨σ', q1, q2, q3, q4, q5, q6, q7⟩ := serve_loop (r := r) (S := S) (w := w) (on := on) hs hB n (k + 1) (sI (sI (sI (sI σ (sid r + 4) k (l2 S w on s k)) (sid r + 5) k (mi S w on s k)) (sid r) 10 (ps (gv S w on s) (k + 1))) (sid r) 11 (ps (wa S s) (k + 1))) (by omega) (by omega) (hS.of (fun i j hi => by simp (disch := omega) only [rI_ne])) (fun j hj => by
        simp (disch := omega) only [rI_ne]
        by_cases q : j = k
        · subst q; rw [rI_eq, if_pos (by omega)]
        · rw [rI_ne (by omega), hl j hj]
          by_cases q2 : j < k
          · rw [if_pos q2, if_pos (by omega)]
          · rw [if_neg q2, if_neg (show ¬ j < k + 1 by omega)]) (by simp (disch := omega) only [rI_ne, rI_eq]) (by rw [rI_eq])
      refine ⟨σ', q1, q2, fun i j hi hj hk => (q3 i j hi hj hk).trans ?_, q4, q5, q6, fun j => ?_⟩
      · rw [rI_ne (by omega), rI_ne (by omega), rI_ne (by omega), rI_ne (by omega)]
      · rw [q7 j]
        simp (disch := omega) only [rI_ne]
        by_cases q : j = k
        · subst q
          rw [if_neg (by omega), if_pos ⟨Nat.le_refl j, by omega⟩, rI_eq]
        · rw [rI_ne (by omega)]
          by_cases q2 : k + 1 ≤ j ∧ j < nK S
          · rw [if_pos q2, if_pos ⟨by omega, q2.2⟩]
          · rw [if_neg q2, if_neg (by omega), rI_ne (by omega)]
/-- a state's half hour is the pure one -/
theorem lp_c {r : Nat} {σ : Sg} {S w : Vw} {on : Int32} {s : Nat} (hs : s < 48) (hS : Sc σ S) (hB : BS S) (hR : Rc r σ w) :
    Rc r (f_X4_letPass r (kI s) on σ) (nx S w on s) ∧ rI (f_X4_letPass r (kI s) on σ) (sid r) 5 = hP S w on ∧ rI (f_X4_letPass r (kI s) on σ) (sid r) 6 = hK S w on ∧ rI (f_X4_letPass r (kI s) on σ) (sid r) 7 = hB_ S w on ∧ rI (f_X4_letPass r (kI s) on σ) (sid r) 8 = hE S w on * S 5 s ∧ rI (f_X4_letPass r (kI s) on σ) (sid r) 9 = rs S w on (nK S) ∧ rI (f_X4_letPass r (kI s) on σ) (sid r) 10 = hG S w on s ∧ rI (f_X4_letPass r (kI s) on σ) (sid r) 11 = hD S s ∧ rI (f_X4_letPass r (kI s) on σ) (sid r) 12 = hD S s - hG S w on s ∧ ∀ j, rI (f_X4_letPass r (kI s) on σ) (sid r + 5) j = if j < nK S then mi S w on s j else rI σ (sid r + 5) j := by
  have hsr : 33 ≤ sid r := by unfold sid; omega
  obtain ⟨σ1, a1, a2, a3, a4, a5, a6, a7⟩ := lp_loop (r := r) (S := S) (w := w) (slot := kI s) (on := on) hB 5 0 0 (sI (sI (sI σ (sid r) 5 0) (sid r) 6 0) (sid r) 7 0) rfl (Nat.zero_le _) (hS.of (fun i j hi => by simp (disch := omega) only [rI_ne])) ⟨fun j hj => by simp (disch := omega) only [rI_ne]; exact hR.1 j hj, fun j hj => by simp (disch := omega) only [rI_ne]; exact hR.2 j hj⟩ (by simp (disch := omega) only [rI_ne, rI_eq]; rfl) (by simp (disch := omega) only [rI_ne, rI_eq]; rfl) (by simp (disch := omega) only [rI_ne, rI_eq]; rfl) rfl
  have hS1 : Sc σ1 S := (hS.of (fun i j hi => by simp (disch := omega) only [rI_ne])).fr a2
  obtain ⟨σ2, b1, b2, b3, b4⟩ := pour_loop (r := r) (S := S) (w := w) (on := on) hB 4 0 (rs S w on 0) (sI σ1 (sid r) 8 (hE S w on * S 5 s)) rfl (Nat.zero_le _) (hS1.of (fun i j hi => rI_ne (by omega))) (fun j hj => by rw [rI_ne (by omega), if_neg (by omega)]; exact a3.2 j hj) rfl
  have hS2 : Sc σ2 S := (hS1.of (fun i j hi => rI_ne (j := 8) (x := hE S w on * S 5 s) (i := sid r) (by omega))).of (fun i j hi => b3 i j (by omega))
  obtain ⟨σ3, c1, c2, c3, c4, c5, c6, c7⟩ := serve_loop (r := r) (S := S) (w := w) (on := on) hs hB 4 0 (sI (sI (sI σ2 (sid r) 9 (rs S w on (nK S))) (sid r) 10 0) (sid r) 11 0) rfl (Nat.zero_le _) (hS2.of (fun i j hi => by simp (disch := omega) only [rI_ne])) (fun j hj => by simp (disch := omega) only [rI_ne]; rw [if_neg (by omega)]; exact b4 j hj) (by simp (disch := omega) only [rI_ne, rI_eq]; rfl) (by rw [rI_eq]; rfl)
  have e : f_X4_letPass r (kI s) on σ = sI σ3 (sid r) 12 (hD S s - hG S w on s) := by
    show f_X4_letPass_l21 r (kI s) on 5 (kI 0) 0 _ = _
    rw [a1, kI_nat (by omega), hS1.2.2.2.2 s hs]
    unfold f_X4_pour
    rw [rI_ne (by omega), a4]
    show f_X4_serve r (kI s) (f_X4_pour_l7 r 4 (kI 0) (rs S w on 0) _) = _
    rw [b1]
    exact c1
  rw [e]
  have z : ∀ i j, i ≠ sid r + 4 → i ≠ sid r + 5 → ¬ (i = sid r ∧ 8 ≤ j) → rI σ3 i j = rI σ1 i j := by
    intro i j h1 h2 h3
    rw [c3 i j h1 h2 (by omega)]
    rw [rI_ne (by omega), rI_ne (by omega), rI_ne (by omega), b3 i j h1, rI_ne (by omega)]
  refine ⟨⟨fun j hj => ?_, fun j hj => ?_⟩, ?_, ?_, ?_, ?_, ?_, ?_, ?_, ?_, fun j => ?_⟩
  · rw [rI_ne (by omega), rI_ne (by omega), rI_ne (by omega), z _ _ (by omega) (by omega) (by omega), z _ _ (by omega) (by omega) (by omega), z _ _ (by omega) (by omega) (by omega)]
    exact a3.1 j hj
  · rw [rI_ne (by omega), c4 j hj]; rfl
  · rw [rI_ne (by omega), z _ _ (by omega) (by omega) (by omega), a4]
  · rw [rI_ne (by omega), z _ _ (by omega) (by omega) (by omega), a5]
  · rw [rI_ne (by omega), z _ _ (by omega) (by omega) (by omega), a6]
  · rw [rI_ne (by omega), c3 _ _ (by omega) (by omega) (by omega), rI_ne (by omega), rI_ne (by omega), rI_ne (by omega), b3 _ _ (by omega), rI_eq]
  · rw [rI_ne (by omega), c3 _ _ (by omega) (by omega) (by omega), rI_ne (by omega), rI_ne (by omega), rI_eq]
  · rw [rI_ne (by omega), c5]
  · rw [rI_ne (by omega), c6]
  · rw [rI_eq]
  · rw [rI_ne (by omega), c7 j, rI_ne (by omega), rI_ne (by omega), rI_ne (by omega), b3 _ _ (by omega), rI_ne (by omega), a7, rI_ne (by omega), rI_ne (by omega), rI_ne (by omega)]
    by_cases q : j < nK S
    · rw [if_pos q, if_pos ⟨Nat.zero_le _, q⟩]
    · rw [if_neg q, if_neg (by omega)]

/-- whether the first k tanks lack nothing -/
def al (S w : Vw) (on : Int32) (s : Nat) : Nat → Int32
  | 0 => 1
  | k + 1 => if al S w on s k = 0 then 0 else if gv S w on s k = wa S s k then 1 else 0
theorem gt_loop {S w : Vw} {slot on : Int32} (hB : BS S) (hw : BR S w) : ∀ (n k : Nat) (σ : Sg), k + n = 5 → k ≤ nT S → Sm σ S → Rm σ (tr S w on k) → rI σ 19 17 = ps (tM S w on) k → rI σ 19 18 = ps (tK S w on) k → rI σ 19 19 = ps (tE S w on) k →
    ∃ σ', f_X6_goes_l22 slot on n (kI k) σ = f_X6_goes_l75 slot on 4 0 1 (sI σ' 19 20 (hP S w on)) ∧ (∀ i j, i ≠ 20 → ¬ (i = 19 ∧ 17 ≤ j ∧ j ≤ 19) → rI σ' i j = rI σ i j) ∧ σ'.2 = σ.2 ∧ Rm σ' (tr S w on (nT S)) ∧ rI σ' 19 17 = hP S w on ∧ rI σ' 19 18 = hK S w on ∧ rI σ' 19 19 = hE S w on
  | 0, k, σ, h0, h1, hS, hR, h5, h6, h7 => absurd h0 (by have := (nT_i hB).2; omega)
  | n + 1, k, σ, h0, h1, hS, hR, h5, h6, h7 => by
    have hT := nT_i hB
    rw [f_X6_goes_l22, hS.1.1]
    by_cases c : nT S ≤ k
    · rw [if_pos ((k_le hT.1 (by omega)).mpr c)]
      have e1 : k = nT S := by omega
      subst e1
      exact ⟨σ, by rw [h5]; rfl, fun _ _ _ _ => rfl, rfl, hR, h5, h6, h7⟩
    · rw [if_neg (fun x => c ((k_le hT.1 (by omega)).mp x))]
      have e0 : f_X6_of (kI k) 2 σ = w 2 k := by
        unfold f_X6_of
        rw [ix2 (by omega), (hR.1 k (by omega)).2.2]
        exact tr_at.2.2
      rw [e0]
      by_cases c2 : w 2 k ≤ 0
      · rw [if_pos c2]
        by_cases c3 : on = 0
        · rw [if_pos c3, kI_succ]
          have eM : tM S w on k = 0 := by unfold tM; rw [if_pos c2, if_pos c3]
          have eK : tK S w on k = 0 := by unfold tK; rw [if_pos c2, if_pos c3]
          have eE : tE S w on k = 0 := by unfold tE; rw [if_pos c2, if_pos c3]
          refine gt_loop hB hw n (k + 1) σ (by omega) (by omega) hS ?_ ?_ ?_ ?_
          · have e1 : tF S w on k = w 0 k := by unfold tF; rw [if_pos c2, if_pos c3]
            have e2 : tW w k = w 1 k := by unfold tW; rw [if_pos c2]
            have e3 : tL w k = w 2 k := by unfold tL; rw [if_pos c2]
            have h1 := hR.1 k (by omega)
            rw [tr_at.1, tr_at.2.1, tr_at.2.2] at h1
            refine hR.set (fun j _ => ?_) (fun j _ => ?_) (fun j _ => ?_) (fun j _ => rfl)
            · by_cases q : j = k
              · rw [if_pos q, e1, ← h1.1, q]
              · rw [if_neg q]
            · by_cases q : j = k
              · rw [if_pos q, e2, ← h1.2.1, q]
              · rw [if_neg q]
            · by_cases q : j = k
              · rw [if_pos q, e3, ← h1.2.2, q]
              · rw [if_neg q]
          · rw [ps, eM, h5, Int32.add_zero]
          · rw [ps, eK, h6, Int32.add_zero]
          · rw [ps, eE, h7, Int32.add_zero]
        · rw [if_neg c3, kI_succ]
          have hr := run_m hS hB hR (by omega) (hw k).1 c2 c3
          obtain ⟨σ', q1, q2, q3, q4, q5, q6, q7⟩ := gt_loop (S := S) (w := w) (slot := slot) (on := on) hB hw n (k + 1) (f_X6_works (kI k) σ) (by omega) (by omega) (hS.ml (ml_X6_works _ _)) hr.1 (by rw [hr.2.1, h5]; rfl) (by rw [hr.2.2.1, h6]; rfl) (by rw [hr.2.2.2.1, h7]; rfl)
          exact ⟨σ', q1, fun i j hi hj => (q2 i j hi hj).trans (hr.2.2.2.2.1 i j hi hj), q3.trans hr.2.2.2.2.2, q4, q5, q6, q7⟩
      · rw [if_neg c2, kI_succ]
        have hr := go_m (on := on) (S := S) hR (by omega) c2
        have eM : tM S w on k = 0 := by unfold tM; rw [if_neg c2]
        have eK : tK S w on k = 0 := by unfold tK; rw [if_neg c2]
        have eE : tE S w on k = 0 := by unfold tE; rw [if_neg c2]
        obtain ⟨σ', q1, q2, q3, q4, q5, q6, q7⟩ := gt_loop (S := S) (w := w) (slot := slot) (on := on) hB hw n (k + 1) (f_X6_cleans (kI k) σ) (by omega) (by omega) (hS.ml (ml_X6_cleans _ _)) hr.1 (by rw [hr.2.1 _ _ (by decide), h5, ps, eM, Int32.add_zero]) (by rw [hr.2.1 _ _ (by decide), h6, ps, eK, Int32.add_zero]) (by rw [hr.2.1 _ _ (by decide), h7, ps, eE, Int32.add_zero])
        exact ⟨σ', q1, fun i j hi hj => (q2 i j hi hj).trans (hr.2.1 i j hi), q3.trans hr.2.2, q4, q5, q6, q7⟩
theorem gp_loop {S w : Vw} {slot on fl : Int32} (hB : BS S) : ∀ (n k : Nat) (σ : Sg), k + n = 4 → k ≤ nK S → Sm σ S → (∀ j, j < 3 → rI σ 20 (12 + j) = if j < k then l1 S w on j else w 3 j) → rI σ 19 20 = rs S w on k →
    ∃ σ', f_X6_goes_l75 slot on n (kI k) fl σ = f_X6_goes_l146 slot on 4 0 fl σ' ∧ σ'.2 = σ.2 ∧ (∀ i j, ¬ (i = 20 ∧ 12 ≤ j) → ¬ (i = 19 ∧ j = 20) → rI σ' i j = rI σ i j) ∧ (∀ j, j < 3 → rI σ' 20 (12 + j) = if j < nK S then l1 S w on j else w 3 j) ∧ rI σ' 19 20 = rs S w on (nK S)
  | 0, k, σ, h0, h1, hS, hl, hx => absurd h0 (by have := (nK_i hB).2; omega)
  | n + 1, k, σ, h0, h1, hS, hl, hx => by
    have hT := nK_i hB
    rw [f_X6_goes_l75, hS.1.2.1]
    by_cases c : nK S ≤ k
    · rw [if_pos ((k_le hT.1 (by omega)).mpr c)]
      have e1 : k = nK S := by omega
      subst e1
      exact ⟨σ, rfl, rfl, fun _ _ _ _ => rfl, hl, hx⟩
    · rw [if_neg (fun x => c ((k_le hT.1 (by omega)).mp x)), ix12 (by omega), kI_nat (by omega), hS.2.2.1 k (by omega), hl k (by omega), if_neg (Nat.lt_irrefl k), kI_succ]
      rw [hx]
      obtain ⟨σ', q1, q2, q3, q4, q5⟩ := gp_loop (S := S) (w := w) (slot := slot) (on := on) (fl := fl) hB n (k + 1) (sI (sI σ 20 (12 + k) (l1 S w on k)) 19 20 (rs S w on (k + 1))) (by omega) (by omega) (hS.ml (Ml.sI (Ml.sI Ml.refl (by omega)) (by omega))) (fun j hj => by
        rw [rI_ne (by omega)]
        by_cases q : j = k
        · subst q; rw [rI_eq, if_pos (by omega)]
        · rw [rI_ne (by omega), hl j hj]
          by_cases q2 : j < k
          · rw [if_pos q2, if_pos (by omega)]
          · rw [if_neg q2, if_neg (by omega)]) (by rw [rI_eq])
      exact ⟨σ', q1, q2, fun i j hi hj => (q3 i j hi hj).trans (by rw [rI_ne (by omega), rI_ne (by omega)]), q4, q5⟩
theorem al_01 (S w : Vw) (on : Int32) (s : Nat) : ∀ k, al S w on s k = 0 ∨ al S w on s k = 1
  | 0 => Or.inr rfl
  | k + 1 => by
    unfold al
    split
    · exact Or.inl rfl
    · split
      · exact Or.inr rfl
      · exact Or.inl rfl
theorem gs_loop {S w : Vw} {on : Int32} {s : Nat} (hs : s < 48) (hB : BS S) : ∀ (n k : Nat) (σ : Sg), k + n = 4 → k ≤ nK S → Sm σ S → (∀ j, j < 3 → rI σ 20 (12 + j) = if j < k then l2 S w on s j else if j < nK S then l1 S w on j else w 3 j) → rI σ 19 21 = ps (gv S w on s) k →
    ∃ σ', f_X6_goes_l146 (kI s) on n (kI k) (al S w on s k) σ = (al S w on s (nK S), σ') ∧ σ'.2 = σ.2 ∧ (∀ i j, ¬ (i = 20 ∧ 12 ≤ j) → ¬ (i = 19 ∧ j = 21) → i ≠ 30 → rI σ' i j = rI σ i j) ∧ (∀ j, j < 3 → rI σ' 20 (12 + j) = if j < nK S then l2 S w on s j else w 3 j) ∧ rI σ' 19 21 = hG S w on s ∧ ∀ j, rI σ' 30 j = if k ≤ j ∧ j < nK S then mi S w on s j else rI σ 30 j
  | 0, k, σ, h0, h1, hS, hl, h10 => absurd h0 (by have := (nK_i hB).2; omega)
  | n + 1, k, σ, h0, h1, hS, hl, h10 => by
    have hT := nK_i hB
    rw [f_X6_goes_l146, hS.1.2.1]
    by_cases c : nK S ≤ k
    · rw [if_pos ((k_le hT.1 (by omega)).mpr c)]
      have e1 : k = nK S := by omega
      subst e1
      refine ⟨σ, rfl, rfl, fun _ _ _ _ _ => rfl, fun j hj => ?_, h10, fun j => by rw [if_neg (by omega)]⟩
      rw [hl j hj]
      by_cases q : j < nK S
      · rw [if_pos q, if_pos q]
      · rw [if_neg q, if_neg q, if_neg q]
    · rw [if_neg (fun x => c ((k_le hT.1 (by omega)).mp x)), ix12 (by omega), ix48 (by omega) hs, kI_nat (by omega)]
      have e1 : rI σ 25 (48 * k + s) = wa S s k := by rw [hS.2.2.2.1 _ (by omega)]; rfl
      have e2 : rI σ 20 (12 + k) = l1 S w on k := by rw [hl k (by omega), if_neg (Nat.lt_irrefl k), if_pos (by omega)]
      rw [e1, e2, h10, kI_succ]
      obtain ⟨σ', q1, q2, q3, q4, q5, q7⟩ := gs_loop (S := S) (w := w) (on := on) hs hB n (k + 1) (sI (sI (sI σ 20 (12 + k) (l2 S w on s k)) 19 21 (ps (gv S w on s) (k + 1))) 30 k (mi S w on s k)) (by omega) (by omega) (hS.ml (Ml.sI (Ml.sI (Ml.sI Ml.refl (by omega)) (by omega)) (by omega))) (fun j hj => by
        simp (disch := omega) only [rI_ne]
        by_cases q : j = k
        · subst q; rw [rI_eq, if_pos (by omega)]
        · rw [rI_ne (by omega), hl j hj]
          by_cases q2 : j < k
          · rw [if_pos q2, if_pos (by omega)]
          · rw [if_neg q2, if_neg (show ¬ j < k + 1 by omega)]) (by simp (disch := omega) only [rI_ne, rI_eq])
      refine ⟨σ', ?_, q2, fun i j hi hj hk => (q3 i j hi hj hk).trans ?_, q4, q5, fun j => ?_⟩
      · rw [← q1]
        show _ = f_X6_goes_l146 (kI s) on n (kI (k + 1)) (if al S w on s k = 0 then 0 else if gv S w on s k = wa S s k then 1 else 0) _
        by_cases z : al S w on s k = 0
        · rw [if_pos z, if_pos z]; rfl
        · rw [if_neg z, if_neg z]
          by_cases z2 : gv S w on s k = wa S s k
          · have z3 : (if l1 S w on k < wa S s k then l1 S w on k else wa S s k) = wa S s k := z2
            rw [if_pos z2, if_pos z3]; rfl
          · have z3 : ¬ (if l1 S w on k < wa S s k then l1 S w on k else wa S s k) = wa S s k := z2
            rw [if_neg z2, if_neg z3]; rfl
      · rw [rI_ne (by omega), rI_ne (by omega), rI_ne (by omega)]
      · rw [q7 j]
        by_cases q : j = k
        · subst q
          rw [if_neg (by omega), if_pos ⟨Nat.le_refl j, by omega⟩, rI_eq]
        · rw [rI_ne (by omega), rI_ne (by omega), rI_ne (by omega)]
          by_cases q2 : k + 1 ≤ j ∧ j < nK S
          · rw [if_pos q2, if_pos ⟨by omega, q2.2⟩]
          · rw [if_neg q2, if_neg (by omega)]
/-- the model's half hour is the pure one -/
theorem goes_m {σ : Sg} {S w : Vw} {on : Int32} {s : Nat} (hs : s < 48) (hS : Sm σ S) (hB : BS S) (hw : BR S w) (hR : Rm σ w) :
    (f_X6_goes (kI s) on σ).1 = al S w on s (nK S) ∧ Rm (f_X6_goes (kI s) on σ).2 (nx S w on s) ∧ rI (f_X6_goes (kI s) on σ).2 19 17 = hP S w on ∧ rI (f_X6_goes (kI s) on σ).2 19 18 = hK S w on ∧ rI (f_X6_goes (kI s) on σ).2 19 19 = hE S w on ∧ rI (f_X6_goes (kI s) on σ).2 19 20 = rs S w on (nK S) ∧ rI (f_X6_goes (kI s) on σ).2 19 21 = hG S w on s ∧ (∀ j, rI (f_X6_goes (kI s) on σ).2 30 j = if j < nK S then mi S w on s j else rI σ 30 j) ∧ (∀ i j, i ≠ 20 → i ≠ 30 → ¬ (i = 19 ∧ 17 ≤ j ∧ j ≤ 21) → rI (f_X6_goes (kI s) on σ).2 i j = rI σ i j) ∧ (f_X6_goes (kI s) on σ).2.2 = σ.2 := by
  obtain ⟨σ1, a1, a2, a3, a4, a5, a6, a7⟩ := gt_loop (S := S) (w := w) (slot := kI s) (on := on) hB hw 5 0 (sI (sI (sI (sI σ 19 17 0) 19 18 0) 19 19 0) 19 21 0) rfl (Nat.zero_le _) (hS.ml (Ml.sI (Ml.sI (Ml.sI (Ml.sI Ml.refl (by omega)) (by omega)) (by omega)) (by omega))) ⟨fun j hj => by simp (disch := omega) only [rI_ne]; exact hR.1 j hj, fun j hj => by simp (disch := omega) only [rI_ne]; exact hR.2 j hj⟩ (by simp (disch := omega) only [rI_ne, rI_eq]; rfl) (by simp (disch := omega) only [rI_ne, rI_eq]; rfl) (by simp (disch := omega) only [rI_ne, rI_eq]; rfl)
  have m1 : Ml σ σ1 := ⟨fun i j h1 h2 h3 h4 => by rw [a2 i j (by omega) (by omega)]; simp (disch := omega) only [rI_ne], a3⟩
  obtain ⟨σ2, b1, b2, b3, b4, b5⟩ := gp_loop (S := S) (w := w) (slot := kI s) (on := on) (fl := 1) hB 4 0 (sI σ1 19 20 (hP S w on)) rfl (Nat.zero_le _) (hS.ml (Ml.sI m1 (by omega))) (fun j hj => by rw [rI_ne (by omega), if_neg (by omega)]; exact a4.2 j hj) (by rw [rI_eq]; rfl)
  have m2 : Ml σ σ2 := ⟨fun i j h1 h2 h3 h4 => by rw [b3 i j (by omega) (by omega), rI_ne (by omega)]; exact m1.1 i j h1 h2 h3 h4, b2.trans a3⟩
  obtain ⟨σ3, c1, c2, c3, c4, c5, c6⟩ := gs_loop (S := S) (w := w) (on := on) hs hB 4 0 σ2 rfl (Nat.zero_le _) (hS.ml m2) (fun j hj => by rw [b4 j hj, if_neg (show ¬ j < 0 by omega)]) (by rw [b3 _ _ (by omega) (by omega), rI_ne (by omega), a2 _ _ (by omega) (by omega), rI_eq]; rfl)
  have e : f_X6_goes (kI s) on σ = (al S w on s (nK S), σ3) := by
    show f_X6_goes_l22 (kI s) on 5 (kI 0) _ = _
    rw [a1]
    show f_X6_goes_l75 (kI s) on 4 (kI 0) 1 _ = _
    rw [b1]
    exact c1
  rw [e]
  dsimp only
  refine ⟨rfl, ⟨fun j hj => ?_, fun j hj => ?_⟩, ?_, ?_, ?_, ?_, c5, fun j => ?_, fun i j h1 h2 h3 => ?_, c2.trans (b2.trans a3)⟩
  · rw [c3 _ _ (by omega) (by omega) (by omega), c3 _ _ (by omega) (by omega) (by omega), c3 _ _ (by omega) (by omega) (by omega), b3 _ _ (by omega) (by omega), b3 _ _ (by omega) (by omega), b3 _ _ (by omega) (by omega), rI_ne (by omega), rI_ne (by omega), rI_ne (by omega)]
    exact a4.1 j hj
  · rw [c4 j hj]; rfl
  · rw [c3 _ _ (by omega) (by omega) (by omega), b3 _ _ (by omega) (by omega), rI_ne (by omega), a5]
  · rw [c3 _ _ (by omega) (by omega) (by omega), b3 _ _ (by omega) (by omega), rI_ne (by omega), a6]
  · rw [c3 _ _ (by omega) (by omega) (by omega), b3 _ _ (by omega) (by omega), rI_ne (by omega), a7]
  · rw [c3 _ _ (by omega) (by omega) (by omega), b5]
  · rw [c6 j, b3 _ _ (by omega) (by omega), rI_ne (by omega), a2 _ _ (by omega) (by omega)]
    simp (disch := omega) only [rI_ne]
    by_cases q : j < nK S
    · rw [if_pos q, if_pos ⟨Nat.zero_le _, q⟩]
    · rw [if_neg q, if_neg (by omega)]
  · rw [c3 _ _ (by omega) (by omega) (by omega), b3 _ _ (by omega) (by omega), rI_ne (by omega), a2 _ _ (by omega) (by omega)]
    simp (disch := omega) only [rI_ne]

theorem rI_sC_ne {σ : Sg} {i0 i1 n i j : Nat} (h : i ≠ i1) : rI (sC σ i0 i1 n) i j = rI σ i j := by rw [rI_sC, if_neg h]
theorem rI_sC_eq {σ : Sg} {i0 i1 n j : Nat} (h : j < n) : rI (sC σ i0 i1 n) i1 j = rI σ i0 j := by rw [rI_sC, if_pos rfl, if_pos h]
theorem copy_c {r r2 : Nat} {σ : Sg} {w : Vw} (hn : r ≠ r2) (h : Rc r2 σ w) : Rc r (f_X4_copy r r2 σ) w := by
  unfold f_X4_copy
  refine ⟨fun j hj => ⟨?_, ?_, ?_⟩, fun j hj => ?_⟩
  · rw [rI_sC_ne (by unfold sid; omega), rI_sC_ne (by unfold sid; omega), rI_sC_ne (by unfold sid; omega), rI_sC_eq hj]; exact (h.1 j hj).1
  · rw [rI_sC_ne (by unfold sid; omega), rI_sC_ne (by unfold sid; omega), rI_sC_eq hj, rI_sC_ne (by unfold sid; omega)]; exact (h.1 j hj).2.1
  · rw [rI_sC_ne (by unfold sid; omega), rI_sC_eq hj, rI_sC_ne (by unfold sid; omega), rI_sC_ne (by unfold sid; omega)]; exact (h.1 j hj).2.2
  · rw [rI_sC_eq hj, rI_sC_ne (by unfold sid; omega), rI_sC_ne (by unfold sid; omega), rI_sC_ne (by unfold sid; omega)]; exact h.2 j hj
/-- the planner is laid out for a search over len half hours -/
def PL (σ : Sg) (S : Vw) (tl : Nat → Int32) (sl : Nat → Nat) (len : Nat) : Prop := Sc σ S ∧ rI σ 13 5 = kI len ∧ ∀ i, i < len → rI σ 15 i = tl i ∧ rI σ 16 i = kI (sl i) ∧ sl i < 48
/-- the search from depth d changes no state before its row, and of the rest only the best and its cost -/
def Pd (d : Nat) (σ σ' : Sg) : Prop := ∀ k j, k < sid (d + 2) → ¬ (k = 13 ∧ (j = 6 ∨ j = 7)) → rI σ' k j = rI σ k j
theorem Pd.refl {d : Nat} {σ : Sg} : Pd d σ σ := fun _ _ _ _ => rfl
theorem Pd.trans {d : Nat} {a b c : Sg} (h : Pd d a b) (k : Pd d b c) : Pd d a c := fun i j h1 h2 => (k i j h1 h2).trans (h i j h1 h2)
theorem Pd.up {d : Nat} {a b : Sg} (h : Pd (d + 1) a b) : Pd d a b := fun i j h1 h2 => h i j (by unfold sid at h1 ⊢; omega) h2
theorem Pd.rc {d : Nat} {a b : Sg} {w : Vw} (h : Pd d a b) (k : Rc (d + 1) a w) : Rc (d + 1) b w := by
  refine ⟨fun j hj => ?_, fun j hj => ?_⟩
  · rw [h _ _ (by unfold sid; omega) (by unfold sid; omega), h _ _ (by unfold sid; omega) (by unfold sid; omega), h _ _ (by unfold sid; omega) (by unfold sid; omega)]
    exact k.1 j hj
  · rw [h _ _ (by unfold sid; omega) (by unfold sid; omega)]
    exact k.2 j hj
theorem Pd.pl {d len : Nat} {a b : Sg} {S : Vw} {tl : Nat → Int32} {sl : Nat → Nat} (h : Pd d a b) (k : PL a S tl sl len) : PL b S tl sl len := by
  refine ⟨k.1.of (fun i j hi => h i j (by unfold sid; omega) (by omega)), ?_, fun i hi => ?_⟩
  · rw [h _ _ (by unfold sid; omega) (by omega)]; exact k.2.1
  · rw [h _ _ (by unfold sid; omega) (by omega), h _ _ (by unfold sid; omega) (by omega)]; exact k.2.2 i hi
theorem Pd.fr {d : Nat} {a b : Sg} (h : Fr (d + 2) a b) : Pd d a b := fun i j h1 _ => h.1 i j (Or.inl h1)
theorem cp_c {d len : Nat} {σ : Sg} {S w : Vw} {tl : Nat → Int32} {sl : Nat → Nat} {b : Int32} (hP : PL σ S tl sl len) (hB : BS S) (hw : BR S w) (hd : d < len) (hl : len ≤ 6) (hR : Rc (d + 1) σ w) (hb : b = 0 ∨ b = 1) :
    (f_X2_canPass (kI d) b σ).1 = (if al S w b (sl d) (nK S) = 0 then 0 else 1) ∧ Rc (d + 2) (f_X2_canPass (kI d) b σ).2 (nx S w b (sl d)) ∧ rI (f_X2_canPass (kI d) b σ).2 (sid (d + 2)) 8 = hE S w b * S 5 (sl d) ∧ Pd d σ (f_X2_canPass (kI d) b σ).2 ∧ rI (f_X2_canPass (kI d) b σ).2 13 6 = rI σ 13 6 ∧ rI (f_X2_canPass (kI d) b σ).2 13 7 = rI σ 13 7 := by
  have e0 : (kI d + 1).toNatClampNeg + 1 = d + 2 := by rw [kI_succ, kI_nat (by omega)]
  have h16 : rI (f_X4_copy (d + 2) (d + 1) σ) 16 d = kI (sl d) := by
    rw [(fr_X4_copy (d + 2) (d + 1) σ).1 _ _ (Or.inl (by unfold sid; omega))]; exact (hP.2.2 d hd).2.1
  have hS := hP.1.fr (fr_X4_copy (d + 2) (d + 1) σ)
  have hc := copy_c (r := d + 2) (r2 := d + 1) (by omega) hR
  have key : ∀ b, (if rI (f_X4_letPass (d + 2) (kI (sl d)) b (f_X4_copy (d + 2) (d + 1) σ)) (sid (d + 2)) 12 = 0 then ((1 : Int32), f_X4_letPass (d + 2) (kI (sl d)) b (f_X4_copy (d + 2) (d + 1) σ)) else (0, f_X4_letPass (d + 2) (kI (sl d)) b (f_X4_copy (d + 2) (d + 1) σ))) = ((if al S w b (sl d) (nK S) = 0 then 0 else 1), f_X4_letPass (d + 2) (kI (sl d)) b (f_X4_copy (d + 2) (d + 1) σ)) := by
    intro b
    have h := lp_c (on := b) (hP.2.2 d hd).2.2 hS hB hc
    rw [h.2.2.2.2.2.2.2.2.1]
    by_cases c : al S w b (sl d) (nK S) = 0
    · rw [if_pos c, if_neg (fun q => (lack_iff hB hw).mp q c)]
    · rw [if_neg c, if_pos ((lack_iff hB hw).mpr c)]
  have e : f_X2_canPass (kI d) b σ = ((if al S w b (sl d) (nK S) = 0 then 0 else 1), f_X4_letPass (d + 2) (kI (sl d)) b (f_X4_copy (d + 2) (d + 1) σ)) := by
    unfold f_X2_canPass
    rw [e0, kI_nat (by omega), h16]
    rcases hb with rfl | rfl
    · rw [if_neg (by decide), key]
    · rw [if_pos rfl, key]
  rw [e]
  dsimp only
  have h := lp_c (on := b) (hP.2.2 d hd).2.2 hS hB hc
  have hf := (fr_X4_copy (d + 2) (d + 1) σ).trans (fr_X4_letPass (d + 2) (kI (sl d)) b (f_X4_copy (d + 2) (d + 1) σ))
  exact ⟨rfl, h.1, h.2.2.2.2.1, Pd.fr hf, hf.1 _ _ (Or.inl (by unfold sid; omega)), hf.1 _ _ (Or.inl (by unfold sid; omega))⟩
theorem ao_c {d len : Nat} {σ : Sg} {S : Vw} {tl : Nat → Int32} {sl : Nat → Nat} {b : Int32} (hP : PL σ S tl sl len) (hd : d < len) (hl : len ≤ 6) : f_X2_isAsOrdered (kI d) b σ = (if tl d = -1 ∨ tl d = b then 1 else 0) := by
  unfold f_X2_isAsOrdered
  rw [kI_nat (by omega), (hP.2.2 d hd).1]
  by_cases c : tl d = -1
  · rw [if_pos c, if_pos (Or.inl c)]
  · rw [if_neg c]
    by_cases c2 : tl d = b
    · rw [if_pos c2, if_pos (Or.inr c2)]
    · rw [if_neg c2, if_neg (by rintro (q | q); exact c q; exact c2 q)]
/-- what a search from depth d leaves -/
def SR (σ σ' : Sg) (d : Nat) (f : Nat → Option Int32) (co : Int32) (base k : Nat) : Prop := Pd d σ σ' ∧ ∀ L B, rI σ 13 7 = L → rI σ 13 6 = kI B → bd 0 1000000000 L → ∃ L' B', fo f co base k (L, B) = (L', B') ∧ rI σ' 13 7 = L' ∧ rI σ' 13 6 = kI B' ∧ bd 0 1000000000 L'
theorem kI_2 (k : Nat) : kI k * 2 = kI (2 * k) := by
  unfold kI
  rw [show (2 : Int32) = Int32.ofNat 2 from rfl, ← Int32.ofNat_mul, Nat.mul_comm]
theorem kI_a (k j : Nat) : kI k + kI j = kI (k + j) := by
  unfold kI
  rw [← Int32.ofNat_add]
/-- one bit of the loop of search -/
theorem sb_c {n d len : Nat} {σ : Sg} {S w : Vw} {tl : Nat → Int32} {sl : Nat → Nat} {b co : Int32} {bn bse : Nat} {srch : Int32 → Int32 → Int32 → Sg → Sg} (hP : PL σ S tl sl len) (hB : BS S) (hw : BR S w) (hd : d + (n + 1) = len) (hl : len ≤ 6) (hR : Rc (d + 1) σ w) (hb : b = kI bn) (hbn : bn < 2) (hco : bd 0 (d * 1000000) co)
    (ih : ∀ (σ : Sg) (w : Vw) (base : Nat) (co : Int32), PL σ S tl sl len → BR S w → Rc (d + 2) σ w → bd 0 ((d + 1 : Nat) * 1000000) co → SR σ (srch (kI (d + 1)) (kI base) co σ) (d + 1) (vs S tl sl n (d + 1) w) co (base * 2 ^ n) (2 ^ n)) :
    SR σ (if f_X2_isAsOrdered (kI d) b σ = 0 then σ else if (f_X2_canPass (kI d) b σ).1 = 0 then (f_X2_canPass (kI d) b σ).2 else srch (kI d + 1) (kI bse * 2 + b) (co + rI (f_X2_canPass (kI d) b σ).2 (sid ((kI d + 1).toNatClampNeg + 1)) 8) (f_X2_canPass (kI d) b σ).2) d (fun s => vb S tl sl d w b (fun w' => vs S tl sl n (d + 1) w' s)) co ((2 * bse + bn) * 2 ^ n) (2 ^ n) := by
  have hb1 : b = 0 ∨ b = 1 := by
    have : bn = 0 ∨ bn = 1 := by omega
    rcases this with q | q
    · left; rw [hb, q]; rfl
    · right; rw [hb, q]; rfl
  have hc := cp_c hP hB hw (by omega) hl hR hb1
  rw [ao_c hP (by omega) hl]
  by_cases c1 : tl d = -1 ∨ tl d = b
  · rw [if_pos c1, if_neg (by decide), hc.1]
    by_cases c2 : al S w b (sl d) (nK S) = 0
    · rw [if_pos c2, if_pos rfl]
      refine ⟨hc.2.2.2.1, fun L B h1 h2 h3 => ⟨L, B, ?_, by rw [hc.2.2.2.2.2, h1], by rw [hc.2.2.2.2.1, h2], h3⟩⟩
      exact fo_none _ (fun s _ => by unfold vb; rw [if_pos c1, if_pos c2])
    · rw [if_neg c2, if_neg (by decide), show (kI d + 1).toNatClampNeg + 1 = d + 2 by rw [kI_succ, kI_nat (by omega)], hc.2.2.1, kI_succ, hb, kI_2, kI_a, ← hb]
      have hcb := bd_add hco (cost_b (on := b) (s := sl d) hB hw) (by omega) (by omega)
      have h := ih (f_X2_canPass (kI d) b σ).2 (nx S w b (sl d)) (2 * bse + bn) (co + hE S w b * S 5 (sl d)) (hc.2.2.2.1.pl hP) (nx_b hB hw) hc.2.1 (hcb.1.mono (by omega) (by omega))
      refine ⟨hc.2.2.2.1.trans h.1.up, fun L B h1 h2 h3 => ?_⟩
      obtain ⟨L', B', g1, g2, g3, g4⟩ := h.2 L B (by rw [hc.2.2.2.2.2, h1]) (by rw [hc.2.2.2.2.1, h2]) h3
      refine ⟨L', B', ?_, g2, g3, g4⟩
      rw [← g1, ← fo_map]
      exact fo_congr _ (fun s _ => by unfold vb; rw [if_pos c1, if_neg c2])
  · rw [if_neg c1, if_pos rfl]
    refine ⟨Pd.refl, fun L B h1 h2 h3 => ⟨L, B, ?_, h1, h2, h3⟩⟩
    exact fo_none _ (fun s _ => by unfold vb; rw [if_neg c1])
def SE (S : Vw) (tl : Nat → Int32) (sl : Nat → Nat) (len n : Nat) : Prop := ∀ (m d : Nat) (σ : Sg) (w : Vw) (base : Nat) (co : Int32), n < m → d + n = len → PL σ S tl sl len → BR S w → Rc (d + 1) σ w → bd 0 (d * 1000000) co → SR σ (f_X2_search m (kI d) (kI base) co σ) d (vs S tl sl n d w) co (base * 2 ^ n) (2 ^ n)
theorem se_pr {S : Vw} {tl : Nat → Int32} {sl : Nat → Nat} {len n d : Nat} {w : Vw} {σ : Sg} {co : Int32} (base : Nat) (hB : BS S) (hl : len ≤ 6) (hd : d + n = len) (hw : BR S w) (hco : bd 0 (d * 1000000) co) (c : ¬ co < rI σ 13 7) : SR σ σ d (vs S tl sl n d w) co (base * 2 ^ n) (2 ^ n) := by
  refine ⟨Pd.refl, fun L B h1 h2 h3 => ⟨L, B, ?_, h1, h2, h3⟩⟩
  refine fo_prune (p := (L, B)) ?_ (hco.mono (by decide) (by omega)) _ (fun s c hs he => (vs_b hB n d w s c (by omega) hw he).mono (by decide) (by omega))
  rw [h1, i_lt] at c
  rw [i_le]
  show L.toInt ≤ _
  omega
theorem se_0 {S : Vw} {tl : Nat → Int32} {sl : Nat → Nat} {len : Nat} (hB : BS S) (hl : len ≤ 6) : SE S tl sl len 0 := by
  intro m d σ w base co hm hd hP hw hR hco
  obtain ⟨m, rfl⟩ : ∃ q, m = q + 1 := ⟨m - 1, by omega⟩
  by_cases c : co < rI σ 13 7
  · rw [f_X2_search, hP.2.1]
    rw [if_pos c]
    rw [if_neg (by rw [i_lt, kI_int (by omega), kI_int (by omega)]; omega)]
    refine ⟨fun k j h1 h2 => by rw [rI_ne (by omega), rI_ne (by omega)], fun L B h1 h2 h3 => ⟨co, base, ?_, rI_eq _ _ _ _, by rw [rI_ne (by omega), rI_eq], hco.mono (by decide) (by omega)⟩⟩
    rw [h1] at c
    show (if co + 0 < L then (co + 0, base * 1 + 0) else (L, B)) = _
    rw [Int32.add_zero, if_pos c, Nat.mul_one, Nat.add_zero]
  · rw [f_X2_search, hP.2.1]
    rw [if_neg c]
    exact se_pr base hB hl hd hw hco c
theorem se_s {S : Vw} {tl : Nat → Int32} {sl : Nat → Nat} {len n : Nat} (hB : BS S) (hl : len ≤ 6) (hs : SE S tl sl len n) : SE S tl sl len (n + 1) := by
  intro m d σ w base co hm hd hP hw hR hco
  obtain ⟨m, rfl⟩ : ∃ q, m = q + 1 := ⟨m - 1, by omega⟩
  by_cases c : co < rI σ 13 7
  · rw [f_X2_search, hP.2.1]
    rw [if_pos c]
    rw [if_pos (by rw [i_lt, kI_int (by omega), kI_int (by omega)]; omega)]
    have ih : ∀ (σ : Sg) (w : Vw) (base : Nat) (co : Int32), PL σ S tl sl len → BR S w → Rc (d + 2) σ w → bd 0 ((d + 1 : Nat) * 1000000) co → SR σ (f_X2_search m (kI (d + 1)) (kI base) co σ) (d + 1) (vs S tl sl n (d + 1) w) co (base * 2 ^ n) (2 ^ n) := fun σ w base co a1 a2 a3 a4 => hs m (d + 1) σ w base co (by omega) (by omega) a1 a2 a3 a4
    have hs0 := sb_c (n := n) (b := 0) (bn := 0) (bse := base) (srch := f_X2_search m) hP hB hw (by omega) hl hR rfl (by omega) hco ih
    generalize h0 : (if f_X2_isAsOrdered (kI d) 0 σ = 0 then σ else if (f_X2_canPass (kI d) 0 σ).1 = 0 then (f_X2_canPass (kI d) 0 σ).2 else f_X2_search m (kI d + 1) (kI base * 2 + 0) (co + rI (f_X2_canPass (kI d) 0 σ).2 (sid ((kI d + 1).toNatClampNeg + 1)) 8) (f_X2_canPass (kI d) 0 σ).2) = σ1 at hs0
    have hs1 := sb_c (n := n) (b := 1) (bn := 1) (bse := base) (srch := f_X2_search m) (hs0.1.pl hP) hB hw (by omega) hl (hs0.1.rc hR) rfl (by omega) hco ih
    generalize h1 : (if f_X2_isAsOrdered (kI d) 1 σ1 = 0 then σ1 else if (f_X2_canPass (kI d) 1 σ1).1 = 0 then (f_X2_canPass (kI d) 1 σ1).2 else f_X2_search m (kI d + 1) (kI base * 2 + 1) (co + rI (f_X2_canPass (kI d) 1 σ1).2 (sid ((kI d + 1).toNatClampNeg + 1)) 8) (f_X2_canPass (kI d) 1 σ1).2) = σ2 at hs1
    have e : f_X2_search_l31 (f_X2_search m) (kI d) (kI base) co 3 0 σ = σ2 := by
      have e2 : ∀ τ, f_X2_search_l31 (f_X2_search m) (kI d) (kI base) co 1 (0 + 1 + 1) τ = τ := fun τ => by rw [f_X2_search_l31, if_pos (by decide)]
      have e1 : f_X2_search_l31 (f_X2_search m) (kI d) (kI base) co 2 (0 + 1) σ1 = σ2 := by
        rw [f_X2_search_l31, if_neg (by decide), e2, e2, e2, ← h1]
        rfl
      rw [f_X2_search_l31, if_neg (by decide), ← e1, ← h0]
      split
      · rfl
      · split <;> rfl
    rw [e]
    refine ⟨hs0.1.trans hs1.1, fun L B q1 q2 q3 => ?_⟩
    obtain ⟨L1, B1, g1, g2, g3, g4⟩ := hs0.2 L B q1 q2 q3
    obtain ⟨L2, B2, k1, k2, k3, k4⟩ := hs1.2 L1 B1 g2 g3 g4
    refine ⟨L2, B2, ?_, k2, k3, k4⟩
    have e3 : (2 : Nat) ^ (n + 1) = 2 ^ n + 2 ^ n := by rw [Nat.pow_succ]; omega
    rw [e3, fo_split, ← k1, ← g1]
    have e4 : base * (2 ^ n + 2 ^ n) = (2 * base + 0) * 2 ^ n := by rw [Nat.mul_add, Nat.add_zero, Nat.mul_assoc, Nat.two_mul]
    have e5 : base * (2 ^ n + 2 ^ n) + 2 ^ n = (2 * base + 1) * 2 ^ n := by rw [e4, Nat.add_mul, Nat.add_mul]; omega
    rw [e5, e4]
    rw [fo_congr (f := vs S tl sl (n + 1) d w) (g := fun s => vb S tl sl d w 0 (fun w' => vs S tl sl n (d + 1) w' s)) _ (fun s hs => by rw [vs, if_pos hs])]
    exact fo_congr _ (fun s hs => by rw [vs, if_neg (by omega), Nat.add_sub_cancel_left])
  · rw [f_X2_search, hP.2.1]
    rw [if_neg c]
    exact se_pr base hB hl hd hw hco c
theorem se_c {S : Vw} {tl : Nat → Int32} {sl : Nat → Nat} {len : Nat} (hB : BS S) (hl : len ≤ 6) (n : Nat) : SE S tl sl len n := by
  induction n with
  | zero => exact se_0 hB hl
  | succ n ih => exact se_s hB hl ih

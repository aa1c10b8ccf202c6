theorem Pf.tr {a b c : Sg} (h : Pf a b) (k : Pf b c) : Pf a c := ⟨fun i j h1 h2 => (k.1 i j h1 h2).trans (h.1 i j h1 h2), k.2.trans h.2⟩
theorem Fp.pf' {a b c : Sg} (h : Fp a b) (k : Pf b c) : Fp a c := ⟨fun i j h1 h2 => (k.1 i j h1 (by omega)).trans (h.1 i j h1 h2), k.2.trans h.2⟩
theorem fo_le {f : Nat → Option Int32} : ∀ k, (∀ s c, s < k → f s = some c → bd 0 999999999 c) → (fo f 0 0 k (1000000000, 0)).1.toInt ≤ 1000000000 := fun k h => by
  have q := fo_cn k h
  by_cases z : cn f k = 0
  · rw [q.1 z]; decide
  · have := (q.2 z).2; omega
theorem tr_loop {S w : Vw} {tl : Nat → Int32} {sl : Nat → Nat} {len : Nat} (hB : BS S) (hw : BR S w) (hl : len ≤ 6) : ∀ (n k : Nat) (σ : Sg), k + n = 65 → k ≤ 2 ^ len → PL σ S tl sl len → Rc 1 σ w → ∃ σ', f_X5_bestCostByTrying_l28 (kI len) n (kI k) (fo (vs S tl sl len 0 w) 0 0 k (1000000000, 0)).1 σ = (if f_X5_checkAllowed (fo (vs S tl sl len 0 w) 0 0 (2 ^ len) (1000000000, 0)).1 σ' = 0 then (0, (fo (vs S tl sl len 0 w) 0 0 (2 ^ len) (1000000000, 0)).1, σ') else (f_X5_checkAllowed (fo (vs S tl sl len 0 w) 0 0 (2 ^ len) (1000000000, 0)).1 σ', 0, σ')) ∧ Pf σ σ'
  | 0, k, σ, h0, h1, hP, hR => absurd h0 (by
      have h6 : (2 : Nat) ^ len ≤ 2 ^ 6 := Nat.pow_le_pow_right (by decide) hl
      omega)
  | n + 1, k, σ, h0, h1, hP, hR => by
    have h6 : (2 : Nat) ^ len ≤ 2 ^ 6 := Nat.pow_le_pow_right (by decide) hl
    rw [f_X5_bestCostByTrying_l28, sh_t len (by omega)]
    by_cases c : 2 ^ len ≤ k
    · rw [if_pos (by rw [i_le, kI_int (by omega), kI_int (by omega)]; omega)]
      have e : k = 2 ^ len := by omega
      rw [← e]
      exact ⟨σ, rfl, ⟨fun _ _ _ _ => rfl, rfl⟩⟩
    · rw [if_neg (by rw [i_le, kI_int (by omega), kI_int (by omega)]; omega)]
      have a := cost_c (s := k) hB hl (by omega) hP hw hR
      have af := pf_X2_costOf (kI k) σ
      obtain ⟨σ', g1, g2⟩ := tr_loop hB hw hl n (k + 1) (f_X2_costOf (kI k) σ).2 (by omega) (by omega) (a.2.pl hP) (a.2.rc hR)
      refine ⟨σ', ?_, af.tr g2⟩
      rw [← g1, kI_succ]
      congr 1
      rw [a.1, fo]
      have hle := fo_le (f := vs S tl sl len 0 w) k (fun s c _ he => (vs_b hB len 0 w s c (by omega) hw he).mono (by decide) (by omega))
      cases vs S tl sl len 0 w k with
      | none =>
        dsimp only
        rw [if_neg (by rw [i_lt]; have : (1000000000 : Int32).toInt = 1000000000 := rfl; omega)]
      | some c =>
        dsimp only
        rw [Int32.zero_add]
        split <;> rfl
theorem al_loop {S w : Vw} {tl : Nat → Int32} {sl : Nat → Nat} {len : Nat} (hB : BS S) (hw : BR S w) (hl : len ≤ 6) : ∀ (n k : Nat) (σ : Sg), k + n = 65 → k ≤ 2 ^ len → PL σ S tl sl len → Rc 1 σ w → ∃ σ', f_X5_allowedSchedules_l27 (kI len) n (kI k) (kI (cn (vs S tl sl len 0 w) k)) σ = (0, kI (cn (vs S tl sl len 0 w) (2 ^ len)), σ') ∧ Pf σ σ'
  | 0, k, σ, h0, h1, hP, hR => absurd h0 (by
      have h6 : (2 : Nat) ^ len ≤ 2 ^ 6 := Nat.pow_le_pow_right (by decide) hl
      omega)
  | n + 1, k, σ, h0, h1, hP, hR => by
    have h6 : (2 : Nat) ^ len ≤ 2 ^ 6 := Nat.pow_le_pow_right (by decide) hl
    rw [f_X5_allowedSchedules_l27, sh_t len (by omega)]
    by_cases c : 2 ^ len ≤ k
    · rw [if_pos (by rw [i_le, kI_int (by omega), kI_int (by omega)]; omega)]
      have e : k = 2 ^ len := by omega
      rw [← e]
      exact ⟨σ, rfl, ⟨fun _ _ _ _ => rfl, rfl⟩⟩
    · rw [if_neg (by rw [i_le, kI_int (by omega), kI_int (by omega)]; omega)]
      have a := cost_c (s := k) hB hl (by omega) hP hw hR
      have af := pf_X2_costOf (kI k) σ
      obtain ⟨σ', g1, g2⟩ := al_loop hB hw hl n (k + 1) (f_X2_costOf (kI k) σ).2 (by omega) (by omega) (a.2.pl hP) (a.2.rc hR)
      refine ⟨σ', ?_, af.tr g2⟩
      rw [a.1]
      have hb := fun c => vs_b (tl := tl) (sl := sl) hB len 0 w k c (by omega) hw
      rw [cn] at g1
      cases e : vs S tl sl len 0 w k with
      | none =>
        rw [e] at g1
        dsimp only at g1 ⊢
        rw [if_pos (by decide), kI_succ]
        exact g1
      | some c =>
        rw [e] at g1
        dsimp only at g1 ⊢
        have hc := hb c e
        rw [if_neg (by rw [i_le]; have : (1000000000 : Int32).toInt = 1000000000 := rfl; have := hc.2; omega), kI_succ, kI_succ]
        exact g1
theorem be_i {σ : Sg} {S w O : Vw} {p hz n N : Nat} {M : Mt} {sh : Nat → Int32} (h : IC σ S w O p hz M sh) (hI : IB S w O p hz M N) (hp : p < 90000) (hn : n ≤ 6) : PL (f_X2_begin (kI p) (kI n) σ) S (tlO O p) (slP p) n ∧ Rc 1 (f_X2_begin (kI p) (kI n) σ) w ∧ Fp σ (f_X2_begin (kI p) (kI n) σ) ∧ GP (f_X2_begin (kI p) (kI n) σ) := by
  have a := be_c (p := p) hI.2.2.1 (by omega) hn h.1 h.2.2.1 h.2.1
  exact ⟨a.1, a.2, fp_X2_begin (kI p) (kI n) σ, gp_X2_begin (kI p) (kI n) σ (ic_gp h hI) ⟨by rw [kI_int (by omega)]; omega, by rw [kI_int (by omega)]; omega⟩⟩
theorem op_bestCostByTrying {N : Nat} {σ : Sg} (h : Inv N σ) (hN : N ≤ 80000) (n : Int32) : OKw (N + 12) (f_L_bestCostByTrying n σ) (f_X6_bestCostByTrying n (f_L_bestCostByTrying n σ).2) := by
  obtain ⟨S, w, O, p, hz, M, sh, hI, hC, hM⟩ := id h
  by_cases c : 1 ≤ n.toInt ∧ n.toInt ≤ 6
  · obtain ⟨k, rfl, hk⟩ : ∃ k, n = kI k ∧ k ≤ 6 := ⟨n.toInt.toNat, kI_of (by omega), by omega⟩
    have hp : p < 90000 := by have := hI.2.2.2.1; omega
    have b := be_i (n := k) hC hI hp hk
    obtain ⟨σ1, g1, g2⟩ := tr_loop hI.1 hI.2.1 hk 65 0 _ rfl (Nat.zero_le _) b.1 b.2.1
    have i1 := ic_fp hC (b.2.2.1.pf' g2) (b.2.2.2.pf g2)
    have hM1 := hM.mc i1.2
    have eF : f_X5_bestCostByTrying (kI k) σ = if bn S w O p k = 0 then (5, 0, σ1) else (0, (bs S w O p k).1, σ1) := by
      unfold f_X5_bestCostByTrying
      rw [crI _ _ 1 6 rfl rfl, if_pos c, if_pos rfl, hC.2.2.2.1]
      refine Eq.trans g1 ?_
      show (if f_X5_checkAllowed (bs S w O p k).1 σ1 = 0 then (0, (bs S w O p k).1, σ1) else (f_X5_checkAllowed (bs S w O p k).1 σ1, 0, σ1)) = _
      rw [ck_al (O := O) (p := p) hI.1 hI.2.1 hk rfl]
      by_cases z : bn S w O p k = 0
      · rw [if_pos z, if_pos z, if_neg (by decide)]
      · rw [if_neg z, if_neg z, if_pos rfl]
    by_cases z : bn S w O p k = 0
    · rw [if_pos z] at eF
      have eL : f_L_bestCostByTrying (kI k) σ = (2, σ1) := by unfold f_L_bestCostByTrying; rw [eF]; rfl
      have g := lk_i (n := k) (im_th hM1 0) hI hp hk
      have eM : f_X6_bestCostByTrying (kI k) σ1 = (-1, sI (f_X6_looks (kI k) (sI σ1 19 32 0)) 19 32 2) := by
        unfold f_X6_bestCostByTrying f_X6_bestCost
        rw [inI _ _ 1 6 rfl rfl, if_pos c, if_neg (by decide), g.2.2.1, if_pos ((kI_0 (by omega)).mpr z)]
      rw [eL, eM]
      exact ⟨⟨hM1.gm hI (by omega), rI_eq _ _ _ _, fun q => absurd q (show ¬ (2 : Int32) = 0 by decide)⟩, S, w, O, p, hz, M, sh, hI.up (by omega), ((i1.1.cc (cc_th _ 0)).cc g.2.1).cc (cc_th _ 2), im_th g.1 2⟩
    · rw [if_neg z] at eF
      have eL : f_L_bestCostByTrying (kI k) σ = (0, sL σ1 31 (Int32.toNatClampNeg 0) (bs S w O p k).1.toInt64) := by unfold f_L_bestCostByTrying; rw [eF]; rfl
      have g := lk_i (n := k) (im_th (im_31 hM1 (bs S w O p k).1.toInt64) 0) hI hp hk
      have eM : f_X6_bestCostByTrying (kI k) (sL σ1 31 (Int32.toNatClampNeg 0) (bs S w O p k).1.toInt64) = ((bs S w O p k).1, sI (f_X6_looks (kI k) (sI (sL σ1 31 (Int32.toNatClampNeg 0) (bs S w O p k).1.toInt64) 19 32 0)) 19 32 0) := by
        unfold f_X6_bestCostByTrying f_X6_bestCost
        rw [inI _ _ 1 6 rfl rfl, if_pos c, if_neg (by decide), g.2.2.1, if_neg (fun q => z ((kI_0 (by have := bn_64 (S := S) (w := w) (O := O) (p := p) hk; omega)).mp q)), (g.2.2.2.1 z).1]
      rw [eL, eM]
      refine ok_put (hM1.gm hI (by omega)) rfl (rI_eq _ _ _ _) ((g.2.2.2.2.2 _).trans (rL_eq _ _ _ _)) ?_
      exact ⟨S, w, O, p, hz, M, sh, hI.up (by omega), (((ic_31 i1.1 _).cc (cc_th _ 0)).cc g.2.1).cc (cc_th _ 0), im_th g.1 0⟩
  · have e : f_X5_bestCostByTrying n σ = (1, 0, σ) := by
      unfold f_X5_bestCostByTrying
      rw [crI _ _ 1 6 rfl rfl, if_neg c, if_neg (by decide)]
    have eL : f_L_bestCostByTrying n σ = (1, σ) := by unfold f_L_bestCostByTrying; rw [e]; rfl
    have eM : f_X6_bestCostByTrying n σ = (-1, sI σ 19 32 1) := by
      unfold f_X6_bestCostByTrying f_X6_bestCost
      rw [inI _ _ 1 6 rfl rfl, if_neg c, if_pos rfl]
    rw [eL, eM]
    exact ok_throw h hN (by decide)
theorem op_allowedSchedules {N : Nat} {σ : Sg} (h : Inv N σ) (hN : N ≤ 80000) (n : Int32) : OKw (N + 12) (f_L_allowedSchedules n σ) (f_X6_allowedSchedules n (f_L_allowedSchedules n σ).2) := by
  obtain ⟨S, w, O, p, hz, M, sh, hI, hC, hM⟩ := id h
  by_cases c : 1 ≤ n.toInt ∧ n.toInt ≤ 6
  · obtain ⟨k, rfl, hk⟩ : ∃ k, n = kI k ∧ k ≤ 6 := ⟨n.toInt.toNat, kI_of (by omega), by omega⟩
    have hp : p < 90000 := by have := hI.2.2.2.1; omega
    have b := be_i (n := k) hC hI hp hk
    obtain ⟨σ1, g1, g2⟩ := al_loop hI.1 hI.2.1 hk 65 0 _ rfl (Nat.zero_le _) b.1 b.2.1
    have i1 := ic_fp hC (b.2.2.1.pf' g2) (b.2.2.2.pf g2)
    have hM1 := hM.mc i1.2
    have eF : f_X5_allowedSchedules (kI k) σ = (0, kI (bn S w O p k), σ1) := by
      unfold f_X5_allowedSchedules
      rw [crI _ _ 1 6 rfl rfl, if_pos c, if_pos rfl, hC.2.2.2.1]
      exact g1
    have eL : f_L_allowedSchedules (kI k) σ = (0, sL σ1 31 (Int32.toNatClampNeg 0) (kI (bn S w O p k)).toInt64) := by unfold f_L_allowedSchedules; rw [eF]; rfl
    have g := lk_i (n := k) (im_th (im_31 hM1 (kI (bn S w O p k)).toInt64) 0) hI hp hk
    have eM : f_X6_allowedSchedules (kI k) (sL σ1 31 (Int32.toNatClampNeg 0) (kI (bn S w O p k)).toInt64) = (kI (bn S w O p k), f_X6_looks (kI k) (sI (sL σ1 31 (Int32.toNatClampNeg 0) (kI (bn S w O p k)).toInt64) 19 32 0)) := by
      unfold f_X6_allowedSchedules
      rw [inI _ _ 1 6 rfl rfl, if_pos c, if_neg (by decide), g.2.2.1]
    rw [eL, eM]
    refine ok_put (hM1.gm hI (by omega)) rfl (g.2.2.2.2.1.trans (rI_eq _ _ _ _)) ((g.2.2.2.2.2 _).trans (rL_eq _ _ _ _)) ?_
    exact ⟨S, w, O, p, hz, M, sh, hI.up (by omega), ((ic_31 i1.1 _).cc (cc_th _ 0)).cc g.2.1, g.1⟩
  · have e : f_X5_allowedSchedules n σ = (1, 0, σ) := by
      unfold f_X5_allowedSchedules
      rw [crI _ _ 1 6 rfl rfl, if_neg c, if_neg (by decide)]
    have eL : f_L_allowedSchedules n σ = (1, σ) := by unfold f_L_allowedSchedules; rw [e]; rfl
    have eM : f_X6_allowedSchedules n σ = (-1, sI σ 19 32 1) := by
      unfold f_X6_allowedSchedules
      rw [inI _ _ 1 6 rfl rfl, if_neg c, if_pos rfl]
    rw [eL, eM]
    exact ok_throw h hN (by decide)

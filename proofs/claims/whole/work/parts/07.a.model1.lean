/-- what the reference needs of its own settings -/
def GT (σ : Sg) : Prop := (rI σ 19 4).toInt ≤ 4 ∧ (rI σ 19 8).toInt ≤ 3 ∧ ¬ rI σ 19 11 = 0
theorem GT.of {σ σ' : Sg} (h : GT σ) (e4 : rI σ' 19 4 = rI σ 19 4) (e8 : rI σ' 19 8 = rI σ 19 8) (e11 : rI σ' 19 11 = rI σ 19 11) : GT σ' := by unfold GT; rw [e4, e8, e11]; exact h
def GR (σ : Sg) : Prop := (0 ≤ (rI σ 19 16).toInt ∧ (rI σ 19 16).toInt ≤ 6) ∧ ∀ j, vp_nar .boolean (rI σ 29 j) = rI σ 29 j
theorem GR.of {σ σ' : Sg} (h : GR σ) (e : rI σ' 19 16 = rI σ 19 16) (e2 : ∀ j, rI σ' 29 j = rI σ 29 j) : GR σ' := ⟨by rw [e]; exact h.1, fun j => by rw [e2]; exact h.2 j⟩
theorem GR.nar {σ σ' : Sg} (h : GR σ) (e2 : ∀ j, rI σ' 29 j = rI σ 29 j) (j : Nat) : vp_nar .boolean (rI σ' 29 j) = rI σ' 29 j := by rw [e2]; exact h.2 j
theorem now_in {t : Int32} (h : vp_in t 4) {w : Int32} (hw : w = 0 ∨ w = 1 ∨ w = 2) : vp_in (3 * t + w) 15 := by
  obtain ⟨j, hj, rfl⟩ := vp_in_of h (by decide)
  have h2 : j = 0 ∨ j = 1 ∨ j = 2 ∨ j = 3 := by omega
  rcases h2 with rfl | rfl | rfl | rfl <;> rcases hw with rfl | rfl | rfl <;> (unfold vp_in; decide)
theorem lev_in {i : Int32} (h : vp_in i 3) : vp_in (12 + i) 15 := by
  obtain ⟨j, hj, rfl⟩ := vp_in_of h (by decide)
  have h2 : j = 0 ∨ j = 1 ∨ j = 2 := by omega
  rcases h2 with rfl | rfl | rfl <;> (unfold vp_in; decide)
theorem dm_in {t s : Int32} (h : vp_in t 3) (hs : vp_in s 48) : vp_in (48 * t + s) 144 := by
  obtain ⟨j, hj, rfl⟩ := vp_in_of h (by decide)
  obtain ⟨k, hk, rfl⟩ := vp_in_of hs (by decide)
  rw [show (48 : Int32) = nI 48 from rfl, pk_mul, nI_add]
  exact vp_in_nI (by omega) (by decide)
theorem rem_in {x : Int32} (h : 0 ≤ x.toInt) : vp_in (x - x / 48 * 48) 48 := by
  obtain ⟨j, hj, rfl⟩ := nI_of0 h
  rw [show (48 : Int32) = nI 48 from rfl, pk_rem hj (by decide) (by decide)]
  exact vp_in_nI (Nat.mod_lt _ (by decide)) (by decide)
/-- the reference's half hours: the row, what a half hour gave, what a look left -/
def Ml (σ σ' : Sg) : Prop := (∀ k j, k ≠ 20 → k ≠ 21 → k ≠ 30 → ¬ (k = 19 ∧ ((17 ≤ j ∧ j ≤ 21) ∨ (29 ≤ j ∧ j ≤ 31) ∨ j = 33)) → rI σ' k j = rI σ k j) ∧ σ'.2 = σ.2
theorem Ml.refl {σ : Sg} : Ml σ σ := ⟨fun _ _ _ _ _ _ => rfl, rfl⟩
theorem Ml.trans {a b c : Sg} (h1 : Ml a b) (h2 : Ml b c) : Ml a c := ⟨fun k j p q r s => (h2.1 k j p q r s).trans (h1.1 k j p q r s), h2.2.trans h1.2⟩
theorem Ml.sI {i j : Nat} {x : Int32} {a b : Sg} (h : Ml a b) (hi : i = 20 ∨ i = 21 ∨ i = 30 ∨ (i = 19 ∧ ((17 ≤ j ∧ j ≤ 21) ∨ (29 ≤ j ∧ j ≤ 31) ∨ j = 33))) : Ml a (sI b i j x) := ⟨fun k j' p q r s => by rw [rI_sI, if_neg (fun e => by obtain ⟨rfl, rfl⟩ := e; omega)]; exact h.1 k j' p q r s, h.2⟩
theorem Ml.ite {c : Prop} [Decidable c] {σ : Sg} {a b : Int32 × Sg} (h1 : Ml σ a.2) (h2 : Ml σ b.2) : Ml σ (if c then a else b).2 := by
  by_cases h : c
  · rw [if_pos h]; exact h1
  · rw [if_neg h]; exact h2
theorem GT.ml {a b : Sg} (h : GT a) (f : Ml a b) : GT b := h.of (f.1 19 4 (by decide) (by decide) (by decide) (by omega)) (f.1 19 8 (by decide) (by decide) (by decide) (by omega)) (f.1 19 11 (by decide) (by decide) (by decide) (by omega))
theorem GR.ml {a b : Sg} (h : GR a) (f : Ml a b) : GR b := h.of (f.1 19 16 (by decide) (by decide) (by decide) (by omega)) (fun j => f.1 29 j (by decide) (by decide) (by decide) (by omega))
theorem Ml.hh {a b : Sg} (f : Ml a b) : rI b 19 12 = rI a 19 12 := f.1 19 12 (by decide) (by decide) (by decide) (by omega)
def f_X6_in (v : Int64) (lo : Int64) (hi : Int64) (σ : Sg) : Int32 := if (lg_cmp v lo) < 0 then 0 else (if 0 < (lg_cmp v hi) then 0 else 1)
set_option maxHeartbeats 4000000 in
set_option maxRecDepth 100000 in
theorem ct_X6_in {D : va_G} {ad : Nat → Nat} {cy : Nat → ClassId} {ba : Nat} (l : Launch) (v : Int64) (lo : Int64) (hi : Int64) (σ : Sg)  : Ct D ad cy ba l 0 yX6_in cX6_in 6 (some .boolean) [.long v, .long lo, .long hi] σ (some (.int (f_X6_in v lo hi σ))) σ := by
  generalize hE : f_X6_in v lo hi σ = Z
  dsimp only [f_X6_in] at hE
  refine Ct.of (by decide +kernel) (Nat.le_of_ble_eq_true rfl) ?_
  intro p e s m below meth c ls B F P hrt hlk hl
  have hx := B.1
  have hb := B.2.1
  have hl : lv_has ls 6 [(0, .long v), (2, .long lo), (4, .long hi)] := hl
  refine lv_lload_n hx hb dX6_in_0 rfl (lv_at hl 0 rfl) ?_
  refine lv_lload_n hx hb dX6_in_1 rfl (lv_at hl 1 rfl) ?_
  refine W.lcmp hx hb dX6_in_2 ?_
  refine lv_if_lt (tgt := 17) hx hb dX6_in_3 (by decide) (fun c3 => ?_) (fun c3 => ?_)
  · rw [if_pos c3] at hE
    refine lv_iconst (v := 0) hx hb dX6_in_17 (by decide) ?_
    exact g_retz B P (by rw [← hE]) rfl hrt rfl hlk dX6_in_18
  · rw [if_neg c3] at hE
    refine lv_lload_n hx hb dX6_in_6 rfl (lv_at hl 0 rfl) ?_
    refine lv_lload hx hb dX6_in_7 (lv_at hl 2 rfl) ?_
    refine W.lcmp hx hb dX6_in_9 ?_
    refine lv_if_gt (tgt := 17) hx hb dX6_in_10 (by decide) (fun c10 => ?_) (fun c10 => ?_)
    · rw [if_pos c10] at hE
      refine lv_iconst (v := 0) hx hb dX6_in_17 (by decide) ?_
      exact g_retz B P (by rw [← hE]) rfl hrt rfl hlk dX6_in_18
    · rw [if_neg c10] at hE
      refine lv_iconst (v := 1) hx hb dX6_in_13 (by decide) ?_
      refine lv_goto (tgt := 18) hx hb dX6_in_14 (by decide) ?_
      exact g_retz B P (by rw [← hE]) rfl hrt rfl hlk dX6_in_18
theorem in01 (a b c : Int64) (σ : Sg) : f_X6_in a b c σ = 0 ∨ f_X6_in a b c σ = 1 := by
  unfold f_X6_in
  split
  · exact Or.inl rfl
  · split
    · exact Or.inl rfl
    · exact Or.inr rfl
theorem narb_in (a b c : Int64) (σ : Sg) : narrow .boolean (.int (f_X6_in a b c σ)) = .int (f_X6_in a b c σ) := by rcases in01 a b c σ with e | e <;> rw [e] <;> rfl
theorem lc_lt {x y : Int64} : lg_cmp x y < 0 ↔ x.toInt < y.toInt := by
  unfold lg_cmp
  simp only [gt_iff_lt, Int64.lt_iff_toInt_lt, ← Int64.toInt_inj]
  split
  · constructor
    · intro h; exact absurd h (by decide)
    · omega
  · split
    · constructor
      · intro h; exact absurd h (by decide)
      · omega
    · constructor
      · omega
      · intro; decide
theorem lc_gt {x y : Int64} : 0 < lg_cmp x y ↔ y.toInt < x.toInt := by
  unfold lg_cmp
  simp only [gt_iff_lt, Int64.lt_iff_toInt_lt, ← Int64.toInt_inj]
  split
  · constructor
    · omega
    · intro; decide
  · split
    · constructor
      · intro h; exact absurd h (by decide)
      · omega
    · constructor
      · intro h; exact absurd h (by decide)
      · omega
/-- in(v, low, high), of three ints -/
theorem in_iff {a b c : Int64} {σ : Sg} : ¬ f_X6_in a b c σ = 0 ↔ b.toInt ≤ a.toInt ∧ a.toInt ≤ c.toInt := by
  unfold f_X6_in
  simp only [lc_lt, lc_gt]
  split
  · constructor
    · intro h; exact absurd rfl h
    · omega
  · split
    · constructor
      · intro h; exact absurd rfl h
      · omega
    · constructor
      · omega
      · intro _ h; exact absurd h (by decide)
theorem i_l {x : Int32} : x.toInt64.toInt = x.toInt := Int32.toInt_toInt64 x
theorem nk_X6_in : nmOk yX6_in RX6 3 := ⟨rfl, by decide +kernel, by decide +kernel, by decide +kernel⟩
def f_X6_isTrain (t : Int32) (σ : Sg) : Int32 := (f_X6_in t.toInt64 0 (((rI σ 19 4) - 1).toInt64) σ)
set_option maxHeartbeats 4000000 in
set_option maxRecDepth 100000 in
theorem ct_X6_isTrain {D : va_G} {ad : Nat → Nat} {cy : Nat → ClassId} {ba : Nat} (l : Launch) (t : Int32) (σ : Sg)  : Ct D ad cy ba l 1 yX6_isTrain cX6_isTrain 2 (some .boolean) [.ref (ad 19), .int t] σ (some (.int (f_X6_isTrain t σ))) σ := by
  generalize hE : f_X6_isTrain t σ = Z
  dsimp only [f_X6_isTrain] at hE
  refine Ct.of (by decide +kernel) (Nat.le_of_ble_eq_true rfl) ?_
  intro p e s m below meth c ls B F P hrt hlk hl
  have hx := B.1
  have hb := B.2.1
  have hl : lv_has ls 2 [(0, .ref (ad 19)), (1, .int t)] := hl
  refine lv_iload_n hx hb dX6_isTrain_0 rfl (lv_at hl 1 rfl) ?_
  refine lv_i2l hx hb dX6_isTrain_1 rfl ?_
  refine lv_lconst (v := 0) hx hb dX6_isTrain_2 (by decide) ?_
  refine lv_aload_n hx hb dX6_isTrain_3 rfl (lv_at hl 0 rfl) ?_
  refine g_geti (k := 4) B F P ok6 (by decide) rfl rfl rfl (by decide) q818 dX6_isTrain_4 ?_
  refine lv_iconst (v := 1) hx hb dX6_isTrain_7 (by decide) ?_
  refine lv_isub hx hb dX6_isTrain_8 ?_
  refine lv_i2l hx hb dX6_isTrain_9 rfl ?_
  refine g_callS B F P (As := [.long t.toInt64, .long 0, .long (((rI σ 19 4) - 1).toInt64)]) (ct_X6_in (D := D) (ad := ad) (cy := cy) (ba := ba) l t.toInt64 0 (((rI σ 19 4) - 1).toInt64) σ ) q927 q928 q8 q929 nk_X6_in rfl ⟨(Nat.le_of_ble_eq_true rfl), (Nat.le_of_ble_eq_true rfl)⟩ hl.1 rfl (Nat.le_of_ble_eq_true rfl) dX6_isTrain_10 ⟨Nat.le_of_ble_eq_true rfl, Nat.le_of_ble_eq_true rfl⟩ (fun H locs P => ?_)
  exact g_retz B P (by rw [← hE]) rfl hrt (narb_in _ _ _ _) hlk dX6_isTrain_13
def f_X6_isTank (t : Int32) (σ : Sg) : Int32 := (f_X6_in t.toInt64 0 (((rI σ 19 8) - 1).toInt64) σ)
set_option maxHeartbeats 4000000 in
set_option maxRecDepth 100000 in
theorem ct_X6_isTank {D : va_G} {ad : Nat → Nat} {cy : Nat → ClassId} {ba : Nat} (l : Launch) (t : Int32) (σ : Sg)  : Ct D ad cy ba l 1 yX6_isTank cX6_isTank 2 (some .boolean) [.ref (ad 19), .int t] σ (some (.int (f_X6_isTank t σ))) σ := by
  generalize hE : f_X6_isTank t σ = Z
  dsimp only [f_X6_isTank] at hE
  refine Ct.of (by decide +kernel) (Nat.le_of_ble_eq_true rfl) ?_
  intro p e s m below meth c ls B F P hrt hlk hl
  have hx := B.1
  have hb := B.2.1
  have hl : lv_has ls 2 [(0, .ref (ad 19)), (1, .int t)] := hl
  refine lv_iload_n hx hb dX6_isTank_0 rfl (lv_at hl 1 rfl) ?_
  refine lv_i2l hx hb dX6_isTank_1 rfl ?_
  refine lv_lconst (v := 0) hx hb dX6_isTank_2 (by decide) ?_
  refine lv_aload_n hx hb dX6_isTank_3 rfl (lv_at hl 0 rfl) ?_
  refine g_geti (k := 8) B F P ok6 (by decide) rfl rfl rfl (by decide) q822 dX6_isTank_4 ?_
  refine lv_iconst (v := 1) hx hb dX6_isTank_7 (by decide) ?_
  refine lv_isub hx hb dX6_isTank_8 ?_
  refine lv_i2l hx hb dX6_isTank_9 rfl ?_
  refine g_callS B F P (As := [.long t.toInt64, .long 0, .long (((rI σ 19 8) - 1).toInt64)]) (ct_X6_in (D := D) (ad := ad) (cy := cy) (ba := ba) l t.toInt64 0 (((rI σ 19 8) - 1).toInt64) σ ) q927 q928 q8 q929 nk_X6_in rfl ⟨(Nat.le_of_ble_eq_true rfl), (Nat.le_of_ble_eq_true rfl)⟩ hl.1 rfl (Nat.le_of_ble_eq_true rfl) dX6_isTank_10 ⟨Nat.le_of_ble_eq_true rfl, Nat.le_of_ble_eq_true rfl⟩ (fun H locs P => ?_)
  exact g_retz B P (by rw [← hE]) rfl hrt (narb_in _ _ _ _) hlk dX6_isTank_13
theorem i_pred' {i : Int32} (h0 : -1000 < i.toInt) : (i - 1).toInt = i.toInt - 1 := by
  have h9 := i.toInt_lt
  rw [Int32.toInt_sub, show (1 : Int32).toInt = 1 from rfl, Int.bmod_def]
  omega
theorem mtr_in {t : Int32} {σ : Sg} (hT : GT σ) (h0 : 0 ≤ (rI σ 19 4).toInt) (h : ¬ f_X6_isTrain t σ = 0) : vp_in t 4 := by
  unfold f_X6_isTrain at h
  rw [in_iff, i_l, i_l, i_pred' (by omega), show (0 : Int64).toInt = 0 from rfl] at h
  have := hT.1
  exact vp_in_iff.mpr ⟨h.1, by omega⟩
theorem mtk_in {t : Int32} {σ : Sg} (hT : GT σ) (h0 : 0 ≤ (rI σ 19 8).toInt) (h : ¬ f_X6_isTank t σ = 0) : vp_in t 3 := by
  unfold f_X6_isTank at h
  rw [in_iff, i_l, i_l, i_pred' (by omega), show (0 : Int64).toInt = 0 from rfl] at h
  have := hT.2.1
  exact vp_in_iff.mpr ⟨h.1, by omega⟩
def f_X6_of (t : Int32) (w : Int32) (σ : Sg) : Int32 := (rI σ 20 ((3 * t) + w).toNatClampNeg)
set_option maxHeartbeats 4000000 in
set_option maxRecDepth 100000 in
theorem ct_X6_of {D : va_G} {ad : Nat → Nat} {cy : Nat → ClassId} {ba : Nat} (l : Launch) (t : Int32) (w : Int32) (σ : Sg) (hof : vp_in (3 * t + w) 15) : Ct D ad cy ba l 0 yX6_of cX6_of 3 (some .int) [.ref (ad 19), .int t, .int w] σ (some (.int (f_X6_of t w σ))) σ := by
  generalize hE : f_X6_of t w σ = Z
  dsimp only [f_X6_of] at hE
  refine Ct.of (by decide +kernel) (Nat.le_of_ble_eq_true rfl) ?_
  intro p e s m below meth c ls B F P hrt hlk hl
  have hx := B.1
  have hb := B.2.1
  have hl : lv_has ls 3 [(0, .ref (ad 19)), (1, .int t), (2, .int w)] := hl
  refine lv_aload_n hx hb dX6_of_0 rfl (lv_at hl 0 rfl) ?_
  refine g_getr (k := 0) (t := 20) B F P ok6 (by decide) rfl rfl rfl (by decide) rfl q814 dX6_of_1 ?_
  refine lv_iconst (v := 3) hx hb dX6_of_4 (by decide) ?_
  refine lv_iload_n hx hb dX6_of_5 rfl (lv_at hl 1 rfl) ?_
  refine lv_imul hx hb dX6_of_6 ?_
  refine lv_iload_n hx hb dX6_of_7 rfl (lv_at hl 2 rfl) ?_
  refine lv_iadd hx hb dX6_of_8 ?_
  refine g_ild B F P (by decide) rfl rfl hof dX6_of_9 ?_
  exact g_reti B P (by rw [← hE]) rfl hrt hlk dX6_of_10
theorem nk_X6_of : nmOk yX6_of RX6 2 := ⟨rfl, by decide +kernel, by decide +kernel, by decide +kernel⟩
def f_X6_gives (t : Int32) (σ : Sg) : Int32 := (if 0 < ((((rI σ 22 t.toNatClampNeg) * ((rI σ 23 t.toNatClampNeg) - (rI σ 19 10))) * (100 - (f_X6_of t 0 σ))) / 500) then ((((rI σ 22 t.toNatClampNeg) * ((rI σ 23 t.toNatClampNeg) - (rI σ 19 10))) * (100 - (f_X6_of t 0 σ))) / 500) else 0)
set_option maxHeartbeats 4000000 in
set_option maxRecDepth 100000 in
theorem ct_X6_gives {D : va_G} {ad : Nat → Nat} {cy : Nat → ClassId} {ba : Nat} (l : Launch) (t : Int32) (σ : Sg) (ht : vp_in t 4) : Ct D ad cy ba l 1 yX6_gives cX6_gives 2 (some .int) [.ref (ad 19), .int t] σ (some (.int (f_X6_gives t σ))) σ := by
  generalize hE : f_X6_gives t σ = Z
  dsimp only [f_X6_gives] at hE
  refine Ct.of (by decide +kernel) (Nat.le_of_ble_eq_true rfl) ?_
  intro p e s m below meth c ls B F P hrt hlk hl
  have hx := B.1
  have hb := B.2.1
  have hl : lv_has ls 2 [(0, .ref (ad 19)), (1, .int t)] := hl
  refine lv_iconst (v := 0) hx hb dX6_gives_0 (by decide) ?_
  refine lv_aload_n hx hb dX6_gives_1 rfl (lv_at hl 0 rfl) ?_
  refine g_getr (k := 2) (t := 22) B F P ok6 (by decide) rfl rfl rfl (by decide) rfl q816 dX6_gives_2 ?_
  refine lv_iload_n hx hb dX6_gives_5 rfl (lv_at hl 1 rfl) ?_
  refine g_ild B F P (by decide) rfl rfl ht dX6_gives_6 ?_
  refine lv_aload_n hx hb dX6_gives_7 rfl (lv_at hl 0 rfl) ?_
  refine g_getr (k := 3) (t := 23) B F P ok6 (by decide) rfl rfl rfl (by decide) rfl q817 dX6_gives_8 ?_
  refine lv_iload_n hx hb dX6_gives_11 rfl (lv_at hl 1 rfl) ?_
  refine g_ild B F P (by decide) rfl rfl ht dX6_gives_12 ?_
  refine lv_aload_n hx hb dX6_gives_13 rfl (lv_at hl 0 rfl) ?_
  refine g_geti (k := 10) B F P ok6 (by decide) rfl rfl rfl (by decide) q824 dX6_gives_14 ?_
  refine lv_isub hx hb dX6_gives_17 ?_
  refine lv_imul hx hb dX6_gives_18 ?_
  refine lv_bipush (v := 100) hx hb dX6_gives_19 (by decide) ?_
  refine lv_aload_n hx hb dX6_gives_21 rfl (lv_at hl 0 rfl) ?_
  refine lv_iload_n hx hb dX6_gives_22 rfl (lv_at hl 1 rfl) ?_
  refine lv_iconst (v := 0) hx hb dX6_gives_23 (by decide) ?_
  refine g_callV B F P (As := [.int t, .int 0]) (ct_X6_of (D := D) (ad := ad) (cy := cy) (ba := ba) l t 0 σ (now_in ht (by decide))) ok6 (by decide) rfl q954 q956 qs13 q8 q957 nk_X6_of rfl ⟨(Nat.le_of_ble_eq_true rfl), (Nat.le_of_ble_eq_true rfl)⟩ hl.1 rfl (Nat.le_of_ble_eq_true rfl) dX6_gives_24 ⟨Nat.le_of_ble_eq_true rfl, Nat.le_of_ble_eq_true rfl⟩ (fun H locs P => ?_)
  refine lv_isub hx hb dX6_gives_27 ?_
  refine lv_imul hx hb dX6_gives_28 ?_
  refine lv_sipush (v := 500) hx hb dX6_gives_29 (by decide) ?_
  refine lv_idiv hx hb dX6_gives_32 (by decide) ?_
  refine g_max B hl.1 q978 q979 q18 q980 (Nat.le_of_ble_eq_true rfl) (Nat.le_of_ble_eq_true rfl) (Nat.le_of_ble_eq_true rfl) (Nat.le_of_ble_eq_true rfl) dX6_gives_33 ?_
  exact g_reti B P (by rw [← hE]) rfl hrt hlk dX6_gives_36
theorem nk_X6_gives : nmOk yX6_gives RX6 1 := ⟨rfl, by decide +kernel, by decide +kernel, by decide +kernel⟩
def f_X6_takes (t : Int32) (σ : Sg) : Int32 := (((((f_X6_gives t σ) * 100) + (rI σ 19 11)) - 1) / (rI σ 19 11))
set_option maxHeartbeats 4000000 in
set_option maxRecDepth 100000 in
theorem ct_X6_takes {D : va_G} {ad : Nat → Nat} {cy : Nat → ClassId} {ba : Nat} (l : Launch) (t : Int32) (σ : Sg) (ht : vp_in t 4) (hT : GT σ) : Ct D ad cy ba l 2 yX6_takes cX6_takes 2 (some .int) [.ref (ad 19), .int t] σ (some (.int (f_X6_takes t σ))) σ := by
  generalize hE : f_X6_takes t σ = Z
  dsimp only [f_X6_takes] at hE
  refine Ct.of (by decide +kernel) (Nat.le_of_ble_eq_true rfl) ?_
  intro p e s m below meth c ls B F P hrt hlk hl
  have hx := B.1
  have hb := B.2.1
  have hl : lv_has ls 2 [(0, .ref (ad 19)), (1, .int t)] := hl
  refine lv_aload_n hx hb dX6_takes_0 rfl (lv_at hl 0 rfl) ?_
  refine lv_iload_n hx hb dX6_takes_1 rfl (lv_at hl 1 rfl) ?_
  refine g_callV B F P (As := [.int t]) (ct_X6_gives (D := D) (ad := ad) (cy := cy) (ba := ba) l t σ ht) ok6 (by decide) rfl q974 q976 qs14 q8 q977 nk_X6_gives rfl ⟨(Nat.le_of_ble_eq_true rfl), (Nat.le_of_ble_eq_true rfl)⟩ hl.1 rfl (Nat.le_of_ble_eq_true rfl) dX6_takes_2 ⟨Nat.le_of_ble_eq_true rfl, Nat.le_of_ble_eq_true rfl⟩ (fun H locs P => ?_)
  refine lv_bipush (v := 100) hx hb dX6_takes_5 (by decide) ?_
  refine lv_imul hx hb dX6_takes_7 ?_
  refine lv_aload_n hx hb dX6_takes_8 rfl (lv_at hl 0 rfl) ?_
  refine g_geti (k := 11) B F P ok6 (by decide) rfl rfl rfl (by decide) q825 dX6_takes_9 ?_
  refine lv_iadd hx hb dX6_takes_12 ?_
  refine lv_iconst (v := 1) hx hb dX6_takes_13 (by decide) ?_
  refine lv_isub hx hb dX6_takes_14 ?_
  refine lv_aload_n hx hb dX6_takes_15 rfl (lv_at hl 0 rfl) ?_
  refine g_geti (k := 11) B F P ok6 (by decide) rfl rfl rfl (by decide) q825 dX6_takes_16 ?_
  refine lv_idiv hx hb dX6_takes_19 hT.2.2 ?_
  exact g_reti B P (by rw [← hE]) rfl hrt hlk dX6_takes_20
theorem nk_X6_takes : nmOk yX6_takes RX6 1 := ⟨rfl, by decide +kernel, by decide +kernel, by decide +kernel⟩
def f_X6_needs (t : Int32) (σ : Sg) : Int32 := ((((f_X6_takes t σ) * (rI σ 23 t.toNatClampNeg)) + 19) / 20)
set_option maxHeartbeats 4000000 in
set_option maxRecDepth 100000 in
theorem ct_X6_needs {D : va_G} {ad : Nat → Nat} {cy : Nat → ClassId} {ba : Nat} (l : Launch) (t : Int32) (σ : Sg) (ht : vp_in t 4) (hT : GT σ) : Ct D ad cy ba l 3 yX6_needs cX6_needs 2 (some .int) [.ref (ad 19), .int t] σ (some (.int (f_X6_needs t σ))) σ := by
  generalize hE : f_X6_needs t σ = Z
  dsimp only [f_X6_needs] at hE
  refine Ct.of (by decide +kernel) (Nat.le_of_ble_eq_true rfl) ?_
  intro p e s m below meth c ls B F P hrt hlk hl
  have hx := B.1
  have hb := B.2.1
  have hl : lv_has ls 2 [(0, .ref (ad 19)), (1, .int t)] := hl
  refine lv_aload_n hx hb dX6_needs_0 rfl (lv_at hl 0 rfl) ?_
  refine lv_iload_n hx hb dX6_needs_1 rfl (lv_at hl 1 rfl) ?_
  refine g_callV B F P (As := [.int t]) (ct_X6_takes (D := D) (ad := ad) (cy := cy) (ba := ba) l t σ ht hT) ok6 (by decide) rfl q989 q991 qs16 q8 q992 nk_X6_takes rfl ⟨(Nat.le_of_ble_eq_true rfl), (Nat.le_of_ble_eq_true rfl)⟩ hl.1 rfl (Nat.le_of_ble_eq_true rfl) dX6_needs_2 ⟨Nat.le_of_ble_eq_true rfl, Nat.le_of_ble_eq_true rfl⟩ (fun H locs P => ?_)
  refine lv_aload_n hx hb dX6_needs_5 rfl (lv_at hl 0 rfl) ?_
  refine g_getr (k := 3) (t := 23) B F P ok6 (by decide) rfl rfl rfl (by decide) rfl q817 dX6_needs_6 ?_
  refine lv_iload_n hx hb dX6_needs_9 rfl (lv_at hl 1 rfl) ?_
  refine g_ild B F P (by decide) rfl rfl ht dX6_needs_10 ?_
  refine lv_imul hx hb dX6_needs_11 ?_
  refine lv_bipush (v := 19) hx hb dX6_needs_12 (by decide) ?_
  refine lv_iadd hx hb dX6_needs_14 ?_
  refine lv_bipush (v := 20) hx hb dX6_needs_15 (by decide) ?_
  refine lv_idiv hx hb dX6_needs_17 (by decide) ?_
  exact g_reti B P (by rw [← hE]) rfl hrt hlk dX6_needs_18
def f_X6_cleans (t : Int32) (σ : Sg) : Sg := if (f_X6_of t 2 (sI σ 20 ((3 * t) + 2).toNatClampNeg ((rI σ 20 ((3 * t) + 2).toNatClampNeg) - 1))) = 0 then (sI (sI (sI σ 20 ((3 * t) + 2).toNatClampNeg ((rI σ 20 ((3 * t) + 2).toNatClampNeg) - 1)) 20 ((3 * t) + 0).toNatClampNeg (((f_X6_of t 0 (sI σ 20 ((3 * t) + 2).toNatClampNeg ((rI σ 20 ((3 * t) + 2).toNatClampNeg) - 1))) / 4) + (f_X6_of t 1 (sI σ 20 ((3 * t) + 2).toNatClampNeg ((rI σ 20 ((3 * t) + 2).toNatClampNeg) - 1))))) 20 ((3 * t) + 1).toNatClampNeg (if ((f_X6_of t 1 (sI (sI σ 20 ((3 * t) + 2).toNatClampNeg ((rI σ 20 ((3 * t) + 2).toNatClampNeg) - 1)) 20 ((3 * t) + 0).toNatClampNeg (((f_X6_of t 0 (sI σ 20 ((3 * t) + 2).toNatClampNeg ((rI σ 20 ((3 * t) + 2).toNatClampNeg) - 1))) / 4) + (f_X6_of t 1 (sI σ 20 ((3 * t) + 2).toNatClampNeg ((rI σ 20 ((3 * t) + 2).toNatClampNeg) - 1)))))) + 1) < 20 then ((f_X6_of t 1 (sI (sI σ 20 ((3 * t) + 2).toNatClampNeg ((rI σ 20 ((3 * t) + 2).toNatClampNeg) - 1)) 20 ((3 * t) + 0).toNatClampNeg (((f_X6_of t 0 (sI σ 20 ((3 * t) + 2).toNatClampNeg ((rI σ 20 ((3 * t) + 2).toNatClampNeg) - 1))) / 4) + (f_X6_of t 1 (sI σ 20 ((3 * t) + 2).toNatClampNeg ((rI σ 20 ((3 * t) + 2).toNatClampNeg) - 1)))))) + 1) else 20)) else (sI σ 20 ((3 * t) + 2).toNatClampNeg ((rI σ 20 ((3 * t) + 2).toNatClampNeg) - 1))
set_option maxHeartbeats 4000000 in
set_option maxRecDepth 100000 in
theorem ct_X6_cleans {D : va_G} {ad : Nat → Nat} {cy : Nat → ClassId} {ba : Nat} (l : Launch) (t : Int32) (σ : Sg) (ht : vp_in t 4) : Ct D ad cy ba l 1 yX6_cleans cX6_cleans 2 none [.ref (ad 19), .int t] σ none (f_X6_cleans t σ) := by
  generalize hE : f_X6_cleans t σ = Z
  dsimp only [f_X6_cleans] at hE
  refine Ct.of (by decide +kernel) (Nat.le_of_ble_eq_true rfl) ?_
  intro p e s m below meth c ls B F P hrt hlk hl
  have hx := B.1
  have hb := B.2.1
  have hl : lv_has ls 2 [(0, .ref (ad 19)), (1, .int t)] := hl
  refine lv_aload_n hx hb dX6_cleans_0 rfl (lv_at hl 0 rfl) ?_
  refine g_getr (k := 0) (t := 20) B F P ok6 (by decide) rfl rfl rfl (by decide) rfl q814 dX6_cleans_1 ?_
  refine lv_iconst (v := 3) hx hb dX6_cleans_4 (by decide) ?_
  refine lv_iload_n hx hb dX6_cleans_5 rfl (lv_at hl 1 rfl) ?_
  refine lv_imul hx hb dX6_cleans_6 ?_
  refine lv_iconst (v := 2) hx hb dX6_cleans_7 (by decide) ?_
  refine lv_iadd hx hb dX6_cleans_8 ?_
  refine lv_dup2_11 hx hb dX6_cleans_9 rfl rfl ?_
  refine g_ild B F P (by decide) rfl rfl (now_in ht (by decide)) dX6_cleans_10 ?_
  refine lv_iconst (v := 1) hx hb dX6_cleans_11 (by decide) ?_
  refine lv_isub hx hb dX6_cleans_12 ?_
  refine g_ist B F P (by decide) rfl rfl (now_in ht (by decide)) dX6_cleans_13 (fun H locs P => ?_)
  refine lv_aload_n hx hb dX6_cleans_14 rfl (lv_at hl 0 rfl) ?_
  refine lv_iload_n hx hb dX6_cleans_15 rfl (lv_at hl 1 rfl) ?_
  refine lv_iconst (v := 2) hx hb dX6_cleans_16 (by decide) ?_
  refine g_callV B F P (As := [.int t, .int 2]) (ct_X6_of (D := D) (ad := ad) (cy := cy) (ba := ba) l t 2 (sI σ 20 ((3 * t) + 2).toNatClampNeg ((rI σ 20 ((3 * t) + 2).toNatClampNeg) - 1)) (now_in ht (by decide))) ok6 (by decide) rfl q954 q956 qs13 q8 q957 nk_X6_of rfl ⟨(Nat.le_of_ble_eq_true rfl), (Nat.le_of_ble_eq_true rfl)⟩ hl.1 rfl (Nat.le_of_ble_eq_true rfl) dX6_cleans_17 ⟨Nat.le_of_ble_eq_true rfl, Nat.le_of_ble_eq_true rfl⟩ (fun H locs P => ?_)
  refine lv_if_ne (tgt := 71) hx hb dX6_cleans_20 (by decide) (fun c20 => ?_) (fun c20 => ?_)
  · rw [if_neg c20] at hE
    exact g_retv B P rfl (by rw [← hE]) hrt hlk dX6_cleans_71
  · rw [if_pos c20] at hE
    refine lv_aload_n hx hb dX6_cleans_23 rfl (lv_at hl 0 rfl) ?_
    refine g_getr (k := 0) (t := 20) B F P ok6 (by decide) rfl rfl rfl (by decide) rfl q814 dX6_cleans_24 ?_
    refine lv_iconst (v := 3) hx hb dX6_cleans_27 (by decide) ?_
    refine lv_iload_n hx hb dX6_cleans_28 rfl (lv_at hl 1 rfl) ?_
    refine lv_imul hx hb dX6_cleans_29 ?_
    refine lv_iconst (v := 0) hx hb dX6_cleans_30 (by decide) ?_
    refine lv_iadd hx hb dX6_cleans_31 ?_
    refine lv_aload_n hx hb dX6_cleans_32 rfl (lv_at hl 0 rfl) ?_
    refine lv_iload_n hx hb dX6_cleans_33 rfl (lv_at hl 1 rfl) ?_
    refine lv_iconst (v := 0) hx hb dX6_cleans_34 (by decide) ?_
    refine g_callV B F P (As := [.int t, .int 0]) (ct_X6_of (D := D) (ad := ad) (cy := cy) (ba := ba) l t 0 (sI σ 20 ((3 * t) + 2).toNatClampNeg ((rI σ 20 ((3 * t) + 2).toNatClampNeg) - 1)) (now_in ht (by decide))) ok6 (by decide) rfl q954 q956 qs13 q8 q957 nk_X6_of rfl ⟨(Nat.le_of_ble_eq_true rfl), (Nat.le_of_ble_eq_true rfl)⟩ hl.1 rfl (Nat.le_of_ble_eq_true rfl) dX6_cleans_35 ⟨Nat.le_of_ble_eq_true rfl, Nat.le_of_ble_eq_true rfl⟩ (fun H locs P => ?_)
    refine lv_iconst (v := 4) hx hb dX6_cleans_38 (by decide) ?_
    refine lv_idiv hx hb dX6_cleans_39 (by decide) ?_
    refine lv_aload_n hx hb dX6_cleans_40 rfl (lv_at hl 0 rfl) ?_
    refine lv_iload_n hx hb dX6_cleans_41 rfl (lv_at hl 1 rfl) ?_
    refine lv_iconst (v := 1) hx hb dX6_cleans_42 (by decide) ?_
    refine g_callV B F P (As := [.int t, .int 1]) (ct_X6_of (D := D) (ad := ad) (cy := cy) (ba := ba) l t 1 (sI σ 20 ((3 * t) + 2).toNatClampNeg ((rI σ 20 ((3 * t) + 2).toNatClampNeg) - 1)) (now_in ht (by decide))) ok6 (by decide) rfl q954 q956 qs13 q8 q957 nk_X6_of rfl ⟨(Nat.le_of_ble_eq_true rfl), (Nat.le_of_ble_eq_true rfl)⟩ hl.1 rfl (Nat.le_of_ble_eq_true rfl) dX6_cleans_43 ⟨Nat.le_of_ble_eq_true rfl, Nat.le_of_ble_eq_true rfl⟩ (fun H locs P => ?_)
    refine lv_iadd hx hb dX6_cleans_46 ?_
    refine g_ist B F P (by decide) rfl rfl (now_in ht (by decide)) dX6_cleans_47 (fun H locs P => ?_)
    refine lv_aload_n hx hb dX6_cleans_48 rfl (lv_at hl 0 rfl) ?_
    refine g_getr (k := 0) (t := 20) B F P ok6 (by decide) rfl rfl rfl (by decide) rfl q814 dX6_cleans_49 ?_
    refine lv_iconst (v := 3) hx hb dX6_cleans_52 (by decide) ?_
    refine lv_iload_n hx hb dX6_cleans_53 rfl (lv_at hl 1 rfl) ?_
    refine lv_imul hx hb dX6_cleans_54 ?_
    refine lv_iconst (v := 1) hx hb dX6_cleans_55 (by decide) ?_
    refine lv_iadd hx hb dX6_cleans_56 ?_
    refine lv_bipush (v := 20) hx hb dX6_cleans_57 (by decide) ?_
    refine lv_aload_n hx hb dX6_cleans_59 rfl (lv_at hl 0 rfl) ?_
    refine lv_iload_n hx hb dX6_cleans_60 rfl (lv_at hl 1 rfl) ?_
    refine lv_iconst (v := 1) hx hb dX6_cleans_61 (by decide) ?_
    refine g_callV B F P (As := [.int t, .int 1]) (ct_X6_of (D := D) (ad := ad) (cy := cy) (ba := ba) l t 1 (sI (sI σ 20 ((3 * t) + 2).toNatClampNeg ((rI σ 20 ((3 * t) + 2).toNatClampNeg) - 1)) 20 ((3 * t) + 0).toNatClampNeg (((f_X6_of t 0 (sI σ 20 ((3 * t) + 2).toNatClampNeg ((rI σ 20 ((3 * t) + 2).toNatClampNeg) - 1))) / 4) + (f_X6_of t 1 (sI σ 20 ((3 * t) + 2).toNatClampNeg ((rI σ 20 ((3 * t) + 2).toNatClampNeg) - 1))))) (now_in ht (by decide))) ok6 (by decide) rfl q954 q956 qs13 q8 q957 nk_X6_of rfl ⟨(Nat.le_of_ble_eq_true rfl), (Nat.le_of_ble_eq_true rfl)⟩ hl.1 rfl (Nat.le_of_ble_eq_true rfl) dX6_cleans_62 ⟨Nat.le_of_ble_eq_true rfl, Nat.le_of_ble_eq_true rfl⟩ (fun H locs P => ?_)
    refine lv_iconst (v := 1) hx hb dX6_cleans_65 (by decide) ?_
    refine lv_iadd hx hb dX6_cleans_66 ?_
    refine g_min B hl.1 q1045 q287 q18 q288 (Nat.le_of_ble_eq_true rfl) (Nat.le_of_ble_eq_true rfl) (Nat.le_of_ble_eq_true rfl) (Nat.le_of_ble_eq_true rfl) dX6_cleans_67 ?_
    refine g_ist B F P (by decide) rfl rfl (now_in ht (by decide)) dX6_cleans_70 (fun H locs P => ?_)
    exact g_retv B P rfl (by rw [← hE]) hrt hlk dX6_cleans_71
theorem nk_X6_needs : nmOk yX6_needs RX6 1 := ⟨rfl, by decide +kernel, by decide +kernel, by decide +kernel⟩
def f_X6_works (t : Int32) (σ : Sg) : Sg := if 45 < (rI (sI (sI (sI σ 19 17 ((rI σ 19 17) + (f_X6_gives t σ))) 19 18 ((rI σ 19 18) + (f_X6_takes t (sI σ 19 17 ((rI σ 19 17) + (f_X6_gives t σ)))))) 19 19 ((rI σ 19 19) + (f_X6_needs t (sI (sI σ 19 17 ((rI σ 19 17) + (f_X6_gives t σ))) 19 18 ((rI σ 19 18) + (f_X6_takes t (sI σ 19 17 ((rI σ 19 17) + (f_X6_gives t σ))))))))) 23 t.toNatClampNeg) then (if 55 < (rI (sI (sI (sI σ 19 17 ((rI σ 19 17) + (f_X6_gives t σ))) 19 18 ((rI σ 19 18) + (f_X6_takes t (sI σ 19 17 ((rI σ 19 17) + (f_X6_gives t σ)))))) 19 19 ((rI σ 19 19) + (f_X6_needs t (sI (sI σ 19 17 ((rI σ 19 17) + (f_X6_gives t σ))) 19 18 ((rI σ 19 18) + (f_X6_takes t (sI σ 19 17 ((rI σ 19 17) + (f_X6_gives t σ))))))))) 23 t.toNatClampNeg) then (sI (sI (sI (sI σ 19 17 ((rI σ 19 17) + (f_X6_gives t σ))) 19 18 ((rI σ 19 18) + (f_X6_takes t (sI σ 19 17 ((rI σ 19 17) + (f_X6_gives t σ)))))) 19 19 ((rI σ 19 19) + (f_X6_needs t (sI (sI σ 19 17 ((rI σ 19 17) + (f_X6_gives t σ))) 19 18 ((rI σ 19 18) + (f_X6_takes t (sI σ 19 17 ((rI σ 19 17) + (f_X6_gives t σ))))))))) 20 ((3 * t) + 0).toNatClampNeg (if ((f_X6_of t 0 (sI (sI (sI σ 19 17 ((rI σ 19 17) + (f_X6_gives t σ))) 19 18 ((rI σ 19 18) + (f_X6_takes t (sI σ 19 17 ((rI σ 19 17) + (f_X6_gives t σ)))))) 19 19 ((rI σ 19 19) + (f_X6_needs t (sI (sI σ 19 17 ((rI σ 19 17) + (f_X6_gives t σ))) 19 18 ((rI σ 19 18) + (f_X6_takes t (sI σ 19 17 ((rI σ 19 17) + (f_X6_gives t σ)))))))))) + 3) < 90 then ((f_X6_of t 0 (sI (sI (sI σ 19 17 ((rI σ 19 17) + (f_X6_gives t σ))) 19 18 ((rI σ 19 18) + (f_X6_takes t (sI σ 19 17 ((rI σ 19 17) + (f_X6_gives t σ)))))) 19 19 ((rI σ 19 19) + (f_X6_needs t (sI (sI σ 19 17 ((rI σ 19 17) + (f_X6_gives t σ))) 19 18 ((rI σ 19 18) + (f_X6_takes t (sI σ 19 17 ((rI σ 19 17) + (f_X6_gives t σ)))))))))) + 3) else 90)) else (sI (sI (sI (sI σ 19 17 ((rI σ 19 17) + (f_X6_gives t σ))) 19 18 ((rI σ 19 18) + (f_X6_takes t (sI σ 19 17 ((rI σ 19 17) + (f_X6_gives t σ)))))) 19 19 ((rI σ 19 19) + (f_X6_needs t (sI (sI σ 19 17 ((rI σ 19 17) + (f_X6_gives t σ))) 19 18 ((rI σ 19 18) + (f_X6_takes t (sI σ 19 17 ((rI σ 19 17) + (f_X6_gives t σ))))))))) 20 ((3 * t) + 0).toNatClampNeg (if ((f_X6_of t 0 (sI (sI (sI σ 19 17 ((rI σ 19 17) + (f_X6_gives t σ))) 19 18 ((rI σ 19 18) + (f_X6_takes t (sI σ 19 17 ((rI σ 19 17) + (f_X6_gives t σ)))))) 19 19 ((rI σ 19 19) + (f_X6_needs t (sI (sI σ 19 17 ((rI σ 19 17) + (f_X6_gives t σ))) 19 18 ((rI σ 19 18) + (f_X6_takes t (sI σ 19 17 ((rI σ 19 17) + (f_X6_gives t σ)))))))))) + 2) < 90 then ((f_X6_of t 0 (sI (sI (sI σ 19 17 ((rI σ 19 17) + (f_X6_gives t σ))) 19 18 ((rI σ 19 18) + (f_X6_takes t (sI σ 19 17 ((rI σ 19 17) + (f_X6_gives t σ)))))) 19 19 ((rI σ 19 19) + (f_X6_needs t (sI (sI σ 19 17 ((rI σ 19 17) + (f_X6_gives t σ))) 19 18 ((rI σ 19 18) + (f_X6_takes t (sI σ 19 17 ((rI σ 19 17) + (f_X6_gives t σ)))))))))) + 2) else 90))) else (sI (sI (sI (sI σ 19 17 ((rI σ 19 17) + (f_X6_gives t σ))) 19 18 ((rI σ 19 18) + (f_X6_takes t (sI σ 19 17 ((rI σ 19 17) + (f_X6_gives t σ)))))) 19 19 ((rI σ 19 19) + (f_X6_needs t (sI (sI σ 19 17 ((rI σ 19 17) + (f_X6_gives t σ))) 19 18 ((rI σ 19 18) + (f_X6_takes t (sI σ 19 17 ((rI σ 19 17) + (f_X6_gives t σ))))))))) 20 ((3 * t) + 0).toNatClampNeg (if ((f_X6_of t 0 (sI (sI (sI σ 19 17 ((rI σ 19 17) + (f_X6_gives t σ))) 19 18 ((rI σ 19 18) + (f_X6_takes t (sI σ 19 17 ((rI σ 19 17) + (f_X6_gives t σ)))))) 19 19 ((rI σ 19 19) + (f_X6_needs t (sI (sI σ 19 17 ((rI σ 19 17) + (f_X6_gives t σ))) 19 18 ((rI σ 19 18) + (f_X6_takes t (sI σ 19 17 ((rI σ 19 17) + (f_X6_gives t σ)))))))))) + 1) < 90 then ((f_X6_of t 0 (sI (sI (sI σ 19 17 ((rI σ 19 17) + (f_X6_gives t σ))) 19 18 ((rI σ 19 18) + (f_X6_takes t (sI σ 19 17 ((rI σ 19 17) + (f_X6_gives t σ)))))) 19 19 ((rI σ 19 19) + (f_X6_needs t (sI (sI σ 19 17 ((rI σ 19 17) + (f_X6_gives t σ))) 19 18 ((rI σ 19 18) + (f_X6_takes t (sI σ 19 17 ((rI σ 19 17) + (f_X6_gives t σ)))))))))) + 1) else 90))
set_option maxHeartbeats 4000000 in
set_option maxRecDepth 100000 in
theorem ct_X6_works {D : va_G} {ad : Nat → Nat} {cy : Nat → ClassId} {ba : Nat} (l : Launch) (t : Int32) (σ : Sg) (ht : vp_in t 4) (hT : GT σ) : Ct D ad cy ba l 4 yX6_works cX6_works 3 none [.ref (ad 19), .int t] σ none (f_X6_works t σ) := by
  generalize hE : f_X6_works t σ = Z
  dsimp only [f_X6_works] at hE
  refine Ct.of (by decide +kernel) (Nat.le_of_ble_eq_true rfl) ?_
  intro p e s m below meth c ls B F P hrt hlk hl
  have hx := B.1
  have hb := B.2.1
  have hl : lv_has ls 3 [(0, .ref (ad 19)), (1, .int t)] := hl
  refine lv_aload_n hx hb dX6_works_0 rfl (lv_at hl 0 rfl) ?_
  refine lv_dup hx hb dX6_works_1 rfl ?_
  refine g_geti (k := 17) B F P ok6 (by decide) rfl rfl rfl (by decide) q831 dX6_works_2 ?_
  refine lv_aload_n hx hb dX6_works_5 rfl (lv_at hl 0 rfl) ?_
  refine lv_iload_n hx hb dX6_works_6 rfl (lv_at hl 1 rfl) ?_
  refine g_callV B F P (As := [.int t]) (ct_X6_gives (D := D) (ad := ad) (cy := cy) (ba := ba) l t σ ht) ok6 (by decide) rfl q974 q976 qs14 q8 q977 nk_X6_gives rfl ⟨(Nat.le_of_ble_eq_true rfl), (Nat.le_of_ble_eq_true rfl)⟩ hl.1 rfl (Nat.le_of_ble_eq_true rfl) dX6_works_7 ⟨Nat.le_of_ble_eq_true rfl, Nat.le_of_ble_eq_true rfl⟩ (fun H locs P => ?_)
  refine lv_iadd hx hb dX6_works_10 ?_
  refine g_puti (k := 17) B F P ok6 (by decide) rfl rfl rfl (by decide) rfl (tyX6_ok 17 (by decide)) q831 dX6_works_11 (fun H locs P => ?_)
  refine lv_aload_n hx hb dX6_works_14 rfl (lv_at hl 0 rfl) ?_
  refine lv_dup hx hb dX6_works_15 rfl ?_
  refine g_getiv (k := 18) (v := (rI σ 19 18)) B F P ok6 (by decide) rfl rfl rfl (by decide) q832 dX6_works_16 rfl ?_
  refine lv_aload_n hx hb dX6_works_19 rfl (lv_at hl 0 rfl) ?_
  refine lv_iload_n hx hb dX6_works_20 rfl (lv_at hl 1 rfl) ?_
  refine g_callV B F P (As := [.int t]) (ct_X6_takes (D := D) (ad := ad) (cy := cy) (ba := ba) l t (sI σ 19 17 ((rI σ 19 17) + (f_X6_gives t σ))) ht (hT.of rfl rfl rfl)) ok6 (by decide) rfl q989 q991 qs16 q8 q992 nk_X6_takes rfl ⟨(Nat.le_of_ble_eq_true rfl), (Nat.le_of_ble_eq_true rfl)⟩ hl.1 rfl (Nat.le_of_ble_eq_true rfl) dX6_works_21 ⟨Nat.le_of_ble_eq_true rfl, Nat.le_of_ble_eq_true rfl⟩ (fun H locs P => ?_)
  refine lv_iadd hx hb dX6_works_24 ?_
  refine g_puti (k := 18) B F P ok6 (by decide) rfl rfl rfl (by decide) rfl (tyX6_ok 18 (by decide)) q832 dX6_works_25 (fun H locs P => ?_)
  refine lv_aload_n hx hb dX6_works_28 rfl (lv_at hl 0 rfl) ?_
  refine lv_dup hx hb dX6_works_29 rfl ?_
  refine g_getiv (k := 19) (v := (rI σ 19 19)) B F P ok6 (by decide) rfl rfl rfl (by decide) q833 dX6_works_30 rfl ?_
  refine lv_aload_n hx hb dX6_works_33 rfl (lv_at hl 0 rfl) ?_
  refine lv_iload_n hx hb dX6_works_34 rfl (lv_at hl 1 rfl) ?_
  refine g_callV B F P (As := [.int t]) (ct_X6_needs (D := D) (ad := ad) (cy := cy) (ba := ba) l t (sI (sI σ 19 17 ((rI σ 19 17) + (f_X6_gives t σ))) 19 18 ((rI σ 19 18) + (f_X6_takes t (sI σ 19 17 ((rI σ 19 17) + (f_X6_gives t σ)))))) ht (hT.of rfl rfl rfl)) ok6 (by decide) rfl q985 q987 qs15 q8 q988 nk_X6_needs rfl ⟨(Nat.le_of_ble_eq_true rfl), (Nat.le_of_ble_eq_true rfl)⟩ hl.1 rfl (Nat.le_of_ble_eq_true rfl) dX6_works_35 ⟨Nat.le_of_ble_eq_true rfl, Nat.le_of_ble_eq_true rfl⟩ (fun H locs P => ?_)
  refine lv_iadd hx hb dX6_works_38 ?_
  refine g_puti (k := 19) B F P ok6 (by decide) rfl rfl rfl (by decide) rfl (tyX6_ok 19 (by decide)) q833 dX6_works_39 (fun H locs P => ?_)
  refine lv_aload_n hx hb dX6_works_42 rfl (lv_at hl 0 rfl) ?_
  refine g_getr (k := 3) (t := 23) B F P ok6 (by decide) rfl rfl rfl (by decide) rfl q817 dX6_works_43 ?_
  refine lv_iload_n hx hb dX6_works_46 rfl (lv_at hl 1 rfl) ?_
  refine g_ild B F P (by decide) rfl rfl ht dX6_works_47 ?_
  refine lv_bipush (v := 45) hx hb dX6_works_48 (by decide) ?_
  refine lv_icmp_gt (tgt := 57) hx hb dX6_works_50 (by decide) (fun c50 => ?_) (fun c50 => ?_)
  · rw [if_pos c50] at hE
    refine lv_aload_n hx hb dX6_works_57 rfl (lv_at hl 0 rfl) ?_
    refine g_getr (k := 3) (t := 23) B F P ok6 (by decide) rfl rfl rfl (by decide) rfl q817 dX6_works_58 ?_
    refine lv_iload_n hx hb dX6_works_61 rfl (lv_at hl 1 rfl) ?_
    refine g_ild B F P (by decide) rfl rfl ht dX6_works_62 ?_
    refine lv_bipush (v := 55) hx hb dX6_works_63 (by decide) ?_
    refine lv_icmp_gt (tgt := 72) hx hb dX6_works_65 (by decide) (fun c65 => ?_) (fun c65 => ?_)
    · rw [if_pos c65] at hE
      refine lv_iconst (v := 3) hx hb dX6_works_72 (by decide) ?_
      refine lv_istore_n (lv' := [(2, .int 3), (0, .ref (ad 19)), (1, .int t)]) hx hb dX6_works_73 rfl hl (by decide) rfl (fun ls hl => ?_)
      refine lv_aload_n hx hb dX6_works_74 rfl (lv_at hl 1 rfl) ?_
      refine g_getr (k := 0) (t := 20) B F P ok6 (by decide) rfl rfl rfl (by decide) rfl q814 dX6_works_75 ?_
      refine lv_iconst (v := 3) hx hb dX6_works_78 (by decide) ?_
      refine lv_iload_n hx hb dX6_works_79 rfl (lv_at hl 2 rfl) ?_
      refine lv_imul hx hb dX6_works_80 ?_
      refine lv_iconst (v := 0) hx hb dX6_works_81 (by decide) ?_
      refine lv_iadd hx hb dX6_works_82 ?_
      refine lv_bipush (v := 90) hx hb dX6_works_83 (by decide) ?_
      refine lv_aload_n hx hb dX6_works_85 rfl (lv_at hl 1 rfl) ?_
      refine lv_iload_n hx hb dX6_works_86 rfl (lv_at hl 2 rfl) ?_
      refine lv_iconst (v := 0) hx hb dX6_works_87 (by decide) ?_
      refine g_callV B F P (As := [.int t, .int 0]) (ct_X6_of (D := D) (ad := ad) (cy := cy) (ba := ba) l t 0 (sI (sI (sI σ 19 17 ((rI σ 19 17) + (f_X6_gives t σ))) 19 18 ((rI σ 19 18) + (f_X6_takes t (sI σ 19 17 ((rI σ 19 17) + (f_X6_gives t σ)))))) 19 19 ((rI σ 19 19) + (f_X6_needs t (sI (sI σ 19 17 ((rI σ 19 17) + (f_X6_gives t σ))) 19 18 ((rI σ 19 18) + (f_X6_takes t (sI σ 19 17 ((rI σ 19 17) + (f_X6_gives t σ))))))))) (now_in ht (by decide))) ok6 (by decide) rfl q954 q956 qs13 q8 q957 nk_X6_of rfl ⟨(Nat.le_of_ble_eq_true rfl), (Nat.le_of_ble_eq_true rfl)⟩ hl.1 rfl (Nat.le_of_ble_eq_true rfl) dX6_works_88 ⟨Nat.le_of_ble_eq_true rfl, Nat.le_of_ble_eq_true rfl⟩ (fun H locs P => ?_)
      refine lv_iload_n hx hb dX6_works_91 rfl (lv_at hl 0 rfl) ?_
      refine lv_iadd hx hb dX6_works_92 ?_
      refine g_min B hl.1 q1045 q287 q18 q288 (Nat.le_of_ble_eq_true rfl) (Nat.le_of_ble_eq_true rfl) (Nat.le_of_ble_eq_true rfl) (Nat.le_of_ble_eq_true rfl) dX6_works_93 ?_
      refine g_ist B F P (by decide) rfl rfl (now_in ht (by decide)) dX6_works_96 (fun H locs P => ?_)
      exact g_retv B P rfl (by rw [← hE]) hrt hlk dX6_works_97
    · rw [if_neg c65] at hE
      refine lv_iconst (v := 2) hx hb dX6_works_68 (by decide) ?_
      refine lv_goto (tgt := 73) hx hb dX6_works_69 (by decide) ?_
      refine lv_istore_n (lv' := [(2, .int 2), (0, .ref (ad 19)), (1, .int t)]) hx hb dX6_works_73 rfl hl (by decide) rfl (fun ls hl => ?_)
      refine lv_aload_n hx hb dX6_works_74 rfl (lv_at hl 1 rfl) ?_
      refine g_getr (k := 0) (t := 20) B F P ok6 (by decide) rfl rfl rfl (by decide) rfl q814 dX6_works_75 ?_
      refine lv_iconst (v := 3) hx hb dX6_works_78 (by decide) ?_
      refine lv_iload_n hx hb dX6_works_79 rfl (lv_at hl 2 rfl) ?_
      refine lv_imul hx hb dX6_works_80 ?_
      refine lv_iconst (v := 0) hx hb dX6_works_81 (by decide) ?_
      refine lv_iadd hx hb dX6_works_82 ?_
      refine lv_bipush (v := 90) hx hb dX6_works_83 (by decide) ?_
      refine lv_aload_n hx hb dX6_works_85 rfl (lv_at hl 1 rfl) ?_
      refine lv_iload_n hx hb dX6_works_86 rfl (lv_at hl 2 rfl) ?_
      refine lv_iconst (v := 0) hx hb dX6_works_87 (by decide) ?_
      refine g_callV B F P (As := [.int t, .int 0]) (ct_X6_of (D := D) (ad := ad) (cy := cy) (ba := ba) l t 0 (sI (sI (sI σ 19 17 ((rI σ 19 17) + (f_X6_gives t σ))) 19 18 ((rI σ 19 18) + (f_X6_takes t (sI σ 19 17 ((rI σ 19 17) + (f_X6_gives t σ)))))) 19 19 ((rI σ 19 19) + (f_X6_needs t (sI (sI σ 19 17 ((rI σ 19 17) + (f_X6_gives t σ))) 19 18 ((rI σ 19 18) + (f_X6_takes t (sI σ 19 17 ((rI σ 19 17) + (f_X6_gives t σ))))))))) (now_in ht (by decide))) ok6 (by decide) rfl q954 q956 qs13 q8 q957 nk_X6_of rfl ⟨(Nat.le_of_ble_eq_true rfl), (Nat.le_of_ble_eq_true rfl)⟩ hl.1 rfl (Nat.le_of_ble_eq_true rfl) dX6_works_88 ⟨Nat.le_of_ble_eq_true rfl, Nat.le_of_ble_eq_true rfl⟩ (fun H locs P => ?_)
      refine lv_iload_n hx hb dX6_works_91 rfl (lv_at hl 0 rfl) ?_
      refine lv_iadd hx hb dX6_works_92 ?_
      refine g_min B hl.1 q1045 q287 q18 q288 (Nat.le_of_ble_eq_true rfl) (Nat.le_of_ble_eq_true rfl) (Nat.le_of_ble_eq_true rfl) (Nat.le_of_ble_eq_true rfl) dX6_works_93 ?_
      refine g_ist B F P (by decide) rfl rfl (now_in ht (by decide)) dX6_works_96 (fun H locs P => ?_)
      exact g_retv B P rfl (by rw [← hE]) hrt hlk dX6_works_97
  · rw [if_neg c50] at hE
    refine lv_iconst (v := 1) hx hb dX6_works_53 (by decide) ?_
    refine lv_goto (tgt := 73) hx hb dX6_works_54 (by decide) ?_
    refine lv_istore_n (lv' := [(2, .int 1), (0, .ref (ad 19)), (1, .int t)]) hx hb dX6_works_73 rfl hl (by decide) rfl (fun ls hl => ?_)
    refine lv_aload_n hx hb dX6_works_74 rfl (lv_at hl 1 rfl) ?_
    refine g_getr (k := 0) (t := 20) B F P ok6 (by decide) rfl rfl rfl (by decide) rfl q814 dX6_works_75 ?_
    refine lv_iconst (v := 3) hx hb dX6_works_78 (by decide) ?_
    refine lv_iload_n hx hb dX6_works_79 rfl (lv_at hl 2 rfl) ?_
    refine lv_imul hx hb dX6_works_80 ?_
    refine lv_iconst (v := 0) hx hb dX6_works_81 (by decide) ?_
    refine lv_iadd hx hb dX6_works_82 ?_
    refine lv_bipush (v := 90) hx hb dX6_works_83 (by decide) ?_
    refine lv_aload_n hx hb dX6_works_85 rfl (lv_at hl 1 rfl) ?_
    refine lv_iload_n hx hb dX6_works_86 rfl (lv_at hl 2 rfl) ?_
    refine lv_iconst (v := 0) hx hb dX6_works_87 (by decide) ?_
    refine g_callV B F P (As := [.int t, .int 0]) (ct_X6_of (D := D) (ad := ad) (cy := cy) (ba := ba) l t 0 (sI (sI (sI σ 19 17 ((rI σ 19 17) + (f_X6_gives t σ))) 19 18 ((rI σ 19 18) + (f_X6_takes t (sI σ 19 17 ((rI σ 19 17) + (f_X6_gives t σ)))))) 19 19 ((rI σ 19 19) + (f_X6_needs t (sI (sI σ 19 17 ((rI σ 19 17) + (f_X6_gives t σ))) 19 18 ((rI σ 19 18) + (f_X6_takes t (sI σ 19 17 ((rI σ 19 17) + (f_X6_gives t σ))))))))) (now_in ht (by decide))) ok6 (by decide) rfl q954 q956 qs13 q8 q957 nk_X6_of rfl ⟨(Nat.le_of_ble_eq_true rfl), (Nat.le_of_ble_eq_true rfl)⟩ hl.1 rfl (Nat.le_of_ble_eq_true rfl) dX6_works_88 ⟨Nat.le_of_ble_eq_true rfl, Nat.le_of_ble_eq_true rfl⟩ (fun H locs P => ?_)
    refine lv_iload_n hx hb dX6_works_91 rfl (lv_at hl 0 rfl) ?_
    refine lv_iadd hx hb dX6_works_92 ?_
    refine g_min B hl.1 q1045 q287 q18 q288 (Nat.le_of_ble_eq_true rfl) (Nat.le_of_ble_eq_true rfl) (Nat.le_of_ble_eq_true rfl) (Nat.le_of_ble_eq_true rfl) dX6_works_93 ?_
    refine g_ist B F P (by decide) rfl rfl (now_in ht (by decide)) dX6_works_96 (fun H locs P => ?_)
    exact g_retv B P rfl (by rw [← hE]) hrt hlk dX6_works_97
theorem ml_X6_cleans (t : Int32) (σ : Sg) : Ml σ (f_X6_cleans t σ) := by
  unfold f_X6_cleans
  split <;> (repeat first | exact Ml.refl | refine Ml.sI ?_ (by omega))
theorem ml_X6_works (t : Int32) (σ : Sg) : Ml σ (f_X6_works t σ) := by
  unfold f_X6_works
  split
  · split <;> (repeat first | exact Ml.refl | refine Ml.sI ?_ (by omega))
  · (repeat first | exact Ml.refl | refine Ml.sI ?_ (by omega))
theorem nk_X6_works : nmOk yX6_works RX6 1 := ⟨rfl, by decide +kernel, by decide +kernel, by decide +kernel⟩
theorem nk_X6_cleans : nmOk yX6_cleans RX6 1 := ⟨rfl, by decide +kernel, by decide +kernel, by decide +kernel⟩
theorem narb01 {x : Int32} (h : x = 0 ∨ x = 1) : narrow .boolean (.int x) = .int x := by rcases h with rfl | rfl <;> rfl
def f_X6_goes_l146 (slot : Int32) (on : Int32) : Nat → Int32 → Int32 → Sg → Int32 × Sg
  | 0, _, _, σ146 => (0, σ146)
  | n146 + 1, x4_146, x3_146, σ146 => if (rI σ146 19 8) ≤ x4_146 then (x3_146, σ146) else (if x3_146 = 0 then (f_X6_goes_l146 slot on n146 (x4_146 + 1) 0 (sI (sI (sI σ146 20 (12 + x4_146).toNatClampNeg ((rI σ146 20 (12 + x4_146).toNatClampNeg) - (if (rI σ146 20 (12 + x4_146).toNatClampNeg) < (rI σ146 25 ((48 * x4_146) + slot).toNatClampNeg) then (rI σ146 20 (12 + x4_146).toNatClampNeg) else (rI σ146 25 ((48 * x4_146) + slot).toNatClampNeg)))) 19 21 ((rI σ146 19 21) + (if (rI σ146 20 (12 + x4_146).toNatClampNeg) < (rI σ146 25 ((48 * x4_146) + slot).toNatClampNeg) then (rI σ146 20 (12 + x4_146).toNatClampNeg) else (rI σ146 25 ((48 * x4_146) + slot).toNatClampNeg)))) 30 x4_146.toNatClampNeg ((rI σ146 25 ((48 * x4_146) + slot).toNatClampNeg) - (if (rI σ146 20 (12 + x4_146).toNatClampNeg) < (rI σ146 25 ((48 * x4_146) + slot).toNatClampNeg) then (rI σ146 20 (12 + x4_146).toNatClampNeg) else (rI σ146 25 ((48 * x4_146) + slot).toNatClampNeg))))) else (if (if (rI σ146 20 (12 + x4_146).toNatClampNeg) < (rI σ146 25 ((48 * x4_146) + slot).toNatClampNeg) then (rI σ146 20 (12 + x4_146).toNatClampNeg) else (rI σ146 25 ((48 * x4_146) + slot).toNatClampNeg)) = (rI σ146 25 ((48 * x4_146) + slot).toNatClampNeg) then (f_X6_goes_l146 slot on n146 (x4_146 + 1) 1 (sI (sI (sI σ146 20 (12 + x4_146).toNatClampNeg ((rI σ146 20 (12 + x4_146).toNatClampNeg) - (if (rI σ146 20 (12 + x4_146).toNatClampNeg) < (rI σ146 25 ((48 * x4_146) + slot).toNatClampNeg) then (rI σ146 20 (12 + x4_146).toNatClampNeg) else (rI σ146 25 ((48 * x4_146) + slot).toNatClampNeg)))) 19 21 ((rI σ146 19 21) + (if (rI σ146 20 (12 + x4_146).toNatClampNeg) < (rI σ146 25 ((48 * x4_146) + slot).toNatClampNeg) then (rI σ146 20 (12 + x4_146).toNatClampNeg) else (rI σ146 25 ((48 * x4_146) + slot).toNatClampNeg)))) 30 x4_146.toNatClampNeg ((rI σ146 25 ((48 * x4_146) + slot).toNatClampNeg) - (if (rI σ146 20 (12 + x4_146).toNatClampNeg) < (rI σ146 25 ((48 * x4_146) + slot).toNatClampNeg) then (rI σ146 20 (12 + x4_146).toNatClampNeg) else (rI σ146 25 ((48 * x4_146) + slot).toNatClampNeg))))) else (f_X6_goes_l146 slot on n146 (x4_146 + 1) 0 (sI (sI (sI σ146 20 (12 + x4_146).toNatClampNeg ((rI σ146 20 (12 + x4_146).toNatClampNeg) - (if (rI σ146 20 (12 + x4_146).toNatClampNeg) < (rI σ146 25 ((48 * x4_146) + slot).toNatClampNeg) then (rI σ146 20 (12 + x4_146).toNatClampNeg) else (rI σ146 25 ((48 * x4_146) + slot).toNatClampNeg)))) 19 21 ((rI σ146 19 21) + (if (rI σ146 20 (12 + x4_146).toNatClampNeg) < (rI σ146 25 ((48 * x4_146) + slot).toNatClampNeg) then (rI σ146 20 (12 + x4_146).toNatClampNeg) else (rI σ146 25 ((48 * x4_146) + slot).toNatClampNeg)))) 30 x4_146.toNatClampNeg ((rI σ146 25 ((48 * x4_146) + slot).toNatClampNeg) - (if (rI σ146 20 (12 + x4_146).toNatClampNeg) < (rI σ146 25 ((48 * x4_146) + slot).toNatClampNeg) then (rI σ146 20 (12 + x4_146).toNatClampNeg) else (rI σ146 25 ((48 * x4_146) + slot).toNatClampNeg)))))))
def f_X6_goes_l75 (slot : Int32) (on : Int32) : Nat → Int32 → Int32 → Sg → Int32 × Sg
  | 0, _, _, σ75 => (0, σ75)
  | n75 + 1, x4_75, x3_75, σ75 => if (rI σ75 19 8) ≤ x4_75 then (f_X6_goes_l146 slot on 4 0 x3_75 σ75) else (f_X6_goes_l75 slot on n75 (x4_75 + 1) x3_75 (sI (sI σ75 20 (12 + x4_75).toNatClampNeg ((rI σ75 20 (12 + x4_75).toNatClampNeg) + (if ((rI σ75 24 x4_75.toNatClampNeg) - (rI σ75 20 (12 + x4_75).toNatClampNeg)) < (rI σ75 19 20) then ((rI σ75 24 x4_75.toNatClampNeg) - (rI σ75 20 (12 + x4_75).toNatClampNeg)) else (rI σ75 19 20)))) 19 20 ((rI σ75 19 20) - (if ((rI σ75 24 x4_75.toNatClampNeg) - (rI σ75 20 (12 + x4_75).toNatClampNeg)) < (rI σ75 19 20) then ((rI σ75 24 x4_75.toNatClampNeg) - (rI σ75 20 (12 + x4_75).toNatClampNeg)) else (rI σ75 19 20)))))
def f_X6_goes_l22 (slot : Int32) (on : Int32) : Nat → Int32 → Sg → Int32 × Sg
  | 0, _, σ22 => (0, σ22)
  | n22 + 1, x3_22, σ22 => if (rI σ22 19 4) ≤ x3_22 then (f_X6_goes_l75 slot on 4 0 1 (sI σ22 19 20 (rI σ22 19 17))) else (if (f_X6_of x3_22 2 σ22) ≤ 0 then (if on = 0 then (f_X6_goes_l22 slot on n22 (x3_22 + 1) σ22) else (f_X6_goes_l22 slot on n22 (x3_22 + 1) (f_X6_works x3_22 σ22))) else (f_X6_goes_l22 slot on n22 (x3_22 + 1) (f_X6_cleans x3_22 σ22)))
def f_X6_goes (slot : Int32) (on : Int32) (σ : Sg) : Int32 × Sg := f_X6_goes_l22 slot on 5 0 (sI (sI (sI (sI σ 19 17 0) 19 18 0) 19 19 0) 19 21 0)
set_option maxHeartbeats 4000000 in
set_option maxRecDepth 100000 in
theorem ct_X6_goes {D : va_G} {ad : Nat → Nat} {cy : Nat → ClassId} {ba : Nat} (l : Launch) (slot : Int32) (on : Int32) (σ : Sg) (hs : vp_in slot 48) (hT : GT σ) : Ct D ad cy ba l 5 yX6_goes cX6_goes 7 (some .boolean) [.ref (ad 19), .int slot, .int on] σ (some (.int (f_X6_goes slot on σ).1)) (f_X6_goes slot on σ).2 := by
  generalize hE : f_X6_goes slot on σ = Z
  dsimp only [f_X6_goes] at hE
  refine Ct.of (by decide +kernel) (Nat.le_of_ble_eq_true rfl) ?_
  intro p e s m below meth c ls B F P hrt hlk hl
  have hx := B.1
  have hb := B.2.1
  have hl : lv_has ls 7 [(0, .ref (ad 19)), (1, .int slot), (2, .int on)] := hl
  refine lv_aload_n hx hb dX6_goes_0 rfl (lv_at hl 0 rfl) ?_
  refine lv_iconst (v := 0) hx hb dX6_goes_1 (by decide) ?_
  refine g_puti (k := 17) B F P ok6 (by decide) rfl rfl rfl (by decide) rfl (tyX6_ok 17 (by decide)) q831 dX6_goes_2 (fun H locs P => ?_)
  refine lv_aload_n hx hb dX6_goes_5 rfl (lv_at hl 0 rfl) ?_
  refine lv_iconst (v := 0) hx hb dX6_goes_6 (by decide) ?_
  refine g_puti (k := 18) B F P ok6 (by decide) rfl rfl rfl (by decide) rfl (tyX6_ok 18 (by decide)) q832 dX6_goes_7 (fun H locs P => ?_)
  refine lv_aload_n hx hb dX6_goes_10 rfl (lv_at hl 0 rfl) ?_
  refine lv_iconst (v := 0) hx hb dX6_goes_11 (by decide) ?_
  refine g_puti (k := 19) B F P ok6 (by decide) rfl rfl rfl (by decide) rfl (tyX6_ok 19 (by decide)) q833 dX6_goes_12 (fun H locs P => ?_)
  refine lv_aload_n hx hb dX6_goes_15 rfl (lv_at hl 0 rfl) ?_
  refine lv_iconst (v := 0) hx hb dX6_goes_16 (by decide) ?_
  refine g_puti (k := 21) B F P ok6 (by decide) rfl rfl rfl (by decide) rfl (tyX6_ok 21 (by decide)) q835 dX6_goes_17 (fun H locs P => ?_)
  refine lv_iconst (v := 0) hx hb dX6_goes_20 (by decide) ?_
  refine lv_istore_n (lv' := [(3, .int 0), (0, .ref (ad 19)), (1, .int slot), (2, .int on)]) hx hb dX6_goes_21 rfl hl (by decide) rfl (fun ls hl => ?_)
  have L22 : ∀ (n22 : Nat) (x3_22 : Int32) (σ22 : Sg), LI 4 n22 x3_22 → GT σ22 → f_X6_goes_l22 slot on n22 x3_22 σ22 = Z → ∀ (H : Heap) (locs : List Loc), Wo D ad cy ba s σ22 H locs → ∀ (ls : Array Slot), lv_has ls 7 [(3, .int x3_22), (0, .ref (ad 19)), (1, .int slot), (2, .int on)] → W p l e (rmK 5 0 0) s m ([.ref (ad 19), .int slot, .int on] : List Value).toArray below meth c H locs 0 0 (MQ below (Qe D ad cy ba (some (.int Z.1)) Z.2) ([.ref (ad 19), .int slot, .int on] : List Value).toArray s 0 0 (fun q => ba ≤ q)) (F0 m 22 ls []) := by
    clear hE P hl
    intro n22
    induction n22 with
    | zero => intro x3_22 σ22 hI22 hG22 hE; exact absurd hI22 LI.zero
    | succ n22 ih22 =>
      intro x3_22 σ22 hI22 hG22 hE H locs P ls hl
      dsimp only [f_X6_goes_l22] at hE
      refine lv_iload_n hx hb dX6_goes_22 rfl (lv_at hl 0 rfl) ?_
      refine lv_aload_n hx hb dX6_goes_23 rfl (lv_at hl 1 rfl) ?_
      refine g_geti (k := 4) B F P ok6 (by decide) rfl rfl rfl (by decide) q818 dX6_goes_24 ?_
      refine lv_icmp_ge (tgt := 62) hx hb dX6_goes_27 (by decide) (fun c27 => ?_) (fun c27 => ?_)
      · rw [if_pos c27] at hE
        refine lv_aload_n hx hb dX6_goes_62 rfl (lv_at hl 1 rfl) ?_
        refine lv_aload_n hx hb dX6_goes_63 rfl (lv_at hl 1 rfl) ?_
        refine g_geti (k := 17) B F P ok6 (by decide) rfl rfl rfl (by decide) q831 dX6_goes_64 ?_
        refine g_puti (k := 20) B F P ok6 (by decide) rfl rfl rfl (by decide) rfl (tyX6_ok 20 (by decide)) q834 dX6_goes_67 (fun H locs P => ?_)
        refine lv_iconst (v := 1) hx hb dX6_goes_70 (by decide) ?_
        refine lv_istore_n (lv' := [(3, .int 1), (0, .ref (ad 19)), (1, .int slot), (2, .int on)]) hx hb dX6_goes_71 rfl hl (by decide) rfl (fun ls hl => ?_)
        refine lv_iconst (v := 0) hx hb dX6_goes_72 (by decide) ?_
        refine lv_istore (lv' := [(4, .int 0), (3, .int 1), (0, .ref (ad 19)), (1, .int slot), (2, .int on)]) hx hb dX6_goes_73 hl (by decide) rfl (fun ls hl => ?_)
        have L75 : ∀ (n75 : Nat) (x4_75 : Int32) (x3_75 : Int32) (σ75 : Sg), LI 3 n75 x4_75 → GT σ75 → x3_75 = 1 → f_X6_goes_l75 slot on n75 x4_75 x3_75 σ75 = Z → ∀ (H : Heap) (locs : List Loc), Wo D ad cy ba s σ75 H locs → ∀ (ls : Array Slot), lv_has ls 7 [(4, .int x4_75), (3, .int x3_75), (0, .ref (ad 19)), (1, .int slot), (2, .int on)] → W p l e (rmK 5 0 0) s m ([.ref (ad 19), .int slot, .int on] : List Value).toArray below meth c H locs 0 0 (MQ below (Qe D ad cy ba (some (.int Z.1)) Z.2) ([.ref (ad 19), .int slot, .int on] : List Value).toArray s 0 0 (fun q => ba ≤ q)) (F0 m 75 ls []) := by
          clear hE P hl
          intro n75
          induction n75 with
          | zero => intro x4_75 x3_75 σ75 hI75 hG75 h75 hE; exact absurd hI75 LI.zero
          | succ n75 ih75 =>
            intro x4_75 x3_75 σ75 hI75 hG75 h75 hE H locs P ls hl
            dsimp only [f_X6_goes_l75] at hE
            refine lv_iload hx hb dX6_goes_75 (lv_at hl 0 rfl) ?_
            refine lv_aload_n hx hb dX6_goes_77 rfl (lv_at hl 2 rfl) ?_
            refine g_geti (k := 8) B F P ok6 (by decide) rfl rfl rfl (by decide) q822 dX6_goes_78 ?_
            refine lv_icmp_ge (tgt := 143) hx hb dX6_goes_81 (by decide) (fun c81 => ?_) (fun c81 => ?_)
            · rw [if_pos c81] at hE
              refine lv_iconst (v := 0) hx hb dX6_goes_143 (by decide) ?_
              refine lv_istore (lv' := [(4, .int 0), (3, .int x3_75), (0, .ref (ad 19)), (1, .int slot), (2, .int on)]) hx hb dX6_goes_144 hl (by decide) rfl (fun ls hl => ?_)
              have L146 : ∀ (n146 : Nat) (x4_146 : Int32) (x3_146 : Int32) (σ146 : Sg), LI 3 n146 x4_146 → GT σ146 → (x3_146 = 0 ∨ x3_146 = 1) → f_X6_goes_l146 slot on n146 x4_146 x3_146 σ146 = Z → ∀ (H : Heap) (locs : List Loc), Wo D ad cy ba s σ146 H locs → ∀ (ls : Array Slot), lv_has ls 7 [(4, .int x4_146), (3, .int x3_146), (0, .ref (ad 19)), (1, .int slot), (2, .int on)] → W p l e (rmK 5 0 0) s m ([.ref (ad 19), .int slot, .int on] : List Value).toArray below meth c H locs 0 0 (MQ below (Qe D ad cy ba (some (.int Z.1)) Z.2) ([.ref (ad 19), .int slot, .int on] : List Value).toArray s 0 0 (fun q => ba ≤ q)) (F0 m 146 ls []) := by
                clear hE P hl
                intro n146
                induction n146 with
                | zero => intro x4_146 x3_146 σ146 hI146 hG146 h3 hE; exact absurd hI146 LI.zero
                | succ n146 ih146 =>
                  intro x4_146 x3_146 σ146 hI146 hG146 h3 hE H locs P ls hl
                  dsimp only [f_X6_goes_l146] at hE
                  refine lv_iload hx hb dX6_goes_146 (lv_at hl 0 rfl) ?_
                  refine lv_aload_n hx hb dX6_goes_148 rfl (lv_at hl 2 rfl) ?_
                  refine g_geti (k := 8) B F P ok6 (by decide) rfl rfl rfl (by decide) q822 dX6_goes_149 ?_
                  refine lv_icmp_ge (tgt := 247) hx hb dX6_goes_152 (by decide) (fun c152 => ?_) (fun c152 => ?_)
                  · rw [if_pos c152] at hE
                    refine lv_iload_n hx hb dX6_goes_247 rfl (lv_at hl 1 rfl) ?_
                    exact g_retz B P (by rw [← hE]) (by rw [← hE]) hrt (narb01 h3) hlk dX6_goes_248
                  · rw [if_neg c152] at hE
                    refine lv_aload_n hx hb dX6_goes_155 rfl (lv_at hl 2 rfl) ?_
                    refine g_getr (k := 6) (t := 25) B F P ok6 (by decide) rfl rfl rfl (by decide) rfl q820 dX6_goes_156 ?_
                    refine lv_bipush (v := 48) hx hb dX6_goes_159 (by decide) ?_
                    refine lv_iload hx hb dX6_goes_161 (lv_at hl 0 rfl) ?_
                    refine lv_imul hx hb dX6_goes_163 ?_
                    refine lv_iload_n hx hb dX6_goes_164 rfl (lv_at hl 3 rfl) ?_
                    refine lv_iadd hx hb dX6_goes_165 ?_
                    refine g_ild B F P (by decide) rfl rfl (dm_in (hI146.into c152 hG146.2.1) hs) dX6_goes_166 ?_
                    refine lv_istore (lv' := [(5, .int (rI σ146 25 ((48 * x4_146) + slot).toNatClampNeg)), (4, .int x4_146), (3, .int x3_146), (0, .ref (ad 19)), (1, .int slot), (2, .int on)]) hx hb dX6_goes_167 hl (by decide) rfl (fun ls hl => ?_)
                    refine lv_iload hx hb dX6_goes_169 (lv_at hl 0 rfl) ?_
                    refine lv_aload_n hx hb dX6_goes_171 rfl (lv_at hl 3 rfl) ?_
                    refine g_getr (k := 0) (t := 20) B F P ok6 (by decide) rfl rfl rfl (by decide) rfl q814 dX6_goes_172 ?_
                    refine lv_bipush (v := 12) hx hb dX6_goes_175 (by decide) ?_
                    refine lv_iload hx hb dX6_goes_177 (lv_at hl 1 rfl) ?_
                    refine lv_iadd hx hb dX6_goes_179 ?_
                    refine g_ild B F P (by decide) rfl rfl (lev_in (hI146.into c152 hG146.2.1)) dX6_goes_180 ?_
                    refine g_min B hl.1 q1045 q287 q18 q288 (Nat.le_of_ble_eq_true rfl) (Nat.le_of_ble_eq_true rfl) (Nat.le_of_ble_eq_true rfl) (Nat.le_of_ble_eq_true rfl) dX6_goes_181 ?_
                    refine lv_istore (lv' := [(6, .int (if (rI σ146 20 (12 + x4_146).toNatClampNeg) < (rI σ146 25 ((48 * x4_146) + slot).toNatClampNeg) then (rI σ146 20 (12 + x4_146).toNatClampNeg) else (rI σ146 25 ((48 * x4_146) + slot).toNatClampNeg))), (5, .int (rI σ146 25 ((48 * x4_146) + slot).toNatClampNeg)), (4, .int x4_146), (3, .int x3_146), (0, .ref (ad 19)), (1, .int slot), (2, .int on)]) hx hb dX6_goes_184 hl (by decide) rfl (fun ls hl => ?_)
                    refine lv_aload_n hx hb dX6_goes_186 rfl (lv_at hl 4 rfl) ?_
                    refine g_getr (k := 0) (t := 20) B F P ok6 (by decide) rfl rfl rfl (by decide) rfl q814 dX6_goes_187 ?_
                    refine lv_bipush (v := 12) hx hb dX6_goes_190 (by decide) ?_
                    refine lv_iload hx hb dX6_goes_192 (lv_at hl 2 rfl) ?_
                    refine lv_iadd hx hb dX6_goes_194 ?_
                    refine lv_dup2_11 hx hb dX6_goes_195 rfl rfl ?_
                    refine g_ild B F P (by decide) rfl rfl (lev_in (hI146.into c152 hG146.2.1)) dX6_goes_196 ?_
                    refine lv_iload hx hb dX6_goes_197 (lv_at hl 0 rfl) ?_
                    refine lv_isub hx hb dX6_goes_199 ?_
                    refine g_ist B F P (by decide) rfl rfl (lev_in (hI146.into c152 hG146.2.1)) dX6_goes_200 (fun H locs P => ?_)
                    refine lv_aload_n hx hb dX6_goes_201 rfl (lv_at hl 4 rfl) ?_
                    refine lv_dup hx hb dX6_goes_202 rfl ?_
                    refine g_getiv (k := 21) (v := (rI σ146 19 21)) B F P ok6 (by decide) rfl rfl rfl (by decide) q835 dX6_goes_203 rfl ?_
                    refine lv_iload hx hb dX6_goes_206 (lv_at hl 0 rfl) ?_
                    refine lv_iadd hx hb dX6_goes_208 ?_
                    refine g_puti (k := 21) B F P ok6 (by decide) rfl rfl rfl (by decide) rfl (tyX6_ok 21 (by decide)) q835 dX6_goes_209 (fun H locs P => ?_)
                    refine lv_aload_n hx hb dX6_goes_212 rfl (lv_at hl 4 rfl) ?_
                    refine g_getr (k := 22) (t := 30) B F P ok6 (by decide) rfl rfl rfl (by decide) rfl q836 dX6_goes_213 ?_
                    refine lv_iload hx hb dX6_goes_216 (lv_at hl 2 rfl) ?_
                    refine lv_iload hx hb dX6_goes_218 (lv_at hl 1 rfl) ?_
                    refine lv_iload hx hb dX6_goes_220 (lv_at hl 0 rfl) ?_
                    refine lv_isub hx hb dX6_goes_222 ?_
                    refine g_ist B F P (by decide) rfl rfl (hI146.into c152 hG146.2.1) dX6_goes_223 (fun H locs P => ?_)
                    refine lv_iload_n hx hb dX6_goes_224 rfl (lv_at hl 3 rfl) ?_
                    refine lv_if_eq (tgt := 239) hx hb dX6_goes_225 (by decide) (fun c225 => ?_) (fun c225 => ?_)
                    · rw [if_pos c225] at hE
                      refine lv_iconst (v := 0) hx hb dX6_goes_239 (by decide) ?_
                      refine lv_istore_n (lv' := [(3, .int 0), (6, .int (if (rI σ146 20 (12 + x4_146).toNatClampNeg) < (rI σ146 25 ((48 * x4_146) + slot).toNatClampNeg) then (rI σ146 20 (12 + x4_146).toNatClampNeg) else (rI σ146 25 ((48 * x4_146) + slot).toNatClampNeg))), (5, .int (rI σ146 25 ((48 * x4_146) + slot).toNatClampNeg)), (4, .int x4_146), (0, .ref (ad 19)), (1, .int slot), (2, .int on)]) hx hb dX6_goes_240 rfl hl (by decide) rfl (fun ls hl => ?_)
                      refine lv_iinc (v := (x4_146 + 1)) (lv' := [(4, .int (x4_146 + 1)), (3, .int 0), (6, .int (if (rI σ146 20 (12 + x4_146).toNatClampNeg) < (rI σ146 25 ((48 * x4_146) + slot).toNatClampNeg) then (rI σ146 20 (12 + x4_146).toNatClampNeg) else (rI σ146 25 ((48 * x4_146) + slot).toNatClampNeg))), (5, .int (rI σ146 25 ((48 * x4_146) + slot).toNatClampNeg)), (0, .ref (ad 19)), (1, .int slot), (2, .int on)]) hx hb dX6_goes_241 hl (k := 3) rfl (by first | rfl | decide) (by decide) rfl (fun ls hl => ?_)
                      refine lv_goto (tgt := 146) hx hb dX6_goes_244 (by decide) ?_
                      exact ih146 (x4_146 + 1) 0 (sI (sI (sI σ146 20 (12 + x4_146).toNatClampNeg ((rI σ146 20 (12 + x4_146).toNatClampNeg) - (if (rI σ146 20 (12 + x4_146).toNatClampNeg) < (rI σ146 25 ((48 * x4_146) + slot).toNatClampNeg) then (rI σ146 20 (12 + x4_146).toNatClampNeg) else (rI σ146 25 ((48 * x4_146) + slot).toNatClampNeg)))) 19 21 ((rI σ146 19 21) + (if (rI σ146 20 (12 + x4_146).toNatClampNeg) < (rI σ146 25 ((48 * x4_146) + slot).toNatClampNeg) then (rI σ146 20 (12 + x4_146).toNatClampNeg) else (rI σ146 25 ((48 * x4_146) + slot).toNatClampNeg)))) 30 x4_146.toNatClampNeg ((rI σ146 25 ((48 * x4_146) + slot).toNatClampNeg) - (if (rI σ146 20 (12 + x4_146).toNatClampNeg) < (rI σ146 25 ((48 * x4_146) + slot).toNatClampNeg) then (rI σ146 20 (12 + x4_146).toNatClampNeg) else (rI σ146 25 ((48 * x4_146) + slot).toNatClampNeg)))) (hI146.next c152 hG146.2.1) (hG146.of rfl rfl rfl) (Or.inl rfl) hE _ _ P _ (lv_sub hl [0, 1, 4, 5, 6] rfl)
                    · rw [if_neg c225] at hE
                      refine lv_iload hx hb dX6_goes_228 (lv_at hl 0 rfl) ?_
                      refine lv_iload hx hb dX6_goes_230 (lv_at hl 1 rfl) ?_
                      refine lv_icmp_ne (tgt := 239) hx hb dX6_goes_232 (by decide) (fun c232 => ?_) (fun c232 => ?_)
                      · rw [if_neg c232] at hE
                        refine lv_iconst (v := 0) hx hb dX6_goes_239 (by decide) ?_
                        refine lv_istore_n (lv' := [(3, .int 0), (6, .int (if (rI σ146 20 (12 + x4_146).toNatClampNeg) < (rI σ146 25 ((48 * x4_146) + slot).toNatClampNeg) then (rI σ146 20 (12 + x4_146).toNatClampNeg) else (rI σ146 25 ((48 * x4_146) + slot).toNatClampNeg))), (5, .int (rI σ146 25 ((48 * x4_146) + slot).toNatClampNeg)), (4, .int x4_146), (0, .ref (ad 19)), (1, .int slot), (2, .int on)]) hx hb dX6_goes_240 rfl hl (by decide) rfl (fun ls hl => ?_)
                        refine lv_iinc (v := (x4_146 + 1)) (lv' := [(4, .int (x4_146 + 1)), (3, .int 0), (6, .int (if (rI σ146 20 (12 + x4_146).toNatClampNeg) < (rI σ146 25 ((48 * x4_146) + slot).toNatClampNeg) then (rI σ146 20 (12 + x4_146).toNatClampNeg) else (rI σ146 25 ((48 * x4_146) + slot).toNatClampNeg))), (5, .int (rI σ146 25 ((48 * x4_146) + slot).toNatClampNeg)), (0, .ref (ad 19)), (1, .int slot), (2, .int on)]) hx hb dX6_goes_241 hl (k := 3) rfl (by first | rfl | decide) (by decide) rfl (fun ls hl => ?_)
                        refine lv_goto (tgt := 146) hx hb dX6_goes_244 (by decide) ?_
                        exact ih146 (x4_146 + 1) 0 (sI (sI (sI σ146 20 (12 + x4_146).toNatClampNeg ((rI σ146 20 (12 + x4_146).toNatClampNeg) - (if (rI σ146 20 (12 + x4_146).toNatClampNeg) < (rI σ146 25 ((48 * x4_146) + slot).toNatClampNeg) then (rI σ146 20 (12 + x4_146).toNatClampNeg) else (rI σ146 25 ((48 * x4_146) + slot).toNatClampNeg)))) 19 21 ((rI σ146 19 21) + (if (rI σ146 20 (12 + x4_146).toNatClampNeg) < (rI σ146 25 ((48 * x4_146) + slot).toNatClampNeg) then (rI σ146 20 (12 + x4_146).toNatClampNeg) else (rI σ146 25 ((48 * x4_146) + slot).toNatClampNeg)))) 30 x4_146.toNatClampNeg ((rI σ146 25 ((48 * x4_146) + slot).toNatClampNeg) - (if (rI σ146 20 (12 + x4_146).toNatClampNeg) < (rI σ146 25 ((48 * x4_146) + slot).toNatClampNeg) then (rI σ146 20 (12 + x4_146).toNatClampNeg) else (rI σ146 25 ((48 * x4_146) + slot).toNatClampNeg)))) (hI146.next c152 hG146.2.1) (hG146.of rfl rfl rfl) (Or.inl rfl) hE _ _ P _ (lv_sub hl [0, 1, 4, 5, 6] rfl)
                      · rw [if_pos c232] at hE
                        refine lv_iconst (v := 1) hx hb dX6_goes_235 (by decide) ?_
                        refine lv_goto (tgt := 240) hx hb dX6_goes_236 (by decide) ?_
                        refine lv_istore_n (lv' := [(3, .int 1), (6, .int (if (rI σ146 20 (12 + x4_146).toNatClampNeg) < (rI σ146 25 ((48 * x4_146) + slot).toNatClampNeg) then (rI σ146 20 (12 + x4_146).toNatClampNeg) else (rI σ146 25 ((48 * x4_146) + slot).toNatClampNeg))), (5, .int (rI σ146 25 ((48 * x4_146) + slot).toNatClampNeg)), (4, .int x4_146), (0, .ref (ad 19)), (1, .int slot), (2, .int on)]) hx hb dX6_goes_240 rfl hl (by decide) rfl (fun ls hl => ?_)
                        refine lv_iinc (v := (x4_146 + 1)) (lv' := [(4, .int (x4_146 + 1)), (3, .int 1), (6, .int (if (rI σ146 20 (12 + x4_146).toNatClampNeg) < (rI σ146 25 ((48 * x4_146) + slot).toNatClampNeg) then (rI σ146 20 (12 + x4_146).toNatClampNeg) else (rI σ146 25 ((48 * x4_146) + slot).toNatClampNeg))), (5, .int (rI σ146 25 ((48 * x4_146) + slot).toNatClampNeg)), (0, .ref (ad 19)), (1, .int slot), (2, .int on)]) hx hb dX6_goes_241 hl (k := 3) rfl (by first | rfl | decide) (by decide) rfl (fun ls hl => ?_)
                        refine lv_goto (tgt := 146) hx hb dX6_goes_244 (by decide) ?_
                        exact ih146 (x4_146 + 1) 1 (sI (sI (sI σ146 20 (12 + x4_146).toNatClampNeg ((rI σ146 20 (12 + x4_146).toNatClampNeg) - (if (rI σ146 20 (12 + x4_146).toNatClampNeg) < (rI σ146 25 ((48 * x4_146) + slot).toNatClampNeg) then (rI σ146 20 (12 + x4_146).toNatClampNeg) else (rI σ146 25 ((48 * x4_146) + slot).toNatClampNeg)))) 19 21 ((rI σ146 19 21) + (if (rI σ146 20 (12 + x4_146).toNatClampNeg) < (rI σ146 25 ((48 * x4_146) + slot).toNatClampNeg) then (rI σ146 20 (12 + x4_146).toNatClampNeg) else (rI σ146 25 ((48 * x4_146) + slot).toNatClampNeg)))) 30 x4_146.toNatClampNeg ((rI σ146 25 ((48 * x4_146) + slot).toNatClampNeg) - (if (rI σ146 20 (12 + x4_146).toNatClampNeg) < (rI σ146 25 ((48 * x4_146) + slot).toNatClampNeg) then (rI σ146 20 (12 + x4_146).toNatClampNeg) else (rI σ146 25 ((48 * x4_146) + slot).toNatClampNeg)))) (hI146.next c152 hG146.2.1) (hG146.of rfl rfl rfl) (Or.inr rfl) hE _ _ P _ (lv_sub hl [0, 1, 4, 5, 6] rfl)
              exact L146 4 0 x3_75 σ75 LI.start hG75 (Or.inr h75) hE _ _ P _ (lv_sub hl [0, 1, 2, 3, 4] rfl)
            · rw [if_neg c81] at hE
              refine lv_aload_n hx hb dX6_goes_84 rfl (lv_at hl 2 rfl) ?_
              refine g_geti (k := 20) B F P ok6 (by decide) rfl rfl rfl (by decide) q834 dX6_goes_85 ?_
              refine lv_aload_n hx hb dX6_goes_88 rfl (lv_at hl 2 rfl) ?_
              refine g_getr (k := 5) (t := 24) B F P ok6 (by decide) rfl rfl rfl (by decide) rfl q819 dX6_goes_89 ?_
              refine lv_iload hx hb dX6_goes_92 (lv_at hl 0 rfl) ?_
              refine g_ild B F P (by decide) rfl rfl (hI75.into c81 hG75.2.1) dX6_goes_94 ?_
              refine lv_aload_n hx hb dX6_goes_95 rfl (lv_at hl 2 rfl) ?_
              refine g_getr (k := 0) (t := 20) B F P ok6 (by decide) rfl rfl rfl (by decide) rfl q814 dX6_goes_96 ?_
              refine lv_bipush (v := 12) hx hb dX6_goes_99 (by decide) ?_
              refine lv_iload hx hb dX6_goes_101 (lv_at hl 0 rfl) ?_
              refine lv_iadd hx hb dX6_goes_103 ?_
              refine g_ild B F P (by decide) rfl rfl (lev_in (hI75.into c81 hG75.2.1)) dX6_goes_104 ?_
              refine lv_isub hx hb dX6_goes_105 ?_
              refine g_min B hl.1 q1045 q287 q18 q288 (Nat.le_of_ble_eq_true rfl) (Nat.le_of_ble_eq_true rfl) (Nat.le_of_ble_eq_true rfl) (Nat.le_of_ble_eq_true rfl) dX6_goes_106 ?_
              refine lv_istore (lv' := [(5, .int (if ((rI σ75 24 x4_75.toNatClampNeg) - (rI σ75 20 (12 + x4_75).toNatClampNeg)) < (rI σ75 19 20) then ((rI σ75 24 x4_75.toNatClampNeg) - (rI σ75 20 (12 + x4_75).toNatClampNeg)) else (rI σ75 19 20))), (4, .int x4_75), (3, .int x3_75), (0, .ref (ad 19)), (1, .int slot), (2, .int on)]) hx hb dX6_goes_109 hl (by decide) rfl (fun ls hl => ?_)
              refine lv_aload_n hx hb dX6_goes_111 rfl (lv_at hl 3 rfl) ?_
              refine g_getr (k := 0) (t := 20) B F P ok6 (by decide) rfl rfl rfl (by decide) rfl q814 dX6_goes_112 ?_
              refine lv_bipush (v := 12) hx hb dX6_goes_115 (by decide) ?_
              refine lv_iload hx hb dX6_goes_117 (lv_at hl 1 rfl) ?_
              refine lv_iadd hx hb dX6_goes_119 ?_
              refine lv_dup2_11 hx hb dX6_goes_120 rfl rfl ?_
              refine g_ild B F P (by decide) rfl rfl (lev_in (hI75.into c81 hG75.2.1)) dX6_goes_121 ?_
              refine lv_iload hx hb dX6_goes_122 (lv_at hl 0 rfl) ?_
              refine lv_iadd hx hb dX6_goes_124 ?_
              refine g_ist B F P (by decide) rfl rfl (lev_in (hI75.into c81 hG75.2.1)) dX6_goes_125 (fun H locs P => ?_)
              refine lv_aload_n hx hb dX6_goes_126 rfl (lv_at hl 3 rfl) ?_
              refine lv_dup hx hb dX6_goes_127 rfl ?_
              refine g_getiv (k := 20) (v := (rI σ75 19 20)) B F P ok6 (by decide) rfl rfl rfl (by decide) q834 dX6_goes_128 rfl ?_
              refine lv_iload hx hb dX6_goes_131 (lv_at hl 0 rfl) ?_
              refine lv_isub hx hb dX6_goes_133 ?_
              refine g_puti (k := 20) B F P ok6 (by decide) rfl rfl rfl (by decide) rfl (tyX6_ok 20 (by decide)) q834 dX6_goes_134 (fun H locs P => ?_)
              refine lv_iinc (v := (x4_75 + 1)) (lv' := [(4, .int (x4_75 + 1)), (5, .int (if ((rI σ75 24 x4_75.toNatClampNeg) - (rI σ75 20 (12 + x4_75).toNatClampNeg)) < (rI σ75 19 20) then ((rI σ75 24 x4_75.toNatClampNeg) - (rI σ75 20 (12 + x4_75).toNatClampNeg)) else (rI σ75 19 20))), (3, .int x3_75), (0, .ref (ad 19)), (1, .int slot), (2, .int on)]) hx hb dX6_goes_137 hl (k := 1) rfl (by first | rfl | decide) (by decide) rfl (fun ls hl => ?_)
              refine lv_goto (tgt := 75) hx hb dX6_goes_140 (by decide) ?_
              exact ih75 (x4_75 + 1) x3_75 (sI (sI σ75 20 (12 + x4_75).toNatClampNeg ((rI σ75 20 (12 + x4_75).toNatClampNeg) + (if ((rI σ75 24 x4_75.toNatClampNeg) - (rI σ75 20 (12 + x4_75).toNatClampNeg)) < (rI σ75 19 20) then ((rI σ75 24 x4_75.toNatClampNeg) - (rI σ75 20 (12 + x4_75).toNatClampNeg)) else (rI σ75 19 20)))) 19 20 ((rI σ75 19 20) - (if ((rI σ75 24 x4_75.toNatClampNeg) - (rI σ75 20 (12 + x4_75).toNatClampNeg)) < (rI σ75 19 20) then ((rI σ75 24 x4_75.toNatClampNeg) - (rI σ75 20 (12 + x4_75).toNatClampNeg)) else (rI σ75 19 20)))) (hI75.next c81 hG75.2.1) (hG75.of rfl rfl rfl) h75 hE _ _ P _ (lv_sub hl [0, 2, 3, 4, 5] rfl)
        exact L75 4 0 1 (sI σ22 19 20 (rI σ22 19 17)) LI.start (hG22.of rfl rfl rfl) rfl hE _ _ P _ (lv_sub hl [0, 1, 2, 3, 4] rfl)
      · rw [if_neg c27] at hE
        refine lv_aload_n hx hb dX6_goes_30 rfl (lv_at hl 1 rfl) ?_
        refine lv_iload_n hx hb dX6_goes_31 rfl (lv_at hl 0 rfl) ?_
        refine lv_iconst (v := 2) hx hb dX6_goes_32 (by decide) ?_
        refine g_callV B F P (As := [.int x3_22, .int 2]) (ct_X6_of (D := D) (ad := ad) (cy := cy) (ba := ba) l x3_22 2 σ22 (now_in (hI22.into c27 hG22.1) (by decide))) ok6 (by decide) rfl q954 q956 qs13 q8 q957 nk_X6_of rfl ⟨(Nat.le_of_ble_eq_true rfl), (Nat.le_of_ble_eq_true rfl)⟩ hl.1 rfl (Nat.le_of_ble_eq_true rfl) dX6_goes_33 ⟨Nat.le_of_ble_eq_true rfl, Nat.le_of_ble_eq_true rfl⟩ (fun H locs P => ?_)
        refine lv_if_le (tgt := 47) hx hb dX6_goes_36 (by decide) (fun c36 => ?_) (fun c36 => ?_)
        · rw [if_pos c36] at hE
          refine lv_iload_n hx hb dX6_goes_47 rfl (lv_at hl 3 rfl) ?_
          refine lv_if_eq (tgt := 56) hx hb dX6_goes_48 (by decide) (fun c48 => ?_) (fun c48 => ?_)
          · rw [if_pos c48] at hE
            refine lv_iinc (v := (x3_22 + 1)) (lv' := [(3, .int (x3_22 + 1)), (0, .ref (ad 19)), (1, .int slot), (2, .int on)]) hx hb dX6_goes_56 hl (k := 0) rfl (by first | rfl | decide) (by decide) rfl (fun ls hl => ?_)
            refine lv_goto (tgt := 22) hx hb dX6_goes_59 (by decide) ?_
            exact ih22 (x3_22 + 1) σ22 (hI22.next c27 hG22.1) hG22 hE _ _ P _ (lv_sub hl [0, 1, 2, 3] rfl)
          · rw [if_neg c48] at hE
            refine lv_aload_n hx hb dX6_goes_51 rfl (lv_at hl 1 rfl) ?_
            refine lv_iload_n hx hb dX6_goes_52 rfl (lv_at hl 0 rfl) ?_
            refine g_callV B F P (As := [.int x3_22]) (ct_X6_works (D := D) (ad := ad) (cy := cy) (ba := ba) l x3_22 σ22 (hI22.into c27 hG22.1) hG22) ok6 (by decide) rfl q1046 q1048 qs21 q8 q1049 nk_X6_works rfl ⟨(Nat.le_of_ble_eq_true rfl), (Nat.le_of_ble_eq_true rfl)⟩ hl.1 rfl (Nat.le_of_ble_eq_true rfl) dX6_goes_53 ⟨Nat.le_of_ble_eq_true rfl, Nat.le_of_ble_eq_true rfl⟩ (fun H locs P => ?_)
            refine lv_iinc (v := (x3_22 + 1)) (lv' := [(3, .int (x3_22 + 1)), (0, .ref (ad 19)), (1, .int slot), (2, .int on)]) hx hb dX6_goes_56 hl (k := 0) rfl (by first | rfl | decide) (by decide) rfl (fun ls hl => ?_)
            refine lv_goto (tgt := 22) hx hb dX6_goes_59 (by decide) ?_
            exact ih22 (x3_22 + 1) (f_X6_works x3_22 σ22) (hI22.next c27 hG22.1) (hG22.ml (ml_X6_works _ _)) hE _ _ P _ (lv_sub hl [0, 1, 2, 3] rfl)
        · rw [if_neg c36] at hE
          refine lv_aload_n hx hb dX6_goes_39 rfl (lv_at hl 1 rfl) ?_
          refine lv_iload_n hx hb dX6_goes_40 rfl (lv_at hl 0 rfl) ?_
          refine g_callV B F P (As := [.int x3_22]) (ct_X6_cleans (D := D) (ad := ad) (cy := cy) (ba := ba) l x3_22 σ22 (hI22.into c27 hG22.1)) ok6 (by decide) rfl q1041 q1043 qs20 q8 q1044 nk_X6_cleans rfl ⟨(Nat.le_of_ble_eq_true rfl), (Nat.le_of_ble_eq_true rfl)⟩ hl.1 rfl (Nat.le_of_ble_eq_true rfl) dX6_goes_41 ⟨Nat.le_of_ble_eq_true rfl, Nat.le_of_ble_eq_true rfl⟩ (fun H locs P => ?_)
          refine lv_goto (tgt := 56) hx hb dX6_goes_44 (by decide) ?_
          refine lv_iinc (v := (x3_22 + 1)) (lv' := [(3, .int (x3_22 + 1)), (0, .ref (ad 19)), (1, .int slot), (2, .int on)]) hx hb dX6_goes_56 hl (k := 0) rfl (by first | rfl | decide) (by decide) rfl (fun ls hl => ?_)
          refine lv_goto (tgt := 22) hx hb dX6_goes_59 (by decide) ?_
          exact ih22 (x3_22 + 1) (f_X6_cleans x3_22 σ22) (hI22.next c27 hG22.1) (hG22.ml (ml_X6_cleans _ _)) hE _ _ P _ (lv_sub hl [0, 1, 2, 3] rfl)
  exact L22 5 0 (sI (sI (sI (sI σ 19 17 0) 19 18 0) 19 19 0) 19 21 0) LI.start (hT.of rfl rfl rfl) hE _ _ P _ (lv_sub hl [0, 1, 2, 3] rfl)
theorem ml_X6_goes_l146 (slot on : Int32) : ∀ (n : Nat) (x y : Int32) (σ : Sg), Ml σ (f_X6_goes_l146 slot on n x y σ).2
  | 0, _, _, _ => Ml.refl
  | n + 1, x, y, σ => by
    unfold f_X6_goes_l146
    refine Ml.ite ?_ (Ml.ite ?_ (Ml.ite ?_ ?_))
    · exact Ml.refl
    · exact Ml.trans (by (repeat first | exact Ml.refl | refine Ml.sI ?_ (by omega))) (ml_X6_goes_l146 slot on n _ _ _)
    · exact Ml.trans (by (repeat first | exact Ml.refl | refine Ml.sI ?_ (by omega))) (ml_X6_goes_l146 slot on n _ _ _)
    · exact Ml.trans (by (repeat first | exact Ml.refl | refine Ml.sI ?_ (by omega))) (ml_X6_goes_l146 slot on n _ _ _)
theorem ml_X6_goes_l75 (slot on : Int32) : ∀ (n : Nat) (x y : Int32) (σ : Sg), Ml σ (f_X6_goes_l75 slot on n x y σ).2
  | 0, _, _, _ => Ml.refl
  | n + 1, x, y, σ => by
    unfold f_X6_goes_l75
    refine Ml.ite ?_ ?_
    · exact ml_X6_goes_l146 slot on _ _ _ _
    · exact Ml.trans (by (repeat first | exact Ml.refl | refine Ml.sI ?_ (by omega))) (ml_X6_goes_l75 slot on n _ _ _)
theorem ml_X6_goes_l22 (slot on : Int32) : ∀ (n : Nat) (x : Int32) (σ : Sg), Ml σ (f_X6_goes_l22 slot on n x σ).2
  | 0, _, _ => Ml.refl
  | n + 1, x, σ => by
    unfold f_X6_goes_l22
    refine Ml.ite ?_ (Ml.ite (Ml.ite ?_ ?_) ?_)
    · exact Ml.trans (by (repeat first | exact Ml.refl | refine Ml.sI ?_ (by omega))) (ml_X6_goes_l75 slot on _ _ _ _)
    · exact ml_X6_goes_l22 slot on n _ _
    · exact Ml.trans (ml_X6_works _ _) (ml_X6_goes_l22 slot on n _ _)
    · exact Ml.trans (ml_X6_cleans _ _) (ml_X6_goes_l22 slot on n _ _)
theorem ml_X6_goes (slot on : Int32) (σ : Sg) : Ml σ (f_X6_goes slot on σ).2 := Ml.trans (by (repeat first | exact Ml.refl | refine Ml.sI ?_ (by omega))) (ml_X6_goes_l22 slot on _ _ _)

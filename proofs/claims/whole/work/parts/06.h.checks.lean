/-- what the class needs of its state to run: b bounds the number of half hours -/
def GC (b : Int) (σ : Sg) : Prop := GP σ ∧ GO σ ∧ (0 ≤ (rI σ 0 6).toInt ∧ (rI σ 0 6).toInt < b) ∧ 0 ≤ (rI σ 1 5).toInt ∧ 0 ≤ (rI σ 1 6).toInt
theorem int_of_not {P : Prop} [Decidable P] {a b : Nat} (h : (if P then a else b) = b) (hab : a ≠ b) : ¬ P := fun hp => hab (by rw [if_pos hp] at h; exact h)
def f_X5_checkRange (v : Int32) (lo : Int32) (hi : Int32) (σ : Sg) : Nat := if v < lo then 1 else (if v ≤ hi then 0 else 1)
set_option maxHeartbeats 4000000 in
set_option maxRecDepth 100000 in
theorem ct_X5_checkRange {D : va_G} {ad : Nat → Nat} {cy : Nat → ClassId} {ba : Nat} (l : Launch) (v : Int32) (lo : Int32) (hi : Int32) (σ : Sg) (hst : l.stackTraces = false) : Cx D ad cy ba l 0 1 yX5_checkRange cX5_checkRange 3 none [.int v, .int lo, .int hi] σ (f_X5_checkRange v lo hi σ) none σ := by
  generalize hE : f_X5_checkRange v lo hi σ = Z
  dsimp only [f_X5_checkRange] at hE
  refine Cx.of (by decide +kernel) (Nat.le_of_ble_eq_true rfl) ?_
  intro p e s m below meth c ls B F P hrt hlk hT hl
  have hx := B.1
  have hb := B.2.1
  have hl : lv_has ls 3 [(0, .int v), (1, .int lo), (2, .int hi)] := hl
  refine lv_iload_n hx hb dX5_checkRange_0 rfl (lv_at hl 0 rfl) ?_
  refine lv_iload_n hx hb dX5_checkRange_1 rfl (lv_at hl 1 rfl) ?_
  refine lv_icmp_lt (tgt := 10) hx hb dX5_checkRange_2 (by decide) (fun c2 => ?_) (fun c2 => ?_)
  · rw [if_pos c2] at hE
    exact g_throw1 B F P hst (is := 243) (text := "out of range") (by decide) (by rw [← hE]) rfl hl.1 hlk hT dX5_checkRange_10 dX5_checkRange_13 dX5_checkRange_14 dX5_checkRange_16 dX5_checkRange_19 (Nat.le_of_ble_eq_true rfl) (Nat.le_of_ble_eq_true rfl) (Nat.le_of_ble_eq_true rfl) (Nat.le_of_ble_eq_true rfl) (Nat.le_of_ble_eq_true rfl) (Nat.le_of_ble_eq_true rfl)
  · rw [if_neg c2] at hE
    refine lv_iload_n hx hb dX5_checkRange_5 rfl (lv_at hl 0 rfl) ?_
    refine lv_iload_n hx hb dX5_checkRange_6 rfl (lv_at hl 2 rfl) ?_
    refine lv_icmp_le (tgt := 20) hx hb dX5_checkRange_7 (by decide) (fun c7 => ?_) (fun c7 => ?_)
    · rw [if_pos c7] at hE
      exact g_retvx B P (by rw [← hE]) rfl rfl hrt hlk (Nat.le_of_ble_eq_true rfl) (Nat.le_of_ble_eq_true rfl) dX5_checkRange_20
    · rw [if_neg c7] at hE
      exact g_throw1 B F P hst (is := 243) (text := "out of range") (by decide) (by rw [← hE]) rfl hl.1 hlk hT dX5_checkRange_10 dX5_checkRange_13 dX5_checkRange_14 dX5_checkRange_16 dX5_checkRange_19 (Nat.le_of_ble_eq_true rfl) (Nat.le_of_ble_eq_true rfl) (Nat.le_of_ble_eq_true rfl) (Nat.le_of_ble_eq_true rfl) (Nat.le_of_ble_eq_true rfl) (Nat.le_of_ble_eq_true rfl)
theorem nk_X5_checkRange : nmOk yX5_checkRange RX5 3 := ⟨rfl, by decide +kernel, by decide +kernel, by decide +kernel⟩
def f_X5_checkSlots (a : Int32) (b : Int32) (σ : Sg) : Nat := if (f_X5_checkRange a 0 47 σ) = 0 then (if (f_X5_checkRange b a 47 σ) = 0 then 0 else (f_X5_checkRange b a 47 σ)) else (f_X5_checkRange a 0 47 σ)
set_option maxHeartbeats 4000000 in
set_option maxRecDepth 100000 in
theorem ct_X5_checkSlots {D : va_G} {ad : Nat → Nat} {cy : Nat → ClassId} {ba : Nat} (l : Launch) (a : Int32) (b : Int32) (σ : Sg) (hst : l.stackTraces = false) : Cx D ad cy ba l 1 2 yX5_checkSlots cX5_checkSlots 2 none [.int a, .int b] σ (f_X5_checkSlots a b σ) none σ := by
  generalize hE : f_X5_checkSlots a b σ = Z
  dsimp only [f_X5_checkSlots] at hE
  refine Cx.of (by decide +kernel) (Nat.le_of_ble_eq_true rfl) ?_
  intro p e s m below meth c ls B F P hrt hlk hT hl
  have hx := B.1
  have hb := B.2.1
  have hl : lv_has ls 2 [(0, .int a), (1, .int b)] := hl
  refine lv_iload_n hx hb dX5_checkSlots_0 rfl (lv_at hl 0 rfl) ?_
  refine lv_iconst (v := 0) hx hb dX5_checkSlots_1 (by decide) ?_
  refine lv_bipush (v := 47) hx hb dX5_checkSlots_2 (by decide) ?_
  refine g_callSx B F P (As := [.int a, .int 0, .int 47]) (ct_X5_checkRange (D := D) (ad := ad) (cy := cy) (ba := ba) l a 0 47 σ hst) q371 q372 q1 q373 nk_X5_checkRange rfl ⟨(Nat.le_of_ble_eq_true rfl), (Nat.le_of_ble_eq_true rfl)⟩ hl.1 rfl (Nat.le_of_ble_eq_true rfl) dX5_checkSlots_4 ⟨Nat.le_of_ble_eq_true rfl, Nat.le_of_ble_eq_true rfl⟩ (fun c4 ce q9 H locs P h1 h2 h3 => ?_) (fun c4 H locs P => ?_)
  · rw [if_neg c4] at hE
    exact g_out P c4 (by rw [← hE]) rfl hT hlk (Nat.le_of_ble_eq_true rfl) (Nat.le_of_ble_eq_true rfl) h1 h2 h3
  rw [if_pos c4] at hE
  refine lv_iload_n hx hb dX5_checkSlots_7 rfl (lv_at hl 1 rfl) ?_
  refine lv_iload_n hx hb dX5_checkSlots_8 rfl (lv_at hl 0 rfl) ?_
  refine lv_bipush (v := 47) hx hb dX5_checkSlots_9 (by decide) ?_
  refine g_callSx B F P (As := [.int b, .int a, .int 47]) (ct_X5_checkRange (D := D) (ad := ad) (cy := cy) (ba := ba) l b a 47 σ hst) q371 q372 q1 q373 nk_X5_checkRange rfl ⟨(Nat.le_of_ble_eq_true rfl), (Nat.le_of_ble_eq_true rfl)⟩ hl.1 rfl (Nat.le_of_ble_eq_true rfl) dX5_checkSlots_11 ⟨Nat.le_of_ble_eq_true rfl, Nat.le_of_ble_eq_true rfl⟩ (fun c11 ce q9 H locs P h1 h2 h3 => ?_) (fun c11 H locs P => ?_)
  · rw [if_neg c11] at hE
    exact g_out P c11 (by rw [← hE]) rfl hT hlk (Nat.le_of_ble_eq_true rfl) (Nat.le_of_ble_eq_true rfl) h1 h2 h3
  rw [if_pos c11] at hE
  exact g_retvx B P (by rw [← hE]) rfl rfl hrt hlk (Nat.le_of_ble_eq_true rfl) (Nat.le_of_ble_eq_true rfl) dX5_checkSlots_14
def f_X5_checkAllowed (a : Int32) (σ : Sg) : Nat := if a < 1000000000 then 0 else 5
set_option maxHeartbeats 4000000 in
set_option maxRecDepth 100000 in
theorem ct_X5_checkAllowed {D : va_G} {ad : Nat → Nat} {cy : Nat → ClassId} {ba : Nat} (l : Launch) (a : Int32) (σ : Sg) (hst : l.stackTraces = false) : Cx D ad cy ba l 0 1 yX5_checkAllowed cX5_checkAllowed 1 none [.int a] σ (f_X5_checkAllowed a σ) none σ := by
  generalize hE : f_X5_checkAllowed a σ = Z
  dsimp only [f_X5_checkAllowed] at hE
  refine Cx.of (by decide +kernel) (Nat.le_of_ble_eq_true rfl) ?_
  intro p e s m below meth c ls B F P hrt hlk hT hl
  have hx := B.1
  have hb := B.2.1
  have hl : lv_has ls 1 [(0, .int a)] := hl
  refine lv_iload_n hx hb dX5_checkAllowed_0 rfl (lv_at hl 0 rfl) ?_
  refine g_ldc B q687 dX5_checkAllowed_1 ?_
  refine lv_icmp_lt (tgt := 16) hx hb dX5_checkAllowed_3 (by decide) (fun c3 => ?_) (fun c3 => ?_)
  · rw [if_pos c3] at hE
    exact g_retvx B P (by rw [← hE]) rfl rfl hrt hlk (Nat.le_of_ble_eq_true rfl) (Nat.le_of_ble_eq_true rfl) dX5_checkAllowed_16
  · rw [if_neg c3] at hE
    exact g_throw5 B F P hst (is := 245) (text := "no schedule is allowed") (by decide) (by rw [← hE]) rfl hl.1 hlk hT dX5_checkAllowed_6 dX5_checkAllowed_9 dX5_checkAllowed_10 dX5_checkAllowed_12 dX5_checkAllowed_15 (Nat.le_of_ble_eq_true rfl) (Nat.le_of_ble_eq_true rfl) (Nat.le_of_ble_eq_true rfl) (Nat.le_of_ble_eq_true rfl) (Nat.le_of_ble_eq_true rfl) (Nat.le_of_ble_eq_true rfl)
def f_X5_checkTrain (t : Int32) (σ : Sg) : Nat := if t < 0 then 3 else (if t < (rI σ 1 5) then 0 else 3)
set_option maxHeartbeats 4000000 in
set_option maxRecDepth 100000 in
theorem ct_X5_checkTrain {D : va_G} {ad : Nat → Nat} {cy : Nat → ClassId} {ba : Nat} (l : Launch) (t : Int32) (σ : Sg) (hst : l.stackTraces = false) : Cx D ad cy ba l 0 1 yX5_checkTrain cX5_checkTrain 2 none [.ref (ad 0), .int t] σ (f_X5_checkTrain t σ) none σ := by
  generalize hE : f_X5_checkTrain t σ = Z
  dsimp only [f_X5_checkTrain] at hE
  refine Cx.of (by decide +kernel) (Nat.le_of_ble_eq_true rfl) ?_
  intro p e s m below meth c ls B F P hrt hlk hT hl
  have hx := B.1
  have hb := B.2.1
  have hl : lv_has ls 2 [(0, .ref (ad 0)), (1, .int t)] := hl
  refine lv_iload_n hx hb dX5_checkTrain_0 rfl (lv_at hl 1 rfl) ?_
  refine lv_if_lt (tgt := 15) hx hb dX5_checkTrain_1 (by decide) (fun c1 => ?_) (fun c1 => ?_)
  · rw [if_pos c1] at hE
    exact g_throw3 B F P hst (is := 247) (text := "no such train") (by decide) (by rw [← hE]) rfl hl.1 hlk hT dX5_checkTrain_15 dX5_checkTrain_18 dX5_checkTrain_19 dX5_checkTrain_21 dX5_checkTrain_24 (Nat.le_of_ble_eq_true rfl) (Nat.le_of_ble_eq_true rfl) (Nat.le_of_ble_eq_true rfl) (Nat.le_of_ble_eq_true rfl) (Nat.le_of_ble_eq_true rfl) (Nat.le_of_ble_eq_true rfl)
  · rw [if_neg c1] at hE
    refine lv_iload_n hx hb dX5_checkTrain_4 rfl (lv_at hl 1 rfl) ?_
    refine lv_aload_n hx hb dX5_checkTrain_5 rfl (lv_at hl 0 rfl) ?_
    refine g_getr (k := 0) (t := 1) B F P ok5 (by decide) rfl rfl rfl (by decide) rfl q238 dX5_checkTrain_6 ?_
    refine g_geti (k := 5) B F P ok3 (by decide) rfl rfl rfl (by decide) q54 dX5_checkTrain_9 ?_
    refine lv_icmp_lt (tgt := 25) hx hb dX5_checkTrain_12 (by decide) (fun c12 => ?_) (fun c12 => ?_)
    · rw [if_pos c12] at hE
      exact g_retvx B P (by rw [← hE]) rfl rfl hrt hlk (Nat.le_of_ble_eq_true rfl) (Nat.le_of_ble_eq_true rfl) dX5_checkTrain_25
    · rw [if_neg c12] at hE
      exact g_throw3 B F P hst (is := 247) (text := "no such train") (by decide) (by rw [← hE]) rfl hl.1 hlk hT dX5_checkTrain_15 dX5_checkTrain_18 dX5_checkTrain_19 dX5_checkTrain_21 dX5_checkTrain_24 (Nat.le_of_ble_eq_true rfl) (Nat.le_of_ble_eq_true rfl) (Nat.le_of_ble_eq_true rfl) (Nat.le_of_ble_eq_true rfl) (Nat.le_of_ble_eq_true rfl) (Nat.le_of_ble_eq_true rfl)
def f_X5_checkReady (t : Int32) (σ : Sg) : Nat := if (rI σ (sid 0 + 3) t.toNatClampNeg) ≤ 0 then 0 else 2
set_option maxHeartbeats 4000000 in
set_option maxRecDepth 100000 in
theorem ct_X5_checkReady {D : va_G} {ad : Nat → Nat} {cy : Nat → ClassId} {ba : Nat} (l : Launch) (t : Int32) (σ : Sg) (hst : l.stackTraces = false) (ht : vp_in t 4) : Cx D ad cy ba l 0 1 yX5_checkReady cX5_checkReady 2 none [.ref (ad 0), .int t] σ (f_X5_checkReady t σ) none σ := by
  generalize hE : f_X5_checkReady t σ = Z
  dsimp only [f_X5_checkReady] at hE
  refine Cx.of (by decide +kernel) (Nat.le_of_ble_eq_true rfl) ?_
  intro p e s m below meth c ls B F P hrt hlk hT hl
  have hx := B.1
  have hb := B.2.1
  have hl : lv_has ls 2 [(0, .ref (ad 0)), (1, .int t)] := hl
  refine lv_aload_n hx hb dX5_checkReady_0 rfl (lv_at hl 0 rfl) ?_
  refine g_getr (k := 1) (t := (sid 0)) B F P ok5 (by decide) rfl rfl rfl (by decide) rfl q239 dX5_checkReady_1 ?_
  refine g_getr (k := 2) (t := (sid 0 + 3)) B F P ok4 (sid_lt0 (by decide)) (kd_s0 0) rfl rfl (by decide) (tg_s 0 2) q93 dX5_checkReady_4 ?_
  refine lv_iload_n hx hb dX5_checkReady_7 rfl (lv_at hl 1 rfl) ?_
  refine g_ild B F P (sid_lt (by decide) (by decide)) (kd_sc 0 3 (by decide) (by decide)) (ln_sc 0 3 (by decide)) ht dX5_checkReady_8 ?_
  refine lv_if_le (tgt := 22) hx hb dX5_checkReady_9 (by decide) (fun c9 => ?_) (fun c9 => ?_)
  · rw [if_pos c9] at hE
    exact g_retvx B P (by rw [← hE]) rfl rfl hrt hlk (Nat.le_of_ble_eq_true rfl) (Nat.le_of_ble_eq_true rfl) dX5_checkReady_22
  · rw [if_neg c9] at hE
    exact g_throw2 B F P hst (is := 249) (text := "the train is being cleaned") (by decide) (by rw [← hE]) rfl hl.1 hlk hT dX5_checkReady_12 dX5_checkReady_15 dX5_checkReady_16 dX5_checkReady_18 dX5_checkReady_21 (Nat.le_of_ble_eq_true rfl) (Nat.le_of_ble_eq_true rfl) (Nat.le_of_ble_eq_true rfl) (Nat.le_of_ble_eq_true rfl) (Nat.le_of_ble_eq_true rfl) (Nat.le_of_ble_eq_true rfl)
def f_X5_checkTank (t : Int32) (σ : Sg) : Nat := if t < 0 then 3 else (if t < (rI σ 1 6) then 0 else 3)
set_option maxHeartbeats 4000000 in
set_option maxRecDepth 100000 in
theorem ct_X5_checkTank {D : va_G} {ad : Nat → Nat} {cy : Nat → ClassId} {ba : Nat} (l : Launch) (t : Int32) (σ : Sg) (hst : l.stackTraces = false) : Cx D ad cy ba l 0 1 yX5_checkTank cX5_checkTank 2 none [.ref (ad 0), .int t] σ (f_X5_checkTank t σ) none σ := by
  generalize hE : f_X5_checkTank t σ = Z
  dsimp only [f_X5_checkTank] at hE
  refine Cx.of (by decide +kernel) (Nat.le_of_ble_eq_true rfl) ?_
  intro p e s m below meth c ls B F P hrt hlk hT hl
  have hx := B.1
  have hb := B.2.1
  have hl : lv_has ls 2 [(0, .ref (ad 0)), (1, .int t)] := hl
  refine lv_iload_n hx hb dX5_checkTank_0 rfl (lv_at hl 1 rfl) ?_
  refine lv_if_lt (tgt := 15) hx hb dX5_checkTank_1 (by decide) (fun c1 => ?_) (fun c1 => ?_)
  · rw [if_pos c1] at hE
    exact g_throw3 B F P hst (is := 251) (text := "no such tank") (by decide) (by rw [← hE]) rfl hl.1 hlk hT dX5_checkTank_15 dX5_checkTank_18 dX5_checkTank_19 dX5_checkTank_21 dX5_checkTank_24 (Nat.le_of_ble_eq_true rfl) (Nat.le_of_ble_eq_true rfl) (Nat.le_of_ble_eq_true rfl) (Nat.le_of_ble_eq_true rfl) (Nat.le_of_ble_eq_true rfl) (Nat.le_of_ble_eq_true rfl)
  · rw [if_neg c1] at hE
    refine lv_iload_n hx hb dX5_checkTank_4 rfl (lv_at hl 1 rfl) ?_
    refine lv_aload_n hx hb dX5_checkTank_5 rfl (lv_at hl 0 rfl) ?_
    refine g_getr (k := 0) (t := 1) B F P ok5 (by decide) rfl rfl rfl (by decide) rfl q238 dX5_checkTank_6 ?_
    refine g_geti (k := 6) B F P ok3 (by decide) rfl rfl rfl (by decide) q57 dX5_checkTank_9 ?_
    refine lv_icmp_lt (tgt := 25) hx hb dX5_checkTank_12 (by decide) (fun c12 => ?_) (fun c12 => ?_)
    · rw [if_pos c12] at hE
      exact g_retvx B P (by rw [← hE]) rfl rfl hrt hlk (Nat.le_of_ble_eq_true rfl) (Nat.le_of_ble_eq_true rfl) dX5_checkTank_25
    · rw [if_neg c12] at hE
      exact g_throw3 B F P hst (is := 251) (text := "no such tank") (by decide) (by rw [← hE]) rfl hl.1 hlk hT dX5_checkTank_15 dX5_checkTank_18 dX5_checkTank_19 dX5_checkTank_21 dX5_checkTank_24 (Nat.le_of_ble_eq_true rfl) (Nat.le_of_ble_eq_true rfl) (Nat.le_of_ble_eq_true rfl) (Nat.le_of_ble_eq_true rfl) (Nat.le_of_ble_eq_true rfl) (Nat.le_of_ble_eq_true rfl)
theorem rng_ok {v lo hi : Int32} {σ : Sg} (h : f_X5_checkRange v lo hi σ = 0) : lo.toInt ≤ v.toInt ∧ v.toInt ≤ hi.toInt := by
  unfold f_X5_checkRange at h
  simp only [Int32.lt_iff_toInt_lt, Int32.le_iff_toInt_le] at h
  split at h
  · exact absurd h (by decide)
  · split at h
    · omega
    · exact absurd h (by decide)
theorem trn_ok {t : Int32} {σ : Sg} (h : f_X5_checkTrain t σ = 0) : 0 ≤ t.toInt ∧ t.toInt < (rI σ 1 5).toInt := by
  unfold f_X5_checkTrain at h
  simp only [Int32.lt_iff_toInt_lt, show (0 : Int32).toInt = 0 from rfl] at h
  split at h
  · exact absurd h (by decide)
  · split at h
    · omega
    · exact absurd h (by decide)
theorem tnk_ok {t : Int32} {σ : Sg} (h : f_X5_checkTank t σ = 0) : 0 ≤ t.toInt ∧ t.toInt < (rI σ 1 6).toInt := by
  unfold f_X5_checkTank at h
  simp only [Int32.lt_iff_toInt_lt, show (0 : Int32).toInt = 0 from rfl] at h
  split at h
  · exact absurd h (by decide)
  · split at h
    · omega
    · exact absurd h (by decide)
theorem trn_in {t : Int32} {σ : Sg} {b : Int} (hC : GC b σ) (h : f_X5_checkTrain t σ = 0) : vp_in t 4 := vp_in_iff.mpr ⟨(trn_ok h).1, by have := (trn_ok h).2; have := hC.1.1.1; omega⟩
theorem tnk_in {t : Int32} {σ : Sg} {b : Int} (hC : GC b σ) (h : f_X5_checkTank t σ = 0) : vp_in t 3 := vp_in_iff.mpr ⟨(tnk_ok h).1, by have := (tnk_ok h).2; have := hC.1.1.2; omega⟩
theorem rng_in {v : Int32} {σ : Sg} (h : f_X5_checkRange v 0 47 σ = 0) : vp_in v 48 := vp_in_iff.mpr ⟨(rng_ok h).1, by have h2 := (rng_ok h).2; rw [show (47 : Int32).toInt = 47 from rfl] at h2; omega⟩
theorem trs_in {σ : Sg} {b : Int} (hC : GC b σ) (h : rI σ 1 5 < 4) : vp_in (rI σ 1 5) 4 := vp_in_iff.mpr ⟨hC.2.2.2.1, by rw [Int32.lt_iff_toInt_lt] at h; exact h⟩
theorem tks_in {σ : Sg} {b : Int} (hC : GC b σ) (h : rI σ 1 6 < 3) : vp_in (rI σ 1 6) 3 := vp_in_iff.mpr ⟨hC.2.2.2.2, by rw [Int32.lt_iff_toInt_lt] at h; exact h⟩

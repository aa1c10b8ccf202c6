def GP (σ : Sg) : Prop := GS σ ∧ (rI σ 13 5).toInt ≤ 6 ∧ ∀ j, vp_in (rI σ 16 j) 48
theorem GP.of {σ σ' : Sg} (h : GP σ) (e1 : ∀ j, rI σ' 1 j = rI σ 1 j) (e2 : rI σ' 13 5 = rI σ 13 5) (e3 : ∀ j, rI σ' 16 j = rI σ 16 j) : GP σ' := ⟨h.1.of e1, by rw [e2]; exact h.2.1, fun j => by rw [e3]; exact h.2.2 j⟩
theorem GP.fr {r : Nat} {a b : Sg} (h : GP a) (f : Fr r a b) : GP b := h.of (fun _ => f.lo (by decide)) (f.lo (by decide)) (fun _ => f.lo (by decide))
theorem in_s {x : Int32} {n : Nat} (h : vp_in x n) (hn : n < 100000 := by decide) : vp_in (x + 1) (n + 1) := by
  rw [vp_in_iff] at h
  have := i_succ h.1 (by omega)
  exact vp_in_iff.mpr ⟨by omega, by omega⟩
theorem in_w {x : Int32} {n k : Nat} (h : vp_in x n) (hk : n ≤ k) : vp_in x k := by
  rw [vp_in_iff] at h
  exact vp_in_iff.mpr ⟨h.1, by omega⟩
theorem r8 {x : Int32} (h : vp_in x 7) : x.toNatClampNeg + 1 < 8 := by have := Nat.not_le.mp fun q => h (Or.inr q); omega
theorem ta_r {x : Int32} : ta 14 x.toNatClampNeg = sid (x.toNatClampNeg + 1) := rfl
theorem nx_xor (a b : Nat) : nI a ^^^ nI b = nI (a ^^^ b) := by
  apply Int32.toBitVec_inj.1
  show BitVec.ofNat 32 a ^^^ BitVec.ofNat 32 b = BitVec.ofNat 32 (a ^^^ b)
  apply BitVec.eq_of_getLsbD_eq
  intro i hi
  simp [hi]
theorem slotOf_nI {a : Nat} (h : a < 2 ^ 31) (σ : Sg) : f_X5_slotOf (nI a) σ = nI (a % 48) := by
  unfold f_X5_slotOf f_J9_floorMod_7cf53
  rw [show (48 : Int32) = nI 48 from rfl, nx_xor, pk_rem h (by decide) (by decide), if_pos (nI_pos' (Nat.xor_lt_two_pow h (by decide)))]
theorem nI_of0 {x : Int32} (h : 0 ≤ x.toInt) : ∃ j : Nat, j < 2 ^ 31 ∧ x = nI j := nI_of (by rw [Int32.lt_iff_toInt_lt, show (0 : Int32).toInt = 0 from rfl]; omega)
theorem slotOf_in {x : Int32} (h : 0 ≤ x.toInt) (σ : Sg) : vp_in (f_X5_slotOf x σ) 48 := by
  obtain ⟨j, hj, rfl⟩ := nI_of0 h
  rw [slotOf_nI hj]
  exact vp_in_nI (Nat.mod_lt _ (by decide)) (by decide)
theorem i_add {a b : Int32} (h0 : 0 ≤ a.toInt) (h1 : a.toInt < 1000000000) (h2 : 0 ≤ b.toInt) (h3 : b.toInt < 1000000000) : (a + b).toInt = a.toInt + b.toInt := by
  rw [Int32.toInt_add, Int.bmod_def]
  omega
theorem GP.ss {σ σ' : Sg} {i : Nat} {v : Int32} (h : GP σ) (hv : vp_in v 48) (e1 : ∀ j, rI σ' 1 j = rI σ 1 j) (e2 : rI σ' 13 5 = rI σ 13 5) (e3 : ∀ j, rI σ' 16 j = if j = i then v else rI σ 16 j) : GP σ' := ⟨h.1.of e1, by rw [e2]; exact h.2.1, fun j => by rw [e3]; split; exact hv; exact h.2.2 j⟩
theorem min6 {x : Int32} : (if 6 < x then (6 : Int32) else x).toInt ≤ 6 := by
  split
  · decide
  · rename_i h
    rw [Int32.lt_iff_toInt_lt] at h
    have : (6 : Int32).toInt = 6 := rfl
    omega
theorem GP.bl {σ σ' : Sg} (h : GP σ) (h6 : (rI σ' 13 5).toInt ≤ 6) (e1 : ∀ j, rI σ' 1 j = rI σ 1 j) (e3 : ∀ j, rI σ' 16 j = rI σ 16 j) : GP σ' := ⟨h.1.of e1, h6, fun j => by rw [e3]; exact h.2.2 j⟩
theorem GO.of {σ σ' : Sg} (h : GO σ) (e : rI σ' 10 2 = rI σ 10 2) : GO σ' := by unfold GO; rw [e]; exact h

def f_X2_toldBy (sch : Int32) (ix : Int32) (σ : Sg) : Int32 := ((sch >>> ((((rI σ 13 5) - 1) - ix) &&& 31)) &&& 1)
set_option maxHeartbeats 4000000 in
set_option maxRecDepth 100000 in
theorem ct_X2_toldBy {D : va_G} {ad : Nat → Nat} {cy : Nat → ClassId} {ba : Nat} (l : Launch) (sch : Int32) (ix : Int32) (σ : Sg)  : Ct D ad cy ba l 0 yX2_toldBy cX2_toldBy 3 (some .int) [.ref (ad 13), .int sch, .int ix] σ (some (.int (f_X2_toldBy sch ix σ))) σ := by
  generalize hE : f_X2_toldBy sch ix σ = Z
  dsimp only [f_X2_toldBy] at hE
  refine Ct.of (by decide +kernel) (Nat.le_of_ble_eq_true rfl) ?_
  intro p e s m below meth c ls B F P hrt hlk hl
  have hx := B.1
  have hb := B.2.1
  have hl : lv_has ls 3 [(0, .ref (ad 13)), (1, .int sch), (2, .int ix)] := hl
  refine lv_iload_n hx hb dX2_toldBy_0 rfl (lv_at hl 1 rfl) ?_
  refine lv_aload_n hx hb dX2_toldBy_1 rfl (lv_at hl 0 rfl) ?_
  refine g_geti (k := 5) B F P ok2 (by decide) rfl rfl rfl (by decide) q174 dX2_toldBy_2 ?_
  refine lv_iconst (v := 1) hx hb dX2_toldBy_5 (by decide) ?_
  refine lv_isub hx hb dX2_toldBy_6 ?_
  refine lv_iload_n hx hb dX2_toldBy_7 rfl (lv_at hl 2 rfl) ?_
  refine lv_isub hx hb dX2_toldBy_8 ?_
  refine lv_ishr hx hb dX2_toldBy_9 ?_
  refine lv_iconst (v := 1) hx hb dX2_toldBy_10 (by decide) ?_
  refine lv_iand hx hb dX2_toldBy_11 ?_
  exact g_reti B P (by rw [← hE]) rfl hrt hlk dX2_toldBy_12
def f_X2_isAsOrdered (ix : Int32) (nx : Int32) (σ : Sg) : Int32 := if (rI σ 15 ix.toNatClampNeg) = (-1) then 1 else (if (rI σ 15 ix.toNatClampNeg) = nx then 1 else 0)
set_option maxHeartbeats 4000000 in
set_option maxRecDepth 100000 in
theorem ct_X2_isAsOrdered {D : va_G} {ad : Nat → Nat} {cy : Nat → ClassId} {ba : Nat} (l : Launch) (ix : Int32) (nx : Int32) (σ : Sg) (hix : vp_in ix 6) : Ct D ad cy ba l 0 yX2_isAsOrdered cX2_isAsOrdered 3 (some .boolean) [.ref (ad 13), .int ix, .int nx] σ (some (.int (f_X2_isAsOrdered ix nx σ))) σ := by
  generalize hE : f_X2_isAsOrdered ix nx σ = Z
  dsimp only [f_X2_isAsOrdered] at hE
  refine Ct.of (by decide +kernel) (Nat.le_of_ble_eq_true rfl) ?_
  intro p e s m below meth c ls B F P hrt hlk hl
  have hx := B.1
  have hb := B.2.1
  have hl : lv_has ls 3 [(0, .ref (ad 13)), (1, .int ix), (2, .int nx)] := hl
  refine lv_aload_n hx hb dX2_isAsOrdered_0 rfl (lv_at hl 0 rfl) ?_
  refine g_getr (k := 3) (t := 15) B F P ok2 (by decide) rfl rfl rfl (by decide) rfl q172 dX2_isAsOrdered_1 ?_
  refine lv_iload_n hx hb dX2_isAsOrdered_4 rfl (lv_at hl 1 rfl) ?_
  refine g_ild B F P (by decide) rfl rfl hix dX2_isAsOrdered_5 ?_
  refine lv_iconst (v := (-1)) hx hb dX2_isAsOrdered_6 (by decide) ?_
  refine lv_icmp_eq (tgt := 20) hx hb dX2_isAsOrdered_7 (by decide) (fun c7 => ?_) (fun c7 => ?_)
  · rw [if_pos c7] at hE
    refine lv_iconst (v := 1) hx hb dX2_isAsOrdered_20 (by decide) ?_
    refine lv_goto (tgt := 25) hx hb dX2_isAsOrdered_21 (by decide) ?_
    exact g_retz B P (by rw [← hE]) rfl hrt rfl hlk dX2_isAsOrdered_25
  · rw [if_neg c7] at hE
    refine lv_aload_n hx hb dX2_isAsOrdered_10 rfl (lv_at hl 0 rfl) ?_
    refine g_getr (k := 3) (t := 15) B F P ok2 (by decide) rfl rfl rfl (by decide) rfl q172 dX2_isAsOrdered_11 ?_
    refine lv_iload_n hx hb dX2_isAsOrdered_14 rfl (lv_at hl 1 rfl) ?_
    refine g_ild B F P (by decide) rfl rfl hix dX2_isAsOrdered_15 ?_
    refine lv_iload_n hx hb dX2_isAsOrdered_16 rfl (lv_at hl 2 rfl) ?_
    refine lv_icmp_ne (tgt := 24) hx hb dX2_isAsOrdered_17 (by decide) (fun c17 => ?_) (fun c17 => ?_)
    · rw [if_neg c17] at hE
      refine lv_iconst (v := 0) hx hb dX2_isAsOrdered_24 (by decide) ?_
      exact g_retz B P (by rw [← hE]) rfl hrt rfl hlk dX2_isAsOrdered_25
    · rw [if_pos c17] at hE
      refine lv_iconst (v := 1) hx hb dX2_isAsOrdered_20 (by decide) ?_
      refine lv_goto (tgt := 25) hx hb dX2_isAsOrdered_21 (by decide) ?_
      exact g_retz B P (by rw [← hE]) rfl hrt rfl hlk dX2_isAsOrdered_25
theorem nk_X4_copy : nmOk yX4_copy RX4 1 := ⟨rfl, by decide +kernel, by decide +kernel, by decide +kernel⟩
theorem nk_X4_letPass : nmOk yX4_letPass RX4 3 := ⟨rfl, by decide +kernel, by decide +kernel, by decide +kernel⟩
def f_X2_canPass (ix : Int32) (nx : Int32) (σ : Sg) : Int32 × Sg := if nx = 1 then (if (rI (f_X4_letPass ((ix + 1).toNatClampNeg + 1) (rI (f_X4_copy ((ix + 1).toNatClampNeg + 1) (ix.toNatClampNeg + 1) σ) 16 ix.toNatClampNeg) 1 (f_X4_copy ((ix + 1).toNatClampNeg + 1) (ix.toNatClampNeg + 1) σ)) (sid ((ix + 1).toNatClampNeg + 1)) 12) = 0 then (1, (f_X4_letPass ((ix + 1).toNatClampNeg + 1) (rI (f_X4_copy ((ix + 1).toNatClampNeg + 1) (ix.toNatClampNeg + 1) σ) 16 ix.toNatClampNeg) 1 (f_X4_copy ((ix + 1).toNatClampNeg + 1) (ix.toNatClampNeg + 1) σ))) else (0, (f_X4_letPass ((ix + 1).toNatClampNeg + 1) (rI (f_X4_copy ((ix + 1).toNatClampNeg + 1) (ix.toNatClampNeg + 1) σ) 16 ix.toNatClampNeg) 1 (f_X4_copy ((ix + 1).toNatClampNeg + 1) (ix.toNatClampNeg + 1) σ)))) else (if (rI (f_X4_letPass ((ix + 1).toNatClampNeg + 1) (rI (f_X4_copy ((ix + 1).toNatClampNeg + 1) (ix.toNatClampNeg + 1) σ) 16 ix.toNatClampNeg) 0 (f_X4_copy ((ix + 1).toNatClampNeg + 1) (ix.toNatClampNeg + 1) σ)) (sid ((ix + 1).toNatClampNeg + 1)) 12) = 0 then (1, (f_X4_letPass ((ix + 1).toNatClampNeg + 1) (rI (f_X4_copy ((ix + 1).toNatClampNeg + 1) (ix.toNatClampNeg + 1) σ) 16 ix.toNatClampNeg) 0 (f_X4_copy ((ix + 1).toNatClampNeg + 1) (ix.toNatClampNeg + 1) σ))) else (0, (f_X4_letPass ((ix + 1).toNatClampNeg + 1) (rI (f_X4_copy ((ix + 1).toNatClampNeg + 1) (ix.toNatClampNeg + 1) σ) 16 ix.toNatClampNeg) 0 (f_X4_copy ((ix + 1).toNatClampNeg + 1) (ix.toNatClampNeg + 1) σ))))
set_option maxHeartbeats 4000000 in
set_option maxRecDepth 100000 in
theorem ct_X2_canPass {D : va_G} {ad : Nat → Nat} {cy : Nat → ClassId} {ba : Nat} (l : Launch) (ix : Int32) (nx : Int32) (σ : Sg) (hix : vp_in ix 6) (hP : GP σ) : Ct D ad cy ba l 3 yX2_canPass cX2_canPass 4 (some .boolean) [.ref (ad 13), .int ix, .int nx] σ (some (.int (f_X2_canPass ix nx σ).1)) (f_X2_canPass ix nx σ).2 := by
  generalize hE : f_X2_canPass ix nx σ = Z
  dsimp only [f_X2_canPass] at hE
  refine Ct.of (by decide +kernel) (Nat.le_of_ble_eq_true rfl) ?_
  intro p e s m below meth c ls B F P hrt hlk hl
  have hx := B.1
  have hb := B.2.1
  have hl : lv_has ls 4 [(0, .ref (ad 13)), (1, .int ix), (2, .int nx)] := hl
  refine lv_aload_n hx hb dX2_canPass_0 rfl (lv_at hl 0 rfl) ?_
  refine g_getr (k := 2) (t := 14) B F P ok2 (by decide) rfl rfl rfl (by decide) rfl q171 dX2_canPass_1 ?_
  refine lv_iload_n hx hb dX2_canPass_4 rfl (lv_at hl 1 rfl) ?_
  refine lv_iconst (v := 1) hx hb dX2_canPass_5 (by decide) ?_
  refine lv_iadd hx hb dX2_canPass_6 ?_
  refine g_rld (t := (sid ((ix + 1).toNatClampNeg + 1))) B F P (by decide) rfl (by decide) rfl (in_s hix) ta_r dX2_canPass_7 ?_
  refine lv_astore_n (lv' := [(3, .ref (ad (sid ((ix + 1).toNatClampNeg + 1)))), (0, .ref (ad 13)), (1, .int ix), (2, .int nx)]) hx hb dX2_canPass_8 rfl hl (by decide) rfl (fun ls hl => ?_)
  refine lv_aload_n hx hb dX2_canPass_9 rfl (lv_at hl 0 rfl) ?_
  refine lv_aload_n hx hb dX2_canPass_10 rfl (lv_at hl 1 rfl) ?_
  refine g_getr (k := 2) (t := 14) B F P ok2 (by decide) rfl rfl rfl (by decide) rfl q171 dX2_canPass_11 ?_
  refine lv_iload_n hx hb dX2_canPass_14 rfl (lv_at hl 2 rfl) ?_
  refine g_rld (t := (sid (ix.toNatClampNeg + 1))) B F P (by decide) rfl (by decide) rfl (in_w hix (by decide)) ta_r dX2_canPass_15 ?_
  refine g_callV B F P (As := [.ref (ad (sid (ix.toNatClampNeg + 1)))]) (ct_X4_copy (D := D) (ad := ad) (cy := cy) (ba := ba) l ((ix + 1).toNatClampNeg + 1) (ix.toNatClampNeg + 1) σ (r8 (in_s hix)) (r8 (in_w hix (by decide)))) ok4 (sid_lt0 (r8 (in_s hix))) (kd_s0 ((ix + 1).toNatClampNeg + 1)) q664 q665 q666 q4 q667 nk_X4_copy rfl ⟨(Nat.le_of_ble_eq_true rfl), (Nat.le_of_ble_eq_true rfl)⟩ hl.1 rfl (Nat.le_of_ble_eq_true rfl) dX2_canPass_16 ⟨Nat.le_of_ble_eq_true rfl, Nat.le_of_ble_eq_true rfl⟩ (fun H locs P => ?_)
  refine lv_aload_n hx hb dX2_canPass_19 rfl (lv_at hl 0 rfl) ?_
  refine lv_aload_n hx hb dX2_canPass_20 rfl (lv_at hl 1 rfl) ?_
  refine g_getr (k := 0) (t := 1) B F P ok2 (by decide) rfl rfl rfl (by decide) rfl q169 dX2_canPass_21 ?_
  refine lv_aload_n hx hb dX2_canPass_24 rfl (lv_at hl 1 rfl) ?_
  refine g_getr (k := 4) (t := 16) B F P ok2 (by decide) rfl rfl rfl (by decide) rfl q173 dX2_canPass_25 ?_
  refine lv_iload_n hx hb dX2_canPass_28 rfl (lv_at hl 2 rfl) ?_
  refine g_ild B F P (by decide) rfl rfl hix dX2_canPass_29 ?_
  refine lv_iload_n hx hb dX2_canPass_30 rfl (lv_at hl 3 rfl) ?_
  refine lv_iconst (v := 1) hx hb dX2_canPass_31 (by decide) ?_
  refine lv_icmp_ne (tgt := 39) hx hb dX2_canPass_32 (by decide) (fun c32 => ?_) (fun c32 => ?_)
  · rw [if_neg c32] at hE
    refine lv_iconst (v := 0) hx hb dX2_canPass_39 (by decide) ?_
    refine g_callV B F P (As := [.ref (ad 1), .int (rI (f_X4_copy ((ix + 1).toNatClampNeg + 1) (ix.toNatClampNeg + 1) σ) 16 ix.toNatClampNeg), .int 0]) (ct_X4_letPass (D := D) (ad := ad) (cy := cy) (ba := ba) l ((ix + 1).toNatClampNeg + 1) (rI (f_X4_copy ((ix + 1).toNatClampNeg + 1) (ix.toNatClampNeg + 1) σ) 16 ix.toNatClampNeg) 0 (f_X4_copy ((ix + 1).toNatClampNeg + 1) (ix.toNatClampNeg + 1) σ) (r8 (in_s hix)) ((hP.fr (fr_X4_copy _ _ _)).2.2 _) (hP.fr (fr_X4_copy _ _ _)).1) ok4 (sid_lt0 (r8 (in_s hix))) (kd_s0 ((ix + 1).toNatClampNeg + 1)) q686 q279 q280 q4 q281 nk_X4_letPass rfl ⟨(Nat.le_of_ble_eq_true rfl), (Nat.le_of_ble_eq_true rfl)⟩ hl.1 rfl (Nat.le_of_ble_eq_true rfl) dX2_canPass_40 ⟨Nat.le_of_ble_eq_true rfl, Nat.le_of_ble_eq_true rfl⟩ (fun H locs P => ?_)
    refine lv_aload_n hx hb dX2_canPass_43 rfl (lv_at hl 0 rfl) ?_
    refine g_geti (k := 12) B F P ok4 (sid_lt0 (r8 (in_s hix))) (kd_s0 ((ix + 1).toNatClampNeg + 1)) rfl rfl (by decide) q115 dX2_canPass_44 ?_
    refine lv_if_ne (tgt := 54) hx hb dX2_canPass_47 (by decide) (fun c47 => ?_) (fun c47 => ?_)
    · rw [if_neg c47] at hE
      refine lv_iconst (v := 0) hx hb dX2_canPass_54 (by decide) ?_
      exact g_retz B P (by rw [← hE]) (by rw [← hE]) hrt rfl hlk dX2_canPass_55
    · rw [if_pos c47] at hE
      refine lv_iconst (v := 1) hx hb dX2_canPass_50 (by decide) ?_
      refine lv_goto (tgt := 55) hx hb dX2_canPass_51 (by decide) ?_
      exact g_retz B P (by rw [← hE]) (by rw [← hE]) hrt rfl hlk dX2_canPass_55
  · rw [if_pos c32] at hE
    refine lv_iconst (v := 1) hx hb dX2_canPass_35 (by decide) ?_
    refine lv_goto (tgt := 40) hx hb dX2_canPass_36 (by decide) ?_
    refine g_callV B F P (As := [.ref (ad 1), .int (rI (f_X4_copy ((ix + 1).toNatClampNeg + 1) (ix.toNatClampNeg + 1) σ) 16 ix.toNatClampNeg), .int 1]) (ct_X4_letPass (D := D) (ad := ad) (cy := cy) (ba := ba) l ((ix + 1).toNatClampNeg + 1) (rI (f_X4_copy ((ix + 1).toNatClampNeg + 1) (ix.toNatClampNeg + 1) σ) 16 ix.toNatClampNeg) 1 (f_X4_copy ((ix + 1).toNatClampNeg + 1) (ix.toNatClampNeg + 1) σ) (r8 (in_s hix)) ((hP.fr (fr_X4_copy _ _ _)).2.2 _) (hP.fr (fr_X4_copy _ _ _)).1) ok4 (sid_lt0 (r8 (in_s hix))) (kd_s0 ((ix + 1).toNatClampNeg + 1)) q686 q279 q280 q4 q281 nk_X4_letPass rfl ⟨(Nat.le_of_ble_eq_true rfl), (Nat.le_of_ble_eq_true rfl)⟩ hl.1 rfl (Nat.le_of_ble_eq_true rfl) dX2_canPass_40 ⟨Nat.le_of_ble_eq_true rfl, Nat.le_of_ble_eq_true rfl⟩ (fun H locs P => ?_)
    refine lv_aload_n hx hb dX2_canPass_43 rfl (lv_at hl 0 rfl) ?_
    refine g_geti (k := 12) B F P ok4 (sid_lt0 (r8 (in_s hix))) (kd_s0 ((ix + 1).toNatClampNeg + 1)) rfl rfl (by decide) q115 dX2_canPass_44 ?_
    refine lv_if_ne (tgt := 54) hx hb dX2_canPass_47 (by decide) (fun c47 => ?_) (fun c47 => ?_)
    · rw [if_neg c47] at hE
      refine lv_iconst (v := 0) hx hb dX2_canPass_54 (by decide) ?_
      exact g_retz B P (by rw [← hE]) (by rw [← hE]) hrt rfl hlk dX2_canPass_55
    · rw [if_pos c47] at hE
      refine lv_iconst (v := 1) hx hb dX2_canPass_50 (by decide) ?_
      refine lv_goto (tgt := 55) hx hb dX2_canPass_51 (by decide) ?_
      exact g_retz B P (by rw [← hE]) (by rw [← hE]) hrt rfl hlk dX2_canPass_55
theorem nk_X1_told : nmOk yX1_told RX1 1 := ⟨rfl, by decide +kernel, by decide +kernel, by decide +kernel⟩
theorem nk_X5_slotOf : nmOk yX5_slotOf RX5 1 := ⟨rfl, by decide +kernel, by decide +kernel, by decide +kernel⟩
def f_X2_begin_l23 (pr : Int32) (nh : Int32) : Nat → Int32 → Sg → Sg
  | 0, _, σ23 => σ23
  | n23 + 1, x4_23, σ23 => if (rI σ23 13 5) ≤ x4_23 then σ23 else (f_X2_begin_l23 pr nh n23 (x4_23 + 1) (sI (sI σ23 15 x4_23.toNatClampNeg (f_X1_told (pr + x4_23) σ23)) 16 x4_23.toNatClampNeg (f_X5_slotOf (pr + x4_23) (sI σ23 15 x4_23.toNatClampNeg (f_X1_told (pr + x4_23) σ23)))))
def f_X2_begin (pr : Int32) (nh : Int32) (σ : Sg) : Sg := f_X2_begin_l23 pr nh 7 0 (sI (f_X4_copy 1 0 σ) 13 5 (if 6 < nh then 6 else nh))
set_option maxHeartbeats 4000000 in
set_option maxRecDepth 100000 in
theorem ct_X2_begin {D : va_G} {ad : Nat → Nat} {cy : Nat → ClassId} {ba : Nat} (l : Launch) (pr : Int32) (nh : Int32) (σ : Sg) (hP : GP σ) (hO : GO σ) (hpr : 0 ≤ pr.toInt ∧ pr.toInt < 100000) : Ct D ad cy ba l 2 yX2_begin cX2_begin 5 none [.ref (ad 13), .ref (ad (sid 0)), .int pr, .int nh] σ none (f_X2_begin pr nh σ) := by
  generalize hE : f_X2_begin pr nh σ = Z
  dsimp only [f_X2_begin] at hE
  refine Ct.of (by decide +kernel) (Nat.le_of_ble_eq_true rfl) ?_
  intro p e s m below meth c ls B F P hrt hlk hl
  have hx := B.1
  have hb := B.2.1
  have hl : lv_has ls 5 [(0, .ref (ad 13)), (1, .ref (ad (sid 0))), (2, .int pr), (3, .int nh)] := hl
  refine lv_aload_n hx hb dX2_begin_0 rfl (lv_at hl 0 rfl) ?_
  refine g_getr (k := 2) (t := 14) B F P ok2 (by decide) rfl rfl rfl (by decide) rfl q171 dX2_begin_1 ?_
  refine lv_iconst (v := 0) hx hb dX2_begin_4 (by decide) ?_
  refine g_rld (t := (sid 1)) B F P (by decide) rfl (by decide) rfl (by unfold vp_in; decide) rfl dX2_begin_5 ?_
  refine lv_aload_n hx hb dX2_begin_6 rfl (lv_at hl 1 rfl) ?_
  refine g_callV B F P (As := [.ref (ad (sid 0))]) (ct_X4_copy (D := D) (ad := ad) (cy := cy) (ba := ba) l 1 0 σ (by decide) (by decide)) ok4 (sid_lt0 (by decide)) (kd_s0 1) q664 q665 q666 q4 q667 nk_X4_copy rfl ⟨(Nat.le_of_ble_eq_true rfl), (Nat.le_of_ble_eq_true rfl)⟩ hl.1 rfl (Nat.le_of_ble_eq_true rfl) dX2_begin_7 ⟨Nat.le_of_ble_eq_true rfl, Nat.le_of_ble_eq_true rfl⟩ (fun H locs P => ?_)
  refine lv_aload_n hx hb dX2_begin_10 rfl (lv_at hl 0 rfl) ?_
  refine lv_iload_n hx hb dX2_begin_11 rfl (lv_at hl 3 rfl) ?_
  refine lv_bipush (v := 6) hx hb dX2_begin_12 (by decide) ?_
  refine g_min B hl.1 q671 q287 q18 q288 (Nat.le_of_ble_eq_true rfl) (Nat.le_of_ble_eq_true rfl) (Nat.le_of_ble_eq_true rfl) (Nat.le_of_ble_eq_true rfl) dX2_begin_14 ?_
  refine g_puti (k := 5) B F P ok2 (by decide) rfl rfl rfl (by decide) rfl (tyX2_ok 5 (by decide)) q174 dX2_begin_17 (fun H locs P => ?_)
  refine lv_iconst (v := 0) hx hb dX2_begin_20 (by decide) ?_
  refine lv_istore (lv' := [(4, .int 0), (0, .ref (ad 13)), (1, .ref (ad (sid 0))), (2, .int pr), (3, .int nh)]) hx hb dX2_begin_21 hl (by decide) rfl (fun ls hl => ?_)
  have L23 : ∀ (n23 : Nat) (x4_23 : Int32) (σ23 : Sg), LI 6 n23 x4_23 → GP σ23 → GO σ23 → f_X2_begin_l23 pr nh n23 x4_23 σ23 = Z → ∀ (H : Heap) (locs : List Loc), Wo D ad cy ba s σ23 H locs → ∀ (ls : Array Slot), lv_has ls 5 [(4, .int x4_23), (0, .ref (ad 13)), (1, .ref (ad (sid 0))), (2, .int pr), (3, .int nh)] → W p l e (rmK 2 0 0) s m ([.ref (ad 13), .ref (ad (sid 0)), .int pr, .int nh] : List Value).toArray below meth c H locs 0 0 (MQ below (Qe D ad cy ba none Z) ([.ref (ad 13), .ref (ad (sid 0)), .int pr, .int nh] : List Value).toArray s 0 0 (fun q => ba ≤ q)) (F0 m 23 ls []) := by
    clear hE P hl
    intro n23
    induction n23 with
    | zero => intro x4_23 σ23 hI23 hP23 hO23 hE; exact absurd hI23 LI.zero
    | succ n23 ih23 =>
      intro x4_23 σ23 hI23 hP23 hO23 hE H locs P ls hl
      dsimp only [f_X2_begin_l23] at hE
      refine lv_iload hx hb dX2_begin_23 (lv_at hl 0 rfl) ?_
      refine lv_aload_n hx hb dX2_begin_25 rfl (lv_at hl 1 rfl) ?_
      refine g_geti (k := 5) B F P ok2 (by decide) rfl rfl rfl (by decide) q174 dX2_begin_26 ?_
      refine lv_icmp_ge (tgt := 70) hx hb dX2_begin_29 (by decide) (fun c29 => ?_) (fun c29 => ?_)
      · rw [if_pos c29] at hE
        exact g_retv B P rfl (by rw [← hE]) hrt hlk dX2_begin_70
      · rw [if_neg c29] at hE
        refine lv_aload_n hx hb dX2_begin_32 rfl (lv_at hl 1 rfl) ?_
        refine g_getr (k := 3) (t := 15) B F P ok2 (by decide) rfl rfl rfl (by decide) rfl q172 dX2_begin_33 ?_
        refine lv_iload hx hb dX2_begin_36 (lv_at hl 0 rfl) ?_
        refine lv_aload_n hx hb dX2_begin_38 rfl (lv_at hl 1 rfl) ?_
        refine g_getr (k := 1) (t := 10) B F P ok2 (by decide) rfl rfl rfl (by decide) rfl q170 dX2_begin_39 ?_
        refine lv_iload_n hx hb dX2_begin_42 rfl (lv_at hl 3 rfl) ?_
        refine lv_iload hx hb dX2_begin_43 (lv_at hl 0 rfl) ?_
        refine lv_iadd hx hb dX2_begin_45 ?_
        refine g_callV B F P (As := [.int (pr + x4_23)]) (ct_X1_told (D := D) (ad := ad) (cy := cy) (ba := ba) l (pr + x4_23) σ23 hO23) ok1 (by decide) rfl q672 q653 q654 q5 q655 nk_X1_told rfl ⟨(Nat.le_of_ble_eq_true rfl), (Nat.le_of_ble_eq_true rfl)⟩ hl.1 rfl (Nat.le_of_ble_eq_true rfl) dX2_begin_46 ⟨Nat.le_of_ble_eq_true rfl, Nat.le_of_ble_eq_true rfl⟩ (fun H locs P => ?_)
        refine g_ist B F P (by decide) rfl rfl (hI23.into c29 hP23.2.1) dX2_begin_49 (fun H locs P => ?_)
        refine lv_aload_n hx hb dX2_begin_50 rfl (lv_at hl 1 rfl) ?_
        refine g_getr (k := 4) (t := 16) B F P ok2 (by decide) rfl rfl rfl (by decide) rfl q173 dX2_begin_51 ?_
        refine lv_iload hx hb dX2_begin_54 (lv_at hl 0 rfl) ?_
        refine lv_iload_n hx hb dX2_begin_56 rfl (lv_at hl 3 rfl) ?_
        refine lv_iload hx hb dX2_begin_57 (lv_at hl 0 rfl) ?_
        refine lv_iadd hx hb dX2_begin_59 ?_
        refine g_callSN B F P (As := [.int (pr + x4_23)]) (ct_X5_slotOf (D := D) (ad := ad) (cy := cy) (ba := ba) l (pr + x4_23) (sI σ23 15 x4_23.toNatClampNeg (f_X1_told (pr + x4_23) σ23)) ) k673 q273 q1 q274 nk_X5_slotOf rfl ⟨(Nat.le_of_ble_eq_true rfl), (Nat.le_of_ble_eq_true rfl)⟩ hl.1 rfl (Nat.le_of_ble_eq_true rfl) dX2_begin_60 ⟨Nat.le_of_ble_eq_true rfl, Nat.le_of_ble_eq_true rfl⟩ (fun H locs P => ?_)
        refine g_ist B F P (by decide) rfl rfl (hI23.into c29 hP23.2.1) dX2_begin_63 (fun H locs P => ?_)
        refine lv_iinc (v := (x4_23 + 1)) (lv' := [(4, .int (x4_23 + 1)), (0, .ref (ad 13)), (1, .ref (ad (sid 0))), (2, .int pr), (3, .int nh)]) hx hb dX2_begin_64 hl (k := 0) rfl (by first | rfl | decide) (by decide) rfl (fun ls hl => ?_)
        refine lv_goto (tgt := 23) hx hb dX2_begin_67 (by decide) ?_
        exact ih23 (x4_23 + 1) (sI (sI σ23 15 x4_23.toNatClampNeg (f_X1_told (pr + x4_23) σ23)) 16 x4_23.toNatClampNeg (f_X5_slotOf (pr + x4_23) (sI σ23 15 x4_23.toNatClampNeg (f_X1_told (pr + x4_23) σ23)))) (hI23.next c29 hP23.2.1) (hP23.ss (i := x4_23.toNatClampNeg) (slotOf_in (x := pr + x4_23) (by rw [i_add hpr.1 (by omega) hI23.1 (by have := hI23.2.2; omega)]; have := hI23.1; omega) (sI σ23 15 x4_23.toNatClampNeg (f_X1_told (pr + x4_23) σ23))) (fun j => by simp only [rI_sI]; simp) (by simp only [rI_sI]; simp) (fun j => by simp only [rI_sI]; simp)) (hO23.of (by simp only [rI_sI]; simp)) hE _ _ P _ (lv_sub hl [0, 1, 2, 3, 4] rfl)
  exact L23 7 0 (sI (f_X4_copy 1 0 σ) 13 5 (if 6 < nh then 6 else nh)) LI.start ((hP.fr (fr_X4_copy 1 0 _)).bl (by rw [rI_sI, if_pos ⟨rfl, rfl⟩]; exact min6) (fun j => by simp only [rI_sI]; simp) (fun j => by simp only [rI_sI]; simp)) (hO.of (by simp only [rI_sI, (fr_X4_copy 1 0 _).lo (show 10 < 33 by decide)]; simp)) hE _ _ P _ (lv_sub hl [0, 1, 2, 3, 4] rfl)
/-- nothing is changed but the planner's rows (from the second on), its best and its least cost -/
def Pf (σ σ' : Sg) : Prop := (∀ k j, k < 39 → ¬ (k = 13 ∧ (j = 6 ∨ j = 7)) → rI σ' k j = rI σ k j) ∧ σ'.2 = σ.2
theorem Pf.refl {σ : Sg} : Pf σ σ := ⟨fun _ _ _ _ => rfl, rfl⟩
theorem Pf.trans {a b c : Sg} (h1 : Pf a b) (h2 : Pf b c) : Pf a c := ⟨fun k j h h' => (h2.1 k j h h').trans (h1.1 k j h h'), h2.2.trans h1.2⟩
theorem Pf.fr {r : Nat} {a b : Sg} (h : Fr (r + 1) a b) : Pf a b := ⟨fun k j hk _ => h.1 k j (Or.inl (by unfold sid; omega)), h.2⟩
theorem Pf.sI {j : Nat} {x : Int32} {a b : Sg} (h : Pf a b) (hj : j = 6 ∨ j = 7) : Pf a (sI b 13 j x) := ⟨fun k j' hk hn => by rw [rI_sI, if_neg (fun e => hn ⟨e.1, by rw [e.2]; exact hj⟩)]; exact h.1 k j' hk hn, h.2⟩
theorem GP.pf {a b : Sg} (h : GP a) (f : Pf a b) : GP b := h.of (fun j => f.1 1 j (by decide) (by omega)) (f.1 13 5 (by decide) (by omega)) (fun j => f.1 16 j (by decide) (by omega))
theorem pf_X2_canPass (ix nx : Int32) (σ : Sg) : Pf σ (f_X2_canPass ix nx σ).2 := by
  unfold f_X2_canPass
  split <;> split <;> exact Pf.trans (Pf.fr (fr_X4_copy _ _ _)) (Pf.fr (fr_X4_letPass _ _ _ _))

theorem nk_X2_toldBy : nmOk yX2_toldBy RX2 2 := ⟨rfl, by decide +kernel, by decide +kernel, by decide +kernel⟩
theorem nk_X2_isAsOrdered : nmOk yX2_isAsOrdered RX2 2 := ⟨rfl, by decide +kernel, by decide +kernel, by decide +kernel⟩
theorem nk_X2_canPass : nmOk yX2_canPass RX2 2 := ⟨rfl, by decide +kernel, by decide +kernel, by decide +kernel⟩
def f_X2_costOf_l4 (sch : Int32) : Nat → Int32 → Int32 → Sg → Int32 × Sg
  | 0, _, _, σ4 => (0, σ4)
  | n4 + 1, x3_4, x2_4, σ4 => if (rI σ4 13 5) ≤ x3_4 then (x2_4, σ4) else (if (f_X2_isAsOrdered x3_4 (f_X2_toldBy sch x3_4 σ4) σ4) = 0 then (1000000000, σ4) else (if (f_X2_canPass x3_4 (f_X2_toldBy sch x3_4 σ4) σ4).1 = 0 then (1000000000, (f_X2_canPass x3_4 (f_X2_toldBy sch x3_4 σ4) σ4).2) else (f_X2_costOf_l4 sch n4 (x3_4 + 1) (x2_4 + (rI ((f_X2_canPass x3_4 (f_X2_toldBy sch x3_4 σ4) σ4).2) (sid ((x3_4 + 1).toNatClampNeg + 1)) 8)) ((f_X2_canPass x3_4 (f_X2_toldBy sch x3_4 σ4) σ4).2))))
def f_X2_costOf (sch : Int32) (σ : Sg) : Int32 × Sg := f_X2_costOf_l4 sch 7 0 0 σ
set_option maxHeartbeats 4000000 in
set_option maxRecDepth 100000 in
theorem ct_X2_costOf {D : va_G} {ad : Nat → Nat} {cy : Nat → ClassId} {ba : Nat} (l : Launch) (sch : Int32) (σ : Sg) (hP : GP σ) : Ct D ad cy ba l 4 yX2_costOf cX2_costOf 5 (some .int) [.ref (ad 13), .int sch] σ (some (.int (f_X2_costOf sch σ).1)) (f_X2_costOf sch σ).2 := by
  generalize hE : f_X2_costOf sch σ = Z
  dsimp only [f_X2_costOf] at hE
  refine Ct.of (by decide +kernel) (Nat.le_of_ble_eq_true rfl) ?_
  intro p e s m below meth c ls B F P hrt hlk hl
  have hx := B.1
  have hb := B.2.1
  have hl : lv_has ls 5 [(0, .ref (ad 13)), (1, .int sch)] := hl
  refine lv_iconst (v := 0) hx hb dX2_costOf_0 (by decide) ?_
  refine lv_istore_n (lv' := [(2, .int 0), (0, .ref (ad 13)), (1, .int sch)]) hx hb dX2_costOf_1 rfl hl (by decide) rfl (fun ls hl => ?_)
  refine lv_iconst (v := 0) hx hb dX2_costOf_2 (by decide) ?_
  refine lv_istore_n (lv' := [(3, .int 0), (2, .int 0), (0, .ref (ad 13)), (1, .int sch)]) hx hb dX2_costOf_3 rfl hl (by decide) rfl (fun ls hl => ?_)
  have L4 : ∀ (n4 : Nat) (x3_4 : Int32) (x2_4 : Int32) (σ4 : Sg), LI 6 n4 x3_4 → GP σ4 → f_X2_costOf_l4 sch n4 x3_4 x2_4 σ4 = Z → ∀ (H : Heap) (locs : List Loc), Wo D ad cy ba s σ4 H locs → ∀ (ls : Array Slot), lv_has ls 5 [(3, .int x3_4), (2, .int x2_4), (0, .ref (ad 13)), (1, .int sch)] → W p l e (rmK 4 0 0) s m ([.ref (ad 13), .int sch] : List Value).toArray below meth c H locs 0 0 (MQ below (Qe D ad cy ba (some (.int Z.1)) Z.2) ([.ref (ad 13), .int sch] : List Value).toArray s 0 0 (fun q => ba ≤ q)) (F0 m 4 ls []) := by
    clear hE P hl
    intro n4
    induction n4 with
    | zero => intro x3_4 x2_4 σ4 hI4 hP4 hE; exact absurd hI4 LI.zero
    | succ n4 ih4 =>
      intro x3_4 x2_4 σ4 hI4 hP4 hE H locs P ls hl
      dsimp only [f_X2_costOf_l4] at hE
      refine lv_iload_n hx hb dX2_costOf_4 rfl (lv_at hl 0 rfl) ?_
      refine lv_aload_n hx hb dX2_costOf_5 rfl (lv_at hl 2 rfl) ?_
      refine g_geti (k := 5) B F P ok2 (by decide) rfl rfl rfl (by decide) q174 dX2_costOf_6 ?_
      refine lv_icmp_ge (tgt := 63) hx hb dX2_costOf_9 (by decide) (fun c9 => ?_) (fun c9 => ?_)
      · rw [if_pos c9] at hE
        refine lv_iload_n hx hb dX2_costOf_63 rfl (lv_at hl 1 rfl) ?_
        exact g_reti B P (by rw [← hE]) (by rw [← hE]) hrt hlk dX2_costOf_64
      · rw [if_neg c9] at hE
        refine lv_aload_n hx hb dX2_costOf_12 rfl (lv_at hl 2 rfl) ?_
        refine lv_iload_n hx hb dX2_costOf_13 rfl (lv_at hl 3 rfl) ?_
        refine lv_iload_n hx hb dX2_costOf_14 rfl (lv_at hl 0 rfl) ?_
        refine g_callV B F P (As := [.int sch, .int x3_4]) (ct_X2_toldBy (D := D) (ad := ad) (cy := cy) (ba := ba) l sch x3_4 σ4 ) ok2 (by decide) rfl q759 q689 q690 q6 q691 nk_X2_toldBy rfl ⟨(Nat.le_of_ble_eq_true rfl), (Nat.le_of_ble_eq_true rfl)⟩ hl.1 rfl (Nat.le_of_ble_eq_true rfl) dX2_costOf_15 ⟨Nat.le_of_ble_eq_true rfl, Nat.le_of_ble_eq_true rfl⟩ (fun H locs P => ?_)
        refine lv_istore (lv' := [(4, .int (f_X2_toldBy sch x3_4 σ4)), (3, .int x3_4), (2, .int x2_4), (0, .ref (ad 13)), (1, .int sch)]) hx hb dX2_costOf_18 hl (by decide) rfl (fun ls hl => ?_)
        refine lv_aload_n hx hb dX2_costOf_20 rfl (lv_at hl 3 rfl) ?_
        refine lv_iload_n hx hb dX2_costOf_21 rfl (lv_at hl 1 rfl) ?_
        refine lv_iload hx hb dX2_costOf_22 (lv_at hl 0 rfl) ?_
        refine g_callV B F P (As := [.int x3_4, .int (f_X2_toldBy sch x3_4 σ4)]) (ct_X2_isAsOrdered (D := D) (ad := ad) (cy := cy) (ba := ba) l x3_4 (f_X2_toldBy sch x3_4 σ4) σ4 (hI4.into c9 hP4.2.1)) ok2 (by decide) rfl q678 q680 qs10 q6 q681 nk_X2_isAsOrdered rfl ⟨(Nat.le_of_ble_eq_true rfl), (Nat.le_of_ble_eq_true rfl)⟩ hl.1 rfl (Nat.le_of_ble_eq_true rfl) dX2_costOf_24 ⟨Nat.le_of_ble_eq_true rfl, Nat.le_of_ble_eq_true rfl⟩ (fun H locs P => ?_)
        refine lv_if_eq (tgt := 40) hx hb dX2_costOf_27 (by decide) (fun c27 => ?_) (fun c27 => ?_)
        · rw [if_pos c27] at hE
          refine g_ldc B q674 dX2_costOf_40 ?_
          exact g_reti B P (by rw [← hE]) (by rw [← hE]) hrt hlk dX2_costOf_42
        · rw [if_neg c27] at hE
          refine lv_aload_n hx hb dX2_costOf_30 rfl (lv_at hl 3 rfl) ?_
          refine lv_iload_n hx hb dX2_costOf_31 rfl (lv_at hl 1 rfl) ?_
          refine lv_iload hx hb dX2_costOf_32 (lv_at hl 0 rfl) ?_
          refine g_callV B F P (As := [.int x3_4, .int (f_X2_toldBy sch x3_4 σ4)]) (ct_X2_canPass (D := D) (ad := ad) (cy := cy) (ba := ba) l x3_4 (f_X2_toldBy sch x3_4 σ4) σ4 (hI4.into c9 hP4.2.1) hP4) ok2 (by decide) rfl q682 q684 qs11 q6 q685 nk_X2_canPass rfl ⟨(Nat.le_of_ble_eq_true rfl), (Nat.le_of_ble_eq_true rfl)⟩ hl.1 rfl (Nat.le_of_ble_eq_true rfl) dX2_costOf_34 ⟨Nat.le_of_ble_eq_true rfl, Nat.le_of_ble_eq_true rfl⟩ (fun H locs P => ?_)
          refine lv_if_ne (tgt := 43) hx hb dX2_costOf_37 (by decide) (fun c37 => ?_) (fun c37 => ?_)
          · rw [if_neg c37] at hE
            refine lv_iload_n hx hb dX2_costOf_43 rfl (lv_at hl 2 rfl) ?_
            refine lv_aload_n hx hb dX2_costOf_44 rfl (lv_at hl 3 rfl) ?_
            refine g_getr (k := 2) (t := 14) B F P ok2 (by decide) rfl rfl rfl (by decide) rfl q171 dX2_costOf_45 ?_
            refine lv_iload_n hx hb dX2_costOf_48 rfl (lv_at hl 1 rfl) ?_
            refine lv_iconst (v := 1) hx hb dX2_costOf_49 (by decide) ?_
            refine lv_iadd hx hb dX2_costOf_50 ?_
            refine g_rld (t := (sid ((x3_4 + 1).toNatClampNeg + 1))) B F P (by decide) rfl (by decide) rfl (in_s (hI4.into c9 hP4.2.1)) ta_r dX2_costOf_51 ?_
            refine g_geti (k := 8) B F P ok4 (sid_lt0 (r8 (in_s (hI4.into c9 hP4.2.1)))) (kd_s0 ((x3_4 + 1).toNatClampNeg + 1)) rfl rfl (by decide) q107 dX2_costOf_52 ?_
            refine lv_iadd hx hb dX2_costOf_55 ?_
            refine lv_istore_n (lv' := [(2, .int (x2_4 + (rI ((f_X2_canPass x3_4 (f_X2_toldBy sch x3_4 σ4) σ4).2) (sid ((x3_4 + 1).toNatClampNeg + 1)) 8))), (4, .int (f_X2_toldBy sch x3_4 σ4)), (3, .int x3_4), (0, .ref (ad 13)), (1, .int sch)]) hx hb dX2_costOf_56 rfl hl (by decide) rfl (fun ls hl => ?_)
            refine lv_iinc (v := (x3_4 + 1)) (lv' := [(3, .int (x3_4 + 1)), (2, .int (x2_4 + (rI ((f_X2_canPass x3_4 (f_X2_toldBy sch x3_4 σ4) σ4).2) (sid ((x3_4 + 1).toNatClampNeg + 1)) 8))), (4, .int (f_X2_toldBy sch x3_4 σ4)), (0, .ref (ad 13)), (1, .int sch)]) hx hb dX2_costOf_57 hl (k := 2) rfl (by first | rfl | decide) (by decide) rfl (fun ls hl => ?_)
            refine lv_goto (tgt := 4) hx hb dX2_costOf_60 (by decide) ?_
            exact ih4 (x3_4 + 1) (x2_4 + (rI ((f_X2_canPass x3_4 (f_X2_toldBy sch x3_4 σ4) σ4).2) (sid ((x3_4 + 1).toNatClampNeg + 1)) 8)) ((f_X2_canPass x3_4 (f_X2_toldBy sch x3_4 σ4) σ4).2) (hI4.next c9 hP4.2.1) (hP4.pf (pf_X2_canPass _ _ _)) hE _ _ P _ (lv_sub hl [0, 1, 3, 4] rfl)
          · rw [if_pos c37] at hE
            refine g_ldc B q674 dX2_costOf_40 ?_
            exact g_reti B P (by rw [← hE]) (by rw [← hE]) hrt hlk dX2_costOf_42
  exact L4 7 0 0 σ LI.start hP hE _ _ P _ (lv_sub hl [0, 1, 2, 3] rfl)

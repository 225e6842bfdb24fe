-- the reference: finding versions and writes
def lix (p : Nat → Bool) : Nat → Option Nat
  | 0 => none
  | n + 1 => if p n then some n else lix p n
def ixI (o : Option Nat) : Int32 := match o with
  | none => -1
  | some n => nI n
theorem lix_lt {p : Nat → Bool} : ∀ {n i : Nat}, lix p n = some i → i < n ∧ p i = true
  | 0, _, h => by cases h
  | n + 1, i, h => by
    rw [lix] at h
    split at h
    · cases h; exact ⟨Nat.lt_succ_self _, by assumption⟩
    · have := lix_lt h
      exact ⟨by omega, this.2⟩
theorem ixI_neg {o : Option Nat} (h : ∀ i, o = some i → i < 2 ^ 31) : (ixI o < 0) ↔ o = none := by
  cases o with
  | none => exact ⟨fun _ => rfl, fun _ => by decide⟩
  | some i => exact ⟨fun z => absurd z (nI_pos (h i rfl)), fun z => by cases z⟩
theorem c_M_thrown (l : Launch) (g : GG) (N0 : Nat → Prop) (h : Mp) {m : Nat} {ad : Nat → Nat} {iv : MI} {ar : MA} (w : MW g m ad h iv ar) : Ct l y_M_thrown b_M_thrown 1 (some .int) 0 0 0 0 g N0 h [va_rf (some m)] (pI (fun r h' => r = iv 0 ∧ h' = h)) nox := by
  refine Ct_of "SnapshotStoreModel" "thrown" [some (va_rf (some m))] (by decide) rfl rfl (by simp [lg_sl, rf_cat, cat_i, cat_l]) (by simp [toL, lv_args, rf_cat, cat_i, cat_l]) (fun K hl X => ?_)
  refine al_0 X d_M_thrown_0 ?_
  refine gm_69 X w d_M_thrown_1 ?_
  refine V_iret X rfl d_M_thrown_4 (by first | omega | decide | (dsimp only; first | done | omega)) (by first | omega | decide | (dsimp only; first | done | omega)) ?_
  exact ⟨_, rfl, rfl, rfl⟩
def isTx (n : Nat) (t : Int32) : Bool := decide (¬ t < 0) && decide (t < nI n)
theorem c_M_isTransaction (l : Launch) (g : GG) (N0 : Nat → Prop) (h : Mp) {m : Nat} {ad : Nat → Nat} {iv : MI} {ar : MA} {n : Nat} (t : Int32) (hn : iv 3 = nI n) (w : MW g m ad h iv ar) : Ct l y_M_isTransaction b_M_isTransaction 2 (some .boolean) 0 0 0 0 g N0 h [va_rf (some m), .int t] (pI (fun r h' => r = b01 (isTx n t) ∧ h' = h)) nox := by
  refine Ct_of "SnapshotStoreModel" "isTransaction" [some (va_rf (some m)), some (.int t)] (by decide) rfl rfl (by simp [lg_sl, rf_cat, cat_i, cat_l]) (by simp [toL, lv_args, rf_cat, cat_i, cat_l]) (fun K hl X => ?_)
  refine il_1 X d_M_isTransaction_0 ?_
  refine V_if_lt (tgt := 16) X d_M_isTransaction_1 (by decide) (fun c_1 => ?_) (fun c_1 => ?_)
  · refine V_iconst (v := 0) X d_M_isTransaction_16 (by decide) ?_
    refine V_zret X rfl (by first | rfl | exact nr_z (by assumption)) d_M_isTransaction_17 (by first | omega | decide | (dsimp only; first | done | omega)) (by first | omega | decide | (dsimp only; first | done | omega)) ?_
    exact ⟨_, rfl, by simp [isTx, c_1, b01], rfl⟩
  · refine il_1 X d_M_isTransaction_4 ?_
    refine al_0 X d_M_isTransaction_5 ?_
    refine gm_73 X w d_M_isTransaction_6 ?_
    rw [hn]
    refine V_icmp_ge (tgt := 16) X d_M_isTransaction_9 (by decide) (fun c_9 => ?_) (fun c_9 => ?_)
    · refine V_iconst (v := 0) X d_M_isTransaction_16 (by decide) ?_
      refine V_zret X rfl (by first | rfl | exact nr_z (by assumption)) d_M_isTransaction_17 (by first | omega | decide | (dsimp only; first | done | omega)) (by first | omega | decide | (dsimp only; first | done | omega)) ?_
      exact ⟨_, rfl, by simp [isTx, Int32.not_lt.mpr c_9, b01], rfl⟩
    · refine V_iconst (v := 1) X d_M_isTransaction_12 (by decide) ?_
      refine V_goto (tgt := 17) X d_M_isTransaction_13 (by decide) ?_
      refine V_zret X rfl (by first | rfl | exact nr_z (by assumption)) d_M_isTransaction_17 (by first | omega | decide | (dsimp only; first | done | omega)) (by first | omega | decide | (dsimp only; first | done | omega)) ?_
      exact ⟨_, rfl, by simp [isTx, c_1, Int32.not_le.mp c_9, b01], rfl⟩
theorem isTx_t {n : Nat} {t : Int32} (hn : n < 2 ^ 31) (h : isTx n t = true) : ∃ i, i < n ∧ t = nI i := by
  simp only [isTx, Bool.and_eq_true, decide_eq_true_eq] at h
  obtain ⟨j, hj, rfl⟩ := nI_of h.1
  exact ⟨j, (nI_ltI hj hn).mp h.2, rfl⟩
theorem isTx_i {n i : Nat} (hn : n < 2 ^ 31) (h : i < n) : isTx n (nI i) = true := by
  simp only [isTx, Bool.and_eq_true, decide_eq_true_eq]
  exact ⟨nI_pos (by omega), nI_lt h hn⟩
/-- what isOpen notes: 1, 2 or 0 -/
def opn (n : Nat) (st : Nat → Int32) (t : Int32) : Int32 := if isTx n t then (if st t.toNatClampNeg = 0 then 0 else 2) else 1
theorem c_M_isOpen (l : Launch) (g : GG) (N0 : Nat → Prop) (h : Mp) {m : Nat} {ad : Nat → Nat} {iv : MI} {ar : MA} {n : Nat} (t : Int32) (hn : iv 3 = nI n) (hn2 : n ≤ 120) (w : MW g m ad h iv ar) : Ct l y_M_isOpen b_M_isOpen 2 (some .boolean) 1 21 0 0 g N0 h [va_rf (some m), .int t] (pI (fun r h' => r = b01 (decide (opn n (ar 3) t = 0)) ∧ MW g m ad h' (iU iv 0 (opn n (ar 3) t)) ar)) nox := by
  refine Ct_of "SnapshotStoreModel" "isOpen" [some (va_rf (some m)), some (.int t)] (by decide) rfl rfl (by simp [lg_sl, rf_cat, cat_i, cat_l]) (by simp [toL, lv_args, rf_cat, cat_i, cat_l]) (fun K hl X => ?_)
  have fin : ∀ (h : Mp), MW g m ad h (iU iv 0 (opn n (ar 3) t)) ar → V K g N0 2 (RQ K g N0 (pI (fun r h' => r = b01 (decide (opn n (ar 3) t = 0)) ∧ MW g m ad h' (iU iv 0 (opn n (ar 3) t)) ar)) nox 0 0) h 0 0 30 [some (va_rf (some m)), some (.int t)] [] := by
    intro h w
    refine al_0 X d_M_isOpen_30 ?_
    refine gm_69 X w d_M_isOpen_31 ?_
    rw [iU_s]
    refine V_if_ne (tgt := 41) X d_M_isOpen_34 (by decide) (fun c_34 => ?_) (fun c_34 => ?_)
    · refine V_iconst (v := 0) X d_M_isOpen_41 (by decide) ?_
      refine V_zret X rfl (by first | rfl | exact nr_z (by assumption)) d_M_isOpen_42 (by first | omega | decide | (dsimp only; first | done | omega)) (by first | omega | decide | (dsimp only; first | done | omega)) ?_
      exact ⟨_, rfl, by simp [c_34, b01], w⟩
    · refine V_iconst (v := 1) X d_M_isOpen_37 (by decide) ?_
      refine V_goto (tgt := 42) X d_M_isOpen_38 (by decide) ?_
      refine V_zret X rfl (by first | rfl | exact nr_z (by assumption)) d_M_isOpen_42 (by first | omega | decide | (dsimp only; first | done | omega)) (by first | omega | decide | (dsimp only; first | done | omega)) ?_
      exact ⟨_, rfl, by simp [c_34, b01], w⟩
  refine al_0 X d_M_isOpen_0 ?_
  refine al_0 X d_M_isOpen_1 ?_
  refine il_1 X d_M_isOpen_2 ?_
  refine cl_M_76 X (c_M_isTransaction _ g N0 h t hn w) w.1 d_M_isOpen_3 (by refine ⟨?_, ?_⟩ <;> first | decide | (dsimp only; first | done | omega)) (by first | decide | (simp only [List.map, rf_cat, cat_i, cat_l, List.sum_cons, List.sum_nil]; first | done | decide | omega)) ⟨(by first | omega | decide | (dsimp only; first | done | omega)), (by first | omega | decide | (dsimp only; first | done | omega))⟩ (fun _ _ z => z.elim) ?_
  rintro r h ⟨rfl, rfl⟩
  refine V_if_ne (tgt := 13) X d_M_isOpen_6 (by decide) (fun c_6 => ?_) (fun c_6 => ?_)
  · have e := b01_t c_6
    obtain ⟨i, hi, rfl⟩ := isTx_t (by omega) e
    refine al_0 X d_M_isOpen_13 ?_
    refine gm_20 X w d_M_isOpen_14 ?_
    refine il_1 X d_M_isOpen_17 ?_
    refine am_i X w (k := 3) (by decide) rfl (show _ < 120 by omega) (by decide) d_M_isOpen_18 ?_
    refine V_if_eq (tgt := 26) X d_M_isOpen_19 (by decide) (fun c_19 => ?_) (fun c_19 => ?_)
    · have eo : opn n (ar 3) (nI i) = 0 := by rw [opn, if_pos e, nI_clamp (by omega), if_pos c_19]
      refine V_iconst (v := 0) X d_M_isOpen_26 (by decide) ?_
      refine pm_69 X w d_M_isOpen_27 (fun h w => ?_)
      exact fin _ (by rw [eo]; exact w)
    · have eo : opn n (ar 3) (nI i) = 2 := by rw [opn, if_pos e, nI_clamp (by omega), if_neg c_19]
      refine V_iconst (v := 2) X d_M_isOpen_22 (by decide) ?_
      refine V_goto (tgt := 27) X d_M_isOpen_23 (by decide) ?_
      refine pm_69 X w d_M_isOpen_27 (fun h w => ?_)
      exact fin _ (by rw [eo]; exact w)
  · have eo : opn n (ar 3) t = 1 := by rw [opn, if_neg (by rw [b01_f c_6]; decide)]
    refine V_iconst (v := 1) X d_M_isOpen_9 (by decide) ?_
    refine V_goto (tgt := 27) X d_M_isOpen_10 (by decide) ?_
    refine pm_69 X w d_M_isOpen_27 (fun h w => ?_)
    exact fin _ (by rw [eo]; exact w)
-- versionAt
def pV1 (ar : MA) (key st : Int32) (v : Nat) : Bool := decide (ar 14 v = key) && decide (ar 15 v ≤ st)
/-- the stamps of a key's versions rise -/
def vrise (ar : MA) (n : Nat) : Prop := ∀ i j, i < j → j < n → ar 14 i = ar 14 j → ar 15 i < ar 15 j
theorem w_M_versionAt {K : Cx} {g : GG} {N0 : Nat → Prop} {h : Mp} {post : Option Value → Mp → Prop} {xp : String → Mp → Prop} {mc ms : Nat} (X : Fx K g N0 b_M_versionAt 6 "SnapshotStoreModel" { frames := 0, cells := mc, slots := ms, locals := 0 } (some .int) "versionAt" []) {m : Nat} {ad : Nat → Nat} {iv : MI} {ar : MA} {n : Nat} {key st : Int32} (hn : iv 4 = nI n) (hn2 : n ≤ 3000) (hr : vrise ar n) (w : MW g m ad h iv ar) : ∀ (k v : Nat) (z : Option Value), okp z → v + k = n → post (some (.int (ixI (lix (pV1 ar key st) n)))) h → V K g N0 6 (RQ K g N0 post xp mc ms)  h 0 0 5 [some (va_rf (some m)), some (.int key), some (.int st), some (.int (ixI (lix (pV1 ar key st) v))), some (.int (nI v)), z] [] := by
  intro k
  induction k with
  | zero =>
    intro v z hz hv hp
    have hv : v = n := by omega
    subst hv
    refine il_4 X d_M_versionAt_5 ?_
    refine al_0 X d_M_versionAt_7 ?_
    refine gm_80 X w d_M_versionAt_8 ?_
    rw [hn]
    refine V_icmp_ge (tgt := 81) X d_M_versionAt_11 (by decide) (fun c_11 => ?_) (fun c_11 => ?_)
    · refine il_3 X d_M_versionAt_81 ?_
      refine V_iret X rfl d_M_versionAt_82 (by first | omega | decide | (dsimp only; first | done | omega)) (by first | omega | decide | (dsimp only; first | done | omega)) ?_
      exact hp
    · exact absurd (Int32.le_refl _) c_11
  | succ k ih =>
    intro v z hz hv hp
    have hlt : ∀ i, lix (pV1 ar key st) v = some i → i < v := fun i hi => (lix_lt hi).1
    have fin : ∀ (x : Int32) (b : Bool), x = ixI (lix (pV1 ar key st) (v + 1)) → V K g N0 6 (RQ K g N0 post xp mc ms) h 0 0 74 [some (va_rf (some m)), some (.int key), some (.int st), some (.int (ixI (lix (pV1 ar key st) v))), some (.int (nI v)), some (.int (b01 b))] [.int x] := by
      intro x b hx
      subst hx
      refine is_3 X d_M_versionAt_74 rfl (by first | exact okp_n | exact okp_i | exact okp_r) ?_
      refine ic_4 (v := (nI (v+1))) X d_M_versionAt_75 (nI_1 v) rfl (by first | exact okp_n | exact okp_i | exact okp_r) ?_
      refine V_goto (tgt := 5) X d_M_versionAt_78 (by decide) ?_
      exact ih (v + 1) _ okp_i (by omega) hp
    have no : pV1 ar key st v = false → V K g N0 6 (RQ K g N0 post xp mc ms) h 0 0 40 [some (va_rf (some m)), some (.int key), some (.int st), some (.int (ixI (lix (pV1 ar key st) v))), some (.int (nI v)), z] [] := by
      intro e
      have f0 := fin (ixI (lix (pV1 ar key st) v)) false (by rw [lix, if_neg (by rw [e]; decide)])
      refine V_iconst (v := 0) X d_M_versionAt_40 (by decide) ?_
      refine is_5 X d_M_versionAt_41 rfl (by first | exact okp_n | exact okp_i | exact okp_r) ?_
      refine il_5 X d_M_versionAt_43 ?_
      refine V_if_eq (tgt := 73) X d_M_versionAt_45 (by decide) (fun c_45 => ?_) (fun c_45 => ?_)
      · refine il_3 X d_M_versionAt_73 ?_
        exact f0
      · exact absurd rfl c_45
    refine il_4 X d_M_versionAt_5 ?_
    refine al_0 X d_M_versionAt_7 ?_
    refine gm_80 X w d_M_versionAt_8 ?_
    rw [hn]
    refine V_icmp_ge (tgt := 81) X d_M_versionAt_11 (by decide) (fun c_11 => ?_) (fun c_11 => ?_)
    · exact absurd c_11 (nI_ge (by omega) (by omega))
    · refine al_0 X d_M_versionAt_14 ?_
      refine gm_54 X w d_M_versionAt_15 ?_
      refine il_4 X d_M_versionAt_18 ?_
      refine am_i X w (k := 14) (by decide) rfl (show _ < 3000 by omega) (by decide) d_M_versionAt_20 ?_
      refine il_1 X d_M_versionAt_21 ?_
      refine V_icmp_ne (tgt := 40) X d_M_versionAt_22 (by decide) (fun c_22 => ?_) (fun c_22 => ?_)
      · exact no (by simp [pV1, c_22])
      · refine al_0 X d_M_versionAt_25 ?_
        refine gm_57 X w d_M_versionAt_26 ?_
        refine il_4 X d_M_versionAt_29 ?_
        refine am_i X w (k := 15) (by decide) rfl (show _ < 3000 by omega) (by decide) d_M_versionAt_31 ?_
        refine il_2 X d_M_versionAt_32 ?_
        refine V_icmp_gt (tgt := 40) X d_M_versionAt_33 (by decide) (fun c_33 => ?_) (fun c_33 => ?_)
        · exact no (by simp [pV1, Int32.not_le.mpr c_33])
        · have e : pV1 ar key st v = true := by simp [pV1, c_22, Int32.not_lt.mp c_33]
          have el : ixI (lix (pV1 ar key st) (v + 1)) = nI v := by rw [lix, if_pos e]; rfl
          have f1 := fin (nI v) true el.symm
          refine V_iconst (v := 1) X d_M_versionAt_36 (by decide) ?_
          refine V_goto (tgt := 41) X d_M_versionAt_37 (by decide) ?_
          refine is_5 X d_M_versionAt_41 rfl (by first | exact okp_n | exact okp_i | exact okp_r) ?_
          refine il_5 X d_M_versionAt_43 ?_
          refine V_if_eq (tgt := 73) X d_M_versionAt_45 (by decide) (fun c_45 => ?_) (fun c_45 => ?_)
          · exact absurd c_45 (by decide)
          · refine il_3 X d_M_versionAt_48 ?_
            refine V_if_lt (tgt := 68) X d_M_versionAt_49 (by decide) (fun c_49 => ?_) (fun c_49 => ?_)
            · refine il_4 X d_M_versionAt_68 ?_
              refine V_goto (tgt := 74) X d_M_versionAt_70 (by decide) ?_
              exact f1
            · cases hb : lix (pV1 ar key st) v with
              | none => rw [hb] at c_49; exact absurd (by decide) c_49
              | some i =>
                have hi := lix_lt hb
                rw [hb] at f1
                have h2 := hi.2
                simp only [pV1, Bool.and_eq_true, decide_eq_true_eq] at h2
                dsimp only [ixI] at f1 ⊢
                refine al_0 X d_M_versionAt_52 ?_
                refine gm_57 X w d_M_versionAt_53 ?_
                refine il_4 X d_M_versionAt_56 ?_
                refine am_i X w (k := 15) (by decide) rfl (show _ < 3000 by omega) (by decide) d_M_versionAt_58 ?_
                refine al_0 X d_M_versionAt_59 ?_
                refine gm_57 X w d_M_versionAt_60 ?_
                refine il_3 X d_M_versionAt_63 ?_
                refine am_i X w (k := 15) (by decide) rfl (show _ < 3000 by omega) (by decide) d_M_versionAt_64 ?_
                refine V_icmp_le (tgt := 73) X d_M_versionAt_65 (by decide) (fun c_65 => ?_) (fun c_65 => ?_)
                · exact absurd (hr i v hi.1 (by omega) (by rw [h2.1, c_22])) (Int32.not_lt.mpr c_65)
                · refine il_4 X d_M_versionAt_68 ?_
                  refine V_goto (tgt := 74) X d_M_versionAt_70 (by decide) ?_
                  exact f1
theorem c_M_versionAt (l : Launch) (g : GG) (N0 : Nat → Prop) (h : Mp) {m : Nat} {ad : Nat → Nat} {iv : MI} {ar : MA} {n : Nat} (key st : Int32) (hn : iv 4 = nI n) (hn2 : n ≤ 3000) (hr : vrise ar n) (w : MW g m ad h iv ar) : Ct l y_M_versionAt b_M_versionAt 6 (some .int) 0 0 0 0 g N0 h [va_rf (some m), .int key, .int st] (pI (fun r h' => r = ixI (lix (pV1 ar key st) n) ∧ h' = h)) nox := by
  refine Ct_of "SnapshotStoreModel" "versionAt" [some (va_rf (some m)), some (.int key), some (.int st), none, none, none] (by decide) rfl rfl (by simp [lg_sl, rf_cat, cat_i, cat_l]) (by simp [toL, lv_args, rf_cat, cat_i, cat_l]) (fun K hl X => ?_)
  refine V_iconst (v := (-1)) X d_M_versionAt_0 (by decide) ?_
  refine is_3 X d_M_versionAt_1 rfl (by first | exact okp_n | exact okp_i | exact okp_r) ?_
  refine V_iconst (v := 0) X d_M_versionAt_2 (by decide) ?_
  refine is_4 X d_M_versionAt_3 rfl (by first | exact okp_n | exact okp_i | exact okp_r) ?_
  exact w_M_versionAt X hn hn2 hr w n 0 _ okp_n (by omega) ⟨_, rfl, rfl, rfl⟩
-- lookAt
def vAt (ar : MA) (n : Nat) (key st : Int32) : Option Nat := lix (pV1 ar key st) n
def seenV (ar : MA) (o : Option Nat) : Bool := match o with
  | none => false
  | some v => decide (ar 17 v = 0)
def valV (ar : MA) (o : Option Nat) : Int32 := match o with
  | none => 0
  | some v => if ar 17 v = 0 then ar 16 v else 0
theorem c_M_lookAt (l : Launch) (g : GG) (N0 : Nat → Prop) (h : Mp) {m : Nat} {ad : Nat → Nat} {iv : MI} {ar : MA} {n : Nat} (key st : Int32) (hn : iv 4 = nI n) (hn2 : n ≤ 3000) (hr : vrise ar n) (w : MW g m ad h iv ar) : Ct l y_M_lookAt b_M_lookAt 4 none 1 25 0 0 g N0 h [va_rf (some m), .int key, .int st] (pV (fun h' => MW g m ad h' (iU (iU iv 5 (b01 (seenV ar (vAt ar n key st)))) 6 (valV ar (vAt ar n key st))) ar)) nox := by
  refine Ct_of "SnapshotStoreModel" "lookAt" [some (va_rf (some m)), some (.int key), some (.int st), none] (by decide) rfl rfl (by simp [lg_sl, rf_cat, cat_i, cat_l]) (by simp [toL, lv_args, rf_cat, cat_i, cat_l]) (fun K hl X => ?_)
  refine al_0 X d_M_lookAt_0 ?_
  refine il_1 X d_M_lookAt_1 ?_
  refine il_2 X d_M_lookAt_2 ?_
  refine cl_M_83 X (c_M_versionAt _ g N0 h key st hn hn2 hr w) w.1 d_M_lookAt_3 (by refine ⟨?_, ?_⟩ <;> first | decide | (dsimp only; first | done | omega)) (by first | decide | (simp only [List.map, rf_cat, cat_i, cat_l, List.sum_cons, List.sum_nil]; first | done | decide | omega)) ⟨(by first | omega | decide | (dsimp only; first | done | omega)), (by first | omega | decide | (dsimp only; first | done | omega))⟩ (fun _ _ z => z.elim) ?_
  rintro r h ⟨rfl, rfl⟩
  have e : vAt ar n key st = lix (pV1 ar key st) n := rfl
  rw [e]
  cases hv : lix (pV1 ar key st) n with
  | none =>
    dsimp only [ixI]
    refine is_3 X d_M_lookAt_6 rfl (by first | exact okp_n | exact okp_i | exact okp_r) ?_
    refine al_0 X d_M_lookAt_7 ?_
    refine il_3 X d_M_lookAt_8 ?_
    refine V_if_lt (tgt := 25) X d_M_lookAt_9 (by decide) (fun c_9 => ?_) (fun c_9 => ?_)
    · refine V_iconst (v := 0) X d_M_lookAt_25 (by decide) ?_
      refine pm_87 X (by first | exact Or.inl rfl | exact Or.inr rfl | exact b01_or _) w d_M_lookAt_26 (fun h w => ?_)
      refine al_0 X d_M_lookAt_29 ?_
      refine al_0 X d_M_lookAt_30 ?_
      refine gm_87 X w d_M_lookAt_31 ?_
      rw [iU_s]
      refine V_if_eq (tgt := 46) X d_M_lookAt_34 (by decide) (fun c_34 => ?_) (fun c_34 => ?_)
      · refine V_iconst (v := 0) X d_M_lookAt_46 (by decide) ?_
        refine pm_91 X w d_M_lookAt_47 (fun h w => ?_)
        refine V_vret X rfl d_M_lookAt_50 (by first | omega | decide | (dsimp only; first | done | omega)) (by first | omega | decide | (dsimp only; first | done | omega)) ?_
        exact ⟨rfl, w⟩
      · exact absurd rfl c_34
    · exact absurd (by decide) c_9
  | some v =>
    have hvn := (lix_lt hv).1
    dsimp only [ixI]
    refine is_3 X d_M_lookAt_6 rfl (by first | exact okp_n | exact okp_i | exact okp_r) ?_
    refine al_0 X d_M_lookAt_7 ?_
    refine il_3 X d_M_lookAt_8 ?_
    refine V_if_lt (tgt := 25) X d_M_lookAt_9 (by decide) (fun c_9 => ?_) (fun c_9 => ?_)
    · exact absurd c_9 (nI_pos (by omega))
    · refine al_0 X d_M_lookAt_12 ?_
      refine gm_63 X w d_M_lookAt_13 ?_
      refine il_3 X d_M_lookAt_16 ?_
      refine am_z X w (k := 17) (by decide) rfl (show _ < 3000 by omega) (by decide) d_M_lookAt_17 ?_
      refine V_if_ne (tgt := 25) X d_M_lookAt_18 (by decide) (fun c_18 => ?_) (fun c_18 => ?_)
      · refine V_iconst (v := 0) X d_M_lookAt_25 (by decide) ?_
        refine pm_87 X (by first | exact Or.inl rfl | exact Or.inr rfl | exact b01_or _) w d_M_lookAt_26 (fun h w => ?_)
        refine al_0 X d_M_lookAt_29 ?_
        refine al_0 X d_M_lookAt_30 ?_
        refine gm_87 X w d_M_lookAt_31 ?_
        rw [iU_s]
        refine V_if_eq (tgt := 46) X d_M_lookAt_34 (by decide) (fun c_34 => ?_) (fun c_34 => ?_)
        · refine V_iconst (v := 0) X d_M_lookAt_46 (by decide) ?_
          refine pm_91 X w d_M_lookAt_47 (fun h w => ?_)
          refine V_vret X rfl d_M_lookAt_50 (by first | omega | decide | (dsimp only; first | done | omega)) (by first | omega | decide | (dsimp only; first | done | omega)) ?_
          exact ⟨rfl, by simp only [seenV, valV, c_18, decide_false, if_false]; exact w⟩
        · exact absurd rfl c_34
      · refine V_iconst (v := 1) X d_M_lookAt_21 (by decide) ?_
        refine V_goto (tgt := 26) X d_M_lookAt_22 (by decide) ?_
        refine pm_87 X (by first | exact Or.inl rfl | exact Or.inr rfl | exact b01_or _) w d_M_lookAt_26 (fun h w => ?_)
        refine al_0 X d_M_lookAt_29 ?_
        refine al_0 X d_M_lookAt_30 ?_
        refine gm_87 X w d_M_lookAt_31 ?_
        rw [iU_s]
        refine V_if_eq (tgt := 46) X d_M_lookAt_34 (by decide) (fun c_34 => ?_) (fun c_34 => ?_)
        · exact absurd c_34 (by decide)
        · refine al_0 X d_M_lookAt_37 ?_
          refine gm_60 X w d_M_lookAt_38 ?_
          refine il_3 X d_M_lookAt_41 ?_
          refine am_i X w (k := 16) (by decide) rfl (show _ < 3000 by omega) (by decide) d_M_lookAt_42 ?_
          refine V_goto (tgt := 47) X d_M_lookAt_43 (by decide) ?_
          refine pm_91 X w d_M_lookAt_47 (fun h w => ?_)
          refine V_vret X rfl d_M_lookAt_50 (by first | omega | decide | (dsimp only; first | done | omega)) (by first | omega | decide | (dsimp only; first | done | omega)) ?_
          exact ⟨rfl, by simp only [seenV, valV, c_18, decide_true, if_true]; exact w⟩
-- writeOf
def pW1 (ar : MA) (t : Nat) (key : Int32) (k : Nat) : Bool := decide (ar 6 (600 * t + k) = key)
def wOf (ar : MA) (t : Nat) (c : Nat) (key : Int32) : Option Nat := lix (pW1 ar t key) c
def wIx (t : Nat) (o : Option Nat) : Int32 := match o with
  | none => -1
  | some k => nI (600 * t + k)
theorem w_M_writeOf {K : Cx} {g : GG} {N0 : Nat → Prop} {h : Mp} {post : Option Value → Mp → Prop} {xp : String → Mp → Prop} {mc ms : Nat} (X : Fx K g N0 b_M_writeOf 5 "SnapshotStoreModel" { frames := 0, cells := mc, slots := ms, locals := 0 } (some .int) "writeOf" []) {m : Nat} {ad : Nat → Nat} {iv : MI} {ar : MA} {t c : Nat} {key : Int32} (ht : t < 120) (hc : ar 5 t = nI c) (hc2 : c < 600) (w : MW g m ad h iv ar) : ∀ (k v : Nat), v + k = c → post (some (.int (wIx t (wOf ar t c key)))) h → V K g N0 5 (RQ K g N0 post xp mc ms)  h 0 0 9 [some (va_rf (some m)), some (.int (nI t)), some (.int key), some (.int (wIx t (wOf ar t v key))), some (.int (nI (600 * t + v)))] [] := by
  intro k
  induction k with
  | zero =>
    intro v hv hp
    have hv : v = c := by omega
    subst hv
    refine il_4 X d_M_writeOf_9 ?_
    refine V_sipush (v := 600) X d_M_writeOf_11 (by decide) ?_
    refine il_1 X d_M_writeOf_14 ?_
    refine V_imul X d_M_writeOf_15 ?_
    refine al_0 X d_M_writeOf_16 ?_
    refine gm_26 X w d_M_writeOf_17 ?_
    refine il_1 X d_M_writeOf_20 ?_
    refine am_i X w (k := 5) (by decide) rfl (show _ < 120 by omega) (by decide) d_M_writeOf_21 ?_
    rw [show (600 : Int32) = nI 600 from rfl, pk_mul, hc]
    refine V_iadd X d_M_writeOf_22 ?_
    rw [nI_add]
    refine V_icmp_ge (tgt := 50) X d_M_writeOf_23 (by decide) (fun c_23 => ?_) (fun c_23 => ?_)
    · refine il_3 X d_M_writeOf_50 ?_
      refine V_iret X rfl d_M_writeOf_51 (by first | omega | decide | (dsimp only; first | done | omega)) (by first | omega | decide | (dsimp only; first | done | omega)) ?_
      exact hp
    · exact absurd (Int32.le_refl _) c_23
  | succ k ih =>
    intro v hv hp
    refine il_4 X d_M_writeOf_9 ?_
    refine V_sipush (v := 600) X d_M_writeOf_11 (by decide) ?_
    refine il_1 X d_M_writeOf_14 ?_
    refine V_imul X d_M_writeOf_15 ?_
    refine al_0 X d_M_writeOf_16 ?_
    refine gm_26 X w d_M_writeOf_17 ?_
    refine il_1 X d_M_writeOf_20 ?_
    refine am_i X w (k := 5) (by decide) rfl (show _ < 120 by omega) (by decide) d_M_writeOf_21 ?_
    rw [show (600 : Int32) = nI 600 from rfl, pk_mul, hc]
    refine V_iadd X d_M_writeOf_22 ?_
    rw [nI_add]
    refine V_icmp_ge (tgt := 50) X d_M_writeOf_23 (by decide) (fun c_23 => ?_) (fun c_23 => ?_)
    · exact absurd c_23 (nI_ge (by omega) (by omega))
    · refine al_0 X d_M_writeOf_26 ?_
      refine gm_30 X w d_M_writeOf_27 ?_
      refine il_4 X d_M_writeOf_30 ?_
      refine am_i X w (k := 6) (by decide) rfl (show _ < 72000 by omega) (by decide) d_M_writeOf_32 ?_
      refine il_2 X d_M_writeOf_33 ?_
      refine V_icmp_ne (tgt := 42) X d_M_writeOf_34 (by decide) (fun c_34 => ?_) (fun c_34 => ?_)
      · have e : wOf ar t (v + 1) key = wOf ar t v key := by rw [wOf, lix, if_neg (by simp [pW1, c_34])]; rfl
        refine il_3 X d_M_writeOf_42 ?_
        refine is_3 X d_M_writeOf_43 rfl (by first | exact okp_n | exact okp_i | exact okp_r) ?_
        refine ic_4 (v := (nI (600*t+(v+1)))) X d_M_writeOf_44 (nI_1 (600*t+v)) rfl (by first | exact okp_n | exact okp_i | exact okp_r) ?_
        refine V_goto (tgt := 9) X d_M_writeOf_47 (by decide) ?_
        rw [← e]
        exact ih (v + 1) (by omega) hp
      · have e : wOf ar t (v + 1) key = some v := by rw [wOf, lix, if_pos (by simp [pW1, c_34])]
        refine il_4 X d_M_writeOf_37 ?_
        refine V_goto (tgt := 43) X d_M_writeOf_39 (by decide) ?_
        refine is_3 X d_M_writeOf_43 rfl (by first | exact okp_n | exact okp_i | exact okp_r) ?_
        refine ic_4 (v := (nI (600*t+(v+1)))) X d_M_writeOf_44 (nI_1 (600*t+v)) rfl (by first | exact okp_n | exact okp_i | exact okp_r) ?_
        refine V_goto (tgt := 9) X d_M_writeOf_47 (by decide) ?_
        have i1 := ih (v + 1) (by omega) hp
        rw [e] at i1
        exact i1
theorem c_M_writeOf (l : Launch) (g : GG) (N0 : Nat → Prop) (h : Mp) {m : Nat} {ad : Nat → Nat} {iv : MI} {ar : MA} {t c : Nat} (key : Int32) (ht : t < 120) (hc : ar 5 t = nI c) (hc2 : c < 600) (w : MW g m ad h iv ar) : Ct l y_M_writeOf b_M_writeOf 5 (some .int) 0 0 0 0 g N0 h [va_rf (some m), .int (nI t), .int key] (pI (fun r h' => r = wIx t (wOf ar t c key) ∧ h' = h)) nox := by
  refine Ct_of "SnapshotStoreModel" "writeOf" [some (va_rf (some m)), some (.int (nI t)), some (.int key), none, none] (by decide) rfl rfl (by simp [lg_sl, rf_cat, cat_i, cat_l]) (by simp [toL, lv_args, rf_cat, cat_i, cat_l]) (fun K hl X => ?_)
  refine V_iconst (v := (-1)) X d_M_writeOf_0 (by decide) ?_
  refine is_3 X d_M_writeOf_1 rfl (by first | exact okp_n | exact okp_i | exact okp_r) ?_
  refine V_sipush (v := 600) X d_M_writeOf_2 (by decide) ?_
  refine il_1 X d_M_writeOf_5 ?_
  refine V_imul X d_M_writeOf_6 ?_
  rw [show (600 : Int32) = nI 600 from rfl, pk_mul]
  refine is_4 X d_M_writeOf_7 rfl (by first | exact okp_n | exact okp_i | exact okp_r) ?_
  exact w_M_writeOf X ht hc hc2 w c 0 (by omega) ⟨_, rfl, rfl, rfl⟩
-- look
def seenM (ar : MA) (n t c : Nat) (key : Int32) : Bool := match wOf ar t c key with
  | none => seenV ar (vAt ar n key (ar 1 t))
  | some k => decide (ar 8 (600 * t + k) = 0)
def valM (ar : MA) (n t c : Nat) (key : Int32) : Int32 := match wOf ar t c key with
  | none => valV ar (vAt ar n key (ar 1 t))
  | some k => if ar 8 (600 * t + k) = 0 then ar 7 (600 * t + k) else 0
theorem c_M_look (l : Launch) (g : GG) (N0 : Nat → Prop) (h : Mp) {m : Nat} {ad : Nat → Nat} {iv : MI} {ar : MA} {n t c : Nat} (key : Int32) (hn : iv 4 = nI n) (hn2 : n ≤ 3000) (hr : vrise ar n) (ht : t < 120) (hc : ar 5 t = nI c) (hc2 : c < 600) (w : MW g m ad h iv ar) : Ct l y_M_look b_M_look 4 none 2 48 0 0 g N0 h [va_rf (some m), .int (nI t), .int key] (pV (fun h' => MW g m ad h' (iU (iU iv 5 (b01 (seenM ar n t c key))) 6 (valM ar n t c key)) ar)) nox := by
  refine Ct_of "SnapshotStoreModel" "look" [some (va_rf (some m)), some (.int (nI t)), some (.int key), none] (by decide) rfl rfl (by simp [lg_sl, rf_cat, cat_i, cat_l]) (by simp [toL, lv_args, rf_cat, cat_i, cat_l]) (fun K hl X => ?_)
  refine al_0 X d_M_look_0 ?_
  refine il_1 X d_M_look_1 ?_
  refine il_2 X d_M_look_2 ?_
  refine cl_M_94 X (c_M_writeOf _ g N0 h key ht hc hc2 w) w.1 d_M_look_3 (by refine ⟨?_, ?_⟩ <;> first | decide | (dsimp only; first | done | omega)) (by first | decide | (simp only [List.map, rf_cat, cat_i, cat_l, List.sum_cons, List.sum_nil]; first | done | decide | omega)) ⟨(by first | omega | decide | (dsimp only; first | done | omega)), (by first | omega | decide | (dsimp only; first | done | omega))⟩ (fun _ _ z => z.elim) ?_
  rintro r h ⟨rfl, rfl⟩
  refine is_3 X d_M_look_6 rfl (by first | exact okp_n | exact okp_i | exact okp_r) ?_
  refine il_3 X d_M_look_7 ?_
  cases hv : wOf ar t c key with
  | none =>
    have e1 : seenM ar n t c key = seenV ar (vAt ar n key (ar 1 t)) := by rw [seenM, hv]
    have e2 : valM ar n t c key = valV ar (vAt ar n key (ar 1 t)) := by rw [valM, hv]
    rw [e1, e2]
    dsimp only [wIx]
    refine V_if_ge (tgt := 23) X d_M_look_8 (by decide) (fun c_8 => ?_) (fun c_8 => ?_)
    · exact absurd c_8 (by decide)
    · refine al_0 X d_M_look_11 ?_
      refine il_2 X d_M_look_12 ?_
      refine al_0 X d_M_look_13 ?_
      refine gm_13 X w d_M_look_14 ?_
      refine il_1 X d_M_look_17 ?_
      refine am_i X w (k := 1) (by decide) rfl (show _ < 120 by omega) (by decide) d_M_look_18 ?_
      refine cl_M_97 X (c_M_lookAt _ g N0 h key (ar 1 t) hn hn2 hr w) w.1 d_M_look_19 (by refine ⟨?_, ?_⟩ <;> first | decide | (dsimp only; first | done | omega)) (by first | decide | (simp only [List.map, rf_cat, cat_i, cat_l, List.sum_cons, List.sum_nil]; first | done | decide | omega)) ⟨(by first | omega | decide | (dsimp only; first | done | omega)), (by first | omega | decide | (dsimp only; first | done | omega))⟩ (fun _ _ z => z.elim) ?_
      rintro h w
      refine V_vret X rfl d_M_look_22 (by first | omega | decide | (dsimp only; first | done | omega)) (by first | omega | decide | (dsimp only; first | done | omega)) ?_
      exact ⟨rfl, w⟩
  | some k =>
    have hk := (lix_lt hv).1
    have e1 : seenM ar n t c key = decide (ar 8 (600 * t + k) = 0) := by rw [seenM, hv]
    have e2 : valM ar n t c key = if ar 8 (600 * t + k) = 0 then ar 7 (600 * t + k) else 0 := by rw [valM, hv]
    rw [e1, e2]
    dsimp only [wIx]
    refine V_if_ge (tgt := 23) X d_M_look_8 (by decide) (fun c_8 => ?_) (fun c_8 => ?_)
    · refine al_0 X d_M_look_23 ?_
      refine al_0 X d_M_look_24 ?_
      refine gm_36 X w d_M_look_25 ?_
      refine il_3 X d_M_look_28 ?_
      refine am_z X w (k := 8) (by decide) rfl (show _ < 72000 by omega) (by decide) d_M_look_29 ?_
      refine V_if_ne (tgt := 37) X d_M_look_30 (by decide) (fun c_30 => ?_) (fun c_30 => ?_)
      · refine V_iconst (v := 0) X d_M_look_37 (by decide) ?_
        refine pm_87 X (by first | exact Or.inl rfl | exact Or.inr rfl | exact b01_or _) w d_M_look_38 (fun h w => ?_)
        refine al_0 X d_M_look_41 ?_
        refine al_0 X d_M_look_42 ?_
        refine gm_87 X w d_M_look_43 ?_
        rw [iU_s]
        refine V_if_eq (tgt := 58) X d_M_look_46 (by decide) (fun c_46 => ?_) (fun c_46 => ?_)
        · refine V_iconst (v := 0) X d_M_look_58 (by decide) ?_
          refine pm_91 X w d_M_look_59 (fun h w => ?_)
          refine V_vret X rfl d_M_look_62 (by first | omega | decide | (dsimp only; first | done | omega)) (by first | omega | decide | (dsimp only; first | done | omega)) ?_
          exact ⟨rfl, by simp only [c_30, decide_false, if_false]; exact w⟩
        · exact absurd rfl c_46
      · refine V_iconst (v := 1) X d_M_look_33 (by decide) ?_
        refine V_goto (tgt := 38) X d_M_look_34 (by decide) ?_
        refine pm_87 X (by first | exact Or.inl rfl | exact Or.inr rfl | exact b01_or _) w d_M_look_38 (fun h w => ?_)
        refine al_0 X d_M_look_41 ?_
        refine al_0 X d_M_look_42 ?_
        refine gm_87 X w d_M_look_43 ?_
        rw [iU_s]
        refine V_if_eq (tgt := 58) X d_M_look_46 (by decide) (fun c_46 => ?_) (fun c_46 => ?_)
        · exact absurd c_46 (by decide)
        · refine al_0 X d_M_look_49 ?_
          refine gm_33 X w d_M_look_50 ?_
          refine il_3 X d_M_look_53 ?_
          refine am_i X w (k := 7) (by decide) rfl (show _ < 72000 by omega) (by decide) d_M_look_54 ?_
          refine V_goto (tgt := 59) X d_M_look_55 (by decide) ?_
          refine pm_91 X w d_M_look_59 (fun h w => ?_)
          refine V_vret X rfl d_M_look_62 (by first | omega | decide | (dsimp only; first | done | omega)) (by first | omega | decide | (dsimp only; first | done | omega)) ?_
          exact ⟨rfl, by simp only [c_30, decide_true, if_true]; exact w⟩
    · exact absurd (nI_pos' (by omega)) c_8

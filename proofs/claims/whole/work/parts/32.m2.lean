-- the reference: counts, notes, reads
def cntN (p : Nat → Bool) : Nat → Nat
  | 0 => 0
  | n + 1 => cntN p n + if p n then 1 else 0
def anyN (p : Nat → Bool) : Nat → Bool
  | 0 => false
  | n + 1 => anyN p n || p n
def pK1 (ar : MA) (t c : Nat) (k : Nat) : Bool := decide (wOf ar t c (ar 6 (600 * t + k)) = some k)
def kOf (ar : MA) (t c : Nat) : Nat := cntN (pK1 ar t c) c
theorem w_M_keysOf {K : Cx} {g : GG} {N0 : Nat → Prop} {h : Mp} {post : Option Value → Mp → Prop} {xp : String → Mp → Prop} {mc ms : Nat} (X : Fx K g N0 b_M_keysOf 4 "SnapshotStoreModel" { frames := 1, cells := mc, slots := ms, locals := 24 } (some .int) "keysOf" []) {m : Nat} {ad : Nat → Nat} {iv : MI} {ar : MA} {t c : Nat} (ht : t < 120) (hc : ar 5 t = nI c) (hc2 : c < 600) (w : MW g m ad h iv ar) : ∀ (k v : Nat), v + k = c → post (some (.int (nI (kOf ar t c)))) h → V K g N0 4 (RQ K g N0 post xp mc ms)  h 0 0 8 [some (va_rf (some m)), some (.int (nI t)), some (.int (nI (cntN (pK1 ar t c) v))), some (.int (nI (600 * t + v)))] [] := by
  intro k
  induction k with
  | zero =>
    intro v hv hp
    have hv : v = c := by omega
    subst hv
    refine il_3 X d_M_keysOf_8 ?_
    refine V_sipush (v := 600) X d_M_keysOf_9 (by decide) ?_
    refine il_1 X d_M_keysOf_12 ?_
    refine V_imul X d_M_keysOf_13 ?_
    refine al_0 X d_M_keysOf_14 ?_
    refine gm_26 X w d_M_keysOf_15 ?_
    refine il_1 X d_M_keysOf_18 ?_
    refine am_i X w (k := 5) (by decide) rfl (show _ < 120 by omega) (by decide) d_M_keysOf_19 ?_
    rw [show (600 : Int32) = nI 600 from rfl, pk_mul, hc]
    refine V_iadd X d_M_keysOf_20 ?_
    rw [nI_add]
    refine V_icmp_ge (tgt := 53) X d_M_keysOf_21 (by decide) (fun c_21 => ?_) (fun c_21 => ?_)
    · refine il_2 X d_M_keysOf_53 ?_
      refine V_iret X rfl d_M_keysOf_54 (by first | omega | decide | (dsimp only; first | done | omega)) (by first | omega | decide | (dsimp only; first | done | omega)) ?_
      exact hp
    · exact absurd (Int32.le_refl _) c_21
  | succ k ih =>
    intro v hv hp
    refine il_3 X d_M_keysOf_8 ?_
    refine V_sipush (v := 600) X d_M_keysOf_9 (by decide) ?_
    refine il_1 X d_M_keysOf_12 ?_
    refine V_imul X d_M_keysOf_13 ?_
    refine al_0 X d_M_keysOf_14 ?_
    refine gm_26 X w d_M_keysOf_15 ?_
    refine il_1 X d_M_keysOf_18 ?_
    refine am_i X w (k := 5) (by decide) rfl (show _ < 120 by omega) (by decide) d_M_keysOf_19 ?_
    rw [show (600 : Int32) = nI 600 from rfl, pk_mul, hc]
    refine V_iadd X d_M_keysOf_20 ?_
    rw [nI_add]
    refine V_icmp_ge (tgt := 53) X d_M_keysOf_21 (by decide) (fun c_21 => ?_) (fun c_21 => ?_)
    · exact absurd c_21 (nI_ge (by omega) (by omega))
    · refine il_2 X d_M_keysOf_24 ?_
      refine al_0 X d_M_keysOf_25 ?_
      refine il_1 X d_M_keysOf_26 ?_
      refine al_0 X d_M_keysOf_27 ?_
      refine gm_30 X w d_M_keysOf_28 ?_
      refine il_3 X d_M_keysOf_31 ?_
      refine am_i X w (k := 6) (by decide) rfl (show _ < 72000 by omega) (by decide) d_M_keysOf_32 ?_
      refine cl_M_94 X (c_M_writeOf _ g N0 h (ar 6 (600 * t + v)) ht hc hc2 w) w.1 d_M_keysOf_33 (by refine ⟨?_, ?_⟩ <;> first | decide | (dsimp only; first | done | omega)) (by first | decide | (simp only [List.map, rf_cat, cat_i, cat_l, List.sum_cons, List.sum_nil]; first | done | decide | omega)) ⟨(by first | omega | decide | (dsimp only; first | done | omega)), (by first | omega | decide | (dsimp only; first | done | omega))⟩ (fun _ _ z => z.elim) ?_
      rintro r h ⟨rfl, rfl⟩
      refine il_3 X d_M_keysOf_36 ?_
      have he : wIx t (wOf ar t c (ar 6 (600 * t + v))) = nI (600 * t + v) ↔ pK1 ar t c v = true := by
        rw [pK1, decide_eq_true_eq]
        cases hw : wOf ar t c (ar 6 (600 * t + v)) with
        | none => exact ⟨fun z => absurd z (by intro q; have := nI_pos (n := 600 * t + v) (by omega); rw [← q] at this; exact this (show (-1 : Int32) < 0 by decide)), fun z => by cases z⟩
        | some i =>
          have hi := (lix_lt hw).1
          constructor
          · intro z
            have := (nI_eq (a := 600 * t + i) (b := 600 * t + v) (by omega) (by omega)).mp z
            rw [show i = v by omega]
          · intro z; cases z; rfl
      have ec : cntN (pK1 ar t c) (v + 1) = cntN (pK1 ar t c) v + if pK1 ar t c v then 1 else 0 := rfl
      refine V_icmp_ne (tgt := 44) X d_M_keysOf_37 (by decide) (fun c_37 => ?_) (fun c_37 => ?_)
      · have e : pK1 ar t c v = false := by cases hb : pK1 ar t c v with | false => rfl | true => exact absurd (he.mpr hb) c_37
        rw [e] at ec
        refine V_iconst (v := 0) X d_M_keysOf_44 (by decide) ?_
        refine V_iadd X d_M_keysOf_45 ?_
        rw [show (0 : Int32) = nI 0 from rfl, nI_add]
        refine is_2 X d_M_keysOf_46 rfl (by first | exact okp_n | exact okp_i | exact okp_r) ?_
        refine ic_3 (v := (nI (600*t+(v+1)))) X d_M_keysOf_47 (nI_1 (600*t+v)) rfl (by first | exact okp_n | exact okp_i | exact okp_r) ?_
        refine V_goto (tgt := 8) X d_M_keysOf_50 (by decide) ?_
        have i1 := ih (v + 1) (by omega) hp
        rw [ec] at i1
        exact i1
      · have e := he.mp c_37
        rw [e] at ec
        refine V_iconst (v := 1) X d_M_keysOf_40 (by decide) ?_
        refine V_goto (tgt := 45) X d_M_keysOf_41 (by decide) ?_
        refine V_iadd X d_M_keysOf_45 ?_
        rw [nI_1]
        refine is_2 X d_M_keysOf_46 rfl (by first | exact okp_n | exact okp_i | exact okp_r) ?_
        refine ic_3 (v := (nI (600*t+(v+1)))) X d_M_keysOf_47 (nI_1 (600*t+v)) rfl (by first | exact okp_n | exact okp_i | exact okp_r) ?_
        refine V_goto (tgt := 8) X d_M_keysOf_50 (by decide) ?_
        have i1 := ih (v + 1) (by omega) hp
        rw [ec] at i1
        exact i1
theorem c_M_keysOf (l : Launch) (g : GG) (N0 : Nat → Prop) (h : Mp) {m : Nat} {ad : Nat → Nat} {iv : MI} {ar : MA} {t c : Nat} (ht : t < 120) (hc : ar 5 t = nI c) (hc2 : c < 600) (w : MW g m ad h iv ar) : Ct l y_M_keysOf b_M_keysOf 4 (some .int) 1 24 0 0 g N0 h [va_rf (some m), .int (nI t)] (pI (fun r h' => r = nI (kOf ar t c) ∧ h' = h)) nox := by
  refine Ct_of "SnapshotStoreModel" "keysOf" [some (va_rf (some m)), some (.int (nI t)), none, none] (by decide) rfl rfl (by simp [lg_sl, rf_cat, cat_i, cat_l]) (by simp [toL, lv_args, rf_cat, cat_i, cat_l]) (fun K hl X => ?_)
  refine V_iconst (v := 0) X d_M_keysOf_0 (by decide) ?_
  refine is_2 X d_M_keysOf_1 rfl (by first | exact okp_n | exact okp_i | exact okp_r) ?_
  refine V_sipush (v := 600) X d_M_keysOf_2 (by decide) ?_
  refine il_1 X d_M_keysOf_5 ?_
  refine V_imul X d_M_keysOf_6 ?_
  rw [show (600 : Int32) = nI 600 from rfl, pk_mul]
  refine is_3 X d_M_keysOf_7 rfl (by first | exact okp_n | exact okp_i | exact okp_r) ?_
  exact w_M_keysOf X ht hc hc2 w c 0 (by omega) ⟨_, rfl, rfl, rfl⟩
-- noteRead
def mNote (ar : MA) (t rc : Nat) (lo hi : Int32) : MA := aU (aU (aU ar 12 (upd (ar 12) (600 * t + rc) lo)) 13 (upd (ar 13) (600 * t + rc) hi)) 11 (upd (ar 11) t (nI (rc + 1)))
def mNoted (ar : MA) (t : Nat) (lo hi : Int32) : Prop := ¬ ar 0 t = 0 ∧ lo ≤ hi
theorem c_M_noteRead (l : Launch) (g : GG) (N0 : Nat → Prop) (h : Mp) {m : Nat} {ad : Nat → Nat} {iv : MI} {ar : MA} {t rc : Nat} (lo hi : Int32) (ht : t < 120) (hc : ar 11 t = nI rc) (hc2 : rc < 600) (w : MW g m ad h iv ar) : Ct l y_M_noteRead b_M_noteRead 4 none 0 0 0 0 g N0 h [va_rf (some m), .int (nI t), .int lo, .int hi] (pV (fun h' => (mNoted ar t lo hi → MW g m ad h' iv (mNote ar t rc lo hi)) ∧ (¬ mNoted ar t lo hi → h' = h))) nox := by
  refine Ct_of "SnapshotStoreModel" "noteRead" [some (va_rf (some m)), some (.int (nI t)), some (.int lo), some (.int hi)] (by decide) rfl rfl (by simp [lg_sl, rf_cat, cat_i, cat_l]) (by simp [toL, lv_args, rf_cat, cat_i, cat_l]) (fun K hl X => ?_)
  refine al_0 X d_M_noteRead_0 ?_
  refine gm_7 X w d_M_noteRead_1 ?_
  refine il_1 X d_M_noteRead_4 ?_
  refine am_z X w (k := 0) (by decide) rfl (show _ < 120 by omega) (by decide) d_M_noteRead_5 ?_
  refine V_if_eq (tgt := 60) X d_M_noteRead_6 (by decide) (fun c_6 => ?_) (fun c_6 => ?_)
  · refine V_vret X rfl d_M_noteRead_60 (by first | omega | decide | (dsimp only; first | done | omega)) (by first | omega | decide | (dsimp only; first | done | omega)) ?_
    exact ⟨rfl, fun z => absurd c_6 z.1, fun _ => rfl⟩
  · refine il_2 X d_M_noteRead_9 ?_
    refine il_3 X d_M_noteRead_10 ?_
    refine V_icmp_gt (tgt := 60) X d_M_noteRead_11 (by decide) (fun c_11 => ?_) (fun c_11 => ?_)
    · refine V_vret X rfl d_M_noteRead_60 (by first | omega | decide | (dsimp only; first | done | omega)) (by first | omega | decide | (dsimp only; first | done | omega)) ?_
      exact ⟨rfl, fun z => absurd z.2 (Int32.not_le.mpr c_11), fun _ => rfl⟩
    · refine al_0 X d_M_noteRead_14 ?_
      refine gm_48 X w d_M_noteRead_15 ?_
      refine V_sipush (v := 600) X d_M_noteRead_18 (by decide) ?_
      refine il_1 X d_M_noteRead_21 ?_
      refine V_imul X d_M_noteRead_22 ?_
      refine al_0 X d_M_noteRead_23 ?_
      refine gm_45 X w d_M_noteRead_24 ?_
      refine il_1 X d_M_noteRead_27 ?_
      refine am_i X w (k := 11) (by decide) rfl (show _ < 120 by omega) (by decide) d_M_noteRead_28 ?_
      rw [show (600 : Int32) = nI 600 from rfl, pk_mul, hc]
      refine V_iadd X d_M_noteRead_29 ?_
      rw [nI_add]
      refine il_2 X d_M_noteRead_30 ?_
      refine sm_i X w (k := 12) (by decide) rfl (show _ < 72000 by omega) (by decide) d_M_noteRead_31 (fun h w => ?_)
      refine al_0 X d_M_noteRead_32 ?_
      refine gm_51 X w d_M_noteRead_33 ?_
      refine V_sipush (v := 600) X d_M_noteRead_36 (by decide) ?_
      refine il_1 X d_M_noteRead_39 ?_
      refine V_imul X d_M_noteRead_40 ?_
      refine al_0 X d_M_noteRead_41 ?_
      refine gm_45 X w d_M_noteRead_42 ?_
      refine il_1 X d_M_noteRead_45 ?_
      refine am_i X w (k := 11) (by decide) rfl (show _ < 120 by omega) (by decide) d_M_noteRead_46 ?_
      simp (decide := true) only [aU_s, aU_n, iU_s, iU_n] at w ⊢
      rw [show (600 : Int32) = nI 600 from rfl, pk_mul, hc]
      refine V_iadd X d_M_noteRead_47 ?_
      rw [nI_add]
      refine il_3 X d_M_noteRead_48 ?_
      refine sm_i X w (k := 13) (by decide) rfl (show _ < 72000 by omega) (by decide) d_M_noteRead_49 (fun h w => ?_)
      refine al_0 X d_M_noteRead_50 ?_
      refine gm_45 X w d_M_noteRead_51 ?_
      refine il_1 X d_M_noteRead_54 ?_
      refine V_dup2 X d_M_noteRead_55 (by first | rfl | exact rf_cat _) (by first | rfl | exact rf_cat _) ?_
      refine am_i X w (k := 11) (by decide) rfl (show _ < 120 by omega) (by decide) d_M_noteRead_56 ?_
      refine V_iconst (v := 1) X d_M_noteRead_57 (by decide) ?_
      simp (decide := true) only [aU_s, aU_n, iU_s, iU_n] at w ⊢
      rw [hc]
      refine V_iadd X d_M_noteRead_58 ?_
      rw [nI_1]
      refine sm_i X w (k := 11) (by decide) rfl (show _ < 120 by omega) (by decide) d_M_noteRead_59 (fun h w => ?_)
      simp (decide := true) only [aU_s, aU_n, iU_s, iU_n] at w
      refine V_vret X rfl d_M_noteRead_60 (by first | omega | decide | (dsimp only; first | done | omega)) (by first | omega | decide | (dsimp only; first | done | omega)) ?_
      exact ⟨rfl, fun _ => w, fun z => absurd ⟨c_6, Int32.not_lt.mp c_11⟩ z⟩
-- isLater
def later (ar : MA) (t : Nat) (s : Int32) : Bool := decide (ar 3 t = 1) && decide (s < ar 2 t)
theorem c_M_isLater (l : Launch) (g : GG) (N0 : Nat → Prop) (h : Mp) {m : Nat} {ad : Nat → Nat} {iv : MI} {ar : MA} {t : Nat} (s : Int32) (ht : t < 120) (w : MW g m ad h iv ar) : Ct l y_M_isLater b_M_isLater 3 (some .boolean) 0 0 0 0 g N0 h [va_rf (some m), .int (nI t), .int s] (pI (fun r h' => r = b01 (later ar t s) ∧ h' = h)) nox := by
  refine Ct_of "SnapshotStoreModel" "isLater" [some (va_rf (some m)), some (.int (nI t)), some (.int s)] (by decide) rfl rfl (by simp [lg_sl, rf_cat, cat_i, cat_l]) (by simp [toL, lv_args, rf_cat, cat_i, cat_l]) (fun K hl X => ?_)
  refine al_0 X d_M_isLater_0 ?_
  refine gm_20 X w d_M_isLater_1 ?_
  refine il_1 X d_M_isLater_4 ?_
  refine am_i X w (k := 3) (by decide) rfl (show _ < 120 by omega) (by decide) d_M_isLater_5 ?_
  refine V_iconst (v := 1) X d_M_isLater_6 (by decide) ?_
  refine V_icmp_ne (tgt := 24) X d_M_isLater_7 (by decide) (fun c_7 => ?_) (fun c_7 => ?_)
  · refine V_iconst (v := 0) X d_M_isLater_24 (by decide) ?_
    refine V_zret X rfl (by first | rfl | exact nr_z (by assumption)) d_M_isLater_25 (by first | omega | decide | (dsimp only; first | done | omega)) (by first | omega | decide | (dsimp only; first | done | omega)) ?_
    exact ⟨_, rfl, by simp [later, c_7, b01], rfl⟩
  · refine al_0 X d_M_isLater_10 ?_
    refine gm_17 X w d_M_isLater_11 ?_
    refine il_1 X d_M_isLater_14 ?_
    refine am_i X w (k := 2) (by decide) rfl (show _ < 120 by omega) (by decide) d_M_isLater_15 ?_
    refine il_2 X d_M_isLater_16 ?_
    refine V_icmp_le (tgt := 24) X d_M_isLater_17 (by decide) (fun c_17 => ?_) (fun c_17 => ?_)
    · refine V_iconst (v := 0) X d_M_isLater_24 (by decide) ?_
      refine V_zret X rfl (by first | rfl | exact nr_z (by assumption)) d_M_isLater_25 (by first | omega | decide | (dsimp only; first | done | omega)) (by first | omega | decide | (dsimp only; first | done | omega)) ?_
      exact ⟨_, rfl, by simp [later, Int32.not_lt.mpr c_17, b01], rfl⟩
    · refine V_iconst (v := 1) X d_M_isLater_20 (by decide) ?_
      refine V_goto (tgt := 25) X d_M_isLater_21 (by decide) ?_
      refine V_zret X rfl (by first | rfl | exact nr_z (by assumption)) d_M_isLater_25 (by first | omega | decide | (dsimp only; first | done | omega)) (by first | omega | decide | (dsimp only; first | done | omega)) ?_
      exact ⟨_, rfl, by simp [later, c_7, Int32.not_le.mp c_17, b01], rfl⟩
-- hasRead
def pRd (ar : MA) (rd : Nat) (key : Int32) (r : Nat) : Bool := decide (ar 12 (600 * rd + r) ≤ key) && decide (key ≤ ar 13 (600 * rd + r))
def rdM (ar : MA) (rd rc : Nat) (key : Int32) : Bool := anyN (pRd ar rd key) rc
def hrM (ar : MA) (rd rc wr c : Nat) : Bool := anyN (fun k => rdM ar rd rc (ar 6 (600 * wr + k))) c
theorem w_M_hasRead2 {K : Cx} {g : GG} {N0 : Nat → Prop} {Q : State → Prop} {h : Mp} {mc ms : Nat} (X : Fx K g N0 b_M_hasRead 6 "SnapshotStoreModel" { frames := 0, cells := mc, slots := ms, locals := 0 } (some .boolean) "hasRead" []) {m : Nat} {ad : Nat → Nat} {iv : MI} {ar : MA} {rd rc wr k : Nat} (hrd : rd < 120) (hwr : wr < 120) (hk : k < 600) (hc : ar 11 rd = nI rc) (hc2 : rc < 600) (w : MW g m ad h iv ar) : ∀ (j r : Nat) (b : Bool), r + j = rc → V K g N0 6 Q  h 0 0 100 [some (va_rf (some m)), some (.int (nI rd)), some (.int (nI wr)), some (.int (b01 (b || rdM ar rd rc (ar 6 (600 * wr + k))))), some (.int (nI (600 * wr + k))), some (.int (nI (600 * rd + rc)))] [] → V K g N0 6 Q  h 0 0 33 [some (va_rf (some m)), some (.int (nI rd)), some (.int (nI wr)), some (.int (b01 (b || anyN (pRd ar rd (ar 6 (600 * wr + k))) r))), some (.int (nI (600 * wr + k))), some (.int (nI (600 * rd + r)))] [] := by
  intro j
  induction j with
  | zero =>
    intro r b hr hp
    have hr : r = rc := by omega
    subst hr
    refine il_5 X d_M_hasRead_33 ?_
    refine V_sipush (v := 600) X d_M_hasRead_35 (by decide) ?_
    refine il_1 X d_M_hasRead_38 ?_
    refine V_imul X d_M_hasRead_39 ?_
    refine al_0 X d_M_hasRead_40 ?_
    refine gm_45 X w d_M_hasRead_41 ?_
    refine il_1 X d_M_hasRead_44 ?_
    refine am_i X w (k := 11) (by decide) rfl (show _ < 120 by omega) (by decide) d_M_hasRead_45 ?_
    rw [show (600 : Int32) = nI 600 from rfl, pk_mul, hc]
    refine V_iadd X d_M_hasRead_46 ?_
    rw [nI_add]
    refine V_icmp_ge (tgt := 100) X d_M_hasRead_47 (by decide) (fun c_47 => ?_) (fun c_47 => ?_)
    · exact hp
    · exact absurd (Int32.le_refl _) c_47
  | succ j ih =>
    intro r b hr hp
    have fin : ∀ x : Bool, x = (b || anyN (pRd ar rd (ar 6 (600 * wr + k))) (r + 1)) → V K g N0 6 Q h 0 0 93 [some (va_rf (some m)), some (.int (nI rd)), some (.int (nI wr)), some (.int (b01 (b || anyN (pRd ar rd (ar 6 (600 * wr + k))) r))), some (.int (nI (600 * wr + k))), some (.int (nI (600 * rd + r)))] [.int (b01 x)] := by
      intro x hx
      subst hx
      refine is_3 X d_M_hasRead_93 rfl (by first | exact okp_n | exact okp_i | exact okp_r) ?_
      refine ic_5 (v := (nI (600*rd+(r+1)))) X d_M_hasRead_94 (nI_1 (600*rd+r)) rfl (by first | exact okp_n | exact okp_i | exact okp_r) ?_
      refine V_goto (tgt := 33) X d_M_hasRead_97 (by decide) ?_
      exact ih (r + 1) b (by omega) hp
    have ea : anyN (pRd ar rd (ar 6 (600 * wr + k))) (r + 1) = (anyN (pRd ar rd (ar 6 (600 * wr + k))) r || pRd ar rd (ar 6 (600 * wr + k)) r) := rfl
    have yes : (b || anyN (pRd ar rd (ar 6 (600 * wr + k))) (r + 1)) = true → V K g N0 6 Q h 0 0 88 [some (va_rf (some m)), some (.int (nI rd)), some (.int (nI wr)), some (.int (b01 (b || anyN (pRd ar rd (ar 6 (600 * wr + k))) r))), some (.int (nI (600 * wr + k))), some (.int (nI (600 * rd + r)))] [] := by
      intro e
      have f := fin true e.symm
      refine V_iconst (v := 1) X d_M_hasRead_88 (by decide) ?_
      refine V_goto (tgt := 93) X d_M_hasRead_89 (by decide) ?_
      exact f
    have no : (b || anyN (pRd ar rd (ar 6 (600 * wr + k))) (r + 1)) = false → V K g N0 6 Q h 0 0 92 [some (va_rf (some m)), some (.int (nI rd)), some (.int (nI wr)), some (.int (b01 (b || anyN (pRd ar rd (ar 6 (600 * wr + k))) r))), some (.int (nI (600 * wr + k))), some (.int (nI (600 * rd + r)))] [] := by
      intro e
      have f := fin false e.symm
      refine V_iconst (v := 0) X d_M_hasRead_92 (by decide) ?_
      exact f
    refine il_5 X d_M_hasRead_33 ?_
    refine V_sipush (v := 600) X d_M_hasRead_35 (by decide) ?_
    refine il_1 X d_M_hasRead_38 ?_
    refine V_imul X d_M_hasRead_39 ?_
    refine al_0 X d_M_hasRead_40 ?_
    refine gm_45 X w d_M_hasRead_41 ?_
    refine il_1 X d_M_hasRead_44 ?_
    refine am_i X w (k := 11) (by decide) rfl (show _ < 120 by omega) (by decide) d_M_hasRead_45 ?_
    rw [show (600 : Int32) = nI 600 from rfl, pk_mul, hc]
    refine V_iadd X d_M_hasRead_46 ?_
    rw [nI_add]
    refine V_icmp_ge (tgt := 100) X d_M_hasRead_47 (by decide) (fun c_47 => ?_) (fun c_47 => ?_)
    · exact absurd c_47 (nI_ge (by omega) (by omega))
    · refine il_3 X d_M_hasRead_50 ?_
      refine V_if_ne (tgt := 88) X d_M_hasRead_51 (by decide) (fun c_51 => ?_) (fun c_51 => ?_)
      · have e := b01_t c_51
        exact yes (by rw [ea, ← Bool.or_assoc, e, Bool.true_or])
      · have e := b01_f c_51
        refine al_0 X d_M_hasRead_54 ?_
        refine gm_30 X w d_M_hasRead_55 ?_
        refine il_4 X d_M_hasRead_58 ?_
        refine am_i X w (k := 6) (by decide) rfl (show _ < 72000 by omega) (by decide) d_M_hasRead_60 ?_
        refine al_0 X d_M_hasRead_61 ?_
        refine gm_48 X w d_M_hasRead_62 ?_
        refine il_5 X d_M_hasRead_65 ?_
        refine am_i X w (k := 12) (by decide) rfl (show _ < 72000 by omega) (by decide) d_M_hasRead_67 ?_
        refine V_icmp_lt (tgt := 92) X d_M_hasRead_68 (by decide) (fun c_68 => ?_) (fun c_68 => ?_)
        · exact no (by rw [ea, ← Bool.or_assoc, e]; simp [pRd, Int32.not_le.mpr c_68])
        · refine al_0 X d_M_hasRead_71 ?_
          refine gm_30 X w d_M_hasRead_72 ?_
          refine il_4 X d_M_hasRead_75 ?_
          refine am_i X w (k := 6) (by decide) rfl (show _ < 72000 by omega) (by decide) d_M_hasRead_77 ?_
          refine al_0 X d_M_hasRead_78 ?_
          refine gm_51 X w d_M_hasRead_79 ?_
          refine il_5 X d_M_hasRead_82 ?_
          refine am_i X w (k := 13) (by decide) rfl (show _ < 72000 by omega) (by decide) d_M_hasRead_84 ?_
          refine V_icmp_gt (tgt := 92) X d_M_hasRead_85 (by decide) (fun c_85 => ?_) (fun c_85 => ?_)
          · exact no (by rw [ea, ← Bool.or_assoc, e]; simp [pRd, Int32.not_le.mpr c_85])
          · exact yes (by rw [ea, ← Bool.or_assoc, e]; simp [pRd, Int32.not_lt.mp c_68, Int32.not_lt.mp c_85])
theorem w_M_hasRead1 {K : Cx} {g : GG} {N0 : Nat → Prop} {h : Mp} {post : Option Value → Mp → Prop} {xp : String → Mp → Prop} {mc ms : Nat} (X : Fx K g N0 b_M_hasRead 6 "SnapshotStoreModel" { frames := 0, cells := mc, slots := ms, locals := 0 } (some .boolean) "hasRead" []) {m : Nat} {ad : Nat → Nat} {iv : MI} {ar : MA} {rd rc wr c : Nat} (hrd : rd < 120) (hwr : wr < 120) (hc : ar 11 rd = nI rc) (hc2 : rc < 600) (hw : ar 5 wr = nI c) (hw2 : c < 600) (w : MW g m ad h iv ar) : ∀ (j k : Nat) (z : Option Value), k + j = c → post (some (.int (b01 (hrM ar rd rc wr c)))) h → V K g N0 6 (RQ K g N0 post xp mc ms)  h 0 0 9 [some (va_rf (some m)), some (.int (nI rd)), some (.int (nI wr)), some (.int (b01 (anyN (fun k => rdM ar rd rc (ar 6 (600 * wr + k))) k))), some (.int (nI (600 * wr + k))), z] [] := by
  intro j
  induction j with
  | zero =>
    intro k z hk hp
    have hk : k = c := by omega
    subst hk
    refine il_4 X d_M_hasRead_9 ?_
    refine V_sipush (v := 600) X d_M_hasRead_11 (by decide) ?_
    refine il_2 X d_M_hasRead_14 ?_
    refine V_imul X d_M_hasRead_15 ?_
    refine al_0 X d_M_hasRead_16 ?_
    refine gm_26 X w d_M_hasRead_17 ?_
    refine il_2 X d_M_hasRead_20 ?_
    refine am_i X w (k := 5) (by decide) rfl (show _ < 120 by omega) (by decide) d_M_hasRead_21 ?_
    rw [show (600 : Int32) = nI 600 from rfl, pk_mul, hw]
    refine V_iadd X d_M_hasRead_22 ?_
    rw [nI_add]
    refine V_icmp_ge (tgt := 106) X d_M_hasRead_23 (by decide) (fun c_23 => ?_) (fun c_23 => ?_)
    · refine il_3 X d_M_hasRead_106 ?_
      refine V_zret X rfl (nr_z (b01_or _)) d_M_hasRead_107 (by omega) (by omega) hp
    · exact absurd (Int32.le_refl _) c_23
  | succ j ih =>
    intro k z hk hp
    refine il_4 X d_M_hasRead_9 ?_
    refine V_sipush (v := 600) X d_M_hasRead_11 (by decide) ?_
    refine il_2 X d_M_hasRead_14 ?_
    refine V_imul X d_M_hasRead_15 ?_
    refine al_0 X d_M_hasRead_16 ?_
    refine gm_26 X w d_M_hasRead_17 ?_
    refine il_2 X d_M_hasRead_20 ?_
    refine am_i X w (k := 5) (by decide) rfl (show _ < 120 by omega) (by decide) d_M_hasRead_21 ?_
    rw [show (600 : Int32) = nI 600 from rfl, pk_mul, hw]
    refine V_iadd X d_M_hasRead_22 ?_
    rw [nI_add]
    refine V_icmp_ge (tgt := 106) X d_M_hasRead_23 (by decide) (fun c_23 => ?_) (fun c_23 => ?_)
    · exact absurd c_23 (nI_ge (by omega) (by omega))
    · refine V_sipush (v := 600) X d_M_hasRead_26 (by decide) ?_
      refine il_1 X d_M_hasRead_29 ?_
      refine V_imul X d_M_hasRead_30 ?_
      rw [show (600 : Int32) = nI 600 from rfl, pk_mul]
      refine is_5 X d_M_hasRead_31 rfl (by first | exact okp_n | exact okp_i | exact okp_r) ?_
      have e0 : anyN (fun k => rdM ar rd rc (ar 6 (600 * wr + k))) k = (anyN (fun k => rdM ar rd rc (ar 6 (600 * wr + k))) k || anyN (pRd ar rd (ar 6 (600 * wr + k))) 0) := by rw [anyN]; simp
      rw [e0]
      refine w_M_hasRead2 X hrd hwr (by omega) hc hc2 w rc 0 _ (by omega) ?_
      refine ic_4 (v := (nI (600*wr+(k+1)))) X d_M_hasRead_100 (nI_1 (600*wr+k)) rfl (by first | exact okp_n | exact okp_i | exact okp_r) ?_
      refine V_goto (tgt := 9) X d_M_hasRead_103 (by decide) ?_
      exact ih (k + 1) _ (by omega) hp
theorem c_M_hasRead (l : Launch) (g : GG) (N0 : Nat → Prop) (h : Mp) {m : Nat} {ad : Nat → Nat} {iv : MI} {ar : MA} {rd rc wr c : Nat} (hrd : rd < 120) (hwr : wr < 120) (hc : ar 11 rd = nI rc) (hc2 : rc < 600) (hw : ar 5 wr = nI c) (hw2 : c < 600) (w : MW g m ad h iv ar) : Ct l y_M_hasRead b_M_hasRead 6 (some .boolean) 0 0 0 0 g N0 h [va_rf (some m), .int (nI rd), .int (nI wr)] (pI (fun r h' => r = b01 (hrM ar rd rc wr c) ∧ h' = h)) nox := by
  refine Ct_of "SnapshotStoreModel" "hasRead" [some (va_rf (some m)), some (.int (nI rd)), some (.int (nI wr)), none, none, none] (by decide) rfl rfl (by simp [lg_sl, rf_cat, cat_i, cat_l]) (by simp [toL, lv_args, rf_cat, cat_i, cat_l]) (fun K hl X => ?_)
  refine V_iconst (v := 0) X d_M_hasRead_0 (by decide) ?_
  refine is_3 X d_M_hasRead_1 rfl (by first | exact okp_n | exact okp_i | exact okp_r) ?_
  refine V_sipush (v := 600) X d_M_hasRead_2 (by decide) ?_
  refine il_2 X d_M_hasRead_5 ?_
  refine V_imul X d_M_hasRead_6 ?_
  rw [show (600 : Int32) = nI 600 from rfl, pk_mul]
  refine is_4 X d_M_hasRead_7 rfl (by first | exact okp_n | exact okp_i | exact okp_r) ?_
  exact w_M_hasRead1 X hrd hwr hc hc2 hw hw2 w c 0 _ (by omega) ⟨_, rfl, rfl, rfl⟩
-- conflicts
def pCf (ar : MA) (t : Nat) (key : Int32) (v : Nat) : Bool := decide (ar 14 v = key) && decide (ar 1 t < ar 15 v)
def cfM (ar : MA) (n t c : Nat) : Bool := anyN (fun k => anyN (pCf ar t (ar 6 (600 * t + k))) n) c
theorem w_M_conflicts2 {K : Cx} {g : GG} {N0 : Nat → Prop} {Q : State → Prop} {h : Mp} {mc ms : Nat} (X : Fx K g N0 b_M_conflicts 5 "SnapshotStoreModel" { frames := 0, cells := mc, slots := ms, locals := 0 } (some .boolean) "conflicts" []) {m : Nat} {ad : Nat → Nat} {iv : MI} {ar : MA} {n t k : Nat} (ht : t < 120) (hk : k < 600) (hn : iv 4 = nI n) (hn2 : n ≤ 3000) (w : MW g m ad h iv ar) : ∀ (j v : Nat) (b : Bool), v + j = n → V K g N0 5 Q  h 0 0 84 [some (va_rf (some m)), some (.int (nI t)), some (.int (b01 (b || anyN (pCf ar t (ar 6 (600 * t + k))) n))), some (.int (nI (600 * t + k))), some (.int (nI n))] [] → V K g N0 5 Q  h 0 0 27 [some (va_rf (some m)), some (.int (nI t)), some (.int (b01 (b || anyN (pCf ar t (ar 6 (600 * t + k))) v))), some (.int (nI (600 * t + k))), some (.int (nI v))] [] := by
  intro j
  induction j with
  | zero =>
    intro v b hv hp
    have hv : v = n := by omega
    subst hv
    refine il_4 X d_M_conflicts_27 ?_
    refine al_0 X d_M_conflicts_29 ?_
    refine gm_80 X w d_M_conflicts_30 ?_
    rw [hn]
    refine V_icmp_ge (tgt := 84) X d_M_conflicts_33 (by decide) (fun c_33 => ?_) (fun c_33 => ?_)
    · exact hp
    · exact absurd (Int32.le_refl _) c_33
  | succ j ih =>
    intro v b hv hp
    have fin : ∀ x : Bool, x = (b || anyN (pCf ar t (ar 6 (600 * t + k))) (v + 1)) → V K g N0 5 Q h 0 0 77 [some (va_rf (some m)), some (.int (nI t)), some (.int (b01 (b || anyN (pCf ar t (ar 6 (600 * t + k))) v))), some (.int (nI (600 * t + k))), some (.int (nI v))] [.int (b01 x)] := by
      intro x hx
      subst hx
      refine is_2 X d_M_conflicts_77 rfl (by first | exact okp_n | exact okp_i | exact okp_r) ?_
      refine ic_4 (v := (nI (v+1))) X d_M_conflicts_78 (nI_1 v) rfl (by first | exact okp_n | exact okp_i | exact okp_r) ?_
      refine V_goto (tgt := 27) X d_M_conflicts_81 (by decide) ?_
      exact ih (v + 1) b (by omega) hp
    have ea : anyN (pCf ar t (ar 6 (600 * t + k))) (v + 1) = (anyN (pCf ar t (ar 6 (600 * t + k))) v || pCf ar t (ar 6 (600 * t + k)) v) := rfl
    have yes : (b || anyN (pCf ar t (ar 6 (600 * t + k))) (v + 1)) = true → V K g N0 5 Q h 0 0 72 [some (va_rf (some m)), some (.int (nI t)), some (.int (b01 (b || anyN (pCf ar t (ar 6 (600 * t + k))) v))), some (.int (nI (600 * t + k))), some (.int (nI v))] [] := by
      intro e
      have f := fin true e.symm
      refine V_iconst (v := 1) X d_M_conflicts_72 (by decide) ?_
      refine V_goto (tgt := 77) X d_M_conflicts_73 (by decide) ?_
      exact f
    have no : (b || anyN (pCf ar t (ar 6 (600 * t + k))) (v + 1)) = false → V K g N0 5 Q h 0 0 76 [some (va_rf (some m)), some (.int (nI t)), some (.int (b01 (b || anyN (pCf ar t (ar 6 (600 * t + k))) v))), some (.int (nI (600 * t + k))), some (.int (nI v))] [] := by
      intro e
      have f := fin false e.symm
      refine V_iconst (v := 0) X d_M_conflicts_76 (by decide) ?_
      exact f
    refine il_4 X d_M_conflicts_27 ?_
    refine al_0 X d_M_conflicts_29 ?_
    refine gm_80 X w d_M_conflicts_30 ?_
    rw [hn]
    refine V_icmp_ge (tgt := 84) X d_M_conflicts_33 (by decide) (fun c_33 => ?_) (fun c_33 => ?_)
    · exact absurd c_33 (nI_ge (by omega) (by omega))
    · refine il_2 X d_M_conflicts_36 ?_
      refine V_if_ne (tgt := 72) X d_M_conflicts_37 (by decide) (fun c_37 => ?_) (fun c_37 => ?_)
      · have e := b01_t c_37
        exact yes (by rw [ea, ← Bool.or_assoc, e, Bool.true_or])
      · have e := b01_f c_37
        refine al_0 X d_M_conflicts_40 ?_
        refine gm_54 X w d_M_conflicts_41 ?_
        refine il_4 X d_M_conflicts_44 ?_
        refine am_i X w (k := 14) (by decide) rfl (show _ < 3000 by omega) (by decide) d_M_conflicts_46 ?_
        refine al_0 X d_M_conflicts_47 ?_
        refine gm_30 X w d_M_conflicts_48 ?_
        refine il_3 X d_M_conflicts_51 ?_
        refine am_i X w (k := 6) (by decide) rfl (show _ < 72000 by omega) (by decide) d_M_conflicts_52 ?_
        refine V_icmp_ne (tgt := 76) X d_M_conflicts_53 (by decide) (fun c_53 => ?_) (fun c_53 => ?_)
        · exact no (by rw [ea, ← Bool.or_assoc, e]; simp [pCf, c_53])
        · refine al_0 X d_M_conflicts_56 ?_
          refine gm_57 X w d_M_conflicts_57 ?_
          refine il_4 X d_M_conflicts_60 ?_
          refine am_i X w (k := 15) (by decide) rfl (show _ < 3000 by omega) (by decide) d_M_conflicts_62 ?_
          refine al_0 X d_M_conflicts_63 ?_
          refine gm_13 X w d_M_conflicts_64 ?_
          refine il_1 X d_M_conflicts_67 ?_
          refine am_i X w (k := 1) (by decide) rfl (show _ < 120 by omega) (by decide) d_M_conflicts_68 ?_
          refine V_icmp_le (tgt := 76) X d_M_conflicts_69 (by decide) (fun c_69 => ?_) (fun c_69 => ?_)
          · exact no (by rw [ea, ← Bool.or_assoc, e]; simp [pCf, Int32.not_lt.mpr c_69])
          · exact yes (by rw [ea, ← Bool.or_assoc, e]; simp [pCf, c_53, Int32.not_le.mp c_69])
theorem w_M_conflicts1 {K : Cx} {g : GG} {N0 : Nat → Prop} {h : Mp} {post : Option Value → Mp → Prop} {xp : String → Mp → Prop} {mc ms : Nat} (X : Fx K g N0 b_M_conflicts 5 "SnapshotStoreModel" { frames := 0, cells := mc, slots := ms, locals := 0 } (some .boolean) "conflicts" []) {m : Nat} {ad : Nat → Nat} {iv : MI} {ar : MA} {n t c : Nat} (ht : t < 120) (hw : ar 5 t = nI c) (hw2 : c < 600) (hn : iv 4 = nI n) (hn2 : n ≤ 3000) (w : MW g m ad h iv ar) : ∀ (j k : Nat) (z : Option Value), k + j = c → post (some (.int (b01 (cfM ar n t c)))) h → V K g N0 5 (RQ K g N0 post xp mc ms)  h 0 0 8 [some (va_rf (some m)), some (.int (nI t)), some (.int (b01 (anyN (fun k => anyN (pCf ar t (ar 6 (600 * t + k))) n) k))), some (.int (nI (600 * t + k))), z] [] := by
  intro j
  induction j with
  | zero =>
    intro k z hk hp
    have hk : k = c := by omega
    subst hk
    refine il_3 X d_M_conflicts_8 ?_
    refine V_sipush (v := 600) X d_M_conflicts_9 (by decide) ?_
    refine il_1 X d_M_conflicts_12 ?_
    refine V_imul X d_M_conflicts_13 ?_
    refine al_0 X d_M_conflicts_14 ?_
    refine gm_26 X w d_M_conflicts_15 ?_
    refine il_1 X d_M_conflicts_18 ?_
    refine am_i X w (k := 5) (by decide) rfl (show _ < 120 by omega) (by decide) d_M_conflicts_19 ?_
    rw [show (600 : Int32) = nI 600 from rfl, pk_mul, hw]
    refine V_iadd X d_M_conflicts_20 ?_
    rw [nI_add]
    refine V_icmp_ge (tgt := 90) X d_M_conflicts_21 (by decide) (fun c_21 => ?_) (fun c_21 => ?_)
    · refine il_2 X d_M_conflicts_90 ?_
      refine V_zret X rfl (nr_z (b01_or _)) d_M_conflicts_91 (by omega) (by omega) hp
    · exact absurd (Int32.le_refl _) c_21
  | succ j ih =>
    intro k z hk hp
    refine il_3 X d_M_conflicts_8 ?_
    refine V_sipush (v := 600) X d_M_conflicts_9 (by decide) ?_
    refine il_1 X d_M_conflicts_12 ?_
    refine V_imul X d_M_conflicts_13 ?_
    refine al_0 X d_M_conflicts_14 ?_
    refine gm_26 X w d_M_conflicts_15 ?_
    refine il_1 X d_M_conflicts_18 ?_
    refine am_i X w (k := 5) (by decide) rfl (show _ < 120 by omega) (by decide) d_M_conflicts_19 ?_
    rw [show (600 : Int32) = nI 600 from rfl, pk_mul, hw]
    refine V_iadd X d_M_conflicts_20 ?_
    rw [nI_add]
    refine V_icmp_ge (tgt := 90) X d_M_conflicts_21 (by decide) (fun c_21 => ?_) (fun c_21 => ?_)
    · exact absurd c_21 (nI_ge (by omega) (by omega))
    · refine V_iconst (v := 0) X d_M_conflicts_24 (by decide) ?_
      refine is_4 X d_M_conflicts_25 rfl (by first | exact okp_n | exact okp_i | exact okp_r) ?_
      have e0 : anyN (fun k => anyN (pCf ar t (ar 6 (600 * t + k))) n) k = (anyN (fun k => anyN (pCf ar t (ar 6 (600 * t + k))) n) k || anyN (pCf ar t (ar 6 (600 * t + k))) 0) := by simp [anyN]
      rw [e0]
      refine w_M_conflicts2 X ht (by omega) hn hn2 w n 0 _ (by omega) ?_
      refine ic_3 (v := (nI (600*t+(k+1)))) X d_M_conflicts_84 (nI_1 (600*t+k)) rfl (by first | exact okp_n | exact okp_i | exact okp_r) ?_
      refine V_goto (tgt := 8) X d_M_conflicts_87 (by decide) ?_
      exact ih (k + 1) _ (by omega) hp
theorem c_M_conflicts (l : Launch) (g : GG) (N0 : Nat → Prop) (h : Mp) {m : Nat} {ad : Nat → Nat} {iv : MI} {ar : MA} {n t c : Nat} (ht : t < 120) (hw : ar 5 t = nI c) (hw2 : c < 600) (hn : iv 4 = nI n) (hn2 : n ≤ 3000) (w : MW g m ad h iv ar) : Ct l y_M_conflicts b_M_conflicts 5 (some .boolean) 0 0 0 0 g N0 h [va_rf (some m), .int (nI t)] (pI (fun r h' => r = b01 (cfM ar n t c) ∧ h' = h)) nox := by
  refine Ct_of "SnapshotStoreModel" "conflicts" [some (va_rf (some m)), some (.int (nI t)), none, none, none] (by decide) rfl rfl (by simp [lg_sl, rf_cat, cat_i, cat_l]) (by simp [toL, lv_args, rf_cat, cat_i, cat_l]) (fun K hl X => ?_)
  refine V_iconst (v := 0) X d_M_conflicts_0 (by decide) ?_
  refine is_2 X d_M_conflicts_1 rfl (by first | exact okp_n | exact okp_i | exact okp_r) ?_
  refine V_sipush (v := 600) X d_M_conflicts_2 (by decide) ?_
  refine il_1 X d_M_conflicts_5 ?_
  refine V_imul X d_M_conflicts_6 ?_
  rw [show (600 : Int32) = nI 600 from rfl, pk_mul]
  refine is_3 X d_M_conflicts_7 rfl (by first | exact okp_n | exact okp_i | exact okp_r) ?_
  exact w_M_conflicts1 X ht hw hw2 hn hn2 w c 0 _ (by omega) ⟨_, rfl, rfl, rfl⟩

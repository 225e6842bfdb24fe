-- the reference: flush, crash, told, at, versions, count, astray
theorem c_M_flush (l : Launch) (g : GG) (N0 : Nat → Prop) (h : Mp) {m : Nat} {ad : Nat → Nat} {iv : MI} {ar : MA} (w : MW g m ad h iv ar) : Ct l y_M_flush b_M_flush 2 (some .int) 0 0 0 0 g N0 h [va_rf (some m)] (pI (fun r h' => r = iv 1 - iv 2 ∧ MW g m ad h' (iU (iU iv 0 0) 2 (iv 1)) ar)) nox := by
  refine Ct_of "SnapshotStoreModel" "flush" [some (va_rf (some m)), none] (by decide) rfl rfl (by simp [lg_sl, rf_cat, cat_i, cat_l]) (by simp [toL, lv_args, rf_cat, cat_i, cat_l]) (fun K hl X => ?_)
  refine al_0 X d_M_flush_0 ?_
  refine V_iconst (v := 0) X d_M_flush_1 (by decide) ?_
  refine pm_69 X w d_M_flush_2 (fun h w => ?_)
  refine al_0 X d_M_flush_5 ?_
  refine gm_106 X w d_M_flush_6 ?_
  refine al_0 X d_M_flush_9 ?_
  refine gm_145 X w d_M_flush_10 ?_
  simp (decide := true) only [iU_n]
  refine V_isub X d_M_flush_13 ?_
  refine is_1 X d_M_flush_14 rfl (by first | exact okp_n | exact okp_i | exact okp_r) ?_
  refine al_0 X d_M_flush_15 ?_
  refine al_0 X d_M_flush_16 ?_
  refine gm_106 X w d_M_flush_17 ?_
  simp (decide := true) only [iU_n]
  refine pm_145 X w d_M_flush_20 (fun h w => ?_)
  refine il_1 X d_M_flush_23 ?_
  refine V_iret X rfl d_M_flush_24 (by first | omega | decide | (dsimp only; first | done | omega)) (by first | omega | decide | (dsimp only; first | done | omega)) ?_
  exact ⟨_, rfl, rfl, w⟩
theorem c_M_astray (l : Launch) (g : GG) (N0 : Nat → Prop) (h : Mp) {m : Nat} {ad : Nat → Nat} {iv : MI} {ar : MA} (w : MW g m ad h iv ar) : Ct l y_M_astray b_M_astray 1 (some .int) 0 0 0 0 g N0 h [va_rf (some m)] (pI (fun r h' => r = 0 ∧ MW g m ad h' (iU iv 0 0) ar)) nox := by
  refine Ct_of "SnapshotStoreModel" "astray" [some (va_rf (some m))] (by decide) rfl rfl (by simp [lg_sl, rf_cat, cat_i, cat_l]) (by simp [toL, lv_args, rf_cat, cat_i, cat_l]) (fun K hl X => ?_)
  refine al_0 X d_M_astray_0 ?_
  refine V_iconst (v := 0) X d_M_astray_1 (by decide) ?_
  refine pm_69 X w d_M_astray_2 (fun h w => ?_)
  refine V_iconst (v := 0) X d_M_astray_5 (by decide) ?_
  refine V_iret X rfl d_M_astray_6 (by first | omega | decide | (dsimp only; first | done | omega)) (by first | omega | decide | (dsimp only; first | done | omega)) ?_
  exact ⟨_, rfl, rfl, w⟩
theorem c_M_at (l : Launch) (g : GG) (N0 : Nat → Prop) (h : Mp) {m : Nat} {ad : Nat → Nat} {iv : MI} {ar : MA} {nv : Nat} (key sa : Int32) (hv : iv 4 = nI nv) (hv2 : nv ≤ 3000) (hr : vrise ar nv) (w : MW g m ad h iv ar) : Ct l y_M_at b_M_at 3 (some .int) 2 48 0 0 g N0 h [va_rf (some m), .int key, .int sa] (pI (fun r h' => r = valV ar (vAt ar nv key (if sa = 0 then iv 1 else iv 2)) ∧ ∃ iv', MW g m ad h' iv' ar ∧ ivOk iv iv' 0)) nox := by
  refine Ct_of "SnapshotStoreModel" "at" [some (va_rf (some m)), some (.int key), some (.int sa)] (by decide) rfl rfl (by simp [lg_sl, rf_cat, cat_i, cat_l]) (by simp [toL, lv_args, rf_cat, cat_i, cat_l]) (fun K hl X => ?_)
  have fin : ∀ (h : Mp) (st : Int32), MW g m ad h (iU iv 0 0) ar → st = (if sa = 0 then iv 1 else iv 2) → V K g N0 3 (RQ K g N0 (pI (fun r h' => r = valV ar (vAt ar nv key (if sa = 0 then iv 1 else iv 2)) ∧ ∃ iv', MW g m ad h' iv' ar ∧ ivOk iv iv' 0)) nox 0 0) h 0 0 22 [some (va_rf (some m)), some (.int key), some (.int sa)] [.int st, .int key, va_rf (some m)] := by
    intro h st w e
    subst e
    refine cl_M_97 X (c_M_lookAt _ g N0 h key _ (by rw [iU_n _ _ (by decide)]; exact hv) hv2 hr w) w.1 d_M_at_22 (by refine ⟨?_, ?_⟩ <;> first | decide | (dsimp only; first | done | omega)) (by first | decide | (simp only [List.map, rf_cat, cat_i, cat_l, List.sum_cons, List.sum_nil]; first | done | decide | omega)) ⟨(by first | omega | decide | (dsimp only; first | done | omega)), (by first | omega | decide | (dsimp only; first | done | omega))⟩ (fun _ _ z => z.elim) ?_
    rintro h w
    refine al_0 X d_M_at_25 ?_
    refine gm_91 X w d_M_at_26 ?_
    refine V_iret X rfl d_M_at_29 (by first | omega | decide | (dsimp only; first | done | omega)) (by first | omega | decide | (dsimp only; first | done | omega)) ?_
    refine ⟨_, rfl, iU_s _ _ _, _, w, ?_, fun i h1 h4 => ?_⟩
    · simp (decide := true) only [iU_n, iU_s]
    · rw [iU_n _ _ (by omega), iU_n _ _ (by omega), iU_n _ _ (by omega)]
  refine al_0 X d_M_at_0 ?_
  refine V_iconst (v := 0) X d_M_at_1 (by decide) ?_
  refine pm_69 X w d_M_at_2 (fun h w => ?_)
  refine al_0 X d_M_at_5 ?_
  refine il_1 X d_M_at_6 ?_
  refine il_2 X d_M_at_7 ?_
  refine V_if_eq (tgt := 18) X d_M_at_8 (by decide) (fun c_8 => ?_) (fun c_8 => ?_)
  · refine al_0 X d_M_at_18 ?_
    refine gm_106 X w d_M_at_19 ?_
    exact fin h _ w (by rw [if_pos c_8, iU_n _ _ (by decide)])
  · refine al_0 X d_M_at_11 ?_
    refine gm_145 X w d_M_at_12 ?_
    refine V_goto (tgt := 22) X d_M_at_15 (by decide) ?_
    exact fin h _ w (by rw [if_neg c_8, iU_n _ _ (by decide)])
-- versions
def pKy (ar : MA) (key : Int32) (v : Nat) : Bool := decide (ar 14 v = key)
theorem w_M_versions {K : Cx} {g : GG} {N0 : Nat → Prop} {h : Mp} {post : Option Value → Mp → Prop} {xp : String → Mp → Prop} {mc ms : Nat} (X : Fx K g N0 b_M_versions 4 "SnapshotStoreModel" { frames := 0, cells := mc, slots := ms, locals := 0 } (some .int) "versions" []) {m : Nat} {ad : Nat → Nat} {iv : MI} {ar : MA} {nv : Nat} {key : Int32} (hv : iv 4 = nI nv) (hv2 : nv ≤ 3000) (w : MW g m ad h iv ar) (hp : post (some (.int (nI (cntN (pKy ar key) nv)))) h) : ∀ (k v : Nat), v + k = nv → V K g N0 4 (RQ K g N0 post xp mc ms)  h 0 0 9 [some (va_rf (some m)), some (.int key), some (.int (nI (cntN (pKy ar key) v))), some (.int (nI v))] [] := by
  intro k
  induction k with
  | zero =>
    intro v hk
    have hk : v = nv := by omega
    subst hk
    refine il_3 X d_M_versions_9 ?_
    refine al_0 X d_M_versions_10 ?_
    refine gm_80 X w d_M_versions_11 ?_
    rw [hv]
    refine V_icmp_ge (tgt := 41) X d_M_versions_14 (by decide) (fun c_14 => ?_) (fun c_14 => ?_)
    · refine il_2 X d_M_versions_41 ?_
      refine V_iret X rfl d_M_versions_42 (by first | omega | decide | (dsimp only; first | done | omega)) (by first | omega | decide | (dsimp only; first | done | omega)) ?_
      exact hp
    · exact absurd (Int32.le_refl _) c_14
  | succ k ih =>
    intro v hk
    refine il_3 X d_M_versions_9 ?_
    refine al_0 X d_M_versions_10 ?_
    refine gm_80 X w d_M_versions_11 ?_
    rw [hv]
    refine V_icmp_ge (tgt := 41) X d_M_versions_14 (by decide) (fun c_14 => ?_) (fun c_14 => ?_)
    · exact absurd c_14 (nI_ge (by omega) (by omega))
    · refine il_2 X d_M_versions_17 ?_
      refine al_0 X d_M_versions_18 ?_
      refine gm_54 X w d_M_versions_19 ?_
      refine il_3 X d_M_versions_22 ?_
      refine am_i X w (k := 14) (by decide) rfl (show _ < 3000 by omega) (by decide) d_M_versions_23 ?_
      refine il_1 X d_M_versions_24 ?_
      refine V_icmp_ne (tgt := 32) X d_M_versions_25 (by decide) (fun c_25 => ?_) (fun c_25 => ?_)
      · have e : cntN (pKy ar key) (v + 1) = cntN (pKy ar key) v := by rw [cntN, pKy, decide_eq_false c_25]; rfl
        refine V_iconst (v := 0) X d_M_versions_32 (by decide) ?_
        refine V_iadd X d_M_versions_33 ?_
        rw [show nI (cntN (pKy ar key) v) + 0 = nI (cntN (pKy ar key) (v + 1)) by rw [e]; exact Int32.add_zero _]
        refine is_2 X d_M_versions_34 rfl (by first | exact okp_n | exact okp_i | exact okp_r) ?_
        refine ic_3 (v := (nI (v+1))) X d_M_versions_35 (nI_1 v) rfl (by first | exact okp_n | exact okp_i | exact okp_r) ?_
        refine V_goto (tgt := 9) X d_M_versions_38 (by decide) ?_
        exact ih (v + 1) (by omega)
      · have e : cntN (pKy ar key) (v + 1) = cntN (pKy ar key) v + 1 := by rw [cntN, pKy, decide_eq_true c_25]; rfl
        refine V_iconst (v := 1) X d_M_versions_28 (by decide) ?_
        refine V_goto (tgt := 33) X d_M_versions_29 (by decide) ?_
        refine V_iadd X d_M_versions_33 ?_
        rw [show nI (cntN (pKy ar key) v) + 1 = nI (cntN (pKy ar key) (v + 1)) by rw [e]; exact nI_1 _]
        refine is_2 X d_M_versions_34 rfl (by first | exact okp_n | exact okp_i | exact okp_r) ?_
        refine ic_3 (v := (nI (v+1))) X d_M_versions_35 (nI_1 v) rfl (by first | exact okp_n | exact okp_i | exact okp_r) ?_
        refine V_goto (tgt := 9) X d_M_versions_38 (by decide) ?_
        exact ih (v + 1) (by omega)
theorem c_M_versions (l : Launch) (g : GG) (N0 : Nat → Prop) (h : Mp) {m : Nat} {ad : Nat → Nat} {iv : MI} {ar : MA} {nv : Nat} (key : Int32) (hv : iv 4 = nI nv) (hv2 : nv ≤ 3000) (w : MW g m ad h iv ar) : Ct l y_M_versions b_M_versions 4 (some .int) 0 0 0 0 g N0 h [va_rf (some m), .int key] (pI (fun r h' => r = nI (cntN (pKy ar key) nv) ∧ MW g m ad h' (iU iv 0 0) ar)) nox := by
  refine Ct_of "SnapshotStoreModel" "versions" [some (va_rf (some m)), some (.int key), none, none] (by decide) rfl rfl (by simp [lg_sl, rf_cat, cat_i, cat_l]) (by simp [toL, lv_args, rf_cat, cat_i, cat_l]) (fun K hl X => ?_)
  refine al_0 X d_M_versions_0 ?_
  refine V_iconst (v := 0) X d_M_versions_1 (by decide) ?_
  refine pm_69 X w d_M_versions_2 (fun h w => ?_)
  refine V_iconst (v := 0) X d_M_versions_5 (by decide) ?_
  refine is_2 X d_M_versions_6 rfl (by first | exact okp_n | exact okp_i | exact okp_r) ?_
  refine V_iconst (v := 0) X d_M_versions_7 (by decide) ?_
  refine is_3 X d_M_versions_8 rfl (by first | exact okp_n | exact okp_i | exact okp_r) ?_
  exact w_M_versions X (by rw [iU_n _ _ (by decide)]; exact hv) hv2 w ⟨_, rfl, rfl, w⟩ nv 0 (by omega)
-- told
def tldC (n : Nat) (t what : Int32) : Int32 := if isTx n t then (if 0 ≤ what ∧ what ≤ 6 then 0 else 2) else 1
def bz (x : Int32) : Int32 := if x = 0 then 0 else 1
def tldM (ar : MA) (t c : Nat) (what : Int32) : Int32 := if what = 0 then ar 3 t else if what = 1 then bz (ar 0 t) else if what = 2 then ar 1 t else if what = 3 then ar 2 t else if what = 4 then nI (kOf ar t c) else if what = 5 then ar 9 t else bz (ar 4 t)
theorem c_M_told_no (l : Launch) (g : GG) (N0 : Nat → Prop) (h : Mp) {m : Nat} {ad : Nat → Nat} {iv : MI} {ar : MA} {n : Nat} (t what : Int32) (hn : iv 3 = nI n) (hb : tldC n t what ≠ 0) (w : MW g m ad h iv ar) : Ct l y_M_told b_M_told 3 (some .int) 2 47 0 0 g N0 h [va_rf (some m), .int t, .int what] (pI (fun r h' => MW g m ad h' (iU iv 0 (tldC n t what)) ar)) nox := by
  refine Ct_of "SnapshotStoreModel" "told" [some (va_rf (some m)), some (.int t), some (.int what)] (by decide) rfl rfl (by simp [lg_sl, rf_cat, cat_i, cat_l]) (by simp [toL, lv_args, rf_cat, cat_i, cat_l]) (fun K hl X => ?_)
  have fin : ∀ (h : Mp), MW g m ad h iv ar → V K g N0 3 (RQ K g N0 (pI (fun r h' => MW g m ad h' (iU iv 0 (tldC n t what)) ar)) nox 0 0) h 0 0 28 [some (va_rf (some m)), some (.int t), some (.int what)] [.int (tldC n t what), va_rf (some m)] := by
    intro h w
    refine pm_69 X w d_M_told_28 (fun h w => ?_)
    refine al_0 X d_M_told_31 ?_
    refine gm_69 X w d_M_told_32 ?_
    rw [iU_s]
    have hp : ¬ tldC n t what ≤ 0 := by
      simp only [tldC] at hb ⊢
      split at hb
      · split at hb
        · exact absurd rfl hb
        · rename_i e1 e2; rw [if_pos e1, if_neg e2]; decide
      · rename_i e1; rw [if_neg e1]; decide
    refine V_if_le (tgt := 40) X d_M_told_35 (by decide) (fun c_35 => ?_) (fun c_35 => ?_)
    · exact absurd c_35 hp
    · refine V_iconst (v := 0) X d_M_told_38 (by decide) ?_
      refine V_iret X rfl d_M_told_39 (by first | omega | decide | (dsimp only; first | done | omega)) (by first | omega | decide | (dsimp only; first | done | omega)) ?_
      exact ⟨_, rfl, w⟩
  refine al_0 X d_M_told_0 ?_
  refine al_0 X d_M_told_1 ?_
  refine il_1 X d_M_told_2 ?_
  refine cl_M_76 X (c_M_isTransaction _ g N0 h t hn w) w.1 d_M_told_3 (by refine ⟨?_, ?_⟩ <;> first | decide | (dsimp only; first | done | omega)) (by first | decide | (simp only [List.map, rf_cat, cat_i, cat_l, List.sum_cons, List.sum_nil]; first | done | decide | omega)) ⟨(by first | omega | decide | (dsimp only; first | done | omega)), (by first | omega | decide | (dsimp only; first | done | omega))⟩ (fun _ _ z => z.elim) ?_
  rintro r h ⟨rfl, rfl⟩
  refine V_if_ne (tgt := 13) X d_M_told_6 (by decide) (fun c_6 => ?_) (fun c_6 => ?_)
  · have e := b01_t c_6
    have two : ¬ (0 ≤ what ∧ what ≤ 6) → V K g N0 3 (RQ K g N0 (pI (fun r h' => MW g m ad h' (iU iv 0 (tldC n t what)) ar)) nox 0 0) h 0 0 23 [some (va_rf (some m)), some (.int t), some (.int what)] [va_rf (some m)] := by
      intro e2
      have f := fin h w
      rw [show tldC n t what = 2 by rw [tldC, if_pos e, if_neg e2]] at f ⊢
      refine V_iconst (v := 2) X d_M_told_23 (by decide) ?_
      refine V_goto (tgt := 28) X d_M_told_24 (by decide) ?_
      exact f
    refine il_2 X d_M_told_13 ?_
    refine V_if_lt (tgt := 23) X d_M_told_14 (by decide) (fun c_14 => ?_) (fun c_14 => ?_)
    · exact two (fun z => absurd c_14 (Int32.not_lt.mpr z.1))
    · refine il_2 X d_M_told_17 ?_
      refine V_bipush (v := 6) X d_M_told_18 (by decide) ?_
      refine V_icmp_le (tgt := 27) X d_M_told_20 (by decide) (fun c_20 => ?_) (fun c_20 => ?_)
      · exact absurd (by rw [tldC, if_pos e, if_pos ⟨Int32.not_lt.mp c_14, c_20⟩]) hb
      · exact two (fun z => c_20 z.2)
  · have f := fin h w
    rw [show tldC n t what = 1 by rw [tldC, if_neg (by rw [b01_f c_6]; decide)]] at f ⊢
    refine V_iconst (v := 1) X d_M_told_9 (by decide) ?_
    refine V_goto (tgt := 28) X d_M_told_10 (by decide) ?_
    exact f
theorem c_M_told (l : Launch) (g : GG) (N0 : Nat → Prop) (h : Mp) {m : Nat} {ad : Nat → Nat} {iv : MI} {ar : MA} {n nv : Nat} {wc rc pc : Nat → Nat} {t : Nat} (what : Int32) (b : MB iv ar n nv wc rc pc) (ht : t < n) (h1 : 0 ≤ what) (h2 : what ≤ 6) (w : MW g m ad h iv ar) : Ct l y_M_told b_M_told 3 (some .int) 2 47 0 0 g N0 h [va_rf (some m), .int (nI t), .int what] (pI (fun r h' => r = tldM ar t (wc t) what ∧ MW g m ad h' (iU iv 0 0) ar)) nox := by
  refine Ct_of "SnapshotStoreModel" "told" [some (va_rf (some m)), some (.int (nI t)), some (.int what)] (by decide) rfl rfl (by simp [lg_sl, rf_cat, cat_i, cat_l]) (by simp [toL, lv_args, rf_cat, cat_i, cat_l]) (fun K hl X => ?_)
  obtain ⟨b1, b2, b3, b4, b5, b6⟩ := b
  obtain ⟨⟨c1, c2⟩, ⟨d1, d2⟩, -⟩ := b6 t ht
  obtain ⟨j, hj, rfl⟩ := nI_of (Int32.not_lt.mpr h1)
  have hj6 : j ≤ 6 := (nI_leI (b := 6) hj (by decide)).mp h2
  refine al_0 X d_M_told_0 ?_
  refine al_0 X d_M_told_1 ?_
  refine il_1 X d_M_told_2 ?_
  refine cl_M_76 X (c_M_isTransaction _ g N0 h (nI t) b1 w) w.1 d_M_told_3 (by refine ⟨?_, ?_⟩ <;> first | decide | (dsimp only; first | done | omega)) (by first | decide | (simp only [List.map, rf_cat, cat_i, cat_l, List.sum_cons, List.sum_nil]; first | done | decide | omega)) ⟨(by first | omega | decide | (dsimp only; first | done | omega)), (by first | omega | decide | (dsimp only; first | done | omega))⟩ (fun _ _ z => z.elim) ?_
  rintro r h ⟨rfl, rfl⟩
  rw [isTx_i (by omega) ht]
  refine V_if_ne (tgt := 13) X d_M_told_6 (by decide) (fun c_6 => ?_) (fun c_6 => ?_)
  · refine il_2 X d_M_told_13 ?_
    refine V_if_lt (tgt := 23) X d_M_told_14 (by decide) (fun c_14 => ?_) (fun c_14 => ?_)
    · exact absurd h1 (Int32.not_le.mpr c_14)
    · refine il_2 X d_M_told_17 ?_
      refine V_bipush (v := 6) X d_M_told_18 (by decide) ?_
      refine V_icmp_le (tgt := 27) X d_M_told_20 (by decide) (fun c_20 => ?_) (fun c_20 => ?_)
      · refine V_iconst (v := 0) X d_M_told_27 (by decide) ?_
        refine pm_69 X w d_M_told_28 (fun h w => ?_)
        refine al_0 X d_M_told_31 ?_
        refine gm_69 X w d_M_told_32 ?_
        rw [iU_s]
        refine V_if_le (tgt := 40) X d_M_told_35 (by decide) (fun c_35 => ?_) (fun c_35 => ?_)
        · refine il_2 X d_M_told_40 ?_
          have cs : j = 0 ∨ j = 1 ∨ j = 2 ∨ j = 3 ∨ j = 4 ∨ j = 5 ∨ j = 6 := by omega
          rcases cs with rfl | rfl | rfl | rfl | rfl | rfl | rfl
          · refine V_tabIn (tgt := 80) X d_M_told_41 (by decide) (by decide) rfl (by decide) ?_
            refine al_0 X d_M_told_80 ?_
            refine gm_20 X w d_M_told_81 ?_
            refine il_1 X d_M_told_84 ?_
            refine am_i X w (k := 3) (by decide) rfl (show _ < 120 by omega) (by decide) d_M_told_85 ?_
            refine V_iret X rfl d_M_told_86 (by first | omega | decide | (dsimp only; first | done | omega)) (by first | omega | decide | (dsimp only; first | done | omega)) ?_
            exact ⟨_, rfl, rfl, w⟩
          · refine V_tabIn (tgt := 87) X d_M_told_41 (by decide) (by decide) rfl (by decide) ?_
            refine al_0 X d_M_told_87 ?_
            refine gm_7 X w d_M_told_88 ?_
            refine il_1 X d_M_told_91 ?_
            refine am_z X w (k := 0) (by decide) rfl (show _ < 120 by omega) (by decide) d_M_told_92 ?_
            refine V_if_eq (tgt := 100) X d_M_told_93 (by decide) (fun c_93 => ?_) (fun c_93 => ?_)
            · refine V_iconst (v := 0) X d_M_told_100 (by decide) ?_
              refine V_iret X rfl d_M_told_101 (by first | omega | decide | (dsimp only; first | done | omega)) (by first | omega | decide | (dsimp only; first | done | omega)) ?_
              exact ⟨_, rfl, (show (0 : Int32) = bz (ar 0 t) by rw [bz, if_pos c_93]), w⟩
            · refine V_iconst (v := 1) X d_M_told_96 (by decide) ?_
              refine V_goto (tgt := 101) X d_M_told_97 (by decide) ?_
              refine V_iret X rfl d_M_told_101 (by first | omega | decide | (dsimp only; first | done | omega)) (by first | omega | decide | (dsimp only; first | done | omega)) ?_
              exact ⟨_, rfl, (show (1 : Int32) = bz (ar 0 t) by rw [bz, if_neg c_93]), w⟩
          · refine V_tabIn (tgt := 102) X d_M_told_41 (by decide) (by decide) rfl (by decide) ?_
            refine al_0 X d_M_told_102 ?_
            refine gm_13 X w d_M_told_103 ?_
            refine il_1 X d_M_told_106 ?_
            refine am_i X w (k := 1) (by decide) rfl (show _ < 120 by omega) (by decide) d_M_told_107 ?_
            refine V_iret X rfl d_M_told_108 (by first | omega | decide | (dsimp only; first | done | omega)) (by first | omega | decide | (dsimp only; first | done | omega)) ?_
            exact ⟨_, rfl, rfl, w⟩
          · refine V_tabIn (tgt := 109) X d_M_told_41 (by decide) (by decide) rfl (by decide) ?_
            refine al_0 X d_M_told_109 ?_
            refine gm_17 X w d_M_told_110 ?_
            refine il_1 X d_M_told_113 ?_
            refine am_i X w (k := 2) (by decide) rfl (show _ < 120 by omega) (by decide) d_M_told_114 ?_
            refine V_iret X rfl d_M_told_115 (by first | omega | decide | (dsimp only; first | done | omega)) (by first | omega | decide | (dsimp only; first | done | omega)) ?_
            exact ⟨_, rfl, rfl, w⟩
          · refine V_tabIn (tgt := 116) X d_M_told_41 (by decide) (by decide) rfl (by decide) ?_
            refine al_0 X d_M_told_116 ?_
            refine il_1 X d_M_told_117 ?_
            refine cl_M_116 X (c_M_keysOf _ g N0 h (by omega) c1 c2 w) w.1 d_M_told_118 (by refine ⟨?_, ?_⟩ <;> first | decide | (dsimp only; first | done | omega)) (by first | decide | (simp only [List.map, rf_cat, cat_i, cat_l, List.sum_cons, List.sum_nil]; first | done | decide | omega)) ⟨(by first | omega | decide | (dsimp only; first | done | omega)), (by first | omega | decide | (dsimp only; first | done | omega))⟩ (fun _ _ z => z.elim) ?_
            rintro r h ⟨rfl, rfl⟩
            refine V_iret X rfl d_M_told_121 (by first | omega | decide | (dsimp only; first | done | omega)) (by first | omega | decide | (dsimp only; first | done | omega)) ?_
            exact ⟨_, rfl, rfl, w⟩
          · refine V_tabIn (tgt := 122) X d_M_told_41 (by decide) (by decide) rfl (by decide) ?_
            refine al_0 X d_M_told_122 ?_
            refine gm_39 X w d_M_told_123 ?_
            refine il_1 X d_M_told_126 ?_
            refine am_i X w (k := 9) (by decide) rfl (show _ < 120 by omega) (by decide) d_M_told_127 ?_
            refine V_iret X rfl d_M_told_128 (by first | omega | decide | (dsimp only; first | done | omega)) (by first | omega | decide | (dsimp only; first | done | omega)) ?_
            exact ⟨_, rfl, rfl, w⟩
          · refine V_tabOut (tgt := 129) X d_M_told_41 (Or.inr (by decide)) (by decide) ?_
            refine al_0 X d_M_told_129 ?_
            refine gm_23 X w d_M_told_130 ?_
            refine il_1 X d_M_told_133 ?_
            refine am_z X w (k := 4) (by decide) rfl (show _ < 120 by omega) (by decide) d_M_told_134 ?_
            refine V_if_eq (tgt := 142) X d_M_told_135 (by decide) (fun c_135 => ?_) (fun c_135 => ?_)
            · refine V_iconst (v := 0) X d_M_told_142 (by decide) ?_
              refine V_iret X rfl d_M_told_143 (by first | omega | decide | (dsimp only; first | done | omega)) (by first | omega | decide | (dsimp only; first | done | omega)) ?_
              exact ⟨_, rfl, (show (0 : Int32) = bz (ar 4 t) by rw [bz, if_pos c_135]), w⟩
            · refine V_iconst (v := 1) X d_M_told_138 (by decide) ?_
              refine V_goto (tgt := 143) X d_M_told_139 (by decide) ?_
              refine V_iret X rfl d_M_told_143 (by first | omega | decide | (dsimp only; first | done | omega)) (by first | omega | decide | (dsimp only; first | done | omega)) ?_
              exact ⟨_, rfl, (show (1 : Int32) = bz (ar 4 t) by rw [bz, if_neg c_135]), w⟩
        · exact absurd (by decide) c_35
      · exact absurd h2 c_20
  · exact absurd c_6 (by decide)
-- count
def pCk (ar : MA) (ck : Int32) (nv v : Nat) : Bool := decide (vAt ar nv (ar 14 v) ck = some v)
def pCv (ar : MA) (ck : Int32) (nv v : Nat) : Bool := pCk ar ck nv v && decide (ar 17 v = 0)
def pOp (ar : MA) (t : Nat) : Bool := decide (ar 3 t = 0)
def cntM (iv : MI) (ar : MA) (n nv : Nat) (what : Int32) : Int32 := if what = 0 then iv 1 else if what = 1 then iv 2 else if what = 2 then nI nv else if what = 3 then nI (cntN (pCk ar (iv 1) nv) nv) else if what = 4 then nI (cntN (pCv ar (iv 1) nv) nv) else if what = 5 then nI n else if what = 6 then nI (cntN (pOp ar) n) else -1
theorem w_M_count1 {K : Cx} {g : GG} {N0 : Nat → Prop} {Q : State → Prop} {h : Mp} {mc ms : Nat} (X : Fx K g N0 b_M_count 6 "SnapshotStoreModel" { frames := 1, cells := mc, slots := ms, locals := 25 } (some .int) "count" []) {m : Nat} {ad : Nat → Nat} {iv : MI} {ar : MA} {n nv : Nat} {what : Int32} (hv : iv 4 = nI nv) (hv2 : nv ≤ 3000) (hr : vrise ar nv) (w : MW g m ad h iv ar) : ∀ (k v : Nat) (z : Option Value), v + k = nv → (∀ z, V K g N0 6 Q  h 0 0 68 [some (va_rf (some m)), some (.int what), some (.int (nI (cntN (pCk ar (iv 1) nv) nv))), some (.int (nI (cntN (pCv ar (iv 1) nv) nv))), some (.int (nI nv)), z] []) → V K g N0 6 Q  h 0 0 12 [some (va_rf (some m)), some (.int what), some (.int (nI (cntN (pCk ar (iv 1) nv) v))), some (.int (nI (cntN (pCv ar (iv 1) nv) v))), some (.int (nI v)), z] [] := by
  intro k
  induction k with
  | zero =>
    intro v z hk hp
    have hk : v = nv := by omega
    subst hk
    refine il_4 X d_M_count_12 ?_
    refine al_0 X d_M_count_14 ?_
    refine gm_80 X w d_M_count_15 ?_
    rw [hv]
    refine V_icmp_ge (tgt := 68) X d_M_count_18 (by decide) (fun c_18 => ?_) (fun c_18 => ?_)
    · exact hp _
    · exact absurd (Int32.le_refl _) c_18
  | succ k ih =>
    intro v z hk hp
    refine il_4 X d_M_count_12 ?_
    refine al_0 X d_M_count_14 ?_
    refine gm_80 X w d_M_count_15 ?_
    rw [hv]
    refine V_icmp_ge (tgt := 68) X d_M_count_18 (by decide) (fun c_18 => ?_) (fun c_18 => ?_)
    · exact absurd c_18 (nI_ge (by omega) (by omega))
    · refine al_0 X d_M_count_21 ?_
      refine al_0 X d_M_count_22 ?_
      refine gm_54 X w d_M_count_23 ?_
      refine il_4 X d_M_count_26 ?_
      refine am_i X w (k := 14) (by decide) rfl (show _ < 3000 by omega) (by decide) d_M_count_28 ?_
      refine al_0 X d_M_count_29 ?_
      refine gm_106 X w d_M_count_30 ?_
      refine cl_M_83 X (c_M_versionAt _ g N0 h (ar 14 v) (iv 1) hv hv2 hr w) w.1 d_M_count_33 (by refine ⟨?_, ?_⟩ <;> first | decide | (dsimp only; first | done | omega)) (by first | decide | (simp only [List.map, rf_cat, cat_i, cat_l, List.sum_cons, List.sum_nil]; first | done | decide | omega)) ⟨(by first | omega | decide | (dsimp only; first | done | omega)), (by first | omega | decide | (dsimp only; first | done | omega))⟩ (fun _ _ z => z.elim) ?_
      rintro r h ⟨rfl, rfl⟩
      have q := ixI_eq (o := vAt ar nv (ar 14 v) (iv 1)) (v := v) (fun i hi => by have := (lix_lt hi).1; omega) (by omega)
      refine il_4 X d_M_count_36 ?_
      refine V_icmp_ne (tgt := 62) X d_M_count_38 (by decide) (fun c_38 => ?_) (fun c_38 => ?_)
      · have e0 : pCk ar (iv 1) nv v = false := decide_eq_false (fun z => c_38 (q.mpr z))
        have e1 : cntN (pCk ar (iv 1) nv) (v + 1) = cntN (pCk ar (iv 1) nv) v := by rw [cntN, e0]; rfl
        have e2 : cntN (pCv ar (iv 1) nv) (v + 1) = cntN (pCv ar (iv 1) nv) v := by rw [cntN, pCv, e0]; rfl
        refine ic_4 (v := (nI (v+1))) X d_M_count_62 (nI_1 v) rfl (by first | exact okp_n | exact okp_i | exact okp_r) ?_
        refine V_goto (tgt := 12) X d_M_count_65 (by decide) ?_
        have f := ih (v + 1) z (by omega) hp
        rw [e1, e2] at f
        exact f
      · have e0 : pCk ar (iv 1) nv v = true := decide_eq_true (q.mp c_38)
        have e1 : cntN (pCk ar (iv 1) nv) (v + 1) = cntN (pCk ar (iv 1) nv) v + 1 := by rw [cntN, e0]; rfl
        have e41 : nI (cntN (pCk ar (iv 1) nv) v) + Int32.ofInt 1 = nI (cntN (pCk ar (iv 1) nv) v + 1) := nI_1 _
        refine ic_2 (v := _) X d_M_count_41 e41 rfl (by first | exact okp_n | exact okp_i | exact okp_r) ?_
        refine il_3 X d_M_count_44 ?_
        refine al_0 X d_M_count_45 ?_
        refine gm_63 X w d_M_count_46 ?_
        refine il_4 X d_M_count_49 ?_
        refine am_z X w (k := 17) (by decide) rfl (show _ < 3000 by omega) (by decide) d_M_count_51 ?_
        have f := ih (v + 1) z (by omega) hp
        rw [e1] at f
        refine V_if_eq (tgt := 59) X d_M_count_52 (by decide) (fun c_52 => ?_) (fun c_52 => ?_)
        · have e2 : cntN (pCv ar (iv 1) nv) (v + 1) = cntN (pCv ar (iv 1) nv) v + 1 := by rw [cntN, pCv, e0, decide_eq_true c_52]; rfl
          refine V_iconst (v := 1) X d_M_count_59 (by decide) ?_
          refine V_iadd X d_M_count_60 ?_
          rw [nI_1]
          refine is_3 X d_M_count_61 rfl (by first | exact okp_n | exact okp_i | exact okp_r) ?_
          refine ic_4 (v := (nI (v+1))) X d_M_count_62 (nI_1 v) rfl (by first | exact okp_n | exact okp_i | exact okp_r) ?_
          refine V_goto (tgt := 12) X d_M_count_65 (by decide) ?_
          rw [e2] at f
          exact f
        · have e2 : cntN (pCv ar (iv 1) nv) (v + 1) = cntN (pCv ar (iv 1) nv) v := by rw [cntN, pCv, e0, decide_eq_false c_52]; rfl
          refine V_iconst (v := 0) X d_M_count_55 (by decide) ?_
          refine V_goto (tgt := 60) X d_M_count_56 (by decide) ?_
          refine V_iadd X d_M_count_60 ?_
          rw [Int32.add_zero]
          refine is_3 X d_M_count_61 rfl (by first | exact okp_n | exact okp_i | exact okp_r) ?_
          refine ic_4 (v := (nI (v+1))) X d_M_count_62 (nI_1 v) rfl (by first | exact okp_n | exact okp_i | exact okp_r) ?_
          refine V_goto (tgt := 12) X d_M_count_65 (by decide) ?_
          rw [e2] at f
          exact f
theorem w_M_count2 {K : Cx} {g : GG} {N0 : Nat → Prop} {Q : State → Prop} {h : Mp} {mc ms : Nat} (X : Fx K g N0 b_M_count 6 "SnapshotStoreModel" { frames := 1, cells := mc, slots := ms, locals := 25 } (some .int) "count" []) {m : Nat} {ad : Nat → Nat} {iv : MI} {ar : MA} {n : Nat} {what a1 a2 : Int32} (hn : iv 3 = nI n) (hn2 : n ≤ 120) (w : MW g m ad h iv ar) : ∀ (k t : Nat), t + k = n → (V K g N0 6 Q  h 0 0 109 [some (va_rf (some m)), some (.int what), some (.int a1), some (.int a2), some (.int (nI (cntN (pOp ar) n))), some (.int (nI n))] []) → V K g N0 6 Q  h 0 0 74 [some (va_rf (some m)), some (.int what), some (.int a1), some (.int a2), some (.int (nI (cntN (pOp ar) t))), some (.int (nI t))] [] := by
  intro k
  induction k with
  | zero =>
    intro t ht hp
    have ht : t = n := by omega
    subst ht
    refine il_5 X d_M_count_74 ?_
    refine al_0 X d_M_count_76 ?_
    refine gm_73 X w d_M_count_77 ?_
    rw [hn]
    refine V_icmp_ge (tgt := 109) X d_M_count_80 (by decide) (fun c_80 => ?_) (fun c_80 => ?_)
    · exact hp
    · exact absurd (Int32.le_refl _) c_80
  | succ k ih =>
    intro t ht hp
    refine il_5 X d_M_count_74 ?_
    refine al_0 X d_M_count_76 ?_
    refine gm_73 X w d_M_count_77 ?_
    rw [hn]
    refine V_icmp_ge (tgt := 109) X d_M_count_80 (by decide) (fun c_80 => ?_) (fun c_80 => ?_)
    · exact absurd c_80 (nI_ge (by omega) (by omega))
    · have f := ih (t + 1) (by omega) hp
      refine il_4 X d_M_count_83 ?_
      refine al_0 X d_M_count_85 ?_
      refine gm_20 X w d_M_count_86 ?_
      refine il_5 X d_M_count_89 ?_
      refine am_i X w (k := 3) (by decide) rfl (show _ < 120 by omega) (by decide) d_M_count_91 ?_
      refine V_if_ne (tgt := 99) X d_M_count_92 (by decide) (fun c_92 => ?_) (fun c_92 => ?_)
      · have e : cntN (pOp ar) (t + 1) = cntN (pOp ar) t := by rw [cntN, pOp, decide_eq_false c_92]; rfl
        refine V_iconst (v := 0) X d_M_count_99 (by decide) ?_
        refine V_iadd X d_M_count_100 ?_
        rw [Int32.add_zero]
        refine is_4 X d_M_count_101 rfl (by first | exact okp_n | exact okp_i | exact okp_r) ?_
        refine ic_5 (v := (nI (t+1))) X d_M_count_103 (nI_1 t) rfl (by first | exact okp_n | exact okp_i | exact okp_r) ?_
        refine V_goto (tgt := 74) X d_M_count_106 (by decide) ?_
        rw [e] at f
        exact f
      · have e : cntN (pOp ar) (t + 1) = cntN (pOp ar) t + 1 := by rw [cntN, pOp, decide_eq_true c_92]; rfl
        refine V_iconst (v := 1) X d_M_count_95 (by decide) ?_
        refine V_goto (tgt := 100) X d_M_count_96 (by decide) ?_
        refine V_iadd X d_M_count_100 ?_
        rw [nI_1]
        refine is_4 X d_M_count_101 rfl (by first | exact okp_n | exact okp_i | exact okp_r) ?_
        refine ic_5 (v := (nI (t+1))) X d_M_count_103 (nI_1 t) rfl (by first | exact okp_n | exact okp_i | exact okp_r) ?_
        refine V_goto (tgt := 74) X d_M_count_106 (by decide) ?_
        rw [e] at f
        exact f
theorem c_M_count (l : Launch) (g : GG) (N0 : Nat → Prop) (h : Mp) {m : Nat} {ad : Nat → Nat} {iv : MI} {ar : MA} {n nv : Nat} (what : Int32) (hn : iv 3 = nI n) (hn2 : n ≤ 120) (hv : iv 4 = nI nv) (hv2 : nv ≤ 3000) (hr : vrise ar nv) (w : MW g m ad h iv ar) : Ct l y_M_count b_M_count 6 (some .int) 1 25 0 0 g N0 h [va_rf (some m), .int what] (pI (fun r h' => r = cntM iv ar n nv what ∧ MW g m ad h' (iU iv 0 0) ar)) nox := by
  refine Ct_of "SnapshotStoreModel" "count" [some (va_rf (some m)), some (.int what), none, none, none, none] (by decide) rfl rfl (by simp [lg_sl, rf_cat, cat_i, cat_l]) (by simp [toL, lv_args, rf_cat, cat_i, cat_l]) (fun K hl X => ?_)
  refine al_0 X d_M_count_0 ?_
  refine V_iconst (v := 0) X d_M_count_1 (by decide) ?_
  refine pm_69 X w d_M_count_2 (fun h w => ?_)
  refine V_iconst (v := 0) X d_M_count_5 (by decide) ?_
  refine is_2 X d_M_count_6 rfl (by first | exact okp_n | exact okp_i | exact okp_r) ?_
  refine V_iconst (v := 0) X d_M_count_7 (by decide) ?_
  refine is_3 X d_M_count_8 rfl (by first | exact okp_n | exact okp_i | exact okp_r) ?_
  refine V_iconst (v := 0) X d_M_count_9 (by decide) ?_
  refine is_4 X d_M_count_10 rfl (by first | exact okp_n | exact okp_i | exact okp_r) ?_
  have i1 : iU iv 0 0 1 = iv 1 := iU_n _ _ (by decide)
  have i2 : iU iv 0 0 2 = iv 2 := iU_n _ _ (by decide)
  have i3 : iU iv 0 0 3 = iv 3 := iU_n _ _ (by decide)
  have i4 : iU iv 0 0 4 = iv 4 := iU_n _ _ (by decide)
  refine w_M_count1 (n := n) X (i4.trans hv) hv2 hr w nv 0 _ (by omega) (fun z => ?_)
  rw [i1]
  refine V_iconst (v := 0) X d_M_count_68 (by decide) ?_
  refine is_4 X d_M_count_69 rfl (by first | exact okp_n | exact okp_i | exact okp_r) ?_
  refine V_iconst (v := 0) X d_M_count_71 (by decide) ?_
  refine is_5 X d_M_count_72 rfl (by first | exact okp_n | exact okp_i | exact okp_r) ?_
  refine w_M_count2 X (i3.trans hn) hn2 w n 0 (by omega) ?_
  refine il_1 X d_M_count_109 ?_
  by_cases hw : 0 ≤ what ∧ what ≤ 6
  · obtain ⟨j, hj, rfl⟩ := nI_of (Int32.not_lt.mpr hw.1)
    have hj6 : j ≤ 6 := (nI_leI (b := 6) hj (by decide)).mp hw.2
    have cs : j = 0 ∨ j = 1 ∨ j = 2 ∨ j = 3 ∨ j = 4 ∨ j = 5 ∨ j = 6 := by omega
    rcases cs with rfl | rfl | rfl | rfl | rfl | rfl | rfl
    · refine V_tabIn (tgt := 152) X d_M_count_110 (by decide) (by decide) rfl (by decide) ?_
      refine al_0 X d_M_count_152 ?_
      refine gm_106 X w d_M_count_153 ?_
      rw [i1]
      refine V_iret X rfl d_M_count_156 (by first | omega | decide | (dsimp only; first | done | omega)) (by first | omega | decide | (dsimp only; first | done | omega)) ?_
      exact ⟨_, rfl, rfl, w⟩
    · refine V_tabIn (tgt := 157) X d_M_count_110 (by decide) (by decide) rfl (by decide) ?_
      refine al_0 X d_M_count_157 ?_
      refine gm_145 X w d_M_count_158 ?_
      rw [i2]
      refine V_iret X rfl d_M_count_161 (by first | omega | decide | (dsimp only; first | done | omega)) (by first | omega | decide | (dsimp only; first | done | omega)) ?_
      exact ⟨_, rfl, rfl, w⟩
    · refine V_tabIn (tgt := 162) X d_M_count_110 (by decide) (by decide) rfl (by decide) ?_
      refine al_0 X d_M_count_162 ?_
      refine gm_80 X w d_M_count_163 ?_
      rw [i4, hv]
      refine V_iret X rfl d_M_count_166 (by first | omega | decide | (dsimp only; first | done | omega)) (by first | omega | decide | (dsimp only; first | done | omega)) ?_
      exact ⟨_, rfl, rfl, w⟩
    · refine V_tabIn (tgt := 167) X d_M_count_110 (by decide) (by decide) rfl (by decide) ?_
      refine il_2 X d_M_count_167 ?_
      refine V_iret X rfl d_M_count_168 (by first | omega | decide | (dsimp only; first | done | omega)) (by first | omega | decide | (dsimp only; first | done | omega)) ?_
      exact ⟨_, rfl, rfl, w⟩
    · refine V_tabIn (tgt := 169) X d_M_count_110 (by decide) (by decide) rfl (by decide) ?_
      refine il_3 X d_M_count_169 ?_
      refine V_iret X rfl d_M_count_170 (by first | omega | decide | (dsimp only; first | done | omega)) (by first | omega | decide | (dsimp only; first | done | omega)) ?_
      exact ⟨_, rfl, rfl, w⟩
    · refine V_tabIn (tgt := 171) X d_M_count_110 (by decide) (by decide) rfl (by decide) ?_
      refine al_0 X d_M_count_171 ?_
      refine gm_73 X w d_M_count_172 ?_
      rw [i3, hn]
      refine V_iret X rfl d_M_count_175 (by first | omega | decide | (dsimp only; first | done | omega)) (by first | omega | decide | (dsimp only; first | done | omega)) ?_
      exact ⟨_, rfl, rfl, w⟩
    · refine V_tabIn (tgt := 176) X d_M_count_110 (by decide) (by decide) rfl (by decide) ?_
      refine il_4 X d_M_count_176 ?_
      refine V_iret X rfl d_M_count_178 (by first | omega | decide | (dsimp only; first | done | omega)) (by first | omega | decide | (dsimp only; first | done | omega)) ?_
      exact ⟨_, rfl, rfl, w⟩
  · have hne : ∀ j : Nat, j ≤ 6 → what ≠ nI j := fun j hj e => hw (by rw [e]; exact ⟨Int32.not_lt.mp (nI_pos (by omega)), nI_le (b := 6) (by omega) (by decide)⟩)
    have e : cntM iv ar n nv what = -1 := by
      rw [cntM, if_neg (show what ≠ 0 from hne 0 (by decide)), if_neg (show what ≠ 1 from hne 1 (by decide)), if_neg (show what ≠ 2 from hne 2 (by decide)), if_neg (show what ≠ 3 from hne 3 (by decide)), if_neg (show what ≠ 4 from hne 4 (by decide)), if_neg (show what ≠ 5 from hne 5 (by decide)), if_neg (show what ≠ 6 from hne 6 (by decide))]
    refine V_tabOut (tgt := 179) X d_M_count_110 (by
      rw [Int32.le_iff_toInt_le, Int32.le_iff_toInt_le] at hw
      have : (0 : Int32).toInt = 0 := rfl
      have : (6 : Int32).toInt = 6 := rfl
      omega) (by decide) ?_
    refine V_iconst (v := (-1)) X d_M_count_179 (by decide) ?_
    refine V_iret X rfl d_M_count_180 (by first | omega | decide | (dsimp only; first | done | omega)) (by first | omega | decide | (dsimp only; first | done | omega)) ?_
    exact ⟨_, rfl, e.symm, w⟩

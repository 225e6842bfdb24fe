-- the reference's face: save, back, commit
def ivOk (iv iv' : MI) (c : Int32) : Prop := iv' 0 = c ∧ ∀ i, 1 ≤ i → i ≤ 4 → iv' i = iv i
theorem ivOk_0 (iv : MI) (c : Int32) : ivOk iv (iU iv 0 c) c := ⟨iU_s _ _ _, fun i h1 _ => iU_n _ _ (by omega)⟩
theorem ivOk_00 (iv : MI) (d c : Int32) : ivOk iv (iU (iU iv 0 d) 0 c) c := ⟨iU_s _ _ _, fun i h1 _ => by rw [iU_n _ _ (by omega), iU_n _ _ (by omega)]⟩
theorem c_M_save_no (l : Launch) (g : GG) (N0 : Nat → Prop) (h : Mp) {m : Nat} {ad : Nat → Nat} {iv : MI} {ar : MA} {n : Nat} (t : Int32) (hn : iv 3 = nI n) (hn2 : n ≤ 120) (ho : opn n (ar 3) t ≠ 0) (w : MW g m ad h iv ar) : Ct l y_M_save b_M_save 2 (some .int) 2 42 0 0 g N0 h [va_rf (some m), .int t] (pI (fun r h' => MW g m ad h' (iU iv 0 (opn n (ar 3) t)) ar)) nox := by
  refine Ct_of "SnapshotStoreModel" "save" [some (va_rf (some m)), some (.int t)] (by decide) rfl rfl (by simp [lg_sl, rf_cat, cat_i, cat_l]) (by simp [toL, lv_args, rf_cat, cat_i, cat_l]) (fun K hl X => ?_)
  refine al_0 X d_M_save_0 ?_
  refine il_1 X d_M_save_1 ?_
  refine cl_M_109 X (c_M_isOpen _ g N0 h t hn hn2 w) w.1 d_M_save_2 (by refine ⟨?_, ?_⟩ <;> first | decide | (dsimp only; first | done | omega)) (by first | decide | (simp only [List.map, rf_cat, cat_i, cat_l, List.sum_cons, List.sum_nil]; first | done | decide | omega)) ⟨(by first | omega | decide | (dsimp only; first | done | omega)), (by first | omega | decide | (dsimp only; first | done | omega))⟩ (fun _ _ z => z.elim) ?_
  rintro r h ⟨rfl, w⟩
  rw [decide_eq_false ho]
  refine V_if_ne (tgt := 10) X d_M_save_5 (by decide) (fun c_5 => ?_) (fun c_5 => ?_)
  · exact absurd rfl c_5
  · refine V_iconst (v := 0) X d_M_save_8 (by decide) ?_
    refine V_iret X rfl d_M_save_9 (by first | omega | decide | (dsimp only; first | done | omega)) (by first | omega | decide | (dsimp only; first | done | omega)) ?_
    exact ⟨_, rfl, w⟩
theorem c_M_save_full (l : Launch) (g : GG) (N0 : Nat → Prop) (h : Mp) {m : Nat} {ad : Nat → Nat} {iv : MI} {ar : MA} {n nv : Nat} {wc rc pc : Nat → Nat} {t : Nat} (b : MB iv ar n nv wc rc pc) (ht : t < n) (h0 : ar 3 t = 0) (hp : pc t = 20) (w : MW g m ad h iv ar) : Ct l y_M_save b_M_save 2 (some .int) 2 42 0 0 g N0 h [va_rf (some m), .int (nI t)] (pI (fun r h' => ∃ iv', MW g m ad h' iv' ar ∧ ivOk iv iv' 2)) nox := by
  refine Ct_of "SnapshotStoreModel" "save" [some (va_rf (some m)), some (.int (nI t))] (by decide) rfl rfl (by simp [lg_sl, rf_cat, cat_i, cat_l]) (by simp [toL, lv_args, rf_cat, cat_i, cat_l]) (fun K hl X => ?_)
  obtain ⟨b1, b2, b3, b4, b5, b6⟩ := b
  obtain ⟨-, -, ⟨e1, e2⟩⟩ := b6 t ht
  refine al_0 X d_M_save_0 ?_
  refine il_1 X d_M_save_1 ?_
  refine cl_M_109 X (c_M_isOpen _ g N0 h (nI t) b1 b2 w) w.1 d_M_save_2 (by refine ⟨?_, ?_⟩ <;> first | decide | (dsimp only; first | done | omega)) (by first | decide | (simp only [List.map, rf_cat, cat_i, cat_l, List.sum_cons, List.sum_nil]; first | done | decide | omega)) ⟨(by first | omega | decide | (dsimp only; first | done | omega)), (by first | omega | decide | (dsimp only; first | done | omega))⟩ (fun _ _ z => z.elim) ?_
  rintro r h ⟨rfl, w⟩
  rw [opn_i b2 ht h0] at w ⊢
  refine V_if_ne (tgt := 10) X d_M_save_5 (by decide) (fun c_5 => ?_) (fun c_5 => ?_)
  · refine al_0 X d_M_save_10 ?_
    refine al_0 X d_M_save_11 ?_
    refine gm_39 X w d_M_save_12 ?_
    refine il_1 X d_M_save_15 ?_
    refine am_i X w (k := 9) (by decide) rfl (show _ < 120 by omega) (by decide) d_M_save_16 ?_
    refine V_bipush (v := 20) X d_M_save_17 (by decide) ?_
    rw [e1, hp]
    refine V_icmp_ne (tgt := 26) X d_M_save_19 (by decide) (fun c_19 => ?_) (fun c_19 => ?_)
    · exact absurd rfl c_19
    · refine V_iconst (v := 2) X d_M_save_22 (by decide) ?_
      refine V_goto (tgt := 27) X d_M_save_23 (by decide) ?_
      refine pm_69 X w d_M_save_27 (fun h w => ?_)
      refine al_0 X d_M_save_30 ?_
      refine gm_69 X w d_M_save_31 ?_
      rw [iU_s]
      refine V_if_le (tgt := 39) X d_M_save_34 (by decide) (fun c_34 => ?_) (fun c_34 => ?_)
      · exact absurd c_34 (by decide)
      · refine V_iconst (v := 0) X d_M_save_37 (by decide) ?_
        refine V_iret X rfl d_M_save_38 (by first | omega | decide | (dsimp only; first | done | omega)) (by first | omega | decide | (dsimp only; first | done | omega)) ?_
        exact ⟨_, rfl, _, w, ivOk_00 _ _ _⟩
  · exact absurd c_5 (by decide)
def mSave (ar : MA) (t p c : Nat) : MA := aU (aU ar 10 (upd (ar 10) (20 * t + p) (nI c))) 9 (upd (ar 9) t (nI (p + 1)))
theorem c_M_save (l : Launch) (g : GG) (N0 : Nat → Prop) (h : Mp) {m : Nat} {ad : Nat → Nat} {iv : MI} {ar : MA} {n nv : Nat} {wc rc pc : Nat → Nat} {t : Nat} (b : MB iv ar n nv wc rc pc) (ht : t < n) (h0 : ar 3 t = 0) (hp : pc t < 20) (w : MW g m ad h iv ar) : Ct l y_M_save b_M_save 2 (some .int) 2 42 0 0 g N0 h [va_rf (some m), .int (nI t)] (pI (fun r h' => r = nI (pc t) ∧ ∃ iv', MW g m ad h' iv' (mSave ar t (pc t) (wc t)) ∧ ivOk iv iv' 0)) nox := by
  refine Ct_of "SnapshotStoreModel" "save" [some (va_rf (some m)), some (.int (nI t))] (by decide) rfl rfl (by simp [lg_sl, rf_cat, cat_i, cat_l]) (by simp [toL, lv_args, rf_cat, cat_i, cat_l]) (fun K hl X => ?_)
  obtain ⟨b1, b2, b3, b4, b5, b6⟩ := b
  obtain ⟨⟨c1, c2⟩, -, ⟨e1, e2⟩⟩ := b6 t ht
  refine al_0 X d_M_save_0 ?_
  refine il_1 X d_M_save_1 ?_
  refine cl_M_109 X (c_M_isOpen _ g N0 h (nI t) b1 b2 w) w.1 d_M_save_2 (by refine ⟨?_, ?_⟩ <;> first | decide | (dsimp only; first | done | omega)) (by first | decide | (simp only [List.map, rf_cat, cat_i, cat_l, List.sum_cons, List.sum_nil]; first | done | decide | omega)) ⟨(by first | omega | decide | (dsimp only; first | done | omega)), (by first | omega | decide | (dsimp only; first | done | omega))⟩ (fun _ _ z => z.elim) ?_
  rintro r h ⟨rfl, w⟩
  rw [opn_i b2 ht h0] at w ⊢
  refine V_if_ne (tgt := 10) X d_M_save_5 (by decide) (fun c_5 => ?_) (fun c_5 => ?_)
  · refine al_0 X d_M_save_10 ?_
    refine al_0 X d_M_save_11 ?_
    refine gm_39 X w d_M_save_12 ?_
    refine il_1 X d_M_save_15 ?_
    refine am_i X w (k := 9) (by decide) rfl (show _ < 120 by omega) (by decide) d_M_save_16 ?_
    refine V_bipush (v := 20) X d_M_save_17 (by decide) ?_
    rw [e1]
    refine V_icmp_ne (tgt := 26) X d_M_save_19 (by decide) (fun c_19 => ?_) (fun c_19 => ?_)
    · refine V_iconst (v := 0) X d_M_save_26 (by decide) ?_
      refine pm_69 X w d_M_save_27 (fun h w => ?_)
      refine al_0 X d_M_save_30 ?_
      refine gm_69 X w d_M_save_31 ?_
      rw [iU_s]
      refine V_if_le (tgt := 39) X d_M_save_34 (by decide) (fun c_34 => ?_) (fun c_34 => ?_)
      · refine al_0 X d_M_save_39 ?_
        refine gm_42 X w d_M_save_40 ?_
        refine V_bipush (v := 20) X d_M_save_43 (by decide) ?_
        refine il_1 X d_M_save_45 ?_
        refine V_imul X d_M_save_46 ?_
        refine al_0 X d_M_save_47 ?_
        refine gm_39 X w d_M_save_48 ?_
        refine il_1 X d_M_save_51 ?_
        refine am_i X w (k := 9) (by decide) rfl (show _ < 120 by omega) (by decide) d_M_save_52 ?_
        rw [show (20 : Int32) = nI 20 from rfl, pk_mul, e1]
        refine V_iadd X d_M_save_53 ?_
        rw [nI_add]
        refine al_0 X d_M_save_54 ?_
        refine gm_26 X w d_M_save_55 ?_
        refine il_1 X d_M_save_58 ?_
        refine am_i X w (k := 5) (by decide) rfl (show _ < 120 by omega) (by decide) d_M_save_59 ?_
        rw [c1]
        refine sm_i X w (k := 10) (by decide) rfl (show _ < 2400 by omega) (by decide) d_M_save_60 (fun h w => ?_)
        refine al_0 X d_M_save_61 ?_
        refine gm_39 X w d_M_save_62 ?_
        refine il_1 X d_M_save_65 ?_
        refine V_dup2 X d_M_save_66 (by first | rfl | exact rf_cat _) (by first | rfl | exact rf_cat _) ?_
        refine am_i X w (k := 9) (by decide) rfl (show _ < 120 by omega) (by decide) d_M_save_67 ?_
        refine V_iconst (v := 1) X d_M_save_68 (by decide) ?_
        try simp (decide := true) only [aU_s, aU_n, iU_s, iU_n] at w ⊢
        rw [e1]
        refine V_iadd X d_M_save_69 ?_
        rw [nI_1]
        refine sm_i X w (k := 9) (by decide) rfl (show _ < 120 by omega) (by decide) d_M_save_70 (fun h w => ?_)
        refine al_0 X d_M_save_71 ?_
        refine gm_39 X w d_M_save_72 ?_
        refine il_1 X d_M_save_75 ?_
        refine am_i X w (k := 9) (by decide) rfl (show _ < 120 by omega) (by decide) d_M_save_76 ?_
        refine V_iconst (v := 1) X d_M_save_77 (by decide) ?_
        try simp (decide := true) only [aU_s, aU_n, iU_s, iU_n] at w ⊢
        rw [pk_us]
        refine V_isub X d_M_save_78 ?_
        rw [nI_pred]
        refine V_iret X rfl d_M_save_79 (by first | omega | decide | (dsimp only; first | done | omega)) (by first | omega | decide | (dsimp only; first | done | omega)) ?_
        exact ⟨_, rfl, rfl, _, w, ivOk_00 _ _ _⟩
      · exact absurd (Int32.le_refl _) c_34
    · exact absurd ((nI_eq (b := 20) (by omega) (by decide)).mp c_19) (by omega)
  · exact absurd c_5 (by decide)
-- back
theorem c_M_back_no (l : Launch) (g : GG) (N0 : Nat → Prop) (h : Mp) {m : Nat} {ad : Nat → Nat} {iv : MI} {ar : MA} {n : Nat} (t p : Int32) (hn : iv 3 = nI n) (hn2 : n ≤ 120) (ho : opn n (ar 3) t ≠ 0) (w : MW g m ad h iv ar) : Ct l y_M_back b_M_back 3 (some .int) 2 47 0 0 g N0 h [va_rf (some m), .int t, .int p] (pI (fun r h' => MW g m ad h' (iU iv 0 (opn n (ar 3) t)) ar)) nox := by
  refine Ct_of "SnapshotStoreModel" "back" [some (va_rf (some m)), some (.int t), some (.int p)] (by decide) rfl rfl (by simp [lg_sl, rf_cat, cat_i, cat_l]) (by simp [toL, lv_args, rf_cat, cat_i, cat_l]) (fun K hl X => ?_)
  refine al_0 X d_M_back_0 ?_
  refine il_1 X d_M_back_1 ?_
  refine cl_M_109 X (c_M_isOpen _ g N0 h t hn hn2 w) w.1 d_M_back_2 (by refine ⟨?_, ?_⟩ <;> first | decide | (dsimp only; first | done | omega)) (by first | decide | (simp only [List.map, rf_cat, cat_i, cat_l, List.sum_cons, List.sum_nil]; first | done | decide | omega)) ⟨(by first | omega | decide | (dsimp only; first | done | omega)), (by first | omega | decide | (dsimp only; first | done | omega))⟩ (fun _ _ z => z.elim) ?_
  rintro r h ⟨rfl, w⟩
  rw [decide_eq_false ho]
  refine V_if_ne (tgt := 10) X d_M_back_5 (by decide) (fun c_5 => ?_) (fun c_5 => ?_)
  · exact absurd rfl c_5
  · refine V_iconst (v := 0) X d_M_back_8 (by decide) ?_
    refine V_iret X rfl d_M_back_9 (by first | omega | decide | (dsimp only; first | done | omega)) (by first | omega | decide | (dsimp only; first | done | omega)) ?_
    exact ⟨_, rfl, w⟩
theorem c_M_back_none (l : Launch) (g : GG) (N0 : Nat → Prop) (h : Mp) {m : Nat} {ad : Nat → Nat} {iv : MI} {ar : MA} {n nv : Nat} {wc rc pc : Nat → Nat} {t : Nat} (p : Int32) (b : MB iv ar n nv wc rc pc) (ht : t < n) (h0 : ar 3 t = 0) (hp : ¬ ∃ q, q < pc t ∧ p = nI q) (w : MW g m ad h iv ar) : Ct l y_M_back b_M_back 3 (some .int) 2 47 0 0 g N0 h [va_rf (some m), .int (nI t), .int p] (pI (fun r h' => ∃ iv', MW g m ad h' iv' ar ∧ ivOk iv iv' 3)) nox := by
  refine Ct_of "SnapshotStoreModel" "back" [some (va_rf (some m)), some (.int (nI t)), some (.int p)] (by decide) rfl rfl (by simp [lg_sl, rf_cat, cat_i, cat_l]) (by simp [toL, lv_args, rf_cat, cat_i, cat_l]) (fun K hl X => ?_)
  obtain ⟨b1, b2, b3, b4, b5, b6⟩ := b
  obtain ⟨-, -, ⟨e1, e2⟩⟩ := b6 t ht
  have fin : ∀ h, MW g m ad h (iU iv 0 0) ar → V K g N0 3 (RQ K g N0 (pI (fun r h' => ∃ iv', MW g m ad h' iv' ar ∧ ivOk iv iv' 3)) nox 0 0) h 0 0 25 [some (va_rf (some m)), some (.int (nI t)), some (.int p)] [va_rf (some m)] := by
    intro h w
    refine V_iconst (v := 3) X d_M_back_25 (by decide) ?_
    refine V_goto (tgt := 30) X d_M_back_26 (by decide) ?_
    refine pm_69 X w d_M_back_30 (fun h w => ?_)
    refine al_0 X d_M_back_33 ?_
    refine gm_69 X w d_M_back_34 ?_
    rw [iU_s]
    refine V_if_le (tgt := 42) X d_M_back_37 (by decide) (fun c_37 => ?_) (fun c_37 => ?_)
    · exact absurd c_37 (by decide)
    · refine V_iconst (v := 0) X d_M_back_40 (by decide) ?_
      refine V_iret X rfl d_M_back_41 (by first | omega | decide | (dsimp only; first | done | omega)) (by first | omega | decide | (dsimp only; first | done | omega)) ?_
      exact ⟨_, rfl, _, w, ivOk_00 _ _ _⟩
  refine al_0 X d_M_back_0 ?_
  refine il_1 X d_M_back_1 ?_
  refine cl_M_109 X (c_M_isOpen _ g N0 h (nI t) b1 b2 w) w.1 d_M_back_2 (by refine ⟨?_, ?_⟩ <;> first | decide | (dsimp only; first | done | omega)) (by first | decide | (simp only [List.map, rf_cat, cat_i, cat_l, List.sum_cons, List.sum_nil]; first | done | decide | omega)) ⟨(by first | omega | decide | (dsimp only; first | done | omega)), (by first | omega | decide | (dsimp only; first | done | omega))⟩ (fun _ _ z => z.elim) ?_
  rintro r h ⟨rfl, w⟩
  rw [opn_i b2 ht h0] at w ⊢
  refine V_if_ne (tgt := 10) X d_M_back_5 (by decide) (fun c_5 => ?_) (fun c_5 => ?_)
  · refine al_0 X d_M_back_10 ?_
    refine il_2 X d_M_back_11 ?_
    refine V_if_lt (tgt := 25) X d_M_back_12 (by decide) (fun c_12 => ?_) (fun c_12 => ?_)
    · exact fin h w
    · obtain ⟨j, hj, rfl⟩ := nI_of c_12
      refine il_2 X d_M_back_15 ?_
      refine al_0 X d_M_back_16 ?_
      refine gm_39 X w d_M_back_17 ?_
      refine il_1 X d_M_back_20 ?_
      refine am_i X w (k := 9) (by decide) rfl (show _ < 120 by omega) (by decide) d_M_back_21 ?_
      rw [e1]
      refine V_icmp_lt (tgt := 29) X d_M_back_22 (by decide) (fun c_22 => ?_) (fun c_22 => ?_)
      · exact absurd ⟨j, (nI_ltI hj (by omega)).mp c_22, rfl⟩ hp
      · exact fin h w
  · exact absurd c_5 (by decide)
def mBack (ar : MA) (t p q : Nat) : MA := aU (aU ar 5 (upd (ar 5) t (nI q))) 9 (upd (ar 9) t (nI (p + 1)))
theorem c_M_back (l : Launch) (g : GG) (N0 : Nat → Prop) (h : Mp) {m : Nat} {ad : Nat → Nat} {iv : MI} {ar : MA} {n nv : Nat} {wc rc pc : Nat → Nat} {t p q : Nat} (b : MB iv ar n nv wc rc pc) (ht : t < n) (h0 : ar 3 t = 0) (hp : p < pc t) (hq : ar 10 (20 * t + p) = nI q) (hq2 : q < 600) (w : MW g m ad h iv ar) : Ct l y_M_back b_M_back 3 (some .int) 2 47 0 0 g N0 h [va_rf (some m), .int (nI t), .int (nI p)] (pI (fun r h' => r = nI (kOf ar t q) ∧ ∃ iv', MW g m ad h' iv' (mBack ar t p q) ∧ ivOk iv iv' 0)) nox := by
  refine Ct_of "SnapshotStoreModel" "back" [some (va_rf (some m)), some (.int (nI t)), some (.int (nI p))] (by decide) rfl rfl (by simp [lg_sl, rf_cat, cat_i, cat_l]) (by simp [toL, lv_args, rf_cat, cat_i, cat_l]) (fun K hl X => ?_)
  obtain ⟨b1, b2, b3, b4, b5, b6⟩ := b
  obtain ⟨⟨c1, c2⟩, -, ⟨e1, e2⟩⟩ := b6 t ht
  refine al_0 X d_M_back_0 ?_
  refine il_1 X d_M_back_1 ?_
  refine cl_M_109 X (c_M_isOpen _ g N0 h (nI t) b1 b2 w) w.1 d_M_back_2 (by refine ⟨?_, ?_⟩ <;> first | decide | (dsimp only; first | done | omega)) (by first | decide | (simp only [List.map, rf_cat, cat_i, cat_l, List.sum_cons, List.sum_nil]; first | done | decide | omega)) ⟨(by first | omega | decide | (dsimp only; first | done | omega)), (by first | omega | decide | (dsimp only; first | done | omega))⟩ (fun _ _ z => z.elim) ?_
  rintro r h ⟨rfl, w⟩
  rw [opn_i b2 ht h0] at w ⊢
  refine V_if_ne (tgt := 10) X d_M_back_5 (by decide) (fun c_5 => ?_) (fun c_5 => ?_)
  · refine al_0 X d_M_back_10 ?_
    refine il_2 X d_M_back_11 ?_
    refine V_if_lt (tgt := 25) X d_M_back_12 (by decide) (fun c_12 => ?_) (fun c_12 => ?_)
    · exact absurd c_12 (nI_pos (by omega))
    · refine il_2 X d_M_back_15 ?_
      refine al_0 X d_M_back_16 ?_
      refine gm_39 X w d_M_back_17 ?_
      refine il_1 X d_M_back_20 ?_
      refine am_i X w (k := 9) (by decide) rfl (show _ < 120 by omega) (by decide) d_M_back_21 ?_
      rw [e1]
      refine V_icmp_lt (tgt := 29) X d_M_back_22 (by decide) (fun c_22 => ?_) (fun c_22 => ?_)
      · refine V_iconst (v := 0) X d_M_back_29 (by decide) ?_
        refine pm_69 X w d_M_back_30 (fun h w => ?_)
        refine al_0 X d_M_back_33 ?_
        refine gm_69 X w d_M_back_34 ?_
        rw [iU_s]
        refine V_if_le (tgt := 42) X d_M_back_37 (by decide) (fun c_37 => ?_) (fun c_37 => ?_)
        · refine al_0 X d_M_back_42 ?_
          refine gm_26 X w d_M_back_43 ?_
          refine il_1 X d_M_back_46 ?_
          refine al_0 X d_M_back_47 ?_
          refine gm_42 X w d_M_back_48 ?_
          refine V_bipush (v := 20) X d_M_back_51 (by decide) ?_
          refine il_1 X d_M_back_53 ?_
          refine V_imul X d_M_back_54 ?_
          rw [show (20 : Int32) = nI 20 from rfl, pk_mul]
          refine il_2 X d_M_back_55 ?_
          refine V_iadd X d_M_back_56 ?_
          rw [nI_add]
          refine am_i X w (k := 10) (by decide) rfl (show _ < 2400 by omega) (by decide) d_M_back_57 ?_
          rw [hq]
          refine sm_i X w (k := 5) (by decide) rfl (show _ < 120 by omega) (by decide) d_M_back_58 (fun h w => ?_)
          refine al_0 X d_M_back_59 ?_
          refine gm_39 X w d_M_back_60 ?_
          refine il_1 X d_M_back_63 ?_
          refine il_2 X d_M_back_64 ?_
          refine V_iconst (v := 1) X d_M_back_65 (by decide) ?_
          refine V_iadd X d_M_back_66 ?_
          try simp (decide := true) only [aU_s, aU_n, iU_s, iU_n] at w
          rw [nI_1]
          refine sm_i X w (k := 9) (by decide) rfl (show _ < 120 by omega) (by decide) d_M_back_67 (fun h w => ?_)
          refine al_0 X d_M_back_68 ?_
          refine il_1 X d_M_back_69 ?_
          try simp (decide := true) only [aU_s, aU_n, iU_s, iU_n] at w
          have hk : kOf (mBack ar t p q) t q = kOf ar t q := rfl
          refine cl_M_116 X (c_M_keysOf _ g N0 h (c := q) (by omega) (by rw [aU_n _ _ (by decide), aU_s]; exact pk_us) hq2 w) w.1 d_M_back_70 (by refine ⟨?_, ?_⟩ <;> first | decide | (dsimp only; first | done | omega)) (by first | decide | (simp only [List.map, rf_cat, cat_i, cat_l, List.sum_cons, List.sum_nil]; first | done | decide | omega)) ⟨(by first | omega | decide | (dsimp only; first | done | omega)), (by first | omega | decide | (dsimp only; first | done | omega))⟩ (fun _ _ z => z.elim) ?_
          rintro r h ⟨rfl, rfl⟩
          refine V_iret X rfl d_M_back_73 (by first | omega | decide | (dsimp only; first | done | omega)) (by first | omega | decide | (dsimp only; first | done | omega)) ?_
          exact ⟨_, rfl, congrArg nI hk, _, w, ivOk_00 _ _ _⟩
        · exact absurd (Int32.le_refl _) c_37
      · exact absurd (nI_lt hp (by omega)) c_22
  · exact absurd c_5 (by decide)
-- isUnsafe
def cU (ar : MA) (t u : Nat) : Bool := !decide (u = t) && !decide (ar 0 u = 0)
def behU (ar : MA) (wc rc : Nat → Nat) (t u : Nat) : Bool := later ar u (ar 1 t) && hrM ar t (rc t) u (wc u)
def aftU (ar : MA) (wc rc : Nat → Nat) (t u : Nat) : Bool := cU ar t u && behU ar wc rc t u
def badU (ar : MA) (wc rc : Nat → Nat) (t u : Nat) : Bool := cU ar t u && (behU ar wc rc t u && !decide (ar 4 u = 0))
def befU (ar : MA) (wc rc : Nat → Nat) (t u : Nat) : Bool := cU ar t u && ((decide (ar 3 u = 0) || later ar u (ar 1 t)) && hrM ar u (rc u) t (wc t))
theorem w_M_isUnsafe {K : Cx} {g : GG} {N0 : Nat → Prop} {Q : State → Prop} {h : Mp} {mc ms : Nat} (X : Fx K g N0 b_M_isUnsafe 7 "SnapshotStoreModel" { frames := 1, cells := mc, slots := ms, locals := 25 } (some .boolean) "isUnsafe" []) {m : Nat} {ad : Nat → Nat} {iv : MI} {ar : MA} {n nv : Nat} {wc rc pc : Nat → Nat} {t : Nat} (b : MB iv ar n nv wc rc pc) (ht : t < n) (w : MW g m ad h iv ar) : ∀ (k u : Nat) (z : Option Value), okp z → u + k = n → (∀ z, V K g N0 7 Q  h 0 0 160 [some (va_rf (some m)), some (.int (nI t)), some (.int (b01 (anyN (aftU ar wc rc t) n))), some (.int (b01 (anyN (befU ar wc rc t) n))), some (.int (b01 (anyN (badU ar wc rc t) n))), some (.int (nI n)), z] []) → V K g N0 7 Q  h 0 0 10 [some (va_rf (some m)), some (.int (nI t)), some (.int (b01 (anyN (aftU ar wc rc t) u))), some (.int (b01 (anyN (befU ar wc rc t) u))), some (.int (b01 (anyN (badU ar wc rc t) u))), some (.int (nI u)), z] [] := by
  obtain ⟨b1, b2, b3, b4, b5, b6⟩ := b
  intro k
  induction k with
  | zero =>
    intro u z hz hu hp
    have hu : u = n := by omega
    subst hu
    refine il_5 X d_M_isUnsafe_10 ?_
    refine al_0 X d_M_isUnsafe_12 ?_
    refine gm_73 X w d_M_isUnsafe_13 ?_
    rw [b1]
    refine V_icmp_ge (tgt := 160) X d_M_isUnsafe_16 (by decide) (fun c_16 => ?_) (fun c_16 => ?_)
    · exact hp z
    · exact absurd (Int32.le_refl _) c_16
  | succ k ih =>
    intro u z hz hu hp
    obtain ⟨⟨c1, c2⟩, ⟨d1, d2⟩, -⟩ := b6 t ht
    obtain ⟨⟨f1, f2⟩, ⟨g1, g2⟩, -⟩ := b6 u (by omega)
    have ea : anyN (aftU ar wc rc t) (u + 1) = (anyN (aftU ar wc rc t) u || aftU ar wc rc t u) := rfl
    have eb : anyN (befU ar wc rc t) (u + 1) = (anyN (befU ar wc rc t) u || befU ar wc rc t u) := rfl
    have ed : anyN (badU ar wc rc t) (u + 1) = (anyN (badU ar wc rc t) u || badU ar wc rc t u) := rfl
    have skip : ∀ z, okp z → V K g N0 7 Q h 0 0 154 [some (va_rf (some m)), some (.int (nI t)), some (.int (b01 (anyN (aftU ar wc rc t) (u + 1)))), some (.int (b01 (anyN (befU ar wc rc t) (u + 1)))), some (.int (b01 (anyN (badU ar wc rc t) (u + 1)))), some (.int (nI u)), z] [] := by
      intro z hz
      refine ic_5 (v := (nI (u+1))) X d_M_isUnsafe_154 (nI_1 u) rfl (by first | exact okp_n | exact okp_i | exact okp_r) ?_
      refine V_goto (tgt := 10) X d_M_isUnsafe_157 (by decide) ?_
      exact ih (u + 1) z hz (by omega) hp
    have out : cU ar t u = false → V K g N0 7 Q h 0 0 154 [some (va_rf (some m)), some (.int (nI t)), some (.int (b01 (anyN (aftU ar wc rc t) u))), some (.int (b01 (anyN (befU ar wc rc t) u))), some (.int (b01 (anyN (badU ar wc rc t) u))), some (.int (nI u)), z] [] := by
      intro e
      have s0 := skip z hz
      rw [ea, eb, ed, aftU, befU, badU, e, Bool.false_and, Bool.false_and, Bool.false_and, Bool.or_false, Bool.or_false, Bool.or_false] at s0
      exact s0
    refine il_5 X d_M_isUnsafe_10 ?_
    refine al_0 X d_M_isUnsafe_12 ?_
    refine gm_73 X w d_M_isUnsafe_13 ?_
    rw [b1]
    refine V_icmp_ge (tgt := 160) X d_M_isUnsafe_16 (by decide) (fun c_16 => ?_) (fun c_16 => ?_)
    · exact absurd c_16 (nI_ge (by omega) (by omega))
    · refine il_5 X d_M_isUnsafe_19 ?_
      refine il_1 X d_M_isUnsafe_21 ?_
      refine V_icmp_eq (tgt := 154) X d_M_isUnsafe_22 (by decide) (fun c_22 => ?_) (fun c_22 => ?_)
      · have e : u = t := (nI_eq (by omega) (by omega)).mp c_22
        exact out (by simp [cU, e])
      · have hut : ¬ u = t := fun e => c_22 (by rw [e])
        refine al_0 X d_M_isUnsafe_25 ?_
        refine gm_7 X w d_M_isUnsafe_26 ?_
        refine il_5 X d_M_isUnsafe_29 ?_
        refine am_z X w (k := 0) (by decide) rfl (show _ < 120 by omega) (by decide) d_M_isUnsafe_31 ?_
        refine V_if_eq (tgt := 154) X d_M_isUnsafe_32 (by decide) (fun c_32 => ?_) (fun c_32 => ?_)
        · exact out (by simp [cU, c_32])
        · have ec : cU ar t u = true := by simp [cU, hut, c_32]
          rw [ea, eb, ed, aftU, befU, badU, ec, Bool.true_and, Bool.true_and, Bool.true_and] at skip
          -- 153: before
          have p153 : ∀ x : Bool, x = (anyN (befU ar wc rc t) u || (decide (ar 3 u = 0) || later ar u (ar 1 t)) && hrM ar u (rc u) t (wc t)) → V K g N0 7 Q h 0 0 153 [some (va_rf (some m)), some (.int (nI t)), some (.int (b01 (anyN (aftU ar wc rc t) u || behU ar wc rc t u))), some (.int (b01 (anyN (befU ar wc rc t) u))), some (.int (b01 (anyN (badU ar wc rc t) u || behU ar wc rc t u && !decide (ar 4 u = 0)))), some (.int (nI u)), some (.int (b01 (behU ar wc rc t u)))] [.int (b01 x)] := by
            intro x hx
            subst hx
            refine is_3 X d_M_isUnsafe_153 rfl (by first | exact okp_n | exact okp_i | exact okp_r) ?_
            exact skip _ okp_i
          have y148 : (anyN (befU ar wc rc t) u || (decide (ar 3 u = 0) || later ar u (ar 1 t)) && hrM ar u (rc u) t (wc t)) = true → V K g N0 7 Q h 0 0 148 [some (va_rf (some m)), some (.int (nI t)), some (.int (b01 (anyN (aftU ar wc rc t) u || behU ar wc rc t u))), some (.int (b01 (anyN (befU ar wc rc t) u))), some (.int (b01 (anyN (badU ar wc rc t) u || behU ar wc rc t u && !decide (ar 4 u = 0)))), some (.int (nI u)), some (.int (b01 (behU ar wc rc t u)))] [] := by
            intro e
            have q := p153 true e.symm
            refine V_iconst (v := 1) X d_M_isUnsafe_148 (by decide) ?_
            refine V_goto (tgt := 153) X d_M_isUnsafe_149 (by decide) ?_
            exact q
          have n152 : (anyN (befU ar wc rc t) u || (decide (ar 3 u = 0) || later ar u (ar 1 t)) && hrM ar u (rc u) t (wc t)) = false → V K g N0 7 Q h 0 0 152 [some (va_rf (some m)), some (.int (nI t)), some (.int (b01 (anyN (aftU ar wc rc t) u || behU ar wc rc t u))), some (.int (b01 (anyN (befU ar wc rc t) u))), some (.int (b01 (anyN (badU ar wc rc t) u || behU ar wc rc t u && !decide (ar 4 u = 0)))), some (.int (nI u)), some (.int (b01 (behU ar wc rc t u)))] [] := by
            intro e
            have q := p153 false e.symm
            refine V_iconst (v := 0) X d_M_isUnsafe_152 (by decide) ?_
            exact q
          have p109 : V K g N0 7 Q h 0 0 109 [some (va_rf (some m)), some (.int (nI t)), some (.int (b01 (anyN (aftU ar wc rc t) u || behU ar wc rc t u))), some (.int (b01 (anyN (befU ar wc rc t) u))), some (.int (b01 (anyN (badU ar wc rc t) u || behU ar wc rc t u && !decide (ar 4 u = 0)))), some (.int (nI u)), some (.int (b01 (behU ar wc rc t u)))] [] := by
            have p138 : anyN (befU ar wc rc t) u = false → (decide (ar 3 u = 0) || later ar u (ar 1 t)) = true → V K g N0 7 Q h 0 0 138 [some (va_rf (some m)), some (.int (nI t)), some (.int (b01 (anyN (aftU ar wc rc t) u || behU ar wc rc t u))), some (.int (b01 (anyN (befU ar wc rc t) u))), some (.int (b01 (anyN (badU ar wc rc t) u || behU ar wc rc t u && !decide (ar 4 u = 0)))), some (.int (nI u)), some (.int (b01 (behU ar wc rc t u)))] [] := by
              intro e0 e1
              refine al_0 X d_M_isUnsafe_138 ?_
              refine il_5 X d_M_isUnsafe_139 ?_
              refine il_1 X d_M_isUnsafe_141 ?_
              refine cl_M_133 X (c_M_hasRead _ g N0 h (rd := u) (wr := t) (by omega) (by omega) g1 g2 c1 c2 w) w.1 d_M_isUnsafe_142 (by refine ⟨?_, ?_⟩ <;> first | decide | (dsimp only; first | done | omega)) (by first | decide | (simp only [List.map, rf_cat, cat_i, cat_l, List.sum_cons, List.sum_nil]; first | done | decide | omega)) ⟨(by first | omega | decide | (dsimp only; first | done | omega)), (by first | omega | decide | (dsimp only; first | done | omega))⟩ (fun _ _ z => z.elim) ?_
              rintro r h ⟨rfl, rfl⟩
              refine V_if_eq (tgt := 152) X d_M_isUnsafe_145 (by decide) (fun c_145 => ?_) (fun c_145 => ?_)
              · exact n152 (by rw [e0, e1, b01_f c_145]; rfl)
              · exact y148 (by rw [e0, e1, b01_t c_145]; rfl)
            refine il_3 X d_M_isUnsafe_109 ?_
            refine V_if_ne (tgt := 148) X d_M_isUnsafe_110 (by decide) (fun c_110 => ?_) (fun c_110 => ?_)
            · exact y148 (by rw [b01_t c_110, Bool.true_or])
            · have e0 := b01_f c_110
              refine al_0 X d_M_isUnsafe_113 ?_
              refine gm_20 X w d_M_isUnsafe_114 ?_
              refine il_5 X d_M_isUnsafe_117 ?_
              refine am_i X w (k := 3) (by decide) rfl (show _ < 120 by omega) (by decide) d_M_isUnsafe_119 ?_
              refine V_if_eq (tgt := 138) X d_M_isUnsafe_120 (by decide) (fun c_120 => ?_) (fun c_120 => ?_)
              · exact p138 e0 (by rw [decide_eq_true c_120, Bool.true_or])
              · refine al_0 X d_M_isUnsafe_123 ?_
                refine il_5 X d_M_isUnsafe_124 ?_
                refine al_0 X d_M_isUnsafe_126 ?_
                refine gm_13 X w d_M_isUnsafe_127 ?_
                refine il_1 X d_M_isUnsafe_130 ?_
                refine am_i X w (k := 1) (by decide) rfl (show _ < 120 by omega) (by decide) d_M_isUnsafe_131 ?_
                refine cl_M_129 X (c_M_isLater _ g N0 h (ar 1 t) (t := u) (by omega) w) w.1 d_M_isUnsafe_132 (by refine ⟨?_, ?_⟩ <;> first | decide | (dsimp only; first | done | omega)) (by first | decide | (simp only [List.map, rf_cat, cat_i, cat_l, List.sum_cons, List.sum_nil]; first | done | decide | omega)) ⟨(by first | omega | decide | (dsimp only; first | done | omega)), (by first | omega | decide | (dsimp only; first | done | omega))⟩ (fun _ _ z => z.elim) ?_
                rintro r h ⟨rfl, rfl⟩
                refine V_if_eq (tgt := 152) X d_M_isUnsafe_135 (by decide) (fun c_135 => ?_) (fun c_135 => ?_)
                · exact n152 (by rw [e0, b01_f c_135, decide_eq_false c_120]; rfl)
                · exact p138 e0 (by rw [b01_t c_135, Bool.or_true])
          have p107 : ∀ x : Bool, x = (anyN (badU ar wc rc t) u || behU ar wc rc t u && !decide (ar 4 u = 0)) → V K g N0 7 Q h 0 0 107 [some (va_rf (some m)), some (.int (nI t)), some (.int (b01 (anyN (aftU ar wc rc t) u || behU ar wc rc t u))), some (.int (b01 (anyN (befU ar wc rc t) u))), some (.int (b01 (anyN (badU ar wc rc t) u))), some (.int (nI u)), some (.int (b01 (behU ar wc rc t u)))] [.int (b01 x)] := by
            intro x hx
            subst hx
            refine is_4 X d_M_isUnsafe_107 rfl (by first | exact okp_n | exact okp_i | exact okp_r) ?_
            exact p109
          have p82 : V K g N0 7 Q h 0 0 82 [some (va_rf (some m)), some (.int (nI t)), some (.int (b01 (anyN (aftU ar wc rc t) u || behU ar wc rc t u))), some (.int (b01 (anyN (befU ar wc rc t) u))), some (.int (b01 (anyN (badU ar wc rc t) u))), some (.int (nI u)), some (.int (b01 (behU ar wc rc t u)))] [] := by
            have y102 : (anyN (badU ar wc rc t) u || behU ar wc rc t u && !decide (ar 4 u = 0)) = true → V K g N0 7 Q h 0 0 102 [some (va_rf (some m)), some (.int (nI t)), some (.int (b01 (anyN (aftU ar wc rc t) u || behU ar wc rc t u))), some (.int (b01 (anyN (befU ar wc rc t) u))), some (.int (b01 (anyN (badU ar wc rc t) u))), some (.int (nI u)), some (.int (b01 (behU ar wc rc t u)))] [] := by
              intro e
              have q := p107 true e.symm
              refine V_iconst (v := 1) X d_M_isUnsafe_102 (by decide) ?_
              refine V_goto (tgt := 107) X d_M_isUnsafe_103 (by decide) ?_
              exact q
            have n106 : (anyN (badU ar wc rc t) u || behU ar wc rc t u && !decide (ar 4 u = 0)) = false → V K g N0 7 Q h 0 0 106 [some (va_rf (some m)), some (.int (nI t)), some (.int (b01 (anyN (aftU ar wc rc t) u || behU ar wc rc t u))), some (.int (b01 (anyN (befU ar wc rc t) u))), some (.int (b01 (anyN (badU ar wc rc t) u))), some (.int (nI u)), some (.int (b01 (behU ar wc rc t u)))] [] := by
              intro e
              have q := p107 false e.symm
              refine V_iconst (v := 0) X d_M_isUnsafe_106 (by decide) ?_
              exact q
            refine il_4 X d_M_isUnsafe_82 ?_
            refine V_if_ne (tgt := 102) X d_M_isUnsafe_84 (by decide) (fun c_84 => ?_) (fun c_84 => ?_)
            · exact y102 (by rw [b01_t c_84, Bool.true_or])
            · have e0 := b01_f c_84
              refine il_6 X d_M_isUnsafe_87 ?_
              refine V_if_eq (tgt := 106) X d_M_isUnsafe_89 (by decide) (fun c_89 => ?_) (fun c_89 => ?_)
              · exact n106 (by rw [e0, b01_f c_89]; rfl)
              · have e1 := b01_t c_89
                refine al_0 X d_M_isUnsafe_92 ?_
                refine gm_23 X w d_M_isUnsafe_93 ?_
                refine il_5 X d_M_isUnsafe_96 ?_
                refine am_z X w (k := 4) (by decide) rfl (show _ < 120 by omega) (by decide) d_M_isUnsafe_98 ?_
                refine V_if_eq (tgt := 106) X d_M_isUnsafe_99 (by decide) (fun c_99 => ?_) (fun c_99 => ?_)
                · exact n106 (by rw [e0, e1, decide_eq_true c_99]; rfl)
                · exact y102 (by rw [e1, decide_eq_false c_99, Bool.not_false, Bool.and_true, Bool.or_true])
          have p81 : ∀ x : Bool, x = (anyN (aftU ar wc rc t) u || behU ar wc rc t u) → V K g N0 7 Q h 0 0 81 [some (va_rf (some m)), some (.int (nI t)), some (.int (b01 (anyN (aftU ar wc rc t) u))), some (.int (b01 (anyN (befU ar wc rc t) u))), some (.int (b01 (anyN (badU ar wc rc t) u))), some (.int (nI u)), some (.int (b01 (behU ar wc rc t u)))] [.int (b01 x)] := by
            intro x hx
            subst hx
            refine is_2 X d_M_isUnsafe_81 rfl (by first | exact okp_n | exact okp_i | exact okp_r) ?_
            exact p82
          have p65 : ∀ x : Bool, x = behU ar wc rc t u → V K g N0 7 Q h 0 0 65 [some (va_rf (some m)), some (.int (nI t)), some (.int (b01 (anyN (aftU ar wc rc t) u))), some (.int (b01 (anyN (befU ar wc rc t) u))), some (.int (b01 (anyN (badU ar wc rc t) u))), some (.int (nI u)), z] [.int (b01 x)] := by
            intro x hx
            subst hx
            refine is_6 X d_M_isUnsafe_65 rfl (by first | exact okp_n | exact okp_i | exact okp_r) ?_
            refine il_2 X d_M_isUnsafe_67 ?_
            refine V_if_ne (tgt := 76) X d_M_isUnsafe_68 (by decide) (fun c_68 => ?_) (fun c_68 => ?_)
            · have q := p81 true (by rw [b01_t c_68, Bool.true_or])
              refine V_iconst (v := 1) X d_M_isUnsafe_76 (by decide) ?_
              refine V_goto (tgt := 81) X d_M_isUnsafe_77 (by decide) ?_
              exact q
            · have e0 := b01_f c_68
              refine il_6 X d_M_isUnsafe_71 ?_
              refine V_if_eq (tgt := 80) X d_M_isUnsafe_73 (by decide) (fun c_73 => ?_) (fun c_73 => ?_)
              · have q := p81 false (by rw [e0, b01_f c_73]; rfl)
                refine V_iconst (v := 0) X d_M_isUnsafe_80 (by decide) ?_
                exact q
              · have q := p81 true (by rw [b01_t c_73, Bool.or_true])
                refine V_iconst (v := 1) X d_M_isUnsafe_76 (by decide) ?_
                refine V_goto (tgt := 81) X d_M_isUnsafe_77 (by decide) ?_
                exact q
          refine al_0 X d_M_isUnsafe_35 ?_
          refine il_5 X d_M_isUnsafe_36 ?_
          refine al_0 X d_M_isUnsafe_38 ?_
          refine gm_13 X w d_M_isUnsafe_39 ?_
          refine il_1 X d_M_isUnsafe_42 ?_
          refine am_i X w (k := 1) (by decide) rfl (show _ < 120 by omega) (by decide) d_M_isUnsafe_43 ?_
          refine cl_M_129 X (c_M_isLater _ g N0 h (ar 1 t) (t := u) (by omega) w) w.1 d_M_isUnsafe_44 (by refine ⟨?_, ?_⟩ <;> first | decide | (dsimp only; first | done | omega)) (by first | decide | (simp only [List.map, rf_cat, cat_i, cat_l, List.sum_cons, List.sum_nil]; first | done | decide | omega)) ⟨(by first | omega | decide | (dsimp only; first | done | omega)), (by first | omega | decide | (dsimp only; first | done | omega))⟩ (fun _ _ z => z.elim) ?_
          rintro r h ⟨rfl, rfl⟩
          refine V_if_eq (tgt := 64) X d_M_isUnsafe_47 (by decide) (fun c_47 => ?_) (fun c_47 => ?_)
          · have q := p65 false (by rw [behU, b01_f c_47]; rfl)
            refine V_iconst (v := 0) X d_M_isUnsafe_64 (by decide) ?_
            exact q
          · refine al_0 X d_M_isUnsafe_50 ?_
            refine il_1 X d_M_isUnsafe_51 ?_
            refine il_5 X d_M_isUnsafe_52 ?_
            refine cl_M_133 X (c_M_hasRead _ g N0 h (rd := t) (wr := u) (by omega) (by omega) d1 d2 f1 f2 w) w.1 d_M_isUnsafe_54 (by refine ⟨?_, ?_⟩ <;> first | decide | (dsimp only; first | done | omega)) (by first | decide | (simp only [List.map, rf_cat, cat_i, cat_l, List.sum_cons, List.sum_nil]; first | done | decide | omega)) ⟨(by first | omega | decide | (dsimp only; first | done | omega)), (by first | omega | decide | (dsimp only; first | done | omega))⟩ (fun _ _ z => z.elim) ?_
            rintro r h ⟨rfl, rfl⟩
            refine V_if_eq (tgt := 64) X d_M_isUnsafe_57 (by decide) (fun c_57 => ?_) (fun c_57 => ?_)
            · have q := p65 false (by rw [behU, b01_f c_57, Bool.and_false])
              refine V_iconst (v := 0) X d_M_isUnsafe_64 (by decide) ?_
              exact q
            · have q := p65 true (by rw [behU, b01_t c_47, b01_t c_57]; rfl)
              refine V_iconst (v := 1) X d_M_isUnsafe_60 (by decide) ?_
              refine V_goto (tgt := 65) X d_M_isUnsafe_61 (by decide) ?_
              exact q
def unsM (ar : MA) (wc rc : Nat → Nat) (n t : Nat) : Bool := anyN (badU ar wc rc t) n || (anyN (aftU ar wc rc t) n && anyN (befU ar wc rc t) n)
def mHad (ar : MA) (t : Nat) (x : Bool) : MA := aU ar 4 (upd (ar 4) t (b01 x))
theorem c_M_isUnsafe (l : Launch) (g : GG) (N0 : Nat → Prop) (h : Mp) {m : Nat} {ad : Nat → Nat} {iv : MI} {ar : MA} {n nv : Nat} {wc rc pc : Nat → Nat} {t : Nat} (b : MB iv ar n nv wc rc pc) (ht : t < n) (w : MW g m ad h iv ar) : Ct l y_M_isUnsafe b_M_isUnsafe 7 (some .boolean) 1 25 0 0 g N0 h [va_rf (some m), .int (nI t)] (pI (fun r h' => r = b01 (unsM ar wc rc n t) ∧ MW g m ad h' iv (mHad ar t (anyN (aftU ar wc rc t) n)))) nox := by
  refine Ct_of "SnapshotStoreModel" "isUnsafe" [some (va_rf (some m)), some (.int (nI t)), none, none, none, none, none] (by decide) rfl rfl (by simp [lg_sl, rf_cat, cat_i, cat_l]) (by simp [toL, lv_args, rf_cat, cat_i, cat_l]) (fun K hl X => ?_)
  have hb := b.2.1
  refine V_iconst (v := 0) X d_M_isUnsafe_0 (by decide) ?_
  refine is_2 X d_M_isUnsafe_1 rfl (by first | exact okp_n | exact okp_i | exact okp_r) ?_
  refine V_iconst (v := 0) X d_M_isUnsafe_2 (by decide) ?_
  refine is_3 X d_M_isUnsafe_3 rfl (by first | exact okp_n | exact okp_i | exact okp_r) ?_
  refine V_iconst (v := 0) X d_M_isUnsafe_4 (by decide) ?_
  refine is_4 X d_M_isUnsafe_5 rfl (by first | exact okp_n | exact okp_i | exact okp_r) ?_
  refine V_iconst (v := 0) X d_M_isUnsafe_7 (by decide) ?_
  refine is_5 X d_M_isUnsafe_8 rfl (by first | exact okp_n | exact okp_i | exact okp_r) ?_
  refine w_M_isUnsafe X b ht w n 0 _ okp_n (by omega) (fun z => ?_)
  refine al_0 X d_M_isUnsafe_160 ?_
  refine gm_23 X w d_M_isUnsafe_161 ?_
  refine il_1 X d_M_isUnsafe_164 ?_
  refine il_2 X d_M_isUnsafe_165 ?_
  refine sm_z X (by first | exact Or.inl rfl | exact Or.inr rfl | exact b01_or _) w (k := 4) (by decide) rfl (show _ < 120 by omega) (by decide) d_M_isUnsafe_166 (fun h w => ?_)
  have yes : unsM ar wc rc n t = true → V K g N0 7 (RQ K g N0 (pI (fun r h' => r = b01 (unsM ar wc rc n t) ∧ MW g m ad h' iv (mHad ar t (anyN (aftU ar wc rc t) n)))) nox 0 0) h 0 0 180 [some (va_rf (some m)), some (.int (nI t)), some (.int (b01 (anyN (aftU ar wc rc t) n))), some (.int (b01 (anyN (befU ar wc rc t) n))), some (.int (b01 (anyN (badU ar wc rc t) n))), some (.int (nI n)), z] [] := by
    intro e
    refine V_iconst (v := 1) X d_M_isUnsafe_180 (by decide) ?_
    refine V_goto (tgt := 185) X d_M_isUnsafe_181 (by decide) ?_
    refine V_zret X rfl (by first | rfl | exact nr_z (by assumption)) d_M_isUnsafe_185 (by first | omega | decide | (dsimp only; first | done | omega)) (by first | omega | decide | (dsimp only; first | done | omega)) ?_
    exact ⟨_, rfl, by rw [e]; rfl, w⟩
  have no : unsM ar wc rc n t = false → V K g N0 7 (RQ K g N0 (pI (fun r h' => r = b01 (unsM ar wc rc n t) ∧ MW g m ad h' iv (mHad ar t (anyN (aftU ar wc rc t) n)))) nox 0 0) h 0 0 184 [some (va_rf (some m)), some (.int (nI t)), some (.int (b01 (anyN (aftU ar wc rc t) n))), some (.int (b01 (anyN (befU ar wc rc t) n))), some (.int (b01 (anyN (badU ar wc rc t) n))), some (.int (nI n)), z] [] := by
    intro e
    refine V_iconst (v := 0) X d_M_isUnsafe_184 (by decide) ?_
    refine V_zret X rfl (by first | rfl | exact nr_z (by assumption)) d_M_isUnsafe_185 (by first | omega | decide | (dsimp only; first | done | omega)) (by first | omega | decide | (dsimp only; first | done | omega)) ?_
    exact ⟨_, rfl, by rw [e]; rfl, w⟩
  refine il_4 X d_M_isUnsafe_167 ?_
  refine V_if_ne (tgt := 180) X d_M_isUnsafe_169 (by decide) (fun c_169 => ?_) (fun c_169 => ?_)
  · exact yes (by rw [unsM, b01_t c_169, Bool.true_or])
  · refine il_2 X d_M_isUnsafe_172 ?_
    refine V_if_eq (tgt := 184) X d_M_isUnsafe_173 (by decide) (fun c_173 => ?_) (fun c_173 => ?_)
    · exact no (by rw [unsM, b01_f c_169, b01_f c_173]; rfl)
    · refine il_3 X d_M_isUnsafe_176 ?_
      refine V_if_eq (tgt := 184) X d_M_isUnsafe_177 (by decide) (fun c_177 => ?_) (fun c_177 => ?_)
      · exact no (by rw [unsM, b01_f c_169, b01_f c_177, Bool.and_false]; rfl)
      · exact yes (by rw [unsM, b01_t c_173, b01_t c_177, Bool.and_true, Bool.or_true])

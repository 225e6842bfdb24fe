-- the class's face: save, back, abort, flush, at, versions, count, astray, told
def pq (ps : CP) : LQ := ps.map (fun p => (p.1, p.2.1, ptr p.2.2))
theorem ptr_pq (ps : CP) : ptr (pq ps) = ptr ps := by cases ps <;> rfl
theorem pq_chain {h : Mp} : ∀ {ps : CP}, places h ps → chain cPl h (pq ps)
  | [], _ => trivial
  | (a, n, wl) :: t, hp => ⟨by have := hp.1; rw [← ptr_pq t] at this; exact this, pq_chain hp.2.2⟩
def cpcnt (ps : CP) : Int32 := match ps with
  | [] => 0
  | (_, n, _) :: _ => n + 1
theorem pcnt_pq (ps : CP) : pcnt (pq ps) = cpcnt ps := by cases ps <;> rfl
def cpdrop (n : Int32) (ps : CP) : CP := ps.dropWhile (fun p => !decide (p.2.1 = n))
theorem pq_drop (n : Int32) : ∀ ps : CP, pdrop n (pq ps) = pq (cpdrop n ps)
  | [] => rfl
  | (a, m, wl) :: t => by
    show pdrop n ((a, m, ptr wl) :: pq t) = _
    rw [pdrop, cpdrop, List.dropWhile_cons, List.dropWhile_cons]
    by_cases e : m = n
    · simp [e]; rfl
    · simp only [e, decide_false, Bool.not_false, if_true]
      exact pq_drop n t
theorem places_drop {h : Mp} (n : Int32) : ∀ {ps : CP}, places h ps → places h (cpdrop n ps)
  | [], hp => hp
  | (a, m, wl) :: t, hp => by
    rw [cpdrop, List.dropWhile_cons]
    split
    · exact places_drop n hp.2.2
    · exact hp
def saveT (q : Nat) : CT → CT
  | (a, lv, sn, se, sp, ha, ws, rs, ps) => (a, lv, sn, se, sp, ha, ws, rs, (q, cpcnt ps, ws) :: ps)
def ctP : CT → CP
  | (_, _, _, _, _, _, _, _, ps) => ps
theorem c_S_save (l : Launch) (g : GG) (N0 : Nat → Prop) (h : Mp) {s ta : Nat} {ck sf nt : Int32} {kl : LK} {tl : List CT} (n : Int32) (w : World g s ta h ck sf nt kl tl) : Ct l y_S_save b_S_save 4 (some .int) 8 134 3 18 g N0 h [va_rf (some s), .int n] (pI (fun r h' => ∃ t i, n = nI i ∧ tl[i]? = some t ∧ ctS t = 0 ∧ cpcnt (ctP t) < 20 ∧ r = cpcnt (ctP t) ∧ ∃ q, World g s ta h' ck sf nt kl (tl.set i (saveT q t)))) (fun E h' => oXp tl n h E h' ∨ (E = "java/lang/IllegalStateException" ∧ (∃ t, txAt tl n = some t ∧ ctS t = 0 ∧ ¬ cpcnt (ctP t) < 20) ∧ h' = h)) := by
  refine Ct_of "SnapshotStore" "save" [some (va_rf (some s)), some (.int n), none, none] (by decide) rfl rfl (by simp [lg_sl, rf_cat, cat_i, cat_l]) (by simp [toL, lv_args, rf_cat, cat_i, cat_l]) (fun K hl X => ?_)
  refine al_0 X d_S_save_0 ?_
  refine il_1 X d_S_save_1 ?_
  refine cl_S_37 X (c_S_openOne _ g N0 h n w) w.hs d_S_save_2 (by refine ⟨?_, ?_⟩ <;> first | decide | (dsimp only; first | done | omega)) (by first | decide | (simp only [List.map, rf_cat, cat_i, cat_l, List.sum_cons, List.sum_nil]; first | done | decide | omega)) ⟨(by first | omega | decide | (dsimp only; first | done | omega)), (by first | omega | decide | (dsimp only; first | done | omega))⟩ (fun E h' hx => VX_out X rfl (by decide) (by decide) (Or.inl hx)) ?_
  rintro r h' ⟨⟨t, ht, hse, rfl⟩, rfl⟩
  obtain ⟨i, hni, -, hti⟩ := txAt_s ht
  have hu := w.hu t (List.mem_of_getElem? hti)
  obtain ⟨a, lv, sn, se, sp, ha, ws, rs, ps⟩ := t
  obtain ⟨u1, u2, u3, u4⟩ := hu
  have u5 := u1
  rw [← ptr_pq ps] at u5
  refine as_2 X d_S_save_5 rfl (by first | exact okp_n | exact okp_i | exact okp_r) ?_
  refine al_2 X d_S_save_6 ?_
  refine cl_S_84 X (c_Tx_placeCount _ g N0 h' u5 (pq_chain u4)) (by assumption) d_S_save_7 (by refine ⟨?_, ?_⟩ <;> first | decide | (dsimp only; first | done | omega)) (by first | decide | (simp only [List.map, rf_cat, cat_i, cat_l, List.sum_cons, List.sum_nil]; first | done | decide | omega)) ⟨(by first | omega | decide | (dsimp only; first | done | omega)), (by first | omega | decide | (dsimp only; first | done | omega))⟩ (fun _ _ z => z.elim) ?_
  rintro r h2 ⟨rfl, rfl⟩
  rw [pcnt_pq]
  refine is_3 X d_S_save_10 rfl (by first | exact okp_n | exact okp_i | exact okp_r) ?_
  refine il_3 X d_S_save_11 ?_
  refine V_bipush (v := 20) X d_S_save_12 (by decide) ?_
  refine V_icmp_lt (tgt := 27) X d_S_save_14 (by decide) (fun c_14 => ?_) (fun c_14 => ?_)
  · refine al_2 X d_S_save_27 ?_
    refine nw_S_90 X (by first | omega | decide | (dsimp only; first | done | omega)) (by first | omega | decide | (dsimp only; first | done | omega)) d_S_save_28 (fun q hq => ?_)
    have k1 : (mUp h2 q (.inr (1, [.int 0, va_rf none, va_rf none]))) a = some (cTx lv sn se sp ha (ptr ws) (ptr rs) (ptr ps)) := by rw [mUp_n _ _ (mUp_nn hq u1)]; exact u1
    refine V_dup X d_S_save_31 (by first | rfl | exact rf_cat _) ?_
    refine il_3 X d_S_save_32 ?_
    refine al_2 X d_S_save_33 ?_
    refine gf_S_92 X (by assumption) d_S_save_34 ?_
    refine al_2 X d_S_save_37 ?_
    refine gf_S_96 X (by assumption) d_S_save_38 ?_
    refine cl_S_100 X (c_Place_init _ g N0 _ (cpcnt ps) (ptr ws) (ptr ps) (mUp_s _ _ _)) d_S_save_41 (by refine ⟨?_, ?_⟩ <;> first | decide | (dsimp only; first | done | omega)) (by first | decide | (simp only [List.map, rf_cat, cat_i, cat_l, List.sum_cons, List.sum_nil]; first | done | decide | omega)) ⟨(by first | omega | decide | (dsimp only; first | done | omega)), (by first | omega | decide | (dsimp only; first | done | omega))⟩ ?_
    rintro h3 rfl
    rw [mUp_uu]
    have w3 := w.fresh hq (cPl (cpcnt ps, ptr ws) (ptr ps))
    obtain ⟨v1, v2, v3, v4⟩ := w3.hu _ (List.mem_of_getElem? hti)
    refine pf_S_96 X (by assumption) d_S_save_44 ?_
    refine il_3 X d_S_save_47 ?_
    refine V_iret X rfl d_S_save_48 (by first | omega | decide | (dsimp only; first | done | omega)) (by first | omega | decide | (dsimp only; first | done | omega)) ?_
    refine ⟨_, rfl, _, i, hni, hti, hse, c_14, rfl, q, ?_⟩
    exact w3.setT (ps := (q, cpcnt ps, ws) :: ps) hti v2 v3 ⟨mUp_s _ _ _, v2, v4⟩
  · exact thr_2 X 6 rfl d_S_save_17 d_S_save_20 d_S_save_21 d_S_save_23 d_S_save_26 (by decide) (by decide) (by decide) (by decide) (by decide) (by decide) (Or.inr ⟨rfl, ⟨_, ht, hse, c_14⟩, rfl⟩)
-- back
def backT (wl : LW) (ps' : CP) : CT → CT
  | (a, lv, sn, se, sp, ha, _, rs, _) => (a, lv, sn, se, sp, ha, wl, rs, ps')
theorem c_S_back (l : Launch) (g : GG) (N0 : Nat → Prop) (h : Mp) {s ta : Nat} {ck sf nt : Int32} {kl : LK} {tl : List CT} (n pl : Int32) (w : World g s ta h ck sf nt kl tl) : Ct l y_S_back b_S_back 5 (some .int) 8 134 3 18 g N0 h [va_rf (some s), .int n, .int pl] (pI (fun r h' => ∃ t i b wl ps', n = nI i ∧ tl[i]? = some t ∧ ctS t = 0 ∧ cpdrop pl (ctP t) = (b, pl, wl) :: ps' ∧ r = wkeys wl ∧ World g s ta h' ck sf nt kl (tl.set i (backT wl ((b, pl, wl) :: ps') t)))) (fun E h' => oXp tl n h E h' ∨ (E = "java/lang/IllegalArgumentException" ∧ (∃ t, txAt tl n = some t ∧ ctS t = 0 ∧ cpdrop pl (ctP t) = []) ∧ h' = h)) := by
  refine Ct_of "SnapshotStore" "back" [some (va_rf (some s)), some (.int n), some (.int pl), none, none] (by decide) rfl rfl (by simp [lg_sl, rf_cat, cat_i, cat_l]) (by simp [toL, lv_args, rf_cat, cat_i, cat_l]) (fun K hl X => ?_)
  refine al_0 X d_S_back_0 ?_
  refine il_1 X d_S_back_1 ?_
  refine cl_S_37 X (c_S_openOne _ g N0 h n w) w.hs d_S_back_2 (by refine ⟨?_, ?_⟩ <;> first | decide | (dsimp only; first | done | omega)) (by first | decide | (simp only [List.map, rf_cat, cat_i, cat_l, List.sum_cons, List.sum_nil]; first | done | decide | omega)) ⟨(by first | omega | decide | (dsimp only; first | done | omega)), (by first | omega | decide | (dsimp only; first | done | omega))⟩ (fun E h' hx => VX_out X rfl (by decide) (by decide) (Or.inl hx)) ?_
  rintro r h' ⟨⟨t, ht, hse, rfl⟩, rfl⟩
  obtain ⟨i, hni, -, hti⟩ := txAt_s ht
  have hu := w.hu t (List.mem_of_getElem? hti)
  obtain ⟨a, lv, sn, se, sp, ha, ws, rs, ps⟩ := t
  obtain ⟨u1, u2, u3, u4⟩ := hu
  have u5 := u1
  rw [← ptr_pq ps] at u5
  refine as_3 X d_S_back_5 rfl (by first | exact okp_n | exact okp_i | exact okp_r) ?_
  refine al_3 X d_S_back_6 ?_
  refine il_2 X d_S_back_7 ?_
  refine cl_S_103 X (c_Tx_placeNumbered _ g N0 h' pl u5 (pq_chain u4)) (by assumption) d_S_back_8 (by refine ⟨?_, ?_⟩ <;> first | decide | (dsimp only; first | done | omega)) (by first | decide | (simp only [List.map, rf_cat, cat_i, cat_l, List.sum_cons, List.sum_nil]; first | done | decide | omega)) ⟨(by first | omega | decide | (dsimp only; first | done | omega)), (by first | omega | decide | (dsimp only; first | done | omega))⟩ (fun _ _ z => z.elim) ?_
  rintro r h2 ⟨rfl, rfl⟩
  rw [pq_drop, ptr_pq]
  have hpd := places_drop pl u4
  refine as_4 X d_S_back_11 rfl (by first | exact okp_n | exact okp_i | exact okp_r) ?_
  refine al_4 X d_S_back_13 ?_
  cases hd : cpdrop pl ps with
  | nil =>
    refine V_ifnonnull (tgt := 28) X d_S_back_15 (by decide) (fun b_15 c_15 => ?_) (fun c_15 => ?_)
    · cases c_15
    · exact thr_1 X 7 rfl d_S_back_18 d_S_back_21 d_S_back_22 d_S_back_24 d_S_back_27 (by decide) (by decide) (by decide) (by decide) (by decide) (by decide) (Or.inr ⟨rfl, ⟨_, ht, hse, hd⟩, rfl⟩)
  | cons x ps' =>
    obtain ⟨b, m, wl⟩ := x
    have hm : m = pl := by
      have h1 : (cpdrop pl ps).head? = some (b, m, wl) := by rw [hd]; rfl
      have h2 := List.head?_dropWhile_not (fun p : Nat × Int32 × LW => !decide (p.2.1 = pl)) ps
      rw [show ps.dropWhile (fun p : Nat × Int32 × LW => !decide (p.2.1 = pl)) = cpdrop pl ps from rfl, h1] at h2
      simpa using h2
    subst hm
    rw [hd] at hpd
    obtain ⟨p1, p2, p3⟩ := hpd
    dsimp only [ptr]
    refine V_ifnonnull (tgt := 28) X d_S_back_15 (by decide) (fun b_15 c_15 => ?_) (fun c_15 => ?_)
    · refine al_3 X d_S_back_28 ?_
      refine al_4 X d_S_back_29 ?_
      refine gf_S_109 X (by assumption) d_S_back_31 ?_
      refine pf_S_92 X (by assumption) d_S_back_34 ?_
      refine al_3 X d_S_back_37 ?_
      refine al_4 X d_S_back_38 ?_
      refine pf_S_96 X (mUp_s _ _ _) d_S_back_40 ?_
      rw [mUp_uu]
      have w3 := w.setT (lv := lv) (sn := sn) (se := se) (sp := sp) (ha := ha) (ws := wl) (rs := rs) (ps := (b, m, wl) :: ps') hti p2 u3 ⟨p1, p2, p3⟩
      obtain ⟨v1, v2, v3, v4⟩ := w3.hu _ (List.mem_of_getElem? (i := i) (by rw [List.getElem?_set_self (List.getElem?_eq_some_iff.mp hti).1]))
      refine al_3 X d_S_back_43 ?_
      refine cl_S_110 X (c_Tx_writtenKeys _ g N0 _ v1 v2) v1 d_S_back_44 (by refine ⟨?_, ?_⟩ <;> first | decide | (dsimp only; first | done | omega)) (by first | decide | (simp only [List.map, rf_cat, cat_i, cat_l, List.sum_cons, List.sum_nil]; first | done | decide | omega)) ⟨(by first | omega | decide | (dsimp only; first | done | omega)), (by first | omega | decide | (dsimp only; first | done | omega))⟩ (fun _ _ z => z.elim) ?_
      rintro r h3 ⟨rfl, rfl⟩
      refine V_iret X rfl d_S_back_47 (by first | omega | decide | (dsimp only; first | done | omega)) (by first | omega | decide | (dsimp only; first | done | omega)) ?_
      exact ⟨_, rfl, _, i, b, wl, ps', hni, hti, hse, hd, rfl, w3⟩
    · cases c_15
-- abort
def endT (how : Int32) : CT → CT
  | (a, lv, sn, _, sp, ha, ws, rs, _) => (a, lv, sn, how, sp, ha, ws, rs, [])
theorem WorldV.endT {vb : Int32} {g : GG} {s ta : Nat} {h : Mp} {ck sf nt : Int32} {kl : LK} {tl : List CT} (w : WorldV vb g s ta h ck sf nt kl tl) {i : Nat} {a : Nat} {lv sn se sp ha : Int32} {ws : LW} {rs : LR} {ps : CP} (e : tl[i]? = some (a, lv, sn, se, sp, ha, ws, rs, ps)) (how : Int32) : WorldV vb g s ta (mUp h a (cTx lv sn how sp ha (ptr ws) (ptr rs) none)) ck sf nt kl (tl.set i (endT how (a, lv, sn, se, sp, ha, ws, rs, ps))) := by
  obtain ⟨u1, u2, u3, u4⟩ := w.hu _ (List.mem_of_getElem? e)
  exact w.setT (ps := []) e u2 u3 trivial
theorem c_S_abort (l : Launch) (g : GG) (N0 : Nat → Prop) (h : Mp) {s ta : Nat} {ck sf nt : Int32} {kl : LK} {tl : List CT} (n : Int32) (w : World g s ta h ck sf nt kl tl) : Ct l y_S_abort b_S_abort 3 (some .int) 8 134 2 12 g N0 h [va_rf (some s), .int n] (pI (fun r h' => ∃ t i, n = nI i ∧ tl[i]? = some t ∧ ctS t = 0 ∧ r = wkeys (ctW t) ∧ World g s ta h' ck sf nt kl (tl.set i (endT 2 t)))) (oXp tl n h) := by
  refine Ct_of "SnapshotStore" "abort" [some (va_rf (some s)), some (.int n), none] (by decide) rfl rfl (by simp [lg_sl, rf_cat, cat_i, cat_l]) (by simp [toL, lv_args, rf_cat, cat_i, cat_l]) (fun K hl X => ?_)
  refine al_0 X d_S_abort_0 ?_
  refine il_1 X d_S_abort_1 ?_
  refine cl_S_37 X (c_S_openOne _ g N0 h n w) w.hs d_S_abort_2 (by refine ⟨?_, ?_⟩ <;> first | decide | (dsimp only; first | done | omega)) (by first | decide | (simp only [List.map, rf_cat, cat_i, cat_l, List.sum_cons, List.sum_nil]; first | done | decide | omega)) ⟨(by first | omega | decide | (dsimp only; first | done | omega)), (by first | omega | decide | (dsimp only; first | done | omega))⟩ (fun E h' hx => VX_out X rfl (by decide) (by decide) hx) ?_
  rintro r h' ⟨⟨t, ht, hse, rfl⟩, rfl⟩
  obtain ⟨i, hni, -, hti⟩ := txAt_s ht
  have hu := w.hu t (List.mem_of_getElem? hti)
  obtain ⟨a, lv, sn, se, sp, ha, ws, rs, ps⟩ := t
  obtain ⟨u1, u2, u3, u4⟩ := hu
  refine as_2 X d_S_abort_5 rfl (by first | exact okp_n | exact okp_i | exact okp_r) ?_
  refine al_2 X d_S_abort_6 ?_
  refine V_iconst (v := 2) X d_S_abort_7 (by decide) ?_
  refine cl_S_117 X (c_Tx_end _ g N0 h' 2 u1) (by assumption) d_S_abort_8 (by refine ⟨?_, ?_⟩ <;> first | decide | (dsimp only; first | done | omega)) (by first | decide | (simp only [List.map, rf_cat, cat_i, cat_l, List.sum_cons, List.sum_nil]; first | done | decide | omega)) ⟨(by first | omega | decide | (dsimp only; first | done | omega)), (by first | omega | decide | (dsimp only; first | done | omega))⟩ (fun _ _ z => z.elim) ?_
  rintro h2 rfl
  have w2 := w.endT hti 2
  obtain ⟨v1, v2, v3, v4⟩ := w2.hu _ (List.mem_of_getElem? (i := i) (by rw [List.getElem?_set_self (List.getElem?_eq_some_iff.mp hti).1]))
  refine al_2 X d_S_abort_11 ?_
  refine cl_S_110 X (c_Tx_writtenKeys _ g N0 _ v1 v2) v1 d_S_abort_12 (by refine ⟨?_, ?_⟩ <;> first | decide | (dsimp only; first | done | omega)) (by first | decide | (simp only [List.map, rf_cat, cat_i, cat_l, List.sum_cons, List.sum_nil]; first | done | decide | omega)) ⟨(by first | omega | decide | (dsimp only; first | done | omega)), (by first | omega | decide | (dsimp only; first | done | omega))⟩ (fun _ _ z => z.elim) ?_
  rintro r h3 ⟨rfl, rfl⟩
  refine V_iret X rfl d_S_abort_15 (by first | omega | decide | (dsimp only; first | done | omega)) (by first | omega | decide | (dsimp only; first | done | omega)) ?_
  exact ⟨_, rfl, _, i, hni, hti, hse, rfl, w2⟩
-- flush
theorem c_S_flush (l : Launch) (g : GG) (N0 : Nat → Prop) (h : Mp) {s ta : Nat} {ck sf nt : Int32} {kl : LK} {tl : List CT} (w : World g s ta h ck sf nt kl tl) : Ct l y_S_flush b_S_flush 2 (some .int) 0 0 0 0 g N0 h [va_rf (some s)] (pI (fun r h' => r = ck - sf ∧ World g s ta h' ck ck nt kl tl)) nox := by
  refine Ct_of "SnapshotStore" "flush" [some (va_rf (some s)), none] (by decide) rfl rfl (by simp [lg_sl, rf_cat, cat_i, cat_l]) (by simp [toL, lv_args, rf_cat, cat_i, cat_l]) (fun K hl X => ?_)
  have hs := w.hs
  refine al_0 X d_S_flush_0 ?_
  refine gf_S_31 X (by assumption) d_S_flush_1 ?_
  refine al_0 X d_S_flush_4 ?_
  refine gf_S_149 X (by assumption) d_S_flush_5 ?_
  refine V_isub X d_S_flush_8 ?_
  refine is_1 X d_S_flush_9 rfl (by first | exact okp_n | exact okp_i | exact okp_r) ?_
  refine al_0 X d_S_flush_10 ?_
  refine al_0 X d_S_flush_11 ?_
  refine gf_S_31 X (by assumption) d_S_flush_12 ?_
  refine pf_S_149 X (by assumption) d_S_flush_15 ?_
  refine il_1 X d_S_flush_18 ?_
  refine V_iret X rfl d_S_flush_19 (by first | omega | decide | (dsimp only; first | done | omega)) (by first | omega | decide | (dsimp only; first | done | omega)) ?_
  exact ⟨_, rfl, rfl, w.setS ck ck nt w.hv⟩
-- at
def atC (kl : LK) (key : Int32) (s : Int32) : Int32 := match kfind key kl with
  | none => 0
  | some (_, _, vs) => voz (vcont (vdrop s vs))
theorem c_S_at (l : Launch) (g : GG) (N0 : Nat → Prop) (h : Mp) {s ta : Nat} {ck sf nt : Int32} {kl : LK} {tl : List CT} (key sa : Int32) (w : World g s ta h ck sf nt kl tl) : Ct l y_S_at b_S_at 4 (some .int) 2 45 0 0 g N0 h [va_rf (some s), .int key, .int sa] (pI (fun r h' => r = atC kl key (if sa = 0 then ck else sf) ∧ h' = h)) nox := by
  refine Ct_of "SnapshotStore" "at" [some (va_rf (some s)), some (.int key), some (.int sa), none] (by decide) rfl rfl (by simp [lg_sl, rf_cat, cat_i, cat_l]) (by simp [toL, lv_args, rf_cat, cat_i, cat_l]) (fun K hl X => ?_)
  have hs := w.hs
  refine al_0 X d_S_at_0 ?_
  refine il_1 X d_S_at_1 ?_
  refine cl_S_45 X (c_S_keyNamed _ g N0 h key w.hs w.hk w.ho) (by assumption) d_S_at_2 (by refine ⟨?_, ?_⟩ <;> first | decide | (dsimp only; first | done | omega)) (by first | decide | (simp only [List.map, rf_cat, cat_i, cat_l, List.sum_cons, List.sum_nil]; first | done | decide | omega)) ⟨(by first | omega | decide | (dsimp only; first | done | omega)), (by first | omega | decide | (dsimp only; first | done | omega))⟩ (fun _ _ z => z.elim) ?_
  rintro r h' ⟨rfl, rfl⟩
  refine as_3 X d_S_at_5 rfl (by first | exact okp_n | exact okp_i | exact okp_r) ?_
  refine al_3 X d_S_at_6 ?_
  cases hf : kfind key kl with
  | none =>
    refine V_ifnonnull (tgt := 14) X d_S_at_7 (by decide) (fun b_7 c_7 => ?_) (fun c_7 => ?_)
    · cases c_7
    · refine V_iconst (v := 0) X d_S_at_10 (by decide) ?_
      refine V_goto (tgt := 36) X d_S_at_11 (by decide) ?_
      refine V_iret X rfl d_S_at_36 (by first | omega | decide | (dsimp only; first | done | omega)) (by first | omega | decide | (dsimp only; first | done | omega)) ?_
      exact ⟨_, rfl, by simp [atC, hf], rfl⟩
  | some x =>
    obtain ⟨b, m, vs⟩ := x
    obtain ⟨nx, k1, k2⟩ := keys_mem w.hk (List.mem_of_find?_eq_some hf)
    refine V_ifnonnull (tgt := 14) X d_S_at_7 (by decide) (fun b_7 c_7 => ?_) (fun c_7 => ?_)
    · cases c_7
      refine al_3 X d_S_at_14 ?_
      refine il_2 X d_S_at_15 ?_
      refine V_if_eq (tgt := 26) X d_S_at_16 (by decide) (fun c_16 => ?_) (fun c_16 => ?_)
      · refine al_0 X d_S_at_26 ?_
        refine gf_S_31 X (by assumption) d_S_at_27 ?_
        refine cl_S_171 X (c_Key_contentAt _ g N0 h' ck k1 k2) (by assumption) d_S_at_30 (by refine ⟨?_, ?_⟩ <;> first | decide | (dsimp only; first | done | omega)) (by first | decide | (simp only [List.map, rf_cat, cat_i, cat_l, List.sum_cons, List.sum_nil]; first | done | decide | omega)) ⟨(by first | omega | decide | (dsimp only; first | done | omega)), (by first | omega | decide | (dsimp only; first | done | omega))⟩ (fun _ _ z => z.elim) ?_
        rintro r h2 ⟨rfl, rfl⟩
        refine cl_S_53 X (c_S_valueOrZero _ g N0 h2 _) d_S_at_33 (by refine ⟨?_, ?_⟩ <;> first | decide | (dsimp only; first | done | omega)) (by first | decide | (simp only [List.map, rf_cat, cat_i, cat_l, List.sum_cons, List.sum_nil]; first | done | decide | omega)) ⟨(by first | omega | decide | (dsimp only; first | done | omega)), (by first | omega | decide | (dsimp only; first | done | omega))⟩ (fun _ _ z => z.elim) ?_
        rintro r h3 ⟨rfl, rfl⟩
        refine V_iret X rfl d_S_at_36 (by first | omega | decide | (dsimp only; first | done | omega)) (by first | omega | decide | (dsimp only; first | done | omega)) ?_
        exact ⟨_, rfl, by simp [atC, hf, c_16], rfl⟩
      · refine al_0 X d_S_at_19 ?_
        refine gf_S_149 X (by assumption) d_S_at_20 ?_
        refine V_goto (tgt := 30) X d_S_at_23 (by decide) ?_
        refine cl_S_171 X (c_Key_contentAt _ g N0 h' sf k1 k2) (by assumption) d_S_at_30 (by refine ⟨?_, ?_⟩ <;> first | decide | (dsimp only; first | done | omega)) (by first | decide | (simp only [List.map, rf_cat, cat_i, cat_l, List.sum_cons, List.sum_nil]; first | done | decide | omega)) ⟨(by first | omega | decide | (dsimp only; first | done | omega)), (by first | omega | decide | (dsimp only; first | done | omega))⟩ (fun _ _ z => z.elim) ?_
        rintro r h2 ⟨rfl, rfl⟩
        refine cl_S_53 X (c_S_valueOrZero _ g N0 h2 _) d_S_at_33 (by refine ⟨?_, ?_⟩ <;> first | decide | (dsimp only; first | done | omega)) (by first | decide | (simp only [List.map, rf_cat, cat_i, cat_l, List.sum_cons, List.sum_nil]; first | done | decide | omega)) ⟨(by first | omega | decide | (dsimp only; first | done | omega)), (by first | omega | decide | (dsimp only; first | done | omega))⟩ (fun _ _ z => z.elim) ?_
        rintro r h3 ⟨rfl, rfl⟩
        refine V_iret X rfl d_S_at_36 (by first | omega | decide | (dsimp only; first | done | omega)) (by first | omega | decide | (dsimp only; first | done | omega)) ?_
        exact ⟨_, rfl, by simp [atC, hf, c_16], rfl⟩
    · cases c_7
-- versions
def verC (kl : LK) (key : Int32) : Nat := match kfind key kl with
  | none => 0
  | some (_, _, vs) => vs.length
theorem c_S_versions (l : Launch) (g : GG) (N0 : Nat → Prop) (h : Mp) {s ta : Nat} {ck sf nt : Int32} {kl : LK} {tl : List CT} (key : Int32) (w : World g s ta h ck sf nt kl tl) : Ct l y_S_versions b_S_versions 3 (some .int) 2 45 0 0 g N0 h [va_rf (some s), .int key] (pI (fun r h' => r = nI (verC kl key) ∧ h' = h)) nox := by
  refine Ct_of "SnapshotStore" "versions" [some (va_rf (some s)), some (.int key), none] (by decide) rfl rfl (by simp [lg_sl, rf_cat, cat_i, cat_l]) (by simp [toL, lv_args, rf_cat, cat_i, cat_l]) (fun K hl X => ?_)
  refine al_0 X d_S_versions_0 ?_
  refine il_1 X d_S_versions_1 ?_
  refine cl_S_45 X (c_S_keyNamed _ g N0 h key w.hs w.hk w.ho) w.hs d_S_versions_2 (by refine ⟨?_, ?_⟩ <;> first | decide | (dsimp only; first | done | omega)) (by first | decide | (simp only [List.map, rf_cat, cat_i, cat_l, List.sum_cons, List.sum_nil]; first | done | decide | omega)) ⟨(by first | omega | decide | (dsimp only; first | done | omega)), (by first | omega | decide | (dsimp only; first | done | omega))⟩ (fun _ _ z => z.elim) ?_
  rintro r h' ⟨rfl, rfl⟩
  refine as_2 X d_S_versions_5 rfl (by first | exact okp_n | exact okp_i | exact okp_r) ?_
  refine al_2 X d_S_versions_6 ?_
  cases hf : kfind key kl with
  | none =>
    refine V_ifnonnull (tgt := 14) X d_S_versions_7 (by decide) (fun b_7 c_7 => ?_) (fun c_7 => ?_)
    · cases c_7
    · refine V_iconst (v := 0) X d_S_versions_10 (by decide) ?_
      refine V_goto (tgt := 18) X d_S_versions_11 (by decide) ?_
      refine V_iret X rfl d_S_versions_18 (by first | omega | decide | (dsimp only; first | done | omega)) (by first | omega | decide | (dsimp only; first | done | omega)) ?_
      exact ⟨_, rfl, by simp [verC, hf, nI_0], rfl⟩
  | some x =>
    obtain ⟨b, m, vs⟩ := x
    obtain ⟨nx, k1, k2⟩ := keys_mem w.hk (List.mem_of_find?_eq_some hf)
    refine V_ifnonnull (tgt := 14) X d_S_versions_7 (by decide) (fun b_7 c_7 => ?_) (fun c_7 => ?_)
    · cases c_7
      refine al_2 X d_S_versions_14 ?_
      refine cl_S_175 X (c_Key_versionCount _ g N0 h' k1 k2) (by assumption) d_S_versions_15 (by refine ⟨?_, ?_⟩ <;> first | decide | (dsimp only; first | done | omega)) (by first | decide | (simp only [List.map, rf_cat, cat_i, cat_l, List.sum_cons, List.sum_nil]; first | done | decide | omega)) ⟨(by first | omega | decide | (dsimp only; first | done | omega)), (by first | omega | decide | (dsimp only; first | done | omega))⟩ (fun _ _ z => z.elim) ?_
      rintro r h2 ⟨rfl, rfl⟩
      refine V_iret X rfl d_S_versions_18 (by first | omega | decide | (dsimp only; first | done | omega)) (by first | omega | decide | (dsimp only; first | done | omega)) ?_
      exact ⟨_, rfl, by simp [verC, hf], rfl⟩
    · cases c_7
-- astray
theorem w_S_astray {K : Cx} {g : GG} {N0 : Nat → Prop} {h : Mp} {post : Option Value → Mp → Prop} {xp : String → Mp → Prop} {mc ms : Nat} (X : Fx K g N0 b_S_astray 3 "SnapshotStore" { frames := 1, cells := mc, slots := ms, locals := 22 } (some .int) "astray" []) {s : Nat} {ta le : Option Nat} {bg ck sf nt : Int32} (hs : h s = some (cS ta bg ck sf nt le)) : ∀ (kl : LK), keys h kl → (∀ k ∈ kl, vord ck k.2.2) → post (some (.int 0)) h → V K g N0 3 (RQ K g N0 post xp mc ms)  h 0 0 7 [some (va_rf (some s)), some (.int 0), some (va_rf (ptr kl))] [] := by
  intro kl
  induction kl with
  | nil =>
    intro hv ho hp
    refine al_2 X d_S_astray_7 ?_
    refine V_ifnull (tgt := 33) X d_S_astray_8 (by decide) (fun c_8 => ?_) (fun b_8 c_8 => ?_)
    · refine il_1 X d_S_astray_33 ?_
      refine V_iret X rfl d_S_astray_34 (by first | omega | decide | (dsimp only; first | done | omega)) (by first | omega | decide | (dsimp only; first | done | omega)) ?_
      exact hp
    · cases c_8
  | cons x t ih =>
    obtain ⟨b, m, vs⟩ := x
    intro hv ho hp
    obtain ⟨hv1, hv2, hv3⟩ := hv
    dsimp only [ptr]
    refine al_2 X d_S_astray_7 ?_
    refine V_ifnull (tgt := 33) X d_S_astray_8 (by decide) (fun c_8 => ?_) (fun b_8 c_8 => ?_)
    · cases c_8
    · refine al_2 X d_S_astray_11 ?_
      refine al_0 X d_S_astray_12 ?_
      refine gf_S_31 X (by assumption) d_S_astray_13 ?_
      refine cl_S_190 X (c_Key_isInOrder _ g N0 h ck hv1 hv2 (ho _ List.mem_cons_self)) (by assumption) d_S_astray_16 (by refine ⟨?_, ?_⟩ <;> first | decide | (dsimp only; first | done | omega)) (by first | decide | (simp only [List.map, rf_cat, cat_i, cat_l, List.sum_cons, List.sum_nil]; first | done | decide | omega)) ⟨(by first | omega | decide | (dsimp only; first | done | omega)), (by first | omega | decide | (dsimp only; first | done | omega))⟩ (fun _ _ z => z.elim) ?_
      rintro r h' ⟨rfl, rfl⟩
      refine V_if_ne (tgt := 25) X d_S_astray_19 (by decide) (fun c_19 => ?_) (fun c_19 => ?_)
      · refine al_2 X d_S_astray_25 ?_
        refine gf_S_72 X (by assumption) d_S_astray_26 ?_
        refine as_2 X d_S_astray_29 rfl (by first | exact okp_n | exact okp_i | exact okp_r) ?_
        refine V_goto (tgt := 7) X d_S_astray_30 (by decide) ?_
        exact ih hv3 (fun k hk => ho k (List.mem_cons_of_mem _ hk)) hp
      · exact absurd c_19 (by decide)
theorem c_S_astray (l : Launch) (g : GG) (N0 : Nat → Prop) (h : Mp) {s ta : Nat} {ck sf nt : Int32} {kl : LK} {tl : List CT} (w : World g s ta h ck sf nt kl tl) : Ct l y_S_astray b_S_astray 3 (some .int) 1 22 0 0 g N0 h [va_rf (some s)] (pI (fun r h' => r = 0 ∧ h' = h)) nox := by
  refine Ct_of "SnapshotStore" "astray" [some (va_rf (some s)), none, none] (by decide) rfl rfl (by simp [lg_sl, rf_cat, cat_i, cat_l]) (by simp [toL, lv_args, rf_cat, cat_i, cat_l]) (fun K hl X => ?_)
  have hs := w.hs
  refine V_iconst (v := 0) X d_S_astray_0 (by decide) ?_
  refine is_1 X d_S_astray_1 rfl (by first | exact okp_n | exact okp_i | exact okp_r) ?_
  refine al_0 X d_S_astray_2 ?_
  refine gf_S_63 X (by assumption) d_S_astray_3 ?_
  refine as_2 X d_S_astray_6 rfl (by first | exact okp_n | exact okp_i | exact okp_r) ?_
  exact w_S_astray X hs kl w.hk w.hv ⟨_, rfl, rfl, rfl⟩
-- switches
theorem sw7 (x : Int32) : x = 0 ∨ x = 1 ∨ x = 2 ∨ x = 3 ∨ x = 4 ∨ x = 5 ∨ x = 6 ∨ (x.toInt < 0 ∨ 6 < x.toInt) := by
  rcases Int.lt_or_le x.toInt 0 with h | h
  · exact Or.inr (Or.inr (Or.inr (Or.inr (Or.inr (Or.inr (Or.inr (Or.inl h)))))))
  rcases Int.lt_or_le 6 x.toInt with h6 | h6
  · exact Or.inr (Or.inr (Or.inr (Or.inr (Or.inr (Or.inr (Or.inr (Or.inr h6)))))))
  have key : ∀ k : Int32, x.toInt = k.toInt → x = k := fun k e => Int32.toInt_inj.mp e
  have h7 : x.toInt = 0 ∨ x.toInt = 1 ∨ x.toInt = 2 ∨ x.toInt = 3 ∨ x.toInt = 4 ∨ x.toInt = 5 ∨ x.toInt = 6 := by omega
  rcases h7 with e | e | e | e | e | e | e
  · exact Or.inl (key 0 e)
  · exact Or.inr (Or.inl (key 1 e))
  · exact Or.inr (Or.inr (Or.inl (key 2 e)))
  · exact Or.inr (Or.inr (Or.inr (Or.inl (key 3 e))))
  · exact Or.inr (Or.inr (Or.inr (Or.inr (Or.inl (key 4 e)))))
  · exact Or.inr (Or.inr (Or.inr (Or.inr (Or.inr (Or.inl (key 5 e))))))
  · exact Or.inr (Or.inr (Or.inr (Or.inr (Or.inr (Or.inr (Or.inl (key 6 e)))))))
section SWR
variable {K : Cx} {g : GG} {N0 : Nat → Prop} {nL : Nat} {Q : State → Prop} {h : Mp} {cells slots pc : Nat} {lv : List (Option Value)} {st : List Value} {cc : ByteArray} {own : String} {R0 : Room} {rt : Option FieldType} {nm : String} {ex : List ExceptionTableEntry}
theorem V_tabIn (X : Fx K g N0 cc nL own R0 rt nm ex) {dflt lo hi : Int} {offs : Array Int} {len : Nat} {x : Int32} {off : Int} {tgt : Nat} (d : decode cc pc = .ok (.tableswitch dflt lo hi offs, len)) (h1 : ¬ x.toInt < lo) (h2 : ¬ hi < x.toInt) (ho : offs[(x.toInt - lo).toNat]? = some off) (ht : (pc : Int) + off = (tgt : Int)) (kk : V K g N0 nL Q h cells slots tgt lv st) : V K g N0 nL Q h cells slots pc lv (.int x :: st) := fun H locs ls hM hS hl => lv_tableIn X.hx X.hb d h1 h2 ho ht (kk H locs ls hM hS hl)
theorem V_tabOut (X : Fx K g N0 cc nL own R0 rt nm ex) {dflt lo hi : Int} {offs : Array Int} {len : Nat} {x : Int32} {tgt : Nat} (d : decode cc pc = .ok (.tableswitch dflt lo hi offs, len)) (ho : x.toInt < lo ∨ hi < x.toInt) (ht : (pc : Int) + dflt = (tgt : Int)) (kk : V K g N0 nL Q h cells slots tgt lv st) : V K g N0 nL Q h cells slots pc lv (.int x :: st) := fun H locs ls hM hS hl => lv_tableOut X.hx X.hb d ho ht (kk H locs ls hM hS hl)
end SWR
-- count
def countC (ck sf : Int32) (kl : LK) (tl : List CT) (what : Int32) : Int32 := if what = 0 then ck else if what = 1 then sf else if what = 2 then nI (vtotal kl) else if what = 3 then nI (kl.countP pHas) else if what = 4 then nI (kl.countP (pVal ck)) else if what = 5 then nI tl.length else if what = 6 then nI (tl.countP pOpen) else -1
theorem sw_ne {x : Int32} {k : Nat} (hx : x.toInt < 0 ∨ 6 < x.toInt) (hk : k ≤ 6) : ¬ x = nI k := by
  intro e
  have := nI_toInt (n := k) (by omega)
  rw [← e] at this
  omega
theorem c_S_count (l : Launch) (g : GG) (N0 : Nat → Prop) (h : Mp) {s ta : Nat} {ck sf nt : Int32} {kl : LK} {tl : List CT} (what : Int32) (w : World g s ta h ck sf nt kl tl) : Ct l y_S_count b_S_count 2 (some .int) 3 66 0 0 g N0 h [va_rf (some s), .int what] (pI (fun r h' => r = countC ck sf kl tl what ∧ h' = h)) nox := by
  refine Ct_of "SnapshotStore" "count" [some (va_rf (some s)), some (.int what)] (by decide) rfl rfl (by simp [lg_sl, rf_cat, cat_i, cat_l]) (by simp [toL, lv_args, rf_cat, cat_i, cat_l]) (fun K hl X => ?_)
  have hs := w.hs
  obtain ⟨f, hq, hf⟩ := w.ha
  refine il_1 X d_S_count_0 ?_
  rcases sw7 what with rfl | rfl | rfl | rfl | rfl | rfl | rfl | hx
  · refine V_tabIn (off := 43) (tgt := 44) X d_S_count_1 (by decide) (by decide) (by decide) (by decide) ?_
    refine al_0 X d_S_count_44 ?_
    refine gf_S_31 X (by assumption) d_S_count_45 ?_
    refine V_iret X rfl d_S_count_48 (by first | omega | decide | (dsimp only; first | done | omega)) (by first | omega | decide | (dsimp only; first | done | omega)) ?_
    exact ⟨_, rfl, rfl, rfl⟩
  · refine V_tabIn (off := 48) (tgt := 49) X d_S_count_1 (by decide) (by decide) (by decide) (by decide) ?_
    refine al_0 X d_S_count_49 ?_
    refine gf_S_149 X (by assumption) d_S_count_50 ?_
    refine V_iret X rfl d_S_count_53 (by first | omega | decide | (dsimp only; first | done | omega)) (by first | omega | decide | (dsimp only; first | done | omega)) ?_
    exact ⟨_, rfl, rfl, rfl⟩
  · refine V_tabIn (off := 53) (tgt := 54) X d_S_count_1 (by decide) (by decide) (by decide) (by decide) ?_
    refine al_0 X d_S_count_54 ?_
    refine cl_S_178 X (c_S_allVersions _ g N0 h w.hs w.hk) (by assumption) d_S_count_55 (by refine ⟨?_, ?_⟩ <;> first | decide | (dsimp only; first | done | omega)) (by first | decide | (simp only [List.map, rf_cat, cat_i, cat_l, List.sum_cons, List.sum_nil]; first | done | decide | omega)) ⟨(by first | omega | decide | (dsimp only; first | done | omega)), (by first | omega | decide | (dsimp only; first | done | omega))⟩ (fun _ _ z => z.elim) ?_
    rintro r h' ⟨rfl, rfl⟩
    refine V_iret X rfl d_S_count_58 (by first | omega | decide | (dsimp only; first | done | omega)) (by first | omega | decide | (dsimp only; first | done | omega)) ?_
    exact ⟨_, rfl, rfl, rfl⟩
  · refine V_tabIn (off := 58) (tgt := 59) X d_S_count_1 (by decide) (by decide) (by decide) (by decide) ?_
    refine al_0 X d_S_count_59 ?_
    refine cl_S_181 X (c_S_keysWithVersions _ g N0 h w.hs w.hk) (by assumption) d_S_count_60 (by refine ⟨?_, ?_⟩ <;> first | decide | (dsimp only; first | done | omega)) (by first | decide | (simp only [List.map, rf_cat, cat_i, cat_l, List.sum_cons, List.sum_nil]; first | done | decide | omega)) ⟨(by first | omega | decide | (dsimp only; first | done | omega)), (by first | omega | decide | (dsimp only; first | done | omega))⟩ (fun _ _ z => z.elim) ?_
    rintro r h' ⟨rfl, rfl⟩
    refine V_iret X rfl d_S_count_63 (by first | omega | decide | (dsimp only; first | done | omega)) (by first | omega | decide | (dsimp only; first | done | omega)) ?_
    exact ⟨_, rfl, rfl, rfl⟩
  · refine V_tabIn (off := 63) (tgt := 64) X d_S_count_1 (by decide) (by decide) (by decide) (by decide) ?_
    refine al_0 X d_S_count_64 ?_
    refine cl_S_184 X (c_S_keysWithValue _ g N0 h w.hs w.hk) (by assumption) d_S_count_65 (by refine ⟨?_, ?_⟩ <;> first | decide | (dsimp only; first | done | omega)) (by first | decide | (simp only [List.map, rf_cat, cat_i, cat_l, List.sum_cons, List.sum_nil]; first | done | decide | omega)) ⟨(by first | omega | decide | (dsimp only; first | done | omega)), (by first | omega | decide | (dsimp only; first | done | omega))⟩ (fun _ _ z => z.elim) ?_
    rintro r h' ⟨rfl, rfl⟩
    refine V_iret X rfl d_S_count_68 (by first | omega | decide | (dsimp only; first | done | omega)) (by first | omega | decide | (dsimp only; first | done | omega)) ?_
    exact ⟨_, rfl, rfl, rfl⟩
  · refine V_tabIn (off := 68) (tgt := 69) X d_S_count_1 (by decide) (by decide) (by decide) (by decide) ?_
    refine al_0 X d_S_count_69 ?_
    refine gf_S_22 X (by assumption) d_S_count_70 ?_
    refine V_iret X rfl d_S_count_73 (by first | omega | decide | (dsimp only; first | done | omega)) (by first | omega | decide | (dsimp only; first | done | omega)) ?_
    exact ⟨_, rfl, rfl, rfl⟩
  · refine V_tabIn (off := 73) (tgt := 74) X d_S_count_1 (by decide) (by decide) (by decide) (by decide) ?_
    refine al_0 X d_S_count_74 ?_
    refine cl_S_187 X (c_S_openOnes _ g N0 h w.hs hq hf w.hu) (by assumption) d_S_count_75 (by refine ⟨?_, ?_⟩ <;> first | decide | (dsimp only; first | done | omega)) (by first | decide | (simp only [List.map, rf_cat, cat_i, cat_l, List.sum_cons, List.sum_nil]; first | done | decide | omega)) ⟨(by first | omega | decide | (dsimp only; first | done | omega)), (by first | omega | decide | (dsimp only; first | done | omega))⟩ (fun _ _ z => z.elim) ?_
    rintro r h' ⟨rfl, rfl⟩
    refine V_iret X rfl d_S_count_78 (by first | omega | decide | (dsimp only; first | done | omega)) (by first | omega | decide | (dsimp only; first | done | omega)) ?_
    exact ⟨_, rfl, rfl, rfl⟩
  · refine V_tabOut (tgt := 79) X d_S_count_1 hx (by decide) ?_
    refine V_iconst (v := (-1)) X d_S_count_79 (by decide) ?_
    refine V_iret X rfl d_S_count_80 (by first | omega | decide | (dsimp only; first | done | omega)) (by first | omega | decide | (dsimp only; first | done | omega)) ?_
    refine ⟨_, rfl, ?_, rfl⟩
    have n0 : ¬ what = 0 := sw_ne hx (k := 0) (by decide)
    have n1 : ¬ what = 1 := sw_ne hx (k := 1) (by decide)
    have n2 : ¬ what = 2 := sw_ne hx (k := 2) (by decide)
    have n3 : ¬ what = 3 := sw_ne hx (k := 3) (by decide)
    have n4 : ¬ what = 4 := sw_ne hx (k := 4) (by decide)
    have n5 : ¬ what = 5 := sw_ne hx (k := 5) (by decide)
    have n6 : ¬ what = 6 := sw_ne hx (k := 6) (by decide)
    rw [countC, if_neg n0, if_neg n1, if_neg n2, if_neg n3, if_neg n4, if_neg n5, if_neg n6]
-- told
def toldC (what : Int32) : CT → Int32
  | (_, lv, sn, se, sp, ha, ws, _, ps) => if what = 0 then se else if what = 1 then lv else if what = 2 then sn else if what = 3 then sp else if what = 4 then wkeys ws else if what = 5 then cpcnt ps else b01 (!decide (ha = 0))
theorem c_S_told (l : Launch) (g : GG) (N0 : Nat → Prop) (h : Mp) {s ta : Nat} {ck sf nt : Int32} {kl : LK} {tl : List CT} (n what : Int32) (w : World g s ta h ck sf nt kl tl) : Ct l y_S_told b_S_told 4 (some .int) 7 112 2 12 g N0 h [va_rf (some s), .int n, .int what] (pI (fun r h' => (∃ t, txAt tl n = some t ∧ (0 ≤ what ∧ what ≤ 6) ∧ r = toldC what t) ∧ h' = h)) (fun E h' => ((E = "java/lang/IndexOutOfBoundsException" ∧ txAt tl n = none) ∨ (E = "java/lang/IllegalArgumentException" ∧ (∃ t, txAt tl n = some t) ∧ ¬ (0 ≤ what ∧ what ≤ 6))) ∧ h' = h) := by
  refine Ct_of "SnapshotStore" "told" [some (va_rf (some s)), some (.int n), some (.int what), none] (by decide) rfl rfl (by simp [lg_sl, rf_cat, cat_i, cat_l]) (by simp [toL, lv_args, rf_cat, cat_i, cat_l]) (fun K hl X => ?_)
  refine al_0 X d_S_told_0 ?_
  refine il_1 X d_S_told_1 ?_
  refine cl_S_163 X (c_S_anyOne _ g N0 h n w) w.hs d_S_told_2 (by refine ⟨?_, ?_⟩ <;> first | decide | (dsimp only; first | done | omega)) (by first | decide | (simp only [List.map, rf_cat, cat_i, cat_l, List.sum_cons, List.sum_nil]; first | done | decide | omega)) ⟨(by first | omega | decide | (dsimp only; first | done | omega)), (by first | omega | decide | (dsimp only; first | done | omega))⟩ (fun E h' hx => VX_out X rfl (by decide) (by decide) ⟨Or.inl ⟨hx.1, hx.2.1⟩, hx.2.2⟩) ?_
  rintro r h' ⟨⟨t, ht, rfl⟩, rfl⟩
  obtain ⟨i, hni, -, hti⟩ := txAt_s ht
  have hu := w.hu t (List.mem_of_getElem? hti)
  obtain ⟨a, lv, sn, se, sp, ha, ws, rs, ps⟩ := t
  obtain ⟨u1, u2, u3, u4⟩ := hu
  have u5 := u1
  rw [← ptr_pq ps] at u5
  dsimp only
  refine as_3 X d_S_told_5 rfl (by first | exact okp_n | exact okp_i | exact okp_r) ?_
  refine il_2 X d_S_told_6 ?_
  rcases sw7 what with rfl | rfl | rfl | rfl | rfl | rfl | rfl | hx
  · refine V_tabIn (off := 41) (tgt := 48) X d_S_told_7 (by decide) (by decide) (by decide) (by decide) ?_
    refine al_3 X d_S_told_48 ?_
    refine gf_S_160 X (by assumption) d_S_told_49 ?_
    refine V_iret X rfl d_S_told_52 (by first | omega | decide | (dsimp only; first | done | omega)) (by first | omega | decide | (dsimp only; first | done | omega)) ?_
    exact ⟨_, rfl, ⟨_, ht, (by decide), rfl⟩, rfl⟩
  · refine V_tabIn (off := 46) (tgt := 53) X d_S_told_7 (by decide) (by decide) (by decide) (by decide) ?_
    refine al_3 X d_S_told_53 ?_
    refine gf_S_121 X (by assumption) d_S_told_54 ?_
    refine V_iret X rfl d_S_told_57 (by first | omega | decide | (dsimp only; first | done | omega)) (by first | omega | decide | (dsimp only; first | done | omega)) ?_
    exact ⟨_, rfl, ⟨_, ht, (by decide), rfl⟩, rfl⟩
  · refine V_tabIn (off := 51) (tgt := 58) X d_S_told_7 (by decide) (by decide) (by decide) (by decide) ?_
    refine al_3 X d_S_told_58 ?_
    refine gf_S_166 X (by assumption) d_S_told_59 ?_
    refine V_iret X rfl d_S_told_62 (by first | omega | decide | (dsimp only; first | done | omega)) (by first | omega | decide | (dsimp only; first | done | omega)) ?_
    exact ⟨_, rfl, ⟨_, ht, (by decide), rfl⟩, rfl⟩
  · refine V_tabIn (off := 56) (tgt := 63) X d_S_told_7 (by decide) (by decide) (by decide) (by decide) ?_
    refine al_3 X d_S_told_63 ?_
    refine gf_S_135 X (by assumption) d_S_told_64 ?_
    refine V_iret X rfl d_S_told_67 (by first | omega | decide | (dsimp only; first | done | omega)) (by first | omega | decide | (dsimp only; first | done | omega)) ?_
    exact ⟨_, rfl, ⟨_, ht, (by decide), rfl⟩, rfl⟩
  · refine V_tabIn (off := 61) (tgt := 68) X d_S_told_7 (by decide) (by decide) (by decide) (by decide) ?_
    refine al_3 X d_S_told_68 ?_
    refine cl_S_110 X (c_Tx_writtenKeys _ g N0 h' u1 u2) (by assumption) d_S_told_69 (by refine ⟨?_, ?_⟩ <;> first | decide | (dsimp only; first | done | omega)) (by first | decide | (simp only [List.map, rf_cat, cat_i, cat_l, List.sum_cons, List.sum_nil]; first | done | decide | omega)) ⟨(by first | omega | decide | (dsimp only; first | done | omega)), (by first | omega | decide | (dsimp only; first | done | omega))⟩ (fun _ _ z => z.elim) ?_
    rintro r h2 ⟨rfl, rfl⟩
    refine V_iret X rfl d_S_told_72 (by first | omega | decide | (dsimp only; first | done | omega)) (by first | omega | decide | (dsimp only; first | done | omega)) ?_
    exact ⟨_, rfl, ⟨_, ht, (by decide), rfl⟩, rfl⟩
  · refine V_tabIn (off := 66) (tgt := 73) X d_S_told_7 (by decide) (by decide) (by decide) (by decide) ?_
    refine al_3 X d_S_told_73 ?_
    refine cl_S_84 X (c_Tx_placeCount _ g N0 h' u5 (pq_chain u4)) (by assumption) d_S_told_74 (by refine ⟨?_, ?_⟩ <;> first | decide | (dsimp only; first | done | omega)) (by first | decide | (simp only [List.map, rf_cat, cat_i, cat_l, List.sum_cons, List.sum_nil]; first | done | decide | omega)) ⟨(by first | omega | decide | (dsimp only; first | done | omega)), (by first | omega | decide | (dsimp only; first | done | omega))⟩ (fun _ _ z => z.elim) ?_
    rintro r h2 ⟨rfl, rfl⟩
    refine V_iret X rfl d_S_told_77 (by first | omega | decide | (dsimp only; first | done | omega)) (by first | omega | decide | (dsimp only; first | done | omega)) ?_
    exact ⟨_, rfl, ⟨_, ht, (by decide), by rw [pcnt_pq]; rfl⟩, rfl⟩
  · refine V_tabIn (off := 71) (tgt := 78) X d_S_told_7 (by decide) (by decide) (by decide) (by decide) ?_
    refine al_3 X d_S_told_78 ?_
    refine gf_S_138 X (by assumption) d_S_told_79 ?_
    refine V_if_eq (tgt := 89) X d_S_told_82 (by decide) (fun c_82 => ?_) (fun c_82 => ?_)
    · refine V_iconst (v := 0) X d_S_told_89 (by decide) ?_
      refine V_iret X rfl d_S_told_90 (by first | omega | decide | (dsimp only; first | done | omega)) (by first | omega | decide | (dsimp only; first | done | omega)) ?_
      exact ⟨_, rfl, ⟨_, ht, (by decide), by simp [toldC, c_82, b01]⟩, rfl⟩
    · refine V_iconst (v := 1) X d_S_told_85 (by decide) ?_
      refine V_goto (tgt := 90) X d_S_told_86 (by decide) ?_
      refine V_iret X rfl d_S_told_90 (by first | omega | decide | (dsimp only; first | done | omega)) (by first | omega | decide | (dsimp only; first | done | omega)) ?_
      exact ⟨_, rfl, ⟨_, ht, (by decide), by simp [toldC, c_82, b01]⟩, rfl⟩
  · refine V_tabOut (tgt := 91) X d_S_told_7 hx (by decide) ?_
    refine thr_1 X 8 rfl d_S_told_91 d_S_told_94 d_S_told_95 d_S_told_97 d_S_told_100 (by decide) (by decide) (by decide) (by decide) (by decide) (by decide) ⟨Or.inr ⟨rfl, ⟨_, ht⟩, ?_⟩, rfl⟩
    intro z
    have z1 := Int32.le_iff_toInt_le.mp z.1
    have z2 := Int32.le_iff_toInt_le.mp z.2
    have e0 : (0 : Int32).toInt = 0 := rfl
    have e6 : (6 : Int32).toInt = 6 := rfl
    omega

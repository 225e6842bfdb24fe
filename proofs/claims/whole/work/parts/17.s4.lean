-- finding a transaction; notes; keys and writes
def txAt (tl : List CT) (n : Int32) : Option CT := if n < 0 then none else tl[n.toNatClampNeg]?
theorem txAt_nI {tl : List CT} {i : Nat} (hi : i < 2 ^ 31) : txAt tl (nI i) = tl[i]? := by
  rw [txAt, if_neg (nI_pos hi), nI_clamp hi]
theorem c_S_anyOne (l : Launch) (g : GG) (N0 : Nat → Prop) (h : Mp) {s ta : Nat} {ck sf nt : Int32} {kl : LK} {tl : List CT} (n : Int32) (w : World g s ta h ck sf nt kl tl) : Ct l y_S_anyOne b_S_anyOne 3 (some (.object "SnapshotStore$Transaction")) 6 90 1 6 g N0 h [va_rf (some s), .int n] (pR (fun r h' => (∃ t, txAt tl n = some t ∧ r = some t.1) ∧ h' = h)) (fun E h' => E = "java/lang/IndexOutOfBoundsException" ∧ txAt tl n = none ∧ h' = h) := by
  refine Ct_of "SnapshotStore" "anyOne" [some (va_rf (some s)), some (.int n), none] (by decide) rfl rfl (by simp [lg_sl, rf_cat, cat_i, cat_l]) (by simp [toL, lv_args, rf_cat, cat_i, cat_l]) (fun K hl X => ?_)
  have hs := w.hs
  obtain ⟨f, hq, hf⟩ := w.ha
  have no : txAt tl n = none → V K g N0 3 (RQ K g N0 (pR (fun r h' => (∃ t, txAt tl n = some t ∧ r = some t.1) ∧ h' = h)) (fun E h' => E = "java/lang/IndexOutOfBoundsException" ∧ txAt tl n = none ∧ h' = h) 1 6) h 0 0 13 [some (va_rf (some s)), some (.int n), none] [] := fun e =>
    thr_3 X 2 rfl d_S_anyOne_13 d_S_anyOne_16 d_S_anyOne_17 d_S_anyOne_19 d_S_anyOne_22 (by decide) (by decide) (by decide) (by decide) (by decide) (by decide) ⟨rfl, e, rfl⟩
  refine il_1 X d_S_anyOne_0 ?_
  refine V_if_lt (tgt := 13) X d_S_anyOne_1 (by decide) (fun c_1 => ?_) (fun c_1 => ?_)
  · exact no (by rw [txAt, if_pos c_1])
  · obtain ⟨j, hj, rfl⟩ := nI_of c_1
    refine il_1 X d_S_anyOne_4 ?_
    refine al_0 X d_S_anyOne_5 ?_
    refine gf_S_11 X (by assumption) d_S_anyOne_6 ?_
    refine V_alen X 3 hq rfl d_S_anyOne_9 ?_
    refine V_icmp_lt (tgt := 23) X d_S_anyOne_10 (by decide) (fun c_10 => ?_) (fun c_10 => ?_)
    · have hj2 : j < 120 := (nI_ltI hj (by decide)).mp c_10
      refine al_0 X d_S_anyOne_23 ?_
      refine gf_S_11 X (by assumption) d_S_anyOne_24 ?_
      refine il_1 X d_S_anyOne_27 ?_
      refine V_aald X hq rfl hj2 (by decide) d_S_anyOne_28 ?_
      rw [hf.2 j hj2]
      refine as_2 X d_S_anyOne_29 rfl (by first | exact okp_n | exact okp_i | exact okp_r) ?_
      refine al_2 X d_S_anyOne_30 ?_
      cases hu : tl[j]? with
      | none =>
        refine V_ifnonnull (tgt := 44) X d_S_anyOne_31 (by decide) (fun b_31 c_31 => ?_) (fun c_31 => ?_)
        · cases c_31
        · exact thr_3 X 2 rfl d_S_anyOne_34 d_S_anyOne_37 d_S_anyOne_38 d_S_anyOne_40 d_S_anyOne_43 (by decide) (by decide) (by decide) (by decide) (by decide) (by decide) ⟨rfl, by rw [txAt_nI hj, hu], rfl⟩
      | some t =>
        dsimp only [Option.map_some]
        refine V_ifnonnull (tgt := 44) X d_S_anyOne_31 (by decide) (fun b_31 c_31 => ?_) (fun c_31 => ?_)
        · refine al_2 X d_S_anyOne_44 ?_
          refine V_aret X rfl d_S_anyOne_45 (by first | omega | decide | (dsimp only; first | done | omega)) (by first | omega | decide | (dsimp only; first | done | omega)) ?_
          exact ⟨_, rfl, ⟨t, by rw [txAt_nI hj, hu], rfl⟩, rfl⟩
        · cases c_31
    · refine no ?_
      have hj2 : ¬ j < 120 := fun q => c_10 ((nI_ltI (b := 120) hj (by decide)).mpr q)
      rw [txAt_nI hj, List.getElem?_eq_none_iff]
      have := hf.1
      omega
def ctS : CT → Int32
  | (_, _, _, se, _, _, _, _, _) => se
theorem c_S_openOne (l : Launch) (g : GG) (N0 : Nat → Prop) (h : Mp) {s ta : Nat} {ck sf nt : Int32} {kl : LK} {tl : List CT} (n : Int32) (w : World g s ta h ck sf nt kl tl) : Ct l y_S_openOne b_S_openOne 3 (some (.object "SnapshotStore$Transaction")) 7 112 2 12 g N0 h [va_rf (some s), .int n] (pR (fun r h' => (∃ t, txAt tl n = some t ∧ ctS t = 0 ∧ r = some t.1) ∧ h' = h)) (fun E h' => ((E = "java/lang/IndexOutOfBoundsException" ∧ txAt tl n = none) ∨ (E = "java/lang/IllegalStateException" ∧ ∃ t, txAt tl n = some t ∧ ctS t ≠ 0)) ∧ h' = h) := by
  refine Ct_of "SnapshotStore" "openOne" [some (va_rf (some s)), some (.int n), none] (by decide) rfl rfl (by simp [lg_sl, rf_cat, cat_i, cat_l]) (by simp [toL, lv_args, rf_cat, cat_i, cat_l]) (fun K hl X => ?_)
  refine al_0 X d_S_openOne_0 ?_
  refine il_1 X d_S_openOne_1 ?_
  refine cl_S_163 X (c_S_anyOne _ g N0 h n w) w.hs d_S_openOne_2 (by refine ⟨?_, ?_⟩ <;> first | decide | (dsimp only; first | done | omega)) (by first | decide | (simp only [List.map, rf_cat, cat_i, cat_l, List.sum_cons, List.sum_nil]; first | done | decide | omega)) ⟨(by first | omega | decide | (dsimp only; first | done | omega)), (by first | omega | decide | (dsimp only; first | done | omega))⟩ (fun E h' hx => VX_out X rfl (by decide) (by decide) ⟨Or.inl ⟨hx.1, hx.2.1⟩, hx.2.2⟩) ?_
  rintro r h' ⟨⟨t, ht, rfl⟩, rfl⟩
  have hm : t ∈ tl := by
    rw [txAt] at ht
    split at ht
    · cases ht
    · exact List.mem_of_getElem? ht
  have hok := w.hu t hm
  obtain ⟨a, lv, sn, se, sp, ha, ws, rs, ps⟩ := t
  obtain ⟨h1, -⟩ := hok
  refine as_2 X d_S_openOne_5 rfl (by first | exact okp_n | exact okp_i | exact okp_r) ?_
  refine al_2 X d_S_openOne_6 ?_
  refine gf_S_160 X (by assumption) d_S_openOne_7 ?_
  refine V_if_eq (tgt := 23) X d_S_openOne_10 (by decide) (fun c_10 => ?_) (fun c_10 => ?_)
  · refine al_2 X d_S_openOne_23 ?_
    refine V_aret X rfl d_S_openOne_24 (by first | omega | decide | (dsimp only; first | done | omega)) (by first | omega | decide | (dsimp only; first | done | omega)) ?_
    exact ⟨_, rfl, ⟨_, ht, c_10, rfl⟩, rfl⟩
  · exact thr_2 X 3 rfl d_S_openOne_13 d_S_openOne_16 d_S_openOne_17 d_S_openOne_19 d_S_openOne_22 (by decide) (by decide) (by decide) (by decide) (by decide) (by decide) ⟨Or.inr ⟨rfl, _, ht, c_10⟩, rfl⟩
-- countNote, where there is room
theorem c_S_countNote (l : Launch) (g : GG) (N0 : Nat → Prop) (h : Mp) {s : Nat} {ta le : Option Nat} {bg ck sf nt : Int32} (hn : nt < 512) (hs : h s = some (cS ta bg ck sf nt le)) : Ct l y_S_countNote b_S_countNote 1 none 6 90 0 0 g N0 h [va_rf (some s)] (pV (fun h' => h' = mUp h s (cS ta bg ck sf (nt + 1) le))) nox := by
  refine Ct_of "SnapshotStore" "countNote" [some (va_rf (some s))] (by decide) rfl rfl (by simp [lg_sl, rf_cat, cat_i, cat_l]) (by simp [toL, lv_args, rf_cat, cat_i, cat_l]) (fun K hl X => ?_)
  refine al_0 X d_S_countNote_0 ?_
  refine gf_S_201 X (by assumption) d_S_countNote_1 ?_
  refine V_sipush (v := 512) X d_S_countNote_4 (by decide) ?_
  refine V_icmp_lt (tgt := 20) X d_S_countNote_7 (by decide) (fun c_7 => ?_) (fun c_7 => ?_)
  · refine al_0 X d_S_countNote_20 ?_
    refine V_dup X d_S_countNote_21 (by first | rfl | exact rf_cat _) ?_
    refine gf_S_201 X (by assumption) d_S_countNote_22 ?_
    refine V_iconst (v := 1) X d_S_countNote_25 (by decide) ?_
    refine V_iadd X d_S_countNote_26 ?_
    refine pf_S_201 X (by assumption) d_S_countNote_27 ?_
    refine V_vret X rfl d_S_countNote_30 (by first | omega | decide | (dsimp only; first | done | omega)) (by first | omega | decide | (dsimp only; first | done | omega)) ?_
    exact ⟨rfl, rfl⟩
  · exact absurd hn c_7
-- noteRange
def noteT (lo hi : Int32) (q : Nat) : CT → CT
  | (a, lv, sn, se, sp, ha, ws, rs, ps) => (a, lv, sn, se, sp, ha, ws, (q, lo, hi) :: rs, ps)
def noted (lo hi : Int32) : CT → Prop
  | (_, lv, _, _, _, _, _, _, _) => lv = 1 ∧ lo ≤ hi
theorem c_S_noteRange (l : Launch) (g : GG) (N0 : Nat → Prop) (h : Mp) {s ta : Nat} {ck sf nt : Int32} {kl : LK} {tl : List CT} {i : Nat} {t : CT} (lo hi : Int32) (hn : nt < 512) (w : World g s ta h ck sf nt kl tl) (ht : tl[i]? = some t) : Ct l y_S_noteRange b_S_noteRange 4 none 7 110 1 3 g N0 h [va_rf (some s), va_rf (some t.1), .int lo, .int hi] (pV (fun h' => (noted lo hi t → ∃ q, World g s ta h' ck sf (nt + 1) kl (tl.set i (noteT lo hi q t))) ∧ (¬ noted lo hi t → h' = h))) nox := by
  refine Ct_of "SnapshotStore" "noteRange" [some (va_rf (some s)), some (va_rf (some t.1)), some (.int lo), some (.int hi)] (by decide) rfl rfl (by simp [lg_sl, rf_cat, cat_i, cat_l]) (by simp [toL, lv_args, rf_cat, cat_i, cat_l]) (fun K hl X => ?_)
  have hok := w.hu t (List.mem_of_getElem? ht)
  obtain ⟨a, lv, sn, se, sp, ha, ws, rs, ps⟩ := t
  obtain ⟨h1, h2, h3, h4⟩ := hok
  dsimp only
  refine al_1 X d_S_noteRange_0 ?_
  refine gf_S_121 X (by assumption) d_S_noteRange_1 ?_
  refine V_iconst (v := 1) X d_S_noteRange_4 (by decide) ?_
  refine V_icmp_ne (tgt := 34) X d_S_noteRange_5 (by decide) (fun c_5 => ?_) (fun c_5 => ?_)
  · refine V_vret X rfl d_S_noteRange_34 (by first | omega | decide | (dsimp only; first | done | omega)) (by first | omega | decide | (dsimp only; first | done | omega)) ?_
    exact ⟨rfl, fun z => absurd z.1 c_5, fun _ => rfl⟩
  · refine il_2 X d_S_noteRange_8 ?_
    refine il_3 X d_S_noteRange_9 ?_
    refine V_icmp_gt (tgt := 34) X d_S_noteRange_10 (by decide) (fun c_10 => ?_) (fun c_10 => ?_)
    · refine V_vret X rfl d_S_noteRange_34 (by first | omega | decide | (dsimp only; first | done | omega)) (by first | omega | decide | (dsimp only; first | done | omega)) ?_
      exact ⟨rfl, fun z => absurd z.2 (Int32.not_le.mpr c_10), fun _ => rfl⟩
    · refine al_0 X d_S_noteRange_13 ?_
      refine cl_S_206 X (c_S_countNote _ g N0 h hn w.hs) w.hs d_S_noteRange_14 (by refine ⟨?_, ?_⟩ <;> first | decide | (dsimp only; first | done | omega)) (by first | decide | (simp only [List.map, rf_cat, cat_i, cat_l, List.sum_cons, List.sum_nil]; first | done | decide | omega)) ⟨(by first | omega | decide | (dsimp only; first | done | omega)), (by first | omega | decide | (dsimp only; first | done | omega))⟩ (fun _ _ z => z.elim) ?_
      rintro h' rfl
      have w1 := w.setS ck sf (nt + 1) w.hv
      have k1 := (w1.hu _ (List.mem_of_getElem? ht))
      obtain ⟨k1, k2, k3, k4⟩ := k1
      refine al_1 X d_S_noteRange_17 ?_
      refine nw_S_209 X (by first | omega | decide | (dsimp only; first | done | omega)) (by first | omega | decide | (dsimp only; first | done | omega)) d_S_noteRange_18 (fun q hq => ?_)
      have k5 := mUp_nn hq k1
      have k6 : (mUp (mUp h s (cS (some ta) (nI tl.length) ck sf (nt + 1) (ptr kl))) q (.inr (2, [.int 0, .int 0, va_rf none]))) a = some (cTx lv sn se sp ha (ptr ws) (ptr rs) (ptr ps)) := by rw [mUp_n _ _ k5]; exact k1
      refine V_dup X d_S_noteRange_21 (by first | rfl | exact rf_cat _) ?_
      refine il_2 X d_S_noteRange_22 ?_
      refine il_3 X d_S_noteRange_23 ?_
      refine al_1 X d_S_noteRange_24 ?_
      refine gf_S_211 X (by assumption) d_S_noteRange_25 ?_
      refine cl_S_215 X (c_Range_init _ g N0 _ lo hi (ptr rs) (mUp_s _ _ _)) d_S_noteRange_28 (by refine ⟨?_, ?_⟩ <;> first | decide | (dsimp only; first | done | omega)) (by first | decide | (simp only [List.map, rf_cat, cat_i, cat_l, List.sum_cons, List.sum_nil]; first | done | decide | omega)) ⟨(by first | omega | decide | (dsimp only; first | done | omega)), (by first | omega | decide | (dsimp only; first | done | omega))⟩ ?_
      rintro h' rfl
      rw [mUp_uu]
      have w2 := w1.fresh hq (cRng (lo, hi) (ptr rs))
      have hc := w2.hu _ (List.mem_of_getElem? ht)
      obtain ⟨hc1, hc2, hc3, hc4⟩ := hc
      refine pf_S_211 X (by assumption) d_S_noteRange_31 ?_
      refine V_vret X rfl d_S_noteRange_34 (by first | omega | decide | (dsimp only; first | done | omega)) (by first | omega | decide | (dsimp only; first | done | omega)) ?_
      refine ⟨rfl, fun _ => ⟨q, ?_⟩, fun z => absurd ⟨c_5, Int32.not_lt.mp c_10⟩ z⟩
      exact w2.setT (rs := (q, lo, hi) :: rs) ht hc2 ⟨mUp_s _ _ _, hc3⟩ hc4

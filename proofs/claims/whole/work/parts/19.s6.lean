-- the class's face: begin, read, found, write, erase, sum, key
theorem txAt_s {tl : List CT} {n : Int32} {t : CT} (e : txAt tl n = some t) : ∃ i, n = nI i ∧ i < 2 ^ 31 ∧ tl[i]? = some t := by
  rw [txAt] at e
  split at e
  · cases e
  case isFalse hn =>
    obtain ⟨j, hj, rfl⟩ := nI_of hn
    exact ⟨j, rfl, hj, by rwa [nI_clamp hj] at e⟩
def oXp (tl : List CT) (n : Int32) (h : Mp) : String → Mp → Prop := fun E h' => ((E = "java/lang/IndexOutOfBoundsException" ∧ txAt tl n = none) ∨ (E = "java/lang/IllegalStateException" ∧ ∃ t, txAt tl n = some t ∧ ctS t ≠ 0)) ∧ h' = h
/-- a new transaction behind the others -/
theorem WorldV.addT {vb : Int32} {g : GG} {s ta : Nat} {h : Mp} {ck sf nt : Int32} {kl : LK} {tl : List CT} (w : WorldV vb g s ta h ck sf nt kl tl) {f : Nat → Option Nat} (ha : h ta = some (qarr g f)) (hf : TA f tl) {q : Nat} (hq : h q = none) (hl : tl.length < 120) (lv sn : Int32) : WorldV vb g s ta (mUp (mUp (mUp h q (cTx lv sn 0 (-1) 0 none none none)) ta (qarr g (va_up f tl.length (some q)))) s (cS (some ta) (nI (tl.length + 1)) ck sf nt (ptr kl))) ck sf nt kl (tl ++ [(q, lv, sn, 0, -1, 0, [], [], [])]) := by
  have w1 := w.fresh hq (cTx lv sn 0 (-1) 0 none none none)
  have hqta : q ≠ ta := Ne.symm (mUp_nn hq ha)
  have hqs : q ≠ s := Ne.symm (mUp_nn hq w.hs)
  have hts : ta ≠ s := mUp_ne w.hs ha (by intro z; cases z)
  have ha1 : (mUp h q (cTx lv sn 0 (-1) 0 none none none)) ta = some (qarr g f) := by rw [mUp_n _ _ (Ne.symm hqta)]; exact ha
  generalize hh : mUp h q (cTx lv sn 0 (-1) 0 none none none) = h1 at w1 ha1
  have hq1 : h1 q = some (cTx lv sn 0 (-1) 0 none none none) := by rw [← hh]; exact mUp_s _ _ _
  have n1 : ∀ c, 100 ≠ c → ∀ e0, h1 ta = some e0 → kd e0 ≠ c := fun c hc => no_kd ha1 hc
  have hs1 : (mUp h1 ta (qarr g (va_up f tl.length (some q)))) s = some (cS (some ta) (nI tl.length) ck sf nt (ptr kl)) := by rw [mUp_n _ _ (Ne.symm hts)]; exact w1.hs
  have n2 : ∀ c, 6 ≠ c → ∀ e0, (mUp h1 ta (qarr g (va_up f tl.length (some q)))) s = some e0 → kd e0 ≠ c := fun c hc => no_kd hs1 hc
  refine ⟨by rw [mUp_s, List.length_append]; rfl, ⟨_, by rw [mUp_n _ _ hts]; exact mUp_s _ _ _, ?_, ?_⟩, keys_up (n2 0 (by decide)) (n2 4 (by decide)) (keys_up (n1 0 (by decide)) (n1 4 (by decide)) w1.hk), w.ho, fun t ht => ?_, ?_, w.hw, w.hv⟩
  · rw [List.length_append]; simp; omega
  · intro j hj
    by_cases e : j = tl.length
    · subst e
      rw [va_up_self, List.getElem?_append_right (Nat.le_refl _), Nat.sub_self]
      rfl
    · rw [va_up_ne _ _ e, hf.2 j hj]
      by_cases hjl : j < tl.length
      · rw [List.getElem?_append_left hjl]
      · rw [List.getElem?_eq_none_iff.mpr (by omega), List.getElem?_eq_none_iff.mpr (by simp; omega)]
  · rcases List.mem_append.mp ht with ht | ht
    · exact txOk_up (n2 1 (by decide)) (n2 2 (by decide)) (n2 5 (by decide)) (txOk_ne (n2 3 (by decide)) (txOk_up (n1 1 (by decide)) (n1 2 (by decide)) (n1 5 (by decide)) (txOk_ne (n1 3 (by decide)) (w1.hu t ht)) (w1.hu t ht))) (txOk_up (n1 1 (by decide)) (n1 2 (by decide)) (n1 5 (by decide)) (txOk_ne (n1 3 (by decide)) (w1.hu t ht)) (w1.hu t ht))
    · rw [List.mem_singleton] at ht
      subst ht
      refine ⟨?_, trivial, trivial, trivial⟩
      rw [mUp_n _ _ hqs, mUp_n _ _ hqta]
      exact hq1
  · rw [List.map_append, List.nodup_append]
    refine ⟨w.hd, by simp, fun a ha b hb => ?_⟩
    simp only [List.map_cons, List.map_nil, List.mem_singleton] at hb
    subst hb
    obtain ⟨t, ht, rfl⟩ := List.mem_map.mp ha
    obtain ⟨e, he, -⟩ := tx_cell (w.hu t ht)
    exact mUp_nn hq he
theorem c_S_begin (l : Launch) (g : GG) (N0 : Nat → Prop) (h : Mp) {s ta : Nat} {ck sf nt : Int32} {kl : LK} {tl : List CT} (lv : Int32) (w : World g s ta h ck sf nt kl tl) : Ct l y_S_begin b_S_begin 3 (some .int) 6 90 1 8 g N0 h [va_rf (some s), .int lv] (pI (fun r h' => (lv = 0 ∨ lv = 1) ∧ tl.length < 120 ∧ r = nI tl.length ∧ ∃ q, World g s ta h' ck sf nt kl (tl ++ [(q, lv, ck, 0, -1, 0, [], [], [])]))) (fun E h' => ((E = "java/lang/IllegalArgumentException" ∧ ¬ (lv = 0 ∨ lv = 1)) ∨ (E = "java/lang/IllegalStateException" ∧ (lv = 0 ∨ lv = 1) ∧ tl.length = 120)) ∧ h' = h) := by
  refine Ct_of "SnapshotStore" "begin" [some (va_rf (some s)), some (.int lv), none] (by decide) rfl rfl (by simp [lg_sl, rf_cat, cat_i, cat_l]) (by simp [toL, lv_args, rf_cat, cat_i, cat_l]) (fun K hl X => ?_)
  have hs := w.hs
  obtain ⟨f, hq, hf⟩ := w.ha
  have hlen := hf.1
  have ok : (lv = 0 ∨ lv = 1) → V K g N0 3 (RQ K g N0 (pI (fun r h' => (lv = 0 ∨ lv = 1) ∧ tl.length < 120 ∧ r = nI tl.length ∧ ∃ q, World g s ta h' ck sf nt kl (tl ++ [(q, lv, ck, 0, -1, 0, [], [], [])]))) (fun E h' => ((E = "java/lang/IllegalArgumentException" ∧ ¬ (lv = 0 ∨ lv = 1)) ∨ (E = "java/lang/IllegalStateException" ∧ (lv = 0 ∨ lv = 1) ∧ tl.length = 120)) ∧ h' = h) 1 8) h 0 0 19 [some (va_rf (some s)), some (.int lv), none] [] := by
    intro hlv
    refine al_0 X d_S_begin_19 ?_
    refine gf_S_22 X (by assumption) d_S_begin_20 ?_
    refine al_0 X d_S_begin_23 ?_
    refine gf_S_11 X (by assumption) d_S_begin_24 ?_
    refine V_alen X 3 hq rfl d_S_begin_27 ?_
    refine V_icmp_lt (tgt := 41) X d_S_begin_28 (by decide) (fun c_28 => ?_) (fun c_28 => ?_)
    · have hl : tl.length < 120 := (nI_ltI (b := 120) (by omega) (by decide)).mp c_28
      refine al_0 X d_S_begin_41 ?_
      refine gf_S_22 X (by assumption) d_S_begin_42 ?_
      refine is_2 X d_S_begin_45 rfl (by first | exact okp_n | exact okp_i | exact okp_r) ?_
      refine al_0 X d_S_begin_46 ?_
      refine gf_S_11 X (by assumption) d_S_begin_47 ?_
      refine il_2 X d_S_begin_50 ?_
      refine nw_S_9 X (by first | omega | decide | (dsimp only; first | done | omega)) (by first | omega | decide | (dsimp only; first | done | omega)) d_S_begin_51 (fun q hq2 => ?_)
      have k1 : (mUp h q (.inr (3, [.int 0, .int 0, .int 0, .int 0, .int 0, va_rf none, va_rf none, va_rf none]))) s = some (cS (some ta) (nI tl.length) ck sf nt (ptr kl)) := by rw [mUp_n _ _ (mUp_nn hq2 hs)]; exact hs
      refine V_dup X d_S_begin_54 (by first | rfl | exact rf_cat _) ?_
      refine il_1 X d_S_begin_55 ?_
      refine al_0 X d_S_begin_56 ?_
      refine gf_S_31 X (by assumption) d_S_begin_57 ?_
      refine cl_S_34 X (c_Tx_init _ g N0 _ lv ck (mUp_s _ _ _)) d_S_begin_60 (by refine ⟨?_, ?_⟩ <;> first | decide | (dsimp only; first | done | omega)) (by first | decide | (simp only [List.map, rf_cat, cat_i, cat_l, List.sum_cons, List.sum_nil]; first | done | decide | omega)) ⟨(by first | omega | decide | (dsimp only; first | done | omega)), (by first | omega | decide | (dsimp only; first | done | omega))⟩ ?_
      rintro h' rfl
      rw [mUp_uu]
      have k2 : (mUp h q (cTx lv ck 0 (-1) 0 none none none)) ta = some (qarr g f) := by rw [mUp_n _ _ (mUp_nn hq2 hq)]; exact hq
      refine V_aast X k2 (mUp_s _ _ _) rfl hl (by decide) d_S_begin_63 ?_
      have k3 : (mUp (mUp h q (cTx lv ck 0 (-1) 0 none none none)) ta (qarr g (va_up f tl.length (some q)))) s = some (cS (some ta) (nI tl.length) ck sf nt (ptr kl)) := by
        rw [mUp_n _ _ (mUp_ne k2 (b := s) (by rw [mUp_n _ _ (mUp_nn hq2 hs)]; exact hs) (by intro z; cases z)), mUp_n _ _ (mUp_nn hq2 hs)]; exact hs
      refine al_0 X d_S_begin_64 ?_
      refine il_2 X d_S_begin_65 ?_
      refine V_iconst (v := 1) X d_S_begin_66 (by decide) ?_
      refine V_iadd X d_S_begin_67 ?_
      rw [nI_1]
      refine pf_S_22 X (by assumption) d_S_begin_68 ?_
      refine il_2 X d_S_begin_71 ?_
      refine V_iret X rfl d_S_begin_72 (by first | omega | decide | (dsimp only; first | done | omega)) (by first | omega | decide | (dsimp only; first | done | omega)) ?_
      exact ⟨_, rfl, hlv, hl, rfl, q, w.addT hq hf hq2 hl lv ck⟩
    · have hl : tl.length = 120 := by
        have : ¬ tl.length < 120 := fun z => c_28 ((nI_ltI (b := 120) (by omega) (by decide)).mpr z)
        omega
      exact thr_2 X 1 rfl d_S_begin_31 d_S_begin_34 d_S_begin_35 d_S_begin_37 d_S_begin_40 (by decide) (by decide) (by decide) (by decide) (by decide) (by decide) ⟨Or.inr ⟨rfl, hlv, hl⟩, rfl⟩
  refine il_1 X d_S_begin_0 ?_
  refine V_if_eq (tgt := 19) X d_S_begin_1 (by decide) (fun c_1 => ?_) (fun c_1 => ?_)
  · exact ok (Or.inl c_1)
  · refine il_1 X d_S_begin_4 ?_
    refine V_iconst (v := 1) X d_S_begin_5 (by decide) ?_
    refine V_icmp_eq (tgt := 19) X d_S_begin_6 (by decide) (fun c_6 => ?_) (fun c_6 => ?_)
    · exact ok (Or.inr c_6)
    · exact thr_1 X 0 rfl d_S_begin_9 d_S_begin_12 d_S_begin_13 d_S_begin_15 d_S_begin_18 (by decide) (by decide) (by decide) (by decide) (by decide) (by decide) ⟨Or.inl ⟨rfl, fun z => z.elim c_1 c_6⟩, rfl⟩
-- what a range noted makes of a transaction
def noteRel (lo hi : Int32) (i : Nat) (t : CT) (nt : Int32) (tl : List CT) (nt' : Int32) (tl' : List CT) : Prop := (noted lo hi t ∧ nt' = nt + 1 ∧ ∃ q, tl' = tl.set i (noteT lo hi q t)) ∨ (¬ noted lo hi t ∧ nt' = nt ∧ tl' = tl)
theorem noteRel_of {g : GG} {s ta : Nat} {h h' : Mp} {ck sf nt : Int32} {kl : LK} {tl : List CT} {i : Nat} {t : CT} {lo hi : Int32} (w : World g s ta h ck sf nt kl tl) (hp : (noted lo hi t → ∃ q, World g s ta h' ck sf (nt + 1) kl (tl.set i (noteT lo hi q t))) ∧ (¬ noted lo hi t → h' = h)) : ∃ nt' tl', noteRel lo hi i t nt tl nt' tl' ∧ World g s ta h' ck sf nt' kl tl' := by
  by_cases hc : noted lo hi t
  · obtain ⟨q, hw⟩ := hp.1 hc
    exact ⟨_, _, Or.inl ⟨hc, rfl, q, rfl⟩, hw⟩
  · rw [hp.2 hc]
    exact ⟨_, _, Or.inr ⟨hc, rfl, rfl⟩, w⟩
theorem note_tx {lo hi : Int32} {i : Nat} {nt nt' : Int32} {tl tl' : List CT} {h' : Mp} {a : Nat} {lv sn se sp ha : Int32} {ws : LW} {rs : LR} {ps : CP} (hr : noteRel lo hi i (a, lv, sn, se, sp, ha, ws, rs, ps) nt tl nt' tl') (ht : tl[i]? = some (a, lv, sn, se, sp, ha, ws, rs, ps)) (hu : ∀ t ∈ tl', txOk h' t) : ∃ rs', txOk h' (a, lv, sn, se, sp, ha, ws, rs', ps) := by
  rcases hr with ⟨-, -, q, rfl⟩ | ⟨-, -, rfl⟩
  · exact ⟨_, hu (noteT lo hi q (a, lv, sn, se, sp, ha, ws, rs, ps)) (List.mem_of_getElem? (i := i) (by rw [List.getElem?_set_self (List.getElem?_eq_some_iff.mp ht).1]))⟩
  · exact ⟨_, hu _ (List.mem_of_getElem? ht)⟩
def seenT (kl : LK) (n : Int32) : CT → Int64
  | (_, _, sn, _, _, _, ws, _, _) => match kfind n kl with
    | none => 4294967296
    | some (_, m, vs) => seenC sn ws m vs
/-- the end of a call that noted one key and read -/
def readPost (g : GG) (s ta : Nat) (ck sf nt : Int32) (kl : LK) (tl : List CT) (n lo hi : Int32) (t : CT) (i : Nat) (h' : Mp) : Prop := n = nI i ∧ tl[i]? = some t ∧ ctS t = 0 ∧ ∃ nt' tl', noteRel lo hi i t nt tl nt' tl' ∧ World g s ta h' ck sf nt' kl tl'
theorem c_S_read (l : Launch) (g : GG) (N0 : Nat → Prop) (h : Mp) {s ta : Nat} {ck sf nt : Int32} {kl : LK} {tl : List CT} (n key : Int32) (hn : nt < 512) (w : World g s ta h ck sf nt kl tl) : Ct l y_S_read b_S_read 4 (some .int) 8 134 3 15 g N0 h [va_rf (some s), .int n, .int key] (pI (fun r h' => ∃ t i, readPost g s ta ck sf nt kl tl n key key t i h' ∧ r = voz (seenT kl key t))) (oXp tl n h) := by
  refine Ct_of "SnapshotStore" "read" [some (va_rf (some s)), some (.int n), some (.int key), none] (by decide) rfl rfl (by simp [lg_sl, rf_cat, cat_i, cat_l]) (by simp [toL, lv_args, rf_cat, cat_i, cat_l]) (fun K hl X => ?_)
  refine al_0 X d_S_read_0 ?_
  refine il_1 X d_S_read_1 ?_
  refine cl_S_37 X (c_S_openOne _ g N0 h n w) w.hs d_S_read_2 (by refine ⟨?_, ?_⟩ <;> first | decide | (dsimp only; first | done | omega)) (by first | decide | (simp only [List.map, rf_cat, cat_i, cat_l, List.sum_cons, List.sum_nil]; first | done | decide | omega)) ⟨(by first | omega | decide | (dsimp only; first | done | omega)), (by first | omega | decide | (dsimp only; first | done | omega))⟩ (fun E h' hx => VX_out X rfl (by decide) (by decide) hx) ?_
  rintro r h' ⟨⟨t, ht, hse, rfl⟩, rfl⟩
  obtain ⟨i, hni, -, hti⟩ := txAt_s ht
  refine as_3 X d_S_read_5 rfl (by first | exact okp_n | exact okp_i | exact okp_r) ?_
  refine al_0 X d_S_read_6 ?_
  refine al_3 X d_S_read_7 ?_
  refine il_2 X d_S_read_8 ?_
  refine il_2 X d_S_read_9 ?_
  refine cl_S_41 X (c_S_noteRange _ g N0 h' key key hn w hti) w.hs d_S_read_10 (by refine ⟨?_, ?_⟩ <;> first | decide | (dsimp only; first | done | omega)) (by first | decide | (simp only [List.map, rf_cat, cat_i, cat_l, List.sum_cons, List.sum_nil]; first | done | decide | omega)) ⟨(by first | omega | decide | (dsimp only; first | done | omega)), (by first | omega | decide | (dsimp only; first | done | omega))⟩ (fun _ _ z => z.elim) ?_
  rintro h2 hp2
  obtain ⟨nt', tl', hrel, w2⟩ := noteRel_of w hp2
  have hpost : readPost g s ta ck sf nt kl tl n key key t i h2 := ⟨hni, hti, hse, nt', tl', hrel, w2⟩
  obtain ⟨a, lv, sn, se, sp, ha, ws, rs, ps⟩ := t
  obtain ⟨rs', u1, u2, u3, u4⟩ := note_tx hrel hti w2.hu
  refine al_3 X d_S_read_13 ?_
  refine al_0 X d_S_read_14 ?_
  refine il_2 X d_S_read_15 ?_
  refine cl_S_45 X (c_S_keyNamed _ g N0 h2 key w2.hs w2.hk w2.ho) w2.hs d_S_read_16 (by refine ⟨?_, ?_⟩ <;> first | decide | (dsimp only; first | done | omega)) (by first | decide | (simp only [List.map, rf_cat, cat_i, cat_l, List.sum_cons, List.sum_nil]; first | done | decide | omega)) ⟨(by first | omega | decide | (dsimp only; first | done | omega)), (by first | omega | decide | (dsimp only; first | done | omega))⟩ (fun _ _ z => z.elim) ?_
  rintro r h3 ⟨rfl, rfl⟩
  cases hf : kfind key kl with
  | none =>
    refine cl_S_49 X (c_S_seenBy0 _ g N0 h3) d_S_read_19 (by refine ⟨?_, ?_⟩ <;> first | decide | (dsimp only; first | done | omega)) (by first | decide | (simp only [List.map, rf_cat, cat_i, cat_l, List.sum_cons, List.sum_nil]; first | done | decide | omega)) ⟨(by first | omega | decide | (dsimp only; first | done | omega)), (by first | omega | decide | (dsimp only; first | done | omega))⟩ (fun _ _ z => z.elim) ?_
    rintro r h4 ⟨rfl, rfl⟩
    refine cl_S_53 X (c_S_valueOrZero _ g N0 h4 _) d_S_read_22 (by refine ⟨?_, ?_⟩ <;> first | decide | (dsimp only; first | done | omega)) (by first | decide | (simp only [List.map, rf_cat, cat_i, cat_l, List.sum_cons, List.sum_nil]; first | done | decide | omega)) ⟨(by first | omega | decide | (dsimp only; first | done | omega)), (by first | omega | decide | (dsimp only; first | done | omega))⟩ (fun _ _ z => z.elim) ?_
    rintro r h5 ⟨rfl, rfl⟩
    refine V_iret X rfl d_S_read_25 (by first | omega | decide | (dsimp only; first | done | omega)) (by first | omega | decide | (dsimp only; first | done | omega)) ?_
    exact ⟨_, rfl, _, i, hpost, by simp [seenT, hf]⟩
  | some x =>
    obtain ⟨b, m, vs⟩ := x
    obtain ⟨nx, k1, k2⟩ := keys_mem w2.hk (List.mem_of_find?_eq_some hf)
    refine cl_S_49 X (c_S_seenBy _ g N0 h3 u1 u2 k1 k2) d_S_read_19 (by refine ⟨?_, ?_⟩ <;> first | decide | (dsimp only; first | done | omega)) (by first | decide | (simp only [List.map, rf_cat, cat_i, cat_l, List.sum_cons, List.sum_nil]; first | done | decide | omega)) ⟨(by first | omega | decide | (dsimp only; first | done | omega)), (by first | omega | decide | (dsimp only; first | done | omega))⟩ (fun _ _ z => z.elim) ?_
    rintro r h4 ⟨rfl, rfl⟩
    refine cl_S_53 X (c_S_valueOrZero _ g N0 h4 _) d_S_read_22 (by refine ⟨?_, ?_⟩ <;> first | decide | (dsimp only; first | done | omega)) (by first | decide | (simp only [List.map, rf_cat, cat_i, cat_l, List.sum_cons, List.sum_nil]; first | done | decide | omega)) ⟨(by first | omega | decide | (dsimp only; first | done | omega)), (by first | omega | decide | (dsimp only; first | done | omega))⟩ (fun _ _ z => z.elim) ?_
    rintro r h5 ⟨rfl, rfl⟩
    refine V_iret X rfl d_S_read_25 (by first | omega | decide | (dsimp only; first | done | omega)) (by first | omega | decide | (dsimp only; first | done | omega)) ?_
    exact ⟨_, rfl, _, i, hpost, by simp [seenT, hf]⟩
theorem c_S_found (l : Launch) (g : GG) (N0 : Nat → Prop) (h : Mp) {s ta : Nat} {ck sf nt : Int32} {kl : LK} {tl : List CT} (n key : Int32) (hn : nt < 512) (w : World g s ta h ck sf nt kl tl) : Ct l y_S_found b_S_found 4 (some .boolean) 8 134 3 15 g N0 h [va_rf (some s), .int n, .int key] (pI (fun r h' => ∃ t i, readPost g s ta ck sf nt kl tl n key key t i h' ∧ r = b01 (!decide (seenT kl key t = 4294967296)))) (oXp tl n h) := by
  refine Ct_of "SnapshotStore" "found" [some (va_rf (some s)), some (.int n), some (.int key), none] (by decide) rfl rfl (by simp [lg_sl, rf_cat, cat_i, cat_l]) (by simp [toL, lv_args, rf_cat, cat_i, cat_l]) (fun K hl X => ?_)
  refine al_0 X d_S_found_0 ?_
  refine il_1 X d_S_found_1 ?_
  refine cl_S_37 X (c_S_openOne _ g N0 h n w) w.hs d_S_found_2 (by refine ⟨?_, ?_⟩ <;> first | decide | (dsimp only; first | done | omega)) (by first | decide | (simp only [List.map, rf_cat, cat_i, cat_l, List.sum_cons, List.sum_nil]; first | done | decide | omega)) ⟨(by first | omega | decide | (dsimp only; first | done | omega)), (by first | omega | decide | (dsimp only; first | done | omega))⟩ (fun E h' hx => VX_out X rfl (by decide) (by decide) hx) ?_
  rintro r h' ⟨⟨t, ht, hse, rfl⟩, rfl⟩
  obtain ⟨i, hni, -, hti⟩ := txAt_s ht
  refine as_3 X d_S_found_5 rfl (by first | exact okp_n | exact okp_i | exact okp_r) ?_
  refine al_0 X d_S_found_6 ?_
  refine al_3 X d_S_found_7 ?_
  refine il_2 X d_S_found_8 ?_
  refine il_2 X d_S_found_9 ?_
  refine cl_S_41 X (c_S_noteRange _ g N0 h' key key hn w hti) w.hs d_S_found_10 (by refine ⟨?_, ?_⟩ <;> first | decide | (dsimp only; first | done | omega)) (by first | decide | (simp only [List.map, rf_cat, cat_i, cat_l, List.sum_cons, List.sum_nil]; first | done | decide | omega)) ⟨(by first | omega | decide | (dsimp only; first | done | omega)), (by first | omega | decide | (dsimp only; first | done | omega))⟩ (fun _ _ z => z.elim) ?_
  rintro h2 hp2
  obtain ⟨nt', tl', hrel, w2⟩ := noteRel_of w hp2
  have hpost : readPost g s ta ck sf nt kl tl n key key t i h2 := ⟨hni, hti, hse, nt', tl', hrel, w2⟩
  obtain ⟨a, lv, sn, se, sp, ha, ws, rs, ps⟩ := t
  obtain ⟨rs', u1, u2, u3, u4⟩ := note_tx hrel hti w2.hu
  refine al_3 X d_S_found_13 ?_
  refine al_0 X d_S_found_14 ?_
  refine il_2 X d_S_found_15 ?_
  refine cl_S_45 X (c_S_keyNamed _ g N0 h2 key w2.hs w2.hk w2.ho) w2.hs d_S_found_16 (by refine ⟨?_, ?_⟩ <;> first | decide | (dsimp only; first | done | omega)) (by first | decide | (simp only [List.map, rf_cat, cat_i, cat_l, List.sum_cons, List.sum_nil]; first | done | decide | omega)) ⟨(by first | omega | decide | (dsimp only; first | done | omega)), (by first | omega | decide | (dsimp only; first | done | omega))⟩ (fun _ _ z => z.elim) ?_
  rintro r h3 ⟨rfl, rfl⟩
  cases hf : kfind key kl with
  | none =>
    refine cl_S_49 X (c_S_seenBy0 _ g N0 h3) d_S_found_19 (by refine ⟨?_, ?_⟩ <;> first | decide | (dsimp only; first | done | omega)) (by first | decide | (simp only [List.map, rf_cat, cat_i, cat_l, List.sum_cons, List.sum_nil]; first | done | decide | omega)) ⟨(by first | omega | decide | (dsimp only; first | done | omega)), (by first | omega | decide | (dsimp only; first | done | omega))⟩ (fun _ _ z => z.elim) ?_
    rintro r h4 ⟨rfl, rfl⟩
    refine V_ldc2 X k_65 d_S_found_22 ?_
    refine V_lcmp X d_S_found_25 ?_
    refine V_if_eq (tgt := 33) X d_S_found_26 (by decide) (fun c_26 => ?_) (fun c_26 => ?_)
    · refine V_iconst (v := 0) X d_S_found_33 (by decide) ?_
      refine V_zret X rfl (by first | rfl | exact nr_z (by assumption)) d_S_found_34 (by first | omega | decide | (dsimp only; first | done | omega)) (by first | omega | decide | (dsimp only; first | done | omega)) ?_
      exact ⟨_, rfl, _, i, hpost, by simp [seenT, hf, b01]⟩
    · exact absurd ((lg_cmp_eq _ _).mpr rfl) c_26
  | some x =>
    obtain ⟨b, m, vs⟩ := x
    obtain ⟨nx, k1, k2⟩ := keys_mem w2.hk (List.mem_of_find?_eq_some hf)
    refine cl_S_49 X (c_S_seenBy _ g N0 h3 u1 u2 k1 k2) d_S_found_19 (by refine ⟨?_, ?_⟩ <;> first | decide | (dsimp only; first | done | omega)) (by first | decide | (simp only [List.map, rf_cat, cat_i, cat_l, List.sum_cons, List.sum_nil]; first | done | decide | omega)) ⟨(by first | omega | decide | (dsimp only; first | done | omega)), (by first | omega | decide | (dsimp only; first | done | omega))⟩ (fun _ _ z => z.elim) ?_
    rintro r h4 ⟨rfl, rfl⟩
    refine V_ldc2 X k_65 d_S_found_22 ?_
    refine V_lcmp X d_S_found_25 ?_
    refine V_if_eq (tgt := 33) X d_S_found_26 (by decide) (fun c_26 => ?_) (fun c_26 => ?_)
    · refine V_iconst (v := 0) X d_S_found_33 (by decide) ?_
      refine V_zret X rfl (by first | rfl | exact nr_z (by assumption)) d_S_found_34 (by first | omega | decide | (dsimp only; first | done | omega)) (by first | omega | decide | (dsimp only; first | done | omega)) ?_
      exact ⟨_, rfl, _, i, hpost, by simp [seenT, hf, b01, (lg_cmp_eq _ _).mp c_26]⟩
    · have e : ¬ seenC sn ws m vs = 4294967296 := fun e => c_26 ((lg_cmp_eq _ _).mpr e)
      refine V_iconst (v := 1) X d_S_found_29 (by decide) ?_
      refine V_goto (tgt := 34) X d_S_found_30 (by decide) ?_
      refine V_zret X rfl (by first | rfl | exact nr_z (by assumption)) d_S_found_34 (by first | omega | decide | (dsimp only; first | done | omega)) (by first | omega | decide | (dsimp only; first | done | omega)) ?_
      exact ⟨_, rfl, _, i, hpost, by simp [seenT, hf, b01, e]⟩
-- write, erase
def putPost (g : GG) (s ta : Nat) (ck sf nt : Int32) (kl : LK) (tl : List CT) (n key : Int32) (c : Int64) (r : Int32) (h' : Mp) : Prop := ∃ t i, n = nI i ∧ tl[i]? = some t ∧ ctS t = 0 ∧ r = putK key (ctW t) ∧ ∃ kl' q, placed key kl kl' ∧ World g s ta h' ck sf (nt + 1) kl' (tl.set i (putT key c q t))
theorem c_S_write (l : Launch) (g : GG) (N0 : Nat → Prop) (h : Mp) {s ta : Nat} {ck sf nt : Int32} {kl : LK} {tl : List CT} (n key v : Int32) (hn : nt < 512) (w : World g s ta h ck sf nt kl tl) : Ct l y_S_write b_S_write 4 (some .int) 8 135 4 19 g N0 h [va_rf (some s), .int n, .int key, .int v] (pI (fun r h' => putPost g s ta ck sf nt kl tl n key v.toInt64 r h')) (oXp tl n h) := by
  refine Ct_of "SnapshotStore" "write" [some (va_rf (some s)), some (.int n), some (.int key), some (.int v)] (by decide) rfl rfl (by simp [lg_sl, rf_cat, cat_i, cat_l]) (by simp [toL, lv_args, rf_cat, cat_i, cat_l]) (fun K hl X => ?_)
  refine al_0 X d_S_write_0 ?_
  refine al_0 X d_S_write_1 ?_
  refine il_1 X d_S_write_2 ?_
  refine cl_S_37 X (c_S_openOne _ g N0 h n w) w.hs d_S_write_3 (by refine ⟨?_, ?_⟩ <;> first | decide | (dsimp only; first | done | omega)) (by first | decide | (simp only [List.map, rf_cat, cat_i, cat_l, List.sum_cons, List.sum_nil]; first | done | decide | omega)) ⟨(by first | omega | decide | (dsimp only; first | done | omega)), (by first | omega | decide | (dsimp only; first | done | omega))⟩ (fun E h' hx => VX_out X rfl (by decide) (by decide) hx) ?_
  rintro r h' ⟨⟨t, ht, hse, rfl⟩, rfl⟩
  obtain ⟨i, hni, -, hti⟩ := txAt_s ht
  refine il_2 X d_S_write_6 ?_
  refine il_3 X d_S_write_7 ?_
  refine V_i2l X d_S_write_8 ?_
  refine cl_S_59 X (c_S_put _ g N0 h' key v.toInt64 hn w hti) w.hs d_S_write_9 (by refine ⟨?_, ?_⟩ <;> first | decide | (dsimp only; first | done | omega)) (by first | decide | (simp only [List.map, rf_cat, cat_i, cat_l, List.sum_cons, List.sum_nil]; first | done | decide | omega)) ⟨(by first | omega | decide | (dsimp only; first | done | omega)), (by first | omega | decide | (dsimp only; first | done | omega))⟩ (fun _ _ z => z.elim) ?_
  rintro r h2 ⟨rfl, hp⟩
  refine V_iret X rfl d_S_write_12 (by first | omega | decide | (dsimp only; first | done | omega)) (by first | omega | decide | (dsimp only; first | done | omega)) ?_
  exact ⟨_, rfl, t, i, hni, hti, hse, rfl, hp⟩
theorem c_S_erase (l : Launch) (g : GG) (N0 : Nat → Prop) (h : Mp) {s ta : Nat} {ck sf nt : Int32} {kl : LK} {tl : List CT} (n key : Int32) (hn : nt < 512) (w : World g s ta h ck sf nt kl tl) : Ct l y_S_erase b_S_erase 3 (some .int) 8 135 4 19 g N0 h [va_rf (some s), .int n, .int key] (pI (fun r h' => putPost g s ta ck sf nt kl tl n key 4294967296 r h')) (oXp tl n h) := by
  refine Ct_of "SnapshotStore" "erase" [some (va_rf (some s)), some (.int n), some (.int key)] (by decide) rfl rfl (by simp [lg_sl, rf_cat, cat_i, cat_l]) (by simp [toL, lv_args, rf_cat, cat_i, cat_l]) (fun K hl X => ?_)
  refine al_0 X d_S_erase_0 ?_
  refine al_0 X d_S_erase_1 ?_
  refine il_1 X d_S_erase_2 ?_
  refine cl_S_37 X (c_S_openOne _ g N0 h n w) w.hs d_S_erase_3 (by refine ⟨?_, ?_⟩ <;> first | decide | (dsimp only; first | done | omega)) (by first | decide | (simp only [List.map, rf_cat, cat_i, cat_l, List.sum_cons, List.sum_nil]; first | done | decide | omega)) ⟨(by first | omega | decide | (dsimp only; first | done | omega)), (by first | omega | decide | (dsimp only; first | done | omega))⟩ (fun E h' hx => VX_out X rfl (by decide) (by decide) hx) ?_
  rintro r h' ⟨⟨t, ht, hse, rfl⟩, rfl⟩
  obtain ⟨i, hni, -, hti⟩ := txAt_s ht
  refine il_2 X d_S_erase_6 ?_
  refine V_ldc2 X k_65 d_S_erase_7 ?_
  refine cl_S_59 X (c_S_put _ g N0 h' key 4294967296 hn w hti) w.hs d_S_erase_10 (by refine ⟨?_, ?_⟩ <;> first | decide | (dsimp only; first | done | omega)) (by first | decide | (simp only [List.map, rf_cat, cat_i, cat_l, List.sum_cons, List.sum_nil]; first | done | decide | omega)) ⟨(by first | omega | decide | (dsimp only; first | done | omega)), (by first | omega | decide | (dsimp only; first | done | omega))⟩ (fun _ _ z => z.elim) ?_
  rintro r h2 ⟨rfl, hp⟩
  refine V_iret X rfl d_S_erase_13 (by first | omega | decide | (dsimp only; first | done | omega)) (by first | omega | decide | (dsimp only; first | done | omega)) ?_
  exact ⟨_, rfl, t, i, hni, hti, hse, rfl, hp⟩
-- sum
def ksum (sn : Int32) (ws : LW) (lo hi : Int32) : Int64 → LK → Int64
  | acc, [] => acc
  | acc, (_, m, vs) :: t => ksum sn ws lo hi (if lo ≤ m ∧ m ≤ hi then acc + (voz (seenC sn ws m vs)).toInt64 else acc) t
theorem w_S_sum {K : Cx} {g : GG} {N0 : Nat → Prop} {h : Mp} {post : Option Value → Mp → Prop} {xp : String → Mp → Prop} {mc ms : Nat} (X : Fx K g N0 b_S_sum 8 "SnapshotStore" { frames := 8, cells := mc, slots := ms, locals := 134 } (some .long) "sum" []) {s a : Nat} {n lo hi : Int32} {lv sn se sp ha : Int32} {rg pl : Option Nat} {ws : LW} (ht : h a = some (cTx lv sn se sp ha (ptr ws) rg pl)) (hw : chain cWr h ws) {c0 s0 : Nat} (hc0 : c0 ≤ mc) (hs0 : s0 ≤ ms) : ∀ (kl : LK) (acc : Int64), keys h kl → post (some (.long (ksum sn ws lo hi acc kl))) h → V K g N0 8 (RQ K g N0 post xp mc ms)  h c0 s0 24 [some (va_rf (some s)), some (.int n), some (.int lo), some (.int hi), some (va_rf (some a)), some (.long acc), none, some (va_rf (ptr kl))] [] := by
  intro kl
  induction kl with
  | nil =>
    intro acc hv hp
    refine al_7 X d_S_sum_24 ?_
    refine V_ifnull (tgt := 73) X d_S_sum_26 (by decide) (fun c_26 => ?_) (fun b_26 c_26 => ?_)
    · refine ll_5 X d_S_sum_73 ?_
      refine V_lret X rfl d_S_sum_75 (by first | omega | decide | (dsimp only; first | done | omega)) (by first | omega | decide | (dsimp only; first | done | omega)) ?_
      exact hp
    · cases c_26
  | cons x t ih =>
    obtain ⟨b, m, vs⟩ := x
    intro acc hv hp
    obtain ⟨hv1, hv2, hv3⟩ := hv
    dsimp only [ptr]
    refine al_7 X d_S_sum_24 ?_
    refine V_ifnull (tgt := 73) X d_S_sum_26 (by decide) (fun c_26 => ?_) (fun b_26 c_26 => ?_)
    · cases c_26
    · refine al_7 X d_S_sum_29 ?_
      refine gf_S_67 X (by assumption) d_S_sum_31 ?_
      refine il_2 X d_S_sum_34 ?_
      refine V_icmp_lt (tgt := 63) X d_S_sum_35 (by decide) (fun c_35 => ?_) (fun c_35 => ?_)
      · refine al_7 X d_S_sum_63 ?_
        refine gf_S_72 X (by assumption) d_S_sum_65 ?_
        refine as_7 X d_S_sum_68 rfl (by first | exact okp_n | exact okp_i | exact okp_r) ?_
        refine V_goto (tgt := 24) X d_S_sum_70 (by decide) ?_
        exact ih acc hv3 (by rwa [ksum, if_neg (fun z => absurd z.1 (Int32.not_le.mpr c_35))] at hp)
      · refine al_7 X d_S_sum_38 ?_
        refine gf_S_67 X (by assumption) d_S_sum_40 ?_
        refine il_3 X d_S_sum_43 ?_
        refine V_icmp_gt (tgt := 63) X d_S_sum_44 (by decide) (fun c_44 => ?_) (fun c_44 => ?_)
        · refine al_7 X d_S_sum_63 ?_
          refine gf_S_72 X (by assumption) d_S_sum_65 ?_
          refine as_7 X d_S_sum_68 rfl (by first | exact okp_n | exact okp_i | exact okp_r) ?_
          refine V_goto (tgt := 24) X d_S_sum_70 (by decide) ?_
          exact ih acc hv3 (by rwa [ksum, if_neg (fun z => absurd z.2 (Int32.not_le.mpr c_44))] at hp)
        · refine ll_5 X d_S_sum_47 ?_
          refine al_4 X d_S_sum_49 ?_
          refine al_7 X d_S_sum_51 ?_
          refine cl_S_49 X (c_S_seenBy _ g N0 h ht hw hv1 hv2) d_S_sum_53 (by refine ⟨?_, ?_⟩ <;> first | decide | (dsimp only; first | done | omega)) (by first | decide | (simp only [List.map, rf_cat, cat_i, cat_l, List.sum_cons, List.sum_nil]; first | done | decide | omega)) ⟨(by first | omega | decide | (dsimp only; first | done | omega)), (by first | omega | decide | (dsimp only; first | done | omega))⟩ (fun _ _ z => z.elim) ?_
          rintro r h' ⟨rfl, rfl⟩
          refine cl_S_53 X (c_S_valueOrZero _ g N0 h' _) d_S_sum_56 (by refine ⟨?_, ?_⟩ <;> first | decide | (dsimp only; first | done | omega)) (by first | decide | (simp only [List.map, rf_cat, cat_i, cat_l, List.sum_cons, List.sum_nil]; first | done | decide | omega)) ⟨(by first | omega | decide | (dsimp only; first | done | omega)), (by first | omega | decide | (dsimp only; first | done | omega))⟩ (fun _ _ z => z.elim) ?_
          rintro r h2 ⟨rfl, rfl⟩
          refine V_i2l X d_S_sum_59 ?_
          refine V_ladd X d_S_sum_60 ?_
          refine ls_5 X d_S_sum_61 rfl (by first | exact okp_n | exact okp_i | exact okp_r) ?_
          refine al_7 X d_S_sum_63 ?_
          refine gf_S_72 X (by assumption) d_S_sum_65 ?_
          refine as_7 X d_S_sum_68 rfl (by first | exact okp_n | exact okp_i | exact okp_r) ?_
          refine V_goto (tgt := 24) X d_S_sum_70 (by decide) ?_
          exact ih _ hv3 (by rwa [ksum, if_pos ⟨Int32.not_lt.mp c_35, Int32.not_lt.mp c_44⟩] at hp)
def ctSum (kl : LK) (lo hi : Int32) : CT → Int64
  | (_, _, sn, _, _, _, ws, _, _) => ksum sn ws lo hi 0 kl
theorem c_S_sum (l : Launch) (g : GG) (N0 : Nat → Prop) (h : Mp) {s ta : Nat} {ck sf nt : Int32} {kl : LK} {tl : List CT} (n lo hi : Int32) (hn : nt < 512) (w : World g s ta h ck sf nt kl tl) : Ct l y_S_sum b_S_sum 8 (some .long) 8 134 3 15 g N0 h [va_rf (some s), .int n, .int lo, .int hi] (pL (fun r h' => ∃ t i, readPost g s ta ck sf nt kl tl n lo hi t i h' ∧ r = ctSum kl lo hi t)) (oXp tl n h) := by
  refine Ct_of "SnapshotStore" "sum" [some (va_rf (some s)), some (.int n), some (.int lo), some (.int hi), none, none, none, none] (by decide) rfl rfl (by simp [lg_sl, rf_cat, cat_i, cat_l]) (by simp [toL, lv_args, rf_cat, cat_i, cat_l]) (fun K hl X => ?_)
  refine al_0 X d_S_sum_0 ?_
  refine il_1 X d_S_sum_1 ?_
  refine cl_S_37 X (c_S_openOne _ g N0 h n w) w.hs d_S_sum_2 (by refine ⟨?_, ?_⟩ <;> first | decide | (dsimp only; first | done | omega)) (by first | decide | (simp only [List.map, rf_cat, cat_i, cat_l, List.sum_cons, List.sum_nil]; first | done | decide | omega)) ⟨(by first | omega | decide | (dsimp only; first | done | omega)), (by first | omega | decide | (dsimp only; first | done | omega))⟩ (fun E h' hx => VX_out X rfl (by decide) (by decide) hx) ?_
  rintro r h' ⟨⟨t, ht, hse, rfl⟩, rfl⟩
  obtain ⟨i, hni, -, hti⟩ := txAt_s ht
  refine as_4 X d_S_sum_5 rfl (by first | exact okp_n | exact okp_i | exact okp_r) ?_
  refine al_0 X d_S_sum_7 ?_
  refine al_4 X d_S_sum_8 ?_
  refine il_2 X d_S_sum_10 ?_
  refine il_3 X d_S_sum_11 ?_
  refine cl_S_41 X (c_S_noteRange _ g N0 h' lo hi hn w hti) w.hs d_S_sum_12 (by refine ⟨?_, ?_⟩ <;> first | decide | (dsimp only; first | done | omega)) (by first | decide | (simp only [List.map, rf_cat, cat_i, cat_l, List.sum_cons, List.sum_nil]; first | done | decide | omega)) ⟨(by first | omega | decide | (dsimp only; first | done | omega)), (by first | omega | decide | (dsimp only; first | done | omega))⟩ (fun _ _ z => z.elim) ?_
  rintro h2 hp2
  obtain ⟨nt', tl', hrel, w2⟩ := noteRel_of w hp2
  have hpost : readPost g s ta ck sf nt kl tl n lo hi t i h2 := ⟨hni, hti, hse, nt', tl', hrel, w2⟩
  obtain ⟨a, lv, sn, se, sp, ha, ws, rs, ps⟩ := t
  obtain ⟨rs', u1, u2, u3, u4⟩ := note_tx hrel hti w2.hu
  have hs2 := w2.hs
  refine V_lconst (v := 0) X d_S_sum_15 (by decide) ?_
  refine ls_5 X d_S_sum_16 rfl (by first | exact okp_n | exact okp_i | exact okp_r) ?_
  refine al_0 X d_S_sum_18 ?_
  refine gf_S_63 X (by assumption) d_S_sum_19 ?_
  refine as_7 X d_S_sum_22 rfl (by first | exact okp_n | exact okp_i | exact okp_r) ?_
  exact w_S_sum X u1 u2 (by omega) (by omega) kl 0 w2.hk ⟨_, rfl, _, i, hpost, rfl⟩
-- key
def ctKey (kl : LK) (low : Int32) (m : Nat) : CT → Option (Nat × Int32 × LV)
  | (_, _, sn, _, _, _, ws, _, _) => (kl.filter (pSee sn ws low))[m]?
def keyHi (r : Option (Nat × Int32 × LV)) : Int32 := match r with
  | none => 2147483647
  | some x => x.2.1
def keyAns (r : Option (Nat × Int32 × LV)) : Int64 := match r with
  | none => 4294967296
  | some x => x.2.1.toInt64
theorem c_S_key (l : Launch) (g : GG) (N0 : Nat → Prop) (h : Mp) {s ta : Nat} {ck sf nt : Int32} {kl : LK} {tl : List CT} (n low j : Int32) (hn : nt < 512) (w : World g s ta h ck sf nt kl tl) : Ct l y_S_key b_S_key 6 (some .long) 8 134 3 18 g N0 h [va_rf (some s), .int n, .int low, .int j] (pL (fun r h' => ¬ j < 0 ∧ ∃ t i, readPost g s ta ck sf nt kl tl n low (keyHi (ctKey kl low j.toNatClampNeg t)) t i h' ∧ r = keyAns (ctKey kl low j.toNatClampNeg t))) (fun E h' => oXp tl n h E h' ∨ (E = "java/lang/IllegalArgumentException" ∧ (∃ t, txAt tl n = some t ∧ ctS t = 0) ∧ j < 0 ∧ h' = h)) := by
  refine Ct_of "SnapshotStore" "key" [some (va_rf (some s)), some (.int n), some (.int low), some (.int j), none, none] (by decide) rfl rfl (by simp [lg_sl, rf_cat, cat_i, cat_l]) (by simp [toL, lv_args, rf_cat, cat_i, cat_l]) (fun K hl X => ?_)
  refine al_0 X d_S_key_0 ?_
  refine il_1 X d_S_key_1 ?_
  refine cl_S_37 X (c_S_openOne _ g N0 h n w) w.hs d_S_key_2 (by refine ⟨?_, ?_⟩ <;> first | decide | (dsimp only; first | done | omega)) (by first | decide | (simp only [List.map, rf_cat, cat_i, cat_l, List.sum_cons, List.sum_nil]; first | done | decide | omega)) ⟨(by first | omega | decide | (dsimp only; first | done | omega)), (by first | omega | decide | (dsimp only; first | done | omega))⟩ (fun E h' hx => VX_out X rfl (by decide) (by decide) (Or.inl hx)) ?_
  rintro r h' ⟨⟨t, ht, hse, rfl⟩, rfl⟩
  obtain ⟨i, hni, -, hti⟩ := txAt_s ht
  refine as_4 X d_S_key_5 rfl (by first | exact okp_n | exact okp_i | exact okp_r) ?_
  refine il_3 X d_S_key_7 ?_
  refine V_if_ge (tgt := 21) X d_S_key_8 (by decide) (fun c_8 => ?_) (fun c_8 => ?_)
  · have hj0 : ¬ j < 0 := Int32.not_lt.mpr c_8
    obtain ⟨m, hm, rfl⟩ := nI_of hj0
    rw [nI_clamp hm]
    have hu := w.hu t (List.mem_of_getElem? hti)
    obtain ⟨a, lv, sn, se, sp, ha, ws, rs, ps⟩ := t
    obtain ⟨u1, u2, u3, u4⟩ := hu
    refine al_0 X d_S_key_21 ?_
    refine al_4 X d_S_key_22 ?_
    refine il_2 X d_S_key_24 ?_
    refine il_3 X d_S_key_25 ?_
    refine cl_S_77 X (c_S_seenKey _ g N0 h' low m hm w.hs w.hk u1 u2) w.hs d_S_key_26 (by refine ⟨?_, ?_⟩ <;> first | decide | (dsimp only; first | done | omega)) (by first | decide | (simp only [List.map, rf_cat, cat_i, cat_l, List.sum_cons, List.sum_nil]; first | done | decide | omega)) ⟨(by first | omega | decide | (dsimp only; first | done | omega)), (by first | omega | decide | (dsimp only; first | done | omega))⟩ (fun _ _ z => z.elim) ?_
    rintro r h2 ⟨rfl, rfl⟩
    have ek : ctKey kl low m (a, lv, sn, se, sp, ha, ws, rs, ps) = (kl.filter (pSee sn ws low))[m]? := rfl
    refine as_5 X d_S_key_29 rfl (by first | exact okp_n | exact okp_i | exact okp_r) ?_
    refine al_5 X d_S_key_31 ?_
    cases hf : (kl.filter (pSee sn ws low))[m]? with
    | none =>
      refine V_ifnonnull (tgt := 49) X d_S_key_33 (by decide) (fun b_33 c_33 => ?_) (fun c_33 => ?_)
      · cases c_33
      · refine al_0 X d_S_key_36 ?_
        refine al_4 X d_S_key_37 ?_
        refine il_2 X d_S_key_39 ?_
        refine V_ldc X k_52 d_S_key_40 ?_
        refine cl_S_41 X (c_S_noteRange _ g N0 h2 low 2147483647 hn w hti) w.hs d_S_key_42 (by refine ⟨?_, ?_⟩ <;> first | decide | (dsimp only; first | done | omega)) (by first | decide | (simp only [List.map, rf_cat, cat_i, cat_l, List.sum_cons, List.sum_nil]; first | done | decide | omega)) ⟨(by first | omega | decide | (dsimp only; first | done | omega)), (by first | omega | decide | (dsimp only; first | done | omega))⟩ (fun _ _ z => z.elim) ?_
        rintro h3 hp3
        obtain ⟨nt', tl', hrel, w2⟩ := noteRel_of w hp3
        refine V_ldc2 X k_65 d_S_key_45 ?_
        refine V_lret X rfl d_S_key_48 (by first | omega | decide | (dsimp only; first | done | omega)) (by first | omega | decide | (dsimp only; first | done | omega)) ?_
        exact ⟨_, rfl, hj0, _, i, by rw [ek, hf]; exact ⟨hni, hti, hse, nt', tl', hrel, w2⟩, by rw [ek, hf]; rfl⟩
    | some x =>
      obtain ⟨b, m2, vs⟩ := x
      obtain ⟨nx, k1, k2⟩ := keys_mem w.hk (List.mem_filter.mp (List.mem_of_getElem? hf)).1
      refine V_ifnonnull (tgt := 49) X d_S_key_33 (by decide) (fun b_33 c_33 => ?_) (fun c_33 => ?_)
      · cases c_33
        refine al_0 X d_S_key_49 ?_
        refine al_4 X d_S_key_50 ?_
        refine il_2 X d_S_key_52 ?_
        refine al_5 X d_S_key_53 ?_
        refine gf_S_67 X (by assumption) d_S_key_55 ?_
        refine cl_S_41 X (c_S_noteRange _ g N0 h2 low m2 hn w hti) w.hs d_S_key_58 (by refine ⟨?_, ?_⟩ <;> first | decide | (dsimp only; first | done | omega)) (by first | decide | (simp only [List.map, rf_cat, cat_i, cat_l, List.sum_cons, List.sum_nil]; first | done | decide | omega)) ⟨(by first | omega | decide | (dsimp only; first | done | omega)), (by first | omega | decide | (dsimp only; first | done | omega))⟩ (fun _ _ z => z.elim) ?_
        rintro h3 hp3
        obtain ⟨nt', tl', hrel, w2⟩ := noteRel_of w hp3
        obtain ⟨nx2, k3, -⟩ := keys_mem w2.hk (List.mem_filter.mp (List.mem_of_getElem? hf)).1
        refine al_5 X d_S_key_61 ?_
        refine gf_S_67 X (by assumption) d_S_key_63 ?_
        refine V_i2l X d_S_key_66 ?_
        refine V_lret X rfl d_S_key_67 (by first | omega | decide | (dsimp only; first | done | omega)) (by first | omega | decide | (dsimp only; first | done | omega)) ?_
        exact ⟨_, rfl, hj0, _, i, by rw [ek, hf]; exact ⟨hni, hti, hse, nt', tl', hrel, w2⟩, by rw [ek, hf]; rfl⟩
      · cases c_33
  · exact thr_1 X 5 rfl d_S_key_11 d_S_key_14 d_S_key_15 d_S_key_17 d_S_key_20 (by decide) (by decide) (by decide) (by decide) (by decide) (by decide) (Or.inr ⟨rfl, ⟨t, ht, hse⟩, Int32.not_le.mp c_8, rfl⟩)

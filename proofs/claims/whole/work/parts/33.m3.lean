-- the reference's face: begin, read, found, write, erase, save, back, abort
def MB (iv : MI) (ar : MA) (n nv : Nat) (wc rc pc : Nat → Nat) : Prop := iv 3 = nI n ∧ n ≤ 120 ∧ iv 4 = nI nv ∧ nv ≤ 3000 ∧ vrise ar nv ∧ ∀ t, t < n → (ar 5 t = nI (wc t) ∧ wc t < 600) ∧ (ar 11 t = nI (rc t) ∧ rc t < 600) ∧ (ar 9 t = nI (pc t) ∧ pc t ≤ 20)
theorem opn_i {n i : Nat} {st : Nat → Int32} (hn : n ≤ 120) (hi : i < n) (h0 : st i = 0) : opn n st (nI i) = 0 := by
  rw [opn, if_pos (isTx_i (by omega) hi), nI_clamp (by omega), if_pos h0]
-- begin
def beg (n : Nat) (lv : Int32) : Int32 := if lv = 0 ∨ lv = 1 then (if n = 120 then 2 else 0) else 1
theorem lv01 {lv : Int32} (h1 : ¬ lv < 0) (h2 : lv ≤ 1) : lv = 0 ∨ lv = 1 := by
  obtain ⟨j, hj, rfl⟩ := nI_of h1
  have : j ≤ 1 := (nI_leI (b := 1) hj (by decide)).mp h2
  rcases (show j = 0 ∨ j = 1 by omega) with rfl | rfl
  · exact Or.inl rfl
  · exact Or.inr rfl
theorem c_M_begin_no (l : Launch) (g : GG) (N0 : Nat → Prop) (h : Mp) {m : Nat} {ad : Nat → Nat} {iv : MI} {ar : MA} {n : Nat} (lv : Int32) (hn : iv 3 = nI n) (hn2 : n ≤ 120) (hb : beg n lv ≠ 0) (w : MW g m ad h iv ar) : Ct l y_M_begin b_M_begin 2 (some .int) 0 0 0 0 g N0 h [va_rf (some m), .int lv] (pI (fun r h' => MW g m ad h' (iU iv 0 (beg n lv)) ar)) nox := by
  refine Ct_of "SnapshotStoreModel" "begin" [some (va_rf (some m)), some (.int lv)] (by decide) rfl rfl (by simp [lg_sl, rf_cat, cat_i, cat_l]) (by simp [toL, lv_args, rf_cat, cat_i, cat_l]) (fun K hl X => ?_)
  have fin : ∀ (h : Mp), MW g m ad h (iU iv 0 (beg n lv)) ar → V K g N0 2 (RQ K g N0 (pI (fun r h' => MW g m ad h' (iU iv 0 (beg n lv)) ar)) nox 0 0) h 0 0 31 [some (va_rf (some m)), some (.int lv)] [] := by
    intro h w
    refine al_0 X d_M_begin_31 ?_
    refine gm_69 X w d_M_begin_32 ?_
    rw [iU_s]
    have hp : ¬ beg n lv ≤ 0 := by
      simp only [beg] at hb ⊢
      split at hb
      · split at hb
        · rename_i e1 e2; rw [if_pos e1, if_pos e2]; decide
        · exact absurd rfl hb
      · rename_i e1; rw [if_neg e1]; decide
    refine V_if_le (tgt := 40) X d_M_begin_35 (by decide) (fun c_35 => ?_) (fun c_35 => ?_)
    · exact absurd c_35 hp
    · refine V_iconst (v := 0) X d_M_begin_38 (by decide) ?_
      refine V_iret X rfl d_M_begin_39 (by first | omega | decide | (dsimp only; first | done | omega)) (by first | omega | decide | (dsimp only; first | done | omega)) ?_
      exact ⟨_, rfl, w⟩
  have one : ¬ (lv = 0 ∨ lv = 1) → V K g N0 2 (RQ K g N0 (pI (fun r h' => MW g m ad h' (iU iv 0 (beg n lv)) ar)) nox 0 0) h 0 0 10 [some (va_rf (some m)), some (.int lv)] [va_rf (some m)] := by
    intro e
    have eo : beg n lv = 1 := by rw [beg, if_neg e]
    refine V_iconst (v := 1) X d_M_begin_10 (by decide) ?_
    refine V_goto (tgt := 28) X d_M_begin_11 (by decide) ?_
    refine pm_69 X w d_M_begin_28 (fun h w => ?_)
    exact fin _ (by rw [eo]; exact w)
  refine al_0 X d_M_begin_0 ?_
  refine il_1 X d_M_begin_1 ?_
  refine V_if_lt (tgt := 10) X d_M_begin_2 (by decide) (fun c_2 => ?_) (fun c_2 => ?_)
  · exact one (fun e => by rcases e with rfl | rfl <;> exact absurd c_2 (by decide))
  · refine il_1 X d_M_begin_5 ?_
    refine V_iconst (v := 1) X d_M_begin_6 (by decide) ?_
    refine V_icmp_le (tgt := 14) X d_M_begin_7 (by decide) (fun c_7 => ?_) (fun c_7 => ?_)
    · have e := lv01 c_2 c_7
      refine al_0 X d_M_begin_14 ?_
      refine gm_73 X w d_M_begin_15 ?_
      refine V_bipush (v := 120) X d_M_begin_18 (by decide) ?_
      rw [hn]
      refine V_icmp_ne (tgt := 27) X d_M_begin_20 (by decide) (fun c_20 => ?_) (fun c_20 => ?_)
      · exfalso
        apply hb
        rw [beg, if_pos e, if_neg (fun z => c_20 (by rw [z]; rfl))]
      · have en : n = 120 := (nI_eq (b := 120) (by omega) (by decide)).mp c_20
        have eo : beg n lv = 2 := by rw [beg, if_pos e, if_pos en]
        refine V_iconst (v := 2) X d_M_begin_23 (by decide) ?_
        refine V_goto (tgt := 28) X d_M_begin_24 (by decide) ?_
        refine pm_69 X w d_M_begin_28 (fun h w => ?_)
        exact fin _ (by rw [eo]; exact w)
    · exact one (fun e => by rcases e with rfl | rfl <;> exact absurd (by decide) c_7)
def mBeg (iv : MI) (ar : MA) (n : Nat) (lv : Int32) : MA := aU (aU (aU ar 0 (upd (ar 0) n lv)) 1 (upd (ar 1) n (iv 1))) 2 (upd (ar 2) n (-1))
theorem c_M_begin (l : Launch) (g : GG) (N0 : Nat → Prop) (h : Mp) {m : Nat} {ad : Nat → Nat} {iv : MI} {ar : MA} {n : Nat} (lv : Int32) (hn : iv 3 = nI n) (hn2 : n < 120) (hb : lv = 0 ∨ lv = 1) (w : MW g m ad h iv ar) : Ct l y_M_begin b_M_begin 2 (some .int) 0 0 0 0 g N0 h [va_rf (some m), .int lv] (pI (fun r h' => r = nI n ∧ MW g m ad h' (iU (iU iv 0 0) 3 (nI (n + 1))) (mBeg iv ar n lv))) nox := by
  refine Ct_of "SnapshotStoreModel" "begin" [some (va_rf (some m)), some (.int lv)] (by decide) rfl rfl (by simp [lg_sl, rf_cat, cat_i, cat_l]) (by simp [toL, lv_args, rf_cat, cat_i, cat_l]) (fun K hl X => ?_)
  have fin : ∀ (h : Mp), MW g m ad h (iU iv 0 0) (aU ar 0 (upd (ar 0) n lv)) → V K g N0 2 (RQ K g N0 (pI (fun r h' => r = nI n ∧ MW g m ad h' (iU (iU iv 0 0) 3 (nI (n + 1))) (mBeg iv ar n lv))) nox 0 0) h 0 0 59 [some (va_rf (some m)), some (.int lv)] [] := by
    intro h w
    refine al_0 X d_M_begin_59 ?_
    refine gm_13 X w d_M_begin_60 ?_
    refine al_0 X d_M_begin_63 ?_
    refine gm_73 X w d_M_begin_64 ?_
    rw [iU_n _ _ (by decide), hn]
    refine al_0 X d_M_begin_67 ?_
    refine gm_106 X w d_M_begin_68 ?_
    refine sm_i X w (k := 1) (by decide) rfl (show _ < 120 by omega) (by decide) d_M_begin_71 (fun h w => ?_)
    refine al_0 X d_M_begin_72 ?_
    refine gm_17 X w d_M_begin_73 ?_
    refine al_0 X d_M_begin_76 ?_
    refine gm_73 X w d_M_begin_77 ?_
    rw [iU_n _ _ (by decide), hn]
    try simp (decide := true) only [aU_s, aU_n, iU_s, iU_n] at w ⊢
    refine V_iconst (v := (-1)) X d_M_begin_80 (by decide) ?_
    refine sm_i X w (k := 2) (by decide) rfl (show _ < 120 by omega) (by decide) d_M_begin_81 (fun h w => ?_)
    refine al_0 X d_M_begin_82 ?_
    refine V_dup X d_M_begin_83 (by first | rfl | exact rf_cat _) ?_
    refine gm_73 X w d_M_begin_84 ?_
    refine V_iconst (v := 1) X d_M_begin_87 (by decide) ?_
    try simp (decide := true) only [aU_s, aU_n, iU_s, iU_n] at w ⊢
    rw [hn]
    refine V_iadd X d_M_begin_88 ?_
    rw [nI_1]
    refine pm_73 X w d_M_begin_89 (fun h w => ?_)
    refine al_0 X d_M_begin_92 ?_
    refine gm_73 X w d_M_begin_93 ?_
    refine V_iconst (v := 1) X d_M_begin_96 (by decide) ?_
    rw [iU_s]
    refine V_isub X d_M_begin_97 ?_
    rw [show nI (n + 1) - 1 = nI n from nI_pred n]
    refine V_iret X rfl d_M_begin_98 (by first | omega | decide | (dsimp only; first | done | omega)) (by first | omega | decide | (dsimp only; first | done | omega)) ?_
    exact ⟨_, rfl, rfl, w⟩
  have low : ¬ lv < 0 := by rcases hb with rfl | rfl <;> decide
  have high : lv ≤ 1 := by rcases hb with rfl | rfl <;> decide
  refine al_0 X d_M_begin_0 ?_
  refine il_1 X d_M_begin_1 ?_
  refine V_if_lt (tgt := 10) X d_M_begin_2 (by decide) (fun c_2 => ?_) (fun c_2 => ?_)
  · exact absurd c_2 low
  · refine il_1 X d_M_begin_5 ?_
    refine V_iconst (v := 1) X d_M_begin_6 (by decide) ?_
    refine V_icmp_le (tgt := 14) X d_M_begin_7 (by decide) (fun c_7 => ?_) (fun c_7 => ?_)
    · refine al_0 X d_M_begin_14 ?_
      refine gm_73 X w d_M_begin_15 ?_
      refine V_bipush (v := 120) X d_M_begin_18 (by decide) ?_
      rw [hn]
      refine V_icmp_ne (tgt := 27) X d_M_begin_20 (by decide) (fun c_20 => ?_) (fun c_20 => ?_)
      · refine V_iconst (v := 0) X d_M_begin_27 (by decide) ?_
        refine pm_69 X w d_M_begin_28 (fun h w => ?_)
        refine al_0 X d_M_begin_31 ?_
        refine gm_69 X w d_M_begin_32 ?_
        rw [iU_s]
        refine V_if_le (tgt := 40) X d_M_begin_35 (by decide) (fun c_35 => ?_) (fun c_35 => ?_)
        · refine al_0 X d_M_begin_40 ?_
          refine gm_7 X w d_M_begin_41 ?_
          refine al_0 X d_M_begin_44 ?_
          refine gm_73 X w d_M_begin_45 ?_
          refine il_1 X d_M_begin_48 ?_
          refine V_iconst (v := 1) X d_M_begin_49 (by decide) ?_
          rw [iU_n _ _ (by decide), hn]
          refine V_icmp_ne (tgt := 57) X d_M_begin_50 (by decide) (fun c_50 => ?_) (fun c_50 => ?_)
          · have e : lv = 0 := hb.resolve_right c_50
            refine V_iconst (v := 0) X d_M_begin_57 (by decide) ?_
            refine sm_z X (by first | exact Or.inl rfl | exact Or.inr rfl | exact b01_or _) w (k := 0) (by decide) rfl (show _ < 120 by omega) (by decide) d_M_begin_58 (fun h w => ?_)
            exact fin _ (by rw [e]; exact w)
          · refine V_iconst (v := 1) X d_M_begin_53 (by decide) ?_
            refine V_goto (tgt := 58) X d_M_begin_54 (by decide) ?_
            refine sm_z X (by first | exact Or.inl rfl | exact Or.inr rfl | exact b01_or _) w (k := 0) (by decide) rfl (show _ < 120 by omega) (by decide) d_M_begin_58 (fun h w => ?_)
            exact fin _ (by rw [c_50]; exact w)
        · exact absurd (Int32.le_refl _) c_35
      · exact absurd ((nI_eq (b := 120) (by omega) (by decide)).mp c_20) (by omega)
    · exact absurd high c_7
-- read, found
def mNt (ar : MA) (t rc : Nat) (lo hi : Int32) : MA := if ar 0 t = 0 ∨ ¬ lo ≤ hi then ar else mNote ar t rc lo hi
theorem mNt_of {g : GG} {m : Nat} {ad : Nat → Nat} {h h' : Mp} {iv : MI} {ar : MA} {t rc : Nat} {lo hi : Int32} (w : MW g m ad h iv ar) (hp : (mNoted ar t lo hi → MW g m ad h' iv (mNote ar t rc lo hi)) ∧ (¬ mNoted ar t lo hi → h' = h)) : MW g m ad h' iv (mNt ar t rc lo hi) := by
  by_cases e : mNoted ar t lo hi
  · rw [mNt, if_neg (fun z => z.elim e.1 (fun q => q e.2))]
    exact hp.1 e
  · rw [mNt, if_pos, hp.2 e]
    · exact w
    · by_cases e2 : ar 0 t = 0
      · exact Or.inl e2
      · exact Or.inr (fun q => e ⟨e2, q⟩)
theorem mNt_k {ar : MA} {t rc : Nat} {lo hi : Int32} {k : Nat} (h1 : k ≠ 11) (h2 : k ≠ 12) (h3 : k ≠ 13) : mNt ar t rc lo hi k = ar k := by
  rw [mNt]
  split
  · rfl
  · rw [mNote, aU_n _ _ h1, aU_n _ _ h3, aU_n _ _ h2]
theorem look_mNt {ar : MA} {t rc : Nat} {lo hi : Int32} (n t2 c : Nat) (key : Int32) : valM (mNt ar t rc lo hi) n t2 c key = valM ar n t2 c key ∧ seenM (mNt ar t rc lo hi) n t2 c key = seenM ar n t2 c key := by
  have e1 := mNt_k (ar := ar) (t := t) (rc := rc) (lo := lo) (hi := hi) (k := 1) (by decide) (by decide) (by decide)
  have e6 := mNt_k (ar := ar) (t := t) (rc := rc) (lo := lo) (hi := hi) (k := 6) (by decide) (by decide) (by decide)
  have e7 := mNt_k (ar := ar) (t := t) (rc := rc) (lo := lo) (hi := hi) (k := 7) (by decide) (by decide) (by decide)
  have e8 := mNt_k (ar := ar) (t := t) (rc := rc) (lo := lo) (hi := hi) (k := 8) (by decide) (by decide) (by decide)
  have e14 := mNt_k (ar := ar) (t := t) (rc := rc) (lo := lo) (hi := hi) (k := 14) (by decide) (by decide) (by decide)
  have e15 := mNt_k (ar := ar) (t := t) (rc := rc) (lo := lo) (hi := hi) (k := 15) (by decide) (by decide) (by decide)
  have e16 := mNt_k (ar := ar) (t := t) (rc := rc) (lo := lo) (hi := hi) (k := 16) (by decide) (by decide) (by decide)
  have e17 := mNt_k (ar := ar) (t := t) (rc := rc) (lo := lo) (hi := hi) (k := 17) (by decide) (by decide) (by decide)
  have p1 : pW1 (mNt ar t rc lo hi) t2 key = pW1 ar t2 key := by funext k; simp only [pW1, e6]
  have p2 : ∀ st, pV1 (mNt ar t rc lo hi) key st = pV1 ar key st := fun st => by funext v; simp only [pV1, e14, e15]
  constructor <;> simp only [valM, seenM, valV, seenV, vAt, wOf, p1, p2, e1, e7, e8, e16, e17]
theorem vrise_mNt {ar : MA} {t rc : Nat} {lo hi : Int32} {n : Nat} (h : vrise ar n) : vrise (mNt ar t rc lo hi) n := by
  have e14 := mNt_k (ar := ar) (t := t) (rc := rc) (lo := lo) (hi := hi) (k := 14) (by decide) (by decide) (by decide)
  have e15 := mNt_k (ar := ar) (t := t) (rc := rc) (lo := lo) (hi := hi) (k := 15) (by decide) (by decide) (by decide)
  intro i j h1 h2 h3
  rw [e14] at h3
  rw [e15]
  exact h i j h1 h2 h3
theorem c_M_read_no (l : Launch) (g : GG) (N0 : Nat → Prop) (h : Mp) {m : Nat} {ad : Nat → Nat} {iv : MI} {ar : MA} {n : Nat} (t key : Int32) (hn : iv 3 = nI n) (hn2 : n ≤ 120) (ho : opn n (ar 3) t ≠ 0) (w : MW g m ad h iv ar) : Ct l y_M_read b_M_read 3 (some .int) 3 71 0 0 g N0 h [va_rf (some m), .int t, .int key] (pI (fun r h' => MW g m ad h' (iU iv 0 (opn n (ar 3) t)) ar)) nox := by
  refine Ct_of "SnapshotStoreModel" "read" [some (va_rf (some m)), some (.int t), some (.int key)] (by decide) rfl rfl (by simp [lg_sl, rf_cat, cat_i, cat_l]) (by simp [toL, lv_args, rf_cat, cat_i, cat_l]) (fun K hl X => ?_)
  refine al_0 X d_M_read_0 ?_
  refine il_1 X d_M_read_1 ?_
  refine cl_M_109 X (c_M_isOpen _ g N0 h t hn hn2 w) w.1 d_M_read_2 (by refine ⟨?_, ?_⟩ <;> first | decide | (dsimp only; first | done | omega)) (by first | decide | (simp only [List.map, rf_cat, cat_i, cat_l, List.sum_cons, List.sum_nil]; first | done | decide | omega)) ⟨(by first | omega | decide | (dsimp only; first | done | omega)), (by first | omega | decide | (dsimp only; first | done | omega))⟩ (fun _ _ z => z.elim) ?_
  rintro r h ⟨rfl, w⟩
  rw [decide_eq_false ho]
  refine V_if_ne (tgt := 10) X d_M_read_5 (by decide) (fun c_5 => ?_) (fun c_5 => ?_)
  · exact absurd rfl c_5
  · refine V_iconst (v := 0) X d_M_read_8 (by decide) ?_
    refine V_iret X rfl d_M_read_9 (by first | omega | decide | (dsimp only; first | done | omega)) (by first | omega | decide | (dsimp only; first | done | omega)) ?_
    exact ⟨_, rfl, w⟩
theorem c_M_read (l : Launch) (g : GG) (N0 : Nat → Prop) (h : Mp) {m : Nat} {ad : Nat → Nat} {iv : MI} {ar : MA} {n nv : Nat} {wc rc pc : Nat → Nat} {t : Nat} (key : Int32) (b : MB iv ar n nv wc rc pc) (ht : t < n) (h0 : ar 3 t = 0) (w : MW g m ad h iv ar) : Ct l y_M_read b_M_read 3 (some .int) 3 71 0 0 g N0 h [va_rf (some m), .int (nI t), .int key] (pI (fun r h' => r = valM ar nv t (wc t) key ∧ ∃ iv', MW g m ad h' iv' (mNt ar t (rc t) key key) ∧ iv' 0 = 0 ∧ ∀ i, 1 ≤ i → i ≤ 4 → iv' i = iv i)) nox := by
  refine Ct_of "SnapshotStoreModel" "read" [some (va_rf (some m)), some (.int (nI t)), some (.int key)] (by decide) rfl rfl (by simp [lg_sl, rf_cat, cat_i, cat_l]) (by simp [toL, lv_args, rf_cat, cat_i, cat_l]) (fun K hl X => ?_)
  obtain ⟨b1, b2, b3, b4, b5, b6⟩ := b
  obtain ⟨⟨c1, c2⟩, ⟨d1, d2⟩, -⟩ := b6 t ht
  refine al_0 X d_M_read_0 ?_
  refine il_1 X d_M_read_1 ?_
  refine cl_M_109 X (c_M_isOpen _ g N0 h (nI t) b1 b2 w) w.1 d_M_read_2 (by refine ⟨?_, ?_⟩ <;> first | decide | (dsimp only; first | done | omega)) (by first | decide | (simp only [List.map, rf_cat, cat_i, cat_l, List.sum_cons, List.sum_nil]; first | done | decide | omega)) ⟨(by first | omega | decide | (dsimp only; first | done | omega)), (by first | omega | decide | (dsimp only; first | done | omega))⟩ (fun _ _ z => z.elim) ?_
  rintro r h ⟨rfl, w⟩
  rw [opn_i b2 ht h0] at w ⊢
  refine V_if_ne (tgt := 10) X d_M_read_5 (by decide) (fun c_5 => ?_) (fun c_5 => ?_)
  · refine al_0 X d_M_read_10 ?_
    refine il_1 X d_M_read_11 ?_
    refine il_2 X d_M_read_12 ?_
    refine il_2 X d_M_read_13 ?_
    refine cl_M_112 X (c_M_noteRead _ g N0 h key key (by omega) d1 d2 w) w.1 d_M_read_14 (by refine ⟨?_, ?_⟩ <;> first | decide | (dsimp only; first | done | omega)) (by first | decide | (simp only [List.map, rf_cat, cat_i, cat_l, List.sum_cons, List.sum_nil]; first | done | decide | omega)) ⟨(by first | omega | decide | (dsimp only; first | done | omega)), (by first | omega | decide | (dsimp only; first | done | omega))⟩ (fun _ _ z => z.elim) ?_
    rintro h2 hp
    have w := mNt_of w hp
    refine al_0 X d_M_read_17 ?_
    refine il_1 X d_M_read_18 ?_
    refine il_2 X d_M_read_19 ?_
    refine cl_M_103 X (c_M_look _ g N0 h2 key (by rw [iU_n _ _ (by decide)]; exact b3) b4 (vrise_mNt b5) (by omega) (by rw [mNt_k (by decide) (by decide) (by decide)]; exact c1) c2 w) w.1 d_M_read_20 (by refine ⟨?_, ?_⟩ <;> first | decide | (dsimp only; first | done | omega)) (by first | decide | (simp only [List.map, rf_cat, cat_i, cat_l, List.sum_cons, List.sum_nil]; first | done | decide | omega)) ⟨(by first | omega | decide | (dsimp only; first | done | omega)), (by first | omega | decide | (dsimp only; first | done | omega))⟩ (fun _ _ z => z.elim) ?_
    rintro h w
    refine al_0 X d_M_read_23 ?_
    refine gm_91 X w d_M_read_24 ?_
    refine V_iret X rfl d_M_read_27 (by first | omega | decide | (dsimp only; first | done | omega)) (by first | omega | decide | (dsimp only; first | done | omega)) ?_
    refine ⟨_, rfl, ?_, _, w, ?_, fun i h1 h4 => ?_⟩
    · rw [iU_s, (look_mNt nv t (wc t) key).1]
    · rfl
    · rw [iU_n _ _ (by omega), iU_n _ _ (by omega), iU_n _ _ (by omega)]
  · exact absurd c_5 (by decide)
theorem c_M_found_no (l : Launch) (g : GG) (N0 : Nat → Prop) (h : Mp) {m : Nat} {ad : Nat → Nat} {iv : MI} {ar : MA} {n : Nat} (t key : Int32) (hn : iv 3 = nI n) (hn2 : n ≤ 120) (ho : opn n (ar 3) t ≠ 0) (w : MW g m ad h iv ar) : Ct l y_M_found b_M_found 3 (some .boolean) 3 71 0 0 g N0 h [va_rf (some m), .int t, .int key] (pI (fun r h' => (∃ b, Value.int r = .int (b01 b)) ∧ MW g m ad h' (iU iv 0 (opn n (ar 3) t)) ar)) nox := by
  refine Ct_of "SnapshotStoreModel" "found" [some (va_rf (some m)), some (.int t), some (.int key)] (by decide) rfl rfl (by simp [lg_sl, rf_cat, cat_i, cat_l]) (by simp [toL, lv_args, rf_cat, cat_i, cat_l]) (fun K hl X => ?_)
  refine al_0 X d_M_found_0 ?_
  refine il_1 X d_M_found_1 ?_
  refine cl_M_109 X (c_M_isOpen _ g N0 h t hn hn2 w) w.1 d_M_found_2 (by refine ⟨?_, ?_⟩ <;> first | decide | (dsimp only; first | done | omega)) (by first | decide | (simp only [List.map, rf_cat, cat_i, cat_l, List.sum_cons, List.sum_nil]; first | done | decide | omega)) ⟨(by first | omega | decide | (dsimp only; first | done | omega)), (by first | omega | decide | (dsimp only; first | done | omega))⟩ (fun _ _ z => z.elim) ?_
  rintro r h ⟨rfl, w⟩
  rw [decide_eq_false ho]
  refine V_if_ne (tgt := 10) X d_M_found_5 (by decide) (fun c_5 => ?_) (fun c_5 => ?_)
  · exact absurd rfl c_5
  · refine V_iconst (v := 0) X d_M_found_8 (by decide) ?_
    refine V_zret X rfl (by first | rfl | exact nr_z (by assumption)) d_M_found_9 (by first | omega | decide | (dsimp only; first | done | omega)) (by first | omega | decide | (dsimp only; first | done | omega)) ?_
    exact ⟨_, rfl, ⟨false, rfl⟩, w⟩
theorem c_M_found (l : Launch) (g : GG) (N0 : Nat → Prop) (h : Mp) {m : Nat} {ad : Nat → Nat} {iv : MI} {ar : MA} {n nv : Nat} {wc rc pc : Nat → Nat} {t : Nat} (key : Int32) (b : MB iv ar n nv wc rc pc) (ht : t < n) (h0 : ar 3 t = 0) (w : MW g m ad h iv ar) : Ct l y_M_found b_M_found 3 (some .boolean) 3 71 0 0 g N0 h [va_rf (some m), .int (nI t), .int key] (pI (fun r h' => r = b01 (seenM ar nv t (wc t) key) ∧ ∃ iv', MW g m ad h' iv' (mNt ar t (rc t) key key) ∧ iv' 0 = 0 ∧ ∀ i, 1 ≤ i → i ≤ 4 → iv' i = iv i)) nox := by
  refine Ct_of "SnapshotStoreModel" "found" [some (va_rf (some m)), some (.int (nI t)), some (.int key)] (by decide) rfl rfl (by simp [lg_sl, rf_cat, cat_i, cat_l]) (by simp [toL, lv_args, rf_cat, cat_i, cat_l]) (fun K hl X => ?_)
  obtain ⟨b1, b2, b3, b4, b5, b6⟩ := b
  obtain ⟨⟨c1, c2⟩, ⟨d1, d2⟩, -⟩ := b6 t ht
  refine al_0 X d_M_found_0 ?_
  refine il_1 X d_M_found_1 ?_
  refine cl_M_109 X (c_M_isOpen _ g N0 h (nI t) b1 b2 w) w.1 d_M_found_2 (by refine ⟨?_, ?_⟩ <;> first | decide | (dsimp only; first | done | omega)) (by first | decide | (simp only [List.map, rf_cat, cat_i, cat_l, List.sum_cons, List.sum_nil]; first | done | decide | omega)) ⟨(by first | omega | decide | (dsimp only; first | done | omega)), (by first | omega | decide | (dsimp only; first | done | omega))⟩ (fun _ _ z => z.elim) ?_
  rintro r h ⟨rfl, w⟩
  rw [opn_i b2 ht h0] at w ⊢
  refine V_if_ne (tgt := 10) X d_M_found_5 (by decide) (fun c_5 => ?_) (fun c_5 => ?_)
  · refine al_0 X d_M_found_10 ?_
    refine il_1 X d_M_found_11 ?_
    refine il_2 X d_M_found_12 ?_
    refine il_2 X d_M_found_13 ?_
    refine cl_M_112 X (c_M_noteRead _ g N0 h key key (by omega) d1 d2 w) w.1 d_M_found_14 (by refine ⟨?_, ?_⟩ <;> first | decide | (dsimp only; first | done | omega)) (by first | decide | (simp only [List.map, rf_cat, cat_i, cat_l, List.sum_cons, List.sum_nil]; first | done | decide | omega)) ⟨(by first | omega | decide | (dsimp only; first | done | omega)), (by first | omega | decide | (dsimp only; first | done | omega))⟩ (fun _ _ z => z.elim) ?_
    rintro h2 hp
    have w := mNt_of w hp
    refine al_0 X d_M_found_17 ?_
    refine il_1 X d_M_found_18 ?_
    refine il_2 X d_M_found_19 ?_
    refine cl_M_103 X (c_M_look _ g N0 h2 key (by rw [iU_n _ _ (by decide)]; exact b3) b4 (vrise_mNt b5) (by omega) (by rw [mNt_k (by decide) (by decide) (by decide)]; exact c1) c2 w) w.1 d_M_found_20 (by refine ⟨?_, ?_⟩ <;> first | decide | (dsimp only; first | done | omega)) (by first | decide | (simp only [List.map, rf_cat, cat_i, cat_l, List.sum_cons, List.sum_nil]; first | done | decide | omega)) ⟨(by first | omega | decide | (dsimp only; first | done | omega)), (by first | omega | decide | (dsimp only; first | done | omega))⟩ (fun _ _ z => z.elim) ?_
    rintro h w
    refine al_0 X d_M_found_23 ?_
    refine gm_87 X w d_M_found_24 ?_
    rw [iU_n _ _ (by decide), iU_s, (look_mNt nv t (wc t) key).2]
    refine V_zret X rfl (nr_z (b01_or _)) d_M_found_27 (by omega) (by omega) ⟨_, rfl, rfl, _, w, rfl, fun i h1 h4 => ?_⟩
    rw [iU_n _ _ (by omega), iU_n _ _ (by omega), iU_n _ _ (by omega)]
  · exact absurd c_5 (by decide)
-- write, erase
def mPut (ar : MA) (t c : Nat) (key v e : Int32) : MA := aU (aU (aU (aU ar 6 (upd (ar 6) (600 * t + c) key)) 7 (upd (ar 7) (600 * t + c) v)) 8 (upd (ar 8) (600 * t + c) e)) 5 (upd (ar 5) t (nI (c + 1)))
theorem c_M_note (l : Launch) (g : GG) (N0 : Nat → Prop) (h : Mp) {m : Nat} {ad : Nat → Nat} {iv : MI} {ar : MA} {t c : Nat} (key v e : Int32) (he : e = 0 ∨ e = 1) (ht : t < 120) (hc : ar 5 t = nI c) (hc2 : c + 1 < 600) (w : MW g m ad h iv ar) : Ct l y_M_note b_M_note 5 (some .int) 2 47 0 0 g N0 h [va_rf (some m), .int (nI t), .int key, .int v, .int e] (pI (fun r h' => r = nI (kOf (mPut ar t c key v e) t (c + 1)) ∧ MW g m ad h' iv (mPut ar t c key v e))) nox := by
  refine Ct_of "SnapshotStoreModel" "note" [some (va_rf (some m)), some (.int (nI t)), some (.int key), some (.int v), some (.int e)] (by decide) rfl rfl (by simp [lg_sl, rf_cat, cat_i, cat_l]) (by simp [toL, lv_args, rf_cat, cat_i, cat_l]) (fun K hl X => ?_)
  refine al_0 X d_M_note_0 ?_
  refine gm_30 X w d_M_note_1 ?_
  refine V_sipush (v := 600) X d_M_note_4 (by decide) ?_
  refine il_1 X d_M_note_7 ?_
  refine V_imul X d_M_note_8 ?_
  refine al_0 X d_M_note_9 ?_
  refine gm_26 X w d_M_note_10 ?_
  refine il_1 X d_M_note_13 ?_
  refine am_i X w (k := 5) (by decide) rfl (show _ < 120 by omega) (by decide) d_M_note_14 ?_
  rw [show (600 : Int32) = nI 600 from rfl, pk_mul, hc]
  refine V_iadd X d_M_note_15 ?_
  rw [nI_add]
  refine il_2 X d_M_note_16 ?_
  refine sm_i X w (k := 6) (by decide) rfl (show _ < 72000 by omega) (by decide) d_M_note_17 (fun h w => ?_)
  refine al_0 X d_M_note_18 ?_
  refine gm_33 X w d_M_note_19 ?_
  refine V_sipush (v := 600) X d_M_note_22 (by decide) ?_
  refine il_1 X d_M_note_25 ?_
  refine V_imul X d_M_note_26 ?_
  refine al_0 X d_M_note_27 ?_
  refine gm_26 X w d_M_note_28 ?_
  refine il_1 X d_M_note_31 ?_
  refine am_i X w (k := 5) (by decide) rfl (show _ < 120 by omega) (by decide) d_M_note_32 ?_
  try simp (decide := true) only [aU_s, aU_n, iU_s, iU_n] at w ⊢
  rw [show (600 : Int32) = nI 600 from rfl, pk_mul, hc]
  refine V_iadd X d_M_note_33 ?_
  rw [nI_add]
  refine il_3 X d_M_note_34 ?_
  refine sm_i X w (k := 7) (by decide) rfl (show _ < 72000 by omega) (by decide) d_M_note_35 (fun h w => ?_)
  refine al_0 X d_M_note_36 ?_
  refine gm_36 X w d_M_note_37 ?_
  refine V_sipush (v := 600) X d_M_note_40 (by decide) ?_
  refine il_1 X d_M_note_43 ?_
  refine V_imul X d_M_note_44 ?_
  refine al_0 X d_M_note_45 ?_
  refine gm_26 X w d_M_note_46 ?_
  refine il_1 X d_M_note_49 ?_
  refine am_i X w (k := 5) (by decide) rfl (show _ < 120 by omega) (by decide) d_M_note_50 ?_
  try simp (decide := true) only [aU_s, aU_n, iU_s, iU_n] at w ⊢
  rw [show (600 : Int32) = nI 600 from rfl, pk_mul, hc]
  refine V_iadd X d_M_note_51 ?_
  rw [nI_add]
  refine il_4 X d_M_note_52 ?_
  refine sm_z X he w (k := 8) (by decide) rfl (show _ < 72000 by omega) (by decide) d_M_note_54 (fun h w => ?_)
  refine al_0 X d_M_note_55 ?_
  refine gm_26 X w d_M_note_56 ?_
  refine il_1 X d_M_note_59 ?_
  refine V_dup2 X d_M_note_60 (by first | rfl | exact rf_cat _) (by first | rfl | exact rf_cat _) ?_
  refine am_i X w (k := 5) (by decide) rfl (show _ < 120 by omega) (by decide) d_M_note_61 ?_
  refine V_iconst (v := 1) X d_M_note_62 (by decide) ?_
  try simp (decide := true) only [aU_s, aU_n, iU_s, iU_n] at w ⊢
  rw [hc]
  refine V_iadd X d_M_note_63 ?_
  rw [nI_1]
  refine sm_i X w (k := 5) (by decide) rfl (show _ < 120 by omega) (by decide) d_M_note_64 (fun h w => ?_)
  refine al_0 X d_M_note_65 ?_
  refine il_1 X d_M_note_66 ?_
  try simp (decide := true) only [aU_s, aU_n, iU_s, iU_n] at w
  refine cl_M_116 X (c_M_keysOf _ g N0 h (c := c + 1) ht (by rw [aU_s]; exact pk_us) (by omega) w) w.1 d_M_note_67 (by refine ⟨?_, ?_⟩ <;> first | decide | (dsimp only; first | done | omega)) (by first | decide | (simp only [List.map, rf_cat, cat_i, cat_l, List.sum_cons, List.sum_nil]; first | done | decide | omega)) ⟨(by first | omega | decide | (dsimp only; first | done | omega)), (by first | omega | decide | (dsimp only; first | done | omega))⟩ (fun _ _ z => z.elim) ?_
  rintro r h ⟨rfl, rfl⟩
  refine V_iret X rfl d_M_note_70 (by first | omega | decide | (dsimp only; first | done | omega)) (by first | omega | decide | (dsimp only; first | done | omega)) ?_
  exact ⟨_, rfl, rfl, w⟩
theorem c_M_write_no (l : Launch) (g : GG) (N0 : Nat → Prop) (h : Mp) {m : Nat} {ad : Nat → Nat} {iv : MI} {ar : MA} {n : Nat} (t key v : Int32) (hn : iv 3 = nI n) (hn2 : n ≤ 120) (ho : opn n (ar 3) t ≠ 0) (w : MW g m ad h iv ar) : Ct l y_M_write b_M_write 4 (some .int) 3 71 0 0 g N0 h [va_rf (some m), .int t, .int key, .int v] (pI (fun r h' => MW g m ad h' (iU iv 0 (opn n (ar 3) t)) ar)) nox := by
  refine Ct_of "SnapshotStoreModel" "write" [some (va_rf (some m)), some (.int t), some (.int key), some (.int v)] (by decide) rfl rfl (by simp [lg_sl, rf_cat, cat_i, cat_l]) (by simp [toL, lv_args, rf_cat, cat_i, cat_l]) (fun K hl X => ?_)
  refine al_0 X d_M_write_0 ?_
  refine il_1 X d_M_write_1 ?_
  refine cl_M_109 X (c_M_isOpen _ g N0 h t hn hn2 w) w.1 d_M_write_2 (by refine ⟨?_, ?_⟩ <;> first | decide | (dsimp only; first | done | omega)) (by first | decide | (simp only [List.map, rf_cat, cat_i, cat_l, List.sum_cons, List.sum_nil]; first | done | decide | omega)) ⟨(by first | omega | decide | (dsimp only; first | done | omega)), (by first | omega | decide | (dsimp only; first | done | omega))⟩ (fun _ _ z => z.elim) ?_
  rintro r h ⟨rfl, w⟩
  rw [decide_eq_false ho]
  refine V_if_eq (tgt := 19) X d_M_write_5 (by decide) (fun c_5 => ?_) (fun c_5 => ?_)
  · refine V_iconst (v := 0) X d_M_write_19 (by decide) ?_
    refine V_iret X rfl d_M_write_20 (by first | omega | decide | (dsimp only; first | done | omega)) (by first | omega | decide | (dsimp only; first | done | omega)) ?_
    exact ⟨_, rfl, w⟩
  · exact absurd rfl c_5
theorem c_M_write (l : Launch) (g : GG) (N0 : Nat → Prop) (h : Mp) {m : Nat} {ad : Nat → Nat} {iv : MI} {ar : MA} {n nv : Nat} {wc rc pc : Nat → Nat} {t : Nat} (key v : Int32) (b : MB iv ar n nv wc rc pc) (ht : t < n) (h0 : ar 3 t = 0) (hw : wc t + 1 < 600) (w : MW g m ad h iv ar) : Ct l y_M_write b_M_write 4 (some .int) 3 71 0 0 g N0 h [va_rf (some m), .int (nI t), .int key, .int v] (pI (fun r h' => r = nI (kOf (mPut ar t (wc t) key v 0) t (wc t + 1)) ∧ MW g m ad h' (iU iv 0 0) (mPut ar t (wc t) key v 0))) nox := by
  refine Ct_of "SnapshotStoreModel" "write" [some (va_rf (some m)), some (.int (nI t)), some (.int key), some (.int v)] (by decide) rfl rfl (by simp [lg_sl, rf_cat, cat_i, cat_l]) (by simp [toL, lv_args, rf_cat, cat_i, cat_l]) (fun K hl X => ?_)
  obtain ⟨b1, b2, b3, b4, b5, b6⟩ := b
  obtain ⟨⟨c1, c2⟩, -, -⟩ := b6 t ht
  refine al_0 X d_M_write_0 ?_
  refine il_1 X d_M_write_1 ?_
  refine cl_M_109 X (c_M_isOpen _ g N0 h (nI t) b1 b2 w) w.1 d_M_write_2 (by refine ⟨?_, ?_⟩ <;> first | decide | (dsimp only; first | done | omega)) (by first | decide | (simp only [List.map, rf_cat, cat_i, cat_l, List.sum_cons, List.sum_nil]; first | done | decide | omega)) ⟨(by first | omega | decide | (dsimp only; first | done | omega)), (by first | omega | decide | (dsimp only; first | done | omega))⟩ (fun _ _ z => z.elim) ?_
  rintro r h ⟨rfl, w⟩
  rw [opn_i b2 ht h0] at w ⊢
  refine V_if_eq (tgt := 19) X d_M_write_5 (by decide) (fun c_5 => ?_) (fun c_5 => ?_)
  · exact absurd c_5 (by decide)
  · refine al_0 X d_M_write_8 ?_
    refine il_1 X d_M_write_9 ?_
    refine il_2 X d_M_write_10 ?_
    refine il_3 X d_M_write_11 ?_
    refine V_iconst (v := 0) X d_M_write_12 (by decide) ?_
    refine cl_M_120 X (c_M_note _ g N0 h key v 0 (Or.inl rfl) (by omega) c1 hw w) w.1 d_M_write_13 (by refine ⟨?_, ?_⟩ <;> first | decide | (dsimp only; first | done | omega)) (by first | decide | (simp only [List.map, rf_cat, cat_i, cat_l, List.sum_cons, List.sum_nil]; first | done | decide | omega)) ⟨(by first | omega | decide | (dsimp only; first | done | omega)), (by first | omega | decide | (dsimp only; first | done | omega))⟩ (fun _ _ z => z.elim) ?_
    rintro r h ⟨rfl, w⟩
    refine V_goto (tgt := 20) X d_M_write_16 (by decide) ?_
    refine V_iret X rfl d_M_write_20 (by first | omega | decide | (dsimp only; first | done | omega)) (by first | omega | decide | (dsimp only; first | done | omega)) ?_
    exact ⟨_, rfl, rfl, w⟩
theorem c_M_erase_no (l : Launch) (g : GG) (N0 : Nat → Prop) (h : Mp) {m : Nat} {ad : Nat → Nat} {iv : MI} {ar : MA} {n : Nat} (t key : Int32) (hn : iv 3 = nI n) (hn2 : n ≤ 120) (ho : opn n (ar 3) t ≠ 0) (w : MW g m ad h iv ar) : Ct l y_M_erase b_M_erase 3 (some .int) 3 71 0 0 g N0 h [va_rf (some m), .int t, .int key] (pI (fun r h' => MW g m ad h' (iU iv 0 (opn n (ar 3) t)) ar)) nox := by
  refine Ct_of "SnapshotStoreModel" "erase" [some (va_rf (some m)), some (.int t), some (.int key)] (by decide) rfl rfl (by simp [lg_sl, rf_cat, cat_i, cat_l]) (by simp [toL, lv_args, rf_cat, cat_i, cat_l]) (fun K hl X => ?_)
  refine al_0 X d_M_erase_0 ?_
  refine il_1 X d_M_erase_1 ?_
  refine cl_M_109 X (c_M_isOpen _ g N0 h t hn hn2 w) w.1 d_M_erase_2 (by refine ⟨?_, ?_⟩ <;> first | decide | (dsimp only; first | done | omega)) (by first | decide | (simp only [List.map, rf_cat, cat_i, cat_l, List.sum_cons, List.sum_nil]; first | done | decide | omega)) ⟨(by first | omega | decide | (dsimp only; first | done | omega)), (by first | omega | decide | (dsimp only; first | done | omega))⟩ (fun _ _ z => z.elim) ?_
  rintro r h ⟨rfl, w⟩
  rw [decide_eq_false ho]
  refine V_if_eq (tgt := 19) X d_M_erase_5 (by decide) (fun c_5 => ?_) (fun c_5 => ?_)
  · refine V_iconst (v := 0) X d_M_erase_19 (by decide) ?_
    refine V_iret X rfl d_M_erase_20 (by first | omega | decide | (dsimp only; first | done | omega)) (by first | omega | decide | (dsimp only; first | done | omega)) ?_
    exact ⟨_, rfl, w⟩
  · exact absurd rfl c_5
theorem c_M_erase (l : Launch) (g : GG) (N0 : Nat → Prop) (h : Mp) {m : Nat} {ad : Nat → Nat} {iv : MI} {ar : MA} {n nv : Nat} {wc rc pc : Nat → Nat} {t : Nat} (key : Int32) (b : MB iv ar n nv wc rc pc) (ht : t < n) (h0 : ar 3 t = 0) (hw : wc t + 1 < 600) (w : MW g m ad h iv ar) : Ct l y_M_erase b_M_erase 3 (some .int) 3 71 0 0 g N0 h [va_rf (some m), .int (nI t), .int key] (pI (fun r h' => r = nI (kOf (mPut ar t (wc t) key 0 1) t (wc t + 1)) ∧ MW g m ad h' (iU iv 0 0) (mPut ar t (wc t) key 0 1))) nox := by
  refine Ct_of "SnapshotStoreModel" "erase" [some (va_rf (some m)), some (.int (nI t)), some (.int key)] (by decide) rfl rfl (by simp [lg_sl, rf_cat, cat_i, cat_l]) (by simp [toL, lv_args, rf_cat, cat_i, cat_l]) (fun K hl X => ?_)
  obtain ⟨b1, b2, b3, b4, b5, b6⟩ := b
  obtain ⟨⟨c1, c2⟩, -, -⟩ := b6 t ht
  refine al_0 X d_M_erase_0 ?_
  refine il_1 X d_M_erase_1 ?_
  refine cl_M_109 X (c_M_isOpen _ g N0 h (nI t) b1 b2 w) w.1 d_M_erase_2 (by refine ⟨?_, ?_⟩ <;> first | decide | (dsimp only; first | done | omega)) (by first | decide | (simp only [List.map, rf_cat, cat_i, cat_l, List.sum_cons, List.sum_nil]; first | done | decide | omega)) ⟨(by first | omega | decide | (dsimp only; first | done | omega)), (by first | omega | decide | (dsimp only; first | done | omega))⟩ (fun _ _ z => z.elim) ?_
  rintro r h ⟨rfl, w⟩
  rw [opn_i b2 ht h0] at w ⊢
  refine V_if_eq (tgt := 19) X d_M_erase_5 (by decide) (fun c_5 => ?_) (fun c_5 => ?_)
  · exact absurd c_5 (by decide)
  · refine al_0 X d_M_erase_8 ?_
    refine il_1 X d_M_erase_9 ?_
    refine il_2 X d_M_erase_10 ?_
    refine V_iconst (v := 0) X d_M_erase_11 (by decide) ?_
    refine V_iconst (v := 1) X d_M_erase_12 (by decide) ?_
    refine cl_M_120 X (c_M_note _ g N0 h key 0 1 (Or.inr rfl) (by omega) c1 hw w) w.1 d_M_erase_13 (by refine ⟨?_, ?_⟩ <;> first | decide | (dsimp only; first | done | omega)) (by first | decide | (simp only [List.map, rf_cat, cat_i, cat_l, List.sum_cons, List.sum_nil]; first | done | decide | omega)) ⟨(by first | omega | decide | (dsimp only; first | done | omega)), (by first | omega | decide | (dsimp only; first | done | omega))⟩ (fun _ _ z => z.elim) ?_
    rintro r h ⟨rfl, w⟩
    refine V_goto (tgt := 20) X d_M_erase_16 (by decide) ?_
    refine V_iret X rfl d_M_erase_20 (by first | omega | decide | (dsimp only; first | done | omega)) (by first | omega | decide | (dsimp only; first | done | omega)) ?_
    exact ⟨_, rfl, rfl, w⟩
-- end, abort
def mEnd (ar : MA) (t : Nat) (st : Int32) : MA := aU (aU ar 3 (upd (ar 3) t st)) 9 (upd (ar 9) t 0)
theorem c_M_end (l : Launch) (g : GG) (N0 : Nat → Prop) (h : Mp) {m : Nat} {ad : Nat → Nat} {iv : MI} {ar : MA} {t c : Nat} (st : Int32) (ht : t < 120) (hc : ar 5 t = nI c) (hc2 : c < 600) (w : MW g m ad h iv ar) : Ct l y_M_end b_M_end 3 (some .int) 2 47 0 0 g N0 h [va_rf (some m), .int (nI t), .int st] (pI (fun r h' => r = nI (kOf ar t c) ∧ MW g m ad h' iv (mEnd ar t st))) nox := by
  refine Ct_of "SnapshotStoreModel" "end" [some (va_rf (some m)), some (.int (nI t)), some (.int st)] (by decide) rfl rfl (by simp [lg_sl, rf_cat, cat_i, cat_l]) (by simp [toL, lv_args, rf_cat, cat_i, cat_l]) (fun K hl X => ?_)
  refine al_0 X d_M_end_0 ?_
  refine gm_20 X w d_M_end_1 ?_
  refine il_1 X d_M_end_4 ?_
  refine il_2 X d_M_end_5 ?_
  refine sm_i X w (k := 3) (by decide) rfl (show _ < 120 by omega) (by decide) d_M_end_6 (fun h w => ?_)
  refine al_0 X d_M_end_7 ?_
  refine gm_39 X w d_M_end_8 ?_
  refine il_1 X d_M_end_11 ?_
  refine V_iconst (v := 0) X d_M_end_12 (by decide) ?_
  refine sm_i X w (k := 9) (by decide) rfl (show _ < 120 by omega) (by decide) d_M_end_13 (fun h w => ?_)
  refine al_0 X d_M_end_14 ?_
  refine il_1 X d_M_end_15 ?_
  try simp (decide := true) only [aU_s, aU_n, iU_s, iU_n] at w
  refine cl_M_116 X (c_M_keysOf _ g N0 h ht (by rw [aU_n _ _ (by decide), aU_n _ _ (by decide)]; exact hc) hc2 w) w.1 d_M_end_16 (by refine ⟨?_, ?_⟩ <;> first | decide | (dsimp only; first | done | omega)) (by first | decide | (simp only [List.map, rf_cat, cat_i, cat_l, List.sum_cons, List.sum_nil]; first | done | decide | omega)) ⟨(by first | omega | decide | (dsimp only; first | done | omega)), (by first | omega | decide | (dsimp only; first | done | omega))⟩ (fun _ _ z => z.elim) ?_
  rintro r h ⟨rfl, rfl⟩
  refine V_iret X rfl d_M_end_19 (by first | omega | decide | (dsimp only; first | done | omega)) (by first | omega | decide | (dsimp only; first | done | omega)) ?_
  exact ⟨_, rfl, rfl, w⟩
theorem c_M_abort_no (l : Launch) (g : GG) (N0 : Nat → Prop) (h : Mp) {m : Nat} {ad : Nat → Nat} {iv : MI} {ar : MA} {n : Nat} (t : Int32) (hn : iv 3 = nI n) (hn2 : n ≤ 120) (ho : opn n (ar 3) t ≠ 0) (w : MW g m ad h iv ar) : Ct l y_M_abort b_M_abort 2 (some .int) 3 69 0 0 g N0 h [va_rf (some m), .int t] (pI (fun r h' => MW g m ad h' (iU iv 0 (opn n (ar 3) t)) ar)) nox := by
  refine Ct_of "SnapshotStoreModel" "abort" [some (va_rf (some m)), some (.int t)] (by decide) rfl rfl (by simp [lg_sl, rf_cat, cat_i, cat_l]) (by simp [toL, lv_args, rf_cat, cat_i, cat_l]) (fun K hl X => ?_)
  refine al_0 X d_M_abort_0 ?_
  refine il_1 X d_M_abort_1 ?_
  refine cl_M_109 X (c_M_isOpen _ g N0 h t hn hn2 w) w.1 d_M_abort_2 (by refine ⟨?_, ?_⟩ <;> first | decide | (dsimp only; first | done | omega)) (by first | decide | (simp only [List.map, rf_cat, cat_i, cat_l, List.sum_cons, List.sum_nil]; first | done | decide | omega)) ⟨(by first | omega | decide | (dsimp only; first | done | omega)), (by first | omega | decide | (dsimp only; first | done | omega))⟩ (fun _ _ z => z.elim) ?_
  rintro r h ⟨rfl, w⟩
  rw [decide_eq_false ho]
  refine V_if_eq (tgt := 17) X d_M_abort_5 (by decide) (fun c_5 => ?_) (fun c_5 => ?_)
  · refine V_iconst (v := 0) X d_M_abort_17 (by decide) ?_
    refine V_iret X rfl d_M_abort_18 (by first | omega | decide | (dsimp only; first | done | omega)) (by first | omega | decide | (dsimp only; first | done | omega)) ?_
    exact ⟨_, rfl, w⟩
  · exact absurd rfl c_5
theorem c_M_abort (l : Launch) (g : GG) (N0 : Nat → Prop) (h : Mp) {m : Nat} {ad : Nat → Nat} {iv : MI} {ar : MA} {n nv : Nat} {wc rc pc : Nat → Nat} {t : Nat} (b : MB iv ar n nv wc rc pc) (ht : t < n) (h0 : ar 3 t = 0) (w : MW g m ad h iv ar) : Ct l y_M_abort b_M_abort 2 (some .int) 3 69 0 0 g N0 h [va_rf (some m), .int (nI t)] (pI (fun r h' => r = nI (kOf ar t (wc t)) ∧ MW g m ad h' (iU iv 0 0) (mEnd ar t 2))) nox := by
  refine Ct_of "SnapshotStoreModel" "abort" [some (va_rf (some m)), some (.int (nI t))] (by decide) rfl rfl (by simp [lg_sl, rf_cat, cat_i, cat_l]) (by simp [toL, lv_args, rf_cat, cat_i, cat_l]) (fun K hl X => ?_)
  obtain ⟨b1, b2, b3, b4, b5, b6⟩ := b
  obtain ⟨⟨c1, c2⟩, -, -⟩ := b6 t ht
  refine al_0 X d_M_abort_0 ?_
  refine il_1 X d_M_abort_1 ?_
  refine cl_M_109 X (c_M_isOpen _ g N0 h (nI t) b1 b2 w) w.1 d_M_abort_2 (by refine ⟨?_, ?_⟩ <;> first | decide | (dsimp only; first | done | omega)) (by first | decide | (simp only [List.map, rf_cat, cat_i, cat_l, List.sum_cons, List.sum_nil]; first | done | decide | omega)) ⟨(by first | omega | decide | (dsimp only; first | done | omega)), (by first | omega | decide | (dsimp only; first | done | omega))⟩ (fun _ _ z => z.elim) ?_
  rintro r h ⟨rfl, w⟩
  rw [opn_i b2 ht h0] at w ⊢
  refine V_if_eq (tgt := 17) X d_M_abort_5 (by decide) (fun c_5 => ?_) (fun c_5 => ?_)
  · exact absurd c_5 (by decide)
  · refine al_0 X d_M_abort_8 ?_
    refine il_1 X d_M_abort_9 ?_
    refine V_iconst (v := 2) X d_M_abort_10 (by decide) ?_
    refine cl_M_142 X (c_M_end _ g N0 h 2 (by omega) c1 c2 w) w.1 d_M_abort_11 (by refine ⟨?_, ?_⟩ <;> first | decide | (dsimp only; first | done | omega)) (by first | decide | (simp only [List.map, rf_cat, cat_i, cat_l, List.sum_cons, List.sum_nil]; first | done | decide | omega)) ⟨(by first | omega | decide | (dsimp only; first | done | omega)), (by first | omega | decide | (dsimp only; first | done | omega))⟩ (fun _ _ z => z.elim) ?_
    rintro r h ⟨rfl, w⟩
    refine V_goto (tgt := 18) X d_M_abort_14 (by decide) ?_
    refine V_iret X rfl d_M_abort_18 (by first | omega | decide | (dsimp only; first | done | omega)) (by first | omega | decide | (dsimp only; first | done | omega)) ?_
    exact ⟨_, rfl, rfl, w⟩
